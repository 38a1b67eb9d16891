/-! the first state -/
def S0 : ST := (((((((0, (fun _ => 0)), ((fun _ => 0), (fun _ => 0))), (((filI 6 10 (fun _ => 0)), (23)), (fun _ => 0))), ((((0), (fun _ => 0)), (fun _ => 0)), (((0), (0)), (0)))), (((((0), (0)), (0)), (((0), (0)), (0))), ((((0), (-1)), (fun _ => filI 96 (-1) (fun _ => 0))), (((fun _ => 0), (0)), (fun _ => 0))))), ((((((fun _ => 0), (fun _ => 0)), (fun _ => 0)), (((fun _ => 0), (fun _ => 0)), (fun _ => 0))), ((((0), (0)), (0)), (((fun _ => 0), (fun _ => 0)), (fun _ => 0)))), (((((fun _ => 0), (0)), (fun _ => 0)), (((fun _ => 0), (fun _ => 0)), (0))), ((((0), (0)), (fun _ => 0)), (((0), (fun _ => 0)), (0)))))), (((((((0), (fun _ => 0)), ((fun _ => 0), (upd (upd (upd (upd (upd (upd (fun _ => 0) 0 10) 1 10) 2 10) 3 10) 4 10) 5 10))), (((23), (filI 576 (-1) (fun _ => 0))), (fun _ => 0))), ((((0), (fun _ => 0)), (fun _ => 0)), (((fun _ => 0), (fun _ => 0)), (0)))), (((((fun _ => 0), (fun _ => 0)), (fun _ => 0)), (((fun _ => 0), (fun _ => 0)), (fun _ => 0))), ((((fun _ => 0), (fun _ => 0)), (0)), (((fun _ => 0), (0)), (fun _ => 0))))), ((((((0), (-1)), (-1)), (((0), (0)), (0))), ((((0), (0)), (0)), (((0), (0)), (fun _ => 0)))), (((((fun _ => 0), (fun _ => 0)), (fun _ => 0)), (((fun _ => 0), (fun _ => 0)), (fun _ => 0))), ((((0), (0)), (fun _ => 0)), (((0), (fun _ => 0)), (fun _ => 0)))))))
theorem rel0 : Rel S0 := by
  refine ⟨⟨rfl, fun k _ => ⟨0, by omega, rfl⟩⟩, ⟨?_, rfl, fun k hk => ⟨10, by omega, by omega, ?_⟩, 23, by omega, by omega, rfl⟩, ⟨fun i _ => by show (0 : Int32) &&& 255 = 0; decide, 0, by omega, rfl, rfl⟩, Or.inl ⟨rfl, ?_, rfl⟩, fun c s hc hs => ?_, ⟨rfl, rfl⟩, ⟨0, 0, 0, rfl, rfl, rfl, by omega, ?_, ?_⟩, ⟨rfl, rfl, rfl, rfl, 0, by omega, rfl, rfl, fun k hk => absurd hk (Nat.not_lt_zero _)⟩, ⟨0, by omega, rfl, rfl, fun k hk => absurd hk (Nat.not_lt_zero _)⟩, ⟨rfl, fun k _ => ⟨0, by omega, rfl⟩⟩⟩
  · funext k
    by_cases hk : k < 6
    · have e : k = 0 ∨ k = 1 ∨ k = 2 ∨ k = 3 ∨ k = 4 ∨ k = 5 := by omega
      rcases e with rfl | rfl | rfl | rfl | rfl | rfl <;> rfl
    · show (if k < 6 then (10 : Int32) else 0) = (if k = 5 then 10 else if k = 4 then 10 else if k = 3 then 10 else if k = 2 then 10 else if k = 1 then 10 else if k = 0 then 10 else 0)
      rw [if_neg hk, if_neg (by omega), if_neg (by omega), if_neg (by omega), if_neg (by omega), if_neg (by omega), if_neg (by omega)]
  · have e : k = 0 ∨ k = 1 ∨ k = 2 ∨ k = 3 ∨ k = 4 ∨ k = 5 := by omega
    rcases e with rfl | rfl | rfl | rfl | rfl | rfl <;> rfl
  · rfl
  · have e : 480 ≤ 576 := by omega
    have h1 : gCo_told S0 c s = -1 := if_pos hs
    have h2 : gMM_told S0 (96 * c + s) = -1 := if_pos (by omega)
    rw [h1, h2]
    exact ⟨rfl, Or.inl rfl⟩
  · exact ⟨fun _ _ => 0, fun _ => 0, fun s q _ _ => ⟨rfl, rfl, Nat.zero_le _⟩, fun _ _ _ _ _ => rfl, fun s _ => ⟨rfl, rfl, rfl, Nat.zero_le _, rfl⟩, fun _ _ => rfl⟩
  · exact ⟨fun _ => 0, fun _ => 0, fun _ => 0, fun _ => 0, by omega, by omega, rfl, rfl, rfl, rfl, fun k _ => ⟨rfl, rfl, rfl, rfl, rfl, rfl, rfl, rfl, Or.inl rfl⟩, fun k hk => absurd hk (Nat.not_lt_zero _), fun k _ _ => rfl, fun j hj => absurd hj (Nat.not_lt_zero _), rfl, rfl, rfl⟩
