/-! the makings leave the world of the first state -/
def G0 (K : CC) (h g : Nat) (u v : Nat → Nat) (a c : Nat) : GG := (K.1, fun k => ([h, u 0, u 4, u 6, u 8, u 11, u 19, u 25, u 28, u 37, u 1, u 2, u 3, u 5, u 7, u 9, u 10, u 12, u 13, u 14, u 15, u 16, u 17, u 18, u 20, u 21, u 22, u 23, u 24, u 26, u 27, u 29, u 30, u 31, u 32, u 33, u 34, u 35, u 36, u 38, g, v 0, v 1, v 2, v 3, v 4, v 5, v 6, v 7, v 8, v 9, v 10, v 11, v 12, v 13, v 14, v 15, v 16, v 17, v 18, v 19, v 20, v 21, v 22, v 23, v 24, v 25, v 26, v 27, v 28] : List Nat).getD k 0, K.2, a, c)
def isP : List Nat := [0, 1, 5, 7, 9, 12, 20, 26, 29, 38, 2, 3, 4, 6, 8, 10, 11, 13, 14, 15, 16, 17, 18, 19, 21, 22, 23, 24, 25, 27, 28, 30, 31, 32, 33, 34, 35, 36, 37, 39, 40, 41, 42, 43, 44, 45, 46, 47, 48, 49, 50, 51, 52, 53, 54, 55, 56, 57, 58, 59, 60, 61, 62, 63, 64, 65, 66, 67, 68, 69]
theorem rw5_t (K : CC) (h g : Nat) (u v : Nat → Nat) (a c : Nat) : rw5 (u 13) (u 14) (u 15) (u 16) (u 17) = rwCo_told (G0 K h g u v a c) := by
  funext i
  by_cases hi : i < 5
  · have e : i = 0 ∨ i = 1 ∨ i = 2 ∨ i = 3 ∨ i = 4 := by omega
    rcases e with rfl | rfl | rfl | rfl | rfl <;> rfl
  · show (if i < 5 then _ else none) = (if i < 5 then _ else none)
    rw [if_neg hi, if_neg hi]
theorem perm_P (K : CC) (h g : Nat) (u v : Nat → Nat) (a c : Nat) : isP.filterMap (fun i => (woTL K h u ++ woMM K g v)[i]?) = wld (G0 K h g u v a c) S0 := by
  unfold wld
  rw [← rw5_t]
  rfl
theorem perm_D (K : CC) (h g : Nat) (u v : Nat → Nat) (a c : Nat) : isP.map (fun i => (woTL K h u ++ woMM K g v)[i]?) = (wld (G0 K h g u v a c) S0).map some := by
  unfold wld
  rw [← rw5_t]
  rfl
theorem perm_n : va_nd isP = true := by decide
