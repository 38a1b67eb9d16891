/-! the law: the word town, the JDK's statics -/
theorem sf0 {b : Nat} {s : State} (hts : ∀ w ∈ gw, w.before #[Value.ref b] s = true) (hg : (Jvm.Cond.and given_1 narrow_1).before #[Value.ref b] s = true) (A : Nat → Prop) (hA : ∀ a, a < s.heap.size → ¬ A a) : ∃ x y : Nat, vk_S 1 [4] [[116, 111, 119, 110]] (fun _ => x) (fun _ => y) A s s.heap ∧ (Term.string "TributeLists$ListReader" 89).eval #[Value.ref b] s none [] s = some (.ref x) := by
  have hf := flat_of_before _ hg
  obtain ⟨adK, adV, h1, h2⟩ := vk_Sof (args := #[Value.ref b]) (s := s) (N := 1) (tm := fun _ => Term.string "TributeLists$ListReader" 89) (len := [4]) (byt := [[116, 111, 119, 110]]) (A := A)
    (fun i hi => by have e : i = 0 := by omega
                    subst e; decide)
    (fun i hi => hf _ (by decide +kernel)) (fun i hi => hf _ (by decide +kernel)) (fun i hi => hf _ (by decide +kernel))
    (fun i hi => by have e : i = 0 := by omega
                    subst e; exact hf _ (by decide +kernel))
    (fun i hi j hj => by
      have e : i = 0 := by omega
      subst e
      have hj : j < 4 := hj
      have e : j = 0 ∨ j = 1 ∨ j = 2 ∨ j = 3 := by omega
      rcases e with rfl | rfl | rfl | rfl <;> exact hf _ (by decide +kernel))
    (fun i j hi hj hne => by omega) hA
  refine ⟨adK 0, adV 0, ?_, h2 0 (by decide)⟩
  obtain ⟨g1, g2⟩ := h1
  refine ⟨fun i hi => ?_, fun i j hi hj hne => by omega⟩
  have e : i = 0 := by omega
  subst e
  exact g1 0 (by decide)
