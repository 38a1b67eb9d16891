/-! the law: what is known at its start -/
theorem known {args : Array Value} {s : State} (hts : ∀ w ∈ gw, w.before args s = true) (c4 : ClassId) (h4 : ArrOfT s c4 (.array .int) ∧ va_RA s c4 (.array .int)) : ∃ K : CC, K.2 4 = c4 ∧ va_K K.1 cls (tyc K) s := by
  obtain ⟨cAc, iAc, kAc⟩ := u_known (n := 5) hts iwAc (hts _ (mg (i := 180) (by decide +kernel) rfl))
  obtain ⟨cCo, iCo, kCo⟩ := u_known (n := 3) hts iwCo (hts _ (mg (i := 161) (by decide +kernel) rfl))
  obtain ⟨cLi, iLi, kLi⟩ := u_known (n := 13) hts iwLi (hts _ (mg (i := 115) (by decide +kernel) rfl))
  obtain ⟨cMa, iMa, kMa⟩ := u_known (n := 13) hts iwMa (hts _ (mg (i := 225) (by decide +kernel) rfl))
  obtain ⟨cPo, iPo, kPo⟩ := u_known (n := 2) hts iwPo (hts _ (mg (i := 85) (by decide +kernel) rfl))
  obtain ⟨cRo, iRo, kRo⟩ := u_known (n := 3) hts iwRo (hts _ (mg (i := 68) (by decide +kernel) rfl))
  obtain ⟨cSe, iSe, kSe⟩ := u_known (n := 5) hts iwSe (hts _ (mg (i := 203) (by decide +kernel) rfl))
  obtain ⟨cSh, iSh, kSh⟩ := u_known (n := 1) hts iwSh (hts _ (mg (i := 271) (by decide +kernel) rfl))
  obtain ⟨cTa, iTa, kTa⟩ := u_known (n := 2) hts iwTa (hts _ (mg (i := 101) (by decide +kernel) rfl))
  obtain ⟨cTL, iTL, kTL⟩ := u_known (n := 10) hts iwTL (hts _ (mg (i := 60) (by decide +kernel) rfl))
  obtain ⟨cMM, iMM, kMM⟩ := u_known (n := 50) hts iwMM (hts _ (mg (i := 792) (by decide +kernel) rfl))
  obtain ⟨a0, ka0, co0, fa0, ha0, hk0⟩ := Cond.arrayClass_spec (type := .int) (hts _ (mg (i := 83) (by decide +kernel) rfl))
  obtain ⟨a1, ka1, co1, fa1, ha1, hk1⟩ := Cond.arrayClass_spec (type := .byte) (hts _ (mg (i := 113) (by decide +kernel) rfl))
  obtain ⟨a2, ka2, co2, fa2, ha2, hk2⟩ := Cond.arrayClass_spec (type := .long) (hts _ (mg (i := 201) (by decide +kernel) rfl))
  obtain ⟨a3, ka3, co3, fa3, ha3, hk3⟩ := Cond.arrayClass_spec (type := .boolean) (hts _ (mg (i := 948) (by decide +kernel) rfl))
  refine ⟨((fun c => ([cAc, cCo, cLi, cMa, cPo, cRo, cSe, cSh, cTa, cTL, cMM] : List ClassId).getD c cAc, fun c => ([iAc, iCo, iLi, iMa, iPo, iRo, iSe, iSh, iTa, iTL, iMM] : List (Nat → Nat)).getD c iAc), fun t => ([a0, a1, a2, a3, c4] : List ClassId).getD t c4), rfl, ?_, ?_⟩
  · intro c q hq
    have hc : c = 0 ∨ c = 1 ∨ c = 2 ∨ c = 3 ∨ c = 4 ∨ c = 5 ∨ c = 6 ∨ c = 7 ∨ c = 8 ∨ c = 9 ∨ c = 10 ∨ 11 ≤ c := by omega
    rcases hc with rfl | rfl | rfl | rfl | rfl | rfl | rfl | rfl | rfl | rfl | rfl | hc
    · cases hq; exact kAc
    · cases hq; exact kCo
    · cases hq; exact kLi
    · cases hq; exact kMa
    · cases hq; exact kPo
    · cases hq; exact kRo
    · cases hq; exact kSe
    · cases hq; exact kSh
    · cases hq; exact kTa
    · cases hq; exact kTL
    · cases hq; exact kMM
    · rw [List.getElem?_eq_none (show cls.length ≤ c from hc)] at hq; cases hq
  · intro c q hq
    have hc : c = 0 ∨ c = 1 ∨ c = 2 ∨ c = 3 ∨ c = 4 ∨ 5 ≤ c := by omega
    rcases hc with rfl | rfl | rfl | rfl | rfl | hc
    · cases hq; exact ⟨fun n z => ⟨fun k h => (by cases h), ka0, ha0, co0, hk0⟩, fa0⟩
    · cases hq; exact ⟨fun n z => ⟨fun k h => (by cases h), ka1, ha1, co1, hk1⟩, fa1⟩
    · cases hq; exact ⟨fun n z => ⟨fun k h => (by cases h), ka2, ha2, co2, hk2⟩, fa2⟩
    · cases hq; exact ⟨fun n z => ⟨fun k h => (by cases h), ka3, ha3, co3, hk3⟩, fa3⟩
    · cases hq; exact h4
    · rw [List.getElem?_eq_none (show (5 : Nat) ≤ c from hc)] at hq; cases hq
