/-! reading: tokens -/
def TB (b t : Nat → Int32) (n : Nat) (ch : Nat → Nat) : Prop := n ≤ 300 ∧ ∀ i, i < 300 → ch i < 256 ∧ b i &&& 255 = nI (ch i) ∧ t i = nI (ch i)
theorem TB_of {b t : Nat → Int32} (h : RBy b t) {n : Nat} (hn : n ≤ 300) : ∃ ch, TB b t n ch := by
  refine ⟨fun i => (t i).toNatClampNeg, hn, fun i hi => ?_⟩
  obtain ⟨j, hj, e⟩ := pk_andE (b i) (m := 255) 8 (by decide)
  dsimp only
  rw [← h i hi, e, nI_clamp (by omega)]
  exact ⟨hj, rfl, rfl⟩
theorem at_n {b t : Nat → Int32} {n : Nat} {ch : Nat → Nat} (h : TB b t n ch) {i : Nat} (hi : i < 300) : fTa_at (nI i) b = some (nI (ch i)) := by
  unfold fTa_at
  rw [gdn hi (by decide), nI_clamp (by omega), (h.2 i hi).2.1]
theorem see_n {b t : Nat → Int32} {n : Nat} {ch : Nat → Nat} (h : TB b t n ch) {i : Nat} (hi : i < n) : fMM_see (nI i) t (nI n) = some (nI (ch i)) := by
  have := h.1
  unfold fMM_see
  rw [if_neg (fun qq : nI (n) ≤ nI (i) => absurd ((nI_leI (a := (n)) (b := (i)) (by omega) (by omega)).mp qq) (by omega)), gdn (by omega) (by decide), nI_clamp (by omega), (h.2 i (by omega)).2.2]
theorem see_e {t : Nat → Int32} {n : Nat} : fMM_see (nI n) t (nI n) = some (-1) := by
  unfold fMM_see
  rw [if_pos (Int32.le_refl _)]
theorem blank_c (c : Nat) (hc : c < 256) : fLi_isBlank (nI c) = if c = 32 ∨ c = 10 then 1 else 0 := by
  unfold fLi_isBlank
  by_cases h1 : c = 32
  · rw [if_pos (show nI (c) = (32 : Int32) from (nI_eq (a := (c)) (b := 32) (by omega) (by omega)).mpr (by omega)), if_pos (Or.inl h1)]
  · rw [if_neg (fun qq : nI (c) = (32 : Int32) => absurd ((nI_eq (a := (c)) (b := 32) (by omega) (by omega)).mp qq) (by omega))]
    by_cases h2 : c = 10
    · rw [if_pos (show nI (c) = (10 : Int32) from (nI_eq (a := (c)) (b := 10) (by omega) (by omega)).mpr (by omega)), if_pos (Or.inr h2)]
    · rw [if_neg (fun qq : nI (c) = (10 : Int32) => absurd ((nI_eq (a := (c)) (b := 10) (by omega) (by omega)).mp qq) (by omega)), if_neg (by omega)]
theorem skip_pair {b t : Nat → Int32} {n : Nat} {ch : Nat → Nat} (h : TB b t n ch) : ∀ (q i f f' : Nat), i + q = n → q < f → q < f' → ∃ p, i ≤ p ∧ p ≤ n ∧ fLi_nextToken_l0 b (nI n) f (nI i) = some (nI p) ∧ fMM_nextToken_l0 t (nI n) f' (nI i) = some (nI p) := by
  have hn := h.1
  intro q
  induction q with
  | zero =>
    intro i f f' hi hf hf'
    obtain ⟨f, rfl⟩ : ∃ k, f = k + 1 := ⟨f - 1, by omega⟩
    obtain ⟨f', rfl⟩ : ∃ k, f' = k + 1 := ⟨f' - 1, by omega⟩
    have hi : i = n := by omega
    subst hi
    refine ⟨i, Nat.le_refl _, Nat.le_refl _, ?_, ?_⟩
    · rw [fLi_nextToken_l0.eq_2]
      unfold fTa_size
      rw [if_pos (Int32.le_refl _)]
    · rw [fMM_nextToken_l0.eq_2, see_e, obs, if_neg (by decide), obs, if_neg (by decide)]
  | succ q ih =>
    intro i f f' hi hf hf'
    obtain ⟨f, rfl⟩ : ∃ k, f = k + 1 := ⟨f - 1, by omega⟩
    obtain ⟨f', rfl⟩ : ∃ k, f' = k + 1 := ⟨f' - 1, by omega⟩
    have hc := (h.2 i (by omega)).1
    rw [fLi_nextToken_l0.eq_2, fMM_nextToken_l0.eq_2, see_n h (by omega), at_n h (by omega), obs, obs, blank_c _ hc]
    unfold fTa_size
    rw [if_neg (fun qq : nI (n) ≤ nI (i) => absurd ((nI_leI (a := (n)) (b := (i)) (by omega) (by omega)).mp qq) (by omega)), nI_1 i]
    by_cases h1 : ch i = 32
    · rw [if_pos (show ch i = 32 ∨ ch i = 10 from Or.inl h1), if_neg n10, if_pos (show nI (ch i) = (32 : Int32) from (nI_eq (a := (ch i)) (b := 32) (by omega) (by omega)).mpr (by omega))]
      obtain ⟨p, p1, p2, p3, p4⟩ := ih (i + 1) f f' (by omega) (by omega) (by omega)
      exact ⟨p, by omega, p2, p3, p4⟩
    · rw [if_neg (fun qq : nI (ch i) = (32 : Int32) => absurd ((nI_eq (a := (ch i)) (b := 32) (by omega) (by omega)).mp qq) (by omega)), obs]
      by_cases h2 : ch i = 10
      · rw [if_pos (show ch i = 32 ∨ ch i = 10 from Or.inr h2), if_neg n10, if_pos (show nI (ch i) = (10 : Int32) from (nI_eq (a := (ch i)) (b := 10) (by omega) (by omega)).mpr (by omega))]
        obtain ⟨p, p1, p2, p3, p4⟩ := ih (i + 1) f f' (by omega) (by omega) (by omega)
        exact ⟨p, by omega, p2, p3, p4⟩
      · rw [if_neg (show ¬ (ch i = 32 ∨ ch i = 10) by omega), if_pos rfl, if_neg (fun qq : nI (ch i) = (10 : Int32) => absurd ((nI_eq (a := (ch i)) (b := 10) (by omega) (by omega)).mp qq) (by omega))]
        exact ⟨i, Nat.le_refl _, by omega, rfl, rfl⟩
/-- the word town -/
def wd (k : Nat) : Nat := if k = 0 then 116 else if k = 1 then 111 else if k = 2 then 119 else 110
theorem wd_t : ∀ k, k < 4 → town (nI k) = nI (wd k) := by decide
def OKw (ch : Nat → Nat) (s i : Nat) : Prop := i ≤ s + 4 ∧ ∀ k, s ≤ k → k < i → ch k = wd (k - s)
theorem OKw_s {ch : Nat → Nat} {s i : Nat} (hs : s ≤ i) : OKw ch s (i + 1) ↔ OKw ch s i ∧ i < s + 4 ∧ ch i = wd (i - s) := by
  constructor
  · rintro ⟨h1, h2⟩
    exact ⟨⟨by omega, fun k a b => h2 k a (by omega)⟩, by omega, h2 i hs (by omega)⟩
  · rintro ⟨⟨h1, h2⟩, h3, h4⟩
    refine ⟨by omega, fun k a b => ?_⟩
    by_cases e : k = i
    · rw [e]; exact h4
    · exact h2 k a (by omega)
theorem letters_pair {b t : Nat → Int32} {n : Nat} {ch : Nat → Nat} (h : TB b t n ch) {s : Nat} {a1 : Int32} : ∀ (q i f f' : Nat) (fl : Int32), i + q = n → s ≤ i → q < f → q < f' → ((fl = 1 ∧ OKw ch s i) ∨ (fl = 0 ∧ ¬ OKw ch s i)) → ∃ e fl', i ≤ e ∧ e ≤ n ∧ (i < n → ¬ fMM_isLetter (nI (ch i)) = 0 → i < e) ∧ fLi_takeLetters_l2 b (nI n) (nI s) f fl (nI i) = some (fl', nI e) ∧ fMM_nextToken_l151 a1 t (nI n) f' (nI i) = some (nI e) ∧ ((fl' = 1 ∧ OKw ch s e) ∨ (fl' = 0 ∧ ¬ OKw ch s e)) := by
  have hn := h.1
  intro q
  induction q with
  | zero =>
    intro i f f' fl hi hs hf hf' hfl
    obtain ⟨f, rfl⟩ : ∃ k, f = k + 1 := ⟨f - 1, by omega⟩
    obtain ⟨f', rfl⟩ : ∃ k, f' = k + 1 := ⟨f' - 1, by omega⟩
    have hi : i = n := by omega
    subst hi
    refine ⟨i, fl, Nat.le_refl _, Nat.le_refl _, fun z => by omega, ?_, ?_, hfl⟩
    · rw [fLi_takeLetters_l2.eq_2]
      unfold fTa_size
      rw [if_pos (Int32.le_refl _)]
    · rw [fMM_nextToken_l151.eq_2, see_e, obs, if_pos (by decide)]
  | succ q ih =>
    intro i f f' fl hi hs hf hf' hfl
    obtain ⟨f, rfl⟩ : ∃ k, f = k + 1 := ⟨f - 1, by omega⟩
    obtain ⟨f', rfl⟩ : ∃ k, f' = k + 1 := ⟨f' - 1, by omega⟩
    have hc := (h.2 i (by omega)).1
    rw [fLi_takeLetters_l2.eq_2, fMM_nextToken_l151.eq_2, see_n h (by omega), at_n h (by omega)]
    simp only [obs]
    unfold fTa_size
    rw [if_neg (fun qq : nI (n) ≤ nI (i) => absurd ((nI_leI (a := (n)) (b := (i)) (by omega) (by omega)).mp qq) (by omega)), show fLi_isLetter (nI (ch i)) = fMM_isLetter (nI (ch i)) from rfl]
    by_cases hl : fMM_isLetter (nI (ch i)) = 0
    · rw [if_pos hl, if_pos hl]
      exact ⟨i, fl, Nat.le_refl _, by omega, fun _ z => absurd hl z, rfl, rfl, hfl⟩
    · rw [if_neg hl, if_neg hl, nI_1 i]
      have go : ∀ fl1 : Int32, ((fl1 = 1 ∧ OKw ch s (i + 1)) ∨ (fl1 = 0 ∧ ¬ OKw ch s (i + 1))) → ∃ e fl', i ≤ e ∧ e ≤ n ∧ (i < n → ¬ fMM_isLetter (nI (ch i)) = 0 → i < e) ∧ fLi_takeLetters_l2 b (nI n) (nI s) f fl1 (nI (i + 1)) = some (fl', nI e) ∧ fMM_nextToken_l151 a1 t (nI n) f' (nI (i + 1)) = some (nI e) ∧ ((fl' = 1 ∧ OKw ch s e) ∨ (fl' = 0 ∧ ¬ OKw ch s e)) := by
        intro fl1 h1
        obtain ⟨e, fl', e1, e2, -, e3, e4, e5⟩ := ih (i + 1) f f' fl1 (by omega) (by omega) (by omega) (by omega) h1
        exact ⟨e, fl', by omega, e2, fun _ _ => by omega, e3, e4, e5⟩
      rcases hfl with ⟨rfl, hok⟩ | ⟨rfl, hok⟩
      · rw [if_neg n10, pk_sub hs]
        by_cases c4 : 4 ≤ i - s
        · rw [if_pos (show (4 : Int32) ≤ nI (i - s) from (nI_leI (a := 4) (b := (i - s)) (by omega) (by omega)).mpr (by omega))]
          exact go 0 (Or.inr ⟨rfl, fun z => by have := ((OKw_s hs).mp z).2.1; omega⟩)
        · rw [if_neg (fun qq : (4 : Int32) ≤ nI (i - s) => absurd ((nI_leI (a := 4) (b := (i - s)) (by omega) (by omega)).mp qq) (by omega)), gdn (by omega) (by decide), wd_t (i - s) (by omega)]
          have hw : wd (i - s) < 256 := by unfold wd; repeat' split
                                           all_goals omega
          by_cases c5 : wd (i - s) = ch i
          · rw [if_pos (show nI (wd (i - s)) = nI (ch i) by rw [c5])]
            exact go 1 (Or.inl ⟨rfl, (OKw_s hs).mpr ⟨hok, by omega, c5.symm⟩⟩)
          · rw [if_neg (fun z => c5 ((nI_eq (by omega) (by omega)).mp z))]
            exact go 0 (Or.inr ⟨rfl, fun z => c5 ((OKw_s hs).mp z).2.2.symm⟩)
      · rw [if_pos rfl]
        exact go 0 (Or.inr ⟨rfl, fun z => hok ((OKw_s hs).mp z).1⟩)
theorem dig_n {c : Nat} (hc : c < 256) (h : ¬ fMM_isDigit (nI c) = 0) : 48 ≤ c ∧ c ≤ 57 := by
  unfold fMM_isDigit at h
  rcases isIn_or (x := nI c) (a := 48) (b := 57) (lo := 48) (hi := 57) rfl rfl (by decide) (by decide) with z | ⟨-, k, k1, k2, e⟩
  · exact absurd z h
  · have := (nI_eq (by omega) (by omega)).mp e
    omega
theorem digits_pair {b t : Nat → Int32} {n : Nat} {ch : Nat → Nat} (h : TB b t n ch) : ∀ (q i f f' v : Nat), i + q = n → q < f → q < f' → v < 1000000 → ∃ e v', i ≤ e ∧ e ≤ n ∧ (i < n → ¬ fMM_isDigit (nI (ch i)) = 0 → i < e) ∧ v' < 1000000 ∧ fLi_takeDigits_l5 b (nI n) f (nI i) (nI (min v 100000)) = some (nI e, nI (min v' 100000)) ∧ fMM_nextToken_l85 t (nI n) f' (nI i) (nI v) = some (nI e, nI v') := by
  have hn := h.1
  intro q
  induction q with
  | zero =>
    intro i f f' v hi hf hf' hv
    obtain ⟨f, rfl⟩ : ∃ k, f = k + 1 := ⟨f - 1, by omega⟩
    obtain ⟨f', rfl⟩ : ∃ k, f' = k + 1 := ⟨f' - 1, by omega⟩
    have hi : i = n := by omega
    subst hi
    refine ⟨i, v, Nat.le_refl _, Nat.le_refl _, fun z => by omega, hv, ?_, ?_⟩
    · rw [fLi_takeDigits_l5.eq_2]
      unfold fTa_size
      rw [if_pos (Int32.le_refl _)]
    · rw [fMM_nextToken_l85.eq_2, see_e, obs, if_pos (by decide)]
  | succ q ih =>
    intro i f f' v hi hf hf' hv
    obtain ⟨f, rfl⟩ : ∃ k, f = k + 1 := ⟨f - 1, by omega⟩
    obtain ⟨f', rfl⟩ : ∃ k, f' = k + 1 := ⟨f' - 1, by omega⟩
    have hc := (h.2 i (by omega)).1
    rw [fLi_takeDigits_l5.eq_2, fMM_nextToken_l85.eq_2, see_n h (by omega), at_n h (by omega)]
    simp only [obs]
    unfold fTa_size
    rw [if_neg (fun qq : nI (n) ≤ nI (i) => absurd ((nI_leI (a := (n)) (b := (i)) (by omega) (by omega)).mp qq) (by omega)), show fLi_isDigit (nI (ch i)) = fMM_isDigit (nI (ch i)) from rfl]
    by_cases hl : fMM_isDigit (nI (ch i)) = 0
    · rw [if_pos hl, if_pos hl]
      exact ⟨i, v, Nat.le_refl _, by omega, fun _ z => absurd hl z, hv, rfl, rfl⟩
    · obtain ⟨d1, d2⟩ := dig_n hc hl
      rw [if_neg hl, if_neg hl, nI_1 i]
      have e1 : nI (min v 100000) * 10 + (nI (ch i) - 48) = nI (min v 100000 * 10 + (ch i - 48)) := by
        rw [show nI (ch i) - 48 = nI (ch i - 48) from pk_sub (b := 48) d1]
        exact ix_mr (min v 100000) (ch i - 48) 10
      rw [e1]
      have e2 : (if nI (min v 100000 * 10 + (ch i - 48)) < 100000 then nI (min v 100000 * 10 + (ch i - 48)) else 100000) = nI (min (min v 100000 * 10 + (ch i - 48)) 100000) := min_n (b := 100000) (by omega) (by omega)
      rw [e2]
      by_cases cv : 100000 ≤ v
      · rw [if_pos (show (100000 : Int32) ≤ nI (v) from (nI_leI (a := 100000) (b := (v)) (by omega) (by omega)).mpr (by omega)), show min (min v 100000 * 10 + (ch i - 48)) 100000 = min v 100000 by omega]
        obtain ⟨e, v', w1, w2, -, w3, w4, w5⟩ := ih (i + 1) f f' v (by omega) (by omega) (by omega) hv
        exact ⟨e, v', by omega, w2, fun _ _ => by omega, w3, w4, w5⟩
      · rw [if_neg (fun qq : (100000 : Int32) ≤ nI (v) => absurd ((nI_leI (a := 100000) (b := (v)) (by omega) (by omega)).mp qq) (by omega)), show (10 : Int32) * nI v + nI (ch i) = nI (v * 10 + ch i) from ix_ml v (ch i) 10, show nI (v * 10 + ch i) - 48 = nI (v * 10 + ch i - 48) from pk_sub (b := 48) (by omega), show min v 100000 * 10 + (ch i - 48) = v * 10 + ch i - 48 by omega]
        obtain ⟨e, v', w1, w2, -, w3, w4, w5⟩ := ih (i + 1) f f' (v * 10 + ch i - 48) (by omega) (by omega) (by omega) (by omega)
        exact ⟨e, v', by omega, w2, fun _ _ => by omega, w3, w4, w5⟩
/-- what a token is for the one and for the other -/
def Tk (p p' : Nat) (kx km vx vm : Int32) : Prop := (kx = -1 ∧ km = 0) ∨ (p < p' ∧ ((kx = -3 ∧ km = 1 ∧ ∃ v, v < 1000000 ∧ vx = nI (min v 100000) ∧ vm = nI v) ∨ (kx = 59 ∧ km = 2) ∨ (kx = 44 ∧ km = 3) ∨ (kx = 58 ∧ km = 4) ∨ (kx = -4 ∧ km = 5) ∨ (kx = -2 ∧ km = 6)))
theorem let_dig : ∀ c, c < 256 → ¬ fMM_isLetter (nI c) = 0 → fMM_isDigit (nI c) = 0 := by decide +kernel
theorem tok_pair {b t : Nat → Int32} {n : Nat} {ch : Nat → Nat} (h : TB b t n ch) {i : Nat} (hi : i ≤ n) (ts tk nx pl tm nm : Int32) : ∃ p p' kx km vx vm, i ≤ p ∧ p ≤ p' ∧ p' ≤ n ∧ fLi_nextToken b (nI n) (nI i) ts tk nx = some (nI p', nI p, kx, vx) ∧ fMM_nextToken t (nI n) (nI i) pl tm nm = some (nI p', nI p, km, vm) ∧ Tk p p' kx km vx vm := by
  have hn := h.1
  obtain ⟨p, p1, p2, p3, p4⟩ := skip_pair h (n - i) i FU FU (by omega) (FU_gt (by omega)) (FU_gt (by omega))
  unfold fLi_nextToken fMM_nextToken
  rw [p3, p4, obs, obs]
  unfold fTa_size
  by_cases hp : p = n
  · subst hp
    rw [if_neg (fun qq : nI (p) < nI (p) => absurd ((nI_ltI (a := (p)) (b := (p)) (by omega) (by omega)).mp qq) (by omega)), see_e, obs, if_neg (by decide)]
    exact ⟨p, p, -1, 0, nx, nm, p1, Nat.le_refl _, Nat.le_refl _, rfl, rfl, Or.inl ⟨rfl, rfl⟩⟩
  · have hp : p < n := by omega
    have hc := (h.2 p (by omega)).1
    rw [if_pos (show nI (p) < nI (n) from (nI_ltI (a := (p)) (b := (n)) (by omega) (by omega)).mpr (by omega)), see_n h hp, at_n h (by omega), obs, obs, if_pos (nI_ge0 (by omega)), show fLi_isLetter (nI (ch p)) = fMM_isLetter (nI (ch p)) from rfl, show fLi_isDigit (nI (ch p)) = fMM_isDigit (nI (ch p)) from rfl]
    by_cases hl : fMM_isLetter (nI (ch p)) = 0
    · rw [if_pos hl]
      by_cases hd : fMM_isDigit (nI (ch p)) = 0
      · rw [if_pos hd, if_pos hd, if_pos hl, nI_1 p]
        unfold fLi_isSign
        by_cases h1 : ch p = 59
        · rw [h1, if_pos (show nI 59 = (59 : Int32) from rfl), if_neg n10, if_pos (show nI 59 = (59 : Int32) from rfl)]
          exact ⟨p, p + 1, nI 59, 2, nx, nm, p1, by omega, by omega, rfl, rfl, Or.inr ⟨by omega, Or.inr (Or.inl ⟨rfl, rfl⟩)⟩⟩
        · rw [if_neg (fun qq : nI (ch p) = (59 : Int32) => absurd ((nI_eq (a := (ch p)) (b := 59) (by omega) (by omega)).mp qq) (by omega)), if_neg (fun qq : nI (ch p) = (59 : Int32) => absurd ((nI_eq (a := (ch p)) (b := 59) (by omega) (by omega)).mp qq) (by omega))]
          by_cases h2 : ch p = 44
          · rw [h2, if_pos (show nI 44 = (44 : Int32) from rfl), if_neg n10, if_pos (show nI 44 = (44 : Int32) from rfl)]
            exact ⟨p, p + 1, nI 44, 3, nx, nm, p1, by omega, by omega, rfl, rfl, Or.inr ⟨by omega, Or.inr (Or.inr (Or.inl ⟨rfl, rfl⟩))⟩⟩
          · rw [if_neg (fun qq : nI (ch p) = (44 : Int32) => absurd ((nI_eq (a := (ch p)) (b := 44) (by omega) (by omega)).mp qq) (by omega)), if_neg (fun qq : nI (ch p) = (44 : Int32) => absurd ((nI_eq (a := (ch p)) (b := 44) (by omega) (by omega)).mp qq) (by omega))]
            by_cases h3 : ch p = 58
            · rw [h3, if_pos (show nI 58 = (58 : Int32) from rfl), if_neg n10, if_pos (show nI 58 = (58 : Int32) from rfl)]
              exact ⟨p, p + 1, nI 58, 4, nx, nm, p1, by omega, by omega, rfl, rfl, Or.inr ⟨by omega, Or.inr (Or.inr (Or.inr (Or.inl ⟨rfl, rfl⟩)))⟩⟩
            · rw [if_neg (fun qq : nI (ch p) = (58 : Int32) => absurd ((nI_eq (a := (ch p)) (b := 58) (by omega) (by omega)).mp qq) (by omega)), if_neg (fun qq : nI (ch p) = (58 : Int32) => absurd ((nI_eq (a := (ch p)) (b := 58) (by omega) (by omega)).mp qq) (by omega)), if_pos rfl]
              exact ⟨p, p + 1, -4, 5, nx, nm, p1, by omega, by omega, rfl, rfl, Or.inr ⟨by omega, Or.inr (Or.inr (Or.inr (Or.inr (Or.inl ⟨rfl, rfl⟩))))⟩⟩
      · rw [if_neg hd, if_neg hd]
        unfold fLi_takeDigits
        obtain ⟨e, v', w1, w2, w3, w4, w5, w6⟩ := digits_pair h (n - p) p FU FU 0 (by omega) (FU_gt (by omega)) (FU_gt (by omega)) (by omega)
        have w5 : fLi_takeDigits_l5 b (nI n) FU (nI p) 0 = some (nI e, nI (min v' 100000)) := w5
        have w6 : fMM_nextToken_l85 t (nI n) FU (nI p) 0 = some (nI e, nI v') := w6
        rw [w5, w6]
        simp only [obs]
        exact ⟨p, e, -3, 1, _, _, p1, w1, w2, rfl, rfl, Or.inr ⟨w3 hp hd, Or.inl ⟨rfl, rfl, v', w4, rfl, rfl⟩⟩⟩
    · rw [if_neg hl, if_pos (let_dig _ hc hl), if_neg hl]
      unfold fLi_takeLetters
      obtain ⟨e, fl', w1, w2, w3, w4, w5, w6⟩ := letters_pair h (s := p) (a1 := nI (ch p)) (n - p) p FU FU 1 (by omega) (Nat.le_refl _) (FU_gt (by omega)) (FU_gt (by omega)) (Or.inl ⟨rfl, by omega, fun k a b => by omega⟩)
      have hpe := w3 hp hl
      rw [w4, w5]
      simp only [obs]
      have hst : ∀ km, km = (5 : Int32) → (¬ (e = p + 4 ∧ OKw ch p e)) → ∃ q q' kx km' vx vm, i ≤ q ∧ q ≤ q' ∧ q' ≤ n ∧ (ob (if fl' = 0 then some (nI e, -4) else if nI e - nI p = 4 then some (nI e, -2) else some (nI e, -4)) fun e5 => some (e5.1, nI p, e5.2, nx)) = some (nI q', nI q, kx, vx) ∧ some (nI e, nI p, km, nm) = some (nI q', nI q, km', vm) ∧ Tk q q' kx km' vx vm := by
        intro km hkm hno
        refine ⟨p, e, -4, 5, nx, nm, p1, by omega, w2, ?_, by rw [hkm], Or.inr ⟨hpe, Or.inr (Or.inr (Or.inr (Or.inr (Or.inl ⟨rfl, rfl⟩))))⟩⟩
        rcases w6 with ⟨rfl, hok⟩ | ⟨rfl, hok⟩
        · rw [if_neg n10, pk_sub (by omega), if_neg (fun z => by
            have := (nI_eq (b := 4) (by omega) (by decide)).mp z
            exact hno ⟨by omega, hok⟩), obs]
        · rw [if_pos rfl, obs]
      rw [pk_sub (show p ≤ e by omega)] at hst ⊢
      by_cases e4 : e = p + 4
      · have hk : ∀ j, j < 4 → p + j < n := fun j hj => by omega
        rw [if_pos (show nI (e - p) = (4 : Int32) from (nI_eq (a := (e - p)) (b := 4) (by omega) (by omega)).mpr (by omega))] at hst ⊢
        rw [if_pos (show nI (e - p) = (4 : Int32) from (nI_eq (a := (e - p)) (b := 4) (by omega) (by omega)).mpr (by omega))]
        have c0 : ¬ ch p = 116 → ¬ (e = p + 4 ∧ OKw ch p e) := fun z w => z (by have := w.2.2 p (Nat.le_refl _) (by omega); rw [Nat.sub_self] at this; exact this)
        have ck : ∀ j x, j < 4 → wd j = x → ¬ ch (p + j) = x → ¬ (e = p + 4 ∧ OKw ch p e) := fun j x hj hx z w => z (by
          have := w.2.2 (p + j) (by omega) (by omega)
          rw [show p + j - p = j by omega, hx] at this
          exact this)
        by_cases k0 : ch p = 116
        · rw [if_pos (show nI (ch p) = (116 : Int32) from (nI_eq (a := (ch p)) (b := 116) (by omega) (by omega)).mpr (by omega)), show nI p + 1 = nI (p + 1) from nI_add p 1, see_n h (hk 1 (by omega)), obs]
          have q1 := (h.2 (p + 1) (by omega)).1
          by_cases k1 : ch (p + 1) = 111
          · rw [if_pos (show nI (ch (p + 1)) = (111 : Int32) from (nI_eq (a := (ch (p + 1))) (b := 111) (by omega) (by omega)).mpr (by omega)), show nI p + 2 = nI (p + 2) from nI_add p 2, see_n h (hk 2 (by omega)), obs]
            have q2 := (h.2 (p + 2) (by omega)).1
            by_cases k2 : ch (p + 2) = 119
            · rw [if_pos (show nI (ch (p + 2)) = (119 : Int32) from (nI_eq (a := (ch (p + 2))) (b := 119) (by omega) (by omega)).mpr (by omega)), show nI p + 3 = nI (p + 3) from nI_add p 3, see_n h (hk 3 (by omega)), obs]
              have q3 := (h.2 (p + 3) (by omega)).1
              by_cases k3 : ch (p + 3) = 110
              · rw [if_pos (show nI (ch (p + 3)) = (110 : Int32) from (nI_eq (a := (ch (p + 3))) (b := 110) (by omega) (by omega)).mpr (by omega))]
                have hok : OKw ch p e := by
                  refine ⟨by omega, fun k a b => ?_⟩
                  have : k = p ∨ k = p + 1 ∨ k = p + 2 ∨ k = p + 3 := by omega
                  rcases this with rfl | rfl | rfl | rfl
                  · rw [Nat.sub_self]; exact k0
                  · rw [show p + 1 - p = 1 by omega]; exact k1
                  · rw [show p + 2 - p = 2 by omega]; exact k2
                  · rw [show p + 3 - p = 3 by omega]; exact k3
                rcases w6 with ⟨rfl, -⟩ | ⟨-, hno⟩
                · rw [if_neg n10, obs]
                  exact ⟨p, e, -2, 6, nx, nm, p1, by omega, w2, rfl, rfl, Or.inr ⟨hpe, Or.inr (Or.inr (Or.inr (Or.inr (Or.inr ⟨rfl, rfl⟩))))⟩⟩
                · exact absurd hok hno
              · rw [if_neg (fun qq : nI (ch (p + 3)) = (110 : Int32) => absurd ((nI_eq (a := (ch (p + 3))) (b := 110) (by omega) (by omega)).mp qq) (by omega))]
                exact hst 5 rfl (ck 3 110 (by omega) rfl k3)
            · rw [if_neg (fun qq : nI (ch (p + 2)) = (119 : Int32) => absurd ((nI_eq (a := (ch (p + 2))) (b := 119) (by omega) (by omega)).mp qq) (by omega))]
              exact hst 5 rfl (ck 2 119 (by omega) rfl k2)
          · rw [if_neg (fun qq : nI (ch (p + 1)) = (111 : Int32) => absurd ((nI_eq (a := (ch (p + 1))) (b := 111) (by omega) (by omega)).mp qq) (by omega))]
            exact hst 5 rfl (ck 1 111 (by omega) rfl k1)
        · rw [if_neg (fun qq : nI (ch p) = (116 : Int32) => absurd ((nI_eq (a := (ch p)) (b := 116) (by omega) (by omega)).mp qq) (by omega))]
          exact hst 5 rfl (c0 k0)
      · have hne4 : ¬ nI (e - p) = (4 : Int32) := fun z => by
          have := (nI_eq (b := 4) (by omega) (by decide)).mp z
          omega
        have := hst 5 rfl (fun z => e4 z.1)
        rw [if_neg hne4] at this ⊢
        rw [if_neg hne4]
        exact this
