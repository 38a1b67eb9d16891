/-! the pure side: tools -/
theorem inb_n {n N : Nat} (h : n < N) (hN : N < 2 ^ 31) : inb (nI n) N = true := by
  unfold inb
  rw [nI_clamp (by omega)]
  simp only [Bool.and_eq_true, Bool.not_eq_true', decide_eq_false_iff_not, decide_eq_true_eq]
  exact ⟨nI_pos (by omega), h⟩
theorem gdt {α : Type} {b : Bool} {x y : Option α} (hb : b = true) (h : x = y) : gd b x = y := by rw [gd_true hb, h]
theorem gdn {α : Type} {n N : Nat} {x : Option α} (h : n < N) (hN : N < 2 ^ 31) : gd (inb (nI n) N) x = x := gd_true (inb_n h hN)
theorem obs {α β : Type} (e : α) (f : α → Option β) : ob (some e) f = f e := rfl
theorem n10 : ¬ (1 : Int32) = 0 := by decide
theorem ne0 {x : Int32} (h : x = 1) : ¬ x = 0 := by rw [h]; decide
theorem isIn_or {x a b : Int32} {lo hi : Nat} (ha : a = nI lo) (hb : b = nI hi) (hlo : lo < 2 ^ 31) (hhi : hi < 2 ^ 31) : fMM_isIn x a b = 0 ∨ (fMM_isIn x a b = 1 ∧ ∃ k, lo ≤ k ∧ k ≤ hi ∧ x = nI k) := by
  subst ha; subst hb
  unfold fMM_isIn
  by_cases h1 : x < nI lo
  · left; rw [if_pos h1]
  · by_cases h2 : nI hi < x
    · left; rw [if_neg h1, if_pos h2]
    · right
      rw [if_neg h1, if_neg h2]
      have h3 : ¬ x < 0 := by
        intro h
        apply h1
        have : nI lo ≥ 0 := nI_pos' hlo
        exact Int32.lt_of_lt_of_le h this
      obtain ⟨k, hk, rfl⟩ := nI_of h3
      refine ⟨rfl, k, ?_, ?_, rfl⟩
      · exact Nat.not_lt.mp (fun h => h1 ((nI_ltI hk hlo).mpr h))
      · exact Nat.not_lt.mp (fun h => h2 ((nI_ltI hhi hk).mpr h))
theorem isIn_1 {k lo hi : Nat} (h1 : lo ≤ k) (h2 : k ≤ hi) (hhi : hi < 2 ^ 31) : fMM_isIn (nI k) (nI lo) (nI hi) = 1 := by
  unfold fMM_isIn
  rw [if_neg (fun h => absurd ((nI_ltI (by omega) (by omega)).mp h) (by omega)), if_neg (fun h => absurd ((nI_ltI (by omega) (by omega)).mp h) (by omega))]
theorem place_or (x : Int32) : (fMM_isPlace x = 0 ∧ fTL_isPlace x = 0) ∨ ∃ k, k < 16 ∧ x = nI k ∧ ¬ fMM_isPlace x = 0 ∧ ¬ fTL_isPlace x = 0 := by
  rcases isIn_or (x := x) (a := 0) (b := 15) (lo := 0) (hi := 15) rfl rfl (by decide) (by decide) with h | ⟨h, k, -, hk, e⟩
  · exact Or.inl ⟨h, h⟩
  · exact Or.inr ⟨k, by omega, e, ne0 h, ne0 h⟩
theorem town_or (x : Int32) : (fMM_isTown x = 0 ∧ fTL_isTown x = 0) ∨ ∃ k, 1 ≤ k ∧ k < 16 ∧ x = nI k ∧ ¬ fMM_isTown x = 0 ∧ ¬ fTL_isTown x = 0 := by
  rcases isIn_or (x := x) (a := 1) (b := 15) (lo := 1) (hi := 15) rfl rfl (by decide) (by decide) with h | ⟨h, k, h1, hk, e⟩
  · exact Or.inl ⟨h, h⟩
  · exact Or.inr ⟨k, h1, by omega, e, ne0 h, ne0 h⟩
theorem good_or (x : Int32) : (fMM_isGood x = 0 ∧ fTL_isGood x = 0) ∨ ∃ k, k < 6 ∧ x = nI k ∧ ¬ fMM_isGood x = 0 ∧ ¬ fTL_isGood x = 0 := by
  rcases isIn_or (x := x) (a := 0) (b := 5) (lo := 0) (hi := 5) rfl rfl (by decide) (by decide) with h | ⟨h, k, -, hk, e⟩
  · exact Or.inl ⟨h, h⟩
  · exact Or.inr ⟨k, by omega, e, ne0 h, ne0 h⟩
/-- isIn against two numbers -/
theorem in_or (x a b : Int32) (lo hi : Nat) (ha : a = nI lo) (hb : b = nI hi) (hlo : lo < 2 ^ 31) (hhi : hi < 2 ^ 31) : (fMM_isIn x a b = 0 ∧ fTL_within x a b = 0) ∨ ∃ k, lo ≤ k ∧ k ≤ hi ∧ x = nI k ∧ ¬ fMM_isIn x a b = 0 ∧ ¬ fTL_within x a b = 0 := by
  rcases isIn_or (x := x) ha hb hlo hhi with h | ⟨h, k, h1, hk, e⟩
  · exact Or.inl ⟨h, h⟩
  · exact Or.inr ⟨k, h1, hk, e, ne0 h, ne0 h⟩
theorem ix_mr (i j c : Nat) : nI i * nI c + nI j = nI (i * c + j) := by rw [pk_mul, nI_add]
theorem ix_ml (i j c : Nat) : nI c * nI i + nI j = nI (i * c + j) := by rw [pk_mul, nI_add, Nat.mul_comm]
theorem updn (f : Nat → Int32) (n : Nat) (h : n < 2 ^ 31) (x : Int32) : upd f (nI n).toNatClampNeg x = upd f n x := by rw [nI_clamp h]
/-- 1: roads -/
def RRo (f g : Nat → Int32) : Prop := f = g ∧ ∀ k, k < 256 → ∃ d, d ≤ 30 ∧ g k = nI d
theorem op_road {f g : Nat → Int32} (h : RRo f g) (a1 a2 a3 : Int32) : ∃ r f' g', fTL_road a1 a2 a3 f = some (r, f') ∧ fMM_road a1 a2 a3 g = some (r, g') ∧ RRo f' g' := by
  obtain ⟨rfl, hv⟩ := h
  unfold fTL_road fMM_road
  rcases place_or a1 with ⟨m1, t1⟩ | ⟨i, hi, rfl, m1, t1⟩
  · exact ⟨0, f, f, by rw [if_pos t1], by rw [if_pos m1], rfl, hv⟩
  rw [if_neg t1, if_neg m1]
  rcases place_or a2 with ⟨m2, t2⟩ | ⟨j, hj, rfl, m2, t2⟩
  · exact ⟨0, f, f, by rw [if_pos t2], by rw [if_pos m2], rfl, hv⟩
  rw [if_neg t2, if_neg m2]
  by_cases e : nI i = nI j
  · exact ⟨0, f, f, by rw [if_pos e], by rw [if_pos e], rfl, hv⟩
  rw [if_neg e, if_neg e]
  rcases in_or a3 0 30 0 30 rfl rfl (by decide) (by decide) with ⟨m3, t3⟩ | ⟨d, -, hd, rfl, m3, t3⟩
  · exact ⟨0, f, f, by rw [if_pos t3], by rw [if_pos m3], rfl, hv⟩
  rw [if_neg t3, if_neg m3]
  have e1 : nI i * 16 + nI j = nI (i * 16 + j) := ix_mr i j 16
  have e2 : nI j * 16 + nI i = nI (j * 16 + i) := ix_mr j i 16
  have e3 : 16 * nI i + nI j = nI (i * 16 + j) := ix_ml i j 16
  have e4 : 16 * nI j + nI i = nI (j * 16 + i) := ix_ml j i 16
  refine ⟨1, upd (upd f (i * 16 + j) (nI d)) (j * 16 + i) (nI d), upd (upd f (i * 16 + j) (nI d)) (j * 16 + i) (nI d), ?_, ?_, rfl, ?_⟩
  · unfold fRo_lay
    rw [e1, e2, gdn (by omega) (by decide), gdn (by omega) (by decide), updn _ _ (by omega), updn _ _ (by omega)]
    rfl
  · rw [e3, e4, gdn (by omega) (by decide), gdn (by omega) (by decide), updn _ _ (by omega), updn _ _ (by omega)]
  · intro k hk
    unfold upd
    by_cases h1 : k = j * 16 + i
    · rw [if_pos h1]; exact ⟨d, hd, rfl⟩
    · rw [if_neg h1]
      by_cases h2 : k = i * 16 + j
      · rw [if_pos h2]; exact ⟨d, hd, rfl⟩
      · rw [if_neg h2]; exact hv k hk
/-- 4, 5: weights and the load -/
def RPo (f g : Nat → Int32) (l m : Int32) : Prop := f = g ∧ l = m ∧ (∀ k, k < 6 → ∃ d, 1 ≤ d ∧ d ≤ 50 ∧ g k = nI d) ∧ ∃ d, 1 ≤ d ∧ d ≤ 100 ∧ m = nI d
theorem RPo_upd {f g : Nat → Int32} {l m : Int32} (h : RPo f g l m) {i d : Nat} (h1 : 1 ≤ d) (h2 : d ≤ 50) : RPo (upd f i (nI d)) (upd g i (nI d)) l m := by
  obtain ⟨rfl, rfl, hw, hl⟩ := h
  refine ⟨rfl, rfl, fun k hk => ?_, hl⟩
  unfold upd
  by_cases e : k = i
  · rw [if_pos e]; exact ⟨d, h1, h2, rfl⟩
  · rw [if_neg e]; exact hw k hk
theorem op_weight {f g : Nat → Int32} {l m : Int32} (h : RPo f g l m) (a1 a2 : Int32) : ∃ r f' g' l' m', fTL_weight a1 a2 f l = some (r, f', l') ∧ fMM_weight a1 a2 g m = some (r, g', m') ∧ RPo f' g' l' m' := by
  obtain ⟨rfl, rfl, hw, hl⟩ := h
  unfold fTL_weight fMM_weight
  by_cases e : a1 = -1
  · rw [if_pos e, if_pos e]
    unfold fPo_setLoad
    rcases in_or a2 1 100 1 100 rfl rfl (by decide) (by decide) with ⟨m3, t3⟩ | ⟨d, h1, h2, rfl, m3, t3⟩
    · have g0 : fMM_isGood a1 = 0 := by rw [e]; decide
      exact ⟨0, f, f, l, l, by rw [if_pos t3], by rw [if_pos m3, if_pos g0], rfl, rfl, hw, hl⟩
    · exact ⟨1, f, f, nI d, nI d, by rw [if_neg t3], by rw [if_neg m3], rfl, rfl, hw, d, h1, h2, rfl⟩
  · rw [if_neg e, if_neg e]
    rcases good_or a1 with ⟨m1, t1⟩ | ⟨i, hi, rfl, m1, t1⟩
    · exact ⟨0, f, f, l, l, by rw [if_pos t1], by rw [if_pos m1], rfl, rfl, hw, hl⟩
    rw [if_neg t1, if_neg m1]
    unfold fPo_setWeight
    rcases in_or a2 1 50 1 50 rfl rfl (by decide) (by decide) with ⟨m3, t3⟩ | ⟨d, h1, h2, rfl, m3, t3⟩
    · exact ⟨0, f, f, l, l, by rw [if_pos t3, obs, if_pos rfl], by rw [if_pos m3], rfl, rfl, hw, hl⟩
    · refine ⟨1, upd f i (nI d), upd f i (nI d), l, l, ?_, ?_, RPo_upd ⟨rfl, rfl, hw, hl⟩ h1 h2⟩
      · rw [if_neg t3, gdn hi (by decide), obs, if_neg n10, nI_clamp (by omega)]
      · rw [if_neg m3, gdn hi (by decide), nI_clamp (by omega)]
theorem nz_n {d : Nat} (h : 1 ≤ d) (hd : d < 2 ^ 31) : nz (nI d) = true := by
  unfold nz
  simp only [Bool.not_eq_true', decide_eq_false_iff_not]
  exact nI_ne0 h hd
/-- how many carriers -/
def carN (w l p : Nat) : Nat := (p + (max 1 (l / w)) - 1) / (max 1 (l / w))
theorem needed_n {f : Nat → Int32} {l : Int32} {i w c p : Nat} (hi : i < 6) (hf : f i = nI w) (hl : l = nI c) (hw : 1 ≤ w) (hw2 : w ≤ 50) (hc : 1 ≤ c) (hc2 : c ≤ 100) (hp : p ≤ 9999) : fPo_needed (nI i) (nI p) f l = some (nI (carN w c p)) := by
  unfold fPo_needed fPo_piecesEach
  rw [gdn hi (by decide), nI_clamp (by omega), hf, hl]
  have e1 : (if (1 : Int32) < nI w then nI w else 1) = nI w := by
    by_cases h : (1 : Int32) < nI w
    · rw [if_pos h]
    · rw [if_neg h]
      have : ¬ 1 < w := fun q => h ((nI_ltI (a := 1) (by decide) (by omega)).mpr q)
      rw [show w = 1 by omega]; rfl
  rw [e1, gd_true (nz_n hw (by omega)), obs, pk_div (by omega) hw (by omega)]
  have e2 : (if (1 : Int32) < nI (c / w) then nI (c / w) else 1) = nI (max 1 (c / w)) := by
    by_cases h : 1 < c / w
    · rw [if_pos (show (1 : Int32) < nI (c / w) from (nI_ltI (a := 1) (by decide) (by have := Nat.div_le_self c w; omega)).mpr h), Nat.max_eq_right (by omega)]
    · rw [if_neg (fun q : (1 : Int32) < nI (c / w) => h ((nI_ltI (a := 1) (by decide) (by have := Nat.div_le_self c w; omega)).mp q)), Nat.max_eq_left (by omega)]; rfl
  rw [e2]
  have hm : 1 ≤ max 1 (c / w) := Nat.le_max_left _ _
  have hm2 : max 1 (c / w) ≤ 100 := Nat.max_le.mpr ⟨by omega, by have := Nat.div_le_self c w; omega⟩
  rw [gd_true (nz_n hm (by omega)), nI_add, show (1 : Int32) = nI 1 from rfl, pk_sub (by omega), pk_div (by omega) hm (by omega)]
  rfl
theorem carriersOf_n {f : Nat → Int32} {l : Int32} {i w c p : Nat} (hi : i < 6) (hf : f i = nI w) (hl : l = nI c) (hw : 1 ≤ w) (hw2 : w ≤ 50) (hc : 1 ≤ c) (hc2 : c ≤ 100) (hp : p ≤ 9999) : fMM_carriersOf (nI i) (nI p) f l = some (nI (carN w c p)) := by
  unfold fMM_carriersOf
  have hq := Nat.div_le_self c w
  rw [gdn hi (by decide), nI_clamp (by omega), hf, hl, gd_true (nz_n hw (by omega)), pk_div (by omega) hw (by omega)]
  by_cases h : 1 ≤ c / w
  · rw [if_pos (show (1 : Int32) ≤ nI (c / w) from (nI_leI (a := 1) (by decide) (by omega)).mpr h), gdn hi (by decide), gd_true (nz_n hw (by omega)), gd_true (nz_n h (by omega)), nI_add, show (1 : Int32) = nI 1 from rfl, pk_sub (by omega), pk_div (by omega) h (by omega)]
    unfold carN
    rw [Nat.max_eq_right h]
  · rw [if_neg (fun q : (1 : Int32) ≤ nI (c / w) => h ((nI_leI (a := 1) (by decide) (by omega)).mp q)), show (1 : Int32) = nI 1 from rfl, nI_add, pk_sub (by omega), pk_div (by omega) (by decide) (by decide)]
    unfold carN
    rw [Nat.max_eq_left (by omega)]
theorem op_carriers {f g : Nat → Int32} {l m : Int32} (h : RPo f g l m) (a1 a2 : Int32) : ∃ r, fTL_carriers a1 a2 f l = some r ∧ fMM_carriers a1 a2 g m = some r := by
  obtain ⟨rfl, rfl, hw, c, hc, hc2, hl⟩ := h
  unfold fTL_carriers fMM_carriers
  rcases good_or a1 with ⟨m1, t1⟩ | ⟨i, hi, rfl, m1, t1⟩
  · exact ⟨-1, by rw [if_pos t1], by rw [if_pos m1]⟩
  rw [if_neg t1, if_neg m1]
  rcases in_or a2 0 9999 0 9999 rfl rfl (by decide) (by decide) with ⟨m3, t3⟩ | ⟨p, -, hp, rfl, m3, t3⟩
  · exact ⟨-1, by rw [if_pos t3], by rw [if_pos m3]⟩
  rw [if_neg t3, if_neg m3]
  obtain ⟨w, hw1, hw2, hf⟩ := hw i hi
  exact ⟨_, by rw [needed_n hi hf hl hw1 hw2 hc hc2 hp]; rfl, by rw [carriersOf_n hi hf hl hw1 hw2 hc hc2 hp]; rfl⟩
