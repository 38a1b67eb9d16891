/-! parting: rank against repeated choice -/
/-- how many of 1, .., n -/
def cb (P : Nat → Bool) : Nat → Nat
  | 0 => 0
  | n + 1 => cb P n + (if P (n + 1) = true then 1 else 0)
def yS (y : Nat → Nat) : Nat → Nat
  | 0 => 0
  | n + 1 => yS y n + y (n + 1)
theorem cb_le {P P' : Nat → Bool} : ∀ {n : Nat}, (∀ k, 1 ≤ k → k ≤ n → P k = true → P' k = true) → cb P n ≤ cb P' n
  | 0, _ => Nat.le_refl _
  | n + 1, h => by
    have h1 := cb_le (n := n) (fun k a b => h k a (by omega))
    have h2 := h (n + 1) (by omega) (by omega)
    show cb P n + _ ≤ cb P' n + _
    by_cases c : P (n + 1) = true
    · rw [if_pos c, if_pos (h2 c)]; omega
    · rw [if_neg c]; omega
theorem cb_lt {P P' : Nat → Bool} {t : Nat} (ht : 1 ≤ t) (hp : ¬ P t = true) (hp' : P' t = true) : ∀ {n : Nat}, t ≤ n → (∀ k, 1 ≤ k → k ≤ n → P k = true → P' k = true) → cb P n + 1 ≤ cb P' n
  | 0, h0, _ => by omega
  | n + 1, hn, h => by
    show cb P n + _ + 1 ≤ cb P' n + _
    by_cases e : t = n + 1
    · subst e
      have h1 := cb_le (n := n) (fun k a b => h k a (by omega))
      rw [if_neg hp, if_pos hp']; omega
    · have h1 := cb_lt ht hp hp' (n := n) (by omega) (fun k a b => h k a (by omega))
      have h2 := h (n + 1) (by omega) (by omega)
      by_cases c : P (n + 1) = true
      · rw [if_pos c, if_pos (h2 c)]; omega
      · rw [if_neg c]; omega
theorem cb_all {P : Nat → Bool} : ∀ {n : Nat}, (∀ k, 1 ≤ k → k ≤ n → P k = true) → cb P n = n
  | 0, _ => rfl
  | n + 1, h => by
    show cb P n + _ = n + 1
    rw [cb_all (n := n) (fun k a b => h k a (by omega)), if_pos (h (n + 1) (by omega) (by omega))]
theorem cb_add {P P' : Nat → Bool} {t : Nat} (ht : 1 ≤ t) (hp : ¬ P t = true) (hp' : P' t = true) (ho : ∀ k, k ≠ t → P' k = P k) : ∀ {n : Nat}, t ≤ n → cb P' n = cb P n + 1
  | 0, h0 => by omega
  | n + 1, hn => by
    show cb P' n + _ = cb P n + _ + 1
    by_cases e : t = n + 1
    · subst e
      have h1 := cb_le (P := P) (P' := P') (n := n) (fun k a b => by rw [ho k (by omega)]; exact id)
      have h2 := cb_le (P := P') (P' := P) (n := n) (fun k a b => by rw [ho k (by omega)]; exact id)
      rw [if_neg hp, if_pos hp']; omega
    · rw [cb_add ht hp hp' ho (n := n) (by omega), ho (n + 1) (by omega)]; omega
theorem cb_le_n (P : Nat → Bool) : ∀ n, cb P n ≤ n
  | 0 => Nat.le_refl _
  | n + 1 => by
    have := cb_le_n P n
    show cb P n + _ ≤ n + 1
    split <;> omega
theorem yS_mono (y : Nat → Nat) {a : Nat} : ∀ {b : Nat}, a ≤ b → yS y a ≤ yS y b
  | 0, h => by rw [show a = 0 by omega]; exact Nat.le_refl _
  | b + 1, h => by
    by_cases e : a = b + 1
    · rw [e]; exact Nat.le_refl _
    · have := yS_mono y (a := a) (b := b) (by omega)
      show _ ≤ yS y b + _
      omega
theorem yS_le {y : Nat → Nat} {c : Nat} : ∀ {n : Nat}, (∀ k, 1 ≤ k → k ≤ n → y k ≤ c) → yS y n ≤ c * n
  | 0, _ => Nat.zero_le _
  | n + 1, h => by
    have h1 := yS_le (n := n) (fun k a b => h k a (by omega))
    have h2 := h (n + 1) (by omega) (by omega)
    show yS y n + y (n + 1) ≤ c * (n + 1)
    rw [Nat.mul_succ]; omega
theorem yS_qr (p S : Nat) (y : Nat → Nat) : ∀ n, yS (fun k => p * y k / S) n * S + yS (fun k => p * y k % S) n = p * yS y n
  | 0 => by show 0 * S + 0 = p * 0; omega
  | n + 1 => by
    have h1 := yS_qr p S y n
    show (yS (fun k => p * y k / S) n + p * y (n + 1) / S) * S + (yS (fun k => p * y k % S) n + p * y (n + 1) % S) = p * (yS y n + y (n + 1))
    have h2 := Nat.div_add_mod (p * y (n + 1)) S
    rw [Nat.add_mul, Nat.mul_add, Nat.mul_comm (p * y (n + 1) / S) S]
    omega
theorem rest_n {p S : Nat} {y : Nat → Nat} (hS : S = yS y 15) (h0 : 0 < S) : yS (fun k => p * y k / S) 15 ≤ p ∧ p < yS (fun k => p * y k / S) 15 + 15 := by
  have h1 := yS_qr p S y 15
  rw [← hS] at h1
  have h2 : yS (fun k => p * y k % S) 15 ≤ (S - 1) * 15 := yS_le (fun k _ _ => by have := Nat.mod_lt (p * y k) h0; omega)
  constructor
  · refine Nat.le_of_mul_le_mul_right (c := S) ?_ h0
    omega
  · refine Nat.lt_of_mul_lt_mul_right (a := S) ?_
    rw [Nat.add_mul]
    omega
/-- which part is larger, the earlier town first -/
abbrev bef (R : Nat → Nat) (j k : Nat) : Prop := R k < R j ∨ (R j = R k ∧ j < k)
theorem wmul {p y : Nat} (hp : p ≤ 100000) (hy : y ≤ 10000) : (nI p).toInt64 * (nI y).toInt64 = lN (p * y) ∧ p * y < 2 ^ 63 := by
  have := Nat.mul_le_mul hp hy
  exact ⟨by rw [nI_l (by omega), nI_l (by omega), lN_mul], by omega⟩
theorem all_n {f : Nat → Int32} {y : Nat → Nat} (hy : ∀ k, k < 16 → f k = nI (y k) ∧ y k ≤ 10000) : fSh_allYields f = some (nI (yS y 15)) := by
  have key : ∀ (d i n : Nat), i + d = 15 → d < n → fSh_allYields_l4 f n (nI (yS y i)) (nI (i + 1)) = some (nI (yS y 15)) := by
    intro d
    induction d with
    | zero =>
      intro i n hi hn
      obtain ⟨n, rfl⟩ : ∃ k, n = k + 1 := ⟨n - 1, by omega⟩
      have hi : i = 15 := by omega
      subst hi
      rw [fSh_allYields_l4.eq_2, if_pos (show (16 : Int32) ≤ nI (15 + 1) from (nI_leI (a := 16) (b := (15 + 1)) (by omega) (by omega)).mpr (by omega))]
    | succ d ih =>
      intro i n hi hn
      obtain ⟨n, rfl⟩ : ∃ k, n = k + 1 := ⟨n - 1, by omega⟩
      rw [fSh_allYields_l4.eq_2, if_neg (fun qq : (16 : Int32) ≤ nI (i + 1) => absurd ((nI_leI (a := 16) (b := (i + 1)) (by omega) (by omega)).mp qq) (by omega)), gdn (by omega) (by decide), nI_clamp (by omega), (hy (i + 1) (by omega)).1, nI_add, nI_1 (i + 1)]
      exact ih (i + 1) n (by omega) (by omega)
  unfold fSh_allYields
  have := key 15 0 FU rfl (FU_gt (by decide))
  have : fSh_allYields_l4 f FU 0 1 = some (nI (yS y 15)) := this
  rw [this]; rfl
theorem shareX {f : Nat → Int32} {y : Nat → Nat} (hy : ∀ k, k < 16 → f k = nI (y k) ∧ y k ≤ 10000) {p t S : Nat} (hp : p ≤ 100000) (ht1 : 1 ≤ t) (ht : t < 16) (hS : S = yS y 15) (h0 : 0 < S) : fSh_shareOf (nI p) (nI t) f = some (nI (p * y t / S + if cb (fun k => decide (bef (fun k => p * y k % S) k t)) 15 < p - yS (fun k => p * y k / S) 15 then 1 else 0)) := by
  have hSb : S ≤ 150000 := by
    have := yS_le (y := y) (c := 10000) (n := 15) (fun k _ hk => (hy k (by omega)).2)
    omega
  obtain ⟨r1, r2⟩ := rest_n (p := p) hS h0
  have hSl : (nI S).toInt64 = lN S := nI_l (by omega)
  have hnz : nzL (lN S) = true := by
    unfold nzL
    simp only [Bool.not_eq_true', decide_eq_false_iff_not]
    intro z
    have := (pk_lEQ (a := S) (b := 0) (by omega) (by decide)).mp z
    omega
  have hq : ∀ k, k < 16 → ((nI p).toInt64 * (nI (y k)).toInt64) / lN S = lN (p * y k / S) := fun k hk => by
    obtain ⟨a, b⟩ := wmul hp (hy k hk).2
    rw [a, pk_lDiv b h0 (by omega)]
  have hr : ∀ k, k < 16 → ((nI p).toInt64 * (nI (y k)).toInt64) - lN (p * y k / S) * lN S = lN (p * y k % S) := fun k hk => by
    obtain ⟨a, b⟩ := wmul hp (hy k hk).2
    rw [← hq k hk, a, pk_lRem b h0 (by omega)]
  have hrb : ∀ k, p * y k % S < 2 ^ 63 := fun k => by have := Nat.mod_lt (p * y k) h0; omega
  have key : ∀ (d i n : Nat), i + d = 15 → d < n → fSh_shareOf_l35 (nI p) (nI t) (nI S) (lN (p * y t % S)) f n (nI (p - yS (fun k => p * y k / S) i)) (nI (cb (fun k => decide (bef (fun k => p * y k % S) k t)) i)) (nI (i + 1)) = some (nI (p - yS (fun k => p * y k / S) 15), nI (cb (fun k => decide (bef (fun k => p * y k % S) k t)) 15)) := by
    intro d
    induction d with
    | zero =>
      intro i n hi hn
      obtain ⟨n, rfl⟩ : ∃ k, n = k + 1 := ⟨n - 1, by omega⟩
      have hi : i = 15 := by omega
      subst hi
      rw [fSh_shareOf_l35.eq_2, if_pos (show (16 : Int32) ≤ nI (15 + 1) from (nI_leI (a := 16) (b := (15 + 1)) (by omega) (by omega)).mpr (by omega))]
    | succ d ih =>
      intro i n hi hn
      obtain ⟨n, rfl⟩ : ∃ k, n = k + 1 := ⟨n - 1, by omega⟩
      have hk : i + 1 < 16 := by omega
      have hmono := yS_mono (fun k => p * y k / S) (a := i + 1) (b := 15) (by omega)
      have hs1 : yS (fun k => p * y k / S) (i + 1) = yS (fun k => p * y k / S) i + p * y (i + 1) / S := rfl
      have hc1 : cb (fun k => decide (bef (fun k => p * y k % S) k t)) (i + 1) = cb (fun k => decide (bef (fun k => p * y k % S) k t)) i + (if decide (bef (fun k => p * y k % S) (i + 1) t) = true then 1 else 0) := rfl
      rw [fSh_shareOf_l35.eq_2, if_neg (fun qq : (16 : Int32) ≤ nI (i + 1) => absurd ((nI_leI (a := 16) (b := (i + 1)) (by omega) (by omega)).mp qq) (by omega))]
      simp only [gdn hk (show 16 < 2 ^ 31 by decide), nI_clamp (show i + 1 < 2 ^ 31 by omega), (hy (i + 1) hk).1, hSl, gd_true hnz, hq (i + 1) hk, hr (i + 1) hk, lN_i, pk_sub (show p * y (i + 1) / S ≤ p - yS (fun k => p * y k / S) i by omega), nI_1 (i + 1), nI_1 (cb (fun k => decide (bef (fun k => p * y k % S) k t)) i)]
      have e1 : p - yS (fun k => p * y k / S) i - p * y (i + 1) / S = p - yS (fun k => p * y k / S) (i + 1) := by omega
      rw [e1]
      by_cases c1 : p * y t % S < p * y (i + 1) % S
      · rw [if_pos ((lg_cmp_gt _ _).mpr ((pk_lLT (hrb _) (hrb _)).mpr c1))]
        rw [if_pos (decide_eq_true (Or.inl c1))] at hc1
        have := ih (i + 1) n (by omega) (by omega)
        rw [hc1] at this
        exact this
      · rw [if_neg (fun z => c1 ((pk_lLT (hrb _) (hrb _)).mp ((lg_cmp_gt _ _).mp z)))]
        by_cases c2 : p * y (i + 1) % S = p * y t % S
        · rw [if_pos ((lg_cmp_eq _ _).mpr (by rw [c2]))]
          by_cases c3 : t ≤ i + 1
          · rw [if_pos ((nI_leI (by omega) (by omega)).mpr c3)]
            rw [if_neg (fun z => by rcases of_decide_eq_true z with z | z <;> dsimp only at z <;> omega)] at hc1
            have := ih (i + 1) n (by omega) (by omega)
            rw [hc1] at this
            exact this
          · rw [if_neg (fun z => c3 ((nI_leI (by omega) (by omega)).mp z))]
            rw [if_pos (decide_eq_true (Or.inr ⟨c2, by omega⟩))] at hc1
            have := ih (i + 1) n (by omega) (by omega)
            rw [hc1] at this
            exact this
        · rw [if_neg (fun z => c2 ((pk_lEQ (hrb _) (hrb _)).mp ((lg_cmp_eq _ _).mp z)))]
          rw [if_neg (fun z => by rcases of_decide_eq_true z with z | z <;> dsimp only at z <;> omega)] at hc1
          have := ih (i + 1) n (by omega) (by omega)
          rw [hc1] at this
          exact this
  have hk := key 15 0 FU rfl (FU_gt (by decide))
  have hk : fSh_shareOf_l35 (nI p) (nI t) (nI S) (lN (p * y t % S)) f FU (nI p) 0 1 = some (nI (p - yS (fun k => p * y k / S) 15), nI (cb (fun k => decide (bef (fun k => p * y k % S) k t)) 15)) := hk
  have hcb := cb_le_n (fun k => decide (bef (fun k => p * y k % S) k t)) 15
  unfold fSh_shareOf
  rw [all_n hy, ← hS, obs, if_pos (show (0 : Int32) < nI (S) from (nI_ltI (a := 0) (b := (S)) (by omega) (by omega)).mpr (by omega)), gdn ht (by decide), nI_clamp (by omega), (hy t ht).1, hSl, gd_true hnz, hq t ht, hr t ht, hk, obs, gdn ht (by decide), gd_true hnz, lN_i]
  dsimp only
  by_cases c : cb (fun k => decide (bef (fun k => p * y k % S) k t)) 15 < p - yS (fun k => p * y k / S) 15
  · rw [if_neg (fun z => absurd ((nI_leI (by omega) (by omega)).mp z) (by omega)), if_pos c, nI_1]
  · rw [if_pos ((nI_leI (by omega) (by omega)).mpr (by omega)), if_neg c]
    rfl
/-- what has been chosen -/
def PI (R : Nat → Nat) (i : Nat) (h : Nat → Int32) : Prop :=
  (∀ k, 1 ≤ k → k ≤ 15 → h k = 0 ∨ h k = 1) ∧ cb (fun k => decide (h k = 1)) 15 = i ∧ ∀ k j, 1 ≤ k → k ≤ 15 → 1 ≤ j → j ≤ 15 → h k = 1 → bef R j k → h j = 1
theorem PI_step {R : Nat → Nat} {i : Nat} {h : Nat → Int32} (hI : PI R i h) {b : Nat} (hb1 : 1 ≤ b) (hb : b ≤ 15) (h0 : h b = 0) (hmax : ∀ u, 1 ≤ u → u ≤ 15 → h u = 0 → R u < R b ∨ (R u = R b ∧ b ≤ u)) : PI R (i + 1) (upd h b 1) := by
  obtain ⟨h1, h2, h3⟩ := hI
  refine ⟨fun k a1 a2 => ?_, ?_, fun k j k1 k2 j1 j2 hk hbj => ?_⟩
  · by_cases e : k = b
    · rw [e, upd_s]; exact Or.inr rfl
    · rw [upd_n e]; exact h1 k a1 a2
  · rw [← h2]
    refine cb_add hb1 (P := fun k => decide (h k = 1)) (t := b) ?_ ?_ (fun k hk => ?_) hb
    · rw [h0]; decide
    · rw [upd_s]; decide
    · rw [upd_n hk]
  · by_cases ej : j = b
    · rw [ej, upd_s]
    · rw [upd_n ej]
      by_cases ek : k = b
      · subst ek
        rcases h1 j j1 j2 with z | z
        · rcases hmax j j1 j2 z with q | q <;> rcases hbj with w | w <;> omega
        · exact z
      · rw [upd_n ek] at hk
        exact h3 k j k1 k2 j1 j2 hk hbj
theorem PI_end {R : Nat → Nat} {i : Nat} {h : Nat → Int32} (hI : PI R i h) {t : Nat} (ht1 : 1 ≤ t) (ht : t ≤ 15) : h t = 1 ↔ cb (fun k => decide (bef R k t)) 15 < i := by
  obtain ⟨h1, h2, h3⟩ := hI
  constructor
  · intro e
    have := cb_lt (P := fun k => decide (bef R k t)) (P' := fun k => decide (h k = 1)) ht1 (t := t) (n := 15) (fun z => by rcases of_decide_eq_true z with w | w <;> omega) (decide_eq_true e) ht (fun k a b hk => decide_eq_true (h3 t k ht1 ht a b e (of_decide_eq_true hk)))
    omega
  · intro hlt
    rcases h1 t ht1 ht with z | z
    · exfalso
      have := cb_le (P := fun k => decide (h k = 1)) (P' := fun k => decide (bef R k t)) (n := 15) (fun k a b hk => by
        have hk1 : h k = 1 := of_decide_eq_true hk
        have hne : k ≠ t := fun q => by rw [q, z] at hk1; exact absurd hk1 (by decide)
        apply decide_eq_true
        by_cases q : bef R t k
        · have := h3 k t a b ht1 ht hk1 q
          rw [z] at this; exact absurd this (by decide)
        · unfold bef at q ⊢
          by_cases w : R t < R k
          · exact Or.inl w
          · refine Or.inr ⟨?_, ?_⟩
            · by_cases w2 : R k < R t
              · exact absurd (Or.inl w2) q
              · omega
            · by_cases w2 : R k < R t
              · exact absurd (Or.inl w2) q
              · by_cases w3 : t < k
                · exact absurd (Or.inr ⟨by omega, w3⟩) q
                · omega)
      omega
    · exact z
theorem op_parted {f g : Nat → Int32} (h : RSh f g) (hm : Nat → Int32) (a1 a2 : Int32) : ∃ r hm', fTL_parted a1 a2 f = some r ∧ fMM_parted a1 a2 g hm = some (r, hm') := by
  obtain ⟨rfl, hv⟩ := h
  have hw : ∃ y : Nat → Nat, ∀ k, k < 16 → f k = nI (y k) ∧ y k ≤ 10000 := by
    refine ⟨fun k => (f k).toNatClampNeg, fun k hk => ?_⟩
    obtain ⟨d, hd, e⟩ := hv k hk
    dsimp only
    rw [e, nI_clamp (by omega)]
    exact ⟨rfl, hd⟩
  obtain ⟨y, hy⟩ := hw
  -- the sum, and nobody chosen
  have k1 : ∀ (d i n : Nat) (m : Nat → Int32), i + d = 15 → d < n → (∀ k, 1 ≤ k → k ≤ i → m k = 0) → ∃ m', fMM_parted_l5 a1 a2 f n (nI (yS y i)) (nI (i + 1)) m = some (nI (yS y 15), m') ∧ ∀ k, 1 ≤ k → k ≤ 15 → m' k = 0 := by
    intro d
    induction d with
    | zero =>
      intro i n m hi hn hm
      obtain ⟨n, rfl⟩ : ∃ k, n = k + 1 := ⟨n - 1, by omega⟩
      have hi : i = 15 := by omega
      subst hi
      exact ⟨m, by rw [fMM_parted_l5.eq_2, if_pos (show (16 : Int32) ≤ nI (15 + 1) from (nI_leI (a := 16) (b := (15 + 1)) (by omega) (by omega)).mpr (by omega))], hm⟩
    | succ d ih =>
      intro i n m hi hn hm
      obtain ⟨n, rfl⟩ : ∃ k, n = k + 1 := ⟨n - 1, by omega⟩
      rw [fMM_parted_l5.eq_2, if_neg (fun qq : (16 : Int32) ≤ nI (i + 1) => absurd ((nI_leI (a := 16) (b := (i + 1)) (by omega) (by omega)).mp qq) (by omega)), gdn (by omega) (by decide), gdn (by omega) (by decide), nI_clamp (by omega), (hy (i + 1) (by omega)).1, nI_add, nI_1 (i + 1)]
      refine ih (i + 1) n _ (by omega) (by omega) (fun k a b => ?_)
      by_cases e : k = i + 1
      · rw [e, upd_s]; rfl
      · rw [upd_n e]; exact hm k a (by omega)
  obtain ⟨m1, q1, q2⟩ := k1 15 0 FU hm rfl (FU_gt (by decide)) (fun k a b => by omega)
  have q1 : fMM_parted_l5 a1 a2 f FU 0 1 hm = some (nI (yS y 15), m1) := q1
  unfold fTL_parted fMM_parted
  rw [q1, obs]
  dsimp only
  rcases in_or a1 0 100000 0 100000 rfl rfl (by decide) (by decide) with ⟨m3, t3⟩ | ⟨p, -, hp, rfl, m3, t3⟩
  · rw [if_pos m3]
    refine ⟨-1, m1, ?_, rfl⟩
    rcases town_or a2 with ⟨m2, t2⟩ | ⟨w, hw1, hw, rfl, m2, t2⟩
    · rw [if_pos t2]
    · rw [if_neg t2, if_pos t3]
  rw [if_neg m3, if_neg t3]
  rcases town_or a2 with ⟨m2, t2⟩ | ⟨t, ht1, ht, rfl, m2, t2⟩
  · exact ⟨-1, m1, by rw [if_pos t2], by rw [if_pos m2]⟩
  rw [if_neg t2, if_neg m2]
  have hSb : yS y 15 ≤ 150000 := yS_le (y := y) (c := 10000) (n := 15) (fun k _ hk => (hy k (by omega)).2)
  by_cases h0 : yS y 15 = 0
  · refine ⟨-1, m1, ?_, ?_⟩
    · unfold fSh_shareOf
      rw [all_n hy, h0, obs, if_neg (fun qq : (0 : Int32) < nI (0) => absurd ((nI_ltI (a := 0) (b := (0)) (by omega) (by omega)).mp qq) (by omega))]; rfl
    · rw [h0, if_pos (show nI (0) = (0 : Int32) from (nI_eq (a := (0)) (b := 0) (by omega) (by omega)).mpr (by omega))]
  · rw [if_neg (fun qq : nI (yS y 15) = (0 : Int32) => absurd ((nI_eq (a := (yS y 15)) (b := 0) (by omega) (by omega)).mp qq) (by omega))]
    generalize hS : yS y 15 = S at *
    have hS := hS.symm
    have h0 : 0 < S := by omega
    rw [shareX hy hp ht1 ht hS h0, obs]
    obtain ⟨r1, r2⟩ := rest_n (p := p) hS h0
    have hSl : (nI S).toInt64 = lN S := nI_l (by omega)
    have hnz : nzL (lN S) = true := by
      unfold nzL
      simp only [Bool.not_eq_true', decide_eq_false_iff_not]
      intro z
      have := (pk_lEQ (a := S) (b := 0) (by omega) (by decide)).mp z
      omega
    have hq : ∀ k, k < 16 → ((nI p).toInt64 * (nI (y k)).toInt64) / lN S = lN (p * y k / S) := fun k hk => by
      obtain ⟨a, b⟩ := wmul hp (hy k hk).2
      rw [a, pk_lDiv b h0 (by omega)]
    have hr : ∀ k, k < 16 → ((nI p).toInt64 * (nI (y k)).toInt64) - lN (p * y k / S) * lN S = lN (p * y k % S) := fun k hk => by
      obtain ⟨a, b⟩ := wmul hp (hy k hk).2
      rw [← hq k hk, a, pk_lRem b h0 (by omega)]
    have hrb : ∀ k, p * y k % S < 2 ^ 63 := fun k => by have := Nat.mod_lt (p * y k) h0; omega
    -- what is left
    have k2 : ∀ (d i n : Nat), i + d = 15 → d < n → fMM_parted_l65 (nI p) (nI t) (nI S) f n (nI (p - yS (fun k => p * y k / S) i)) (nI (i + 1)) = some (nI (p - yS (fun k => p * y k / S) 15)) := by
      intro d
      induction d with
      | zero =>
        intro i n hi hn
        obtain ⟨n, rfl⟩ : ∃ k, n = k + 1 := ⟨n - 1, by omega⟩
        have hi : i = 15 := by omega
        subst hi
        rw [fMM_parted_l65.eq_2, if_pos (show (16 : Int32) ≤ nI (15 + 1) from (nI_leI (a := 16) (b := (15 + 1)) (by omega) (by omega)).mpr (by omega))]
      | succ d ih =>
        intro i n hi hn
        obtain ⟨n, rfl⟩ : ∃ k, n = k + 1 := ⟨n - 1, by omega⟩
        have hk : i + 1 < 16 := by omega
        have hmono := yS_mono (fun k => p * y k / S) (a := i + 1) (b := 15) (by omega)
        have hs1 : yS (fun k => p * y k / S) (i + 1) = yS (fun k => p * y k / S) i + p * y (i + 1) / S := rfl
        rw [fMM_parted_l65.eq_2, if_neg (fun qq : (16 : Int32) ≤ nI (i + 1) => absurd ((nI_leI (a := 16) (b := (i + 1)) (by omega) (by omega)).mp qq) (by omega)), gdn hk (by decide), nI_clamp (by omega), (hy (i + 1) hk).1, hSl, gd_true hnz, hq (i + 1) hk, lN_i, pk_sub (by omega), nI_1 (i + 1), show p - yS (fun k => p * y k / S) i - p * y (i + 1) / S = p - yS (fun k => p * y k / S) (i + 1) by omega]
        exact ih (i + 1) n (by omega) (by omega)
    have k2 := k2 15 0 FU rfl (FU_gt (by decide))
    have k2 : fMM_parted_l65 (nI p) (nI t) (nI S) f FU (nI p) 1 = some (nI (p - yS (fun k => p * y k / S) 15)) := k2
    -- one choice
    have k3 : ∀ (m : Nat → Int32) (c : Int32) (aa : Int32), (∀ k, 1 ≤ k → k ≤ 15 → m k = 0 ∨ m k = 1) → ∀ (d i n : Nat) (x : Int32), i + d = 15 → d < n → ((x = -1 ∧ ∀ u, 1 ≤ u → u ≤ i → m u = 1) ∨ ∃ b, 1 ≤ b ∧ b ≤ i ∧ m b = 0 ∧ x = nI b ∧ ∀ u, 1 ≤ u → u ≤ i → m u = 0 → p * y u % S < p * y b % S ∨ (p * y u % S = p * y b % S ∧ b ≤ u)) → (∀ u, 1 ≤ u → u ≤ 15 → m u = 1) ∨ ∃ b, 1 ≤ b ∧ b ≤ 15 ∧ m b = 0 ∧ fMM_parted_l114 (nI p) (nI t) (nI S) aa c f m n x (nI (i + 1)) = some (nI b) ∧ ∀ u, 1 ≤ u → u ≤ 15 → m u = 0 → p * y u % S < p * y b % S ∨ (p * y u % S = p * y b % S ∧ b ≤ u) := by
      intro m c aa h01 d
      induction d with
      | zero =>
        intro i n x hi hn hI
        obtain ⟨n, rfl⟩ : ∃ k, n = k + 1 := ⟨n - 1, by omega⟩
        have hi : i = 15 := by omega
        subst hi
        rcases hI with ⟨-, h⟩ | ⟨b, hb1, hb, hb0, e, h⟩
        · exact Or.inl h
        · refine Or.inr ⟨b, hb1, hb, hb0, ?_, h⟩
          rw [fMM_parted_l114.eq_2, if_pos (show (16 : Int32) ≤ nI (15 + 1) from (nI_leI (a := 16) (b := (15 + 1)) (by omega) (by omega)).mpr (by omega)), e]
      | succ d ih =>
        intro i n x hi hn hI
        obtain ⟨n, rfl⟩ : ∃ k, n = k + 1 := ⟨n - 1, by omega⟩
        have hk : i + 1 < 16 := by omega
        have ext : ∀ (P : Nat → Prop), (∀ u, 1 ≤ u → u ≤ i → P u) → P (i + 1) → ∀ u, 1 ≤ u → u ≤ i + 1 → P u := fun P z1 z2 u a b => by
          by_cases q : u = i + 1
          · rw [q]; exact z2
          · exact z1 u a (by omega)
        rw [fMM_parted_l114.eq_2, if_neg (fun qq : (16 : Int32) ≤ nI (i + 1) => absurd ((nI_leI (a := 16) (b := (i + 1)) (by omega) (by omega)).mp qq) (by omega)), gdn hk (by decide), nI_clamp (by omega), nI_1 (i + 1)]
        by_cases c0 : m (i + 1) = 0
        · rw [if_pos c0]
          rcases hI with ⟨e, h⟩ | ⟨b, hb1, hb, hb0, e, h⟩
          · rw [e, if_pos m1_lt0]
            refine ih (i + 1) n _ (by omega) (by omega) (Or.inr ⟨i + 1, by omega, by omega, c0, rfl, ext (fun u => m u = 0 → _) (fun u a b z => ?_) (fun _ => Or.inr ⟨rfl, Nat.le_refl _⟩)⟩)
            rw [h u a b] at z; exact absurd z (by decide)
          · rw [e, if_neg (nI_pos (by omega))]
            simp only [gdn hk (show 16 < 2 ^ 31 by decide), gdn (show b < 16 by omega) (show 16 < 2 ^ 31 by decide), nI_clamp (show b < 2 ^ 31 by omega), (hy (i + 1) hk).1, (hy b (by omega)).1, hSl, gd_true hnz, hq (i + 1) hk, hq b (by omega), hr (i + 1) hk, hr b (by omega)]
            by_cases c1 : p * y (i + 1) % S ≤ p * y b % S
            · rw [if_pos ((lg_cmp_le _ _).mpr ((pk_lLE (hrb _) (hrb _)).mpr c1))]
              exact ih (i + 1) n _ (by omega) (by omega) (Or.inr ⟨b, hb1, by omega, hb0, rfl, ext (fun u => m u = 0 → _) h (fun _ => by omega)⟩)
            · rw [if_neg (fun z => c1 ((pk_lLE (hrb _) (hrb _)).mp ((lg_cmp_le _ _).mp z)))]
              refine ih (i + 1) n _ (by omega) (by omega) (Or.inr ⟨i + 1, by omega, by omega, c0, rfl, ext (fun u => m u = 0 → _) (fun u a b z => ?_) (fun _ => Or.inr ⟨rfl, Nat.le_refl _⟩)⟩)
              have := h u a b z
              omega
        · rw [if_neg c0]
          have c1 : m (i + 1) = 1 := (h01 (i + 1) (by omega) (by omega)).resolve_left c0
          refine ih (i + 1) n _ (by omega) (by omega) ?_
          rcases hI with ⟨e, h⟩ | ⟨b, hb1, hb, hb0, e, h⟩
          · exact Or.inl ⟨e, ext (fun u => m u = 1) h c1⟩
          · exact Or.inr ⟨b, hb1, by omega, hb0, e, ext (fun u => m u = 0 → _) h (fun z => absurd z c0)⟩
    -- all choices
    have k4 : ∀ (d i n : Nat) (m : Nat → Int32), i + d = p - yS (fun k => p * y k / S) 15 → d < n → PI (fun k => p * y k % S) i m → ∃ m', fMM_parted_l101 (nI p) (nI t) (nI S) (nI (p - yS (fun k => p * y k / S) 15)) f n (nI i) m = some m' ∧ PI (fun k => p * y k % S) (p - yS (fun k => p * y k / S) 15) m' := by
      intro d
      induction d with
      | zero =>
        intro i n m hi hn hI
        obtain ⟨n, rfl⟩ : ∃ k, n = k + 1 := ⟨n - 1, by omega⟩
        have hi : i = p - yS (fun k => p * y k / S) 15 := by omega
        rw [← hi]
        exact ⟨m, by rw [fMM_parted_l101.eq_2, if_pos (Int32.le_refl _)], hI⟩
      | succ d ih =>
        intro i n m hi hn hI
        obtain ⟨n, rfl⟩ : ∃ k, n = k + 1 := ⟨n - 1, by omega⟩
        rw [fMM_parted_l101.eq_2, if_neg (fun qq : nI (p - yS (fun k => p * y k / S) 15) ≤ nI (i) => absurd ((nI_leI (a := (p - yS (fun k => p * y k / S) 15)) (b := (i)) (by omega) (by omega)).mp qq) (by omega))]
        rcases k3 m (nI i) (nI (p - yS (fun k => p * y k / S) 15)) hI.1 15 0 FU (-1) rfl (FU_gt (by decide)) (Or.inl ⟨rfl, fun u a b => by omega⟩) with z | ⟨b, hb1, hb, hb0, z, hmax⟩
        · have := cb_all (P := fun k => decide (m k = 1)) (n := 15) (fun k a b => decide_eq_true (z k a b))
          have := hI.2.1
          omega
        · have z : fMM_parted_l114 (nI p) (nI t) (nI S) (nI (p - yS (fun k => p * y k / S) 15)) (nI i) f m FU (-1) 1 = some (nI b) := z
          rw [z, obs, gdn (by omega) (by decide), nI_clamp (by omega), nI_1 i]
          exact ih (i + 1) n _ (by omega) (by omega) (PI_step hI hb1 hb hb0 hmax)
    have hP0 : PI (fun k => p * y k % S) 0 m1 := by
      refine ⟨fun k a b => Or.inl (q2 k a b), ?_, fun k j a b _ _ z => ?_⟩
      · have : ∀ n, n ≤ 15 → cb (fun k => decide (m1 k = 1)) n = 0 := by
          intro n
          induction n with
          | zero => intro _; rfl
          | succ n ih =>
            intro hn
            show cb (fun k => decide (m1 k = 1)) n + (if decide (m1 (n + 1) = 1) = true then 1 else 0) = 0
            rw [ih (by omega), q2 (n + 1) (by omega) hn, if_neg (by decide)]
        exact this 15 (Nat.le_refl _)
      · rw [q2 k a b] at z; exact absurd z (by decide)
    obtain ⟨m2', z1, z2⟩ := k4 (p - yS (fun k => p * y k / S) 15) 0 FU m1 (by omega) (FU_gt (by omega)) hP0
    have z1 : fMM_parted_l101 (nI p) (nI t) (nI S) (nI (p - yS (fun k => p * y k / S) 15)) f FU 0 m1 = some m2' := z1
    refine ⟨_, m2', rfl, ?_⟩
    rw [k2, obs, z1, obs]
    simp only [gdn ht (show 16 < 2 ^ 31 by decide), nI_clamp (show t < 2 ^ 31 by omega), (hy t ht).1, hSl, gd_true hnz, hq t ht, lN_i]
    have hend := PI_end z2 ht1 (by omega)
    by_cases c : cb (fun k => decide (bef (fun k => p * y k % S) k t)) 15 < p - yS (fun k => p * y k / S) 15
    · rw [if_pos c, hend.mpr c, if_neg n10, nI_1]
    · rw [if_neg c]
      rcases z2.1 t ht1 (by omega) with z | z
      · rw [z, if_pos rfl, show nI (p * y t / S) + 0 = nI (p * y t / S) from Int32.add_zero _]
        rfl
      · exact absurd (hend.mp z) c
