/-! feed, end, fault, tells, yields, market, bartered -/
theorem bp_b (x : Int32) : x.toInt8.toInt32 &&& 255 = x &&& 255 := by
  apply Int32.toBitVec_inj.mp
  rw [Int32.toBitVec_and, Int32.toBitVec_and, Int8.toBitVec_toInt32, Int32.toBitVec_toInt8]
  apply BitVec.eq_of_getLsbD_eq
  intro i hi
  rw [BitVec.getLsbD_and, BitVec.getLsbD_and]
  have hm : ∀ i < 32, 8 ≤ i → (255 : Int32).toBitVec.getLsbD i = false := by decide
  rcases Nat.lt_or_ge i 8 with z | z
  · rw [BitVec.getLsbD_signExtend, BitVec.getLsbD_signExtend, if_pos z, if_pos hi]
    simp only [z, hi, decide_true, Bool.true_and]
  · rw [hm i hi z]; simp
theorem FU_s (k : Nat) (h : k ≤ 1000000000) : FU = (1000000000 - k) + k := by unfold FU; omega
/-- tape -/
def RBy (b t : Nat → Int32) : Prop := ∀ i, i < 300 → b i &&& 255 = t i
theorem RBy_put {b t : Nat → Int32} (h : RBy b t) (n : Nat) (x : Int32) : RBy (upd b n (vp_nar .byte x.toInt8.toInt32)) (upd t n (x &&& 255)) := by
  intro i hi
  unfold upd
  by_cases e : i = n
  · rw [if_pos e, if_pos e, pk_vb, bp_b]
  · rw [if_neg e, if_neg e]; exact h i hi
theorem app_step {a : Int32} {k n : Nat} {sh : Int32} {b : Nat → Int32} (hs : ¬ sh < 0) (hn : n < 300) : fTa_append_l3 a (k + 1) sh b (nI n) = fTa_append_l3 a k (sh + -8) (upd b n (vp_nar .byte (a >>> (sh &&& 31)).toInt8.toInt32)) (nI (n + 1)) := by
  rw [fTa_append_l3.eq_2, if_neg hs, if_neg (fun q : (300 : Int32) ≤ nI n => absurd ((nI_leI (a := 300) (by decide) (by omega)).mp q) (by omega)), gdn hn (by decide), nI_clamp (by omega), nI_1]
theorem four_step {a : Int32} {k n : Nat} {sh : Int32} {t : Nat → Int32} (hs : ¬ sh < 0) (hn : n < 300) : fMM_four_l3 a (k + 1) sh t (nI n) = fMM_four_l3 a k (sh + -8) (upd t n ((a >>> (sh &&& 31)) &&& 255)) (nI (n + 1)) := by
  rw [fMM_four_l3.eq_2, if_neg hs, gdn hn (by decide), nI_clamp (by omega), nI_1]
theorem feed4 {b t : Nat → Int32} {n : Nat} (hn : n + 4 ≤ 300) (h : RBy b t) (a : Int32) : ∃ b' t', fTa_append a b (nI n) = some (b', nI (n + 4)) ∧ fMM_four a t (nI n) = some (t', nI (n + 4)) ∧ RBy b' t' := by
  unfold fTa_append fMM_four
  rw [FU_s 5 (by decide)]
  have s1 : (24 : Int32) + -8 = 16 := by decide
  have s2 : (16 : Int32) + -8 = 8 := by decide
  have s3 : (8 : Int32) + -8 = 0 := by decide
  have s4 : (0 : Int32) + -8 = -8 := by decide
  rw [app_step (by decide) (by omega), app_step (by decide) (by omega), app_step (by decide) (by omega), app_step (by decide) (by omega)]
  rw [four_step (by decide) (by omega), four_step (by decide) (by omega), four_step (by decide) (by omega), four_step (by decide) (by omega)]
  rw [s1, s2, s3, s4, fTa_append_l3.eq_2, fMM_four_l3.eq_2, if_pos (by decide), if_pos (by decide)]
  exact ⟨_, _, rfl, rfl, RBy_put (RBy_put (RBy_put (RBy_put h _ _) _ _) _ _) _ _⟩
def RTa (b : Nat → Int32) (s : Int32) (t : Nat → Int32) (m : Int32) : Prop := RBy b t ∧ ∃ n, n ≤ 300 ∧ s = nI n ∧ m = nI n
theorem op_feed {b t : Nat → Int32} {s m : Int32} (h : RTa b s t m) (a1 a2 a3 a4 a5 : Int32) : ∃ r b' s' t' m', fTL_feed a1 a2 a3 a4 a5 b s = some (r, b', s') ∧ fMM_feed a1 a2 a3 a4 a5 t m = some (r, t', m') ∧ RTa b' s' t' m' := by
  obtain ⟨h, n, hn, rfl, rfl⟩ := h
  unfold fTL_feed fMM_feed fTa_hasRoomForFive
  rw [show nI n + 20 = nI (n + 20) from nI_add n 20]
  by_cases c : n ≤ 280
  · rw [if_neg (fun q : (280 : Int32) < nI n => absurd ((nI_ltI (a := 280) (by decide) (by omega)).mp q) (by omega)), if_neg n10, if_pos (show nI (n + 20) ≤ (300 : Int32) from (nI_leI (b := 300) (by omega) (by decide)).mpr (by omega))]
    obtain ⟨b1, t1, x1, y1, h⟩ := feed4 (n := n) (by omega) h a1
    rw [x1, y1, obs, obs]
    obtain ⟨b2, t2, x1, y1, h⟩ := feed4 (n := n + 4) (by omega) h a2
    dsimp only
    rw [x1, y1, obs, obs]
    obtain ⟨b3, t3, x1, y1, h⟩ := feed4 (n := n + 4 + 4) (by omega) h a3
    dsimp only
    rw [x1, y1, obs, obs]
    obtain ⟨b4, t4, x1, y1, h⟩ := feed4 (n := n + 4 + 4 + 4) (by omega) h a4
    dsimp only
    rw [x1, y1, obs, obs]
    obtain ⟨b5, t5, x1, y1, h⟩ := feed4 (n := n + 4 + 4 + 4 + 4) (by omega) h a5
    dsimp only
    rw [x1, y1, obs, obs]
    exact ⟨_, _, _, _, _, rfl, rfl, h, n + 4 + 4 + 4 + 4 + 4, by omega, rfl, rfl⟩
  · rw [if_pos (show (280 : Int32) < nI n from (nI_ltI (a := 280) (by decide) (by omega)).mpr (by omega)), if_pos rfl, if_neg (fun q : nI (n + 20) ≤ (300 : Int32) => absurd ((nI_leI (b := 300) (by omega) (by decide)).mp q) (by omega))]
    exact ⟨_, _, _, _, _, rfl, rfl, h, n, hn, rfl, rfl⟩
theorem op_end {b t : Nat → Int32} {s m : Int32} (h : RTa b s t m) (a1 : Int32) : ∃ r s' m', fTL_end a1 s = (r, s') ∧ fMM_end a1 m = (r, m') ∧ RTa b s' t m' := by
  obtain ⟨h, n, hn, rfl, rfl⟩ := h
  unfold fTL_end fMM_end fTa_size fTa_cut
  rcases in_or a1 0 (nI n) 0 n rfl rfl (by decide) (by omega) with ⟨m3, t3⟩ | ⟨d, -, hd, rfl, m3, t3⟩
  · exact ⟨-1, nI n, nI n, by rw [if_pos t3], by rw [if_pos m3], h, n, hn, rfl, rfl⟩
  · exact ⟨nI d, nI d, nI d, by rw [if_neg t3], by rw [if_neg m3], h, d, by omega, rfl, rfl⟩
/-- the latest text's fault -/
def RFa (any kind place fault fplace : Int32) : Prop := (any = 0 ∧ fault = -1 ∧ fplace = -1) ∨ (any = 1 ∧ kind = fault ∧ place = fplace)
theorem op_fault {any kind place fault fplace : Int32} (h : RFa any kind place fault fplace) (a1 : Int32) : ∃ r, fTL_fault a1 any kind place = some r ∧ fMM_fault a1 fault fplace = r := by
  unfold fTL_fault fLi_hasRead fMM_fault fLi_faultKind fLi_faultPlace
  rcases h with ⟨rfl, rfl, rfl⟩ | ⟨rfl, rfl, rfl⟩
  · rw [gd_true (by decide), obs, if_pos rfl]
    refine ⟨-1, rfl, ?_⟩
    repeat' split
    all_goals rfl
  · rw [gd_true (by decide), obs, if_neg n10]
    by_cases e : a1 = 0
    · exact ⟨_, by rw [if_pos e], by rw [if_pos e]⟩
    · by_cases e1 : a1 = 1
      · exact ⟨_, by rw [if_neg e, if_pos e1], by rw [if_neg e, if_pos e1]⟩
      · exact ⟨_, by rw [if_neg e, if_neg e1], by rw [if_neg e, if_neg e1]⟩
/-- the copies -/
def RTo (T : Nat → Nat → Int32) (t : Nat → Int32) : Prop := ∀ c s, c < 5 → s < 96 → T c s = t (96 * c + s) ∧ (T c s = -1 ∨ ∃ d, d ≤ 9999 ∧ T c s = nI d)
theorem slot_n (t g : Nat) : fTL_slot (nI t) (nI g) = nI (t * 6 + g) := ix_mr t g 6
theorem toldBy_n {T : Nat → Nat → Int32} {c s : Nat} (hc : c < 5) (hs : s < 96) : fCo_toldBy (nI c) (nI s) T = some (T c s) := by
  unfold fCo_toldBy
  rw [gdn hc (by decide), gdn hs (by decide), nI_clamp (by omega), nI_clamp (by omega)]
theorem ix96 (c t g : Nat) : 96 * nI c + 6 * nI t + nI g = nI (96 * c + (t * 6 + g)) := by
  rw [show (96 : Int32) = nI 96 from rfl, show (6 : Int32) = nI 6 from rfl, pk_mul, pk_mul, nI_add, nI_add]
  congr 1
  omega
theorem tellsOf_n {t : Nat → Int32} {c w g : Nat} (hc : c < 5) (hw : w < 16) (hg : g < 6) : fMM_tellsOf (nI c) (nI w) (nI g) t = some (t (96 * c + (w * 6 + g))) := by
  unfold fMM_tellsOf
  rw [ix96, gdn (by omega) (by decide), nI_clamp (by omega)]
theorem op_tells {T : Nat → Nat → Int32} {t : Nat → Int32} (h : RTo T t) (a1 a2 a3 : Int32) : ∃ r, fTL_tells a1 a2 a3 T = some r ∧ fMM_tells a1 a2 a3 t = some r := by
  unfold fTL_tells fMM_tells fTL_isCopy
  rcases in_or a1 0 4 0 4 rfl rfl (by decide) (by decide) with ⟨m1, t1⟩ | ⟨c, -, hc, rfl, m1, t1⟩
  · exact ⟨-1, by rw [if_pos t1], by rw [if_pos m1]⟩
  rw [if_neg t1, if_neg m1]
  rcases town_or a2 with ⟨m2, t2⟩ | ⟨w, hw1, hw, rfl, m2, t2⟩
  · exact ⟨-1, by rw [if_pos t2], by rw [if_pos m2]⟩
  rw [if_neg t2, if_neg m2]
  rcases good_or a3 with ⟨m3, t3⟩ | ⟨g, hg, rfl, m3, t3⟩
  · exact ⟨-1, by rw [if_pos t3], by rw [if_pos m3]⟩
  rw [if_neg t3, if_neg m3, slot_n, toldBy_n (by omega) (by omega), tellsOf_n (by omega) hw hg, obs, obs, (h c (w * 6 + g) (by omega) (by omega)).1]
  exact ⟨_, rfl, rfl⟩
/-- yields -/
def RSh (f g : Nat → Int32) : Prop := f = g ∧ ∀ k, k < 16 → ∃ d, d ≤ 10000 ∧ g k = nI d
theorem op_yields {f g : Nat → Int32} (h : RSh f g) (a1 a2 : Int32) : ∃ r f' g', fTL_yields a1 a2 f = some (r, f') ∧ fMM_yields a1 a2 g = some (r, g') ∧ RSh f' g' := by
  obtain ⟨rfl, hv⟩ := h
  unfold fTL_yields fMM_yields fSh_setYield
  rcases town_or a1 with ⟨m2, t2⟩ | ⟨w, hw1, hw, rfl, m2, t2⟩
  · exact ⟨0, f, f, by rw [if_pos t2], by rw [if_pos m2], rfl, hv⟩
  rw [if_neg t2, if_neg m2]
  rcases in_or a2 0 10000 0 10000 rfl rfl (by decide) (by decide) with ⟨m3, t3⟩ | ⟨d, -, hd, rfl, m3, t3⟩
  · exact ⟨0, f, f, by rw [if_pos t3], by rw [if_pos m3], rfl, hv⟩
  rw [if_neg t3, if_neg m3, gdn hw (by decide), gdn hw (by decide), nI_clamp (by omega), obs]
  refine ⟨1, _, _, rfl, rfl, rfl, fun k hk => ?_⟩
  unfold upd
  by_cases e : k = w
  · rw [if_pos e]; exact ⟨d, hd, rfl⟩
  · rw [if_neg e]; exact hv k hk
/-- markets -/
def RMa (f1 a1 f2 a2 : Nat → Int32) (n : Int32) (m : Int32) (g1 b1 g2 b2 : Nat → Int32) : Prop := f1 = g1 ∧ a1 = b1 ∧ f2 = g2 ∧ a2 = b2 ∧ ∃ c, c ≤ 20 ∧ n = nI c ∧ m = nI c ∧ ∀ k, k < c → ∃ i j a b, i < 6 ∧ j < 6 ∧ i ≠ j ∧ 1 ≤ a ∧ a ≤ 99 ∧ 1 ≤ b ∧ b ≤ 99 ∧ g1 k = nI i ∧ g2 k = nI j ∧ b1 k = nI a ∧ b2 k = nI b
theorem op_market {f1 a1 f2 a2 : Nat → Int32} {n m : Int32} {g1 b1 g2 b2 : Nat → Int32} (h : RMa f1 a1 f2 a2 n m g1 b1 g2 b2) (x1 x2 x3 x4 : Int32) : ∃ r f1' a1' f2' a2' n' m' g1' b1' g2' b2', fTL_market x1 x2 x3 x4 f1 a1 f2 a2 n = some (r, f1', a1', f2', a2', n') ∧ fMM_market x1 x2 x3 x4 m g1 b1 g2 b2 = some (r, m', g1', b1', g2', b2') ∧ RMa f1' a1' f2' a2' n' m' g1' b1' g2' b2' := by
  obtain ⟨rfl, rfl, rfl, rfl, c, hc, rfl, rfl, hv⟩ := h
  have same : RMa f1 a1 f2 a2 (nI c) (nI c) f1 a1 f2 a2 := ⟨rfl, rfl, rfl, rfl, c, hc, rfl, rfl, hv⟩
  unfold fTL_market fMM_market
  rcases good_or x1 with ⟨m1, t1⟩ | ⟨i, hi, rfl, m1, t1⟩
  · exact ⟨-1, _, _, _, _, _, _, _, _, _, _, by rw [if_pos t1], by rw [if_pos m1], same⟩
  rw [if_neg t1, if_neg m1]
  rcases good_or x3 with ⟨m1, t1⟩ | ⟨j, hj, rfl, m1, t1⟩
  · exact ⟨-1, _, _, _, _, _, _, _, _, _, _, by rw [if_pos t1], by rw [if_pos m1], same⟩
  rw [if_neg t1, if_neg m1]
  by_cases e : nI i = nI j
  · exact ⟨-1, _, _, _, _, _, _, _, _, _, _, by rw [if_pos e], by rw [if_pos e], same⟩
  rw [if_neg e, if_neg e]
  have hij : i ≠ j := fun q => e (by rw [q])
  rcases in_or x2 1 99 1 99 rfl rfl (by decide) (by decide) with ⟨m3, t3⟩ | ⟨a, ha1, ha2, rfl, m3, t3⟩
  · exact ⟨-1, _, _, _, _, _, _, _, _, _, _, by rw [if_pos t3], by rw [if_pos m3], same⟩
  rw [if_neg t3, if_neg m3]
  rcases in_or x4 1 99 1 99 rfl rfl (by decide) (by decide) with ⟨m3, t3⟩ | ⟨b, hb1, hb2, rfl, m3, t3⟩
  · exact ⟨-1, _, _, _, _, _, _, _, _, _, _, by rw [if_pos t3], by rw [if_pos m3], same⟩
  rw [if_neg t3, if_neg m3]
  unfold fMa_isFull fMa_add
  by_cases hf : c = 20
  · rw [if_neg (fun q : nI c < (20 : Int32) => absurd ((nI_ltI (b := 20) (by omega) (by decide)).mp q) (by omega)), if_neg n10, if_pos (show nI c = (20 : Int32) by rw [hf]; rfl)]
    exact ⟨-1, _, _, _, _, _, _, _, _, _, _, rfl, rfl, same⟩
  · have hc2 : c < 20 := by omega
    rw [if_pos (show nI c < (20 : Int32) from (nI_ltI (b := 20) (by omega) (by decide)).mpr hc2), if_pos rfl, if_neg (fun q : nI c = (20 : Int32) => hf ((nI_eq (b := 20) (by omega) (by decide)).mp q))]
    rw [gdn hc2 (by decide), gdn hc2 (by decide), gdn hc2 (by decide), gdn hc2 (by decide), gdn hc2 (by decide), gdn hc2 (by decide), gdn hc2 (by decide), gdn hc2 (by decide), nI_clamp (by omega), obs]
    refine ⟨_, _, _, _, _, _, _, _, _, _, _, rfl, rfl, rfl, rfl, rfl, rfl, c + 1, by omega, nI_1 c, nI_1 c, fun k hk => ?_⟩
    unfold upd
    by_cases q : k = c
    · rw [if_pos q, if_pos q, if_pos q, if_pos q]
      exact ⟨i, j, a, b, hi, hj, hij, ha1, ha2, hb1, hb2, rfl, rfl, rfl, rfl⟩
    · rw [if_neg q, if_neg q, if_neg q, if_neg q]
      exact hv k (by omega)
theorem in_cnt (x : Int32) {n : Nat} (hn : n < 2 ^ 31) : (fMM_isIn x 0 (nI n - 1) = 0 ∧ fTL_within x 0 (nI n - 1) = 0) ∨ ∃ k, k < n ∧ x = nI k ∧ ¬ fMM_isIn x 0 (nI n - 1) = 0 ∧ ¬ fTL_within x 0 (nI n - 1) = 0 := by
  by_cases h0 : n = 0
  · left
    subst h0
    have h : fMM_isIn x 0 (nI 0 - 1) = 0 := by
      unfold fMM_isIn
      by_cases h1 : x < 0
      · rw [if_pos h1]
      · rw [if_neg h1, if_pos]
        rw [show nI 0 - 1 = (-1 : Int32) by decide]
        rw [Int32.lt_iff_toInt_lt] at h1 ⊢
        have e0 : (0 : Int32).toInt = 0 := by decide
        have e1 : (-1 : Int32).toInt = -1 := by decide
        omega
    exact ⟨h, h⟩
  · have e : nI n - 1 = nI (n - 1) := pk_sub (a := n) (b := 1) (by omega)
    rw [e]
    rcases in_or x 0 (nI (n - 1)) 0 (n - 1) rfl rfl (by decide) (by omega) with h | ⟨k, -, hk, e2, h⟩
    · exact Or.inl h
    · exact Or.inr ⟨k, by omega, e2, h⟩
/-- the latest barter -/
def RBe (best : Nat → Int32) (n : Int32) (m : Int32) (row : Nat → Int32) : Prop := ∃ c, c ≤ 5 ∧ n = nI c ∧ m = nI c ∧ ∀ k, k < c → best k = row k
theorem op_bartered {best : Nat → Int32} {n m : Int32} {row : Nat → Int32} (h : RBe best n m row) (x : Int32) : ∃ r, fTL_bartered x best n = some r ∧ fMM_bartered x m row = some r := by
  obtain ⟨c, hc, rfl, rfl, hv⟩ := h
  unfold fTL_bartered fMM_bartered fMa_bestLength fMa_bestStep
  rcases in_cnt x (n := c) (by omega) with ⟨m3, t3⟩ | ⟨k, hk, rfl, m3, t3⟩
  · exact ⟨-1, by rw [if_pos t3], by rw [if_pos m3]⟩
  · rw [if_neg t3, if_neg m3, gdn (by omega) (by decide), gdn (by omega) (by decide), nI_clamp (by omega), obs, hv k hk]
    exact ⟨_, rfl, rfl⟩
