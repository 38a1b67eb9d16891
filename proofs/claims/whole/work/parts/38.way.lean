/-! the shortest way: two searches -/
/-- settling, on numbers -/
theorem lowB {W : Nat → Nat → Nat} {a : Nat} {g d : Nat → Nat} (hf : ∀ k j, k < 16 → j < 16 → W k j ≠ 0 → g j ≤ g k + W k j) (ha : g a = 0) (hp : ∀ j, j < 16 → j ≠ a → d j < 1000000 → ∃ k, k < 16 ∧ W k j ≠ 0 ∧ d k + W k j ≤ d j) : ∀ (N j : Nat), d j ≤ N → j < 16 → d j < 1000000 → g j ≤ d j := by
  intro N
  induction N with
  | zero =>
    intro j hN hj hd
    by_cases e : j = a
    · subst e; omega
    · obtain ⟨k, hk, hw, h⟩ := hp j hj e hd
      omega
  | succ N ih =>
    intro j hN hj hd
    by_cases e : j = a
    · subst e; omega
    · obtain ⟨k, hk, hw, h⟩ := hp j hj e hd
      have h1 := ih k (by omega) hk (by omega)
      have h2 := hf k j hk hj hw
      omega
theorem upB {W : Nat → Nat → Nat} {a m : Nat} {g d : Nat → Nat} {st : Nat → Prop} (hda : d a = 0) (hp : ∀ j, j < 16 → j ≠ a → g j < 100000 → ∃ k, k < 16 ∧ W k j ≠ 0 ∧ g k + W k j ≤ g j) (hs : ∀ k, k < 16 → st k → ∀ j, j < 16 → W k j ≠ 0 → d j ≤ d k + W k j) (hm : ∀ u, u < 16 → ¬ st u → m ≤ d u) : ∀ (N j : Nat), g j ≤ N → j < 16 → g j < 100000 → d j ≤ g j ∨ m ≤ g j := by
  intro N
  induction N with
  | zero =>
    intro j hN hj hg
    by_cases e : j = a
    · subst e; left; omega
    · obtain ⟨k, hk, hw, h⟩ := hp j hj e hg
      omega
  | succ N ih =>
    intro j hN hj hg
    by_cases e : j = a
    · subst e; left; omega
    · obtain ⟨k, hk, hw, h⟩ := hp j hj e hg
      rcases ih k (by omega) hk (by omega) with h1 | h1
      · by_cases hst : st k
        · have := hs k hk hst j hj hw
          left; omega
        · have := hm k hk hst
          right; omega
      · right; omega
/-- relaxing from e -/
def rlx (W : Nat → Nat → Nat) (e : Nat) (d : Nat → Nat) : Nat → Nat := fun j => if W e j = 0 then d j else min (d e + W e j) (d j)
theorem rlx_le (W : Nat → Nat → Nat) (e : Nat) (d : Nat → Nat) (j : Nat) : rlx W e d j ≤ d j := by
  unfold rlx
  split
  · exact Nat.le_refl _
  · exact Nat.min_le_right _ _
theorem rlx_e (W : Nat → Nat → Nat) (e : Nat) (d : Nat → Nat) : rlx W e d e = d e := by
  unfold rlx
  split
  · rfl
  · omega
def DI (W : Nat → Nat → Nat) (a n : Nat) (d : Nat → Nat) (s : Nat → Int32) : Prop :=
  d a = 0 ∧ (∀ j, j < 16 → d j ≤ 1000000) ∧ (∀ j, j < 16 → j ≠ a → d j < 1000000 → ∃ k, k < 16 ∧ W k j ≠ 0 ∧ d k + W k j ≤ d j) ∧ (∀ k, k < 16 → s k = 1 → ∀ j, j < 16 → W k j ≠ 0 → d j ≤ d k + W k j) ∧ (∀ k u, k < 16 → u < 16 → s k = 1 → ¬ s u = 1 → d k ≤ d u) ∧ (∀ j, j < 16 → d j < 1000000 → d j ≤ 30 * n) ∧ (∀ k, k < 16 → s k = 0 ∨ s k = 1) ∧ cntv s 1 16 = n
theorem DI_step {W : Nat → Nat → Nat} {a n : Nat} {d : Nat → Nat} {s : Nat → Int32} (h : DI W a n d s) (hW : ∀ k j, k < 16 → j < 16 → W k j ≤ 30) {e : Nat} (he : e < 16) (hs : s e = 0) (hd : d e < 1000000) (hmin : ∀ u, u < 16 → s u = 0 → d e ≤ d u) : DI W a (n + 1) (rlx W e d) (upd s e 1) := by
  obtain ⟨h1, h2, h3, h4, h5, h6, h7, h8⟩ := h
  have hse : ∀ k, k < 16 → s k = 1 → rlx W e d k = d k := by
    intro k hk hs1
    have := h5 k e hk he hs1 (by rw [hs]; decide)
    unfold rlx
    split
    · rfl
    · omega
  have hne : s e ≠ 1 := by rw [hs]; decide
  have hst : ∀ k, upd s e 1 k = 1 → k = e ∨ s k = 1 := fun k hk => by
    by_cases q : k = e
    · exact Or.inl q
    · rw [upd_n q] at hk; exact Or.inr hk
  refine ⟨?_, fun j hj => ?_, fun j hj ja hd => ?_, fun k hk hs1 j hj hw => ?_, fun k u hk hu hs1 hs2 => ?_, fun j hj hdj => ?_, fun k hk => ?_, by rw [cntv_upd hne he, h8]⟩
  · have := rlx_le W e d a; omega
  · have := rlx_le W e d j; have := h2 j hj; omega
  · by_cases c : rlx W e d j = d j
    · obtain ⟨k, hk, hw, hle⟩ := h3 j hj ja (by omega)
      have := rlx_le W e d k
      exact ⟨k, hk, hw, by omega⟩
    · have hw : W e j ≠ 0 := fun q => c (if_pos q)
      have hr : rlx W e d j = min (d e + W e j) (d j) := if_neg hw
      refine ⟨e, he, hw, ?_⟩
      rw [rlx_e]
      omega
  · rcases hst k hs1 with q | q
    · subst q
      rw [rlx_e]
      have hr : rlx W k d j = min (d k + W k j) (d j) := if_neg hw
      omega
    · rw [hse k hk q]
      have := h4 k hk q j hj hw
      have := rlx_le W e d j
      omega
  · have hue : u ≠ e := fun q => hs2 (by rw [q, upd_s])
    rw [upd_n hue] at hs2
    have hu0 : s u = 0 := (h7 u hu).resolve_right hs2
    have hmu := hmin u hu hu0
    have hge : d e ≤ rlx W e d u := by
      unfold rlx
      split
      · exact hmu
      · omega
    rcases hst k hs1 with q | q
    · subst q; rw [rlx_e]; exact hge
    · rw [hse k hk q]
      have := h5 k e hk he q hne
      omega
  · by_cases c : rlx W e d j = d j
    · have := h6 j hj (by omega); omega
    · have hw : W e j ≠ 0 := fun q => c (if_pos q)
      have hr : rlx W e d j = min (d e + W e j) (d j) := if_neg hw
      have := h6 e he hd
      have := hW e j he hj
      omega
  · by_cases q : k = e
    · right; rw [q, upd_s]
    · rw [upd_n q]; exact h7 k hk
theorem DI_0 {W : Nat → Nat → Nat} {a : Nat} {d : Nat → Nat} {s : Nat → Int32} (ha : a < 16) (hd : ∀ j, j < 16 → d j = if j = a then 0 else 1000000) (hs : ∀ j, j < 16 → s j = 0) : DI W a 0 d s := by
  refine ⟨by rw [hd a ha, if_pos rfl], fun j hj => ?_, fun j hj ja h => ?_, fun k hk h => ?_, fun k u hk hu h => ?_, fun j hj h => ?_, fun k hk => Or.inl (hs k hk), ?_⟩
  · rw [hd j hj]; split <;> omega
  · rw [hd j hj, if_neg ja] at h; omega
  · rw [hs k hk] at h; exact absurd h (by decide)
  · rw [hs k hk] at h; exact absurd h (by decide)
  · rw [hd j hj] at h ⊢
    split at h
    · rw [if_pos (by assumption)]; omega
    · omega
  · have : ∀ n, n ≤ 16 → cntv s 1 n = 0 := by
      intro n
      induction n with
      | zero => intro _; rfl
      | succ n ih =>
        intro hn
        show cntv s 1 n + _ = 0
        rw [ih (by omega), hs n (by omega), if_neg (by decide)]
    exact this 16 (Nat.le_refl _)
/-- the program's loops -/
theorem near_n {d : Nat → Nat} {r s : Nat → Int32} (hr : ∀ j, j < 16 → r j = nI (d j) ∧ d j ≤ 1000000) (h7 : ∀ k, k < 16 → s k = 0 ∨ s k = 1) : (fRo_nearestOpen r s = some (-1) ∧ ∀ u, u < 16 → s u = 0 → 1000000 ≤ d u) ∨ ∃ e, e < 16 ∧ s e = 0 ∧ d e < 1000000 ∧ fRo_nearestOpen r s = some (nI e) ∧ ∀ u, u < 16 → s u = 0 → d e ≤ d u := by
  have key : ∀ (k i n : Nat) (a1 a2 : Int32), i + k = 16 → k < n → ((a1 = -1 ∧ a2 = 1000000 ∧ ∀ u, u < i → s u = 0 → 1000000 ≤ d u) ∨ ∃ e, e < 16 ∧ s e = 0 ∧ d e < 1000000 ∧ a1 = nI e ∧ a2 = nI (d e) ∧ ∀ u, u < i → s u = 0 → d e ≤ d u) → (fRo_nearestOpen_l7 r s n a1 a2 (nI i) = some (-1) ∧ ∀ u, u < 16 → s u = 0 → 1000000 ≤ d u) ∨ ∃ e, e < 16 ∧ s e = 0 ∧ d e < 1000000 ∧ fRo_nearestOpen_l7 r s n a1 a2 (nI i) = some (nI e) ∧ ∀ u, u < 16 → s u = 0 → d e ≤ d u := by
    intro k
    induction k with
    | zero =>
      intro i n a1 a2 hi hn hI
      obtain ⟨n, rfl⟩ : ∃ k, n = k + 1 := ⟨n - 1, by omega⟩
      have hi : i = 16 := by omega
      subst hi
      rw [fRo_nearestOpen_l7.eq_2, if_pos (show (16 : Int32) ≤ nI (16) from (nI_leI (a := 16) (b := (16)) (by omega) (by omega)).mpr (by omega))]
      rcases hI with ⟨e1, -, h⟩ | ⟨e, he, hs, hd, e1, -, h⟩
      · left; rw [e1]; exact ⟨rfl, h⟩
      · right; rw [e1]; exact ⟨e, he, hs, hd, rfl, h⟩
    | succ k ih =>
      intro i n a1 a2 hi hn hI
      obtain ⟨n, rfl⟩ : ∃ k, n = k + 1 := ⟨n - 1, by omega⟩
      have hi16 : i < 16 := by omega
      obtain ⟨hri, hdi⟩ := hr i hi16
      rw [fRo_nearestOpen_l7.eq_2, if_neg (fun qq : (16 : Int32) ≤ nI (i) => absurd ((nI_leI (a := 16) (b := (i)) (by omega) (by omega)).mp qq) (by omega)), nI_1 i]
      simp only [gdn hi16 (show 16 < 2 ^ 31 by decide), nI_clamp (show i < 2 ^ 31 by omega), hri]
      have ext : ∀ (P : Nat → Prop), (∀ u, u < i → P u) → P i → ∀ u, u < i + 1 → P u := fun P h1 h2 u hu => by
        by_cases q : u = i
        · rw [q]; exact h2
        · exact h1 u (by omega)
      by_cases h0 : s i = 0
      · rw [if_pos h0]
        rcases hI with ⟨e1, e2, h⟩ | ⟨e, he, hs, hd, e1, e2, h⟩
        · rw [e1, e2]
          by_cases c : 1000000 ≤ d i
          · rw [if_pos (show (1000000 : Int32) ≤ nI (d i) from (nI_leI (a := 1000000) (b := (d i)) (by omega) (by omega)).mpr (by omega))]
            exact ih (i + 1) n _ _ (by omega) (by omega) (Or.inl ⟨rfl, rfl, ext (fun u => s u = 0 → 1000000 ≤ d u) h (fun _ => c)⟩)
          · rw [if_neg (fun qq : (1000000 : Int32) ≤ nI (d i) => absurd ((nI_leI (a := 1000000) (b := (d i)) (by omega) (by omega)).mp qq) (by omega))]
            exact ih (i + 1) n _ _ (by omega) (by omega) (Or.inr ⟨i, hi16, h0, by omega, rfl, rfl, ext (fun u => s u = 0 → d i ≤ d u) (fun u hu hs => by have := h u hu hs; omega) (fun _ => Nat.le_refl _)⟩)
        · rw [e1, e2]
          by_cases c : d e ≤ d i
          · rw [if_pos (show nI (d e) ≤ nI (d i) from (nI_leI (a := (d e)) (b := (d i)) (by omega) (by omega)).mpr (by omega))]
            exact ih (i + 1) n _ _ (by omega) (by omega) (Or.inr ⟨e, he, hs, hd, rfl, rfl, ext (fun u => s u = 0 → d e ≤ d u) h (fun _ => c)⟩)
          · rw [if_neg (fun qq : nI (d e) ≤ nI (d i) => absurd ((nI_leI (a := (d e)) (b := (d i)) (by omega) (by omega)).mp qq) (by omega))]
            exact ih (i + 1) n _ _ (by omega) (by omega) (Or.inr ⟨i, hi16, h0, by omega, rfl, rfl, ext (fun u => s u = 0 → d i ≤ d u) (fun u hu hs => by have := h u hu hs; omega) (fun _ => Nat.le_refl _)⟩)
      · rw [if_neg h0]
        refine ih (i + 1) n _ _ (by omega) (by omega) ?_
        rcases hI with ⟨e1, e2, h⟩ | ⟨e, he, hs, hd, e1, e2, h⟩
        · exact Or.inl ⟨e1, e2, ext (fun u => s u = 0 → 1000000 ≤ d u) h (fun z => absurd z h0)⟩
        · exact Or.inr ⟨e, he, hs, hd, e1, e2, ext (fun u => s u = 0 → d e ≤ d u) h (fun z => absurd z h0)⟩
  unfold fRo_nearestOpen
  rcases key 16 0 FU (-1) 1000000 rfl (FU_gt (by decide)) (Or.inl ⟨rfl, rfl, fun u hu => absurd hu (Nat.not_lt_zero _)⟩) with ⟨h1, h2⟩ | ⟨e, he, hs, hd, h1, h2⟩
  · have h1 : fRo_nearestOpen_l7 r s FU (-1) 1000000 0 = some (-1) := h1
    left; rw [h1]; exact ⟨rfl, h2⟩
  · have h1 : fRo_nearestOpen_l7 r s FU (-1) 1000000 0 = some (nI e) := h1
    right; rw [h1]; exact ⟨e, he, hs, hd, rfl, h2⟩
theorem relax_n {w : Nat → Nat} {f : Nat → Int32} (hf : ∀ k, k < 256 → w k ≤ 30 ∧ f k = nI (w k)) {d : Nat → Nat} {r : Nat → Int32} (hr : ∀ j, j < 16 → r j = nI (d j) ∧ d j ≤ 1000000) {e : Nat} (he : e < 16) : ∃ r', fRo_reachOnFrom (nI e) f r = some r' ∧ ∀ j, j < 16 → r' j = nI (rlx (fun i j => w (i * 16 + j)) e d j) ∧ rlx (fun i j => w (i * 16 + j)) e d j ≤ 1000000 := by
  have hle : ∀ j, j < 16 → rlx (fun i j => w (i * 16 + j)) e d j ≤ 1000000 := fun j hj => Nat.le_trans (rlx_le _ e d j) (hr j hj).2
  have hee := rlx_e (fun i j => w (i * 16 + j)) e d
  have key : ∀ (k i n : Nat) (r : Nat → Int32), i + k = 16 → k < n → (∀ j, j < 16 → r j = nI (if j < i then rlx (fun i j => w (i * 16 + j)) e d j else d j)) → ∃ r', fRo_reachOnFrom_l2 (nI e) f n (nI i) r = some r' ∧ ∀ j, j < 16 → r' j = nI (rlx (fun i j => w (i * 16 + j)) e d j) := by
    intro k
    induction k with
    | zero =>
      intro i n r hi hn hI
      obtain ⟨n, rfl⟩ : ∃ k, n = k + 1 := ⟨n - 1, by omega⟩
      have hi : i = 16 := by omega
      subst hi
      exact ⟨r, by rw [fRo_reachOnFrom_l2.eq_2, if_pos (show (16 : Int32) ≤ nI (16) from (nI_leI (a := 16) (b := (16)) (by omega) (by omega)).mpr (by omega))], fun j hj => by rw [hI j hj, if_pos hj]⟩
    | succ k ih =>
      intro i n r hi hn hI
      obtain ⟨n, rfl⟩ : ∃ k, n = k + 1 := ⟨n - 1, by omega⟩
      have hi16 : i < 16 := by omega
      obtain ⟨hw, hfi⟩ := hf (e * 16 + i) (by omega)
      have hre : r e = nI (d e) := by
        rw [hI e he]
        split
        · rw [hee]
        · rfl
      have hri : r i = nI (d i) := by rw [hI i hi16, if_neg (by omega)]
      have hde := (hr e he).2
      have hdi := (hr i hi16).2
      rw [fRo_reachOnFrom_l2.eq_2, if_neg (fun qq : (16 : Int32) ≤ nI (i) => absurd ((nI_leI (a := 16) (b := (i)) (by omega) (by omega)).mp qq) (by omega)), show nI e * 16 + nI i = nI (e * 16 + i) from ix_mr e i 16, nI_1 i]
      simp only [gdn (show e * 16 + i < 256 by omega) (show 256 < 2 ^ 31 by decide), gdn hi16 (show 16 < 2 ^ 31 by decide), gdn he (show 16 < 2 ^ 31 by decide), nI_clamp (show e * 16 + i < 2 ^ 31 by omega), nI_clamp (show i < 2 ^ 31 by omega), nI_clamp (show e < 2 ^ 31 by omega), hfi, hre, hri, nI_add, min_n (show d e + w (e * 16 + i) < 2 ^ 31 by omega) (show d i < 2 ^ 31 by omega)]
      by_cases h0 : w (e * 16 + i) = 0
      · rw [if_pos (show nI (w (e * 16 + i)) ≤ (0 : Int32) from (nI_leI (a := (w (e * 16 + i))) (b := 0) (by omega) (by omega)).mpr (by omega))]
        refine ih (i + 1) n r (by omega) (by omega) (fun j hj => ?_)
        rw [hI j hj]
        by_cases q : j = i
        · subst q
          rw [if_neg (by omega), if_pos (by omega), show rlx (fun i j => w (i * 16 + j)) e d j = d j from if_pos h0]
        · by_cases q2 : j < i
          · rw [if_pos q2, if_pos (by omega)]
          · rw [if_neg q2, if_neg (by omega)]
      · rw [if_neg (fun qq : nI (w (e * 16 + i)) ≤ (0 : Int32) => absurd ((nI_leI (a := (w (e * 16 + i))) (b := 0) (by omega) (by omega)).mp qq) (by omega))]
        refine ih (i + 1) n _ (by omega) (by omega) (fun j hj => ?_)
        by_cases q : j = i
        · subst q
          rw [upd_s, if_pos (by omega), show rlx (fun i j => w (i * 16 + j)) e d j = min (d e + w (e * 16 + j)) (d j) from if_neg h0]
        · rw [upd_n q, hI j hj]
          by_cases q2 : j < i
          · rw [if_pos q2, if_pos (by omega)]
          · rw [if_neg q2, if_neg (by omega)]
  obtain ⟨r', h1, h2⟩ := key 16 0 FU r rfl (FU_gt (by decide)) (fun j hj => by rw [if_neg (Nat.not_lt_zero _)]; exact (hr j hj).1)
  have h1 : fRo_reachOnFrom_l2 (nI e) f FU 0 r = some r' := h1
  exact ⟨r', by unfold fRo_reachOnFrom; rw [h1]; rfl, fun j hj => ⟨h2 j hj, hle j hj⟩⟩
theorem least_n {w : Nat → Nat} {f : Nat → Int32} (hf : ∀ k, k < 256 → w k ≤ 30 ∧ f k = nI (w k)) {a b : Nat} (ha : a < 16) (hb : b < 16) {g : Nat → Nat} (ga : g a = 0) (gf : ∀ k j, k < 16 → j < 16 → w (k * 16 + j) ≠ 0 → g j ≤ g k + w (k * 16 + j)) (gp : ∀ j, j < 16 → j ≠ a → g j < 100000 → ∃ k, k < 16 ∧ w (k * 16 + j) ≠ 0 ∧ g k + w (k * 16 + j) ≤ g j) (hg : g b ≤ 100000) (r0 s0 : Nat → Int32) : ∃ r s, fRo_leastDays (nI a) (nI b) f r0 s0 = some (if g b < 100000 then nI (g b) else -1, r, s) := by
  let W : Nat → Nat → Nat := fun i j => w (i * 16 + j)
  have hW : ∀ k j, k < 16 → j < 16 → W k j ≤ 30 := fun k j hk hj => (hf (k * 16 + j) (by omega)).1
  -- the answer once the search is over
  have fin : ∀ (n m : Nat) (d : Nat → Nat) (s : Nat → Int32), n ≤ 16 → DI W a n d s → (∀ u, u < 16 → s u = 0 → m ≤ d u) → (m ≤ g b → d b ≤ g b ∨ 100000 ≤ g b) → (d b < 1000000 ∧ d b = g b ∧ g b < 100000) ∨ (1000000 ≤ d b ∧ 100000 ≤ g b) := by
    intro n m d s hn ⟨h1, h2, h3, h4, h5, h6, h7, h8⟩ hm hb2
    by_cases c : d b < 1000000
    · have l1 := lowB (W := W) gf ga h3 (d b) b (Nat.le_refl _) hb c
      have l2 := h6 b hb c
      left
      refine ⟨c, ?_, by omega⟩
      rcases upB (W := W) (m := m) (st := fun k => s k = 1) h1 gp h4 (fun u hu hs => hm u hu ((h7 u hu).resolve_right hs)) (g b) b (Nat.le_refl _) hb (by omega) with h | h
      · omega
      · rcases hb2 h with h | h <;> omega
    · right
      refine ⟨by omega, ?_⟩
      by_cases c2 : g b < 100000
      · rcases upB (W := W) (m := m) (st := fun k => s k = 1) h1 gp h4 (fun u hu hs => hm u hu ((h7 u hu).resolve_right hs)) (g b) b (Nat.le_refl _) hb c2 with h | h
        · omega
        · rcases hb2 h with h | h <;> omega
      · omega
  have key : ∀ (k i n : Nat) (d : Nat → Nat) (r s : Nat → Int32), i + k = 16 → k < n → DI W a i d s → (∀ j, j < 16 → r j = nI (d j) ∧ d j ≤ 1000000) → ∃ (d' : Nat → Nat) (r' s' : Nat → Int32), (fRo_leastDays_l26 (nI b) f n (nI i) r s = some (Sum.inr (r', s')) ∨ fRo_leastDays_l26 (nI b) f n (nI i) r s = some (Sum.inl (r', s'))) ∧ (∀ j, j < 16 → r' j = nI (d' j) ∧ d' j ≤ 1000000) ∧ ((d' b < 1000000 ∧ d' b = g b ∧ g b < 100000) ∨ (1000000 ≤ d' b ∧ 100000 ≤ g b)) := by
    intro k
    induction k with
    | zero =>
      intro i n d r s hi hn hI hr
      obtain ⟨n, rfl⟩ : ∃ k, n = k + 1 := ⟨n - 1, by omega⟩
      have hi : i = 16 := by omega
      subst hi
      refine ⟨d, r, s, Or.inl (by rw [fRo_leastDays_l26.eq_2, if_pos (show (16 : Int32) ≤ nI (16) from (nI_leI (a := 16) (b := (16)) (by omega) (by omega)).mpr (by omega))]), hr, fin 16 1000000 d s (Nat.le_refl _) hI (fun u hu h0 => ?_) (fun h => by omega)⟩
      have h8 := hI.2.2.2.2.2.2.2
      have := cntv_lt (f := s) (v := 1) (j := u) (by rw [h0]; decide) hu
      omega
    | succ k ih =>
      intro i n d r s hi hn hI hr
      obtain ⟨n, rfl⟩ : ∃ k, n = k + 1 := ⟨n - 1, by omega⟩
      rw [fRo_leastDays_l26.eq_2, if_neg (fun qq : (16 : Int32) ≤ nI (i) => absurd ((nI_leI (a := 16) (b := (i)) (by omega) (by omega)).mp qq) (by omega))]
      rcases near_n hr hI.2.2.2.2.2.2.1 with ⟨h1, h2⟩ | ⟨e, he, hs, hd, h1, h2⟩
      · rw [h1, obs, if_pos rfl]
        exact ⟨d, r, s, Or.inl rfl, hr, fin i 1000000 d s (by omega) hI h2 (fun h => by omega)⟩
      · rw [h1, obs, if_neg (m1_ne e (by omega))]
        by_cases q : e = b
        · subst q
          rw [if_pos rfl]
          exact ⟨d, r, s, Or.inr rfl, hr, fin i (d e) d s (by omega) hI h2 (fun h => Or.inl h)⟩
        · rw [if_neg (fun z => q ((nI_eq (by omega) (by omega)).mp z)), gdn he (by decide)]
          obtain ⟨r', hr1, hr2⟩ := relax_n hf hr he
          rw [hr1, obs, nI_1 i, nI_clamp (by omega)]
          exact ih (i + 1) n (rlx W e d) r' (upd s e 1) (by omega) (by omega) (DI_step hI hW he hs hd h2) hr2
  obtain ⟨d', r', s', h1, h2, h3⟩ := key 16 0 FU (fun j => if j = a then 0 else 1000000) (upd (filI 16 1000000 r0) a 0) (filI 16 0 s0) rfl (FU_gt (by decide)) (DI_0 ha (fun _ _ => rfl) (fun j hj => if_pos hj)) (fun j hj => by
    by_cases q : j = a
    · subst q
      rw [upd_s, if_pos rfl]; exact ⟨rfl, by omega⟩
    · rw [upd_n q, if_neg q]; exact ⟨if_pos hj, Nat.le_refl _⟩)
  refine ⟨r', s', ?_⟩
  have hrb := (h2 b hb).1
  have hdb := (h2 b hb).2
  have hfin : ∀ (x : Option (Int32 × (Nat → Int32) × (Nat → Int32))), x = (if (1000000 : Int32) ≤ r' b then some (-1, r', s') else some (r' b, r', s')) → x = some (if g b < 100000 then nI (g b) else -1, r', s') := by
    intro x hx
    rw [hx, hrb]
    rcases h3 with ⟨c1, c2, c3⟩ | ⟨c1, c2⟩
    · rw [if_neg (fun qq : (1000000 : Int32) ≤ nI (d' b) => absurd ((nI_leI (a := 1000000) (b := (d' b)) (by omega) (by omega)).mp qq) (by omega)), if_pos c3, c2]
    · rw [if_pos (show (1000000 : Int32) ≤ nI (d' b) from (nI_leI (a := 1000000) (b := (d' b)) (by omega) (by omega)).mpr (by omega)), if_neg (by omega)]
  unfold fRo_leastDays
  rw [gdn ha (by decide), nI_clamp (by omega)]
  apply hfin
  rcases h1 with h1 | h1
  · have h1 : fRo_leastDays_l26 (nI b) f FU 0 (upd (filI 16 1000000 r0) a 0) (filI 16 0 s0) = some (Sum.inr (r', s')) := h1
    rw [h1, obs]
    show gd (inb (nI b) 16) _ = _
    rw [gdn hb (by decide), nI_clamp (by omega), gdn hb (by decide)]
  · have h1 : fRo_leastDays_l26 (nI b) f FU 0 (upd (filI 16 1000000 r0) a 0) (filI 16 0 s0) = some (Sum.inl (r', s')) := h1
    rw [h1, obs]
    show gd (inb (nI b) 16) _ = _
    rw [gdn hb (by decide), nI_clamp (by omega), gdn hb (by decide)]
