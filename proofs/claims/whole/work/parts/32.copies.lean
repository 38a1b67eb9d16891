/-! a loop that counts up, with exits -/
theorem lpUp {σ β : Type} (F : Nat → Nat → σ → Option β) (N : Nat) (I : Nat → σ → Prop) (out : β → Prop) (hend : ∀ n s, I N s → ∃ r, F (n + 1) N s = some r ∧ out r) (hstep : ∀ n i s, i < N → I i s → (∃ r, F (n + 1) i s = some r ∧ out r) ∨ ∃ s', I (i + 1) s' ∧ F (n + 1) i s = F n (i + 1) s') : ∀ (d i : Nat) (s : σ) (n : Nat), i + d = N → I i s → d < n → ∃ r, F n i s = some r ∧ out r := by
  intro d
  induction d with
  | zero =>
    intro i s n hi hI hn
    obtain ⟨m, rfl⟩ : ∃ m, n = m + 1 := ⟨n - 1, by omega⟩
    have : i = N := by omega
    subst this
    exact hend m s hI
  | succ d ih =>
    intro i s n hi hI hn
    obtain ⟨m, rfl⟩ : ∃ m, n = m + 1 := ⟨n - 1, by omega⟩
    rcases hstep m i s (by omega) hI with h | ⟨s', h1, h2⟩
    · exact h
    · rw [h2]
      exact ih (i + 1) s' m (by omega) h1 (by omega)
theorem FU_gt {k : Nat} (h : k < 1000000000) : k < FU := h
/-- how many of the first k are v -/
def cntv (f : Nat → Int32) (v : Int32) : Nat → Nat
  | 0 => 0
  | k + 1 => cntv f v k + (if f k = v then 1 else 0)
theorem cntv_le (f : Nat → Int32) (v : Int32) : ∀ k, cntv f v k ≤ k
  | 0 => Nat.le_refl _
  | k + 1 => by
    have := cntv_le f v k
    show cntv f v k + _ ≤ k + 1
    split <;> omega
theorem cntv_pos {f : Nat → Int32} {v : Int32} {c : Nat} (h : f c = v) : ∀ {k}, c < k → 1 ≤ cntv f v k
  | 0, hk => absurd hk (Nat.not_lt_zero _)
  | k + 1, hk => by
    show 1 ≤ cntv f v k + _
    by_cases e : c = k
    · subst e; rw [if_pos h]; omega
    · have := cntv_pos h (k := k) (by omega); omega
theorem lit_le {a b : Nat} (ha : a < 2 ^ 31) (hb : b < 2 ^ 31) (x y : Int32) (hx : x = nI a) (hy : y = nI b) : x ≤ y ↔ a ≤ b := by rw [hx, hy]; exact nI_leI ha hb
theorem lit_lt {a b : Nat} (ha : a < 2 ^ 31) (hb : b < 2 ^ 31) (x y : Int32) (hx : x = nI a) (hy : y = nI b) : x < y ↔ a < b := by rw [hx, hy]; exact nI_ltI ha hb
theorem lit_eq {a b : Nat} (ha : a < 2 ^ 31) (hb : b < 2 ^ 31) (x y : Int32) (hx : x = nI a) (hy : y = nI b) : x = y ↔ a = b := by rw [hx, hy]; exact nI_eq ha hb
theorem m1_ne (d : Nat) (h : d < 2 ^ 31) : ¬ nI d = (-1 : Int32) := by
  intro q
  have h1 := congrArg Int32.toInt q
  rw [nI_toInt h] at h1
  have : (-1 : Int32).toInt = -1 := by decide
  omega
theorem nI_ge0 {d : Nat} (h : d < 2 ^ 31) : (0 : Int32) ≤ nI d := nI_pos' h
theorem m1_lt0 : (-1 : Int32) < 0 := by decide
theorem votesFor_n {T : Nat → Nat → Int32} {s : Nat} {v : Int32} (hs : s < 96) (hv : ¬ v = -1) : fCo_votesFor v (nI s) T = some (nI (cntv (fun c => T c s) v 5)) := by
  unfold fCo_votesFor
  rw [if_neg hv]
  obtain ⟨r, h1, h2⟩ := lpUp (fun n i (a : Nat) => fCo_votesFor_l12 v (nI s) T n (nI a) (nI i)) 5 (fun i a => a = cntv (fun c => T c s) v i) (fun r => r = nI (cntv (fun c => T c s) v 5)) (by
      intro n a ha
      subst ha
      refine ⟨_, ?_, rfl⟩
      show fCo_votesFor_l12 _ _ _ _ _ _ = _
      rw [fCo_votesFor_l12.eq_2, if_pos (show (5 : Int32) ≤ nI (5) from (nI_leI (a := 5) (b := (5)) (by omega) (by omega)).mpr (by omega))]) (by
      intro n i a hi ha
      right
      refine ⟨cntv (fun c => T c s) v (i + 1), rfl, ?_⟩
      show fCo_votesFor_l12 _ _ _ _ _ _ = _
      rw [fCo_votesFor_l12.eq_2, if_neg (fun qq : (5 : Int32) ≤ nI (i) => absurd ((nI_leI (a := 5) (b := (i)) (by omega) (by omega)).mp qq) (by omega)), gdn hi (by decide), gdn hs (by decide), nI_clamp (by omega), nI_clamp (by omega), nI_1 i, ha]
      show _ = fCo_votesFor_l12 v (nI s) T n (nI (cntv (fun c => T c s) v i + if T i s = v then 1 else 0)) (nI (i + 1))
      by_cases e : T i s = v
      · rw [if_pos e, if_pos e, nI_1]
      · rw [if_neg e, if_neg e]; rfl) 5 0 0 FU rfl rfl (FU_gt (by decide))
  have h1 : fCo_votesFor_l12 v (nI s) T FU 0 0 = some r := h1
  rw [h1, obs, h2]
theorem votes_n {t : Nat → Int32} {w g : Nat} {v : Int32} (hw : w < 16) (hg : g < 6) : fMM_votes v (nI w) (nI g) t = some (nI (cntv (fun c => t (96 * c + (w * 6 + g))) v 5)) := by
  unfold fMM_votes
  obtain ⟨r, h1, h2⟩ := lpUp (fun n i (a : Nat) => fMM_votes_l6 v (nI w) (nI g) t n (nI a) (nI i)) 5 (fun i a => a = cntv (fun c => t (96 * c + (w * 6 + g))) v i) (fun r => r = nI (cntv (fun c => t (96 * c + (w * 6 + g))) v 5)) (by
      intro n a ha
      subst ha
      refine ⟨_, ?_, rfl⟩
      show fMM_votes_l6 _ _ _ _ _ _ _ = _
      rw [fMM_votes_l6.eq_2, if_pos (show (5 : Int32) ≤ nI (5) from (nI_leI (a := 5) (b := (5)) (by omega) (by omega)).mpr (by omega))]) (by
      intro n i a hi ha
      right
      refine ⟨cntv (fun c => t (96 * c + (w * 6 + g))) v (i + 1), rfl, ?_⟩
      show fMM_votes_l6 _ _ _ _ _ _ _ = _
      rw [fMM_votes_l6.eq_2, if_neg (fun qq : (5 : Int32) ≤ nI (i) => absurd ((nI_leI (a := 5) (b := (i)) (by omega) (by omega)).mp qq) (by omega)), tellsOf_n hi hw hg, obs, nI_1 i, ha]
      show _ = fMM_votes_l6 v (nI w) (nI g) t n (nI (cntv (fun c => t (96 * c + (w * 6 + g))) v i + if t (96 * i + (w * 6 + g)) = v then 1 else 0)) (nI (i + 1))
      by_cases e : t (96 * i + (w * 6 + g)) = v
      · rw [if_pos e, if_pos e, nI_1]
      · rw [if_neg e, if_neg e, show (0 : Int32) = nI 0 from rfl, nI_add]) 5 0 0 FU rfl rfl (FU_gt (by decide))
  have h1 : fMM_votes_l6 v (nI w) (nI g) t FU 0 0 = some r := h1
  rw [h1, obs, h2]
theorem sub_pos {x y : Nat} (hx : x ≤ 5) (hy : y ≤ 5) : ((0 : Int32) < nI x - nI y ↔ y < x) ∧ (nI x - nI y = 0 ↔ x = y) := by
  have h := pk_sub_toInt (a := x) (b := y) (by omega) (by omega)
  have e0 : (0 : Int32).toInt = 0 := by decide
  constructor
  · rw [Int32.lt_iff_toInt_lt, h, e0]; omega
  · constructor
    · intro q
      have := congrArg Int32.toInt q
      rw [h, e0] at this; omega
    · rintro rfl
      rw [pk_sub (Nat.le_refl _), Nat.sub_self]; rfl
/-- OWED: both find the same -/
theorem owed_n {T : Nat → Nat → Int32} {t rd : Nat → Int32} (h : RTo T t) {w g : Nat} (hw : w < 16) (hg : g < 6) : ∃ d, d ≤ 9999 ∧ fCo_mostTold (nI (w * 6 + g)) T rd = some (nI d) ∧ fMM_owedOf (nI w) (nI g) t rd = some (nI d) := by
  unfold fCo_mostTold fMM_owedOf
  have hf : ∀ c, c < 5 → t (96 * c + (w * 6 + g)) = T c (w * 6 + g) := fun c hc => (h c _ hc (by omega)).1.symm
  have hv : ∀ c, c < 5 → T c (w * 6 + g) = -1 ∨ ∃ d, d ≤ 9999 ∧ T c (w * 6 + g) = nI d := fun c hc => (h c _ hc (by omega)).2
  have hc5 : ∀ v, cntv (fun c => t (96 * c + (w * 6 + g))) v 5 = cntv (fun c => T c (w * 6 + g)) v 5 := by
    intro v
    simp only [cntv, hf 0 (by decide), hf 1 (by decide), hf 2 (by decide), hf 3 (by decide), hf 4 (by decide)]
  -- both loops side by side
  have key : ∀ (k i : Nat) (n n' : Nat) (b bv br bm : Int32), i + k = 5 → k < n → k < n' →
      ((bm = -1 ∧ b = 0 ∧ bv = 0 ∧ br = 0) ∨ ∃ c d, c < 5 ∧ d ≤ 9999 ∧ bm = nI c ∧ T c (w * 6 + g) = nI d ∧ b = nI d ∧ bv = nI (cntv (fun c => T c (w * 6 + g)) (nI d) 5) ∧ br = rd c) →
      ∃ (b' bm' : Int32), fCo_mostTold_l10 (nI (w * 6 + g)) T rd n b bv br (nI i) = some b' ∧ fMM_owedOf_l5 (nI w) (nI g) t rd n' bm (nI i) = some bm' ∧ ((bm' = -1 ∧ b' = 0) ∨ ∃ c d, c < 5 ∧ d ≤ 9999 ∧ bm' = nI c ∧ T c (w * 6 + g) = nI d ∧ b' = nI d) := by
    intro k
    induction k with
    | zero =>
      intro i n n' b bv br bm hi hn hn' hI
      obtain ⟨n, rfl⟩ : ∃ m, n = m + 1 := ⟨n - 1, by omega⟩
      obtain ⟨n', rfl⟩ : ∃ m, n' = m + 1 := ⟨n' - 1, by omega⟩
      have hi : i = 5 := by omega
      subst hi
      refine ⟨b, bm, ?_, ?_, ?_⟩
      · rw [fCo_mostTold_l10.eq_2, if_pos (show (5 : Int32) ≤ nI (5) from (nI_leI (a := 5) (b := (5)) (by omega) (by omega)).mpr (by omega))]
      · rw [fMM_owedOf_l5.eq_2, if_pos (show (5 : Int32) ≤ nI (5) from (nI_leI (a := 5) (b := (5)) (by omega) (by omega)).mpr (by omega))]
      · rcases hI with ⟨h1, h2, -, -⟩ | ⟨c, d, h1, h2, h3, h4, h5, -, -⟩
        · exact Or.inl ⟨h1, h2⟩
        · exact Or.inr ⟨c, d, h1, h2, h3, h4, h5⟩
    | succ k ih =>
      intro i n n' b bv br bm hi hn hn' hI
      obtain ⟨n, rfl⟩ : ∃ m, n = m + 1 := ⟨n - 1, by omega⟩
      obtain ⟨n', rfl⟩ : ∃ m, n' = m + 1 := ⟨n' - 1, by omega⟩
      have hi5 : i < 5 := by omega
      rw [fCo_mostTold_l10.eq_2, if_neg (fun qq : (5 : Int32) ≤ nI (i) => absurd ((nI_leI (a := 5) (b := (i)) (by omega) (by omega)).mp qq) (by omega)), gdn hi5 (by decide), gdn (by omega) (by decide), nI_clamp (by omega), nI_clamp (by omega), nI_1 i]
      rw [fMM_owedOf_l5.eq_2, if_neg (fun qq : (5 : Int32) ≤ nI (i) => absurd ((nI_leI (a := 5) (b := (i)) (by omega) (by omega)).mp qq) (by omega)), tellsOf_n hi5 hw hg, obs, hf i hi5, nI_1 i]
      rcases hv i hi5 with e | ⟨d, hd, e⟩
      · -- nothing told here
        rw [e, if_neg (show ¬ (0 : Int32) ≤ -1 by decide)]
        unfold fCo_votesFor
        rw [if_pos rfl, obs]
        have hI' := hI
        rcases hI with ⟨h1, h2, h3, h4⟩ | ⟨c, d, h1, h2, h3, h4, h5, h6, h7⟩
        · subst h3
          rw [if_neg (by decide), if_pos rfl, if_pos (by decide)]
          exact ih (i + 1) n n' b 0 br bm (by omega) (by omega) (by omega) hI'
        · have hp := cntv_pos (f := fun c => T c (w * 6 + g)) (v := nI d) h4 h1
          have hle := cntv_le (fun c => T c (w * 6 + g)) (nI d) 5
          rw [h6, if_neg (fun qq : nI (cntv (fun c => T c (w * 6 + g)) (nI d) 5) < (0 : Int32) => absurd ((nI_ltI (a := (cntv (fun c => T c (w * 6 + g)) (nI d) 5)) (b := 0) (by omega) (by omega)).mp qq) (by omega)), if_neg (fun qq : (0 : Int32) = nI (cntv (fun c => T c (w * 6 + g)) (nI d) 5) => absurd ((nI_eq (a := 0) (b := (cntv (fun c => T c (w * 6 + g)) (nI d) 5)) (by omega) (by omega)).mp qq) (by omega))]
          rw [h6] at hI'
          exact ih (i + 1) n n' b _ br bm (by omega) (by omega) (by omega) hI'
      · rw [e, if_pos (nI_ge0 (by omega)), votesFor_n (by omega) (m1_ne d (by omega)), obs]
        have hp := cntv_pos (f := fun c => T c (w * 6 + g)) (v := nI d) e hi5
        have hle := cntv_le (fun c => T c (w * 6 + g)) (nI d) 5
        have take : ∃ (b' bm' : Int32), fCo_mostTold_l10 (nI (w * 6 + g)) T rd n (nI d) (nI (cntv (fun c => T c (w * 6 + g)) (nI d) 5)) (rd i) (nI (i + 1)) = some b' ∧ fMM_owedOf_l5 (nI w) (nI g) t rd n' (nI i) (nI (i + 1)) = some bm' ∧ ((bm' = -1 ∧ b' = 0) ∨ ∃ c d, c < 5 ∧ d ≤ 9999 ∧ bm' = nI c ∧ T c (w * 6 + g) = nI d ∧ b' = nI d) :=
          ih (i + 1) n n' _ _ _ _ (by omega) (by omega) (by omega) (Or.inr ⟨i, d, hi5, hd, rfl, e, rfl, rfl, rfl⟩)
        have hI' := hI
        rcases hI with ⟨h1, h2, h3, h4⟩ | ⟨c, d2, h1, h2, h3, h4, h5, h6, h7⟩
        · rw [h3, h1, if_pos (show (0 : Int32) < nI (cntv (fun c => T c (w * 6 + g)) (nI d) 5) from (nI_ltI (a := 0) (b := (cntv (fun c => T c (w * 6 + g)) (nI d) 5)) (by omega) (by omega)).mpr (by omega)), gdn hi5 (by decide), gdn (by omega) (by decide), gdn hi5 (by decide), if_neg (show ¬ (0 : Int32) ≤ -1 by decide), if_pos (show (0 : Int32) < 1 by decide)]
          exact take
        · have hp2 := cntv_pos (f := fun c => T c (w * 6 + g)) (v := nI d2) h4 h1
          have hle2 := cntv_le (fun c => T c (w * 6 + g)) (nI d2) 5
          rw [h6, h3, if_pos (nI_ge0 (by omega)), votes_n hw hg, obs, tellsOf_n h1 hw hg, obs, hf c h1, h4, votes_n hw hg, obs, hc5, hc5]
          obtain ⟨sp1, sp2⟩ := sub_pos hle hle2
          by_cases q1 : cntv (fun c => T c (w * 6 + g)) (nI d2) 5 < cntv (fun c => T c (w * 6 + g)) (nI d) 5
          · rw [if_pos ((nI_ltI (by omega) (by omega)).mpr q1), gdn hi5 (by decide), gdn (by omega) (by decide), gdn hi5 (by decide), if_pos (sp1.mpr q1)]
            exact take
          · rw [if_neg (fun q => q1 ((nI_ltI (by omega) (by omega)).mp q)), if_neg (fun q => q1 (sp1.mp q))]
            by_cases q2 : cntv (fun c => T c (w * 6 + g)) (nI d) 5 = cntv (fun c => T c (w * 6 + g)) (nI d2) 5
            · rw [if_pos (by rw [q2]), if_neg (fun qq : nI (cntv (fun c => T c (w * 6 + g)) (nI d) 5) ≤ (0 : Int32) => absurd ((nI_leI (a := (cntv (fun c => T c (w * 6 + g)) (nI d) 5)) (b := 0) (by omega) (by omega)).mp qq) (by omega)), if_pos (sp2.mpr q2), h7, nI_clamp (n := c) (by omega)]
              simp only [gdn hi5 (show 5 < 2 ^ 31 by decide), gdn h1 (show 5 < 2 ^ 31 by decide), gdn (show w * 6 + g < 96 by omega) (show 96 < 2 ^ 31 by decide), nI_clamp (show i < 2 ^ 31 by omega)]
              by_cases q3 : rd i ≤ rd c
              · rw [if_pos q3, if_pos q3]
                rw [h3, h6, h7] at hI'
                exact ih (i + 1) n n' b _ (rd c) _ (by omega) (by omega) (by omega) hI'
              · rw [if_neg q3, if_neg q3]
                exact take
            · rw [if_neg (fun q => q2 ((nI_eq (by omega) (by omega)).mp q)), if_neg (fun q => q2 (sp2.mp q))]
              rw [h3, h6] at hI'
              exact ih (i + 1) n n' b _ br _ (by omega) (by omega) (by omega) hI'
  obtain ⟨b', bm', h1, h2, h3⟩ := key 5 0 FU FU 0 0 0 (-1) rfl (FU_gt (by decide)) (FU_gt (by decide)) (Or.inl ⟨rfl, rfl, rfl, rfl⟩)
  have h1 : fCo_mostTold_l10 (nI (w * 6 + g)) T rd FU 0 0 0 0 = some b' := h1
  have h2 : fMM_owedOf_l5 (nI w) (nI g) t rd FU (-1) 0 = some bm' := h2
  rw [h1, h2, obs, obs]
  rcases h3 with ⟨rfl, rfl⟩ | ⟨c, d, hc, hd, rfl, e, rfl⟩
  · exact ⟨0, by decide, rfl, by rw [if_neg (by decide)]; rfl⟩
  · refine ⟨d, hd, rfl, ?_⟩
    rw [if_pos (nI_ge0 (by omega)), tellsOf_n hc hw hg, obs, hf c hc, e]
theorem op_owed {T : Nat → Nat → Int32} {t rd : Nat → Int32} (h : RTo T t) (a1 a2 : Int32) : ∃ r, fTL_owed a1 a2 T rd = some r ∧ fMM_owed a1 a2 t rd = some r := by
  unfold fTL_owed fMM_owed
  rcases town_or a1 with ⟨m2, t2⟩ | ⟨w, hw1, hw, rfl, m2, t2⟩
  · exact ⟨-1, by rw [if_pos t2], by rw [if_pos m2]⟩
  rw [if_neg t2, if_neg m2]
  rcases good_or a2 with ⟨m3, t3⟩ | ⟨g, hg, rfl, m3, t3⟩
  · exact ⟨-1, by rw [if_pos t3], by rw [if_pos m3]⟩
  rw [if_neg t3, if_neg m3, slot_n]
  obtain ⟨d, -, h1, h2⟩ := owed_n (rd := rd) h hw hg
  rw [h1, h2]
  exact ⟨_, rfl, rfl⟩
/-- QUARREL: both find the same -/
theorem diff_n {T : Nat → Nat → Int32} {t : Nat → Int32} (h : RTo T t) {w g : Nat} (hw : w < 16) (hg : g < 6) : ∃ r, (r = 0 ∨ r = 1) ∧ fCo_differ (nI (w * 6 + g)) T = some r ∧ fMM_isQuarrel (nI w) (nI g) t = some r := by
  unfold fCo_differ fMM_isQuarrel
  have hf : ∀ c, c < 5 → t (96 * c + (w * 6 + g)) = T c (w * 6 + g) := fun c hc => (h c _ hc (by omega)).1.symm
  have hv : ∀ c, c < 5 → T c (w * 6 + g) = -1 ∨ ∃ d, d ≤ 9999 ∧ T c (w * 6 + g) = nI d := fun c hc => (h c _ hc (by omega)).2
  have key : ∀ (k i : Nat) (n n' : Nat) (b : Int32), i + k = 5 → k < n → k < n' → (b = -1 ∨ ∃ d, d ≤ 9999 ∧ b = nI d) →
      ∃ r : Unit ⊕ Unit, fCo_differ_l4 (nI (w * 6 + g)) T n b (nI i) = some r ∧ fMM_isQuarrel_l5 (nI w) (nI g) t n' b (nI i) = some r := by
    intro k
    induction k with
    | zero =>
      intro i n n' b hi hn hn' hI
      obtain ⟨n, rfl⟩ : ∃ m, n = m + 1 := ⟨n - 1, by omega⟩
      obtain ⟨n', rfl⟩ : ∃ m, n' = m + 1 := ⟨n' - 1, by omega⟩
      have hi : i = 5 := by omega
      subst hi
      refine ⟨Sum.inr (), ?_, ?_⟩
      · rw [fCo_differ_l4.eq_2, if_pos (show (5 : Int32) ≤ nI (5) from (nI_leI (a := 5) (b := (5)) (by omega) (by omega)).mpr (by omega))]
      · rw [fMM_isQuarrel_l5.eq_2, if_pos (show (5 : Int32) ≤ nI (5) from (nI_leI (a := 5) (b := (5)) (by omega) (by omega)).mpr (by omega))]
    | succ k ih =>
      intro i n n' b hi hn hn' hI
      obtain ⟨n, rfl⟩ : ∃ m, n = m + 1 := ⟨n - 1, by omega⟩
      obtain ⟨n', rfl⟩ : ∃ m, n' = m + 1 := ⟨n' - 1, by omega⟩
      have hi5 : i < 5 := by omega
      rw [fCo_differ_l4.eq_2, if_neg (fun qq : (5 : Int32) ≤ nI (i) => absurd ((nI_leI (a := 5) (b := (i)) (by omega) (by omega)).mp qq) (by omega)), gdn hi5 (by decide), gdn (by omega) (by decide), nI_clamp (by omega), nI_clamp (by omega), nI_1 i]
      rw [fMM_isQuarrel_l5.eq_2, if_neg (fun qq : (5 : Int32) ≤ nI (i) => absurd ((nI_leI (a := 5) (b := (i)) (by omega) (by omega)).mp qq) (by omega)), tellsOf_n hi5 hw hg, obs, hf i hi5, nI_1 i]
      rcases hv i hi5 with e | ⟨d, hd, e⟩
      · rw [e, if_pos rfl, if_pos m1_lt0, if_pos m1_lt0]
        exact ih (i + 1) n n' b (by omega) (by omega) (by omega) hI
      · rw [e, if_neg (m1_ne d (by omega)), if_neg (nI_pos (by omega))]
        rcases hI with rfl | ⟨d2, hd2, rfl⟩
        · rw [if_pos rfl, if_pos m1_lt0, if_neg (nI_pos (by omega))]
          exact ih (i + 1) n n' _ (by omega) (by omega) (by omega) (Or.inr ⟨d, hd, rfl⟩)
        · rw [if_neg (m1_ne d2 (by omega)), if_neg (nI_pos (by omega))]
          by_cases q : d2 = d
          · subst q
            rw [if_pos rfl, if_pos rfl, if_neg (nI_pos (by omega))]
            exact ih (i + 1) n n' _ (by omega) (by omega) (by omega) (Or.inr ⟨d2, hd, rfl⟩)
          · rw [if_neg (fun z => q ((nI_eq (by omega) (by omega)).mp z)), if_neg (fun z => q ((nI_eq (by omega) (by omega)).mp z).symm)]
            exact ⟨_, rfl, rfl⟩
  obtain ⟨r, h1, h2⟩ := key 5 0 FU FU (-1) rfl (FU_gt (by decide)) (FU_gt (by decide)) (Or.inl rfl)
  have h1 : fCo_differ_l4 (nI (w * 6 + g)) T FU (-1) 0 = some r := h1
  have h2 : fMM_isQuarrel_l5 (nI w) (nI g) t FU (-1) 0 = some r := h2
  rw [h1, h2]
  simp only [obs]
  rcases r with r | r
  · exact ⟨1, Or.inr rfl, rfl, rfl⟩
  · exact ⟨0, Or.inl rfl, rfl, rfl⟩
theorem op_quarrel {T : Nat → Nat → Int32} {t : Nat → Int32} (h : RTo T t) (a1 a2 : Int32) : ∃ r, fTL_quarrel a1 a2 T = some r ∧ fMM_quarrel a1 a2 t = some r := by
  unfold fTL_quarrel fMM_quarrel
  rcases town_or a1 with ⟨m2, t2⟩ | ⟨w, hw1, hw, rfl, m2, t2⟩
  · exact ⟨-1, by rw [if_pos t2], by rw [if_pos m2]⟩
  rw [if_neg t2, if_neg m2]
  rcases good_or a2 with ⟨m3, t3⟩ | ⟨g, hg, rfl, m3, t3⟩
  · exact ⟨-1, by rw [if_pos t3], by rw [if_pos m3]⟩
  rw [if_neg t3, if_neg m3, slot_n]
  obtain ⟨r, hr, h1, h2⟩ := diff_n h hw hg
  rw [h1, h2]
  simp only [obs]
  by_cases e : r = 0
  · exact ⟨0, by rw [if_pos e], by rw [if_pos e]⟩
  · exact ⟨1, by rw [if_neg e], by rw [if_neg e]⟩
/-- how many quarrels among the places 6 .. 6 + k -/
def qsum (T : Nat → Nat → Int32) : Nat → Nat
  | 0 => 0
  | k + 1 => qsum T k + (if fCo_differ (nI (6 + k)) T = some 0 then 0 else 1)
theorem op_quarrels {T : Nat → Nat → Int32} {t : Nat → Int32} (h : RTo T t) : ∃ r, fTL_quarrels T = some r ∧ fMM_quarrels t = some r := by
  have hd : ∀ s, 6 ≤ s → s < 96 → ∃ r, (r = 0 ∨ r = 1) ∧ fCo_differ (nI s) T = some r ∧ fMM_isQuarrel (nI (s / 6)) (nI (s % 6)) t = some r := by
    intro s h6 h96
    have e : s = s / 6 * 6 + s % 6 := by omega
    have := diff_n h (w := s / 6) (g := s % 6) (by omega) (by omega)
    rw [← e] at this
    exact this
  refine ⟨nI (qsum T 90), ?_, ?_⟩
  · unfold fTL_quarrels
    rw [show fTL_slot 1 0 = nI 6 from by decide]
    obtain ⟨r, h1, h2⟩ := lpUp (fun n i (a : Nat) => fTL_quarrels_l8 T n (nI a) (nI (6 + i))) 90 (fun i a => a = qsum T i) (fun r => r = nI (qsum T 90)) (by
      intro n a ha
      subst ha
      refine ⟨_, ?_, rfl⟩
      show fTL_quarrels_l8 _ _ _ _ = _
      rw [fTL_quarrels_l8.eq_2, if_pos (show (96 : Int32) ≤ nI (6 + 90) from (nI_leI (a := 96) (b := (6 + 90)) (by omega) (by omega)).mpr (by omega))]) (by
      intro n i a hi ha
      right
      refine ⟨qsum T (i + 1), rfl, ?_⟩
      show fTL_quarrels_l8 _ _ _ _ = _
      obtain ⟨r, hr, h1, -⟩ := hd (6 + i) (by omega) (by omega)
      rw [fTL_quarrels_l8.eq_2, if_neg (fun qq : (96 : Int32) ≤ nI (6 + i) => absurd ((nI_leI (a := 96) (b := (6 + i)) (by omega) (by omega)).mp qq) (by omega)), h1, obs, nI_1 (6 + i), ha]
      show _ = fTL_quarrels_l8 T n (nI (qsum T i + if fCo_differ (nI (6 + i)) T = some 0 then 0 else 1)) (nI (6 + (i + 1)))
      rw [h1]
      rcases hr with rfl | rfl
      · rw [if_pos rfl, if_pos rfl]; rfl
      · rw [if_neg n10, if_neg (by decide), nI_1]; rfl) 90 0 0 FU rfl rfl (FU_gt (by decide))
    have h1 : fTL_quarrels_l8 T FU 0 (nI 6) = some r := h1
    rw [h1, obs, h2]
  · unfold fMM_quarrels
    have inner : ∀ w, 1 ≤ w → w < 16 → fMM_quarrels_l12 (nI w) t FU (nI (qsum T (6 * (w - 1)))) 0 = some (nI (qsum T (6 * w))) := by
      intro w hw1 hw
      obtain ⟨r, h1, h2⟩ := lpUp (fun n i (a : Nat) => fMM_quarrels_l12 (nI w) t n (nI a) (nI i)) 6 (fun i a => a = qsum T (6 * (w - 1) + i)) (fun r => r = nI (qsum T (6 * w))) (by
        intro n a ha
        subst ha
        refine ⟨_, ?_, rfl⟩
        show fMM_quarrels_l12 _ _ _ _ _ = _
        rw [fMM_quarrels_l12.eq_2, if_pos (show (6 : Int32) ≤ nI (6) from (nI_leI (a := 6) (b := (6)) (by omega) (by omega)).mpr (by omega)), show 6 * (w - 1) + 6 = 6 * w by omega]) (by
        intro n i a hi ha
        right
        refine ⟨qsum T (6 * (w - 1) + (i + 1)), rfl, ?_⟩
        show fMM_quarrels_l12 _ _ _ _ _ = _
        obtain ⟨r, hr, h1, h2⟩ := hd (6 + (6 * (w - 1) + i)) (by omega) (by omega)
        rw [show (6 + (6 * (w - 1) + i)) / 6 = w by omega, show (6 + (6 * (w - 1) + i)) % 6 = i by omega] at h2
        rw [fMM_quarrels_l12.eq_2, if_neg (fun qq : (6 : Int32) ≤ nI (i) => absurd ((nI_leI (a := 6) (b := (i)) (by omega) (by omega)).mp qq) (by omega)), h2, obs, nI_1 i, ha]
        show _ = fMM_quarrels_l12 (nI w) t n (nI (qsum T (6 * (w - 1) + i) + if fCo_differ (nI (6 + (6 * (w - 1) + i))) T = some 0 then 0 else 1)) (nI (i + 1))
        rw [h1]
        rcases hr with rfl | rfl
        · rw [if_pos rfl, if_pos rfl, show (0 : Int32) = nI 0 from rfl, nI_add]
        · rw [if_neg n10, if_neg (by decide), nI_1]) 6 0 (qsum T (6 * (w - 1))) FU rfl rfl (FU_gt (by decide))
      have h1 : fMM_quarrels_l12 (nI w) t FU (nI (qsum T (6 * (w - 1)))) 0 = some r := h1
      rw [h1, h2]
    obtain ⟨r, h1, h2⟩ := lpUp (fun n i (a : Nat) => fMM_quarrels_l4 t n (nI a) (nI (1 + i))) 15 (fun i a => a = qsum T (6 * i)) (fun r => r = nI (qsum T 90)) (by
      intro n a ha
      subst ha
      refine ⟨_, ?_, rfl⟩
      show fMM_quarrels_l4 _ _ _ _ = _
      rw [fMM_quarrels_l4.eq_2, if_pos (show (16 : Int32) ≤ nI (1 + 15) from (nI_leI (a := 16) (b := (1 + 15)) (by omega) (by omega)).mpr (by omega))]) (by
      intro n i a hi ha
      right
      refine ⟨qsum T (6 * (i + 1)), rfl, ?_⟩
      show fMM_quarrels_l4 _ _ _ _ = _
      have hin := inner (1 + i) (by omega) (by omega)
      rw [show 6 * (1 + i - 1) = 6 * i by omega, show 6 * (1 + i) = 6 * (i + 1) by omega] at hin
      rw [fMM_quarrels_l4.eq_2, if_neg (fun qq : (16 : Int32) ≤ nI (1 + i) => absurd ((nI_leI (a := 16) (b := (1 + i)) (by omega) (by omega)).mp qq) (by omega)), ha, hin, obs, nI_1 (1 + i)]
      rfl) 15 0 0 FU rfl rfl (FU_gt (by decide))
    have h1 : fMM_quarrels_l4 t FU 0 1 = some r := h1
    rw [h1, obs, h2]
