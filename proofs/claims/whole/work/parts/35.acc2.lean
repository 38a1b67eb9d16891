/-! accounts: the relation, a quarter's debts -/
def RAc (qz : Nat → Nat) (gb : Nat) (U O G P : Nat → Int32) (Lt : Nat → Int64) (D G' P' : Nat → Int32) (Lt' : Nat → Int64) : Prop :=
  ∃ (u : Nat → Nat → Nat) (gf : Nat → Nat), (∀ s q, s < 96 → q < 33 → U (s * 33 + q) = nI (u s q) ∧ D (96 * q + s) = nI (u s q) ∧ u s q ≤ 9999) ∧ (∀ s q, s < 96 → qz s ≤ q → q < 33 → u s q = 0) ∧ (∀ s, s < 96 → O s = nI (usum (u s) 33) ∧ G s = nI (gf s) ∧ G' s = nI (gf s) ∧ gf s ≤ gb ∧ P s = P' s) ∧ ∀ t, t < 16 → Lt t = Lt' t
theorem RAc_weak {qz qz' : Nat → Nat} {gb gb' : Nat} {U O G P : Nat → Int32} {Lt : Nat → Int64} {D G' P' : Nat → Int32} {Lt' : Nat → Int64} (h : RAc qz gb U O G P Lt D G' P' Lt') (h1 : ∀ s, s < 96 → ∀ q, q < 33 → qz' s ≤ q → qz s ≤ q) (h2 : gb ≤ gb') : RAc qz' gb' U O G P Lt D G' P' Lt' := by
  obtain ⟨u, gf, a, b, c, d⟩ := h
  refine ⟨u, gf, a, fun s q hs hq hq2 => b s q hs (h1 s hs q hq2 hq) hq2, fun s hs => ?_, d⟩
  obtain ⟨c1, c2, c3, c4, c5⟩ := c s hs
  exact ⟨c1, c2, c3, by omega, c5⟩
theorem store_pair {qn gb : Nat} {U O G P : Nat → Int32} {Lt : Nat → Int64} {D G' P' : Nat → Int32} {Lt' : Nat → Int64} (h : RAc (fun _ => qn) gb U O G P Lt D G' P' Lt') {town : Nat → Int32} {k s p : Nat} {dy : Int32} (hk : k < 100) (hs : s < 96) (htn : town k = nI (s / 6)) (hp : p ≤ 9999) (hqn : qn ≤ 33) (hgb : gb ≤ 1000000) :
    ∃ (l : Nat) (U' O' P1 : Nat → Int32) (L1 : Nat → Int64) (D' : Nat → Int32) (L2 : Nat → Int64), l ≤ p ∧ fAc_store (nI s) (nI p) dy U O G P Lt = some (nI (p - l), U', O', upd G s (G s + nI l), P1, L1) ∧ fMM_store_l27 (nI k) (nI s) dy (nI qn) town FU (nI p) 0 D Lt' = some (nI l, D', L2) ∧ RAc (fun _ => qn) (gb + 9999) U' O' (upd G s (G s + nI l)) P1 L1 D' (upd G' s (G' s + nI l)) (upd P' s (P' s + nI (p - l))) L2 := by
  obtain ⟨u, gf, a, b, c, d⟩ := h
  obtain ⟨U', O', P1, L1, x1, x2, x3, x4, x5, x6, x7, x8, x9⟩ := storeX (U := U) (O := O) (G := G) (P := P) (Lt := Lt) (u := u s) (dy := dy) hs hp (fun q hq => ⟨(a s q hs hq).1, (a s q hs hq).2.2⟩) (c s hs).1
  obtain ⟨D', L2, y1, y2, y3, y4, y5⟩ := storeM (D := D) (town := town) (Lt := Lt') (k := k) (s := s) (t := s / 6) (u := u s) (dy := dy) hk hs (by omega) htn hp hqn (fun q hq => ⟨(a s q hs hq).2.1, (a s q hs hq).2.2⟩) (fun q h1 h2 => b s q hs h1 h2)
  have hl := lf_le (u s) p 33
  refine ⟨lf (u s) p 33, U', O', P1, L1, D', L2, hl, x1, y1, ?_⟩
  refine ⟨fun s' q => if s' = s then u s q - pt (u s) p q else u s' q, fun s' => if s' = s then gf s + lf (u s) p 33 else gf s', fun s' q hs' hq => ?_, fun s' q hs' hq1 hq => ?_, fun s' hs' => ?_, fun t ht => ?_⟩
  all_goals (try dsimp only)
  · by_cases e : s' = s
    · subst e
      rw [if_pos rfl]
      have := (a s' q hs' hq).2.2
      exact ⟨x2 q hq, y2 q hq, by omega⟩
    · rw [if_neg e, x3 s' q e hq, y3 s' q hs' e hq]
      exact a s' q hs' hq
  · by_cases e : s' = s
    · subst e
      rw [if_pos rfl, b s' q hs' hq1 hq]; omega
    · rw [if_neg e]; exact b s' q hs' hq1 hq
  · obtain ⟨c1, c2, c3, c4, c5⟩ := c s' hs'
    by_cases e : s' = s
    · subst e
      refine ⟨?_, ?_, ?_, ?_, ?_⟩
      · rw [x4]; congr 1; exact usum_cong (fun q _ => by rw [if_pos rfl])
      · rw [upd_s, if_pos rfl, c2, nI_add]
      · rw [upd_s, if_pos rfl, c3, nI_add]
      · rw [if_pos rfl]; omega
      · rw [x6, upd_s, c5]
    · refine ⟨?_, ?_, ?_, ?_, ?_⟩
      · rw [x5 s' e, c1]; congr 1; exact usum_cong (fun q _ => by rw [if_neg e])
      · rw [upd_n e, if_neg e, c2]
      · rw [upd_n e, if_neg e, c3]
      · rw [if_neg e]; omega
      · rw [x7 s' e, upd_n e, c5]
  · by_cases e : t = s / 6
    · subst e; rw [x8, y4, d _ ht]
    · rw [x9 t e, y5 t e, d t ht]
theorem i64_mul0 (x : Int64) : x * (0 : Int32).toInt64 = 0 := by
  rw [show (0 : Int32).toInt64 = (0 : Int64) by decide]
  exact Int64.mul_zero
/-- one place's debt of a new quarter -/
theorem bring_pair {qz : Nat → Nat} {qn gb : Nat} {U O G P : Nat → Int32} {Lt : Nat → Int64} {D G' P' : Nat → Int32} {Lt' : Nat → Int64} (h : RAc qz gb U O G P Lt D G' P' Lt') {s v : Nat} (hs : s < 96) (hz : qz s = qn) (hqn : qn < 33) (hv : v ≤ 9999) (hgb : gb ≤ 1000000) :
    ∃ (n : Nat) (U' O' G1 P1 : Nat → Int32) (L1 : Nat → Int64), n ≤ v ∧ (∃ x, G' s = nI x ∧ x ≤ 1000000 ∧ n = min x v) ∧ fAc_bringDebt (nI s) (nI qn) (nI v) U O G P Lt = some (U', O', G1, P1, L1) ∧ RAc (fun k => if k = s then qn + 1 else qz k) gb U' O' G1 P1 L1 (upd D (96 * qn + s) (nI (v - n))) (upd G' s (G' s - nI n)) (upd P' s (P' s + nI n)) Lt' := by
  obtain ⟨u, gf, a, b, c, d⟩ := h
  obtain ⟨c1, c2, c3, c4, c5⟩ := c s hs
  have hu0 : u s qn = 0 := b s qn hs (by omega) hqn
  have hub : usum (u s) 33 ≤ 9999 * 33 := usum_le (fun q hq => (a s q hs hq).2.2)
  -- the new numbers
  have fin : ∀ (U' O' G1 P1 : Nat → Int32) (L1 : Nat → Int64), (∀ s' q, s' < 96 → q < 33 → U' (s' * 33 + q) = if s' = s ∧ q = qn then nI (v - min (gf s) v) else U (s' * 33 + q)) → (∀ k, k < 96 → O' k = if k = s then nI (usum (u s) 33 + (v - min (gf s) v)) else O k) → (∀ k, k < 96 → G1 k = if k = s then nI (gf s - min (gf s) v) else G k) → (∀ k, k < 96 → P1 k = if k = s then P s + nI (min (gf s) v) else P k) → (∀ t, t < 16 → L1 t = Lt t) →
      RAc (fun k => if k = s then qn + 1 else qz k) gb U' O' G1 P1 L1 (upd D (96 * qn + s) (nI (v - min (gf s) v))) (upd G' s (G' s - nI (min (gf s) v))) (upd P' s (P' s + nI (min (gf s) v))) Lt' := by
    intro U' O' G1 P1 L1 hU' hO' hG1 hP1 hL1
    refine ⟨fun s' q => if s' = s ∧ q = qn then v - min (gf s) v else u s' q, fun s' => if s' = s then gf s - min (gf s) v else gf s', fun s' q hs' hq => ?_, fun s' q hs' hq1 hq => ?_, fun s' hs' => ?_, fun t ht => by rw [hL1 t ht, d t ht]⟩
    all_goals (try dsimp only)
    · rw [hU' s' q hs' hq]
      by_cases e : s' = s ∧ q = qn
      · rw [if_pos e, if_pos e, e.1, e.2, upd_s]
        exact ⟨rfl, rfl, by omega⟩
      · rw [if_neg e, if_neg e, upd_n (fun z => e (by constructor <;> omega))]
        exact a s' q hs' hq
    · have hq1 : (if s' = s then qn + 1 else qz s') ≤ q := hq1
      by_cases e : s' = s
      · rw [if_pos e] at hq1
        rw [if_neg (fun z => by have := z.2; omega)]
        subst e
        exact b s' q hs' (by omega) hq
      · rw [if_neg e] at hq1
        rw [if_neg (fun z => e z.1)]
        exact b s' q hs' hq1 hq
    · obtain ⟨e1, e2, e3, e4, e5⟩ := c s' hs'
      rw [hO' s' hs', hG1 s' hs', hP1 s' hs']
      by_cases e : s' = s
      · subst e
        rw [if_pos rfl, if_pos rfl, if_pos rfl, if_pos rfl, upd_s, upd_s, e3, e5, pk_sub (Nat.min_le_left _ _)]
        refine ⟨?_, rfl, rfl, by omega, rfl⟩
        congr 1
        have := usum_dec (u := fun q => if s' = s' ∧ q = qn then v - min (gf s') v else u s' q) (v := u s') (q := qn) (x := v - min (gf s') v) (by rw [if_pos ⟨rfl, rfl⟩, hu0]; omega) (fun k hk => by rw [if_neg (fun z => hk z.2)]) (n := 33) hqn
        exact this
      · rw [if_neg e, if_neg e, if_neg e, if_neg e, upd_n e, upd_n e]
        refine ⟨?_, e2, e3, e4, e5⟩
        rw [e1]; congr 1
        exact usum_cong (fun q _ => by rw [if_neg (fun z => e z.1)])
  by_cases hv0 : v = 0
  · refine ⟨min (gf s) v, U, O, G, P, Lt, by omega, ⟨gf s, c3, by omega, rfl⟩, ?_, fin U O G P Lt ?_ ?_ ?_ ?_ (fun _ _ => rfl)⟩
    · unfold fAc_bringDebt
      rw [if_pos (show nI (v) ≤ (0 : Int32) from (nI_leI (a := (v)) (b := 0) (by omega) (by omega)).mpr (by omega))]
    · intro s' q hs' hq
      by_cases e : s' = s ∧ q = qn
      · rw [if_pos e, e.1, e.2, (a s qn hs hqn).1, hu0, hv0]
        congr 1
        omega
      · rw [if_neg e]
    · intro k hk
      by_cases e : k = s
      · rw [if_pos e, e, c1, hv0]; congr 1; omega
      · rw [if_neg e]
    · intro k hk
      by_cases e : k = s
      · rw [if_pos e, e, c2, hv0]; congr 1; omega
      · rw [if_neg e]
    · intro k hk
      by_cases e : k = s
      · rw [if_pos e, e, hv0, Nat.min_zero]; exact (Int32.add_zero _).symm
      · rw [if_neg e]
  · have hmin : min v (gf s) = min (gf s) v := Nat.min_comm _ _
    have hpay := pay_n (U := upd U (s * 33 + qn) (nI v)) (O := upd O s (O s + nI v)) (P := P) (Lt := Lt) (s := s) (q := qn) (x := v) (m := gf s) (dy := fAc_comingDay (nI qn)) hs hqn (upd_s _ _ _) (by omega) (by omega)
    rw [hmin] at hpay
    refine ⟨min (gf s) v, upd (upd U (s * 33 + qn) (nI v)) (s * 33 + qn) (nI (v - min (gf s) v)), upd (upd O s (O s + nI v)) s (upd O s (O s + nI v) s - nI (min (gf s) v)), upd G s (G s - nI (min (gf s) v)), upd P s (P s + nI (min (gf s) v)), vp_updL Lt (s / 6) (Lt (s / 6) + (nI (min (gf s) v)).toInt64 * (fAc_comingDay (nI qn) - fAc_comingDay (nI qn)).toInt64), by omega, ⟨gf s, c3, by omega, rfl⟩, ?_, fin _ _ _ _ _ ?_ ?_ ?_ ?_ ?_⟩
    · unfold fAc_bringDebt
      rw [if_neg (fun qq : nI (v) ≤ (0 : Int32) => absurd ((nI_leI (a := (v)) (b := 0) (by omega) (by omega)).mp qq) (by omega)), if_neg (show ¬ fTL_within (nI qn) 0 32 = 0 from ne0 (isIn_1 (k := qn) (lo := 0) (hi := 32) (by omega) (by omega) (by decide))), show nI s * 33 + nI qn = nI (s * 33 + qn) from ix_mr s qn 33]
      simp only [gdn (show s * 33 + qn < 3168 by omega) (show 3168 < 2 ^ 31 by decide), gdn hs (show 96 < 2 ^ 31 by decide), nI_clamp (show s * 33 + qn < 2 ^ 31 by omega), nI_clamp (show s < 2 ^ 31 by omega), c2, hpay, obs]
    · intro s' q hs' hq
      by_cases e : s' = s ∧ q = qn
      · rw [if_pos e, e.1, e.2, upd_s]
      · rw [if_neg e, upd_n (fun z => e (by constructor <;> omega)), upd_n (fun z => e (by constructor <;> omega))]
    · intro k hk
      by_cases e : k = s
      · rw [if_pos e, e, upd_s, upd_s, c1, nI_add, pk_sub (by omega)]
        congr 1
        omega
      · rw [if_neg e, upd_n e, upd_n e]
    · intro k hk
      by_cases e : k = s
      · rw [if_pos e, e, upd_s, c2, pk_sub (Nat.min_le_left _ _)]
      · rw [if_neg e, upd_n e]
    · intro k hk
      by_cases e : k = s
      · rw [if_pos e, e, upd_s]
      · rw [if_neg e, upd_n e]
    · intro t ht
      by_cases e : t = s / 6
      · rw [e, pk_uLs, Int32.sub_self, i64_mul0]; exact Int64.add_zero _
      · rw [pk_uLn e]
/-- all debts of a new quarter -/
theorem quarter_pair {qn gb : Nat} {U O G P : Nat → Int32} {Lt : Nat → Int64} {D G' P' : Nat → Int32} {Lt' : Nat → Int64} (h : RAc (fun _ => qn) gb U O G P Lt D G' P' Lt') {T : Nat → Nat → Int32} {t rd : Nat → Int32} (hT : RTo T t) (hqn : qn < 33) (hgb : gb ≤ 1000000) {k : Nat} (hk : k < 2 ^ 31) (hkq : k / 90 = qn + 1) :
    ∃ (U1 O1 G1 P1 : Nat → Int32) (L1 : Nat → Int64) (D1 G2 P2 : Nat → Int32), fTL_bringDebts (nI k) T rd U O G P Lt = some (U1, O1, G1, P1, L1) ∧ fMM_quarter (nI qn) t rd D G' P' = some (nI (qn + 1), D1, G2, P2) ∧ RAc (fun _ => qn + 1) gb U1 O1 G1 P1 L1 D1 G2 P2 Lt' := by
  -- the state when the places below s have been seen to
  have step : ∀ (w g n n' : Nat) (U O G P : Nat → Int32) (Lt : Nat → Int64) (D G' P' : Nat → Int32), 1 ≤ w → w < 16 → g < 6 → RAc (fun k => if k < w * 6 + g then qn + 1 else qn) gb U O G P Lt D G' P' Lt' →
      ∃ (U1 O1 G1 P1 : Nat → Int32) (L1 : Nat → Int64) (D1 G2 P2 : Nat → Int32), RAc (fun k => if k < w * 6 + (g + 1) then qn + 1 else qn) gb U1 O1 G1 P1 L1 D1 G2 P2 Lt' ∧ fTL_bringDebts_l16 (nI qn) T rd (n + 1) (nI (w * 6 + g)) U O G P Lt = fTL_bringDebts_l16 (nI qn) T rd n (nI (w * 6 + (g + 1))) U1 O1 G1 P1 L1 ∧ fMM_quarter_l10 (nI w) (nI qn) t rd (n' + 1) (nI g) D G' P' = fMM_quarter_l10 (nI w) (nI qn) t rd n' (nI (g + 1)) D1 G2 P2 := by
    intro w g n n' U O G P Lt D G' P' hw1 hw hg h
    obtain ⟨v, hv, o1, o2⟩ := owed_n (rd := rd) hT hw hg
    obtain ⟨m, U1, O1, G1, P1, L1, hm, ⟨x, hx, hx2, hmx⟩, b1, b2⟩ := bring_pair h (s := w * 6 + g) (v := v) (by omega) (by rw [if_neg (by omega)]) hqn hv hgb
    refine ⟨U1, O1, G1, P1, L1, upd D (96 * qn + (w * 6 + g)) (nI (v - m)), upd G' (w * 6 + g) (G' (w * 6 + g) - nI m), upd P' (w * 6 + g) (P' (w * 6 + g) + nI m), RAc_weak b2 (fun s' hs' q hq hh => ?_) (Nat.le_refl _), ?_, ?_⟩
    · by_cases e : s' = w * 6 + g
      · rw [if_pos (by omega)] at hh
        rw [if_pos e]; exact hh
      · rw [if_neg e]
        by_cases e2 : s' < w * 6 + g
        · rw [if_pos (by omega)] at hh
          rw [if_pos e2]; exact hh
        · rw [if_neg (by omega)] at hh
          rw [if_neg e2]; exact hh
    · rw [fTL_bringDebts_l16.eq_2, if_neg (fun qq : (96 : Int32) ≤ nI (w * 6 + g) => absurd ((nI_leI (a := 96) (b := (w * 6 + g)) (by omega) (by omega)).mp qq) (by omega)), o1, obs, b1, obs, nI_1 (w * 6 + g)]
      rfl
    · rw [fMM_quarter_l10.eq_2, if_neg (fun qq : (6 : Int32) ≤ nI (g) => absurd ((nI_leI (a := 6) (b := (g)) (by omega) (by omega)).mp qq) (by omega)), o2, obs, show (6 : Int32) * nI w + nI g = nI (w * 6 + g) from ix_ml w g 6, show (96 : Int32) * nI qn + nI (w * 6 + g) = nI (96 * qn + (w * 6 + g)) from by rw [show (96 : Int32) * nI qn + nI (w * 6 + g) = nI (qn * 96 + (w * 6 + g)) from ix_ml qn (w * 6 + g) 96]; congr 1; omega]
      simp only [gdn (show w * 6 + g < 96 by omega) (show 96 < 2 ^ 31 by decide), gdn (show 96 * qn + (w * 6 + g) < 3264 by omega) (show 3264 < 2 ^ 31 by decide), nI_clamp (show w * 6 + g < 2 ^ 31 by omega), nI_clamp (show 96 * qn + (w * 6 + g) < 2 ^ 31 by omega)]
      rw [hx, nI_1 g]
      by_cases c : v ≤ x
      · have e : m = v := by omega
        rw [if_pos ((nI_leI (by omega) (by omega)).mpr c), e, pk_sub (Nat.le_refl _)]
      · have e : m = x := by omega
        rw [if_neg (fun z => c ((nI_leI (by omega) (by omega)).mp z)), e, pk_sub (by omega)]
  have inner : ∀ (d w g n n' : Nat) (U O G P : Nat → Int32) (Lt : Nat → Int64) (D G' P' : Nat → Int32), 1 ≤ w → w < 16 → g + d = 6 → d < n' → RAc (fun k => if k < w * 6 + g then qn + 1 else qn) gb U O G P Lt D G' P' Lt' →
      ∃ (U1 O1 G1 P1 : Nat → Int32) (L1 : Nat → Int64) (D1 G2 P2 : Nat → Int32), RAc (fun k => if k < (w + 1) * 6 then qn + 1 else qn) gb U1 O1 G1 P1 L1 D1 G2 P2 Lt' ∧ fTL_bringDebts_l16 (nI qn) T rd (n + d) (nI (w * 6 + g)) U O G P Lt = fTL_bringDebts_l16 (nI qn) T rd n (nI ((w + 1) * 6)) U1 O1 G1 P1 L1 ∧ fMM_quarter_l10 (nI w) (nI qn) t rd n' (nI g) D G' P' = some (D1, G2, P2) := by
    intro d
    induction d with
    | zero =>
      intro w g n n' U O G P Lt D G' P' hw1 hw hg hn h
      obtain ⟨n', rfl⟩ : ∃ k, n' = k + 1 := ⟨n' - 1, by omega⟩
      have hg : g = 6 := by omega
      subst hg
      rw [show w * 6 + 6 = (w + 1) * 6 by omega] at h ⊢
      exact ⟨U, O, G, P, Lt, D, G', P', h, rfl, by rw [fMM_quarter_l10.eq_2, if_pos (show (6 : Int32) ≤ nI (6) from (nI_leI (a := 6) (b := (6)) (by omega) (by omega)).mpr (by omega))]⟩
    | succ d ih =>
      intro w g n n' U O G P Lt D G' P' hw1 hw hg hn h
      obtain ⟨n', rfl⟩ : ∃ k, n' = k + 1 := ⟨n' - 1, by omega⟩
      obtain ⟨U1, O1, G1, P1, L1, D1, G2, P2, r1, r2, r3⟩ := step w g (n + d) n' U O G P Lt D G' P' hw1 hw (by omega) h
      obtain ⟨U3, O3, G3, P3, L3, D3, G4, P4, q1, q2, q3⟩ := ih w (g + 1) n n' U1 O1 G1 P1 L1 D1 G2 P2 hw1 hw (by omega) (by omega) r1
      exact ⟨U3, O3, G3, P3, L3, D3, G4, P4, q1, by rw [show n + (d + 1) = n + d + 1 by omega, r2, q2], by rw [r3, q3]⟩
  have outer : ∀ (d w n n' : Nat) (U O G P : Nat → Int32) (Lt : Nat → Int64) (D G' P' : Nat → Int32), 1 ≤ w → w + d = 16 → d < n' → RAc (fun k => if k < w * 6 then qn + 1 else qn) gb U O G P Lt D G' P' Lt' →
      ∃ (U1 O1 G1 P1 : Nat → Int32) (L1 : Nat → Int64) (D1 G2 P2 : Nat → Int32), RAc (fun _ => qn + 1) gb U1 O1 G1 P1 L1 D1 G2 P2 Lt' ∧ fTL_bringDebts_l16 (nI qn) T rd (n + 1 + 6 * d) (nI (w * 6)) U O G P Lt = some (U1, O1, G1, P1, L1) ∧ fMM_quarter_l2 (nI qn) t rd n' (nI w) D G' P' = some (D1, G2, P2) := by
    intro d
    induction d with
    | zero =>
      intro w n n' U O G P Lt D G' P' hw1 hw hn h
      obtain ⟨n', rfl⟩ : ∃ k, n' = k + 1 := ⟨n' - 1, by omega⟩
      have hw : w = 16 := by omega
      subst hw
      refine ⟨U, O, G, P, Lt, D, G', P', RAc_weak h (fun s' hs' q _ hh => ?_) (Nat.le_refl _), by rw [fTL_bringDebts_l16.eq_2, if_pos (show (96 : Int32) ≤ nI (16 * 6) from (nI_leI (a := 96) (b := (16 * 6)) (by omega) (by omega)).mpr (by omega))], by rw [fMM_quarter_l2.eq_2, if_pos (show (16 : Int32) ≤ nI (16) from (nI_leI (a := 16) (b := (16)) (by omega) (by omega)).mpr (by omega))]⟩
      rw [if_pos (by omega)]; exact hh
    | succ d ih =>
      intro w n n' U O G P Lt D G' P' hw1 hw hn h
      obtain ⟨n', rfl⟩ : ∃ k, n' = k + 1 := ⟨n' - 1, by omega⟩
      obtain ⟨U1, O1, G1, P1, L1, D1, G2, P2, r1, r2, r3⟩ := inner 6 w 0 (n + 1 + 6 * d) FU U O G P Lt D G' P' hw1 (by omega) rfl (FU_gt (by decide)) h
      obtain ⟨U3, O3, G3, P3, L3, D3, G4, P4, q1, q2, q3⟩ := ih (w + 1) n n' U1 O1 G1 P1 L1 D1 G2 P2 (by omega) (by omega) (by omega) r1
      refine ⟨U3, O3, G3, P3, L3, D3, G4, P4, q1, ?_, ?_⟩
      · rw [show n + 1 + 6 * (d + 1) = n + 1 + 6 * d + 6 by omega]
        have r2 : fTL_bringDebts_l16 (nI qn) T rd (n + 1 + 6 * d + 6) (nI (w * 6)) U O G P Lt = fTL_bringDebts_l16 (nI qn) T rd (n + 1 + 6 * d) (nI ((w + 1) * 6)) U1 O1 G1 P1 L1 := r2
        rw [r2, q2]
      · have r3 : fMM_quarter_l10 (nI w) (nI qn) t rd FU 0 D G' P' = some (D1, G2, P2) := r3
        rw [fMM_quarter_l2.eq_2, if_neg (fun qq : (16 : Int32) ≤ nI (w) => absurd ((nI_leI (a := 16) (b := (w)) (by omega) (by omega)).mp qq) (by omega)), r3, obs, nI_1 w]
        exact q3
  obtain ⟨U1, O1, G1, P1, L1, D1, G2, P2, r1, r2, r3⟩ := outer 15 1 (1000000000 - 1 - 6 * 15) FU U O G P Lt D G' P' (by decide) rfl (FU_gt (by decide)) (RAc_weak h (fun s' hs' q hq hh => by
    show qn ≤ q
    by_cases e : s' < 1 * 6
    · rw [if_pos e] at hh; omega
    · rw [if_neg e] at hh; exact hh) (Nat.le_refl _))
  refine ⟨U1, O1, G1, P1, L1, D1, G2, P2, ?_, ?_, r1⟩
  · unfold fTL_bringDebts
    rw [show nI k / 90 = nI (k / 90) from pk_div (d := 90) hk (by decide) (by decide), hkq, show nI (qn + 1) - 1 = nI qn from nI_pred qn, show fTL_slot 1 0 = nI (1 * 6) from by decide]
    have r2 : fTL_bringDebts_l16 (nI qn) T rd FU (nI (1 * 6)) U O G P Lt = some (U1, O1, G1, P1, L1) := r2
    rw [r2, obs]
  · unfold fMM_quarter
    have r3 : fMM_quarter_l2 (nI qn) t rd FU 1 D G' P' = some (D1, G2, P2) := r3
    rw [r3, obs, nI_1 qn]
