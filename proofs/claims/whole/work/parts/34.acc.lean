/-! accounts: storing -/
def usum (u : Nat → Nat) : Nat → Nat
  | 0 => 0
  | q + 1 => usum u q + u q
/-- what is left of p ahead of the debt q -/
def lf (u : Nat → Nat) (p : Nat) : Nat → Nat
  | 0 => p
  | q + 1 => lf u p q - min (u q) (lf u p q)
def pt (u : Nat → Nat) (p q : Nat) : Nat := min (u q) (lf u p q)
theorem lf_s (u : Nat → Nat) (p q : Nat) : lf u p (q + 1) = lf u p q - pt u p q := rfl
theorem lf_le (u : Nat → Nat) (p : Nat) : ∀ q, lf u p q ≤ p
  | 0 => Nat.le_refl _
  | q + 1 => by have := lf_le u p q; rw [lf_s]; omega
theorem pt_le (u : Nat → Nat) (p q : Nat) : pt u p q ≤ u q ∧ pt u p q ≤ lf u p q := ⟨Nat.min_le_left _ _, Nat.min_le_right _ _⟩
theorem lf_0 {u : Nat → Nat} {p q : Nat} (h : lf u p q = 0) : ∀ k, lf u p (q + k) = 0 ∧ pt u p (q + k) = 0
  | 0 => ⟨h, by have := (pt_le u p q).2; show pt u p q = 0; omega⟩
  | k + 1 => by
    obtain ⟨h1, h2⟩ := lf_0 h k
    have e : lf u p (q + (k + 1)) = 0 := by show lf u p (q + k + 1) = 0; rw [lf_s, h1]; omega
    exact ⟨e, by have := (pt_le u p (q + (k + 1))).2; omega⟩
theorem lf_z {u : Nat → Nat} {p q : Nat} (h : ∀ k, q ≤ k → k < 33 → u k = 0) : ∀ k, q + k ≤ 33 → lf u p (q + k) = lf u p q ∧ (q + k < 33 → pt u p (q + k) = 0)
  | 0, hk => ⟨rfl, fun h1 => by have := (pt_le u p q).1; have := h q (Nat.le_refl _) (by omega); show pt u p q = 0; omega⟩
  | k + 1, hk => by
    obtain ⟨h1, h2⟩ := lf_z h k (by omega)
    have e : lf u p (q + (k + 1)) = lf u p q := by show lf u p (q + k + 1) = _; rw [lf_s, h1, h2 (by omega)]; omega
    exact ⟨e, fun h3 => by have := (pt_le u p (q + (k + 1))).1; have := h (q + (k + 1)) (by omega) h3; omega⟩
def ls (u : Nat → Nat) (p : Nat) (dy : Int32) (L : Int64) : Nat → Int64
  | 0 => L
  | q + 1 => ls u p dy L q + (nI (pt u p q)).toInt64 * (dy - fAc_comingDay (nI q)).toInt64
theorem ls_s (u : Nat → Nat) (p : Nat) (dy : Int32) (L : Int64) (q : Nat) : ls u p dy L (q + 1) = ls u p dy L q + (nI (pt u p q)).toInt64 * (dy - fAc_comingDay (nI q)).toInt64 := rfl
theorem z64 (x : Int64) : (nI 0).toInt64 * x = 0 := by
  rw [show (nI 0).toInt64 = (0 : Int64) by decide]
  exact Int64.zero_mul
theorem ls_z {u : Nat → Nat} {p q n : Nat} {dy : Int32} {L : Int64} (h : ∀ k, q ≤ k → k < n → pt u p k = 0) : ∀ k, q + k ≤ n → ls u p dy L (q + k) = ls u p dy L q
  | 0, _ => rfl
  | k + 1, hk => by
    show ls u p dy L (q + k + 1) = _
    rw [ls_s, h (q + k) (by omega) (by omega), z64, ls_z h k (by omega)]
    exact Int64.add_zero _
theorem usum_cong {u v : Nat → Nat} : ∀ {n : Nat}, (∀ q, q < n → u q = v q) → usum u n = usum v n
  | 0, _ => rfl
  | n + 1, h => by
    show usum u n + u n = usum v n + v n
    rw [usum_cong (fun q hq => h q (by omega)), h n (by omega)]
theorem usum_dec {u v : Nat → Nat} {q x : Nat} (hq : v q + x = u q) (ho : ∀ k, k ≠ q → v k = u k) : ∀ {n : Nat}, q < n → usum v n + x = usum u n
  | 0, h => absurd h (Nat.not_lt_zero _)
  | n + 1, h => by
    show usum v n + v n + x = usum u n + u n
    by_cases e : q = n
    · subst e
      rw [usum_cong (u := v) (v := u) (fun k hk => ho k (by omega))]
      omega
    · have := usum_dec hq ho (n := n) (by omega)
      have := ho n (fun z => e z.symm)
      omega
theorem usum_le {u : Nat → Nat} {c : Nat} : ∀ {n : Nat}, (∀ q, q < n → u q ≤ c) → usum u n ≤ c * n
  | 0, _ => Nat.le_refl _
  | n + 1, h => by
    have h1 := usum_le (u := u) (c := c) (n := n) (fun q hq => h q (by omega))
    have h2 := h n (by omega)
    show usum u n + u n ≤ c * (n + 1)
    rw [Nat.mul_succ]; omega
theorem usum_ge (u : Nat → Nat) {q : Nat} : ∀ {n : Nat}, q < n → u q ≤ usum u n
  | 0, h => absurd h (Nat.not_lt_zero _)
  | n + 1, h => by
    show u q ≤ usum u n + u n
    by_cases e : q = n
    · subst e; omega
    · have := usum_ge u (n := n) (q := q) (by omega); omega
theorem min_n {a b : Nat} (ha : a < 2 ^ 31) (hb : b < 2 ^ 31) : (if nI a < nI b then nI a else nI b) = nI (min a b) := by
  by_cases h : a < b
  · rw [if_pos ((nI_ltI ha hb).mpr h), Nat.min_eq_left (by omega)]
  · rw [if_neg (fun q => h ((nI_ltI ha hb).mp q)), Nat.min_eq_right (by omega)]
theorem pay_n {U O P : Nat → Int32} {Lt : Nat → Int64} {s q x m : Nat} {dy : Int32} (hs : s < 96) (hq : q < 33) (hU : U (s * 33 + q) = nI x) (hx : x < 2 ^ 31) (hm : m < 2 ^ 31) : fAc_pay (nI s) (nI q) (nI m) dy U O P Lt = some (nI (min x m), upd U (s * 33 + q) (nI (x - min x m)), upd O s (O s - nI (min x m)), upd P s (P s + nI (min x m)), vp_updL Lt (s / 6) (Lt (s / 6) + (nI (min x m)).toInt64 * (dy - fAc_comingDay (nI q)).toInt64)) := by
  unfold fAc_pay
  rw [show nI s * 33 + nI q = nI (s * 33 + q) from ix_mr s q 33, show nI s / 6 = nI (s / 6) from pk_div (d := 6) (by omega) (by decide) (by decide)]
  simp only [gdn (show s * 33 + q < 3168 by omega) (show 3168 < 2 ^ 31 by decide), gdn hs (show 96 < 2 ^ 31 by decide), gdn (show s / 6 < 16 by omega) (show 16 < 2 ^ 31 by decide), nI_clamp (show s * 33 + q < 2 ^ 31 by omega), nI_clamp (show s < 2 ^ 31 by omega), nI_clamp (show s / 6 < 2 ^ 31 by omega), hU, min_n hx hm]
  rw [pk_sub (Nat.min_le_left _ _)]
/-- the state of the debts of one place when those below q are paid -/
def wq (u : Nat → Nat) (p q : Nat) : Nat → Nat := fun k => if k < q then u k - pt u p k else u k
theorem wq_s (u : Nat → Nat) (p q : Nat) : (∀ k, k ≠ q → wq u p (q + 1) k = wq u p q k) ∧ wq u p (q + 1) q + pt u p q = wq u p q q ∧ wq u p q q = u q ∧ wq u p (q + 1) q = u q - pt u p q := by
  have h := (pt_le u p q).1
  refine ⟨fun k hk => ?_, ?_, ?_, ?_⟩
  · unfold wq
    by_cases c : k < q
    · rw [if_pos c, if_pos (by omega)]
    · rw [if_neg c, if_neg (by omega)]
  · unfold wq; rw [if_pos (by omega), if_neg (by omega)]; omega
  · unfold wq; rw [if_neg (by omega)]
  · unfold wq; rw [if_pos (by omega)]
theorem upd_s (f : Nat → Int32) (k : Nat) (x : Int32) : upd f k x k = x := pk_us
theorem upd_n {f : Nat → Int32} {k j : Nat} {x : Int32} (h : j ≠ k) : upd f k x j = f j := pk_un h
theorem storeX {U O G P : Nat → Int32} {Lt : Nat → Int64} {s p : Nat} {u : Nat → Nat} {dy : Int32} (hs : s < 96) (hp : p ≤ 9999) (hu : ∀ q, q < 33 → U (s * 33 + q) = nI (u q) ∧ u q ≤ 9999) (hO : O s = nI (usum u 33)) :
    ∃ (U' O' P' : Nat → Int32) (L' : Nat → Int64), fAc_store (nI s) (nI p) dy U O G P Lt = some (nI (p - lf u p 33), U', O', upd G s (G s + nI (lf u p 33)), P', L') ∧ (∀ q, q < 33 → U' (s * 33 + q) = nI (u q - pt u p q)) ∧ (∀ s' q, s' ≠ s → q < 33 → U' (s' * 33 + q) = U (s' * 33 + q)) ∧ O' s = nI (usum (fun q => u q - pt u p q) 33) ∧ (∀ k, k ≠ s → O' k = O k) ∧ P' s = P s + nI (p - lf u p 33) ∧ (∀ k, k ≠ s → P' k = P k) ∧ L' (s / 6) = ls u p dy (Lt (s / 6)) 33 ∧ (∀ k, k ≠ s / 6 → L' k = Lt k) := by
  have key : ∀ (d q n : Nat) (U1 O1 P1 : Nat → Int32) (L1 : Nat → Int64), q + d = 33 → d < n →
      ((∀ k, k < 33 → U1 (s * 33 + k) = nI (wq u p q k)) ∧ (∀ s' k, s' ≠ s → k < 33 → U1 (s' * 33 + k) = U (s' * 33 + k)) ∧ O1 s = nI (usum (wq u p q) 33) ∧ (∀ k, k ≠ s → O1 k = O k) ∧ P1 s = P s + nI (p - lf u p q) ∧ (∀ k, k ≠ s → P1 k = P k) ∧ L1 (s / 6) = ls u p dy (Lt (s / 6)) q ∧ (∀ k, k ≠ s / 6 → L1 k = Lt k)) →
      ∃ (U' O' P' : Nat → Int32) (L' : Nat → Int64), fAc_store_l6 (nI s) (nI p) dy n (nI (lf u p q)) (nI q) U1 O1 P1 L1 = some (nI (lf u p 33), U', O', P', L') ∧ (∀ q, q < 33 → U' (s * 33 + q) = nI (u q - pt u p q)) ∧ (∀ s' q, s' ≠ s → q < 33 → U' (s' * 33 + q) = U (s' * 33 + q)) ∧ O' s = nI (usum (fun q => u q - pt u p q) 33) ∧ (∀ k, k ≠ s → O' k = O k) ∧ P' s = P s + nI (p - lf u p 33) ∧ (∀ k, k ≠ s → P' k = P k) ∧ L' (s / 6) = ls u p dy (Lt (s / 6)) 33 ∧ (∀ k, k ≠ s / 6 → L' k = Lt k) := by
    intro d
    induction d with
    | zero =>
      intro q n U1 O1 P1 L1 hq hn ⟨i1, i2, i3, i4, i5, i6, i7, i8⟩
      obtain ⟨n, rfl⟩ : ∃ k, n = k + 1 := ⟨n - 1, by omega⟩
      have hq : q = 33 := by omega
      subst hq
      have hw : ∀ k, k < 33 → wq u p 33 k = u k - pt u p k := fun k hk => if_pos hk
      refine ⟨U1, O1, P1, L1, ?_, fun k hk => ?_, i2, ?_, i4, i5, i6, i7, i8⟩
      · rw [fAc_store_l6.eq_2, if_pos (show (33 : Int32) ≤ nI (33) from (nI_leI (a := 33) (b := (33)) (by omega) (by omega)).mpr (by omega))]
      · rw [i1 k hk, hw k hk]
      · rw [i3, usum_cong hw]
    | succ d ih =>
      intro q n U1 O1 P1 L1 hq hn ⟨i1, i2, i3, i4, i5, i6, i7, i8⟩
      obtain ⟨n, rfl⟩ : ∃ k, n = k + 1 := ⟨n - 1, by omega⟩
      have hq3 : q < 33 := by omega
      have hl := lf_le u p q
      obtain ⟨w1, w2, w3, w4⟩ := wq_s u p q
      by_cases h0 : lf u p q = 0
      · -- nothing is left
        have hz := lf_0 h0
        have hpt : ∀ k, q ≤ k → k < 33 → pt u p k = 0 := fun k hk _ => by
          have := (hz (k - q)).2
          rwa [show q + (k - q) = k by omega] at this
        have hw : ∀ k, k < 33 → wq u p q k = u k - pt u p k := fun k hk => by
          unfold wq
          by_cases c : k < q
          · rw [if_pos c]
          · rw [if_neg c, hpt k (by omega) hk]; omega
        have hl33 : lf u p 33 = 0 := by
          have := (hz (33 - q)).1
          rwa [show q + (33 - q) = 33 by omega] at this
        have hls : ls u p dy (Lt (s / 6)) 33 = ls u p dy (Lt (s / 6)) q := by
          have := ls_z (dy := dy) (L := Lt (s / 6)) hpt (33 - q) (by omega)
          rwa [show q + (33 - q) = 33 by omega] at this
        refine ⟨U1, O1, P1, L1, ?_, fun k hk => ?_, i2, ?_, i4, ?_, i6, ?_, i8⟩
        · rw [fAc_store_l6.eq_2, if_neg (fun qq : (33 : Int32) ≤ nI (q) => absurd ((nI_leI (a := 33) (b := (q)) (by omega) (by omega)).mp qq) (by omega)), if_pos (show nI (lf u p q) ≤ (0 : Int32) from (nI_leI (a := (lf u p q)) (b := 0) (by omega) (by omega)).mpr (by omega)), h0, hl33]
        · rw [i1 k hk, hw k hk]
        · rw [i3, usum_cong hw]
        · rw [i5, h0, hl33]
        · rw [i7, hls]
      · have hU1 : U1 (s * 33 + q) = nI (u q) := by rw [i1 q hq3, w3]
        have hx := (hu q hq3).2
        have hpq := pt_le u p q
        rw [fAc_store_l6.eq_2, if_neg (fun qq : (33 : Int32) ≤ nI (q) => absurd ((nI_leI (a := 33) (b := (q)) (by omega) (by omega)).mp qq) (by omega)), if_neg (fun qq : nI (lf u p q) ≤ (0 : Int32) => absurd ((nI_leI (a := (lf u p q)) (b := 0) (by omega) (by omega)).mp qq) (by omega)), pay_n hs hq3 hU1 (by omega) (by omega), obs]
        show ∃ U' O' P' L', fAc_store_l6 (nI s) (nI p) dy n (nI (lf u p q) - nI (pt u p q)) (nI q + 1) (upd U1 (s * 33 + q) (nI (u q - pt u p q))) (upd O1 s (O1 s - nI (pt u p q))) (upd P1 s (P1 s + nI (pt u p q))) (vp_updL L1 (s / 6) (L1 (s / 6) + (nI (pt u p q)).toInt64 * (dy - fAc_comingDay (nI q)).toInt64)) = _ ∧ _
        rw [pk_sub hpq.2, ← lf_s, nI_1 q]
        refine ih (q + 1) n _ _ _ _ (by omega) (by omega) ⟨fun k hk => ?_, fun s' k hs' hk => ?_, ?_, fun k hk => ?_, ?_, fun k hk => ?_, ?_, fun k hk => ?_⟩
        · by_cases e : k = q
          · subst e; rw [upd_s, w4]
          · rw [upd_n (by omega), i1 k hk, w1 k e]
        · rw [upd_n (by omega), i2 s' k hs' hk]
        · have hd := usum_dec w2 w1 (n := 33) hq3
          rw [upd_s, i3, ← hd, pk_sub (by omega)]
          congr 1
          omega
        · rw [upd_n hk, i4 k hk]
        · rw [upd_s, i5, Int32.add_assoc, nI_add]
          congr 2
          rw [lf_s]; omega
        · rw [upd_n hk, i6 k hk]
        · rw [pk_uLs, i7, ls_s]
        · rw [pk_uLn hk, i8 k hk]
  obtain ⟨U', O', P', L', h1, h2⟩ := key 33 0 FU U O P Lt rfl (FU_gt (by decide)) ⟨fun k hk => by rw [(hu k hk).1]; rfl, fun _ _ _ _ => rfl, by rw [hO]; rfl, fun _ _ => rfl, by show P s = P s + nI (p - p); rw [Nat.sub_self]; exact (Int32.add_zero _).symm, fun _ _ => rfl, rfl, fun _ _ => rfl⟩
  refine ⟨U', O', P', L', ?_, h2⟩
  unfold fAc_store
  have h1 : fAc_store_l6 (nI s) (nI p) dy FU (nI p) 0 U O P Lt = some (nI (lf u p 33), U', O', P', L') := h1
  have hl := lf_le u p 33
  rw [h1, obs, gdn hs (by decide), gdn hs (by decide), nI_clamp (by omega), pk_sub hl]
/-- the reference's loop of storing -/
theorem storeM {D town : Nat → Int32} {Lt : Nat → Int64} {k s t p qn : Nat} {u : Nat → Nat} {dy : Int32} (hk : k < 100) (hs : s < 96) (ht : t < 16) (htn : town k = nI t) (hp : p ≤ 9999) (hqn : qn ≤ 33) (hu : ∀ q, q < 33 → D (96 * q + s) = nI (u q) ∧ u q ≤ 9999) (hz : ∀ q, qn ≤ q → q < 33 → u q = 0) :
    ∃ (D' : Nat → Int32) (L' : Nat → Int64), fMM_store_l27 (nI k) (nI s) dy (nI qn) town FU (nI p) 0 D Lt = some (nI (lf u p 33), D', L') ∧ (∀ q, q < 33 → D' (96 * q + s) = nI (u q - pt u p q)) ∧ (∀ s' q, s' < 96 → s' ≠ s → q < 33 → D' (96 * q + s') = D (96 * q + s')) ∧ L' t = ls u p dy (Lt t) 33 ∧ (∀ j, j ≠ t → L' j = Lt j) := by
  have key : ∀ (d q n : Nat) (D1 : Nat → Int32) (L1 : Nat → Int64), q + d = qn → d < n →
      ((∀ j, j < 33 → D1 (96 * j + s) = nI (wq u p q j)) ∧ (∀ s' j, s' < 96 → s' ≠ s → j < 33 → D1 (96 * j + s') = D (96 * j + s')) ∧ L1 t = ls u p dy (Lt t) q ∧ (∀ j, j ≠ t → L1 j = Lt j)) →
      ∃ (D' : Nat → Int32) (L' : Nat → Int64), fMM_store_l27 (nI k) (nI s) dy (nI qn) town n (nI (lf u p q)) (nI q) D1 L1 = some (nI (lf u p qn), D', L') ∧ (∀ j, j < 33 → D' (96 * j + s) = nI (wq u p qn j)) ∧ (∀ s' j, s' < 96 → s' ≠ s → j < 33 → D' (96 * j + s') = D (96 * j + s')) ∧ L' t = ls u p dy (Lt t) qn ∧ (∀ j, j ≠ t → L' j = Lt j) := by
    intro d
    induction d with
    | zero =>
      intro q n D1 L1 hq hn hI
      obtain ⟨n, rfl⟩ : ∃ k, n = k + 1 := ⟨n - 1, by omega⟩
      have hq : q = qn := by omega
      subst hq
      exact ⟨D1, L1, by rw [fMM_store_l27.eq_2, if_pos (Int32.le_refl _)], hI⟩
    | succ d ih =>
      intro q n D1 L1 hq hn ⟨i1, i2, i3, i4⟩
      obtain ⟨n, rfl⟩ : ∃ k, n = k + 1 := ⟨n - 1, by omega⟩
      have hq3 : q < 33 := by omega
      have hl := lf_le u p q
      obtain ⟨w1, w2, w3, w4⟩ := wq_s u p q
      have hD1 : D1 (96 * q + s) = nI (u q) := by rw [i1 q hq3, w3]
      have hx := (hu q hq3).2
      have hpq := pt_le u p q
      have e1 : 96 * nI q + nI s = nI (96 * q + s) := by rw [show (96 : Int32) * nI q + nI s = nI (q * 96 + s) from ix_ml q s 96]; congr 1; omega
      have hgo : fMM_store_l27 (nI k) (nI s) dy (nI qn) town (n + 1) (nI (lf u p q)) (nI q) D1 L1 = fMM_store_l27 (nI k) (nI s) dy (nI qn) town n (nI (lf u p (q + 1))) (nI (q + 1)) (upd D1 (96 * q + s) (nI (u q - pt u p q))) (vp_updL L1 t (L1 t + (nI (pt u p q)).toInt64 * (dy - fAc_comingDay (nI q)).toInt64)) := by
        rw [fMM_store_l27.eq_2, if_neg (fun qq : nI (qn) ≤ nI (q) => absurd ((nI_leI (a := (qn)) (b := (q)) (by omega) (by omega)).mp qq) (by omega)), e1]
        simp only [gdn (show 96 * q + s < 3264 by omega) (show 3264 < 2 ^ 31 by decide), gdn hk (show 100 < 2 ^ 31 by decide), nI_clamp (show 96 * q + s < 2 ^ 31 by omega), nI_clamp (show k < 2 ^ 31 by omega), htn, gdn ht (show 16 < 2 ^ 31 by decide), nI_clamp (show t < 2 ^ 31 by omega), hD1]
        by_cases c : lf u p q ≤ u q
        · have e : pt u p q = lf u p q := Nat.min_eq_right c
          rw [if_pos ((nI_leI (by omega) (by omega)).mpr c), pk_sub (Nat.le_refl _), pk_sub c, nI_1 q, lf_s, e]
          unfold fAc_comingDay
          rw [nI_1 q]
        · have e : pt u p q = u q := Nat.min_eq_left (by omega)
          rw [if_neg (fun z => c ((nI_leI (by omega) (by omega)).mp z)), pk_sub (Nat.le_refl _), pk_sub (by omega), nI_1 q, lf_s, e]
          unfold fAc_comingDay
          rw [nI_1 q]
      rw [hgo]
      refine ih (q + 1) n _ _ (by omega) (by omega) ⟨fun j hj => ?_, fun s' j hs1 hs2 hj => ?_, ?_, fun j hj => ?_⟩
      · by_cases e : j = q
        · subst e; rw [upd_s, w4]
        · rw [upd_n (by omega), i1 j hj, w1 j e]
      · rw [upd_n (by omega), i2 s' j hs1 hs2 hj]
      · rw [pk_uLs, i3, ls_s]
      · rw [pk_uLn hj, i4 j hj]
  obtain ⟨D', L', h1, h2, h3, h4, h5⟩ := key qn 0 FU D Lt (by omega) (FU_gt (by omega)) ⟨fun j hj => by rw [(hu j hj).1]; rfl, fun _ _ _ _ _ => rfl, rfl, fun _ _ => rfl⟩
  have hzz := lf_z (p := p) hz
  have hl33 : lf u p 33 = lf u p qn := by
    have := (hzz (33 - qn) (by omega)).1
    rwa [show qn + (33 - qn) = 33 by omega] at this
  have hpt : ∀ j, qn ≤ j → j < 33 → pt u p j = 0 := fun j h1 h2 => by
    have := (hzz (j - qn) (by omega)).2
    rw [show qn + (j - qn) = j by omega] at this
    exact this h2
  refine ⟨D', L', by rw [hl33]; exact h1, fun j hj => ?_, h3, ?_, h5⟩
  · rw [h2 j hj]
    unfold wq
    by_cases c : j < qn
    · rw [if_pos c]
    · rw [if_neg c, hpt j (by omega) hj]; rfl
  · have := ls_z (dy := dy) (L := Lt t) hpt (33 - qn) (by omega)
    rw [show qn + (33 - qn) = 33 by omega] at this
    rw [this, h4]
