/-! accounts: what is answered of them -/
/-- the smallest of q, .., q + k - 1 that is owed -/
def odq (u : Nat → Nat) : Nat → Nat → Int32
  | 0, _ => -1
  | k + 1, q => if u q = 0 then odq u k (q + 1) else nI q
theorem odq_z {u : Nat → Nat} : ∀ (k q : Nat), (∀ j, q ≤ j → j < q + k → u j = 0) → odq u k q = -1
  | 0, _, _ => rfl
  | k + 1, q, h => by
    show (if u q = 0 then odq u k (q + 1) else nI q) = -1
    rw [if_pos (h q (Nat.le_refl _) (by omega))]
    exact odq_z k (q + 1) (fun j h1 h2 => h j (by omega) (by omega))
theorem usum_z {u : Nat → Nat} {q : Nat} : ∀ (k : Nat), (∀ j, q ≤ j → j < q + k → u j = 0) → usum u (q + k) = usum u q
  | 0, _ => rfl
  | k + 1, h => by
    show usum u (q + k) + u (q + k) = _
    rw [usum_z k (fun j h1 h2 => h j h1 (by omega)), h (q + k) (by omega) (by omega)]
    rfl
theorem oldX {U : Nat → Int32} {u : Nat → Nat} {s : Nat} (hs : s < 96) (hu : ∀ q, q < 33 → U (s * 33 + q) = nI (u q) ∧ u q ≤ 9999) : fAc_oldestQuarter (nI s) U = some (odq u 33 0) := by
  have key : ∀ (d q n : Nat), q + d = 33 → d < n → ob (fAc_oldestQuarter_l2 (nI s) U n (nI q)) (Sum.elim (fun e3 => some (e3)) (fun e4 => some (-1))) = some (odq u d q) := by
    intro d
    induction d with
    | zero =>
      intro q n hq hn
      obtain ⟨n, rfl⟩ : ∃ k, n = k + 1 := ⟨n - 1, by omega⟩
      have hq : q = 33 := by omega
      subst hq
      rw [fAc_oldestQuarter_l2.eq_2, if_pos (show (33 : Int32) ≤ nI (33) from (nI_leI (a := 33) (b := (33)) (by omega) (by omega)).mpr (by omega))]
      rfl
    | succ d ih =>
      intro q n hq hn
      obtain ⟨n, rfl⟩ : ∃ k, n = k + 1 := ⟨n - 1, by omega⟩
      have hx := (hu q (by omega)).2
      rw [fAc_oldestQuarter_l2.eq_2, if_neg (fun qq : (33 : Int32) ≤ nI (q) => absurd ((nI_leI (a := 33) (b := (q)) (by omega) (by omega)).mp qq) (by omega)), show nI s * 33 + nI q = nI (s * 33 + q) from ix_mr s q 33, gdn (by omega) (by decide), nI_clamp (by omega), (hu q (by omega)).1]
      show _ = some (if u q = 0 then odq u d (q + 1) else nI q)
      by_cases h0 : u q = 0
      · rw [if_pos (show nI (u q) ≤ (0 : Int32) from (nI_leI (a := (u q)) (b := 0) (by omega) (by omega)).mpr (by omega)), if_pos h0, nI_1 q]
        exact ih (q + 1) n (by omega) (by omega)
      · rw [if_neg (fun qq : nI (u q) ≤ (0 : Int32) => absurd ((nI_leI (a := (u q)) (b := 0) (by omega) (by omega)).mp qq) (by omega)), if_neg h0]
        rfl
  exact key 33 0 FU rfl (FU_gt (by decide))
theorem accM {D : Nat → Int32} {u : Nat → Nat} {s qn : Nat} {a3 : Int32} (hs : s < 96) (hqn : qn ≤ 33) (hu : ∀ q, q < 33 → D (96 * q + s) = nI (u q) ∧ u q ≤ 9999) (hz : ∀ q, qn ≤ q → q < 33 → u q = 0) : fMM_account_l38 a3 (nI s) D FU 0 (-1) (nI qn - 1) = some (nI (usum u 33), odq u 33 0) := by
  have key : ∀ (j n S : Nat), j ≤ 33 → j < n → S + usum u j = usum u 33 → fMM_account_l38 a3 (nI s) D n (nI S) (odq u (33 - j) j) (nI j - 1) = some (nI (usum u 33), odq u 33 0) := by
    intro j
    induction j with
    | zero =>
      intro n S hj hn hS
      obtain ⟨n, rfl⟩ : ∃ k, n = k + 1 := ⟨n - 1, by omega⟩
      rw [fMM_account_l38.eq_2, if_pos (by decide)]
      have hS : S = usum u 33 := hS
      rw [hS]
    | succ j ih =>
      intro n S hj hn hS
      obtain ⟨n, rfl⟩ : ∃ k, n = k + 1 := ⟨n - 1, by omega⟩
      have hx := (hu j (by omega)).2
      have e1 : 96 * nI j + nI s = nI (96 * j + s) := by rw [show (96 : Int32) * nI j + nI s = nI (j * 96 + s) from ix_ml j s 96]; congr 1; omega
      have hS2 : S + u j + usum u j = usum u 33 := by
        have : usum u (j + 1) = usum u j + u j := rfl
        omega
      have ho : odq u (33 - j) j = if u j = 0 then odq u (33 - (j + 1)) (j + 1) else nI j := by
        rw [show 33 - j = (33 - (j + 1)) + 1 by omega]; rfl
      rw [show nI (j + 1) - 1 = nI j from nI_pred j, fMM_account_l38.eq_2, if_neg (nI_pos (by omega)), e1]
      simp only [gdn (show 96 * j + s < 3264 by omega) (show 3264 < 2 ^ 31 by decide), nI_clamp (show 96 * j + s < 2 ^ 31 by omega), (hu j (by omega)).1, nI_add]
      rw [show nI j + -1 = nI j - 1 from (Int32.sub_eq_add_neg _ _).symm]
      by_cases h0 : u j = 0
      · rw [if_pos h0] at ho
        rw [if_pos (show nI (u j) ≤ (0 : Int32) from (nI_leI (a := (u j)) (b := 0) (by omega) (by omega)).mpr (by omega)), ← ho]
        exact ih n (S + u j) (by omega) (by omega) hS2
      · rw [if_neg h0] at ho
        rw [if_neg (fun qq : nI (u j) ≤ (0 : Int32) => absurd ((nI_leI (a := (u j)) (b := 0) (by omega) (by omega)).mp qq) (by omega))]
        have := ih n (S + u j) (by omega) (by omega) hS2
        rw [ho] at this
        exact this
  have h0 : ∀ j, qn ≤ j → j < qn + (33 - qn) → u j = 0 := fun j h1 h2 => hz j h1 (by omega)
  have h1 := usum_z (33 - qn) h0
  rw [show qn + (33 - qn) = 33 by omega] at h1
  have := key qn FU 0 hqn (FU_gt (by omega)) (by omega)
  rw [odq_z (33 - qn) qn h0] at this
  exact this
theorem op_account {qn gb : Nat} {U O G P : Nat → Int32} {Lt : Nat → Int64} {D G' P' : Nat → Int32} {Lt' : Nat → Int64} (h : RAc (fun _ => qn) gb U O G P Lt D G' P' Lt') (hqn : qn ≤ 33) (a1 a2 a3 : Int32) : ∃ r, fTL_account a1 a2 a3 U O G P = some r ∧ fMM_account a1 a2 a3 (nI qn) D G' P' = some r := by
  obtain ⟨u, gf, a, b, c, d⟩ := h
  unfold fTL_account fMM_account
  rcases town_or a1 with ⟨m2, t2⟩ | ⟨w, hw1, hw, rfl, m2, t2⟩
  · exact ⟨-1, by rw [if_pos t2], by rw [if_pos m2]⟩
  rw [if_neg t2, if_neg m2]
  rcases good_or a2 with ⟨m2, t2⟩ | ⟨g, hg, rfl, m2, t2⟩
  · exact ⟨-1, by rw [if_pos t2], by rw [if_pos m2]⟩
  rw [if_neg t2, if_neg m2, slot_n, show (6 : Int32) * nI w + nI g = nI (w * 6 + g) from ix_ml w g 6]
  have hs : w * 6 + g < 96 := by omega
  obtain ⟨c1, c2, c3, c4, c5⟩ := c _ hs
  rw [accM hs hqn (fun q hq => (a _ q hs hq).2) (fun q h1 h2 => b _ q hs h1 h2), obs]
  unfold fAc_owing fAc_gift fAc_paid
  rw [oldX hs (fun q hq => ⟨(a _ q hs hq).1, (a _ q hs hq).2.2⟩)]
  simp only [gdn hs (show 96 < 2 ^ 31 by decide), nI_clamp (show w * 6 + g < 2 ^ 31 by omega), obs, c1, c2, c3, c5]
  repeat' split
  all_goals exact ⟨_, rfl, rfl⟩
/-- sums of long numbers -/
def sm (f : Nat → Int64) : Nat → Int64
  | 0 => 0
  | n + 1 => sm f n + f n
theorem sm_add (f g : Nat → Int64) : ∀ n, sm (fun k => f k + g k) n = sm f n + sm g n
  | 0 => (Int64.add_zero 0).symm
  | n + 1 => by
    show sm (fun k => f k + g k) n + (f n + g n) = (sm f n + f n) + (sm g n + g n)
    rw [sm_add f g n]
    ac_rfl
theorem sm_0 {f : Nat → Int64} : ∀ n, (∀ k, k < n → f k = 0) → sm f n = 0
  | 0, _ => rfl
  | n + 1, h => by
    show sm f n + f n = 0
    rw [sm_0 n (fun k hk => h k (by omega)), h n (by omega)]
    rfl
theorem sm_swap (e : Nat → Nat → Int64) (N : Nat) : ∀ M, sm (fun g => sm (e g) N) M = sm (fun q => sm (fun g => e g q) M) N
  | 0 => (sm_0 N (fun _ _ => rfl)).symm
  | M + 1 => by
    show sm (fun g => sm (e g) N) M + sm (e M) N = _
    rw [sm_swap e N M, ← sm_add]
    rfl
theorem sm_z {f : Nat → Int64} {q : Nat} : ∀ (k : Nat), (∀ j, q ≤ j → j < q + k → f j = 0) → sm f (q + k) = sm f q
  | 0, _ => rfl
  | k + 1, h => by
    show sm f (q + k) + f (q + k) = _
    rw [sm_z k (fun j h1 h2 => h j h1 (by omega)), h (q + k) (by omega) (by omega)]
    exact Int64.add_zero _
theorem op_late {qn gb : Nat} {U O G P : Nat → Int32} {Lt : Nat → Int64} {D G' P' : Nat → Int32} {Lt' : Nat → Int64} (h : RAc (fun _ => qn) gb U O G P Lt D G' P' Lt') (hqn : qn ≤ 33) (dy a1 : Int32) : ∃ r, fTL_late a1 dy U Lt = some r ∧ fMM_late a1 dy (nI qn) D Lt' = some r := by
  obtain ⟨u, gf, a, b, c, d⟩ := h
  unfold fTL_late fMM_late
  rcases town_or a1 with ⟨m2, t2⟩ | ⟨w, hw1, hw, rfl, m2, t2⟩
  · exact ⟨_, by rw [if_pos t2], by rw [if_pos m2]⟩
  rw [if_neg t2, if_neg m2]
  unfold fAc_lateness
  rw [gdn hw (by decide), gdn hw (by decide), nI_clamp (by omega), d w hw]
  let e : Nat → Nat → Int64 := fun g q => (nI (u (w * 6 + g) q)).toInt64 * (dy - fAc_comingDay (nI q)).toInt64
  have x1 : ∀ (k q n g : Nat) (L : Int64), q + k = 33 → k < n → g < 6 → fAc_lateness_l20 (nI w) dy (nI g) U n (L + sm (e g) q) (nI q) = some (L + sm (e g) 33) := by
    intro k
    induction k with
    | zero =>
      intro q n g L hq hn hg
      obtain ⟨n, rfl⟩ : ∃ k, n = k + 1 := ⟨n - 1, by omega⟩
      have hq : q = 33 := by omega
      subst hq
      rw [fAc_lateness_l20.eq_2, if_pos (show (33 : Int32) ≤ nI (33) from (nI_leI (a := 33) (b := (33)) (by omega) (by omega)).mpr (by omega))]
    | succ k ih =>
      intro q n g L hq hn hg
      obtain ⟨n, rfl⟩ : ∃ k, n = k + 1 := ⟨n - 1, by omega⟩
      rw [fAc_lateness_l20.eq_2, if_neg (fun qq : (33 : Int32) ≤ nI (q) => absurd ((nI_leI (a := 33) (b := (q)) (by omega) (by omega)).mp qq) (by omega)), slot_n, show nI (w * 6 + g) * 33 + nI q = nI ((w * 6 + g) * 33 + q) from ix_mr (w * 6 + g) q 33, gdn (by omega) (by decide), nI_clamp (by omega), (a (w * 6 + g) q (by omega) (by omega)).1, Int64.add_assoc, nI_1 q]
      exact ih (q + 1) n g L (by omega) (by omega) hg
  have x2 : ∀ (k g n : Nat) (L : Int64), g + k = 6 → k < n → fAc_lateness_l10 (nI w) dy U n (L + sm (fun g => sm (e g) 33) g) (nI g) = some (L + sm (fun g => sm (e g) 33) 6) := by
    intro k
    induction k with
    | zero =>
      intro g n L hg hn
      obtain ⟨n, rfl⟩ : ∃ k, n = k + 1 := ⟨n - 1, by omega⟩
      have hg : g = 6 := by omega
      subst hg
      rw [fAc_lateness_l10.eq_2, if_pos (show (6 : Int32) ≤ nI (6) from (nI_leI (a := 6) (b := (6)) (by omega) (by omega)).mpr (by omega))]
    | succ k ih =>
      intro g n L hg hn
      obtain ⟨n, rfl⟩ : ∃ k, n = k + 1 := ⟨n - 1, by omega⟩
      have h1 := x1 33 0 FU g (L + sm (fun g => sm (e g) 33) g) rfl (FU_gt (by decide)) (by omega)
      have h1 : fAc_lateness_l20 (nI w) dy (nI g) U FU (L + sm (fun g => sm (e g) 33) g + 0) 0 = some (L + sm (fun g => sm (e g) 33) g + sm (e g) 33) := h1
      rw [show L + sm (fun g => sm (e g) 33) g + 0 = L + sm (fun g => sm (e g) 33) g from Int64.add_zero _] at h1
      rw [fAc_lateness_l10.eq_2, if_neg (fun qq : (6 : Int32) ≤ nI (g) => absurd ((nI_leI (a := 6) (b := (g)) (by omega) (by omega)).mp qq) (by omega)), h1, obs, Int64.add_assoc, nI_1 g]
      exact ih (g + 1) n L (by omega) (by omega)
  have y1 : ∀ (k g n q : Nat) (L : Int64), g + k = 6 → k < n → q < 33 → fMM_late_l33 (nI w) (nI q) dy D n (L + sm (fun g => e g q) g) (nI g) = some (L + sm (fun g => e g q) 6) := by
    intro k
    induction k with
    | zero =>
      intro g n q L hg hn hq
      obtain ⟨n, rfl⟩ : ∃ k, n = k + 1 := ⟨n - 1, by omega⟩
      have hg : g = 6 := by omega
      subst hg
      rw [fMM_late_l33.eq_2, if_pos (show (6 : Int32) ≤ nI (6) from (nI_leI (a := 6) (b := (6)) (by omega) (by omega)).mpr (by omega))]
    | succ k ih =>
      intro g n q L hg hn hq
      obtain ⟨n, rfl⟩ : ∃ k, n = k + 1 := ⟨n - 1, by omega⟩
      rw [fMM_late_l33.eq_2, if_neg (fun qq : (6 : Int32) ≤ nI (g) => absurd ((nI_leI (a := 6) (b := (g)) (by omega) (by omega)).mp qq) (by omega)), ix96, gdn (by omega) (by decide), nI_clamp (by omega), (a (w * 6 + g) q (by omega) (by omega)).2.1, Int64.add_assoc, nI_1 g]
      exact ih (g + 1) n q L (by omega) (by omega) hq
  have y2 : ∀ (k q n : Nat) (L : Int64), q + k = qn → k < n → fMM_late_l21 (nI w) dy (nI qn) D n (L + sm (fun q => sm (fun g => e g q) 6) q) (nI q) = some (L + sm (fun q => sm (fun g => e g q) 6) qn) := by
    intro k
    induction k with
    | zero =>
      intro q n L hq hn
      obtain ⟨n, rfl⟩ : ∃ k, n = k + 1 := ⟨n - 1, by omega⟩
      have hq : q = qn := by omega
      subst hq
      rw [fMM_late_l21.eq_2, if_pos (Int32.le_refl _)]
    | succ k ih =>
      intro q n L hq hn
      obtain ⟨n, rfl⟩ : ∃ k, n = k + 1 := ⟨n - 1, by omega⟩
      have h1 := y1 6 0 FU q (L + sm (fun q => sm (fun g => e g q) 6) q) rfl (FU_gt (by decide)) (by omega)
      have h1 : fMM_late_l33 (nI w) (nI q) dy D FU (L + sm (fun q => sm (fun g => e g q) 6) q + 0) 0 = some (L + sm (fun q => sm (fun g => e g q) 6) q + sm (fun g => e g q) 6) := h1
      rw [show L + sm (fun q => sm (fun g => e g q) 6) q + 0 = L + sm (fun q => sm (fun g => e g q) 6) q from Int64.add_zero _] at h1
      rw [fMM_late_l21.eq_2, if_neg (fun qq : nI (qn) ≤ nI (q) => absurd ((nI_leI (a := (qn)) (b := (q)) (by omega) (by omega)).mp qq) (by omega)), h1, obs, Int64.add_assoc, nI_1 q]
      exact ih (q + 1) n L (by omega) (by omega)
  have hx := x2 6 0 FU (Lt' w) rfl (FU_gt (by decide))
  have hx : fAc_lateness_l10 (nI w) dy U FU (Lt' w + 0) 0 = some (Lt' w + sm (fun g => sm (e g) 33) 6) := hx
  have hy := y2 qn 0 FU (Lt' w) (by omega) (FU_gt (by omega))
  have hy : fMM_late_l21 (nI w) dy (nI qn) D FU (Lt' w + 0) 0 = some (Lt' w + sm (fun q => sm (fun g => e g q) 6) qn) := hy
  rw [show Lt' w + 0 = Lt' w from Int64.add_zero _] at hx hy
  have hz := sm_z (f := fun q => sm (fun g => e g q) 6) (q := qn) (33 - qn) (fun j h1 h2 => sm_0 6 (fun g hg => by
    show (nI (u (w * 6 + g) j)).toInt64 * (dy - fAc_comingDay (nI j)).toInt64 = 0
    rw [b (w * 6 + g) j (by omega) h1 (by omega), z64]))
  rw [show qn + (33 - qn) = 33 by omega] at hz
  rw [hx, hy, obs, obs, obs, sm_swap e 33 6, hz]
  exact ⟨_, rfl, rfl⟩
