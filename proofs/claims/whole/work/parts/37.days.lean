/-! arrivals and days -/
theorem cntv_lt {f : Nat → Int32} {v : Int32} {j : Nat} (h : f j ≠ v) : ∀ {k}, j < k → cntv f v k < k
  | 0, hk => absurd hk (Nat.not_lt_zero _)
  | k + 1, hk => by
    show cntv f v k + _ < k + 1
    by_cases e : j = k
    · subst e; rw [if_neg h]; have := cntv_le f v j; omega
    · have := cntv_lt h (k := k) (by omega)
      split <;> omega
theorem cntv_cong {f g : Nat → Int32} {v : Int32} : ∀ {k}, (∀ j, j < k → f j = g j) → cntv f v k = cntv g v k
  | 0, _ => rfl
  | k + 1, h => by
    show cntv f v k + _ = cntv g v k + _
    rw [cntv_cong (fun j hj => h j (by omega)), h k (by omega)]
theorem cntv_upd {f : Nat → Int32} {v : Int32} {j : Nat} (h : f j ≠ v) : ∀ {k}, j < k → cntv (upd f j v) v k = cntv f v k + 1
  | 0, hk => absurd hk (Nat.not_lt_zero _)
  | k + 1, hk => by
    show cntv (upd f j v) v k + _ = cntv f v k + _ + 1
    by_cases e : j = k
    · subst e
      rw [upd_s, if_pos rfl, if_neg h, cntv_cong (f := upd f j v) (g := f) (fun i hi => upd_n (by omega))]
    · rw [cntv_upd h (k := k) (by omega), upd_n (by omega)]
      omega
theorem psum_cong {pc od od' : Nat → Nat} : ∀ {m}, (∀ j, j < m → od j = od' j) → psum pc od m = psum pc od' m
  | 0, _ => rfl
  | m + 1, h => by
    show psum pc od m + _ = psum pc od' m + _
    rw [psum_cong (fun j hj => h j (by omega)), h m (by omega)]
theorem mark_pair {c m : Nat} {T ord : Nat → Int32} {scnt spcs cnt sendings : Int32} {town good pieces bearers left comes isSt used : Nat → Int32} {stored : Int32} {sord : Nat → Int32} {smany : Int32} (h : RSe c m T ord scnt spcs cnt sendings town good pieces bearers left comes isSt used stored sord smany) {j p : Nat} (hj : j < c) (hz : isSt j = 0) (hp : pieces j = nI p) (hp2 : p ≤ 9999) (x : Int32) :
    m < 100 ∧ fSe_markStored (nI j) x T ord (nI m) spcs = some (upd (upd T (j * 8 + 6) 1) (j * 8 + 7) x, upd ord m (nI j), nI (m + 1), spcs + nI p) ∧ RSe c (m + 1) (upd (upd T (j * 8 + 6) 1) (j * 8 + 7) x) (upd ord m (nI j)) (nI (m + 1)) (spcs + nI p) cnt sendings town good pieces bearers left comes (upd isSt j 1) (upd used j x) (stored + nI p) (upd sord m (nI j)) (nI (m + 1)) := by
  obtain ⟨tw, gn, pc, od, hc, hm, rfl, rfl, rfl, rfl, hr, hv, hzz, ho, hcn, rfl, rfl⟩ := h
  have hne : isSt j ≠ 1 := by rw [hz]; decide
  have hmc : m < c := by have := cntv_lt hne hj; omega
  have hpc : pc j = p := (nI_eq (by have := (hv j hj).2.2.2.2.1; omega) (by omega)).mp ((hv j hj).2.2.2.2.2.2.2.symm.trans hp)
  refine ⟨by omega, ?_, ?_⟩
  · unfold fSe_markStored
    have e2 := entry_n (T := upd (upd T (j * 8 + 6) 1) (j * 8 + 7) x) (k := j) (j := 2) (by omega) (by decide)
    rw [upd_n (by omega), upd_n (by omega), (hr j (by omega)).2.2.1, hp] at e2
    rw [if_pos (show nI (m) < (100 : Int32) from (nI_ltI (a := (m)) (b := 100) (by omega) (by omega)).mpr (by omega)), show nI j * 8 + 6 = nI (j * 8 + 6) from ix_mr j 6 8, show nI j * 8 + 7 = nI (j * 8 + 7) from ix_mr j 7 8, gdn (by omega) (by decide), gdn (by omega) (by decide), gdn (by omega) (by decide), nI_clamp (n := j * 8 + 6) (by omega), nI_clamp (n := j * 8 + 7) (by omega), nI_clamp (n := m) (by omega), show (2 : Int32) = nI 2 from rfl, e2, obs, nI_1 m]
  · refine ⟨tw, gn, pc, fun i => if i = m then j else od i, hc, hmc, rfl, rfl, rfl, rfl, fun k hk => ?_, hv, fun k hk1 hk2 => ?_, fun i hi => ?_, ?_, ?_, ?_⟩
    all_goals (try dsimp only)
    · obtain ⟨r0, r1, r2, r3, r4, r5, r6, r7, r8⟩ := hr k hk
      by_cases e : k = j
      · subst e
        unfold RRow
        rw [upd_n (by omega), upd_n (by omega), upd_n (by omega), upd_n (by omega), upd_n (by omega), upd_n (by omega), upd_n (by omega), upd_n (by omega), upd_n (by omega), upd_n (by omega), upd_n (by omega), upd_n (by omega), upd_n (by omega), upd_s, upd_s, upd_s, upd_s]
        exact ⟨r0, r1, r2, r3, r4, r5, rfl, rfl, Or.inr rfl⟩
      · unfold RRow
        rw [upd_n (by omega), upd_n (by omega), upd_n (by omega), upd_n (by omega), upd_n (by omega), upd_n (by omega), upd_n (by omega), upd_n (by omega), upd_n (by omega), upd_n (by omega), upd_n (by omega), upd_n (by omega), upd_n (by omega), upd_n (by omega), upd_n (by omega), upd_n (by omega), upd_n (by omega), upd_n (by omega)]
        exact ⟨r0, r1, r2, r3, r4, r5, r6, r7, r8⟩
    · rw [upd_n (by omega)]; exact hzz k hk1 hk2
    · by_cases e : i = m
      · subst e; rw [if_pos rfl, upd_s, upd_s]; exact ⟨hj, rfl, rfl⟩
      · rw [if_neg e, upd_n e, upd_n e]; exact ho i (by omega)
    · rw [cntv_upd hne hj, hcn]
    · have hc1 := psum_cong (pc := pc) (od := fun i => if i = m then j else od i) (od' := od) (m := m) (fun i hi => if_neg (by omega))
      show nI (psum pc od m) + nI p = nI (psum pc (fun i => if i = m then j else od i) m + pc (if m = m then j else od m))
      rw [hc1, if_pos rfl, hpc, nI_add]
    · have hc1 := psum_cong (pc := pc) (od := fun i => if i = m then j else od i) (od' := od) (m := m) (fun i hi => if_neg (by omega))
      show nI (psum pc od m) + nI p = nI (psum pc (fun i => if i = m then j else od i) m + pc (if m = m then j else od m))
      rw [hc1, if_pos rfl, hpc, nI_add]
theorem mstore_n {qn l p s t g j m : Nat} {dy : Int32} {D G' P' : Nat → Int32} {Lt' : Nat → Int64} {town good pieces isSt used : Nat → Int32} {stored : Int32} {sord : Nat → Int32} {D' : Nat → Int32} {L2 : Nat → Int64} (hj : j < 100) (hm : m < 100) (hs : s = t * 6 + g) (hs2 : s < 96) (ht : town j = nI t) (hg : good j = nI g) (hp : pieces j = nI p) (hp2 : p ≤ 9999) (hl : l ≤ p) (h : fMM_store_l27 (nI j) (nI s) dy (nI qn) town FU (nI p) 0 D Lt' = some (nI l, D', L2)) :
    fMM_store (nI j) dy (nI qn) D G' P' Lt' town good pieces isSt used stored sord (nI m) = some (D', upd G' s (G' s + nI l), upd P' s (P' s + nI (p - l)), L2, upd isSt j 1, upd used j (nI (p - l)), stored + nI p, upd sord m (nI j), nI (m + 1)) := by
  unfold fMM_store
  simp only [gdn hj (show 100 < 2 ^ 31 by decide), nI_clamp (show j < 2 ^ 31 by omega), ht, hg, hp]
  rw [show (6 : Int32) * nI t + nI g = nI s from by rw [hs]; exact ix_ml t g 6, h, obs]
  simp only [gdn hs2 (show 96 < 2 ^ 31 by decide), gdn hm (show 100 < 2 ^ 31 by decide), nI_clamp (show s < 2 ^ 31 by omega), nI_clamp (show m < 2 ^ 31 by omega), upd_s, pk_sub hl]
  rw [nI_1 m]
  rfl
theorem arr_pair {c k qn : Nat} {cnt sendings : Int32} {town good pieces bearers left comes : Nat → Int32} {aa ab : Int32} (hqn : qn ≤ 33) :
    ∀ (d i n n' m : Nat) (U O G P : Nat → Int32) (Lt : Nat → Int64) (D G' P' : Nat → Int32) (Lt' : Nat → Int64) (T ord : Nat → Int32) (scnt spcs : Int32) (isSt used : Nat → Int32) (stored : Int32) (sord : Nat → Int32) (smany : Int32), i + d = c → d < n → d < n' → RAc (fun _ => qn) (9999 * m) U O G P Lt D G' P' Lt' → RSe c m T ord scnt spcs cnt sendings town good pieces bearers left comes isSt used stored sord smany →
      ∃ (m' : Nat) (U1 O1 G1 P1 : Nat → Int32) (L1 : Nat → Int64) (D1 G2 P2 : Nat → Int32) (L2 : Nat → Int64) (T1 ord1 : Nat → Int32) (scnt1 spcs1 : Int32) (isSt1 used1 : Nat → Int32) (stored1 : Int32) (sord1 : Nat → Int32) (smany1 : Int32),
        fTL_storeArrivals_l2 (nI k) cnt n (nI i) U O G P Lt T ord scnt spcs = some (U1, O1, G1, P1, L1, T1, ord1, scnt1, spcs1) ∧
        fMM_days_l43 aa ab (nI k) (nI qn) sendings town good pieces comes n' (nI i) D G' P' Lt' isSt used stored sord smany = some (D1, G2, P2, L2, isSt1, used1, stored1, sord1, smany1) ∧
        RAc (fun _ => qn) (9999 * m') U1 O1 G1 P1 L1 D1 G2 P2 L2 ∧ RSe c m' T1 ord1 scnt1 spcs1 cnt sendings town good pieces bearers left comes isSt1 used1 stored1 sord1 smany1 := by
  intro d
  induction d with
  | zero =>
    intro i n n' m U O G P Lt D G' P' Lt' T ord scnt spcs isSt used stored sord smany hi hn hn' hA hS
    obtain ⟨n, rfl⟩ : ∃ k, n = k + 1 := ⟨n - 1, by omega⟩
    obtain ⟨n', rfl⟩ : ∃ k, n' = k + 1 := ⟨n' - 1, by omega⟩
    have hi : i = c := by omega
    subst hi
    obtain ⟨tw, gn, pc, od, hc, hm, e1, e2, -⟩ := id hS
    refine ⟨m, U, O, G, P, Lt, D, G', P', Lt', T, ord, scnt, spcs, isSt, used, stored, sord, smany, ?_, ?_, hA, hS⟩
    · rw [fTL_storeArrivals_l2.eq_2]
      unfold fSe_count
      rw [e1, if_pos (Int32.le_refl _)]
    · rw [fMM_days_l43.eq_2, e2, if_pos (Int32.le_refl _)]
  | succ d ih =>
    intro i n n' m U O G P Lt D G' P' Lt' T ord scnt spcs isSt used stored sord smany hi hn hn' hA hS
    obtain ⟨n, rfl⟩ : ∃ k, n = k + 1 := ⟨n - 1, by omega⟩
    obtain ⟨n', rfl⟩ : ∃ k, n' = k + 1 := ⟨n' - 1, by omega⟩
    obtain ⟨tw, gn, pc, od, hc, hm, e1, e2, e3, e4, hr, hv, hzz, ho, hcn, e5, e6⟩ := id hS
    have hi100 : i < 100 := by omega
    obtain ⟨r0, r1, r2, r3, r4, r5, r6, r7, r8⟩ := hr i hi100
    obtain ⟨v1, v2, v3, v4, v5, v6, v7, v8⟩ := hv i (by omega)
    have n0 := entry_n (T := T) (k := i) (j := 0) hi100 (by decide)
    have n1 := entry_n (T := T) (k := i) (j := 1) hi100 (by decide)
    have n2 := entry_n (T := T) (k := i) (j := 2) hi100 (by decide)
    have n5 := entry_n (T := T) (k := i) (j := 5) hi100 (by decide)
    have n6 := entry_n (T := T) (k := i) (j := 6) hi100 (by decide)
    rw [show i * 8 + 0 = i * 8 from rfl, r0, v6] at n0
    rw [r1, v7] at n1
    rw [r2, v8] at n2
    rw [r5] at n5
    rw [r6] at n6
    have n0 : fSe_entry (nI i) 0 T = some (nI (tw i)) := n0
    have n1 : fSe_entry (nI i) 1 T = some (nI (gn i)) := n1
    have n2 : fSe_entry (nI i) 2 T = some (nI (pc i)) := n2
    have n5 : fSe_entry (nI i) 5 T = some (comes i) := n5
    have n6 : fSe_entry (nI i) 6 T = some (isSt i) := n6
    have hX : fTL_storeArrivals_l2 (nI k) cnt (n + 1) (nI i) U O G P Lt T ord scnt spcs = if comes i = nI k ∧ isSt i = 0 then ob (fAc_store (nI (tw i * 6 + gn i)) (nI (pc i)) (nI k) U O G P Lt) (fun e5 => ob (fSe_markStored (nI i) e5.1 T ord scnt spcs) (fun e6 => fTL_storeArrivals_l2 (nI k) cnt n (nI (i + 1)) e5.2.1 e5.2.2.1 e5.2.2.2.1 e5.2.2.2.2.1 e5.2.2.2.2.2 e6.1 e6.2.1 e6.2.2.1 e6.2.2.2)) else fTL_storeArrivals_l2 (nI k) cnt n (nI (i + 1)) U O G P Lt T ord scnt spcs := by
      rw [fTL_storeArrivals_l2.eq_2]
      unfold fSe_count fSe_comesOn
      rw [e1, if_neg (fun qq : nI (c) ≤ nI (i) => absurd ((nI_leI (a := (c)) (b := (i)) (by omega) (by omega)).mp qq) (by omega)), n5, n6]
      simp only [obs]
      by_cases c1 : comes i = nI k
      · rw [if_pos c1]
        by_cases c2 : isSt i = 0
        · rw [if_pos c2, if_pos ⟨c1, c2⟩, obs, if_neg n10, n0, n1, n2, obs, obs, obs, slot_n, nI_1 i]
        · rw [if_neg c2, if_neg (fun z => c2 z.2), obs, if_pos rfl, nI_1 i]
      · rw [if_neg c1, if_neg (fun z => c1 z.1), obs, if_pos rfl, nI_1 i]
    have hM : fMM_days_l43 aa ab (nI k) (nI qn) sendings town good pieces comes (n' + 1) (nI i) D G' P' Lt' isSt used stored sord smany = if comes i = nI k ∧ isSt i = 0 then ob (fMM_store (nI i) (nI k) (nI qn) D G' P' Lt' town good pieces isSt used stored sord smany) (fun e3 => fMM_days_l43 aa ab (nI k) (nI qn) sendings town good pieces comes n' (nI (i + 1)) e3.1 e3.2.1 e3.2.2.1 e3.2.2.2.1 e3.2.2.2.2.1 e3.2.2.2.2.2.1 e3.2.2.2.2.2.2.1 e3.2.2.2.2.2.2.2.1 e3.2.2.2.2.2.2.2.2) else fMM_days_l43 aa ab (nI k) (nI qn) sendings town good pieces comes n' (nI (i + 1)) D G' P' Lt' isSt used stored sord smany := by
      rw [fMM_days_l43.eq_2, e2, if_neg (fun qq : nI (c) ≤ nI (i) => absurd ((nI_leI (a := (c)) (b := (i)) (by omega) (by omega)).mp qq) (by omega)), gdn hi100 (by decide), gdn hi100 (by decide), nI_clamp (by omega), nI_1 i]
      by_cases c2 : isSt i = 0
      · rw [if_pos c2]
        by_cases c1 : comes i = nI k
        · rw [if_pos c1, if_pos ⟨c1, c2⟩]
        · rw [if_neg c1, if_neg (fun z => c1 z.1)]
      · rw [if_neg c2, if_neg (fun z => c2 z.2)]
    rw [hX, hM]
    by_cases cc : comes i = nI k ∧ isSt i = 0
    · rw [if_pos cc, if_pos cc]
      have hs : tw i * 6 + gn i < 96 := by omega
      obtain ⟨l, U', O', P1, L1, D', L2, s1, s2, s3, s4⟩ := store_pair hA (town := town) (k := i) (s := tw i * 6 + gn i) (p := pc i) (dy := nI k) hi100 hs (by rw [v6]; congr 1; omega) v5 hqn (by omega)
      obtain ⟨k1, k2, k3⟩ := mark_pair hS (j := i) (p := pc i) (by omega) cc.2 v8 v5 (nI (pc i - l))
      rw [s2, obs, e3]
      dsimp only
      rw [k2, obs, e4, mstore_n (G' := G') (P' := P') (isSt := isSt) (used := used) (stored := stored) (sord := sord) hi100 k1 rfl hs v6 v7 v8 v5 s1 s3, obs]
      dsimp only
      exact ih (i + 1) n n' (m + 1) _ _ _ _ _ _ _ _ _ _ _ _ _ _ _ _ _ _ (by omega) (by omega) (by omega) (RAc_weak s4 (fun _ _ _ _ z => z) (by omega)) k3
    · rw [if_neg cc, if_neg cc]
      exact ih (i + 1) n n' m _ _ _ _ _ _ _ _ _ _ _ _ _ _ _ _ _ _ (by omega) (by omega) (by omega) hA hS
theorem day_pair {c a : Nat} {cnt sendings : Int32} {town good pieces bearers left comes : Nat → Int32} {TT : Nat → Nat → Int32} {tt rd : Nat → Int32} (hT : RTo TT tt) (ha : a ≤ 100) :
    ∀ (d i n n' m k : Nat) (U O G P : Nat → Int32) (Lt : Nat → Int64) (D G' P' : Nat → Int32) (Lt' : Nat → Int64) (T ord : Nat → Int32) (scnt spcs : Int32) (isSt used : Nat → Int32) (stored : Int32) (sord : Nat → Int32) (smany : Int32), i + d = a → d < n → d < n' → k + d ≤ 3000 → RAc (fun _ => k / 90) (9999 * m) U O G P Lt D G' P' Lt' → RSe c m T ord scnt spcs cnt sendings town good pieces bearers left comes isSt used stored sord smany →
      ∃ (m' : Nat) (U1 O1 G1 P1 : Nat → Int32) (L1 : Nat → Int64) (D1 G2 P2 : Nat → Int32) (L2 : Nat → Int64) (T1 ord1 : Nat → Int32) (scnt1 spcs1 : Int32) (isSt1 used1 : Nat → Int32) (stored1 : Int32) (sord1 : Nat → Int32) (smany1 : Int32),
        fTL_days_l26 (nI a) TT rd cnt n (nI i) (nI k) U O G P Lt T ord scnt spcs = some (nI (k + d), U1, O1, G1, P1, L1, T1, ord1, scnt1, spcs1) ∧
        fMM_days_l26 (nI a) tt rd sendings town good pieces comes n' (nI i) (nI k) (nI (k / 90)) D G' P' Lt' isSt used stored sord smany = some (nI (k + d), nI ((k + d) / 90), D1, G2, P2, L2, isSt1, used1, stored1, sord1, smany1) ∧
        RAc (fun _ => (k + d) / 90) (9999 * m') U1 O1 G1 P1 L1 D1 G2 P2 L2 ∧ RSe c m' T1 ord1 scnt1 spcs1 cnt sendings town good pieces bearers left comes isSt1 used1 stored1 sord1 smany1 := by
  intro d
  induction d with
  | zero =>
    intro i n n' m k U O G P Lt D G' P' Lt' T ord scnt spcs isSt used stored sord smany hi hn hn' hk hA hS
    obtain ⟨n, rfl⟩ : ∃ k, n = k + 1 := ⟨n - 1, by omega⟩
    obtain ⟨n', rfl⟩ : ∃ k, n' = k + 1 := ⟨n' - 1, by omega⟩
    have hi : i = a := by omega
    subst hi
    refine ⟨m, U, O, G, P, Lt, D, G', P', Lt', T, ord, scnt, spcs, isSt, used, stored, sord, smany, ?_, ?_, hA, hS⟩
    · rw [fTL_days_l26.eq_2, if_pos (Int32.le_refl _)]; rfl
    · rw [fMM_days_l26.eq_2, if_pos (Int32.le_refl _)]; rfl
  | succ d ih =>
    intro i n n' m k U O G P Lt D G' P' Lt' T ord scnt spcs isSt used stored sord smany hi hn hn' hk hA hS
    obtain ⟨n, rfl⟩ : ∃ k, n = k + 1 := ⟨n - 1, by omega⟩
    obtain ⟨n', rfl⟩ : ∃ k, n' = k + 1 := ⟨n' - 1, by omega⟩
    obtain ⟨tw, gn, pc, od, hc, hm, -⟩ := id hS
    obtain ⟨m1, U1, O1, G1, P1, L1, D1, G2, P2, L2, T1, ord1, scnt1, spcs1, isSt1, used1, stored1, sord1, smany1, p1, p2, p3, p4⟩ := arr_pair (k := k + 1) (qn := k / 90) (aa := nI a) (ab := nI i) (by omega) c 0 FU FU m U O G P Lt D G' P' Lt' T ord scnt spcs isSt used stored sord smany (by omega) (FU_gt (by omega)) (FU_gt (by omega)) hA hS
    have p1 : fTL_storeArrivals_l2 (nI (k + 1)) cnt FU 0 U O G P Lt T ord scnt spcs = some (U1, O1, G1, P1, L1, T1, ord1, scnt1, spcs1) := p1
    have p2 : fMM_days_l43 (nI a) (nI i) (nI (k + 1)) (nI (k / 90)) sendings town good pieces comes FU 0 D G' P' Lt' isSt used stored sord smany = some (D1, G2, P2, L2, isSt1, used1, stored1, sord1, smany1) := p2
    have hr : nI (k + 1) - nI (k + 1) / 90 * 90 = nI ((k + 1) % 90) := by
      rw [show nI (k + 1) / 90 = nI ((k + 1) / 90) from pk_div (d := 90) (by omega) (by decide) (by decide), show nI ((k + 1) / 90) * 90 = nI ((k + 1) / 90 * 90) from pk_mul _ 90, pk_sub (by omega)]
      congr 1
      omega
    rw [fTL_days_l26.eq_2, if_neg (fun qq : nI (a) ≤ nI (i) => absurd ((nI_leI (a := (a)) (b := (i)) (by omega) (by omega)).mp qq) (by omega)), fMM_days_l26.eq_2, if_neg (fun qq : nI (a) ≤ nI (i) => absurd ((nI_leI (a := (a)) (b := (i)) (by omega) (by omega)).mp qq) (by omega)), nI_1 k, nI_1 i, hr]
    unfold fTL_storeArrivals
    rw [p1, p2]
    simp only [obs]
    obtain ⟨tw1, gn1, pc1, od1, hc1, hm1, -⟩ := id p4
    by_cases q : (k + 1) % 90 = 0
    · rw [if_pos (show nI ((k + 1) % 90) = (0 : Int32) by rw [q]; rfl), if_pos (show nI ((k + 1) % 90) = (0 : Int32) by rw [q]; rfl)]
      obtain ⟨U3, O3, G3, P3, L3, D3, G4, P4, q1, q2, q3⟩ := quarter_pair p3 (rd := rd) hT (by omega) (by omega) (k := k + 1) (by omega) (by omega)
      rw [q1, q2, obs, obs]
      have e : k / 90 + 1 = (k + 1) / 90 := by omega
      rw [e] at q3 ⊢
      have := ih (i + 1) n n' m1 (k + 1) _ _ _ _ _ _ _ _ _ _ _ _ _ _ _ _ _ _ (by omega) (by omega) (by omega) (by omega) q3 p4
      rw [show k + 1 + d = k + (d + 1) by omega] at this
      exact this
    · have q' : ¬ nI ((k + 1) % 90) = (0 : Int32) := fun z => q ((nI_eq (b := 0) (by omega) (by decide)).mp z)
      rw [if_neg q', if_neg q']
      have e : k / 90 = (k + 1) / 90 := by omega
      rw [e] at p3 ⊢
      have := ih (i + 1) n n' m1 (k + 1) _ _ _ _ _ _ _ _ _ _ _ _ _ _ _ _ _ _ (by omega) (by omega) (by omega) (by omega) p3 p4
      rw [show k + 1 + d = k + (d + 1) by omega] at this
      exact this
theorem op_days {c m k : Nat} {cnt sendings : Int32} {town good pieces bearers left comes : Nat → Int32} {TT : Nat → Nat → Int32} {tt rd : Nat → Int32} (hT : RTo TT tt) (hk : k ≤ 3000) {U O G P : Nat → Int32} {Lt : Nat → Int64} {D G' P' : Nat → Int32} {Lt' : Nat → Int64} {T ord : Nat → Int32} {scnt spcs : Int32} {isSt used : Nat → Int32} {stored : Int32} {sord : Nat → Int32} {smany : Int32} (hA : RAc (fun _ => k / 90) (9999 * m) U O G P Lt D G' P' Lt') (hS : RSe c m T ord scnt spcs cnt sendings town good pieces bearers left comes isSt used stored sord smany) (a1 : Int32) :
      ∃ (r : Int32) (k' m' : Nat) (U1 O1 G1 P1 : Nat → Int32) (L1 : Nat → Int64) (D1 G2 P2 : Nat → Int32) (L2 : Nat → Int64) (T1 ord1 : Nat → Int32) (scnt1 spcs1 : Int32) (isSt1 used1 : Nat → Int32) (stored1 : Int32) (sord1 : Nat → Int32) (smany1 : Int32),
        fTL_days a1 (nI k) TT rd U O G P Lt T ord scnt spcs cnt = some (r, nI k', U1, O1, G1, P1, L1, T1, ord1, scnt1, spcs1) ∧
        fMM_days a1 (nI k) (nI (k / 90)) tt rd D G' P' Lt' sendings town good pieces comes isSt used stored sord smany = some (r, nI k', nI (k' / 90), D1, G2, P2, L2, isSt1, used1, stored1, sord1, smany1) ∧ k' ≤ 3000 ∧
        RAc (fun _ => k' / 90) (9999 * m') U1 O1 G1 P1 L1 D1 G2 P2 L2 ∧ RSe c m' T1 ord1 scnt1 spcs1 cnt sendings town good pieces bearers left comes isSt1 used1 stored1 sord1 smany1 := by
  unfold fTL_days fMM_days
  rcases in_or a1 1 100 1 100 rfl rfl (by decide) (by decide) with ⟨m3, t3⟩ | ⟨a, ha1, ha, rfl, m3, t3⟩
  · exact ⟨-1, k, m, U, O, G, P, Lt, D, G', P', Lt', T, ord, scnt, spcs, isSt, used, stored, sord, smany, by rw [if_pos t3], by rw [if_pos m3], hk, hA, hS⟩
  rw [if_neg t3, if_neg m3, show (3000 : Int32) - nI k = nI (3000 - k) from pk_sub (a := 3000) hk, nI_add]
  by_cases q : k + a ≤ 3000
  · rw [if_pos (show nI (a) ≤ nI (3000 - k) from (nI_leI (a := (a)) (b := (3000 - k)) (by omega) (by omega)).mpr (by omega)), if_pos (show nI (k + a) ≤ (3000 : Int32) from (nI_leI (a := (k + a)) (b := 3000) (by omega) (by omega)).mpr (by omega))]
    obtain ⟨m', U1, O1, G1, P1, L1, D1, G2, P2, L2, T1, ord1, scnt1, spcs1, isSt1, used1, stored1, sord1, smany1, p1, p2, p3, p4⟩ := day_pair (rd := rd) hT ha a 0 FU FU m k U O G P Lt D G' P' Lt' T ord scnt spcs isSt used stored sord smany (by omega) (FU_gt (by omega)) (FU_gt (by omega)) q hA hS
    have p1 : fTL_days_l26 (nI a) TT rd cnt FU 0 (nI k) U O G P Lt T ord scnt spcs = some (nI (k + a), U1, O1, G1, P1, L1, T1, ord1, scnt1, spcs1) := p1
    have p2 : fMM_days_l26 (nI a) tt rd sendings town good pieces comes FU 0 (nI k) (nI (k / 90)) D G' P' Lt' isSt used stored sord smany = some (nI (k + a), nI ((k + a) / 90), D1, G2, P2, L2, isSt1, used1, stored1, sord1, smany1) := p2
    exact ⟨nI (k + a), k + a, m', U1, O1, G1, P1, L1, D1, G2, P2, L2, T1, ord1, scnt1, spcs1, isSt1, used1, stored1, sord1, smany1, by rw [p1, obs], by rw [p2, obs], q, p3, p4⟩
  · rw [if_neg (fun qq : nI (a) ≤ nI (3000 - k) => absurd ((nI_leI (a := (a)) (b := (3000 - k)) (by omega) (by omega)).mp qq) (by omega)), if_neg (fun qq : nI (k + a) ≤ (3000 : Int32) => absurd ((nI_leI (a := (k + a)) (b := 3000) (by omega) (by omega)).mp qq) (by omega))]
    exact ⟨-1, k, m, U, O, G, P, Lt, D, G', P', Lt', T, ord, scnt, spcs, isSt, used, stored, sord, smany, rfl, rfl, hk, hA, hS⟩
