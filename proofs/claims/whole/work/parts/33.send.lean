/-! sendings: the table and the rows -/
def psum (pc od : Nat → Nat) : Nat → Nat
  | 0 => 0
  | j + 1 => psum pc od j + pc (od j)
def RRow (T town good pieces bearers left comes isSt used : Nat → Int32) (k : Nat) : Prop := T (k * 8) = town k ∧ T (k * 8 + 1) = good k ∧ T (k * 8 + 2) = pieces k ∧ T (k * 8 + 3) = bearers k ∧ T (k * 8 + 4) = left k ∧ T (k * 8 + 5) = comes k ∧ T (k * 8 + 6) = isSt k ∧ T (k * 8 + 7) = used k ∧ (isSt k = 0 ∨ isSt k = 1)
/-- c sendings, m of them stored -/
def RSe (c m : Nat) (T ord : Nat → Int32) (scnt spcs cnt sendings : Int32) (town good pieces bearers left comes isSt used : Nat → Int32) (stored : Int32) (sord : Nat → Int32) (smany : Int32) : Prop :=
  ∃ (tw gn pc od : Nat → Nat), c ≤ 100 ∧ m ≤ c ∧ cnt = nI c ∧ sendings = nI c ∧ scnt = nI m ∧ smany = nI m ∧ (∀ k, k < 100 → RRow T town good pieces bearers left comes isSt used k) ∧
    (∀ k, k < c → 1 ≤ tw k ∧ tw k < 16 ∧ gn k < 6 ∧ 1 ≤ pc k ∧ pc k ≤ 9999 ∧ town k = nI (tw k) ∧ good k = nI (gn k) ∧ pieces k = nI (pc k)) ∧ (∀ k, c ≤ k → k < 100 → isSt k = 0) ∧ (∀ j, j < m → od j < c ∧ ord j = nI (od j) ∧ sord j = nI (od j)) ∧ cntv isSt 1 c = m ∧ spcs = nI (psum pc od m) ∧ stored = nI (psum pc od m)
theorem entry_n {T : Nat → Int32} {k j : Nat} (hk : k < 100) (hj : j < 8) : fSe_entry (nI k) (nI j) T = some (T (k * 8 + j)) := by
  unfold fSe_entry
  rw [show nI k * 8 + nI j = nI (k * 8 + j) from ix_mr k j 8, gdn (by omega) (by decide), nI_clamp (by omega)]
theorem op_sending {c m : Nat} {T ord : Nat → Int32} {scnt spcs cnt sendings : Int32} {town good pieces bearers left comes isSt used : Nat → Int32} {stored : Int32} {sord : Nat → Int32} {smany : Int32} (h : RSe c m T ord scnt spcs cnt sendings town good pieces bearers left comes isSt used stored sord smany) (a1 a2 : Int32) : ∃ r, fTL_sending a1 a2 T cnt = some r ∧ fMM_sending a1 a2 sendings town good pieces bearers left comes isSt used = some r := by
  obtain ⟨tw, gn, pc, od, hc, hm, rfl, rfl, -, -, hr, -⟩ := h
  unfold fTL_sending fMM_sending fSe_count
  rcases in_cnt a1 (n := c) (by omega) with ⟨m3, t3⟩ | ⟨k, hk, rfl, m3, t3⟩
  · exact ⟨-1, by rw [if_pos t3], by rw [if_pos m3]⟩
  rw [if_neg t3, if_neg m3]
  have hk1 : k < 100 := by omega
  obtain ⟨r0, r1, r2, r3, r4, r5, r6, r7, rz⟩ := hr k hk1
  have g1 : ∀ {α : Type} (x : Option α), gd (inb (nI k) 100) x = x := fun x => gdn hk1 (by decide)
  have hcl : (nI k).toNatClampNeg = k := nI_clamp (by omega)
  rcases in_or a2 0 7 0 7 rfl rfl (by decide) (by decide) with ⟨m4, t4⟩ | ⟨j, -, hj, rfl, m4, t4⟩
  · have hne : ∀ (z : Nat), z ≤ 7 → ¬ a2 = nI z := by
      intro z hz e
      rw [e] at m4
      exact absurd m4 (ne0 (isIn_1 (k := z) (lo := 0) (hi := 7) (by omega) hz (by decide)))
    refine ⟨-1, by rw [if_pos t4], ?_⟩
    rw [if_neg (show ¬ a2 = (0 : Int32) from hne 0 (by decide)), if_neg (show ¬ a2 = (1 : Int32) from hne 1 (by decide)), if_neg (show ¬ a2 = (2 : Int32) from hne 2 (by decide)), if_neg (show ¬ a2 = (3 : Int32) from hne 3 (by decide)), if_neg (show ¬ a2 = (4 : Int32) from hne 4 (by decide)), if_neg (show ¬ a2 = (5 : Int32) from hne 5 (by decide)), if_neg (show ¬ a2 = (6 : Int32) from hne 6 (by decide)), if_neg (show ¬ a2 = (7 : Int32) from hne 7 (by decide))]
  · rw [if_neg t4, entry_n hk1 (by omega), obs]
    refine ⟨T (k * 8 + j), rfl, ?_⟩
    have h8 : j = 0 ∨ j = 1 ∨ j = 2 ∨ j = 3 ∨ j = 4 ∨ j = 5 ∨ j = 6 ∨ j = 7 := by omega
    rcases h8 with rfl | rfl | rfl | rfl | rfl | rfl | rfl | rfl
    · rw [if_pos (show nI 0 = (0 : Int32) from rfl), g1, hcl]; exact congrArg some r0.symm
    · rw [if_neg (by decide), if_pos (show nI 1 = (1 : Int32) from rfl), g1, hcl, r1]
    · rw [if_neg (by decide), if_neg (by decide), if_pos (show nI 2 = (2 : Int32) from rfl), g1, hcl, r2]
    · rw [if_neg (by decide), if_neg (by decide), if_neg (by decide), if_pos (show nI 3 = (3 : Int32) from rfl), g1, hcl, r3]
    · rw [if_neg (by decide), if_neg (by decide), if_neg (by decide), if_neg (by decide), if_pos (show nI 4 = (4 : Int32) from rfl), g1, hcl, r4]
    · rw [if_neg (by decide), if_neg (by decide), if_neg (by decide), if_neg (by decide), if_neg (by decide), if_pos (show nI 5 = (5 : Int32) from rfl), g1, hcl, r5]
    · rw [if_neg (by decide), if_neg (by decide), if_neg (by decide), if_neg (by decide), if_neg (by decide), if_neg (by decide), if_pos (show nI 6 = (6 : Int32) from rfl), g1, hcl, r6]
      rcases rz with e | e
      · rw [e, if_pos rfl]
      · rw [e, if_neg n10]
    · rw [if_neg (by decide), if_neg (by decide), if_neg (by decide), if_neg (by decide), if_neg (by decide), if_neg (by decide), if_neg (by decide), if_pos (show nI 7 = (7 : Int32) from rfl), g1, hcl, r7]
theorem psum_mono (pc od : Nat → Nat) : ∀ (a b : Nat), a ≤ b → psum pc od a ≤ psum pc od b := by
  intro a b h
  induction b with
  | zero => rw [show a = 0 by omega]; exact Nat.le_refl _
  | succ b ih =>
    by_cases e : a = b + 1
    · rw [e]; exact Nat.le_refl _
    · have := ih (by omega)
      show psum pc od a ≤ psum pc od b + pc (od b)
      omega
theorem psum_le {pc od : Nat → Nat} {m : Nat} (h : ∀ j, j < m → pc (od j) ≤ 9999) : ∀ j, j ≤ m → psum pc od j ≤ 9999 * j
  | 0, _ => Nat.le_refl _
  | j + 1, hj => by
    have h1 := psum_le h j (by omega)
    have h2 := h j (by omega)
    show psum pc od j + pc (od j) ≤ 9999 * (j + 1)
    omega
theorem op_piece {c m : Nat} {T ord : Nat → Int32} {scnt spcs cnt sendings : Int32} {town good pieces bearers left comes isSt used : Nat → Int32} {stored : Int32} {sord : Nat → Int32} {smany : Int32} (h : RSe c m T ord scnt spcs cnt sendings town good pieces bearers left comes isSt used stored sord smany) (a1 : Int32) : ∃ r, fTL_piece a1 T ord scnt = some r ∧ fMM_piece a1 pieces stored sord = some r := by
  obtain ⟨tw, gn, pc, od, hc, hm, rfl, rfl, rfl, rfl, hr, hv, hz, ho, hcn, rfl, rfl⟩ := h
  have hpc : ∀ j, j < m → pc (od j) ≤ 9999 := fun j hj => (hv (od j) (ho j hj).1).2.2.2.2.1
  have hpb := psum_le hpc m (Nat.le_refl _)
  unfold fTL_piece fMM_piece
  by_cases h0 : (0 : Int32) ≤ a1
  · rw [if_pos h0]
    obtain ⟨i, hi, rfl⟩ := nI_of (fun q => absurd h0 (Int32.not_le.mpr q))
    have hen : ∀ j, j < m → fSe_entry (ord (nI j).toNatClampNeg) 2 T = some (nI (pc (od j))) := by
      intro j hj
      obtain ⟨o1, o2, -⟩ := ho j hj
      rw [nI_clamp (by omega), o2]
      have := entry_n (T := T) (k := od j) (j := 2) (by omega) (by decide)
      rw [show (2 : Int32) = nI 2 from rfl, this, (hr (od j) (by omega)).2.2.1, (hv (od j) o1).2.2.2.2.2.2.2]
    have hstep : ∀ j n, j < m → psum pc od j ≤ i → fSe_ofPiece_l4 T ord (nI m) (n + 1) (nI (i - psum pc od j)) (nI j) = if pc (od j) ≤ i - psum pc od j then fSe_ofPiece_l4 T ord (nI m) n (nI (i - psum pc od (j + 1))) (nI (j + 1)) else some (Sum.inl (nI j)) := by
      intro j n hj hp
      have hb := hpc j hj
      rw [fSe_ofPiece_l4.eq_2, if_neg (fun qq : nI (m) ≤ nI (j) => absurd ((nI_leI (a := (m)) (b := (j)) (by omega) (by omega)).mp qq) (by omega)), gdn (by omega) (by decide), hen j hj, obs, nI_1 j]
      by_cases q : pc (od j) ≤ i - psum pc od j
      · rw [if_pos q, if_pos (show nI (pc (od j)) ≤ nI (i - psum pc od j) from (nI_leI (a := (pc (od j))) (b := (i - psum pc od j)) (by omega) (by omega)).mpr (by omega)), pk_sub q]
        congr 2
        show i - psum pc od j - pc (od j) = i - (psum pc od j + pc (od j))
        omega
      · rw [if_neg q, if_neg (fun qq : nI (pc (od j)) ≤ nI (i - psum pc od j) => absurd ((nI_leI (a := (pc (od j))) (b := (i - psum pc od j)) (by omega) (by omega)).mp qq) (by omega))]
    by_cases hA : psum pc od m ≤ i
    · refine ⟨-1, ?_, ?_⟩
      · unfold fSe_ofPiece
        have hX : ∀ (d j n : Nat), j + d = m → d < n → fSe_ofPiece_l4 T ord (nI m) n (nI (i - psum pc od j)) (nI j) = some (Sum.inr ()) := by
          intro d
          induction d with
          | zero =>
            intro j n hj hn
            obtain ⟨n, rfl⟩ : ∃ k, n = k + 1 := ⟨n - 1, by omega⟩
            rw [fSe_ofPiece_l4.eq_2, if_pos (show nI (m) ≤ nI (j) from (nI_leI (a := (m)) (b := (j)) (by omega) (by omega)).mpr (by omega))]
          | succ d ih =>
            intro j n hj hn
            obtain ⟨n, rfl⟩ : ∃ k, n = k + 1 := ⟨n - 1, by omega⟩
            have h1 := psum_mono pc od (j + 1) m (by omega)
            have h2 : psum pc od (j + 1) = psum pc od j + pc (od j) := rfl
            rw [hstep j n (by omega) (by omega), if_pos (by omega)]
            exact ih (j + 1) n (by omega) (by omega)
        have := hX m 0 FU (by omega) (FU_gt (by omega))
        have : fSe_ofPiece_l4 T ord (nI m) FU (nI i) 0 = some (Sum.inr ()) := this
        rw [this, obs]
        rfl
      · rcases in_cnt (nI i) (n := psum pc od m) (by omega) with ⟨m3, -⟩ | ⟨k, hk, e, -, -⟩
        · rw [if_pos m3]
        · have := (nI_eq hi (by omega)).mp e
          omega
    · have hL : ∀ (d j n n' : Nat), j + d = m → psum pc od j ≤ i → d < n → d < n' → ∃ jj, jj < m ∧ fSe_ofPiece_l4 T ord (nI m) n (nI (i - psum pc od j)) (nI j) = some (Sum.inl (nI jj)) ∧ fMM_piece_l20 pieces sord n' (nI (i - psum pc od j)) (nI j) = some (nI jj) := by
        intro d
        induction d with
        | zero =>
          intro j n n' hj hp
          have : j = m := by omega
          subst this
          exact absurd hp hA
        | succ d ih =>
          intro j n n' hj hp hn hn'
          obtain ⟨n, rfl⟩ : ∃ k, n = k + 1 := ⟨n - 1, by omega⟩
          obtain ⟨n', rfl⟩ : ∃ k, n' = k + 1 := ⟨n' - 1, by omega⟩
          have hj2 : j < m := by omega
          obtain ⟨o1, -, o3⟩ := ho j hj2
          have hb := hpc j hj2
          have h2 : psum pc od (j + 1) = psum pc od j + pc (od j) := rfl
          have hM : fMM_piece_l20 pieces sord (n' + 1) (nI (i - psum pc od j)) (nI j) = if pc (od j) ≤ i - psum pc od j then fMM_piece_l20 pieces sord n' (nI (i - psum pc od (j + 1))) (nI (j + 1)) else some (nI j) := by
            rw [fMM_piece_l20.eq_2, nI_clamp (n := j) (by omega), o3, nI_clamp (n := od j) (by omega), (hv (od j) o1).2.2.2.2.2.2.2, nI_1 j]
            simp only [gdn (show j < 100 by omega) (show 100 < 2 ^ 31 by decide), gdn (show od j < 100 by omega) (show 100 < 2 ^ 31 by decide)]
            by_cases q : pc (od j) ≤ i - psum pc od j
            · rw [if_pos q, if_neg (fun qq : nI (i - psum pc od j) < nI (pc (od j)) => absurd ((nI_ltI (a := (i - psum pc od j)) (b := (pc (od j))) (by omega) (by omega)).mp qq) (by omega)), pk_sub q, h2]
              congr 2
              omega
            · rw [if_neg q, if_pos (show nI (i - psum pc od j) < nI (pc (od j)) from (nI_ltI (a := (i - psum pc od j)) (b := (pc (od j))) (by omega) (by omega)).mpr (by omega))]
          rw [hstep j n hj2 hp, hM]
          by_cases q : pc (od j) ≤ i - psum pc od j
          · rw [if_pos q, if_pos q]
            exact ih (j + 1) n n' (by omega) (by omega) (by omega) (by omega)
          · rw [if_neg q, if_neg q]
            exact ⟨j, hj2, rfl, rfl⟩
      obtain ⟨jj, hjj, h1, h2⟩ := hL m 0 FU FU (by omega) (Nat.zero_le _) (FU_gt (by omega)) (FU_gt (by omega))
      have h1 : fSe_ofPiece_l4 T ord (nI m) FU (nI i) 0 = some (Sum.inl (nI jj)) := h1
      have h2 : fMM_piece_l20 pieces sord FU (nI i) 0 = some (nI jj) := h2
      obtain ⟨-, o2, o3⟩ := ho jj hjj
      refine ⟨nI (od jj), ?_, ?_⟩
      · unfold fSe_ofPiece
        rw [h1, obs]
        show ob (gd (inb (nI jj) 100) (some (ord (nI jj).toNatClampNeg))) (fun e1 => some e1) = _
        rw [gdn (by omega) (by decide), nI_clamp (by omega), o2, obs]
      · rcases in_cnt (nI i) (n := psum pc od m) (by omega) with ⟨m3, -⟩ | ⟨k, hk, e, m3, -⟩
        · exfalso
          have hp0 : 1 ≤ psum pc od m := by omega
          rw [show nI (psum pc od m) - 1 = nI (psum pc od m - 1) from pk_sub (b := 1) hp0] at m3
          exact absurd m3 (ne0 (isIn_1 (k := i) (lo := 0) (hi := psum pc od m - 1) (by omega) (by omega) (by omega)))
        · rw [if_neg m3, h2, obs, gdn (by omega) (by decide), nI_clamp (by omega), o3]
  · rw [if_neg h0]
    refine ⟨-1, rfl, ?_⟩
    rw [if_pos]
    unfold fMM_isIn
    rw [if_pos (Int32.not_le.mp h0)]
/-- 25: about -/
theorem op_about {f g : Nat → Int32} {l m : Int32} (h1 : RPo f g l m) {rd : Nat → Int32} {k q : Nat} (hk : k ≤ 3000) (hq : q = k / 90) (n s st mk : Int32) (a1 : Int32) : ∃ r, fTL_about a1 (nI k) f l n rd s st mk = some r ∧ fMM_about a1 (nI k) (nI q) g m rd st s n mk = some r := by
  obtain ⟨rfl, rfl, -, -⟩ := h1
  have hl : ∃ z, fCo_countRead_l4 rd FU 0 0 = some z ∧ fMM_about_l25 a1 rd FU 0 0 = some z := by
    have key : ∀ (d i n n' : Nat) (a : Int32), i + d = 5 → d < n → d < n' → ∃ z, fCo_countRead_l4 rd n a (nI i) = some z ∧ fMM_about_l25 a1 rd n' a (nI i) = some z := by
      intro d
      induction d with
      | zero =>
        intro i n n' a hi hn hn'
        obtain ⟨n, rfl⟩ : ∃ k, n = k + 1 := ⟨n - 1, by omega⟩
        obtain ⟨n', rfl⟩ : ∃ k, n' = k + 1 := ⟨n' - 1, by omega⟩
        have hi : i = 5 := by omega
        subst hi
        exact ⟨a, by rw [fCo_countRead_l4.eq_2, if_pos (show (5 : Int32) ≤ nI (5) from (nI_leI (a := 5) (b := (5)) (by omega) (by omega)).mpr (by omega))], by rw [fMM_about_l25.eq_2, if_pos (show (5 : Int32) ≤ nI (5) from (nI_leI (a := 5) (b := (5)) (by omega) (by omega)).mpr (by omega))]⟩
      | succ d ih =>
        intro i n n' a hi hn hn'
        obtain ⟨n, rfl⟩ : ∃ k, n = k + 1 := ⟨n - 1, by omega⟩
        obtain ⟨n', rfl⟩ : ∃ k, n' = k + 1 := ⟨n' - 1, by omega⟩
        rw [fCo_countRead_l4.eq_2, if_neg (fun qq : (5 : Int32) ≤ nI (i) => absurd ((nI_leI (a := 5) (b := (i)) (by omega) (by omega)).mp qq) (by omega)), gdn (by omega) (by decide), nI_1 i, fMM_about_l25.eq_2, if_neg (fun qq : (5 : Int32) ≤ nI (i) => absurd ((nI_leI (a := 5) (b := (i)) (by omega) (by omega)).mp qq) (by omega)), gdn (by omega) (by decide), nI_1 i]
        by_cases e : rd (nI i).toNatClampNeg ≤ 0
        · rw [if_pos e, if_pos e, show a + 0 = a from Int32.add_zero a]
          exact ih (i + 1) n n' a (by omega) (by omega) (by omega)
        · rw [if_neg e, if_neg e]
          exact ih (i + 1) n n' (a + 1) (by omega) (by omega) (by omega)
    exact key 5 0 FU FU 0 rfl (FU_gt (by decide)) (FU_gt (by decide))
  obtain ⟨z, hz1, hz2⟩ := hl
  unfold fTL_about fMM_about fSe_count fSe_storedPieces fMa_count fPo_load fTa_size fCo_countRead
  rcases in_or a1 10 15 10 15 rfl rfl (by decide) (by decide) with ⟨m4, t4⟩ | ⟨j, hj1, hj, rfl, m4, t4⟩
  · rw [if_pos t4, if_pos m4, hz2, hz1]
    simp only [obs]
    by_cases e0 : a1 = 0
    · exact ⟨_, by rw [if_pos e0], by rw [if_pos e0]⟩
    rw [if_neg e0, if_neg e0]
    by_cases e1 : a1 = 1
    · rw [if_pos e1, if_pos e1, show nI k / 90 = nI (k / 90) from pk_div (d := 90) (by omega) (by decide) (by decide), hq]
      exact ⟨_, rfl, rfl⟩
    rw [if_neg e1, if_neg e1]
    repeat' split
    all_goals exact ⟨_, rfl, rfl⟩
  · rw [if_neg t4, if_neg m4, show nI j - 10 = nI (j - 10) from pk_sub (b := 10) hj1]
    unfold fPo_weightOf
    rw [gdn (by omega) (by decide), obs]
    exact ⟨_, rfl, rfl⟩
