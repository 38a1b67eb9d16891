/-! reading: parts of a line -/
theorem n20 : ¬ (2 : Int32) = 0 := by decide
theorem n30 : ¬ (3 : Int32) = 0 := by decide
theorem nI_or (a b : Nat) : nI a ||| nI b = nI (a ||| b) := by
  apply Int32.toBitVec_inj.mp
  rw [Int32.toBitVec_or]
  show BitVec.ofNat 32 a ||| BitVec.ofNat 32 b = BitVec.ofNat 32 (a ||| b)
  apply BitVec.eq_of_getLsbD_eq
  intro i hi
  rw [BitVec.getLsbD_or, BitVec.getLsbD_ofNat, BitVec.getLsbD_ofNat, BitVec.getLsbD_ofNat, Nat.testBit_or]
  simp only [hi, decide_true, Bool.true_and]
theorem sl16 : ∀ w, w < 16 → ((nI w &&& 31).toBitVec.smod 32).toNat = w := by decide
theorem bit_set {m w : Nat} (hw : w < 16) : nI m ||| ((1 : Int32) <<< (nI w &&& 31)) = nI (m ||| 2 ^ w) := by
  have h2 : 2 ^ w ≤ 2 ^ 15 := Nat.pow_le_pow_right (by decide) (by omega)
  have e : (1 : Int32) <<< (nI w &&& 31) = nI (1 * 2 ^ w) := pk_shlN (n := 1) (nI w &&& 31) w (sl16 w hw) (by omega)
  rw [e, nI_or, Nat.one_mul]
theorem bit_get {m w : Nat} (hm : m < 65536) (hw : w < 16) : ((nI m >>> (nI w &&& 31)) &&& 1) = 1 ↔ m.testBit w = true := by
  rw [pk_shrN (by omega) (nI w &&& 31) w (sl16 w hw)]
  have h1 : m / 2 ^ w < 65536 := Nat.lt_of_le_of_lt (Nat.div_le_self _ _) hm
  rw [pk_andN (n := m / 2 ^ w) (by omega) (m := 1) 1 (by decide), Nat.testBit_eq_decide_div_mod_eq, decide_eq_true_iff]
  constructor
  · intro z
    exact (nI_eq (b := 1) (by omega) (by decide)).mp z
  · intro z
    show nI (m / 2 ^ w % 2) = 1
    rw [z]; rfl
theorem or_lt {m w : Nat} (hm : m < 65536) (hw : w < 16) : m ||| 2 ^ w < 65536 := by
  have h2 : 2 ^ w < 2 ^ 16 := Nat.pow_lt_pow_right (by decide) hw
  exact Nat.or_lt_two_pow (n := 16) hm h2
theorem tb_or {m w g : Nat} : (m ||| 2 ^ w).testBit g = (m.testBit g || decide (w = g)) := by
  rw [Nat.testBit_or, Nat.testBit_two_pow]
/-- the program's loop, a tokens on -/
def XS (b : Nat → Int32) (n a : Nat) (row seen : Nat → Int32) (cu ts tk nu ex li to go fk : Int32) := fLi_read_l6 b (nI n) (FU - a) (nI a) row seen cu ts tk nu ex li to go fk
theorem XS_step {b : Nat → Int32} {n a : Nat} (ha : a ≤ 300) {row seen : Nat → Int32} {cu ts tk nu ex li to go fk c' s' k' v' fk' : Int32} {row' seen' : Nat → Int32} {ex' li' to' go' : Int32} (h1 : fLi_nextToken b (nI n) cu ts tk nu = some (c', s', k', v')) (h2 : fLi_takeToken row seen k' v' ex li to go = some (fk', row', seen', ex', li', to', go')) :
    XS b n a row seen cu ts tk nu ex li to go fk = if fk' = 0 then (if k' = -1 then some (Sum.inr (Sum.inl (row', seen', c', s', k', v', ex', li', to', go', fk'))) else XS b n (a + 1) row' seen' c' s' k' v' ex' li' to' go' fk') else some (Sum.inl (row', seen', c', s', k', v', ex', li', to', go', fk')) := by
  unfold XS
  rw [show FU - a = (FU - (a + 1)) + 1 by unfold FU; omega, fLi_read_l6.eq_2, if_neg (fun qq : (300 : Int32) < nI (a) => absurd ((nI_ltI (a := 300) (b := (a)) (by omega) (by omega)).mp qq) (by omega)), h1, obs, h2, obs, nI_1 a]
theorem tt0 {row seen : Nat → Int32} {k v li to go : Int32} : fLi_takeToken row seen k v 0 li to go = some ((fLi_takeLineStart k 0).1, row, seen, (fLi_takeLineStart k 0).2, li, to, go) := by
  unfold fLi_takeToken
  rw [if_pos rfl]
theorem tt1 {row seen : Nat → Int32} {k v li to go : Int32} : fLi_takeToken row seen k v 1 li to go = ob (fLi_takeTown seen k v 1 to) (fun e1 => some (e1.1, row, e1.2.1, e1.2.2.1, li, e1.2.2.2, go)) := by
  unfold fLi_takeToken
  rw [if_neg (by decide), if_pos rfl]
theorem tt2 {row seen : Nat → Int32} {k v li to go : Int32} : fLi_takeToken row seen k v 2 li to go = some ((fLi_takeColon k 2).1, row, seen, (fLi_takeColon k 2).2, li, to, go) := by
  unfold fLi_takeToken
  rw [if_neg (by decide), if_neg (by decide), if_pos rfl]
theorem tt3 {row seen : Nat → Int32} {k v li to go : Int32} : fLi_takeToken row seen k v 3 li to go = ob (fLi_takeGood row k v 3 to go) (fun e2 => some (e2.1, row, seen, e2.2.1, li, to, e2.2.2)) := by
  unfold fLi_takeToken
  rw [if_neg (by decide), if_neg (by decide), if_neg (by decide), if_pos rfl]
theorem tt4 {row seen : Nat → Int32} {k v li to go : Int32} : fLi_takeToken row seen k v 4 li to go = ob (fLi_takePieces row k v 4 to go) (fun e3 => some (e3.1, e3.2.1, seen, e3.2.2, li, to, go)) := by
  unfold fLi_takeToken
  rw [if_neg (by decide), if_neg (by decide), if_neg (by decide), if_neg (by decide), if_pos rfl]
theorem tt5 {row seen : Nat → Int32} {k v li to go : Int32} : fLi_takeToken row seen k v 5 li to go = some ((fLi_takeBehindPart k 5 li).1, row, seen, (fLi_takeBehindPart k 5 li).2.1, (fLi_takeBehindPart k 5 li).2.2, to, go) := by
  unfold fLi_takeToken
  rw [if_neg (by decide), if_neg (by decide), if_neg (by decide), if_neg (by decide), if_neg (by decide)]
/-- a fault of the kind k at the place p -/
def XF (x : Option (((Nat → Int32) × (Nat → Int32) × Int32 × Int32 × Int32 × Int32 × Int32 × Int32 × Int32 × Int32 × Int32) ⊕ ((Nat → Int32) × (Nat → Int32) × Int32 × Int32 × Int32 × Int32 × Int32 × Int32 × Int32 × Int32 × Int32) ⊕ ((Nat → Int32) × (Nat → Int32) × Int32 × Int32 × Int32 × Int32 × Int32 × Int32 × Int32 × Int32 × Int32))) (k : Int32) (p : Nat) : Prop := ∃ row seen cu tk nu ex li to go, x = some (Sum.inl (row, seen, cu, nI p, tk, nu, ex, li, to, go, k))
/-- the row of the text and where the reference keeps it -/
def RW (told row : Nat → Int32) : Prop := ∀ s, s < 96 → told (480 + s) = row s ∧ (row s = -1 ∨ ∃ d, d ≤ 9999 ∧ row s = nI d)
theorem RW_upd {told row : Nat → Int32} (h : RW told row) {s d : Nat} (hd : d ≤ 9999) : RW (upd told (480 + s) (nI d)) (upd row s (nI d)) := by
  intro j hj
  by_cases e : j = s
  · subst e; rw [upd_s, upd_s]; exact ⟨rfl, Or.inr ⟨d, hd, rfl⟩⟩
  · rw [upd_n e, upd_n (by omega)]; exact h j hj
theorem gmin {v : Nat} (hv : v < 1000000) : (fMM_isGood (nI v) = 0 ∧ fTL_isGood (nI (min v 100000)) = 0) ∨ (v < 6 ∧ ¬ fMM_isGood (nI v) = 0 ∧ ¬ fTL_isGood (nI v) = 0 ∧ min v 100000 = v) := by
  rcases good_or (nI v) with ⟨m, t⟩ | ⟨k, hk, e, m, t⟩
  · left
    refine ⟨m, ?_⟩
    rcases good_or (nI (min v 100000)) with ⟨m2, t2⟩ | ⟨k, hk, e, m2, t2⟩
    · exact t2
    · have := (nI_eq (by omega) (by omega)).mp e
      have e2 : min v 100000 = v := by omega
      rw [e2] at m2
      exact absurd m m2
  · have := (nI_eq (by omega) (by omega)).mp e
    exact Or.inr ⟨by omega, m, t, by omega⟩
theorem tmin {v : Nat} (hv : v < 1000000) : (fMM_isTown (nI v) = 0 ∧ fTL_isTown (nI (min v 100000)) = 0) ∨ (1 ≤ v ∧ v < 16 ∧ ¬ fMM_isTown (nI v) = 0 ∧ ¬ fTL_isTown (nI v) = 0 ∧ min v 100000 = v) := by
  rcases town_or (nI v) with ⟨m, t⟩ | ⟨k, hk1, hk, e, m, t⟩
  · left
    refine ⟨m, ?_⟩
    rcases town_or (nI (min v 100000)) with ⟨m2, t2⟩ | ⟨k, hk1, hk, e, m2, t2⟩
    · exact t2
    · have := (nI_eq (by omega) (by omega)).mp e
      have e2 : min v 100000 = v := by omega
      rw [e2] at m2
      exact absurd m m2
  · have := (nI_eq (by omega) (by omega)).mp e
    exact Or.inr ⟨by omega, by omega, m, t, by omega⟩
theorem ix480 (w g : Nat) : (480 : Int32) + 6 * nI w + nI g = nI (480 + (w * 6 + g)) := by
  rw [show (480 : Int32) = nI 480 from rfl, show (6 : Int32) = nI 6 from rfl, pk_mul, nI_add, nI_add]
  congr 1
  omega
def LO (t : Nat → Int32) (n w f : Nat) (told : Nat → Int32) (i : Nat) (pl tm nm : Int32) (gm : Nat) := fMM_line_l102 (nI w) t (nI n) f 1 told (nI i) pl tm nm (nI gm)
theorem parts_pair {b t : Nat → Int32} {n : Nat} {ch : Nat → Nat} (h : TB b t n ch) {w : Nat} (hw1 : 1 ≤ w) (hw : w < 16) (seen : Nat → Int32) (li : Int32) :
    ∀ (q i a f gm : Nat) (row told : Nat → Int32) (ts tk nu go fk pl tm nm : Int32), n - i ≤ q → i ≤ n → a ≤ i → q + 1 < f → gm < 65536 → RW told row → (∀ g, g < 6 → (row (w * 6 + g) = -1 ↔ gm.testBit g = false)) →
      (∃ k p, ¬ k = 0 ∧ XF (XS b n a row seen (nI i) ts tk nu 3 li (nI w) go fk) k p ∧ ∃ told' at' tok' num' goods', LO t n w f told i pl tm nm gm = some (Sum.inl (k, told', at', nI p, tok', num', goods')) ∧ ∀ s, s < 480 → told' s = told s) ∨
      (∃ j p a' row' told' ts' tk' nu' go' num' goods', i < j ∧ j ≤ n ∧ a' ≤ j ∧ LO t n w f told i pl tm nm gm = some (Sum.inr (told', nI j, nI p, 2, num', goods')) ∧ XS b n a row seen (nI i) ts tk nu 3 li (nI w) go fk = XS b n a' row' seen (nI j) ts' tk' nu' 0 (li + 1) (nI w) go' 0 ∧ RW told' row' ∧ (∀ s, s < 480 → told' s = told s) ∧ ∀ s, s / 6 ≠ w → row' s = row s) ∨
      (∃ p km told' at' num' goods', ¬ km = (2 : Int32) ∧ LO t n w f told i pl tm nm gm = some (Sum.inr (told', at', nI p, km, num', goods')) ∧ XF (XS b n a row seen (nI i) ts tk nu 3 li (nI w) go fk) 1 p ∧ ∀ s, s < 480 → told' s = told s) := by
  have hn := h.1
  intro q
  induction q with
  | zero =>
    -- the end: no good
    intro i a f gm row told ts tk nu go fk pl tm nm hq hi ha hf hgm hR hG
    obtain ⟨f, rfl⟩ : ∃ k, f = k + 1 := ⟨f - 1, by omega⟩
    obtain ⟨p, p', kx, km, vx, vm, r1, r2, r3, r4, r5, r6⟩ := tok_pair h hi ts tk nu pl tm nm
    left
    rcases r6 with ⟨rfl, rfl⟩ | ⟨r6, -⟩
    · refine ⟨1, p, by decide, ?_, ?_⟩
      · rw [XS_step (by omega) r4 (tt3.trans (by unfold fLi_takeGood; rw [if_neg (by decide), obs])), if_neg n10]
        exact ⟨_, _, _, _, _, _, _, _, _, rfl⟩
      · unfold LO
        rw [fMM_line_l102.eq_2, if_neg n10, r5, obs]
        unfold fMM_part
        rw [if_neg (show ¬ (0 : Int32) = 1 by decide), obs, if_neg n10]
        exact ⟨_, _, _, _, _, rfl, fun _ _ => rfl⟩
    · omega
  | succ q ih =>
    intro i a f gm row told ts tk nu go fk pl tm nm hq hi ha hf hgm hR hG
    obtain ⟨f, rfl⟩ : ∃ k, f = k + 1 := ⟨f - 1, by omega⟩
    obtain ⟨p, p', kx, km, vx, vm, r1, r2, r3, r4, r5, r6⟩ := tok_pair h hi ts tk nu pl tm nm
    have bad1 : ¬ kx = -3 → ¬ km = 1 → (∃ k p, ¬ k = 0 ∧ XF (XS b n a row seen (nI i) ts tk nu 3 li (nI w) go fk) k p ∧ ∃ told' at' tok' num' goods', LO t n w (f + 1) told i pl tm nm gm = some (Sum.inl (k, told', at', nI p, tok', num', goods')) ∧ ∀ s, s < 480 → told' s = told s) := by
      intro z1 z2
      refine ⟨1, p, by decide, ?_, ?_⟩
      · rw [XS_step (by omega) r4 (tt3.trans (by unfold fLi_takeGood; rw [if_neg z1, obs])), if_neg n10]
        exact ⟨_, _, _, _, _, _, _, _, _, rfl⟩
      · unfold LO
        rw [fMM_line_l102.eq_2, if_neg n10, r5, obs]
        unfold fMM_part
        rw [if_neg z2, obs, if_neg n10]
        exact ⟨_, _, _, _, _, rfl, fun _ _ => rfl⟩
    rcases r6 with ⟨rfl, rfl⟩ | ⟨hpp, ⟨rfl, rfl, v, hv, rfl, rfl⟩ | ⟨rfl, rfl⟩ | ⟨rfl, rfl⟩ | ⟨rfl, rfl⟩ | ⟨rfl, rfl⟩ | ⟨rfl, rfl⟩⟩
    · exact Or.inl (bad1 (by decide) (by decide))
    · clear bad1
      rcases gmin hv with ⟨g1, g2⟩ | ⟨hg, g1, g2, hmin⟩
      · left
        refine ⟨3, p, by decide, ?_, ?_⟩
        · rw [XS_step (by omega) r4 (tt3.trans (by unfold fLi_takeGood; rw [if_pos rfl, if_pos g2, obs])), if_neg n30]
          exact ⟨_, _, _, _, _, _, _, _, _, rfl⟩
        · unfold LO
          rw [fMM_line_l102.eq_2, if_neg n10, r5, obs]
          unfold fMM_part
          rw [if_pos rfl, if_pos g1, if_pos g1, obs, if_neg n30]
          exact ⟨_, _, _, _, _, rfl, fun _ _ => rfl⟩
      · rw [hmin] at r4
        have hsl : fTL_slot (nI w) (nI v) = nI (w * 6 + v) := slot_n w v
        have hs96 : w * 6 + v < 96 := by omega
        have hbit := bit_get (m := gm) (w := v) hgm (by omega)
        by_cases hb : gm.testBit v = true
        · -- told twice
          have hne : ¬ row (w * 6 + v) = -1 := fun z => by rw [(hG v hg).mp z] at hb; exact absurd hb (by decide)
          left
          refine ⟨2, p, by decide, ?_, ?_⟩
          · rw [XS_step (by omega) r4 (tt3.trans (by unfold fLi_takeGood; rw [if_pos rfl, if_neg g2, hsl, gdn hs96 (by decide), nI_clamp (by omega), if_neg hne, obs])), if_neg n20]
            exact ⟨_, _, _, _, _, _, _, _, _, rfl⟩
          · unfold LO
            rw [fMM_line_l102.eq_2, if_neg n10, r5, obs]
            unfold fMM_part
            rw [if_pos rfl, if_neg g1, if_pos (hbit.mpr hb), obs, if_neg n20]
            exact ⟨_, _, _, _, _, rfl, fun _ _ => rfl⟩
        · have hm1 : row (w * 6 + v) = -1 := (hG v hg).mpr (by cases hz : gm.testBit v with | true => exact absurd hz hb | false => rfl)
          have hX1 : XS b n a row seen (nI i) ts tk nu 3 li (nI w) go fk = XS b n (a + 1) row seen (nI p') (nI p) (-3) (nI v) 4 li (nI w) (nI v) 0 := by
            rw [XS_step (by omega) r4 (tt3.trans (by unfold fLi_takeGood; rw [if_pos rfl, if_neg g2, hsl, gdn hs96 (by decide), nI_clamp (by omega), if_pos hm1, obs])), if_pos rfl, if_neg (by decide)]
          obtain ⟨p2, p2', kx2, km2, vx2, vm2, s1, s2, s3, s4, s5, s6⟩ := tok_pair h r3 (nI p) (-3) (nI v) (nI p) 1 (nI v)
          have hP : ∀ (X : Option (Int32 × (Nat → Int32) × Int32 × Int32 × Int32 × Int32 × Int32)), fMM_part (nI w) told t (nI n) (nI p') (nI p) 1 (nI v) (nI gm) = X → LO t n w (f + 1) told i pl tm nm gm = ob X (fun e4 => (if e4.1 = (0) then (if e4.2.2.2.2.1 = (3) then fMM_line_l102 (nI w) t (nI n) f (1) e4.2.1 e4.2.2.1 e4.2.2.2.1 e4.2.2.2.2.1 e4.2.2.2.2.2.1 e4.2.2.2.2.2.2 else fMM_line_l102 (nI w) t (nI n) f (0) e4.2.1 e4.2.2.1 e4.2.2.2.1 e4.2.2.2.2.1 e4.2.2.2.2.2.1 e4.2.2.2.2.2.2) else some (Sum.inl (e4.1, e4.2.1, e4.2.2.1, e4.2.2.2.1, e4.2.2.2.2.1, e4.2.2.2.2.2.1, e4.2.2.2.2.2.2)))) := by
            intro X hX
            unfold LO
            rw [fMM_line_l102.eq_2, if_neg n10, r5, obs]
            dsimp only
            rw [hX]
          have hM1 : fMM_part (nI w) told t (nI n) (nI p') (nI p) 1 (nI v) (nI gm) = (if km2 = (1) then (if vm2 ≤ (9999) then (ob (fMM_nextToken t (nI n) (nI p2') (nI p2) km2 vm2) (fun e6 => some ((0), (upd told (480 + (w * 6 + v)) vm2), e6.1, e6.2.1, e6.2.2.1, e6.2.2.2, (nI (gm ||| 2 ^ v))))) else some ((3), told, nI p2', nI p2, km2, vm2, (nI (gm ||| 2 ^ v)))) else some ((1), told, nI p2', nI p2, km2, vm2, (nI (gm ||| 2 ^ v)))) := by
            unfold fMM_part
            rw [if_pos rfl, if_neg g1, if_neg (fun z => hb (hbit.mp z)), if_neg g1, s5, obs, ix480, gdn (by omega) (by decide), nI_clamp (by omega), bit_set (by omega)]
          have bad2 : ¬ kx2 = -3 → ¬ km2 = 1 → (∃ k p, ¬ k = 0 ∧ XF (XS b n a row seen (nI i) ts tk nu 3 li (nI w) go fk) k p ∧ ∃ told' at' tok' num' goods', LO t n w (f + 1) told i pl tm nm gm = some (Sum.inl (k, told', at', nI p, tok', num', goods')) ∧ ∀ s, s < 480 → told' s = told s) := by
            intro z1 z2
            refine ⟨1, p2, by decide, ?_, ?_⟩
            · rw [hX1, XS_step (by omega) s4 (tt4.trans (by unfold fLi_takePieces; rw [if_neg z1, obs])), if_neg n10]
              exact ⟨_, _, _, _, _, _, _, _, _, rfl⟩
            · rw [hP _ hM1, if_neg z2, obs, if_neg n10]
              exact ⟨_, _, _, _, _, rfl, fun _ _ => rfl⟩
          rcases s6 with ⟨rfl, rfl⟩ | ⟨hpp2, ⟨rfl, rfl, v2, hv2, rfl, rfl⟩ | ⟨rfl, rfl⟩ | ⟨rfl, rfl⟩ | ⟨rfl, rfl⟩ | ⟨rfl, rfl⟩ | ⟨rfl, rfl⟩⟩
          · exact Or.inl (bad2 (by decide) (by decide))
          · clear bad2
            rw [if_pos rfl] at hM1
            by_cases c9 : v2 ≤ 9999
            · rw [if_pos (show nI (v2) ≤ (9999 : Int32) from (nI_leI (a := (v2)) (b := 9999) (by omega) (by omega)).mpr (by omega))] at hM1
              rw [show min v2 100000 = v2 by omega] at s4
              have hX2 : XS b n a row seen (nI i) ts tk nu 3 li (nI w) go fk = XS b n (a + 2) (upd row (w * 6 + v) (nI v2)) seen (nI p2') (nI p2) (-3) (nI v2) 5 li (nI w) (nI v) 0 := by
                rw [hX1, XS_step (by omega) s4 (tt4.trans (by unfold fLi_takePieces; rw [if_pos rfl, if_pos (show nI (v2) ≤ (9999 : Int32) from (nI_leI (a := (v2)) (b := 9999) (by omega) (by omega)).mpr (by omega)), hsl, gdn hs96 (by decide), nI_clamp (by omega), obs])), if_pos rfl, if_neg (by decide)]
              obtain ⟨p3, p3', kx3, km3, vx3, vm3, u1, u2, u3, u4, u5, u6⟩ := tok_pair h s3 (nI p2) (-3) (nI v2) (nI p2) 1 (nI v2)
              rw [u5, obs] at hM1
              have hL := hP _ hM1
              rw [obs, if_pos rfl] at hL
              dsimp only at hL
              have hR2 := RW_upd hR (s := w * 6 + v) c9
              have hsame : ∀ s, s < 480 → upd told (480 + (w * 6 + v)) (nI v2) s = told s := fun s hs => upd_n (by omega)
              have badE : ¬ kx3 = 44 → ¬ kx3 = 59 → ¬ km3 = 3 → ¬ km3 = 2 → (∃ p km told' at' num' goods', ¬ km = (2 : Int32) ∧ LO t n w (f + 1) told i pl tm nm gm = some (Sum.inr (told', at', nI p, km, num', goods')) ∧ XF (XS b n a row seen (nI i) ts tk nu 3 li (nI w) go fk) 1 p ∧ ∀ s, s < 480 → told' s = told s) := by
                intro z1 z2 z3 z4
                refine ⟨p3, km3, upd told (480 + (w * 6 + v)) (nI v2), nI p3', vm3, nI (gm ||| 2 ^ v), z4, ?_, ?_, hsame⟩
                · obtain ⟨f, rfl⟩ : ∃ k, f = k + 1 := ⟨f - 1, by omega⟩
                  rw [hL, if_neg z3, fMM_line_l102.eq_2, if_pos rfl]
                · rw [hX2, XS_step (by omega) u4 (tt5.trans (by unfold fLi_takeBehindPart; rw [if_neg z1, if_neg z2])), if_neg n10]
                  exact ⟨_, _, _, _, _, _, _, _, _, rfl⟩
              rcases u6 with ⟨rfl, rfl⟩ | ⟨hpp3, ⟨rfl, rfl, v3, hv3, rfl, rfl⟩ | ⟨rfl, rfl⟩ | ⟨rfl, rfl⟩ | ⟨rfl, rfl⟩ | ⟨rfl, rfl⟩ | ⟨rfl, rfl⟩⟩
              · exact Or.inr (Or.inr (badE (by decide) (by decide) (by decide) (by decide)))
              · exact Or.inr (Or.inr (badE (by decide) (by decide) (by decide) (by decide)))
              · -- the line's end
                right; left
                obtain ⟨f, rfl⟩ : ∃ k, f = k + 1 := ⟨f - 1, by omega⟩
                rw [if_neg (by decide), fMM_line_l102.eq_2, if_pos rfl] at hL
                refine ⟨p3', p3, a + 3, upd row (w * 6 + v) (nI v2), upd told (480 + (w * 6 + v)) (nI v2), nI p3, 59, vx3, nI v, vm3, nI (gm ||| 2 ^ v), by omega, u3, by omega, hL, ?_, hR2, hsame, fun s hs => upd_n (by omega)⟩
                rw [hX2, XS_step (by omega) u4 (tt5.trans (by unfold fLi_takeBehindPart; rw [if_neg (by decide), if_pos rfl])), if_pos rfl, if_neg (by decide)]
              · -- another part
                rw [if_pos rfl] at hL
                have hX3 : XS b n a row seen (nI i) ts tk nu 3 li (nI w) go fk = XS b n (a + 3) (upd row (w * 6 + v) (nI v2)) seen (nI p3') (nI p3) 44 vx3 3 li (nI w) (nI v) 0 := by
                  rw [hX2, XS_step (by omega) u4 (tt5.trans (by unfold fLi_takeBehindPart; rw [if_pos rfl])), if_pos rfl, if_neg (by decide)]
                have hG2 : ∀ g, g < 6 → (upd row (w * 6 + v) (nI v2) (w * 6 + g) = -1 ↔ (gm ||| 2 ^ v).testBit g = false) := by
                  intro g hg6
                  rw [tb_or]
                  by_cases e : v = g
                  · subst e
                    rw [upd_s, decide_eq_true rfl, Bool.or_true]
                    exact ⟨fun z => absurd z (m1_ne v2 (by omega)), fun z => absurd z (by decide)⟩
                  · rw [upd_n (by omega), decide_eq_false e, Bool.or_false]
                    exact hG g hg6
                have := ih p3' (a + 3) f (gm ||| 2 ^ v) (upd row (w * 6 + v) (nI v2)) (upd told (480 + (w * 6 + v)) (nI v2)) (nI p3) 44 vx3 (nI v) 0 (nI p3) 3 vm3 (by omega) u3 (by omega) (by omega) (or_lt hgm (by omega)) hR2 hG2
                rw [hX3, hL]
                rcases this with ⟨k, pp, y1, y2, td, y3⟩ | ⟨j, pp, a', row', told', ts', tk', nu', go', num', goods', y1, y2, y3, y4, y5, y6, y7, y8⟩ | ⟨pp, km, told', at', num', goods', y1, y2, y3, y4⟩
                · left
                  obtain ⟨at', tok', num', goods', y3, y4⟩ := y3
                  exact ⟨k, pp, y1, y2, td, at', tok', num', goods', y3, fun s hs => (y4 s hs).trans (hsame s hs)⟩
                · right; left
                  exact ⟨j, pp, a', row', told', ts', tk', nu', go', num', goods', by omega, y2, y3, y4, y5, y6, fun s hs => (y7 s hs).trans (hsame s hs), fun s hs => (y8 s hs).trans (upd_n (fun z => hs (by omega)))⟩
                · right; right
                  exact ⟨pp, km, told', at', num', goods', y1, y2, y3, fun s hs => (y4 s hs).trans (hsame s hs)⟩
              · exact Or.inr (Or.inr (badE (by decide) (by decide) (by decide) (by decide)))
              · exact Or.inr (Or.inr (badE (by decide) (by decide) (by decide) (by decide)))
              · exact Or.inr (Or.inr (badE (by decide) (by decide) (by decide) (by decide)))
            · -- too many pieces
              left
              rw [if_neg (fun qq : nI (v2) ≤ (9999 : Int32) => absurd ((nI_leI (a := (v2)) (b := 9999) (by omega) (by omega)).mp qq) (by omega))] at hM1
              refine ⟨3, p2, by decide, ?_, ?_⟩
              · rw [hX1, XS_step (by omega) s4 (tt4.trans (by unfold fLi_takePieces; rw [if_pos rfl, if_neg (fun qq : nI (min v2 100000) ≤ (9999 : Int32) => absurd ((nI_leI (a := (min v2 100000)) (b := 9999) (by omega) (by omega)).mp qq) (by omega)), obs])), if_neg n30]
                exact ⟨_, _, _, _, _, _, _, _, _, rfl⟩
              · rw [hP _ hM1, obs, if_neg n30]
                exact ⟨_, _, _, _, _, rfl, fun _ _ => rfl⟩
          · exact Or.inl (bad2 (by decide) (by decide))
          · exact Or.inl (bad2 (by decide) (by decide))
          · exact Or.inl (bad2 (by decide) (by decide))
          · exact Or.inl (bad2 (by decide) (by decide))
          · exact Or.inl (bad2 (by decide) (by decide))
    · exact Or.inl (bad1 (by decide) (by decide))
    · exact Or.inl (bad1 (by decide) (by decide))
    · exact Or.inl (bad1 (by decide) (by decide))
    · exact Or.inl (bad1 (by decide) (by decide))
    · exact Or.inl (bad1 (by decide) (by decide))
