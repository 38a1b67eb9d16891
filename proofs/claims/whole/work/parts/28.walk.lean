set_option maxRecDepth 100000 in
set_option maxHeartbeats 4000000 in
theorem cMM_market {l : Launch} {G : GG} (hG : GOK G) {c_MM_markets : Int32} {c_MM_from : (Nat → Int32)} {c_MM_gives : (Nat → Int32)} {c_MM_to : (Nat → Int32)} {c_MM_gets : (Nat → Int32)} {z1 : Z1} {z21 : Z21} {z2211 : Z2211} {z22121 : Z22121} {z2212211 : Int32} {z22212 : Z22212} {z2222 : Z2222} (a1 : Int32) (a2 : Int32) (a3 : Int32) (a4 : Int32) (R : (Int32 × Int32 × (Nat → Int32) × (Nat → Int32) × (Nat → Int32) × (Nat → Int32))) (h : fMM_market a1 a2 a3 a4 c_MM_markets c_MM_from c_MM_gives c_MM_to c_MM_gets = some R) : Met l yMM_market (.code yMM_market prog_12_method_40_code 5 (some .int) :: gw) (rmm 3) (PcW G [.ref (ad G 40), .int a1, .int a2, .int a3, .int a4] (z1, (z21, ((z2211, (z22121, ((z2212211, c_MM_markets), c_MM_from))), ((((c_MM_gives, c_MM_to), c_MM_gets), z22212), z2222))))) (Qw G (some (.int R.1)) (z1, (z21, ((z2211, (z22121, ((z2212211, R.2.1), R.2.2.1))), ((((R.2.2.2.1, R.2.2.2.2.1), R.2.2.2.2.2), z22212), z2222))))) 0 0 (Aw G) := by
  refine met_of (by decide) 3 G hG _ _ (Nat.le_of_ble_eq_true rfl) _ _ (fun X _ C => ?_)
  have C : Cx G X RcMM prog_12_method_40_code 5 3 (some .int) := C
  unfold fMM_market at h
  show At G X 5 _ 0 [(0, .ref (ad G 40)), (1, .int a1), (2, .int a2), (3, .int a3), (4, .int a4)] [] (z1, (z21, ((z2211, (z22121, ((z2212211, c_MM_markets), c_MM_from))), ((((c_MM_gives, c_MM_to), c_MM_gets), z22212), z2222))))
  refine at_iload_n (j := 1) C dMM_market_0 rfl rfl ?_
  refine at_callSi C kMM_122 (cMM_isGood C.2.2.2.2.2.2.1 _ _ rfl) (by omega) rfl rfl (Nat.le_of_ble_eq_true rfl) dMM_market_1 ?_
  refine at_if_eq C dMM_market_4 rfl (fun hc => ?_) (fun hc => ?_)
  · replace h := ifp hc h
    refine at_iconst C dMM_market_49 ci_m1 ?_
    cases h
    exact at_iret C dMM_market_50
  · replace h := ifn hc h
    refine at_iload_n (j := 3) C dMM_market_7 rfl rfl ?_
    refine at_callSi C kMM_122 (cMM_isGood C.2.2.2.2.2.2.1 _ _ rfl) (by omega) rfl rfl (Nat.le_of_ble_eq_true rfl) dMM_market_8 ?_
    refine at_if_eq C dMM_market_11 rfl (fun hc => ?_) (fun hc => ?_)
    · replace h := ifp hc h
      refine at_iconst C dMM_market_49 ci_m1 ?_
      cases h
      exact at_iret C dMM_market_50
    · replace h := ifn hc h
      refine at_iload_n (j := 1) C dMM_market_14 rfl rfl ?_
      refine at_iload_n (j := 3) C dMM_market_15 rfl rfl ?_
      refine at_icmp_eq C dMM_market_16 rfl (fun hc => ?_) (fun hc => ?_)
      · replace h := ifp hc h
        refine at_iconst C dMM_market_49 ci_m1 ?_
        cases h
        exact at_iret C dMM_market_50
      · replace h := ifn hc h
        refine at_iload_n (j := 2) C dMM_market_19 rfl rfl ?_
        refine at_iconst C dMM_market_20 ci_1 ?_
        refine at_bipush C dMM_market_21 cb_99 ?_
        refine at_callSi C kMM_109 (cMM_isIn C.2.2.2.2.2.2.1 _ _ _ _ rfl) (by omega) rfl rfl (Nat.le_of_ble_eq_true rfl) dMM_market_23 ?_
        refine at_if_eq C dMM_market_26 rfl (fun hc => ?_) (fun hc => ?_)
        · replace h := ifp hc h
          refine at_iconst C dMM_market_49 ci_m1 ?_
          cases h
          exact at_iret C dMM_market_50
        · replace h := ifn hc h
          refine at_iload (j := 4) C dMM_market_29 rfl ?_
          refine at_iconst C dMM_market_31 ci_1 ?_
          refine at_bipush C dMM_market_32 cb_99 ?_
          refine at_callSi C kMM_109 (cMM_isIn C.2.2.2.2.2.2.1 _ _ _ _ rfl) (by omega) rfl rfl (Nat.le_of_ble_eq_true rfl) dMM_market_34 ?_
          refine at_if_eq C dMM_market_37 rfl (fun hc => ?_) (fun hc => ?_)
          · replace h := ifp hc h
            refine at_iconst C dMM_market_49 ci_m1 ?_
            cases h
            exact at_iret C dMM_market_50
          · replace h := ifn hc h
            refine at_aload_n (j := 0) C dMM_market_40 rfl rfl ?_
            refine gfMM_markets (x := c_MM_markets) C rfl dMM_market_41 ?_
            refine at_bipush C dMM_market_44 cb_20 ?_
            refine at_icmp_ne C dMM_market_46 rfl (fun hc => ?_) (fun hc => ?_)
            · replace h := ifn hc h
              refine at_aload_n (j := 0) C dMM_market_51 rfl rfl ?_
              refine gfMM_from C dMM_market_52 ?_
              refine at_aload_n (j := 0) C dMM_market_55 rfl rfl ?_
              refine gfMM_markets (x := c_MM_markets) C rfl dMM_market_56 ?_
              refine at_iload_n (j := 1) C dMM_market_59 rfl rfl ?_
              obtain ⟨hg1, h⟩ := gd_some h
              refine svMM_from C hg1 dMM_market_60 ?_
              refine at_st (S1 := (z1, (z21, ((z2211, (z22121, ((z2212211, c_MM_markets), (upd c_MM_from (c_MM_markets).toNatClampNeg a1)))), ((((c_MM_gives, c_MM_to), c_MM_gets), z22212), z2222))))) rfl ?_
              refine at_aload_n (j := 0) C dMM_market_61 rfl rfl ?_
              refine gfMM_gives C dMM_market_62 ?_
              refine at_aload_n (j := 0) C dMM_market_65 rfl rfl ?_
              refine gfMM_markets (x := c_MM_markets) C rfl dMM_market_66 ?_
              refine at_iload_n (j := 2) C dMM_market_69 rfl rfl ?_
              obtain ⟨hg2, h⟩ := gd_some h
              refine svMM_gives C hg2 dMM_market_70 ?_
              refine at_st (S1 := (z1, (z21, ((z2211, (z22121, ((z2212211, c_MM_markets), (upd c_MM_from (c_MM_markets).toNatClampNeg a1)))), (((((upd c_MM_gives (c_MM_markets).toNatClampNeg a2), c_MM_to), c_MM_gets), z22212), z2222))))) rfl ?_
              refine at_aload_n (j := 0) C dMM_market_71 rfl rfl ?_
              refine gfMM_to C dMM_market_72 ?_
              refine at_aload_n (j := 0) C dMM_market_75 rfl rfl ?_
              refine gfMM_markets (x := c_MM_markets) C rfl dMM_market_76 ?_
              refine at_iload_n (j := 3) C dMM_market_79 rfl rfl ?_
              obtain ⟨hg3, h⟩ := gd_some h
              refine svMM_to C hg3 dMM_market_80 ?_
              refine at_st (S1 := (z1, (z21, ((z2211, (z22121, ((z2212211, c_MM_markets), (upd c_MM_from (c_MM_markets).toNatClampNeg a1)))), (((((upd c_MM_gives (c_MM_markets).toNatClampNeg a2), (upd c_MM_to (c_MM_markets).toNatClampNeg a3)), c_MM_gets), z22212), z2222))))) rfl ?_
              refine at_aload_n (j := 0) C dMM_market_81 rfl rfl ?_
              refine gfMM_gets C dMM_market_82 ?_
              refine at_aload_n (j := 0) C dMM_market_85 rfl rfl ?_
              refine gfMM_markets (x := c_MM_markets) C rfl dMM_market_86 ?_
              refine at_iload (j := 4) C dMM_market_89 rfl ?_
              obtain ⟨hg4, h⟩ := gd_some h
              refine svMM_gets C hg4 dMM_market_91 ?_
              refine at_st (S1 := (z1, (z21, ((z2211, (z22121, ((z2212211, c_MM_markets), (upd c_MM_from (c_MM_markets).toNatClampNeg a1)))), (((((upd c_MM_gives (c_MM_markets).toNatClampNeg a2), (upd c_MM_to (c_MM_markets).toNatClampNeg a3)), (upd c_MM_gets (c_MM_markets).toNatClampNeg a4)), z22212), z2222))))) rfl ?_
              refine at_aload_n (j := 0) C dMM_market_92 rfl rfl ?_
              refine at_dup C dMM_market_93 rfl ?_
              refine gfMM_markets (x := c_MM_markets) C rfl dMM_market_94 ?_
              refine at_iconst C dMM_market_97 ci_1 ?_
              refine at_iadd C dMM_market_98 ?_
              refine pfMM_markets C dMM_market_99 ?_
              refine at_st (S1 := (z1, (z21, ((z2211, (z22121, ((z2212211, (c_MM_markets + (1 : Int32))), (upd c_MM_from (c_MM_markets).toNatClampNeg a1)))), (((((upd c_MM_gives (c_MM_markets).toNatClampNeg a2), (upd c_MM_to (c_MM_markets).toNatClampNeg a3)), (upd c_MM_gets (c_MM_markets).toNatClampNeg a4)), z22212), z2222))))) rfl ?_
              refine at_aload_n (j := 0) C dMM_market_102 rfl rfl ?_
              refine gfMM_markets (x := (c_MM_markets + (1 : Int32))) C rfl dMM_market_103 ?_
              refine at_iconst C dMM_market_106 ci_1 ?_
              refine at_isub C dMM_market_107 ?_
              cases h
              exact at_iret C dMM_market_108
            · replace h := ifp hc h
              refine at_iconst C dMM_market_49 ci_m1 ?_
              cases h
              exact at_iret C dMM_market_50
set_option maxRecDepth 100000 in
set_option maxHeartbeats 4000000 in
theorem wMM_isAhead_l2 {G : GG} {X : CX} {c_MM_open : (Nat → Int32)} {c_MM_bestRow : (Nat → Int32)} {z1 : Z1} {z21 : Z21} {z221 : Z221} {z22211 : Z22211} {z2221212 : (Nat → Int64)} {z2222 : Z2222} (C : Cx G X RcMM prog_12_method_41_code 3 1 (some .boolean)) {Q : State → Prop}  (a1 : Int32) : ∀ (n : Nat) (a2 : Int32) (E : Int32 ⊕ Unit) (h : fMM_isAhead_l2 a1 c_MM_open c_MM_bestRow n a2 = some E) (k0 : ∀ e, E = (Sum.inl e) → At G X 3 Q 22 [(0, .ref (ad G 40)), (2, .int e)] [] (z1, (z21, (z221, ((z22211, ((c_MM_open, z2221212), c_MM_bestRow)), z2222))))) (k1 : ∀ e, E = (Sum.inr e) → At G X 3 Q 49 [] [] (z1, (z21, (z221, ((z22211, ((c_MM_open, z2221212), c_MM_bestRow)), z2222))))), At G X 3 Q 2 [(0, .ref (ad G 40)), (1, .int a1), (2, .int a2)] [] (z1, (z21, (z221, ((z22211, ((c_MM_open, z2221212), c_MM_bestRow)), z2222)))) := by
  intro n
  induction n with
  | zero =>
    intro a2 E h k0 k1
    rw [fMM_isAhead_l2.eq_1] at h
    cases h
  | succ n ih =>
    intro a2 E h k0 k1
    rw [fMM_isAhead_l2.eq_2] at h
    refine at_iload_n (j := 2) C dMM_isAhead_2 rfl rfl ?_
    refine at_iload_n (j := 1) C dMM_isAhead_3 rfl rfl ?_
    refine at_icmp_ge C dMM_isAhead_4 rfl (fun hc => ?_) (fun hc => ?_)
    · replace h := ifp hc h
      cases h
      refine at_loc (L' := []) [] rfl ?_
      exact k1 _ rfl
    · replace h := ifn hc h
      refine at_aload_n (j := 0) C dMM_isAhead_7 rfl rfl ?_
      refine gfMM_open C dMM_isAhead_8 ?_
      refine at_iload_n (j := 2) C dMM_isAhead_11 rfl rfl ?_
      obtain ⟨hg1, h⟩ := gd_some h
      refine ldMM_open (f := c_MM_open) C rfl hg1 dMM_isAhead_12 ?_
      refine at_aload_n (j := 0) C dMM_isAhead_13 rfl rfl ?_
      refine gfMM_bestRow C dMM_isAhead_14 ?_
      refine at_iload_n (j := 2) C dMM_isAhead_17 rfl rfl ?_
      obtain ⟨hg2, h⟩ := gd_some h
      refine ldMM_bestRow (f := c_MM_bestRow) C rfl hg2 dMM_isAhead_18 ?_
      refine at_icmp_eq C dMM_isAhead_19 rfl (fun hc => ?_) (fun hc => ?_)
      · replace h := ifp hc h
        refine at_iinc (j := 2) (L' := [(2, .int (a2 + (1 : Int32))), (0, .ref (ad G 40)), (1, .int a1)]) C dMM_isAhead_43 rfl ci_1 (by decide) rfl ?_
        refine at_goto C dMM_isAhead_46 rfl ?_
        refine at_loc (L' := [(0, .ref (ad G 40)), (1, .int a1), (2, .int (a2 + (1 : Int32)))]) [1, 2, 0] rfl ?_
        exact ih _ _ h k0 k1
      · replace h := ifn hc h
        cases h
        refine at_loc (L' := [(0, .ref (ad G 40)), (2, .int a2)]) [0, 2] rfl ?_
        exact k0 _ rfl
set_option maxRecDepth 100000 in
set_option maxHeartbeats 4000000 in
theorem cMM_isAhead {l : Launch} {G : GG} (hG : GOK G) {c_MM_open : (Nat → Int32)} {c_MM_bestRow : (Nat → Int32)} {z1 : Z1} {z21 : Z21} {z221 : Z221} {z22211 : Z22211} {z2221212 : (Nat → Int64)} {z2222 : Z2222} (a1 : Int32) (R : Int32) (h : fMM_isAhead a1 c_MM_open c_MM_bestRow = some R) : Met l yMM_isAhead (.code yMM_isAhead prog_12_method_41_code 3 (some .boolean) :: gw) (rmm 1) (PcW G [.ref (ad G 40), .int a1] (z1, (z21, (z221, ((z22211, ((c_MM_open, z2221212), c_MM_bestRow)), z2222))))) (Qw G (some (.int R)) (z1, (z21, (z221, ((z22211, ((c_MM_open, z2221212), c_MM_bestRow)), z2222))))) 0 0 (Aw G) := by
  refine met_of (by decide) 1 G hG _ _ (Nat.le_of_ble_eq_true rfl) _ _ (fun X _ C => ?_)
  have C : Cx G X RcMM prog_12_method_41_code 3 1 (some .boolean) := C
  unfold fMM_isAhead at h
  show At G X 3 _ 0 [(0, .ref (ad G 40)), (1, .int a1)] [] (z1, (z21, (z221, ((z22211, ((c_MM_open, z2221212), c_MM_bestRow)), z2222))))
  refine at_iconst C dMM_isAhead_0 ci_0 ?_
  refine at_istore_n (L' := [(2, .int (0 : Int32)), (0, .ref (ad G 40)), (1, .int a1)]) C dMM_isAhead_1 rfl (by decide) rfl ?_
  obtain ⟨e3, he3, h⟩ := ob_some h
  refine at_loc (L' := [(0, .ref (ad G 40)), (1, .int a1), (2, .int (0 : Int32))]) [1, 2, 0] rfl ?_
  rcases e3 with e4 | e7
  · simp only [Sum.elim_inl, Sum.elim_inr] at h
    refine wMM_isAhead_l2 C _ FU _ _ he3 (fun e he => ?_) (fun e he => by cases he)
    cases he
    refine at_aload_n (j := 0) C dMM_isAhead_22 rfl rfl ?_
    refine gfMM_open C dMM_isAhead_23 ?_
    refine at_iload_n (j := 1) C dMM_isAhead_26 rfl rfl ?_
    obtain ⟨hg5, h⟩ := gd_some h
    refine ldMM_open (f := c_MM_open) C rfl hg5 dMM_isAhead_27 ?_
    refine at_aload_n (j := 0) C dMM_isAhead_28 rfl rfl ?_
    refine gfMM_bestRow C dMM_isAhead_29 ?_
    refine at_iload_n (j := 1) C dMM_isAhead_32 rfl rfl ?_
    obtain ⟨hg6, h⟩ := gd_some h
    refine ldMM_bestRow (f := c_MM_bestRow) C rfl hg6 dMM_isAhead_33 ?_
    refine at_icmp_ge C dMM_isAhead_34 rfl (fun hc => ?_) (fun hc => ?_)
    · replace h := ifp hc h
      refine at_iconst C dMM_isAhead_41 ci_0 ?_
      cases h
      exact at_zret (x := (0 : Int32)) C zn_0 dMM_isAhead_42
    · replace h := ifn hc h
      refine at_iconst C dMM_isAhead_37 ci_1 ?_
      refine at_goto C dMM_isAhead_38 rfl ?_
      cases h
      exact at_zret (x := (1 : Int32)) C zn_1 dMM_isAhead_42
  · simp only [Sum.elim_inl, Sum.elim_inr] at h
    refine wMM_isAhead_l2 C _ FU _ _ he3 (fun e he => by cases he) (fun e he => ?_)
    cases he
    refine at_iconst C dMM_isAhead_49 ci_0 ?_
    cases h
    exact at_zret (x := (0 : Int32)) C zn_0 dMM_isAhead_50
set_option maxRecDepth 100000 in
set_option maxHeartbeats 4000000 in
theorem wMM_found_l65 {G : GG} {X : CX} {c_MM_open : (Nat → Int32)} {c_MM_much : (Nat → Int64)} {c_MM_bestLong : Int32} {c_MM_best : Int64} {z1 : Z1} {z21 : Z21} {z221 : Z221} {z22211 : Z22211} {z2222112 : Int32} {z222212 : (Nat → Int32)} {z2222212 : (Nat → Int32)} {z222222 : (Nat → Int32)} (C : Cx G X RcMM prog_12_method_42_code 5 2 none) {Q : State → Prop}  (a1 : Int32) : ∀ (n : Nat) (a4 : Int32) (c_MM_bestRow : (Nat → Int32)) (E : (Nat → Int32)) (h : fMM_found_l65 a1 c_MM_open n a4 c_MM_bestRow = some E) (k0 : At G X 5 Q 91 [] [] (z1, (z21, (z221, ((z22211, ((c_MM_open, c_MM_much), E)), (((c_MM_bestLong, z2222112), z222212), ((c_MM_best, z2222212), z222222))))))), At G X 5 Q 65 [(0, .ref (ad G 40)), (1, .int a1), (4, .int a4)] [] (z1, (z21, (z221, ((z22211, ((c_MM_open, c_MM_much), c_MM_bestRow)), (((c_MM_bestLong, z2222112), z222212), ((c_MM_best, z2222212), z222222)))))) := by
  intro n
  induction n with
  | zero =>
    intro a4 c_MM_bestRow E h k0
    rw [fMM_found_l65.eq_1] at h
    cases h
  | succ n ih =>
    intro a4 c_MM_bestRow E h k0
    rw [fMM_found_l65.eq_2] at h
    refine at_iload (j := 2) C dMM_found_65 rfl ?_
    refine at_iload_n (j := 1) C dMM_found_67 rfl rfl ?_
    refine at_icmp_ge C dMM_found_68 rfl (fun hc => ?_) (fun hc => ?_)
    · replace h := ifp hc h
      cases h
      refine at_loc (L' := []) [] rfl ?_
      exact k0
    · replace h := ifn hc h
      refine at_aload_n (j := 0) C dMM_found_71 rfl rfl ?_
      refine gfMM_bestRow C dMM_found_72 ?_
      refine at_iload (j := 2) C dMM_found_75 rfl ?_
      refine at_aload_n (j := 0) C dMM_found_77 rfl rfl ?_
      refine gfMM_open C dMM_found_78 ?_
      refine at_iload (j := 2) C dMM_found_81 rfl ?_
      obtain ⟨hg2, h⟩ := gd_some h
      refine ldMM_open (f := c_MM_open) C rfl hg2 dMM_found_83 ?_
      obtain ⟨hg3, h⟩ := gd_some h
      refine svMM_bestRow C hg3 dMM_found_84 ?_
      refine at_st (S1 := (z1, (z21, (z221, ((z22211, ((c_MM_open, c_MM_much), (upd c_MM_bestRow (a4).toNatClampNeg (c_MM_open (a4).toNatClampNeg)))), (((c_MM_bestLong, z2222112), z222212), ((c_MM_best, z2222212), z222222))))))) rfl ?_
      refine at_iinc (j := 2) (L' := [(4, .int (a4 + (1 : Int32))), (0, .ref (ad G 40)), (1, .int a1)]) C dMM_found_85 rfl ci_1 (by decide) rfl ?_
      refine at_goto C dMM_found_88 rfl ?_
      refine at_loc (L' := [(0, .ref (ad G 40)), (1, .int a1), (4, .int (a4 + (1 : Int32)))]) [1, 2, 0] rfl ?_
      exact ih _ _ _ h k0
set_option maxRecDepth 100000 in
set_option maxHeartbeats 4000000 in
theorem cMM_found {l : Launch} {G : GG} (hG : GOK G) {c_MM_open : (Nat → Int32)} {c_MM_much : (Nat → Int64)} {c_MM_bestRow : (Nat → Int32)} {c_MM_bestLong : Int32} {c_MM_best : Int64} {z1 : Z1} {z21 : Z21} {z221 : Z221} {z22211 : Z22211} {z2222112 : Int32} {z222212 : (Nat → Int32)} {z2222212 : (Nat → Int32)} {z222222 : (Nat → Int32)} (a1 : Int32) (R : ((Nat → Int32) × Int32 × Int64)) (h : fMM_found a1 c_MM_open c_MM_much c_MM_bestRow c_MM_bestLong c_MM_best = some R) : Met l yMM_found (.code yMM_found prog_12_method_42_code 5 none :: gw) (rmm 2) (PcW G [.ref (ad G 40), .int a1] (z1, (z21, (z221, ((z22211, ((c_MM_open, c_MM_much), c_MM_bestRow)), (((c_MM_bestLong, z2222112), z222212), ((c_MM_best, z2222212), z222222))))))) (Qw G (none) (z1, (z21, (z221, ((z22211, ((c_MM_open, c_MM_much), R.1)), (((R.2.1, z2222112), z222212), ((R.2.2, z2222212), z222222))))))) 0 0 (Aw G) := by
  refine met_of (by decide) 2 G hG _ _ (Nat.le_of_ble_eq_true rfl) _ _ (fun X _ C => ?_)
  have C : Cx G X RcMM prog_12_method_42_code 5 2 none := C
  unfold fMM_found at h
  show At G X 5 _ 0 [(0, .ref (ad G 40)), (1, .int a1)] [] (z1, (z21, (z221, ((z22211, ((c_MM_open, c_MM_much), c_MM_bestRow)), (((c_MM_bestLong, z2222112), z222212), ((c_MM_best, z2222212), z222222))))))
  refine at_aload_n (j := 0) C dMM_found_0 rfl rfl ?_
  refine gfMM_much C dMM_found_1 ?_
  refine at_iload_n (j := 1) C dMM_found_4 rfl rfl ?_
  refine at_iconst C dMM_found_5 ci_1 ?_
  refine at_isub C dMM_found_6 ?_
  obtain ⟨hg1, h⟩ := gd_some h
  refine ldMM_much (f := c_MM_much) C rfl hg1 dMM_found_7 ?_
  refine at_lstore_n (L' := [(2, .long (c_MM_much ((a1 - (1 : Int32))).toNatClampNeg)), (0, .ref (ad G 40)), (1, .int a1)]) C dMM_found_8 rfl (by decide) rfl ?_
  refine at_lload_n (j := 0) C dMM_found_9 rfl rfl ?_
  refine at_aload_n (j := 1) C dMM_found_10 rfl rfl ?_
  refine gfMM_best (x := c_MM_best) C rfl dMM_found_11 ?_
  refine at_lcmp C dMM_found_14 ?_
  refine at_if_lt C dMM_found_15 rfl (fun hc => ?_) (fun hc => ?_)
  · replace h := ifp hc h
    cases h
    exact at_vret C dMM_found_51
  · replace h := ifn hc h
    refine at_lload_n (j := 0) C dMM_found_18 rfl rfl ?_
    refine at_aload_n (j := 1) C dMM_found_19 rfl rfl ?_
    refine gfMM_best (x := c_MM_best) C rfl dMM_found_20 ?_
    refine at_lcmp C dMM_found_23 ?_
    refine at_if_ne C dMM_found_24 rfl (fun hc => ?_) (fun hc => ?_)
    · replace h := ifn hc h
      refine at_aload_n (j := 1) C dMM_found_52 rfl rfl ?_
      refine at_lload_n (j := 0) C dMM_found_53 rfl rfl ?_
      refine pfMM_best C dMM_found_54 ?_
      refine at_st (S1 := (z1, (z21, (z221, ((z22211, ((c_MM_open, c_MM_much), c_MM_bestRow)), (((c_MM_bestLong, z2222112), z222212), (((c_MM_much ((a1 - (1 : Int32))).toNatClampNeg), z2222212), z222222))))))) rfl ?_
      refine at_aload_n (j := 1) C dMM_found_57 rfl rfl ?_
      refine at_iload_n (j := 2) C dMM_found_58 rfl rfl ?_
      refine pfMM_bestLong C dMM_found_59 ?_
      refine at_st (S1 := (z1, (z21, (z221, ((z22211, ((c_MM_open, c_MM_much), c_MM_bestRow)), (((a1, z2222112), z222212), (((c_MM_much ((a1 - (1 : Int32))).toNatClampNeg), z2222212), z222222))))))) rfl ?_
      refine at_iconst C dMM_found_62 ci_0 ?_
      refine at_istore (L' := [(4, .int (0 : Int32)), (2, .long (c_MM_much ((a1 - (1 : Int32))).toNatClampNeg)), (0, .ref (ad G 40)), (1, .int a1)]) C dMM_found_63 (by decide) rfl ?_
      obtain ⟨e4, he4, h⟩ := ob_some h
      refine at_loc (L' := [(0, .ref (ad G 40)), (1, .int a1), (4, .int (0 : Int32))]) [2, 3, 0] rfl ?_
      refine wMM_found_l65 C _ FU _ _ _ he4 ?_
      cases h
      exact at_vret C dMM_found_91
    · replace h := ifp hc h
      refine at_iload_n (j := 2) C dMM_found_27 rfl rfl ?_
      refine at_aload_n (j := 1) C dMM_found_28 rfl rfl ?_
      refine gfMM_bestLong (x := c_MM_bestLong) C rfl dMM_found_29 ?_
      refine at_icmp_gt C dMM_found_32 rfl (fun hc => ?_) (fun hc => ?_)
      · replace h := ifp hc h
        cases h
        exact at_vret C dMM_found_51
      · replace h := ifn hc h
        refine at_iload_n (j := 2) C dMM_found_35 rfl rfl ?_
        refine at_aload_n (j := 1) C dMM_found_36 rfl rfl ?_
        refine gfMM_bestLong (x := c_MM_bestLong) C rfl dMM_found_37 ?_
        refine at_icmp_ne C dMM_found_40 rfl (fun hc => ?_) (fun hc => ?_)
        · replace h := ifn hc h
          refine at_aload_n (j := 1) C dMM_found_52 rfl rfl ?_
          refine at_lload_n (j := 0) C dMM_found_53 rfl rfl ?_
          refine pfMM_best C dMM_found_54 ?_
          refine at_st (S1 := (z1, (z21, (z221, ((z22211, ((c_MM_open, c_MM_much), c_MM_bestRow)), (((c_MM_bestLong, z2222112), z222212), (((c_MM_much ((a1 - (1 : Int32))).toNatClampNeg), z2222212), z222222))))))) rfl ?_
          refine at_aload_n (j := 1) C dMM_found_57 rfl rfl ?_
          refine at_iload_n (j := 2) C dMM_found_58 rfl rfl ?_
          refine pfMM_bestLong C dMM_found_59 ?_
          refine at_st (S1 := (z1, (z21, (z221, ((z22211, ((c_MM_open, c_MM_much), c_MM_bestRow)), (((a1, z2222112), z222212), (((c_MM_much ((a1 - (1 : Int32))).toNatClampNeg), z2222212), z222222))))))) rfl ?_
          refine at_iconst C dMM_found_62 ci_0 ?_
          refine at_istore (L' := [(4, .int (0 : Int32)), (2, .long (c_MM_much ((a1 - (1 : Int32))).toNatClampNeg)), (0, .ref (ad G 40)), (1, .int a1)]) C dMM_found_63 (by decide) rfl ?_
          obtain ⟨e5, he5, h⟩ := ob_some h
          refine at_loc (L' := [(0, .ref (ad G 40)), (1, .int a1), (4, .int (0 : Int32))]) [2, 3, 0] rfl ?_
          refine wMM_found_l65 C _ FU _ _ _ he5 ?_
          cases h
          exact at_vret C dMM_found_91
        · replace h := ifp hc h
          refine at_aload_n (j := 1) C dMM_found_43 rfl rfl ?_
          refine at_iload_n (j := 2) C dMM_found_44 rfl rfl ?_
          obtain ⟨e6, he6, h⟩ := ob_some h
          refine at_callVi C kMM_232 (cMM_isAhead C.2.2.2.2.2.2.1 _ _ he6) (by omega) rfl rfl rfl rfl (Nat.le_of_ble_eq_true rfl) dMM_found_45 ?_
          refine at_if_ne C dMM_found_48 rfl (fun hc => ?_) (fun hc => ?_)
          · replace h := ifn hc h
            refine at_aload_n (j := 1) C dMM_found_52 rfl rfl ?_
            refine at_lload_n (j := 0) C dMM_found_53 rfl rfl ?_
            refine pfMM_best C dMM_found_54 ?_
            refine at_st (S1 := (z1, (z21, (z221, ((z22211, ((c_MM_open, c_MM_much), c_MM_bestRow)), (((c_MM_bestLong, z2222112), z222212), (((c_MM_much ((a1 - (1 : Int32))).toNatClampNeg), z2222212), z222222))))))) rfl ?_
            refine at_aload_n (j := 1) C dMM_found_57 rfl rfl ?_
            refine at_iload_n (j := 2) C dMM_found_58 rfl rfl ?_
            refine pfMM_bestLong C dMM_found_59 ?_
            refine at_st (S1 := (z1, (z21, (z221, ((z22211, ((c_MM_open, c_MM_much), c_MM_bestRow)), (((a1, z2222112), z222212), (((c_MM_much ((a1 - (1 : Int32))).toNatClampNeg), z2222212), z222222))))))) rfl ?_
            refine at_iconst C dMM_found_62 ci_0 ?_
            refine at_istore (L' := [(4, .int (0 : Int32)), (2, .long (c_MM_much ((a1 - (1 : Int32))).toNatClampNeg)), (0, .ref (ad G 40)), (1, .int a1)]) C dMM_found_63 (by decide) rfl ?_
            obtain ⟨e7, he7, h⟩ := ob_some h
            refine at_loc (L' := [(0, .ref (ad G 40)), (1, .int a1), (4, .int (0 : Int32))]) [2, 3, 0] rfl ?_
            refine wMM_found_l65 C _ FU _ _ _ he7 ?_
            cases h
            exact at_vret C dMM_found_91
          · replace h := ifp hc h
            cases h
            exact at_vret C dMM_found_51
set_option maxRecDepth 100000 in
set_option maxHeartbeats 4000000 in
theorem wMM_wasThrough_l10 {G : GG} {X : CX} {c_MM_to : (Nat → Int32)} {c_MM_open : (Nat → Int32)} {z1 : Z1} {z21 : Z21} {z221 : Z221} {z2221111 : (Nat → Int32)} {z222112 : (Nat → Int32)} {z2221212 : (Nat → Int64)} {z222122 : (Nat → Int32)} {z2222 : Z2222} (C : Cx G X RcMM prog_12_method_43_code 5 1 (some .boolean)) {Q : State → Prop}  (a1 : Int32) (a3 : Int32) : ∀ (n : Nat) (a4 : Int32) (E : Unit ⊕ Unit) (h : fMM_wasThrough_l10 a1 a3 c_MM_to c_MM_open n a4 = some E) (k0 : ∀ e, E = (Sum.inl e) → At G X 5 Q 32 [] [] (z1, (z21, (z221, ((((z2221111, c_MM_to), z222112), ((c_MM_open, z2221212), z222122)), z2222))))) (k1 : ∀ e, E = (Sum.inr e) → At G X 5 Q 40 [] [] (z1, (z21, (z221, ((((z2221111, c_MM_to), z222112), ((c_MM_open, z2221212), z222122)), z2222))))), At G X 5 Q 10 [(0, .ref (ad G 40)), (1, .int a1), (3, .int a3), (4, .int a4)] [] (z1, (z21, (z221, ((((z2221111, c_MM_to), z222112), ((c_MM_open, z2221212), z222122)), z2222)))) := by
  intro n
  induction n with
  | zero =>
    intro a4 E h k0 k1
    rw [fMM_wasThrough_l10.eq_1] at h
    cases h
  | succ n ih =>
    intro a4 E h k0 k1
    rw [fMM_wasThrough_l10.eq_2] at h
    refine at_iload (j := 3) C dMM_wasThrough_10 rfl ?_
    refine at_iload_n (j := 2) C dMM_wasThrough_12 rfl rfl ?_
    refine at_icmp_ge C dMM_wasThrough_13 rfl (fun hc => ?_) (fun hc => ?_)
    · replace h := ifp hc h
      cases h
      refine at_loc (L' := []) [] rfl ?_
      exact k1 _ rfl
    · replace h := ifn hc h
      refine at_aload_n (j := 0) C dMM_wasThrough_16 rfl rfl ?_
      refine gfMM_to C dMM_wasThrough_17 ?_
      refine at_aload_n (j := 0) C dMM_wasThrough_20 rfl rfl ?_
      refine gfMM_open C dMM_wasThrough_21 ?_
      refine at_iload (j := 3) C dMM_wasThrough_24 rfl ?_
      obtain ⟨hg1, h⟩ := gd_some h
      refine ldMM_open (f := c_MM_open) C rfl hg1 dMM_wasThrough_26 ?_
      obtain ⟨hg2, h⟩ := gd_some h
      refine ldMM_to (f := c_MM_to) C rfl hg2 dMM_wasThrough_27 ?_
      refine at_iload_n (j := 1) C dMM_wasThrough_28 rfl rfl ?_
      refine at_icmp_ne C dMM_wasThrough_29 rfl (fun hc => ?_) (fun hc => ?_)
      · replace h := ifn hc h
        refine at_iinc (j := 3) (L' := [(4, .int (a4 + (1 : Int32))), (0, .ref (ad G 40)), (1, .int a1), (3, .int a3)]) C dMM_wasThrough_34 rfl ci_1 (by decide) rfl ?_
        refine at_goto C dMM_wasThrough_37 rfl ?_
        refine at_loc (L' := [(0, .ref (ad G 40)), (1, .int a1), (3, .int a3), (4, .int (a4 + (1 : Int32)))]) [1, 2, 3, 0] rfl ?_
        exact ih _ _ h k0 k1
      · replace h := ifp hc h
        cases h
        refine at_loc (L' := []) [] rfl ?_
        exact k0 _ rfl
set_option maxRecDepth 100000 in
set_option maxHeartbeats 4000000 in
theorem cMM_wasThrough {l : Launch} {G : GG} (hG : GOK G) {c_MM_to : (Nat → Int32)} {c_MM_open : (Nat → Int32)} {z1 : Z1} {z21 : Z21} {z221 : Z221} {z2221111 : (Nat → Int32)} {z222112 : (Nat → Int32)} {z2221212 : (Nat → Int64)} {z222122 : (Nat → Int32)} {z2222 : Z2222} (a1 : Int32) (a2 : Int32) (a3 : Int32) (R : Int32) (h : fMM_wasThrough a1 a2 a3 c_MM_to c_MM_open = some R) : Met l yMM_wasThrough (.code yMM_wasThrough prog_12_method_43_code 5 (some .boolean) :: gw) (rmm 1) (PcW G [.ref (ad G 40), .int a1, .int a2, .int a3] (z1, (z21, (z221, ((((z2221111, c_MM_to), z222112), ((c_MM_open, z2221212), z222122)), z2222))))) (Qw G (some (.int R)) (z1, (z21, (z221, ((((z2221111, c_MM_to), z222112), ((c_MM_open, z2221212), z222122)), z2222))))) 0 0 (Aw G) := by
  refine met_of (by decide) 1 G hG _ _ (Nat.le_of_ble_eq_true rfl) _ _ (fun X _ C => ?_)
  have C : Cx G X RcMM prog_12_method_43_code 5 1 (some .boolean) := C
  unfold fMM_wasThrough at h
  show At G X 5 _ 0 [(0, .ref (ad G 40)), (1, .int a1), (2, .int a2), (3, .int a3)] [] (z1, (z21, (z221, ((((z2221111, c_MM_to), z222112), ((c_MM_open, z2221212), z222122)), z2222))))
  refine at_iload_n (j := 1) C dMM_wasThrough_0 rfl rfl ?_
  refine at_iload_n (j := 2) C dMM_wasThrough_1 rfl rfl ?_
  refine at_icmp_ne C dMM_wasThrough_2 rfl (fun hc => ?_) (fun hc => ?_)
  · replace h := ifn hc h
    refine at_iconst C dMM_wasThrough_7 ci_0 ?_
    refine at_istore (L' := [(4, .int (0 : Int32)), (0, .ref (ad G 40)), (1, .int a1), (2, .int a2), (3, .int a3)]) C dMM_wasThrough_8 (by decide) rfl ?_
    obtain ⟨e3, he3, h⟩ := ob_some h
    refine at_loc (L' := [(0, .ref (ad G 40)), (1, .int a1), (3, .int a3), (4, .int (0 : Int32))]) [1, 2, 4, 0] rfl ?_
    rcases e3 with e4 | e5
    · simp only [Sum.elim_inl, Sum.elim_inr] at h
      refine wMM_wasThrough_l10 C _ _ FU _ _ he3 (fun e he => ?_) (fun e he => by cases he)
      cases he
      refine at_iconst C dMM_wasThrough_32 ci_1 ?_
      cases h
      exact at_zret (x := (1 : Int32)) C zn_1 dMM_wasThrough_33
    · simp only [Sum.elim_inl, Sum.elim_inr] at h
      refine wMM_wasThrough_l10 C _ _ FU _ _ he3 (fun e he => by cases he) (fun e he => ?_)
      cases he
      refine at_iconst C dMM_wasThrough_40 ci_0 ?_
      cases h
      exact at_zret (x := (0 : Int32)) C zn_0 dMM_wasThrough_41
  · replace h := ifp hc h
    refine at_iconst C dMM_wasThrough_5 ci_1 ?_
    cases h
    exact at_zret (x := (1 : Int32)) C zn_1 dMM_wasThrough_6
set_option maxRecDepth 100000 in
set_option maxHeartbeats 4000000 in
theorem wMM_search_l58 {G : GG} {X : CX} {c_MM_markets : Int32} {c_MM_from : (Nat → Int32)} {c_MM_gives : (Nat → Int32)} {c_MM_to : (Nat → Int32)} {c_MM_gets : (Nat → Int32)} {c_MM_open : (Nat → Int32)} {c_MM_much : (Nat → Int64)} {c_MM_bestRow : (Nat → Int32)} {c_MM_bestLong : Int32} {c_MM_best : Int64} {z1 : Z1} {z21 : Z21} {z2211 : Z2211} {z22121 : Z22121} {z2212211 : Int32} {z2222112 : Int32} {z222212 : (Nat → Int32)} {z2222212 : (Nat → Int32)} {z222222 : (Nat → Int32)} (C : Cx G X RcMM prog_12_method_44_code 7 3 none) {Q : State → Prop}  (a1 : Int32) (a2 : Int32) (a3 : Int32) (a4 : Int32) (a6 : Int32) : ∀ (n : Nat) (a5 : Int32) (E : Int32) (h : fMM_search_l58 a1 a2 a3 a4 a6 c_MM_markets c_MM_from c_MM_to c_MM_open n a5 = some E) (k0 : At G X 7 Q 102 [(0, .ref (ad G 40)), (1, .int a1), (2, .int a2), (3, .int a3), (4, .int a4), (5, .int E)] [] (z1, (z21, ((z2211, (z22121, ((z2212211, c_MM_markets), c_MM_from))), ((((c_MM_gives, c_MM_to), c_MM_gets), ((c_MM_open, c_MM_much), c_MM_bestRow)), (((c_MM_bestLong, z2222112), z222212), ((c_MM_best, z2222212), z222222))))))), At G X 7 Q 58 [(0, .ref (ad G 40)), (1, .int a1), (2, .int a2), (3, .int a3), (4, .int a4), (5, .int a5), (6, .int a6)] [] (z1, (z21, ((z2211, (z22121, ((z2212211, c_MM_markets), c_MM_from))), ((((c_MM_gives, c_MM_to), c_MM_gets), ((c_MM_open, c_MM_much), c_MM_bestRow)), (((c_MM_bestLong, z2222112), z222212), ((c_MM_best, z2222212), z222222)))))) := by
  intro n
  induction n with
  | zero =>
    intro a5 E h k0
    rw [fMM_search_l58.eq_1] at h
    cases h
  | succ n ih =>
    intro a5 E h k0
    rw [fMM_search_l58.eq_2] at h
    refine at_iload (j := 5) C dMM_search_58 rfl ?_
    refine at_aload_n (j := 0) C dMM_search_60 rfl rfl ?_
    refine gfMM_markets (x := c_MM_markets) C rfl dMM_search_61 ?_
    refine at_icmp_ge C dMM_search_64 rfl (fun hc => ?_) (fun hc => ?_)
    · replace h := ifp hc h
      cases h
      refine at_loc (L' := [(0, .ref (ad G 40)), (1, .int a1), (2, .int a2), (3, .int a3), (4, .int a4), (5, .int a5)]) [0, 1, 2, 3, 4, 5] rfl ?_
      exact k0
    · replace h := ifn hc h
      refine at_aload_n (j := 0) C dMM_search_67 rfl rfl ?_
      refine gfMM_from C dMM_search_68 ?_
      refine at_iload (j := 5) C dMM_search_71 rfl ?_
      obtain ⟨hg4, h⟩ := gd_some h
      refine ldMM_from (f := c_MM_from) C rfl hg4 dMM_search_73 ?_
      refine at_iload (j := 6) C dMM_search_74 rfl ?_
      refine at_icmp_ne C dMM_search_76 rfl (fun hc => ?_) (fun hc => ?_)
      · replace h := ifn hc h
        refine at_iinc (j := 5) (L' := [(5, .int (a5 + (1 : Int32))), (0, .ref (ad G 40)), (1, .int a1), (2, .int a2), (3, .int a3), (4, .int a4), (6, .int a6)]) C dMM_search_96 rfl ci_1 (by decide) rfl ?_
        refine at_goto C dMM_search_99 rfl ?_
        refine at_loc (L' := [(0, .ref (ad G 40)), (1, .int a1), (2, .int a2), (3, .int a3), (4, .int a4), (5, .int (a5 + (1 : Int32))), (6, .int a6)]) [1, 2, 3, 4, 5, 0, 6] rfl ?_
        exact ih _ _ h k0
      · replace h := ifp hc h
        refine at_aload_n (j := 0) C dMM_search_79 rfl rfl ?_
        refine at_aload_n (j := 0) C dMM_search_80 rfl rfl ?_
        refine gfMM_to C dMM_search_81 ?_
        refine at_iload (j := 5) C dMM_search_84 rfl ?_
        obtain ⟨hg5, h⟩ := gd_some h
        refine ldMM_to (f := c_MM_to) C rfl hg5 dMM_search_86 ?_
        refine at_iload_n (j := 1) C dMM_search_87 rfl rfl ?_
        refine at_iload (j := 4) C dMM_search_88 rfl ?_
        obtain ⟨e6, he6, h⟩ := ob_some h
        refine at_callVi C kMM_235 (cMM_wasThrough C.2.2.2.2.2.2.1 _ _ _ _ he6) (by omega) rfl rfl rfl rfl (Nat.le_of_ble_eq_true rfl) dMM_search_90 ?_
        refine at_if_eq C dMM_search_93 rfl (fun hc => ?_) (fun hc => ?_)
        · replace h := ifp hc h
          cases h
          refine at_loc (L' := [(0, .ref (ad G 40)), (1, .int a1), (2, .int a2), (3, .int a3), (4, .int a4), (5, .int a5)]) [0, 1, 2, 3, 4, 5] rfl ?_
          exact k0
        · replace h := ifn hc h
          refine at_iinc (j := 5) (L' := [(5, .int (a5 + (1 : Int32))), (0, .ref (ad G 40)), (1, .int a1), (2, .int a2), (3, .int a3), (4, .int a4), (6, .int a6)]) C dMM_search_96 rfl ci_1 (by decide) rfl ?_
          refine at_goto C dMM_search_99 rfl ?_
          refine at_loc (L' := [(0, .ref (ad G 40)), (1, .int a1), (2, .int a2), (3, .int a3), (4, .int a4), (5, .int (a5 + (1 : Int32))), (6, .int a6)]) [1, 2, 3, 4, 5, 0, 6] rfl ?_
          exact ih _ _ h k0
set_option maxRecDepth 100000 in
set_option maxHeartbeats 4000000 in
theorem wMM_search_l17 {G : GG} {X : CX} {c_MM_markets : Int32} {c_MM_from : (Nat → Int32)} {c_MM_gives : (Nat → Int32)} {c_MM_to : (Nat → Int32)} {c_MM_gets : (Nat → Int32)} {z1 : Z1} {z21 : Z21} {z2211 : Z2211} {z22121 : Z22121} {z2212211 : Int32} {z2222112 : Int32} {z222212 : (Nat → Int32)} {z2222212 : (Nat → Int32)} {z222222 : (Nat → Int32)} (C : Cx G X RcMM prog_12_method_44_code 7 3 none) {Q : State → Prop}  (a1 : Int32) (a2 : Int32) (a3 : Int32) : ∀ (n : Nat) (a4 : Int32) (c_MM_open : (Nat → Int32)) (c_MM_much : (Nat → Int64)) (c_MM_bestRow : (Nat → Int32)) (c_MM_bestLong : Int32) (c_MM_best : Int64) (E : ((Nat → Int32) × (Nat → Int64) × (Nat → Int32) × Int32 × Int64)) (h : fMM_search_l17 a1 a2 a3 c_MM_markets c_MM_from c_MM_gives c_MM_to c_MM_gets n a4 c_MM_open c_MM_much c_MM_bestRow c_MM_bestLong c_MM_best = some E) (k0 : At G X 7 Q 206 [] [] (z1, (z21, ((z2211, (z22121, ((z2212211, c_MM_markets), c_MM_from))), ((((c_MM_gives, c_MM_to), c_MM_gets), ((E.1, E.2.1), E.2.2.1)), (((E.2.2.2.1, z2222112), z222212), ((E.2.2.2.2, z2222212), z222222))))))), At G X 7 Q 17 [(0, .ref (ad G 40)), (1, .int a1), (2, .int a2), (3, .int a3), (4, .int a4)] [] (z1, (z21, ((z2211, (z22121, ((z2212211, c_MM_markets), c_MM_from))), ((((c_MM_gives, c_MM_to), c_MM_gets), ((c_MM_open, c_MM_much), c_MM_bestRow)), (((c_MM_bestLong, z2222112), z222212), ((c_MM_best, z2222212), z222222)))))) := by
  intro n
  induction n with
  | zero =>
    intro a4 c_MM_open c_MM_much c_MM_bestRow c_MM_bestLong c_MM_best E h k0
    rw [fMM_search_l17.eq_1] at h
    cases h
  | succ n ih =>
    intro a4 c_MM_open c_MM_much c_MM_bestRow c_MM_bestLong c_MM_best E h k0
    rw [fMM_search_l17.eq_2] at h
    refine at_iload (j := 4) C dMM_search_17 rfl ?_
    refine at_if_lt C dMM_search_19 rfl (fun hc => ?_) (fun hc => ?_)
    · replace h := ifp hc h
      cases h
      refine at_loc (L' := []) [] rfl ?_
      exact k0
    · replace h := ifn hc h
      refine at_aload_n (j := 0) C dMM_search_22 rfl rfl ?_
      refine gfMM_open C dMM_search_23 ?_
      refine at_iload (j := 4) C dMM_search_26 rfl ?_
      obtain ⟨hg1, h⟩ := gd_some h
      refine ldMM_open (f := c_MM_open) C rfl hg1 dMM_search_28 ?_
      refine at_iconst C dMM_search_29 ci_1 ?_
      refine at_iadd C dMM_search_30 ?_
      refine at_istore (L' := [(5, .int ((c_MM_open (a4).toNatClampNeg) + (1 : Int32))), (0, .ref (ad G 40)), (1, .int a1), (2, .int a2), (3, .int a3), (4, .int a4)]) C dMM_search_31 (by decide) rfl ?_
      refine at_iload (j := 5) C dMM_search_33 rfl ?_
      refine at_if_ne C dMM_search_35 rfl (fun hc => ?_) (fun hc => ?_)
      · replace h := ifn hc h
        refine at_aload_n (j := 1) C dMM_search_42 rfl rfl ?_
        refine gfMM_to C dMM_search_43 ?_
        refine at_aload_n (j := 1) C dMM_search_46 rfl rfl ?_
        refine gfMM_open C dMM_search_47 ?_
        refine at_iload (j := 5) C dMM_search_50 rfl ?_
        refine at_iconst C dMM_search_52 ci_1 ?_
        refine at_isub C dMM_search_53 ?_
        obtain ⟨hg2, h⟩ := gd_some h
        refine ldMM_open (f := c_MM_open) C rfl hg2 dMM_search_54 ?_
        obtain ⟨hg3, h⟩ := gd_some h
        refine ldMM_to (f := c_MM_to) C rfl hg3 dMM_search_55 ?_
        refine at_istore (L' := [(6, .int (c_MM_to ((c_MM_open ((a4 - (1 : Int32))).toNatClampNeg)).toNatClampNeg)), (5, .int ((c_MM_open (a4).toNatClampNeg) + (1 : Int32))), (0, .ref (ad G 40)), (1, .int a1), (2, .int a2), (3, .int a3), (4, .int a4)]) C dMM_search_56 (by decide) rfl ?_
        obtain ⟨e7, he7, h⟩ := ob_some h
        refine at_loc (L' := [(0, .ref (ad G 40)), (1, .int a1), (2, .int a2), (3, .int a3), (4, .int a4), (5, .int ((c_MM_open (a4).toNatClampNeg) + (1 : Int32))), (6, .int (c_MM_to ((c_MM_open ((a4 - (1 : Int32))).toNatClampNeg)).toNatClampNeg))]) [2, 3, 4, 5, 6, 1, 0] rfl ?_
        refine wMM_search_l58 C _ _ _ _ _ FU _ _ he7 ?_
        refine at_iload (j := 5) C dMM_search_102 rfl ?_
        refine at_aload_n (j := 0) C dMM_search_104 rfl rfl ?_
        refine gfMM_markets (x := c_MM_markets) C rfl dMM_search_105 ?_
        refine at_icmp_ne C dMM_search_108 rfl (fun hc => ?_) (fun hc => ?_)
        · replace h := ifn hc h
          refine at_aload_n (j := 0) C dMM_search_117 rfl rfl ?_
          refine gfMM_open C dMM_search_118 ?_
          refine at_iload (j := 4) C dMM_search_121 rfl ?_
          refine at_iload (j := 5) C dMM_search_123 rfl ?_
          obtain ⟨hg8, h⟩ := gd_some h
          refine svMM_open C hg8 dMM_search_125 ?_
          refine at_st (S1 := (z1, (z21, ((z2211, (z22121, ((z2212211, c_MM_markets), c_MM_from))), ((((c_MM_gives, c_MM_to), c_MM_gets), (((upd c_MM_open (a4).toNatClampNeg e7), c_MM_much), c_MM_bestRow)), (((c_MM_bestLong, z2222112), z222212), ((c_MM_best, z2222212), z222222))))))) rfl ?_
          refine at_aload_n (j := 0) C dMM_search_126 rfl rfl ?_
          refine gfMM_much C dMM_search_127 ?_
          refine at_iload (j := 4) C dMM_search_130 rfl ?_
          refine at_iload (j := 4) C dMM_search_132 rfl ?_
          refine at_if_ne C dMM_search_134 rfl (fun hc => ?_) (fun hc => ?_)
          · replace h := ifn hc h
            refine at_aload_n (j := 0) C dMM_search_142 rfl rfl ?_
            refine gfMM_much C dMM_search_143 ?_
            refine at_iload (j := 4) C dMM_search_146 rfl ?_
            refine at_iconst C dMM_search_148 ci_1 ?_
            refine at_isub C dMM_search_149 ?_
            obtain ⟨hg9, h⟩ := gd_some h
            refine ldMM_much (f := c_MM_much) C rfl hg9 dMM_search_150 ?_
            refine at_aload_n (j := 0) C dMM_search_151 rfl rfl ?_
            refine gfMM_gives C dMM_search_152 ?_
            refine at_iload (j := 5) C dMM_search_155 rfl ?_
            obtain ⟨hg10, h⟩ := gd_some h
            refine ldMM_gives (f := c_MM_gives) C rfl hg10 dMM_search_157 ?_
            refine at_i2l C dMM_search_158 ?_
            obtain ⟨hg11, h⟩ := gd_some h
            refine at_ldiv C dMM_search_159 hg11 ?_
            refine at_aload_n (j := 0) C dMM_search_160 rfl rfl ?_
            refine gfMM_gets C dMM_search_161 ?_
            refine at_iload (j := 5) C dMM_search_164 rfl ?_
            obtain ⟨hg12, h⟩ := gd_some h
            refine ldMM_gets (f := c_MM_gets) C rfl hg12 dMM_search_166 ?_
            refine at_i2l C dMM_search_167 ?_
            refine at_lmul C dMM_search_168 ?_
            obtain ⟨hg13, h⟩ := gd_some h
            refine svMM_much C hg13 dMM_search_169 ?_
            refine at_st (S1 := (z1, (z21, ((z2211, (z22121, ((z2212211, c_MM_markets), c_MM_from))), ((((c_MM_gives, c_MM_to), c_MM_gets), (((upd c_MM_open (a4).toNatClampNeg e7), (vp_updL c_MM_much (a4).toNatClampNeg (((c_MM_much ((a4 - (1 : Int32))).toNatClampNeg) / ((c_MM_gives (e7).toNatClampNeg)).toInt64) * ((c_MM_gets (e7).toNatClampNeg)).toInt64))), c_MM_bestRow)), (((c_MM_bestLong, z2222112), z222212), ((c_MM_best, z2222212), z222222))))))) rfl ?_
            refine at_aload_n (j := 0) C dMM_search_170 rfl rfl ?_
            refine gfMM_to C dMM_search_171 ?_
            refine at_iload (j := 5) C dMM_search_174 rfl ?_
            obtain ⟨hg14, h⟩ := gd_some h
            refine ldMM_to (f := c_MM_to) C rfl hg14 dMM_search_176 ?_
            refine at_iload_n (j := 3) C dMM_search_177 rfl rfl ?_
            refine at_icmp_ne C dMM_search_178 rfl (fun hc => ?_) (fun hc => ?_)
            · replace h := ifn hc h
              refine at_iinc (j := 4) (L' := [(4, .int (a4 + (1 : Int32))), (0, .ref (ad G 40)), (1, .int a1), (2, .int a2), (3, .int a3), (5, .int e7)]) C dMM_search_192 rfl ci_1 (by decide) rfl ?_
              refine at_aload_n (j := 1) C dMM_search_195 rfl rfl ?_
              refine gfMM_open C dMM_search_196 ?_
              refine at_iload (j := 0) C dMM_search_199 rfl ?_
              refine at_iconst C dMM_search_201 ci_m1 ?_
              obtain ⟨hg15, h⟩ := gd_some h
              refine svMM_open C hg15 dMM_search_202 ?_
              refine at_st (S1 := (z1, (z21, ((z2211, (z22121, ((z2212211, c_MM_markets), c_MM_from))), ((((c_MM_gives, c_MM_to), c_MM_gets), (((upd (upd c_MM_open (a4).toNatClampNeg e7) ((a4 + (1 : Int32))).toNatClampNeg (-1 : Int32)), (vp_updL c_MM_much (a4).toNatClampNeg (((c_MM_much ((a4 - (1 : Int32))).toNatClampNeg) / ((c_MM_gives (e7).toNatClampNeg)).toInt64) * ((c_MM_gets (e7).toNatClampNeg)).toInt64))), c_MM_bestRow)), (((c_MM_bestLong, z2222112), z222212), ((c_MM_best, z2222212), z222222))))))) rfl ?_
              refine at_goto C dMM_search_203 rfl ?_
              refine at_loc (L' := [(0, .ref (ad G 40)), (1, .int a1), (2, .int a2), (3, .int a3), (4, .int (a4 + (1 : Int32)))]) [1, 2, 3, 4, 0] rfl ?_
              exact ih _ _ _ _ _ _ _ h k0
            · replace h := ifp hc h
              refine at_aload_n (j := 0) C dMM_search_181 rfl rfl ?_
              refine at_iload (j := 4) C dMM_search_182 rfl ?_
              refine at_iconst C dMM_search_184 ci_1 ?_
              refine at_iadd C dMM_search_185 ?_
              obtain ⟨e16, he16, h⟩ := ob_some h
              refine at_callVv C kMM_238 (cMM_found C.2.2.2.2.2.2.1 _ _ he16) (by omega) rfl rfl rfl rfl (Nat.le_of_ble_eq_true rfl) dMM_search_186 ?_
              refine at_goto C dMM_search_189 rfl ?_
              refine at_goto C dMM_search_203 rfl ?_
              refine at_loc (L' := [(0, .ref (ad G 40)), (1, .int a1), (2, .int a2), (3, .int a3), (4, .int a4)]) [0, 1, 2, 3, 4] rfl ?_
              exact ih _ _ _ _ _ _ _ h k0
          · replace h := ifp hc h
            refine at_iload_n (j := 2) C dMM_search_137 rfl rfl ?_
            refine at_i2l C dMM_search_138 ?_
            refine at_goto C dMM_search_139 rfl ?_
            refine at_aload_n (j := 0) C dMM_search_151 rfl rfl ?_
            refine gfMM_gives C dMM_search_152 ?_
            refine at_iload (j := 5) C dMM_search_155 rfl ?_
            obtain ⟨hg17, h⟩ := gd_some h
            refine ldMM_gives (f := c_MM_gives) C rfl hg17 dMM_search_157 ?_
            refine at_i2l C dMM_search_158 ?_
            obtain ⟨hg18, h⟩ := gd_some h
            refine at_ldiv C dMM_search_159 hg18 ?_
            refine at_aload_n (j := 0) C dMM_search_160 rfl rfl ?_
            refine gfMM_gets C dMM_search_161 ?_
            refine at_iload (j := 5) C dMM_search_164 rfl ?_
            obtain ⟨hg19, h⟩ := gd_some h
            refine ldMM_gets (f := c_MM_gets) C rfl hg19 dMM_search_166 ?_
            refine at_i2l C dMM_search_167 ?_
            refine at_lmul C dMM_search_168 ?_
            obtain ⟨hg20, h⟩ := gd_some h
            refine svMM_much C hg20 dMM_search_169 ?_
            refine at_st (S1 := (z1, (z21, ((z2211, (z22121, ((z2212211, c_MM_markets), c_MM_from))), ((((c_MM_gives, c_MM_to), c_MM_gets), (((upd c_MM_open (a4).toNatClampNeg e7), (vp_updL c_MM_much (a4).toNatClampNeg (((a2).toInt64 / ((c_MM_gives (e7).toNatClampNeg)).toInt64) * ((c_MM_gets (e7).toNatClampNeg)).toInt64))), c_MM_bestRow)), (((c_MM_bestLong, z2222112), z222212), ((c_MM_best, z2222212), z222222))))))) rfl ?_
            refine at_aload_n (j := 0) C dMM_search_170 rfl rfl ?_
            refine gfMM_to C dMM_search_171 ?_
            refine at_iload (j := 5) C dMM_search_174 rfl ?_
            obtain ⟨hg21, h⟩ := gd_some h
            refine ldMM_to (f := c_MM_to) C rfl hg21 dMM_search_176 ?_
            refine at_iload_n (j := 3) C dMM_search_177 rfl rfl ?_
            refine at_icmp_ne C dMM_search_178 rfl (fun hc => ?_) (fun hc => ?_)
            · replace h := ifn hc h
              refine at_iinc (j := 4) (L' := [(4, .int (a4 + (1 : Int32))), (0, .ref (ad G 40)), (1, .int a1), (2, .int a2), (3, .int a3), (5, .int e7)]) C dMM_search_192 rfl ci_1 (by decide) rfl ?_
              refine at_aload_n (j := 1) C dMM_search_195 rfl rfl ?_
              refine gfMM_open C dMM_search_196 ?_
              refine at_iload (j := 0) C dMM_search_199 rfl ?_
              refine at_iconst C dMM_search_201 ci_m1 ?_
              obtain ⟨hg22, h⟩ := gd_some h
              refine svMM_open C hg22 dMM_search_202 ?_
              refine at_st (S1 := (z1, (z21, ((z2211, (z22121, ((z2212211, c_MM_markets), c_MM_from))), ((((c_MM_gives, c_MM_to), c_MM_gets), (((upd (upd c_MM_open (a4).toNatClampNeg e7) ((a4 + (1 : Int32))).toNatClampNeg (-1 : Int32)), (vp_updL c_MM_much (a4).toNatClampNeg (((a2).toInt64 / ((c_MM_gives (e7).toNatClampNeg)).toInt64) * ((c_MM_gets (e7).toNatClampNeg)).toInt64))), c_MM_bestRow)), (((c_MM_bestLong, z2222112), z222212), ((c_MM_best, z2222212), z222222))))))) rfl ?_
              refine at_goto C dMM_search_203 rfl ?_
              refine at_loc (L' := [(0, .ref (ad G 40)), (1, .int a1), (2, .int a2), (3, .int a3), (4, .int (a4 + (1 : Int32)))]) [1, 2, 3, 4, 0] rfl ?_
              exact ih _ _ _ _ _ _ _ h k0
            · replace h := ifp hc h
              refine at_aload_n (j := 0) C dMM_search_181 rfl rfl ?_
              refine at_iload (j := 4) C dMM_search_182 rfl ?_
              refine at_iconst C dMM_search_184 ci_1 ?_
              refine at_iadd C dMM_search_185 ?_
              obtain ⟨e23, he23, h⟩ := ob_some h
              refine at_callVv C kMM_238 (cMM_found C.2.2.2.2.2.2.1 _ _ he23) (by omega) rfl rfl rfl rfl (Nat.le_of_ble_eq_true rfl) dMM_search_186 ?_
              refine at_goto C dMM_search_189 rfl ?_
              refine at_goto C dMM_search_203 rfl ?_
              refine at_loc (L' := [(0, .ref (ad G 40)), (1, .int a1), (2, .int a2), (3, .int a3), (4, .int a4)]) [0, 1, 2, 3, 4] rfl ?_
              exact ih _ _ _ _ _ _ _ h k0
        · replace h := ifp hc h
          refine at_iinc (j := 4) (L' := [(4, .int (a4 + (-1 : Int32))), (0, .ref (ad G 40)), (1, .int a1), (2, .int a2), (3, .int a3), (5, .int e7)]) C dMM_search_111 rfl ci_m1 (by decide) rfl ?_
          refine at_goto C dMM_search_114 rfl ?_
          refine at_goto C dMM_search_203 rfl ?_
          refine at_loc (L' := [(0, .ref (ad G 40)), (1, .int a1), (2, .int a2), (3, .int a3), (4, .int (a4 + (-1 : Int32)))]) [1, 2, 3, 4, 0] rfl ?_
          exact ih _ _ _ _ _ _ _ h k0
      · replace h := ifp hc h
        refine at_iload_n (j := 2) C dMM_search_38 rfl rfl ?_
        refine at_goto C dMM_search_39 rfl ?_
        refine at_istore (L' := [(6, .int a1), (5, .int ((c_MM_open (a4).toNatClampNeg) + (1 : Int32))), (0, .ref (ad G 40)), (1, .int a1), (2, .int a2), (3, .int a3), (4, .int a4)]) C dMM_search_56 (by decide) rfl ?_
        obtain ⟨e24, he24, h⟩ := ob_some h
        refine at_loc (L' := [(0, .ref (ad G 40)), (1, .int a1), (2, .int a2), (3, .int a3), (4, .int a4), (5, .int ((c_MM_open (a4).toNatClampNeg) + (1 : Int32))), (6, .int a1)]) [2, 3, 4, 5, 6, 1, 0] rfl ?_
        refine wMM_search_l58 C _ _ _ _ _ FU _ _ he24 ?_
        refine at_iload (j := 5) C dMM_search_102 rfl ?_
        refine at_aload_n (j := 0) C dMM_search_104 rfl rfl ?_
        refine gfMM_markets (x := c_MM_markets) C rfl dMM_search_105 ?_
        refine at_icmp_ne C dMM_search_108 rfl (fun hc => ?_) (fun hc => ?_)
        · replace h := ifn hc h
          refine at_aload_n (j := 0) C dMM_search_117 rfl rfl ?_
          refine gfMM_open C dMM_search_118 ?_
          refine at_iload (j := 4) C dMM_search_121 rfl ?_
          refine at_iload (j := 5) C dMM_search_123 rfl ?_
          obtain ⟨hg25, h⟩ := gd_some h
          refine svMM_open C hg25 dMM_search_125 ?_
          refine at_st (S1 := (z1, (z21, ((z2211, (z22121, ((z2212211, c_MM_markets), c_MM_from))), ((((c_MM_gives, c_MM_to), c_MM_gets), (((upd c_MM_open (a4).toNatClampNeg e24), c_MM_much), c_MM_bestRow)), (((c_MM_bestLong, z2222112), z222212), ((c_MM_best, z2222212), z222222))))))) rfl ?_
          refine at_aload_n (j := 0) C dMM_search_126 rfl rfl ?_
          refine gfMM_much C dMM_search_127 ?_
          refine at_iload (j := 4) C dMM_search_130 rfl ?_
          refine at_iload (j := 4) C dMM_search_132 rfl ?_
          refine at_if_ne C dMM_search_134 rfl (fun hc => ?_) (fun hc => ?_)
          · replace h := ifn hc h
            refine at_aload_n (j := 0) C dMM_search_142 rfl rfl ?_
            refine gfMM_much C dMM_search_143 ?_
            refine at_iload (j := 4) C dMM_search_146 rfl ?_
            refine at_iconst C dMM_search_148 ci_1 ?_
            refine at_isub C dMM_search_149 ?_
            obtain ⟨hg26, h⟩ := gd_some h
            refine ldMM_much (f := c_MM_much) C rfl hg26 dMM_search_150 ?_
            refine at_aload_n (j := 0) C dMM_search_151 rfl rfl ?_
            refine gfMM_gives C dMM_search_152 ?_
            refine at_iload (j := 5) C dMM_search_155 rfl ?_
            obtain ⟨hg27, h⟩ := gd_some h
            refine ldMM_gives (f := c_MM_gives) C rfl hg27 dMM_search_157 ?_
            refine at_i2l C dMM_search_158 ?_
            obtain ⟨hg28, h⟩ := gd_some h
            refine at_ldiv C dMM_search_159 hg28 ?_
            refine at_aload_n (j := 0) C dMM_search_160 rfl rfl ?_
            refine gfMM_gets C dMM_search_161 ?_
            refine at_iload (j := 5) C dMM_search_164 rfl ?_
            obtain ⟨hg29, h⟩ := gd_some h
            refine ldMM_gets (f := c_MM_gets) C rfl hg29 dMM_search_166 ?_
            refine at_i2l C dMM_search_167 ?_
            refine at_lmul C dMM_search_168 ?_
            obtain ⟨hg30, h⟩ := gd_some h
            refine svMM_much C hg30 dMM_search_169 ?_
            refine at_st (S1 := (z1, (z21, ((z2211, (z22121, ((z2212211, c_MM_markets), c_MM_from))), ((((c_MM_gives, c_MM_to), c_MM_gets), (((upd c_MM_open (a4).toNatClampNeg e24), (vp_updL c_MM_much (a4).toNatClampNeg (((c_MM_much ((a4 - (1 : Int32))).toNatClampNeg) / ((c_MM_gives (e24).toNatClampNeg)).toInt64) * ((c_MM_gets (e24).toNatClampNeg)).toInt64))), c_MM_bestRow)), (((c_MM_bestLong, z2222112), z222212), ((c_MM_best, z2222212), z222222))))))) rfl ?_
            refine at_aload_n (j := 0) C dMM_search_170 rfl rfl ?_
            refine gfMM_to C dMM_search_171 ?_
            refine at_iload (j := 5) C dMM_search_174 rfl ?_
            obtain ⟨hg31, h⟩ := gd_some h
            refine ldMM_to (f := c_MM_to) C rfl hg31 dMM_search_176 ?_
            refine at_iload_n (j := 3) C dMM_search_177 rfl rfl ?_
            refine at_icmp_ne C dMM_search_178 rfl (fun hc => ?_) (fun hc => ?_)
            · replace h := ifn hc h
              refine at_iinc (j := 4) (L' := [(4, .int (a4 + (1 : Int32))), (0, .ref (ad G 40)), (1, .int a1), (2, .int a2), (3, .int a3), (5, .int e24)]) C dMM_search_192 rfl ci_1 (by decide) rfl ?_
              refine at_aload_n (j := 1) C dMM_search_195 rfl rfl ?_
              refine gfMM_open C dMM_search_196 ?_
              refine at_iload (j := 0) C dMM_search_199 rfl ?_
              refine at_iconst C dMM_search_201 ci_m1 ?_
              obtain ⟨hg32, h⟩ := gd_some h
              refine svMM_open C hg32 dMM_search_202 ?_
              refine at_st (S1 := (z1, (z21, ((z2211, (z22121, ((z2212211, c_MM_markets), c_MM_from))), ((((c_MM_gives, c_MM_to), c_MM_gets), (((upd (upd c_MM_open (a4).toNatClampNeg e24) ((a4 + (1 : Int32))).toNatClampNeg (-1 : Int32)), (vp_updL c_MM_much (a4).toNatClampNeg (((c_MM_much ((a4 - (1 : Int32))).toNatClampNeg) / ((c_MM_gives (e24).toNatClampNeg)).toInt64) * ((c_MM_gets (e24).toNatClampNeg)).toInt64))), c_MM_bestRow)), (((c_MM_bestLong, z2222112), z222212), ((c_MM_best, z2222212), z222222))))))) rfl ?_
              refine at_goto C dMM_search_203 rfl ?_
              refine at_loc (L' := [(0, .ref (ad G 40)), (1, .int a1), (2, .int a2), (3, .int a3), (4, .int (a4 + (1 : Int32)))]) [1, 2, 3, 4, 0] rfl ?_
              exact ih _ _ _ _ _ _ _ h k0
            · replace h := ifp hc h
              refine at_aload_n (j := 0) C dMM_search_181 rfl rfl ?_
              refine at_iload (j := 4) C dMM_search_182 rfl ?_
              refine at_iconst C dMM_search_184 ci_1 ?_
              refine at_iadd C dMM_search_185 ?_
              obtain ⟨e33, he33, h⟩ := ob_some h
              refine at_callVv C kMM_238 (cMM_found C.2.2.2.2.2.2.1 _ _ he33) (by omega) rfl rfl rfl rfl (Nat.le_of_ble_eq_true rfl) dMM_search_186 ?_
              refine at_goto C dMM_search_189 rfl ?_
              refine at_goto C dMM_search_203 rfl ?_
              refine at_loc (L' := [(0, .ref (ad G 40)), (1, .int a1), (2, .int a2), (3, .int a3), (4, .int a4)]) [0, 1, 2, 3, 4] rfl ?_
              exact ih _ _ _ _ _ _ _ h k0
          · replace h := ifp hc h
            refine at_iload_n (j := 2) C dMM_search_137 rfl rfl ?_
            refine at_i2l C dMM_search_138 ?_
            refine at_goto C dMM_search_139 rfl ?_
            refine at_aload_n (j := 0) C dMM_search_151 rfl rfl ?_
            refine gfMM_gives C dMM_search_152 ?_
            refine at_iload (j := 5) C dMM_search_155 rfl ?_
            obtain ⟨hg34, h⟩ := gd_some h
            refine ldMM_gives (f := c_MM_gives) C rfl hg34 dMM_search_157 ?_
            refine at_i2l C dMM_search_158 ?_
            obtain ⟨hg35, h⟩ := gd_some h
            refine at_ldiv C dMM_search_159 hg35 ?_
            refine at_aload_n (j := 0) C dMM_search_160 rfl rfl ?_
            refine gfMM_gets C dMM_search_161 ?_
            refine at_iload (j := 5) C dMM_search_164 rfl ?_
            obtain ⟨hg36, h⟩ := gd_some h
            refine ldMM_gets (f := c_MM_gets) C rfl hg36 dMM_search_166 ?_
            refine at_i2l C dMM_search_167 ?_
            refine at_lmul C dMM_search_168 ?_
            obtain ⟨hg37, h⟩ := gd_some h
            refine svMM_much C hg37 dMM_search_169 ?_
            refine at_st (S1 := (z1, (z21, ((z2211, (z22121, ((z2212211, c_MM_markets), c_MM_from))), ((((c_MM_gives, c_MM_to), c_MM_gets), (((upd c_MM_open (a4).toNatClampNeg e24), (vp_updL c_MM_much (a4).toNatClampNeg (((a2).toInt64 / ((c_MM_gives (e24).toNatClampNeg)).toInt64) * ((c_MM_gets (e24).toNatClampNeg)).toInt64))), c_MM_bestRow)), (((c_MM_bestLong, z2222112), z222212), ((c_MM_best, z2222212), z222222))))))) rfl ?_
            refine at_aload_n (j := 0) C dMM_search_170 rfl rfl ?_
            refine gfMM_to C dMM_search_171 ?_
            refine at_iload (j := 5) C dMM_search_174 rfl ?_
            obtain ⟨hg38, h⟩ := gd_some h
            refine ldMM_to (f := c_MM_to) C rfl hg38 dMM_search_176 ?_
            refine at_iload_n (j := 3) C dMM_search_177 rfl rfl ?_
            refine at_icmp_ne C dMM_search_178 rfl (fun hc => ?_) (fun hc => ?_)
            · replace h := ifn hc h
              refine at_iinc (j := 4) (L' := [(4, .int (a4 + (1 : Int32))), (0, .ref (ad G 40)), (1, .int a1), (2, .int a2), (3, .int a3), (5, .int e24)]) C dMM_search_192 rfl ci_1 (by decide) rfl ?_
              refine at_aload_n (j := 1) C dMM_search_195 rfl rfl ?_
              refine gfMM_open C dMM_search_196 ?_
              refine at_iload (j := 0) C dMM_search_199 rfl ?_
              refine at_iconst C dMM_search_201 ci_m1 ?_
              obtain ⟨hg39, h⟩ := gd_some h
              refine svMM_open C hg39 dMM_search_202 ?_
              refine at_st (S1 := (z1, (z21, ((z2211, (z22121, ((z2212211, c_MM_markets), c_MM_from))), ((((c_MM_gives, c_MM_to), c_MM_gets), (((upd (upd c_MM_open (a4).toNatClampNeg e24) ((a4 + (1 : Int32))).toNatClampNeg (-1 : Int32)), (vp_updL c_MM_much (a4).toNatClampNeg (((a2).toInt64 / ((c_MM_gives (e24).toNatClampNeg)).toInt64) * ((c_MM_gets (e24).toNatClampNeg)).toInt64))), c_MM_bestRow)), (((c_MM_bestLong, z2222112), z222212), ((c_MM_best, z2222212), z222222))))))) rfl ?_
              refine at_goto C dMM_search_203 rfl ?_
              refine at_loc (L' := [(0, .ref (ad G 40)), (1, .int a1), (2, .int a2), (3, .int a3), (4, .int (a4 + (1 : Int32)))]) [1, 2, 3, 4, 0] rfl ?_
              exact ih _ _ _ _ _ _ _ h k0
            · replace h := ifp hc h
              refine at_aload_n (j := 0) C dMM_search_181 rfl rfl ?_
              refine at_iload (j := 4) C dMM_search_182 rfl ?_
              refine at_iconst C dMM_search_184 ci_1 ?_
              refine at_iadd C dMM_search_185 ?_
              obtain ⟨e40, he40, h⟩ := ob_some h
              refine at_callVv C kMM_238 (cMM_found C.2.2.2.2.2.2.1 _ _ he40) (by omega) rfl rfl rfl rfl (Nat.le_of_ble_eq_true rfl) dMM_search_186 ?_
              refine at_goto C dMM_search_189 rfl ?_
              refine at_goto C dMM_search_203 rfl ?_
              refine at_loc (L' := [(0, .ref (ad G 40)), (1, .int a1), (2, .int a2), (3, .int a3), (4, .int a4)]) [0, 1, 2, 3, 4] rfl ?_
              exact ih _ _ _ _ _ _ _ h k0
        · replace h := ifp hc h
          refine at_iinc (j := 4) (L' := [(4, .int (a4 + (-1 : Int32))), (0, .ref (ad G 40)), (1, .int a1), (2, .int a2), (3, .int a3), (5, .int e24)]) C dMM_search_111 rfl ci_m1 (by decide) rfl ?_
          refine at_goto C dMM_search_114 rfl ?_
          refine at_goto C dMM_search_203 rfl ?_
          refine at_loc (L' := [(0, .ref (ad G 40)), (1, .int a1), (2, .int a2), (3, .int a3), (4, .int (a4 + (-1 : Int32)))]) [1, 2, 3, 4, 0] rfl ?_
          exact ih _ _ _ _ _ _ _ h k0
set_option maxRecDepth 100000 in
set_option maxHeartbeats 4000000 in
theorem cMM_search {l : Launch} {G : GG} (hG : GOK G) {c_MM_markets : Int32} {c_MM_from : (Nat → Int32)} {c_MM_gives : (Nat → Int32)} {c_MM_to : (Nat → Int32)} {c_MM_gets : (Nat → Int32)} {c_MM_open : (Nat → Int32)} {c_MM_much : (Nat → Int64)} {c_MM_bestRow : (Nat → Int32)} {c_MM_bestLong : Int32} {c_MM_best : Int64} {z1 : Z1} {z21 : Z21} {z2211 : Z2211} {z22121 : Z22121} {z2212211 : Int32} {z2222112 : Int32} {z222212 : (Nat → Int32)} {z2222212 : (Nat → Int32)} {z222222 : (Nat → Int32)} (a1 : Int32) (a2 : Int32) (a3 : Int32) (R : ((Nat → Int32) × (Nat → Int64) × (Nat → Int32) × Int32 × Int64)) (h : fMM_search a1 a2 a3 c_MM_markets c_MM_from c_MM_gives c_MM_to c_MM_gets c_MM_open c_MM_much c_MM_bestRow c_MM_bestLong c_MM_best = some R) : Met l yMM_search (.code yMM_search prog_12_method_44_code 7 none :: gw) (rmm 3) (PcW G [.ref (ad G 40), .int a1, .int a2, .int a3] (z1, (z21, ((z2211, (z22121, ((z2212211, c_MM_markets), c_MM_from))), ((((c_MM_gives, c_MM_to), c_MM_gets), ((c_MM_open, c_MM_much), c_MM_bestRow)), (((c_MM_bestLong, z2222112), z222212), ((c_MM_best, z2222212), z222222))))))) (Qw G (none) (z1, (z21, ((z2211, (z22121, ((z2212211, c_MM_markets), c_MM_from))), ((((c_MM_gives, c_MM_to), c_MM_gets), ((R.1, R.2.1), R.2.2.1)), (((R.2.2.2.1, z2222112), z222212), ((R.2.2.2.2, z2222212), z222222))))))) 0 0 (Aw G) := by
  refine met_of (by decide) 3 G hG _ _ (Nat.le_of_ble_eq_true rfl) _ _ (fun X _ C => ?_)
  have C : Cx G X RcMM prog_12_method_44_code 7 3 none := C
  unfold fMM_search at h
  show At G X 7 _ 0 [(0, .ref (ad G 40)), (1, .int a1), (2, .int a2), (3, .int a3)] [] (z1, (z21, ((z2211, (z22121, ((z2212211, c_MM_markets), c_MM_from))), ((((c_MM_gives, c_MM_to), c_MM_gets), ((c_MM_open, c_MM_much), c_MM_bestRow)), (((c_MM_bestLong, z2222112), z222212), ((c_MM_best, z2222212), z222222))))))
  refine at_aload_n (j := 0) C dMM_search_0 rfl rfl ?_
  refine at_ldc2 C qMM_220 dMM_search_1 ?_
  refine pfMM_best C dMM_search_4 ?_
  refine at_st (S1 := (z1, (z21, ((z2211, (z22121, ((z2212211, c_MM_markets), c_MM_from))), ((((c_MM_gives, c_MM_to), c_MM_gets), ((c_MM_open, c_MM_much), c_MM_bestRow)), (((c_MM_bestLong, z2222112), z222212), (((-1 : Int64), z2222212), z222222))))))) rfl ?_
  refine at_iconst C dMM_search_7 ci_0 ?_
  refine at_istore (L' := [(4, .int (0 : Int32)), (0, .ref (ad G 40)), (1, .int a1), (2, .int a2), (3, .int a3)]) C dMM_search_8 (by decide) rfl ?_
  refine at_aload_n (j := 1) C dMM_search_10 rfl rfl ?_
  refine gfMM_open C dMM_search_11 ?_
  refine at_iconst C dMM_search_14 ci_0 ?_
  refine at_iconst C dMM_search_15 ci_m1 ?_
  refine svMM_open C (by decide) dMM_search_16 ?_
  refine at_st (S1 := (z1, (z21, ((z2211, (z22121, ((z2212211, c_MM_markets), c_MM_from))), ((((c_MM_gives, c_MM_to), c_MM_gets), (((upd c_MM_open ((0 : Int32)).toNatClampNeg (-1 : Int32)), c_MM_much), c_MM_bestRow)), (((c_MM_bestLong, z2222112), z222212), (((-1 : Int64), z2222212), z222222))))))) rfl ?_
  obtain ⟨e41, he41, h⟩ := ob_some h
  refine at_loc (L' := [(0, .ref (ad G 40)), (1, .int a1), (2, .int a2), (3, .int a3), (4, .int (0 : Int32))]) [1, 2, 3, 4, 0] rfl ?_
  refine wMM_search_l17 C _ _ _ FU _ _ _ _ _ _ _ he41 ?_
  cases h
  exact at_vret C dMM_search_206
set_option maxRecDepth 100000 in
set_option maxHeartbeats 4000000 in
theorem wMM_barter_l61 {G : GG} {X : CX} {c_MM_markets : Int32} {c_MM_from : (Nat → Int32)} {c_MM_gives : (Nat → Int32)} {c_MM_to : (Nat → Int32)} {c_MM_gets : (Nat → Int32)} {c_MM_open : (Nat → Int32)} {c_MM_much : (Nat → Int64)} {c_MM_bestRow : (Nat → Int32)} {c_MM_bestLong : Int32} {c_MM_rowLong : Int32} {c_MM_best : Int64} {z1 : Z1} {z21 : Z21} {z2211 : Z2211} {z22121 : Z22121} {z2212211 : Int32} {z2222212 : (Nat → Int32)} {z222222 : (Nat → Int32)} (C : Cx G X RcMM prog_12_method_45_code 5 4 (some .int)) {Q : State → Prop}  : ∀ (n : Nat) (a4 : Int32) (c_MM_row : (Nat → Int32)) (E : (Nat → Int32)) (h : fMM_barter_l61 c_MM_bestRow c_MM_bestLong n a4 c_MM_row = some E) (k0 : At G X 5 Q 90 [(0, .ref (ad G 40))] [] (z1, (z21, ((z2211, (z22121, ((z2212211, c_MM_markets), c_MM_from))), ((((c_MM_gives, c_MM_to), c_MM_gets), ((c_MM_open, c_MM_much), c_MM_bestRow)), (((c_MM_bestLong, c_MM_rowLong), E), ((c_MM_best, z2222212), z222222))))))), At G X 5 Q 61 [(0, .ref (ad G 40)), (4, .int a4)] [] (z1, (z21, ((z2211, (z22121, ((z2212211, c_MM_markets), c_MM_from))), ((((c_MM_gives, c_MM_to), c_MM_gets), ((c_MM_open, c_MM_much), c_MM_bestRow)), (((c_MM_bestLong, c_MM_rowLong), c_MM_row), ((c_MM_best, z2222212), z222222)))))) := by
  intro n
  induction n with
  | zero =>
    intro a4 c_MM_row E h k0
    rw [fMM_barter_l61.eq_1] at h
    cases h
  | succ n ih =>
    intro a4 c_MM_row E h k0
    rw [fMM_barter_l61.eq_2] at h
    refine at_iload (j := 1) C dMM_barter_61 rfl ?_
    refine at_aload_n (j := 0) C dMM_barter_63 rfl rfl ?_
    refine gfMM_bestLong (x := c_MM_bestLong) C rfl dMM_barter_64 ?_
    refine at_icmp_ge C dMM_barter_67 rfl (fun hc => ?_) (fun hc => ?_)
    · replace h := ifp hc h
      cases h
      refine at_loc (L' := [(0, .ref (ad G 40))]) [0] rfl ?_
      exact k0
    · replace h := ifn hc h
      refine at_aload_n (j := 0) C dMM_barter_70 rfl rfl ?_
      refine gfMM_row C dMM_barter_71 ?_
      refine at_iload (j := 1) C dMM_barter_74 rfl ?_
      refine at_aload_n (j := 0) C dMM_barter_76 rfl rfl ?_
      refine gfMM_bestRow C dMM_barter_77 ?_
      refine at_iload (j := 1) C dMM_barter_80 rfl ?_
      obtain ⟨hg2, h⟩ := gd_some h
      refine ldMM_bestRow (f := c_MM_bestRow) C rfl hg2 dMM_barter_82 ?_
      obtain ⟨hg3, h⟩ := gd_some h
      refine svMM_row C hg3 dMM_barter_83 ?_
      refine at_st (S1 := (z1, (z21, ((z2211, (z22121, ((z2212211, c_MM_markets), c_MM_from))), ((((c_MM_gives, c_MM_to), c_MM_gets), ((c_MM_open, c_MM_much), c_MM_bestRow)), (((c_MM_bestLong, c_MM_rowLong), (upd c_MM_row (a4).toNatClampNeg (c_MM_bestRow (a4).toNatClampNeg))), ((c_MM_best, z2222212), z222222))))))) rfl ?_
      refine at_iinc (j := 1) (L' := [(4, .int (a4 + (1 : Int32))), (0, .ref (ad G 40))]) C dMM_barter_84 rfl ci_1 (by decide) rfl ?_
      refine at_goto C dMM_barter_87 rfl ?_
      refine at_loc (L' := [(0, .ref (ad G 40)), (4, .int (a4 + (1 : Int32)))]) [1, 0] rfl ?_
      exact ih _ _ _ h k0
set_option maxRecDepth 100000 in
set_option maxHeartbeats 4000000 in
theorem cMM_barter {l : Launch} {G : GG} (hG : GOK G) {c_MM_markets : Int32} {c_MM_from : (Nat → Int32)} {c_MM_gives : (Nat → Int32)} {c_MM_to : (Nat → Int32)} {c_MM_gets : (Nat → Int32)} {c_MM_open : (Nat → Int32)} {c_MM_much : (Nat → Int64)} {c_MM_bestRow : (Nat → Int32)} {c_MM_bestLong : Int32} {c_MM_rowLong : Int32} {c_MM_row : (Nat → Int32)} {c_MM_best : Int64} {z1 : Z1} {z21 : Z21} {z2211 : Z2211} {z22121 : Z22121} {z2212211 : Int32} {z2222212 : (Nat → Int32)} {z222222 : (Nat → Int32)} (a1 : Int32) (a2 : Int32) (a3 : Int32) (R : (Int32 × (Nat → Int32) × (Nat → Int64) × (Nat → Int32) × Int32 × Int32 × (Nat → Int32) × Int64)) (h : fMM_barter a1 a2 a3 c_MM_markets c_MM_from c_MM_gives c_MM_to c_MM_gets c_MM_open c_MM_much c_MM_bestRow c_MM_bestLong c_MM_rowLong c_MM_row c_MM_best = some R) : Met l yMM_barter (.code yMM_barter prog_12_method_45_code 5 (some .int) :: gw) (rmm 4) (PcW G [.ref (ad G 40), .int a1, .int a2, .int a3] (z1, (z21, ((z2211, (z22121, ((z2212211, c_MM_markets), c_MM_from))), ((((c_MM_gives, c_MM_to), c_MM_gets), ((c_MM_open, c_MM_much), c_MM_bestRow)), (((c_MM_bestLong, c_MM_rowLong), c_MM_row), ((c_MM_best, z2222212), z222222))))))) (Qw G (some (.int R.1)) (z1, (z21, ((z2211, (z22121, ((z2212211, c_MM_markets), c_MM_from))), ((((c_MM_gives, c_MM_to), c_MM_gets), ((R.2.1, R.2.2.1), R.2.2.2.1)), (((R.2.2.2.2.1, R.2.2.2.2.2.1), R.2.2.2.2.2.2.1), ((R.2.2.2.2.2.2.2, z2222212), z222222))))))) 0 0 (Aw G) := by
  refine met_of (by decide) 4 G hG _ _ (Nat.le_of_ble_eq_true rfl) _ _ (fun X _ C => ?_)
  have C : Cx G X RcMM prog_12_method_45_code 5 4 (some .int) := C
  unfold fMM_barter at h
  show At G X 5 _ 0 [(0, .ref (ad G 40)), (1, .int a1), (2, .int a2), (3, .int a3)] [] (z1, (z21, ((z2211, (z22121, ((z2212211, c_MM_markets), c_MM_from))), ((((c_MM_gives, c_MM_to), c_MM_gets), ((c_MM_open, c_MM_much), c_MM_bestRow)), (((c_MM_bestLong, c_MM_rowLong), c_MM_row), ((c_MM_best, z2222212), z222222))))))
  refine at_iload_n (j := 1) C dMM_barter_0 rfl rfl ?_
  refine at_callSi C kMM_122 (cMM_isGood C.2.2.2.2.2.2.1 _ _ rfl) (by omega) rfl rfl (Nat.le_of_ble_eq_true rfl) dMM_barter_1 ?_
  refine at_if_eq C dMM_barter_4 rfl (fun hc => ?_) (fun hc => ?_)
  · replace h := ifp hc h
    refine at_iconst C dMM_barter_30 ci_m1 ?_
    cases h
    exact at_iret C dMM_barter_31
  · replace h := ifn hc h
    refine at_iload_n (j := 3) C dMM_barter_7 rfl rfl ?_
    refine at_callSi C kMM_122 (cMM_isGood C.2.2.2.2.2.2.1 _ _ rfl) (by omega) rfl rfl (Nat.le_of_ble_eq_true rfl) dMM_barter_8 ?_
    refine at_if_eq C dMM_barter_11 rfl (fun hc => ?_) (fun hc => ?_)
    · replace h := ifp hc h
      refine at_iconst C dMM_barter_30 ci_m1 ?_
      cases h
      exact at_iret C dMM_barter_31
    · replace h := ifn hc h
      refine at_iload_n (j := 1) C dMM_barter_14 rfl rfl ?_
      refine at_iload_n (j := 3) C dMM_barter_15 rfl rfl ?_
      refine at_icmp_eq C dMM_barter_16 rfl (fun hc => ?_) (fun hc => ?_)
      · replace h := ifp hc h
        refine at_iconst C dMM_barter_30 ci_m1 ?_
        cases h
        exact at_iret C dMM_barter_31
      · replace h := ifn hc h
        refine at_iload_n (j := 2) C dMM_barter_19 rfl rfl ?_
        refine at_iconst C dMM_barter_20 ci_1 ?_
        refine at_sipush C dMM_barter_21 cs_9999 ?_
        refine at_callSi C kMM_109 (cMM_isIn C.2.2.2.2.2.2.1 _ _ _ _ rfl) (by omega) rfl rfl (Nat.le_of_ble_eq_true rfl) dMM_barter_24 ?_
        refine at_if_ne C dMM_barter_27 rfl (fun hc => ?_) (fun hc => ?_)
        · replace h := ifn hc h
          refine at_aload_n (j := 0) C dMM_barter_32 rfl rfl ?_
          refine at_iload_n (j := 1) C dMM_barter_33 rfl rfl ?_
          refine at_iload_n (j := 2) C dMM_barter_34 rfl rfl ?_
          refine at_iload_n (j := 3) C dMM_barter_35 rfl rfl ?_
          obtain ⟨e1, he1, h⟩ := ob_some h
          refine at_callVv C kMM_241 (cMM_search C.2.2.2.2.2.2.1 _ _ _ _ he1) (by omega) rfl rfl rfl rfl (Nat.le_of_ble_eq_true rfl) dMM_barter_36 ?_
          refine at_aload_n (j := 0) C dMM_barter_39 rfl rfl ?_
          refine gfMM_best (x := e1.2.2.2.2) C rfl dMM_barter_40 ?_
          refine at_lconst C dMM_barter_43 rfl ?_
          refine at_lcmp C dMM_barter_44 ?_
          refine at_if_ge C dMM_barter_45 rfl (fun hc => ?_) (fun hc => ?_)
          · replace h := ifp hc h
            refine at_aload_n (j := 0) C dMM_barter_50 rfl rfl ?_
            refine at_aload_n (j := 0) C dMM_barter_51 rfl rfl ?_
            refine gfMM_bestLong (x := e1.2.2.2.1) C rfl dMM_barter_52 ?_
            refine pfMM_rowLong C dMM_barter_55 ?_
            refine at_st (S1 := (z1, (z21, ((z2211, (z22121, ((z2212211, c_MM_markets), c_MM_from))), ((((c_MM_gives, c_MM_to), c_MM_gets), ((e1.1, e1.2.1), e1.2.2.1)), (((e1.2.2.2.1, e1.2.2.2.1), c_MM_row), ((e1.2.2.2.2, z2222212), z222222))))))) rfl ?_
            refine at_iconst C dMM_barter_58 ci_0 ?_
            refine at_istore (L' := [(4, .int (0 : Int32)), (0, .ref (ad G 40)), (1, .int a1), (2, .int a2), (3, .int a3)]) C dMM_barter_59 (by decide) rfl ?_
            obtain ⟨e4, he4, h⟩ := ob_some h
            refine at_loc (L' := [(0, .ref (ad G 40)), (4, .int (0 : Int32))]) [1, 0] rfl ?_
            refine wMM_barter_l61 C FU _ _ _ he4 ?_
            refine at_aload_n (j := 0) C dMM_barter_90 rfl rfl ?_
            refine gfMM_best (x := e1.2.2.2.2) C rfl dMM_barter_91 ?_
            refine at_ldc2 C qMM_248 dMM_barter_94 ?_
            refine at_lcmp C dMM_barter_97 ?_
            refine at_if_le C dMM_barter_98 rfl (fun hc => ?_) (fun hc => ?_)
            · replace h := ifp hc h
              refine at_aload_n (j := 0) C dMM_barter_106 rfl rfl ?_
              refine gfMM_best (x := e1.2.2.2.2) C rfl dMM_barter_107 ?_
              refine at_l2i C dMM_barter_110 ?_
              cases h
              exact at_iret C dMM_barter_111
            · replace h := ifn hc h
              refine at_ldc C qMM_250 dMM_barter_101 ?_
              refine at_goto C dMM_barter_103 rfl ?_
              cases h
              exact at_iret C dMM_barter_111
          · replace h := ifn hc h
            refine at_iconst C dMM_barter_48 ci_m1 ?_
            cases h
            exact at_iret C dMM_barter_49
        · replace h := ifp hc h
          refine at_iconst C dMM_barter_30 ci_m1 ?_
          cases h
          exact at_iret C dMM_barter_31
set_option maxRecDepth 100000 in
set_option maxHeartbeats 4000000 in
theorem cMM_bartered {l : Launch} {G : GG} (hG : GOK G) {c_MM_rowLong : Int32} {c_MM_row : (Nat → Int32)} {z1 : Z1} {z21 : Z21} {z221 : Z221} {z2221 : Z2221} {z2222111 : Int32} {z22222 : Z22222} (a1 : Int32) (R : Int32) (h : fMM_bartered a1 c_MM_rowLong c_MM_row = some R) : Met l yMM_bartered (.code yMM_bartered prog_12_method_46_code 2 (some .int) :: gw) (rmm 2) (PcW G [.ref (ad G 40), .int a1] (z1, (z21, (z221, (z2221, (((z2222111, c_MM_rowLong), c_MM_row), z22222)))))) (Qw G (some (.int R)) (z1, (z21, (z221, (z2221, (((z2222111, c_MM_rowLong), c_MM_row), z22222)))))) 0 0 (Aw G) := by
  refine met_of (by decide) 2 G hG _ _ (Nat.le_of_ble_eq_true rfl) _ _ (fun X _ C => ?_)
  have C : Cx G X RcMM prog_12_method_46_code 2 2 (some .int) := C
  unfold fMM_bartered at h
  show At G X 2 _ 0 [(0, .ref (ad G 40)), (1, .int a1)] [] (z1, (z21, (z221, (z2221, (((z2222111, c_MM_rowLong), c_MM_row), z22222)))))
  refine at_iload_n (j := 1) C dMM_bartered_0 rfl rfl ?_
  refine at_iconst C dMM_bartered_1 ci_0 ?_
  refine at_aload_n (j := 0) C dMM_bartered_2 rfl rfl ?_
  refine gfMM_rowLong (x := c_MM_rowLong) C rfl dMM_bartered_3 ?_
  refine at_iconst C dMM_bartered_6 ci_1 ?_
  refine at_isub C dMM_bartered_7 ?_
  refine at_callSi C kMM_109 (cMM_isIn C.2.2.2.2.2.2.1 _ _ _ _ rfl) (by omega) rfl rfl (Nat.le_of_ble_eq_true rfl) dMM_bartered_8 ?_
  refine at_if_eq C dMM_bartered_11 rfl (fun hc => ?_) (fun hc => ?_)
  · replace h := ifp hc h
    refine at_iconst C dMM_bartered_23 ci_m1 ?_
    cases h
    exact at_iret C dMM_bartered_24
  · replace h := ifn hc h
    refine at_aload_n (j := 0) C dMM_bartered_14 rfl rfl ?_
    refine gfMM_row C dMM_bartered_15 ?_
    refine at_iload_n (j := 1) C dMM_bartered_18 rfl rfl ?_
    obtain ⟨hg1, h⟩ := gd_some h
    refine ldMM_row (f := c_MM_row) C rfl hg1 dMM_bartered_19 ?_
    refine at_goto C dMM_bartered_20 rfl ?_
    cases h
    exact at_iret C dMM_bartered_24
set_option maxRecDepth 100000 in
set_option maxHeartbeats 4000000 in
theorem cMM_yields {l : Launch} {G : GG} (hG : GOK G) {c_MM_yield2 : (Nat → Int32)} {z1 : Z1} {z21 : Z21} {z221 : Z221} {z2221 : Z2221} {z22221 : Z22221} {z2222211 : Int64} {z222222 : (Nat → Int32)} (a1 : Int32) (a2 : Int32) (R : (Int32 × (Nat → Int32))) (h : fMM_yields a1 a2 c_MM_yield2 = some R) : Met l yMM_yields (.code yMM_yields prog_12_method_47_code 3 (some .boolean) :: gw) (rmm 3) (PcW G [.ref (ad G 40), .int a1, .int a2] (z1, (z21, (z221, (z2221, (z22221, ((z2222211, c_MM_yield2), z222222))))))) (Qw G (some (.int R.1)) (z1, (z21, (z221, (z2221, (z22221, ((z2222211, R.2), z222222))))))) 0 0 (Aw G) := by
  refine met_of (by decide) 3 G hG _ _ (Nat.le_of_ble_eq_true rfl) _ _ (fun X _ C => ?_)
  have C : Cx G X RcMM prog_12_method_47_code 3 3 (some .boolean) := C
  unfold fMM_yields at h
  show At G X 3 _ 0 [(0, .ref (ad G 40)), (1, .int a1), (2, .int a2)] [] (z1, (z21, (z221, (z2221, (z22221, ((z2222211, c_MM_yield2), z222222))))))
  refine at_iload_n (j := 1) C dMM_yields_0 rfl rfl ?_
  refine at_callSi C kMM_160 (cMM_isTown C.2.2.2.2.2.2.1 _ _ rfl) (by omega) rfl rfl (Nat.le_of_ble_eq_true rfl) dMM_yields_1 ?_
  refine at_if_eq C dMM_yields_4 rfl (fun hc => ?_) (fun hc => ?_)
  · replace h := ifp hc h
    refine at_iconst C dMM_yields_18 ci_0 ?_
    cases h
    exact at_zret (x := (0 : Int32)) C zn_0 dMM_yields_19
  · replace h := ifn hc h
    refine at_iload_n (j := 2) C dMM_yields_7 rfl rfl ?_
    refine at_iconst C dMM_yields_8 ci_0 ?_
    refine at_sipush C dMM_yields_9 cs_10000 ?_
    refine at_callSi C kMM_109 (cMM_isIn C.2.2.2.2.2.2.1 _ _ _ _ rfl) (by omega) rfl rfl (Nat.le_of_ble_eq_true rfl) dMM_yields_12 ?_
    refine at_if_ne C dMM_yields_15 rfl (fun hc => ?_) (fun hc => ?_)
    · replace h := ifn hc h
      refine at_aload_n (j := 0) C dMM_yields_20 rfl rfl ?_
      refine gfMM_yield2 C dMM_yields_21 ?_
      refine at_iload_n (j := 1) C dMM_yields_24 rfl rfl ?_
      refine at_iload_n (j := 2) C dMM_yields_25 rfl rfl ?_
      obtain ⟨hg1, h⟩ := gd_some h
      refine svMM_yield2 C hg1 dMM_yields_26 ?_
      refine at_st (S1 := (z1, (z21, (z221, (z2221, (z22221, ((z2222211, (upd c_MM_yield2 (a1).toNatClampNeg a2)), z222222))))))) rfl ?_
      refine at_iconst C dMM_yields_27 ci_1 ?_
      cases h
      exact at_zret (x := (1 : Int32)) C zn_1 dMM_yields_28
    · replace h := ifp hc h
      refine at_iconst C dMM_yields_18 ci_0 ?_
      cases h
      exact at_zret (x := (0 : Int32)) C zn_0 dMM_yields_19
