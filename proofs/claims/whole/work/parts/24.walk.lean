set_option maxRecDepth 100000 in
set_option maxHeartbeats 4000000 in
theorem cTL_barter {l : Launch} {G : GG} (hG : GOK G) {c_Ma_fromGood : (Nat → Int32)} {c_Ma_given : (Nat → Int32)} {c_Ma_toGood : (Nat → Int32)} {c_Ma_gained : (Nat → Int32)} {c_Ma_count : Int32} {c_Ma_visited : (Nat → Int32)} {c_Ma_trail : (Nat → Int32)} {c_Ma_found : (Nat → Int32)} {c_Ma_foundLength : Int32} {c_Ma_foundAmount : Int64} {c_Ma_goal : Int32} {c_Ma_best : (Nat → Int32)} {c_Ma_bestLength : Int32} {z11 : Z11} {z1211 : Z1211} {z12121 : Z12121} {z1222212 : (Nat → Int32)} {z122222 : Int32} {z2 : Z2} (a1 : Int32) (a2 : Int32) (a3 : Int32) (R : (Int32 × (Nat → Int32) × (Nat → Int32) × (Nat → Int32) × Int32 × Int64 × Int32 × (Nat → Int32) × Int32)) (h : fTL_barter a1 a2 a3 c_Ma_fromGood c_Ma_given c_Ma_toGood c_Ma_gained c_Ma_count c_Ma_visited c_Ma_trail c_Ma_found c_Ma_foundLength c_Ma_foundAmount c_Ma_goal c_Ma_best c_Ma_bestLength = some R) : Met l yTL_barter (.code yTL_barter prog_1_method_21_code 6 (some .int) :: gw) (rmm 12) (PcW G [.ref (ad G 0), .int a1, .int a2, .int a3] ((z11, ((z1211, (z12121, ((c_Ma_fromGood, c_Ma_given), c_Ma_toGood))), ((((c_Ma_gained, c_Ma_count), c_Ma_visited), ((c_Ma_trail, c_Ma_found), c_Ma_foundLength)), (((c_Ma_foundAmount, c_Ma_goal), c_Ma_best), ((c_Ma_bestLength, z1222212), z122222))))), z2)) (Qw G (some (.int R.1)) ((z11, ((z1211, (z12121, ((c_Ma_fromGood, c_Ma_given), c_Ma_toGood))), ((((c_Ma_gained, c_Ma_count), R.2.1), ((R.2.2.1, R.2.2.2.1), R.2.2.2.2.1)), (((R.2.2.2.2.2.1, R.2.2.2.2.2.2.1), R.2.2.2.2.2.2.2.1), ((R.2.2.2.2.2.2.2.2, z1222212), z122222))))), z2)) 0 0 (Aw G) := by
  refine met_of (by decide) 12 G hG _ _ (Nat.le_of_ble_eq_true rfl) _ _ (fun X _ C => ?_)
  have C : Cx G X RcTL prog_1_method_21_code 6 12 (some .int) := C
  unfold fTL_barter at h
  show At G X 6 _ 0 [(0, .ref (ad G 0)), (1, .int a1), (2, .int a2), (3, .int a3)] [] ((z11, ((z1211, (z12121, ((c_Ma_fromGood, c_Ma_given), c_Ma_toGood))), ((((c_Ma_gained, c_Ma_count), c_Ma_visited), ((c_Ma_trail, c_Ma_found), c_Ma_foundLength)), (((c_Ma_foundAmount, c_Ma_goal), c_Ma_best), ((c_Ma_bestLength, z1222212), z122222))))), z2)
  refine at_iload_n (j := 1) C dTL_barter_0 rfl rfl ?_
  refine at_callSi C kTL_95 (cTL_isGood C.2.2.2.2.2.2.1 _ _ rfl) (by omega) rfl rfl (Nat.le_of_ble_eq_true rfl) dTL_barter_1 ?_
  refine at_if_eq C dTL_barter_4 rfl (fun hc => ?_) (fun hc => ?_)
  · replace h := ifp hc h
    refine at_iconst C dTL_barter_30 ci_m1 ?_
    cases h
    exact at_iret C dTL_barter_31
  · replace h := ifn hc h
    refine at_iload_n (j := 3) C dTL_barter_7 rfl rfl ?_
    refine at_callSi C kTL_95 (cTL_isGood C.2.2.2.2.2.2.1 _ _ rfl) (by omega) rfl rfl (Nat.le_of_ble_eq_true rfl) dTL_barter_8 ?_
    refine at_if_eq C dTL_barter_11 rfl (fun hc => ?_) (fun hc => ?_)
    · replace h := ifp hc h
      refine at_iconst C dTL_barter_30 ci_m1 ?_
      cases h
      exact at_iret C dTL_barter_31
    · replace h := ifn hc h
      refine at_iload_n (j := 1) C dTL_barter_14 rfl rfl ?_
      refine at_iload_n (j := 3) C dTL_barter_15 rfl rfl ?_
      refine at_icmp_eq C dTL_barter_16 rfl (fun hc => ?_) (fun hc => ?_)
      · replace h := ifp hc h
        refine at_iconst C dTL_barter_30 ci_m1 ?_
        cases h
        exact at_iret C dTL_barter_31
      · replace h := ifn hc h
        refine at_iload_n (j := 2) C dTL_barter_19 rfl rfl ?_
        refine at_iconst C dTL_barter_20 ci_1 ?_
        refine at_sipush C dTL_barter_21 cs_9999 ?_
        refine at_callSi C kTL_80 (cTL_within C.2.2.2.2.2.2.1 _ _ _ _ rfl) (by omega) rfl rfl (Nat.le_of_ble_eq_true rfl) dTL_barter_24 ?_
        refine at_if_ne C dTL_barter_27 rfl (fun hc => ?_) (fun hc => ?_)
        · replace h := ifn hc h
          refine at_aload_n (j := 0) C dTL_barter_32 rfl rfl ?_
          refine gfTL_markets C dTL_barter_33 ?_
          refine at_iload_n (j := 1) C dTL_barter_36 rfl rfl ?_
          refine at_iload_n (j := 2) C dTL_barter_37 rfl rfl ?_
          refine at_iload_n (j := 3) C dTL_barter_38 rfl rfl ?_
          obtain ⟨e1, he1, h⟩ := ob_some h
          refine at_callVl C kTL_204 (cMa_findBest C.2.2.2.2.2.2.1 _ _ _ _ he1) (by omega) rfl rfl rfl rfl (Nat.le_of_ble_eq_true rfl) dTL_barter_39 ?_
          refine at_lstore (L' := [(4, .long e1.1), (0, .ref (ad G 0)), (1, .int a1), (2, .int a2), (3, .int a3)]) C dTL_barter_42 (by decide) rfl ?_
          refine at_lload (j := 0) C dTL_barter_44 rfl ?_
          refine at_ldc2 C qTL_208 dTL_barter_46 ?_
          refine at_mminL C jTL_210 (by omega) (Nat.le_of_ble_eq_true rfl) dTL_barter_49 ?_
          refine at_l2i C dTL_barter_52 ?_
          cases h
          exact at_iret C dTL_barter_53
        · replace h := ifp hc h
          refine at_iconst C dTL_barter_30 ci_m1 ?_
          cases h
          exact at_iret C dTL_barter_31
set_option maxRecDepth 100000 in
set_option maxHeartbeats 4000000 in
theorem cMa_bestLength {l : Launch} {G : GG} (hG : GOK G) {c_Ma_bestLength : Int32} {z11 : Z11} {z121 : Z121} {z1221 : Z1221} {z12221 : Z12221} {z1222212 : (Nat → Int32)} {z122222 : Int32} {z2 : Z2} (R : Int32) (h : fMa_bestLength c_Ma_bestLength = R) : Met l yMa_bestLength (.code yMa_bestLength prog_5_method_5_code 1 (some .int) :: gw) (rmm 1) (PcW G [.ref (ad G 8)] ((z11, (z121, (z1221, (z12221, ((c_Ma_bestLength, z1222212), z122222))))), z2)) (Qw G (some (.int R)) ((z11, (z121, (z1221, (z12221, ((c_Ma_bestLength, z1222212), z122222))))), z2)) 0 0 (Aw G) := by
  refine met_of (by decide) 1 G hG _ _ (Nat.le_of_ble_eq_true rfl) _ _ (fun X _ C => ?_)
  have C : Cx G X RcMa prog_5_method_5_code 1 1 (some .int) := C
  unfold fMa_bestLength at h
  show At G X 1 _ 0 [(0, .ref (ad G 8))] [] ((z11, (z121, (z1221, (z12221, ((c_Ma_bestLength, z1222212), z122222))))), z2)
  refine at_aload_n (j := 0) C dMa_bestLength_0 rfl rfl ?_
  refine gfMa_bestLength (x := c_Ma_bestLength) C rfl dMa_bestLength_1 ?_
  subst h
  exact at_iret C dMa_bestLength_4
set_option maxRecDepth 100000 in
set_option maxHeartbeats 4000000 in
theorem cMa_bestStep {l : Launch} {G : GG} (hG : GOK G) {c_Ma_best : (Nat → Int32)} {z11 : Z11} {z121 : Z121} {z1221 : Z1221} {z122211 : Z122211} {z12222 : Z12222} {z2 : Z2} (a1 : Int32) (R : Int32) (h : fMa_bestStep a1 c_Ma_best = some R) : Met l yMa_bestStep (.code yMa_bestStep prog_5_method_6_code 2 (some .int) :: gw) (rmm 1) (PcW G [.ref (ad G 8), .int a1] ((z11, (z121, (z1221, ((z122211, c_Ma_best), z12222)))), z2)) (Qw G (some (.int R)) ((z11, (z121, (z1221, ((z122211, c_Ma_best), z12222)))), z2)) 0 0 (Aw G) := by
  refine met_of (by decide) 1 G hG _ _ (Nat.le_of_ble_eq_true rfl) _ _ (fun X _ C => ?_)
  have C : Cx G X RcMa prog_5_method_6_code 2 1 (some .int) := C
  unfold fMa_bestStep at h
  show At G X 2 _ 0 [(0, .ref (ad G 8)), (1, .int a1)] [] ((z11, (z121, (z1221, ((z122211, c_Ma_best), z12222)))), z2)
  refine at_aload_n (j := 0) C dMa_bestStep_0 rfl rfl ?_
  refine gfMa_best C dMa_bestStep_1 ?_
  refine at_iload_n (j := 1) C dMa_bestStep_4 rfl rfl ?_
  obtain ⟨hg1, h⟩ := gd_some h
  refine ldMa_best (f := c_Ma_best) C rfl hg1 dMa_bestStep_5 ?_
  cases h
  exact at_iret C dMa_bestStep_6
set_option maxRecDepth 100000 in
set_option maxHeartbeats 4000000 in
theorem cTL_bartered {l : Launch} {G : GG} (hG : GOK G) {c_Ma_best : (Nat → Int32)} {c_Ma_bestLength : Int32} {z11 : Z11} {z121 : Z121} {z1221 : Z1221} {z122211 : Z122211} {z1222212 : (Nat → Int32)} {z122222 : Int32} {z2 : Z2} (a1 : Int32) (R : Int32) (h : fTL_bartered a1 c_Ma_best c_Ma_bestLength = some R) : Met l yTL_bartered (.code yTL_bartered prog_1_method_22_code 2 (some .int) :: gw) (rmm 2) (PcW G [.ref (ad G 0), .int a1] ((z11, (z121, (z1221, ((z122211, c_Ma_best), ((c_Ma_bestLength, z1222212), z122222))))), z2)) (Qw G (some (.int R)) ((z11, (z121, (z1221, ((z122211, c_Ma_best), ((c_Ma_bestLength, z1222212), z122222))))), z2)) 0 0 (Aw G) := by
  refine met_of (by decide) 2 G hG _ _ (Nat.le_of_ble_eq_true rfl) _ _ (fun X _ C => ?_)
  have C : Cx G X RcTL prog_1_method_22_code 2 2 (some .int) := C
  unfold fTL_bartered at h
  show At G X 2 _ 0 [(0, .ref (ad G 0)), (1, .int a1)] [] ((z11, (z121, (z1221, ((z122211, c_Ma_best), ((c_Ma_bestLength, z1222212), z122222))))), z2)
  refine at_iload_n (j := 1) C dTL_bartered_0 rfl rfl ?_
  refine at_iconst C dTL_bartered_1 ci_0 ?_
  refine at_aload_n (j := 0) C dTL_bartered_2 rfl rfl ?_
  refine gfTL_markets C dTL_bartered_3 ?_
  refine at_callVi C kTL_216 (cMa_bestLength C.2.2.2.2.2.2.1 _ rfl) (by omega) rfl rfl rfl rfl (Nat.le_of_ble_eq_true rfl) dTL_bartered_6 ?_
  refine at_iconst C dTL_bartered_9 ci_1 ?_
  refine at_isub C dTL_bartered_10 ?_
  refine at_callSi C kTL_80 (cTL_within C.2.2.2.2.2.2.1 _ _ _ _ rfl) (by omega) rfl rfl (Nat.le_of_ble_eq_true rfl) dTL_bartered_11 ?_
  refine at_if_eq C dTL_bartered_14 rfl (fun hc => ?_) (fun hc => ?_)
  · replace h := ifp hc h
    refine at_iconst C dTL_bartered_28 ci_m1 ?_
    cases h
    exact at_iret C dTL_bartered_29
  · replace h := ifn hc h
    refine at_aload_n (j := 0) C dTL_bartered_17 rfl rfl ?_
    refine gfTL_markets C dTL_bartered_18 ?_
    refine at_iload_n (j := 1) C dTL_bartered_21 rfl rfl ?_
    obtain ⟨e1, he1, h⟩ := ob_some h
    refine at_callVi C kTL_219 (cMa_bestStep C.2.2.2.2.2.2.1 _ _ he1) (by omega) rfl rfl rfl rfl (Nat.le_of_ble_eq_true rfl) dTL_bartered_22 ?_
    refine at_goto C dTL_bartered_25 rfl ?_
    cases h
    exact at_iret C dTL_bartered_29
set_option maxRecDepth 100000 in
set_option maxHeartbeats 4000000 in
theorem cSh_setYield {l : Launch} {G : GG} (hG : GOK G) {c_Sh_yieldOf : (Nat → Int32)} {z11 : Z11} {z121 : Z121} {z1221 : Z1221} {z12221 : Z12221} {z1222211 : Int32} {z122222 : Int32} {z2 : Z2} (a1 : Int32) (a2 : Int32) (R : (Nat → Int32)) (h : fSh_setYield a1 a2 c_Sh_yieldOf = some R) : Met l ySh_setYield (.code ySh_setYield prog_9_method_2_code 3 none :: gw) (rmm 1) (PcW G [.ref (ad G 9), .int a1, .int a2] ((z11, (z121, (z1221, (z12221, ((z1222211, c_Sh_yieldOf), z122222))))), z2)) (Qw G (none) ((z11, (z121, (z1221, (z12221, ((z1222211, R), z122222))))), z2)) 0 0 (Aw G) := by
  refine met_of (by decide) 1 G hG _ _ (Nat.le_of_ble_eq_true rfl) _ _ (fun X _ C => ?_)
  have C : Cx G X RcSh prog_9_method_2_code 3 1 none := C
  unfold fSh_setYield at h
  show At G X 3 _ 0 [(0, .ref (ad G 9)), (1, .int a1), (2, .int a2)] [] ((z11, (z121, (z1221, (z12221, ((z1222211, c_Sh_yieldOf), z122222))))), z2)
  refine at_aload_n (j := 0) C dSh_setYield_0 rfl rfl ?_
  refine gfSh_yieldOf C dSh_setYield_1 ?_
  refine at_iload_n (j := 1) C dSh_setYield_4 rfl rfl ?_
  refine at_iload_n (j := 2) C dSh_setYield_5 rfl rfl ?_
  obtain ⟨hg1, h⟩ := gd_some h
  refine svSh_yieldOf C hg1 dSh_setYield_6 ?_
  refine at_st (S1 := ((z11, (z121, (z1221, (z12221, ((z1222211, (upd c_Sh_yieldOf (a1).toNatClampNeg a2)), z122222))))), z2)) rfl ?_
  cases h
  exact at_vret C dSh_setYield_7
set_option maxRecDepth 100000 in
set_option maxHeartbeats 4000000 in
theorem cTL_yields {l : Launch} {G : GG} (hG : GOK G) {c_Sh_yieldOf : (Nat → Int32)} {z11 : Z11} {z121 : Z121} {z1221 : Z1221} {z12221 : Z12221} {z1222211 : Int32} {z122222 : Int32} {z2 : Z2} (a1 : Int32) (a2 : Int32) (R : (Int32 × (Nat → Int32))) (h : fTL_yields a1 a2 c_Sh_yieldOf = some R) : Met l yTL_yields (.code yTL_yields prog_1_method_23_code 3 (some .boolean) :: gw) (rmm 3) (PcW G [.ref (ad G 0), .int a1, .int a2] ((z11, (z121, (z1221, (z12221, ((z1222211, c_Sh_yieldOf), z122222))))), z2)) (Qw G (some (.int R.1)) ((z11, (z121, (z1221, (z12221, ((z1222211, R.2), z122222))))), z2)) 0 0 (Aw G) := by
  refine met_of (by decide) 3 G hG _ _ (Nat.le_of_ble_eq_true rfl) _ _ (fun X _ C => ?_)
  have C : Cx G X RcTL prog_1_method_23_code 3 3 (some .boolean) := C
  unfold fTL_yields at h
  show At G X 3 _ 0 [(0, .ref (ad G 0)), (1, .int a1), (2, .int a2)] [] ((z11, (z121, (z1221, (z12221, ((z1222211, c_Sh_yieldOf), z122222))))), z2)
  refine at_iload_n (j := 1) C dTL_yields_0 rfl rfl ?_
  refine at_callSi C kTL_144 (cTL_isTown C.2.2.2.2.2.2.1 _ _ rfl) (by omega) rfl rfl (Nat.le_of_ble_eq_true rfl) dTL_yields_1 ?_
  refine at_if_eq C dTL_yields_4 rfl (fun hc => ?_) (fun hc => ?_)
  · replace h := ifp hc h
    refine at_iconst C dTL_yields_18 ci_0 ?_
    cases h
    exact at_zret (x := (0 : Int32)) C zn_0 dTL_yields_19
  · replace h := ifn hc h
    refine at_iload_n (j := 2) C dTL_yields_7 rfl rfl ?_
    refine at_iconst C dTL_yields_8 ci_0 ?_
    refine at_sipush C dTL_yields_9 cs_10000 ?_
    refine at_callSi C kTL_80 (cTL_within C.2.2.2.2.2.2.1 _ _ _ _ rfl) (by omega) rfl rfl (Nat.le_of_ble_eq_true rfl) dTL_yields_12 ?_
    refine at_if_ne C dTL_yields_15 rfl (fun hc => ?_) (fun hc => ?_)
    · replace h := ifn hc h
      refine at_aload_n (j := 0) C dTL_yields_20 rfl rfl ?_
      refine gfTL_shares C dTL_yields_21 ?_
      refine at_iload_n (j := 1) C dTL_yields_24 rfl rfl ?_
      refine at_iload_n (j := 2) C dTL_yields_25 rfl rfl ?_
      obtain ⟨e1, he1, h⟩ := ob_some h
      refine at_callVv C kTL_222 (cSh_setYield C.2.2.2.2.2.2.1 _ _ _ he1) (by omega) rfl rfl rfl rfl (Nat.le_of_ble_eq_true rfl) dTL_yields_26 ?_
      refine at_iconst C dTL_yields_29 ci_1 ?_
      cases h
      exact at_zret (x := (1 : Int32)) C zn_1 dTL_yields_30
    · replace h := ifp hc h
      refine at_iconst C dTL_yields_18 ci_0 ?_
      cases h
      exact at_zret (x := (0 : Int32)) C zn_0 dTL_yields_19
set_option maxRecDepth 100000 in
set_option maxHeartbeats 4000000 in
theorem wSh_allYields_l4 {G : GG} {X : CX} {c_Sh_yieldOf : (Nat → Int32)} {z11 : Z11} {z121 : Z121} {z1221 : Z1221} {z12221 : Z12221} {z1222211 : Int32} {z122222 : Int32} {z2 : Z2} (C : Cx G X RcSh prog_9_method_4_code 3 1 (some .int)) {Q : State → Prop}  : ∀ (n : Nat) (a1 : Int32) (a2 : Int32) (E : Int32) (h : fSh_allYields_l4 c_Sh_yieldOf n a1 a2 = some E) (k0 : At G X 3 Q 25 [(1, .int E)] [] ((z11, (z121, (z1221, (z12221, ((z1222211, c_Sh_yieldOf), z122222))))), z2)), At G X 3 Q 4 [(0, .ref (ad G 9)), (1, .int a1), (2, .int a2)] [] ((z11, (z121, (z1221, (z12221, ((z1222211, c_Sh_yieldOf), z122222))))), z2) := by
  intro n
  induction n with
  | zero =>
    intro a1 a2 E h k0
    rw [fSh_allYields_l4.eq_1] at h
    cases h
  | succ n ih =>
    intro a1 a2 E h k0
    rw [fSh_allYields_l4.eq_2] at h
    refine at_iload_n (j := 2) C dSh_allYields_4 rfl rfl ?_
    refine at_bipush C dSh_allYields_5 cb_16 ?_
    refine at_icmp_ge C dSh_allYields_7 rfl (fun hc => ?_) (fun hc => ?_)
    · replace h := ifp hc h
      cases h
      refine at_loc (L' := [(1, .int a1)]) [1] rfl ?_
      exact k0
    · replace h := ifn hc h
      refine at_iload_n (j := 1) C dSh_allYields_10 rfl rfl ?_
      refine at_aload_n (j := 0) C dSh_allYields_11 rfl rfl ?_
      refine gfSh_yieldOf C dSh_allYields_12 ?_
      refine at_iload_n (j := 2) C dSh_allYields_15 rfl rfl ?_
      obtain ⟨hg1, h⟩ := gd_some h
      refine ldSh_yieldOf (f := c_Sh_yieldOf) C rfl hg1 dSh_allYields_16 ?_
      refine at_iadd C dSh_allYields_17 ?_
      refine at_istore_n (L' := [(1, .int (a1 + (c_Sh_yieldOf (a2).toNatClampNeg))), (0, .ref (ad G 9)), (2, .int a2)]) C dSh_allYields_18 rfl (by decide) rfl ?_
      refine at_iinc (j := 2) (L' := [(2, .int (a2 + (1 : Int32))), (1, .int (a1 + (c_Sh_yieldOf (a2).toNatClampNeg))), (0, .ref (ad G 9))]) C dSh_allYields_19 rfl ci_1 (by decide) rfl ?_
      refine at_goto C dSh_allYields_22 rfl ?_
      refine at_loc (L' := [(0, .ref (ad G 9)), (1, .int (a1 + (c_Sh_yieldOf (a2).toNatClampNeg))), (2, .int (a2 + (1 : Int32)))]) [2, 1, 0] rfl ?_
      exact ih _ _ _ h k0
set_option maxRecDepth 100000 in
set_option maxHeartbeats 4000000 in
theorem cSh_allYields {l : Launch} {G : GG} (hG : GOK G) {c_Sh_yieldOf : (Nat → Int32)} {z11 : Z11} {z121 : Z121} {z1221 : Z1221} {z12221 : Z12221} {z1222211 : Int32} {z122222 : Int32} {z2 : Z2} (R : Int32) (h : fSh_allYields c_Sh_yieldOf = some R) : Met l ySh_allYields (.code ySh_allYields prog_9_method_4_code 3 (some .int) :: gw) (rmm 1) (PcW G [.ref (ad G 9)] ((z11, (z121, (z1221, (z12221, ((z1222211, c_Sh_yieldOf), z122222))))), z2)) (Qw G (some (.int R)) ((z11, (z121, (z1221, (z12221, ((z1222211, c_Sh_yieldOf), z122222))))), z2)) 0 0 (Aw G) := by
  refine met_of (by decide) 1 G hG _ _ (Nat.le_of_ble_eq_true rfl) _ _ (fun X _ C => ?_)
  have C : Cx G X RcSh prog_9_method_4_code 3 1 (some .int) := C
  unfold fSh_allYields at h
  show At G X 3 _ 0 [(0, .ref (ad G 9))] [] ((z11, (z121, (z1221, (z12221, ((z1222211, c_Sh_yieldOf), z122222))))), z2)
  refine at_iconst C dSh_allYields_0 ci_0 ?_
  refine at_istore_n (L' := [(1, .int (0 : Int32)), (0, .ref (ad G 9))]) C dSh_allYields_1 rfl (by decide) rfl ?_
  refine at_iconst C dSh_allYields_2 ci_1 ?_
  refine at_istore_n (L' := [(2, .int (1 : Int32)), (1, .int (0 : Int32)), (0, .ref (ad G 9))]) C dSh_allYields_3 rfl (by decide) rfl ?_
  obtain ⟨e2, he2, h⟩ := ob_some h
  refine at_loc (L' := [(0, .ref (ad G 9)), (1, .int (0 : Int32)), (2, .int (1 : Int32))]) [2, 1, 0] rfl ?_
  refine wSh_allYields_l4 C FU _ _ _ he2 ?_
  refine at_iload_n (j := 0) C dSh_allYields_25 rfl rfl ?_
  cases h
  exact at_iret C dSh_allYields_26
set_option maxRecDepth 100000 in
set_option maxHeartbeats 4000000 in
theorem wSh_shareOf_l35 {G : GG} {X : CX} {c_Sh_yieldOf : (Nat → Int32)} {z11 : Z11} {z121 : Z121} {z1221 : Z1221} {z12221 : Z12221} {z1222211 : Int32} {z122222 : Int32} {z2 : Z2} (C : Cx G X RcSh prog_9_method_3_code 13 2 (some .int)) {Q : State → Prop}  (a1 : Int32) (a2 : Int32) (a3 : Int32) (a6 : Int64) : ∀ (n : Nat) (a4 : Int32) (a5 : Int32) (a8 : Int32) (E : (Int32 × Int32)) (h : fSh_shareOf_l35 a1 a2 a3 a6 c_Sh_yieldOf n a4 a5 a8 = some E) (k0 : At G X 13 Q 104 [(0, .ref (ad G 9)), (1, .int a1), (2, .int a2), (3, .int a3), (4, .int E.1), (5, .int E.2)] [] ((z11, (z121, (z1221, (z12221, ((z1222211, c_Sh_yieldOf), z122222))))), z2)), At G X 13 Q 35 [(0, .ref (ad G 9)), (1, .int a1), (2, .int a2), (3, .int a3), (4, .int a4), (5, .int a5), (6, .long a6), (8, .int a8)] [] ((z11, (z121, (z1221, (z12221, ((z1222211, c_Sh_yieldOf), z122222))))), z2) := by
  intro n
  induction n with
  | zero =>
    intro a4 a5 a8 E h k0
    rw [fSh_shareOf_l35.eq_1] at h
    cases h
  | succ n ih =>
    intro a4 a5 a8 E h k0
    rw [fSh_shareOf_l35.eq_2] at h
    refine at_iload (j := 7) C dSh_shareOf_35 rfl ?_
    refine at_bipush C dSh_shareOf_37 cb_16 ?_
    refine at_icmp_ge C dSh_shareOf_39 rfl (fun hc => ?_) (fun hc => ?_)
    · replace h := ifp hc h
      cases h
      refine at_loc (L' := [(0, .ref (ad G 9)), (1, .int a1), (2, .int a2), (3, .int a3), (4, .int a4), (5, .int a5)]) [0, 1, 2, 3, 4, 5] rfl ?_
      exact k0
    · replace h := ifn hc h
      refine at_iload_n (j := 1) C dSh_shareOf_42 rfl rfl ?_
      refine at_i2l C dSh_shareOf_43 ?_
      refine at_aload_n (j := 0) C dSh_shareOf_44 rfl rfl ?_
      refine gfSh_yieldOf C dSh_shareOf_45 ?_
      refine at_iload (j := 7) C dSh_shareOf_48 rfl ?_
      obtain ⟨hg4, h⟩ := gd_some h
      refine ldSh_yieldOf (f := c_Sh_yieldOf) C rfl hg4 dSh_shareOf_50 ?_
      refine at_i2l C dSh_shareOf_51 ?_
      refine at_lmul C dSh_shareOf_52 ?_
      refine at_lstore (L' := [(9, .long ((a1).toInt64 * ((c_Sh_yieldOf (a8).toNatClampNeg)).toInt64)), (0, .ref (ad G 9)), (1, .int a1), (2, .int a2), (3, .int a3), (4, .int a4), (5, .int a5), (6, .long a6), (8, .int a8)]) C dSh_shareOf_53 (by decide) rfl ?_
      refine at_iload (j := 5) C dSh_shareOf_55 rfl ?_
      refine at_lload (j := 0) C dSh_shareOf_57 rfl ?_
      refine at_iload_n (j := 4) C dSh_shareOf_59 rfl rfl ?_
      refine at_i2l C dSh_shareOf_60 ?_
      obtain ⟨hg5, h⟩ := gd_some h
      refine at_ldiv C dSh_shareOf_61 hg5 ?_
      refine at_l2i C dSh_shareOf_62 ?_
      refine at_isub C dSh_shareOf_63 ?_
      refine at_istore (L' := [(4, .int (a4 - ((((a1).toInt64 * ((c_Sh_yieldOf (a8).toNatClampNeg)).toInt64) / (a3).toInt64)).toInt32)), (9, .long ((a1).toInt64 * ((c_Sh_yieldOf (a8).toNatClampNeg)).toInt64)), (0, .ref (ad G 9)), (1, .int a1), (2, .int a2), (3, .int a3), (5, .int a5), (6, .long a6), (8, .int a8)]) C dSh_shareOf_64 (by decide) rfl ?_
      refine at_lload (j := 1) C dSh_shareOf_66 rfl ?_
      refine at_iload_n (j := 5) C dSh_shareOf_68 rfl rfl ?_
      refine at_i2l C dSh_shareOf_69 ?_
      obtain ⟨hg6, h⟩ := gd_some h
      refine at_lrem C dSh_shareOf_70 hg6 ?_
      refine at_lstore (L' := [(11, .long (((a1).toInt64 * ((c_Sh_yieldOf (a8).toNatClampNeg)).toInt64) - ((a1).toInt64 * ((c_Sh_yieldOf (a8).toNatClampNeg)).toInt64) / (a3).toInt64 * (a3).toInt64)), (4, .int (a4 - ((((a1).toInt64 * ((c_Sh_yieldOf (a8).toNatClampNeg)).toInt64) / (a3).toInt64)).toInt32)), (9, .long ((a1).toInt64 * ((c_Sh_yieldOf (a8).toNatClampNeg)).toInt64)), (0, .ref (ad G 9)), (1, .int a1), (2, .int a2), (3, .int a3), (5, .int a5), (6, .long a6), (8, .int a8)]) C dSh_shareOf_71 (by decide) rfl ?_
      refine at_lload (j := 0) C dSh_shareOf_73 rfl ?_
      refine at_lload (j := 8) C dSh_shareOf_75 rfl ?_
      refine at_lcmp C dSh_shareOf_77 ?_
      refine at_if_gt C dSh_shareOf_78 rfl (fun hc => ?_) (fun hc => ?_)
      · replace h := ifp hc h
        refine at_iinc (j := 7) (L' := [(5, .int (a5 + (1 : Int32))), (11, .long (((a1).toInt64 * ((c_Sh_yieldOf (a8).toNatClampNeg)).toInt64) - ((a1).toInt64 * ((c_Sh_yieldOf (a8).toNatClampNeg)).toInt64) / (a3).toInt64 * (a3).toInt64)), (4, .int (a4 - ((((a1).toInt64 * ((c_Sh_yieldOf (a8).toNatClampNeg)).toInt64) / (a3).toInt64)).toInt32)), (9, .long ((a1).toInt64 * ((c_Sh_yieldOf (a8).toNatClampNeg)).toInt64)), (0, .ref (ad G 9)), (1, .int a1), (2, .int a2), (3, .int a3), (6, .long a6), (8, .int a8)]) C dSh_shareOf_95 rfl ci_1 (by decide) rfl ?_
        refine at_iinc (j := 9) (L' := [(8, .int (a8 + (1 : Int32))), (5, .int (a5 + (1 : Int32))), (11, .long (((a1).toInt64 * ((c_Sh_yieldOf (a8).toNatClampNeg)).toInt64) - ((a1).toInt64 * ((c_Sh_yieldOf (a8).toNatClampNeg)).toInt64) / (a3).toInt64 * (a3).toInt64)), (4, .int (a4 - ((((a1).toInt64 * ((c_Sh_yieldOf (a8).toNatClampNeg)).toInt64) / (a3).toInt64)).toInt32)), (9, .long ((a1).toInt64 * ((c_Sh_yieldOf (a8).toNatClampNeg)).toInt64)), (0, .ref (ad G 9)), (1, .int a1), (2, .int a2), (3, .int a3), (6, .long a6)]) C dSh_shareOf_98 rfl ci_1 (by decide) rfl ?_
        refine at_goto C dSh_shareOf_101 rfl ?_
        refine at_loc (L' := [(0, .ref (ad G 9)), (1, .int a1), (2, .int a2), (3, .int a3), (4, .int (a4 - ((((a1).toInt64 * ((c_Sh_yieldOf (a8).toNatClampNeg)).toInt64) / (a3).toInt64)).toInt32)), (5, .int (a5 + (1 : Int32))), (6, .long a6), (8, .int (a8 + (1 : Int32)))]) [5, 6, 7, 8, 3, 1, 9, 0] rfl ?_
        exact ih _ _ _ _ h k0
      · replace h := ifn hc h
        refine at_lload (j := 0) C dSh_shareOf_81 rfl ?_
        refine at_lload (j := 8) C dSh_shareOf_83 rfl ?_
        refine at_lcmp C dSh_shareOf_85 ?_
        refine at_if_ne C dSh_shareOf_86 rfl (fun hc => ?_) (fun hc => ?_)
        · replace h := ifn hc h
          refine at_iinc (j := 9) (L' := [(8, .int (a8 + (1 : Int32))), (11, .long (((a1).toInt64 * ((c_Sh_yieldOf (a8).toNatClampNeg)).toInt64) - ((a1).toInt64 * ((c_Sh_yieldOf (a8).toNatClampNeg)).toInt64) / (a3).toInt64 * (a3).toInt64)), (4, .int (a4 - ((((a1).toInt64 * ((c_Sh_yieldOf (a8).toNatClampNeg)).toInt64) / (a3).toInt64)).toInt32)), (9, .long ((a1).toInt64 * ((c_Sh_yieldOf (a8).toNatClampNeg)).toInt64)), (0, .ref (ad G 9)), (1, .int a1), (2, .int a2), (3, .int a3), (5, .int a5), (6, .long a6)]) C dSh_shareOf_98 rfl ci_1 (by decide) rfl ?_
          refine at_goto C dSh_shareOf_101 rfl ?_
          refine at_loc (L' := [(0, .ref (ad G 9)), (1, .int a1), (2, .int a2), (3, .int a3), (4, .int (a4 - ((((a1).toInt64 * ((c_Sh_yieldOf (a8).toNatClampNeg)).toInt64) / (a3).toInt64)).toInt32)), (5, .int a5), (6, .long a6), (8, .int (a8 + (1 : Int32)))]) [4, 5, 6, 7, 2, 8, 9, 0] rfl ?_
          exact ih _ _ _ _ h k0
        · replace h := ifp hc h
          refine at_iload (j := 9) C dSh_shareOf_89 rfl ?_
          refine at_iload_n (j := 5) C dSh_shareOf_91 rfl rfl ?_
          refine at_icmp_ge C dSh_shareOf_92 rfl (fun hc => ?_) (fun hc => ?_)
          · replace h := ifp hc h
            refine at_iinc (j := 9) (L' := [(8, .int (a8 + (1 : Int32))), (11, .long (((a1).toInt64 * ((c_Sh_yieldOf (a8).toNatClampNeg)).toInt64) - ((a1).toInt64 * ((c_Sh_yieldOf (a8).toNatClampNeg)).toInt64) / (a3).toInt64 * (a3).toInt64)), (4, .int (a4 - ((((a1).toInt64 * ((c_Sh_yieldOf (a8).toNatClampNeg)).toInt64) / (a3).toInt64)).toInt32)), (9, .long ((a1).toInt64 * ((c_Sh_yieldOf (a8).toNatClampNeg)).toInt64)), (0, .ref (ad G 9)), (1, .int a1), (2, .int a2), (3, .int a3), (5, .int a5), (6, .long a6)]) C dSh_shareOf_98 rfl ci_1 (by decide) rfl ?_
            refine at_goto C dSh_shareOf_101 rfl ?_
            refine at_loc (L' := [(0, .ref (ad G 9)), (1, .int a1), (2, .int a2), (3, .int a3), (4, .int (a4 - ((((a1).toInt64 * ((c_Sh_yieldOf (a8).toNatClampNeg)).toInt64) / (a3).toInt64)).toInt32)), (5, .int a5), (6, .long a6), (8, .int (a8 + (1 : Int32)))]) [4, 5, 6, 7, 2, 8, 9, 0] rfl ?_
            exact ih _ _ _ _ h k0
          · replace h := ifn hc h
            refine at_iinc (j := 7) (L' := [(5, .int (a5 + (1 : Int32))), (11, .long (((a1).toInt64 * ((c_Sh_yieldOf (a8).toNatClampNeg)).toInt64) - ((a1).toInt64 * ((c_Sh_yieldOf (a8).toNatClampNeg)).toInt64) / (a3).toInt64 * (a3).toInt64)), (4, .int (a4 - ((((a1).toInt64 * ((c_Sh_yieldOf (a8).toNatClampNeg)).toInt64) / (a3).toInt64)).toInt32)), (9, .long ((a1).toInt64 * ((c_Sh_yieldOf (a8).toNatClampNeg)).toInt64)), (0, .ref (ad G 9)), (1, .int a1), (2, .int a2), (3, .int a3), (6, .long a6), (8, .int a8)]) C dSh_shareOf_95 rfl ci_1 (by decide) rfl ?_
            refine at_iinc (j := 9) (L' := [(8, .int (a8 + (1 : Int32))), (5, .int (a5 + (1 : Int32))), (11, .long (((a1).toInt64 * ((c_Sh_yieldOf (a8).toNatClampNeg)).toInt64) - ((a1).toInt64 * ((c_Sh_yieldOf (a8).toNatClampNeg)).toInt64) / (a3).toInt64 * (a3).toInt64)), (4, .int (a4 - ((((a1).toInt64 * ((c_Sh_yieldOf (a8).toNatClampNeg)).toInt64) / (a3).toInt64)).toInt32)), (9, .long ((a1).toInt64 * ((c_Sh_yieldOf (a8).toNatClampNeg)).toInt64)), (0, .ref (ad G 9)), (1, .int a1), (2, .int a2), (3, .int a3), (6, .long a6)]) C dSh_shareOf_98 rfl ci_1 (by decide) rfl ?_
            refine at_goto C dSh_shareOf_101 rfl ?_
            refine at_loc (L' := [(0, .ref (ad G 9)), (1, .int a1), (2, .int a2), (3, .int a3), (4, .int (a4 - ((((a1).toInt64 * ((c_Sh_yieldOf (a8).toNatClampNeg)).toInt64) / (a3).toInt64)).toInt32)), (5, .int (a5 + (1 : Int32))), (6, .long a6), (8, .int (a8 + (1 : Int32)))]) [5, 6, 7, 8, 3, 1, 9, 0] rfl ?_
            exact ih _ _ _ _ h k0
set_option maxRecDepth 100000 in
set_option maxHeartbeats 4000000 in
theorem cSh_shareOf {l : Launch} {G : GG} (hG : GOK G) {c_Sh_yieldOf : (Nat → Int32)} {z11 : Z11} {z121 : Z121} {z1221 : Z1221} {z12221 : Z12221} {z1222211 : Int32} {z122222 : Int32} {z2 : Z2} (a1 : Int32) (a2 : Int32) (R : Int32) (h : fSh_shareOf a1 a2 c_Sh_yieldOf = some R) : Met l ySh_shareOf (.code ySh_shareOf prog_9_method_3_code 13 (some .int) :: gw) (rmm 2) (PcW G [.ref (ad G 9), .int a1, .int a2] ((z11, (z121, (z1221, (z12221, ((z1222211, c_Sh_yieldOf), z122222))))), z2)) (Qw G (some (.int R)) ((z11, (z121, (z1221, (z12221, ((z1222211, c_Sh_yieldOf), z122222))))), z2)) 0 0 (Aw G) := by
  refine met_of (by decide) 2 G hG _ _ (Nat.le_of_ble_eq_true rfl) _ _ (fun X _ C => ?_)
  have C : Cx G X RcSh prog_9_method_3_code 13 2 (some .int) := C
  unfold fSh_shareOf at h
  show At G X 13 _ 0 [(0, .ref (ad G 9)), (1, .int a1), (2, .int a2)] [] ((z11, (z121, (z1221, (z12221, ((z1222211, c_Sh_yieldOf), z122222))))), z2)
  refine at_aload_n (j := 0) C dSh_shareOf_0 rfl rfl ?_
  obtain ⟨e1, he1, h⟩ := ob_some h
  refine at_callVi C kSh_15 (cSh_allYields C.2.2.2.2.2.2.1 _ he1) (by omega) rfl rfl rfl rfl (Nat.le_of_ble_eq_true rfl) dSh_shareOf_1 ?_
  refine at_istore_n (L' := [(3, .int e1), (0, .ref (ad G 9)), (1, .int a1), (2, .int a2)]) C dSh_shareOf_4 rfl (by decide) rfl ?_
  refine at_iload_n (j := 0) C dSh_shareOf_5 rfl rfl ?_
  refine at_if_gt C dSh_shareOf_6 rfl (fun hc => ?_) (fun hc => ?_)
  · replace h := ifp hc h
    refine at_iload_n (j := 2) C dSh_shareOf_11 rfl rfl ?_
    refine at_istore (L' := [(4, .int a1), (3, .int e1), (0, .ref (ad G 9)), (1, .int a1), (2, .int a2)]) C dSh_shareOf_12 (by decide) rfl ?_
    refine at_iconst C dSh_shareOf_14 ci_0 ?_
    refine at_istore (L' := [(5, .int (0 : Int32)), (4, .int a1), (3, .int e1), (0, .ref (ad G 9)), (1, .int a1), (2, .int a2)]) C dSh_shareOf_15 (by decide) rfl ?_
    refine at_iload_n (j := 4) C dSh_shareOf_17 rfl rfl ?_
    refine at_i2l C dSh_shareOf_18 ?_
    refine at_aload_n (j := 3) C dSh_shareOf_19 rfl rfl ?_
    refine gfSh_yieldOf C dSh_shareOf_20 ?_
    refine at_iload_n (j := 5) C dSh_shareOf_23 rfl rfl ?_
    obtain ⟨hg2, h⟩ := gd_some h
    refine ldSh_yieldOf (f := c_Sh_yieldOf) C rfl hg2 dSh_shareOf_24 ?_
    refine at_i2l C dSh_shareOf_25 ?_
    refine at_lmul C dSh_shareOf_26 ?_
    refine at_iload_n (j := 2) C dSh_shareOf_27 rfl rfl ?_
    refine at_i2l C dSh_shareOf_28 ?_
    obtain ⟨hg3, h⟩ := gd_some h
    refine at_lrem C dSh_shareOf_29 hg3 ?_
    refine at_lstore (L' := [(6, .long (((a1).toInt64 * ((c_Sh_yieldOf (a2).toNatClampNeg)).toInt64) - ((a1).toInt64 * ((c_Sh_yieldOf (a2).toNatClampNeg)).toInt64) / (e1).toInt64 * (e1).toInt64)), (5, .int (0 : Int32)), (4, .int a1), (3, .int e1), (0, .ref (ad G 9)), (1, .int a1), (2, .int a2)]) C dSh_shareOf_30 (by decide) rfl ?_
    refine at_iconst C dSh_shareOf_32 ci_1 ?_
    refine at_istore (L' := [(8, .int (1 : Int32)), (6, .long (((a1).toInt64 * ((c_Sh_yieldOf (a2).toNatClampNeg)).toInt64) - ((a1).toInt64 * ((c_Sh_yieldOf (a2).toNatClampNeg)).toInt64) / (e1).toInt64 * (e1).toInt64)), (5, .int (0 : Int32)), (4, .int a1), (3, .int e1), (0, .ref (ad G 9)), (1, .int a1), (2, .int a2)]) C dSh_shareOf_33 (by decide) rfl ?_
    obtain ⟨e7, he7, h⟩ := ob_some h
    refine at_loc (L' := [(0, .ref (ad G 9)), (1, .int a1), (2, .int a2), (3, .int e1), (4, .int a1), (5, .int (0 : Int32)), (6, .long (((a1).toInt64 * ((c_Sh_yieldOf (a2).toNatClampNeg)).toInt64) - ((a1).toInt64 * ((c_Sh_yieldOf (a2).toNatClampNeg)).toInt64) / (e1).toInt64 * (e1).toInt64)), (8, .int (1 : Int32))]) [5, 6, 7, 4, 3, 2, 1, 0] rfl ?_
    refine wSh_shareOf_l35 C _ _ _ _ FU _ _ _ _ he7 ?_
    refine at_iload_n (j := 1) C dSh_shareOf_104 rfl rfl ?_
    refine at_i2l C dSh_shareOf_105 ?_
    refine at_aload_n (j := 0) C dSh_shareOf_106 rfl rfl ?_
    refine gfSh_yieldOf C dSh_shareOf_107 ?_
    refine at_iload_n (j := 2) C dSh_shareOf_110 rfl rfl ?_
    obtain ⟨hg8, h⟩ := gd_some h
    refine ldSh_yieldOf (f := c_Sh_yieldOf) C rfl hg8 dSh_shareOf_111 ?_
    refine at_i2l C dSh_shareOf_112 ?_
    refine at_lmul C dSh_shareOf_113 ?_
    refine at_iload_n (j := 3) C dSh_shareOf_114 rfl rfl ?_
    refine at_i2l C dSh_shareOf_115 ?_
    obtain ⟨hg9, h⟩ := gd_some h
    refine at_ldiv C dSh_shareOf_116 hg9 ?_
    refine at_l2i C dSh_shareOf_117 ?_
    refine at_istore (L' := [(8, .int ((((a1).toInt64 * ((c_Sh_yieldOf (a2).toNatClampNeg)).toInt64) / (e1).toInt64)).toInt32), (0, .ref (ad G 9)), (1, .int a1), (2, .int a2), (3, .int e1), (4, .int e7.1), (5, .int e7.2)]) C dSh_shareOf_118 (by decide) rfl ?_
    refine at_iload (j := 6) C dSh_shareOf_120 rfl ?_
    refine at_iload (j := 5) C dSh_shareOf_122 rfl ?_
    refine at_icmp_ge C dSh_shareOf_124 rfl (fun hc => ?_) (fun hc => ?_)
    · replace h := ifp hc h
      refine at_iload (j := 0) C dSh_shareOf_134 rfl ?_
      cases h
      exact at_iret C dSh_shareOf_136
    · replace h := ifn hc h
      refine at_iload (j := 0) C dSh_shareOf_127 rfl ?_
      refine at_iconst C dSh_shareOf_129 ci_1 ?_
      refine at_iadd C dSh_shareOf_130 ?_
      refine at_goto C dSh_shareOf_131 rfl ?_
      cases h
      exact at_iret C dSh_shareOf_136
  · replace h := ifn hc h
    refine at_iconst C dSh_shareOf_9 ci_m1 ?_
    cases h
    exact at_iret C dSh_shareOf_10
set_option maxRecDepth 100000 in
set_option maxHeartbeats 4000000 in
theorem cTL_parted {l : Launch} {G : GG} (hG : GOK G) {c_Sh_yieldOf : (Nat → Int32)} {z11 : Z11} {z121 : Z121} {z1221 : Z1221} {z12221 : Z12221} {z1222211 : Int32} {z122222 : Int32} {z2 : Z2} (a1 : Int32) (a2 : Int32) (R : Int32) (h : fTL_parted a1 a2 c_Sh_yieldOf = some R) : Met l yTL_parted (.code yTL_parted prog_1_method_24_code 3 (some .int) :: gw) (rmm 3) (PcW G [.ref (ad G 0), .int a1, .int a2] ((z11, (z121, (z1221, (z12221, ((z1222211, c_Sh_yieldOf), z122222))))), z2)) (Qw G (some (.int R)) ((z11, (z121, (z1221, (z12221, ((z1222211, c_Sh_yieldOf), z122222))))), z2)) 0 0 (Aw G) := by
  refine met_of (by decide) 3 G hG _ _ (Nat.le_of_ble_eq_true rfl) _ _ (fun X _ C => ?_)
  have C : Cx G X RcTL prog_1_method_24_code 3 3 (some .int) := C
  unfold fTL_parted at h
  show At G X 3 _ 0 [(0, .ref (ad G 0)), (1, .int a1), (2, .int a2)] [] ((z11, (z121, (z1221, (z12221, ((z1222211, c_Sh_yieldOf), z122222))))), z2)
  refine at_iload_n (j := 2) C dTL_parted_0 rfl rfl ?_
  refine at_callSi C kTL_144 (cTL_isTown C.2.2.2.2.2.2.1 _ _ rfl) (by omega) rfl rfl (Nat.le_of_ble_eq_true rfl) dTL_parted_1 ?_
  refine at_if_eq C dTL_parted_4 rfl (fun hc => ?_) (fun hc => ?_)
  · replace h := ifp hc h
    refine at_iconst C dTL_parted_29 ci_m1 ?_
    cases h
    exact at_iret C dTL_parted_30
  · replace h := ifn hc h
    refine at_iload_n (j := 1) C dTL_parted_7 rfl rfl ?_
    refine at_iconst C dTL_parted_8 ci_0 ?_
    refine at_ldc C qTL_226 dTL_parted_9 ?_
    refine at_callSi C kTL_80 (cTL_within C.2.2.2.2.2.2.1 _ _ _ _ rfl) (by omega) rfl rfl (Nat.le_of_ble_eq_true rfl) dTL_parted_11 ?_
    refine at_if_eq C dTL_parted_14 rfl (fun hc => ?_) (fun hc => ?_)
    · replace h := ifp hc h
      refine at_iconst C dTL_parted_29 ci_m1 ?_
      cases h
      exact at_iret C dTL_parted_30
    · replace h := ifn hc h
      refine at_aload_n (j := 0) C dTL_parted_17 rfl rfl ?_
      refine gfTL_shares C dTL_parted_18 ?_
      refine at_iload_n (j := 1) C dTL_parted_21 rfl rfl ?_
      refine at_iload_n (j := 2) C dTL_parted_22 rfl rfl ?_
      obtain ⟨e1, he1, h⟩ := ob_some h
      refine at_callVi C kTL_227 (cSh_shareOf C.2.2.2.2.2.2.1 _ _ _ he1) (by omega) rfl rfl rfl rfl (Nat.le_of_ble_eq_true rfl) dTL_parted_23 ?_
      refine at_goto C dTL_parted_26 rfl ?_
      cases h
      exact at_iret C dTL_parted_30
set_option maxRecDepth 100000 in
set_option maxHeartbeats 4000000 in
theorem cPo_weightOf {l : Launch} {G : GG} (hG : GOK G) {c_Po_weights : (Nat → Int32)} {z11111 : Z11111} {z1111212 : Int32} {z111122 : (Nat → Int32)} {z1112 : Z1112} {z112 : Z112} {z12 : Z12} {z2 : Z2} (a1 : Int32) (R : Int32) (h : fPo_weightOf a1 c_Po_weights = some R) : Met l yPo_weightOf (.code yPo_weightOf prog_6_method_5_code 2 (some .int) :: gw) (rmm 1) (PcW G [.ref (ad G 2), .int a1] (((((z11111, ((c_Po_weights, z1111212), z111122)), z1112), z112), z12), z2)) (Qw G (some (.int R)) (((((z11111, ((c_Po_weights, z1111212), z111122)), z1112), z112), z12), z2)) 0 0 (Aw G) := by
  refine met_of (by decide) 1 G hG _ _ (Nat.le_of_ble_eq_true rfl) _ _ (fun X _ C => ?_)
  have C : Cx G X RcPo prog_6_method_5_code 2 1 (some .int) := C
  unfold fPo_weightOf at h
  show At G X 2 _ 0 [(0, .ref (ad G 2)), (1, .int a1)] [] (((((z11111, ((c_Po_weights, z1111212), z111122)), z1112), z112), z12), z2)
  refine at_aload_n (j := 0) C dPo_weightOf_0 rfl rfl ?_
  refine gfPo_weights C dPo_weightOf_1 ?_
  refine at_iload_n (j := 1) C dPo_weightOf_4 rfl rfl ?_
  obtain ⟨hg1, h⟩ := gd_some h
  refine ldPo_weights (f := c_Po_weights) C rfl hg1 dPo_weightOf_5 ?_
  cases h
  exact at_iret C dPo_weightOf_6
set_option maxRecDepth 100000 in
set_option maxHeartbeats 4000000 in
theorem wCo_countRead_l4 {G : GG} {X : CX} {c_Co_readAs : (Nat → Int32)} {z111 : Z111} {z1121 : Z1121} {z11221 : Z11221} {z1122212 : Int32} {z112222 : (Nat → Int32)} {z12 : Z12} {z2 : Z2} (C : Cx G X RcCo prog_3_method_3_code 3 1 (some .int)) {Q : State → Prop}  : ∀ (n : Nat) (a1 : Int32) (a2 : Int32) (E : Int32) (h : fCo_countRead_l4 c_Co_readAs n a1 a2 = some E) (k0 : At G X 3 Q 27 [(1, .int E)] [] (((z111, (z1121, (z11221, ((c_Co_readAs, z1122212), z112222)))), z12), z2)), At G X 3 Q 4 [(0, .ref (ad G 5)), (1, .int a1), (2, .int a2)] [] (((z111, (z1121, (z11221, ((c_Co_readAs, z1122212), z112222)))), z12), z2) := by
  intro n
  induction n with
  | zero =>
    intro a1 a2 E h k0
    rw [fCo_countRead_l4.eq_1] at h
    cases h
  | succ n ih =>
    intro a1 a2 E h k0
    rw [fCo_countRead_l4.eq_2] at h
    refine at_iload_n (j := 2) C dCo_countRead_4 rfl rfl ?_
    refine at_iconst C dCo_countRead_5 ci_5 ?_
    refine at_icmp_ge C dCo_countRead_6 rfl (fun hc => ?_) (fun hc => ?_)
    · replace h := ifp hc h
      cases h
      refine at_loc (L' := [(1, .int a1)]) [1] rfl ?_
      exact k0
    · replace h := ifn hc h
      refine at_aload_n (j := 0) C dCo_countRead_9 rfl rfl ?_
      refine gfCo_readAs C dCo_countRead_10 ?_
      refine at_iload_n (j := 2) C dCo_countRead_13 rfl rfl ?_
      obtain ⟨hg1, h⟩ := gd_some h
      refine ldCo_readAs (f := c_Co_readAs) C rfl hg1 dCo_countRead_14 ?_
      refine at_if_le C dCo_countRead_15 rfl (fun hc => ?_) (fun hc => ?_)
      · replace h := ifp hc h
        refine at_iinc (j := 2) (L' := [(2, .int (a2 + (1 : Int32))), (0, .ref (ad G 5)), (1, .int a1)]) C dCo_countRead_21 rfl ci_1 (by decide) rfl ?_
        refine at_goto C dCo_countRead_24 rfl ?_
        refine at_loc (L' := [(0, .ref (ad G 5)), (1, .int a1), (2, .int (a2 + (1 : Int32)))]) [1, 2, 0] rfl ?_
        exact ih _ _ _ h k0
      · replace h := ifn hc h
        refine at_iinc (j := 1) (L' := [(1, .int (a1 + (1 : Int32))), (0, .ref (ad G 5)), (2, .int a2)]) C dCo_countRead_18 rfl ci_1 (by decide) rfl ?_
        refine at_iinc (j := 2) (L' := [(2, .int (a2 + (1 : Int32))), (1, .int (a1 + (1 : Int32))), (0, .ref (ad G 5))]) C dCo_countRead_21 rfl ci_1 (by decide) rfl ?_
        refine at_goto C dCo_countRead_24 rfl ?_
        refine at_loc (L' := [(0, .ref (ad G 5)), (1, .int (a1 + (1 : Int32))), (2, .int (a2 + (1 : Int32)))]) [2, 1, 0] rfl ?_
        exact ih _ _ _ h k0
set_option maxRecDepth 100000 in
set_option maxHeartbeats 4000000 in
theorem cCo_countRead {l : Launch} {G : GG} (hG : GOK G) {c_Co_readAs : (Nat → Int32)} {z111 : Z111} {z1121 : Z1121} {z11221 : Z11221} {z1122212 : Int32} {z112222 : (Nat → Int32)} {z12 : Z12} {z2 : Z2} (R : Int32) (h : fCo_countRead c_Co_readAs = some R) : Met l yCo_countRead (.code yCo_countRead prog_3_method_3_code 3 (some .int) :: gw) (rmm 1) (PcW G [.ref (ad G 5)] (((z111, (z1121, (z11221, ((c_Co_readAs, z1122212), z112222)))), z12), z2)) (Qw G (some (.int R)) (((z111, (z1121, (z11221, ((c_Co_readAs, z1122212), z112222)))), z12), z2)) 0 0 (Aw G) := by
  refine met_of (by decide) 1 G hG _ _ (Nat.le_of_ble_eq_true rfl) _ _ (fun X _ C => ?_)
  have C : Cx G X RcCo prog_3_method_3_code 3 1 (some .int) := C
  unfold fCo_countRead at h
  show At G X 3 _ 0 [(0, .ref (ad G 5))] [] (((z111, (z1121, (z11221, ((c_Co_readAs, z1122212), z112222)))), z12), z2)
  refine at_iconst C dCo_countRead_0 ci_0 ?_
  refine at_istore_n (L' := [(1, .int (0 : Int32)), (0, .ref (ad G 5))]) C dCo_countRead_1 rfl (by decide) rfl ?_
  refine at_iconst C dCo_countRead_2 ci_0 ?_
  refine at_istore_n (L' := [(2, .int (0 : Int32)), (1, .int (0 : Int32)), (0, .ref (ad G 5))]) C dCo_countRead_3 rfl (by decide) rfl ?_
  obtain ⟨e2, he2, h⟩ := ob_some h
  refine at_loc (L' := [(0, .ref (ad G 5)), (1, .int (0 : Int32)), (2, .int (0 : Int32))]) [2, 1, 0] rfl ?_
  refine wCo_countRead_l4 C FU _ _ _ he2 ?_
  refine at_iload_n (j := 0) C dCo_countRead_27 rfl rfl ?_
  cases h
  exact at_iret C dCo_countRead_28
set_option maxRecDepth 100000 in
set_option maxHeartbeats 4000000 in
theorem cPo_load {l : Launch} {G : GG} (hG : GOK G) {c_Po_load : Int32} {z11111 : Z11111} {z1111211 : (Nat → Int32)} {z111122 : (Nat → Int32)} {z1112 : Z1112} {z112 : Z112} {z12 : Z12} {z2 : Z2} (R : Int32) (h : fPo_load c_Po_load = R) : Met l yPo_load (.code yPo_load prog_6_method_4_code 1 (some .int) :: gw) (rmm 1) (PcW G [.ref (ad G 2)] (((((z11111, ((z1111211, c_Po_load), z111122)), z1112), z112), z12), z2)) (Qw G (some (.int R)) (((((z11111, ((z1111211, c_Po_load), z111122)), z1112), z112), z12), z2)) 0 0 (Aw G) := by
  refine met_of (by decide) 1 G hG _ _ (Nat.le_of_ble_eq_true rfl) _ _ (fun X _ C => ?_)
  have C : Cx G X RcPo prog_6_method_4_code 1 1 (some .int) := C
  unfold fPo_load at h
  show At G X 1 _ 0 [(0, .ref (ad G 2))] [] (((((z11111, ((z1111211, c_Po_load), z111122)), z1112), z112), z12), z2)
  refine at_aload_n (j := 0) C dPo_load_0 rfl rfl ?_
  refine gfPo_load (x := c_Po_load) C rfl dPo_load_1 ?_
  subst h
  exact at_iret C dPo_load_4
set_option maxRecDepth 100000 in
set_option maxHeartbeats 4000000 in
theorem cMa_count {l : Launch} {G : GG} (hG : GOK G) {c_Ma_count : Int32} {z11 : Z11} {z121 : Z121} {z1221111 : (Nat → Int32)} {z122112 : (Nat → Int32)} {z12212 : Z12212} {z1222 : Z1222} {z2 : Z2} (R : Int32) (h : fMa_count c_Ma_count = R) : Met l yMa_count (.code yMa_count prog_5_method_3_code 1 (some .int) :: gw) (rmm 1) (PcW G [.ref (ad G 8)] ((z11, (z121, ((((z1221111, c_Ma_count), z122112), z12212), z1222))), z2)) (Qw G (some (.int R)) ((z11, (z121, ((((z1221111, c_Ma_count), z122112), z12212), z1222))), z2)) 0 0 (Aw G) := by
  refine met_of (by decide) 1 G hG _ _ (Nat.le_of_ble_eq_true rfl) _ _ (fun X _ C => ?_)
  have C : Cx G X RcMa prog_5_method_3_code 1 1 (some .int) := C
  unfold fMa_count at h
  show At G X 1 _ 0 [(0, .ref (ad G 8))] [] ((z11, (z121, ((((z1221111, c_Ma_count), z122112), z12212), z1222))), z2)
  refine at_aload_n (j := 0) C dMa_count_0 rfl rfl ?_
  refine gfMa_count (x := c_Ma_count) C rfl dMa_count_1 ?_
  subst h
  exact at_iret C dMa_count_4
set_option maxRecDepth 100000 in
set_option maxHeartbeats 4000000 in
theorem cSe_storedPieces {l : Launch} {G : GG} (hG : GOK G) {c_Se_storedPieces : Int32} {z11 : Z11} {z1211 : Z1211} {z1212111 : Int32} {z121212 : Int32} {z12122 : Z12122} {z122 : Z122} {z2 : Z2} (R : Int32) (h : fSe_storedPieces c_Se_storedPieces = R) : Met l ySe_storedPieces (.code ySe_storedPieces prog_8_method_4_code 1 (some .int) :: gw) (rmm 1) (PcW G [.ref (ad G 7)] ((z11, ((z1211, (((z1212111, c_Se_storedPieces), z121212), z12122)), z122)), z2)) (Qw G (some (.int R)) ((z11, ((z1211, (((z1212111, c_Se_storedPieces), z121212), z12122)), z122)), z2)) 0 0 (Aw G) := by
  refine met_of (by decide) 1 G hG _ _ (Nat.le_of_ble_eq_true rfl) _ _ (fun X _ C => ?_)
  have C : Cx G X RcSe prog_8_method_4_code 1 1 (some .int) := C
  unfold fSe_storedPieces at h
  show At G X 1 _ 0 [(0, .ref (ad G 7))] [] ((z11, ((z1211, (((z1212111, c_Se_storedPieces), z121212), z12122)), z122)), z2)
  refine at_aload_n (j := 0) C dSe_storedPieces_0 rfl rfl ?_
  refine gfSe_storedPieces (x := c_Se_storedPieces) C rfl dSe_storedPieces_1 ?_
  subst h
  exact at_iret C dSe_storedPieces_4
set_option maxRecDepth 100000 in
set_option maxHeartbeats 4000000 in
theorem cTL_about {l : Launch} {G : GG} (hG : GOK G) {c_TL_clock : Int32} {c_Po_weights : (Nat → Int32)} {c_Po_load : Int32} {c_Ta_size : Int32} {c_Co_readAs : (Nat → Int32)} {c_Se_storedPieces : Int32} {c_Se_count : Int32} {c_Ma_count : Int32} {z1111112 : (Nat → Int32)} {z111112 : Z111112} {z111122 : (Nat → Int32)} {z1112112 : (Nat → Int32)} {z111212 : (Nat → Int32)} {z11122 : Z11122} {z1121 : Z1121} {z11221 : Z11221} {z1122212 : Int32} {z112222 : (Nat → Int32)} {z1211 : Z1211} {z1212111 : Int32} {z12122 : Z12122} {z1221111 : (Nat → Int32)} {z122112 : (Nat → Int32)} {z12212 : Z12212} {z1222 : Z1222} {z2 : Z2} (a1 : Int32) (R : Int32) (h : fTL_about a1 c_TL_clock c_Po_weights c_Po_load c_Ta_size c_Co_readAs c_Se_storedPieces c_Se_count c_Ma_count = some R) : Met l yTL_about (.code yTL_about prog_1_method_25_code 2 (some .int) :: gw) (rmm 2) (PcW G [.ref (ad G 0), .int a1] (((((((c_TL_clock, z1111112), z111112), ((c_Po_weights, c_Po_load), z111122)), (((c_Ta_size, z1112112), z111212), z11122)), (z1121, (z11221, ((c_Co_readAs, z1122212), z112222)))), ((z1211, (((z1212111, c_Se_storedPieces), c_Se_count), z12122)), ((((z1221111, c_Ma_count), z122112), z12212), z1222))), z2)) (Qw G (some (.int R)) (((((((c_TL_clock, z1111112), z111112), ((c_Po_weights, c_Po_load), z111122)), (((c_Ta_size, z1112112), z111212), z11122)), (z1121, (z11221, ((c_Co_readAs, z1122212), z112222)))), ((z1211, (((z1212111, c_Se_storedPieces), c_Se_count), z12122)), ((((z1221111, c_Ma_count), z122112), z12212), z1222))), z2)) 0 0 (Aw G) := by
  refine met_of (by decide) 2 G hG _ _ (Nat.le_of_ble_eq_true rfl) _ _ (fun X _ C => ?_)
  have C : Cx G X RcTL prog_1_method_25_code 2 2 (some .int) := C
  unfold fTL_about at h
  show At G X 2 _ 0 [(0, .ref (ad G 0)), (1, .int a1)] [] (((((((c_TL_clock, z1111112), z111112), ((c_Po_weights, c_Po_load), z111122)), (((c_Ta_size, z1112112), z111212), z11122)), (z1121, (z11221, ((c_Co_readAs, z1122212), z112222)))), ((z1211, (((z1212111, c_Se_storedPieces), c_Se_count), z12122)), ((((z1221111, c_Ma_count), z122112), z12212), z1222))), z2)
  refine at_iload_n (j := 1) C dTL_about_0 rfl rfl ?_
  refine at_bipush C dTL_about_1 cb_10 ?_
  refine at_bipush C dTL_about_3 cb_15 ?_
  refine at_callSi C kTL_80 (cTL_within C.2.2.2.2.2.2.1 _ _ _ _ rfl) (by omega) rfl rfl (Nat.le_of_ble_eq_true rfl) dTL_about_5 ?_
  refine at_if_eq C dTL_about_8 rfl (fun hc => ?_) (fun hc => ?_)
  · replace h := ifp hc h
    refine at_iload_n (j := 1) C dTL_about_23 rfl rfl ?_
    by_cases hc : a1 = (0 : Int32)
    · replace h := ifp hc h
      refine at_tin C (0 : Int32) hc dTL_about_24 (by decide) (by decide) rfl rfl ?_
      refine at_aload_n (j := 0) C dTL_about_72 rfl rfl ?_
      refine gfTL_clock (x := c_TL_clock) C rfl dTL_about_73 ?_
      cases h
      exact at_iret C dTL_about_76
    replace h := ifn hc h
    have hn0 := hc
    clear hc
    by_cases hc : a1 = (1 : Int32)
    · replace h := ifp hc h
      refine at_tin C (1 : Int32) hc dTL_about_24 (by decide) (by decide) rfl rfl ?_
      refine at_aload_n (j := 0) C dTL_about_77 rfl rfl ?_
      refine gfTL_clock (x := c_TL_clock) C rfl dTL_about_78 ?_
      refine at_bipush C dTL_about_81 cb_90 ?_
      refine at_idiv C dTL_about_83 (by decide) ?_
      cases h
      exact at_iret C dTL_about_84
    replace h := ifn hc h
    have hn1 := hc
    clear hc
    by_cases hc : a1 = (2 : Int32)
    · replace h := ifp hc h
      refine at_tin C (2 : Int32) hc dTL_about_24 (by decide) (by decide) rfl rfl ?_
      refine at_aload_n (j := 0) C dTL_about_85 rfl rfl ?_
      refine gfTL_sendings C dTL_about_86 ?_
      refine at_callVi C kTL_167 (cSe_count C.2.2.2.2.2.2.1 _ rfl) (by omega) rfl rfl rfl rfl (Nat.le_of_ble_eq_true rfl) dTL_about_89 ?_
      cases h
      exact at_iret C dTL_about_92
    replace h := ifn hc h
    have hn2 := hc
    clear hc
    by_cases hc : a1 = (3 : Int32)
    · replace h := ifp hc h
      refine at_tin C (3 : Int32) hc dTL_about_24 (by decide) (by decide) rfl rfl ?_
      refine at_aload_n (j := 0) C dTL_about_93 rfl rfl ?_
      refine gfTL_sendings C dTL_about_94 ?_
      refine at_callVi C kTL_233 (cSe_storedPieces C.2.2.2.2.2.2.1 _ rfl) (by omega) rfl rfl rfl rfl (Nat.le_of_ble_eq_true rfl) dTL_about_97 ?_
      cases h
      exact at_iret C dTL_about_100
    replace h := ifn hc h
    have hn3 := hc
    clear hc
    by_cases hc : a1 = (4 : Int32)
    · replace h := ifp hc h
      refine at_tin C (4 : Int32) hc dTL_about_24 (by decide) (by decide) rfl rfl ?_
      refine at_aload_n (j := 0) C dTL_about_101 rfl rfl ?_
      refine gfTL_markets C dTL_about_102 ?_
      refine at_callVi C kTL_236 (cMa_count C.2.2.2.2.2.2.1 _ rfl) (by omega) rfl rfl rfl rfl (Nat.le_of_ble_eq_true rfl) dTL_about_105 ?_
      cases h
      exact at_iret C dTL_about_108
    replace h := ifn hc h
    have hn4 := hc
    clear hc
    by_cases hc : a1 = (5 : Int32)
    · replace h := ifp hc h
      refine at_tin C (5 : Int32) hc dTL_about_24 (by decide) (by decide) rfl rfl ?_
      refine at_aload_n (j := 0) C dTL_about_109 rfl rfl ?_
      refine gfTL_porters C dTL_about_110 ?_
      refine at_callVi C kTL_237 (cPo_load C.2.2.2.2.2.2.1 _ rfl) (by omega) rfl rfl rfl rfl (Nat.le_of_ble_eq_true rfl) dTL_about_113 ?_
      cases h
      exact at_iret C dTL_about_116
    replace h := ifn hc h
    have hn5 := hc
    clear hc
    by_cases hc : a1 = (6 : Int32)
    · replace h := ifp hc h
      refine at_tin C (6 : Int32) hc dTL_about_24 (by decide) (by decide) rfl rfl ?_
      refine at_aload_n (j := 0) C dTL_about_117 rfl rfl ?_
      refine gfTL_tape C dTL_about_118 ?_
      refine at_callVi C kTL_113 (cTa_size C.2.2.2.2.2.2.1 _ rfl) (by omega) rfl rfl rfl rfl (Nat.le_of_ble_eq_true rfl) dTL_about_121 ?_
      cases h
      exact at_iret C dTL_about_124
    replace h := ifn hc h
    have hn6 := hc
    clear hc
    by_cases hc : a1 = (7 : Int32)
    · replace h := ifp hc h
      refine at_tin C (7 : Int32) hc dTL_about_24 (by decide) (by decide) rfl rfl ?_
      refine at_aload_n (j := 0) C dTL_about_125 rfl rfl ?_
      refine gfTL_copies C dTL_about_126 ?_
      obtain ⟨e1, he1, h⟩ := ob_some h
      refine at_callVi C kTL_240 (cCo_countRead C.2.2.2.2.2.2.1 _ he1) (by omega) rfl rfl rfl rfl (Nat.le_of_ble_eq_true rfl) dTL_about_129 ?_
      cases h
      exact at_iret C dTL_about_132
    replace h := ifn hc h
    have hn7 := hc
    clear hc
    refine at_tout C dTL_about_24 (by have := lv_neT hn0 (show ((0 : Int32)).toInt = 0 from by decide); have := lv_neT hn1 (show ((1 : Int32)).toInt = 1 from by decide); have := lv_neT hn2 (show ((2 : Int32)).toInt = 2 from by decide); have := lv_neT hn3 (show ((3 : Int32)).toInt = 3 from by decide); have := lv_neT hn4 (show ((4 : Int32)).toInt = 4 from by decide); have := lv_neT hn5 (show ((5 : Int32)).toInt = 5 from by decide); have := lv_neT hn6 (show ((6 : Int32)).toInt = 6 from by decide); have := lv_neT hn7 (show ((7 : Int32)).toInt = 7 from by decide); omega) rfl ?_
    refine at_iconst C dTL_about_133 ci_m1 ?_
    cases h
    exact at_iret C dTL_about_134
  · replace h := ifn hc h
    refine at_aload_n (j := 0) C dTL_about_11 rfl rfl ?_
    refine gfTL_porters C dTL_about_12 ?_
    refine at_iload_n (j := 1) C dTL_about_15 rfl rfl ?_
    refine at_bipush C dTL_about_16 cb_10 ?_
    refine at_isub C dTL_about_18 ?_
    obtain ⟨e2, he2, h⟩ := ob_some h
    refine at_callVi C kTL_230 (cPo_weightOf C.2.2.2.2.2.2.1 _ _ he2) (by omega) rfl rfl rfl rfl (Nat.le_of_ble_eq_true rfl) dTL_about_19 ?_
    cases h
    exact at_iret C dTL_about_22
set_option maxRecDepth 100000 in
set_option maxHeartbeats 4000000 in
theorem cMM_isIn {l : Launch} {G : GG} (hG : GOK G) {z : ST} (a0 : Int32) (a1 : Int32) (a2 : Int32) (R : Int32) (h : fMM_isIn a0 a1 a2 = R) : Met l yMM_isIn (.code yMM_isIn prog_12_method_2_code 3 (some .boolean) :: gw) (rmm 1) (PcW G [.int a0, .int a1, .int a2] z) (Qw G (some (.int R)) z) 0 0 (Aw G) := by
  refine met_of (by decide) 1 G hG _ _ (Nat.le_of_ble_eq_true rfl) _ _ (fun X _ C => ?_)
  have C : Cx G X RcMM prog_12_method_2_code 3 1 (some .boolean) := C
  unfold fMM_isIn at h
  show At G X 3 _ 0 [(0, .int a0), (1, .int a1), (2, .int a2)] [] z
  refine at_iload_n (j := 0) C dMM_isIn_0 rfl rfl ?_
  refine at_iload_n (j := 1) C dMM_isIn_1 rfl rfl ?_
  refine at_icmp_lt C dMM_isIn_2 rfl (fun hc => ?_) (fun hc => ?_)
  · replace h := ifp hc h
    refine at_iconst C dMM_isIn_14 ci_0 ?_
    subst h
    exact at_zret (x := (0 : Int32)) C zn_0 dMM_isIn_15
  · replace h := ifn hc h
    refine at_iload_n (j := 0) C dMM_isIn_5 rfl rfl ?_
    refine at_iload_n (j := 2) C dMM_isIn_6 rfl rfl ?_
    refine at_icmp_gt C dMM_isIn_7 rfl (fun hc => ?_) (fun hc => ?_)
    · replace h := ifp hc h
      refine at_iconst C dMM_isIn_14 ci_0 ?_
      subst h
      exact at_zret (x := (0 : Int32)) C zn_0 dMM_isIn_15
    · replace h := ifn hc h
      refine at_iconst C dMM_isIn_10 ci_1 ?_
      refine at_goto C dMM_isIn_11 rfl ?_
      subst h
      exact at_zret (x := (1 : Int32)) C zn_1 dMM_isIn_15
set_option maxRecDepth 100000 in
set_option maxHeartbeats 4000000 in
theorem cMM_isPlace {l : Launch} {G : GG} (hG : GOK G) {z : ST} (a0 : Int32) (R : Int32) (h : fMM_isPlace a0 = R) : Met l yMM_isPlace (.code yMM_isPlace prog_12_method_3_code 1 (some .boolean) :: gw) (rmm 2) (PcW G [.int a0] z) (Qw G (some (.int R)) z) 0 0 (Aw G) := by
  refine met_of (by decide) 2 G hG _ _ (Nat.le_of_ble_eq_true rfl) _ _ (fun X _ C => ?_)
  have C : Cx G X RcMM prog_12_method_3_code 1 2 (some .boolean) := C
  unfold fMM_isPlace at h
  show At G X 1 _ 0 [(0, .int a0)] [] z
  refine at_iload_n (j := 0) C dMM_isPlace_0 rfl rfl ?_
  refine at_iconst C dMM_isPlace_1 ci_0 ?_
  refine at_bipush C dMM_isPlace_2 cb_15 ?_
  refine at_callSi C kMM_109 (cMM_isIn C.2.2.2.2.2.2.1 _ _ _ _ rfl) (by omega) rfl rfl (Nat.le_of_ble_eq_true rfl) dMM_isPlace_4 ?_
  subst h
  exact at_zret (x := (fMM_isIn a0 (0 : Int32) (15 : Int32))) C (zb_MM_isIn) dMM_isPlace_7
set_option maxRecDepth 100000 in
set_option maxHeartbeats 4000000 in
theorem cMM_isTown {l : Launch} {G : GG} (hG : GOK G) {z : ST} (a0 : Int32) (R : Int32) (h : fMM_isTown a0 = R) : Met l yMM_isTown (.code yMM_isTown prog_12_method_4_code 1 (some .boolean) :: gw) (rmm 2) (PcW G [.int a0] z) (Qw G (some (.int R)) z) 0 0 (Aw G) := by
  refine met_of (by decide) 2 G hG _ _ (Nat.le_of_ble_eq_true rfl) _ _ (fun X _ C => ?_)
  have C : Cx G X RcMM prog_12_method_4_code 1 2 (some .boolean) := C
  unfold fMM_isTown at h
  show At G X 1 _ 0 [(0, .int a0)] [] z
  refine at_iload_n (j := 0) C dMM_isTown_0 rfl rfl ?_
  refine at_iconst C dMM_isTown_1 ci_1 ?_
  refine at_bipush C dMM_isTown_2 cb_15 ?_
  refine at_callSi C kMM_109 (cMM_isIn C.2.2.2.2.2.2.1 _ _ _ _ rfl) (by omega) rfl rfl (Nat.le_of_ble_eq_true rfl) dMM_isTown_4 ?_
  subst h
  exact at_zret (x := (fMM_isIn a0 (1 : Int32) (15 : Int32))) C (zb_MM_isIn) dMM_isTown_7
set_option maxRecDepth 100000 in
set_option maxHeartbeats 4000000 in
theorem cMM_isGood {l : Launch} {G : GG} (hG : GOK G) {z : ST} (a0 : Int32) (R : Int32) (h : fMM_isGood a0 = R) : Met l yMM_isGood (.code yMM_isGood prog_12_method_5_code 1 (some .boolean) :: gw) (rmm 2) (PcW G [.int a0] z) (Qw G (some (.int R)) z) 0 0 (Aw G) := by
  refine met_of (by decide) 2 G hG _ _ (Nat.le_of_ble_eq_true rfl) _ _ (fun X _ C => ?_)
  have C : Cx G X RcMM prog_12_method_5_code 1 2 (some .boolean) := C
  unfold fMM_isGood at h
  show At G X 1 _ 0 [(0, .int a0)] [] z
  refine at_iload_n (j := 0) C dMM_isGood_0 rfl rfl ?_
  refine at_iconst C dMM_isGood_1 ci_0 ?_
  refine at_iconst C dMM_isGood_2 ci_5 ?_
  refine at_callSi C kMM_109 (cMM_isIn C.2.2.2.2.2.2.1 _ _ _ _ rfl) (by omega) rfl rfl (Nat.le_of_ble_eq_true rfl) dMM_isGood_3 ?_
  subst h
  exact at_zret (x := (fMM_isIn a0 (0 : Int32) (5 : Int32))) C (zb_MM_isIn) dMM_isGood_6
set_option maxRecDepth 100000 in
set_option maxHeartbeats 4000000 in
theorem cMM_road {l : Launch} {G : GG} (hG : GOK G) {c_MM_roads : (Nat → Int32)} {z1 : Z1} {z2111111 : Int32} {z211112 : Z211112} {z21112 : Z21112} {z2112 : Z2112} {z212 : Z212} {z22 : Z22} (a1 : Int32) (a2 : Int32) (a3 : Int32) (R : (Int32 × (Nat → Int32))) (h : fMM_road a1 a2 a3 c_MM_roads = some R) : Met l yMM_road (.code yMM_road prog_12_method_6_code 4 (some .boolean) :: gw) (rmm 3) (PcW G [.ref (ad G 40), .int a1, .int a2, .int a3] (z1, ((((((z2111111, c_MM_roads), z211112), z21112), z2112), z212), z22))) (Qw G (some (.int R.1)) (z1, ((((((z2111111, R.2), z211112), z21112), z2112), z212), z22))) 0 0 (Aw G) := by
  refine met_of (by decide) 3 G hG _ _ (Nat.le_of_ble_eq_true rfl) _ _ (fun X _ C => ?_)
  have C : Cx G X RcMM prog_12_method_6_code 4 3 (some .boolean) := C
  unfold fMM_road at h
  show At G X 4 _ 0 [(0, .ref (ad G 40)), (1, .int a1), (2, .int a2), (3, .int a3)] [] (z1, ((((((z2111111, c_MM_roads), z211112), z21112), z2112), z212), z22))
  refine at_iload_n (j := 1) C dMM_road_0 rfl rfl ?_
  refine at_callSi C kMM_113 (cMM_isPlace C.2.2.2.2.2.2.1 _ _ rfl) (by omega) rfl rfl (Nat.le_of_ble_eq_true rfl) dMM_road_1 ?_
  refine at_if_eq C dMM_road_4 rfl (fun hc => ?_) (fun hc => ?_)
  · replace h := ifp hc h
    refine at_iconst C dMM_road_29 ci_0 ?_
    cases h
    exact at_zret (x := (0 : Int32)) C zn_0 dMM_road_30
  · replace h := ifn hc h
    refine at_iload_n (j := 2) C dMM_road_7 rfl rfl ?_
    refine at_callSi C kMM_113 (cMM_isPlace C.2.2.2.2.2.2.1 _ _ rfl) (by omega) rfl rfl (Nat.le_of_ble_eq_true rfl) dMM_road_8 ?_
    refine at_if_eq C dMM_road_11 rfl (fun hc => ?_) (fun hc => ?_)
    · replace h := ifp hc h
      refine at_iconst C dMM_road_29 ci_0 ?_
      cases h
      exact at_zret (x := (0 : Int32)) C zn_0 dMM_road_30
    · replace h := ifn hc h
      refine at_iload_n (j := 1) C dMM_road_14 rfl rfl ?_
      refine at_iload_n (j := 2) C dMM_road_15 rfl rfl ?_
      refine at_icmp_eq C dMM_road_16 rfl (fun hc => ?_) (fun hc => ?_)
      · replace h := ifp hc h
        refine at_iconst C dMM_road_29 ci_0 ?_
        cases h
        exact at_zret (x := (0 : Int32)) C zn_0 dMM_road_30
      · replace h := ifn hc h
        refine at_iload_n (j := 3) C dMM_road_19 rfl rfl ?_
        refine at_iconst C dMM_road_20 ci_0 ?_
        refine at_bipush C dMM_road_21 cb_30 ?_
        refine at_callSi C kMM_109 (cMM_isIn C.2.2.2.2.2.2.1 _ _ _ _ rfl) (by omega) rfl rfl (Nat.le_of_ble_eq_true rfl) dMM_road_23 ?_
        refine at_if_ne C dMM_road_26 rfl (fun hc => ?_) (fun hc => ?_)
        · replace h := ifn hc h
          refine at_aload_n (j := 0) C dMM_road_31 rfl rfl ?_
          refine gfMM_roads C dMM_road_32 ?_
          refine at_bipush C dMM_road_35 cb_16 ?_
          refine at_iload_n (j := 1) C dMM_road_37 rfl rfl ?_
          refine at_imul C dMM_road_38 ?_
          refine at_iload_n (j := 2) C dMM_road_39 rfl rfl ?_
          refine at_iadd C dMM_road_40 ?_
          refine at_iload_n (j := 3) C dMM_road_41 rfl rfl ?_
          obtain ⟨hg1, h⟩ := gd_some h
          refine svMM_roads C hg1 dMM_road_42 ?_
          refine at_st (S1 := (z1, ((((((z2111111, (upd c_MM_roads ((((16 : Int32) * a1) + a2)).toNatClampNeg a3)), z211112), z21112), z2112), z212), z22))) rfl ?_
          refine at_aload_n (j := 0) C dMM_road_43 rfl rfl ?_
          refine gfMM_roads C dMM_road_44 ?_
          refine at_bipush C dMM_road_47 cb_16 ?_
          refine at_iload_n (j := 2) C dMM_road_49 rfl rfl ?_
          refine at_imul C dMM_road_50 ?_
          refine at_iload_n (j := 1) C dMM_road_51 rfl rfl ?_
          refine at_iadd C dMM_road_52 ?_
          refine at_iload_n (j := 3) C dMM_road_53 rfl rfl ?_
          obtain ⟨hg2, h⟩ := gd_some h
          refine svMM_roads C hg2 dMM_road_54 ?_
          refine at_st (S1 := (z1, ((((((z2111111, (upd (upd c_MM_roads ((((16 : Int32) * a1) + a2)).toNatClampNeg a3) ((((16 : Int32) * a2) + a1)).toNatClampNeg a3)), z211112), z21112), z2112), z212), z22))) rfl ?_
          refine at_iconst C dMM_road_55 ci_1 ?_
          cases h
          exact at_zret (x := (1 : Int32)) C zn_1 dMM_road_56
        · replace h := ifp hc h
          refine at_iconst C dMM_road_29 ci_0 ?_
          cases h
          exact at_zret (x := (0 : Int32)) C zn_0 dMM_road_30
set_option maxRecDepth 100000 in
set_option maxHeartbeats 4000000 in
theorem wMM_wayOf_l2 {G : GG} {X : CX} {c_MM_roads : (Nat → Int32)} {z1 : Z1} {z2111111 : Int32} {z2111122 : (Nat → Int32)} {z21112 : Z21112} {z2112 : Z2112} {z212 : Z212} {z22 : Z22} (C : Cx G X RcMM prog_12_method_7_code 6 1 (some .int)) {Q : State → Prop}  (a1 : Int32) (a2 : Int32) : ∀ (n : Nat) (a3 : Int32) (c_MM_ways : (Nat → Int32)) (E : (Nat → Int32)) (h : fMM_wayOf_l2 a1 a2 c_MM_roads n a3 c_MM_ways = some E) (k0 : At G X 6 Q 56 [(0, .ref (ad G 40)), (1, .int a1), (2, .int a2)] [] (z1, ((((((z2111111, c_MM_roads), (E, z2111122)), z21112), z2112), z212), z22))), At G X 6 Q 2 [(0, .ref (ad G 40)), (1, .int a1), (2, .int a2), (3, .int a3)] [] (z1, ((((((z2111111, c_MM_roads), (c_MM_ways, z2111122)), z21112), z2112), z212), z22)) := by
  intro n
  induction n with
  | zero =>
    intro a3 c_MM_ways E h k0
    rw [fMM_wayOf_l2.eq_1] at h
    cases h
  | succ n ih =>
    intro a3 c_MM_ways E h k0
    rw [fMM_wayOf_l2.eq_2] at h
    refine at_iload_n (j := 3) C dMM_wayOf_2 rfl rfl ?_
    refine at_sipush C dMM_wayOf_3 cs_256 ?_
    refine at_icmp_ge C dMM_wayOf_6 rfl (fun hc => ?_) (fun hc => ?_)
    · replace h := ifp hc h
      cases h
      refine at_loc (L' := [(0, .ref (ad G 40)), (1, .int a1), (2, .int a2)]) [0, 1, 2] rfl ?_
      exact k0
    · replace h := ifn hc h
      refine at_aload_n (j := 0) C dMM_wayOf_9 rfl rfl ?_
      refine gfMM_ways C dMM_wayOf_10 ?_
      refine at_iload_n (j := 3) C dMM_wayOf_13 rfl rfl ?_
      refine at_iload_n (j := 3) C dMM_wayOf_14 rfl rfl ?_
      refine at_bipush C dMM_wayOf_15 cb_16 ?_
      refine at_idiv C dMM_wayOf_17 (by decide) ?_
      refine at_iload_n (j := 3) C dMM_wayOf_18 rfl rfl ?_
      refine at_bipush C dMM_wayOf_19 cb_16 ?_
      refine at_irem C dMM_wayOf_21 (by decide) ?_
      refine at_icmp_ne C dMM_wayOf_22 rfl (fun hc => ?_) (fun hc => ?_)
      · replace h := ifn hc h
        refine at_aload_n (j := 0) C dMM_wayOf_29 rfl rfl ?_
        refine gfMM_roads C dMM_wayOf_30 ?_
        refine at_iload_n (j := 3) C dMM_wayOf_33 rfl rfl ?_
        obtain ⟨hg1, h⟩ := gd_some h
        refine ldMM_roads (f := c_MM_roads) C rfl hg1 dMM_wayOf_34 ?_
        refine at_if_ne C dMM_wayOf_35 rfl (fun hc => ?_) (fun hc => ?_)
        · replace h := ifn hc h
          refine at_aload_n (j := 0) C dMM_wayOf_43 rfl rfl ?_
          refine gfMM_roads C dMM_wayOf_44 ?_
          refine at_iload_n (j := 3) C dMM_wayOf_47 rfl rfl ?_
          obtain ⟨hg2, h⟩ := gd_some h
          refine ldMM_roads (f := c_MM_roads) C rfl hg2 dMM_wayOf_48 ?_
          obtain ⟨hg3, h⟩ := gd_some h
          refine svMM_ways C hg3 dMM_wayOf_49 ?_
          refine at_st (S1 := (z1, ((((((z2111111, c_MM_roads), ((upd c_MM_ways (a3).toNatClampNeg (c_MM_roads (a3).toNatClampNeg)), z2111122)), z21112), z2112), z212), z22))) rfl ?_
          refine at_iinc (j := 3) (L' := [(3, .int (a3 + (1 : Int32))), (0, .ref (ad G 40)), (1, .int a1), (2, .int a2)]) C dMM_wayOf_50 rfl ci_1 (by decide) rfl ?_
          refine at_goto C dMM_wayOf_53 rfl ?_
          refine at_loc (L' := [(0, .ref (ad G 40)), (1, .int a1), (2, .int a2), (3, .int (a3 + (1 : Int32)))]) [1, 2, 3, 0] rfl ?_
          exact ih _ _ _ h k0
        · replace h := ifp hc h
          refine at_ldc C qMM_117 dMM_wayOf_38 ?_
          refine at_goto C dMM_wayOf_40 rfl ?_
          obtain ⟨hg4, h⟩ := gd_some h
          refine svMM_ways C hg4 dMM_wayOf_49 ?_
          refine at_st (S1 := (z1, ((((((z2111111, c_MM_roads), ((upd c_MM_ways (a3).toNatClampNeg (100000 : Int32)), z2111122)), z21112), z2112), z212), z22))) rfl ?_
          refine at_iinc (j := 3) (L' := [(3, .int (a3 + (1 : Int32))), (0, .ref (ad G 40)), (1, .int a1), (2, .int a2)]) C dMM_wayOf_50 rfl ci_1 (by decide) rfl ?_
          refine at_goto C dMM_wayOf_53 rfl ?_
          refine at_loc (L' := [(0, .ref (ad G 40)), (1, .int a1), (2, .int a2), (3, .int (a3 + (1 : Int32)))]) [1, 2, 3, 0] rfl ?_
          exact ih _ _ _ h k0
      · replace h := ifp hc h
        refine at_iconst C dMM_wayOf_25 ci_0 ?_
        refine at_goto C dMM_wayOf_26 rfl ?_
        obtain ⟨hg5, h⟩ := gd_some h
        refine svMM_ways C hg5 dMM_wayOf_49 ?_
        refine at_st (S1 := (z1, ((((((z2111111, c_MM_roads), ((upd c_MM_ways (a3).toNatClampNeg (0 : Int32)), z2111122)), z21112), z2112), z212), z22))) rfl ?_
        refine at_iinc (j := 3) (L' := [(3, .int (a3 + (1 : Int32))), (0, .ref (ad G 40)), (1, .int a1), (2, .int a2)]) C dMM_wayOf_50 rfl ci_1 (by decide) rfl ?_
        refine at_goto C dMM_wayOf_53 rfl ?_
        refine at_loc (L' := [(0, .ref (ad G 40)), (1, .int a1), (2, .int a2), (3, .int (a3 + (1 : Int32)))]) [1, 2, 3, 0] rfl ?_
        exact ih _ _ _ h k0
set_option maxRecDepth 100000 in
set_option maxHeartbeats 4000000 in
theorem wMM_wayOf_l67 {G : GG} {X : CX} {c_MM_roads : (Nat → Int32)} {z1 : Z1} {z2111111 : Int32} {z2111122 : (Nat → Int32)} {z21112 : Z21112} {z2112 : Z2112} {z212 : Z212} {z22 : Z22} (C : Cx G X RcMM prog_12_method_7_code 6 1 (some .int)) {Q : State → Prop}  (a1 : Int32) (a2 : Int32) (a3 : Int32) : ∀ (n : Nat) (a4 : Int32) (c_MM_ways : (Nat → Int32)) (E : (Nat → Int32)) (h : fMM_wayOf_l67 a1 a2 a3 n a4 c_MM_ways = some E) (k0 : At G X 6 Q 135 [(0, .ref (ad G 40)), (1, .int a1), (2, .int a2), (3, .int a3)] [] (z1, ((((((z2111111, c_MM_roads), (E, z2111122)), z21112), z2112), z212), z22))), At G X 6 Q 67 [(0, .ref (ad G 40)), (1, .int a1), (2, .int a2), (3, .int a3), (4, .int a4)] [] (z1, ((((((z2111111, c_MM_roads), (c_MM_ways, z2111122)), z21112), z2112), z212), z22)) := by
  intro n
  induction n with
  | zero =>
    intro a4 c_MM_ways E h k0
    rw [fMM_wayOf_l67.eq_1] at h
    cases h
  | succ n ih =>
    intro a4 c_MM_ways E h k0
    rw [fMM_wayOf_l67.eq_2] at h
    refine at_iload (j := 4) C dMM_wayOf_67 rfl ?_
    refine at_sipush C dMM_wayOf_69 cs_256 ?_
    refine at_icmp_ge C dMM_wayOf_72 rfl (fun hc => ?_) (fun hc => ?_)
    · replace h := ifp hc h
      cases h
      refine at_loc (L' := [(0, .ref (ad G 40)), (1, .int a1), (2, .int a2), (3, .int a3)]) [0, 1, 2, 3] rfl ?_
      exact k0
    · replace h := ifn hc h
      refine at_aload_n (j := 0) C dMM_wayOf_75 rfl rfl ?_
      refine gfMM_ways C dMM_wayOf_76 ?_
      refine at_iload (j := 4) C dMM_wayOf_79 rfl ?_
      refine at_bipush C dMM_wayOf_81 cb_16 ?_
      refine at_idiv C dMM_wayOf_83 (by decide) ?_
      refine at_bipush C dMM_wayOf_84 cb_16 ?_
      refine at_imul C dMM_wayOf_86 ?_
      refine at_iload_n (j := 3) C dMM_wayOf_87 rfl rfl ?_
      refine at_iadd C dMM_wayOf_88 ?_
      obtain ⟨hg7, h⟩ := gd_some h
      refine ldMM_ways (f := c_MM_ways) C rfl hg7 dMM_wayOf_89 ?_
      refine at_aload_n (j := 0) C dMM_wayOf_90 rfl rfl ?_
      refine gfMM_ways C dMM_wayOf_91 ?_
      refine at_bipush C dMM_wayOf_94 cb_16 ?_
      refine at_iload_n (j := 3) C dMM_wayOf_96 rfl rfl ?_
      refine at_imul C dMM_wayOf_97 ?_
      refine at_iload (j := 4) C dMM_wayOf_98 rfl ?_
      refine at_bipush C dMM_wayOf_100 cb_16 ?_
      refine at_irem C dMM_wayOf_102 (by decide) ?_
      refine at_iadd C dMM_wayOf_103 ?_
      obtain ⟨hg8, h⟩ := gd_some h
      refine ldMM_ways (f := c_MM_ways) C rfl hg8 dMM_wayOf_104 ?_
      refine at_iadd C dMM_wayOf_105 ?_
      refine at_istore (L' := [(5, .int ((c_MM_ways ((((a4 / (16 : Int32)) * (16 : Int32)) + a3)).toNatClampNeg) + (c_MM_ways ((((16 : Int32) * a3) + (a4 - a4 / (16 : Int32) * (16 : Int32)))).toNatClampNeg))), (0, .ref (ad G 40)), (1, .int a1), (2, .int a2), (3, .int a3), (4, .int a4)]) C dMM_wayOf_106 (by decide) rfl ?_
      refine at_iload (j := 0) C dMM_wayOf_108 rfl ?_
      refine at_aload_n (j := 1) C dMM_wayOf_110 rfl rfl ?_
      refine gfMM_ways C dMM_wayOf_111 ?_
      refine at_iload (j := 5) C dMM_wayOf_114 rfl ?_
      obtain ⟨hg9, h⟩ := gd_some h
      refine ldMM_ways (f := c_MM_ways) C rfl hg9 dMM_wayOf_116 ?_
      refine at_icmp_ge C dMM_wayOf_117 rfl (fun hc => ?_) (fun hc => ?_)
      · replace h := ifp hc h
        refine at_iinc (j := 5) (L' := [(4, .int (a4 + (1 : Int32))), (5, .int ((c_MM_ways ((((a4 / (16 : Int32)) * (16 : Int32)) + a3)).toNatClampNeg) + (c_MM_ways ((((16 : Int32) * a3) + (a4 - a4 / (16 : Int32) * (16 : Int32)))).toNatClampNeg))), (0, .ref (ad G 40)), (1, .int a1), (2, .int a2), (3, .int a3)]) C dMM_wayOf_129 rfl ci_1 (by decide) rfl ?_
        refine at_goto C dMM_wayOf_132 rfl ?_
        refine at_loc (L' := [(0, .ref (ad G 40)), (1, .int a1), (2, .int a2), (3, .int a3), (4, .int (a4 + (1 : Int32)))]) [2, 3, 4, 5, 0] rfl ?_
        exact ih _ _ _ h k0
      · replace h := ifn hc h
        refine at_aload_n (j := 1) C dMM_wayOf_120 rfl rfl ?_
        refine gfMM_ways C dMM_wayOf_121 ?_
        refine at_iload (j := 5) C dMM_wayOf_124 rfl ?_
        refine at_iload (j := 0) C dMM_wayOf_126 rfl ?_
        obtain ⟨hg10, h⟩ := gd_some h
        refine svMM_ways C hg10 dMM_wayOf_128 ?_
        refine at_st (S1 := (z1, ((((((z2111111, c_MM_roads), ((upd c_MM_ways (a4).toNatClampNeg ((c_MM_ways ((((a4 / (16 : Int32)) * (16 : Int32)) + a3)).toNatClampNeg) + (c_MM_ways ((((16 : Int32) * a3) + (a4 - a4 / (16 : Int32) * (16 : Int32)))).toNatClampNeg))), z2111122)), z21112), z2112), z212), z22))) rfl ?_
        refine at_iinc (j := 5) (L' := [(4, .int (a4 + (1 : Int32))), (5, .int ((c_MM_ways ((((a4 / (16 : Int32)) * (16 : Int32)) + a3)).toNatClampNeg) + (c_MM_ways ((((16 : Int32) * a3) + (a4 - a4 / (16 : Int32) * (16 : Int32)))).toNatClampNeg))), (0, .ref (ad G 40)), (1, .int a1), (2, .int a2), (3, .int a3)]) C dMM_wayOf_129 rfl ci_1 (by decide) rfl ?_
        refine at_goto C dMM_wayOf_132 rfl ?_
        refine at_loc (L' := [(0, .ref (ad G 40)), (1, .int a1), (2, .int a2), (3, .int a3), (4, .int (a4 + (1 : Int32)))]) [2, 3, 4, 5, 0] rfl ?_
        exact ih _ _ _ h k0
set_option maxRecDepth 100000 in
set_option maxHeartbeats 4000000 in
theorem wMM_wayOf_l58 {G : GG} {X : CX} {c_MM_roads : (Nat → Int32)} {z1 : Z1} {z2111111 : Int32} {z2111122 : (Nat → Int32)} {z21112 : Z21112} {z2112 : Z2112} {z212 : Z212} {z22 : Z22} (C : Cx G X RcMM prog_12_method_7_code 6 1 (some .int)) {Q : State → Prop}  (a1 : Int32) (a2 : Int32) : ∀ (n : Nat) (a3 : Int32) (c_MM_ways : (Nat → Int32)) (E : (Nat → Int32)) (h : fMM_wayOf_l58 a1 a2 n a3 c_MM_ways = some E) (k0 : At G X 6 Q 141 [(0, .ref (ad G 40)), (1, .int a1), (2, .int a2)] [] (z1, ((((((z2111111, c_MM_roads), (E, z2111122)), z21112), z2112), z212), z22))), At G X 6 Q 58 [(0, .ref (ad G 40)), (1, .int a1), (2, .int a2), (3, .int a3)] [] (z1, ((((((z2111111, c_MM_roads), (c_MM_ways, z2111122)), z21112), z2112), z212), z22)) := by
  intro n
  induction n with
  | zero =>
    intro a3 c_MM_ways E h k0
    rw [fMM_wayOf_l58.eq_1] at h
    cases h
  | succ n ih =>
    intro a3 c_MM_ways E h k0
    rw [fMM_wayOf_l58.eq_2] at h
    refine at_iload_n (j := 3) C dMM_wayOf_58 rfl rfl ?_
    refine at_bipush C dMM_wayOf_59 cb_16 ?_
    refine at_icmp_ge C dMM_wayOf_61 rfl (fun hc => ?_) (fun hc => ?_)
    · replace h := ifp hc h
      cases h
      refine at_loc (L' := [(0, .ref (ad G 40)), (1, .int a1), (2, .int a2)]) [0, 1, 2] rfl ?_
      exact k0
    · replace h := ifn hc h
      refine at_iconst C dMM_wayOf_64 ci_0 ?_
      refine at_istore (L' := [(4, .int (0 : Int32)), (0, .ref (ad G 40)), (1, .int a1), (2, .int a2), (3, .int a3)]) C dMM_wayOf_65 (by decide) rfl ?_
      obtain ⟨e11, he11, h⟩ := ob_some h
      refine at_loc (L' := [(0, .ref (ad G 40)), (1, .int a1), (2, .int a2), (3, .int a3), (4, .int (0 : Int32))]) [1, 2, 3, 4, 0] rfl ?_
      refine wMM_wayOf_l67 C _ _ _ FU _ _ _ he11 ?_
      refine at_iinc (j := 3) (L' := [(3, .int (a3 + (1 : Int32))), (0, .ref (ad G 40)), (1, .int a1), (2, .int a2)]) C dMM_wayOf_135 rfl ci_1 (by decide) rfl ?_
      refine at_goto C dMM_wayOf_138 rfl ?_
      refine at_loc (L' := [(0, .ref (ad G 40)), (1, .int a1), (2, .int a2), (3, .int (a3 + (1 : Int32)))]) [1, 2, 3, 0] rfl ?_
      exact ih _ _ _ h k0
set_option maxRecDepth 100000 in
set_option maxHeartbeats 4000000 in
theorem cMM_wayOf {l : Launch} {G : GG} (hG : GOK G) {c_MM_roads : (Nat → Int32)} {c_MM_ways : (Nat → Int32)} {z1 : Z1} {z2111111 : Int32} {z2111122 : (Nat → Int32)} {z21112 : Z21112} {z2112 : Z2112} {z212 : Z212} {z22 : Z22} (a1 : Int32) (a2 : Int32) (R : (Int32 × (Nat → Int32))) (h : fMM_wayOf a1 a2 c_MM_roads c_MM_ways = some R) : Met l yMM_wayOf (.code yMM_wayOf prog_12_method_7_code 6 (some .int) :: gw) (rmm 1) (PcW G [.ref (ad G 40), .int a1, .int a2] (z1, ((((((z2111111, c_MM_roads), (c_MM_ways, z2111122)), z21112), z2112), z212), z22))) (Qw G (some (.int R.1)) (z1, ((((((z2111111, c_MM_roads), (R.2, z2111122)), z21112), z2112), z212), z22))) 0 0 (Aw G) := by
  refine met_of (by decide) 1 G hG _ _ (Nat.le_of_ble_eq_true rfl) _ _ (fun X _ C => ?_)
  have C : Cx G X RcMM prog_12_method_7_code 6 1 (some .int) := C
  unfold fMM_wayOf at h
  show At G X 6 _ 0 [(0, .ref (ad G 40)), (1, .int a1), (2, .int a2)] [] (z1, ((((((z2111111, c_MM_roads), (c_MM_ways, z2111122)), z21112), z2112), z212), z22))
  refine at_iconst C dMM_wayOf_0 ci_0 ?_
  refine at_istore_n (L' := [(3, .int (0 : Int32)), (0, .ref (ad G 40)), (1, .int a1), (2, .int a2)]) C dMM_wayOf_1 rfl (by decide) rfl ?_
  obtain ⟨e6, he6, h⟩ := ob_some h
  refine at_loc (L' := [(0, .ref (ad G 40)), (1, .int a1), (2, .int a2), (3, .int (0 : Int32))]) [1, 2, 3, 0] rfl ?_
  refine wMM_wayOf_l2 C _ _ FU _ _ _ he6 ?_
  refine at_iconst C dMM_wayOf_56 ci_0 ?_
  refine at_istore_n (L' := [(3, .int (0 : Int32)), (0, .ref (ad G 40)), (1, .int a1), (2, .int a2)]) C dMM_wayOf_57 rfl (by decide) rfl ?_
  obtain ⟨e12, he12, h⟩ := ob_some h
  refine at_loc (L' := [(0, .ref (ad G 40)), (1, .int a1), (2, .int a2), (3, .int (0 : Int32))]) [1, 2, 3, 0] rfl ?_
  refine wMM_wayOf_l58 C _ _ FU _ _ _ he12 ?_
  refine at_aload_n (j := 0) C dMM_wayOf_141 rfl rfl ?_
  refine gfMM_ways C dMM_wayOf_142 ?_
  refine at_bipush C dMM_wayOf_145 cb_16 ?_
  refine at_iload_n (j := 1) C dMM_wayOf_147 rfl rfl ?_
  refine at_imul C dMM_wayOf_148 ?_
  refine at_iload_n (j := 2) C dMM_wayOf_149 rfl rfl ?_
  refine at_iadd C dMM_wayOf_150 ?_
  obtain ⟨hg13, h⟩ := gd_some h
  refine ldMM_ways (f := e12) C rfl hg13 dMM_wayOf_151 ?_
  refine at_ldc C qMM_117 dMM_wayOf_152 ?_
  refine at_icmp_lt C dMM_wayOf_154 rfl (fun hc => ?_) (fun hc => ?_)
  · replace h := ifp hc h
    refine at_aload_n (j := 0) C dMM_wayOf_161 rfl rfl ?_
    refine gfMM_ways C dMM_wayOf_162 ?_
    refine at_bipush C dMM_wayOf_165 cb_16 ?_
    refine at_iload_n (j := 1) C dMM_wayOf_167 rfl rfl ?_
    refine at_imul C dMM_wayOf_168 ?_
    refine at_iload_n (j := 2) C dMM_wayOf_169 rfl rfl ?_
    refine at_iadd C dMM_wayOf_170 ?_
    obtain ⟨hg14, h⟩ := gd_some h
    refine ldMM_ways (f := e12) C rfl hg14 dMM_wayOf_171 ?_
    cases h
    exact at_iret C dMM_wayOf_172
  · replace h := ifn hc h
    refine at_iconst C dMM_wayOf_157 ci_m1 ?_
    refine at_goto C dMM_wayOf_158 rfl ?_
    cases h
    exact at_iret C dMM_wayOf_172
set_option maxRecDepth 100000 in
set_option maxHeartbeats 4000000 in
theorem cMM_way {l : Launch} {G : GG} (hG : GOK G) {c_MM_roads : (Nat → Int32)} {c_MM_ways : (Nat → Int32)} {z1 : Z1} {z2111111 : Int32} {z2111122 : (Nat → Int32)} {z21112 : Z21112} {z2112 : Z2112} {z212 : Z212} {z22 : Z22} (a1 : Int32) (a2 : Int32) (R : (Int32 × (Nat → Int32))) (h : fMM_way a1 a2 c_MM_roads c_MM_ways = some R) : Met l yMM_way (.code yMM_way prog_12_method_8_code 3 (some .int) :: gw) (rmm 3) (PcW G [.ref (ad G 40), .int a1, .int a2] (z1, ((((((z2111111, c_MM_roads), (c_MM_ways, z2111122)), z21112), z2112), z212), z22))) (Qw G (some (.int R.1)) (z1, ((((((z2111111, c_MM_roads), (R.2, z2111122)), z21112), z2112), z212), z22))) 0 0 (Aw G) := by
  refine met_of (by decide) 3 G hG _ _ (Nat.le_of_ble_eq_true rfl) _ _ (fun X _ C => ?_)
  have C : Cx G X RcMM prog_12_method_8_code 3 3 (some .int) := C
  unfold fMM_way at h
  show At G X 3 _ 0 [(0, .ref (ad G 40)), (1, .int a1), (2, .int a2)] [] (z1, ((((((z2111111, c_MM_roads), (c_MM_ways, z2111122)), z21112), z2112), z212), z22))
  refine at_iload_n (j := 1) C dMM_way_0 rfl rfl ?_
  refine at_callSi C kMM_113 (cMM_isPlace C.2.2.2.2.2.2.1 _ _ rfl) (by omega) rfl rfl (Nat.le_of_ble_eq_true rfl) dMM_way_1 ?_
  refine at_if_eq C dMM_way_4 rfl (fun hc => ?_) (fun hc => ?_)
  · replace h := ifp hc h
    refine at_iconst C dMM_way_23 ci_m1 ?_
    cases h
    exact at_iret C dMM_way_24
  · replace h := ifn hc h
    refine at_iload_n (j := 2) C dMM_way_7 rfl rfl ?_
    refine at_callSi C kMM_113 (cMM_isPlace C.2.2.2.2.2.2.1 _ _ rfl) (by omega) rfl rfl (Nat.le_of_ble_eq_true rfl) dMM_way_8 ?_
    refine at_if_eq C dMM_way_11 rfl (fun hc => ?_) (fun hc => ?_)
    · replace h := ifp hc h
      refine at_iconst C dMM_way_23 ci_m1 ?_
      cases h
      exact at_iret C dMM_way_24
    · replace h := ifn hc h
      refine at_aload_n (j := 0) C dMM_way_14 rfl rfl ?_
      refine at_iload_n (j := 1) C dMM_way_15 rfl rfl ?_
      refine at_iload_n (j := 2) C dMM_way_16 rfl rfl ?_
      obtain ⟨e1, he1, h⟩ := ob_some h
      refine at_callVi C kMM_118 (cMM_wayOf C.2.2.2.2.2.2.1 _ _ _ he1) (by omega) rfl rfl rfl rfl (Nat.le_of_ble_eq_true rfl) dMM_way_17 ?_
      refine at_goto C dMM_way_20 rfl ?_
      cases h
      exact at_iret C dMM_way_24
set_option maxRecDepth 100000 in
set_option maxHeartbeats 4000000 in
theorem cMM_weight {l : Launch} {G : GG} (hG : GOK G) {c_MM_weight : (Nat → Int32)} {c_MM_load : Int32} {z1 : Z1} {z211111 : Z211111} {z2111121 : (Nat → Int32)} {z2111212 : (Nat → Int32)} {z211122 : (Nat → Int32)} {z2112 : Z2112} {z212 : Z212} {z22 : Z22} (a1 : Int32) (a2 : Int32) (R : (Int32 × (Nat → Int32) × Int32)) (h : fMM_weight a1 a2 c_MM_weight c_MM_load = some R) : Met l yMM_weight (.code yMM_weight prog_12_method_9_code 3 (some .boolean) :: gw) (rmm 3) (PcW G [.ref (ad G 40), .int a1, .int a2] (z1, (((((z211111, (z2111121, c_MM_weight)), ((c_MM_load, z2111212), z211122)), z2112), z212), z22))) (Qw G (some (.int R.1)) (z1, (((((z211111, (z2111121, R.2.1)), ((R.2.2, z2111212), z211122)), z2112), z212), z22))) 0 0 (Aw G) := by
  refine met_of (by decide) 3 G hG _ _ (Nat.le_of_ble_eq_true rfl) _ _ (fun X _ C => ?_)
  have C : Cx G X RcMM prog_12_method_9_code 3 3 (some .boolean) := C
  unfold fMM_weight at h
  show At G X 3 _ 0 [(0, .ref (ad G 40)), (1, .int a1), (2, .int a2)] [] (z1, (((((z211111, (z2111121, c_MM_weight)), ((c_MM_load, z2111212), z211122)), z2112), z212), z22))
  refine at_iload_n (j := 1) C dMM_weight_0 rfl rfl ?_
  refine at_iconst C dMM_weight_1 ci_m1 ?_
  refine at_icmp_ne C dMM_weight_2 rfl (fun hc => ?_) (fun hc => ?_)
  · replace h := ifn hc h
    refine at_iload_n (j := 1) C dMM_weight_22 rfl rfl ?_
    refine at_callSi C kMM_122 (cMM_isGood C.2.2.2.2.2.2.1 _ _ rfl) (by omega) rfl rfl (Nat.le_of_ble_eq_true rfl) dMM_weight_23 ?_
    refine at_if_eq C dMM_weight_26 rfl (fun hc => ?_) (fun hc => ?_)
    · replace h := ifp hc h
      refine at_iconst C dMM_weight_39 ci_0 ?_
      cases h
      exact at_zret (x := (0 : Int32)) C zn_0 dMM_weight_40
    · replace h := ifn hc h
      refine at_iload_n (j := 2) C dMM_weight_29 rfl rfl ?_
      refine at_iconst C dMM_weight_30 ci_1 ?_
      refine at_bipush C dMM_weight_31 cb_50 ?_
      refine at_callSi C kMM_109 (cMM_isIn C.2.2.2.2.2.2.1 _ _ _ _ rfl) (by omega) rfl rfl (Nat.le_of_ble_eq_true rfl) dMM_weight_33 ?_
      refine at_if_ne C dMM_weight_36 rfl (fun hc => ?_) (fun hc => ?_)
      · replace h := ifn hc h
        refine at_aload_n (j := 0) C dMM_weight_41 rfl rfl ?_
        refine gfMM_weight C dMM_weight_42 ?_
        refine at_iload_n (j := 1) C dMM_weight_45 rfl rfl ?_
        refine at_iload_n (j := 2) C dMM_weight_46 rfl rfl ?_
        obtain ⟨hg1, h⟩ := gd_some h
        refine svMM_weight C hg1 dMM_weight_47 ?_
        refine at_st (S1 := (z1, (((((z211111, (z2111121, (upd c_MM_weight (a1).toNatClampNeg a2))), ((c_MM_load, z2111212), z211122)), z2112), z212), z22))) rfl ?_
        refine at_iconst C dMM_weight_48 ci_1 ?_
        cases h
        exact at_zret (x := (1 : Int32)) C zn_1 dMM_weight_49
      · replace h := ifp hc h
        refine at_iconst C dMM_weight_39 ci_0 ?_
        cases h
        exact at_zret (x := (0 : Int32)) C zn_0 dMM_weight_40
  · replace h := ifp hc h
    refine at_iload_n (j := 2) C dMM_weight_5 rfl rfl ?_
    refine at_iconst C dMM_weight_6 ci_1 ?_
    refine at_bipush C dMM_weight_7 cb_100 ?_
    refine at_callSi C kMM_109 (cMM_isIn C.2.2.2.2.2.2.1 _ _ _ _ rfl) (by omega) rfl rfl (Nat.le_of_ble_eq_true rfl) dMM_weight_9 ?_
    refine at_if_eq C dMM_weight_12 rfl (fun hc => ?_) (fun hc => ?_)
    · replace h := ifp hc h
      refine at_iload_n (j := 1) C dMM_weight_22 rfl rfl ?_
      refine at_callSi C kMM_122 (cMM_isGood C.2.2.2.2.2.2.1 _ _ rfl) (by omega) rfl rfl (Nat.le_of_ble_eq_true rfl) dMM_weight_23 ?_
      refine at_if_eq C dMM_weight_26 rfl (fun hc => ?_) (fun hc => ?_)
      · replace h := ifp hc h
        refine at_iconst C dMM_weight_39 ci_0 ?_
        cases h
        exact at_zret (x := (0 : Int32)) C zn_0 dMM_weight_40
      · replace h := ifn hc h
        refine at_iload_n (j := 2) C dMM_weight_29 rfl rfl ?_
        refine at_iconst C dMM_weight_30 ci_1 ?_
        refine at_bipush C dMM_weight_31 cb_50 ?_
        refine at_callSi C kMM_109 (cMM_isIn C.2.2.2.2.2.2.1 _ _ _ _ rfl) (by omega) rfl rfl (Nat.le_of_ble_eq_true rfl) dMM_weight_33 ?_
        refine at_if_ne C dMM_weight_36 rfl (fun hc => ?_) (fun hc => ?_)
        · replace h := ifn hc h
          refine at_aload_n (j := 0) C dMM_weight_41 rfl rfl ?_
          refine gfMM_weight C dMM_weight_42 ?_
          refine at_iload_n (j := 1) C dMM_weight_45 rfl rfl ?_
          refine at_iload_n (j := 2) C dMM_weight_46 rfl rfl ?_
          obtain ⟨hg2, h⟩ := gd_some h
          refine svMM_weight C hg2 dMM_weight_47 ?_
          refine at_st (S1 := (z1, (((((z211111, (z2111121, (upd c_MM_weight (a1).toNatClampNeg a2))), ((c_MM_load, z2111212), z211122)), z2112), z212), z22))) rfl ?_
          refine at_iconst C dMM_weight_48 ci_1 ?_
          cases h
          exact at_zret (x := (1 : Int32)) C zn_1 dMM_weight_49
        · replace h := ifp hc h
          refine at_iconst C dMM_weight_39 ci_0 ?_
          cases h
          exact at_zret (x := (0 : Int32)) C zn_0 dMM_weight_40
    · replace h := ifn hc h
      refine at_aload_n (j := 0) C dMM_weight_15 rfl rfl ?_
      refine at_iload_n (j := 2) C dMM_weight_16 rfl rfl ?_
      refine pfMM_load C dMM_weight_17 ?_
      refine at_st (S1 := (z1, (((((z211111, (z2111121, c_MM_weight)), ((a2, z2111212), z211122)), z2112), z212), z22))) rfl ?_
      refine at_iconst C dMM_weight_20 ci_1 ?_
      cases h
      exact at_zret (x := (1 : Int32)) C zn_1 dMM_weight_21
set_option maxRecDepth 100000 in
set_option maxHeartbeats 4000000 in
theorem cMM_carriersOf {l : Launch} {G : GG} (hG : GOK G) {c_MM_weight : (Nat → Int32)} {c_MM_load : Int32} {z1 : Z1} {z211111 : Z211111} {z2111121 : (Nat → Int32)} {z2111212 : (Nat → Int32)} {z211122 : (Nat → Int32)} {z2112 : Z2112} {z212 : Z212} {z22 : Z22} (a1 : Int32) (a2 : Int32) (R : Int32) (h : fMM_carriersOf a1 a2 c_MM_weight c_MM_load = some R) : Met l yMM_carriersOf (.code yMM_carriersOf prog_12_method_10_code 4 (some .int) :: gw) (rmm 1) (PcW G [.ref (ad G 40), .int a1, .int a2] (z1, (((((z211111, (z2111121, c_MM_weight)), ((c_MM_load, z2111212), z211122)), z2112), z212), z22))) (Qw G (some (.int R)) (z1, (((((z211111, (z2111121, c_MM_weight)), ((c_MM_load, z2111212), z211122)), z2112), z212), z22))) 0 0 (Aw G) := by
  refine met_of (by decide) 1 G hG _ _ (Nat.le_of_ble_eq_true rfl) _ _ (fun X _ C => ?_)
  have C : Cx G X RcMM prog_12_method_10_code 4 1 (some .int) := C
  unfold fMM_carriersOf at h
  show At G X 4 _ 0 [(0, .ref (ad G 40)), (1, .int a1), (2, .int a2)] [] (z1, (((((z211111, (z2111121, c_MM_weight)), ((c_MM_load, z2111212), z211122)), z2112), z212), z22))
  refine at_aload_n (j := 0) C dMM_carriersOf_0 rfl rfl ?_
  refine gfMM_load (x := c_MM_load) C rfl dMM_carriersOf_1 ?_
  refine at_aload_n (j := 0) C dMM_carriersOf_4 rfl rfl ?_
  refine gfMM_weight C dMM_carriersOf_5 ?_
  refine at_iload_n (j := 1) C dMM_carriersOf_8 rfl rfl ?_
  obtain ⟨hg1, h⟩ := gd_some h
  refine ldMM_weight (f := c_MM_weight) C rfl hg1 dMM_carriersOf_9 ?_
  obtain ⟨hg2, h⟩ := gd_some h
  refine at_idiv C dMM_carriersOf_10 hg2 ?_
  refine at_iconst C dMM_carriersOf_11 ci_1 ?_
  refine at_icmp_ge C dMM_carriersOf_12 rfl (fun hc => ?_) (fun hc => ?_)
  · replace h := ifp hc h
    refine at_aload_n (j := 0) C dMM_carriersOf_19 rfl rfl ?_
    refine gfMM_load (x := c_MM_load) C rfl dMM_carriersOf_20 ?_
    refine at_aload_n (j := 0) C dMM_carriersOf_23 rfl rfl ?_
    refine gfMM_weight C dMM_carriersOf_24 ?_
    refine at_iload_n (j := 1) C dMM_carriersOf_27 rfl rfl ?_
    obtain ⟨hg3, h⟩ := gd_some h
    refine ldMM_weight (f := c_MM_weight) C rfl hg3 dMM_carriersOf_28 ?_
    obtain ⟨hg4, h⟩ := gd_some h
    refine at_idiv C dMM_carriersOf_29 hg4 ?_
    refine at_istore_n (L' := [(3, .int (c_MM_load / (c_MM_weight (a1).toNatClampNeg))), (0, .ref (ad G 40)), (1, .int a1), (2, .int a2)]) C dMM_carriersOf_30 rfl (by decide) rfl ?_
    refine at_iload_n (j := 3) C dMM_carriersOf_31 rfl rfl ?_
    refine at_iload_n (j := 0) C dMM_carriersOf_32 rfl rfl ?_
    refine at_iadd C dMM_carriersOf_33 ?_
    refine at_iconst C dMM_carriersOf_34 ci_1 ?_
    refine at_isub C dMM_carriersOf_35 ?_
    refine at_iload_n (j := 0) C dMM_carriersOf_36 rfl rfl ?_
    obtain ⟨hg5, h⟩ := gd_some h
    refine at_idiv C dMM_carriersOf_37 hg5 ?_
    cases h
    exact at_iret C dMM_carriersOf_38
  · replace h := ifn hc h
    refine at_iconst C dMM_carriersOf_15 ci_1 ?_
    refine at_goto C dMM_carriersOf_16 rfl ?_
    refine at_istore_n (L' := [(3, .int (1 : Int32)), (0, .ref (ad G 40)), (1, .int a1), (2, .int a2)]) C dMM_carriersOf_30 rfl (by decide) rfl ?_
    refine at_iload_n (j := 3) C dMM_carriersOf_31 rfl rfl ?_
    refine at_iload_n (j := 0) C dMM_carriersOf_32 rfl rfl ?_
    refine at_iadd C dMM_carriersOf_33 ?_
    refine at_iconst C dMM_carriersOf_34 ci_1 ?_
    refine at_isub C dMM_carriersOf_35 ?_
    refine at_iload_n (j := 0) C dMM_carriersOf_36 rfl rfl ?_
    refine at_idiv C dMM_carriersOf_37 (by decide) ?_
    cases h
    exact at_iret C dMM_carriersOf_38
set_option maxRecDepth 100000 in
set_option maxHeartbeats 4000000 in
theorem cMM_carriers {l : Launch} {G : GG} (hG : GOK G) {c_MM_weight : (Nat → Int32)} {c_MM_load : Int32} {z1 : Z1} {z211111 : Z211111} {z2111121 : (Nat → Int32)} {z2111212 : (Nat → Int32)} {z211122 : (Nat → Int32)} {z2112 : Z2112} {z212 : Z212} {z22 : Z22} (a1 : Int32) (a2 : Int32) (R : Int32) (h : fMM_carriers a1 a2 c_MM_weight c_MM_load = some R) : Met l yMM_carriers (.code yMM_carriers prog_12_method_11_code 3 (some .int) :: gw) (rmm 3) (PcW G [.ref (ad G 40), .int a1, .int a2] (z1, (((((z211111, (z2111121, c_MM_weight)), ((c_MM_load, z2111212), z211122)), z2112), z212), z22))) (Qw G (some (.int R)) (z1, (((((z211111, (z2111121, c_MM_weight)), ((c_MM_load, z2111212), z211122)), z2112), z212), z22))) 0 0 (Aw G) := by
  refine met_of (by decide) 3 G hG _ _ (Nat.le_of_ble_eq_true rfl) _ _ (fun X _ C => ?_)
  have C : Cx G X RcMM prog_12_method_11_code 3 3 (some .int) := C
  unfold fMM_carriers at h
  show At G X 3 _ 0 [(0, .ref (ad G 40)), (1, .int a1), (2, .int a2)] [] (z1, (((((z211111, (z2111121, c_MM_weight)), ((c_MM_load, z2111212), z211122)), z2112), z212), z22))
  refine at_iload_n (j := 1) C dMM_carriers_0 rfl rfl ?_
  refine at_callSi C kMM_122 (cMM_isGood C.2.2.2.2.2.2.1 _ _ rfl) (by omega) rfl rfl (Nat.le_of_ble_eq_true rfl) dMM_carriers_1 ?_
  refine at_if_eq C dMM_carriers_4 rfl (fun hc => ?_) (fun hc => ?_)
  · replace h := ifp hc h
    refine at_iconst C dMM_carriers_27 ci_m1 ?_
    cases h
    exact at_iret C dMM_carriers_28
  · replace h := ifn hc h
    refine at_iload_n (j := 2) C dMM_carriers_7 rfl rfl ?_
    refine at_iconst C dMM_carriers_8 ci_0 ?_
    refine at_sipush C dMM_carriers_9 cs_9999 ?_
    refine at_callSi C kMM_109 (cMM_isIn C.2.2.2.2.2.2.1 _ _ _ _ rfl) (by omega) rfl rfl (Nat.le_of_ble_eq_true rfl) dMM_carriers_12 ?_
    refine at_if_eq C dMM_carriers_15 rfl (fun hc => ?_) (fun hc => ?_)
    · replace h := ifp hc h
      refine at_iconst C dMM_carriers_27 ci_m1 ?_
      cases h
      exact at_iret C dMM_carriers_28
    · replace h := ifn hc h
      refine at_aload_n (j := 0) C dMM_carriers_18 rfl rfl ?_
      refine at_iload_n (j := 1) C dMM_carriers_19 rfl rfl ?_
      refine at_iload_n (j := 2) C dMM_carriers_20 rfl rfl ?_
      obtain ⟨e1, he1, h⟩ := ob_some h
      refine at_callVi C kMM_125 (cMM_carriersOf C.2.2.2.2.2.2.1 _ _ _ he1) (by omega) rfl rfl rfl rfl (Nat.le_of_ble_eq_true rfl) dMM_carriers_21 ?_
      refine at_goto C dMM_carriers_24 rfl ?_
      cases h
      exact at_iret C dMM_carriers_28
