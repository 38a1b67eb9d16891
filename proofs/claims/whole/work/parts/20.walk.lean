set_option maxRecDepth 100000 in
set_option maxHeartbeats 4000000 in
theorem cTL_within {l : Launch} {G : GG} (hG : GOK G) {z : ST} (a0 : Int32) (a1 : Int32) (a2 : Int32) (R : Int32) (h : fTL_within a0 a1 a2 = R) : Met l yTL_within (.code yTL_within prog_1_method_28_code 3 (some .boolean) :: gw) (rmm 1) (PcW G [.int a0, .int a1, .int a2] z) (Qw G (some (.int R)) z) 0 0 (Aw G) := by
  refine met_of (by decide) 1 G hG _ _ (Nat.le_of_ble_eq_true rfl) _ _ (fun X _ C => ?_)
  have C : Cx G X RcTL prog_1_method_28_code 3 1 (some .boolean) := C
  unfold fTL_within at h
  show At G X 3 _ 0 [(0, .int a0), (1, .int a1), (2, .int a2)] [] z
  refine at_iload_n (j := 0) C dTL_within_0 rfl rfl ?_
  refine at_iload_n (j := 1) C dTL_within_1 rfl rfl ?_
  refine at_icmp_lt C dTL_within_2 rfl (fun hc => ?_) (fun hc => ?_)
  · replace h := ifp hc h
    refine at_iconst C dTL_within_14 ci_0 ?_
    subst h
    exact at_zret (x := (0 : Int32)) C zn_0 dTL_within_15
  · replace h := ifn hc h
    refine at_iload_n (j := 0) C dTL_within_5 rfl rfl ?_
    refine at_iload_n (j := 2) C dTL_within_6 rfl rfl ?_
    refine at_icmp_gt C dTL_within_7 rfl (fun hc => ?_) (fun hc => ?_)
    · replace h := ifp hc h
      refine at_iconst C dTL_within_14 ci_0 ?_
      subst h
      exact at_zret (x := (0 : Int32)) C zn_0 dTL_within_15
    · replace h := ifn hc h
      refine at_iconst C dTL_within_10 ci_1 ?_
      refine at_goto C dTL_within_11 rfl ?_
      subst h
      exact at_zret (x := (1 : Int32)) C zn_1 dTL_within_15
set_option maxRecDepth 100000 in
set_option maxHeartbeats 4000000 in
theorem cTL_isPlace {l : Launch} {G : GG} (hG : GOK G) {z : ST} (a0 : Int32) (R : Int32) (h : fTL_isPlace a0 = R) : Met l yTL_isPlace (.code yTL_isPlace prog_1_method_29_code 1 (some .boolean) :: gw) (rmm 2) (PcW G [.int a0] z) (Qw G (some (.int R)) z) 0 0 (Aw G) := by
  refine met_of (by decide) 2 G hG _ _ (Nat.le_of_ble_eq_true rfl) _ _ (fun X _ C => ?_)
  have C : Cx G X RcTL prog_1_method_29_code 1 2 (some .boolean) := C
  unfold fTL_isPlace at h
  show At G X 1 _ 0 [(0, .int a0)] [] z
  refine at_iload_n (j := 0) C dTL_isPlace_0 rfl rfl ?_
  refine at_iconst C dTL_isPlace_1 ci_0 ?_
  refine at_bipush C dTL_isPlace_2 cb_15 ?_
  refine at_callSi C kTL_80 (cTL_within C.2.2.2.2.2.2.1 _ _ _ _ rfl) (by omega) rfl rfl (Nat.le_of_ble_eq_true rfl) dTL_isPlace_4 ?_
  subst h
  exact at_zret (x := (fTL_within a0 (0 : Int32) (15 : Int32))) C (zb_TL_within) dTL_isPlace_7
set_option maxRecDepth 100000 in
set_option maxHeartbeats 4000000 in
theorem cRo_lay {l : Launch} {G : GG} (hG : GOK G) {c_Ro_length : (Nat → Int32)} {z1111111 : Int32} {z111112 : Z111112} {z11112 : Z11112} {z1112 : Z1112} {z112 : Z112} {z12 : Z12} {z2 : Z2} (a1 : Int32) (a2 : Int32) (a3 : Int32) (R : (Nat → Int32)) (h : fRo_lay a1 a2 a3 c_Ro_length = some R) : Met l yRo_lay (.code yRo_lay prog_7_method_2_code 4 none :: gw) (rmm 1) (PcW G [.ref (ad G 1), .int a1, .int a2, .int a3] (((((((z1111111, c_Ro_length), z111112), z11112), z1112), z112), z12), z2)) (Qw G (none) (((((((z1111111, R), z111112), z11112), z1112), z112), z12), z2)) 0 0 (Aw G) := by
  refine met_of (by decide) 1 G hG _ _ (Nat.le_of_ble_eq_true rfl) _ _ (fun X _ C => ?_)
  have C : Cx G X RcRo prog_7_method_2_code 4 1 none := C
  unfold fRo_lay at h
  show At G X 4 _ 0 [(0, .ref (ad G 1)), (1, .int a1), (2, .int a2), (3, .int a3)] [] (((((((z1111111, c_Ro_length), z111112), z11112), z1112), z112), z12), z2)
  refine at_aload_n (j := 0) C dRo_lay_0 rfl rfl ?_
  refine gfRo_length C dRo_lay_1 ?_
  refine at_iload_n (j := 1) C dRo_lay_4 rfl rfl ?_
  refine at_bipush C dRo_lay_5 cb_16 ?_
  refine at_imul C dRo_lay_7 ?_
  refine at_iload_n (j := 2) C dRo_lay_8 rfl rfl ?_
  refine at_iadd C dRo_lay_9 ?_
  refine at_iload_n (j := 3) C dRo_lay_10 rfl rfl ?_
  obtain ⟨hg1, h⟩ := gd_some h
  refine svRo_length C hg1 dRo_lay_11 ?_
  refine at_st (S1 := (((((((z1111111, (upd c_Ro_length (((a1 * (16 : Int32)) + a2)).toNatClampNeg a3)), z111112), z11112), z1112), z112), z12), z2)) rfl ?_
  refine at_aload_n (j := 0) C dRo_lay_12 rfl rfl ?_
  refine gfRo_length C dRo_lay_13 ?_
  refine at_iload_n (j := 2) C dRo_lay_16 rfl rfl ?_
  refine at_bipush C dRo_lay_17 cb_16 ?_
  refine at_imul C dRo_lay_19 ?_
  refine at_iload_n (j := 1) C dRo_lay_20 rfl rfl ?_
  refine at_iadd C dRo_lay_21 ?_
  refine at_iload_n (j := 3) C dRo_lay_22 rfl rfl ?_
  obtain ⟨hg2, h⟩ := gd_some h
  refine svRo_length C hg2 dRo_lay_23 ?_
  refine at_st (S1 := (((((((z1111111, (upd (upd c_Ro_length (((a1 * (16 : Int32)) + a2)).toNatClampNeg a3) (((a2 * (16 : Int32)) + a1)).toNatClampNeg a3)), z111112), z11112), z1112), z112), z12), z2)) rfl ?_
  cases h
  exact at_vret C dRo_lay_24
set_option maxRecDepth 100000 in
set_option maxHeartbeats 4000000 in
theorem cTL_road {l : Launch} {G : GG} (hG : GOK G) {c_Ro_length : (Nat → Int32)} {z1111111 : Int32} {z111112 : Z111112} {z11112 : Z11112} {z1112 : Z1112} {z112 : Z112} {z12 : Z12} {z2 : Z2} (a1 : Int32) (a2 : Int32) (a3 : Int32) (R : (Int32 × (Nat → Int32))) (h : fTL_road a1 a2 a3 c_Ro_length = some R) : Met l yTL_road (.code yTL_road prog_1_method_2_code 4 (some .boolean) :: gw) (rmm 3) (PcW G [.ref (ad G 0), .int a1, .int a2, .int a3] (((((((z1111111, c_Ro_length), z111112), z11112), z1112), z112), z12), z2)) (Qw G (some (.int R.1)) (((((((z1111111, R.2), z111112), z11112), z1112), z112), z12), z2)) 0 0 (Aw G) := by
  refine met_of (by decide) 3 G hG _ _ (Nat.le_of_ble_eq_true rfl) _ _ (fun X _ C => ?_)
  have C : Cx G X RcTL prog_1_method_2_code 4 3 (some .boolean) := C
  unfold fTL_road at h
  show At G X 4 _ 0 [(0, .ref (ad G 0)), (1, .int a1), (2, .int a2), (3, .int a3)] [] (((((((z1111111, c_Ro_length), z111112), z11112), z1112), z112), z12), z2)
  refine at_iload_n (j := 1) C dTL_road_0 rfl rfl ?_
  refine at_callSi C kTL_76 (cTL_isPlace C.2.2.2.2.2.2.1 _ _ rfl) (by omega) rfl rfl (Nat.le_of_ble_eq_true rfl) dTL_road_1 ?_
  refine at_if_eq C dTL_road_4 rfl (fun hc => ?_) (fun hc => ?_)
  · replace h := ifp hc h
    refine at_iconst C dTL_road_29 ci_0 ?_
    cases h
    exact at_zret (x := (0 : Int32)) C zn_0 dTL_road_30
  · replace h := ifn hc h
    refine at_iload_n (j := 2) C dTL_road_7 rfl rfl ?_
    refine at_callSi C kTL_76 (cTL_isPlace C.2.2.2.2.2.2.1 _ _ rfl) (by omega) rfl rfl (Nat.le_of_ble_eq_true rfl) dTL_road_8 ?_
    refine at_if_eq C dTL_road_11 rfl (fun hc => ?_) (fun hc => ?_)
    · replace h := ifp hc h
      refine at_iconst C dTL_road_29 ci_0 ?_
      cases h
      exact at_zret (x := (0 : Int32)) C zn_0 dTL_road_30
    · replace h := ifn hc h
      refine at_iload_n (j := 1) C dTL_road_14 rfl rfl ?_
      refine at_iload_n (j := 2) C dTL_road_15 rfl rfl ?_
      refine at_icmp_eq C dTL_road_16 rfl (fun hc => ?_) (fun hc => ?_)
      · replace h := ifp hc h
        refine at_iconst C dTL_road_29 ci_0 ?_
        cases h
        exact at_zret (x := (0 : Int32)) C zn_0 dTL_road_30
      · replace h := ifn hc h
        refine at_iload_n (j := 3) C dTL_road_19 rfl rfl ?_
        refine at_iconst C dTL_road_20 ci_0 ?_
        refine at_bipush C dTL_road_21 cb_30 ?_
        refine at_callSi C kTL_80 (cTL_within C.2.2.2.2.2.2.1 _ _ _ _ rfl) (by omega) rfl rfl (Nat.le_of_ble_eq_true rfl) dTL_road_23 ?_
        refine at_if_ne C dTL_road_26 rfl (fun hc => ?_) (fun hc => ?_)
        · replace h := ifn hc h
          refine at_aload_n (j := 0) C dTL_road_31 rfl rfl ?_
          refine gfTL_roads C dTL_road_32 ?_
          refine at_iload_n (j := 1) C dTL_road_35 rfl rfl ?_
          refine at_iload_n (j := 2) C dTL_road_36 rfl rfl ?_
          refine at_iload_n (j := 3) C dTL_road_37 rfl rfl ?_
          obtain ⟨e1, he1, h⟩ := ob_some h
          refine at_callVv C kTL_84 (cRo_lay C.2.2.2.2.2.2.1 _ _ _ _ he1) (by omega) rfl rfl rfl rfl (Nat.le_of_ble_eq_true rfl) dTL_road_38 ?_
          refine at_iconst C dTL_road_41 ci_1 ?_
          cases h
          exact at_zret (x := (1 : Int32)) C zn_1 dTL_road_42
        · replace h := ifp hc h
          refine at_iconst C dTL_road_29 ci_0 ?_
          cases h
          exact at_zret (x := (0 : Int32)) C zn_0 dTL_road_30
set_option maxRecDepth 100000 in
set_option maxHeartbeats 4000000 in
theorem wRo_nearestOpen_l7 {G : GG} {X : CX} {c_Ro_reach : (Nat → Int32)} {c_Ro_settled : (Nat → Int32)} {z111111 : Z111111} {z11112 : Z11112} {z1112 : Z1112} {z112 : Z112} {z12 : Z12} {z2 : Z2} (C : Cx G X RcRo prog_7_method_4_code 4 1 (some .int)) {Q : State → Prop}  : ∀ (n : Nat) (a1 : Int32) (a2 : Int32) (a3 : Int32) (E : Int32) (h : fRo_nearestOpen_l7 c_Ro_reach c_Ro_settled n a1 a2 a3 = some E) (k0 : At G X 4 Q 47 [(1, .int E)] [] ((((((z111111, (c_Ro_reach, c_Ro_settled)), z11112), z1112), z112), z12), z2)), At G X 4 Q 7 [(0, .ref (ad G 1)), (1, .int a1), (2, .int a2), (3, .int a3)] [] ((((((z111111, (c_Ro_reach, c_Ro_settled)), z11112), z1112), z112), z12), z2) := by
  intro n
  induction n with
  | zero =>
    intro a1 a2 a3 E h k0
    rw [fRo_nearestOpen_l7.eq_1] at h
    cases h
  | succ n ih =>
    intro a1 a2 a3 E h k0
    rw [fRo_nearestOpen_l7.eq_2] at h
    refine at_iload_n (j := 3) C dRo_nearestOpen_7 rfl rfl ?_
    refine at_bipush C dRo_nearestOpen_8 cb_16 ?_
    refine at_icmp_ge C dRo_nearestOpen_10 rfl (fun hc => ?_) (fun hc => ?_)
    · replace h := ifp hc h
      cases h
      refine at_loc (L' := [(1, .int a1)]) [1] rfl ?_
      exact k0
    · replace h := ifn hc h
      refine at_aload_n (j := 0) C dRo_nearestOpen_13 rfl rfl ?_
      refine gfRo_settled C dRo_nearestOpen_14 ?_
      refine at_iload_n (j := 3) C dRo_nearestOpen_17 rfl rfl ?_
      obtain ⟨hg1, h⟩ := gd_some h
      refine ldRo_settled (f := c_Ro_settled) C rfl hg1 dRo_nearestOpen_18 ?_
      refine at_if_ne C dRo_nearestOpen_19 rfl (fun hc => ?_) (fun hc => ?_)
      · replace h := ifn hc h
        refine at_iinc (j := 3) (L' := [(3, .int (a3 + (1 : Int32))), (0, .ref (ad G 1)), (1, .int a1), (2, .int a2)]) C dRo_nearestOpen_41 rfl ci_1 (by decide) rfl ?_
        refine at_goto C dRo_nearestOpen_44 rfl ?_
        refine at_loc (L' := [(0, .ref (ad G 1)), (1, .int a1), (2, .int a2), (3, .int (a3 + (1 : Int32)))]) [1, 2, 3, 0] rfl ?_
        exact ih _ _ _ _ h k0
      · replace h := ifp hc h
        refine at_aload_n (j := 0) C dRo_nearestOpen_22 rfl rfl ?_
        refine gfRo_reach C dRo_nearestOpen_23 ?_
        refine at_iload_n (j := 3) C dRo_nearestOpen_26 rfl rfl ?_
        obtain ⟨hg2, h⟩ := gd_some h
        refine ldRo_reach (f := c_Ro_reach) C rfl hg2 dRo_nearestOpen_27 ?_
        refine at_iload_n (j := 2) C dRo_nearestOpen_28 rfl rfl ?_
        refine at_icmp_ge C dRo_nearestOpen_29 rfl (fun hc => ?_) (fun hc => ?_)
        · replace h := ifp hc h
          refine at_iinc (j := 3) (L' := [(3, .int (a3 + (1 : Int32))), (0, .ref (ad G 1)), (1, .int a1), (2, .int a2)]) C dRo_nearestOpen_41 rfl ci_1 (by decide) rfl ?_
          refine at_goto C dRo_nearestOpen_44 rfl ?_
          refine at_loc (L' := [(0, .ref (ad G 1)), (1, .int a1), (2, .int a2), (3, .int (a3 + (1 : Int32)))]) [1, 2, 3, 0] rfl ?_
          exact ih _ _ _ _ h k0
        · replace h := ifn hc h
          refine at_iload_n (j := 3) C dRo_nearestOpen_32 rfl rfl ?_
          refine at_istore_n (L' := [(1, .int a3), (0, .ref (ad G 1)), (2, .int a2), (3, .int a3)]) C dRo_nearestOpen_33 rfl (by decide) rfl ?_
          refine at_aload_n (j := 1) C dRo_nearestOpen_34 rfl rfl ?_
          refine gfRo_reach C dRo_nearestOpen_35 ?_
          refine at_iload_n (j := 3) C dRo_nearestOpen_38 rfl rfl ?_
          obtain ⟨hg3, h⟩ := gd_some h
          refine ldRo_reach (f := c_Ro_reach) C rfl hg3 dRo_nearestOpen_39 ?_
          refine at_istore_n (L' := [(2, .int (c_Ro_reach (a3).toNatClampNeg)), (1, .int a3), (0, .ref (ad G 1)), (3, .int a3)]) C dRo_nearestOpen_40 rfl (by decide) rfl ?_
          refine at_iinc (j := 3) (L' := [(3, .int (a3 + (1 : Int32))), (2, .int (c_Ro_reach (a3).toNatClampNeg)), (1, .int a3), (0, .ref (ad G 1))]) C dRo_nearestOpen_41 rfl ci_1 (by decide) rfl ?_
          refine at_goto C dRo_nearestOpen_44 rfl ?_
          refine at_loc (L' := [(0, .ref (ad G 1)), (1, .int a3), (2, .int (c_Ro_reach (a3).toNatClampNeg)), (3, .int (a3 + (1 : Int32)))]) [3, 2, 1, 0] rfl ?_
          exact ih _ _ _ _ h k0
set_option maxRecDepth 100000 in
set_option maxHeartbeats 4000000 in
theorem cRo_nearestOpen {l : Launch} {G : GG} (hG : GOK G) {c_Ro_reach : (Nat → Int32)} {c_Ro_settled : (Nat → Int32)} {z111111 : Z111111} {z11112 : Z11112} {z1112 : Z1112} {z112 : Z112} {z12 : Z12} {z2 : Z2} (R : Int32) (h : fRo_nearestOpen c_Ro_reach c_Ro_settled = some R) : Met l yRo_nearestOpen (.code yRo_nearestOpen prog_7_method_4_code 4 (some .int) :: gw) (rmm 1) (PcW G [.ref (ad G 1)] ((((((z111111, (c_Ro_reach, c_Ro_settled)), z11112), z1112), z112), z12), z2)) (Qw G (some (.int R)) ((((((z111111, (c_Ro_reach, c_Ro_settled)), z11112), z1112), z112), z12), z2)) 0 0 (Aw G) := by
  refine met_of (by decide) 1 G hG _ _ (Nat.le_of_ble_eq_true rfl) _ _ (fun X _ C => ?_)
  have C : Cx G X RcRo prog_7_method_4_code 4 1 (some .int) := C
  unfold fRo_nearestOpen at h
  show At G X 4 _ 0 [(0, .ref (ad G 1))] [] ((((((z111111, (c_Ro_reach, c_Ro_settled)), z11112), z1112), z112), z12), z2)
  refine at_iconst C dRo_nearestOpen_0 ci_m1 ?_
  refine at_istore_n (L' := [(1, .int (-1 : Int32)), (0, .ref (ad G 1))]) C dRo_nearestOpen_1 rfl (by decide) rfl ?_
  refine at_ldc C qRo_21 dRo_nearestOpen_2 ?_
  refine at_istore_n (L' := [(2, .int (1000000 : Int32)), (1, .int (-1 : Int32)), (0, .ref (ad G 1))]) C dRo_nearestOpen_4 rfl (by decide) rfl ?_
  refine at_iconst C dRo_nearestOpen_5 ci_0 ?_
  refine at_istore_n (L' := [(3, .int (0 : Int32)), (2, .int (1000000 : Int32)), (1, .int (-1 : Int32)), (0, .ref (ad G 1))]) C dRo_nearestOpen_6 rfl (by decide) rfl ?_
  obtain ⟨e4, he4, h⟩ := ob_some h
  refine at_loc (L' := [(0, .ref (ad G 1)), (1, .int (-1 : Int32)), (2, .int (1000000 : Int32)), (3, .int (0 : Int32))]) [3, 2, 1, 0] rfl ?_
  refine wRo_nearestOpen_l7 C FU _ _ _ _ he4 ?_
  refine at_iload_n (j := 0) C dRo_nearestOpen_47 rfl rfl ?_
  cases h
  exact at_iret C dRo_nearestOpen_48
set_option maxRecDepth 100000 in
set_option maxHeartbeats 4000000 in
theorem wRo_reachOnFrom_l2 {G : GG} {X : CX} {c_Ro_length : (Nat → Int32)} {z1111111 : Int32} {z1111122 : (Nat → Int32)} {z11112 : Z11112} {z1112 : Z1112} {z112 : Z112} {z12 : Z12} {z2 : Z2} (C : Cx G X RcRo prog_7_method_5_code 4 1 none) {Q : State → Prop}  (a1 : Int32) : ∀ (n : Nat) (a2 : Int32) (c_Ro_reach : (Nat → Int32)) (E : (Nat → Int32)) (h : fRo_reachOnFrom_l2 a1 c_Ro_length n a2 c_Ro_reach = some E) (k0 : At G X 4 Q 53 [] [] (((((((z1111111, c_Ro_length), (E, z1111122)), z11112), z1112), z112), z12), z2)), At G X 4 Q 2 [(0, .ref (ad G 1)), (1, .int a1), (2, .int a2)] [] (((((((z1111111, c_Ro_length), (c_Ro_reach, z1111122)), z11112), z1112), z112), z12), z2) := by
  intro n
  induction n with
  | zero =>
    intro a2 c_Ro_reach E h k0
    rw [fRo_reachOnFrom_l2.eq_1] at h
    cases h
  | succ n ih =>
    intro a2 c_Ro_reach E h k0
    rw [fRo_reachOnFrom_l2.eq_2] at h
    refine at_iload_n (j := 2) C dRo_reachOnFrom_2 rfl rfl ?_
    refine at_bipush C dRo_reachOnFrom_3 cb_16 ?_
    refine at_icmp_ge C dRo_reachOnFrom_5 rfl (fun hc => ?_) (fun hc => ?_)
    · replace h := ifp hc h
      cases h
      refine at_loc (L' := []) [] rfl ?_
      exact k0
    · replace h := ifn hc h
      refine at_aload_n (j := 0) C dRo_reachOnFrom_8 rfl rfl ?_
      refine gfRo_length C dRo_reachOnFrom_9 ?_
      refine at_iload_n (j := 1) C dRo_reachOnFrom_12 rfl rfl ?_
      refine at_bipush C dRo_reachOnFrom_13 cb_16 ?_
      refine at_imul C dRo_reachOnFrom_15 ?_
      refine at_iload_n (j := 2) C dRo_reachOnFrom_16 rfl rfl ?_
      refine at_iadd C dRo_reachOnFrom_17 ?_
      obtain ⟨hg1, h⟩ := gd_some h
      refine ldRo_length (f := c_Ro_length) C rfl hg1 dRo_reachOnFrom_18 ?_
      refine at_istore_n (L' := [(3, .int (c_Ro_length (((a1 * (16 : Int32)) + a2)).toNatClampNeg)), (0, .ref (ad G 1)), (1, .int a1), (2, .int a2)]) C dRo_reachOnFrom_19 rfl (by decide) rfl ?_
      refine at_iload_n (j := 0) C dRo_reachOnFrom_20 rfl rfl ?_
      refine at_if_le C dRo_reachOnFrom_21 rfl (fun hc => ?_) (fun hc => ?_)
      · replace h := ifp hc h
        refine at_iinc (j := 3) (L' := [(2, .int (a2 + (1 : Int32))), (3, .int (c_Ro_length (((a1 * (16 : Int32)) + a2)).toNatClampNeg)), (0, .ref (ad G 1)), (1, .int a1)]) C dRo_reachOnFrom_47 rfl ci_1 (by decide) rfl ?_
        refine at_goto C dRo_reachOnFrom_50 rfl ?_
        refine at_loc (L' := [(0, .ref (ad G 1)), (1, .int a1), (2, .int (a2 + (1 : Int32)))]) [2, 3, 0] rfl ?_
        exact ih _ _ _ h k0
      · replace h := ifn hc h
        refine at_aload_n (j := 1) C dRo_reachOnFrom_24 rfl rfl ?_
        refine gfRo_reach C dRo_reachOnFrom_25 ?_
        refine at_iload_n (j := 3) C dRo_reachOnFrom_28 rfl rfl ?_
        refine at_aload_n (j := 1) C dRo_reachOnFrom_29 rfl rfl ?_
        refine gfRo_reach C dRo_reachOnFrom_30 ?_
        refine at_iload_n (j := 3) C dRo_reachOnFrom_33 rfl rfl ?_
        obtain ⟨hg2, h⟩ := gd_some h
        refine ldRo_reach (f := c_Ro_reach) C rfl hg2 dRo_reachOnFrom_34 ?_
        refine at_aload_n (j := 1) C dRo_reachOnFrom_35 rfl rfl ?_
        refine gfRo_reach C dRo_reachOnFrom_36 ?_
        refine at_iload_n (j := 2) C dRo_reachOnFrom_39 rfl rfl ?_
        obtain ⟨hg3, h⟩ := gd_some h
        refine ldRo_reach (f := c_Ro_reach) C rfl hg3 dRo_reachOnFrom_40 ?_
        refine at_iload_n (j := 0) C dRo_reachOnFrom_41 rfl rfl ?_
        refine at_iadd C dRo_reachOnFrom_42 ?_
        refine at_mmin C jRo_36 (by omega) (Nat.le_of_ble_eq_true rfl) dRo_reachOnFrom_43 ?_
        obtain ⟨hg4, h⟩ := gd_some h
        refine svRo_reach C hg4 dRo_reachOnFrom_46 ?_
        refine at_st (S1 := (((((((z1111111, c_Ro_length), ((upd c_Ro_reach (a2).toNatClampNeg (if ((c_Ro_reach (a1).toNatClampNeg) + (c_Ro_length (((a1 * (16 : Int32)) + a2)).toNatClampNeg)) < (c_Ro_reach (a2).toNatClampNeg) then ((c_Ro_reach (a1).toNatClampNeg) + (c_Ro_length (((a1 * (16 : Int32)) + a2)).toNatClampNeg)) else (c_Ro_reach (a2).toNatClampNeg))), z1111122)), z11112), z1112), z112), z12), z2)) rfl ?_
        refine at_iinc (j := 3) (L' := [(2, .int (a2 + (1 : Int32))), (3, .int (c_Ro_length (((a1 * (16 : Int32)) + a2)).toNatClampNeg)), (0, .ref (ad G 1)), (1, .int a1)]) C dRo_reachOnFrom_47 rfl ci_1 (by decide) rfl ?_
        refine at_goto C dRo_reachOnFrom_50 rfl ?_
        refine at_loc (L' := [(0, .ref (ad G 1)), (1, .int a1), (2, .int (a2 + (1 : Int32)))]) [2, 3, 0] rfl ?_
        exact ih _ _ _ h k0
set_option maxRecDepth 100000 in
set_option maxHeartbeats 4000000 in
theorem cRo_reachOnFrom {l : Launch} {G : GG} (hG : GOK G) {c_Ro_length : (Nat → Int32)} {c_Ro_reach : (Nat → Int32)} {z1111111 : Int32} {z1111122 : (Nat → Int32)} {z11112 : Z11112} {z1112 : Z1112} {z112 : Z112} {z12 : Z12} {z2 : Z2} (a1 : Int32) (R : (Nat → Int32)) (h : fRo_reachOnFrom a1 c_Ro_length c_Ro_reach = some R) : Met l yRo_reachOnFrom (.code yRo_reachOnFrom prog_7_method_5_code 4 none :: gw) (rmm 1) (PcW G [.ref (ad G 1), .int a1] (((((((z1111111, c_Ro_length), (c_Ro_reach, z1111122)), z11112), z1112), z112), z12), z2)) (Qw G (none) (((((((z1111111, c_Ro_length), (R, z1111122)), z11112), z1112), z112), z12), z2)) 0 0 (Aw G) := by
  refine met_of (by decide) 1 G hG _ _ (Nat.le_of_ble_eq_true rfl) _ _ (fun X _ C => ?_)
  have C : Cx G X RcRo prog_7_method_5_code 4 1 none := C
  unfold fRo_reachOnFrom at h
  show At G X 4 _ 0 [(0, .ref (ad G 1)), (1, .int a1)] [] (((((((z1111111, c_Ro_length), (c_Ro_reach, z1111122)), z11112), z1112), z112), z12), z2)
  refine at_iconst C dRo_reachOnFrom_0 ci_0 ?_
  refine at_istore_n (L' := [(2, .int (0 : Int32)), (0, .ref (ad G 1)), (1, .int a1)]) C dRo_reachOnFrom_1 rfl (by decide) rfl ?_
  obtain ⟨e5, he5, h⟩ := ob_some h
  refine at_loc (L' := [(0, .ref (ad G 1)), (1, .int a1), (2, .int (0 : Int32))]) [1, 2, 0] rfl ?_
  refine wRo_reachOnFrom_l2 C _ FU _ _ _ he5 ?_
  cases h
  exact at_vret C dRo_reachOnFrom_53
set_option maxRecDepth 100000 in
set_option maxHeartbeats 4000000 in
theorem wRo_leastDays_l26 {G : GG} {X : CX} {c_Ro_length : (Nat → Int32)} {z1111111 : Int32} {z11112 : Z11112} {z1112 : Z1112} {z112 : Z112} {z12 : Z12} {z2 : Z2} (C : Cx G X RcRo prog_7_method_3_code 5 2 (some .int)) {Q : State → Prop}  (a2 : Int32) : ∀ (n : Nat) (a3 : Int32) (c_Ro_reach : (Nat → Int32)) (c_Ro_settled : (Nat → Int32)) (E : ((Nat → Int32) × (Nat → Int32)) ⊕ ((Nat → Int32) × (Nat → Int32))) (h : fRo_leastDays_l26 a2 c_Ro_length n a3 c_Ro_reach c_Ro_settled = some E) (k0 : ∀ e, E = (Sum.inl e) → At G X 5 Q 50 [(0, .ref (ad G 1)), (2, .int a2)] [] (((((((z1111111, c_Ro_length), (e.1, e.2)), z11112), z1112), z112), z12), z2)) (k1 : ∀ e, E = (Sum.inr e) → At G X 5 Q 73 [(0, .ref (ad G 1)), (2, .int a2)] [] (((((((z1111111, c_Ro_length), (e.1, e.2)), z11112), z1112), z112), z12), z2)), At G X 5 Q 26 [(0, .ref (ad G 1)), (2, .int a2), (3, .int a3)] [] (((((((z1111111, c_Ro_length), (c_Ro_reach, c_Ro_settled)), z11112), z1112), z112), z12), z2) := by
  intro n
  induction n with
  | zero =>
    intro a3 c_Ro_reach c_Ro_settled E h k0 k1
    rw [fRo_leastDays_l26.eq_1] at h
    cases h
  | succ n ih =>
    intro a3 c_Ro_reach c_Ro_settled E h k0 k1
    rw [fRo_leastDays_l26.eq_2] at h
    refine at_iload_n (j := 2) C dRo_leastDays_26 rfl rfl ?_
    refine at_bipush C dRo_leastDays_27 cb_16 ?_
    refine at_icmp_ge C dRo_leastDays_29 rfl (fun hc => ?_) (fun hc => ?_)
    · replace h := ifp hc h
      cases h
      refine at_loc (L' := [(0, .ref (ad G 1)), (2, .int a2)]) [0, 1] rfl ?_
      exact k1 _ rfl
    · replace h := ifn hc h
      refine at_aload_n (j := 0) C dRo_leastDays_32 rfl rfl ?_
      obtain ⟨e2, he2, h⟩ := ob_some h
      refine at_callVi C kRo_28 (cRo_nearestOpen C.2.2.2.2.2.2.1 _ he2) (by omega) rfl rfl rfl rfl (Nat.le_of_ble_eq_true rfl) dRo_leastDays_33 ?_
      refine at_istore (L' := [(4, .int e2), (0, .ref (ad G 1)), (2, .int a2), (3, .int a3)]) C dRo_leastDays_36 (by decide) rfl ?_
      refine at_iload (j := 0) C dRo_leastDays_38 rfl ?_
      refine at_iconst C dRo_leastDays_40 ci_m1 ?_
      refine at_icmp_eq C dRo_leastDays_41 rfl (fun hc => ?_) (fun hc => ?_)
      · replace h := ifp hc h
        cases h
        refine at_loc (L' := [(0, .ref (ad G 1)), (2, .int a2)]) [1, 2] rfl ?_
        exact k1 _ rfl
      · replace h := ifn hc h
        refine at_iload (j := 0) C dRo_leastDays_44 rfl ?_
        refine at_iload_n (j := 2) C dRo_leastDays_46 rfl rfl ?_
        refine at_icmp_ne C dRo_leastDays_47 rfl (fun hc => ?_) (fun hc => ?_)
        · replace h := ifn hc h
          refine at_aload_n (j := 1) C dRo_leastDays_53 rfl rfl ?_
          refine gfRo_settled C dRo_leastDays_54 ?_
          refine at_iload (j := 0) C dRo_leastDays_57 rfl ?_
          refine at_iconst C dRo_leastDays_59 ci_1 ?_
          obtain ⟨hg3, h⟩ := gd_some h
          refine svRo_settled C hg3 dRo_leastDays_60 ?_
          refine at_st (S1 := (((((((z1111111, c_Ro_length), (c_Ro_reach, (upd c_Ro_settled (e2).toNatClampNeg (1 : Int32)))), z11112), z1112), z112), z12), z2)) rfl ?_
          refine at_aload_n (j := 1) C dRo_leastDays_61 rfl rfl ?_
          refine at_iload (j := 0) C dRo_leastDays_62 rfl ?_
          obtain ⟨e4, he4, h⟩ := ob_some h
          refine at_callVv C kRo_32 (cRo_reachOnFrom C.2.2.2.2.2.2.1 _ _ he4) (by omega) rfl rfl rfl rfl (Nat.le_of_ble_eq_true rfl) dRo_leastDays_64 ?_
          refine at_iinc (j := 3) (L' := [(3, .int (a3 + (1 : Int32))), (4, .int e2), (0, .ref (ad G 1)), (2, .int a2)]) C dRo_leastDays_67 rfl ci_1 (by decide) rfl ?_
          refine at_goto C dRo_leastDays_70 rfl ?_
          refine at_loc (L' := [(0, .ref (ad G 1)), (2, .int a2), (3, .int (a3 + (1 : Int32)))]) [2, 3, 0] rfl ?_
          exact ih _ _ _ _ h k0 k1
        · replace h := ifp hc h
          cases h
          refine at_loc (L' := [(0, .ref (ad G 1)), (2, .int a2)]) [1, 2] rfl ?_
          exact k0 _ rfl
set_option maxRecDepth 100000 in
set_option maxHeartbeats 4000000 in
theorem cRo_leastDays {l : Launch} {G : GG} (hG : GOK G) {c_Ro_length : (Nat → Int32)} {c_Ro_reach : (Nat → Int32)} {c_Ro_settled : (Nat → Int32)} {z1111111 : Int32} {z11112 : Z11112} {z1112 : Z1112} {z112 : Z112} {z12 : Z12} {z2 : Z2} (a1 : Int32) (a2 : Int32) (R : (Int32 × (Nat → Int32) × (Nat → Int32))) (h : fRo_leastDays a1 a2 c_Ro_length c_Ro_reach c_Ro_settled = some R) : Met l yRo_leastDays (.code yRo_leastDays prog_7_method_3_code 5 (some .int) :: gw) (rmm 2) (PcW G [.ref (ad G 1), .int a1, .int a2] (((((((z1111111, c_Ro_length), (c_Ro_reach, c_Ro_settled)), z11112), z1112), z112), z12), z2)) (Qw G (some (.int R.1)) (((((((z1111111, c_Ro_length), (R.2.1, R.2.2)), z11112), z1112), z112), z12), z2)) 0 0 (Aw G) := by
  refine met_of (by decide) 2 G hG _ _ (Nat.le_of_ble_eq_true rfl) _ _ (fun X _ C => ?_)
  have C : Cx G X RcRo prog_7_method_3_code 5 2 (some .int) := C
  unfold fRo_leastDays at h
  show At G X 5 _ 0 [(0, .ref (ad G 1)), (1, .int a1), (2, .int a2)] [] (((((((z1111111, c_Ro_length), (c_Ro_reach, c_Ro_settled)), z11112), z1112), z112), z12), z2)
  refine at_aload_n (j := 0) C dRo_leastDays_0 rfl rfl ?_
  refine gfRo_reach C dRo_leastDays_1 ?_
  refine at_ldc C qRo_21 dRo_leastDays_4 ?_
  refine at_fill C jRo_22 11 sRo_reach (by decide) rfl (fun _ => rfl) (by omega) (Nat.le_of_ble_eq_true rfl) dRo_leastDays_6 ?_
  refine at_st (S1 := (((((((z1111111, c_Ro_length), ((filI 16 (1000000 : Int32) c_Ro_reach), c_Ro_settled)), z11112), z1112), z112), z12), z2)) rfl ?_
  refine at_aload_n (j := 0) C dRo_leastDays_9 rfl rfl ?_
  refine gfRo_settled C dRo_leastDays_10 ?_
  refine at_iconst C dRo_leastDays_13 ci_0 ?_
  refine at_fill C jRo_22 12 sRo_settled (by decide) rfl (fun _ => rfl) (by omega) (Nat.le_of_ble_eq_true rfl) dRo_leastDays_14 ?_
  refine at_st (S1 := (((((((z1111111, c_Ro_length), ((filI 16 (1000000 : Int32) c_Ro_reach), (filI 16 (0 : Int32) c_Ro_settled))), z11112), z1112), z112), z12), z2)) rfl ?_
  refine at_aload_n (j := 0) C dRo_leastDays_17 rfl rfl ?_
  refine gfRo_reach C dRo_leastDays_18 ?_
  refine at_iload_n (j := 1) C dRo_leastDays_21 rfl rfl ?_
  refine at_iconst C dRo_leastDays_22 ci_0 ?_
  obtain ⟨hg1, h⟩ := gd_some h
  refine svRo_reach C hg1 dRo_leastDays_23 ?_
  refine at_st (S1 := (((((((z1111111, c_Ro_length), ((upd (filI 16 (1000000 : Int32) c_Ro_reach) (a1).toNatClampNeg (0 : Int32)), (filI 16 (0 : Int32) c_Ro_settled))), z11112), z1112), z112), z12), z2)) rfl ?_
  refine at_iconst C dRo_leastDays_24 ci_0 ?_
  refine at_istore_n (L' := [(3, .int (0 : Int32)), (0, .ref (ad G 1)), (1, .int a1), (2, .int a2)]) C dRo_leastDays_25 rfl (by decide) rfl ?_
  obtain ⟨e5, he5, h⟩ := ob_some h
  refine at_loc (L' := [(0, .ref (ad G 1)), (2, .int a2), (3, .int (0 : Int32))]) [1, 3, 0] rfl ?_
  rcases e5 with e6 | e9
  · simp only [Sum.elim_inl, Sum.elim_inr] at h
    refine wRo_leastDays_l26 C _ FU _ _ _ _ he5 (fun e he => ?_) (fun e he => by cases he)
    cases he
    refine at_goto C dRo_leastDays_50 rfl ?_
    refine at_aload_n (j := 0) C dRo_leastDays_73 rfl rfl ?_
    refine gfRo_reach C dRo_leastDays_74 ?_
    refine at_iload_n (j := 1) C dRo_leastDays_77 rfl rfl ?_
    obtain ⟨hg7, h⟩ := gd_some h
    refine ldRo_reach (f := e6.1) C rfl hg7 dRo_leastDays_78 ?_
    refine at_ldc C qRo_21 dRo_leastDays_79 ?_
    refine at_icmp_ge C dRo_leastDays_81 rfl (fun hc => ?_) (fun hc => ?_)
    · replace h := ifp hc h
      refine at_iconst C dRo_leastDays_93 ci_m1 ?_
      cases h
      exact at_iret C dRo_leastDays_94
    · replace h := ifn hc h
      refine at_aload_n (j := 0) C dRo_leastDays_84 rfl rfl ?_
      refine gfRo_reach C dRo_leastDays_85 ?_
      refine at_iload_n (j := 1) C dRo_leastDays_88 rfl rfl ?_
      obtain ⟨hg8, h⟩ := gd_some h
      refine ldRo_reach (f := e6.1) C rfl hg8 dRo_leastDays_89 ?_
      refine at_goto C dRo_leastDays_90 rfl ?_
      cases h
      exact at_iret C dRo_leastDays_94
  · simp only [Sum.elim_inl, Sum.elim_inr] at h
    refine wRo_leastDays_l26 C _ FU _ _ _ _ he5 (fun e he => by cases he) (fun e he => ?_)
    cases he
    refine at_aload_n (j := 0) C dRo_leastDays_73 rfl rfl ?_
    refine gfRo_reach C dRo_leastDays_74 ?_
    refine at_iload_n (j := 1) C dRo_leastDays_77 rfl rfl ?_
    obtain ⟨hg10, h⟩ := gd_some h
    refine ldRo_reach (f := e9.1) C rfl hg10 dRo_leastDays_78 ?_
    refine at_ldc C qRo_21 dRo_leastDays_79 ?_
    refine at_icmp_ge C dRo_leastDays_81 rfl (fun hc => ?_) (fun hc => ?_)
    · replace h := ifp hc h
      refine at_iconst C dRo_leastDays_93 ci_m1 ?_
      cases h
      exact at_iret C dRo_leastDays_94
    · replace h := ifn hc h
      refine at_aload_n (j := 0) C dRo_leastDays_84 rfl rfl ?_
      refine gfRo_reach C dRo_leastDays_85 ?_
      refine at_iload_n (j := 1) C dRo_leastDays_88 rfl rfl ?_
      obtain ⟨hg11, h⟩ := gd_some h
      refine ldRo_reach (f := e9.1) C rfl hg11 dRo_leastDays_89 ?_
      refine at_goto C dRo_leastDays_90 rfl ?_
      cases h
      exact at_iret C dRo_leastDays_94
set_option maxRecDepth 100000 in
set_option maxHeartbeats 4000000 in
theorem cTL_way {l : Launch} {G : GG} (hG : GOK G) {c_Ro_length : (Nat → Int32)} {c_Ro_reach : (Nat → Int32)} {c_Ro_settled : (Nat → Int32)} {z1111111 : Int32} {z11112 : Z11112} {z1112 : Z1112} {z112 : Z112} {z12 : Z12} {z2 : Z2} (a1 : Int32) (a2 : Int32) (R : (Int32 × (Nat → Int32) × (Nat → Int32))) (h : fTL_way a1 a2 c_Ro_length c_Ro_reach c_Ro_settled = some R) : Met l yTL_way (.code yTL_way prog_1_method_3_code 3 (some .int) :: gw) (rmm 3) (PcW G [.ref (ad G 0), .int a1, .int a2] (((((((z1111111, c_Ro_length), (c_Ro_reach, c_Ro_settled)), z11112), z1112), z112), z12), z2)) (Qw G (some (.int R.1)) (((((((z1111111, c_Ro_length), (R.2.1, R.2.2)), z11112), z1112), z112), z12), z2)) 0 0 (Aw G) := by
  refine met_of (by decide) 3 G hG _ _ (Nat.le_of_ble_eq_true rfl) _ _ (fun X _ C => ?_)
  have C : Cx G X RcTL prog_1_method_3_code 3 3 (some .int) := C
  unfold fTL_way at h
  show At G X 3 _ 0 [(0, .ref (ad G 0)), (1, .int a1), (2, .int a2)] [] (((((((z1111111, c_Ro_length), (c_Ro_reach, c_Ro_settled)), z11112), z1112), z112), z12), z2)
  refine at_iload_n (j := 1) C dTL_way_0 rfl rfl ?_
  refine at_callSi C kTL_76 (cTL_isPlace C.2.2.2.2.2.2.1 _ _ rfl) (by omega) rfl rfl (Nat.le_of_ble_eq_true rfl) dTL_way_1 ?_
  refine at_if_eq C dTL_way_4 rfl (fun hc => ?_) (fun hc => ?_)
  · replace h := ifp hc h
    refine at_iconst C dTL_way_26 ci_m1 ?_
    cases h
    exact at_iret C dTL_way_27
  · replace h := ifn hc h
    refine at_iload_n (j := 2) C dTL_way_7 rfl rfl ?_
    refine at_callSi C kTL_76 (cTL_isPlace C.2.2.2.2.2.2.1 _ _ rfl) (by omega) rfl rfl (Nat.le_of_ble_eq_true rfl) dTL_way_8 ?_
    refine at_if_eq C dTL_way_11 rfl (fun hc => ?_) (fun hc => ?_)
    · replace h := ifp hc h
      refine at_iconst C dTL_way_26 ci_m1 ?_
      cases h
      exact at_iret C dTL_way_27
    · replace h := ifn hc h
      refine at_aload_n (j := 0) C dTL_way_14 rfl rfl ?_
      refine gfTL_roads C dTL_way_15 ?_
      refine at_iload_n (j := 1) C dTL_way_18 rfl rfl ?_
      refine at_iload_n (j := 2) C dTL_way_19 rfl rfl ?_
      obtain ⟨e1, he1, h⟩ := ob_some h
      refine at_callVi C kTL_88 (cRo_leastDays C.2.2.2.2.2.2.1 _ _ _ he1) (by omega) rfl rfl rfl rfl (Nat.le_of_ble_eq_true rfl) dTL_way_20 ?_
      refine at_goto C dTL_way_23 rfl ?_
      cases h
      exact at_iret C dTL_way_27
set_option maxRecDepth 100000 in
set_option maxHeartbeats 4000000 in
theorem cPo_setLoad {l : Launch} {G : GG} (hG : GOK G) {c_Po_load : Int32} {z11111 : Z11111} {z1111211 : (Nat → Int32)} {z111122 : (Nat → Int32)} {z1112 : Z1112} {z112 : Z112} {z12 : Z12} {z2 : Z2} (a1 : Int32) (R : (Int32 × Int32)) (h : fPo_setLoad a1 c_Po_load = R) : Met l yPo_setLoad (.code yPo_setLoad prog_6_method_2_code 2 (some .boolean) :: gw) (rmm 2) (PcW G [.ref (ad G 2), .int a1] (((((z11111, ((z1111211, c_Po_load), z111122)), z1112), z112), z12), z2)) (Qw G (some (.int R.1)) (((((z11111, ((z1111211, R.2), z111122)), z1112), z112), z12), z2)) 0 0 (Aw G) := by
  refine met_of (by decide) 2 G hG _ _ (Nat.le_of_ble_eq_true rfl) _ _ (fun X _ C => ?_)
  have C : Cx G X RcPo prog_6_method_2_code 2 2 (some .boolean) := C
  unfold fPo_setLoad at h
  show At G X 2 _ 0 [(0, .ref (ad G 2)), (1, .int a1)] [] (((((z11111, ((z1111211, c_Po_load), z111122)), z1112), z112), z12), z2)
  refine at_iload_n (j := 1) C dPo_setLoad_0 rfl rfl ?_
  refine at_iconst C dPo_setLoad_1 ci_1 ?_
  refine at_bipush C dPo_setLoad_2 cb_100 ?_
  refine at_callNi C kPo_25 (cTL_within C.2.2.2.2.2.2.1 _ _ _ _ rfl) (by omega) rfl rfl (Nat.le_of_ble_eq_true rfl) dPo_setLoad_4 ?_
  refine at_if_ne C dPo_setLoad_7 rfl (fun hc => ?_) (fun hc => ?_)
  · replace h := ifn hc h
    refine at_aload_n (j := 0) C dPo_setLoad_12 rfl rfl ?_
    refine at_iload_n (j := 1) C dPo_setLoad_13 rfl rfl ?_
    refine pfPo_load C dPo_setLoad_14 ?_
    refine at_st (S1 := (((((z11111, ((z1111211, a1), z111122)), z1112), z112), z12), z2)) rfl ?_
    refine at_iconst C dPo_setLoad_17 ci_1 ?_
    subst h
    exact at_zret (x := (1 : Int32)) C zn_1 dPo_setLoad_18
  · replace h := ifp hc h
    refine at_iconst C dPo_setLoad_10 ci_0 ?_
    subst h
    exact at_zret (x := (0 : Int32)) C zn_0 dPo_setLoad_11
set_option maxRecDepth 100000 in
set_option maxHeartbeats 4000000 in
theorem cTL_isGood {l : Launch} {G : GG} (hG : GOK G) {z : ST} (a0 : Int32) (R : Int32) (h : fTL_isGood a0 = R) : Met l yTL_isGood (.code yTL_isGood prog_1_method_31_code 1 (some .boolean) :: gw) (rmm 2) (PcW G [.int a0] z) (Qw G (some (.int R)) z) 0 0 (Aw G) := by
  refine met_of (by decide) 2 G hG _ _ (Nat.le_of_ble_eq_true rfl) _ _ (fun X _ C => ?_)
  have C : Cx G X RcTL prog_1_method_31_code 1 2 (some .boolean) := C
  unfold fTL_isGood at h
  show At G X 1 _ 0 [(0, .int a0)] [] z
  refine at_iload_n (j := 0) C dTL_isGood_0 rfl rfl ?_
  refine at_iconst C dTL_isGood_1 ci_0 ?_
  refine at_iconst C dTL_isGood_2 ci_5 ?_
  refine at_callSi C kTL_80 (cTL_within C.2.2.2.2.2.2.1 _ _ _ _ rfl) (by omega) rfl rfl (Nat.le_of_ble_eq_true rfl) dTL_isGood_3 ?_
  subst h
  exact at_zret (x := (fTL_within a0 (0 : Int32) (5 : Int32))) C (zb_TL_within) dTL_isGood_6
set_option maxRecDepth 100000 in
set_option maxHeartbeats 4000000 in
theorem cPo_setWeight {l : Launch} {G : GG} (hG : GOK G) {c_Po_weights : (Nat → Int32)} {z11111 : Z11111} {z1111212 : Int32} {z111122 : (Nat → Int32)} {z1112 : Z1112} {z112 : Z112} {z12 : Z12} {z2 : Z2} (a1 : Int32) (a2 : Int32) (R : (Int32 × (Nat → Int32))) (h : fPo_setWeight a1 a2 c_Po_weights = some R) : Met l yPo_setWeight (.code yPo_setWeight prog_6_method_3_code 3 (some .boolean) :: gw) (rmm 2) (PcW G [.ref (ad G 2), .int a1, .int a2] (((((z11111, ((c_Po_weights, z1111212), z111122)), z1112), z112), z12), z2)) (Qw G (some (.int R.1)) (((((z11111, ((R.2, z1111212), z111122)), z1112), z112), z12), z2)) 0 0 (Aw G) := by
  refine met_of (by decide) 2 G hG _ _ (Nat.le_of_ble_eq_true rfl) _ _ (fun X _ C => ?_)
  have C : Cx G X RcPo prog_6_method_3_code 3 2 (some .boolean) := C
  unfold fPo_setWeight at h
  show At G X 3 _ 0 [(0, .ref (ad G 2)), (1, .int a1), (2, .int a2)] [] (((((z11111, ((c_Po_weights, z1111212), z111122)), z1112), z112), z12), z2)
  refine at_iload_n (j := 2) C dPo_setWeight_0 rfl rfl ?_
  refine at_iconst C dPo_setWeight_1 ci_1 ?_
  refine at_bipush C dPo_setWeight_2 cb_50 ?_
  refine at_callNi C kPo_25 (cTL_within C.2.2.2.2.2.2.1 _ _ _ _ rfl) (by omega) rfl rfl (Nat.le_of_ble_eq_true rfl) dPo_setWeight_4 ?_
  refine at_if_ne C dPo_setWeight_7 rfl (fun hc => ?_) (fun hc => ?_)
  · replace h := ifn hc h
    refine at_aload_n (j := 0) C dPo_setWeight_12 rfl rfl ?_
    refine gfPo_weights C dPo_setWeight_13 ?_
    refine at_iload_n (j := 1) C dPo_setWeight_16 rfl rfl ?_
    refine at_iload_n (j := 2) C dPo_setWeight_17 rfl rfl ?_
    obtain ⟨hg1, h⟩ := gd_some h
    refine svPo_weights C hg1 dPo_setWeight_18 ?_
    refine at_st (S1 := (((((z11111, (((upd c_Po_weights (a1).toNatClampNeg a2), z1111212), z111122)), z1112), z112), z12), z2)) rfl ?_
    refine at_iconst C dPo_setWeight_19 ci_1 ?_
    cases h
    exact at_zret (x := (1 : Int32)) C zn_1 dPo_setWeight_20
  · replace h := ifp hc h
    refine at_iconst C dPo_setWeight_10 ci_0 ?_
    cases h
    exact at_zret (x := (0 : Int32)) C zn_0 dPo_setWeight_11
set_option maxRecDepth 100000 in
set_option maxHeartbeats 4000000 in
theorem cTL_weight {l : Launch} {G : GG} (hG : GOK G) {c_Po_weights : (Nat → Int32)} {c_Po_load : Int32} {z11111 : Z11111} {z111122 : (Nat → Int32)} {z1112 : Z1112} {z112 : Z112} {z12 : Z12} {z2 : Z2} (a1 : Int32) (a2 : Int32) (R : (Int32 × (Nat → Int32) × Int32)) (h : fTL_weight a1 a2 c_Po_weights c_Po_load = some R) : Met l yTL_weight (.code yTL_weight prog_1_method_4_code 3 (some .boolean) :: gw) (rmm 3) (PcW G [.ref (ad G 0), .int a1, .int a2] (((((z11111, ((c_Po_weights, c_Po_load), z111122)), z1112), z112), z12), z2)) (Qw G (some (.int R.1)) (((((z11111, ((R.2.1, R.2.2), z111122)), z1112), z112), z12), z2)) 0 0 (Aw G) := by
  refine met_of (by decide) 3 G hG _ _ (Nat.le_of_ble_eq_true rfl) _ _ (fun X _ C => ?_)
  have C : Cx G X RcTL prog_1_method_4_code 3 3 (some .boolean) := C
  unfold fTL_weight at h
  show At G X 3 _ 0 [(0, .ref (ad G 0)), (1, .int a1), (2, .int a2)] [] (((((z11111, ((c_Po_weights, c_Po_load), z111122)), z1112), z112), z12), z2)
  refine at_iload_n (j := 1) C dTL_weight_0 rfl rfl ?_
  refine at_iconst C dTL_weight_1 ci_m1 ?_
  refine at_icmp_ne C dTL_weight_2 rfl (fun hc => ?_) (fun hc => ?_)
  · replace h := ifn hc h
    refine at_iload_n (j := 1) C dTL_weight_14 rfl rfl ?_
    refine at_callSi C kTL_95 (cTL_isGood C.2.2.2.2.2.2.1 _ _ rfl) (by omega) rfl rfl (Nat.le_of_ble_eq_true rfl) dTL_weight_15 ?_
    refine at_if_eq C dTL_weight_18 rfl (fun hc => ?_) (fun hc => ?_)
    · replace h := ifp hc h
      refine at_iconst C dTL_weight_37 ci_0 ?_
      cases h
      exact at_zret (x := (0 : Int32)) C zn_0 dTL_weight_38
    · replace h := ifn hc h
      refine at_aload_n (j := 0) C dTL_weight_21 rfl rfl ?_
      refine gfTL_porters C dTL_weight_22 ?_
      refine at_iload_n (j := 1) C dTL_weight_25 rfl rfl ?_
      refine at_iload_n (j := 2) C dTL_weight_26 rfl rfl ?_
      obtain ⟨e1, he1, h⟩ := ob_some h
      refine at_callVi C kTL_98 (cPo_setWeight C.2.2.2.2.2.2.1 _ _ _ he1) (by omega) rfl rfl rfl rfl (Nat.le_of_ble_eq_true rfl) dTL_weight_27 ?_
      refine at_if_eq C dTL_weight_30 rfl (fun hc => ?_) (fun hc => ?_)
      · replace h := ifp hc h
        refine at_iconst C dTL_weight_37 ci_0 ?_
        cases h
        exact at_zret (x := (0 : Int32)) C zn_0 dTL_weight_38
      · replace h := ifn hc h
        refine at_iconst C dTL_weight_33 ci_1 ?_
        refine at_goto C dTL_weight_34 rfl ?_
        cases h
        exact at_zret (x := (1 : Int32)) C zn_1 dTL_weight_38
  · replace h := ifp hc h
    refine at_aload_n (j := 0) C dTL_weight_5 rfl rfl ?_
    refine gfTL_porters C dTL_weight_6 ?_
    refine at_iload_n (j := 2) C dTL_weight_9 rfl rfl ?_
    refine at_callVi C kTL_92 (cPo_setLoad C.2.2.2.2.2.2.1 _ _ rfl) (by omega) rfl rfl rfl rfl (Nat.le_of_ble_eq_true rfl) dTL_weight_10 ?_
    cases h
    exact at_zret (x := (fPo_setLoad a2 c_Po_load).1) C (zb_Po_setLoad) dTL_weight_13
set_option maxRecDepth 100000 in
set_option maxHeartbeats 4000000 in
theorem cPo_piecesEach {l : Launch} {G : GG} (hG : GOK G) {c_Po_weights : (Nat → Int32)} {c_Po_load : Int32} {z11111 : Z11111} {z111122 : (Nat → Int32)} {z1112 : Z1112} {z112 : Z112} {z12 : Z12} {z2 : Z2} (a1 : Int32) (R : Int32) (h : fPo_piecesEach a1 c_Po_weights c_Po_load = some R) : Met l yPo_piecesEach (.code yPo_piecesEach prog_6_method_7_code 3 (some .int) :: gw) (rmm 1) (PcW G [.ref (ad G 2), .int a1] (((((z11111, ((c_Po_weights, c_Po_load), z111122)), z1112), z112), z12), z2)) (Qw G (some (.int R)) (((((z11111, ((c_Po_weights, c_Po_load), z111122)), z1112), z112), z12), z2)) 0 0 (Aw G) := by
  refine met_of (by decide) 1 G hG _ _ (Nat.le_of_ble_eq_true rfl) _ _ (fun X _ C => ?_)
  have C : Cx G X RcPo prog_6_method_7_code 3 1 (some .int) := C
  unfold fPo_piecesEach at h
  show At G X 3 _ 0 [(0, .ref (ad G 2)), (1, .int a1)] [] (((((z11111, ((c_Po_weights, c_Po_load), z111122)), z1112), z112), z12), z2)
  refine at_iconst C dPo_piecesEach_0 ci_1 ?_
  refine at_aload_n (j := 0) C dPo_piecesEach_1 rfl rfl ?_
  refine gfPo_weights C dPo_piecesEach_2 ?_
  refine at_iload_n (j := 1) C dPo_piecesEach_5 rfl rfl ?_
  obtain ⟨hg1, h⟩ := gd_some h
  refine ldPo_weights (f := c_Po_weights) C rfl hg1 dPo_piecesEach_6 ?_
  refine at_mmax C jPo_33 (by omega) (Nat.le_of_ble_eq_true rfl) dPo_piecesEach_7 ?_
  refine at_istore_n (L' := [(2, .int (if (1 : Int32) < (c_Po_weights (a1).toNatClampNeg) then (c_Po_weights (a1).toNatClampNeg) else (1 : Int32))), (0, .ref (ad G 2)), (1, .int a1)]) C dPo_piecesEach_10 rfl (by decide) rfl ?_
  refine at_iconst C dPo_piecesEach_11 ci_1 ?_
  refine at_aload_n (j := 1) C dPo_piecesEach_12 rfl rfl ?_
  refine gfPo_load (x := c_Po_load) C rfl dPo_piecesEach_13 ?_
  refine at_iload_n (j := 0) C dPo_piecesEach_16 rfl rfl ?_
  obtain ⟨hg2, h⟩ := gd_some h
  refine at_idiv C dPo_piecesEach_17 hg2 ?_
  refine at_mmax C jPo_33 (by omega) (Nat.le_of_ble_eq_true rfl) dPo_piecesEach_18 ?_
  cases h
  exact at_iret C dPo_piecesEach_21
set_option maxRecDepth 100000 in
set_option maxHeartbeats 4000000 in
theorem cPo_needed {l : Launch} {G : GG} (hG : GOK G) {c_Po_weights : (Nat → Int32)} {c_Po_load : Int32} {z11111 : Z11111} {z111122 : (Nat → Int32)} {z1112 : Z1112} {z112 : Z112} {z12 : Z12} {z2 : Z2} (a1 : Int32) (a2 : Int32) (R : Int32) (h : fPo_needed a1 a2 c_Po_weights c_Po_load = some R) : Met l yPo_needed (.code yPo_needed prog_6_method_6_code 4 (some .int) :: gw) (rmm 2) (PcW G [.ref (ad G 2), .int a1, .int a2] (((((z11111, ((c_Po_weights, c_Po_load), z111122)), z1112), z112), z12), z2)) (Qw G (some (.int R)) (((((z11111, ((c_Po_weights, c_Po_load), z111122)), z1112), z112), z12), z2)) 0 0 (Aw G) := by
  refine met_of (by decide) 2 G hG _ _ (Nat.le_of_ble_eq_true rfl) _ _ (fun X _ C => ?_)
  have C : Cx G X RcPo prog_6_method_6_code 4 2 (some .int) := C
  unfold fPo_needed at h
  show At G X 4 _ 0 [(0, .ref (ad G 2)), (1, .int a1), (2, .int a2)] [] (((((z11111, ((c_Po_weights, c_Po_load), z111122)), z1112), z112), z12), z2)
  refine at_aload_n (j := 0) C dPo_needed_0 rfl rfl ?_
  refine at_iload_n (j := 1) C dPo_needed_1 rfl rfl ?_
  obtain ⟨e1, he1, h⟩ := ob_some h
  refine at_callVi C kPo_29 (cPo_piecesEach C.2.2.2.2.2.2.1 _ _ he1) (by omega) rfl rfl rfl rfl (Nat.le_of_ble_eq_true rfl) dPo_needed_2 ?_
  refine at_istore_n (L' := [(3, .int e1), (0, .ref (ad G 2)), (1, .int a1), (2, .int a2)]) C dPo_needed_5 rfl (by decide) rfl ?_
  refine at_iload_n (j := 3) C dPo_needed_6 rfl rfl ?_
  refine at_iload_n (j := 0) C dPo_needed_7 rfl rfl ?_
  refine at_iadd C dPo_needed_8 ?_
  refine at_iconst C dPo_needed_9 ci_1 ?_
  refine at_isub C dPo_needed_10 ?_
  refine at_iload_n (j := 0) C dPo_needed_11 rfl rfl ?_
  obtain ⟨hg2, h⟩ := gd_some h
  refine at_idiv C dPo_needed_12 hg2 ?_
  cases h
  exact at_iret C dPo_needed_13
set_option maxRecDepth 100000 in
set_option maxHeartbeats 4000000 in
theorem cTL_carriers {l : Launch} {G : GG} (hG : GOK G) {c_Po_weights : (Nat → Int32)} {c_Po_load : Int32} {z11111 : Z11111} {z111122 : (Nat → Int32)} {z1112 : Z1112} {z112 : Z112} {z12 : Z12} {z2 : Z2} (a1 : Int32) (a2 : Int32) (R : Int32) (h : fTL_carriers a1 a2 c_Po_weights c_Po_load = some R) : Met l yTL_carriers (.code yTL_carriers prog_1_method_5_code 3 (some .int) :: gw) (rmm 3) (PcW G [.ref (ad G 0), .int a1, .int a2] (((((z11111, ((c_Po_weights, c_Po_load), z111122)), z1112), z112), z12), z2)) (Qw G (some (.int R)) (((((z11111, ((c_Po_weights, c_Po_load), z111122)), z1112), z112), z12), z2)) 0 0 (Aw G) := by
  refine met_of (by decide) 3 G hG _ _ (Nat.le_of_ble_eq_true rfl) _ _ (fun X _ C => ?_)
  have C : Cx G X RcTL prog_1_method_5_code 3 3 (some .int) := C
  unfold fTL_carriers at h
  show At G X 3 _ 0 [(0, .ref (ad G 0)), (1, .int a1), (2, .int a2)] [] (((((z11111, ((c_Po_weights, c_Po_load), z111122)), z1112), z112), z12), z2)
  refine at_iload_n (j := 1) C dTL_carriers_0 rfl rfl ?_
  refine at_callSi C kTL_95 (cTL_isGood C.2.2.2.2.2.2.1 _ _ rfl) (by omega) rfl rfl (Nat.le_of_ble_eq_true rfl) dTL_carriers_1 ?_
  refine at_if_eq C dTL_carriers_4 rfl (fun hc => ?_) (fun hc => ?_)
  · replace h := ifp hc h
    refine at_iconst C dTL_carriers_30 ci_m1 ?_
    cases h
    exact at_iret C dTL_carriers_31
  · replace h := ifn hc h
    refine at_iload_n (j := 2) C dTL_carriers_7 rfl rfl ?_
    refine at_iconst C dTL_carriers_8 ci_0 ?_
    refine at_sipush C dTL_carriers_9 cs_9999 ?_
    refine at_callSi C kTL_80 (cTL_within C.2.2.2.2.2.2.1 _ _ _ _ rfl) (by omega) rfl rfl (Nat.le_of_ble_eq_true rfl) dTL_carriers_12 ?_
    refine at_if_eq C dTL_carriers_15 rfl (fun hc => ?_) (fun hc => ?_)
    · replace h := ifp hc h
      refine at_iconst C dTL_carriers_30 ci_m1 ?_
      cases h
      exact at_iret C dTL_carriers_31
    · replace h := ifn hc h
      refine at_aload_n (j := 0) C dTL_carriers_18 rfl rfl ?_
      refine gfTL_porters C dTL_carriers_19 ?_
      refine at_iload_n (j := 1) C dTL_carriers_22 rfl rfl ?_
      refine at_iload_n (j := 2) C dTL_carriers_23 rfl rfl ?_
      obtain ⟨e1, he1, h⟩ := ob_some h
      refine at_callVi C kTL_102 (cPo_needed C.2.2.2.2.2.2.1 _ _ _ he1) (by omega) rfl rfl rfl rfl (Nat.le_of_ble_eq_true rfl) dTL_carriers_24 ?_
      refine at_goto C dTL_carriers_27 rfl ?_
      cases h
      exact at_iret C dTL_carriers_31
set_option maxRecDepth 100000 in
set_option maxHeartbeats 4000000 in
theorem cTa_hasRoomForFive {l : Launch} {G : GG} (hG : GOK G) {c_Ta_size : Int32} {z1111 : Z1111} {z1112112 : (Nat → Int32)} {z111212 : (Nat → Int32)} {z11122 : Z11122} {z112 : Z112} {z12 : Z12} {z2 : Z2} (R : Int32) (h : fTa_hasRoomForFive c_Ta_size = R) : Met l yTa_hasRoomForFive (.code yTa_hasRoomForFive prog_10_method_2_code 1 (some .boolean) :: gw) (rmm 1) (PcW G [.ref (ad G 3)] ((((z1111, (((c_Ta_size, z1112112), z111212), z11122)), z112), z12), z2)) (Qw G (some (.int R)) ((((z1111, (((c_Ta_size, z1112112), z111212), z11122)), z112), z12), z2)) 0 0 (Aw G) := by
  refine met_of (by decide) 1 G hG _ _ (Nat.le_of_ble_eq_true rfl) _ _ (fun X _ C => ?_)
  have C : Cx G X RcTa prog_10_method_2_code 1 1 (some .boolean) := C
  unfold fTa_hasRoomForFive at h
  show At G X 1 _ 0 [(0, .ref (ad G 3))] [] ((((z1111, (((c_Ta_size, z1112112), z111212), z11122)), z112), z12), z2)
  refine at_aload_n (j := 0) C dTa_hasRoomForFive_0 rfl rfl ?_
  refine gfTa_size (x := c_Ta_size) C rfl dTa_hasRoomForFive_1 ?_
  refine at_sipush C dTa_hasRoomForFive_4 cs_280 ?_
  refine at_icmp_gt C dTa_hasRoomForFive_7 rfl (fun hc => ?_) (fun hc => ?_)
  · replace h := ifp hc h
    refine at_iconst C dTa_hasRoomForFive_14 ci_0 ?_
    subst h
    exact at_zret (x := (0 : Int32)) C zn_0 dTa_hasRoomForFive_15
  · replace h := ifn hc h
    refine at_iconst C dTa_hasRoomForFive_10 ci_1 ?_
    refine at_goto C dTa_hasRoomForFive_11 rfl ?_
    subst h
    exact at_zret (x := (1 : Int32)) C zn_1 dTa_hasRoomForFive_15
set_option maxRecDepth 100000 in
set_option maxHeartbeats 4000000 in
theorem wTa_append_l3 {G : GG} {X : CX} {z11111 : Z11111} {z111121 : Z111121} {z1112112 : (Nat → Int32)} {z111212 : (Nat → Int32)} {z11122 : Z11122} {z112 : Z112} {z12 : Z12} {z2 : Z2} (C : Cx G X RcTa prog_10_method_3_code 3 1 none) {Q : State → Prop}  (a1 : Int32) : ∀ (n : Nat) (a2 : Int32) (c_Ta_bytes : (Nat → Int32)) (c_Ta_size : Int32) (E : ((Nat → Int32) × Int32)) (h : fTa_append_l3 a1 n a2 c_Ta_bytes c_Ta_size = some E) (k0 : At G X 3 Q 46 [] [] (((((z11111, (z111121, E.1)), (((E.2, z1112112), z111212), z11122)), z112), z12), z2)), At G X 3 Q 3 [(0, .ref (ad G 3)), (1, .int a1), (2, .int a2)] [] (((((z11111, (z111121, c_Ta_bytes)), (((c_Ta_size, z1112112), z111212), z11122)), z112), z12), z2) := by
  intro n
  induction n with
  | zero =>
    intro a2 c_Ta_bytes c_Ta_size E h k0
    rw [fTa_append_l3.eq_1] at h
    cases h
  | succ n ih =>
    intro a2 c_Ta_bytes c_Ta_size E h k0
    rw [fTa_append_l3.eq_2] at h
    refine at_iload_n (j := 2) C dTa_append_3 rfl rfl ?_
    refine at_if_lt C dTa_append_4 rfl (fun hc => ?_) (fun hc => ?_)
    · replace h := ifp hc h
      cases h
      refine at_loc (L' := []) [] rfl ?_
      exact k0
    · replace h := ifn hc h
      refine at_aload_n (j := 0) C dTa_append_7 rfl rfl ?_
      refine gfTa_size (x := c_Ta_size) C rfl dTa_append_8 ?_
      refine at_sipush C dTa_append_11 cs_300 ?_
      refine at_icmp_ge C dTa_append_14 rfl (fun hc => ?_) (fun hc => ?_)
      · replace h := ifp hc h
        cases h
        refine at_loc (L' := []) [] rfl ?_
        exact k0
      · replace h := ifn hc h
        refine at_aload_n (j := 0) C dTa_append_17 rfl rfl ?_
        refine gfTa_bytes C dTa_append_18 ?_
        refine at_aload_n (j := 0) C dTa_append_21 rfl rfl ?_
        refine gfTa_size (x := c_Ta_size) C rfl dTa_append_22 ?_
        refine at_iload_n (j := 1) C dTa_append_25 rfl rfl ?_
        refine at_iload_n (j := 2) C dTa_append_26 rfl rfl ?_
        refine at_ishr C dTa_append_27 ?_
        refine at_i2b C dTa_append_28 ?_
        obtain ⟨hg1, h⟩ := gd_some h
        refine svTa_bytes C hg1 dTa_append_29 ?_
        refine at_st (S1 := (((((z11111, (z111121, (upd c_Ta_bytes (c_Ta_size).toNatClampNeg (vp_nar .byte ((a1 >>> (a2 &&& 31))).toInt8.toInt32)))), (((c_Ta_size, z1112112), z111212), z11122)), z112), z12), z2)) rfl ?_
        refine at_aload_n (j := 0) C dTa_append_30 rfl rfl ?_
        refine at_dup C dTa_append_31 rfl ?_
        refine gfTa_size (x := c_Ta_size) C rfl dTa_append_32 ?_
        refine at_iconst C dTa_append_35 ci_1 ?_
        refine at_iadd C dTa_append_36 ?_
        refine pfTa_size C dTa_append_37 ?_
        refine at_st (S1 := (((((z11111, (z111121, (upd c_Ta_bytes (c_Ta_size).toNatClampNeg (vp_nar .byte ((a1 >>> (a2 &&& 31))).toInt8.toInt32)))), ((((c_Ta_size + (1 : Int32)), z1112112), z111212), z11122)), z112), z12), z2)) rfl ?_
        refine at_iinc (j := 2) (L' := [(2, .int (a2 + (-8 : Int32))), (0, .ref (ad G 3)), (1, .int a1)]) C dTa_append_40 rfl ci_m8 (by decide) rfl ?_
        refine at_goto C dTa_append_43 rfl ?_
        refine at_loc (L' := [(0, .ref (ad G 3)), (1, .int a1), (2, .int (a2 + (-8 : Int32)))]) [1, 2, 0] rfl ?_
        exact ih _ _ _ _ h k0
set_option maxRecDepth 100000 in
set_option maxHeartbeats 4000000 in
theorem cTa_append {l : Launch} {G : GG} (hG : GOK G) {c_Ta_bytes : (Nat → Int32)} {c_Ta_size : Int32} {z11111 : Z11111} {z111121 : Z111121} {z1112112 : (Nat → Int32)} {z111212 : (Nat → Int32)} {z11122 : Z11122} {z112 : Z112} {z12 : Z12} {z2 : Z2} (a1 : Int32) (R : ((Nat → Int32) × Int32)) (h : fTa_append a1 c_Ta_bytes c_Ta_size = some R) : Met l yTa_append (.code yTa_append prog_10_method_3_code 3 none :: gw) (rmm 1) (PcW G [.ref (ad G 3), .int a1] (((((z11111, (z111121, c_Ta_bytes)), (((c_Ta_size, z1112112), z111212), z11122)), z112), z12), z2)) (Qw G (none) (((((z11111, (z111121, R.1)), (((R.2, z1112112), z111212), z11122)), z112), z12), z2)) 0 0 (Aw G) := by
  refine met_of (by decide) 1 G hG _ _ (Nat.le_of_ble_eq_true rfl) _ _ (fun X _ C => ?_)
  have C : Cx G X RcTa prog_10_method_3_code 3 1 none := C
  unfold fTa_append at h
  show At G X 3 _ 0 [(0, .ref (ad G 3)), (1, .int a1)] [] (((((z11111, (z111121, c_Ta_bytes)), (((c_Ta_size, z1112112), z111212), z11122)), z112), z12), z2)
  refine at_bipush C dTa_append_0 cb_24 ?_
  refine at_istore_n (L' := [(2, .int (24 : Int32)), (0, .ref (ad G 3)), (1, .int a1)]) C dTa_append_2 rfl (by decide) rfl ?_
  obtain ⟨e2, he2, h⟩ := ob_some h
  refine at_loc (L' := [(0, .ref (ad G 3)), (1, .int a1), (2, .int (24 : Int32))]) [1, 2, 0] rfl ?_
  refine wTa_append_l3 C _ FU _ _ _ _ he2 ?_
  cases h
  exact at_vret C dTa_append_46
set_option maxRecDepth 100000 in
set_option maxHeartbeats 4000000 in
theorem cTa_size {l : Launch} {G : GG} (hG : GOK G) {c_Ta_size : Int32} {z1111 : Z1111} {z1112112 : (Nat → Int32)} {z111212 : (Nat → Int32)} {z11122 : Z11122} {z112 : Z112} {z12 : Z12} {z2 : Z2} (R : Int32) (h : fTa_size c_Ta_size = R) : Met l yTa_size (.code yTa_size prog_10_method_5_code 1 (some .int) :: gw) (rmm 1) (PcW G [.ref (ad G 3)] ((((z1111, (((c_Ta_size, z1112112), z111212), z11122)), z112), z12), z2)) (Qw G (some (.int R)) ((((z1111, (((c_Ta_size, z1112112), z111212), z11122)), z112), z12), z2)) 0 0 (Aw G) := by
  refine met_of (by decide) 1 G hG _ _ (Nat.le_of_ble_eq_true rfl) _ _ (fun X _ C => ?_)
  have C : Cx G X RcTa prog_10_method_5_code 1 1 (some .int) := C
  unfold fTa_size at h
  show At G X 1 _ 0 [(0, .ref (ad G 3))] [] ((((z1111, (((c_Ta_size, z1112112), z111212), z11122)), z112), z12), z2)
  refine at_aload_n (j := 0) C dTa_size_0 rfl rfl ?_
  refine gfTa_size (x := c_Ta_size) C rfl dTa_size_1 ?_
  subst h
  exact at_iret C dTa_size_4
set_option maxRecDepth 100000 in
set_option maxHeartbeats 4000000 in
theorem cTL_feed {l : Launch} {G : GG} (hG : GOK G) {c_Ta_bytes : (Nat → Int32)} {c_Ta_size : Int32} {z11111 : Z11111} {z111121 : Z111121} {z1112112 : (Nat → Int32)} {z111212 : (Nat → Int32)} {z11122 : Z11122} {z112 : Z112} {z12 : Z12} {z2 : Z2} (a1 : Int32) (a2 : Int32) (a3 : Int32) (a4 : Int32) (a5 : Int32) (R : (Int32 × (Nat → Int32) × Int32)) (h : fTL_feed a1 a2 a3 a4 a5 c_Ta_bytes c_Ta_size = some R) : Met l yTL_feed (.code yTL_feed prog_1_method_6_code 6 (some .int) :: gw) (rmm 2) (PcW G [.ref (ad G 0), .int a1, .int a2, .int a3, .int a4, .int a5] (((((z11111, (z111121, c_Ta_bytes)), (((c_Ta_size, z1112112), z111212), z11122)), z112), z12), z2)) (Qw G (some (.int R.1)) (((((z11111, (z111121, R.2.1)), (((R.2.2, z1112112), z111212), z11122)), z112), z12), z2)) 0 0 (Aw G) := by
  refine met_of (by decide) 2 G hG _ _ (Nat.le_of_ble_eq_true rfl) _ _ (fun X _ C => ?_)
  have C : Cx G X RcTL prog_1_method_6_code 6 2 (some .int) := C
  unfold fTL_feed at h
  show At G X 6 _ 0 [(0, .ref (ad G 0)), (1, .int a1), (2, .int a2), (3, .int a3), (4, .int a4), (5, .int a5)] [] (((((z11111, (z111121, c_Ta_bytes)), (((c_Ta_size, z1112112), z111212), z11122)), z112), z12), z2)
  refine at_aload_n (j := 0) C dTL_feed_0 rfl rfl ?_
  refine gfTL_tape C dTL_feed_1 ?_
  refine at_callVi C kTL_105 (cTa_hasRoomForFive C.2.2.2.2.2.2.1 _ rfl) (by omega) rfl rfl rfl rfl (Nat.le_of_ble_eq_true rfl) dTL_feed_4 ?_
  refine at_if_ne C dTL_feed_7 rfl (fun hc => ?_) (fun hc => ?_)
  · replace h := ifn hc h
    refine at_aload_n (j := 0) C dTL_feed_12 rfl rfl ?_
    refine gfTL_tape C dTL_feed_13 ?_
    refine at_iload_n (j := 1) C dTL_feed_16 rfl rfl ?_
    obtain ⟨e1, he1, h⟩ := ob_some h
    refine at_callVv C kTL_109 (cTa_append C.2.2.2.2.2.2.1 _ _ he1) (by omega) rfl rfl rfl rfl (Nat.le_of_ble_eq_true rfl) dTL_feed_17 ?_
    refine at_aload_n (j := 0) C dTL_feed_20 rfl rfl ?_
    refine gfTL_tape C dTL_feed_21 ?_
    refine at_iload_n (j := 2) C dTL_feed_24 rfl rfl ?_
    obtain ⟨e2, he2, h⟩ := ob_some h
    refine at_callVv C kTL_109 (cTa_append C.2.2.2.2.2.2.1 _ _ he2) (by omega) rfl rfl rfl rfl (Nat.le_of_ble_eq_true rfl) dTL_feed_25 ?_
    refine at_aload_n (j := 0) C dTL_feed_28 rfl rfl ?_
    refine gfTL_tape C dTL_feed_29 ?_
    refine at_iload_n (j := 3) C dTL_feed_32 rfl rfl ?_
    obtain ⟨e3, he3, h⟩ := ob_some h
    refine at_callVv C kTL_109 (cTa_append C.2.2.2.2.2.2.1 _ _ he3) (by omega) rfl rfl rfl rfl (Nat.le_of_ble_eq_true rfl) dTL_feed_33 ?_
    refine at_aload_n (j := 0) C dTL_feed_36 rfl rfl ?_
    refine gfTL_tape C dTL_feed_37 ?_
    refine at_iload (j := 4) C dTL_feed_40 rfl ?_
    obtain ⟨e4, he4, h⟩ := ob_some h
    refine at_callVv C kTL_109 (cTa_append C.2.2.2.2.2.2.1 _ _ he4) (by omega) rfl rfl rfl rfl (Nat.le_of_ble_eq_true rfl) dTL_feed_42 ?_
    refine at_aload_n (j := 0) C dTL_feed_45 rfl rfl ?_
    refine gfTL_tape C dTL_feed_46 ?_
    refine at_iload (j := 5) C dTL_feed_49 rfl ?_
    obtain ⟨e5, he5, h⟩ := ob_some h
    refine at_callVv C kTL_109 (cTa_append C.2.2.2.2.2.2.1 _ _ he5) (by omega) rfl rfl rfl rfl (Nat.le_of_ble_eq_true rfl) dTL_feed_51 ?_
    refine at_aload_n (j := 0) C dTL_feed_54 rfl rfl ?_
    refine gfTL_tape C dTL_feed_55 ?_
    refine at_callVi C kTL_113 (cTa_size C.2.2.2.2.2.2.1 _ rfl) (by omega) rfl rfl rfl rfl (Nat.le_of_ble_eq_true rfl) dTL_feed_58 ?_
    cases h
    exact at_iret C dTL_feed_61
  · replace h := ifp hc h
    refine at_iconst C dTL_feed_10 ci_m1 ?_
    cases h
    exact at_iret C dTL_feed_11
set_option maxRecDepth 100000 in
set_option maxHeartbeats 4000000 in
theorem cTa_cut {l : Launch} {G : GG} (hG : GOK G) {c_Ta_size : Int32} {z1111 : Z1111} {z1112112 : (Nat → Int32)} {z111212 : (Nat → Int32)} {z11122 : Z11122} {z112 : Z112} {z12 : Z12} {z2 : Z2} (a1 : Int32) (R : Int32) (h : fTa_cut a1 c_Ta_size = R) : Met l yTa_cut (.code yTa_cut prog_10_method_4_code 2 none :: gw) (rmm 1) (PcW G [.ref (ad G 3), .int a1] ((((z1111, (((c_Ta_size, z1112112), z111212), z11122)), z112), z12), z2)) (Qw G (none) ((((z1111, (((R, z1112112), z111212), z11122)), z112), z12), z2)) 0 0 (Aw G) := by
  refine met_of (by decide) 1 G hG _ _ (Nat.le_of_ble_eq_true rfl) _ _ (fun X _ C => ?_)
  have C : Cx G X RcTa prog_10_method_4_code 2 1 none := C
  unfold fTa_cut at h
  show At G X 2 _ 0 [(0, .ref (ad G 3)), (1, .int a1)] [] ((((z1111, (((c_Ta_size, z1112112), z111212), z11122)), z112), z12), z2)
  refine at_aload_n (j := 0) C dTa_cut_0 rfl rfl ?_
  refine at_iload_n (j := 1) C dTa_cut_1 rfl rfl ?_
  refine pfTa_size C dTa_cut_2 ?_
  refine at_st (S1 := ((((z1111, (((a1, z1112112), z111212), z11122)), z112), z12), z2)) rfl ?_
  subst h
  exact at_vret C dTa_cut_5
set_option maxRecDepth 100000 in
set_option maxHeartbeats 4000000 in
theorem cTL_end {l : Launch} {G : GG} (hG : GOK G) {c_Ta_size : Int32} {z1111 : Z1111} {z1112112 : (Nat → Int32)} {z111212 : (Nat → Int32)} {z11122 : Z11122} {z112 : Z112} {z12 : Z12} {z2 : Z2} (a1 : Int32) (R : (Int32 × Int32)) (h : fTL_end a1 c_Ta_size = R) : Met l yTL_end (.code yTL_end prog_1_method_7_code 2 (some .int) :: gw) (rmm 2) (PcW G [.ref (ad G 0), .int a1] ((((z1111, (((c_Ta_size, z1112112), z111212), z11122)), z112), z12), z2)) (Qw G (some (.int R.1)) ((((z1111, (((R.2, z1112112), z111212), z11122)), z112), z12), z2)) 0 0 (Aw G) := by
  refine met_of (by decide) 2 G hG _ _ (Nat.le_of_ble_eq_true rfl) _ _ (fun X _ C => ?_)
  have C : Cx G X RcTL prog_1_method_7_code 2 2 (some .int) := C
  unfold fTL_end at h
  show At G X 2 _ 0 [(0, .ref (ad G 0)), (1, .int a1)] [] ((((z1111, (((c_Ta_size, z1112112), z111212), z11122)), z112), z12), z2)
  refine at_iload_n (j := 1) C dTL_end_0 rfl rfl ?_
  refine at_iconst C dTL_end_1 ci_0 ?_
  refine at_aload_n (j := 0) C dTL_end_2 rfl rfl ?_
  refine gfTL_tape C dTL_end_3 ?_
  refine at_callVi C kTL_113 (cTa_size C.2.2.2.2.2.2.1 _ rfl) (by omega) rfl rfl rfl rfl (Nat.le_of_ble_eq_true rfl) dTL_end_6 ?_
  refine at_callSi C kTL_80 (cTL_within C.2.2.2.2.2.2.1 _ _ _ _ rfl) (by omega) rfl rfl (Nat.le_of_ble_eq_true rfl) dTL_end_9 ?_
  refine at_if_ne C dTL_end_12 rfl (fun hc => ?_) (fun hc => ?_)
  · replace h := ifn hc h
    refine at_aload_n (j := 0) C dTL_end_17 rfl rfl ?_
    refine gfTL_tape C dTL_end_18 ?_
    refine at_iload_n (j := 1) C dTL_end_21 rfl rfl ?_
    refine at_callVv C kTL_117 (cTa_cut C.2.2.2.2.2.2.1 _ _ rfl) (by omega) rfl rfl rfl rfl (Nat.le_of_ble_eq_true rfl) dTL_end_22 ?_
    refine at_iload_n (j := 1) C dTL_end_25 rfl rfl ?_
    subst h
    exact at_iret C dTL_end_26
  · replace h := ifp hc h
    refine at_iconst C dTL_end_15 ci_m1 ?_
    subst h
    exact at_iret C dTL_end_16
set_option maxRecDepth 100000 in
set_option maxHeartbeats 4000000 in
theorem cTL_isCopy {l : Launch} {G : GG} (hG : GOK G) {z : ST} (a0 : Int32) (R : Int32) (h : fTL_isCopy a0 = R) : Met l yTL_isCopy (.code yTL_isCopy prog_1_method_32_code 1 (some .boolean) :: gw) (rmm 2) (PcW G [.int a0] z) (Qw G (some (.int R)) z) 0 0 (Aw G) := by
  refine met_of (by decide) 2 G hG _ _ (Nat.le_of_ble_eq_true rfl) _ _ (fun X _ C => ?_)
  have C : Cx G X RcTL prog_1_method_32_code 1 2 (some .boolean) := C
  unfold fTL_isCopy at h
  show At G X 1 _ 0 [(0, .int a0)] [] z
  refine at_iload_n (j := 0) C dTL_isCopy_0 rfl rfl ?_
  refine at_iconst C dTL_isCopy_1 ci_0 ?_
  refine at_iconst C dTL_isCopy_2 ci_4 ?_
  refine at_callSi C kTL_80 (cTL_within C.2.2.2.2.2.2.1 _ _ _ _ rfl) (by omega) rfl rfl (Nat.le_of_ble_eq_true rfl) dTL_isCopy_3 ?_
  subst h
  exact at_zret (x := (fTL_within a0 (0 : Int32) (4 : Int32))) C (zb_TL_within) dTL_isCopy_6
set_option maxRecDepth 100000 in
set_option maxHeartbeats 4000000 in
theorem cLi_startAnew {l : Launch} {G : GG} (hG : GOK G) {c_Li_row : (Nat → Int32)} {c_Li_townSeen : (Nat → Int32)} {c_Li_cursor : Int32} {c_Li_expected : Int32} {c_Li_lines : Int32} {c_Li_anyRead : Int32} {c_Li_faultKind : Int32} {c_Li_faultPlace : Int32} {z1111 : Z1111} {z1112111 : Int32} {z1112212 : Int32} {z111222 : Int32} {z1121111 : Int32} {z112121 : Z112121} {z112212 : (Nat → Nat → Int32)} {z11222 : Z11222} {z12 : Z12} {z2 : Z2} (R : ((Nat → Int32) × (Nat → Int32) × Int32 × Int32 × Int32 × Int32 × Int32 × Int32)) (h : fLi_startAnew c_Li_row c_Li_townSeen c_Li_cursor c_Li_expected c_Li_lines c_Li_anyRead c_Li_faultKind c_Li_faultPlace = some R) : Met l yLi_startAnew (.code yLi_startAnew prog_4_method_7_code 1 none :: gw) (rmm 2) (PcW G [.ref (ad G 4)] ((((z1111, (((z1112111, c_Li_row), c_Li_townSeen), ((c_Li_cursor, z1112212), z111222))), ((((z1121111, c_Li_expected), c_Li_lines), (z112121, c_Li_anyRead)), (((c_Li_faultKind, c_Li_faultPlace), z112212), z11222))), z12), z2)) (Qw G (none) ((((z1111, (((z1112111, R.1), R.2.1), ((R.2.2.1, z1112212), z111222))), ((((z1121111, R.2.2.2.1), R.2.2.2.2.1), (z112121, R.2.2.2.2.2.1)), (((R.2.2.2.2.2.2.1, R.2.2.2.2.2.2.2), z112212), z11222))), z12), z2)) 0 0 (Aw G) := by
  refine met_of (by decide) 2 G hG _ _ (Nat.le_of_ble_eq_true rfl) _ _ (fun X _ C => ?_)
  have C : Cx G X RcLi prog_4_method_7_code 1 2 none := C
  unfold fLi_startAnew at h
  show At G X 1 _ 0 [(0, .ref (ad G 4))] [] ((((z1111, (((z1112111, c_Li_row), c_Li_townSeen), ((c_Li_cursor, z1112212), z111222))), ((((z1121111, c_Li_expected), c_Li_lines), (z112121, c_Li_anyRead)), (((c_Li_faultKind, c_Li_faultPlace), z112212), z11222))), z12), z2)
  refine at_aload_n (j := 0) C dLi_startAnew_0 rfl rfl ?_
  refine gfLi_row C dLi_startAnew_1 ?_
  refine at_iconst C dLi_startAnew_4 ci_m1 ?_
  refine at_fill C jLi_51 15 sLi_row (by decide) rfl (fun _ => rfl) (by omega) (Nat.le_of_ble_eq_true rfl) dLi_startAnew_5 ?_
  refine at_st (S1 := ((((z1111, (((z1112111, (filI 96 (-1 : Int32) c_Li_row)), c_Li_townSeen), ((c_Li_cursor, z1112212), z111222))), ((((z1121111, c_Li_expected), c_Li_lines), (z112121, c_Li_anyRead)), (((c_Li_faultKind, c_Li_faultPlace), z112212), z11222))), z12), z2)) rfl ?_
  refine at_aload_n (j := 0) C dLi_startAnew_8 rfl rfl ?_
  refine gfLi_townSeen C dLi_startAnew_9 ?_
  refine at_iconst C dLi_startAnew_12 ci_0 ?_
  refine at_fill C jLi_51 16 sLi_townSeen (by decide) rfl (fun _ => rfl) (by omega) (Nat.le_of_ble_eq_true rfl) dLi_startAnew_13 ?_
  refine at_st (S1 := ((((z1111, (((z1112111, (filI 96 (-1 : Int32) c_Li_row)), (filI 16 (0 : Int32) c_Li_townSeen)), ((c_Li_cursor, z1112212), z111222))), ((((z1121111, c_Li_expected), c_Li_lines), (z112121, c_Li_anyRead)), (((c_Li_faultKind, c_Li_faultPlace), z112212), z11222))), z12), z2)) rfl ?_
  refine at_aload_n (j := 0) C dLi_startAnew_16 rfl rfl ?_
  refine at_iconst C dLi_startAnew_17 ci_0 ?_
  refine pfLi_cursor C dLi_startAnew_18 ?_
  refine at_st (S1 := ((((z1111, (((z1112111, (filI 96 (-1 : Int32) c_Li_row)), (filI 16 (0 : Int32) c_Li_townSeen)), (((0 : Int32), z1112212), z111222))), ((((z1121111, c_Li_expected), c_Li_lines), (z112121, c_Li_anyRead)), (((c_Li_faultKind, c_Li_faultPlace), z112212), z11222))), z12), z2)) rfl ?_
  refine at_aload_n (j := 0) C dLi_startAnew_21 rfl rfl ?_
  refine at_iconst C dLi_startAnew_22 ci_0 ?_
  refine pfLi_lines C dLi_startAnew_23 ?_
  refine at_st (S1 := ((((z1111, (((z1112111, (filI 96 (-1 : Int32) c_Li_row)), (filI 16 (0 : Int32) c_Li_townSeen)), (((0 : Int32), z1112212), z111222))), ((((z1121111, c_Li_expected), (0 : Int32)), (z112121, c_Li_anyRead)), (((c_Li_faultKind, c_Li_faultPlace), z112212), z11222))), z12), z2)) rfl ?_
  refine at_aload_n (j := 0) C dLi_startAnew_26 rfl rfl ?_
  refine at_iconst C dLi_startAnew_27 ci_0 ?_
  refine pfLi_expected C dLi_startAnew_28 ?_
  refine at_st (S1 := ((((z1111, (((z1112111, (filI 96 (-1 : Int32) c_Li_row)), (filI 16 (0 : Int32) c_Li_townSeen)), (((0 : Int32), z1112212), z111222))), ((((z1121111, (0 : Int32)), (0 : Int32)), (z112121, c_Li_anyRead)), (((c_Li_faultKind, c_Li_faultPlace), z112212), z11222))), z12), z2)) rfl ?_
  refine at_aload_n (j := 0) C dLi_startAnew_31 rfl rfl ?_
  refine at_iconst C dLi_startAnew_32 ci_1 ?_
  refine pfLi_anyRead C ⟨rfl, rfl⟩ dLi_startAnew_33 ?_
  refine at_st (S1 := ((((z1111, (((z1112111, (filI 96 (-1 : Int32) c_Li_row)), (filI 16 (0 : Int32) c_Li_townSeen)), (((0 : Int32), z1112212), z111222))), ((((z1121111, (0 : Int32)), (0 : Int32)), (z112121, (1 : Int32))), (((c_Li_faultKind, c_Li_faultPlace), z112212), z11222))), z12), z2)) rfl ?_
  refine at_aload_n (j := 0) C dLi_startAnew_36 rfl rfl ?_
  refine at_iconst C dLi_startAnew_37 ci_0 ?_
  refine pfLi_faultKind C dLi_startAnew_38 ?_
  refine at_st (S1 := ((((z1111, (((z1112111, (filI 96 (-1 : Int32) c_Li_row)), (filI 16 (0 : Int32) c_Li_townSeen)), (((0 : Int32), z1112212), z111222))), ((((z1121111, (0 : Int32)), (0 : Int32)), (z112121, (1 : Int32))), ((((0 : Int32), c_Li_faultPlace), z112212), z11222))), z12), z2)) rfl ?_
  refine at_aload_n (j := 0) C dLi_startAnew_41 rfl rfl ?_
  refine at_iconst C dLi_startAnew_42 ci_m1 ?_
  refine pfLi_faultPlace C dLi_startAnew_43 ?_
  refine at_st (S1 := ((((z1111, (((z1112111, (filI 96 (-1 : Int32) c_Li_row)), (filI 16 (0 : Int32) c_Li_townSeen)), (((0 : Int32), z1112212), z111222))), ((((z1121111, (0 : Int32)), (0 : Int32)), (z112121, (1 : Int32))), ((((0 : Int32), (-1 : Int32)), z112212), z11222))), z12), z2)) rfl ?_
  cases h
  exact at_vret C dLi_startAnew_46
set_option maxRecDepth 100000 in
set_option maxHeartbeats 4000000 in
theorem cTa_at {l : Launch} {G : GG} (hG : GOK G) {c_Ta_bytes : (Nat → Int32)} {z11111 : Z11111} {z111121 : Z111121} {z1112 : Z1112} {z112 : Z112} {z12 : Z12} {z2 : Z2} (a1 : Int32) (R : Int32) (h : fTa_at a1 c_Ta_bytes = some R) : Met l yTa_at (.code yTa_at prog_10_method_6_code 2 (some .int) :: gw) (rmm 1) (PcW G [.ref (ad G 3), .int a1] (((((z11111, (z111121, c_Ta_bytes)), z1112), z112), z12), z2)) (Qw G (some (.int R)) (((((z11111, (z111121, c_Ta_bytes)), z1112), z112), z12), z2)) 0 0 (Aw G) := by
  refine met_of (by decide) 1 G hG _ _ (Nat.le_of_ble_eq_true rfl) _ _ (fun X _ C => ?_)
  have C : Cx G X RcTa prog_10_method_6_code 2 1 (some .int) := C
  unfold fTa_at at h
  show At G X 2 _ 0 [(0, .ref (ad G 3)), (1, .int a1)] [] (((((z11111, (z111121, c_Ta_bytes)), z1112), z112), z12), z2)
  refine at_aload_n (j := 0) C dTa_at_0 rfl rfl ?_
  refine gfTa_bytes C dTa_at_1 ?_
  refine at_iload_n (j := 1) C dTa_at_4 rfl rfl ?_
  obtain ⟨hg1, h⟩ := gd_some h
  refine ldTa_bytes (f := c_Ta_bytes) C rfl hg1 dTa_at_5 ?_
  refine at_sipush C dTa_at_6 cs_255 ?_
  refine at_iand C dTa_at_9 ?_
  cases h
  exact at_iret C dTa_at_10
set_option maxRecDepth 100000 in
set_option maxHeartbeats 4000000 in
theorem cLi_isBlank {l : Launch} {G : GG} (hG : GOK G) {z : ST} (a0 : Int32) (R : Int32) (h : fLi_isBlank a0 = R) : Met l yLi_isBlank (.code yLi_isBlank prog_4_method_18_code 1 (some .boolean) :: gw) (rmm 1) (PcW G [.int a0] z) (Qw G (some (.int R)) z) 0 0 (Aw G) := by
  refine met_of (by decide) 1 G hG _ _ (Nat.le_of_ble_eq_true rfl) _ _ (fun X _ C => ?_)
  have C : Cx G X RcLi prog_4_method_18_code 1 1 (some .boolean) := C
  unfold fLi_isBlank at h
  show At G X 1 _ 0 [(0, .int a0)] [] z
  refine at_iload_n (j := 0) C dLi_isBlank_0 rfl rfl ?_
  refine at_bipush C dLi_isBlank_1 cb_32 ?_
  refine at_icmp_eq C dLi_isBlank_3 rfl (fun hc => ?_) (fun hc => ?_)
  · replace h := ifp hc h
    refine at_iconst C dLi_isBlank_12 ci_1 ?_
    refine at_goto C dLi_isBlank_13 rfl ?_
    subst h
    exact at_zret (x := (1 : Int32)) C zn_1 dLi_isBlank_17
  · replace h := ifn hc h
    refine at_iload_n (j := 0) C dLi_isBlank_6 rfl rfl ?_
    refine at_bipush C dLi_isBlank_7 cb_10 ?_
    refine at_icmp_ne C dLi_isBlank_9 rfl (fun hc => ?_) (fun hc => ?_)
    · replace h := ifn hc h
      refine at_iconst C dLi_isBlank_16 ci_0 ?_
      subst h
      exact at_zret (x := (0 : Int32)) C zn_0 dLi_isBlank_17
    · replace h := ifp hc h
      refine at_iconst C dLi_isBlank_12 ci_1 ?_
      refine at_goto C dLi_isBlank_13 rfl ?_
      subst h
      exact at_zret (x := (1 : Int32)) C zn_1 dLi_isBlank_17
set_option maxRecDepth 100000 in
set_option maxHeartbeats 4000000 in
theorem cLi_isLetter {l : Launch} {G : GG} (hG : GOK G) {z : ST} (a0 : Int32) (R : Int32) (h : fLi_isLetter a0 = R) : Met l yLi_isLetter (.code yLi_isLetter prog_4_method_19_code 1 (some .boolean) :: gw) (rmm 2) (PcW G [.int a0] z) (Qw G (some (.int R)) z) 0 0 (Aw G) := by
  refine met_of (by decide) 2 G hG _ _ (Nat.le_of_ble_eq_true rfl) _ _ (fun X _ C => ?_)
  have C : Cx G X RcLi prog_4_method_19_code 1 2 (some .boolean) := C
  unfold fLi_isLetter at h
  show At G X 1 _ 0 [(0, .int a0)] [] z
  refine at_iload_n (j := 0) C dLi_isLetter_0 rfl rfl ?_
  refine at_bipush C dLi_isLetter_1 cb_97 ?_
  refine at_bipush C dLi_isLetter_3 cb_122 ?_
  refine at_callNi C kLi_142 (cTL_within C.2.2.2.2.2.2.1 _ _ _ _ rfl) (by omega) rfl rfl (Nat.le_of_ble_eq_true rfl) dLi_isLetter_5 ?_
  refine at_if_ne C dLi_isLetter_8 rfl (fun hc => ?_) (fun hc => ?_)
  · replace h := ifn hc h
    refine at_iconst C dLi_isLetter_22 ci_1 ?_
    refine at_goto C dLi_isLetter_23 rfl ?_
    subst h
    exact at_zret (x := (1 : Int32)) C zn_1 dLi_isLetter_27
  · replace h := ifp hc h
    refine at_iload_n (j := 0) C dLi_isLetter_11 rfl rfl ?_
    refine at_bipush C dLi_isLetter_12 cb_65 ?_
    refine at_bipush C dLi_isLetter_14 cb_90 ?_
    refine at_callNi C kLi_142 (cTL_within C.2.2.2.2.2.2.1 _ _ _ _ rfl) (by omega) rfl rfl (Nat.le_of_ble_eq_true rfl) dLi_isLetter_16 ?_
    refine at_if_eq C dLi_isLetter_19 rfl (fun hc => ?_) (fun hc => ?_)
    · replace h := ifp hc h
      refine at_iconst C dLi_isLetter_26 ci_0 ?_
      subst h
      exact at_zret (x := (0 : Int32)) C zn_0 dLi_isLetter_27
    · replace h := ifn hc h
      refine at_iconst C dLi_isLetter_22 ci_1 ?_
      refine at_goto C dLi_isLetter_23 rfl ?_
      subst h
      exact at_zret (x := (1 : Int32)) C zn_1 dLi_isLetter_27
set_option maxRecDepth 100000 in
set_option maxHeartbeats 4000000 in
theorem wLi_takeLetters_l2 {G : GG} {X : CX} {c_Ta_bytes : (Nat → Int32)} {c_Ta_size : Int32} {c_Li_tokenStart : Int32} {c_Li_tokenKind : Int32} {z11111 : Z11111} {z111121 : Z111121} {z1112112 : (Nat → Int32)} {z111212 : (Nat → Int32)} {z112 : Z112} {z12 : Z12} {z2 : Z2} (C : Cx G X RcLi prog_4_method_9_code 4 5 none) {Q : State → Prop}  : ∀ (n : Nat) (a2 : Int32) (c_Li_cursor : Int32) (E : (Int32 × Int32)) (h : fLi_takeLetters_l2 c_Ta_bytes c_Ta_size c_Li_tokenStart n a2 c_Li_cursor = some E) (k0 : At G X 4 Q 86 [(0, .ref (ad G 4)), (2, .int E.1)] [] (((((z11111, (z111121, c_Ta_bytes)), (((c_Ta_size, z1112112), z111212), ((E.2, c_Li_tokenStart), c_Li_tokenKind))), z112), z12), z2)), At G X 4 Q 2 [(0, .ref (ad G 4)), (1, .ref (ad G 3)), (2, .int a2)] [] (((((z11111, (z111121, c_Ta_bytes)), (((c_Ta_size, z1112112), z111212), ((c_Li_cursor, c_Li_tokenStart), c_Li_tokenKind))), z112), z12), z2) := by
  intro n
  induction n with
  | zero =>
    intro a2 c_Li_cursor E h k0
    rw [fLi_takeLetters_l2.eq_1] at h
    cases h
  | succ n ih =>
    intro a2 c_Li_cursor E h k0
    rw [fLi_takeLetters_l2.eq_2] at h
    refine at_aload_n (j := 0) C dLi_takeLetters_2 rfl rfl ?_
    refine gfLi_cursor (x := c_Li_cursor) C rfl dLi_takeLetters_3 ?_
    refine at_aload_n (j := 1) C dLi_takeLetters_6 rfl rfl ?_
    refine at_callVi C kLi_63 (cTa_size C.2.2.2.2.2.2.1 _ rfl) (by omega) rfl rfl rfl rfl (Nat.le_of_ble_eq_true rfl) dLi_takeLetters_7 ?_
    refine at_icmp_ge C dLi_takeLetters_10 rfl (fun hc => ?_) (fun hc => ?_)
    · replace h := ifp hc h
      cases h
      refine at_loc (L' := [(0, .ref (ad G 4)), (2, .int a2)]) [0, 2] rfl ?_
      exact k0
    · replace h := ifn hc h
      refine at_aload_n (j := 1) C dLi_takeLetters_13 rfl rfl ?_
      refine at_aload_n (j := 0) C dLi_takeLetters_14 rfl rfl ?_
      refine gfLi_cursor (x := c_Li_cursor) C rfl dLi_takeLetters_15 ?_
      obtain ⟨e1, he1, h⟩ := ob_some h
      refine at_callVi C kLi_66 (cTa_at C.2.2.2.2.2.2.1 _ _ he1) (by omega) rfl rfl rfl rfl (Nat.le_of_ble_eq_true rfl) dLi_takeLetters_18 ?_
      refine at_callSi C kLi_74 (cLi_isLetter C.2.2.2.2.2.2.1 _ _ rfl) (by omega) rfl rfl (Nat.le_of_ble_eq_true rfl) dLi_takeLetters_21 ?_
      refine at_if_eq C dLi_takeLetters_24 rfl (fun hc => ?_) (fun hc => ?_)
      · replace h := ifp hc h
        cases h
        refine at_loc (L' := [(0, .ref (ad G 4)), (2, .int a2)]) [0, 2] rfl ?_
        exact k0
      · replace h := ifn hc h
        refine at_aload_n (j := 0) C dLi_takeLetters_27 rfl rfl ?_
        refine gfLi_cursor (x := c_Li_cursor) C rfl dLi_takeLetters_28 ?_
        refine at_aload_n (j := 0) C dLi_takeLetters_31 rfl rfl ?_
        refine gfLi_tokenStart (x := c_Li_tokenStart) C rfl dLi_takeLetters_32 ?_
        refine at_isub C dLi_takeLetters_35 ?_
        refine at_istore_n (L' := [(3, .int (c_Li_cursor - c_Li_tokenStart)), (0, .ref (ad G 4)), (1, .ref (ad G 3)), (2, .int a2)]) C dLi_takeLetters_36 rfl (by decide) rfl ?_
        refine at_iload_n (j := 3) C dLi_takeLetters_37 rfl rfl ?_
        refine at_if_eq C dLi_takeLetters_38 rfl (fun hc => ?_) (fun hc => ?_)
        · replace h := ifp hc h
          refine at_iconst C dLi_takeLetters_71 ci_0 ?_
          refine at_istore_n (L' := [(2, .int (0 : Int32)), (3, .int (c_Li_cursor - c_Li_tokenStart)), (0, .ref (ad G 4)), (1, .ref (ad G 3))]) C dLi_takeLetters_72 rfl (by decide) rfl ?_
          refine at_aload_n (j := 2) C dLi_takeLetters_73 rfl rfl ?_
          refine at_dup C dLi_takeLetters_74 rfl ?_
          refine gfLi_cursor (x := c_Li_cursor) C rfl dLi_takeLetters_75 ?_
          refine at_iconst C dLi_takeLetters_78 ci_1 ?_
          refine at_iadd C dLi_takeLetters_79 ?_
          refine pfLi_cursor C dLi_takeLetters_80 ?_
          refine at_st (S1 := (((((z11111, (z111121, c_Ta_bytes)), (((c_Ta_size, z1112112), z111212), (((c_Li_cursor + (1 : Int32)), c_Li_tokenStart), c_Li_tokenKind))), z112), z12), z2)) rfl ?_
          refine at_goto C dLi_takeLetters_83 rfl ?_
          refine at_loc (L' := [(0, .ref (ad G 4)), (1, .ref (ad G 3)), (2, .int (0 : Int32))]) [2, 3, 0] rfl ?_
          exact ih _ _ _ h k0
        · replace h := ifn hc h
          refine at_iload_n (j := 0) C dLi_takeLetters_41 rfl rfl ?_
          refine at_ldcS C dLi_takeLetters_42 ?_
          refine at_slen C jLi_91 (by omega) (Nat.le_of_ble_eq_true rfl) dLi_takeLetters_44 ?_
          refine at_icmp_ge C dLi_takeLetters_47 rfl (fun hc => ?_) (fun hc => ?_)
          · replace h := ifp hc h
            refine at_iconst C dLi_takeLetters_71 ci_0 ?_
            refine at_istore_n (L' := [(2, .int (0 : Int32)), (3, .int (c_Li_cursor - c_Li_tokenStart)), (0, .ref (ad G 4)), (1, .ref (ad G 3))]) C dLi_takeLetters_72 rfl (by decide) rfl ?_
            refine at_aload_n (j := 2) C dLi_takeLetters_73 rfl rfl ?_
            refine at_dup C dLi_takeLetters_74 rfl ?_
            refine gfLi_cursor (x := c_Li_cursor) C rfl dLi_takeLetters_75 ?_
            refine at_iconst C dLi_takeLetters_78 ci_1 ?_
            refine at_iadd C dLi_takeLetters_79 ?_
            refine pfLi_cursor C dLi_takeLetters_80 ?_
            refine at_st (S1 := (((((z11111, (z111121, c_Ta_bytes)), (((c_Ta_size, z1112112), z111212), (((c_Li_cursor + (1 : Int32)), c_Li_tokenStart), c_Li_tokenKind))), z112), z12), z2)) rfl ?_
            refine at_goto C dLi_takeLetters_83 rfl ?_
            refine at_loc (L' := [(0, .ref (ad G 4)), (1, .ref (ad G 3)), (2, .int (0 : Int32))]) [2, 3, 0] rfl ?_
            exact ih _ _ _ h k0
          · replace h := ifn hc h
            refine at_ldcS C dLi_takeLetters_50 ?_
            refine at_iload_n (j := 0) C dLi_takeLetters_52 rfl rfl ?_
            obtain ⟨hg2, h⟩ := gd_some h
            refine at_schar C jLi_96 hg2 (by omega) (Nat.le_of_ble_eq_true rfl) dLi_takeLetters_53 ?_
            refine at_aload_n (j := 2) C dLi_takeLetters_56 rfl rfl ?_
            refine at_aload_n (j := 1) C dLi_takeLetters_57 rfl rfl ?_
            refine gfLi_cursor (x := c_Li_cursor) C rfl dLi_takeLetters_58 ?_
            obtain ⟨e3, he3, h⟩ := ob_some h
            refine at_callVi C kLi_66 (cTa_at C.2.2.2.2.2.2.1 _ _ he3) (by omega) rfl rfl rfl rfl (Nat.le_of_ble_eq_true rfl) dLi_takeLetters_61 ?_
            refine at_icmp_ne C dLi_takeLetters_64 rfl (fun hc => ?_) (fun hc => ?_)
            · replace h := ifn hc h
              refine at_iconst C dLi_takeLetters_71 ci_0 ?_
              refine at_istore_n (L' := [(2, .int (0 : Int32)), (3, .int (c_Li_cursor - c_Li_tokenStart)), (0, .ref (ad G 4)), (1, .ref (ad G 3))]) C dLi_takeLetters_72 rfl (by decide) rfl ?_
              refine at_aload_n (j := 2) C dLi_takeLetters_73 rfl rfl ?_
              refine at_dup C dLi_takeLetters_74 rfl ?_
              refine gfLi_cursor (x := c_Li_cursor) C rfl dLi_takeLetters_75 ?_
              refine at_iconst C dLi_takeLetters_78 ci_1 ?_
              refine at_iadd C dLi_takeLetters_79 ?_
              refine pfLi_cursor C dLi_takeLetters_80 ?_
              refine at_st (S1 := (((((z11111, (z111121, c_Ta_bytes)), (((c_Ta_size, z1112112), z111212), (((c_Li_cursor + (1 : Int32)), c_Li_tokenStart), c_Li_tokenKind))), z112), z12), z2)) rfl ?_
              refine at_goto C dLi_takeLetters_83 rfl ?_
              refine at_loc (L' := [(0, .ref (ad G 4)), (1, .ref (ad G 3)), (2, .int (0 : Int32))]) [2, 3, 0] rfl ?_
              exact ih _ _ _ h k0
            · replace h := ifp hc h
              refine at_iconst C dLi_takeLetters_67 ci_1 ?_
              refine at_goto C dLi_takeLetters_68 rfl ?_
              refine at_istore_n (L' := [(2, .int (1 : Int32)), (3, .int (c_Li_cursor - c_Li_tokenStart)), (0, .ref (ad G 4)), (1, .ref (ad G 3))]) C dLi_takeLetters_72 rfl (by decide) rfl ?_
              refine at_aload_n (j := 2) C dLi_takeLetters_73 rfl rfl ?_
              refine at_dup C dLi_takeLetters_74 rfl ?_
              refine gfLi_cursor (x := c_Li_cursor) C rfl dLi_takeLetters_75 ?_
              refine at_iconst C dLi_takeLetters_78 ci_1 ?_
              refine at_iadd C dLi_takeLetters_79 ?_
              refine pfLi_cursor C dLi_takeLetters_80 ?_
              refine at_st (S1 := (((((z11111, (z111121, c_Ta_bytes)), (((c_Ta_size, z1112112), z111212), (((c_Li_cursor + (1 : Int32)), c_Li_tokenStart), c_Li_tokenKind))), z112), z12), z2)) rfl ?_
              refine at_goto C dLi_takeLetters_83 rfl ?_
              refine at_loc (L' := [(0, .ref (ad G 4)), (1, .ref (ad G 3)), (2, .int (1 : Int32))]) [2, 3, 0] rfl ?_
              exact ih _ _ _ h k0
set_option maxRecDepth 100000 in
set_option maxHeartbeats 4000000 in
theorem cLi_takeLetters {l : Launch} {G : GG} (hG : GOK G) {c_Ta_bytes : (Nat → Int32)} {c_Ta_size : Int32} {c_Li_cursor : Int32} {c_Li_tokenStart : Int32} {c_Li_tokenKind : Int32} {z11111 : Z11111} {z111121 : Z111121} {z1112112 : (Nat → Int32)} {z111212 : (Nat → Int32)} {z112 : Z112} {z12 : Z12} {z2 : Z2} (R : (Int32 × Int32)) (h : fLi_takeLetters c_Ta_bytes c_Ta_size c_Li_cursor c_Li_tokenStart c_Li_tokenKind = some R) : Met l yLi_takeLetters (.code yLi_takeLetters prog_4_method_9_code 4 none :: gw) (rmm 5) (PcW G [.ref (ad G 4), .ref (ad G 3)] (((((z11111, (z111121, c_Ta_bytes)), (((c_Ta_size, z1112112), z111212), ((c_Li_cursor, c_Li_tokenStart), c_Li_tokenKind))), z112), z12), z2)) (Qw G (none) (((((z11111, (z111121, c_Ta_bytes)), (((c_Ta_size, z1112112), z111212), ((R.1, c_Li_tokenStart), R.2))), z112), z12), z2)) 0 0 (Aw G) := by
  refine met_of (by decide) 5 G hG _ _ (Nat.le_of_ble_eq_true rfl) _ _ (fun X _ C => ?_)
  have C : Cx G X RcLi prog_4_method_9_code 4 5 none := C
  unfold fLi_takeLetters at h
  show At G X 4 _ 0 [(0, .ref (ad G 4)), (1, .ref (ad G 3))] [] (((((z11111, (z111121, c_Ta_bytes)), (((c_Ta_size, z1112112), z111212), ((c_Li_cursor, c_Li_tokenStart), c_Li_tokenKind))), z112), z12), z2)
  refine at_iconst C dLi_takeLetters_0 ci_1 ?_
  refine at_istore_n (L' := [(2, .int (1 : Int32)), (0, .ref (ad G 4)), (1, .ref (ad G 3))]) C dLi_takeLetters_1 rfl (by decide) rfl ?_
  obtain ⟨e4, he4, h⟩ := ob_some h
  refine at_loc (L' := [(0, .ref (ad G 4)), (1, .ref (ad G 3)), (2, .int (1 : Int32))]) [1, 2, 0] rfl ?_
  refine wLi_takeLetters_l2 C FU _ _ _ he4 ?_
  refine at_aload_n (j := 0) C dLi_takeLetters_86 rfl rfl ?_
  refine at_iload_n (j := 1) C dLi_takeLetters_87 rfl rfl ?_
  refine at_if_eq C dLi_takeLetters_88 rfl (fun hc => ?_) (fun hc => ?_)
  · replace h := ifp hc h
    refine at_bipush C dLi_takeLetters_113 cb_m4 ?_
    refine pfLi_tokenKind C dLi_takeLetters_115 ?_
    refine at_st (S1 := (((((z11111, (z111121, c_Ta_bytes)), (((c_Ta_size, z1112112), z111212), ((e4.2, c_Li_tokenStart), (-4 : Int32)))), z112), z12), z2)) rfl ?_
    cases h
    exact at_vret C dLi_takeLetters_118
  · replace h := ifn hc h
    refine at_aload_n (j := 0) C dLi_takeLetters_91 rfl rfl ?_
    refine gfLi_cursor (x := e4.2) C rfl dLi_takeLetters_92 ?_
    refine at_aload_n (j := 0) C dLi_takeLetters_95 rfl rfl ?_
    refine gfLi_tokenStart (x := c_Li_tokenStart) C rfl dLi_takeLetters_96 ?_
    refine at_isub C dLi_takeLetters_99 ?_
    refine at_ldcS C dLi_takeLetters_100 ?_
    refine at_slen C jLi_91 (by omega) (Nat.le_of_ble_eq_true rfl) dLi_takeLetters_102 ?_
    refine at_icmp_ne C dLi_takeLetters_105 rfl (fun hc => ?_) (fun hc => ?_)
    · replace h := ifn hc h
      refine at_bipush C dLi_takeLetters_113 cb_m4 ?_
      refine pfLi_tokenKind C dLi_takeLetters_115 ?_
      refine at_st (S1 := (((((z11111, (z111121, c_Ta_bytes)), (((c_Ta_size, z1112112), z111212), ((e4.2, c_Li_tokenStart), (-4 : Int32)))), z112), z12), z2)) rfl ?_
      cases h
      exact at_vret C dLi_takeLetters_118
    · replace h := ifp hc h
      refine at_bipush C dLi_takeLetters_108 cb_m2 ?_
      refine at_goto C dLi_takeLetters_110 rfl ?_
      refine pfLi_tokenKind C dLi_takeLetters_115 ?_
      refine at_st (S1 := (((((z11111, (z111121, c_Ta_bytes)), (((c_Ta_size, z1112112), z111212), ((e4.2, c_Li_tokenStart), (-2 : Int32)))), z112), z12), z2)) rfl ?_
      cases h
      exact at_vret C dLi_takeLetters_118
set_option maxRecDepth 100000 in
set_option maxHeartbeats 4000000 in
theorem cLi_isDigit {l : Launch} {G : GG} (hG : GOK G) {z : ST} (a0 : Int32) (R : Int32) (h : fLi_isDigit a0 = R) : Met l yLi_isDigit (.code yLi_isDigit prog_4_method_20_code 1 (some .boolean) :: gw) (rmm 2) (PcW G [.int a0] z) (Qw G (some (.int R)) z) 0 0 (Aw G) := by
  refine met_of (by decide) 2 G hG _ _ (Nat.le_of_ble_eq_true rfl) _ _ (fun X _ C => ?_)
  have C : Cx G X RcLi prog_4_method_20_code 1 2 (some .boolean) := C
  unfold fLi_isDigit at h
  show At G X 1 _ 0 [(0, .int a0)] [] z
  refine at_iload_n (j := 0) C dLi_isDigit_0 rfl rfl ?_
  refine at_bipush C dLi_isDigit_1 cb_48 ?_
  refine at_bipush C dLi_isDigit_3 cb_57 ?_
  refine at_callNi C kLi_142 (cTL_within C.2.2.2.2.2.2.1 _ _ _ _ rfl) (by omega) rfl rfl (Nat.le_of_ble_eq_true rfl) dLi_isDigit_5 ?_
  subst h
  exact at_zret (x := (fTL_within a0 (48 : Int32) (57 : Int32))) C (zb_TL_within) dLi_isDigit_8
