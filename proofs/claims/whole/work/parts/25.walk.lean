set_option maxRecDepth 100000 in
set_option maxHeartbeats 4000000 in
theorem wMM_four_l3 {G : GG} {X : CX} {z1 : Z1} {z211 : Z211} {z2121 : Z2121} {z21221 : Z21221} {z212221 : Z212221} {z2211112 : Int32} {z221112 : Int32} {z22112 : Z22112} {z2212 : Z2212} {z222 : Z222} (C : Cx G X RcMM prog_12_method_12_code 3 1 none) {Q : State → Prop}  (a1 : Int32) : ∀ (n : Nat) (a2 : Int32) (c_MM_tape : (Nat → Int32)) (c_MM_taped : Int32) (E : ((Nat → Int32) × Int32)) (h : fMM_four_l3 a1 n a2 c_MM_tape c_MM_taped = some E) (k0 : At G X 3 Q 39 [] [] (z1, ((z211, (z2121, (z21221, (z212221, E.1)))), (((((E.2, z2211112), z221112), z22112), z2212), z222)))), At G X 3 Q 3 [(0, .ref (ad G 40)), (1, .int a1), (2, .int a2)] [] (z1, ((z211, (z2121, (z21221, (z212221, c_MM_tape)))), (((((c_MM_taped, z2211112), z221112), z22112), z2212), z222))) := by
  intro n
  induction n with
  | zero =>
    intro a2 c_MM_tape c_MM_taped E h k0
    rw [fMM_four_l3.eq_1] at h
    cases h
  | succ n ih =>
    intro a2 c_MM_tape c_MM_taped E h k0
    rw [fMM_four_l3.eq_2] at h
    refine at_iload_n (j := 2) C dMM_four_3 rfl rfl ?_
    refine at_if_lt C dMM_four_4 rfl (fun hc => ?_) (fun hc => ?_)
    · replace h := ifp hc h
      cases h
      refine at_loc (L' := []) [] rfl ?_
      exact k0
    · replace h := ifn hc h
      refine at_aload_n (j := 0) C dMM_four_7 rfl rfl ?_
      refine gfMM_tape C dMM_four_8 ?_
      refine at_aload_n (j := 0) C dMM_four_11 rfl rfl ?_
      refine gfMM_taped (x := c_MM_taped) C rfl dMM_four_12 ?_
      refine at_iload_n (j := 1) C dMM_four_15 rfl rfl ?_
      refine at_iload_n (j := 2) C dMM_four_16 rfl rfl ?_
      refine at_ishr C dMM_four_17 ?_
      refine at_sipush C dMM_four_18 cs_255 ?_
      refine at_iand C dMM_four_21 ?_
      obtain ⟨hg1, h⟩ := gd_some h
      refine svMM_tape C hg1 dMM_four_22 ?_
      refine at_st (S1 := (z1, ((z211, (z2121, (z21221, (z212221, (upd c_MM_tape (c_MM_taped).toNatClampNeg ((a1 >>> (a2 &&& 31)) &&& (255 : Int32))))))), (((((c_MM_taped, z2211112), z221112), z22112), z2212), z222)))) rfl ?_
      refine at_aload_n (j := 0) C dMM_four_23 rfl rfl ?_
      refine at_dup C dMM_four_24 rfl ?_
      refine gfMM_taped (x := c_MM_taped) C rfl dMM_four_25 ?_
      refine at_iconst C dMM_four_28 ci_1 ?_
      refine at_iadd C dMM_four_29 ?_
      refine pfMM_taped C dMM_four_30 ?_
      refine at_st (S1 := (z1, ((z211, (z2121, (z21221, (z212221, (upd c_MM_tape (c_MM_taped).toNatClampNeg ((a1 >>> (a2 &&& 31)) &&& (255 : Int32))))))), ((((((c_MM_taped + (1 : Int32)), z2211112), z221112), z22112), z2212), z222)))) rfl ?_
      refine at_iinc (j := 2) (L' := [(2, .int (a2 + (-8 : Int32))), (0, .ref (ad G 40)), (1, .int a1)]) C dMM_four_33 rfl ci_m8 (by decide) rfl ?_
      refine at_goto C dMM_four_36 rfl ?_
      refine at_loc (L' := [(0, .ref (ad G 40)), (1, .int a1), (2, .int (a2 + (-8 : Int32)))]) [1, 2, 0] rfl ?_
      exact ih _ _ _ _ h k0
set_option maxRecDepth 100000 in
set_option maxHeartbeats 4000000 in
theorem cMM_four {l : Launch} {G : GG} (hG : GOK G) {c_MM_tape : (Nat → Int32)} {c_MM_taped : Int32} {z1 : Z1} {z211 : Z211} {z2121 : Z2121} {z21221 : Z21221} {z212221 : Z212221} {z2211112 : Int32} {z221112 : Int32} {z22112 : Z22112} {z2212 : Z2212} {z222 : Z222} (a1 : Int32) (R : ((Nat → Int32) × Int32)) (h : fMM_four a1 c_MM_tape c_MM_taped = some R) : Met l yMM_four (.code yMM_four prog_12_method_12_code 3 none :: gw) (rmm 1) (PcW G [.ref (ad G 40), .int a1] (z1, ((z211, (z2121, (z21221, (z212221, c_MM_tape)))), (((((c_MM_taped, z2211112), z221112), z22112), z2212), z222)))) (Qw G (none) (z1, ((z211, (z2121, (z21221, (z212221, R.1)))), (((((R.2, z2211112), z221112), z22112), z2212), z222)))) 0 0 (Aw G) := by
  refine met_of (by decide) 1 G hG _ _ (Nat.le_of_ble_eq_true rfl) _ _ (fun X _ C => ?_)
  have C : Cx G X RcMM prog_12_method_12_code 3 1 none := C
  unfold fMM_four at h
  show At G X 3 _ 0 [(0, .ref (ad G 40)), (1, .int a1)] [] (z1, ((z211, (z2121, (z21221, (z212221, c_MM_tape)))), (((((c_MM_taped, z2211112), z221112), z22112), z2212), z222)))
  refine at_bipush C dMM_four_0 cb_24 ?_
  refine at_istore_n (L' := [(2, .int (24 : Int32)), (0, .ref (ad G 40)), (1, .int a1)]) C dMM_four_2 rfl (by decide) rfl ?_
  obtain ⟨e2, he2, h⟩ := ob_some h
  refine at_loc (L' := [(0, .ref (ad G 40)), (1, .int a1), (2, .int (24 : Int32))]) [1, 2, 0] rfl ?_
  refine wMM_four_l3 C _ FU _ _ _ _ he2 ?_
  cases h
  exact at_vret C dMM_four_39
set_option maxRecDepth 100000 in
set_option maxHeartbeats 4000000 in
theorem cMM_feed {l : Launch} {G : GG} (hG : GOK G) {c_MM_tape : (Nat → Int32)} {c_MM_taped : Int32} {z1 : Z1} {z211 : Z211} {z2121 : Z2121} {z21221 : Z21221} {z212221 : Z212221} {z2211112 : Int32} {z221112 : Int32} {z22112 : Z22112} {z2212 : Z2212} {z222 : Z222} (a1 : Int32) (a2 : Int32) (a3 : Int32) (a4 : Int32) (a5 : Int32) (R : (Int32 × (Nat → Int32) × Int32)) (h : fMM_feed a1 a2 a3 a4 a5 c_MM_tape c_MM_taped = some R) : Met l yMM_feed (.code yMM_feed prog_12_method_13_code 6 (some .int) :: gw) (rmm 2) (PcW G [.ref (ad G 40), .int a1, .int a2, .int a3, .int a4, .int a5] (z1, ((z211, (z2121, (z21221, (z212221, c_MM_tape)))), (((((c_MM_taped, z2211112), z221112), z22112), z2212), z222)))) (Qw G (some (.int R.1)) (z1, ((z211, (z2121, (z21221, (z212221, R.2.1)))), (((((R.2.2, z2211112), z221112), z22112), z2212), z222)))) 0 0 (Aw G) := by
  refine met_of (by decide) 2 G hG _ _ (Nat.le_of_ble_eq_true rfl) _ _ (fun X _ C => ?_)
  have C : Cx G X RcMM prog_12_method_13_code 6 2 (some .int) := C
  unfold fMM_feed at h
  show At G X 6 _ 0 [(0, .ref (ad G 40)), (1, .int a1), (2, .int a2), (3, .int a3), (4, .int a4), (5, .int a5)] [] (z1, ((z211, (z2121, (z21221, (z212221, c_MM_tape)))), (((((c_MM_taped, z2211112), z221112), z22112), z2212), z222)))
  refine at_aload_n (j := 0) C dMM_feed_0 rfl rfl ?_
  refine gfMM_taped (x := c_MM_taped) C rfl dMM_feed_1 ?_
  refine at_bipush C dMM_feed_4 cb_20 ?_
  refine at_iadd C dMM_feed_6 ?_
  refine at_sipush C dMM_feed_7 cs_300 ?_
  refine at_icmp_le C dMM_feed_10 rfl (fun hc => ?_) (fun hc => ?_)
  · replace h := ifp hc h
    refine at_aload_n (j := 0) C dMM_feed_15 rfl rfl ?_
    refine at_iload_n (j := 1) C dMM_feed_16 rfl rfl ?_
    obtain ⟨e1, he1, h⟩ := ob_some h
    refine at_callVv C kMM_131 (cMM_four C.2.2.2.2.2.2.1 _ _ he1) (by omega) rfl rfl rfl rfl (Nat.le_of_ble_eq_true rfl) dMM_feed_17 ?_
    refine at_aload_n (j := 0) C dMM_feed_20 rfl rfl ?_
    refine at_iload_n (j := 2) C dMM_feed_21 rfl rfl ?_
    obtain ⟨e2, he2, h⟩ := ob_some h
    refine at_callVv C kMM_131 (cMM_four C.2.2.2.2.2.2.1 _ _ he2) (by omega) rfl rfl rfl rfl (Nat.le_of_ble_eq_true rfl) dMM_feed_22 ?_
    refine at_aload_n (j := 0) C dMM_feed_25 rfl rfl ?_
    refine at_iload_n (j := 3) C dMM_feed_26 rfl rfl ?_
    obtain ⟨e3, he3, h⟩ := ob_some h
    refine at_callVv C kMM_131 (cMM_four C.2.2.2.2.2.2.1 _ _ he3) (by omega) rfl rfl rfl rfl (Nat.le_of_ble_eq_true rfl) dMM_feed_27 ?_
    refine at_aload_n (j := 0) C dMM_feed_30 rfl rfl ?_
    refine at_iload (j := 4) C dMM_feed_31 rfl ?_
    obtain ⟨e4, he4, h⟩ := ob_some h
    refine at_callVv C kMM_131 (cMM_four C.2.2.2.2.2.2.1 _ _ he4) (by omega) rfl rfl rfl rfl (Nat.le_of_ble_eq_true rfl) dMM_feed_33 ?_
    refine at_aload_n (j := 0) C dMM_feed_36 rfl rfl ?_
    refine at_iload (j := 5) C dMM_feed_37 rfl ?_
    obtain ⟨e5, he5, h⟩ := ob_some h
    refine at_callVv C kMM_131 (cMM_four C.2.2.2.2.2.2.1 _ _ he5) (by omega) rfl rfl rfl rfl (Nat.le_of_ble_eq_true rfl) dMM_feed_39 ?_
    refine at_aload_n (j := 0) C dMM_feed_42 rfl rfl ?_
    refine gfMM_taped (x := e5.2) C rfl dMM_feed_43 ?_
    cases h
    exact at_iret C dMM_feed_46
  · replace h := ifn hc h
    refine at_iconst C dMM_feed_13 ci_m1 ?_
    cases h
    exact at_iret C dMM_feed_14
set_option maxRecDepth 100000 in
set_option maxHeartbeats 4000000 in
theorem cMM_end {l : Launch} {G : GG} (hG : GOK G) {c_MM_taped : Int32} {z1 : Z1} {z21 : Z21} {z2211112 : Int32} {z221112 : Int32} {z22112 : Z22112} {z2212 : Z2212} {z222 : Z222} (a1 : Int32) (R : (Int32 × Int32)) (h : fMM_end a1 c_MM_taped = R) : Met l yMM_end (.code yMM_end prog_12_method_14_code 2 (some .int) :: gw) (rmm 2) (PcW G [.ref (ad G 40), .int a1] (z1, (z21, (((((c_MM_taped, z2211112), z221112), z22112), z2212), z222)))) (Qw G (some (.int R.1)) (z1, (z21, (((((R.2, z2211112), z221112), z22112), z2212), z222)))) 0 0 (Aw G) := by
  refine met_of (by decide) 2 G hG _ _ (Nat.le_of_ble_eq_true rfl) _ _ (fun X _ C => ?_)
  have C : Cx G X RcMM prog_12_method_14_code 2 2 (some .int) := C
  unfold fMM_end at h
  show At G X 2 _ 0 [(0, .ref (ad G 40)), (1, .int a1)] [] (z1, (z21, (((((c_MM_taped, z2211112), z221112), z22112), z2212), z222)))
  refine at_iload_n (j := 1) C dMM_end_0 rfl rfl ?_
  refine at_iconst C dMM_end_1 ci_0 ?_
  refine at_aload_n (j := 0) C dMM_end_2 rfl rfl ?_
  refine gfMM_taped (x := c_MM_taped) C rfl dMM_end_3 ?_
  refine at_callSi C kMM_109 (cMM_isIn C.2.2.2.2.2.2.1 _ _ _ _ rfl) (by omega) rfl rfl (Nat.le_of_ble_eq_true rfl) dMM_end_6 ?_
  refine at_if_ne C dMM_end_9 rfl (fun hc => ?_) (fun hc => ?_)
  · replace h := ifn hc h
    refine at_aload_n (j := 0) C dMM_end_14 rfl rfl ?_
    refine at_iload_n (j := 1) C dMM_end_15 rfl rfl ?_
    refine pfMM_taped C dMM_end_16 ?_
    refine at_st (S1 := (z1, (z21, (((((a1, z2211112), z221112), z22112), z2212), z222)))) rfl ?_
    refine at_iload_n (j := 1) C dMM_end_19 rfl rfl ?_
    subst h
    exact at_iret C dMM_end_20
  · replace h := ifp hc h
    refine at_iconst C dMM_end_12 ci_m1 ?_
    subst h
    exact at_iret C dMM_end_13
set_option maxRecDepth 100000 in
set_option maxHeartbeats 4000000 in
theorem cMM_see {l : Launch} {G : GG} (hG : GOK G) {c_MM_tape : (Nat → Int32)} {c_MM_taped : Int32} {z1 : Z1} {z211 : Z211} {z2121 : Z2121} {z21221 : Z21221} {z212221 : Z212221} {z2211112 : Int32} {z221112 : Int32} {z22112 : Z22112} {z2212 : Z2212} {z222 : Z222} (a1 : Int32) (R : Int32) (h : fMM_see a1 c_MM_tape c_MM_taped = some R) : Met l yMM_see (.code yMM_see prog_12_method_15_code 2 (some .int) :: gw) (rmm 1) (PcW G [.ref (ad G 40), .int a1] (z1, ((z211, (z2121, (z21221, (z212221, c_MM_tape)))), (((((c_MM_taped, z2211112), z221112), z22112), z2212), z222)))) (Qw G (some (.int R)) (z1, ((z211, (z2121, (z21221, (z212221, c_MM_tape)))), (((((c_MM_taped, z2211112), z221112), z22112), z2212), z222)))) 0 0 (Aw G) := by
  refine met_of (by decide) 1 G hG _ _ (Nat.le_of_ble_eq_true rfl) _ _ (fun X _ C => ?_)
  have C : Cx G X RcMM prog_12_method_15_code 2 1 (some .int) := C
  unfold fMM_see at h
  show At G X 2 _ 0 [(0, .ref (ad G 40)), (1, .int a1)] [] (z1, ((z211, (z2121, (z21221, (z212221, c_MM_tape)))), (((((c_MM_taped, z2211112), z221112), z22112), z2212), z222)))
  refine at_iload_n (j := 1) C dMM_see_0 rfl rfl ?_
  refine at_aload_n (j := 0) C dMM_see_1 rfl rfl ?_
  refine gfMM_taped (x := c_MM_taped) C rfl dMM_see_2 ?_
  refine at_icmp_ge C dMM_see_5 rfl (fun hc => ?_) (fun hc => ?_)
  · replace h := ifp hc h
    refine at_iconst C dMM_see_17 ci_m1 ?_
    cases h
    exact at_iret C dMM_see_18
  · replace h := ifn hc h
    refine at_aload_n (j := 0) C dMM_see_8 rfl rfl ?_
    refine gfMM_tape C dMM_see_9 ?_
    refine at_iload_n (j := 1) C dMM_see_12 rfl rfl ?_
    obtain ⟨hg1, h⟩ := gd_some h
    refine ldMM_tape (f := c_MM_tape) C rfl hg1 dMM_see_13 ?_
    refine at_goto C dMM_see_14 rfl ?_
    cases h
    exact at_iret C dMM_see_18
set_option maxRecDepth 100000 in
set_option maxHeartbeats 4000000 in
theorem cMM_isLetter {l : Launch} {G : GG} (hG : GOK G) {z : ST} (a0 : Int32) (R : Int32) (h : fMM_isLetter a0 = R) : Met l yMM_isLetter (.code yMM_isLetter prog_12_method_16_code 1 (some .boolean) :: gw) (rmm 2) (PcW G [.int a0] z) (Qw G (some (.int R)) z) 0 0 (Aw G) := by
  refine met_of (by decide) 2 G hG _ _ (Nat.le_of_ble_eq_true rfl) _ _ (fun X _ C => ?_)
  have C : Cx G X RcMM prog_12_method_16_code 1 2 (some .boolean) := C
  unfold fMM_isLetter at h
  show At G X 1 _ 0 [(0, .int a0)] [] z
  refine at_iload_n (j := 0) C dMM_isLetter_0 rfl rfl ?_
  refine at_bipush C dMM_isLetter_1 cb_97 ?_
  refine at_bipush C dMM_isLetter_3 cb_122 ?_
  refine at_callSi C kMM_109 (cMM_isIn C.2.2.2.2.2.2.1 _ _ _ _ rfl) (by omega) rfl rfl (Nat.le_of_ble_eq_true rfl) dMM_isLetter_5 ?_
  refine at_if_ne C dMM_isLetter_8 rfl (fun hc => ?_) (fun hc => ?_)
  · replace h := ifn hc h
    refine at_iconst C dMM_isLetter_22 ci_1 ?_
    refine at_goto C dMM_isLetter_23 rfl ?_
    subst h
    exact at_zret (x := (1 : Int32)) C zn_1 dMM_isLetter_27
  · replace h := ifp hc h
    refine at_iload_n (j := 0) C dMM_isLetter_11 rfl rfl ?_
    refine at_bipush C dMM_isLetter_12 cb_65 ?_
    refine at_bipush C dMM_isLetter_14 cb_90 ?_
    refine at_callSi C kMM_109 (cMM_isIn C.2.2.2.2.2.2.1 _ _ _ _ rfl) (by omega) rfl rfl (Nat.le_of_ble_eq_true rfl) dMM_isLetter_16 ?_
    refine at_if_eq C dMM_isLetter_19 rfl (fun hc => ?_) (fun hc => ?_)
    · replace h := ifp hc h
      refine at_iconst C dMM_isLetter_26 ci_0 ?_
      subst h
      exact at_zret (x := (0 : Int32)) C zn_0 dMM_isLetter_27
    · replace h := ifn hc h
      refine at_iconst C dMM_isLetter_22 ci_1 ?_
      refine at_goto C dMM_isLetter_23 rfl ?_
      subst h
      exact at_zret (x := (1 : Int32)) C zn_1 dMM_isLetter_27
set_option maxRecDepth 100000 in
set_option maxHeartbeats 4000000 in
theorem cMM_isDigit {l : Launch} {G : GG} (hG : GOK G) {z : ST} (a0 : Int32) (R : Int32) (h : fMM_isDigit a0 = R) : Met l yMM_isDigit (.code yMM_isDigit prog_12_method_17_code 1 (some .boolean) :: gw) (rmm 2) (PcW G [.int a0] z) (Qw G (some (.int R)) z) 0 0 (Aw G) := by
  refine met_of (by decide) 2 G hG _ _ (Nat.le_of_ble_eq_true rfl) _ _ (fun X _ C => ?_)
  have C : Cx G X RcMM prog_12_method_17_code 1 2 (some .boolean) := C
  unfold fMM_isDigit at h
  show At G X 1 _ 0 [(0, .int a0)] [] z
  refine at_iload_n (j := 0) C dMM_isDigit_0 rfl rfl ?_
  refine at_bipush C dMM_isDigit_1 cb_48 ?_
  refine at_bipush C dMM_isDigit_3 cb_57 ?_
  refine at_callSi C kMM_109 (cMM_isIn C.2.2.2.2.2.2.1 _ _ _ _ rfl) (by omega) rfl rfl (Nat.le_of_ble_eq_true rfl) dMM_isDigit_5 ?_
  subst h
  exact at_zret (x := (fMM_isIn a0 (48 : Int32) (57 : Int32))) C (zb_MM_isIn) dMM_isDigit_8
set_option maxRecDepth 100000 in
set_option maxHeartbeats 4000000 in
theorem wMM_nextToken_l0 {G : GG} {X : CX} {c_MM_tape : (Nat → Int32)} {c_MM_taped : Int32} {c_MM_place : Int32} {c_MM_token : Int32} {c_MM_number : Int32} {z1 : Z1} {z211 : Z211} {z2121 : Z2121} {z21221 : Z21221} {z212221 : Z212221} {z2211112 : Int32} {z221112 : Int32} {z2212112 : Int32} {z221212 : Int32} {z22122 : Z22122} {z222 : Z222} (C : Cx G X RcMM prog_12_method_18_code 2 3 none) {Q : State → Prop}  : ∀ (n : Nat) (c_MM_at : Int32) (E : Int32) (h : fMM_nextToken_l0 c_MM_tape c_MM_taped n c_MM_at = some E) (k0 : At G X 2 Q 39 [(0, .ref (ad G 40))] [] (z1, ((z211, (z2121, (z21221, (z212221, c_MM_tape)))), (((((c_MM_taped, z2211112), z221112), ((E, c_MM_place), c_MM_token)), (((c_MM_number, z2212112), z221212), z22122)), z222)))), At G X 2 Q 0 [(0, .ref (ad G 40))] [] (z1, ((z211, (z2121, (z21221, (z212221, c_MM_tape)))), (((((c_MM_taped, z2211112), z221112), ((c_MM_at, c_MM_place), c_MM_token)), (((c_MM_number, z2212112), z221212), z22122)), z222))) := by
  intro n
  induction n with
  | zero =>
    intro c_MM_at E h k0
    rw [fMM_nextToken_l0.eq_1] at h
    cases h
  | succ n ih =>
    intro c_MM_at E h k0
    rw [fMM_nextToken_l0.eq_2] at h
    refine at_aload_n (j := 0) C dMM_nextToken_0 rfl rfl ?_
    refine at_aload_n (j := 0) C dMM_nextToken_1 rfl rfl ?_
    refine gfMM_at (x := c_MM_at) C rfl dMM_nextToken_2 ?_
    obtain ⟨e1, he1, h⟩ := ob_some h
    refine at_callVi C kMM_138 (cMM_see C.2.2.2.2.2.2.1 _ _ he1) (by omega) rfl rfl rfl rfl (Nat.le_of_ble_eq_true rfl) dMM_nextToken_5 ?_
    refine at_bipush C dMM_nextToken_8 cb_32 ?_
    refine at_icmp_eq C dMM_nextToken_10 rfl (fun hc => ?_) (fun hc => ?_)
    · replace h := ifp hc h
      refine at_aload_n (j := 0) C dMM_nextToken_26 rfl rfl ?_
      refine at_dup C dMM_nextToken_27 rfl ?_
      refine gfMM_at (x := c_MM_at) C rfl dMM_nextToken_28 ?_
      refine at_iconst C dMM_nextToken_31 ci_1 ?_
      refine at_iadd C dMM_nextToken_32 ?_
      refine pfMM_at C dMM_nextToken_33 ?_
      refine at_st (S1 := (z1, ((z211, (z2121, (z21221, (z212221, c_MM_tape)))), (((((c_MM_taped, z2211112), z221112), (((c_MM_at + (1 : Int32)), c_MM_place), c_MM_token)), (((c_MM_number, z2212112), z221212), z22122)), z222)))) rfl ?_
      refine at_goto C dMM_nextToken_36 rfl ?_
      exact ih _ _ h k0
    · replace h := ifn hc h
      refine at_aload_n (j := 0) C dMM_nextToken_13 rfl rfl ?_
      refine at_aload_n (j := 0) C dMM_nextToken_14 rfl rfl ?_
      refine gfMM_at (x := c_MM_at) C rfl dMM_nextToken_15 ?_
      obtain ⟨e2, he2, h⟩ := ob_some h
      refine at_callVi C kMM_138 (cMM_see C.2.2.2.2.2.2.1 _ _ he2) (by omega) rfl rfl rfl rfl (Nat.le_of_ble_eq_true rfl) dMM_nextToken_18 ?_
      refine at_bipush C dMM_nextToken_21 cb_10 ?_
      refine at_icmp_ne C dMM_nextToken_23 rfl (fun hc => ?_) (fun hc => ?_)
      · replace h := ifn hc h
        cases h
        exact k0
      · replace h := ifp hc h
        refine at_aload_n (j := 0) C dMM_nextToken_26 rfl rfl ?_
        refine at_dup C dMM_nextToken_27 rfl ?_
        refine gfMM_at (x := c_MM_at) C rfl dMM_nextToken_28 ?_
        refine at_iconst C dMM_nextToken_31 ci_1 ?_
        refine at_iadd C dMM_nextToken_32 ?_
        refine pfMM_at C dMM_nextToken_33 ?_
        refine at_st (S1 := (z1, ((z211, (z2121, (z21221, (z212221, c_MM_tape)))), (((((c_MM_taped, z2211112), z221112), (((c_MM_at + (1 : Int32)), c_MM_place), c_MM_token)), (((c_MM_number, z2212112), z221212), z22122)), z222)))) rfl ?_
        refine at_goto C dMM_nextToken_36 rfl ?_
        exact ih _ _ h k0
set_option maxRecDepth 100000 in
set_option maxHeartbeats 4000000 in
theorem wMM_nextToken_l151 {G : GG} {X : CX} {c_MM_tape : (Nat → Int32)} {c_MM_taped : Int32} {c_MM_place : Int32} {c_MM_token : Int32} {c_MM_number : Int32} {z1 : Z1} {z211 : Z211} {z2121 : Z2121} {z21221 : Z21221} {z212221 : Z212221} {z2211112 : Int32} {z221112 : Int32} {z2212112 : Int32} {z221212 : Int32} {z22122 : Z22122} {z222 : Z222} (C : Cx G X RcMM prog_12_method_18_code 2 3 none) {Q : State → Prop}  (a1 : Int32) : ∀ (n : Nat) (c_MM_at : Int32) (E : Int32) (h : fMM_nextToken_l151 a1 c_MM_tape c_MM_taped n c_MM_at = some E) (k0 : At G X 2 Q 178 [(0, .ref (ad G 40)), (1, .int a1)] [] (z1, ((z211, (z2121, (z21221, (z212221, c_MM_tape)))), (((((c_MM_taped, z2211112), z221112), ((E, c_MM_place), c_MM_token)), (((c_MM_number, z2212112), z221212), z22122)), z222)))), At G X 2 Q 151 [(0, .ref (ad G 40)), (1, .int a1)] [] (z1, ((z211, (z2121, (z21221, (z212221, c_MM_tape)))), (((((c_MM_taped, z2211112), z221112), ((c_MM_at, c_MM_place), c_MM_token)), (((c_MM_number, z2212112), z221212), z22122)), z222))) := by
  intro n
  induction n with
  | zero =>
    intro c_MM_at E h k0
    rw [fMM_nextToken_l151.eq_1] at h
    cases h
  | succ n ih =>
    intro c_MM_at E h k0
    rw [fMM_nextToken_l151.eq_2] at h
    refine at_aload_n (j := 0) C dMM_nextToken_151 rfl rfl ?_
    refine at_aload_n (j := 0) C dMM_nextToken_152 rfl rfl ?_
    refine gfMM_at (x := c_MM_at) C rfl dMM_nextToken_153 ?_
    obtain ⟨e5, he5, h⟩ := ob_some h
    refine at_callVi C kMM_138 (cMM_see C.2.2.2.2.2.2.1 _ _ he5) (by omega) rfl rfl rfl rfl (Nat.le_of_ble_eq_true rfl) dMM_nextToken_156 ?_
    refine at_callSi C kMM_154 (cMM_isLetter C.2.2.2.2.2.2.1 _ _ rfl) (by omega) rfl rfl (Nat.le_of_ble_eq_true rfl) dMM_nextToken_159 ?_
    refine at_if_eq C dMM_nextToken_162 rfl (fun hc => ?_) (fun hc => ?_)
    · replace h := ifp hc h
      cases h
      exact k0
    · replace h := ifn hc h
      refine at_aload_n (j := 0) C dMM_nextToken_165 rfl rfl ?_
      refine at_dup C dMM_nextToken_166 rfl ?_
      refine gfMM_at (x := c_MM_at) C rfl dMM_nextToken_167 ?_
      refine at_iconst C dMM_nextToken_170 ci_1 ?_
      refine at_iadd C dMM_nextToken_171 ?_
      refine pfMM_at C dMM_nextToken_172 ?_
      refine at_st (S1 := (z1, ((z211, (z2121, (z21221, (z212221, c_MM_tape)))), (((((c_MM_taped, z2211112), z221112), (((c_MM_at + (1 : Int32)), c_MM_place), c_MM_token)), (((c_MM_number, z2212112), z221212), z22122)), z222)))) rfl ?_
      refine at_goto C dMM_nextToken_175 rfl ?_
      exact ih _ _ h k0
set_option maxRecDepth 100000 in
set_option maxHeartbeats 4000000 in
theorem wMM_nextToken_l85 {G : GG} {X : CX} {c_MM_tape : (Nat → Int32)} {c_MM_taped : Int32} {c_MM_place : Int32} {c_MM_token : Int32} {z1 : Z1} {z211 : Z211} {z2121 : Z2121} {z21221 : Z21221} {z212221 : Z212221} {z2211112 : Int32} {z221112 : Int32} {z2212112 : Int32} {z221212 : Int32} {z22122 : Z22122} {z222 : Z222} (C : Cx G X RcMM prog_12_method_18_code 2 3 none) {Q : State → Prop}  : ∀ (n : Nat) (c_MM_at : Int32) (c_MM_number : Int32) (E : (Int32 × Int32)) (h : fMM_nextToken_l85 c_MM_tape c_MM_taped n c_MM_at c_MM_number = some E) (k0 : At G X 2 Q 300 [] [] (z1, ((z211, (z2121, (z21221, (z212221, c_MM_tape)))), (((((c_MM_taped, z2211112), z221112), ((E.1, c_MM_place), c_MM_token)), (((E.2, z2212112), z221212), z22122)), z222)))), At G X 2 Q 85 [(0, .ref (ad G 40))] [] (z1, ((z211, (z2121, (z21221, (z212221, c_MM_tape)))), (((((c_MM_taped, z2211112), z221112), ((c_MM_at, c_MM_place), c_MM_token)), (((c_MM_number, z2212112), z221212), z22122)), z222))) := by
  intro n
  induction n with
  | zero =>
    intro c_MM_at c_MM_number E h k0
    rw [fMM_nextToken_l85.eq_1] at h
    cases h
  | succ n ih =>
    intro c_MM_at c_MM_number E h k0
    rw [fMM_nextToken_l85.eq_2] at h
    refine at_aload_n (j := 0) C dMM_nextToken_85 rfl rfl ?_
    refine at_aload_n (j := 0) C dMM_nextToken_86 rfl rfl ?_
    refine gfMM_at (x := c_MM_at) C rfl dMM_nextToken_87 ?_
    obtain ⟨e10, he10, h⟩ := ob_some h
    refine at_callVi C kMM_138 (cMM_see C.2.2.2.2.2.2.1 _ _ he10) (by omega) rfl rfl rfl rfl (Nat.le_of_ble_eq_true rfl) dMM_nextToken_90 ?_
    refine at_callSi C kMM_148 (cMM_isDigit C.2.2.2.2.2.2.1 _ _ rfl) (by omega) rfl rfl (Nat.le_of_ble_eq_true rfl) dMM_nextToken_93 ?_
    refine at_if_eq C dMM_nextToken_96 rfl (fun hc => ?_) (fun hc => ?_)
    · replace h := ifp hc h
      cases h
      refine at_loc (L' := []) [] rfl ?_
      exact k0
    · replace h := ifn hc h
      refine at_aload_n (j := 0) C dMM_nextToken_99 rfl rfl ?_
      refine gfMM_number (x := c_MM_number) C rfl dMM_nextToken_100 ?_
      refine at_ldc C qMM_117 dMM_nextToken_103 ?_
      refine at_icmp_ge C dMM_nextToken_105 rfl (fun hc => ?_) (fun hc => ?_)
      · replace h := ifp hc h
        refine at_aload_n (j := 0) C dMM_nextToken_131 rfl rfl ?_
        refine at_dup C dMM_nextToken_132 rfl ?_
        refine gfMM_at (x := c_MM_at) C rfl dMM_nextToken_133 ?_
        refine at_iconst C dMM_nextToken_136 ci_1 ?_
        refine at_iadd C dMM_nextToken_137 ?_
        refine pfMM_at C dMM_nextToken_138 ?_
        refine at_st (S1 := (z1, ((z211, (z2121, (z21221, (z212221, c_MM_tape)))), (((((c_MM_taped, z2211112), z221112), (((c_MM_at + (1 : Int32)), c_MM_place), c_MM_token)), (((c_MM_number, z2212112), z221212), z22122)), z222)))) rfl ?_
        refine at_goto C dMM_nextToken_141 rfl ?_
        exact ih _ _ _ h k0
      · replace h := ifn hc h
        refine at_aload_n (j := 0) C dMM_nextToken_108 rfl rfl ?_
        refine at_bipush C dMM_nextToken_109 cb_10 ?_
        refine at_aload_n (j := 0) C dMM_nextToken_111 rfl rfl ?_
        refine gfMM_number (x := c_MM_number) C rfl dMM_nextToken_112 ?_
        refine at_imul C dMM_nextToken_115 ?_
        refine at_aload_n (j := 0) C dMM_nextToken_116 rfl rfl ?_
        refine at_aload_n (j := 0) C dMM_nextToken_117 rfl rfl ?_
        refine gfMM_at (x := c_MM_at) C rfl dMM_nextToken_118 ?_
        obtain ⟨e11, he11, h⟩ := ob_some h
        refine at_callVi C kMM_138 (cMM_see C.2.2.2.2.2.2.1 _ _ he11) (by omega) rfl rfl rfl rfl (Nat.le_of_ble_eq_true rfl) dMM_nextToken_121 ?_
        refine at_iadd C dMM_nextToken_124 ?_
        refine at_bipush C dMM_nextToken_125 cb_48 ?_
        refine at_isub C dMM_nextToken_127 ?_
        refine pfMM_number C dMM_nextToken_128 ?_
        refine at_st (S1 := (z1, ((z211, (z2121, (z21221, (z212221, c_MM_tape)))), (((((c_MM_taped, z2211112), z221112), ((c_MM_at, c_MM_place), c_MM_token)), (((((((10 : Int32) * c_MM_number) + e11) - (48 : Int32)), z2212112), z221212), z22122)), z222)))) rfl ?_
        refine at_aload_n (j := 0) C dMM_nextToken_131 rfl rfl ?_
        refine at_dup C dMM_nextToken_132 rfl ?_
        refine gfMM_at (x := c_MM_at) C rfl dMM_nextToken_133 ?_
        refine at_iconst C dMM_nextToken_136 ci_1 ?_
        refine at_iadd C dMM_nextToken_137 ?_
        refine pfMM_at C dMM_nextToken_138 ?_
        refine at_st (S1 := (z1, ((z211, (z2121, (z21221, (z212221, c_MM_tape)))), (((((c_MM_taped, z2211112), z221112), (((c_MM_at + (1 : Int32)), c_MM_place), c_MM_token)), (((((((10 : Int32) * c_MM_number) + e11) - (48 : Int32)), z2212112), z221212), z22122)), z222)))) rfl ?_
        refine at_goto C dMM_nextToken_141 rfl ?_
        exact ih _ _ _ h k0
set_option maxRecDepth 100000 in
set_option maxHeartbeats 4000000 in
theorem cMM_nextToken {l : Launch} {G : GG} (hG : GOK G) {c_MM_tape : (Nat → Int32)} {c_MM_taped : Int32} {c_MM_at : Int32} {c_MM_place : Int32} {c_MM_token : Int32} {c_MM_number : Int32} {z1 : Z1} {z211 : Z211} {z2121 : Z2121} {z21221 : Z21221} {z212221 : Z212221} {z2211112 : Int32} {z221112 : Int32} {z2212112 : Int32} {z221212 : Int32} {z22122 : Z22122} {z222 : Z222} (R : (Int32 × Int32 × Int32 × Int32)) (h : fMM_nextToken c_MM_tape c_MM_taped c_MM_at c_MM_place c_MM_token c_MM_number = some R) : Met l yMM_nextToken (.code yMM_nextToken prog_12_method_18_code 2 none :: gw) (rmm 3) (PcW G [.ref (ad G 40)] (z1, ((z211, (z2121, (z21221, (z212221, c_MM_tape)))), (((((c_MM_taped, z2211112), z221112), ((c_MM_at, c_MM_place), c_MM_token)), (((c_MM_number, z2212112), z221212), z22122)), z222)))) (Qw G (none) (z1, ((z211, (z2121, (z21221, (z212221, c_MM_tape)))), (((((c_MM_taped, z2211112), z221112), ((R.1, R.2.1), R.2.2.1)), (((R.2.2.2, z2212112), z221212), z22122)), z222)))) 0 0 (Aw G) := by
  refine met_of (by decide) 3 G hG _ _ (Nat.le_of_ble_eq_true rfl) _ _ (fun X _ C => ?_)
  have C : Cx G X RcMM prog_12_method_18_code 2 3 none := C
  unfold fMM_nextToken at h
  show At G X 2 _ 0 [(0, .ref (ad G 40))] [] (z1, ((z211, (z2121, (z21221, (z212221, c_MM_tape)))), (((((c_MM_taped, z2211112), z221112), ((c_MM_at, c_MM_place), c_MM_token)), (((c_MM_number, z2212112), z221212), z22122)), z222)))
  obtain ⟨e3, he3, h⟩ := ob_some h
  refine wMM_nextToken_l0 C FU _ _ he3 ?_
  refine at_aload_n (j := 0) C dMM_nextToken_39 rfl rfl ?_
  refine at_aload_n (j := 0) C dMM_nextToken_40 rfl rfl ?_
  refine gfMM_at (x := e3) C rfl dMM_nextToken_41 ?_
  refine pfMM_place C dMM_nextToken_44 ?_
  refine at_st (S1 := (z1, ((z211, (z2121, (z21221, (z212221, c_MM_tape)))), (((((c_MM_taped, z2211112), z221112), ((e3, e3), c_MM_token)), (((c_MM_number, z2212112), z221212), z22122)), z222)))) rfl ?_
  refine at_aload_n (j := 0) C dMM_nextToken_47 rfl rfl ?_
  refine at_aload_n (j := 0) C dMM_nextToken_48 rfl rfl ?_
  refine gfMM_at (x := e3) C rfl dMM_nextToken_49 ?_
  obtain ⟨e4, he4, h⟩ := ob_some h
  refine at_callVi C kMM_138 (cMM_see C.2.2.2.2.2.2.1 _ _ he4) (by omega) rfl rfl rfl rfl (Nat.le_of_ble_eq_true rfl) dMM_nextToken_52 ?_
  refine at_istore_n (L' := [(1, .int e4), (0, .ref (ad G 40))]) C dMM_nextToken_55 rfl (by decide) rfl ?_
  refine at_iload_n (j := 0) C dMM_nextToken_56 rfl rfl ?_
  refine at_if_ge C dMM_nextToken_57 rfl (fun hc => ?_) (fun hc => ?_)
  · replace h := ifp hc h
    refine at_iload_n (j := 0) C dMM_nextToken_68 rfl rfl ?_
    refine at_callSi C kMM_148 (cMM_isDigit C.2.2.2.2.2.2.1 _ _ rfl) (by omega) rfl rfl (Nat.le_of_ble_eq_true rfl) dMM_nextToken_69 ?_
    refine at_if_eq C dMM_nextToken_72 rfl (fun hc => ?_) (fun hc => ?_)
    · replace h := ifp hc h
      refine at_iload_n (j := 0) C dMM_nextToken_144 rfl rfl ?_
      refine at_callSi C kMM_154 (cMM_isLetter C.2.2.2.2.2.2.1 _ _ rfl) (by omega) rfl rfl (Nat.le_of_ble_eq_true rfl) dMM_nextToken_145 ?_
      refine at_if_eq C dMM_nextToken_148 rfl (fun hc => ?_) (fun hc => ?_)
      · replace h := ifp hc h
        refine at_aload_n (j := 1) C dMM_nextToken_255 rfl rfl ?_
        refine at_iload_n (j := 0) C dMM_nextToken_256 rfl rfl ?_
        refine at_bipush C dMM_nextToken_257 cb_59 ?_
        refine at_icmp_ne C dMM_nextToken_259 rfl (fun hc => ?_) (fun hc => ?_)
        · replace h := ifn hc h
          refine at_iload_n (j := 0) C dMM_nextToken_266 rfl rfl ?_
          refine at_bipush C dMM_nextToken_267 cb_44 ?_
          refine at_icmp_ne C dMM_nextToken_269 rfl (fun hc => ?_) (fun hc => ?_)
          · replace h := ifn hc h
            refine at_iload_n (j := 0) C dMM_nextToken_276 rfl rfl ?_
            refine at_bipush C dMM_nextToken_277 cb_58 ?_
            refine at_icmp_ne C dMM_nextToken_279 rfl (fun hc => ?_) (fun hc => ?_)
            · replace h := ifn hc h
              refine at_iconst C dMM_nextToken_286 ci_5 ?_
              refine pfMM_token C dMM_nextToken_287 ?_
              refine at_st (S1 := (z1, ((z211, (z2121, (z21221, (z212221, c_MM_tape)))), (((((c_MM_taped, z2211112), z221112), ((e3, e3), (5 : Int32))), (((c_MM_number, z2212112), z221212), z22122)), z222)))) rfl ?_
              refine at_aload_n (j := 1) C dMM_nextToken_290 rfl rfl ?_
              refine at_dup C dMM_nextToken_291 rfl ?_
              refine gfMM_at (x := e3) C rfl dMM_nextToken_292 ?_
              refine at_iconst C dMM_nextToken_295 ci_1 ?_
              refine at_iadd C dMM_nextToken_296 ?_
              refine pfMM_at C dMM_nextToken_297 ?_
              refine at_st (S1 := (z1, ((z211, (z2121, (z21221, (z212221, c_MM_tape)))), (((((c_MM_taped, z2211112), z221112), (((e3 + (1 : Int32)), e3), (5 : Int32))), (((c_MM_number, z2212112), z221212), z22122)), z222)))) rfl ?_
              cases h
              exact at_vret C dMM_nextToken_300
            · replace h := ifp hc h
              refine at_iconst C dMM_nextToken_282 ci_4 ?_
              refine at_goto C dMM_nextToken_283 rfl ?_
              refine pfMM_token C dMM_nextToken_287 ?_
              refine at_st (S1 := (z1, ((z211, (z2121, (z21221, (z212221, c_MM_tape)))), (((((c_MM_taped, z2211112), z221112), ((e3, e3), (4 : Int32))), (((c_MM_number, z2212112), z221212), z22122)), z222)))) rfl ?_
              refine at_aload_n (j := 1) C dMM_nextToken_290 rfl rfl ?_
              refine at_dup C dMM_nextToken_291 rfl ?_
              refine gfMM_at (x := e3) C rfl dMM_nextToken_292 ?_
              refine at_iconst C dMM_nextToken_295 ci_1 ?_
              refine at_iadd C dMM_nextToken_296 ?_
              refine pfMM_at C dMM_nextToken_297 ?_
              refine at_st (S1 := (z1, ((z211, (z2121, (z21221, (z212221, c_MM_tape)))), (((((c_MM_taped, z2211112), z221112), (((e3 + (1 : Int32)), e3), (4 : Int32))), (((c_MM_number, z2212112), z221212), z22122)), z222)))) rfl ?_
              cases h
              exact at_vret C dMM_nextToken_300
          · replace h := ifp hc h
            refine at_iconst C dMM_nextToken_272 ci_3 ?_
            refine at_goto C dMM_nextToken_273 rfl ?_
            refine pfMM_token C dMM_nextToken_287 ?_
            refine at_st (S1 := (z1, ((z211, (z2121, (z21221, (z212221, c_MM_tape)))), (((((c_MM_taped, z2211112), z221112), ((e3, e3), (3 : Int32))), (((c_MM_number, z2212112), z221212), z22122)), z222)))) rfl ?_
            refine at_aload_n (j := 1) C dMM_nextToken_290 rfl rfl ?_
            refine at_dup C dMM_nextToken_291 rfl ?_
            refine gfMM_at (x := e3) C rfl dMM_nextToken_292 ?_
            refine at_iconst C dMM_nextToken_295 ci_1 ?_
            refine at_iadd C dMM_nextToken_296 ?_
            refine pfMM_at C dMM_nextToken_297 ?_
            refine at_st (S1 := (z1, ((z211, (z2121, (z21221, (z212221, c_MM_tape)))), (((((c_MM_taped, z2211112), z221112), (((e3 + (1 : Int32)), e3), (3 : Int32))), (((c_MM_number, z2212112), z221212), z22122)), z222)))) rfl ?_
            cases h
            exact at_vret C dMM_nextToken_300
        · replace h := ifp hc h
          refine at_iconst C dMM_nextToken_262 ci_2 ?_
          refine at_goto C dMM_nextToken_263 rfl ?_
          refine pfMM_token C dMM_nextToken_287 ?_
          refine at_st (S1 := (z1, ((z211, (z2121, (z21221, (z212221, c_MM_tape)))), (((((c_MM_taped, z2211112), z221112), ((e3, e3), (2 : Int32))), (((c_MM_number, z2212112), z221212), z22122)), z222)))) rfl ?_
          refine at_aload_n (j := 1) C dMM_nextToken_290 rfl rfl ?_
          refine at_dup C dMM_nextToken_291 rfl ?_
          refine gfMM_at (x := e3) C rfl dMM_nextToken_292 ?_
          refine at_iconst C dMM_nextToken_295 ci_1 ?_
          refine at_iadd C dMM_nextToken_296 ?_
          refine pfMM_at C dMM_nextToken_297 ?_
          refine at_st (S1 := (z1, ((z211, (z2121, (z21221, (z212221, c_MM_tape)))), (((((c_MM_taped, z2211112), z221112), (((e3 + (1 : Int32)), e3), (2 : Int32))), (((c_MM_number, z2212112), z221212), z22122)), z222)))) rfl ?_
          cases h
          exact at_vret C dMM_nextToken_300
      · replace h := ifn hc h
        obtain ⟨e6, he6, h⟩ := ob_some h
        refine at_loc (L' := [(0, .ref (ad G 40)), (1, .int e4)]) [1, 0] rfl ?_
        refine wMM_nextToken_l151 C _ FU _ _ he6 ?_
        refine at_aload_n (j := 0) C dMM_nextToken_178 rfl rfl ?_
        refine at_aload_n (j := 0) C dMM_nextToken_179 rfl rfl ?_
        refine gfMM_at (x := e6) C rfl dMM_nextToken_180 ?_
        refine at_aload_n (j := 0) C dMM_nextToken_183 rfl rfl ?_
        refine gfMM_place (x := e3) C rfl dMM_nextToken_184 ?_
        refine at_isub C dMM_nextToken_187 ?_
        refine at_iconst C dMM_nextToken_188 ci_4 ?_
        refine at_icmp_ne C dMM_nextToken_189 rfl (fun hc => ?_) (fun hc => ?_)
        · replace h := ifn hc h
          refine at_iconst C dMM_nextToken_248 ci_5 ?_
          refine pfMM_token C dMM_nextToken_249 ?_
          refine at_st (S1 := (z1, ((z211, (z2121, (z21221, (z212221, c_MM_tape)))), (((((c_MM_taped, z2211112), z221112), ((e6, e3), (5 : Int32))), (((c_MM_number, z2212112), z221212), z22122)), z222)))) rfl ?_
          refine at_goto C dMM_nextToken_252 rfl ?_
          cases h
          exact at_vret C dMM_nextToken_300
        · replace h := ifp hc h
          refine at_iload_n (j := 1) C dMM_nextToken_192 rfl rfl ?_
          refine at_bipush C dMM_nextToken_193 cb_116 ?_
          refine at_icmp_ne C dMM_nextToken_195 rfl (fun hc => ?_) (fun hc => ?_)
          · replace h := ifn hc h
            refine at_iconst C dMM_nextToken_248 ci_5 ?_
            refine pfMM_token C dMM_nextToken_249 ?_
            refine at_st (S1 := (z1, ((z211, (z2121, (z21221, (z212221, c_MM_tape)))), (((((c_MM_taped, z2211112), z221112), ((e6, e3), (5 : Int32))), (((c_MM_number, z2212112), z221212), z22122)), z222)))) rfl ?_
            refine at_goto C dMM_nextToken_252 rfl ?_
            cases h
            exact at_vret C dMM_nextToken_300
          · replace h := ifp hc h
            refine at_aload_n (j := 0) C dMM_nextToken_198 rfl rfl ?_
            refine at_aload_n (j := 0) C dMM_nextToken_199 rfl rfl ?_
            refine gfMM_place (x := e3) C rfl dMM_nextToken_200 ?_
            refine at_iconst C dMM_nextToken_203 ci_1 ?_
            refine at_iadd C dMM_nextToken_204 ?_
            obtain ⟨e7, he7, h⟩ := ob_some h
            refine at_callVi C kMM_138 (cMM_see C.2.2.2.2.2.2.1 _ _ he7) (by omega) rfl rfl rfl rfl (Nat.le_of_ble_eq_true rfl) dMM_nextToken_205 ?_
            refine at_bipush C dMM_nextToken_208 cb_111 ?_
            refine at_icmp_ne C dMM_nextToken_210 rfl (fun hc => ?_) (fun hc => ?_)
            · replace h := ifn hc h
              refine at_iconst C dMM_nextToken_248 ci_5 ?_
              refine pfMM_token C dMM_nextToken_249 ?_
              refine at_st (S1 := (z1, ((z211, (z2121, (z21221, (z212221, c_MM_tape)))), (((((c_MM_taped, z2211112), z221112), ((e6, e3), (5 : Int32))), (((c_MM_number, z2212112), z221212), z22122)), z222)))) rfl ?_
              refine at_goto C dMM_nextToken_252 rfl ?_
              cases h
              exact at_vret C dMM_nextToken_300
            · replace h := ifp hc h
              refine at_aload_n (j := 0) C dMM_nextToken_213 rfl rfl ?_
              refine at_aload_n (j := 0) C dMM_nextToken_214 rfl rfl ?_
              refine gfMM_place (x := e3) C rfl dMM_nextToken_215 ?_
              refine at_iconst C dMM_nextToken_218 ci_2 ?_
              refine at_iadd C dMM_nextToken_219 ?_
              obtain ⟨e8, he8, h⟩ := ob_some h
              refine at_callVi C kMM_138 (cMM_see C.2.2.2.2.2.2.1 _ _ he8) (by omega) rfl rfl rfl rfl (Nat.le_of_ble_eq_true rfl) dMM_nextToken_220 ?_
              refine at_bipush C dMM_nextToken_223 cb_119 ?_
              refine at_icmp_ne C dMM_nextToken_225 rfl (fun hc => ?_) (fun hc => ?_)
              · replace h := ifn hc h
                refine at_iconst C dMM_nextToken_248 ci_5 ?_
                refine pfMM_token C dMM_nextToken_249 ?_
                refine at_st (S1 := (z1, ((z211, (z2121, (z21221, (z212221, c_MM_tape)))), (((((c_MM_taped, z2211112), z221112), ((e6, e3), (5 : Int32))), (((c_MM_number, z2212112), z221212), z22122)), z222)))) rfl ?_
                refine at_goto C dMM_nextToken_252 rfl ?_
                cases h
                exact at_vret C dMM_nextToken_300
              · replace h := ifp hc h
                refine at_aload_n (j := 0) C dMM_nextToken_228 rfl rfl ?_
                refine at_aload_n (j := 0) C dMM_nextToken_229 rfl rfl ?_
                refine gfMM_place (x := e3) C rfl dMM_nextToken_230 ?_
                refine at_iconst C dMM_nextToken_233 ci_3 ?_
                refine at_iadd C dMM_nextToken_234 ?_
                obtain ⟨e9, he9, h⟩ := ob_some h
                refine at_callVi C kMM_138 (cMM_see C.2.2.2.2.2.2.1 _ _ he9) (by omega) rfl rfl rfl rfl (Nat.le_of_ble_eq_true rfl) dMM_nextToken_235 ?_
                refine at_bipush C dMM_nextToken_238 cb_110 ?_
                refine at_icmp_ne C dMM_nextToken_240 rfl (fun hc => ?_) (fun hc => ?_)
                · replace h := ifn hc h
                  refine at_iconst C dMM_nextToken_248 ci_5 ?_
                  refine pfMM_token C dMM_nextToken_249 ?_
                  refine at_st (S1 := (z1, ((z211, (z2121, (z21221, (z212221, c_MM_tape)))), (((((c_MM_taped, z2211112), z221112), ((e6, e3), (5 : Int32))), (((c_MM_number, z2212112), z221212), z22122)), z222)))) rfl ?_
                  refine at_goto C dMM_nextToken_252 rfl ?_
                  cases h
                  exact at_vret C dMM_nextToken_300
                · replace h := ifp hc h
                  refine at_bipush C dMM_nextToken_243 cb_6 ?_
                  refine at_goto C dMM_nextToken_245 rfl ?_
                  refine pfMM_token C dMM_nextToken_249 ?_
                  refine at_st (S1 := (z1, ((z211, (z2121, (z21221, (z212221, c_MM_tape)))), (((((c_MM_taped, z2211112), z221112), ((e6, e3), (6 : Int32))), (((c_MM_number, z2212112), z221212), z22122)), z222)))) rfl ?_
                  refine at_goto C dMM_nextToken_252 rfl ?_
                  cases h
                  exact at_vret C dMM_nextToken_300
    · replace h := ifn hc h
      refine at_aload_n (j := 1) C dMM_nextToken_75 rfl rfl ?_
      refine at_iconst C dMM_nextToken_76 ci_1 ?_
      refine pfMM_token C dMM_nextToken_77 ?_
      refine at_st (S1 := (z1, ((z211, (z2121, (z21221, (z212221, c_MM_tape)))), (((((c_MM_taped, z2211112), z221112), ((e3, e3), (1 : Int32))), (((c_MM_number, z2212112), z221212), z22122)), z222)))) rfl ?_
      refine at_aload_n (j := 1) C dMM_nextToken_80 rfl rfl ?_
      refine at_iconst C dMM_nextToken_81 ci_0 ?_
      refine pfMM_number C dMM_nextToken_82 ?_
      refine at_st (S1 := (z1, ((z211, (z2121, (z21221, (z212221, c_MM_tape)))), (((((c_MM_taped, z2211112), z221112), ((e3, e3), (1 : Int32))), ((((0 : Int32), z2212112), z221212), z22122)), z222)))) rfl ?_
      obtain ⟨e12, he12, h⟩ := ob_some h
      refine at_loc (L' := [(0, .ref (ad G 40))]) [1] rfl ?_
      refine wMM_nextToken_l85 C FU _ _ _ he12 ?_
      cases h
      exact at_vret C dMM_nextToken_300
  · replace h := ifn hc h
    refine at_aload_n (j := 1) C dMM_nextToken_60 rfl rfl ?_
    refine at_iconst C dMM_nextToken_61 ci_0 ?_
    refine pfMM_token C dMM_nextToken_62 ?_
    refine at_st (S1 := (z1, ((z211, (z2121, (z21221, (z212221, c_MM_tape)))), (((((c_MM_taped, z2211112), z221112), ((e3, e3), (0 : Int32))), (((c_MM_number, z2212112), z221212), z22122)), z222)))) rfl ?_
    refine at_goto C dMM_nextToken_65 rfl ?_
    cases h
    exact at_vret C dMM_nextToken_300
set_option maxRecDepth 100000 in
set_option maxHeartbeats 4000000 in
theorem cMM_part {l : Launch} {G : GG} (hG : GOK G) {c_MM_told : (Nat → Int32)} {c_MM_tape : (Nat → Int32)} {c_MM_taped : Int32} {c_MM_at : Int32} {c_MM_place : Int32} {c_MM_token : Int32} {c_MM_number : Int32} {c_MM_goods : Int32} {z1 : Z1} {z21111 : Z21111} {z2111211 : Int32} {z211122 : (Nat → Int32)} {z2112 : Z2112} {z2121 : Z2121} {z21221 : Z21221} {z212221 : Z212221} {z2211112 : Int32} {z221112 : Int32} {z2212112 : Int32} {z221212 : Int32} {z2212212 : Int32} {z221222 : (Nat → Int32)} {z222 : Z222} (a1 : Int32) (R : (Int32 × (Nat → Int32) × Int32 × Int32 × Int32 × Int32 × Int32)) (h : fMM_part a1 c_MM_told c_MM_tape c_MM_taped c_MM_at c_MM_place c_MM_token c_MM_number c_MM_goods = some R) : Met l yMM_part (.code yMM_part prog_12_method_20_code 3 (some .int) :: gw) (rmm 4) (PcW G [.ref (ad G 40), .int a1] (z1, ((((z21111, ((z2111211, c_MM_told), z211122)), z2112), (z2121, (z21221, (z212221, c_MM_tape)))), (((((c_MM_taped, z2211112), z221112), ((c_MM_at, c_MM_place), c_MM_token)), (((c_MM_number, z2212112), z221212), ((c_MM_goods, z2212212), z221222))), z222)))) (Qw G (some (.int R.1)) (z1, ((((z21111, ((z2111211, R.2.1), z211122)), z2112), (z2121, (z21221, (z212221, c_MM_tape)))), (((((c_MM_taped, z2211112), z221112), ((R.2.2.1, R.2.2.2.1), R.2.2.2.2.1)), (((R.2.2.2.2.2.1, z2212112), z221212), ((R.2.2.2.2.2.2, z2212212), z221222))), z222)))) 0 0 (Aw G) := by
  refine met_of (by decide) 4 G hG _ _ (Nat.le_of_ble_eq_true rfl) _ _ (fun X _ C => ?_)
  have C : Cx G X RcMM prog_12_method_20_code 3 4 (some .int) := C
  unfold fMM_part at h
  show At G X 3 _ 0 [(0, .ref (ad G 40)), (1, .int a1)] [] (z1, ((((z21111, ((z2111211, c_MM_told), z211122)), z2112), (z2121, (z21221, (z212221, c_MM_tape)))), (((((c_MM_taped, z2211112), z221112), ((c_MM_at, c_MM_place), c_MM_token)), (((c_MM_number, z2212112), z221212), ((c_MM_goods, z2212212), z221222))), z222)))
  refine at_aload_n (j := 0) C dMM_part_0 rfl rfl ?_
  refine gfMM_token (x := c_MM_token) C rfl dMM_part_1 ?_
  refine at_iconst C dMM_part_4 ci_1 ?_
  refine at_icmp_eq C dMM_part_5 rfl (fun hc => ?_) (fun hc => ?_)
  · replace h := ifp hc h
    refine at_aload_n (j := 0) C dMM_part_10 rfl rfl ?_
    refine gfMM_number (x := c_MM_number) C rfl dMM_part_11 ?_
    refine at_callSi C kMM_122 (cMM_isGood C.2.2.2.2.2.2.1 _ _ rfl) (by omega) rfl rfl (Nat.le_of_ble_eq_true rfl) dMM_part_14 ?_
    refine at_if_eq C dMM_part_17 rfl (fun hc => ?_) (fun hc => ?_)
    · replace h := ifp hc h
      refine at_aload_n (j := 0) C dMM_part_37 rfl rfl ?_
      refine gfMM_number (x := c_MM_number) C rfl dMM_part_38 ?_
      refine at_callSi C kMM_122 (cMM_isGood C.2.2.2.2.2.2.1 _ _ rfl) (by omega) rfl rfl (Nat.le_of_ble_eq_true rfl) dMM_part_41 ?_
      refine at_if_ne C dMM_part_44 rfl (fun hc => ?_) (fun hc => ?_)
      · replace h := ifn hc h
        refine at_aload_n (j := 0) C dMM_part_49 rfl rfl ?_
        refine gfMM_number (x := c_MM_number) C rfl dMM_part_50 ?_
        refine at_istore_n (L' := [(2, .int c_MM_number), (0, .ref (ad G 40)), (1, .int a1)]) C dMM_part_53 rfl (by decide) rfl ?_
        refine at_aload_n (j := 1) C dMM_part_54 rfl rfl ?_
        refine at_dup C dMM_part_55 rfl ?_
        refine gfMM_goods (x := c_MM_goods) C rfl dMM_part_56 ?_
        refine at_iconst C dMM_part_59 ci_1 ?_
        refine at_iload_n (j := 0) C dMM_part_60 rfl rfl ?_
        refine at_ishl C dMM_part_61 ?_
        refine at_ior C dMM_part_62 ?_
        refine pfMM_goods C dMM_part_63 ?_
        refine at_st (S1 := (z1, ((((z21111, ((z2111211, c_MM_told), z211122)), z2112), (z2121, (z21221, (z212221, c_MM_tape)))), (((((c_MM_taped, z2211112), z221112), ((c_MM_at, c_MM_place), c_MM_token)), (((c_MM_number, z2212112), z221212), (((c_MM_goods ||| ((1 : Int32) <<< (c_MM_number &&& 31))), z2212212), z221222))), z222)))) rfl ?_
        refine at_aload_n (j := 1) C dMM_part_66 rfl rfl ?_
        obtain ⟨e1, he1, h⟩ := ob_some h
        refine at_callVv C kMM_157 (cMM_nextToken C.2.2.2.2.2.2.1 _ he1) (by omega) rfl rfl rfl rfl (Nat.le_of_ble_eq_true rfl) dMM_part_67 ?_
        refine at_aload_n (j := 1) C dMM_part_70 rfl rfl ?_
        refine gfMM_token (x := e1.2.2.1) C rfl dMM_part_71 ?_
        refine at_iconst C dMM_part_74 ci_1 ?_
        refine at_icmp_eq C dMM_part_75 rfl (fun hc => ?_) (fun hc => ?_)
        · replace h := ifp hc h
          refine at_aload_n (j := 1) C dMM_part_80 rfl rfl ?_
          refine gfMM_number (x := e1.2.2.2) C rfl dMM_part_81 ?_
          refine at_sipush C dMM_part_84 cs_9999 ?_
          refine at_icmp_le C dMM_part_87 rfl (fun hc => ?_) (fun hc => ?_)
          · replace h := ifp hc h
            refine at_aload_n (j := 1) C dMM_part_92 rfl rfl ?_
            refine gfMM_told C dMM_part_93 ?_
            refine at_sipush C dMM_part_96 cs_480 ?_
            refine at_bipush C dMM_part_99 cb_6 ?_
            refine at_iload_n (j := 2) C dMM_part_101 rfl rfl ?_
            refine at_imul C dMM_part_102 ?_
            refine at_iadd C dMM_part_103 ?_
            refine at_iload_n (j := 0) C dMM_part_104 rfl rfl ?_
            refine at_iadd C dMM_part_105 ?_
            refine at_aload_n (j := 1) C dMM_part_106 rfl rfl ?_
            refine gfMM_number (x := e1.2.2.2) C rfl dMM_part_107 ?_
            obtain ⟨hg2, h⟩ := gd_some h
            refine svMM_told C hg2 dMM_part_110 ?_
            refine at_st (S1 := (z1, ((((z21111, ((z2111211, (upd c_MM_told ((((480 : Int32) + ((6 : Int32) * a1)) + c_MM_number)).toNatClampNeg e1.2.2.2)), z211122)), z2112), (z2121, (z21221, (z212221, c_MM_tape)))), (((((c_MM_taped, z2211112), z221112), ((e1.1, e1.2.1), e1.2.2.1)), (((e1.2.2.2, z2212112), z221212), (((c_MM_goods ||| ((1 : Int32) <<< (c_MM_number &&& 31))), z2212212), z221222))), z222)))) rfl ?_
            refine at_aload_n (j := 1) C dMM_part_111 rfl rfl ?_
            obtain ⟨e3, he3, h⟩ := ob_some h
            refine at_callVv C kMM_157 (cMM_nextToken C.2.2.2.2.2.2.1 _ he3) (by omega) rfl rfl rfl rfl (Nat.le_of_ble_eq_true rfl) dMM_part_112 ?_
            refine at_iconst C dMM_part_115 ci_0 ?_
            cases h
            exact at_iret C dMM_part_116
          · replace h := ifn hc h
            refine at_iconst C dMM_part_90 ci_3 ?_
            cases h
            exact at_iret C dMM_part_91
        · replace h := ifn hc h
          refine at_iconst C dMM_part_78 ci_1 ?_
          cases h
          exact at_iret C dMM_part_79
      · replace h := ifp hc h
        refine at_iconst C dMM_part_47 ci_3 ?_
        cases h
        exact at_iret C dMM_part_48
    · replace h := ifn hc h
      refine at_aload_n (j := 0) C dMM_part_20 rfl rfl ?_
      refine gfMM_goods (x := c_MM_goods) C rfl dMM_part_21 ?_
      refine at_aload_n (j := 0) C dMM_part_24 rfl rfl ?_
      refine gfMM_number (x := c_MM_number) C rfl dMM_part_25 ?_
      refine at_ishr C dMM_part_28 ?_
      refine at_iconst C dMM_part_29 ci_1 ?_
      refine at_iand C dMM_part_30 ?_
      refine at_iconst C dMM_part_31 ci_1 ?_
      refine at_icmp_ne C dMM_part_32 rfl (fun hc => ?_) (fun hc => ?_)
      · replace h := ifn hc h
        refine at_aload_n (j := 0) C dMM_part_37 rfl rfl ?_
        refine gfMM_number (x := c_MM_number) C rfl dMM_part_38 ?_
        refine at_callSi C kMM_122 (cMM_isGood C.2.2.2.2.2.2.1 _ _ rfl) (by omega) rfl rfl (Nat.le_of_ble_eq_true rfl) dMM_part_41 ?_
        refine at_if_ne C dMM_part_44 rfl (fun hc => ?_) (fun hc => ?_)
        · replace h := ifn hc h
          refine at_aload_n (j := 0) C dMM_part_49 rfl rfl ?_
          refine gfMM_number (x := c_MM_number) C rfl dMM_part_50 ?_
          refine at_istore_n (L' := [(2, .int c_MM_number), (0, .ref (ad G 40)), (1, .int a1)]) C dMM_part_53 rfl (by decide) rfl ?_
          refine at_aload_n (j := 1) C dMM_part_54 rfl rfl ?_
          refine at_dup C dMM_part_55 rfl ?_
          refine gfMM_goods (x := c_MM_goods) C rfl dMM_part_56 ?_
          refine at_iconst C dMM_part_59 ci_1 ?_
          refine at_iload_n (j := 0) C dMM_part_60 rfl rfl ?_
          refine at_ishl C dMM_part_61 ?_
          refine at_ior C dMM_part_62 ?_
          refine pfMM_goods C dMM_part_63 ?_
          refine at_st (S1 := (z1, ((((z21111, ((z2111211, c_MM_told), z211122)), z2112), (z2121, (z21221, (z212221, c_MM_tape)))), (((((c_MM_taped, z2211112), z221112), ((c_MM_at, c_MM_place), c_MM_token)), (((c_MM_number, z2212112), z221212), (((c_MM_goods ||| ((1 : Int32) <<< (c_MM_number &&& 31))), z2212212), z221222))), z222)))) rfl ?_
          refine at_aload_n (j := 1) C dMM_part_66 rfl rfl ?_
          obtain ⟨e4, he4, h⟩ := ob_some h
          refine at_callVv C kMM_157 (cMM_nextToken C.2.2.2.2.2.2.1 _ he4) (by omega) rfl rfl rfl rfl (Nat.le_of_ble_eq_true rfl) dMM_part_67 ?_
          refine at_aload_n (j := 1) C dMM_part_70 rfl rfl ?_
          refine gfMM_token (x := e4.2.2.1) C rfl dMM_part_71 ?_
          refine at_iconst C dMM_part_74 ci_1 ?_
          refine at_icmp_eq C dMM_part_75 rfl (fun hc => ?_) (fun hc => ?_)
          · replace h := ifp hc h
            refine at_aload_n (j := 1) C dMM_part_80 rfl rfl ?_
            refine gfMM_number (x := e4.2.2.2) C rfl dMM_part_81 ?_
            refine at_sipush C dMM_part_84 cs_9999 ?_
            refine at_icmp_le C dMM_part_87 rfl (fun hc => ?_) (fun hc => ?_)
            · replace h := ifp hc h
              refine at_aload_n (j := 1) C dMM_part_92 rfl rfl ?_
              refine gfMM_told C dMM_part_93 ?_
              refine at_sipush C dMM_part_96 cs_480 ?_
              refine at_bipush C dMM_part_99 cb_6 ?_
              refine at_iload_n (j := 2) C dMM_part_101 rfl rfl ?_
              refine at_imul C dMM_part_102 ?_
              refine at_iadd C dMM_part_103 ?_
              refine at_iload_n (j := 0) C dMM_part_104 rfl rfl ?_
              refine at_iadd C dMM_part_105 ?_
              refine at_aload_n (j := 1) C dMM_part_106 rfl rfl ?_
              refine gfMM_number (x := e4.2.2.2) C rfl dMM_part_107 ?_
              obtain ⟨hg5, h⟩ := gd_some h
              refine svMM_told C hg5 dMM_part_110 ?_
              refine at_st (S1 := (z1, ((((z21111, ((z2111211, (upd c_MM_told ((((480 : Int32) + ((6 : Int32) * a1)) + c_MM_number)).toNatClampNeg e4.2.2.2)), z211122)), z2112), (z2121, (z21221, (z212221, c_MM_tape)))), (((((c_MM_taped, z2211112), z221112), ((e4.1, e4.2.1), e4.2.2.1)), (((e4.2.2.2, z2212112), z221212), (((c_MM_goods ||| ((1 : Int32) <<< (c_MM_number &&& 31))), z2212212), z221222))), z222)))) rfl ?_
              refine at_aload_n (j := 1) C dMM_part_111 rfl rfl ?_
              obtain ⟨e6, he6, h⟩ := ob_some h
              refine at_callVv C kMM_157 (cMM_nextToken C.2.2.2.2.2.2.1 _ he6) (by omega) rfl rfl rfl rfl (Nat.le_of_ble_eq_true rfl) dMM_part_112 ?_
              refine at_iconst C dMM_part_115 ci_0 ?_
              cases h
              exact at_iret C dMM_part_116
            · replace h := ifn hc h
              refine at_iconst C dMM_part_90 ci_3 ?_
              cases h
              exact at_iret C dMM_part_91
          · replace h := ifn hc h
            refine at_iconst C dMM_part_78 ci_1 ?_
            cases h
            exact at_iret C dMM_part_79
        · replace h := ifp hc h
          refine at_iconst C dMM_part_47 ci_3 ?_
          cases h
          exact at_iret C dMM_part_48
      · replace h := ifp hc h
        refine at_iconst C dMM_part_35 ci_2 ?_
        cases h
        exact at_iret C dMM_part_36
  · replace h := ifn hc h
    refine at_iconst C dMM_part_8 ci_1 ?_
    cases h
    exact at_iret C dMM_part_9
set_option maxRecDepth 100000 in
set_option maxHeartbeats 4000000 in
theorem wMM_line_l102 {G : GG} {X : CX} {c_MM_tape : (Nat → Int32)} {c_MM_taped : Int32} {c_MM_lines : Int32} {c_MM_towns : Int32} {z1 : Z1} {z21111 : Z21111} {z2111211 : Int32} {z211122 : (Nat → Int32)} {z2112 : Z2112} {z2121 : Z2121} {z21221 : Z21221} {z212221 : Z212221} {z2211112 : Int32} {z221112 : Int32} {z2212212 : Int32} {z221222 : (Nat → Int32)} {z222 : Z222} (C : Cx G X RcMM prog_12_method_19_code 4 5 (some .int)) {Q : State → Prop}  (a1 : Int32) : ∀ (n : Nat) (a2 : Int32) (c_MM_told : (Nat → Int32)) (c_MM_at : Int32) (c_MM_place : Int32) (c_MM_token : Int32) (c_MM_number : Int32) (c_MM_goods : Int32) (E : (Int32 × (Nat → Int32) × Int32 × Int32 × Int32 × Int32 × Int32) ⊕ ((Nat → Int32) × Int32 × Int32 × Int32 × Int32 × Int32)) (h : fMM_line_l102 a1 c_MM_tape c_MM_taped n a2 c_MM_told c_MM_at c_MM_place c_MM_token c_MM_number c_MM_goods = some E) (k0 : ∀ e, E = (Sum.inl e) → At G X 4 Q 120 [(3, .int e.1)] [] (z1, ((((z21111, ((z2111211, e.2.1), z211122)), z2112), (z2121, (z21221, (z212221, c_MM_tape)))), (((((c_MM_taped, z2211112), z221112), ((e.2.2.1, e.2.2.2.1), e.2.2.2.2.1)), (((e.2.2.2.2.2.1, c_MM_lines), c_MM_towns), ((e.2.2.2.2.2.2, z2212212), z221222))), z222)))) (k1 : ∀ e, E = (Sum.inr e) → At G X 4 Q 139 [(0, .ref (ad G 40))] [] (z1, ((((z21111, ((z2111211, e.1), z211122)), z2112), (z2121, (z21221, (z212221, c_MM_tape)))), (((((c_MM_taped, z2211112), z221112), ((e.2.1, e.2.2.1), e.2.2.2.1)), (((e.2.2.2.2.1, c_MM_lines), c_MM_towns), ((e.2.2.2.2.2, z2212212), z221222))), z222)))), At G X 4 Q 102 [(0, .ref (ad G 40)), (1, .int a1), (2, .int a2)] [] (z1, ((((z21111, ((z2111211, c_MM_told), z211122)), z2112), (z2121, (z21221, (z212221, c_MM_tape)))), (((((c_MM_taped, z2211112), z221112), ((c_MM_at, c_MM_place), c_MM_token)), (((c_MM_number, c_MM_lines), c_MM_towns), ((c_MM_goods, z2212212), z221222))), z222))) := by
  intro n
  induction n with
  | zero =>
    intro a2 c_MM_told c_MM_at c_MM_place c_MM_token c_MM_number c_MM_goods E h k0 k1
    rw [fMM_line_l102.eq_1] at h
    cases h
  | succ n ih =>
    intro a2 c_MM_told c_MM_at c_MM_place c_MM_token c_MM_number c_MM_goods E h k0 k1
    rw [fMM_line_l102.eq_2] at h
    refine at_iload_n (j := 2) C dMM_line_102 rfl rfl ?_
    refine at_if_eq C dMM_line_103 rfl (fun hc => ?_) (fun hc => ?_)
    · replace h := ifp hc h
      cases h
      refine at_loc (L' := [(0, .ref (ad G 40))]) [0] rfl ?_
      exact k1 _ rfl
    · replace h := ifn hc h
      refine at_aload_n (j := 0) C dMM_line_106 rfl rfl ?_
      obtain ⟨e3, he3, h⟩ := ob_some h
      refine at_callVv C kMM_157 (cMM_nextToken C.2.2.2.2.2.2.1 _ he3) (by omega) rfl rfl rfl rfl (Nat.le_of_ble_eq_true rfl) dMM_line_107 ?_
      refine at_aload_n (j := 0) C dMM_line_110 rfl rfl ?_
      refine at_iload_n (j := 1) C dMM_line_111 rfl rfl ?_
      obtain ⟨e4, he4, h⟩ := ob_some h
      refine at_callVi C kMM_169 (cMM_part C.2.2.2.2.2.2.1 _ _ he4) (by omega) rfl rfl rfl rfl (Nat.le_of_ble_eq_true rfl) dMM_line_112 ?_
      refine at_istore_n (L' := [(3, .int e4.1), (0, .ref (ad G 40)), (1, .int a1), (2, .int a2)]) C dMM_line_115 rfl (by decide) rfl ?_
      refine at_iload_n (j := 0) C dMM_line_116 rfl rfl ?_
      refine at_if_eq C dMM_line_117 rfl (fun hc => ?_) (fun hc => ?_)
      · replace h := ifp hc h
        refine at_aload_n (j := 1) C dMM_line_122 rfl rfl ?_
        refine gfMM_token (x := e4.2.2.2.2.1) C rfl dMM_line_123 ?_
        refine at_iconst C dMM_line_126 ci_3 ?_
        refine at_icmp_ne C dMM_line_127 rfl (fun hc => ?_) (fun hc => ?_)
        · replace h := ifn hc h
          refine at_iconst C dMM_line_134 ci_0 ?_
          refine at_istore_n (L' := [(2, .int (0 : Int32)), (3, .int e4.1), (0, .ref (ad G 40)), (1, .int a1)]) C dMM_line_135 rfl (by decide) rfl ?_
          refine at_goto C dMM_line_136 rfl ?_
          refine at_loc (L' := [(0, .ref (ad G 40)), (1, .int a1), (2, .int (0 : Int32))]) [2, 3, 0] rfl ?_
          exact ih _ _ _ _ _ _ _ _ h k0 k1
        · replace h := ifp hc h
          refine at_iconst C dMM_line_130 ci_1 ?_
          refine at_goto C dMM_line_131 rfl ?_
          refine at_istore_n (L' := [(2, .int (1 : Int32)), (3, .int e4.1), (0, .ref (ad G 40)), (1, .int a1)]) C dMM_line_135 rfl (by decide) rfl ?_
          refine at_goto C dMM_line_136 rfl ?_
          refine at_loc (L' := [(0, .ref (ad G 40)), (1, .int a1), (2, .int (1 : Int32))]) [2, 3, 0] rfl ?_
          exact ih _ _ _ _ _ _ _ _ h k0 k1
      · replace h := ifn hc h
        cases h
        refine at_loc (L' := [(3, .int e4.1)]) [0] rfl ?_
        exact k0 _ rfl
set_option maxRecDepth 100000 in
set_option maxHeartbeats 4000000 in
theorem cMM_line {l : Launch} {G : GG} (hG : GOK G) {c_MM_told : (Nat → Int32)} {c_MM_tape : (Nat → Int32)} {c_MM_taped : Int32} {c_MM_at : Int32} {c_MM_place : Int32} {c_MM_token : Int32} {c_MM_number : Int32} {c_MM_lines : Int32} {c_MM_towns : Int32} {c_MM_goods : Int32} {z1 : Z1} {z21111 : Z21111} {z2111211 : Int32} {z211122 : (Nat → Int32)} {z2112 : Z2112} {z2121 : Z2121} {z21221 : Z21221} {z212221 : Z212221} {z2211112 : Int32} {z221112 : Int32} {z2212212 : Int32} {z221222 : (Nat → Int32)} {z222 : Z222} (R : (Int32 × (Nat → Int32) × Int32 × Int32 × Int32 × Int32 × Int32 × Int32 × Int32)) (h : fMM_line c_MM_told c_MM_tape c_MM_taped c_MM_at c_MM_place c_MM_token c_MM_number c_MM_lines c_MM_towns c_MM_goods = some R) : Met l yMM_line (.code yMM_line prog_12_method_19_code 4 (some .int) :: gw) (rmm 5) (PcW G [.ref (ad G 40)] (z1, ((((z21111, ((z2111211, c_MM_told), z211122)), z2112), (z2121, (z21221, (z212221, c_MM_tape)))), (((((c_MM_taped, z2211112), z221112), ((c_MM_at, c_MM_place), c_MM_token)), (((c_MM_number, c_MM_lines), c_MM_towns), ((c_MM_goods, z2212212), z221222))), z222)))) (Qw G (some (.int R.1)) (z1, ((((z21111, ((z2111211, R.2.1), z211122)), z2112), (z2121, (z21221, (z212221, c_MM_tape)))), (((((c_MM_taped, z2211112), z221112), ((R.2.2.1, R.2.2.2.1), R.2.2.2.2.1)), (((R.2.2.2.2.2.1, R.2.2.2.2.2.2.1), R.2.2.2.2.2.2.2.1), ((R.2.2.2.2.2.2.2.2, z2212212), z221222))), z222)))) 0 0 (Aw G) := by
  refine met_of (by decide) 5 G hG _ _ (Nat.le_of_ble_eq_true rfl) _ _ (fun X _ C => ?_)
  have C : Cx G X RcMM prog_12_method_19_code 4 5 (some .int) := C
  unfold fMM_line at h
  show At G X 4 _ 0 [(0, .ref (ad G 40))] [] (z1, ((((z21111, ((z2111211, c_MM_told), z211122)), z2112), (z2121, (z21221, (z212221, c_MM_tape)))), (((((c_MM_taped, z2211112), z221112), ((c_MM_at, c_MM_place), c_MM_token)), (((c_MM_number, c_MM_lines), c_MM_towns), ((c_MM_goods, z2212212), z221222))), z222)))
  refine at_aload_n (j := 0) C dMM_line_0 rfl rfl ?_
  refine gfMM_token (x := c_MM_token) C rfl dMM_line_1 ?_
  refine at_bipush C dMM_line_4 cb_6 ?_
  refine at_icmp_eq C dMM_line_6 rfl (fun hc => ?_) (fun hc => ?_)
  · replace h := ifp hc h
    refine at_aload_n (j := 0) C dMM_line_11 rfl rfl ?_
    obtain ⟨e1, he1, h⟩ := ob_some h
    refine at_callVv C kMM_157 (cMM_nextToken C.2.2.2.2.2.2.1 _ he1) (by omega) rfl rfl rfl rfl (Nat.le_of_ble_eq_true rfl) dMM_line_12 ?_
    refine at_aload_n (j := 0) C dMM_line_15 rfl rfl ?_
    refine gfMM_token (x := e1.2.2.1) C rfl dMM_line_16 ?_
    refine at_iconst C dMM_line_19 ci_1 ?_
    refine at_icmp_eq C dMM_line_20 rfl (fun hc => ?_) (fun hc => ?_)
    · replace h := ifp hc h
      refine at_aload_n (j := 0) C dMM_line_25 rfl rfl ?_
      refine gfMM_number (x := e1.2.2.2) C rfl dMM_line_26 ?_
      refine at_callSi C kMM_160 (cMM_isTown C.2.2.2.2.2.2.1 _ _ rfl) (by omega) rfl rfl (Nat.le_of_ble_eq_true rfl) dMM_line_29 ?_
      refine at_if_eq C dMM_line_32 rfl (fun hc => ?_) (fun hc => ?_)
      · replace h := ifp hc h
        refine at_aload_n (j := 0) C dMM_line_52 rfl rfl ?_
        refine gfMM_number (x := e1.2.2.2) C rfl dMM_line_53 ?_
        refine at_callSi C kMM_160 (cMM_isTown C.2.2.2.2.2.2.1 _ _ rfl) (by omega) rfl rfl (Nat.le_of_ble_eq_true rfl) dMM_line_56 ?_
        refine at_if_ne C dMM_line_59 rfl (fun hc => ?_) (fun hc => ?_)
        · replace h := ifn hc h
          refine at_aload_n (j := 0) C dMM_line_64 rfl rfl ?_
          refine gfMM_number (x := e1.2.2.2) C rfl dMM_line_65 ?_
          refine at_istore_n (L' := [(1, .int e1.2.2.2), (0, .ref (ad G 40))]) C dMM_line_68 rfl (by decide) rfl ?_
          refine at_aload_n (j := 1) C dMM_line_69 rfl rfl ?_
          refine at_dup C dMM_line_70 rfl ?_
          refine gfMM_towns (x := c_MM_towns) C rfl dMM_line_71 ?_
          refine at_iconst C dMM_line_74 ci_1 ?_
          refine at_iload_n (j := 0) C dMM_line_75 rfl rfl ?_
          refine at_ishl C dMM_line_76 ?_
          refine at_ior C dMM_line_77 ?_
          refine pfMM_towns C dMM_line_78 ?_
          refine at_st (S1 := (z1, ((((z21111, ((z2111211, c_MM_told), z211122)), z2112), (z2121, (z21221, (z212221, c_MM_tape)))), (((((c_MM_taped, z2211112), z221112), ((e1.1, e1.2.1), e1.2.2.1)), (((e1.2.2.2, c_MM_lines), (c_MM_towns ||| ((1 : Int32) <<< (e1.2.2.2 &&& 31)))), ((c_MM_goods, z2212212), z221222))), z222)))) rfl ?_
          refine at_aload_n (j := 1) C dMM_line_81 rfl rfl ?_
          refine at_iconst C dMM_line_82 ci_0 ?_
          refine pfMM_goods C dMM_line_83 ?_
          refine at_st (S1 := (z1, ((((z21111, ((z2111211, c_MM_told), z211122)), z2112), (z2121, (z21221, (z212221, c_MM_tape)))), (((((c_MM_taped, z2211112), z221112), ((e1.1, e1.2.1), e1.2.2.1)), (((e1.2.2.2, c_MM_lines), (c_MM_towns ||| ((1 : Int32) <<< (e1.2.2.2 &&& 31)))), (((0 : Int32), z2212212), z221222))), z222)))) rfl ?_
          refine at_aload_n (j := 1) C dMM_line_86 rfl rfl ?_
          obtain ⟨e2, he2, h⟩ := ob_some h
          refine at_callVv C kMM_157 (cMM_nextToken C.2.2.2.2.2.2.1 _ he2) (by omega) rfl rfl rfl rfl (Nat.le_of_ble_eq_true rfl) dMM_line_87 ?_
          refine at_aload_n (j := 1) C dMM_line_90 rfl rfl ?_
          refine gfMM_token (x := e2.2.2.1) C rfl dMM_line_91 ?_
          refine at_iconst C dMM_line_94 ci_4 ?_
          refine at_icmp_eq C dMM_line_95 rfl (fun hc => ?_) (fun hc => ?_)
          · replace h := ifp hc h
            refine at_iconst C dMM_line_100 ci_1 ?_
            refine at_istore_n (L' := [(2, .int (1 : Int32)), (1, .int e1.2.2.2), (0, .ref (ad G 40))]) C dMM_line_101 rfl (by decide) rfl ?_
            obtain ⟨e5, he5, h⟩ := ob_some h
            refine at_loc (L' := [(0, .ref (ad G 40)), (1, .int e1.2.2.2), (2, .int (1 : Int32))]) [2, 1, 0] rfl ?_
            rcases e5 with e6 | e7
            · simp only [Sum.elim_inl, Sum.elim_inr] at h
              refine wMM_line_l102 C _ FU _ _ _ _ _ _ _ _ he5 (fun e he => ?_) (fun e he => by cases he)
              cases he
              refine at_iload_n (j := 0) C dMM_line_120 rfl rfl ?_
              cases h
              exact at_iret C dMM_line_121
            · simp only [Sum.elim_inl, Sum.elim_inr] at h
              refine wMM_line_l102 C _ FU _ _ _ _ _ _ _ _ he5 (fun e he => by cases he) (fun e he => ?_)
              cases he
              refine at_aload_n (j := 0) C dMM_line_139 rfl rfl ?_
              refine gfMM_token (x := e7.2.2.2.1) C rfl dMM_line_140 ?_
              refine at_iconst C dMM_line_143 ci_2 ?_
              refine at_icmp_eq C dMM_line_144 rfl (fun hc => ?_) (fun hc => ?_)
              · replace h := ifp hc h
                refine at_aload_n (j := 0) C dMM_line_149 rfl rfl ?_
                refine at_dup C dMM_line_150 rfl ?_
                refine gfMM_lines (x := c_MM_lines) C rfl dMM_line_151 ?_
                refine at_iconst C dMM_line_154 ci_1 ?_
                refine at_iadd C dMM_line_155 ?_
                refine pfMM_lines C dMM_line_156 ?_
                refine at_st (S1 := (z1, ((((z21111, ((z2111211, e7.1), z211122)), z2112), (z2121, (z21221, (z212221, c_MM_tape)))), (((((c_MM_taped, z2211112), z221112), ((e7.2.1, e7.2.2.1), e7.2.2.2.1)), (((e7.2.2.2.2.1, (c_MM_lines + (1 : Int32))), (c_MM_towns ||| ((1 : Int32) <<< (e1.2.2.2 &&& 31)))), ((e7.2.2.2.2.2, z2212212), z221222))), z222)))) rfl ?_
                refine at_aload_n (j := 0) C dMM_line_159 rfl rfl ?_
                obtain ⟨e8, he8, h⟩ := ob_some h
                refine at_callVv C kMM_157 (cMM_nextToken C.2.2.2.2.2.2.1 _ he8) (by omega) rfl rfl rfl rfl (Nat.le_of_ble_eq_true rfl) dMM_line_160 ?_
                refine at_iconst C dMM_line_163 ci_0 ?_
                cases h
                exact at_iret C dMM_line_164
              · replace h := ifn hc h
                refine at_iconst C dMM_line_147 ci_1 ?_
                cases h
                exact at_iret C dMM_line_148
          · replace h := ifn hc h
            refine at_iconst C dMM_line_98 ci_1 ?_
            cases h
            exact at_iret C dMM_line_99
        · replace h := ifp hc h
          refine at_iconst C dMM_line_62 ci_3 ?_
          cases h
          exact at_iret C dMM_line_63
      · replace h := ifn hc h
        refine at_aload_n (j := 0) C dMM_line_35 rfl rfl ?_
        refine gfMM_towns (x := c_MM_towns) C rfl dMM_line_36 ?_
        refine at_aload_n (j := 0) C dMM_line_39 rfl rfl ?_
        refine gfMM_number (x := e1.2.2.2) C rfl dMM_line_40 ?_
        refine at_ishr C dMM_line_43 ?_
        refine at_iconst C dMM_line_44 ci_1 ?_
        refine at_iand C dMM_line_45 ?_
        refine at_iconst C dMM_line_46 ci_1 ?_
        refine at_icmp_ne C dMM_line_47 rfl (fun hc => ?_) (fun hc => ?_)
        · replace h := ifn hc h
          refine at_aload_n (j := 0) C dMM_line_52 rfl rfl ?_
          refine gfMM_number (x := e1.2.2.2) C rfl dMM_line_53 ?_
          refine at_callSi C kMM_160 (cMM_isTown C.2.2.2.2.2.2.1 _ _ rfl) (by omega) rfl rfl (Nat.le_of_ble_eq_true rfl) dMM_line_56 ?_
          refine at_if_ne C dMM_line_59 rfl (fun hc => ?_) (fun hc => ?_)
          · replace h := ifn hc h
            refine at_aload_n (j := 0) C dMM_line_64 rfl rfl ?_
            refine gfMM_number (x := e1.2.2.2) C rfl dMM_line_65 ?_
            refine at_istore_n (L' := [(1, .int e1.2.2.2), (0, .ref (ad G 40))]) C dMM_line_68 rfl (by decide) rfl ?_
            refine at_aload_n (j := 1) C dMM_line_69 rfl rfl ?_
            refine at_dup C dMM_line_70 rfl ?_
            refine gfMM_towns (x := c_MM_towns) C rfl dMM_line_71 ?_
            refine at_iconst C dMM_line_74 ci_1 ?_
            refine at_iload_n (j := 0) C dMM_line_75 rfl rfl ?_
            refine at_ishl C dMM_line_76 ?_
            refine at_ior C dMM_line_77 ?_
            refine pfMM_towns C dMM_line_78 ?_
            refine at_st (S1 := (z1, ((((z21111, ((z2111211, c_MM_told), z211122)), z2112), (z2121, (z21221, (z212221, c_MM_tape)))), (((((c_MM_taped, z2211112), z221112), ((e1.1, e1.2.1), e1.2.2.1)), (((e1.2.2.2, c_MM_lines), (c_MM_towns ||| ((1 : Int32) <<< (e1.2.2.2 &&& 31)))), ((c_MM_goods, z2212212), z221222))), z222)))) rfl ?_
            refine at_aload_n (j := 1) C dMM_line_81 rfl rfl ?_
            refine at_iconst C dMM_line_82 ci_0 ?_
            refine pfMM_goods C dMM_line_83 ?_
            refine at_st (S1 := (z1, ((((z21111, ((z2111211, c_MM_told), z211122)), z2112), (z2121, (z21221, (z212221, c_MM_tape)))), (((((c_MM_taped, z2211112), z221112), ((e1.1, e1.2.1), e1.2.2.1)), (((e1.2.2.2, c_MM_lines), (c_MM_towns ||| ((1 : Int32) <<< (e1.2.2.2 &&& 31)))), (((0 : Int32), z2212212), z221222))), z222)))) rfl ?_
            refine at_aload_n (j := 1) C dMM_line_86 rfl rfl ?_
            obtain ⟨e9, he9, h⟩ := ob_some h
            refine at_callVv C kMM_157 (cMM_nextToken C.2.2.2.2.2.2.1 _ he9) (by omega) rfl rfl rfl rfl (Nat.le_of_ble_eq_true rfl) dMM_line_87 ?_
            refine at_aload_n (j := 1) C dMM_line_90 rfl rfl ?_
            refine gfMM_token (x := e9.2.2.1) C rfl dMM_line_91 ?_
            refine at_iconst C dMM_line_94 ci_4 ?_
            refine at_icmp_eq C dMM_line_95 rfl (fun hc => ?_) (fun hc => ?_)
            · replace h := ifp hc h
              refine at_iconst C dMM_line_100 ci_1 ?_
              refine at_istore_n (L' := [(2, .int (1 : Int32)), (1, .int e1.2.2.2), (0, .ref (ad G 40))]) C dMM_line_101 rfl (by decide) rfl ?_
              obtain ⟨e10, he10, h⟩ := ob_some h
              refine at_loc (L' := [(0, .ref (ad G 40)), (1, .int e1.2.2.2), (2, .int (1 : Int32))]) [2, 1, 0] rfl ?_
              rcases e10 with e11 | e12
              · simp only [Sum.elim_inl, Sum.elim_inr] at h
                refine wMM_line_l102 C _ FU _ _ _ _ _ _ _ _ he10 (fun e he => ?_) (fun e he => by cases he)
                cases he
                refine at_iload_n (j := 0) C dMM_line_120 rfl rfl ?_
                cases h
                exact at_iret C dMM_line_121
              · simp only [Sum.elim_inl, Sum.elim_inr] at h
                refine wMM_line_l102 C _ FU _ _ _ _ _ _ _ _ he10 (fun e he => by cases he) (fun e he => ?_)
                cases he
                refine at_aload_n (j := 0) C dMM_line_139 rfl rfl ?_
                refine gfMM_token (x := e12.2.2.2.1) C rfl dMM_line_140 ?_
                refine at_iconst C dMM_line_143 ci_2 ?_
                refine at_icmp_eq C dMM_line_144 rfl (fun hc => ?_) (fun hc => ?_)
                · replace h := ifp hc h
                  refine at_aload_n (j := 0) C dMM_line_149 rfl rfl ?_
                  refine at_dup C dMM_line_150 rfl ?_
                  refine gfMM_lines (x := c_MM_lines) C rfl dMM_line_151 ?_
                  refine at_iconst C dMM_line_154 ci_1 ?_
                  refine at_iadd C dMM_line_155 ?_
                  refine pfMM_lines C dMM_line_156 ?_
                  refine at_st (S1 := (z1, ((((z21111, ((z2111211, e12.1), z211122)), z2112), (z2121, (z21221, (z212221, c_MM_tape)))), (((((c_MM_taped, z2211112), z221112), ((e12.2.1, e12.2.2.1), e12.2.2.2.1)), (((e12.2.2.2.2.1, (c_MM_lines + (1 : Int32))), (c_MM_towns ||| ((1 : Int32) <<< (e1.2.2.2 &&& 31)))), ((e12.2.2.2.2.2, z2212212), z221222))), z222)))) rfl ?_
                  refine at_aload_n (j := 0) C dMM_line_159 rfl rfl ?_
                  obtain ⟨e13, he13, h⟩ := ob_some h
                  refine at_callVv C kMM_157 (cMM_nextToken C.2.2.2.2.2.2.1 _ he13) (by omega) rfl rfl rfl rfl (Nat.le_of_ble_eq_true rfl) dMM_line_160 ?_
                  refine at_iconst C dMM_line_163 ci_0 ?_
                  cases h
                  exact at_iret C dMM_line_164
                · replace h := ifn hc h
                  refine at_iconst C dMM_line_147 ci_1 ?_
                  cases h
                  exact at_iret C dMM_line_148
            · replace h := ifn hc h
              refine at_iconst C dMM_line_98 ci_1 ?_
              cases h
              exact at_iret C dMM_line_99
          · replace h := ifp hc h
            refine at_iconst C dMM_line_62 ci_3 ?_
            cases h
            exact at_iret C dMM_line_63
        · replace h := ifp hc h
          refine at_iconst C dMM_line_50 ci_2 ?_
          cases h
          exact at_iret C dMM_line_51
    · replace h := ifn hc h
      refine at_iconst C dMM_line_23 ci_1 ?_
      cases h
      exact at_iret C dMM_line_24
  · replace h := ifn hc h
    refine at_iconst C dMM_line_9 ci_1 ?_
    cases h
    exact at_iret C dMM_line_10
set_option maxRecDepth 100000 in
set_option maxHeartbeats 4000000 in
theorem wMM_read_l2 {G : GG} {X : CX} {c_MM_tape : (Nat → Int32)} {c_MM_taped : Int32} {c_MM_at : Int32} {c_MM_place : Int32} {c_MM_token : Int32} {c_MM_number : Int32} {c_MM_lines : Int32} {c_MM_towns : Int32} {c_MM_goods : Int32} {z1 : Z1} {z21111 : Z21111} {z2111211 : Int32} {z211122 : (Nat → Int32)} {z2112 : Z2112} {z2121 : Z2121} {z21221 : Z21221} {z212221 : Z212221} {z2211112 : Int32} {z221112 : Int32} {z2212212 : Int32} {z221222 : (Nat → Int32)} {z222 : Z222} (C : Cx G X RcMM prog_12_method_21_code 2 6 (some .int)) {Q : State → Prop}  : ∀ (n : Nat) (a1 : Int32) (c_MM_told : (Nat → Int32)) (E : (Nat → Int32)) (h : fMM_read_l2 n a1 c_MM_told = some E) (k0 : At G X 2 Q 25 [(0, .ref (ad G 40))] [] (z1, ((((z21111, ((z2111211, E), z211122)), z2112), (z2121, (z21221, (z212221, c_MM_tape)))), (((((c_MM_taped, z2211112), z221112), ((c_MM_at, c_MM_place), c_MM_token)), (((c_MM_number, c_MM_lines), c_MM_towns), ((c_MM_goods, z2212212), z221222))), z222)))), At G X 2 Q 2 [(0, .ref (ad G 40)), (1, .int a1)] [] (z1, ((((z21111, ((z2111211, c_MM_told), z211122)), z2112), (z2121, (z21221, (z212221, c_MM_tape)))), (((((c_MM_taped, z2211112), z221112), ((c_MM_at, c_MM_place), c_MM_token)), (((c_MM_number, c_MM_lines), c_MM_towns), ((c_MM_goods, z2212212), z221222))), z222))) := by
  intro n
  induction n with
  | zero =>
    intro a1 c_MM_told E h k0
    rw [fMM_read_l2.eq_1] at h
    cases h
  | succ n ih =>
    intro a1 c_MM_told E h k0
    rw [fMM_read_l2.eq_2] at h
    refine at_iload_n (j := 1) C dMM_read_2 rfl rfl ?_
    refine at_bipush C dMM_read_3 cb_96 ?_
    refine at_icmp_ge C dMM_read_5 rfl (fun hc => ?_) (fun hc => ?_)
    · replace h := ifp hc h
      cases h
      refine at_loc (L' := [(0, .ref (ad G 40))]) [0] rfl ?_
      exact k0
    · replace h := ifn hc h
      refine at_aload_n (j := 0) C dMM_read_8 rfl rfl ?_
      refine gfMM_told C dMM_read_9 ?_
      refine at_sipush C dMM_read_12 cs_480 ?_
      refine at_iload_n (j := 1) C dMM_read_15 rfl rfl ?_
      refine at_iadd C dMM_read_16 ?_
      refine at_iconst C dMM_read_17 ci_m1 ?_
      obtain ⟨hg1, h⟩ := gd_some h
      refine svMM_told C hg1 dMM_read_18 ?_
      refine at_st (S1 := (z1, ((((z21111, ((z2111211, (upd c_MM_told (((480 : Int32) + a1)).toNatClampNeg (-1 : Int32))), z211122)), z2112), (z2121, (z21221, (z212221, c_MM_tape)))), (((((c_MM_taped, z2211112), z221112), ((c_MM_at, c_MM_place), c_MM_token)), (((c_MM_number, c_MM_lines), c_MM_towns), ((c_MM_goods, z2212212), z221222))), z222)))) rfl ?_
      refine at_iinc (j := 1) (L' := [(1, .int (a1 + (1 : Int32))), (0, .ref (ad G 40))]) C dMM_read_19 rfl ci_1 (by decide) rfl ?_
      refine at_goto C dMM_read_22 rfl ?_
      refine at_loc (L' := [(0, .ref (ad G 40)), (1, .int (a1 + (1 : Int32)))]) [1, 0] rfl ?_
      exact ih _ _ _ h k0
set_option maxRecDepth 100000 in
set_option maxHeartbeats 4000000 in
theorem wMM_read_l44 {G : GG} {X : CX} {c_MM_tape : (Nat → Int32)} {c_MM_taped : Int32} {z1 : Z1} {z21111 : Z21111} {z2111211 : Int32} {z211122 : (Nat → Int32)} {z2112 : Z2112} {z2121 : Z2121} {z21221 : Z21221} {z212221 : Z212221} {z2211112 : Int32} {z221112 : Int32} {z2212212 : Int32} {z221222 : (Nat → Int32)} {z222 : Z222} (C : Cx G X RcMM prog_12_method_21_code 2 6 (some .int)) {Q : State → Prop}  : ∀ (n : Nat) (c_MM_told : (Nat → Int32)) (c_MM_at : Int32) (c_MM_place : Int32) (c_MM_token : Int32) (c_MM_number : Int32) (c_MM_lines : Int32) (c_MM_towns : Int32) (c_MM_goods : Int32) (E : (Int32 × (Nat → Int32) × Int32 × Int32 × Int32 × Int32 × Int32 × Int32 × Int32) ⊕ ((Nat → Int32) × Int32 × Int32 × Int32 × Int32 × Int32 × Int32 × Int32)) (h : fMM_read_l44 c_MM_tape c_MM_taped n c_MM_told c_MM_at c_MM_place c_MM_token c_MM_number c_MM_lines c_MM_towns c_MM_goods = some E) (k0 : ∀ e, E = (Sum.inl e) → At G X 2 Q 60 [(1, .int e.1)] [] (z1, ((((z21111, ((z2111211, e.2.1), z211122)), z2112), (z2121, (z21221, (z212221, c_MM_tape)))), (((((c_MM_taped, z2211112), z221112), ((e.2.2.1, e.2.2.2.1), e.2.2.2.2.1)), (((e.2.2.2.2.2.1, e.2.2.2.2.2.2.1), e.2.2.2.2.2.2.2.1), ((e.2.2.2.2.2.2.2.2, z2212212), z221222))), z222)))) (k1 : ∀ e, E = (Sum.inr e) → At G X 2 Q 65 [] [] (z1, ((((z21111, ((z2111211, e.1), z211122)), z2112), (z2121, (z21221, (z212221, c_MM_tape)))), (((((c_MM_taped, z2211112), z221112), ((e.2.1, e.2.2.1), e.2.2.2.1)), (((e.2.2.2.2.1, e.2.2.2.2.2.1), e.2.2.2.2.2.2.1), ((e.2.2.2.2.2.2.2, z2212212), z221222))), z222)))), At G X 2 Q 44 [(0, .ref (ad G 40))] [] (z1, ((((z21111, ((z2111211, c_MM_told), z211122)), z2112), (z2121, (z21221, (z212221, c_MM_tape)))), (((((c_MM_taped, z2211112), z221112), ((c_MM_at, c_MM_place), c_MM_token)), (((c_MM_number, c_MM_lines), c_MM_towns), ((c_MM_goods, z2212212), z221222))), z222))) := by
  intro n
  induction n with
  | zero =>
    intro c_MM_told c_MM_at c_MM_place c_MM_token c_MM_number c_MM_lines c_MM_towns c_MM_goods E h k0 k1
    rw [fMM_read_l44.eq_1] at h
    cases h
  | succ n ih =>
    intro c_MM_told c_MM_at c_MM_place c_MM_token c_MM_number c_MM_lines c_MM_towns c_MM_goods E h k0 k1
    rw [fMM_read_l44.eq_2] at h
    refine at_aload_n (j := 0) C dMM_read_44 rfl rfl ?_
    refine gfMM_token (x := c_MM_token) C rfl dMM_read_45 ?_
    refine at_if_eq C dMM_read_48 rfl (fun hc => ?_) (fun hc => ?_)
    · replace h := ifp hc h
      cases h
      refine at_loc (L' := []) [] rfl ?_
      exact k1 _ rfl
    · replace h := ifn hc h
      refine at_aload_n (j := 0) C dMM_read_51 rfl rfl ?_
      obtain ⟨e4, he4, h⟩ := ob_some h
      refine at_callVi C kMM_175 (cMM_line C.2.2.2.2.2.2.1 _ he4) (by omega) rfl rfl rfl rfl (Nat.le_of_ble_eq_true rfl) dMM_read_52 ?_
      refine at_istore_n (L' := [(1, .int e4.1), (0, .ref (ad G 40))]) C dMM_read_55 rfl (by decide) rfl ?_
      refine at_iload_n (j := 0) C dMM_read_56 rfl rfl ?_
      refine at_if_eq C dMM_read_57 rfl (fun hc => ?_) (fun hc => ?_)
      · replace h := ifp hc h
        refine at_goto C dMM_read_62 rfl ?_
        refine at_loc (L' := [(0, .ref (ad G 40))]) [1] rfl ?_
        exact ih _ _ _ _ _ _ _ _ _ h k0 k1
      · replace h := ifn hc h
        cases h
        refine at_loc (L' := [(1, .int e4.1)]) [0] rfl ?_
        exact k0 _ rfl
set_option maxRecDepth 100000 in
set_option maxHeartbeats 4000000 in
theorem cMM_read {l : Launch} {G : GG} (hG : GOK G) {c_MM_told : (Nat → Int32)} {c_MM_tape : (Nat → Int32)} {c_MM_taped : Int32} {c_MM_at : Int32} {c_MM_place : Int32} {c_MM_token : Int32} {c_MM_number : Int32} {c_MM_lines : Int32} {c_MM_towns : Int32} {c_MM_goods : Int32} {z1 : Z1} {z21111 : Z21111} {z2111211 : Int32} {z211122 : (Nat → Int32)} {z2112 : Z2112} {z2121 : Z2121} {z21221 : Z21221} {z212221 : Z212221} {z2211112 : Int32} {z221112 : Int32} {z2212212 : Int32} {z221222 : (Nat → Int32)} {z222 : Z222} (R : (Int32 × (Nat → Int32) × Int32 × Int32 × Int32 × Int32 × Int32 × Int32 × Int32)) (h : fMM_read c_MM_told c_MM_tape c_MM_taped c_MM_at c_MM_place c_MM_token c_MM_number c_MM_lines c_MM_towns c_MM_goods = some R) : Met l yMM_read (.code yMM_read prog_12_method_21_code 2 (some .int) :: gw) (rmm 6) (PcW G [.ref (ad G 40)] (z1, ((((z21111, ((z2111211, c_MM_told), z211122)), z2112), (z2121, (z21221, (z212221, c_MM_tape)))), (((((c_MM_taped, z2211112), z221112), ((c_MM_at, c_MM_place), c_MM_token)), (((c_MM_number, c_MM_lines), c_MM_towns), ((c_MM_goods, z2212212), z221222))), z222)))) (Qw G (some (.int R.1)) (z1, ((((z21111, ((z2111211, R.2.1), z211122)), z2112), (z2121, (z21221, (z212221, c_MM_tape)))), (((((c_MM_taped, z2211112), z221112), ((R.2.2.1, R.2.2.2.1), R.2.2.2.2.1)), (((R.2.2.2.2.2.1, R.2.2.2.2.2.2.1), R.2.2.2.2.2.2.2.1), ((R.2.2.2.2.2.2.2.2, z2212212), z221222))), z222)))) 0 0 (Aw G) := by
  refine met_of (by decide) 6 G hG _ _ (Nat.le_of_ble_eq_true rfl) _ _ (fun X _ C => ?_)
  have C : Cx G X RcMM prog_12_method_21_code 2 6 (some .int) := C
  unfold fMM_read at h
  show At G X 2 _ 0 [(0, .ref (ad G 40))] [] (z1, ((((z21111, ((z2111211, c_MM_told), z211122)), z2112), (z2121, (z21221, (z212221, c_MM_tape)))), (((((c_MM_taped, z2211112), z221112), ((c_MM_at, c_MM_place), c_MM_token)), (((c_MM_number, c_MM_lines), c_MM_towns), ((c_MM_goods, z2212212), z221222))), z222)))
  refine at_iconst C dMM_read_0 ci_0 ?_
  refine at_istore_n (L' := [(1, .int (0 : Int32)), (0, .ref (ad G 40))]) C dMM_read_1 rfl (by decide) rfl ?_
  obtain ⟨e2, he2, h⟩ := ob_some h
  refine at_loc (L' := [(0, .ref (ad G 40)), (1, .int (0 : Int32))]) [1, 0] rfl ?_
  refine wMM_read_l2 C FU _ _ _ he2 ?_
  refine at_aload_n (j := 0) C dMM_read_25 rfl rfl ?_
  refine at_iconst C dMM_read_26 ci_0 ?_
  refine pfMM_towns C dMM_read_27 ?_
  refine at_st (S1 := (z1, ((((z21111, ((z2111211, e2), z211122)), z2112), (z2121, (z21221, (z212221, c_MM_tape)))), (((((c_MM_taped, z2211112), z221112), ((c_MM_at, c_MM_place), c_MM_token)), (((c_MM_number, c_MM_lines), (0 : Int32)), ((c_MM_goods, z2212212), z221222))), z222)))) rfl ?_
  refine at_aload_n (j := 0) C dMM_read_30 rfl rfl ?_
  refine at_iconst C dMM_read_31 ci_0 ?_
  refine pfMM_lines C dMM_read_32 ?_
  refine at_st (S1 := (z1, ((((z21111, ((z2111211, e2), z211122)), z2112), (z2121, (z21221, (z212221, c_MM_tape)))), (((((c_MM_taped, z2211112), z221112), ((c_MM_at, c_MM_place), c_MM_token)), (((c_MM_number, (0 : Int32)), (0 : Int32)), ((c_MM_goods, z2212212), z221222))), z222)))) rfl ?_
  refine at_aload_n (j := 0) C dMM_read_35 rfl rfl ?_
  refine at_iconst C dMM_read_36 ci_0 ?_
  refine pfMM_at C dMM_read_37 ?_
  refine at_st (S1 := (z1, ((((z21111, ((z2111211, e2), z211122)), z2112), (z2121, (z21221, (z212221, c_MM_tape)))), (((((c_MM_taped, z2211112), z221112), (((0 : Int32), c_MM_place), c_MM_token)), (((c_MM_number, (0 : Int32)), (0 : Int32)), ((c_MM_goods, z2212212), z221222))), z222)))) rfl ?_
  refine at_aload_n (j := 0) C dMM_read_40 rfl rfl ?_
  obtain ⟨e3, he3, h⟩ := ob_some h
  refine at_callVv C kMM_157 (cMM_nextToken C.2.2.2.2.2.2.1 _ he3) (by omega) rfl rfl rfl rfl (Nat.le_of_ble_eq_true rfl) dMM_read_41 ?_
  obtain ⟨e5, he5, h⟩ := ob_some h
  rcases e5 with e6 | e7
  · simp only [Sum.elim_inl, Sum.elim_inr] at h
    refine wMM_read_l44 C FU _ _ _ _ _ _ _ _ _ he5 (fun e he => ?_) (fun e he => by cases he)
    cases he
    refine at_iload_n (j := 0) C dMM_read_60 rfl rfl ?_
    cases h
    exact at_iret C dMM_read_61
  · simp only [Sum.elim_inl, Sum.elim_inr] at h
    refine wMM_read_l44 C FU _ _ _ _ _ _ _ _ _ he5 (fun e he => by cases he) (fun e he => ?_)
    cases he
    refine at_iconst C dMM_read_65 ci_0 ?_
    cases h
    exact at_iret C dMM_read_66
