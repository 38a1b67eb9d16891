set_option maxRecDepth 100000 in
set_option maxHeartbeats 4000000 in
theorem wLi_takeDigits_l5 {G : GG} {X : CX} {c_Ta_bytes : (Nat → Int32)} {c_Ta_size : Int32} {c_Li_tokenKind : Int32} {z11111 : Z11111} {z111121 : Z111121} {z1112112 : (Nat → Int32)} {z111212 : (Nat → Int32)} {z1112212 : Int32} {z1121112 : Int32} {z112112 : Int32} {z11212 : Z11212} {z1122 : Z1122} {z12 : Z12} {z2 : Z2} (C : Cx G X RcLi prog_4_method_10_code 2 3 none) {Q : State → Prop}  : ∀ (n : Nat) (c_Li_cursor : Int32) (c_Li_number : Int32) (E : (Int32 × Int32)) (h : fLi_takeDigits_l5 c_Ta_bytes c_Ta_size n c_Li_cursor c_Li_number = some E) (k0 : At G X 2 Q 71 [(0, .ref (ad G 4))] [] (((((z11111, (z111121, c_Ta_bytes)), (((c_Ta_size, z1112112), z111212), ((E.1, z1112212), c_Li_tokenKind))), ((((E.2, z1121112), z112112), z11212), z1122)), z12), z2)), At G X 2 Q 5 [(0, .ref (ad G 4)), (1, .ref (ad G 3))] [] (((((z11111, (z111121, c_Ta_bytes)), (((c_Ta_size, z1112112), z111212), ((c_Li_cursor, z1112212), c_Li_tokenKind))), ((((c_Li_number, z1121112), z112112), z11212), z1122)), z12), z2) := by
  intro n
  induction n with
  | zero =>
    intro c_Li_cursor c_Li_number E h k0
    rw [fLi_takeDigits_l5.eq_1] at h
    cases h
  | succ n ih =>
    intro c_Li_cursor c_Li_number E h k0
    rw [fLi_takeDigits_l5.eq_2] at h
    refine at_aload_n (j := 0) C dLi_takeDigits_5 rfl rfl ?_
    refine gfLi_cursor (x := c_Li_cursor) C rfl dLi_takeDigits_6 ?_
    refine at_aload_n (j := 1) C dLi_takeDigits_9 rfl rfl ?_
    refine at_callVi C kLi_63 (cTa_size C.2.2.2.2.2.2.1 _ rfl) (by omega) rfl rfl rfl rfl (Nat.le_of_ble_eq_true rfl) dLi_takeDigits_10 ?_
    refine at_icmp_ge C dLi_takeDigits_13 rfl (fun hc => ?_) (fun hc => ?_)
    · replace h := ifp hc h
      cases h
      refine at_loc (L' := [(0, .ref (ad G 4))]) [0] rfl ?_
      exact k0
    · replace h := ifn hc h
      refine at_aload_n (j := 1) C dLi_takeDigits_16 rfl rfl ?_
      refine at_aload_n (j := 0) C dLi_takeDigits_17 rfl rfl ?_
      refine gfLi_cursor (x := c_Li_cursor) C rfl dLi_takeDigits_18 ?_
      obtain ⟨e1, he1, h⟩ := ob_some h
      refine at_callVi C kLi_66 (cTa_at C.2.2.2.2.2.2.1 _ _ he1) (by omega) rfl rfl rfl rfl (Nat.le_of_ble_eq_true rfl) dLi_takeDigits_21 ?_
      refine at_callSi C kLi_80 (cLi_isDigit C.2.2.2.2.2.2.1 _ _ rfl) (by omega) rfl rfl (Nat.le_of_ble_eq_true rfl) dLi_takeDigits_24 ?_
      refine at_if_eq C dLi_takeDigits_27 rfl (fun hc => ?_) (fun hc => ?_)
      · replace h := ifp hc h
        cases h
        refine at_loc (L' := [(0, .ref (ad G 4))]) [0] rfl ?_
        exact k0
      · replace h := ifn hc h
        refine at_aload_n (j := 0) C dLi_takeDigits_30 rfl rfl ?_
        refine at_ldc C qLi_103 dLi_takeDigits_31 ?_
        refine at_aload_n (j := 0) C dLi_takeDigits_33 rfl rfl ?_
        refine gfLi_number (x := c_Li_number) C rfl dLi_takeDigits_34 ?_
        refine at_bipush C dLi_takeDigits_37 cb_10 ?_
        refine at_imul C dLi_takeDigits_39 ?_
        refine at_aload_n (j := 1) C dLi_takeDigits_40 rfl rfl ?_
        refine at_aload_n (j := 0) C dLi_takeDigits_41 rfl rfl ?_
        refine gfLi_cursor (x := c_Li_cursor) C rfl dLi_takeDigits_42 ?_
        obtain ⟨e2, he2, h⟩ := ob_some h
        refine at_callVi C kLi_66 (cTa_at C.2.2.2.2.2.2.1 _ _ he2) (by omega) rfl rfl rfl rfl (Nat.le_of_ble_eq_true rfl) dLi_takeDigits_45 ?_
        refine at_bipush C dLi_takeDigits_48 cb_48 ?_
        refine at_isub C dLi_takeDigits_50 ?_
        refine at_iadd C dLi_takeDigits_51 ?_
        refine at_mmin C jLi_104 (by omega) (Nat.le_of_ble_eq_true rfl) dLi_takeDigits_52 ?_
        refine pfLi_number C dLi_takeDigits_55 ?_
        refine at_st (S1 := (((((z11111, (z111121, c_Ta_bytes)), (((c_Ta_size, z1112112), z111212), ((c_Li_cursor, z1112212), c_Li_tokenKind))), (((((if ((c_Li_number * (10 : Int32)) + (e2 - (48 : Int32))) < (100000 : Int32) then ((c_Li_number * (10 : Int32)) + (e2 - (48 : Int32))) else (100000 : Int32)), z1121112), z112112), z11212), z1122)), z12), z2)) rfl ?_
        refine at_aload_n (j := 0) C dLi_takeDigits_58 rfl rfl ?_
        refine at_dup C dLi_takeDigits_59 rfl ?_
        refine gfLi_cursor (x := c_Li_cursor) C rfl dLi_takeDigits_60 ?_
        refine at_iconst C dLi_takeDigits_63 ci_1 ?_
        refine at_iadd C dLi_takeDigits_64 ?_
        refine pfLi_cursor C dLi_takeDigits_65 ?_
        refine at_st (S1 := (((((z11111, (z111121, c_Ta_bytes)), (((c_Ta_size, z1112112), z111212), (((c_Li_cursor + (1 : Int32)), z1112212), c_Li_tokenKind))), (((((if ((c_Li_number * (10 : Int32)) + (e2 - (48 : Int32))) < (100000 : Int32) then ((c_Li_number * (10 : Int32)) + (e2 - (48 : Int32))) else (100000 : Int32)), z1121112), z112112), z11212), z1122)), z12), z2)) rfl ?_
        refine at_goto C dLi_takeDigits_68 rfl ?_
        exact ih _ _ _ h k0
set_option maxRecDepth 100000 in
set_option maxHeartbeats 4000000 in
theorem cLi_takeDigits {l : Launch} {G : GG} (hG : GOK G) {c_Ta_bytes : (Nat → Int32)} {c_Ta_size : Int32} {c_Li_cursor : Int32} {c_Li_tokenKind : Int32} {c_Li_number : Int32} {z11111 : Z11111} {z111121 : Z111121} {z1112112 : (Nat → Int32)} {z111212 : (Nat → Int32)} {z1112212 : Int32} {z1121112 : Int32} {z112112 : Int32} {z11212 : Z11212} {z1122 : Z1122} {z12 : Z12} {z2 : Z2} (R : (Int32 × Int32 × Int32)) (h : fLi_takeDigits c_Ta_bytes c_Ta_size c_Li_cursor c_Li_tokenKind c_Li_number = some R) : Met l yLi_takeDigits (.code yLi_takeDigits prog_4_method_10_code 2 none :: gw) (rmm 3) (PcW G [.ref (ad G 4), .ref (ad G 3)] (((((z11111, (z111121, c_Ta_bytes)), (((c_Ta_size, z1112112), z111212), ((c_Li_cursor, z1112212), c_Li_tokenKind))), ((((c_Li_number, z1121112), z112112), z11212), z1122)), z12), z2)) (Qw G (none) (((((z11111, (z111121, c_Ta_bytes)), (((c_Ta_size, z1112112), z111212), ((R.1, z1112212), R.2.1))), ((((R.2.2, z1121112), z112112), z11212), z1122)), z12), z2)) 0 0 (Aw G) := by
  refine met_of (by decide) 3 G hG _ _ (Nat.le_of_ble_eq_true rfl) _ _ (fun X _ C => ?_)
  have C : Cx G X RcLi prog_4_method_10_code 2 3 none := C
  unfold fLi_takeDigits at h
  show At G X 2 _ 0 [(0, .ref (ad G 4)), (1, .ref (ad G 3))] [] (((((z11111, (z111121, c_Ta_bytes)), (((c_Ta_size, z1112112), z111212), ((c_Li_cursor, z1112212), c_Li_tokenKind))), ((((c_Li_number, z1121112), z112112), z11212), z1122)), z12), z2)
  refine at_aload_n (j := 0) C dLi_takeDigits_0 rfl rfl ?_
  refine at_iconst C dLi_takeDigits_1 ci_0 ?_
  refine pfLi_number C dLi_takeDigits_2 ?_
  refine at_st (S1 := (((((z11111, (z111121, c_Ta_bytes)), (((c_Ta_size, z1112112), z111212), ((c_Li_cursor, z1112212), c_Li_tokenKind))), (((((0 : Int32), z1121112), z112112), z11212), z1122)), z12), z2)) rfl ?_
  obtain ⟨e3, he3, h⟩ := ob_some h
  refine wLi_takeDigits_l5 C FU _ _ _ he3 ?_
  refine at_aload_n (j := 0) C dLi_takeDigits_71 rfl rfl ?_
  refine at_bipush C dLi_takeDigits_72 cb_m3 ?_
  refine pfLi_tokenKind C dLi_takeDigits_74 ?_
  refine at_st (S1 := (((((z11111, (z111121, c_Ta_bytes)), (((c_Ta_size, z1112112), z111212), ((e3.1, z1112212), (-3 : Int32)))), ((((e3.2, z1121112), z112112), z11212), z1122)), z12), z2)) rfl ?_
  cases h
  exact at_vret C dLi_takeDigits_77
set_option maxRecDepth 100000 in
set_option maxHeartbeats 4000000 in
theorem cLi_isSign {l : Launch} {G : GG} (hG : GOK G) {z : ST} (a0 : Int32) (R : Int32) (h : fLi_isSign a0 = R) : Met l yLi_isSign (.code yLi_isSign prog_4_method_21_code 1 (some .boolean) :: gw) (rmm 1) (PcW G [.int a0] z) (Qw G (some (.int R)) z) 0 0 (Aw G) := by
  refine met_of (by decide) 1 G hG _ _ (Nat.le_of_ble_eq_true rfl) _ _ (fun X _ C => ?_)
  have C : Cx G X RcLi prog_4_method_21_code 1 1 (some .boolean) := C
  unfold fLi_isSign at h
  show At G X 1 _ 0 [(0, .int a0)] [] z
  refine at_iload_n (j := 0) C dLi_isSign_0 rfl rfl ?_
  refine at_bipush C dLi_isSign_1 cb_59 ?_
  refine at_icmp_eq C dLi_isSign_3 rfl (fun hc => ?_) (fun hc => ?_)
  · replace h := ifp hc h
    refine at_iconst C dLi_isSign_18 ci_1 ?_
    refine at_goto C dLi_isSign_19 rfl ?_
    subst h
    exact at_zret (x := (1 : Int32)) C zn_1 dLi_isSign_23
  · replace h := ifn hc h
    refine at_iload_n (j := 0) C dLi_isSign_6 rfl rfl ?_
    refine at_bipush C dLi_isSign_7 cb_44 ?_
    refine at_icmp_eq C dLi_isSign_9 rfl (fun hc => ?_) (fun hc => ?_)
    · replace h := ifp hc h
      refine at_iconst C dLi_isSign_18 ci_1 ?_
      refine at_goto C dLi_isSign_19 rfl ?_
      subst h
      exact at_zret (x := (1 : Int32)) C zn_1 dLi_isSign_23
    · replace h := ifn hc h
      refine at_iload_n (j := 0) C dLi_isSign_12 rfl rfl ?_
      refine at_bipush C dLi_isSign_13 cb_58 ?_
      refine at_icmp_ne C dLi_isSign_15 rfl (fun hc => ?_) (fun hc => ?_)
      · replace h := ifn hc h
        refine at_iconst C dLi_isSign_22 ci_0 ?_
        subst h
        exact at_zret (x := (0 : Int32)) C zn_0 dLi_isSign_23
      · replace h := ifp hc h
        refine at_iconst C dLi_isSign_18 ci_1 ?_
        refine at_goto C dLi_isSign_19 rfl ?_
        subst h
        exact at_zret (x := (1 : Int32)) C zn_1 dLi_isSign_23
set_option maxRecDepth 100000 in
set_option maxHeartbeats 4000000 in
theorem wLi_nextToken_l0 {G : GG} {X : CX} {c_Ta_bytes : (Nat → Int32)} {c_Ta_size : Int32} {c_Li_tokenStart : Int32} {c_Li_tokenKind : Int32} {c_Li_number : Int32} {z11111 : Z11111} {z111121 : Z111121} {z1112112 : (Nat → Int32)} {z111212 : (Nat → Int32)} {z1121112 : Int32} {z112112 : Int32} {z11212 : Z11212} {z1122 : Z1122} {z12 : Z12} {z2 : Z2} (C : Cx G X RcLi prog_4_method_8_code 3 6 none) {Q : State → Prop}  : ∀ (n : Nat) (c_Li_cursor : Int32) (E : Int32) (h : fLi_nextToken_l0 c_Ta_bytes c_Ta_size n c_Li_cursor = some E) (k0 : At G X 3 Q 38 [(0, .ref (ad G 4)), (1, .ref (ad G 3))] [] (((((z11111, (z111121, c_Ta_bytes)), (((c_Ta_size, z1112112), z111212), ((E, c_Li_tokenStart), c_Li_tokenKind))), ((((c_Li_number, z1121112), z112112), z11212), z1122)), z12), z2)), At G X 3 Q 0 [(0, .ref (ad G 4)), (1, .ref (ad G 3))] [] (((((z11111, (z111121, c_Ta_bytes)), (((c_Ta_size, z1112112), z111212), ((c_Li_cursor, c_Li_tokenStart), c_Li_tokenKind))), ((((c_Li_number, z1121112), z112112), z11212), z1122)), z12), z2) := by
  intro n
  induction n with
  | zero =>
    intro c_Li_cursor E h k0
    rw [fLi_nextToken_l0.eq_1] at h
    cases h
  | succ n ih =>
    intro c_Li_cursor E h k0
    rw [fLi_nextToken_l0.eq_2] at h
    refine at_aload_n (j := 0) C dLi_nextToken_0 rfl rfl ?_
    refine gfLi_cursor (x := c_Li_cursor) C rfl dLi_nextToken_1 ?_
    refine at_aload_n (j := 1) C dLi_nextToken_4 rfl rfl ?_
    refine at_callVi C kLi_63 (cTa_size C.2.2.2.2.2.2.1 _ rfl) (by omega) rfl rfl rfl rfl (Nat.le_of_ble_eq_true rfl) dLi_nextToken_5 ?_
    refine at_icmp_ge C dLi_nextToken_8 rfl (fun hc => ?_) (fun hc => ?_)
    · replace h := ifp hc h
      cases h
      exact k0
    · replace h := ifn hc h
      refine at_aload_n (j := 1) C dLi_nextToken_11 rfl rfl ?_
      refine at_aload_n (j := 0) C dLi_nextToken_12 rfl rfl ?_
      refine gfLi_cursor (x := c_Li_cursor) C rfl dLi_nextToken_13 ?_
      obtain ⟨e1, he1, h⟩ := ob_some h
      refine at_callVi C kLi_66 (cTa_at C.2.2.2.2.2.2.1 _ _ he1) (by omega) rfl rfl rfl rfl (Nat.le_of_ble_eq_true rfl) dLi_nextToken_16 ?_
      refine at_callSi C kLi_70 (cLi_isBlank C.2.2.2.2.2.2.1 _ _ rfl) (by omega) rfl rfl (Nat.le_of_ble_eq_true rfl) dLi_nextToken_19 ?_
      refine at_if_eq C dLi_nextToken_22 rfl (fun hc => ?_) (fun hc => ?_)
      · replace h := ifp hc h
        cases h
        exact k0
      · replace h := ifn hc h
        refine at_aload_n (j := 0) C dLi_nextToken_25 rfl rfl ?_
        refine at_dup C dLi_nextToken_26 rfl ?_
        refine gfLi_cursor (x := c_Li_cursor) C rfl dLi_nextToken_27 ?_
        refine at_iconst C dLi_nextToken_30 ci_1 ?_
        refine at_iadd C dLi_nextToken_31 ?_
        refine pfLi_cursor C dLi_nextToken_32 ?_
        refine at_st (S1 := (((((z11111, (z111121, c_Ta_bytes)), (((c_Ta_size, z1112112), z111212), (((c_Li_cursor + (1 : Int32)), c_Li_tokenStart), c_Li_tokenKind))), ((((c_Li_number, z1121112), z112112), z11212), z1122)), z12), z2)) rfl ?_
        refine at_goto C dLi_nextToken_35 rfl ?_
        exact ih _ _ h k0
set_option maxRecDepth 100000 in
set_option maxHeartbeats 4000000 in
theorem cLi_nextToken {l : Launch} {G : GG} (hG : GOK G) {c_Ta_bytes : (Nat → Int32)} {c_Ta_size : Int32} {c_Li_cursor : Int32} {c_Li_tokenStart : Int32} {c_Li_tokenKind : Int32} {c_Li_number : Int32} {z11111 : Z11111} {z111121 : Z111121} {z1112112 : (Nat → Int32)} {z111212 : (Nat → Int32)} {z1121112 : Int32} {z112112 : Int32} {z11212 : Z11212} {z1122 : Z1122} {z12 : Z12} {z2 : Z2} (R : (Int32 × Int32 × Int32 × Int32)) (h : fLi_nextToken c_Ta_bytes c_Ta_size c_Li_cursor c_Li_tokenStart c_Li_tokenKind c_Li_number = some R) : Met l yLi_nextToken (.code yLi_nextToken prog_4_method_8_code 3 none :: gw) (rmm 6) (PcW G [.ref (ad G 4), .ref (ad G 3)] (((((z11111, (z111121, c_Ta_bytes)), (((c_Ta_size, z1112112), z111212), ((c_Li_cursor, c_Li_tokenStart), c_Li_tokenKind))), ((((c_Li_number, z1121112), z112112), z11212), z1122)), z12), z2)) (Qw G (none) (((((z11111, (z111121, c_Ta_bytes)), (((c_Ta_size, z1112112), z111212), ((R.1, R.2.1), R.2.2.1))), ((((R.2.2.2, z1121112), z112112), z11212), z1122)), z12), z2)) 0 0 (Aw G) := by
  refine met_of (by decide) 6 G hG _ _ (Nat.le_of_ble_eq_true rfl) _ _ (fun X _ C => ?_)
  have C : Cx G X RcLi prog_4_method_8_code 3 6 none := C
  unfold fLi_nextToken at h
  show At G X 3 _ 0 [(0, .ref (ad G 4)), (1, .ref (ad G 3))] [] (((((z11111, (z111121, c_Ta_bytes)), (((c_Ta_size, z1112112), z111212), ((c_Li_cursor, c_Li_tokenStart), c_Li_tokenKind))), ((((c_Li_number, z1121112), z112112), z11212), z1122)), z12), z2)
  obtain ⟨e2, he2, h⟩ := ob_some h
  refine wLi_nextToken_l0 C FU _ _ he2 ?_
  refine at_aload_n (j := 0) C dLi_nextToken_38 rfl rfl ?_
  refine at_aload_n (j := 0) C dLi_nextToken_39 rfl rfl ?_
  refine gfLi_cursor (x := e2) C rfl dLi_nextToken_40 ?_
  refine pfLi_tokenStart C dLi_nextToken_43 ?_
  refine at_st (S1 := (((((z11111, (z111121, c_Ta_bytes)), (((c_Ta_size, z1112112), z111212), ((e2, e2), c_Li_tokenKind))), ((((c_Li_number, z1121112), z112112), z11212), z1122)), z12), z2)) rfl ?_
  refine at_aload_n (j := 0) C dLi_nextToken_46 rfl rfl ?_
  refine gfLi_cursor (x := e2) C rfl dLi_nextToken_47 ?_
  refine at_aload_n (j := 1) C dLi_nextToken_50 rfl rfl ?_
  refine at_callVi C kLi_63 (cTa_size C.2.2.2.2.2.2.1 _ rfl) (by omega) rfl rfl rfl rfl (Nat.le_of_ble_eq_true rfl) dLi_nextToken_51 ?_
  refine at_icmp_lt C dLi_nextToken_54 rfl (fun hc => ?_) (fun hc => ?_)
  · replace h := ifp hc h
    refine at_aload_n (j := 1) C dLi_nextToken_63 rfl rfl ?_
    refine at_aload_n (j := 0) C dLi_nextToken_64 rfl rfl ?_
    refine gfLi_cursor (x := e2) C rfl dLi_nextToken_65 ?_
    obtain ⟨e3, he3, h⟩ := ob_some h
    refine at_callVi C kLi_66 (cTa_at C.2.2.2.2.2.2.1 _ _ he3) (by omega) rfl rfl rfl rfl (Nat.le_of_ble_eq_true rfl) dLi_nextToken_68 ?_
    refine at_istore_n (L' := [(2, .int e3), (0, .ref (ad G 4)), (1, .ref (ad G 3))]) C dLi_nextToken_71 rfl (by decide) rfl ?_
    refine at_iload_n (j := 0) C dLi_nextToken_72 rfl rfl ?_
    refine at_callSi C kLi_74 (cLi_isLetter C.2.2.2.2.2.2.1 _ _ rfl) (by omega) rfl rfl (Nat.le_of_ble_eq_true rfl) dLi_nextToken_73 ?_
    refine at_if_eq C dLi_nextToken_76 rfl (fun hc => ?_) (fun hc => ?_)
    · replace h := ifp hc h
      refine at_iload_n (j := 0) C dLi_nextToken_87 rfl rfl ?_
      refine at_callSi C kLi_80 (cLi_isDigit C.2.2.2.2.2.2.1 _ _ rfl) (by omega) rfl rfl (Nat.le_of_ble_eq_true rfl) dLi_nextToken_88 ?_
      refine at_if_eq C dLi_nextToken_91 rfl (fun hc => ?_) (fun hc => ?_)
      · replace h := ifp hc h
        refine at_aload_n (j := 1) C dLi_nextToken_102 rfl rfl ?_
        refine at_iload_n (j := 0) C dLi_nextToken_103 rfl rfl ?_
        refine at_callSi C kLi_86 (cLi_isSign C.2.2.2.2.2.2.1 _ _ rfl) (by omega) rfl rfl (Nat.le_of_ble_eq_true rfl) dLi_nextToken_104 ?_
        refine at_if_eq C dLi_nextToken_107 rfl (fun hc => ?_) (fun hc => ?_)
        · replace h := ifp hc h
          refine at_bipush C dLi_nextToken_114 cb_m4 ?_
          refine pfLi_tokenKind C dLi_nextToken_116 ?_
          refine at_st (S1 := (((((z11111, (z111121, c_Ta_bytes)), (((c_Ta_size, z1112112), z111212), ((e2, e2), (-4 : Int32)))), ((((c_Li_number, z1121112), z112112), z11212), z1122)), z12), z2)) rfl ?_
          refine at_aload_n (j := 1) C dLi_nextToken_119 rfl rfl ?_
          refine at_dup C dLi_nextToken_120 rfl ?_
          refine gfLi_cursor (x := e2) C rfl dLi_nextToken_121 ?_
          refine at_iconst C dLi_nextToken_124 ci_1 ?_
          refine at_iadd C dLi_nextToken_125 ?_
          refine pfLi_cursor C dLi_nextToken_126 ?_
          refine at_st (S1 := (((((z11111, (z111121, c_Ta_bytes)), (((c_Ta_size, z1112112), z111212), (((e2 + (1 : Int32)), e2), (-4 : Int32)))), ((((c_Li_number, z1121112), z112112), z11212), z1122)), z12), z2)) rfl ?_
          cases h
          exact at_vret C dLi_nextToken_129
        · replace h := ifn hc h
          refine at_iload_n (j := 0) C dLi_nextToken_110 rfl rfl ?_
          refine at_goto C dLi_nextToken_111 rfl ?_
          refine pfLi_tokenKind C dLi_nextToken_116 ?_
          refine at_st (S1 := (((((z11111, (z111121, c_Ta_bytes)), (((c_Ta_size, z1112112), z111212), ((e2, e2), e3))), ((((c_Li_number, z1121112), z112112), z11212), z1122)), z12), z2)) rfl ?_
          refine at_aload_n (j := 1) C dLi_nextToken_119 rfl rfl ?_
          refine at_dup C dLi_nextToken_120 rfl ?_
          refine gfLi_cursor (x := e2) C rfl dLi_nextToken_121 ?_
          refine at_iconst C dLi_nextToken_124 ci_1 ?_
          refine at_iadd C dLi_nextToken_125 ?_
          refine pfLi_cursor C dLi_nextToken_126 ?_
          refine at_st (S1 := (((((z11111, (z111121, c_Ta_bytes)), (((c_Ta_size, z1112112), z111212), (((e2 + (1 : Int32)), e2), e3))), ((((c_Li_number, z1121112), z112112), z11212), z1122)), z12), z2)) rfl ?_
          cases h
          exact at_vret C dLi_nextToken_129
      · replace h := ifn hc h
        refine at_aload_n (j := 1) C dLi_nextToken_94 rfl rfl ?_
        refine at_aload_n (j := 2) C dLi_nextToken_95 rfl rfl ?_
        obtain ⟨e4, he4, h⟩ := ob_some h
        refine at_callVv C kLi_83 (cLi_takeDigits C.2.2.2.2.2.2.1 _ he4) (by omega) rfl rfl rfl rfl (Nat.le_of_ble_eq_true rfl) dLi_nextToken_96 ?_
        refine at_goto C dLi_nextToken_99 rfl ?_
        cases h
        exact at_vret C dLi_nextToken_129
    · replace h := ifn hc h
      refine at_aload_n (j := 1) C dLi_nextToken_79 rfl rfl ?_
      refine at_aload_n (j := 2) C dLi_nextToken_80 rfl rfl ?_
      obtain ⟨e5, he5, h⟩ := ob_some h
      refine at_callVv C kLi_77 (cLi_takeLetters C.2.2.2.2.2.2.1 _ he5) (by omega) rfl rfl rfl rfl (Nat.le_of_ble_eq_true rfl) dLi_nextToken_81 ?_
      refine at_goto C dLi_nextToken_84 rfl ?_
      cases h
      exact at_vret C dLi_nextToken_129
  · replace h := ifn hc h
    refine at_aload_n (j := 0) C dLi_nextToken_57 rfl rfl ?_
    refine at_iconst C dLi_nextToken_58 ci_m1 ?_
    refine pfLi_tokenKind C dLi_nextToken_59 ?_
    refine at_st (S1 := (((((z11111, (z111121, c_Ta_bytes)), (((c_Ta_size, z1112112), z111212), ((e2, e2), (-1 : Int32)))), ((((c_Li_number, z1121112), z112112), z11212), z1122)), z12), z2)) rfl ?_
    cases h
    exact at_vret C dLi_nextToken_62
set_option maxRecDepth 100000 in
set_option maxHeartbeats 4000000 in
theorem cLi_takeBehindPart {l : Launch} {G : GG} (hG : GOK G) {c_Li_tokenKind : Int32} {c_Li_expected : Int32} {c_Li_lines : Int32} {z1111 : Z1111} {z11121 : Z11121} {z111221 : Z111221} {z1121111 : Int32} {z11212 : Z11212} {z1122 : Z1122} {z12 : Z12} {z2 : Z2} (R : (Int32 × Int32 × Int32)) (h : fLi_takeBehindPart c_Li_tokenKind c_Li_expected c_Li_lines = R) : Met l yLi_takeBehindPart (.code yLi_takeBehindPart prog_4_method_17_code 1 (some .int) :: gw) (rmm 1) (PcW G [.ref (ad G 4)] ((((z1111, (z11121, (z111221, c_Li_tokenKind))), ((((z1121111, c_Li_expected), c_Li_lines), z11212), z1122)), z12), z2)) (Qw G (some (.int R.1)) ((((z1111, (z11121, (z111221, c_Li_tokenKind))), ((((z1121111, R.2.1), R.2.2), z11212), z1122)), z12), z2)) 0 0 (Aw G) := by
  refine met_of (by decide) 1 G hG _ _ (Nat.le_of_ble_eq_true rfl) _ _ (fun X _ C => ?_)
  have C : Cx G X RcLi prog_4_method_17_code 1 1 (some .int) := C
  unfold fLi_takeBehindPart at h
  show At G X 1 _ 0 [(0, .ref (ad G 4))] [] ((((z1111, (z11121, (z111221, c_Li_tokenKind))), ((((z1121111, c_Li_expected), c_Li_lines), z11212), z1122)), z12), z2)
  refine at_aload_n (j := 0) C dLi_takeBehindPart_0 rfl rfl ?_
  refine gfLi_tokenKind (x := c_Li_tokenKind) C rfl dLi_takeBehindPart_1 ?_
  refine at_bipush C dLi_takeBehindPart_4 cb_44 ?_
  refine at_icmp_ne C dLi_takeBehindPart_6 rfl (fun hc => ?_) (fun hc => ?_)
  · replace h := ifn hc h
    refine at_aload_n (j := 0) C dLi_takeBehindPart_16 rfl rfl ?_
    refine gfLi_tokenKind (x := c_Li_tokenKind) C rfl dLi_takeBehindPart_17 ?_
    refine at_bipush C dLi_takeBehindPart_20 cb_59 ?_
    refine at_icmp_ne C dLi_takeBehindPart_22 rfl (fun hc => ?_) (fun hc => ?_)
    · replace h := ifn hc h
      refine at_iconst C dLi_takeBehindPart_42 ci_1 ?_
      subst h
      exact at_iret C dLi_takeBehindPart_43
    · replace h := ifp hc h
      refine at_aload_n (j := 0) C dLi_takeBehindPart_25 rfl rfl ?_
      refine at_dup C dLi_takeBehindPart_26 rfl ?_
      refine gfLi_lines (x := c_Li_lines) C rfl dLi_takeBehindPart_27 ?_
      refine at_iconst C dLi_takeBehindPart_30 ci_1 ?_
      refine at_iadd C dLi_takeBehindPart_31 ?_
      refine pfLi_lines C dLi_takeBehindPart_32 ?_
      refine at_st (S1 := ((((z1111, (z11121, (z111221, c_Li_tokenKind))), ((((z1121111, c_Li_expected), (c_Li_lines + (1 : Int32))), z11212), z1122)), z12), z2)) rfl ?_
      refine at_aload_n (j := 0) C dLi_takeBehindPart_35 rfl rfl ?_
      refine at_iconst C dLi_takeBehindPart_36 ci_0 ?_
      refine pfLi_expected C dLi_takeBehindPart_37 ?_
      refine at_st (S1 := ((((z1111, (z11121, (z111221, c_Li_tokenKind))), ((((z1121111, (0 : Int32)), (c_Li_lines + (1 : Int32))), z11212), z1122)), z12), z2)) rfl ?_
      refine at_iconst C dLi_takeBehindPart_40 ci_0 ?_
      subst h
      exact at_iret C dLi_takeBehindPart_41
  · replace h := ifp hc h
    refine at_aload_n (j := 0) C dLi_takeBehindPart_9 rfl rfl ?_
    refine at_iconst C dLi_takeBehindPart_10 ci_3 ?_
    refine pfLi_expected C dLi_takeBehindPart_11 ?_
    refine at_st (S1 := ((((z1111, (z11121, (z111221, c_Li_tokenKind))), ((((z1121111, (3 : Int32)), c_Li_lines), z11212), z1122)), z12), z2)) rfl ?_
    refine at_iconst C dLi_takeBehindPart_14 ci_0 ?_
    subst h
    exact at_iret C dLi_takeBehindPart_15
set_option maxRecDepth 100000 in
set_option maxHeartbeats 4000000 in
theorem cTL_slot {l : Launch} {G : GG} (hG : GOK G) {z : ST} (a0 : Int32) (a1 : Int32) (R : Int32) (h : fTL_slot a0 a1 = R) : Met l yTL_slot (.code yTL_slot prog_1_method_33_code 2 (some .int) :: gw) (rmm 1) (PcW G [.int a0, .int a1] z) (Qw G (some (.int R)) z) 0 0 (Aw G) := by
  refine met_of (by decide) 1 G hG _ _ (Nat.le_of_ble_eq_true rfl) _ _ (fun X _ C => ?_)
  have C : Cx G X RcTL prog_1_method_33_code 2 1 (some .int) := C
  unfold fTL_slot at h
  show At G X 2 _ 0 [(0, .int a0), (1, .int a1)] [] z
  refine at_iload_n (j := 0) C dTL_slot_0 rfl rfl ?_
  refine at_bipush C dTL_slot_1 cb_6 ?_
  refine at_imul C dTL_slot_3 ?_
  refine at_iload_n (j := 1) C dTL_slot_4 rfl rfl ?_
  refine at_iadd C dTL_slot_5 ?_
  subst h
  exact at_iret C dTL_slot_6
set_option maxRecDepth 100000 in
set_option maxHeartbeats 4000000 in
theorem cLi_takePieces {l : Launch} {G : GG} (hG : GOK G) {c_Li_row : (Nat → Int32)} {c_Li_tokenKind : Int32} {c_Li_number : Int32} {c_Li_expected : Int32} {c_Li_town : Int32} {c_Li_good : Int32} {z1111 : Z1111} {z1112111 : Int32} {z111212 : (Nat → Int32)} {z111221 : Z111221} {z112112 : Int32} {z112122 : Int32} {z1122 : Z1122} {z12 : Z12} {z2 : Z2} (R : (Int32 × (Nat → Int32) × Int32)) (h : fLi_takePieces c_Li_row c_Li_tokenKind c_Li_number c_Li_expected c_Li_town c_Li_good = some R) : Met l yLi_takePieces (.code yLi_takePieces prog_4_method_16_code 1 (some .int) :: gw) (rmm 2) (PcW G [.ref (ad G 4)] ((((z1111, (((z1112111, c_Li_row), z111212), (z111221, c_Li_tokenKind))), ((((c_Li_number, c_Li_expected), z112112), ((c_Li_town, c_Li_good), z112122)), z1122)), z12), z2)) (Qw G (some (.int R.1)) ((((z1111, (((z1112111, R.2.1), z111212), (z111221, c_Li_tokenKind))), ((((c_Li_number, R.2.2), z112112), ((c_Li_town, c_Li_good), z112122)), z1122)), z12), z2)) 0 0 (Aw G) := by
  refine met_of (by decide) 2 G hG _ _ (Nat.le_of_ble_eq_true rfl) _ _ (fun X _ C => ?_)
  have C : Cx G X RcLi prog_4_method_16_code 1 2 (some .int) := C
  unfold fLi_takePieces at h
  show At G X 1 _ 0 [(0, .ref (ad G 4))] [] ((((z1111, (((z1112111, c_Li_row), z111212), (z111221, c_Li_tokenKind))), ((((c_Li_number, c_Li_expected), z112112), ((c_Li_town, c_Li_good), z112122)), z1122)), z12), z2)
  refine at_aload_n (j := 0) C dLi_takePieces_0 rfl rfl ?_
  refine gfLi_tokenKind (x := c_Li_tokenKind) C rfl dLi_takePieces_1 ?_
  refine at_bipush C dLi_takePieces_4 cb_m3 ?_
  refine at_icmp_eq C dLi_takePieces_6 rfl (fun hc => ?_) (fun hc => ?_)
  · replace h := ifp hc h
    refine at_aload_n (j := 0) C dLi_takePieces_11 rfl rfl ?_
    refine gfLi_number (x := c_Li_number) C rfl dLi_takePieces_12 ?_
    refine at_sipush C dLi_takePieces_15 cs_9999 ?_
    refine at_icmp_le C dLi_takePieces_18 rfl (fun hc => ?_) (fun hc => ?_)
    · replace h := ifp hc h
      refine at_aload_n (j := 0) C dLi_takePieces_23 rfl rfl ?_
      refine gfLi_row C dLi_takePieces_24 ?_
      refine at_aload_n (j := 0) C dLi_takePieces_27 rfl rfl ?_
      refine gfLi_town (x := c_Li_town) C rfl dLi_takePieces_28 ?_
      refine at_aload_n (j := 0) C dLi_takePieces_31 rfl rfl ?_
      refine gfLi_good (x := c_Li_good) C rfl dLi_takePieces_32 ?_
      refine at_callNi C kLi_136 (cTL_slot C.2.2.2.2.2.2.1 _ _ _ rfl) (by omega) rfl rfl (Nat.le_of_ble_eq_true rfl) dLi_takePieces_35 ?_
      refine at_aload_n (j := 0) C dLi_takePieces_38 rfl rfl ?_
      refine gfLi_number (x := c_Li_number) C rfl dLi_takePieces_39 ?_
      obtain ⟨hg1, h⟩ := gd_some h
      refine svLi_row C hg1 dLi_takePieces_42 ?_
      refine at_st (S1 := ((((z1111, (((z1112111, (upd c_Li_row ((fTL_slot c_Li_town c_Li_good)).toNatClampNeg c_Li_number)), z111212), (z111221, c_Li_tokenKind))), ((((c_Li_number, c_Li_expected), z112112), ((c_Li_town, c_Li_good), z112122)), z1122)), z12), z2)) rfl ?_
      refine at_aload_n (j := 0) C dLi_takePieces_43 rfl rfl ?_
      refine at_iconst C dLi_takePieces_44 ci_5 ?_
      refine pfLi_expected C dLi_takePieces_45 ?_
      refine at_st (S1 := ((((z1111, (((z1112111, (upd c_Li_row ((fTL_slot c_Li_town c_Li_good)).toNatClampNeg c_Li_number)), z111212), (z111221, c_Li_tokenKind))), ((((c_Li_number, (5 : Int32)), z112112), ((c_Li_town, c_Li_good), z112122)), z1122)), z12), z2)) rfl ?_
      refine at_iconst C dLi_takePieces_48 ci_0 ?_
      cases h
      exact at_iret C dLi_takePieces_49
    · replace h := ifn hc h
      refine at_iconst C dLi_takePieces_21 ci_3 ?_
      cases h
      exact at_iret C dLi_takePieces_22
  · replace h := ifn hc h
    refine at_iconst C dLi_takePieces_9 ci_1 ?_
    cases h
    exact at_iret C dLi_takePieces_10
set_option maxRecDepth 100000 in
set_option maxHeartbeats 4000000 in
theorem cLi_takeGood {l : Launch} {G : GG} (hG : GOK G) {c_Li_row : (Nat → Int32)} {c_Li_tokenKind : Int32} {c_Li_number : Int32} {c_Li_expected : Int32} {c_Li_town : Int32} {c_Li_good : Int32} {z1111 : Z1111} {z1112111 : Int32} {z111212 : (Nat → Int32)} {z111221 : Z111221} {z112112 : Int32} {z112122 : Int32} {z1122 : Z1122} {z12 : Z12} {z2 : Z2} (R : (Int32 × Int32 × Int32)) (h : fLi_takeGood c_Li_row c_Li_tokenKind c_Li_number c_Li_expected c_Li_town c_Li_good = some R) : Met l yLi_takeGood (.code yLi_takeGood prog_4_method_15_code 1 (some .int) :: gw) (rmm 3) (PcW G [.ref (ad G 4)] ((((z1111, (((z1112111, c_Li_row), z111212), (z111221, c_Li_tokenKind))), ((((c_Li_number, c_Li_expected), z112112), ((c_Li_town, c_Li_good), z112122)), z1122)), z12), z2)) (Qw G (some (.int R.1)) ((((z1111, (((z1112111, c_Li_row), z111212), (z111221, c_Li_tokenKind))), ((((c_Li_number, R.2.1), z112112), ((c_Li_town, R.2.2), z112122)), z1122)), z12), z2)) 0 0 (Aw G) := by
  refine met_of (by decide) 3 G hG _ _ (Nat.le_of_ble_eq_true rfl) _ _ (fun X _ C => ?_)
  have C : Cx G X RcLi prog_4_method_15_code 1 3 (some .int) := C
  unfold fLi_takeGood at h
  show At G X 1 _ 0 [(0, .ref (ad G 4))] [] ((((z1111, (((z1112111, c_Li_row), z111212), (z111221, c_Li_tokenKind))), ((((c_Li_number, c_Li_expected), z112112), ((c_Li_town, c_Li_good), z112122)), z1122)), z12), z2)
  refine at_aload_n (j := 0) C dLi_takeGood_0 rfl rfl ?_
  refine gfLi_tokenKind (x := c_Li_tokenKind) C rfl dLi_takeGood_1 ?_
  refine at_bipush C dLi_takeGood_4 cb_m3 ?_
  refine at_icmp_eq C dLi_takeGood_6 rfl (fun hc => ?_) (fun hc => ?_)
  · replace h := ifp hc h
    refine at_aload_n (j := 0) C dLi_takeGood_11 rfl rfl ?_
    refine gfLi_number (x := c_Li_number) C rfl dLi_takeGood_12 ?_
    refine at_callNi C kLi_133 (cTL_isGood C.2.2.2.2.2.2.1 _ _ rfl) (by omega) rfl rfl (Nat.le_of_ble_eq_true rfl) dLi_takeGood_15 ?_
    refine at_if_ne C dLi_takeGood_18 rfl (fun hc => ?_) (fun hc => ?_)
    · replace h := ifn hc h
      refine at_aload_n (j := 0) C dLi_takeGood_23 rfl rfl ?_
      refine gfLi_row C dLi_takeGood_24 ?_
      refine at_aload_n (j := 0) C dLi_takeGood_27 rfl rfl ?_
      refine gfLi_town (x := c_Li_town) C rfl dLi_takeGood_28 ?_
      refine at_aload_n (j := 0) C dLi_takeGood_31 rfl rfl ?_
      refine gfLi_number (x := c_Li_number) C rfl dLi_takeGood_32 ?_
      refine at_callNi C kLi_136 (cTL_slot C.2.2.2.2.2.2.1 _ _ _ rfl) (by omega) rfl rfl (Nat.le_of_ble_eq_true rfl) dLi_takeGood_35 ?_
      obtain ⟨hg1, h⟩ := gd_some h
      refine ldLi_row (f := c_Li_row) C rfl hg1 dLi_takeGood_38 ?_
      refine at_iconst C dLi_takeGood_39 ci_m1 ?_
      refine at_icmp_eq C dLi_takeGood_40 rfl (fun hc => ?_) (fun hc => ?_)
      · replace h := ifp hc h
        refine at_aload_n (j := 0) C dLi_takeGood_45 rfl rfl ?_
        refine at_aload_n (j := 0) C dLi_takeGood_46 rfl rfl ?_
        refine gfLi_number (x := c_Li_number) C rfl dLi_takeGood_47 ?_
        refine pfLi_good C dLi_takeGood_50 ?_
        refine at_st (S1 := ((((z1111, (((z1112111, c_Li_row), z111212), (z111221, c_Li_tokenKind))), ((((c_Li_number, c_Li_expected), z112112), ((c_Li_town, c_Li_number), z112122)), z1122)), z12), z2)) rfl ?_
        refine at_aload_n (j := 0) C dLi_takeGood_53 rfl rfl ?_
        refine at_iconst C dLi_takeGood_54 ci_4 ?_
        refine pfLi_expected C dLi_takeGood_55 ?_
        refine at_st (S1 := ((((z1111, (((z1112111, c_Li_row), z111212), (z111221, c_Li_tokenKind))), ((((c_Li_number, (4 : Int32)), z112112), ((c_Li_town, c_Li_number), z112122)), z1122)), z12), z2)) rfl ?_
        refine at_iconst C dLi_takeGood_58 ci_0 ?_
        cases h
        exact at_iret C dLi_takeGood_59
      · replace h := ifn hc h
        refine at_iconst C dLi_takeGood_43 ci_2 ?_
        cases h
        exact at_iret C dLi_takeGood_44
    · replace h := ifp hc h
      refine at_iconst C dLi_takeGood_21 ci_3 ?_
      cases h
      exact at_iret C dLi_takeGood_22
  · replace h := ifn hc h
    refine at_iconst C dLi_takeGood_9 ci_1 ?_
    cases h
    exact at_iret C dLi_takeGood_10
set_option maxRecDepth 100000 in
set_option maxHeartbeats 4000000 in
theorem cLi_takeColon {l : Launch} {G : GG} (hG : GOK G) {c_Li_tokenKind : Int32} {c_Li_expected : Int32} {z1111 : Z1111} {z11121 : Z11121} {z111221 : Z111221} {z1121111 : Int32} {z112112 : Int32} {z11212 : Z11212} {z1122 : Z1122} {z12 : Z12} {z2 : Z2} (R : (Int32 × Int32)) (h : fLi_takeColon c_Li_tokenKind c_Li_expected = R) : Met l yLi_takeColon (.code yLi_takeColon prog_4_method_14_code 1 (some .int) :: gw) (rmm 1) (PcW G [.ref (ad G 4)] ((((z1111, (z11121, (z111221, c_Li_tokenKind))), ((((z1121111, c_Li_expected), z112112), z11212), z1122)), z12), z2)) (Qw G (some (.int R.1)) ((((z1111, (z11121, (z111221, c_Li_tokenKind))), ((((z1121111, R.2), z112112), z11212), z1122)), z12), z2)) 0 0 (Aw G) := by
  refine met_of (by decide) 1 G hG _ _ (Nat.le_of_ble_eq_true rfl) _ _ (fun X _ C => ?_)
  have C : Cx G X RcLi prog_4_method_14_code 1 1 (some .int) := C
  unfold fLi_takeColon at h
  show At G X 1 _ 0 [(0, .ref (ad G 4))] [] ((((z1111, (z11121, (z111221, c_Li_tokenKind))), ((((z1121111, c_Li_expected), z112112), z11212), z1122)), z12), z2)
  refine at_aload_n (j := 0) C dLi_takeColon_0 rfl rfl ?_
  refine at_iconst C dLi_takeColon_1 ci_3 ?_
  refine pfLi_expected C dLi_takeColon_2 ?_
  refine at_st (S1 := ((((z1111, (z11121, (z111221, c_Li_tokenKind))), ((((z1121111, (3 : Int32)), z112112), z11212), z1122)), z12), z2)) rfl ?_
  refine at_aload_n (j := 0) C dLi_takeColon_5 rfl rfl ?_
  refine gfLi_tokenKind (x := c_Li_tokenKind) C rfl dLi_takeColon_6 ?_
  refine at_bipush C dLi_takeColon_9 cb_58 ?_
  refine at_icmp_ne C dLi_takeColon_11 rfl (fun hc => ?_) (fun hc => ?_)
  · replace h := ifn hc h
    refine at_iconst C dLi_takeColon_18 ci_1 ?_
    subst h
    exact at_iret C dLi_takeColon_19
  · replace h := ifp hc h
    refine at_iconst C dLi_takeColon_14 ci_0 ?_
    refine at_goto C dLi_takeColon_15 rfl ?_
    subst h
    exact at_iret C dLi_takeColon_19
set_option maxRecDepth 100000 in
set_option maxHeartbeats 4000000 in
theorem cTL_isTown {l : Launch} {G : GG} (hG : GOK G) {z : ST} (a0 : Int32) (R : Int32) (h : fTL_isTown a0 = R) : Met l yTL_isTown (.code yTL_isTown prog_1_method_30_code 1 (some .boolean) :: gw) (rmm 2) (PcW G [.int a0] z) (Qw G (some (.int R)) z) 0 0 (Aw G) := by
  refine met_of (by decide) 2 G hG _ _ (Nat.le_of_ble_eq_true rfl) _ _ (fun X _ C => ?_)
  have C : Cx G X RcTL prog_1_method_30_code 1 2 (some .boolean) := C
  unfold fTL_isTown at h
  show At G X 1 _ 0 [(0, .int a0)] [] z
  refine at_iload_n (j := 0) C dTL_isTown_0 rfl rfl ?_
  refine at_iconst C dTL_isTown_1 ci_1 ?_
  refine at_bipush C dTL_isTown_2 cb_15 ?_
  refine at_callSi C kTL_80 (cTL_within C.2.2.2.2.2.2.1 _ _ _ _ rfl) (by omega) rfl rfl (Nat.le_of_ble_eq_true rfl) dTL_isTown_4 ?_
  subst h
  exact at_zret (x := (fTL_within a0 (1 : Int32) (15 : Int32))) C (zb_TL_within) dTL_isTown_7
set_option maxRecDepth 100000 in
set_option maxHeartbeats 4000000 in
theorem cLi_takeTown {l : Launch} {G : GG} (hG : GOK G) {c_Li_townSeen : (Nat → Int32)} {c_Li_tokenKind : Int32} {c_Li_number : Int32} {c_Li_expected : Int32} {c_Li_town : Int32} {z1111 : Z1111} {z111211 : Z111211} {z111221 : Z111221} {z112112 : Int32} {z1121212 : Int32} {z112122 : Int32} {z1122 : Z1122} {z12 : Z12} {z2 : Z2} (R : (Int32 × (Nat → Int32) × Int32 × Int32)) (h : fLi_takeTown c_Li_townSeen c_Li_tokenKind c_Li_number c_Li_expected c_Li_town = some R) : Met l yLi_takeTown (.code yLi_takeTown prog_4_method_13_code 1 (some .int) :: gw) (rmm 3) (PcW G [.ref (ad G 4)] ((((z1111, ((z111211, c_Li_townSeen), (z111221, c_Li_tokenKind))), ((((c_Li_number, c_Li_expected), z112112), ((c_Li_town, z1121212), z112122)), z1122)), z12), z2)) (Qw G (some (.int R.1)) ((((z1111, ((z111211, R.2.1), (z111221, c_Li_tokenKind))), ((((c_Li_number, R.2.2.1), z112112), ((R.2.2.2, z1121212), z112122)), z1122)), z12), z2)) 0 0 (Aw G) := by
  refine met_of (by decide) 3 G hG _ _ (Nat.le_of_ble_eq_true rfl) _ _ (fun X _ C => ?_)
  have C : Cx G X RcLi prog_4_method_13_code 1 3 (some .int) := C
  unfold fLi_takeTown at h
  show At G X 1 _ 0 [(0, .ref (ad G 4))] [] ((((z1111, ((z111211, c_Li_townSeen), (z111221, c_Li_tokenKind))), ((((c_Li_number, c_Li_expected), z112112), ((c_Li_town, z1121212), z112122)), z1122)), z12), z2)
  refine at_aload_n (j := 0) C dLi_takeTown_0 rfl rfl ?_
  refine gfLi_tokenKind (x := c_Li_tokenKind) C rfl dLi_takeTown_1 ?_
  refine at_bipush C dLi_takeTown_4 cb_m3 ?_
  refine at_icmp_eq C dLi_takeTown_6 rfl (fun hc => ?_) (fun hc => ?_)
  · replace h := ifp hc h
    refine at_aload_n (j := 0) C dLi_takeTown_11 rfl rfl ?_
    refine gfLi_number (x := c_Li_number) C rfl dLi_takeTown_12 ?_
    refine at_callNi C kLi_128 (cTL_isTown C.2.2.2.2.2.2.1 _ _ rfl) (by omega) rfl rfl (Nat.le_of_ble_eq_true rfl) dLi_takeTown_15 ?_
    refine at_if_ne C dLi_takeTown_18 rfl (fun hc => ?_) (fun hc => ?_)
    · replace h := ifn hc h
      refine at_aload_n (j := 0) C dLi_takeTown_23 rfl rfl ?_
      refine gfLi_townSeen C dLi_takeTown_24 ?_
      refine at_aload_n (j := 0) C dLi_takeTown_27 rfl rfl ?_
      refine gfLi_number (x := c_Li_number) C rfl dLi_takeTown_28 ?_
      obtain ⟨hg1, h⟩ := gd_some h
      refine ldLi_townSeen (f := c_Li_townSeen) C rfl hg1 dLi_takeTown_31 ?_
      refine at_if_eq C dLi_takeTown_32 rfl (fun hc => ?_) (fun hc => ?_)
      · replace h := ifp hc h
        refine at_aload_n (j := 0) C dLi_takeTown_37 rfl rfl ?_
        refine gfLi_townSeen C dLi_takeTown_38 ?_
        refine at_aload_n (j := 0) C dLi_takeTown_41 rfl rfl ?_
        refine gfLi_number (x := c_Li_number) C rfl dLi_takeTown_42 ?_
        refine at_iconst C dLi_takeTown_45 ci_1 ?_
        obtain ⟨hg2, h⟩ := gd_some h
        refine svLi_townSeen C hg2 dLi_takeTown_46 ?_
        refine at_st (S1 := ((((z1111, ((z111211, (upd c_Li_townSeen (c_Li_number).toNatClampNeg (1 : Int32))), (z111221, c_Li_tokenKind))), ((((c_Li_number, c_Li_expected), z112112), ((c_Li_town, z1121212), z112122)), z1122)), z12), z2)) rfl ?_
        refine at_aload_n (j := 0) C dLi_takeTown_47 rfl rfl ?_
        refine at_aload_n (j := 0) C dLi_takeTown_48 rfl rfl ?_
        refine gfLi_number (x := c_Li_number) C rfl dLi_takeTown_49 ?_
        refine pfLi_town C dLi_takeTown_52 ?_
        refine at_st (S1 := ((((z1111, ((z111211, (upd c_Li_townSeen (c_Li_number).toNatClampNeg (1 : Int32))), (z111221, c_Li_tokenKind))), ((((c_Li_number, c_Li_expected), z112112), ((c_Li_number, z1121212), z112122)), z1122)), z12), z2)) rfl ?_
        refine at_aload_n (j := 0) C dLi_takeTown_55 rfl rfl ?_
        refine at_iconst C dLi_takeTown_56 ci_2 ?_
        refine pfLi_expected C dLi_takeTown_57 ?_
        refine at_st (S1 := ((((z1111, ((z111211, (upd c_Li_townSeen (c_Li_number).toNatClampNeg (1 : Int32))), (z111221, c_Li_tokenKind))), ((((c_Li_number, (2 : Int32)), z112112), ((c_Li_number, z1121212), z112122)), z1122)), z12), z2)) rfl ?_
        refine at_iconst C dLi_takeTown_60 ci_0 ?_
        cases h
        exact at_iret C dLi_takeTown_61
      · replace h := ifn hc h
        refine at_iconst C dLi_takeTown_35 ci_2 ?_
        cases h
        exact at_iret C dLi_takeTown_36
    · replace h := ifp hc h
      refine at_iconst C dLi_takeTown_21 ci_3 ?_
      cases h
      exact at_iret C dLi_takeTown_22
  · replace h := ifn hc h
    refine at_iconst C dLi_takeTown_9 ci_1 ?_
    cases h
    exact at_iret C dLi_takeTown_10
set_option maxRecDepth 100000 in
set_option maxHeartbeats 4000000 in
theorem cLi_takeLineStart {l : Launch} {G : GG} (hG : GOK G) {c_Li_tokenKind : Int32} {c_Li_expected : Int32} {z1111 : Z1111} {z11121 : Z11121} {z111221 : Z111221} {z1121111 : Int32} {z112112 : Int32} {z11212 : Z11212} {z1122 : Z1122} {z12 : Z12} {z2 : Z2} (R : (Int32 × Int32)) (h : fLi_takeLineStart c_Li_tokenKind c_Li_expected = R) : Met l yLi_takeLineStart (.code yLi_takeLineStart prog_4_method_12_code 1 (some .int) :: gw) (rmm 1) (PcW G [.ref (ad G 4)] ((((z1111, (z11121, (z111221, c_Li_tokenKind))), ((((z1121111, c_Li_expected), z112112), z11212), z1122)), z12), z2)) (Qw G (some (.int R.1)) ((((z1111, (z11121, (z111221, c_Li_tokenKind))), ((((z1121111, R.2), z112112), z11212), z1122)), z12), z2)) 0 0 (Aw G) := by
  refine met_of (by decide) 1 G hG _ _ (Nat.le_of_ble_eq_true rfl) _ _ (fun X _ C => ?_)
  have C : Cx G X RcLi prog_4_method_12_code 1 1 (some .int) := C
  unfold fLi_takeLineStart at h
  show At G X 1 _ 0 [(0, .ref (ad G 4))] [] ((((z1111, (z11121, (z111221, c_Li_tokenKind))), ((((z1121111, c_Li_expected), z112112), z11212), z1122)), z12), z2)
  refine at_aload_n (j := 0) C dLi_takeLineStart_0 rfl rfl ?_
  refine gfLi_tokenKind (x := c_Li_tokenKind) C rfl dLi_takeLineStart_1 ?_
  refine at_iconst C dLi_takeLineStart_4 ci_m1 ?_
  refine at_icmp_ne C dLi_takeLineStart_5 rfl (fun hc => ?_) (fun hc => ?_)
  · replace h := ifn hc h
    refine at_aload_n (j := 0) C dLi_takeLineStart_10 rfl rfl ?_
    refine at_iconst C dLi_takeLineStart_11 ci_1 ?_
    refine pfLi_expected C dLi_takeLineStart_12 ?_
    refine at_st (S1 := ((((z1111, (z11121, (z111221, c_Li_tokenKind))), ((((z1121111, (1 : Int32)), z112112), z11212), z1122)), z12), z2)) rfl ?_
    refine at_aload_n (j := 0) C dLi_takeLineStart_15 rfl rfl ?_
    refine gfLi_tokenKind (x := c_Li_tokenKind) C rfl dLi_takeLineStart_16 ?_
    refine at_bipush C dLi_takeLineStart_19 cb_m2 ?_
    refine at_icmp_ne C dLi_takeLineStart_21 rfl (fun hc => ?_) (fun hc => ?_)
    · replace h := ifn hc h
      refine at_iconst C dLi_takeLineStart_28 ci_1 ?_
      subst h
      exact at_iret C dLi_takeLineStart_29
    · replace h := ifp hc h
      refine at_iconst C dLi_takeLineStart_24 ci_0 ?_
      refine at_goto C dLi_takeLineStart_25 rfl ?_
      subst h
      exact at_iret C dLi_takeLineStart_29
  · replace h := ifp hc h
    refine at_iconst C dLi_takeLineStart_8 ci_0 ?_
    subst h
    exact at_iret C dLi_takeLineStart_9
set_option maxRecDepth 100000 in
set_option maxHeartbeats 4000000 in
theorem cLi_takeToken {l : Launch} {G : GG} (hG : GOK G) {c_Li_row : (Nat → Int32)} {c_Li_townSeen : (Nat → Int32)} {c_Li_tokenKind : Int32} {c_Li_number : Int32} {c_Li_expected : Int32} {c_Li_lines : Int32} {c_Li_town : Int32} {c_Li_good : Int32} {z1111 : Z1111} {z1112111 : Int32} {z111221 : Z111221} {z112122 : Int32} {z1122 : Z1122} {z12 : Z12} {z2 : Z2} (R : (Int32 × (Nat → Int32) × (Nat → Int32) × Int32 × Int32 × Int32 × Int32)) (h : fLi_takeToken c_Li_row c_Li_townSeen c_Li_tokenKind c_Li_number c_Li_expected c_Li_lines c_Li_town c_Li_good = some R) : Met l yLi_takeToken (.code yLi_takeToken prog_4_method_11_code 1 (some .int) :: gw) (rmm 4) (PcW G [.ref (ad G 4)] ((((z1111, (((z1112111, c_Li_row), c_Li_townSeen), (z111221, c_Li_tokenKind))), ((((c_Li_number, c_Li_expected), c_Li_lines), ((c_Li_town, c_Li_good), z112122)), z1122)), z12), z2)) (Qw G (some (.int R.1)) ((((z1111, (((z1112111, R.2.1), R.2.2.1), (z111221, c_Li_tokenKind))), ((((c_Li_number, R.2.2.2.1), R.2.2.2.2.1), ((R.2.2.2.2.2.1, R.2.2.2.2.2.2), z112122)), z1122)), z12), z2)) 0 0 (Aw G) := by
  refine met_of (by decide) 4 G hG _ _ (Nat.le_of_ble_eq_true rfl) _ _ (fun X _ C => ?_)
  have C : Cx G X RcLi prog_4_method_11_code 1 4 (some .int) := C
  unfold fLi_takeToken at h
  show At G X 1 _ 0 [(0, .ref (ad G 4))] [] ((((z1111, (((z1112111, c_Li_row), c_Li_townSeen), (z111221, c_Li_tokenKind))), ((((c_Li_number, c_Li_expected), c_Li_lines), ((c_Li_town, c_Li_good), z112122)), z1122)), z12), z2)
  refine at_aload_n (j := 0) C dLi_takeToken_0 rfl rfl ?_
  refine gfLi_expected (x := c_Li_expected) C rfl dLi_takeToken_1 ?_
  by_cases hc : c_Li_expected = (0 : Int32)
  · replace h := ifp hc h
    refine at_tin C (0 : Int32) hc dLi_takeToken_4 (by decide) (by decide) rfl rfl ?_
    refine at_aload_n (j := 0) C dLi_takeToken_40 rfl rfl ?_
    refine at_callVi C kLi_110 (cLi_takeLineStart C.2.2.2.2.2.2.1 _ rfl) (by omega) rfl rfl rfl rfl (Nat.le_of_ble_eq_true rfl) dLi_takeToken_41 ?_
    cases h
    exact at_iret C dLi_takeToken_44
  replace h := ifn hc h
  have hn0 := hc
  clear hc
  by_cases hc : c_Li_expected = (1 : Int32)
  · replace h := ifp hc h
    refine at_tin C (1 : Int32) hc dLi_takeToken_4 (by decide) (by decide) rfl rfl ?_
    refine at_aload_n (j := 0) C dLi_takeToken_45 rfl rfl ?_
    obtain ⟨e1, he1, h⟩ := ob_some h
    refine at_callVi C kLi_113 (cLi_takeTown C.2.2.2.2.2.2.1 _ he1) (by omega) rfl rfl rfl rfl (Nat.le_of_ble_eq_true rfl) dLi_takeToken_46 ?_
    cases h
    exact at_iret C dLi_takeToken_49
  replace h := ifn hc h
  have hn1 := hc
  clear hc
  by_cases hc : c_Li_expected = (2 : Int32)
  · replace h := ifp hc h
    refine at_tin C (2 : Int32) hc dLi_takeToken_4 (by decide) (by decide) rfl rfl ?_
    refine at_aload_n (j := 0) C dLi_takeToken_50 rfl rfl ?_
    refine at_callVi C kLi_116 (cLi_takeColon C.2.2.2.2.2.2.1 _ rfl) (by omega) rfl rfl rfl rfl (Nat.le_of_ble_eq_true rfl) dLi_takeToken_51 ?_
    cases h
    exact at_iret C dLi_takeToken_54
  replace h := ifn hc h
  have hn2 := hc
  clear hc
  by_cases hc : c_Li_expected = (3 : Int32)
  · replace h := ifp hc h
    refine at_tin C (3 : Int32) hc dLi_takeToken_4 (by decide) (by decide) rfl rfl ?_
    refine at_aload_n (j := 0) C dLi_takeToken_55 rfl rfl ?_
    obtain ⟨e2, he2, h⟩ := ob_some h
    refine at_callVi C kLi_119 (cLi_takeGood C.2.2.2.2.2.2.1 _ he2) (by omega) rfl rfl rfl rfl (Nat.le_of_ble_eq_true rfl) dLi_takeToken_56 ?_
    cases h
    exact at_iret C dLi_takeToken_59
  replace h := ifn hc h
  have hn3 := hc
  clear hc
  by_cases hc : c_Li_expected = (4 : Int32)
  · replace h := ifp hc h
    refine at_tin C (4 : Int32) hc dLi_takeToken_4 (by decide) (by decide) rfl rfl ?_
    refine at_aload_n (j := 0) C dLi_takeToken_60 rfl rfl ?_
    obtain ⟨e3, he3, h⟩ := ob_some h
    refine at_callVi C kLi_122 (cLi_takePieces C.2.2.2.2.2.2.1 _ he3) (by omega) rfl rfl rfl rfl (Nat.le_of_ble_eq_true rfl) dLi_takeToken_61 ?_
    cases h
    exact at_iret C dLi_takeToken_64
  replace h := ifn hc h
  have hn4 := hc
  clear hc
  refine at_tout C dLi_takeToken_4 (by have := lv_neT hn0 (show ((0 : Int32)).toInt = 0 from by decide); have := lv_neT hn1 (show ((1 : Int32)).toInt = 1 from by decide); have := lv_neT hn2 (show ((2 : Int32)).toInt = 2 from by decide); have := lv_neT hn3 (show ((3 : Int32)).toInt = 3 from by decide); have := lv_neT hn4 (show ((4 : Int32)).toInt = 4 from by decide); omega) rfl ?_
  refine at_aload_n (j := 0) C dLi_takeToken_65 rfl rfl ?_
  refine at_callVi C kLi_125 (cLi_takeBehindPart C.2.2.2.2.2.2.1 _ rfl) (by omega) rfl rfl rfl rfl (Nat.le_of_ble_eq_true rfl) dLi_takeToken_66 ?_
  cases h
  exact at_iret C dLi_takeToken_69
set_option maxRecDepth 100000 in
set_option maxHeartbeats 4000000 in
theorem wLi_read_l6 {G : GG} {X : CX} {c_Ta_bytes : (Nat → Int32)} {c_Ta_size : Int32} {c_Li_anyRead : Int32} {c_Li_faultPlace : Int32} {z11111 : Z11111} {z111121 : Z111121} {z112212 : (Nat → Nat → Int32)} {z11222 : Z11222} {z12 : Z12} {z2 : Z2} (C : Cx G X RcLi prog_4_method_6_code 3 7 (some .int)) {Q : State → Prop}  : ∀ (n : Nat) (a2 : Int32) (c_Li_row : (Nat → Int32)) (c_Li_townSeen : (Nat → Int32)) (c_Li_cursor : Int32) (c_Li_tokenStart : Int32) (c_Li_tokenKind : Int32) (c_Li_number : Int32) (c_Li_expected : Int32) (c_Li_lines : Int32) (c_Li_town : Int32) (c_Li_good : Int32) (c_Li_faultKind : Int32) (E : ((Nat → Int32) × (Nat → Int32) × Int32 × Int32 × Int32 × Int32 × Int32 × Int32 × Int32 × Int32 × Int32) ⊕ ((Nat → Int32) × (Nat → Int32) × Int32 × Int32 × Int32 × Int32 × Int32 × Int32 × Int32 × Int32 × Int32) ⊕ ((Nat → Int32) × (Nat → Int32) × Int32 × Int32 × Int32 × Int32 × Int32 × Int32 × Int32 × Int32 × Int32)) (h : fLi_read_l6 c_Ta_bytes c_Ta_size n a2 c_Li_row c_Li_townSeen c_Li_cursor c_Li_tokenStart c_Li_tokenKind c_Li_number c_Li_expected c_Li_lines c_Li_town c_Li_good c_Li_faultKind = some E) (k0 : ∀ e, E = (Sum.inl e) → At G X 3 Q 33 [(0, .ref (ad G 4))] [] (((((z11111, (z111121, c_Ta_bytes)), (((c_Ta_size, e.1), e.2.1), ((e.2.2.1, e.2.2.2.1), e.2.2.2.2.1))), ((((e.2.2.2.2.2.1, e.2.2.2.2.2.2.1), e.2.2.2.2.2.2.2.1), ((e.2.2.2.2.2.2.2.2.1, e.2.2.2.2.2.2.2.2.2.1), c_Li_anyRead)), (((e.2.2.2.2.2.2.2.2.2.2, c_Li_faultPlace), z112212), z11222))), z12), z2)) (k1 : ∀ e, E = (Sum.inr (Sum.inl e)) → At G X 3 Q 51 [(0, .ref (ad G 4))] [] (((((z11111, (z111121, c_Ta_bytes)), (((c_Ta_size, e.1), e.2.1), ((e.2.2.1, e.2.2.2.1), e.2.2.2.2.1))), ((((e.2.2.2.2.2.1, e.2.2.2.2.2.2.1), e.2.2.2.2.2.2.2.1), ((e.2.2.2.2.2.2.2.2.1, e.2.2.2.2.2.2.2.2.2.1), c_Li_anyRead)), (((e.2.2.2.2.2.2.2.2.2.2, c_Li_faultPlace), z112212), z11222))), z12), z2)) (k2 : ∀ e, E = (Sum.inr (Sum.inr e)) → At G X 3 Q 62 [] [] (((((z11111, (z111121, c_Ta_bytes)), (((c_Ta_size, e.1), e.2.1), ((e.2.2.1, e.2.2.2.1), e.2.2.2.2.1))), ((((e.2.2.2.2.2.1, e.2.2.2.2.2.2.1), e.2.2.2.2.2.2.2.1), ((e.2.2.2.2.2.2.2.2.1, e.2.2.2.2.2.2.2.2.2.1), c_Li_anyRead)), (((e.2.2.2.2.2.2.2.2.2.2, c_Li_faultPlace), z112212), z11222))), z12), z2)), At G X 3 Q 6 [(0, .ref (ad G 4)), (1, .ref (ad G 3)), (2, .int a2)] [] (((((z11111, (z111121, c_Ta_bytes)), (((c_Ta_size, c_Li_row), c_Li_townSeen), ((c_Li_cursor, c_Li_tokenStart), c_Li_tokenKind))), ((((c_Li_number, c_Li_expected), c_Li_lines), ((c_Li_town, c_Li_good), c_Li_anyRead)), (((c_Li_faultKind, c_Li_faultPlace), z112212), z11222))), z12), z2) := by
  intro n
  induction n with
  | zero =>
    intro a2 c_Li_row c_Li_townSeen c_Li_cursor c_Li_tokenStart c_Li_tokenKind c_Li_number c_Li_expected c_Li_lines c_Li_town c_Li_good c_Li_faultKind E h k0 k1 k2
    rw [fLi_read_l6.eq_1] at h
    cases h
  | succ n ih =>
    intro a2 c_Li_row c_Li_townSeen c_Li_cursor c_Li_tokenStart c_Li_tokenKind c_Li_number c_Li_expected c_Li_lines c_Li_town c_Li_good c_Li_faultKind E h k0 k1 k2
    rw [fLi_read_l6.eq_2] at h
    refine at_iload_n (j := 2) C dLi_read_6 rfl rfl ?_
    refine at_sipush C dLi_read_7 cs_300 ?_
    refine at_icmp_gt C dLi_read_10 rfl (fun hc => ?_) (fun hc => ?_)
    · replace h := ifp hc h
      cases h
      refine at_loc (L' := []) [] rfl ?_
      exact k2 _ rfl
    · replace h := ifn hc h
      refine at_aload_n (j := 0) C dLi_read_13 rfl rfl ?_
      refine at_aload_n (j := 1) C dLi_read_14 rfl rfl ?_
      obtain ⟨e2, he2, h⟩ := ob_some h
      refine at_callVv C kLi_34 (cLi_nextToken C.2.2.2.2.2.2.1 _ he2) (by omega) rfl rfl rfl rfl (Nat.le_of_ble_eq_true rfl) dLi_read_15 ?_
      refine at_aload_n (j := 0) C dLi_read_18 rfl rfl ?_
      refine at_aload_n (j := 0) C dLi_read_19 rfl rfl ?_
      obtain ⟨e3, he3, h⟩ := ob_some h
      refine at_callVi C kLi_38 (cLi_takeToken C.2.2.2.2.2.2.1 _ he3) (by omega) rfl rfl rfl rfl (Nat.le_of_ble_eq_true rfl) dLi_read_20 ?_
      refine pfLi_faultKind C dLi_read_23 ?_
      refine at_st (S1 := (((((z11111, (z111121, c_Ta_bytes)), (((c_Ta_size, e3.2.1), e3.2.2.1), ((e2.1, e2.2.1), e2.2.2.1))), ((((e2.2.2.2, e3.2.2.2.1), e3.2.2.2.2.1), ((e3.2.2.2.2.2.1, e3.2.2.2.2.2.2), c_Li_anyRead)), (((e3.1, c_Li_faultPlace), z112212), z11222))), z12), z2)) rfl ?_
      refine at_aload_n (j := 0) C dLi_read_26 rfl rfl ?_
      refine gfLi_faultKind (x := e3.1) C rfl dLi_read_27 ?_
      refine at_if_eq C dLi_read_30 rfl (fun hc => ?_) (fun hc => ?_)
      · replace h := ifp hc h
        refine at_aload_n (j := 0) C dLi_read_43 rfl rfl ?_
        refine gfLi_tokenKind (x := e2.2.2.1) C rfl dLi_read_44 ?_
        refine at_iconst C dLi_read_47 ci_m1 ?_
        refine at_icmp_ne C dLi_read_48 rfl (fun hc => ?_) (fun hc => ?_)
        · replace h := ifn hc h
          refine at_iinc (j := 2) (L' := [(2, .int (a2 + (1 : Int32))), (0, .ref (ad G 4)), (1, .ref (ad G 3))]) C dLi_read_56 rfl ci_1 (by decide) rfl ?_
          refine at_goto C dLi_read_59 rfl ?_
          refine at_loc (L' := [(0, .ref (ad G 4)), (1, .ref (ad G 3)), (2, .int (a2 + (1 : Int32)))]) [1, 2, 0] rfl ?_
          exact ih _ _ _ _ _ _ _ _ _ _ _ _ _ h k0 k1 k2
        · replace h := ifp hc h
          cases h
          refine at_loc (L' := [(0, .ref (ad G 4))]) [0] rfl ?_
          exact k1 _ rfl
      · replace h := ifn hc h
        cases h
        refine at_loc (L' := [(0, .ref (ad G 4))]) [0] rfl ?_
        exact k0 _ rfl
set_option maxRecDepth 100000 in
set_option maxHeartbeats 4000000 in
theorem cLi_read {l : Launch} {G : GG} (hG : GOK G) {c_Ta_bytes : (Nat → Int32)} {c_Ta_size : Int32} {c_Li_row : (Nat → Int32)} {c_Li_townSeen : (Nat → Int32)} {c_Li_cursor : Int32} {c_Li_tokenStart : Int32} {c_Li_tokenKind : Int32} {c_Li_number : Int32} {c_Li_expected : Int32} {c_Li_lines : Int32} {c_Li_town : Int32} {c_Li_good : Int32} {c_Li_anyRead : Int32} {c_Li_faultKind : Int32} {c_Li_faultPlace : Int32} {z11111 : Z11111} {z111121 : Z111121} {z112212 : (Nat → Nat → Int32)} {z11222 : Z11222} {z12 : Z12} {z2 : Z2} (R : (Int32 × (Nat → Int32) × (Nat → Int32) × Int32 × Int32 × Int32 × Int32 × Int32 × Int32 × Int32 × Int32 × Int32 × Int32 × Int32)) (h : fLi_read c_Ta_bytes c_Ta_size c_Li_row c_Li_townSeen c_Li_cursor c_Li_tokenStart c_Li_tokenKind c_Li_number c_Li_expected c_Li_lines c_Li_town c_Li_good c_Li_anyRead c_Li_faultKind c_Li_faultPlace = some R) : Met l yLi_read (.code yLi_read prog_4_method_6_code 3 (some .int) :: gw) (rmm 7) (PcW G [.ref (ad G 4), .ref (ad G 3)] (((((z11111, (z111121, c_Ta_bytes)), (((c_Ta_size, c_Li_row), c_Li_townSeen), ((c_Li_cursor, c_Li_tokenStart), c_Li_tokenKind))), ((((c_Li_number, c_Li_expected), c_Li_lines), ((c_Li_town, c_Li_good), c_Li_anyRead)), (((c_Li_faultKind, c_Li_faultPlace), z112212), z11222))), z12), z2)) (Qw G (some (.int R.1)) (((((z11111, (z111121, c_Ta_bytes)), (((c_Ta_size, R.2.1), R.2.2.1), ((R.2.2.2.1, R.2.2.2.2.1), R.2.2.2.2.2.1))), ((((R.2.2.2.2.2.2.1, R.2.2.2.2.2.2.2.1), R.2.2.2.2.2.2.2.2.1), ((R.2.2.2.2.2.2.2.2.2.1, R.2.2.2.2.2.2.2.2.2.2.1), R.2.2.2.2.2.2.2.2.2.2.2.1)), (((R.2.2.2.2.2.2.2.2.2.2.2.2.1, R.2.2.2.2.2.2.2.2.2.2.2.2.2), z112212), z11222))), z12), z2)) 0 0 (Aw G) := by
  refine met_of (by decide) 7 G hG _ _ (Nat.le_of_ble_eq_true rfl) _ _ (fun X _ C => ?_)
  have C : Cx G X RcLi prog_4_method_6_code 3 7 (some .int) := C
  unfold fLi_read at h
  show At G X 3 _ 0 [(0, .ref (ad G 4)), (1, .ref (ad G 3))] [] (((((z11111, (z111121, c_Ta_bytes)), (((c_Ta_size, c_Li_row), c_Li_townSeen), ((c_Li_cursor, c_Li_tokenStart), c_Li_tokenKind))), ((((c_Li_number, c_Li_expected), c_Li_lines), ((c_Li_town, c_Li_good), c_Li_anyRead)), (((c_Li_faultKind, c_Li_faultPlace), z112212), z11222))), z12), z2)
  refine at_aload_n (j := 0) C dLi_read_0 rfl rfl ?_
  obtain ⟨e1, he1, h⟩ := ob_some h
  refine at_callVv C kLi_29 (cLi_startAnew C.2.2.2.2.2.2.1 _ he1) (by omega) rfl rfl rfl rfl (Nat.le_of_ble_eq_true rfl) dLi_read_1 ?_
  refine at_iconst C dLi_read_4 ci_0 ?_
  refine at_istore_n (L' := [(2, .int (0 : Int32)), (0, .ref (ad G 4)), (1, .ref (ad G 3))]) C dLi_read_5 rfl (by decide) rfl ?_
  obtain ⟨e4, he4, h⟩ := ob_some h
  refine at_loc (L' := [(0, .ref (ad G 4)), (1, .ref (ad G 3)), (2, .int (0 : Int32))]) [1, 2, 0] rfl ?_
  rcases e4 with e5 | e6 | e7
  · simp only [Sum.elim_inl, Sum.elim_inr] at h
    refine wLi_read_l6 C FU _ _ _ _ _ _ _ _ _ _ _ _ _ he4 (fun e he => ?_) (fun e he => by cases he) (fun e he => by cases he)
    cases he
    refine at_aload_n (j := 0) C dLi_read_33 rfl rfl ?_
    refine at_aload_n (j := 0) C dLi_read_34 rfl rfl ?_
    refine gfLi_tokenStart (x := e5.2.2.2.1) C rfl dLi_read_35 ?_
    refine pfLi_faultPlace C dLi_read_38 ?_
    refine at_st (S1 := (((((z11111, (z111121, c_Ta_bytes)), (((c_Ta_size, e5.1), e5.2.1), ((e5.2.2.1, e5.2.2.2.1), e5.2.2.2.2.1))), ((((e5.2.2.2.2.2.1, e5.2.2.2.2.2.2.1), e5.2.2.2.2.2.2.2.1), ((e5.2.2.2.2.2.2.2.2.1, e5.2.2.2.2.2.2.2.2.2.1), e1.2.2.2.2.2.1)), (((e5.2.2.2.2.2.2.2.2.2.2, e5.2.2.2.1), z112212), z11222))), z12), z2)) rfl ?_
    refine at_iconst C dLi_read_41 ci_m1 ?_
    cases h
    exact at_iret C dLi_read_42
  · simp only [Sum.elim_inl, Sum.elim_inr] at h
    refine wLi_read_l6 C FU _ _ _ _ _ _ _ _ _ _ _ _ _ he4 (fun e he => by cases he) (fun e he => ?_) (fun e he => by cases he)
    cases he
    refine at_aload_n (j := 0) C dLi_read_51 rfl rfl ?_
    refine gfLi_lines (x := e6.2.2.2.2.2.2.2.1) C rfl dLi_read_52 ?_
    cases h
    exact at_iret C dLi_read_55
  · simp only [Sum.elim_inl, Sum.elim_inr] at h
    refine wLi_read_l6 C FU _ _ _ _ _ _ _ _ _ _ _ _ _ he4 (fun e he => by cases he) (fun e he => by cases he) (fun e he => ?_)
    cases he
    refine at_iconst C dLi_read_62 ci_m1 ?_
    cases h
    exact at_iret C dLi_read_63
set_option maxRecDepth 100000 in
set_option maxHeartbeats 4000000 in
theorem cLi_row {l : Launch} {G : GG} (hG : GOK G) {z : ST} (R : Unit) (h : fLi_row = R) : Met l yLi_row (.code yLi_row prog_4_method_2_code 1 (some (.array .int)) :: gw) (rmm 1) (PcW G [.ref (ad G 4)] z) (Qw G (some (.ref (ad G 15))) z) 0 0 (Aw G) := by
  refine met_of (by decide) 1 G hG _ _ (Nat.le_of_ble_eq_true rfl) _ _ (fun X _ C => ?_)
  have C : Cx G X RcLi prog_4_method_2_code 1 1 (some (.array .int)) := C
  unfold fLi_row at h
  show At G X 1 _ 0 [(0, .ref (ad G 4))] [] z
  refine at_aload_n (j := 0) C dLi_row_0 rfl rfl ?_
  refine gfLi_row C dLi_row_1 ?_
  subst h
  exact at_aret C dLi_row_4
set_option maxRecDepth 100000 in
set_option maxHeartbeats 4000000 in
theorem cCo_replace {l : Launch} {G : GG} (hG : GOK G) {c_Li_row : (Nat → Int32)} {c_Co_told : (Nat → Nat → Int32)} {c_Co_readAs : (Nat → Int32)} {c_Co_readings : Int32} {z1111 : Z1111} {z1112111 : Int32} {z111212 : (Nat → Int32)} {z11122 : Z11122} {z1121 : Z1121} {z112211 : Z112211} {z112222 : (Nat → Int32)} {z12 : Z12} {z2 : Z2} (a1 : Int32) (R : ((Nat → Nat → Int32) × (Nat → Int32) × Int32)) (h : fCo_replace a1 c_Li_row c_Co_told c_Co_readAs c_Co_readings = some R) : Met l yCo_replace (.code yCo_replace prog_3_method_2_code 3 none :: gw) (rmm 1) (PcW G [.ref (ad G 5), .int a1, .ref (ad G 15)] ((((z1111, (((z1112111, c_Li_row), z111212), z11122)), (z1121, ((z112211, c_Co_told), ((c_Co_readAs, c_Co_readings), z112222)))), z12), z2)) (Qw G (none) ((((z1111, (((z1112111, c_Li_row), z111212), z11122)), (z1121, ((z112211, R.1), ((R.2.1, R.2.2), z112222)))), z12), z2)) 0 0 (Aw G) := by
  refine met_of (by decide) 1 G hG _ _ (Nat.le_of_ble_eq_true rfl) _ _ (fun X _ C => ?_)
  have C : Cx G X RcCo prog_3_method_2_code 3 1 none := C
  unfold fCo_replace at h
  show At G X 3 _ 0 [(0, .ref (ad G 5)), (1, .int a1), (2, .ref (ad G 15))] [] ((((z1111, (((z1112111, c_Li_row), z111212), z11122)), (z1121, ((z112211, c_Co_told), ((c_Co_readAs, c_Co_readings), z112222)))), z12), z2)
  refine at_aload_n (j := 2) C dCo_replace_0 rfl rfl ?_
  refine at_iconst C dCo_replace_1 ci_0 ?_
  refine at_aload_n (j := 0) C dCo_replace_2 rfl rfl ?_
  refine gfCo_told C dCo_replace_3 ?_
  refine at_iload_n (j := 1) C dCo_replace_6 rfl rfl ?_
  obtain ⟨hg1, h⟩ := gd_some h
  refine raCo_told C hg1 dCo_replace_7 ?_
  refine at_iconst C dCo_replace_8 ci_0 ?_
  refine at_bipush C dCo_replace_9 cb_96 ?_
  obtain ⟨hg2, h⟩ := gd_some h
  refine at_acopy C jCo_30 15 (18 + (a1).toNatClampNeg) (fun S h => sCo_told S (va_up (gCo_told S) (a1).toNatClampNeg h)) rfl (rgCo_told _ (inb_lt hg1)) (fun h => rsCo_told _ (inb_lt hg1) h) hg2 (by omega) (Nat.le_of_ble_eq_true rfl) dCo_replace_11 ?_
  refine at_st (S1 := ((((z1111, (((z1112111, c_Li_row), z111212), z11122)), (z1121, ((z112211, (va_up c_Co_told (a1).toNatClampNeg (cpyI c_Li_row (c_Co_told (a1).toNatClampNeg) (0 : Int32) (0 : Int32) (96 : Int32)))), ((c_Co_readAs, c_Co_readings), z112222)))), z12), z2)) rfl ?_
  refine at_aload_n (j := 0) C dCo_replace_14 rfl rfl ?_
  refine at_dup C dCo_replace_15 rfl ?_
  refine gfCo_readings (x := c_Co_readings) C rfl dCo_replace_16 ?_
  refine at_iconst C dCo_replace_19 ci_1 ?_
  refine at_iadd C dCo_replace_20 ?_
  refine pfCo_readings C dCo_replace_21 ?_
  refine at_st (S1 := ((((z1111, (((z1112111, c_Li_row), z111212), z11122)), (z1121, ((z112211, (va_up c_Co_told (a1).toNatClampNeg (cpyI c_Li_row (c_Co_told (a1).toNatClampNeg) (0 : Int32) (0 : Int32) (96 : Int32)))), ((c_Co_readAs, (c_Co_readings + (1 : Int32))), z112222)))), z12), z2)) rfl ?_
  refine at_aload_n (j := 0) C dCo_replace_24 rfl rfl ?_
  refine gfCo_readAs C dCo_replace_25 ?_
  refine at_iload_n (j := 1) C dCo_replace_28 rfl rfl ?_
  refine at_aload_n (j := 0) C dCo_replace_29 rfl rfl ?_
  refine gfCo_readings (x := (c_Co_readings + (1 : Int32))) C rfl dCo_replace_30 ?_
  obtain ⟨hg3, h⟩ := gd_some h
  refine svCo_readAs C hg3 dCo_replace_33 ?_
  refine at_st (S1 := ((((z1111, (((z1112111, c_Li_row), z111212), z11122)), (z1121, ((z112211, (va_up c_Co_told (a1).toNatClampNeg (cpyI c_Li_row (c_Co_told (a1).toNatClampNeg) (0 : Int32) (0 : Int32) (96 : Int32)))), (((upd c_Co_readAs (a1).toNatClampNeg (c_Co_readings + (1 : Int32))), (c_Co_readings + (1 : Int32))), z112222)))), z12), z2)) rfl ?_
  cases h
  exact at_vret C dCo_replace_34
set_option maxRecDepth 100000 in
set_option maxHeartbeats 4000000 in
theorem cTL_copy {l : Launch} {G : GG} (hG : GOK G) {c_Ta_bytes : (Nat → Int32)} {c_Ta_size : Int32} {c_Li_row : (Nat → Int32)} {c_Li_townSeen : (Nat → Int32)} {c_Li_cursor : Int32} {c_Li_tokenStart : Int32} {c_Li_tokenKind : Int32} {c_Li_number : Int32} {c_Li_expected : Int32} {c_Li_lines : Int32} {c_Li_town : Int32} {c_Li_good : Int32} {c_Li_anyRead : Int32} {c_Li_faultKind : Int32} {c_Li_faultPlace : Int32} {c_Co_told : (Nat → Nat → Int32)} {c_Co_readAs : (Nat → Int32)} {c_Co_readings : Int32} {z11111 : Z11111} {z111121 : Z111121} {z112222 : (Nat → Int32)} {z12 : Z12} {z2 : Z2} (a1 : Int32) (R : (Int32 × Int32 × (Nat → Int32) × (Nat → Int32) × Int32 × Int32 × Int32 × Int32 × Int32 × Int32 × Int32 × Int32 × Int32 × Int32 × Int32 × (Nat → Nat → Int32) × (Nat → Int32) × Int32)) (h : fTL_copy a1 c_Ta_bytes c_Ta_size c_Li_row c_Li_townSeen c_Li_cursor c_Li_tokenStart c_Li_tokenKind c_Li_number c_Li_expected c_Li_lines c_Li_town c_Li_good c_Li_anyRead c_Li_faultKind c_Li_faultPlace c_Co_told c_Co_readAs c_Co_readings = some R) : Met l yTL_copy (.code yTL_copy prog_1_method_8_code 3 (some .int) :: gw) (rmm 8) (PcW G [.ref (ad G 0), .int a1] (((((z11111, (z111121, c_Ta_bytes)), (((c_Ta_size, c_Li_row), c_Li_townSeen), ((c_Li_cursor, c_Li_tokenStart), c_Li_tokenKind))), ((((c_Li_number, c_Li_expected), c_Li_lines), ((c_Li_town, c_Li_good), c_Li_anyRead)), (((c_Li_faultKind, c_Li_faultPlace), c_Co_told), ((c_Co_readAs, c_Co_readings), z112222)))), z12), z2)) (Qw G (some (.int R.1)) (((((z11111, (z111121, c_Ta_bytes)), (((R.2.1, R.2.2.1), R.2.2.2.1), ((R.2.2.2.2.1, R.2.2.2.2.2.1), R.2.2.2.2.2.2.1))), ((((R.2.2.2.2.2.2.2.1, R.2.2.2.2.2.2.2.2.1), R.2.2.2.2.2.2.2.2.2.1), ((R.2.2.2.2.2.2.2.2.2.2.1, R.2.2.2.2.2.2.2.2.2.2.2.1), R.2.2.2.2.2.2.2.2.2.2.2.2.1)), (((R.2.2.2.2.2.2.2.2.2.2.2.2.2.1, R.2.2.2.2.2.2.2.2.2.2.2.2.2.2.1), R.2.2.2.2.2.2.2.2.2.2.2.2.2.2.2.1), ((R.2.2.2.2.2.2.2.2.2.2.2.2.2.2.2.2.1, R.2.2.2.2.2.2.2.2.2.2.2.2.2.2.2.2.2), z112222)))), z12), z2)) 0 0 (Aw G) := by
  refine met_of (by decide) 8 G hG _ _ (Nat.le_of_ble_eq_true rfl) _ _ (fun X _ C => ?_)
  have C : Cx G X RcTL prog_1_method_8_code 3 8 (some .int) := C
  unfold fTL_copy at h
  show At G X 3 _ 0 [(0, .ref (ad G 0)), (1, .int a1)] [] (((((z11111, (z111121, c_Ta_bytes)), (((c_Ta_size, c_Li_row), c_Li_townSeen), ((c_Li_cursor, c_Li_tokenStart), c_Li_tokenKind))), ((((c_Li_number, c_Li_expected), c_Li_lines), ((c_Li_town, c_Li_good), c_Li_anyRead)), (((c_Li_faultKind, c_Li_faultPlace), c_Co_told), ((c_Co_readAs, c_Co_readings), z112222)))), z12), z2)
  refine at_iload_n (j := 1) C dTL_copy_0 rfl rfl ?_
  refine at_callSi C kTL_120 (cTL_isCopy C.2.2.2.2.2.2.1 _ _ rfl) (by omega) rfl rfl (Nat.le_of_ble_eq_true rfl) dTL_copy_1 ?_
  refine at_if_ne C dTL_copy_4 rfl (fun hc => ?_) (fun hc => ?_)
  · replace h := ifn hc h
    refine at_aload_n (j := 0) C dTL_copy_9 rfl rfl ?_
    refine gfTL_reader C dTL_copy_10 ?_
    refine at_aload_n (j := 0) C dTL_copy_13 rfl rfl ?_
    refine gfTL_tape C dTL_copy_14 ?_
    obtain ⟨e1, he1, h⟩ := ob_some h
    refine at_callVi C kTL_123 (cLi_read C.2.2.2.2.2.2.1 _ he1) (by omega) rfl rfl rfl rfl (Nat.le_of_ble_eq_true rfl) dTL_copy_17 ?_
    refine at_istore_n (L' := [(2, .int e1.1), (0, .ref (ad G 0)), (1, .int a1)]) C dTL_copy_20 rfl (by decide) rfl ?_
    refine at_aload_n (j := 1) C dTL_copy_21 rfl rfl ?_
    refine gfTL_tape C dTL_copy_22 ?_
    refine at_iconst C dTL_copy_25 ci_0 ?_
    refine at_callVv C kTL_117 (cTa_cut C.2.2.2.2.2.2.1 _ _ rfl) (by omega) rfl rfl rfl rfl (Nat.le_of_ble_eq_true rfl) dTL_copy_26 ?_
    refine at_iload_n (j := 0) C dTL_copy_29 rfl rfl ?_
    refine at_iconst C dTL_copy_30 ci_m1 ?_
    refine at_icmp_eq C dTL_copy_31 rfl (fun hc => ?_) (fun hc => ?_)
    · replace h := ifp hc h
      refine at_iload_n (j := 0) C dTL_copy_49 rfl rfl ?_
      cases h
      exact at_iret C dTL_copy_50
    · replace h := ifn hc h
      refine at_aload_n (j := 1) C dTL_copy_34 rfl rfl ?_
      refine gfTL_copies C dTL_copy_35 ?_
      refine at_iload_n (j := 2) C dTL_copy_38 rfl rfl ?_
      refine at_aload_n (j := 1) C dTL_copy_39 rfl rfl ?_
      refine gfTL_reader C dTL_copy_40 ?_
      refine at_callVr C kTL_127 (cLi_row C.2.2.2.2.2.2.1 _ rfl) (by omega) rfl rfl rfl rfl (Nat.le_of_ble_eq_true rfl) dTL_copy_43 ?_
      obtain ⟨e2, he2, h⟩ := ob_some h
      refine at_callVv C kTL_131 (cCo_replace C.2.2.2.2.2.2.1 _ _ he2) (by omega) rfl rfl rfl rfl (Nat.le_of_ble_eq_true rfl) dTL_copy_46 ?_
      refine at_iload_n (j := 0) C dTL_copy_49 rfl rfl ?_
      cases h
      exact at_iret C dTL_copy_50
  · replace h := ifp hc h
    refine at_iconst C dTL_copy_7 ci_m1 ?_
    cases h
    exact at_iret C dTL_copy_8
set_option maxRecDepth 100000 in
set_option maxHeartbeats 4000000 in
theorem cLi_hasRead {l : Launch} {G : GG} (hG : GOK G) {c_Li_anyRead : Int32} {z111 : Z111} {z11211 : Z11211} {z112121 : Z112121} {z1122 : Z1122} {z12 : Z12} {z2 : Z2} (R : Int32) (h : fLi_hasRead c_Li_anyRead = some R) : Met l yLi_hasRead (.code yLi_hasRead prog_4_method_3_code 1 (some .boolean) :: gw) (rmm 1) (PcW G [.ref (ad G 4)] (((z111, ((z11211, (z112121, c_Li_anyRead)), z1122)), z12), z2)) (Qw G (some (.int R)) (((z111, ((z11211, (z112121, c_Li_anyRead)), z1122)), z12), z2)) 0 0 (Aw G) := by
  refine met_of (by decide) 1 G hG _ _ (Nat.le_of_ble_eq_true rfl) _ _ (fun X _ C => ?_)
  have C : Cx G X RcLi prog_4_method_3_code 1 1 (some .boolean) := C
  unfold fLi_hasRead at h
  show At G X 1 _ 0 [(0, .ref (ad G 4))] [] (((z111, ((z11211, (z112121, c_Li_anyRead)), z1122)), z12), z2)
  refine at_aload_n (j := 0) C dLi_hasRead_0 rfl rfl ?_
  refine gfLi_anyRead (x := c_Li_anyRead) C rfl dLi_hasRead_1 ?_
  obtain ⟨hg1, h⟩ := gd_some h
  cases h
  exact at_zret (x := c_Li_anyRead) C (isz_nar hg1) dLi_hasRead_4
set_option maxRecDepth 100000 in
set_option maxHeartbeats 4000000 in
theorem cLi_faultPlace {l : Launch} {G : GG} (hG : GOK G) {c_Li_faultPlace : Int32} {z111 : Z111} {z1121 : Z1121} {z1122111 : Int32} {z112212 : (Nat → Nat → Int32)} {z11222 : Z11222} {z12 : Z12} {z2 : Z2} (R : Int32) (h : fLi_faultPlace c_Li_faultPlace = R) : Met l yLi_faultPlace (.code yLi_faultPlace prog_4_method_5_code 1 (some .int) :: gw) (rmm 1) (PcW G [.ref (ad G 4)] (((z111, (z1121, (((z1122111, c_Li_faultPlace), z112212), z11222))), z12), z2)) (Qw G (some (.int R)) (((z111, (z1121, (((z1122111, c_Li_faultPlace), z112212), z11222))), z12), z2)) 0 0 (Aw G) := by
  refine met_of (by decide) 1 G hG _ _ (Nat.le_of_ble_eq_true rfl) _ _ (fun X _ C => ?_)
  have C : Cx G X RcLi prog_4_method_5_code 1 1 (some .int) := C
  unfold fLi_faultPlace at h
  show At G X 1 _ 0 [(0, .ref (ad G 4))] [] (((z111, (z1121, (((z1122111, c_Li_faultPlace), z112212), z11222))), z12), z2)
  refine at_aload_n (j := 0) C dLi_faultPlace_0 rfl rfl ?_
  refine gfLi_faultPlace (x := c_Li_faultPlace) C rfl dLi_faultPlace_1 ?_
  subst h
  exact at_iret C dLi_faultPlace_4
set_option maxRecDepth 100000 in
set_option maxHeartbeats 4000000 in
theorem cLi_faultKind {l : Launch} {G : GG} (hG : GOK G) {c_Li_faultKind : Int32} {z111 : Z111} {z1121 : Z1121} {z1122112 : Int32} {z112212 : (Nat → Nat → Int32)} {z11222 : Z11222} {z12 : Z12} {z2 : Z2} (R : Int32) (h : fLi_faultKind c_Li_faultKind = R) : Met l yLi_faultKind (.code yLi_faultKind prog_4_method_4_code 1 (some .int) :: gw) (rmm 1) (PcW G [.ref (ad G 4)] (((z111, (z1121, (((c_Li_faultKind, z1122112), z112212), z11222))), z12), z2)) (Qw G (some (.int R)) (((z111, (z1121, (((c_Li_faultKind, z1122112), z112212), z11222))), z12), z2)) 0 0 (Aw G) := by
  refine met_of (by decide) 1 G hG _ _ (Nat.le_of_ble_eq_true rfl) _ _ (fun X _ C => ?_)
  have C : Cx G X RcLi prog_4_method_4_code 1 1 (some .int) := C
  unfold fLi_faultKind at h
  show At G X 1 _ 0 [(0, .ref (ad G 4))] [] (((z111, (z1121, (((c_Li_faultKind, z1122112), z112212), z11222))), z12), z2)
  refine at_aload_n (j := 0) C dLi_faultKind_0 rfl rfl ?_
  refine gfLi_faultKind (x := c_Li_faultKind) C rfl dLi_faultKind_1 ?_
  subst h
  exact at_iret C dLi_faultKind_4
set_option maxRecDepth 100000 in
set_option maxHeartbeats 4000000 in
theorem cTL_fault {l : Launch} {G : GG} (hG : GOK G) {c_Li_anyRead : Int32} {c_Li_faultKind : Int32} {c_Li_faultPlace : Int32} {z111 : Z111} {z11211 : Z11211} {z112121 : Z112121} {z112212 : (Nat → Nat → Int32)} {z11222 : Z11222} {z12 : Z12} {z2 : Z2} (a1 : Int32) (R : Int32) (h : fTL_fault a1 c_Li_anyRead c_Li_faultKind c_Li_faultPlace = some R) : Met l yTL_fault (.code yTL_fault prog_1_method_9_code 2 (some .int) :: gw) (rmm 2) (PcW G [.ref (ad G 0), .int a1] (((z111, ((z11211, (z112121, c_Li_anyRead)), (((c_Li_faultKind, c_Li_faultPlace), z112212), z11222))), z12), z2)) (Qw G (some (.int R)) (((z111, ((z11211, (z112121, c_Li_anyRead)), (((c_Li_faultKind, c_Li_faultPlace), z112212), z11222))), z12), z2)) 0 0 (Aw G) := by
  refine met_of (by decide) 2 G hG _ _ (Nat.le_of_ble_eq_true rfl) _ _ (fun X _ C => ?_)
  have C : Cx G X RcTL prog_1_method_9_code 2 2 (some .int) := C
  unfold fTL_fault at h
  show At G X 2 _ 0 [(0, .ref (ad G 0)), (1, .int a1)] [] (((z111, ((z11211, (z112121, c_Li_anyRead)), (((c_Li_faultKind, c_Li_faultPlace), z112212), z11222))), z12), z2)
  refine at_aload_n (j := 0) C dTL_fault_0 rfl rfl ?_
  refine gfTL_reader C dTL_fault_1 ?_
  obtain ⟨e1, he1, h⟩ := ob_some h
  refine at_callVi C kTL_135 (cLi_hasRead C.2.2.2.2.2.2.1 _ he1) (by omega) rfl rfl rfl rfl (Nat.le_of_ble_eq_true rfl) dTL_fault_4 ?_
  refine at_if_ne C dTL_fault_7 rfl (fun hc => ?_) (fun hc => ?_)
  · replace h := ifn hc h
    refine at_iload_n (j := 1) C dTL_fault_12 rfl rfl ?_
    by_cases hc : a1 = (0 : Int32)
    · replace h := ifp hc h
      refine at_lsw (off := 27) C dTL_fault_13 (by decide) (by first | (rw [hc]; done) | (rw [hc]; rfl)) rfl ?_
      refine at_aload_n (j := 0) C dTL_fault_40 rfl rfl ?_
      refine gfTL_reader C dTL_fault_41 ?_
      refine at_callVi C kTL_138 (cLi_faultKind C.2.2.2.2.2.2.1 _ rfl) (by omega) rfl rfl rfl rfl (Nat.le_of_ble_eq_true rfl) dTL_fault_44 ?_
      cases h
      exact at_iret C dTL_fault_47
    replace h := ifn hc h
    have hn0 := hc
    clear hc
    by_cases hc : a1 = (1 : Int32)
    · replace h := ifp hc h
      refine at_lsw (off := 35) C dTL_fault_13 (by decide) (by first | (rw [hc]; done) | (rw [hc]; rfl)) rfl ?_
      refine at_aload_n (j := 0) C dTL_fault_48 rfl rfl ?_
      refine gfTL_reader C dTL_fault_49 ?_
      refine at_callVi C kTL_141 (cLi_faultPlace C.2.2.2.2.2.2.1 _ rfl) (by omega) rfl rfl rfl rfl (Nat.le_of_ble_eq_true rfl) dTL_fault_52 ?_
      cases h
      exact at_iret C dTL_fault_55
    replace h := ifn hc h
    have hn1 := hc
    clear hc
    refine at_lsw (off := 43) C dTL_fault_13 (by decide) (by show Op.lookupswitch.offset [(0, 27), (1, 35)] 43 (a1).toInt = 43; first | (rw [lv_osw hn0 (show ((0 : Int32)).toInt = 0 from by decide), lv_osw hn1 (show ((1 : Int32)).toInt = 1 from by decide)]; done) | (rw [lv_osw hn0 (show ((0 : Int32)).toInt = 0 from by decide), lv_osw hn1 (show ((1 : Int32)).toInt = 1 from by decide)]; rfl)) rfl ?_
    refine at_iconst C dTL_fault_56 ci_m1 ?_
    cases h
    exact at_iret C dTL_fault_57
  · replace h := ifp hc h
    refine at_iconst C dTL_fault_10 ci_m1 ?_
    cases h
    exact at_iret C dTL_fault_11
set_option maxRecDepth 100000 in
set_option maxHeartbeats 4000000 in
theorem cCo_toldBy {l : Launch} {G : GG} (hG : GOK G) {c_Co_told : (Nat → Nat → Int32)} {z111 : Z111} {z1121 : Z1121} {z112211 : Z112211} {z11222 : Z11222} {z12 : Z12} {z2 : Z2} (a1 : Int32) (a2 : Int32) (R : Int32) (h : fCo_toldBy a1 a2 c_Co_told = some R) : Met l yCo_toldBy (.code yCo_toldBy prog_3_method_4_code 3 (some .int) :: gw) (rmm 1) (PcW G [.ref (ad G 5), .int a1, .int a2] (((z111, (z1121, ((z112211, c_Co_told), z11222))), z12), z2)) (Qw G (some (.int R)) (((z111, (z1121, ((z112211, c_Co_told), z11222))), z12), z2)) 0 0 (Aw G) := by
  refine met_of (by decide) 1 G hG _ _ (Nat.le_of_ble_eq_true rfl) _ _ (fun X _ C => ?_)
  have C : Cx G X RcCo prog_3_method_4_code 3 1 (some .int) := C
  unfold fCo_toldBy at h
  show At G X 3 _ 0 [(0, .ref (ad G 5)), (1, .int a1), (2, .int a2)] [] (((z111, (z1121, ((z112211, c_Co_told), z11222))), z12), z2)
  refine at_aload_n (j := 0) C dCo_toldBy_0 rfl rfl ?_
  refine gfCo_told C dCo_toldBy_1 ?_
  refine at_iload_n (j := 1) C dCo_toldBy_4 rfl rfl ?_
  obtain ⟨hg1, h⟩ := gd_some h
  refine raCo_told C hg1 dCo_toldBy_5 ?_
  refine at_iload_n (j := 2) C dCo_toldBy_6 rfl rfl ?_
  obtain ⟨hg2, h⟩ := gd_some h
  refine ldCo_told (f := c_Co_told) C rfl hg1 hg2 dCo_toldBy_7 ?_
  cases h
  exact at_iret C dCo_toldBy_8
set_option maxRecDepth 100000 in
set_option maxHeartbeats 4000000 in
theorem cTL_tells {l : Launch} {G : GG} (hG : GOK G) {c_Co_told : (Nat → Nat → Int32)} {z111 : Z111} {z1121 : Z1121} {z112211 : Z112211} {z11222 : Z11222} {z12 : Z12} {z2 : Z2} (a1 : Int32) (a2 : Int32) (a3 : Int32) (R : Int32) (h : fTL_tells a1 a2 a3 c_Co_told = some R) : Met l yTL_tells (.code yTL_tells prog_1_method_10_code 4 (some .int) :: gw) (rmm 3) (PcW G [.ref (ad G 0), .int a1, .int a2, .int a3] (((z111, (z1121, ((z112211, c_Co_told), z11222))), z12), z2)) (Qw G (some (.int R)) (((z111, (z1121, ((z112211, c_Co_told), z11222))), z12), z2)) 0 0 (Aw G) := by
  refine met_of (by decide) 3 G hG _ _ (Nat.le_of_ble_eq_true rfl) _ _ (fun X _ C => ?_)
  have C : Cx G X RcTL prog_1_method_10_code 4 3 (some .int) := C
  unfold fTL_tells at h
  show At G X 4 _ 0 [(0, .ref (ad G 0)), (1, .int a1), (2, .int a2), (3, .int a3)] [] (((z111, (z1121, ((z112211, c_Co_told), z11222))), z12), z2)
  refine at_iload_n (j := 1) C dTL_tells_0 rfl rfl ?_
  refine at_callSi C kTL_120 (cTL_isCopy C.2.2.2.2.2.2.1 _ _ rfl) (by omega) rfl rfl (Nat.le_of_ble_eq_true rfl) dTL_tells_1 ?_
  refine at_if_eq C dTL_tells_4 rfl (fun hc => ?_) (fun hc => ?_)
  · replace h := ifp hc h
    refine at_iconst C dTL_tells_37 ci_m1 ?_
    cases h
    exact at_iret C dTL_tells_38
  · replace h := ifn hc h
    refine at_iload_n (j := 2) C dTL_tells_7 rfl rfl ?_
    refine at_callSi C kTL_144 (cTL_isTown C.2.2.2.2.2.2.1 _ _ rfl) (by omega) rfl rfl (Nat.le_of_ble_eq_true rfl) dTL_tells_8 ?_
    refine at_if_eq C dTL_tells_11 rfl (fun hc => ?_) (fun hc => ?_)
    · replace h := ifp hc h
      refine at_iconst C dTL_tells_37 ci_m1 ?_
      cases h
      exact at_iret C dTL_tells_38
    · replace h := ifn hc h
      refine at_iload_n (j := 3) C dTL_tells_14 rfl rfl ?_
      refine at_callSi C kTL_95 (cTL_isGood C.2.2.2.2.2.2.1 _ _ rfl) (by omega) rfl rfl (Nat.le_of_ble_eq_true rfl) dTL_tells_15 ?_
      refine at_if_eq C dTL_tells_18 rfl (fun hc => ?_) (fun hc => ?_)
      · replace h := ifp hc h
        refine at_iconst C dTL_tells_37 ci_m1 ?_
        cases h
        exact at_iret C dTL_tells_38
      · replace h := ifn hc h
        refine at_aload_n (j := 0) C dTL_tells_21 rfl rfl ?_
        refine gfTL_copies C dTL_tells_22 ?_
        refine at_iload_n (j := 1) C dTL_tells_25 rfl rfl ?_
        refine at_iload_n (j := 2) C dTL_tells_26 rfl rfl ?_
        refine at_iload_n (j := 3) C dTL_tells_27 rfl rfl ?_
        refine at_callSi C kTL_147 (cTL_slot C.2.2.2.2.2.2.1 _ _ _ rfl) (by omega) rfl rfl (Nat.le_of_ble_eq_true rfl) dTL_tells_28 ?_
        obtain ⟨e1, he1, h⟩ := ob_some h
        refine at_callVi C kTL_150 (cCo_toldBy C.2.2.2.2.2.2.1 _ _ _ he1) (by omega) rfl rfl rfl rfl (Nat.le_of_ble_eq_true rfl) dTL_tells_31 ?_
        refine at_goto C dTL_tells_34 rfl ?_
        cases h
        exact at_iret C dTL_tells_38
set_option maxRecDepth 100000 in
set_option maxHeartbeats 4000000 in
theorem wCo_votesFor_l12 {G : GG} {X : CX} {c_Co_told : (Nat → Nat → Int32)} {z111 : Z111} {z1121 : Z1121} {z112211 : Z112211} {z11222 : Z11222} {z12 : Z12} {z2 : Z2} (C : Cx G X RcCo prog_3_method_6_code 5 1 (some .int)) {Q : State → Prop}  (a1 : Int32) (a2 : Int32) : ∀ (n : Nat) (a3 : Int32) (a4 : Int32) (E : Int32) (h : fCo_votesFor_l12 a1 a2 c_Co_told n a3 a4 = some E) (k0 : At G X 5 Q 40 [(3, .int E)] [] (((z111, (z1121, ((z112211, c_Co_told), z11222))), z12), z2)), At G X 5 Q 12 [(0, .ref (ad G 5)), (1, .int a1), (2, .int a2), (3, .int a3), (4, .int a4)] [] (((z111, (z1121, ((z112211, c_Co_told), z11222))), z12), z2) := by
  intro n
  induction n with
  | zero =>
    intro a3 a4 E h k0
    rw [fCo_votesFor_l12.eq_1] at h
    cases h
  | succ n ih =>
    intro a3 a4 E h k0
    rw [fCo_votesFor_l12.eq_2] at h
    refine at_iload (j := 4) C dCo_votesFor_12 rfl ?_
    refine at_iconst C dCo_votesFor_14 ci_5 ?_
    refine at_icmp_ge C dCo_votesFor_15 rfl (fun hc => ?_) (fun hc => ?_)
    · replace h := ifp hc h
      cases h
      refine at_loc (L' := [(3, .int a3)]) [3] rfl ?_
      exact k0
    · replace h := ifn hc h
      refine at_aload_n (j := 0) C dCo_votesFor_18 rfl rfl ?_
      refine gfCo_told C dCo_votesFor_19 ?_
      refine at_iload (j := 4) C dCo_votesFor_22 rfl ?_
      obtain ⟨hg1, h⟩ := gd_some h
      refine raCo_told C hg1 dCo_votesFor_24 ?_
      refine at_iload_n (j := 2) C dCo_votesFor_25 rfl rfl ?_
      obtain ⟨hg2, h⟩ := gd_some h
      refine ldCo_told (f := c_Co_told) C rfl hg1 hg2 dCo_votesFor_26 ?_
      refine at_iload_n (j := 1) C dCo_votesFor_27 rfl rfl ?_
      refine at_icmp_ne C dCo_votesFor_28 rfl (fun hc => ?_) (fun hc => ?_)
      · replace h := ifn hc h
        refine at_iinc (j := 4) (L' := [(4, .int (a4 + (1 : Int32))), (0, .ref (ad G 5)), (1, .int a1), (2, .int a2), (3, .int a3)]) C dCo_votesFor_34 rfl ci_1 (by decide) rfl ?_
        refine at_goto C dCo_votesFor_37 rfl ?_
        refine at_loc (L' := [(0, .ref (ad G 5)), (1, .int a1), (2, .int a2), (3, .int a3), (4, .int (a4 + (1 : Int32)))]) [1, 2, 3, 4, 0] rfl ?_
        exact ih _ _ _ h k0
      · replace h := ifp hc h
        refine at_iinc (j := 3) (L' := [(3, .int (a3 + (1 : Int32))), (0, .ref (ad G 5)), (1, .int a1), (2, .int a2), (4, .int a4)]) C dCo_votesFor_31 rfl ci_1 (by decide) rfl ?_
        refine at_iinc (j := 4) (L' := [(4, .int (a4 + (1 : Int32))), (3, .int (a3 + (1 : Int32))), (0, .ref (ad G 5)), (1, .int a1), (2, .int a2)]) C dCo_votesFor_34 rfl ci_1 (by decide) rfl ?_
        refine at_goto C dCo_votesFor_37 rfl ?_
        refine at_loc (L' := [(0, .ref (ad G 5)), (1, .int a1), (2, .int a2), (3, .int (a3 + (1 : Int32))), (4, .int (a4 + (1 : Int32)))]) [2, 3, 4, 1, 0] rfl ?_
        exact ih _ _ _ h k0
set_option maxRecDepth 100000 in
set_option maxHeartbeats 4000000 in
theorem cCo_votesFor {l : Launch} {G : GG} (hG : GOK G) {c_Co_told : (Nat → Nat → Int32)} {z111 : Z111} {z1121 : Z1121} {z112211 : Z112211} {z11222 : Z11222} {z12 : Z12} {z2 : Z2} (a1 : Int32) (a2 : Int32) (R : Int32) (h : fCo_votesFor a1 a2 c_Co_told = some R) : Met l yCo_votesFor (.code yCo_votesFor prog_3_method_6_code 5 (some .int) :: gw) (rmm 1) (PcW G [.ref (ad G 5), .int a1, .int a2] (((z111, (z1121, ((z112211, c_Co_told), z11222))), z12), z2)) (Qw G (some (.int R)) (((z111, (z1121, ((z112211, c_Co_told), z11222))), z12), z2)) 0 0 (Aw G) := by
  refine met_of (by decide) 1 G hG _ _ (Nat.le_of_ble_eq_true rfl) _ _ (fun X _ C => ?_)
  have C : Cx G X RcCo prog_3_method_6_code 5 1 (some .int) := C
  unfold fCo_votesFor at h
  show At G X 5 _ 0 [(0, .ref (ad G 5)), (1, .int a1), (2, .int a2)] [] (((z111, (z1121, ((z112211, c_Co_told), z11222))), z12), z2)
  refine at_iload_n (j := 1) C dCo_votesFor_0 rfl rfl ?_
  refine at_iconst C dCo_votesFor_1 ci_m1 ?_
  refine at_icmp_ne C dCo_votesFor_2 rfl (fun hc => ?_) (fun hc => ?_)
  · replace h := ifn hc h
    refine at_iconst C dCo_votesFor_7 ci_0 ?_
    refine at_istore_n (L' := [(3, .int (0 : Int32)), (0, .ref (ad G 5)), (1, .int a1), (2, .int a2)]) C dCo_votesFor_8 rfl (by decide) rfl ?_
    refine at_iconst C dCo_votesFor_9 ci_0 ?_
    refine at_istore (L' := [(4, .int (0 : Int32)), (3, .int (0 : Int32)), (0, .ref (ad G 5)), (1, .int a1), (2, .int a2)]) C dCo_votesFor_10 (by decide) rfl ?_
    obtain ⟨e3, he3, h⟩ := ob_some h
    refine at_loc (L' := [(0, .ref (ad G 5)), (1, .int a1), (2, .int a2), (3, .int (0 : Int32)), (4, .int (0 : Int32))]) [2, 3, 4, 1, 0] rfl ?_
    refine wCo_votesFor_l12 C _ _ FU _ _ _ he3 ?_
    refine at_iload_n (j := 0) C dCo_votesFor_40 rfl rfl ?_
    cases h
    exact at_iret C dCo_votesFor_41
  · replace h := ifp hc h
    refine at_iconst C dCo_votesFor_5 ci_0 ?_
    cases h
    exact at_iret C dCo_votesFor_6
