set_option maxRecDepth 100000 in
set_option maxHeartbeats 4000000 in
theorem wTL_bringDebts_l16 {G : GG} {X : CX} {c_TL_clock : Int32} {c_Co_told : (Nat → Nat → Int32)} {c_Co_readAs : (Nat → Int32)} {z1111112 : (Nat → Int32)} {z111112 : Z111112} {z11112 : Z11112} {z1112 : Z1112} {z1121 : Z1121} {z112211 : Z112211} {z1122212 : Int32} {z1211212 : (Nat → Int32)} {z121122 : (Nat → Int32)} {z1212 : Z1212} {z122 : Z122} {z2 : Z2} (C : Cx G X RcTL prog_1_method_27_code 3 4 none) {Q : State → Prop}  (a1 : Int32) : ∀ (n : Nat) (a2 : Int32) (c_Ac_unpaid : (Nat → Int32)) (c_Ac_owing : (Nat → Int32)) (c_Ac_gifts : (Nat → Int32)) (c_Ac_paidOff : (Nat → Int32)) (c_Ac_lateOfPaid : (Nat → Int64)) (E : ((Nat → Int32) × (Nat → Int32) × (Nat → Int32) × (Nat → Int32) × (Nat → Int64))) (h : fTL_bringDebts_l16 a1 c_Co_told c_Co_readAs n a2 c_Ac_unpaid c_Ac_owing c_Ac_gifts c_Ac_paidOff c_Ac_lateOfPaid = some E) (k0 : At G X 3 Q 45 [] [] (((((((c_TL_clock, z1111112), z111112), z11112), z1112), (z1121, ((z112211, c_Co_told), ((c_Co_readAs, z1122212), E.1)))), (((((E.2.1, E.2.2.1), E.2.2.2.1), ((E.2.2.2.2, z1211212), z121122)), z1212), z122)), z2)), At G X 3 Q 16 [(0, .ref (ad G 0)), (1, .int a1), (2, .int a2)] [] (((((((c_TL_clock, z1111112), z111112), z11112), z1112), (z1121, ((z112211, c_Co_told), ((c_Co_readAs, z1122212), c_Ac_unpaid)))), (((((c_Ac_owing, c_Ac_gifts), c_Ac_paidOff), ((c_Ac_lateOfPaid, z1211212), z121122)), z1212), z122)), z2) := by
  intro n
  induction n with
  | zero =>
    intro a2 c_Ac_unpaid c_Ac_owing c_Ac_gifts c_Ac_paidOff c_Ac_lateOfPaid E h k0
    rw [fTL_bringDebts_l16.eq_1] at h
    cases h
  | succ n ih =>
    intro a2 c_Ac_unpaid c_Ac_owing c_Ac_gifts c_Ac_paidOff c_Ac_lateOfPaid E h k0
    rw [fTL_bringDebts_l16.eq_2] at h
    refine at_iload_n (j := 2) C dTL_bringDebts_16 rfl rfl ?_
    refine at_bipush C dTL_bringDebts_17 cb_96 ?_
    refine at_icmp_ge C dTL_bringDebts_19 rfl (fun hc => ?_) (fun hc => ?_)
    · replace h := ifp hc h
      cases h
      refine at_loc (L' := []) [] rfl ?_
      exact k0
    · replace h := ifn hc h
      refine at_aload_n (j := 0) C dTL_bringDebts_22 rfl rfl ?_
      refine gfTL_accounts C dTL_bringDebts_23 ?_
      refine at_iload_n (j := 2) C dTL_bringDebts_26 rfl rfl ?_
      refine at_iload_n (j := 1) C dTL_bringDebts_27 rfl rfl ?_
      refine at_aload_n (j := 0) C dTL_bringDebts_28 rfl rfl ?_
      refine gfTL_copies C dTL_bringDebts_29 ?_
      refine at_iload_n (j := 2) C dTL_bringDebts_32 rfl rfl ?_
      obtain ⟨e1, he1, h⟩ := ob_some h
      refine at_callVi C kTL_153 (cCo_mostTold C.2.2.2.2.2.2.1 _ _ he1) (by omega) rfl rfl rfl rfl (Nat.le_of_ble_eq_true rfl) dTL_bringDebts_33 ?_
      obtain ⟨e2, he2, h⟩ := ob_some h
      refine at_callVv C kTL_253 (cAc_bringDebt C.2.2.2.2.2.2.1 _ _ _ _ he2) (by omega) rfl rfl rfl rfl (Nat.le_of_ble_eq_true rfl) dTL_bringDebts_36 ?_
      refine at_iinc (j := 2) (L' := [(2, .int (a2 + (1 : Int32))), (0, .ref (ad G 0)), (1, .int a1)]) C dTL_bringDebts_39 rfl ci_1 (by decide) rfl ?_
      refine at_goto C dTL_bringDebts_42 rfl ?_
      refine at_loc (L' := [(0, .ref (ad G 0)), (1, .int a1), (2, .int (a2 + (1 : Int32)))]) [1, 2, 0] rfl ?_
      exact ih _ _ _ _ _ _ _ h k0
set_option maxRecDepth 100000 in
set_option maxHeartbeats 4000000 in
theorem cTL_bringDebts {l : Launch} {G : GG} (hG : GOK G) {c_TL_clock : Int32} {c_Co_told : (Nat → Nat → Int32)} {c_Co_readAs : (Nat → Int32)} {c_Ac_unpaid : (Nat → Int32)} {c_Ac_owing : (Nat → Int32)} {c_Ac_gifts : (Nat → Int32)} {c_Ac_paidOff : (Nat → Int32)} {c_Ac_lateOfPaid : (Nat → Int64)} {z1111112 : (Nat → Int32)} {z111112 : Z111112} {z11112 : Z11112} {z1112 : Z1112} {z1121 : Z1121} {z112211 : Z112211} {z1122212 : Int32} {z1211212 : (Nat → Int32)} {z121122 : (Nat → Int32)} {z1212 : Z1212} {z122 : Z122} {z2 : Z2} (R : ((Nat → Int32) × (Nat → Int32) × (Nat → Int32) × (Nat → Int32) × (Nat → Int64))) (h : fTL_bringDebts c_TL_clock c_Co_told c_Co_readAs c_Ac_unpaid c_Ac_owing c_Ac_gifts c_Ac_paidOff c_Ac_lateOfPaid = some R) : Met l yTL_bringDebts (.code yTL_bringDebts prog_1_method_27_code 3 none :: gw) (rmm 4) (PcW G [.ref (ad G 0)] (((((((c_TL_clock, z1111112), z111112), z11112), z1112), (z1121, ((z112211, c_Co_told), ((c_Co_readAs, z1122212), c_Ac_unpaid)))), (((((c_Ac_owing, c_Ac_gifts), c_Ac_paidOff), ((c_Ac_lateOfPaid, z1211212), z121122)), z1212), z122)), z2)) (Qw G (none) (((((((c_TL_clock, z1111112), z111112), z11112), z1112), (z1121, ((z112211, c_Co_told), ((c_Co_readAs, z1122212), R.1)))), (((((R.2.1, R.2.2.1), R.2.2.2.1), ((R.2.2.2.2, z1211212), z121122)), z1212), z122)), z2)) 0 0 (Aw G) := by
  refine met_of (by decide) 4 G hG _ _ (Nat.le_of_ble_eq_true rfl) _ _ (fun X _ C => ?_)
  have C : Cx G X RcTL prog_1_method_27_code 3 4 none := C
  unfold fTL_bringDebts at h
  show At G X 3 _ 0 [(0, .ref (ad G 0))] [] (((((((c_TL_clock, z1111112), z111112), z11112), z1112), (z1121, ((z112211, c_Co_told), ((c_Co_readAs, z1122212), c_Ac_unpaid)))), (((((c_Ac_owing, c_Ac_gifts), c_Ac_paidOff), ((c_Ac_lateOfPaid, z1211212), z121122)), z1212), z122)), z2)
  refine at_aload_n (j := 0) C dTL_bringDebts_0 rfl rfl ?_
  refine gfTL_clock (x := c_TL_clock) C rfl dTL_bringDebts_1 ?_
  refine at_bipush C dTL_bringDebts_4 cb_90 ?_
  refine at_idiv C dTL_bringDebts_6 (by decide) ?_
  refine at_iconst C dTL_bringDebts_7 ci_1 ?_
  refine at_isub C dTL_bringDebts_8 ?_
  refine at_istore_n (L' := [(1, .int ((c_TL_clock / (90 : Int32)) - (1 : Int32))), (0, .ref (ad G 0))]) C dTL_bringDebts_9 rfl (by decide) rfl ?_
  refine at_iconst C dTL_bringDebts_10 ci_1 ?_
  refine at_iconst C dTL_bringDebts_11 ci_0 ?_
  refine at_callSi C kTL_147 (cTL_slot C.2.2.2.2.2.2.1 _ _ _ rfl) (by omega) rfl rfl (Nat.le_of_ble_eq_true rfl) dTL_bringDebts_12 ?_
  refine at_istore_n (L' := [(2, .int (fTL_slot (1 : Int32) (0 : Int32))), (1, .int ((c_TL_clock / (90 : Int32)) - (1 : Int32))), (0, .ref (ad G 0))]) C dTL_bringDebts_15 rfl (by decide) rfl ?_
  obtain ⟨e3, he3, h⟩ := ob_some h
  refine at_loc (L' := [(0, .ref (ad G 0)), (1, .int ((c_TL_clock / (90 : Int32)) - (1 : Int32))), (2, .int (fTL_slot (1 : Int32) (0 : Int32)))]) [2, 1, 0] rfl ?_
  refine wTL_bringDebts_l16 C _ FU _ _ _ _ _ _ _ he3 ?_
  cases h
  exact at_vret C dTL_bringDebts_45
set_option maxRecDepth 100000 in
set_option maxHeartbeats 4000000 in
theorem wTL_days_l26 {G : GG} {X : CX} {c_Co_told : (Nat → Nat → Int32)} {c_Co_readAs : (Nat → Int32)} {c_Se_count : Int32} {z1111112 : (Nat → Int32)} {z111112 : Z111112} {z11112 : Z11112} {z1112 : Z1112} {z1121 : Z1121} {z112211 : Z112211} {z1122212 : Int32} {z12122 : Z12122} {z122 : Z122} {z2 : Z2} (C : Cx G X RcTL prog_1_method_16_code 3 5 (some .int)) {Q : State → Prop}  (a1 : Int32) : ∀ (n : Nat) (a2 : Int32) (c_TL_clock : Int32) (c_Ac_unpaid : (Nat → Int32)) (c_Ac_owing : (Nat → Int32)) (c_Ac_gifts : (Nat → Int32)) (c_Ac_paidOff : (Nat → Int32)) (c_Ac_lateOfPaid : (Nat → Int64)) (c_Se_table : (Nat → Int32)) (c_Se_storedOrder : (Nat → Int32)) (c_Se_storedCount : Int32) (c_Se_storedPieces : Int32) (E : (Int32 × (Nat → Int32) × (Nat → Int32) × (Nat → Int32) × (Nat → Int32) × (Nat → Int64) × (Nat → Int32) × (Nat → Int32) × Int32 × Int32)) (h : fTL_days_l26 a1 c_Co_told c_Co_readAs c_Se_count n a2 c_TL_clock c_Ac_unpaid c_Ac_owing c_Ac_gifts c_Ac_paidOff c_Ac_lateOfPaid c_Se_table c_Se_storedOrder c_Se_storedCount c_Se_storedPieces = some E) (k0 : At G X 3 Q 65 [(0, .ref (ad G 0))] [] (((((((E.1, z1111112), z111112), z11112), z1112), (z1121, ((z112211, c_Co_told), ((c_Co_readAs, z1122212), E.2.1)))), (((((E.2.2.1, E.2.2.2.1), E.2.2.2.2.1), ((E.2.2.2.2.2.1, E.2.2.2.2.2.2.1), E.2.2.2.2.2.2.2.1)), (((E.2.2.2.2.2.2.2.2.1, E.2.2.2.2.2.2.2.2.2), c_Se_count), z12122)), z122)), z2)), At G X 3 Q 26 [(0, .ref (ad G 0)), (1, .int a1), (2, .int a2)] [] (((((((c_TL_clock, z1111112), z111112), z11112), z1112), (z1121, ((z112211, c_Co_told), ((c_Co_readAs, z1122212), c_Ac_unpaid)))), (((((c_Ac_owing, c_Ac_gifts), c_Ac_paidOff), ((c_Ac_lateOfPaid, c_Se_table), c_Se_storedOrder)), (((c_Se_storedCount, c_Se_storedPieces), c_Se_count), z12122)), z122)), z2) := by
  intro n
  induction n with
  | zero =>
    intro a2 c_TL_clock c_Ac_unpaid c_Ac_owing c_Ac_gifts c_Ac_paidOff c_Ac_lateOfPaid c_Se_table c_Se_storedOrder c_Se_storedCount c_Se_storedPieces E h k0
    rw [fTL_days_l26.eq_1] at h
    cases h
  | succ n ih =>
    intro a2 c_TL_clock c_Ac_unpaid c_Ac_owing c_Ac_gifts c_Ac_paidOff c_Ac_lateOfPaid c_Se_table c_Se_storedOrder c_Se_storedCount c_Se_storedPieces E h k0
    rw [fTL_days_l26.eq_2] at h
    refine at_iload_n (j := 2) C dTL_days_26 rfl rfl ?_
    refine at_iload_n (j := 1) C dTL_days_27 rfl rfl ?_
    refine at_icmp_ge C dTL_days_28 rfl (fun hc => ?_) (fun hc => ?_)
    · replace h := ifp hc h
      cases h
      refine at_loc (L' := [(0, .ref (ad G 0))]) [0] rfl ?_
      exact k0
    · replace h := ifn hc h
      refine at_aload_n (j := 0) C dTL_days_31 rfl rfl ?_
      refine at_dup C dTL_days_32 rfl ?_
      refine gfTL_clock (x := c_TL_clock) C rfl dTL_days_33 ?_
      refine at_iconst C dTL_days_36 ci_1 ?_
      refine at_iadd C dTL_days_37 ?_
      refine pfTL_clock C dTL_days_38 ?_
      refine at_st (S1 := ((((((((c_TL_clock + (1 : Int32)), z1111112), z111112), z11112), z1112), (z1121, ((z112211, c_Co_told), ((c_Co_readAs, z1122212), c_Ac_unpaid)))), (((((c_Ac_owing, c_Ac_gifts), c_Ac_paidOff), ((c_Ac_lateOfPaid, c_Se_table), c_Se_storedOrder)), (((c_Se_storedCount, c_Se_storedPieces), c_Se_count), z12122)), z122)), z2)) rfl ?_
      refine at_aload_n (j := 0) C dTL_days_41 rfl rfl ?_
      obtain ⟨e1, he1, h⟩ := ob_some h
      refine at_callVv C kTL_173 (cTL_storeArrivals C.2.2.2.2.2.2.1 _ he1) (by omega) rfl rfl rfl rfl (Nat.le_of_ble_eq_true rfl) dTL_days_42 ?_
      refine at_aload_n (j := 0) C dTL_days_45 rfl rfl ?_
      refine gfTL_clock (x := (c_TL_clock + (1 : Int32))) C rfl dTL_days_46 ?_
      refine at_bipush C dTL_days_49 cb_90 ?_
      refine at_irem C dTL_days_51 (by decide) ?_
      refine at_if_ne C dTL_days_52 rfl (fun hc => ?_) (fun hc => ?_)
      · replace h := ifn hc h
        refine at_iinc (j := 2) (L' := [(2, .int (a2 + (1 : Int32))), (0, .ref (ad G 0)), (1, .int a1)]) C dTL_days_59 rfl ci_1 (by decide) rfl ?_
        refine at_goto C dTL_days_62 rfl ?_
        refine at_loc (L' := [(0, .ref (ad G 0)), (1, .int a1), (2, .int (a2 + (1 : Int32)))]) [1, 2, 0] rfl ?_
        exact ih _ _ _ _ _ _ _ _ _ _ _ _ h k0
      · replace h := ifp hc h
        refine at_aload_n (j := 0) C dTL_days_55 rfl rfl ?_
        obtain ⟨e2, he2, h⟩ := ob_some h
        refine at_callVv C kTL_176 (cTL_bringDebts C.2.2.2.2.2.2.1 _ he2) (by omega) rfl rfl rfl rfl (Nat.le_of_ble_eq_true rfl) dTL_days_56 ?_
        refine at_iinc (j := 2) (L' := [(2, .int (a2 + (1 : Int32))), (0, .ref (ad G 0)), (1, .int a1)]) C dTL_days_59 rfl ci_1 (by decide) rfl ?_
        refine at_goto C dTL_days_62 rfl ?_
        refine at_loc (L' := [(0, .ref (ad G 0)), (1, .int a1), (2, .int (a2 + (1 : Int32)))]) [1, 2, 0] rfl ?_
        exact ih _ _ _ _ _ _ _ _ _ _ _ _ h k0
set_option maxRecDepth 100000 in
set_option maxHeartbeats 4000000 in
theorem cTL_days {l : Launch} {G : GG} (hG : GOK G) {c_TL_clock : Int32} {c_Co_told : (Nat → Nat → Int32)} {c_Co_readAs : (Nat → Int32)} {c_Ac_unpaid : (Nat → Int32)} {c_Ac_owing : (Nat → Int32)} {c_Ac_gifts : (Nat → Int32)} {c_Ac_paidOff : (Nat → Int32)} {c_Ac_lateOfPaid : (Nat → Int64)} {c_Se_table : (Nat → Int32)} {c_Se_storedOrder : (Nat → Int32)} {c_Se_storedCount : Int32} {c_Se_storedPieces : Int32} {c_Se_count : Int32} {z1111112 : (Nat → Int32)} {z111112 : Z111112} {z11112 : Z11112} {z1112 : Z1112} {z1121 : Z1121} {z112211 : Z112211} {z1122212 : Int32} {z12122 : Z12122} {z122 : Z122} {z2 : Z2} (a1 : Int32) (R : (Int32 × Int32 × (Nat → Int32) × (Nat → Int32) × (Nat → Int32) × (Nat → Int32) × (Nat → Int64) × (Nat → Int32) × (Nat → Int32) × Int32 × Int32)) (h : fTL_days a1 c_TL_clock c_Co_told c_Co_readAs c_Ac_unpaid c_Ac_owing c_Ac_gifts c_Ac_paidOff c_Ac_lateOfPaid c_Se_table c_Se_storedOrder c_Se_storedCount c_Se_storedPieces c_Se_count = some R) : Met l yTL_days (.code yTL_days prog_1_method_16_code 3 (some .int) :: gw) (rmm 5) (PcW G [.ref (ad G 0), .int a1] (((((((c_TL_clock, z1111112), z111112), z11112), z1112), (z1121, ((z112211, c_Co_told), ((c_Co_readAs, z1122212), c_Ac_unpaid)))), (((((c_Ac_owing, c_Ac_gifts), c_Ac_paidOff), ((c_Ac_lateOfPaid, c_Se_table), c_Se_storedOrder)), (((c_Se_storedCount, c_Se_storedPieces), c_Se_count), z12122)), z122)), z2)) (Qw G (some (.int R.1)) (((((((R.2.1, z1111112), z111112), z11112), z1112), (z1121, ((z112211, c_Co_told), ((c_Co_readAs, z1122212), R.2.2.1)))), (((((R.2.2.2.1, R.2.2.2.2.1), R.2.2.2.2.2.1), ((R.2.2.2.2.2.2.1, R.2.2.2.2.2.2.2.1), R.2.2.2.2.2.2.2.2.1)), (((R.2.2.2.2.2.2.2.2.2.1, R.2.2.2.2.2.2.2.2.2.2), c_Se_count), z12122)), z122)), z2)) 0 0 (Aw G) := by
  refine met_of (by decide) 5 G hG _ _ (Nat.le_of_ble_eq_true rfl) _ _ (fun X _ C => ?_)
  have C : Cx G X RcTL prog_1_method_16_code 3 5 (some .int) := C
  unfold fTL_days at h
  show At G X 3 _ 0 [(0, .ref (ad G 0)), (1, .int a1)] [] (((((((c_TL_clock, z1111112), z111112), z11112), z1112), (z1121, ((z112211, c_Co_told), ((c_Co_readAs, z1122212), c_Ac_unpaid)))), (((((c_Ac_owing, c_Ac_gifts), c_Ac_paidOff), ((c_Ac_lateOfPaid, c_Se_table), c_Se_storedOrder)), (((c_Se_storedCount, c_Se_storedPieces), c_Se_count), z12122)), z122)), z2)
  refine at_iload_n (j := 1) C dTL_days_0 rfl rfl ?_
  refine at_iconst C dTL_days_1 ci_1 ?_
  refine at_bipush C dTL_days_2 cb_100 ?_
  refine at_callSi C kTL_80 (cTL_within C.2.2.2.2.2.2.1 _ _ _ _ rfl) (by omega) rfl rfl (Nat.le_of_ble_eq_true rfl) dTL_days_4 ?_
  refine at_if_eq C dTL_days_7 rfl (fun hc => ?_) (fun hc => ?_)
  · replace h := ifp hc h
    refine at_iconst C dTL_days_22 ci_m1 ?_
    cases h
    exact at_iret C dTL_days_23
  · replace h := ifn hc h
    refine at_iload_n (j := 1) C dTL_days_10 rfl rfl ?_
    refine at_sipush C dTL_days_11 cs_3000 ?_
    refine at_aload_n (j := 0) C dTL_days_14 rfl rfl ?_
    refine gfTL_clock (x := c_TL_clock) C rfl dTL_days_15 ?_
    refine at_isub C dTL_days_18 ?_
    refine at_icmp_le C dTL_days_19 rfl (fun hc => ?_) (fun hc => ?_)
    · replace h := ifp hc h
      refine at_iconst C dTL_days_24 ci_0 ?_
      refine at_istore_n (L' := [(2, .int (0 : Int32)), (0, .ref (ad G 0)), (1, .int a1)]) C dTL_days_25 rfl (by decide) rfl ?_
      obtain ⟨e3, he3, h⟩ := ob_some h
      refine at_loc (L' := [(0, .ref (ad G 0)), (1, .int a1), (2, .int (0 : Int32))]) [1, 2, 0] rfl ?_
      refine wTL_days_l26 C _ FU _ _ _ _ _ _ _ _ _ _ _ _ he3 ?_
      refine at_aload_n (j := 0) C dTL_days_65 rfl rfl ?_
      refine gfTL_clock (x := e3.1) C rfl dTL_days_66 ?_
      cases h
      exact at_iret C dTL_days_69
    · replace h := ifn hc h
      refine at_iconst C dTL_days_22 ci_m1 ?_
      cases h
      exact at_iret C dTL_days_23
set_option maxRecDepth 100000 in
set_option maxHeartbeats 4000000 in
theorem cAc_paid {l : Launch} {G : GG} (hG : GOK G) {c_Ac_paidOff : (Nat → Int32)} {z11 : Z11} {z121111 : Z121111} {z12112 : Z12112} {z1212 : Z1212} {z122 : Z122} {z2 : Z2} (a1 : Int32) (R : Int32) (h : fAc_paid a1 c_Ac_paidOff = some R) : Met l yAc_paid (.code yAc_paid prog_2_method_8_code 2 (some .int) :: gw) (rmm 1) (PcW G [.ref (ad G 6), .int a1] ((z11, ((((z121111, c_Ac_paidOff), z12112), z1212), z122)), z2)) (Qw G (some (.int R)) ((z11, ((((z121111, c_Ac_paidOff), z12112), z1212), z122)), z2)) 0 0 (Aw G) := by
  refine met_of (by decide) 1 G hG _ _ (Nat.le_of_ble_eq_true rfl) _ _ (fun X _ C => ?_)
  have C : Cx G X RcAc prog_2_method_8_code 2 1 (some .int) := C
  unfold fAc_paid at h
  show At G X 2 _ 0 [(0, .ref (ad G 6)), (1, .int a1)] [] ((z11, ((((z121111, c_Ac_paidOff), z12112), z1212), z122)), z2)
  refine at_aload_n (j := 0) C dAc_paid_0 rfl rfl ?_
  refine gfAc_paidOff C dAc_paid_1 ?_
  refine at_iload_n (j := 1) C dAc_paid_4 rfl rfl ?_
  obtain ⟨hg1, h⟩ := gd_some h
  refine ldAc_paidOff (f := c_Ac_paidOff) C rfl hg1 dAc_paid_5 ?_
  cases h
  exact at_iret C dAc_paid_6
set_option maxRecDepth 100000 in
set_option maxHeartbeats 4000000 in
theorem wAc_oldestQuarter_l2 {G : GG} {X : CX} {c_Ac_unpaid : (Nat → Int32)} {z111 : Z111} {z1121 : Z1121} {z11221 : Z11221} {z112221 : Z112221} {z12 : Z12} {z2 : Z2} (C : Cx G X RcAc prog_2_method_9_code 3 1 (some .int)) {Q : State → Prop}  (a1 : Int32) : ∀ (n : Nat) (a2 : Int32) (E : Int32 ⊕ Unit) (h : fAc_oldestQuarter_l2 a1 c_Ac_unpaid n a2 = some E) (k0 : ∀ e, E = (Sum.inl e) → At G X 3 Q 22 [(2, .int e)] [] (((z111, (z1121, (z11221, (z112221, c_Ac_unpaid)))), z12), z2)) (k1 : ∀ e, E = (Sum.inr e) → At G X 3 Q 30 [] [] (((z111, (z1121, (z11221, (z112221, c_Ac_unpaid)))), z12), z2)), At G X 3 Q 2 [(0, .ref (ad G 6)), (1, .int a1), (2, .int a2)] [] (((z111, (z1121, (z11221, (z112221, c_Ac_unpaid)))), z12), z2) := by
  intro n
  induction n with
  | zero =>
    intro a2 E h k0 k1
    rw [fAc_oldestQuarter_l2.eq_1] at h
    cases h
  | succ n ih =>
    intro a2 E h k0 k1
    rw [fAc_oldestQuarter_l2.eq_2] at h
    refine at_iload_n (j := 2) C dAc_oldestQuarter_2 rfl rfl ?_
    refine at_bipush C dAc_oldestQuarter_3 cb_33 ?_
    refine at_icmp_ge C dAc_oldestQuarter_5 rfl (fun hc => ?_) (fun hc => ?_)
    · replace h := ifp hc h
      cases h
      refine at_loc (L' := []) [] rfl ?_
      exact k1 _ rfl
    · replace h := ifn hc h
      refine at_aload_n (j := 0) C dAc_oldestQuarter_8 rfl rfl ?_
      refine gfAc_unpaid C dAc_oldestQuarter_9 ?_
      refine at_iload_n (j := 1) C dAc_oldestQuarter_12 rfl rfl ?_
      refine at_bipush C dAc_oldestQuarter_13 cb_33 ?_
      refine at_imul C dAc_oldestQuarter_15 ?_
      refine at_iload_n (j := 2) C dAc_oldestQuarter_16 rfl rfl ?_
      refine at_iadd C dAc_oldestQuarter_17 ?_
      obtain ⟨hg1, h⟩ := gd_some h
      refine ldAc_unpaid (f := c_Ac_unpaid) C rfl hg1 dAc_oldestQuarter_18 ?_
      refine at_if_le C dAc_oldestQuarter_19 rfl (fun hc => ?_) (fun hc => ?_)
      · replace h := ifp hc h
        refine at_iinc (j := 2) (L' := [(2, .int (a2 + (1 : Int32))), (0, .ref (ad G 6)), (1, .int a1)]) C dAc_oldestQuarter_24 rfl ci_1 (by decide) rfl ?_
        refine at_goto C dAc_oldestQuarter_27 rfl ?_
        refine at_loc (L' := [(0, .ref (ad G 6)), (1, .int a1), (2, .int (a2 + (1 : Int32)))]) [1, 2, 0] rfl ?_
        exact ih _ _ h k0 k1
      · replace h := ifn hc h
        cases h
        refine at_loc (L' := [(2, .int a2)]) [2] rfl ?_
        exact k0 _ rfl
set_option maxRecDepth 100000 in
set_option maxHeartbeats 4000000 in
theorem cAc_oldestQuarter {l : Launch} {G : GG} (hG : GOK G) {c_Ac_unpaid : (Nat → Int32)} {z111 : Z111} {z1121 : Z1121} {z11221 : Z11221} {z112221 : Z112221} {z12 : Z12} {z2 : Z2} (a1 : Int32) (R : Int32) (h : fAc_oldestQuarter a1 c_Ac_unpaid = some R) : Met l yAc_oldestQuarter (.code yAc_oldestQuarter prog_2_method_9_code 3 (some .int) :: gw) (rmm 1) (PcW G [.ref (ad G 6), .int a1] (((z111, (z1121, (z11221, (z112221, c_Ac_unpaid)))), z12), z2)) (Qw G (some (.int R)) (((z111, (z1121, (z11221, (z112221, c_Ac_unpaid)))), z12), z2)) 0 0 (Aw G) := by
  refine met_of (by decide) 1 G hG _ _ (Nat.le_of_ble_eq_true rfl) _ _ (fun X _ C => ?_)
  have C : Cx G X RcAc prog_2_method_9_code 3 1 (some .int) := C
  unfold fAc_oldestQuarter at h
  show At G X 3 _ 0 [(0, .ref (ad G 6)), (1, .int a1)] [] (((z111, (z1121, (z11221, (z112221, c_Ac_unpaid)))), z12), z2)
  refine at_iconst C dAc_oldestQuarter_0 ci_0 ?_
  refine at_istore_n (L' := [(2, .int (0 : Int32)), (0, .ref (ad G 6)), (1, .int a1)]) C dAc_oldestQuarter_1 rfl (by decide) rfl ?_
  obtain ⟨e2, he2, h⟩ := ob_some h
  refine at_loc (L' := [(0, .ref (ad G 6)), (1, .int a1), (2, .int (0 : Int32))]) [1, 2, 0] rfl ?_
  rcases e2 with e3 | e4
  · simp only [Sum.elim_inl, Sum.elim_inr] at h
    refine wAc_oldestQuarter_l2 C _ FU _ _ he2 (fun e he => ?_) (fun e he => by cases he)
    cases he
    refine at_iload_n (j := 0) C dAc_oldestQuarter_22 rfl rfl ?_
    cases h
    exact at_iret C dAc_oldestQuarter_23
  · simp only [Sum.elim_inl, Sum.elim_inr] at h
    refine wAc_oldestQuarter_l2 C _ FU _ _ he2 (fun e he => by cases he) (fun e he => ?_)
    cases he
    refine at_iconst C dAc_oldestQuarter_30 ci_m1 ?_
    cases h
    exact at_iret C dAc_oldestQuarter_31
set_option maxRecDepth 100000 in
set_option maxHeartbeats 4000000 in
theorem cAc_gift {l : Launch} {G : GG} (hG : GOK G) {c_Ac_gifts : (Nat → Int32)} {z11 : Z11} {z1211111 : (Nat → Int32)} {z121112 : (Nat → Int32)} {z12112 : Z12112} {z1212 : Z1212} {z122 : Z122} {z2 : Z2} (a1 : Int32) (R : Int32) (h : fAc_gift a1 c_Ac_gifts = some R) : Met l yAc_gift (.code yAc_gift prog_2_method_7_code 2 (some .int) :: gw) (rmm 1) (PcW G [.ref (ad G 6), .int a1] ((z11, (((((z1211111, c_Ac_gifts), z121112), z12112), z1212), z122)), z2)) (Qw G (some (.int R)) ((z11, (((((z1211111, c_Ac_gifts), z121112), z12112), z1212), z122)), z2)) 0 0 (Aw G) := by
  refine met_of (by decide) 1 G hG _ _ (Nat.le_of_ble_eq_true rfl) _ _ (fun X _ C => ?_)
  have C : Cx G X RcAc prog_2_method_7_code 2 1 (some .int) := C
  unfold fAc_gift at h
  show At G X 2 _ 0 [(0, .ref (ad G 6)), (1, .int a1)] [] ((z11, (((((z1211111, c_Ac_gifts), z121112), z12112), z1212), z122)), z2)
  refine at_aload_n (j := 0) C dAc_gift_0 rfl rfl ?_
  refine gfAc_gifts C dAc_gift_1 ?_
  refine at_iload_n (j := 1) C dAc_gift_4 rfl rfl ?_
  obtain ⟨hg1, h⟩ := gd_some h
  refine ldAc_gifts (f := c_Ac_gifts) C rfl hg1 dAc_gift_5 ?_
  cases h
  exact at_iret C dAc_gift_6
set_option maxRecDepth 100000 in
set_option maxHeartbeats 4000000 in
theorem cAc_owing {l : Launch} {G : GG} (hG : GOK G) {c_Ac_owing : (Nat → Int32)} {z11 : Z11} {z1211112 : (Nat → Int32)} {z121112 : (Nat → Int32)} {z12112 : Z12112} {z1212 : Z1212} {z122 : Z122} {z2 : Z2} (a1 : Int32) (R : Int32) (h : fAc_owing a1 c_Ac_owing = some R) : Met l yAc_owing (.code yAc_owing prog_2_method_6_code 2 (some .int) :: gw) (rmm 1) (PcW G [.ref (ad G 6), .int a1] ((z11, (((((c_Ac_owing, z1211112), z121112), z12112), z1212), z122)), z2)) (Qw G (some (.int R)) ((z11, (((((c_Ac_owing, z1211112), z121112), z12112), z1212), z122)), z2)) 0 0 (Aw G) := by
  refine met_of (by decide) 1 G hG _ _ (Nat.le_of_ble_eq_true rfl) _ _ (fun X _ C => ?_)
  have C : Cx G X RcAc prog_2_method_6_code 2 1 (some .int) := C
  unfold fAc_owing at h
  show At G X 2 _ 0 [(0, .ref (ad G 6)), (1, .int a1)] [] ((z11, (((((c_Ac_owing, z1211112), z121112), z12112), z1212), z122)), z2)
  refine at_aload_n (j := 0) C dAc_owing_0 rfl rfl ?_
  refine gfAc_owing C dAc_owing_1 ?_
  refine at_iload_n (j := 1) C dAc_owing_4 rfl rfl ?_
  obtain ⟨hg1, h⟩ := gd_some h
  refine ldAc_owing (f := c_Ac_owing) C rfl hg1 dAc_owing_5 ?_
  cases h
  exact at_iret C dAc_owing_6
set_option maxRecDepth 100000 in
set_option maxHeartbeats 4000000 in
theorem cTL_account {l : Launch} {G : GG} (hG : GOK G) {c_Ac_unpaid : (Nat → Int32)} {c_Ac_owing : (Nat → Int32)} {c_Ac_gifts : (Nat → Int32)} {c_Ac_paidOff : (Nat → Int32)} {z111 : Z111} {z1121 : Z1121} {z11221 : Z11221} {z112221 : Z112221} {z12112 : Z12112} {z1212 : Z1212} {z122 : Z122} {z2 : Z2} (a1 : Int32) (a2 : Int32) (a3 : Int32) (R : Int32) (h : fTL_account a1 a2 a3 c_Ac_unpaid c_Ac_owing c_Ac_gifts c_Ac_paidOff = some R) : Met l yTL_account (.code yTL_account prog_1_method_17_code 5 (some .int) :: gw) (rmm 3) (PcW G [.ref (ad G 0), .int a1, .int a2, .int a3] (((z111, (z1121, (z11221, (z112221, c_Ac_unpaid)))), (((((c_Ac_owing, c_Ac_gifts), c_Ac_paidOff), z12112), z1212), z122)), z2)) (Qw G (some (.int R)) (((z111, (z1121, (z11221, (z112221, c_Ac_unpaid)))), (((((c_Ac_owing, c_Ac_gifts), c_Ac_paidOff), z12112), z1212), z122)), z2)) 0 0 (Aw G) := by
  refine met_of (by decide) 3 G hG _ _ (Nat.le_of_ble_eq_true rfl) _ _ (fun X _ C => ?_)
  have C : Cx G X RcTL prog_1_method_17_code 5 3 (some .int) := C
  unfold fTL_account at h
  show At G X 5 _ 0 [(0, .ref (ad G 0)), (1, .int a1), (2, .int a2), (3, .int a3)] [] (((z111, (z1121, (z11221, (z112221, c_Ac_unpaid)))), (((((c_Ac_owing, c_Ac_gifts), c_Ac_paidOff), z12112), z1212), z122)), z2)
  refine at_iload_n (j := 1) C dTL_account_0 rfl rfl ?_
  refine at_callSi C kTL_144 (cTL_isTown C.2.2.2.2.2.2.1 _ _ rfl) (by omega) rfl rfl (Nat.le_of_ble_eq_true rfl) dTL_account_1 ?_
  refine at_if_eq C dTL_account_4 rfl (fun hc => ?_) (fun hc => ?_)
  · replace h := ifp hc h
    refine at_iconst C dTL_account_14 ci_m1 ?_
    cases h
    exact at_iret C dTL_account_15
  · replace h := ifn hc h
    refine at_iload_n (j := 2) C dTL_account_7 rfl rfl ?_
    refine at_callSi C kTL_95 (cTL_isGood C.2.2.2.2.2.2.1 _ _ rfl) (by omega) rfl rfl (Nat.le_of_ble_eq_true rfl) dTL_account_8 ?_
    refine at_if_ne C dTL_account_11 rfl (fun hc => ?_) (fun hc => ?_)
    · replace h := ifn hc h
      refine at_iload_n (j := 1) C dTL_account_16 rfl rfl ?_
      refine at_iload_n (j := 2) C dTL_account_17 rfl rfl ?_
      refine at_callSi C kTL_147 (cTL_slot C.2.2.2.2.2.2.1 _ _ _ rfl) (by omega) rfl rfl (Nat.le_of_ble_eq_true rfl) dTL_account_18 ?_
      refine at_istore (L' := [(4, .int (fTL_slot a1 a2)), (0, .ref (ad G 0)), (1, .int a1), (2, .int a2), (3, .int a3)]) C dTL_account_21 (by decide) rfl ?_
      refine at_iload_n (j := 4) C dTL_account_23 rfl rfl ?_
      by_cases hc : a3 = (0 : Int32)
      · replace h := ifp hc h
        refine at_tin C (0 : Int32) hc dTL_account_24 (by decide) (by decide) rfl rfl ?_
        refine at_aload_n (j := 1) C dTL_account_56 rfl rfl ?_
        refine gfTL_accounts C dTL_account_57 ?_
        refine at_iload (j := 0) C dTL_account_60 rfl ?_
        obtain ⟨e1, he1, h⟩ := ob_some h
        refine at_callVi C kTL_179 (cAc_owing C.2.2.2.2.2.2.1 _ _ he1) (by omega) rfl rfl rfl rfl (Nat.le_of_ble_eq_true rfl) dTL_account_62 ?_
        cases h
        exact at_iret C dTL_account_65
      replace h := ifn hc h
      have hn0 := hc
      clear hc
      by_cases hc : a3 = (1 : Int32)
      · replace h := ifp hc h
        refine at_tin C (1 : Int32) hc dTL_account_24 (by decide) (by decide) rfl rfl ?_
        refine at_aload_n (j := 1) C dTL_account_66 rfl rfl ?_
        refine gfTL_accounts C dTL_account_67 ?_
        refine at_iload (j := 0) C dTL_account_70 rfl ?_
        obtain ⟨e2, he2, h⟩ := ob_some h
        refine at_callVi C kTL_182 (cAc_gift C.2.2.2.2.2.2.1 _ _ he2) (by omega) rfl rfl rfl rfl (Nat.le_of_ble_eq_true rfl) dTL_account_72 ?_
        cases h
        exact at_iret C dTL_account_75
      replace h := ifn hc h
      have hn1 := hc
      clear hc
      by_cases hc : a3 = (2 : Int32)
      · replace h := ifp hc h
        refine at_tin C (2 : Int32) hc dTL_account_24 (by decide) (by decide) rfl rfl ?_
        refine at_aload_n (j := 1) C dTL_account_76 rfl rfl ?_
        refine gfTL_accounts C dTL_account_77 ?_
        refine at_iload (j := 0) C dTL_account_80 rfl ?_
        obtain ⟨e3, he3, h⟩ := ob_some h
        refine at_callVi C kTL_185 (cAc_oldestQuarter C.2.2.2.2.2.2.1 _ _ he3) (by omega) rfl rfl rfl rfl (Nat.le_of_ble_eq_true rfl) dTL_account_82 ?_
        cases h
        exact at_iret C dTL_account_85
      replace h := ifn hc h
      have hn2 := hc
      clear hc
      by_cases hc : a3 = (3 : Int32)
      · replace h := ifp hc h
        refine at_tin C (3 : Int32) hc dTL_account_24 (by decide) (by decide) rfl rfl ?_
        refine at_aload_n (j := 1) C dTL_account_86 rfl rfl ?_
        refine gfTL_accounts C dTL_account_87 ?_
        refine at_iload (j := 0) C dTL_account_90 rfl ?_
        obtain ⟨e4, he4, h⟩ := ob_some h
        refine at_callVi C kTL_188 (cAc_paid C.2.2.2.2.2.2.1 _ _ he4) (by omega) rfl rfl rfl rfl (Nat.le_of_ble_eq_true rfl) dTL_account_92 ?_
        cases h
        exact at_iret C dTL_account_95
      replace h := ifn hc h
      have hn3 := hc
      clear hc
      refine at_tout C dTL_account_24 (by have := lv_neT hn0 (show ((0 : Int32)).toInt = 0 from by decide); have := lv_neT hn1 (show ((1 : Int32)).toInt = 1 from by decide); have := lv_neT hn2 (show ((2 : Int32)).toInt = 2 from by decide); have := lv_neT hn3 (show ((3 : Int32)).toInt = 3 from by decide); omega) rfl ?_
      refine at_iconst C dTL_account_96 ci_m1 ?_
      cases h
      exact at_iret C dTL_account_97
    · replace h := ifp hc h
      refine at_iconst C dTL_account_14 ci_m1 ?_
      cases h
      exact at_iret C dTL_account_15
set_option maxRecDepth 100000 in
set_option maxHeartbeats 4000000 in
theorem wAc_lateness_l20 {G : GG} {X : CX} {c_Ac_unpaid : (Nat → Int32)} {c_Ac_lateOfPaid : (Nat → Int64)} {z111 : Z111} {z1121 : Z1121} {z11221 : Z11221} {z112221 : Z112221} {z12111 : Z12111} {z1211212 : (Nat → Int32)} {z121122 : (Nat → Int32)} {z1212 : Z1212} {z122 : Z122} {z2 : Z2} (C : Cx G X RcAc prog_2_method_10_code 7 2 (some .long)) {Q : State → Prop}  (a1 : Int32) (a2 : Int32) (a5 : Int32) : ∀ (n : Nat) (a3 : Int64) (a6 : Int32) (E : Int64) (h : fAc_lateness_l20 a1 a2 a5 c_Ac_unpaid n a3 a6 = some E) (k0 : At G X 7 Q 63 [(0, .ref (ad G 6)), (1, .int a1), (2, .int a2), (3, .long E), (5, .int a5)] [] (((z111, (z1121, (z11221, (z112221, c_Ac_unpaid)))), (((z12111, ((c_Ac_lateOfPaid, z1211212), z121122)), z1212), z122)), z2)), At G X 7 Q 20 [(0, .ref (ad G 6)), (1, .int a1), (2, .int a2), (3, .long a3), (5, .int a5), (6, .int a6)] [] (((z111, (z1121, (z11221, (z112221, c_Ac_unpaid)))), (((z12111, ((c_Ac_lateOfPaid, z1211212), z121122)), z1212), z122)), z2) := by
  intro n
  induction n with
  | zero =>
    intro a3 a6 E h k0
    rw [fAc_lateness_l20.eq_1] at h
    cases h
  | succ n ih =>
    intro a3 a6 E h k0
    rw [fAc_lateness_l20.eq_2] at h
    refine at_iload (j := 5) C dAc_lateness_20 rfl ?_
    refine at_bipush C dAc_lateness_22 cb_33 ?_
    refine at_icmp_ge C dAc_lateness_24 rfl (fun hc => ?_) (fun hc => ?_)
    · replace h := ifp hc h
      cases h
      refine at_loc (L' := [(0, .ref (ad G 6)), (1, .int a1), (2, .int a2), (3, .long a3), (5, .int a5)]) [0, 1, 2, 3, 4] rfl ?_
      exact k0
    · replace h := ifn hc h
      refine at_lload_n (j := 3) C dAc_lateness_27 rfl rfl ?_
      refine at_aload_n (j := 0) C dAc_lateness_28 rfl rfl ?_
      refine gfAc_unpaid C dAc_lateness_29 ?_
      refine at_iload_n (j := 1) C dAc_lateness_32 rfl rfl ?_
      refine at_iload (j := 4) C dAc_lateness_33 rfl ?_
      refine at_callNi C kAc_46 (cTL_slot C.2.2.2.2.2.2.1 _ _ _ rfl) (by omega) rfl rfl (Nat.le_of_ble_eq_true rfl) dAc_lateness_35 ?_
      refine at_bipush C dAc_lateness_38 cb_33 ?_
      refine at_imul C dAc_lateness_40 ?_
      refine at_iload (j := 5) C dAc_lateness_41 rfl ?_
      refine at_iadd C dAc_lateness_43 ?_
      obtain ⟨hg2, h⟩ := gd_some h
      refine ldAc_unpaid (f := c_Ac_unpaid) C rfl hg2 dAc_lateness_44 ?_
      refine at_i2l C dAc_lateness_45 ?_
      refine at_iload_n (j := 2) C dAc_lateness_46 rfl rfl ?_
      refine at_iload (j := 5) C dAc_lateness_47 rfl ?_
      refine at_callSi C kAc_36 (cAc_comingDay C.2.2.2.2.2.2.1 _ _ rfl) (by omega) rfl rfl (Nat.le_of_ble_eq_true rfl) dAc_lateness_49 ?_
      refine at_isub C dAc_lateness_52 ?_
      refine at_i2l C dAc_lateness_53 ?_
      refine at_lmul C dAc_lateness_54 ?_
      refine at_ladd C dAc_lateness_55 ?_
      refine at_lstore_n (L' := [(3, .long (a3 + (((c_Ac_unpaid ((((fTL_slot a1 a5) * (33 : Int32)) + a6)).toNatClampNeg)).toInt64 * ((a2 - (fAc_comingDay a6))).toInt64))), (0, .ref (ad G 6)), (1, .int a1), (2, .int a2), (5, .int a5), (6, .int a6)]) C dAc_lateness_56 rfl (by decide) rfl ?_
      refine at_iinc (j := 5) (L' := [(6, .int (a6 + (1 : Int32))), (3, .long (a3 + (((c_Ac_unpaid ((((fTL_slot a1 a5) * (33 : Int32)) + a6)).toNatClampNeg)).toInt64 * ((a2 - (fAc_comingDay a6))).toInt64))), (0, .ref (ad G 6)), (1, .int a1), (2, .int a2), (5, .int a5)]) C dAc_lateness_57 rfl ci_1 (by decide) rfl ?_
      refine at_goto C dAc_lateness_60 rfl ?_
      refine at_loc (L' := [(0, .ref (ad G 6)), (1, .int a1), (2, .int a2), (3, .long (a3 + (((c_Ac_unpaid ((((fTL_slot a1 a5) * (33 : Int32)) + a6)).toNatClampNeg)).toInt64 * ((a2 - (fAc_comingDay a6))).toInt64))), (5, .int a5), (6, .int (a6 + (1 : Int32)))]) [2, 3, 4, 1, 5, 0] rfl ?_
      exact ih _ _ _ h k0
set_option maxRecDepth 100000 in
set_option maxHeartbeats 4000000 in
theorem wAc_lateness_l10 {G : GG} {X : CX} {c_Ac_unpaid : (Nat → Int32)} {c_Ac_lateOfPaid : (Nat → Int64)} {z111 : Z111} {z1121 : Z1121} {z11221 : Z11221} {z112221 : Z112221} {z12111 : Z12111} {z1211212 : (Nat → Int32)} {z121122 : (Nat → Int32)} {z1212 : Z1212} {z122 : Z122} {z2 : Z2} (C : Cx G X RcAc prog_2_method_10_code 7 2 (some .long)) {Q : State → Prop}  (a1 : Int32) (a2 : Int32) : ∀ (n : Nat) (a3 : Int64) (a5 : Int32) (E : Int64) (h : fAc_lateness_l10 a1 a2 c_Ac_unpaid n a3 a5 = some E) (k0 : At G X 7 Q 69 [(3, .long E)] [] (((z111, (z1121, (z11221, (z112221, c_Ac_unpaid)))), (((z12111, ((c_Ac_lateOfPaid, z1211212), z121122)), z1212), z122)), z2)), At G X 7 Q 10 [(0, .ref (ad G 6)), (1, .int a1), (2, .int a2), (3, .long a3), (5, .int a5)] [] (((z111, (z1121, (z11221, (z112221, c_Ac_unpaid)))), (((z12111, ((c_Ac_lateOfPaid, z1211212), z121122)), z1212), z122)), z2) := by
  intro n
  induction n with
  | zero =>
    intro a3 a5 E h k0
    rw [fAc_lateness_l10.eq_1] at h
    cases h
  | succ n ih =>
    intro a3 a5 E h k0
    rw [fAc_lateness_l10.eq_2] at h
    refine at_iload (j := 4) C dAc_lateness_10 rfl ?_
    refine at_bipush C dAc_lateness_12 cb_6 ?_
    refine at_icmp_ge C dAc_lateness_14 rfl (fun hc => ?_) (fun hc => ?_)
    · replace h := ifp hc h
      cases h
      refine at_loc (L' := [(3, .long a3)]) [3] rfl ?_
      exact k0
    · replace h := ifn hc h
      refine at_iconst C dAc_lateness_17 ci_0 ?_
      refine at_istore (L' := [(6, .int (0 : Int32)), (0, .ref (ad G 6)), (1, .int a1), (2, .int a2), (3, .long a3), (5, .int a5)]) C dAc_lateness_18 (by decide) rfl ?_
      obtain ⟨e3, he3, h⟩ := ob_some h
      refine at_loc (L' := [(0, .ref (ad G 6)), (1, .int a1), (2, .int a2), (3, .long a3), (5, .int a5), (6, .int (0 : Int32))]) [1, 2, 3, 4, 5, 0] rfl ?_
      refine wAc_lateness_l20 C _ _ _ FU _ _ _ he3 ?_
      refine at_iinc (j := 4) (L' := [(5, .int (a5 + (1 : Int32))), (0, .ref (ad G 6)), (1, .int a1), (2, .int a2), (3, .long e3)]) C dAc_lateness_63 rfl ci_1 (by decide) rfl ?_
      refine at_goto C dAc_lateness_66 rfl ?_
      refine at_loc (L' := [(0, .ref (ad G 6)), (1, .int a1), (2, .int a2), (3, .long e3), (5, .int (a5 + (1 : Int32)))]) [1, 2, 3, 4, 0] rfl ?_
      exact ih _ _ _ h k0
set_option maxRecDepth 100000 in
set_option maxHeartbeats 4000000 in
theorem cAc_lateness {l : Launch} {G : GG} (hG : GOK G) {c_Ac_unpaid : (Nat → Int32)} {c_Ac_lateOfPaid : (Nat → Int64)} {z111 : Z111} {z1121 : Z1121} {z11221 : Z11221} {z112221 : Z112221} {z12111 : Z12111} {z1211212 : (Nat → Int32)} {z121122 : (Nat → Int32)} {z1212 : Z1212} {z122 : Z122} {z2 : Z2} (a1 : Int32) (a2 : Int32) (R : Int64) (h : fAc_lateness a1 a2 c_Ac_unpaid c_Ac_lateOfPaid = some R) : Met l yAc_lateness (.code yAc_lateness prog_2_method_10_code 7 (some .long) :: gw) (rmm 2) (PcW G [.ref (ad G 6), .int a1, .int a2] (((z111, (z1121, (z11221, (z112221, c_Ac_unpaid)))), (((z12111, ((c_Ac_lateOfPaid, z1211212), z121122)), z1212), z122)), z2)) (Qw G (some (.long R)) (((z111, (z1121, (z11221, (z112221, c_Ac_unpaid)))), (((z12111, ((c_Ac_lateOfPaid, z1211212), z121122)), z1212), z122)), z2)) 0 0 (Aw G) := by
  refine met_of (by decide) 2 G hG _ _ (Nat.le_of_ble_eq_true rfl) _ _ (fun X _ C => ?_)
  have C : Cx G X RcAc prog_2_method_10_code 7 2 (some .long) := C
  unfold fAc_lateness at h
  show At G X 7 _ 0 [(0, .ref (ad G 6)), (1, .int a1), (2, .int a2)] [] (((z111, (z1121, (z11221, (z112221, c_Ac_unpaid)))), (((z12111, ((c_Ac_lateOfPaid, z1211212), z121122)), z1212), z122)), z2)
  refine at_aload_n (j := 0) C dAc_lateness_0 rfl rfl ?_
  refine gfAc_lateOfPaid C dAc_lateness_1 ?_
  refine at_iload_n (j := 1) C dAc_lateness_4 rfl rfl ?_
  obtain ⟨hg1, h⟩ := gd_some h
  refine ldAc_lateOfPaid (f := c_Ac_lateOfPaid) C rfl hg1 dAc_lateness_5 ?_
  refine at_lstore_n (L' := [(3, .long (c_Ac_lateOfPaid (a1).toNatClampNeg)), (0, .ref (ad G 6)), (1, .int a1), (2, .int a2)]) C dAc_lateness_6 rfl (by decide) rfl ?_
  refine at_iconst C dAc_lateness_7 ci_0 ?_
  refine at_istore (L' := [(5, .int (0 : Int32)), (3, .long (c_Ac_lateOfPaid (a1).toNatClampNeg)), (0, .ref (ad G 6)), (1, .int a1), (2, .int a2)]) C dAc_lateness_8 (by decide) rfl ?_
  obtain ⟨e4, he4, h⟩ := ob_some h
  refine at_loc (L' := [(0, .ref (ad G 6)), (1, .int a1), (2, .int a2), (3, .long (c_Ac_lateOfPaid (a1).toNatClampNeg)), (5, .int (0 : Int32))]) [2, 3, 4, 1, 0] rfl ?_
  refine wAc_lateness_l10 C _ _ FU _ _ _ he4 ?_
  refine at_lload_n (j := 0) C dAc_lateness_69 rfl rfl ?_
  cases h
  exact at_lret C dAc_lateness_70
set_option maxRecDepth 100000 in
set_option maxHeartbeats 4000000 in
theorem cTL_late {l : Launch} {G : GG} (hG : GOK G) {c_TL_clock : Int32} {c_Ac_unpaid : (Nat → Int32)} {c_Ac_lateOfPaid : (Nat → Int64)} {z1111112 : (Nat → Int32)} {z111112 : Z111112} {z11112 : Z11112} {z1112 : Z1112} {z1121 : Z1121} {z11221 : Z11221} {z112221 : Z112221} {z12111 : Z12111} {z1211212 : (Nat → Int32)} {z121122 : (Nat → Int32)} {z1212 : Z1212} {z122 : Z122} {z2 : Z2} (a1 : Int32) (R : Int64) (h : fTL_late a1 c_TL_clock c_Ac_unpaid c_Ac_lateOfPaid = some R) : Met l yTL_late (.code yTL_late prog_1_method_18_code 2 (some .long) :: gw) (rmm 3) (PcW G [.ref (ad G 0), .int a1] (((((((c_TL_clock, z1111112), z111112), z11112), z1112), (z1121, (z11221, (z112221, c_Ac_unpaid)))), (((z12111, ((c_Ac_lateOfPaid, z1211212), z121122)), z1212), z122)), z2)) (Qw G (some (.long R)) (((((((c_TL_clock, z1111112), z111112), z11112), z1112), (z1121, (z11221, (z112221, c_Ac_unpaid)))), (((z12111, ((c_Ac_lateOfPaid, z1211212), z121122)), z1212), z122)), z2)) 0 0 (Aw G) := by
  refine met_of (by decide) 3 G hG _ _ (Nat.le_of_ble_eq_true rfl) _ _ (fun X _ C => ?_)
  have C : Cx G X RcTL prog_1_method_18_code 2 3 (some .long) := C
  unfold fTL_late at h
  show At G X 2 _ 0 [(0, .ref (ad G 0)), (1, .int a1)] [] (((((((c_TL_clock, z1111112), z111112), z11112), z1112), (z1121, (z11221, (z112221, c_Ac_unpaid)))), (((z12111, ((c_Ac_lateOfPaid, z1211212), z121122)), z1212), z122)), z2)
  refine at_iload_n (j := 1) C dTL_late_0 rfl rfl ?_
  refine at_callSi C kTL_144 (cTL_isTown C.2.2.2.2.2.2.1 _ _ rfl) (by omega) rfl rfl (Nat.le_of_ble_eq_true rfl) dTL_late_1 ?_
  refine at_if_eq C dTL_late_4 rfl (fun hc => ?_) (fun hc => ?_)
  · replace h := ifp hc h
    refine at_ldc2 C qTL_195 dTL_late_22 ?_
    cases h
    exact at_lret C dTL_late_25
  · replace h := ifn hc h
    refine at_aload_n (j := 0) C dTL_late_7 rfl rfl ?_
    refine gfTL_accounts C dTL_late_8 ?_
    refine at_iload_n (j := 1) C dTL_late_11 rfl rfl ?_
    refine at_aload_n (j := 0) C dTL_late_12 rfl rfl ?_
    refine gfTL_clock (x := c_TL_clock) C rfl dTL_late_13 ?_
    obtain ⟨e1, he1, h⟩ := ob_some h
    refine at_callVl C kTL_191 (cAc_lateness C.2.2.2.2.2.2.1 _ _ _ he1) (by omega) rfl rfl rfl rfl (Nat.le_of_ble_eq_true rfl) dTL_late_16 ?_
    refine at_goto C dTL_late_19 rfl ?_
    cases h
    exact at_lret C dTL_late_25
set_option maxRecDepth 100000 in
set_option maxHeartbeats 4000000 in
theorem wSe_ofPiece_l4 {G : GG} {X : CX} {c_Se_table : (Nat → Int32)} {c_Se_storedOrder : (Nat → Int32)} {c_Se_storedCount : Int32} {z11 : Z11} {z12111 : Z12111} {z1211211 : (Nat → Int64)} {z1212112 : Int32} {z121212 : Int32} {z12122 : Z12122} {z122 : Z122} {z2 : Z2} (C : Cx G X RcSe prog_8_method_9_code 5 2 (some .int)) {Q : State → Prop}  : ∀ (n : Nat) (a2 : Int32) (a3 : Int32) (E : Int32 ⊕ Unit) (h : fSe_ofPiece_l4 c_Se_table c_Se_storedOrder c_Se_storedCount n a2 a3 = some E) (k0 : ∀ e, E = (Sum.inl e) → At G X 5 Q 31 [(0, .ref (ad G 7)), (3, .int e)] [] ((z11, (((z12111, ((z1211211, c_Se_table), c_Se_storedOrder)), (((c_Se_storedCount, z1212112), z121212), z12122)), z122)), z2)) (k1 : ∀ e, E = (Sum.inr e) → At G X 5 Q 49 [] [] ((z11, (((z12111, ((z1211211, c_Se_table), c_Se_storedOrder)), (((c_Se_storedCount, z1212112), z121212), z12122)), z122)), z2)), At G X 5 Q 4 [(0, .ref (ad G 7)), (2, .int a2), (3, .int a3)] [] ((z11, (((z12111, ((z1211211, c_Se_table), c_Se_storedOrder)), (((c_Se_storedCount, z1212112), z121212), z12122)), z122)), z2) := by
  intro n
  induction n with
  | zero =>
    intro a2 a3 E h k0 k1
    rw [fSe_ofPiece_l4.eq_1] at h
    cases h
  | succ n ih =>
    intro a2 a3 E h k0 k1
    rw [fSe_ofPiece_l4.eq_2] at h
    refine at_iload_n (j := 2) C dSe_ofPiece_4 rfl rfl ?_
    refine at_aload_n (j := 0) C dSe_ofPiece_5 rfl rfl ?_
    refine gfSe_storedCount (x := c_Se_storedCount) C rfl dSe_ofPiece_6 ?_
    refine at_icmp_ge C dSe_ofPiece_9 rfl (fun hc => ?_) (fun hc => ?_)
    · replace h := ifp hc h
      cases h
      refine at_loc (L' := []) [] rfl ?_
      exact k1 _ rfl
    · replace h := ifn hc h
      refine at_aload_n (j := 0) C dSe_ofPiece_12 rfl rfl ?_
      refine at_aload_n (j := 0) C dSe_ofPiece_13 rfl rfl ?_
      refine gfSe_storedOrder C dSe_ofPiece_14 ?_
      refine at_iload_n (j := 2) C dSe_ofPiece_17 rfl rfl ?_
      obtain ⟨hg1, h⟩ := gd_some h
      refine ldSe_storedOrder (f := c_Se_storedOrder) C rfl hg1 dSe_ofPiece_18 ?_
      refine at_iconst C dSe_ofPiece_19 ci_2 ?_
      obtain ⟨e2, he2, h⟩ := ob_some h
      refine at_callVi C kSe_28 (cSe_entry C.2.2.2.2.2.2.1 _ _ _ he2) (by omega) rfl rfl rfl rfl (Nat.le_of_ble_eq_true rfl) dSe_ofPiece_20 ?_
      refine at_istore (L' := [(4, .int e2), (0, .ref (ad G 7)), (2, .int a2), (3, .int a3)]) C dSe_ofPiece_23 (by decide) rfl ?_
      refine at_iload_n (j := 2) C dSe_ofPiece_25 rfl rfl ?_
      refine at_iload (j := 0) C dSe_ofPiece_26 rfl ?_
      refine at_icmp_ge C dSe_ofPiece_28 rfl (fun hc => ?_) (fun hc => ?_)
      · replace h := ifp hc h
        refine at_iload_n (j := 2) C dSe_ofPiece_38 rfl rfl ?_
        refine at_iload (j := 0) C dSe_ofPiece_39 rfl ?_
        refine at_isub C dSe_ofPiece_41 ?_
        refine at_istore_n (L' := [(2, .int (a2 - e2)), (4, .int e2), (0, .ref (ad G 7)), (3, .int a3)]) C dSe_ofPiece_42 rfl (by decide) rfl ?_
        refine at_iinc (j := 3) (L' := [(3, .int (a3 + (1 : Int32))), (2, .int (a2 - e2)), (4, .int e2), (0, .ref (ad G 7))]) C dSe_ofPiece_43 rfl ci_1 (by decide) rfl ?_
        refine at_goto C dSe_ofPiece_46 rfl ?_
        refine at_loc (L' := [(0, .ref (ad G 7)), (2, .int (a2 - e2)), (3, .int (a3 + (1 : Int32)))]) [3, 1, 0] rfl ?_
        exact ih _ _ _ h k0 k1
      · replace h := ifn hc h
        cases h
        refine at_loc (L' := [(0, .ref (ad G 7)), (3, .int a3)]) [1, 3] rfl ?_
        exact k0 _ rfl
set_option maxRecDepth 100000 in
set_option maxHeartbeats 4000000 in
theorem cSe_ofPiece {l : Launch} {G : GG} (hG : GOK G) {c_Se_table : (Nat → Int32)} {c_Se_storedOrder : (Nat → Int32)} {c_Se_storedCount : Int32} {z11 : Z11} {z12111 : Z12111} {z1211211 : (Nat → Int64)} {z1212112 : Int32} {z121212 : Int32} {z12122 : Z12122} {z122 : Z122} {z2 : Z2} (a1 : Int32) (R : Int32) (h : fSe_ofPiece a1 c_Se_table c_Se_storedOrder c_Se_storedCount = some R) : Met l ySe_ofPiece (.code ySe_ofPiece prog_8_method_9_code 5 (some .int) :: gw) (rmm 2) (PcW G [.ref (ad G 7), .int a1] ((z11, (((z12111, ((z1211211, c_Se_table), c_Se_storedOrder)), (((c_Se_storedCount, z1212112), z121212), z12122)), z122)), z2)) (Qw G (some (.int R)) ((z11, (((z12111, ((z1211211, c_Se_table), c_Se_storedOrder)), (((c_Se_storedCount, z1212112), z121212), z12122)), z122)), z2)) 0 0 (Aw G) := by
  refine met_of (by decide) 2 G hG _ _ (Nat.le_of_ble_eq_true rfl) _ _ (fun X _ C => ?_)
  have C : Cx G X RcSe prog_8_method_9_code 5 2 (some .int) := C
  unfold fSe_ofPiece at h
  show At G X 5 _ 0 [(0, .ref (ad G 7)), (1, .int a1)] [] ((z11, (((z12111, ((z1211211, c_Se_table), c_Se_storedOrder)), (((c_Se_storedCount, z1212112), z121212), z12122)), z122)), z2)
  refine at_iload_n (j := 1) C dSe_ofPiece_0 rfl rfl ?_
  refine at_istore_n (L' := [(2, .int a1), (0, .ref (ad G 7)), (1, .int a1)]) C dSe_ofPiece_1 rfl (by decide) rfl ?_
  refine at_iconst C dSe_ofPiece_2 ci_0 ?_
  refine at_istore_n (L' := [(3, .int (0 : Int32)), (2, .int a1), (0, .ref (ad G 7)), (1, .int a1)]) C dSe_ofPiece_3 rfl (by decide) rfl ?_
  obtain ⟨e3, he3, h⟩ := ob_some h
  refine at_loc (L' := [(0, .ref (ad G 7)), (2, .int a1), (3, .int (0 : Int32))]) [2, 1, 0] rfl ?_
  rcases e3 with e4 | e6
  · simp only [Sum.elim_inl, Sum.elim_inr] at h
    refine wSe_ofPiece_l4 C FU _ _ _ he3 (fun e he => ?_) (fun e he => by cases he)
    cases he
    refine at_aload_n (j := 0) C dSe_ofPiece_31 rfl rfl ?_
    refine gfSe_storedOrder C dSe_ofPiece_32 ?_
    refine at_iload_n (j := 1) C dSe_ofPiece_35 rfl rfl ?_
    obtain ⟨hg5, h⟩ := gd_some h
    refine ldSe_storedOrder (f := c_Se_storedOrder) C rfl hg5 dSe_ofPiece_36 ?_
    cases h
    exact at_iret C dSe_ofPiece_37
  · simp only [Sum.elim_inl, Sum.elim_inr] at h
    refine wSe_ofPiece_l4 C FU _ _ _ he3 (fun e he => by cases he) (fun e he => ?_)
    cases he
    refine at_iconst C dSe_ofPiece_49 ci_m1 ?_
    cases h
    exact at_iret C dSe_ofPiece_50
set_option maxRecDepth 100000 in
set_option maxHeartbeats 4000000 in
theorem cTL_piece {l : Launch} {G : GG} (hG : GOK G) {c_Se_table : (Nat → Int32)} {c_Se_storedOrder : (Nat → Int32)} {c_Se_storedCount : Int32} {z11 : Z11} {z12111 : Z12111} {z1211211 : (Nat → Int64)} {z1212112 : Int32} {z121212 : Int32} {z12122 : Z12122} {z122 : Z122} {z2 : Z2} (a1 : Int32) (R : Int32) (h : fTL_piece a1 c_Se_table c_Se_storedOrder c_Se_storedCount = some R) : Met l yTL_piece (.code yTL_piece prog_1_method_19_code 2 (some .int) :: gw) (rmm 3) (PcW G [.ref (ad G 0), .int a1] ((z11, (((z12111, ((z1211211, c_Se_table), c_Se_storedOrder)), (((c_Se_storedCount, z1212112), z121212), z12122)), z122)), z2)) (Qw G (some (.int R)) ((z11, (((z12111, ((z1211211, c_Se_table), c_Se_storedOrder)), (((c_Se_storedCount, z1212112), z121212), z12122)), z122)), z2)) 0 0 (Aw G) := by
  refine met_of (by decide) 3 G hG _ _ (Nat.le_of_ble_eq_true rfl) _ _ (fun X _ C => ?_)
  have C : Cx G X RcTL prog_1_method_19_code 2 3 (some .int) := C
  unfold fTL_piece at h
  show At G X 2 _ 0 [(0, .ref (ad G 0)), (1, .int a1)] [] ((z11, (((z12111, ((z1211211, c_Se_table), c_Se_storedOrder)), (((c_Se_storedCount, z1212112), z121212), z12122)), z122)), z2)
  refine at_iload_n (j := 1) C dTL_piece_0 rfl rfl ?_
  refine at_if_ge C dTL_piece_1 rfl (fun hc => ?_) (fun hc => ?_)
  · replace h := ifp hc h
    refine at_aload_n (j := 0) C dTL_piece_8 rfl rfl ?_
    refine gfTL_sendings C dTL_piece_9 ?_
    refine at_iload_n (j := 1) C dTL_piece_12 rfl rfl ?_
    obtain ⟨e1, he1, h⟩ := ob_some h
    refine at_callVi C kTL_197 (cSe_ofPiece C.2.2.2.2.2.2.1 _ _ he1) (by omega) rfl rfl rfl rfl (Nat.le_of_ble_eq_true rfl) dTL_piece_13 ?_
    cases h
    exact at_iret C dTL_piece_16
  · replace h := ifn hc h
    refine at_iconst C dTL_piece_4 ci_m1 ?_
    refine at_goto C dTL_piece_5 rfl ?_
    cases h
    exact at_iret C dTL_piece_16
set_option maxRecDepth 100000 in
set_option maxHeartbeats 4000000 in
theorem cMa_isFull {l : Launch} {G : GG} (hG : GOK G) {c_Ma_count : Int32} {z11 : Z11} {z121 : Z121} {z1221111 : (Nat → Int32)} {z122112 : (Nat → Int32)} {z12212 : Z12212} {z1222 : Z1222} {z2 : Z2} (R : Int32) (h : fMa_isFull c_Ma_count = R) : Met l yMa_isFull (.code yMa_isFull prog_5_method_2_code 1 (some .boolean) :: gw) (rmm 1) (PcW G [.ref (ad G 8)] ((z11, (z121, ((((z1221111, c_Ma_count), z122112), z12212), z1222))), z2)) (Qw G (some (.int R)) ((z11, (z121, ((((z1221111, c_Ma_count), z122112), z12212), z1222))), z2)) 0 0 (Aw G) := by
  refine met_of (by decide) 1 G hG _ _ (Nat.le_of_ble_eq_true rfl) _ _ (fun X _ C => ?_)
  have C : Cx G X RcMa prog_5_method_2_code 1 1 (some .boolean) := C
  unfold fMa_isFull at h
  show At G X 1 _ 0 [(0, .ref (ad G 8))] [] ((z11, (z121, ((((z1221111, c_Ma_count), z122112), z12212), z1222))), z2)
  refine at_aload_n (j := 0) C dMa_isFull_0 rfl rfl ?_
  refine gfMa_count (x := c_Ma_count) C rfl dMa_isFull_1 ?_
  refine at_bipush C dMa_isFull_4 cb_20 ?_
  refine at_icmp_lt C dMa_isFull_6 rfl (fun hc => ?_) (fun hc => ?_)
  · replace h := ifp hc h
    refine at_iconst C dMa_isFull_13 ci_0 ?_
    subst h
    exact at_zret (x := (0 : Int32)) C zn_0 dMa_isFull_14
  · replace h := ifn hc h
    refine at_iconst C dMa_isFull_9 ci_1 ?_
    refine at_goto C dMa_isFull_10 rfl ?_
    subst h
    exact at_zret (x := (1 : Int32)) C zn_1 dMa_isFull_14
set_option maxRecDepth 100000 in
set_option maxHeartbeats 4000000 in
theorem cMa_add {l : Launch} {G : GG} (hG : GOK G) {c_Ma_fromGood : (Nat → Int32)} {c_Ma_given : (Nat → Int32)} {c_Ma_toGood : (Nat → Int32)} {c_Ma_gained : (Nat → Int32)} {c_Ma_count : Int32} {z11 : Z11} {z1211 : Z1211} {z12121 : Z12121} {z122112 : (Nat → Int32)} {z12212 : Z12212} {z1222 : Z1222} {z2 : Z2} (a1 : Int32) (a2 : Int32) (a3 : Int32) (a4 : Int32) (R : (Int32 × (Nat → Int32) × (Nat → Int32) × (Nat → Int32) × (Nat → Int32) × Int32)) (h : fMa_add a1 a2 a3 a4 c_Ma_fromGood c_Ma_given c_Ma_toGood c_Ma_gained c_Ma_count = some R) : Met l yMa_add (.code yMa_add prog_5_method_4_code 5 (some .int) :: gw) (rmm 1) (PcW G [.ref (ad G 8), .int a1, .int a2, .int a3, .int a4] ((z11, ((z1211, (z12121, ((c_Ma_fromGood, c_Ma_given), c_Ma_toGood))), ((((c_Ma_gained, c_Ma_count), z122112), z12212), z1222))), z2)) (Qw G (some (.int R.1)) ((z11, ((z1211, (z12121, ((R.2.1, R.2.2.1), R.2.2.2.1))), ((((R.2.2.2.2.1, R.2.2.2.2.2), z122112), z12212), z1222))), z2)) 0 0 (Aw G) := by
  refine met_of (by decide) 1 G hG _ _ (Nat.le_of_ble_eq_true rfl) _ _ (fun X _ C => ?_)
  have C : Cx G X RcMa prog_5_method_4_code 5 1 (some .int) := C
  unfold fMa_add at h
  show At G X 5 _ 0 [(0, .ref (ad G 8)), (1, .int a1), (2, .int a2), (3, .int a3), (4, .int a4)] [] ((z11, ((z1211, (z12121, ((c_Ma_fromGood, c_Ma_given), c_Ma_toGood))), ((((c_Ma_gained, c_Ma_count), z122112), z12212), z1222))), z2)
  refine at_aload_n (j := 0) C dMa_add_0 rfl rfl ?_
  refine gfMa_fromGood C dMa_add_1 ?_
  refine at_aload_n (j := 0) C dMa_add_4 rfl rfl ?_
  refine gfMa_count (x := c_Ma_count) C rfl dMa_add_5 ?_
  refine at_iload_n (j := 1) C dMa_add_8 rfl rfl ?_
  obtain ⟨hg1, h⟩ := gd_some h
  refine svMa_fromGood C hg1 dMa_add_9 ?_
  refine at_st (S1 := ((z11, ((z1211, (z12121, (((upd c_Ma_fromGood (c_Ma_count).toNatClampNeg a1), c_Ma_given), c_Ma_toGood))), ((((c_Ma_gained, c_Ma_count), z122112), z12212), z1222))), z2)) rfl ?_
  refine at_aload_n (j := 0) C dMa_add_10 rfl rfl ?_
  refine gfMa_given C dMa_add_11 ?_
  refine at_aload_n (j := 0) C dMa_add_14 rfl rfl ?_
  refine gfMa_count (x := c_Ma_count) C rfl dMa_add_15 ?_
  refine at_iload_n (j := 2) C dMa_add_18 rfl rfl ?_
  obtain ⟨hg2, h⟩ := gd_some h
  refine svMa_given C hg2 dMa_add_19 ?_
  refine at_st (S1 := ((z11, ((z1211, (z12121, (((upd c_Ma_fromGood (c_Ma_count).toNatClampNeg a1), (upd c_Ma_given (c_Ma_count).toNatClampNeg a2)), c_Ma_toGood))), ((((c_Ma_gained, c_Ma_count), z122112), z12212), z1222))), z2)) rfl ?_
  refine at_aload_n (j := 0) C dMa_add_20 rfl rfl ?_
  refine gfMa_toGood C dMa_add_21 ?_
  refine at_aload_n (j := 0) C dMa_add_24 rfl rfl ?_
  refine gfMa_count (x := c_Ma_count) C rfl dMa_add_25 ?_
  refine at_iload_n (j := 3) C dMa_add_28 rfl rfl ?_
  obtain ⟨hg3, h⟩ := gd_some h
  refine svMa_toGood C hg3 dMa_add_29 ?_
  refine at_st (S1 := ((z11, ((z1211, (z12121, (((upd c_Ma_fromGood (c_Ma_count).toNatClampNeg a1), (upd c_Ma_given (c_Ma_count).toNatClampNeg a2)), (upd c_Ma_toGood (c_Ma_count).toNatClampNeg a3)))), ((((c_Ma_gained, c_Ma_count), z122112), z12212), z1222))), z2)) rfl ?_
  refine at_aload_n (j := 0) C dMa_add_30 rfl rfl ?_
  refine gfMa_gained C dMa_add_31 ?_
  refine at_aload_n (j := 0) C dMa_add_34 rfl rfl ?_
  refine gfMa_count (x := c_Ma_count) C rfl dMa_add_35 ?_
  refine at_iload (j := 4) C dMa_add_38 rfl ?_
  obtain ⟨hg4, h⟩ := gd_some h
  refine svMa_gained C hg4 dMa_add_40 ?_
  refine at_st (S1 := ((z11, ((z1211, (z12121, (((upd c_Ma_fromGood (c_Ma_count).toNatClampNeg a1), (upd c_Ma_given (c_Ma_count).toNatClampNeg a2)), (upd c_Ma_toGood (c_Ma_count).toNatClampNeg a3)))), (((((upd c_Ma_gained (c_Ma_count).toNatClampNeg a4), c_Ma_count), z122112), z12212), z1222))), z2)) rfl ?_
  refine at_aload_n (j := 0) C dMa_add_41 rfl rfl ?_
  refine at_dup C dMa_add_42 rfl ?_
  refine gfMa_count (x := c_Ma_count) C rfl dMa_add_43 ?_
  refine at_iconst C dMa_add_46 ci_1 ?_
  refine at_iadd C dMa_add_47 ?_
  refine pfMa_count C dMa_add_48 ?_
  refine at_st (S1 := ((z11, ((z1211, (z12121, (((upd c_Ma_fromGood (c_Ma_count).toNatClampNeg a1), (upd c_Ma_given (c_Ma_count).toNatClampNeg a2)), (upd c_Ma_toGood (c_Ma_count).toNatClampNeg a3)))), (((((upd c_Ma_gained (c_Ma_count).toNatClampNeg a4), (c_Ma_count + (1 : Int32))), z122112), z12212), z1222))), z2)) rfl ?_
  refine at_aload_n (j := 0) C dMa_add_51 rfl rfl ?_
  refine gfMa_count (x := (c_Ma_count + (1 : Int32))) C rfl dMa_add_52 ?_
  refine at_iconst C dMa_add_55 ci_1 ?_
  refine at_isub C dMa_add_56 ?_
  cases h
  exact at_iret C dMa_add_57
set_option maxRecDepth 100000 in
set_option maxHeartbeats 4000000 in
theorem cTL_market {l : Launch} {G : GG} (hG : GOK G) {c_Ma_fromGood : (Nat → Int32)} {c_Ma_given : (Nat → Int32)} {c_Ma_toGood : (Nat → Int32)} {c_Ma_gained : (Nat → Int32)} {c_Ma_count : Int32} {z11 : Z11} {z1211 : Z1211} {z12121 : Z12121} {z122112 : (Nat → Int32)} {z12212 : Z12212} {z1222 : Z1222} {z2 : Z2} (a1 : Int32) (a2 : Int32) (a3 : Int32) (a4 : Int32) (R : (Int32 × (Nat → Int32) × (Nat → Int32) × (Nat → Int32) × (Nat → Int32) × Int32)) (h : fTL_market a1 a2 a3 a4 c_Ma_fromGood c_Ma_given c_Ma_toGood c_Ma_gained c_Ma_count = some R) : Met l yTL_market (.code yTL_market prog_1_method_20_code 5 (some .int) :: gw) (rmm 3) (PcW G [.ref (ad G 0), .int a1, .int a2, .int a3, .int a4] ((z11, ((z1211, (z12121, ((c_Ma_fromGood, c_Ma_given), c_Ma_toGood))), ((((c_Ma_gained, c_Ma_count), z122112), z12212), z1222))), z2)) (Qw G (some (.int R.1)) ((z11, ((z1211, (z12121, ((R.2.1, R.2.2.1), R.2.2.2.1))), ((((R.2.2.2.2.1, R.2.2.2.2.2), z122112), z12212), z1222))), z2)) 0 0 (Aw G) := by
  refine met_of (by decide) 3 G hG _ _ (Nat.le_of_ble_eq_true rfl) _ _ (fun X _ C => ?_)
  have C : Cx G X RcTL prog_1_method_20_code 5 3 (some .int) := C
  unfold fTL_market at h
  show At G X 5 _ 0 [(0, .ref (ad G 0)), (1, .int a1), (2, .int a2), (3, .int a3), (4, .int a4)] [] ((z11, ((z1211, (z12121, ((c_Ma_fromGood, c_Ma_given), c_Ma_toGood))), ((((c_Ma_gained, c_Ma_count), z122112), z12212), z1222))), z2)
  refine at_iload_n (j := 1) C dTL_market_0 rfl rfl ?_
  refine at_callSi C kTL_95 (cTL_isGood C.2.2.2.2.2.2.1 _ _ rfl) (by omega) rfl rfl (Nat.le_of_ble_eq_true rfl) dTL_market_1 ?_
  refine at_if_eq C dTL_market_4 rfl (fun hc => ?_) (fun hc => ?_)
  · replace h := ifp hc h
    refine at_iconst C dTL_market_19 ci_m1 ?_
    cases h
    exact at_iret C dTL_market_20
  · replace h := ifn hc h
    refine at_iload_n (j := 3) C dTL_market_7 rfl rfl ?_
    refine at_callSi C kTL_95 (cTL_isGood C.2.2.2.2.2.2.1 _ _ rfl) (by omega) rfl rfl (Nat.le_of_ble_eq_true rfl) dTL_market_8 ?_
    refine at_if_eq C dTL_market_11 rfl (fun hc => ?_) (fun hc => ?_)
    · replace h := ifp hc h
      refine at_iconst C dTL_market_19 ci_m1 ?_
      cases h
      exact at_iret C dTL_market_20
    · replace h := ifn hc h
      refine at_iload_n (j := 1) C dTL_market_14 rfl rfl ?_
      refine at_iload_n (j := 3) C dTL_market_15 rfl rfl ?_
      refine at_icmp_ne C dTL_market_16 rfl (fun hc => ?_) (fun hc => ?_)
      · replace h := ifn hc h
        refine at_iload_n (j := 2) C dTL_market_21 rfl rfl ?_
        refine at_iconst C dTL_market_22 ci_1 ?_
        refine at_bipush C dTL_market_23 cb_99 ?_
        refine at_callSi C kTL_80 (cTL_within C.2.2.2.2.2.2.1 _ _ _ _ rfl) (by omega) rfl rfl (Nat.le_of_ble_eq_true rfl) dTL_market_25 ?_
        refine at_if_eq C dTL_market_28 rfl (fun hc => ?_) (fun hc => ?_)
        · replace h := ifp hc h
          refine at_iconst C dTL_market_52 ci_m1 ?_
          cases h
          exact at_iret C dTL_market_53
        · replace h := ifn hc h
          refine at_iload (j := 4) C dTL_market_31 rfl ?_
          refine at_iconst C dTL_market_33 ci_1 ?_
          refine at_bipush C dTL_market_34 cb_99 ?_
          refine at_callSi C kTL_80 (cTL_within C.2.2.2.2.2.2.1 _ _ _ _ rfl) (by omega) rfl rfl (Nat.le_of_ble_eq_true rfl) dTL_market_36 ?_
          refine at_if_eq C dTL_market_39 rfl (fun hc => ?_) (fun hc => ?_)
          · replace h := ifp hc h
            refine at_iconst C dTL_market_52 ci_m1 ?_
            cases h
            exact at_iret C dTL_market_53
          · replace h := ifn hc h
            refine at_aload_n (j := 0) C dTL_market_42 rfl rfl ?_
            refine gfTL_markets C dTL_market_43 ?_
            refine at_callVi C kTL_200 (cMa_isFull C.2.2.2.2.2.2.1 _ rfl) (by omega) rfl rfl rfl rfl (Nat.le_of_ble_eq_true rfl) dTL_market_46 ?_
            refine at_if_eq C dTL_market_49 rfl (fun hc => ?_) (fun hc => ?_)
            · replace h := ifp hc h
              refine at_aload_n (j := 0) C dTL_market_54 rfl rfl ?_
              refine gfTL_markets C dTL_market_55 ?_
              refine at_iload_n (j := 1) C dTL_market_58 rfl rfl ?_
              refine at_iload_n (j := 2) C dTL_market_59 rfl rfl ?_
              refine at_iload_n (j := 3) C dTL_market_60 rfl rfl ?_
              refine at_iload (j := 4) C dTL_market_61 rfl ?_
              obtain ⟨e1, he1, h⟩ := ob_some h
              refine at_callVi C kTL_201 (cMa_add C.2.2.2.2.2.2.1 _ _ _ _ _ he1) (by omega) rfl rfl rfl rfl (Nat.le_of_ble_eq_true rfl) dTL_market_63 ?_
              cases h
              exact at_iret C dTL_market_66
            · replace h := ifn hc h
              refine at_iconst C dTL_market_52 ci_m1 ?_
              cases h
              exact at_iret C dTL_market_53
      · replace h := ifp hc h
        refine at_iconst C dTL_market_19 ci_m1 ?_
        cases h
        exact at_iret C dTL_market_20
set_option maxRecDepth 100000 in
set_option maxHeartbeats 4000000 in
theorem cMa_keepIfBetter {l : Launch} {G : GG} (hG : GOK G) {c_Ma_trail : (Nat → Int32)} {c_Ma_found : (Nat → Int32)} {c_Ma_foundLength : Int32} {c_Ma_foundAmount : Int64} {z11 : Z11} {z121 : Z121} {z12211 : Z12211} {z1222112 : Int32} {z122212 : (Nat → Int32)} {z12222 : Z12222} {z2 : Z2} (a1 : Int64) (a3 : Int32) (R : ((Nat → Int32) × Int32 × Int64)) (h : fMa_keepIfBetter a1 a3 c_Ma_trail c_Ma_found c_Ma_foundLength c_Ma_foundAmount = some R) : Met l yMa_keepIfBetter (.code yMa_keepIfBetter prog_5_method_10_code 4 none :: gw) (rmm 1) (PcW G [.ref (ad G 8), .long a1, .int a3] ((z11, (z121, ((z12211, ((c_Ma_trail, c_Ma_found), c_Ma_foundLength)), (((c_Ma_foundAmount, z1222112), z122212), z12222)))), z2)) (Qw G (none) ((z11, (z121, ((z12211, ((c_Ma_trail, R.1), R.2.1)), (((R.2.2, z1222112), z122212), z12222)))), z2)) 0 0 (Aw G) := by
  refine met_of (by decide) 1 G hG _ _ (Nat.le_of_ble_eq_true rfl) _ _ (fun X _ C => ?_)
  have C : Cx G X RcMa prog_5_method_10_code 4 1 none := C
  unfold fMa_keepIfBetter at h
  show At G X 4 _ 0 [(0, .ref (ad G 8)), (1, .long a1), (3, .int a3)] [] ((z11, (z121, ((z12211, ((c_Ma_trail, c_Ma_found), c_Ma_foundLength)), (((c_Ma_foundAmount, z1222112), z122212), z12222)))), z2)
  refine at_lload_n (j := 1) C dMa_keepIfBetter_0 rfl rfl ?_
  refine at_aload_n (j := 0) C dMa_keepIfBetter_1 rfl rfl ?_
  refine gfMa_foundAmount (x := c_Ma_foundAmount) C rfl dMa_keepIfBetter_2 ?_
  refine at_lcmp C dMa_keepIfBetter_5 ?_
  refine at_if_gt C dMa_keepIfBetter_6 rfl (fun hc => ?_) (fun hc => ?_)
  · replace h := ifp hc h
    refine at_aload_n (j := 0) C dMa_keepIfBetter_26 rfl rfl ?_
    refine gfMa_trail C dMa_keepIfBetter_27 ?_
    refine at_iconst C dMa_keepIfBetter_30 ci_0 ?_
    refine at_aload_n (j := 0) C dMa_keepIfBetter_31 rfl rfl ?_
    refine gfMa_found C dMa_keepIfBetter_32 ?_
    refine at_iconst C dMa_keepIfBetter_35 ci_0 ?_
    refine at_iload_n (j := 2) C dMa_keepIfBetter_36 rfl rfl ?_
    obtain ⟨hg1, h⟩ := gd_some h
    refine at_acopy C jMa_65 36 37 sMa_found rfl rfl (fun _ => rfl) hg1 (by omega) (Nat.le_of_ble_eq_true rfl) dMa_keepIfBetter_37 ?_
    refine at_st (S1 := ((z11, (z121, ((z12211, ((c_Ma_trail, (cpyI c_Ma_trail c_Ma_found (0 : Int32) (0 : Int32) a3)), c_Ma_foundLength)), (((c_Ma_foundAmount, z1222112), z122212), z12222)))), z2)) rfl ?_
    refine at_aload_n (j := 0) C dMa_keepIfBetter_40 rfl rfl ?_
    refine at_iload_n (j := 2) C dMa_keepIfBetter_41 rfl rfl ?_
    refine pfMa_foundLength C dMa_keepIfBetter_42 ?_
    refine at_st (S1 := ((z11, (z121, ((z12211, ((c_Ma_trail, (cpyI c_Ma_trail c_Ma_found (0 : Int32) (0 : Int32) a3)), a3)), (((c_Ma_foundAmount, z1222112), z122212), z12222)))), z2)) rfl ?_
    refine at_aload_n (j := 0) C dMa_keepIfBetter_45 rfl rfl ?_
    refine at_lload_n (j := 1) C dMa_keepIfBetter_46 rfl rfl ?_
    refine pfMa_foundAmount C dMa_keepIfBetter_47 ?_
    refine at_st (S1 := ((z11, (z121, ((z12211, ((c_Ma_trail, (cpyI c_Ma_trail c_Ma_found (0 : Int32) (0 : Int32) a3)), a3)), (((a1, z1222112), z122212), z12222)))), z2)) rfl ?_
    cases h
    exact at_vret C dMa_keepIfBetter_50
  · replace h := ifn hc h
    refine at_lload_n (j := 1) C dMa_keepIfBetter_9 rfl rfl ?_
    refine at_aload_n (j := 0) C dMa_keepIfBetter_10 rfl rfl ?_
    refine gfMa_foundAmount (x := c_Ma_foundAmount) C rfl dMa_keepIfBetter_11 ?_
    refine at_lcmp C dMa_keepIfBetter_14 ?_
    refine at_if_ne C dMa_keepIfBetter_15 rfl (fun hc => ?_) (fun hc => ?_)
    · replace h := ifn hc h
      cases h
      exact at_vret C dMa_keepIfBetter_50
    · replace h := ifp hc h
      refine at_iload_n (j := 2) C dMa_keepIfBetter_18 rfl rfl ?_
      refine at_aload_n (j := 0) C dMa_keepIfBetter_19 rfl rfl ?_
      refine gfMa_foundLength (x := c_Ma_foundLength) C rfl dMa_keepIfBetter_20 ?_
      refine at_icmp_ge C dMa_keepIfBetter_23 rfl (fun hc => ?_) (fun hc => ?_)
      · replace h := ifp hc h
        cases h
        exact at_vret C dMa_keepIfBetter_50
      · replace h := ifn hc h
        refine at_aload_n (j := 0) C dMa_keepIfBetter_26 rfl rfl ?_
        refine gfMa_trail C dMa_keepIfBetter_27 ?_
        refine at_iconst C dMa_keepIfBetter_30 ci_0 ?_
        refine at_aload_n (j := 0) C dMa_keepIfBetter_31 rfl rfl ?_
        refine gfMa_found C dMa_keepIfBetter_32 ?_
        refine at_iconst C dMa_keepIfBetter_35 ci_0 ?_
        refine at_iload_n (j := 2) C dMa_keepIfBetter_36 rfl rfl ?_
        obtain ⟨hg2, h⟩ := gd_some h
        refine at_acopy C jMa_65 36 37 sMa_found rfl rfl (fun _ => rfl) hg2 (by omega) (Nat.le_of_ble_eq_true rfl) dMa_keepIfBetter_37 ?_
        refine at_st (S1 := ((z11, (z121, ((z12211, ((c_Ma_trail, (cpyI c_Ma_trail c_Ma_found (0 : Int32) (0 : Int32) a3)), c_Ma_foundLength)), (((c_Ma_foundAmount, z1222112), z122212), z12222)))), z2)) rfl ?_
        refine at_aload_n (j := 0) C dMa_keepIfBetter_40 rfl rfl ?_
        refine at_iload_n (j := 2) C dMa_keepIfBetter_41 rfl rfl ?_
        refine pfMa_foundLength C dMa_keepIfBetter_42 ?_
        refine at_st (S1 := ((z11, (z121, ((z12211, ((c_Ma_trail, (cpyI c_Ma_trail c_Ma_found (0 : Int32) (0 : Int32) a3)), a3)), (((c_Ma_foundAmount, z1222112), z122212), z12222)))), z2)) rfl ?_
        refine at_aload_n (j := 0) C dMa_keepIfBetter_45 rfl rfl ?_
        refine at_lload_n (j := 1) C dMa_keepIfBetter_46 rfl rfl ?_
        refine pfMa_foundAmount C dMa_keepIfBetter_47 ?_
        refine at_st (S1 := ((z11, (z121, ((z12211, ((c_Ma_trail, (cpyI c_Ma_trail c_Ma_found (0 : Int32) (0 : Int32) a3)), a3)), (((a1, z1222112), z122212), z12222)))), z2)) rfl ?_
        cases h
        exact at_vret C dMa_keepIfBetter_50
set_option maxRecDepth 100000 in
set_option maxHeartbeats 4000000 in
theorem cMa_exchanged {l : Launch} {G : GG} (hG : GOK G) {c_Ma_given : (Nat → Int32)} {c_Ma_gained : (Nat → Int32)} {z11 : Z11} {z1211 : Z1211} {z12121 : Z12121} {z1212211 : (Nat → Int32)} {z121222 : (Nat → Int32)} {z1221112 : Int32} {z122112 : (Nat → Int32)} {z12212 : Z12212} {z1222 : Z1222} {z2 : Z2} (a1 : Int64) (a3 : Int32) (R : Int64) (h : fMa_exchanged a1 a3 c_Ma_given c_Ma_gained = some R) : Met l yMa_exchanged (.code yMa_exchanged prog_5_method_9_code 5 (some .long) :: gw) (rmm 1) (PcW G [.ref (ad G 8), .long a1, .int a3] ((z11, ((z1211, (z12121, ((z1212211, c_Ma_given), z121222))), ((((c_Ma_gained, z1221112), z122112), z12212), z1222))), z2)) (Qw G (some (.long R)) ((z11, ((z1211, (z12121, ((z1212211, c_Ma_given), z121222))), ((((c_Ma_gained, z1221112), z122112), z12212), z1222))), z2)) 0 0 (Aw G) := by
  refine met_of (by decide) 1 G hG _ _ (Nat.le_of_ble_eq_true rfl) _ _ (fun X _ C => ?_)
  have C : Cx G X RcMa prog_5_method_9_code 5 1 (some .long) := C
  unfold fMa_exchanged at h
  show At G X 5 _ 0 [(0, .ref (ad G 8)), (1, .long a1), (3, .int a3)] [] ((z11, ((z1211, (z12121, ((z1212211, c_Ma_given), z121222))), ((((c_Ma_gained, z1221112), z122112), z12212), z1222))), z2)
  refine at_iconst C dMa_exchanged_0 ci_1 ?_
  refine at_aload_n (j := 0) C dMa_exchanged_1 rfl rfl ?_
  refine gfMa_given C dMa_exchanged_2 ?_
  refine at_iload_n (j := 2) C dMa_exchanged_5 rfl rfl ?_
  obtain ⟨hg1, h⟩ := gd_some h
  refine ldMa_given (f := c_Ma_given) C rfl hg1 dMa_exchanged_6 ?_
  refine at_mmax C jMa_79 (by omega) (Nat.le_of_ble_eq_true rfl) dMa_exchanged_7 ?_
  refine at_istore (L' := [(4, .int (if (1 : Int32) < (c_Ma_given (a3).toNatClampNeg) then (c_Ma_given (a3).toNatClampNeg) else (1 : Int32))), (0, .ref (ad G 8)), (1, .long a1), (3, .int a3)]) C dMa_exchanged_10 (by decide) rfl ?_
  refine at_lload_n (j := 2) C dMa_exchanged_12 rfl rfl ?_
  refine at_iload (j := 0) C dMa_exchanged_13 rfl ?_
  refine at_i2l C dMa_exchanged_15 ?_
  obtain ⟨hg2, h⟩ := gd_some h
  refine at_ldiv C dMa_exchanged_16 hg2 ?_
  refine at_aload_n (j := 1) C dMa_exchanged_17 rfl rfl ?_
  refine gfMa_gained C dMa_exchanged_18 ?_
  refine at_iload_n (j := 3) C dMa_exchanged_21 rfl rfl ?_
  obtain ⟨hg3, h⟩ := gd_some h
  refine ldMa_gained (f := c_Ma_gained) C rfl hg3 dMa_exchanged_22 ?_
  refine at_i2l C dMa_exchanged_23 ?_
  refine at_lmul C dMa_exchanged_24 ?_
  cases h
  exact at_lret C dMa_exchanged_25
set_option maxRecDepth 100000 in
set_option maxHeartbeats 4000000 in
theorem wMa_search_l26 {G : GG} {X : CX} {c_Ma_fromGood : (Nat → Int32)} {c_Ma_given : (Nat → Int32)} {c_Ma_toGood : (Nat → Int32)} {c_Ma_gained : (Nat → Int32)} {c_Ma_count : Int32} {c_Ma_goal : Int32} {z11 : Z11} {z1211 : Z1211} {z12121 : Z12121} {z122212 : (Nat → Int32)} {z12222 : Z12222} {z2 : Z2} {lv j : Nat} (hlv : 2 ≤ lv) (C : Cx G X RcMa prog_5_method_8_code 7 lv none) {Q : State → Prop} (rec : Int32 → Int64 → Int32 → (Nat → Int32) → (Nat → Int32) → (Nat → Int32) → (Nat → Int32) → Int32 → (Nat → Int32) → (Nat → Int32) → (Nat → Int32) → Int32 → Int64 → Int32 → Option ((Nat → Int32) × (Nat → Int32) × (Nat → Int32) × Int32 × Int64)) (hrec : ∀ (c_Ma_fromGood : (Nat → Int32)) (c_Ma_given : (Nat → Int32)) (c_Ma_toGood : (Nat → Int32)) (c_Ma_gained : (Nat → Int32)) (c_Ma_count : Int32) (c_Ma_visited : (Nat → Int32)) (c_Ma_trail : (Nat → Int32)) (c_Ma_found : (Nat → Int32)) (c_Ma_foundLength : Int32) (c_Ma_foundAmount : Int64) (c_Ma_goal : Int32) (z11 : Z11) (z1211 : Z1211) (z12121 : Z12121) (z122212 : (Nat → Int32)) (z12222 : Z12222) (z2 : Z2) (a1 : Int32) (a2 : Int64) (a4 : Int32) (R : ((Nat → Int32) × (Nat → Int32) × (Nat → Int32) × Int32 × Int64)), rec a1 a2 a4 c_Ma_fromGood c_Ma_given c_Ma_toGood c_Ma_gained c_Ma_count c_Ma_visited c_Ma_trail c_Ma_found c_Ma_foundLength c_Ma_foundAmount c_Ma_goal = some R → Met (xl X) yMa_search (.code yMa_search prog_5_method_8_code 7 none :: gw) (rmm j) (PcW G [.ref (ad G 8), .int a1, .long a2, .int a4] ((z11, ((z1211, (z12121, ((c_Ma_fromGood, c_Ma_given), c_Ma_toGood))), ((((c_Ma_gained, c_Ma_count), c_Ma_visited), ((c_Ma_trail, c_Ma_found), c_Ma_foundLength)), (((c_Ma_foundAmount, c_Ma_goal), z122212), z12222)))), z2)) (Qw G (none) ((z11, ((z1211, (z12121, ((c_Ma_fromGood, c_Ma_given), c_Ma_toGood))), ((((c_Ma_gained, c_Ma_count), R.1), ((R.2.1, R.2.2.1), R.2.2.2.1)), (((R.2.2.2.2, c_Ma_goal), z122212), z12222)))), z2)) 0 0 (Aw G)) (hrj : j < lv) (a1 : Int32) (a2 : Int64) (a4 : Int32) : ∀ (n : Nat) (a5 : Int32) (c_Ma_visited : (Nat → Int32)) (c_Ma_trail : (Nat → Int32)) (c_Ma_found : (Nat → Int32)) (c_Ma_foundLength : Int32) (c_Ma_foundAmount : Int64) (E : ((Nat → Int32) × (Nat → Int32) × (Nat → Int32) × Int32 × Int64)) (h : fMa_search_l26 rec a1 a2 a4 c_Ma_fromGood c_Ma_given c_Ma_toGood c_Ma_gained c_Ma_count c_Ma_goal n a5 c_Ma_visited c_Ma_trail c_Ma_found c_Ma_foundLength c_Ma_foundAmount = some E) (k0 : At G X 7 Q 113 [] [] ((z11, ((z1211, (z12121, ((c_Ma_fromGood, c_Ma_given), c_Ma_toGood))), ((((c_Ma_gained, c_Ma_count), E.1), ((E.2.1, E.2.2.1), E.2.2.2.1)), (((E.2.2.2.2, c_Ma_goal), z122212), z12222)))), z2)), At G X 7 Q 26 [(0, .ref (ad G 8)), (1, .int a1), (2, .long a2), (4, .int a4), (5, .int a5)] [] ((z11, ((z1211, (z12121, ((c_Ma_fromGood, c_Ma_given), c_Ma_toGood))), ((((c_Ma_gained, c_Ma_count), c_Ma_visited), ((c_Ma_trail, c_Ma_found), c_Ma_foundLength)), (((c_Ma_foundAmount, c_Ma_goal), z122212), z12222)))), z2) := by
  intro n
  induction n with
  | zero =>
    intro a5 c_Ma_visited c_Ma_trail c_Ma_found c_Ma_foundLength c_Ma_foundAmount E h k0
    rw [fMa_search_l26.eq_1] at h
    cases h
  | succ n ih =>
    intro a5 c_Ma_visited c_Ma_trail c_Ma_found c_Ma_foundLength c_Ma_foundAmount E h k0
    rw [fMa_search_l26.eq_2] at h
    refine at_iload (j := 4) C dMa_search_26 rfl ?_
    refine at_aload_n (j := 0) C dMa_search_28 rfl rfl ?_
    refine gfMa_count (x := c_Ma_count) C rfl dMa_search_29 ?_
    refine at_icmp_ge C dMa_search_32 rfl (fun hc => ?_) (fun hc => ?_)
    · replace h := ifp hc h
      cases h
      refine at_loc (L' := []) [] rfl ?_
      exact k0
    · replace h := ifn hc h
      refine at_aload_n (j := 0) C dMa_search_35 rfl rfl ?_
      refine gfMa_toGood C dMa_search_36 ?_
      refine at_iload (j := 4) C dMa_search_39 rfl ?_
      obtain ⟨hg1, h⟩ := gd_some h
      refine ldMa_toGood (f := c_Ma_toGood) C rfl hg1 dMa_search_41 ?_
      refine at_istore (L' := [(6, .int (c_Ma_toGood (a5).toNatClampNeg)), (0, .ref (ad G 8)), (1, .int a1), (2, .long a2), (4, .int a4), (5, .int a5)]) C dMa_search_42 (by decide) rfl ?_
      refine at_aload_n (j := 1) C dMa_search_44 rfl rfl ?_
      refine gfMa_fromGood C dMa_search_45 ?_
      refine at_iload (j := 5) C dMa_search_48 rfl ?_
      obtain ⟨hg2, h⟩ := gd_some h
      refine ldMa_fromGood (f := c_Ma_fromGood) C rfl hg2 dMa_search_50 ?_
      refine at_iload_n (j := 2) C dMa_search_51 rfl rfl ?_
      refine at_icmp_ne C dMa_search_52 rfl (fun hc => ?_) (fun hc => ?_)
      · replace h := ifn hc h
        refine at_iinc (j := 5) (L' := [(5, .int (a5 + (1 : Int32))), (6, .int (c_Ma_toGood (a5).toNatClampNeg)), (0, .ref (ad G 8)), (1, .int a1), (2, .long a2), (4, .int a4)]) C dMa_search_107 rfl ci_1 (by decide) rfl ?_
        refine at_goto C dMa_search_110 rfl ?_
        refine at_loc (L' := [(0, .ref (ad G 8)), (1, .int a1), (2, .long a2), (4, .int a4), (5, .int (a5 + (1 : Int32)))]) [2, 3, 4, 5, 0] rfl ?_
        exact ih _ _ _ _ _ _ _ h k0
      · replace h := ifp hc h
        refine at_aload_n (j := 1) C dMa_search_55 rfl rfl ?_
        refine gfMa_visited C dMa_search_56 ?_
        refine at_iload (j := 0) C dMa_search_59 rfl ?_
        obtain ⟨hg3, h⟩ := gd_some h
        refine ldMa_visited (f := c_Ma_visited) C rfl hg3 dMa_search_61 ?_
        refine at_if_ne C dMa_search_62 rfl (fun hc => ?_) (fun hc => ?_)
        · replace h := ifn hc h
          refine at_iinc (j := 5) (L' := [(5, .int (a5 + (1 : Int32))), (6, .int (c_Ma_toGood (a5).toNatClampNeg)), (0, .ref (ad G 8)), (1, .int a1), (2, .long a2), (4, .int a4)]) C dMa_search_107 rfl ci_1 (by decide) rfl ?_
          refine at_goto C dMa_search_110 rfl ?_
          refine at_loc (L' := [(0, .ref (ad G 8)), (1, .int a1), (2, .long a2), (4, .int a4), (5, .int (a5 + (1 : Int32)))]) [2, 3, 4, 5, 0] rfl ?_
          exact ih _ _ _ _ _ _ _ h k0
        · replace h := ifp hc h
          refine at_aload_n (j := 1) C dMa_search_65 rfl rfl ?_
          refine gfMa_trail C dMa_search_66 ?_
          refine at_iload (j := 4) C dMa_search_69 rfl ?_
          refine at_iload (j := 5) C dMa_search_71 rfl ?_
          obtain ⟨hg4, h⟩ := gd_some h
          refine svMa_trail C hg4 dMa_search_73 ?_
          refine at_st (S1 := ((z11, ((z1211, (z12121, ((c_Ma_fromGood, c_Ma_given), c_Ma_toGood))), ((((c_Ma_gained, c_Ma_count), c_Ma_visited), (((upd c_Ma_trail (a4).toNatClampNeg a5), c_Ma_found), c_Ma_foundLength)), (((c_Ma_foundAmount, c_Ma_goal), z122212), z12222)))), z2)) rfl ?_
          refine at_aload_n (j := 1) C dMa_search_74 rfl rfl ?_
          refine gfMa_visited C dMa_search_75 ?_
          refine at_iload (j := 0) C dMa_search_78 rfl ?_
          refine at_iconst C dMa_search_80 ci_1 ?_
          obtain ⟨hg5, h⟩ := gd_some h
          refine svMa_visited C hg5 dMa_search_81 ?_
          refine at_st (S1 := ((z11, ((z1211, (z12121, ((c_Ma_fromGood, c_Ma_given), c_Ma_toGood))), ((((c_Ma_gained, c_Ma_count), (upd c_Ma_visited ((c_Ma_toGood (a5).toNatClampNeg)).toNatClampNeg (1 : Int32))), (((upd c_Ma_trail (a4).toNatClampNeg a5), c_Ma_found), c_Ma_foundLength)), (((c_Ma_foundAmount, c_Ma_goal), z122212), z12222)))), z2)) rfl ?_
          refine at_aload_n (j := 1) C dMa_search_82 rfl rfl ?_
          refine at_iload (j := 0) C dMa_search_83 rfl ?_
          refine at_aload_n (j := 1) C dMa_search_85 rfl rfl ?_
          refine at_lload_n (j := 3) C dMa_search_86 rfl rfl ?_
          refine at_iload (j := 5) C dMa_search_87 rfl ?_
          obtain ⟨e6, he6, h⟩ := ob_some h
          refine at_callVl C kMa_75 (cMa_exchanged C.2.2.2.2.2.2.1 _ _ _ he6) (by omega) rfl rfl rfl rfl (Nat.le_of_ble_eq_true rfl) dMa_search_89 ?_
          refine at_iload (j := 4) C dMa_search_92 rfl ?_
          refine at_iconst C dMa_search_94 ci_1 ?_
          refine at_iadd C dMa_search_95 ?_
          obtain ⟨e7, he7, h⟩ := ob_some h
          refine at_callVv C kMa_61 (hrec _ _ _ _ _ _ _ _ _ _ _ _ _ _ _ _ _ _ _ _ _ he7) hrj rfl rfl rfl rfl (Nat.le_of_ble_eq_true rfl) dMa_search_96 ?_
          refine at_aload_n (j := 1) C dMa_search_99 rfl rfl ?_
          refine gfMa_visited C dMa_search_100 ?_
          refine at_iload (j := 0) C dMa_search_103 rfl ?_
          refine at_iconst C dMa_search_105 ci_0 ?_
          obtain ⟨hg8, h⟩ := gd_some h
          refine svMa_visited C hg8 dMa_search_106 ?_
          refine at_st (S1 := ((z11, ((z1211, (z12121, ((c_Ma_fromGood, c_Ma_given), c_Ma_toGood))), ((((c_Ma_gained, c_Ma_count), (upd e7.1 ((c_Ma_toGood (a5).toNatClampNeg)).toNatClampNeg (0 : Int32))), ((e7.2.1, e7.2.2.1), e7.2.2.2.1)), (((e7.2.2.2.2, c_Ma_goal), z122212), z12222)))), z2)) rfl ?_
          refine at_iinc (j := 5) (L' := [(5, .int (a5 + (1 : Int32))), (6, .int (c_Ma_toGood (a5).toNatClampNeg)), (0, .ref (ad G 8)), (1, .int a1), (2, .long a2), (4, .int a4)]) C dMa_search_107 rfl ci_1 (by decide) rfl ?_
          refine at_goto C dMa_search_110 rfl ?_
          refine at_loc (L' := [(0, .ref (ad G 8)), (1, .int a1), (2, .long a2), (4, .int a4), (5, .int (a5 + (1 : Int32)))]) [2, 3, 4, 5, 0] rfl ?_
          exact ih _ _ _ _ _ _ _ h k0
set_option maxRecDepth 100000 in
set_option maxHeartbeats 4000000 in
theorem cMa_search {l : Launch} {G : GG} (hG : GOK G) : ∀ (d : Nat) (c_Ma_fromGood : (Nat → Int32)) (c_Ma_given : (Nat → Int32)) (c_Ma_toGood : (Nat → Int32)) (c_Ma_gained : (Nat → Int32)) (c_Ma_count : Int32) (c_Ma_visited : (Nat → Int32)) (c_Ma_trail : (Nat → Int32)) (c_Ma_found : (Nat → Int32)) (c_Ma_foundLength : Int32) (c_Ma_foundAmount : Int64) (c_Ma_goal : Int32) (z11 : Z11) (z1211 : Z1211) (z12121 : Z12121) (z122212 : (Nat → Int32)) (z12222 : Z12222) (z2 : Z2) (a1 : Int32) (a2 : Int64) (a4 : Int32) (R : ((Nat → Int32) × (Nat → Int32) × (Nat → Int32) × Int32 × Int64)) (h : fMa_search d a1 a2 a4 c_Ma_fromGood c_Ma_given c_Ma_toGood c_Ma_gained c_Ma_count c_Ma_visited c_Ma_trail c_Ma_found c_Ma_foundLength c_Ma_foundAmount c_Ma_goal = some R), Met l yMa_search (.code yMa_search prog_5_method_8_code 7 none :: gw) (rmm (2 + d)) (PcW G [.ref (ad G 8), .int a1, .long a2, .int a4] ((z11, ((z1211, (z12121, ((c_Ma_fromGood, c_Ma_given), c_Ma_toGood))), ((((c_Ma_gained, c_Ma_count), c_Ma_visited), ((c_Ma_trail, c_Ma_found), c_Ma_foundLength)), (((c_Ma_foundAmount, c_Ma_goal), z122212), z12222)))), z2)) (Qw G (none) ((z11, ((z1211, (z12121, ((c_Ma_fromGood, c_Ma_given), c_Ma_toGood))), ((((c_Ma_gained, c_Ma_count), R.1), ((R.2.1, R.2.2.1), R.2.2.2.1)), (((R.2.2.2.2, c_Ma_goal), z122212), z12222)))), z2)) 0 0 (Aw G) := by
  intro d
  induction d with
  | zero =>
    intro c_Ma_fromGood c_Ma_given c_Ma_toGood c_Ma_gained c_Ma_count c_Ma_visited c_Ma_trail c_Ma_found c_Ma_foundLength c_Ma_foundAmount c_Ma_goal z11 z1211 z12121 z122212 z12222 z2 a1 a2 a4 R h
    rw [fMa_search.eq_1] at h
    cases h
  | succ d ih =>
    intro c_Ma_fromGood c_Ma_given c_Ma_toGood c_Ma_gained c_Ma_count c_Ma_visited c_Ma_trail c_Ma_found c_Ma_foundLength c_Ma_foundAmount c_Ma_goal z11 z1211 z12121 z122212 z12222 z2 a1 a2 a4 R h
    refine met_of (by decide) (2 + (d + 1)) G hG _ _ (Nat.le_of_ble_eq_true rfl) _ _ (fun X hX C => ?_)
    subst hX
    have C : Cx G X RcMa prog_5_method_8_code 7 (2 + (d + 1)) none := C
    have hrec := ih
    have hrj : 2 + d < 2 + (d + 1) := by omega
    have hlv : 2 ≤ 2 + (d + 1) := by omega
    rw [fMa_search.eq_2] at h
    show At G X 7 _ 0 [(0, .ref (ad G 8)), (1, .int a1), (2, .long a2), (4, .int a4)] [] ((z11, ((z1211, (z12121, ((c_Ma_fromGood, c_Ma_given), c_Ma_toGood))), ((((c_Ma_gained, c_Ma_count), c_Ma_visited), ((c_Ma_trail, c_Ma_found), c_Ma_foundLength)), (((c_Ma_foundAmount, c_Ma_goal), z122212), z12222)))), z2)
    refine at_iload_n (j := 1) C dMa_search_0 rfl rfl ?_
    refine at_aload_n (j := 0) C dMa_search_1 rfl rfl ?_
    refine gfMa_goal (x := c_Ma_goal) C rfl dMa_search_2 ?_
    refine at_icmp_ne C dMa_search_5 rfl (fun hc => ?_) (fun hc => ?_)
    · replace h := ifn hc h
      refine at_iload (j := 3) C dMa_search_16 rfl ?_
      refine at_iconst C dMa_search_18 ci_5 ?_
      refine at_icmp_lt C dMa_search_19 rfl (fun hc => ?_) (fun hc => ?_)
      · replace h := ifp hc h
        refine at_iconst C dMa_search_23 ci_0 ?_
        refine at_istore (L' := [(5, .int (0 : Int32)), (0, .ref (ad G 8)), (1, .int a1), (2, .long a2), (4, .int a4)]) C dMa_search_24 (by decide) rfl ?_
        obtain ⟨e9, he9, h⟩ := ob_some h
        refine at_loc (L' := [(0, .ref (ad G 8)), (1, .int a1), (2, .long a2), (4, .int a4), (5, .int (0 : Int32))]) [1, 2, 3, 4, 0] rfl ?_
        refine wMa_search_l26 hlv C _ hrec hrj _ _ _ FU _ _ _ _ _ _ _ he9 ?_
        cases h
        exact at_vret C dMa_search_113
      · replace h := ifn hc h
        cases h
        exact at_vret C dMa_search_22
    · replace h := ifp hc h
      refine at_aload_n (j := 0) C dMa_search_8 rfl rfl ?_
      refine at_lload_n (j := 2) C dMa_search_9 rfl rfl ?_
      refine at_iload (j := 3) C dMa_search_10 rfl ?_
      obtain ⟨e10, he10, h⟩ := ob_some h
      refine at_callVv C kMa_71 (cMa_keepIfBetter C.2.2.2.2.2.2.1 _ _ _ he10) (by omega) rfl rfl rfl rfl (Nat.le_of_ble_eq_true rfl) dMa_search_12 ?_
      cases h
      exact at_vret C dMa_search_15
set_option maxRecDepth 100000 in
set_option maxHeartbeats 4000000 in
theorem cMa_findBest {l : Launch} {G : GG} (hG : GOK G) {c_Ma_fromGood : (Nat → Int32)} {c_Ma_given : (Nat → Int32)} {c_Ma_toGood : (Nat → Int32)} {c_Ma_gained : (Nat → Int32)} {c_Ma_count : Int32} {c_Ma_visited : (Nat → Int32)} {c_Ma_trail : (Nat → Int32)} {c_Ma_found : (Nat → Int32)} {c_Ma_foundLength : Int32} {c_Ma_foundAmount : Int64} {c_Ma_goal : Int32} {c_Ma_best : (Nat → Int32)} {c_Ma_bestLength : Int32} {z11 : Z11} {z1211 : Z1211} {z12121 : Z12121} {z1222212 : (Nat → Int32)} {z122222 : Int32} {z2 : Z2} (a1 : Int32) (a2 : Int32) (a3 : Int32) (R : (Int64 × (Nat → Int32) × (Nat → Int32) × (Nat → Int32) × Int32 × Int64 × Int32 × (Nat → Int32) × Int32)) (h : fMa_findBest a1 a2 a3 c_Ma_fromGood c_Ma_given c_Ma_toGood c_Ma_gained c_Ma_count c_Ma_visited c_Ma_trail c_Ma_found c_Ma_foundLength c_Ma_foundAmount c_Ma_goal c_Ma_best c_Ma_bestLength = some R) : Met l yMa_findBest (.code yMa_findBest prog_5_method_7_code 4 (some .long) :: gw) (rmm 11) (PcW G [.ref (ad G 8), .int a1, .int a2, .int a3] ((z11, ((z1211, (z12121, ((c_Ma_fromGood, c_Ma_given), c_Ma_toGood))), ((((c_Ma_gained, c_Ma_count), c_Ma_visited), ((c_Ma_trail, c_Ma_found), c_Ma_foundLength)), (((c_Ma_foundAmount, c_Ma_goal), c_Ma_best), ((c_Ma_bestLength, z1222212), z122222))))), z2)) (Qw G (some (.long R.1)) ((z11, ((z1211, (z12121, ((c_Ma_fromGood, c_Ma_given), c_Ma_toGood))), ((((c_Ma_gained, c_Ma_count), R.2.1), ((R.2.2.1, R.2.2.2.1), R.2.2.2.2.1)), (((R.2.2.2.2.2.1, R.2.2.2.2.2.2.1), R.2.2.2.2.2.2.2.1), ((R.2.2.2.2.2.2.2.2, z1222212), z122222))))), z2)) 0 0 (Aw G) := by
  refine met_of (by decide) 11 G hG _ _ (Nat.le_of_ble_eq_true rfl) _ _ (fun X _ C => ?_)
  have C : Cx G X RcMa prog_5_method_7_code 4 11 (some .long) := C
  unfold fMa_findBest at h
  show At G X 4 _ 0 [(0, .ref (ad G 8)), (1, .int a1), (2, .int a2), (3, .int a3)] [] ((z11, ((z1211, (z12121, ((c_Ma_fromGood, c_Ma_given), c_Ma_toGood))), ((((c_Ma_gained, c_Ma_count), c_Ma_visited), ((c_Ma_trail, c_Ma_found), c_Ma_foundLength)), (((c_Ma_foundAmount, c_Ma_goal), c_Ma_best), ((c_Ma_bestLength, z1222212), z122222))))), z2)
  refine at_aload_n (j := 0) C dMa_findBest_0 rfl rfl ?_
  refine gfMa_visited C dMa_findBest_1 ?_
  refine at_iconst C dMa_findBest_4 ci_0 ?_
  refine at_fill C jMa_43 35 sMa_visited (by decide) rfl (fun _ => rfl) (by omega) (Nat.le_of_ble_eq_true rfl) dMa_findBest_5 ?_
  refine at_st (S1 := ((z11, ((z1211, (z12121, ((c_Ma_fromGood, c_Ma_given), c_Ma_toGood))), ((((c_Ma_gained, c_Ma_count), (filI 6 (0 : Int32) c_Ma_visited)), ((c_Ma_trail, c_Ma_found), c_Ma_foundLength)), (((c_Ma_foundAmount, c_Ma_goal), c_Ma_best), ((c_Ma_bestLength, z1222212), z122222))))), z2)) rfl ?_
  refine at_aload_n (j := 0) C dMa_findBest_8 rfl rfl ?_
  refine gfMa_visited C dMa_findBest_9 ?_
  refine at_iload_n (j := 1) C dMa_findBest_12 rfl rfl ?_
  refine at_iconst C dMa_findBest_13 ci_1 ?_
  obtain ⟨hg1, h⟩ := gd_some h
  refine svMa_visited C hg1 dMa_findBest_14 ?_
  refine at_st (S1 := ((z11, ((z1211, (z12121, ((c_Ma_fromGood, c_Ma_given), c_Ma_toGood))), ((((c_Ma_gained, c_Ma_count), (upd (filI 6 (0 : Int32) c_Ma_visited) (a1).toNatClampNeg (1 : Int32))), ((c_Ma_trail, c_Ma_found), c_Ma_foundLength)), (((c_Ma_foundAmount, c_Ma_goal), c_Ma_best), ((c_Ma_bestLength, z1222212), z122222))))), z2)) rfl ?_
  refine at_aload_n (j := 0) C dMa_findBest_15 rfl rfl ?_
  refine at_iload_n (j := 3) C dMa_findBest_16 rfl rfl ?_
  refine pfMa_goal C dMa_findBest_17 ?_
  refine at_st (S1 := ((z11, ((z1211, (z12121, ((c_Ma_fromGood, c_Ma_given), c_Ma_toGood))), ((((c_Ma_gained, c_Ma_count), (upd (filI 6 (0 : Int32) c_Ma_visited) (a1).toNatClampNeg (1 : Int32))), ((c_Ma_trail, c_Ma_found), c_Ma_foundLength)), (((c_Ma_foundAmount, a3), c_Ma_best), ((c_Ma_bestLength, z1222212), z122222))))), z2)) rfl ?_
  refine at_aload_n (j := 0) C dMa_findBest_20 rfl rfl ?_
  refine at_ldc2 C qMa_52 dMa_findBest_21 ?_
  refine pfMa_foundAmount C dMa_findBest_24 ?_
  refine at_st (S1 := ((z11, ((z1211, (z12121, ((c_Ma_fromGood, c_Ma_given), c_Ma_toGood))), ((((c_Ma_gained, c_Ma_count), (upd (filI 6 (0 : Int32) c_Ma_visited) (a1).toNatClampNeg (1 : Int32))), ((c_Ma_trail, c_Ma_found), c_Ma_foundLength)), ((((-1 : Int64), a3), c_Ma_best), ((c_Ma_bestLength, z1222212), z122222))))), z2)) rfl ?_
  refine at_aload_n (j := 0) C dMa_findBest_27 rfl rfl ?_
  refine at_iconst C dMa_findBest_28 ci_0 ?_
  refine pfMa_foundLength C dMa_findBest_29 ?_
  refine at_st (S1 := ((z11, ((z1211, (z12121, ((c_Ma_fromGood, c_Ma_given), c_Ma_toGood))), ((((c_Ma_gained, c_Ma_count), (upd (filI 6 (0 : Int32) c_Ma_visited) (a1).toNatClampNeg (1 : Int32))), ((c_Ma_trail, c_Ma_found), (0 : Int32))), ((((-1 : Int64), a3), c_Ma_best), ((c_Ma_bestLength, z1222212), z122222))))), z2)) rfl ?_
  refine at_aload_n (j := 0) C dMa_findBest_32 rfl rfl ?_
  refine at_iload_n (j := 1) C dMa_findBest_33 rfl rfl ?_
  refine at_iload_n (j := 2) C dMa_findBest_34 rfl rfl ?_
  refine at_i2l C dMa_findBest_35 ?_
  refine at_iconst C dMa_findBest_36 ci_0 ?_
  obtain ⟨e2, he2, h⟩ := ob_some h
  refine at_callVv C kMa_61 (cMa_search C.2.2.2.2.2.2.1 8 _ _ _ _ _ _ _ _ _ _ _ _ _ _ _ _ _ _ _ _ _ he2) (by omega) rfl rfl rfl rfl (Nat.le_of_ble_eq_true rfl) dMa_findBest_37 ?_
  refine at_aload_n (j := 0) C dMa_findBest_40 rfl rfl ?_
  refine gfMa_foundAmount (x := e2.2.2.2.2) C rfl dMa_findBest_41 ?_
  refine at_ldc2 C qMa_52 dMa_findBest_44 ?_
  refine at_lcmp C dMa_findBest_47 ?_
  refine at_if_eq C dMa_findBest_48 rfl (fun hc => ?_) (fun hc => ?_)
  · replace h := ifp hc h
    refine at_aload_n (j := 0) C dMa_findBest_73 rfl rfl ?_
    refine gfMa_foundAmount (x := e2.2.2.2.2) C rfl dMa_findBest_74 ?_
    cases h
    exact at_lret C dMa_findBest_77
  · replace h := ifn hc h
    refine at_aload_n (j := 0) C dMa_findBest_51 rfl rfl ?_
    refine gfMa_found C dMa_findBest_52 ?_
    refine at_iconst C dMa_findBest_55 ci_0 ?_
    refine at_aload_n (j := 0) C dMa_findBest_56 rfl rfl ?_
    refine gfMa_best C dMa_findBest_57 ?_
    refine at_iconst C dMa_findBest_60 ci_0 ?_
    refine at_iconst C dMa_findBest_61 ci_5 ?_
    obtain ⟨hg3, h⟩ := gd_some h
    refine at_acopy C jMa_65 37 38 sMa_best rfl rfl (fun _ => rfl) hg3 (by omega) (Nat.le_of_ble_eq_true rfl) dMa_findBest_62 ?_
    refine at_st (S1 := ((z11, ((z1211, (z12121, ((c_Ma_fromGood, c_Ma_given), c_Ma_toGood))), ((((c_Ma_gained, c_Ma_count), e2.1), ((e2.2.1, e2.2.2.1), e2.2.2.2.1)), (((e2.2.2.2.2, a3), (cpyI e2.2.2.1 c_Ma_best (0 : Int32) (0 : Int32) (5 : Int32))), ((c_Ma_bestLength, z1222212), z122222))))), z2)) rfl ?_
    refine at_aload_n (j := 0) C dMa_findBest_65 rfl rfl ?_
    refine at_aload_n (j := 0) C dMa_findBest_66 rfl rfl ?_
    refine gfMa_foundLength (x := e2.2.2.2.1) C rfl dMa_findBest_67 ?_
    refine pfMa_bestLength C dMa_findBest_70 ?_
    refine at_st (S1 := ((z11, ((z1211, (z12121, ((c_Ma_fromGood, c_Ma_given), c_Ma_toGood))), ((((c_Ma_gained, c_Ma_count), e2.1), ((e2.2.1, e2.2.2.1), e2.2.2.2.1)), (((e2.2.2.2.2, a3), (cpyI e2.2.2.1 c_Ma_best (0 : Int32) (0 : Int32) (5 : Int32))), ((e2.2.2.2.1, z1222212), z122222))))), z2)) rfl ?_
    refine at_aload_n (j := 0) C dMa_findBest_73 rfl rfl ?_
    refine gfMa_foundAmount (x := e2.2.2.2.2) C rfl dMa_findBest_74 ?_
    cases h
    exact at_lret C dMa_findBest_77
