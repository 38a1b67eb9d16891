set_option maxRecDepth 100000 in
set_option maxHeartbeats 4000000 in
theorem wCo_mostTold_l10 {G : GG} {X : CX} {c_Co_told : (Nat → Nat → Int32)} {c_Co_readAs : (Nat → Int32)} {z111 : Z111} {z1121 : Z1121} {z112211 : Z112211} {z1122212 : Int32} {z112222 : (Nat → Int32)} {z12 : Z12} {z2 : Z2} (C : Cx G X RcCo prog_3_method_5_code 7 2 (some .int)) {Q : State → Prop}  (a1 : Int32) : ∀ (n : Nat) (a2 : Int32) (a3 : Int32) (a4 : Int32) (a5 : Int32) (E : Int32) (h : fCo_mostTold_l10 a1 c_Co_told c_Co_readAs n a2 a3 a4 a5 = some E) (k0 : At G X 7 Q 89 [(2, .int E)] [] (((z111, (z1121, ((z112211, c_Co_told), ((c_Co_readAs, z1122212), z112222)))), z12), z2)), At G X 7 Q 10 [(0, .ref (ad G 5)), (1, .int a1), (2, .int a2), (3, .int a3), (4, .int a4), (5, .int a5)] [] (((z111, (z1121, ((z112211, c_Co_told), ((c_Co_readAs, z1122212), z112222)))), z12), z2) := by
  intro n
  induction n with
  | zero =>
    intro a2 a3 a4 a5 E h k0
    rw [fCo_mostTold_l10.eq_1] at h
    cases h
  | succ n ih =>
    intro a2 a3 a4 a5 E h k0
    rw [fCo_mostTold_l10.eq_2] at h
    refine at_iload (j := 5) C dCo_mostTold_10 rfl ?_
    refine at_iconst C dCo_mostTold_12 ci_5 ?_
    refine at_icmp_ge C dCo_mostTold_13 rfl (fun hc => ?_) (fun hc => ?_)
    · replace h := ifp hc h
      cases h
      refine at_loc (L' := [(2, .int a2)]) [2] rfl ?_
      exact k0
    · replace h := ifn hc h
      refine at_aload_n (j := 0) C dCo_mostTold_16 rfl rfl ?_
      refine at_aload_n (j := 0) C dCo_mostTold_17 rfl rfl ?_
      refine gfCo_told C dCo_mostTold_18 ?_
      refine at_iload (j := 5) C dCo_mostTold_21 rfl ?_
      obtain ⟨hg1, h⟩ := gd_some h
      refine raCo_told C hg1 dCo_mostTold_23 ?_
      refine at_iload_n (j := 1) C dCo_mostTold_24 rfl rfl ?_
      obtain ⟨hg2, h⟩ := gd_some h
      refine ldCo_told (f := c_Co_told) C rfl hg1 hg2 dCo_mostTold_25 ?_
      refine at_iload_n (j := 1) C dCo_mostTold_26 rfl rfl ?_
      obtain ⟨e3, he3, h⟩ := ob_some h
      refine at_callVi C kCo_36 (cCo_votesFor C.2.2.2.2.2.2.1 _ _ _ he3) (by omega) rfl rfl rfl rfl (Nat.le_of_ble_eq_true rfl) dCo_mostTold_27 ?_
      refine at_istore (L' := [(6, .int e3), (0, .ref (ad G 5)), (1, .int a1), (2, .int a2), (3, .int a3), (4, .int a4), (5, .int a5)]) C dCo_mostTold_30 (by decide) rfl ?_
      refine at_iload (j := 0) C dCo_mostTold_32 rfl ?_
      refine at_iload_n (j := 4) C dCo_mostTold_34 rfl rfl ?_
      refine at_icmp_gt C dCo_mostTold_35 rfl (fun hc => ?_) (fun hc => ?_)
      · replace h := ifp hc h
        refine at_aload_n (j := 1) C dCo_mostTold_61 rfl rfl ?_
        refine gfCo_told C dCo_mostTold_62 ?_
        refine at_iload (j := 6) C dCo_mostTold_65 rfl ?_
        obtain ⟨hg4, h⟩ := gd_some h
        refine raCo_told C hg4 dCo_mostTold_67 ?_
        refine at_iload_n (j := 2) C dCo_mostTold_68 rfl rfl ?_
        obtain ⟨hg5, h⟩ := gd_some h
        refine ldCo_told (f := c_Co_told) C rfl hg4 hg5 dCo_mostTold_69 ?_
        refine at_istore_n (L' := [(2, .int (c_Co_told (a5).toNatClampNeg (a1).toNatClampNeg)), (6, .int e3), (0, .ref (ad G 5)), (1, .int a1), (3, .int a3), (4, .int a4), (5, .int a5)]) C dCo_mostTold_70 rfl (by decide) rfl ?_
        refine at_iload (j := 1) C dCo_mostTold_71 rfl ?_
        refine at_istore_n (L' := [(3, .int e3), (2, .int (c_Co_told (a5).toNatClampNeg (a1).toNatClampNeg)), (6, .int e3), (0, .ref (ad G 5)), (1, .int a1), (4, .int a4), (5, .int a5)]) C dCo_mostTold_73 rfl (by decide) rfl ?_
        refine at_aload_n (j := 3) C dCo_mostTold_74 rfl rfl ?_
        refine gfCo_readAs C dCo_mostTold_75 ?_
        refine at_iload (j := 6) C dCo_mostTold_78 rfl ?_
        obtain ⟨hg6, h⟩ := gd_some h
        refine ldCo_readAs (f := c_Co_readAs) C rfl hg6 dCo_mostTold_80 ?_
        refine at_istore (L' := [(4, .int (c_Co_readAs (a5).toNatClampNeg)), (3, .int e3), (2, .int (c_Co_told (a5).toNatClampNeg (a1).toNatClampNeg)), (6, .int e3), (0, .ref (ad G 5)), (1, .int a1), (5, .int a5)]) C dCo_mostTold_81 (by decide) rfl ?_
        refine at_iinc (j := 6) (L' := [(5, .int (a5 + (1 : Int32))), (4, .int (c_Co_readAs (a5).toNatClampNeg)), (3, .int e3), (2, .int (c_Co_told (a5).toNatClampNeg (a1).toNatClampNeg)), (6, .int e3), (0, .ref (ad G 5)), (1, .int a1)]) C dCo_mostTold_83 rfl ci_1 (by decide) rfl ?_
        refine at_goto C dCo_mostTold_86 rfl ?_
        refine at_loc (L' := [(0, .ref (ad G 5)), (1, .int a1), (2, .int (c_Co_told (a5).toNatClampNeg (a1).toNatClampNeg)), (3, .int e3), (4, .int (c_Co_readAs (a5).toNatClampNeg)), (5, .int (a5 + (1 : Int32)))]) [5, 6, 3, 2, 1, 0] rfl ?_
        exact ih _ _ _ _ _ h k0
      · replace h := ifn hc h
        refine at_iload (j := 0) C dCo_mostTold_38 rfl ?_
        refine at_iload_n (j := 4) C dCo_mostTold_40 rfl rfl ?_
        refine at_icmp_ne C dCo_mostTold_41 rfl (fun hc => ?_) (fun hc => ?_)
        · replace h := ifn hc h
          refine at_iinc (j := 6) (L' := [(5, .int (a5 + (1 : Int32))), (6, .int e3), (0, .ref (ad G 5)), (1, .int a1), (2, .int a2), (3, .int a3), (4, .int a4)]) C dCo_mostTold_83 rfl ci_1 (by decide) rfl ?_
          refine at_goto C dCo_mostTold_86 rfl ?_
          refine at_loc (L' := [(0, .ref (ad G 5)), (1, .int a1), (2, .int a2), (3, .int a3), (4, .int a4), (5, .int (a5 + (1 : Int32)))]) [2, 3, 4, 5, 6, 0] rfl ?_
          exact ih _ _ _ _ _ h k0
        · replace h := ifp hc h
          refine at_iload (j := 0) C dCo_mostTold_44 rfl ?_
          refine at_if_le C dCo_mostTold_46 rfl (fun hc => ?_) (fun hc => ?_)
          · replace h := ifp hc h
            refine at_iinc (j := 6) (L' := [(5, .int (a5 + (1 : Int32))), (6, .int e3), (0, .ref (ad G 5)), (1, .int a1), (2, .int a2), (3, .int a3), (4, .int a4)]) C dCo_mostTold_83 rfl ci_1 (by decide) rfl ?_
            refine at_goto C dCo_mostTold_86 rfl ?_
            refine at_loc (L' := [(0, .ref (ad G 5)), (1, .int a1), (2, .int a2), (3, .int a3), (4, .int a4), (5, .int (a5 + (1 : Int32)))]) [2, 3, 4, 5, 6, 0] rfl ?_
            exact ih _ _ _ _ _ h k0
          · replace h := ifn hc h
            refine at_aload_n (j := 1) C dCo_mostTold_49 rfl rfl ?_
            refine gfCo_readAs C dCo_mostTold_50 ?_
            refine at_iload (j := 6) C dCo_mostTold_53 rfl ?_
            obtain ⟨hg7, h⟩ := gd_some h
            refine ldCo_readAs (f := c_Co_readAs) C rfl hg7 dCo_mostTold_55 ?_
            refine at_iload (j := 5) C dCo_mostTold_56 rfl ?_
            refine at_icmp_le C dCo_mostTold_58 rfl (fun hc => ?_) (fun hc => ?_)
            · replace h := ifp hc h
              refine at_iinc (j := 6) (L' := [(5, .int (a5 + (1 : Int32))), (6, .int e3), (0, .ref (ad G 5)), (1, .int a1), (2, .int a2), (3, .int a3), (4, .int a4)]) C dCo_mostTold_83 rfl ci_1 (by decide) rfl ?_
              refine at_goto C dCo_mostTold_86 rfl ?_
              refine at_loc (L' := [(0, .ref (ad G 5)), (1, .int a1), (2, .int a2), (3, .int a3), (4, .int a4), (5, .int (a5 + (1 : Int32)))]) [2, 3, 4, 5, 6, 0] rfl ?_
              exact ih _ _ _ _ _ h k0
            · replace h := ifn hc h
              refine at_aload_n (j := 1) C dCo_mostTold_61 rfl rfl ?_
              refine gfCo_told C dCo_mostTold_62 ?_
              refine at_iload (j := 6) C dCo_mostTold_65 rfl ?_
              obtain ⟨hg8, h⟩ := gd_some h
              refine raCo_told C hg8 dCo_mostTold_67 ?_
              refine at_iload_n (j := 2) C dCo_mostTold_68 rfl rfl ?_
              obtain ⟨hg9, h⟩ := gd_some h
              refine ldCo_told (f := c_Co_told) C rfl hg8 hg9 dCo_mostTold_69 ?_
              refine at_istore_n (L' := [(2, .int (c_Co_told (a5).toNatClampNeg (a1).toNatClampNeg)), (6, .int e3), (0, .ref (ad G 5)), (1, .int a1), (3, .int a3), (4, .int a4), (5, .int a5)]) C dCo_mostTold_70 rfl (by decide) rfl ?_
              refine at_iload (j := 1) C dCo_mostTold_71 rfl ?_
              refine at_istore_n (L' := [(3, .int e3), (2, .int (c_Co_told (a5).toNatClampNeg (a1).toNatClampNeg)), (6, .int e3), (0, .ref (ad G 5)), (1, .int a1), (4, .int a4), (5, .int a5)]) C dCo_mostTold_73 rfl (by decide) rfl ?_
              refine at_aload_n (j := 3) C dCo_mostTold_74 rfl rfl ?_
              refine gfCo_readAs C dCo_mostTold_75 ?_
              refine at_iload (j := 6) C dCo_mostTold_78 rfl ?_
              obtain ⟨hg10, h⟩ := gd_some h
              refine ldCo_readAs (f := c_Co_readAs) C rfl hg10 dCo_mostTold_80 ?_
              refine at_istore (L' := [(4, .int (c_Co_readAs (a5).toNatClampNeg)), (3, .int e3), (2, .int (c_Co_told (a5).toNatClampNeg (a1).toNatClampNeg)), (6, .int e3), (0, .ref (ad G 5)), (1, .int a1), (5, .int a5)]) C dCo_mostTold_81 (by decide) rfl ?_
              refine at_iinc (j := 6) (L' := [(5, .int (a5 + (1 : Int32))), (4, .int (c_Co_readAs (a5).toNatClampNeg)), (3, .int e3), (2, .int (c_Co_told (a5).toNatClampNeg (a1).toNatClampNeg)), (6, .int e3), (0, .ref (ad G 5)), (1, .int a1)]) C dCo_mostTold_83 rfl ci_1 (by decide) rfl ?_
              refine at_goto C dCo_mostTold_86 rfl ?_
              refine at_loc (L' := [(0, .ref (ad G 5)), (1, .int a1), (2, .int (c_Co_told (a5).toNatClampNeg (a1).toNatClampNeg)), (3, .int e3), (4, .int (c_Co_readAs (a5).toNatClampNeg)), (5, .int (a5 + (1 : Int32)))]) [5, 6, 3, 2, 1, 0] rfl ?_
              exact ih _ _ _ _ _ h k0
set_option maxRecDepth 100000 in
set_option maxHeartbeats 4000000 in
theorem cCo_mostTold {l : Launch} {G : GG} (hG : GOK G) {c_Co_told : (Nat → Nat → Int32)} {c_Co_readAs : (Nat → Int32)} {z111 : Z111} {z1121 : Z1121} {z112211 : Z112211} {z1122212 : Int32} {z112222 : (Nat → Int32)} {z12 : Z12} {z2 : Z2} (a1 : Int32) (R : Int32) (h : fCo_mostTold a1 c_Co_told c_Co_readAs = some R) : Met l yCo_mostTold (.code yCo_mostTold prog_3_method_5_code 7 (some .int) :: gw) (rmm 2) (PcW G [.ref (ad G 5), .int a1] (((z111, (z1121, ((z112211, c_Co_told), ((c_Co_readAs, z1122212), z112222)))), z12), z2)) (Qw G (some (.int R)) (((z111, (z1121, ((z112211, c_Co_told), ((c_Co_readAs, z1122212), z112222)))), z12), z2)) 0 0 (Aw G) := by
  refine met_of (by decide) 2 G hG _ _ (Nat.le_of_ble_eq_true rfl) _ _ (fun X _ C => ?_)
  have C : Cx G X RcCo prog_3_method_5_code 7 2 (some .int) := C
  unfold fCo_mostTold at h
  show At G X 7 _ 0 [(0, .ref (ad G 5)), (1, .int a1)] [] (((z111, (z1121, ((z112211, c_Co_told), ((c_Co_readAs, z1122212), z112222)))), z12), z2)
  refine at_iconst C dCo_mostTold_0 ci_0 ?_
  refine at_istore_n (L' := [(2, .int (0 : Int32)), (0, .ref (ad G 5)), (1, .int a1)]) C dCo_mostTold_1 rfl (by decide) rfl ?_
  refine at_iconst C dCo_mostTold_2 ci_0 ?_
  refine at_istore_n (L' := [(3, .int (0 : Int32)), (2, .int (0 : Int32)), (0, .ref (ad G 5)), (1, .int a1)]) C dCo_mostTold_3 rfl (by decide) rfl ?_
  refine at_iconst C dCo_mostTold_4 ci_0 ?_
  refine at_istore (L' := [(4, .int (0 : Int32)), (3, .int (0 : Int32)), (2, .int (0 : Int32)), (0, .ref (ad G 5)), (1, .int a1)]) C dCo_mostTold_5 (by decide) rfl ?_
  refine at_iconst C dCo_mostTold_7 ci_0 ?_
  refine at_istore (L' := [(5, .int (0 : Int32)), (4, .int (0 : Int32)), (3, .int (0 : Int32)), (2, .int (0 : Int32)), (0, .ref (ad G 5)), (1, .int a1)]) C dCo_mostTold_8 (by decide) rfl ?_
  obtain ⟨e11, he11, h⟩ := ob_some h
  refine at_loc (L' := [(0, .ref (ad G 5)), (1, .int a1), (2, .int (0 : Int32)), (3, .int (0 : Int32)), (4, .int (0 : Int32)), (5, .int (0 : Int32))]) [4, 5, 3, 2, 1, 0] rfl ?_
  refine wCo_mostTold_l10 C _ FU _ _ _ _ _ he11 ?_
  refine at_iload_n (j := 0) C dCo_mostTold_89 rfl rfl ?_
  cases h
  exact at_iret C dCo_mostTold_90
set_option maxRecDepth 100000 in
set_option maxHeartbeats 4000000 in
theorem cTL_owed {l : Launch} {G : GG} (hG : GOK G) {c_Co_told : (Nat → Nat → Int32)} {c_Co_readAs : (Nat → Int32)} {z111 : Z111} {z1121 : Z1121} {z112211 : Z112211} {z1122212 : Int32} {z112222 : (Nat → Int32)} {z12 : Z12} {z2 : Z2} (a1 : Int32) (a2 : Int32) (R : Int32) (h : fTL_owed a1 a2 c_Co_told c_Co_readAs = some R) : Met l yTL_owed (.code yTL_owed prog_1_method_11_code 3 (some .int) :: gw) (rmm 3) (PcW G [.ref (ad G 0), .int a1, .int a2] (((z111, (z1121, ((z112211, c_Co_told), ((c_Co_readAs, z1122212), z112222)))), z12), z2)) (Qw G (some (.int R)) (((z111, (z1121, ((z112211, c_Co_told), ((c_Co_readAs, z1122212), z112222)))), z12), z2)) 0 0 (Aw G) := by
  refine met_of (by decide) 3 G hG _ _ (Nat.le_of_ble_eq_true rfl) _ _ (fun X _ C => ?_)
  have C : Cx G X RcTL prog_1_method_11_code 3 3 (some .int) := C
  unfold fTL_owed at h
  show At G X 3 _ 0 [(0, .ref (ad G 0)), (1, .int a1), (2, .int a2)] [] (((z111, (z1121, ((z112211, c_Co_told), ((c_Co_readAs, z1122212), z112222)))), z12), z2)
  refine at_iload_n (j := 1) C dTL_owed_0 rfl rfl ?_
  refine at_callSi C kTL_144 (cTL_isTown C.2.2.2.2.2.2.1 _ _ rfl) (by omega) rfl rfl (Nat.le_of_ble_eq_true rfl) dTL_owed_1 ?_
  refine at_if_eq C dTL_owed_4 rfl (fun hc => ?_) (fun hc => ?_)
  · replace h := ifp hc h
    refine at_iconst C dTL_owed_29 ci_m1 ?_
    cases h
    exact at_iret C dTL_owed_30
  · replace h := ifn hc h
    refine at_iload_n (j := 2) C dTL_owed_7 rfl rfl ?_
    refine at_callSi C kTL_95 (cTL_isGood C.2.2.2.2.2.2.1 _ _ rfl) (by omega) rfl rfl (Nat.le_of_ble_eq_true rfl) dTL_owed_8 ?_
    refine at_if_eq C dTL_owed_11 rfl (fun hc => ?_) (fun hc => ?_)
    · replace h := ifp hc h
      refine at_iconst C dTL_owed_29 ci_m1 ?_
      cases h
      exact at_iret C dTL_owed_30
    · replace h := ifn hc h
      refine at_aload_n (j := 0) C dTL_owed_14 rfl rfl ?_
      refine gfTL_copies C dTL_owed_15 ?_
      refine at_iload_n (j := 1) C dTL_owed_18 rfl rfl ?_
      refine at_iload_n (j := 2) C dTL_owed_19 rfl rfl ?_
      refine at_callSi C kTL_147 (cTL_slot C.2.2.2.2.2.2.1 _ _ _ rfl) (by omega) rfl rfl (Nat.le_of_ble_eq_true rfl) dTL_owed_20 ?_
      obtain ⟨e1, he1, h⟩ := ob_some h
      refine at_callVi C kTL_153 (cCo_mostTold C.2.2.2.2.2.2.1 _ _ he1) (by omega) rfl rfl rfl rfl (Nat.le_of_ble_eq_true rfl) dTL_owed_23 ?_
      refine at_goto C dTL_owed_26 rfl ?_
      cases h
      exact at_iret C dTL_owed_30
set_option maxRecDepth 100000 in
set_option maxHeartbeats 4000000 in
theorem wCo_differ_l4 {G : GG} {X : CX} {c_Co_told : (Nat → Nat → Int32)} {z111 : Z111} {z1121 : Z1121} {z112211 : Z112211} {z11222 : Z11222} {z12 : Z12} {z2 : Z2} (C : Cx G X RcCo prog_3_method_7_code 5 1 (some .boolean)) {Q : State → Prop}  (a1 : Int32) : ∀ (n : Nat) (a2 : Int32) (a3 : Int32) (E : Unit ⊕ Unit) (h : fCo_differ_l4 a1 c_Co_told n a2 a3 = some E) (k0 : ∀ e, E = (Sum.inl e) → At G X 5 Q 39 [] [] (((z111, (z1121, ((z112211, c_Co_told), z11222))), z12), z2)) (k1 : ∀ e, E = (Sum.inr e) → At G X 5 Q 50 [] [] (((z111, (z1121, ((z112211, c_Co_told), z11222))), z12), z2)), At G X 5 Q 4 [(0, .ref (ad G 5)), (1, .int a1), (2, .int a2), (3, .int a3)] [] (((z111, (z1121, ((z112211, c_Co_told), z11222))), z12), z2) := by
  intro n
  induction n with
  | zero =>
    intro a2 a3 E h k0 k1
    rw [fCo_differ_l4.eq_1] at h
    cases h
  | succ n ih =>
    intro a2 a3 E h k0 k1
    rw [fCo_differ_l4.eq_2] at h
    refine at_iload_n (j := 3) C dCo_differ_4 rfl rfl ?_
    refine at_iconst C dCo_differ_5 ci_5 ?_
    refine at_icmp_ge C dCo_differ_6 rfl (fun hc => ?_) (fun hc => ?_)
    · replace h := ifp hc h
      cases h
      refine at_loc (L' := []) [] rfl ?_
      exact k1 _ rfl
    · replace h := ifn hc h
      refine at_aload_n (j := 0) C dCo_differ_9 rfl rfl ?_
      refine gfCo_told C dCo_differ_10 ?_
      refine at_iload_n (j := 3) C dCo_differ_13 rfl rfl ?_
      obtain ⟨hg1, h⟩ := gd_some h
      refine raCo_told C hg1 dCo_differ_14 ?_
      refine at_iload_n (j := 1) C dCo_differ_15 rfl rfl ?_
      obtain ⟨hg2, h⟩ := gd_some h
      refine ldCo_told (f := c_Co_told) C rfl hg1 hg2 dCo_differ_16 ?_
      refine at_istore (L' := [(4, .int (c_Co_told (a3).toNatClampNeg (a1).toNatClampNeg)), (0, .ref (ad G 5)), (1, .int a1), (2, .int a2), (3, .int a3)]) C dCo_differ_17 (by decide) rfl ?_
      refine at_iload (j := 0) C dCo_differ_19 rfl ?_
      refine at_iconst C dCo_differ_21 ci_m1 ?_
      refine at_icmp_ne C dCo_differ_22 rfl (fun hc => ?_) (fun hc => ?_)
      · replace h := ifn hc h
        refine at_iload_n (j := 3) C dCo_differ_28 rfl rfl ?_
        refine at_iconst C dCo_differ_29 ci_m1 ?_
        refine at_icmp_eq C dCo_differ_30 rfl (fun hc => ?_) (fun hc => ?_)
        · replace h := ifp hc h
          refine at_iload (j := 0) C dCo_differ_41 rfl ?_
          refine at_istore_n (L' := [(2, .int (c_Co_told (a3).toNatClampNeg (a1).toNatClampNeg)), (4, .int (c_Co_told (a3).toNatClampNeg (a1).toNatClampNeg)), (0, .ref (ad G 5)), (1, .int a1), (3, .int a3)]) C dCo_differ_43 rfl (by decide) rfl ?_
          refine at_iinc (j := 4) (L' := [(3, .int (a3 + (1 : Int32))), (2, .int (c_Co_told (a3).toNatClampNeg (a1).toNatClampNeg)), (4, .int (c_Co_told (a3).toNatClampNeg (a1).toNatClampNeg)), (0, .ref (ad G 5)), (1, .int a1)]) C dCo_differ_44 rfl ci_1 (by decide) rfl ?_
          refine at_goto C dCo_differ_47 rfl ?_
          refine at_loc (L' := [(0, .ref (ad G 5)), (1, .int a1), (2, .int (c_Co_told (a3).toNatClampNeg (a1).toNatClampNeg)), (3, .int (a3 + (1 : Int32)))]) [3, 4, 1, 0] rfl ?_
          exact ih _ _ _ h k0 k1
        · replace h := ifn hc h
          refine at_iload_n (j := 3) C dCo_differ_33 rfl rfl ?_
          refine at_iload (j := 0) C dCo_differ_34 rfl ?_
          refine at_icmp_eq C dCo_differ_36 rfl (fun hc => ?_) (fun hc => ?_)
          · replace h := ifp hc h
            refine at_iload (j := 0) C dCo_differ_41 rfl ?_
            refine at_istore_n (L' := [(2, .int (c_Co_told (a3).toNatClampNeg (a1).toNatClampNeg)), (4, .int (c_Co_told (a3).toNatClampNeg (a1).toNatClampNeg)), (0, .ref (ad G 5)), (1, .int a1), (3, .int a3)]) C dCo_differ_43 rfl (by decide) rfl ?_
            refine at_iinc (j := 4) (L' := [(3, .int (a3 + (1 : Int32))), (2, .int (c_Co_told (a3).toNatClampNeg (a1).toNatClampNeg)), (4, .int (c_Co_told (a3).toNatClampNeg (a1).toNatClampNeg)), (0, .ref (ad G 5)), (1, .int a1)]) C dCo_differ_44 rfl ci_1 (by decide) rfl ?_
            refine at_goto C dCo_differ_47 rfl ?_
            refine at_loc (L' := [(0, .ref (ad G 5)), (1, .int a1), (2, .int (c_Co_told (a3).toNatClampNeg (a1).toNatClampNeg)), (3, .int (a3 + (1 : Int32)))]) [3, 4, 1, 0] rfl ?_
            exact ih _ _ _ h k0 k1
          · replace h := ifn hc h
            cases h
            refine at_loc (L' := []) [] rfl ?_
            exact k0 _ rfl
      · replace h := ifp hc h
        refine at_goto C dCo_differ_25 rfl ?_
        refine at_iinc (j := 4) (L' := [(3, .int (a3 + (1 : Int32))), (4, .int (c_Co_told (a3).toNatClampNeg (a1).toNatClampNeg)), (0, .ref (ad G 5)), (1, .int a1), (2, .int a2)]) C dCo_differ_44 rfl ci_1 (by decide) rfl ?_
        refine at_goto C dCo_differ_47 rfl ?_
        refine at_loc (L' := [(0, .ref (ad G 5)), (1, .int a1), (2, .int a2), (3, .int (a3 + (1 : Int32)))]) [2, 3, 4, 0] rfl ?_
        exact ih _ _ _ h k0 k1
set_option maxRecDepth 100000 in
set_option maxHeartbeats 4000000 in
theorem cCo_differ {l : Launch} {G : GG} (hG : GOK G) {c_Co_told : (Nat → Nat → Int32)} {z111 : Z111} {z1121 : Z1121} {z112211 : Z112211} {z11222 : Z11222} {z12 : Z12} {z2 : Z2} (a1 : Int32) (R : Int32) (h : fCo_differ a1 c_Co_told = some R) : Met l yCo_differ (.code yCo_differ prog_3_method_7_code 5 (some .boolean) :: gw) (rmm 1) (PcW G [.ref (ad G 5), .int a1] (((z111, (z1121, ((z112211, c_Co_told), z11222))), z12), z2)) (Qw G (some (.int R)) (((z111, (z1121, ((z112211, c_Co_told), z11222))), z12), z2)) 0 0 (Aw G) := by
  refine met_of (by decide) 1 G hG _ _ (Nat.le_of_ble_eq_true rfl) _ _ (fun X _ C => ?_)
  have C : Cx G X RcCo prog_3_method_7_code 5 1 (some .boolean) := C
  unfold fCo_differ at h
  show At G X 5 _ 0 [(0, .ref (ad G 5)), (1, .int a1)] [] (((z111, (z1121, ((z112211, c_Co_told), z11222))), z12), z2)
  refine at_iconst C dCo_differ_0 ci_m1 ?_
  refine at_istore_n (L' := [(2, .int (-1 : Int32)), (0, .ref (ad G 5)), (1, .int a1)]) C dCo_differ_1 rfl (by decide) rfl ?_
  refine at_iconst C dCo_differ_2 ci_0 ?_
  refine at_istore_n (L' := [(3, .int (0 : Int32)), (2, .int (-1 : Int32)), (0, .ref (ad G 5)), (1, .int a1)]) C dCo_differ_3 rfl (by decide) rfl ?_
  obtain ⟨e3, he3, h⟩ := ob_some h
  refine at_loc (L' := [(0, .ref (ad G 5)), (1, .int a1), (2, .int (-1 : Int32)), (3, .int (0 : Int32))]) [2, 3, 1, 0] rfl ?_
  rcases e3 with e4 | e5
  · simp only [Sum.elim_inl, Sum.elim_inr] at h
    refine wCo_differ_l4 C _ FU _ _ _ he3 (fun e he => ?_) (fun e he => by cases he)
    cases he
    refine at_iconst C dCo_differ_39 ci_1 ?_
    cases h
    exact at_zret (x := (1 : Int32)) C zn_1 dCo_differ_40
  · simp only [Sum.elim_inl, Sum.elim_inr] at h
    refine wCo_differ_l4 C _ FU _ _ _ he3 (fun e he => by cases he) (fun e he => ?_)
    cases he
    refine at_iconst C dCo_differ_50 ci_0 ?_
    cases h
    exact at_zret (x := (0 : Int32)) C zn_0 dCo_differ_51
set_option maxRecDepth 100000 in
set_option maxHeartbeats 4000000 in
theorem cTL_quarrel {l : Launch} {G : GG} (hG : GOK G) {c_Co_told : (Nat → Nat → Int32)} {z111 : Z111} {z1121 : Z1121} {z112211 : Z112211} {z11222 : Z11222} {z12 : Z12} {z2 : Z2} (a1 : Int32) (a2 : Int32) (R : Int32) (h : fTL_quarrel a1 a2 c_Co_told = some R) : Met l yTL_quarrel (.code yTL_quarrel prog_1_method_12_code 3 (some .int) :: gw) (rmm 3) (PcW G [.ref (ad G 0), .int a1, .int a2] (((z111, (z1121, ((z112211, c_Co_told), z11222))), z12), z2)) (Qw G (some (.int R)) (((z111, (z1121, ((z112211, c_Co_told), z11222))), z12), z2)) 0 0 (Aw G) := by
  refine met_of (by decide) 3 G hG _ _ (Nat.le_of_ble_eq_true rfl) _ _ (fun X _ C => ?_)
  have C : Cx G X RcTL prog_1_method_12_code 3 3 (some .int) := C
  unfold fTL_quarrel at h
  show At G X 3 _ 0 [(0, .ref (ad G 0)), (1, .int a1), (2, .int a2)] [] (((z111, (z1121, ((z112211, c_Co_told), z11222))), z12), z2)
  refine at_iload_n (j := 1) C dTL_quarrel_0 rfl rfl ?_
  refine at_callSi C kTL_144 (cTL_isTown C.2.2.2.2.2.2.1 _ _ rfl) (by omega) rfl rfl (Nat.le_of_ble_eq_true rfl) dTL_quarrel_1 ?_
  refine at_if_eq C dTL_quarrel_4 rfl (fun hc => ?_) (fun hc => ?_)
  · replace h := ifp hc h
    refine at_iconst C dTL_quarrel_14 ci_m1 ?_
    cases h
    exact at_iret C dTL_quarrel_15
  · replace h := ifn hc h
    refine at_iload_n (j := 2) C dTL_quarrel_7 rfl rfl ?_
    refine at_callSi C kTL_95 (cTL_isGood C.2.2.2.2.2.2.1 _ _ rfl) (by omega) rfl rfl (Nat.le_of_ble_eq_true rfl) dTL_quarrel_8 ?_
    refine at_if_ne C dTL_quarrel_11 rfl (fun hc => ?_) (fun hc => ?_)
    · replace h := ifn hc h
      refine at_aload_n (j := 0) C dTL_quarrel_16 rfl rfl ?_
      refine gfTL_copies C dTL_quarrel_17 ?_
      refine at_iload_n (j := 1) C dTL_quarrel_20 rfl rfl ?_
      refine at_iload_n (j := 2) C dTL_quarrel_21 rfl rfl ?_
      refine at_callSi C kTL_147 (cTL_slot C.2.2.2.2.2.2.1 _ _ _ rfl) (by omega) rfl rfl (Nat.le_of_ble_eq_true rfl) dTL_quarrel_22 ?_
      obtain ⟨e1, he1, h⟩ := ob_some h
      refine at_callVi C kTL_157 (cCo_differ C.2.2.2.2.2.2.1 _ _ he1) (by omega) rfl rfl rfl rfl (Nat.le_of_ble_eq_true rfl) dTL_quarrel_25 ?_
      refine at_if_eq C dTL_quarrel_28 rfl (fun hc => ?_) (fun hc => ?_)
      · replace h := ifp hc h
        refine at_iconst C dTL_quarrel_35 ci_0 ?_
        cases h
        exact at_iret C dTL_quarrel_36
      · replace h := ifn hc h
        refine at_iconst C dTL_quarrel_31 ci_1 ?_
        refine at_goto C dTL_quarrel_32 rfl ?_
        cases h
        exact at_iret C dTL_quarrel_36
    · replace h := ifp hc h
      refine at_iconst C dTL_quarrel_14 ci_m1 ?_
      cases h
      exact at_iret C dTL_quarrel_15
set_option maxRecDepth 100000 in
set_option maxHeartbeats 4000000 in
theorem wTL_quarrels_l8 {G : GG} {X : CX} {c_Co_told : (Nat → Nat → Int32)} {z111 : Z111} {z1121 : Z1121} {z112211 : Z112211} {z11222 : Z11222} {z12 : Z12} {z2 : Z2} (C : Cx G X RcTL prog_1_method_13_code 3 2 (some .int)) {Q : State → Prop}  : ∀ (n : Nat) (a1 : Int32) (a2 : Int32) (E : Int32) (h : fTL_quarrels_l8 c_Co_told n a1 a2 = some E) (k0 : At G X 3 Q 34 [(1, .int E)] [] (((z111, (z1121, ((z112211, c_Co_told), z11222))), z12), z2)), At G X 3 Q 8 [(0, .ref (ad G 0)), (1, .int a1), (2, .int a2)] [] (((z111, (z1121, ((z112211, c_Co_told), z11222))), z12), z2) := by
  intro n
  induction n with
  | zero =>
    intro a1 a2 E h k0
    rw [fTL_quarrels_l8.eq_1] at h
    cases h
  | succ n ih =>
    intro a1 a2 E h k0
    rw [fTL_quarrels_l8.eq_2] at h
    refine at_iload_n (j := 2) C dTL_quarrels_8 rfl rfl ?_
    refine at_bipush C dTL_quarrels_9 cb_96 ?_
    refine at_icmp_ge C dTL_quarrels_11 rfl (fun hc => ?_) (fun hc => ?_)
    · replace h := ifp hc h
      cases h
      refine at_loc (L' := [(1, .int a1)]) [1] rfl ?_
      exact k0
    · replace h := ifn hc h
      refine at_aload_n (j := 0) C dTL_quarrels_14 rfl rfl ?_
      refine gfTL_copies C dTL_quarrels_15 ?_
      refine at_iload_n (j := 2) C dTL_quarrels_18 rfl rfl ?_
      obtain ⟨e1, he1, h⟩ := ob_some h
      refine at_callVi C kTL_157 (cCo_differ C.2.2.2.2.2.2.1 _ _ he1) (by omega) rfl rfl rfl rfl (Nat.le_of_ble_eq_true rfl) dTL_quarrels_19 ?_
      refine at_if_eq C dTL_quarrels_22 rfl (fun hc => ?_) (fun hc => ?_)
      · replace h := ifp hc h
        refine at_iinc (j := 2) (L' := [(2, .int (a2 + (1 : Int32))), (0, .ref (ad G 0)), (1, .int a1)]) C dTL_quarrels_28 rfl ci_1 (by decide) rfl ?_
        refine at_goto C dTL_quarrels_31 rfl ?_
        refine at_loc (L' := [(0, .ref (ad G 0)), (1, .int a1), (2, .int (a2 + (1 : Int32)))]) [1, 2, 0] rfl ?_
        exact ih _ _ _ h k0
      · replace h := ifn hc h
        refine at_iinc (j := 1) (L' := [(1, .int (a1 + (1 : Int32))), (0, .ref (ad G 0)), (2, .int a2)]) C dTL_quarrels_25 rfl ci_1 (by decide) rfl ?_
        refine at_iinc (j := 2) (L' := [(2, .int (a2 + (1 : Int32))), (1, .int (a1 + (1 : Int32))), (0, .ref (ad G 0))]) C dTL_quarrels_28 rfl ci_1 (by decide) rfl ?_
        refine at_goto C dTL_quarrels_31 rfl ?_
        refine at_loc (L' := [(0, .ref (ad G 0)), (1, .int (a1 + (1 : Int32))), (2, .int (a2 + (1 : Int32)))]) [2, 1, 0] rfl ?_
        exact ih _ _ _ h k0
set_option maxRecDepth 100000 in
set_option maxHeartbeats 4000000 in
theorem cTL_quarrels {l : Launch} {G : GG} (hG : GOK G) {c_Co_told : (Nat → Nat → Int32)} {z111 : Z111} {z1121 : Z1121} {z112211 : Z112211} {z11222 : Z11222} {z12 : Z12} {z2 : Z2} (R : Int32) (h : fTL_quarrels c_Co_told = some R) : Met l yTL_quarrels (.code yTL_quarrels prog_1_method_13_code 3 (some .int) :: gw) (rmm 2) (PcW G [.ref (ad G 0)] (((z111, (z1121, ((z112211, c_Co_told), z11222))), z12), z2)) (Qw G (some (.int R)) (((z111, (z1121, ((z112211, c_Co_told), z11222))), z12), z2)) 0 0 (Aw G) := by
  refine met_of (by decide) 2 G hG _ _ (Nat.le_of_ble_eq_true rfl) _ _ (fun X _ C => ?_)
  have C : Cx G X RcTL prog_1_method_13_code 3 2 (some .int) := C
  unfold fTL_quarrels at h
  show At G X 3 _ 0 [(0, .ref (ad G 0))] [] (((z111, (z1121, ((z112211, c_Co_told), z11222))), z12), z2)
  refine at_iconst C dTL_quarrels_0 ci_0 ?_
  refine at_istore_n (L' := [(1, .int (0 : Int32)), (0, .ref (ad G 0))]) C dTL_quarrels_1 rfl (by decide) rfl ?_
  refine at_iconst C dTL_quarrels_2 ci_1 ?_
  refine at_iconst C dTL_quarrels_3 ci_0 ?_
  refine at_callSi C kTL_147 (cTL_slot C.2.2.2.2.2.2.1 _ _ _ rfl) (by omega) rfl rfl (Nat.le_of_ble_eq_true rfl) dTL_quarrels_4 ?_
  refine at_istore_n (L' := [(2, .int (fTL_slot (1 : Int32) (0 : Int32))), (1, .int (0 : Int32)), (0, .ref (ad G 0))]) C dTL_quarrels_7 rfl (by decide) rfl ?_
  obtain ⟨e2, he2, h⟩ := ob_some h
  refine at_loc (L' := [(0, .ref (ad G 0)), (1, .int (0 : Int32)), (2, .int (fTL_slot (1 : Int32) (0 : Int32)))]) [2, 1, 0] rfl ?_
  refine wTL_quarrels_l8 C FU _ _ _ he2 ?_
  refine at_iload_n (j := 0) C dTL_quarrels_34 rfl rfl ?_
  cases h
  exact at_iret C dTL_quarrels_35
set_option maxRecDepth 100000 in
set_option maxHeartbeats 4000000 in
theorem cSe_isFull {l : Launch} {G : GG} (hG : GOK G) {c_Se_count : Int32} {z11 : Z11} {z1211 : Z1211} {z121211 : Z121211} {z12122 : Z12122} {z122 : Z122} {z2 : Z2} (R : Int32) (h : fSe_isFull c_Se_count = R) : Met l ySe_isFull (.code ySe_isFull prog_8_method_2_code 1 (some .boolean) :: gw) (rmm 1) (PcW G [.ref (ad G 7)] ((z11, ((z1211, ((z121211, c_Se_count), z12122)), z122)), z2)) (Qw G (some (.int R)) ((z11, ((z1211, ((z121211, c_Se_count), z12122)), z122)), z2)) 0 0 (Aw G) := by
  refine met_of (by decide) 1 G hG _ _ (Nat.le_of_ble_eq_true rfl) _ _ (fun X _ C => ?_)
  have C : Cx G X RcSe prog_8_method_2_code 1 1 (some .boolean) := C
  unfold fSe_isFull at h
  show At G X 1 _ 0 [(0, .ref (ad G 7))] [] ((z11, ((z1211, ((z121211, c_Se_count), z12122)), z122)), z2)
  refine at_aload_n (j := 0) C dSe_isFull_0 rfl rfl ?_
  refine gfSe_count (x := c_Se_count) C rfl dSe_isFull_1 ?_
  refine at_bipush C dSe_isFull_4 cb_100 ?_
  refine at_icmp_lt C dSe_isFull_6 rfl (fun hc => ?_) (fun hc => ?_)
  · replace h := ifp hc h
    refine at_iconst C dSe_isFull_13 ci_0 ?_
    subst h
    exact at_zret (x := (0 : Int32)) C zn_0 dSe_isFull_14
  · replace h := ifn hc h
    refine at_iconst C dSe_isFull_9 ci_1 ?_
    refine at_goto C dSe_isFull_10 rfl ?_
    subst h
    exact at_zret (x := (1 : Int32)) C zn_1 dSe_isFull_14
set_option maxRecDepth 100000 in
set_option maxHeartbeats 4000000 in
theorem cSe_add {l : Launch} {G : GG} (hG : GOK G) {c_Se_table : (Nat → Int32)} {c_Se_count : Int32} {z11 : Z11} {z12111 : Z12111} {z1211211 : (Nat → Int64)} {z121122 : (Nat → Int32)} {z121211 : Z121211} {z12122 : Z12122} {z122 : Z122} {z2 : Z2} (a1 : Int32) (a2 : Int32) (a3 : Int32) (a4 : Int32) (a5 : Int32) (a6 : Int32) (R : (Int32 × (Nat → Int32) × Int32)) (h : fSe_add a1 a2 a3 a4 a5 a6 c_Se_table c_Se_count = some R) : Met l ySe_add (.code ySe_add prog_8_method_5_code 8 (some .int) :: gw) (rmm 1) (PcW G [.ref (ad G 7), .int a1, .int a2, .int a3, .int a4, .int a5, .int a6] ((z11, (((z12111, ((z1211211, c_Se_table), z121122)), ((z121211, c_Se_count), z12122)), z122)), z2)) (Qw G (some (.int R.1)) ((z11, (((z12111, ((z1211211, R.2.1), z121122)), ((z121211, R.2.2), z12122)), z122)), z2)) 0 0 (Aw G) := by
  refine met_of (by decide) 1 G hG _ _ (Nat.le_of_ble_eq_true rfl) _ _ (fun X _ C => ?_)
  have C : Cx G X RcSe prog_8_method_5_code 8 1 (some .int) := C
  unfold fSe_add at h
  show At G X 8 _ 0 [(0, .ref (ad G 7)), (1, .int a1), (2, .int a2), (3, .int a3), (4, .int a4), (5, .int a5), (6, .int a6)] [] ((z11, (((z12111, ((z1211211, c_Se_table), z121122)), ((z121211, c_Se_count), z12122)), z122)), z2)
  refine at_aload_n (j := 0) C dSe_add_0 rfl rfl ?_
  refine gfSe_count (x := c_Se_count) C rfl dSe_add_1 ?_
  refine at_bipush C dSe_add_4 cb_8 ?_
  refine at_imul C dSe_add_6 ?_
  refine at_istore (L' := [(7, .int (c_Se_count * (8 : Int32))), (0, .ref (ad G 7)), (1, .int a1), (2, .int a2), (3, .int a3), (4, .int a4), (5, .int a5), (6, .int a6)]) C dSe_add_7 (by decide) rfl ?_
  refine at_aload_n (j := 1) C dSe_add_9 rfl rfl ?_
  refine gfSe_table C dSe_add_10 ?_
  refine at_iload (j := 0) C dSe_add_13 rfl ?_
  refine at_iconst C dSe_add_15 ci_0 ?_
  refine at_iadd C dSe_add_16 ?_
  refine at_iload_n (j := 2) C dSe_add_17 rfl rfl ?_
  obtain ⟨hg1, h⟩ := gd_some h
  refine svSe_table C hg1 dSe_add_18 ?_
  refine at_st (S1 := ((z11, (((z12111, ((z1211211, (upd c_Se_table (((c_Se_count * (8 : Int32)) + (0 : Int32))).toNatClampNeg a1)), z121122)), ((z121211, c_Se_count), z12122)), z122)), z2)) rfl ?_
  refine at_aload_n (j := 1) C dSe_add_19 rfl rfl ?_
  refine gfSe_table C dSe_add_20 ?_
  refine at_iload (j := 0) C dSe_add_23 rfl ?_
  refine at_iconst C dSe_add_25 ci_1 ?_
  refine at_iadd C dSe_add_26 ?_
  refine at_iload_n (j := 3) C dSe_add_27 rfl rfl ?_
  obtain ⟨hg2, h⟩ := gd_some h
  refine svSe_table C hg2 dSe_add_28 ?_
  refine at_st (S1 := ((z11, (((z12111, ((z1211211, (upd (upd c_Se_table (((c_Se_count * (8 : Int32)) + (0 : Int32))).toNatClampNeg a1) (((c_Se_count * (8 : Int32)) + (1 : Int32))).toNatClampNeg a2)), z121122)), ((z121211, c_Se_count), z12122)), z122)), z2)) rfl ?_
  refine at_aload_n (j := 1) C dSe_add_29 rfl rfl ?_
  refine gfSe_table C dSe_add_30 ?_
  refine at_iload (j := 0) C dSe_add_33 rfl ?_
  refine at_iconst C dSe_add_35 ci_2 ?_
  refine at_iadd C dSe_add_36 ?_
  refine at_iload_n (j := 4) C dSe_add_37 rfl rfl ?_
  obtain ⟨hg3, h⟩ := gd_some h
  refine svSe_table C hg3 dSe_add_38 ?_
  refine at_st (S1 := ((z11, (((z12111, ((z1211211, (upd (upd (upd c_Se_table (((c_Se_count * (8 : Int32)) + (0 : Int32))).toNatClampNeg a1) (((c_Se_count * (8 : Int32)) + (1 : Int32))).toNatClampNeg a2) (((c_Se_count * (8 : Int32)) + (2 : Int32))).toNatClampNeg a3)), z121122)), ((z121211, c_Se_count), z12122)), z122)), z2)) rfl ?_
  refine at_aload_n (j := 1) C dSe_add_39 rfl rfl ?_
  refine gfSe_table C dSe_add_40 ?_
  refine at_iload (j := 0) C dSe_add_43 rfl ?_
  refine at_iconst C dSe_add_45 ci_3 ?_
  refine at_iadd C dSe_add_46 ?_
  refine at_iload (j := 5) C dSe_add_47 rfl ?_
  obtain ⟨hg4, h⟩ := gd_some h
  refine svSe_table C hg4 dSe_add_49 ?_
  refine at_st (S1 := ((z11, (((z12111, ((z1211211, (upd (upd (upd (upd c_Se_table (((c_Se_count * (8 : Int32)) + (0 : Int32))).toNatClampNeg a1) (((c_Se_count * (8 : Int32)) + (1 : Int32))).toNatClampNeg a2) (((c_Se_count * (8 : Int32)) + (2 : Int32))).toNatClampNeg a3) (((c_Se_count * (8 : Int32)) + (3 : Int32))).toNatClampNeg a4)), z121122)), ((z121211, c_Se_count), z12122)), z122)), z2)) rfl ?_
  refine at_aload_n (j := 1) C dSe_add_50 rfl rfl ?_
  refine gfSe_table C dSe_add_51 ?_
  refine at_iload (j := 0) C dSe_add_54 rfl ?_
  refine at_iconst C dSe_add_56 ci_4 ?_
  refine at_iadd C dSe_add_57 ?_
  refine at_iload (j := 6) C dSe_add_58 rfl ?_
  obtain ⟨hg5, h⟩ := gd_some h
  refine svSe_table C hg5 dSe_add_60 ?_
  refine at_st (S1 := ((z11, (((z12111, ((z1211211, (upd (upd (upd (upd (upd c_Se_table (((c_Se_count * (8 : Int32)) + (0 : Int32))).toNatClampNeg a1) (((c_Se_count * (8 : Int32)) + (1 : Int32))).toNatClampNeg a2) (((c_Se_count * (8 : Int32)) + (2 : Int32))).toNatClampNeg a3) (((c_Se_count * (8 : Int32)) + (3 : Int32))).toNatClampNeg a4) (((c_Se_count * (8 : Int32)) + (4 : Int32))).toNatClampNeg a5)), z121122)), ((z121211, c_Se_count), z12122)), z122)), z2)) rfl ?_
  refine at_aload_n (j := 1) C dSe_add_61 rfl rfl ?_
  refine gfSe_table C dSe_add_62 ?_
  refine at_iload (j := 0) C dSe_add_65 rfl ?_
  refine at_iconst C dSe_add_67 ci_5 ?_
  refine at_iadd C dSe_add_68 ?_
  refine at_iload (j := 7) C dSe_add_69 rfl ?_
  obtain ⟨hg6, h⟩ := gd_some h
  refine svSe_table C hg6 dSe_add_71 ?_
  refine at_st (S1 := ((z11, (((z12111, ((z1211211, (upd (upd (upd (upd (upd (upd c_Se_table (((c_Se_count * (8 : Int32)) + (0 : Int32))).toNatClampNeg a1) (((c_Se_count * (8 : Int32)) + (1 : Int32))).toNatClampNeg a2) (((c_Se_count * (8 : Int32)) + (2 : Int32))).toNatClampNeg a3) (((c_Se_count * (8 : Int32)) + (3 : Int32))).toNatClampNeg a4) (((c_Se_count * (8 : Int32)) + (4 : Int32))).toNatClampNeg a5) (((c_Se_count * (8 : Int32)) + (5 : Int32))).toNatClampNeg a6)), z121122)), ((z121211, c_Se_count), z12122)), z122)), z2)) rfl ?_
  refine at_aload_n (j := 1) C dSe_add_72 rfl rfl ?_
  refine at_dup C dSe_add_73 rfl ?_
  refine gfSe_count (x := c_Se_count) C rfl dSe_add_74 ?_
  refine at_iconst C dSe_add_77 ci_1 ?_
  refine at_iadd C dSe_add_78 ?_
  refine pfSe_count C dSe_add_79 ?_
  refine at_st (S1 := ((z11, (((z12111, ((z1211211, (upd (upd (upd (upd (upd (upd c_Se_table (((c_Se_count * (8 : Int32)) + (0 : Int32))).toNatClampNeg a1) (((c_Se_count * (8 : Int32)) + (1 : Int32))).toNatClampNeg a2) (((c_Se_count * (8 : Int32)) + (2 : Int32))).toNatClampNeg a3) (((c_Se_count * (8 : Int32)) + (3 : Int32))).toNatClampNeg a4) (((c_Se_count * (8 : Int32)) + (4 : Int32))).toNatClampNeg a5) (((c_Se_count * (8 : Int32)) + (5 : Int32))).toNatClampNeg a6)), z121122)), ((z121211, (c_Se_count + (1 : Int32))), z12122)), z122)), z2)) rfl ?_
  refine at_aload_n (j := 1) C dSe_add_82 rfl rfl ?_
  refine gfSe_count (x := (c_Se_count + (1 : Int32))) C rfl dSe_add_83 ?_
  refine at_iconst C dSe_add_86 ci_1 ?_
  refine at_isub C dSe_add_87 ?_
  cases h
  exact at_iret C dSe_add_88
set_option maxRecDepth 100000 in
set_option maxHeartbeats 4000000 in
theorem cTL_send {l : Launch} {G : GG} (hG : GOK G) {c_TL_clock : Int32} {c_Ro_length : (Nat → Int32)} {c_Ro_reach : (Nat → Int32)} {c_Ro_settled : (Nat → Int32)} {c_Po_weights : (Nat → Int32)} {c_Po_load : Int32} {c_Se_table : (Nat → Int32)} {c_Se_count : Int32} {z111122 : (Nat → Int32)} {z1112 : Z1112} {z112 : Z112} {z12111 : Z12111} {z1211211 : (Nat → Int64)} {z121122 : (Nat → Int32)} {z121211 : Z121211} {z12122 : Z12122} {z122 : Z122} {z2 : Z2} (a1 : Int32) (a2 : Int32) (a3 : Int32) (R : (Int32 × (Nat → Int32) × (Nat → Int32) × (Nat → Int32) × Int32)) (h : fTL_send a1 a2 a3 c_TL_clock c_Ro_length c_Ro_reach c_Ro_settled c_Po_weights c_Po_load c_Se_table c_Se_count = some R) : Met l yTL_send (.code yTL_send prog_1_method_14_code 5 (some .int) :: gw) (rmm 3) (PcW G [.ref (ad G 0), .int a1, .int a2, .int a3] (((((((c_TL_clock, c_Ro_length), (c_Ro_reach, c_Ro_settled)), ((c_Po_weights, c_Po_load), z111122)), z1112), z112), (((z12111, ((z1211211, c_Se_table), z121122)), ((z121211, c_Se_count), z12122)), z122)), z2)) (Qw G (some (.int R.1)) (((((((c_TL_clock, c_Ro_length), (R.2.1, R.2.2.1)), ((c_Po_weights, c_Po_load), z111122)), z1112), z112), (((z12111, ((z1211211, R.2.2.2.1), z121122)), ((z121211, R.2.2.2.2), z12122)), z122)), z2)) 0 0 (Aw G) := by
  refine met_of (by decide) 3 G hG _ _ (Nat.le_of_ble_eq_true rfl) _ _ (fun X _ C => ?_)
  have C : Cx G X RcTL prog_1_method_14_code 5 3 (some .int) := C
  unfold fTL_send at h
  show At G X 5 _ 0 [(0, .ref (ad G 0)), (1, .int a1), (2, .int a2), (3, .int a3)] [] (((((((c_TL_clock, c_Ro_length), (c_Ro_reach, c_Ro_settled)), ((c_Po_weights, c_Po_load), z111122)), z1112), z112), (((z12111, ((z1211211, c_Se_table), z121122)), ((z121211, c_Se_count), z12122)), z122)), z2)
  refine at_iload_n (j := 1) C dTL_send_0 rfl rfl ?_
  refine at_callSi C kTL_144 (cTL_isTown C.2.2.2.2.2.2.1 _ _ rfl) (by omega) rfl rfl (Nat.le_of_ble_eq_true rfl) dTL_send_1 ?_
  refine at_if_eq C dTL_send_4 rfl (fun hc => ?_) (fun hc => ?_)
  · replace h := ifp hc h
    refine at_iconst C dTL_send_35 ci_m1 ?_
    cases h
    exact at_iret C dTL_send_36
  · replace h := ifn hc h
    refine at_iload_n (j := 2) C dTL_send_7 rfl rfl ?_
    refine at_callSi C kTL_95 (cTL_isGood C.2.2.2.2.2.2.1 _ _ rfl) (by omega) rfl rfl (Nat.le_of_ble_eq_true rfl) dTL_send_8 ?_
    refine at_if_eq C dTL_send_11 rfl (fun hc => ?_) (fun hc => ?_)
    · replace h := ifp hc h
      refine at_iconst C dTL_send_35 ci_m1 ?_
      cases h
      exact at_iret C dTL_send_36
    · replace h := ifn hc h
      refine at_iload_n (j := 3) C dTL_send_14 rfl rfl ?_
      refine at_iconst C dTL_send_15 ci_1 ?_
      refine at_sipush C dTL_send_16 cs_9999 ?_
      refine at_callSi C kTL_80 (cTL_within C.2.2.2.2.2.2.1 _ _ _ _ rfl) (by omega) rfl rfl (Nat.le_of_ble_eq_true rfl) dTL_send_19 ?_
      refine at_if_eq C dTL_send_22 rfl (fun hc => ?_) (fun hc => ?_)
      · replace h := ifp hc h
        refine at_iconst C dTL_send_35 ci_m1 ?_
        cases h
        exact at_iret C dTL_send_36
      · replace h := ifn hc h
        refine at_aload_n (j := 0) C dTL_send_25 rfl rfl ?_
        refine gfTL_sendings C dTL_send_26 ?_
        refine at_callVi C kTL_160 (cSe_isFull C.2.2.2.2.2.2.1 _ rfl) (by omega) rfl rfl rfl rfl (Nat.le_of_ble_eq_true rfl) dTL_send_29 ?_
        refine at_if_eq C dTL_send_32 rfl (fun hc => ?_) (fun hc => ?_)
        · replace h := ifp hc h
          refine at_aload_n (j := 0) C dTL_send_37 rfl rfl ?_
          refine gfTL_roads C dTL_send_38 ?_
          refine at_iload_n (j := 1) C dTL_send_41 rfl rfl ?_
          refine at_iconst C dTL_send_42 ci_0 ?_
          obtain ⟨e1, he1, h⟩ := ob_some h
          refine at_callVi C kTL_88 (cRo_leastDays C.2.2.2.2.2.2.1 _ _ _ he1) (by omega) rfl rfl rfl rfl (Nat.le_of_ble_eq_true rfl) dTL_send_43 ?_
          refine at_istore (L' := [(4, .int e1.1), (0, .ref (ad G 0)), (1, .int a1), (2, .int a2), (3, .int a3)]) C dTL_send_46 (by decide) rfl ?_
          refine at_iload (j := 0) C dTL_send_48 rfl ?_
          refine at_iconst C dTL_send_50 ci_m1 ?_
          refine at_icmp_ne C dTL_send_51 rfl (fun hc => ?_) (fun hc => ?_)
          · replace h := ifn hc h
            refine at_aload_n (j := 1) C dTL_send_56 rfl rfl ?_
            refine gfTL_sendings C dTL_send_57 ?_
            refine at_iload_n (j := 2) C dTL_send_60 rfl rfl ?_
            refine at_iload_n (j := 3) C dTL_send_61 rfl rfl ?_
            refine at_iload_n (j := 4) C dTL_send_62 rfl rfl ?_
            refine at_aload_n (j := 1) C dTL_send_63 rfl rfl ?_
            refine gfTL_porters C dTL_send_64 ?_
            refine at_iload_n (j := 3) C dTL_send_67 rfl rfl ?_
            refine at_iload_n (j := 4) C dTL_send_68 rfl rfl ?_
            obtain ⟨e2, he2, h⟩ := ob_some h
            refine at_callVi C kTL_102 (cPo_needed C.2.2.2.2.2.2.1 _ _ _ he2) (by omega) rfl rfl rfl rfl (Nat.le_of_ble_eq_true rfl) dTL_send_69 ?_
            refine at_aload_n (j := 1) C dTL_send_72 rfl rfl ?_
            refine gfTL_clock (x := c_TL_clock) C rfl dTL_send_73 ?_
            refine at_aload_n (j := 1) C dTL_send_76 rfl rfl ?_
            refine gfTL_clock (x := c_TL_clock) C rfl dTL_send_77 ?_
            refine at_iload (j := 0) C dTL_send_80 rfl ?_
            refine at_iadd C dTL_send_82 ?_
            obtain ⟨e3, he3, h⟩ := ob_some h
            refine at_callVi C kTL_163 (cSe_add C.2.2.2.2.2.2.1 _ _ _ _ _ _ _ he3) (by omega) rfl rfl rfl rfl (Nat.le_of_ble_eq_true rfl) dTL_send_83 ?_
            cases h
            exact at_iret C dTL_send_86
          · replace h := ifp hc h
            refine at_iconst C dTL_send_54 ci_m1 ?_
            cases h
            exact at_iret C dTL_send_55
        · replace h := ifn hc h
          refine at_iconst C dTL_send_35 ci_m1 ?_
          cases h
          exact at_iret C dTL_send_36
set_option maxRecDepth 100000 in
set_option maxHeartbeats 4000000 in
theorem cSe_count {l : Launch} {G : GG} (hG : GOK G) {c_Se_count : Int32} {z11 : Z11} {z1211 : Z1211} {z121211 : Z121211} {z12122 : Z12122} {z122 : Z122} {z2 : Z2} (R : Int32) (h : fSe_count c_Se_count = R) : Met l ySe_count (.code ySe_count prog_8_method_3_code 1 (some .int) :: gw) (rmm 1) (PcW G [.ref (ad G 7)] ((z11, ((z1211, ((z121211, c_Se_count), z12122)), z122)), z2)) (Qw G (some (.int R)) ((z11, ((z1211, ((z121211, c_Se_count), z12122)), z122)), z2)) 0 0 (Aw G) := by
  refine met_of (by decide) 1 G hG _ _ (Nat.le_of_ble_eq_true rfl) _ _ (fun X _ C => ?_)
  have C : Cx G X RcSe prog_8_method_3_code 1 1 (some .int) := C
  unfold fSe_count at h
  show At G X 1 _ 0 [(0, .ref (ad G 7))] [] ((z11, ((z1211, ((z121211, c_Se_count), z12122)), z122)), z2)
  refine at_aload_n (j := 0) C dSe_count_0 rfl rfl ?_
  refine gfSe_count (x := c_Se_count) C rfl dSe_count_1 ?_
  subst h
  exact at_iret C dSe_count_4
set_option maxRecDepth 100000 in
set_option maxHeartbeats 4000000 in
theorem cSe_entry {l : Launch} {G : GG} (hG : GOK G) {c_Se_table : (Nat → Int32)} {z11 : Z11} {z12111 : Z12111} {z1211211 : (Nat → Int64)} {z121122 : (Nat → Int32)} {z1212 : Z1212} {z122 : Z122} {z2 : Z2} (a1 : Int32) (a2 : Int32) (R : Int32) (h : fSe_entry a1 a2 c_Se_table = some R) : Met l ySe_entry (.code ySe_entry prog_8_method_6_code 3 (some .int) :: gw) (rmm 1) (PcW G [.ref (ad G 7), .int a1, .int a2] ((z11, (((z12111, ((z1211211, c_Se_table), z121122)), z1212), z122)), z2)) (Qw G (some (.int R)) ((z11, (((z12111, ((z1211211, c_Se_table), z121122)), z1212), z122)), z2)) 0 0 (Aw G) := by
  refine met_of (by decide) 1 G hG _ _ (Nat.le_of_ble_eq_true rfl) _ _ (fun X _ C => ?_)
  have C : Cx G X RcSe prog_8_method_6_code 3 1 (some .int) := C
  unfold fSe_entry at h
  show At G X 3 _ 0 [(0, .ref (ad G 7)), (1, .int a1), (2, .int a2)] [] ((z11, (((z12111, ((z1211211, c_Se_table), z121122)), z1212), z122)), z2)
  refine at_aload_n (j := 0) C dSe_entry_0 rfl rfl ?_
  refine gfSe_table C dSe_entry_1 ?_
  refine at_iload_n (j := 1) C dSe_entry_4 rfl rfl ?_
  refine at_bipush C dSe_entry_5 cb_8 ?_
  refine at_imul C dSe_entry_7 ?_
  refine at_iload_n (j := 2) C dSe_entry_8 rfl rfl ?_
  refine at_iadd C dSe_entry_9 ?_
  obtain ⟨hg1, h⟩ := gd_some h
  refine ldSe_table (f := c_Se_table) C rfl hg1 dSe_entry_10 ?_
  cases h
  exact at_iret C dSe_entry_11
set_option maxRecDepth 100000 in
set_option maxHeartbeats 4000000 in
theorem cTL_sending {l : Launch} {G : GG} (hG : GOK G) {c_Se_table : (Nat → Int32)} {c_Se_count : Int32} {z11 : Z11} {z12111 : Z12111} {z1211211 : (Nat → Int64)} {z121122 : (Nat → Int32)} {z121211 : Z121211} {z12122 : Z12122} {z122 : Z122} {z2 : Z2} (a1 : Int32) (a2 : Int32) (R : Int32) (h : fTL_sending a1 a2 c_Se_table c_Se_count = some R) : Met l yTL_sending (.code yTL_sending prog_1_method_15_code 3 (some .int) :: gw) (rmm 2) (PcW G [.ref (ad G 0), .int a1, .int a2] ((z11, (((z12111, ((z1211211, c_Se_table), z121122)), ((z121211, c_Se_count), z12122)), z122)), z2)) (Qw G (some (.int R)) ((z11, (((z12111, ((z1211211, c_Se_table), z121122)), ((z121211, c_Se_count), z12122)), z122)), z2)) 0 0 (Aw G) := by
  refine met_of (by decide) 2 G hG _ _ (Nat.le_of_ble_eq_true rfl) _ _ (fun X _ C => ?_)
  have C : Cx G X RcTL prog_1_method_15_code 3 2 (some .int) := C
  unfold fTL_sending at h
  show At G X 3 _ 0 [(0, .ref (ad G 0)), (1, .int a1), (2, .int a2)] [] ((z11, (((z12111, ((z1211211, c_Se_table), z121122)), ((z121211, c_Se_count), z12122)), z122)), z2)
  refine at_iload_n (j := 1) C dTL_sending_0 rfl rfl ?_
  refine at_iconst C dTL_sending_1 ci_0 ?_
  refine at_aload_n (j := 0) C dTL_sending_2 rfl rfl ?_
  refine gfTL_sendings C dTL_sending_3 ?_
  refine at_callVi C kTL_167 (cSe_count C.2.2.2.2.2.2.1 _ rfl) (by omega) rfl rfl rfl rfl (Nat.le_of_ble_eq_true rfl) dTL_sending_6 ?_
  refine at_iconst C dTL_sending_9 ci_1 ?_
  refine at_isub C dTL_sending_10 ?_
  refine at_callSi C kTL_80 (cTL_within C.2.2.2.2.2.2.1 _ _ _ _ rfl) (by omega) rfl rfl (Nat.le_of_ble_eq_true rfl) dTL_sending_11 ?_
  refine at_if_eq C dTL_sending_14 rfl (fun hc => ?_) (fun hc => ?_)
  · replace h := ifp hc h
    refine at_iconst C dTL_sending_27 ci_m1 ?_
    cases h
    exact at_iret C dTL_sending_28
  · replace h := ifn hc h
    refine at_iload_n (j := 2) C dTL_sending_17 rfl rfl ?_
    refine at_iconst C dTL_sending_18 ci_0 ?_
    refine at_bipush C dTL_sending_19 cb_7 ?_
    refine at_callSi C kTL_80 (cTL_within C.2.2.2.2.2.2.1 _ _ _ _ rfl) (by omega) rfl rfl (Nat.le_of_ble_eq_true rfl) dTL_sending_21 ?_
    refine at_if_ne C dTL_sending_24 rfl (fun hc => ?_) (fun hc => ?_)
    · replace h := ifn hc h
      refine at_aload_n (j := 0) C dTL_sending_29 rfl rfl ?_
      refine gfTL_sendings C dTL_sending_30 ?_
      refine at_iload_n (j := 1) C dTL_sending_33 rfl rfl ?_
      refine at_iload_n (j := 2) C dTL_sending_34 rfl rfl ?_
      obtain ⟨e1, he1, h⟩ := ob_some h
      refine at_callVi C kTL_170 (cSe_entry C.2.2.2.2.2.2.1 _ _ _ he1) (by omega) rfl rfl rfl rfl (Nat.le_of_ble_eq_true rfl) dTL_sending_35 ?_
      cases h
      exact at_iret C dTL_sending_38
    · replace h := ifp hc h
      refine at_iconst C dTL_sending_27 ci_m1 ?_
      cases h
      exact at_iret C dTL_sending_28
set_option maxRecDepth 100000 in
set_option maxHeartbeats 4000000 in
theorem cSe_comesOn {l : Launch} {G : GG} (hG : GOK G) {c_Se_table : (Nat → Int32)} {z11 : Z11} {z12111 : Z12111} {z1211211 : (Nat → Int64)} {z121122 : (Nat → Int32)} {z1212 : Z1212} {z122 : Z122} {z2 : Z2} (a1 : Int32) (a2 : Int32) (R : Int32) (h : fSe_comesOn a1 a2 c_Se_table = some R) : Met l ySe_comesOn (.code ySe_comesOn prog_8_method_7_code 3 (some .boolean) :: gw) (rmm 2) (PcW G [.ref (ad G 7), .int a1, .int a2] ((z11, (((z12111, ((z1211211, c_Se_table), z121122)), z1212), z122)), z2)) (Qw G (some (.int R)) ((z11, (((z12111, ((z1211211, c_Se_table), z121122)), z1212), z122)), z2)) 0 0 (Aw G) := by
  refine met_of (by decide) 2 G hG _ _ (Nat.le_of_ble_eq_true rfl) _ _ (fun X _ C => ?_)
  have C : Cx G X RcSe prog_8_method_7_code 3 2 (some .boolean) := C
  unfold fSe_comesOn at h
  show At G X 3 _ 0 [(0, .ref (ad G 7)), (1, .int a1), (2, .int a2)] [] ((z11, (((z12111, ((z1211211, c_Se_table), z121122)), z1212), z122)), z2)
  refine at_aload_n (j := 0) C dSe_comesOn_0 rfl rfl ?_
  refine at_iload_n (j := 1) C dSe_comesOn_1 rfl rfl ?_
  refine at_iconst C dSe_comesOn_2 ci_5 ?_
  obtain ⟨e1, he1, h⟩ := ob_some h
  refine at_callVi C kSe_28 (cSe_entry C.2.2.2.2.2.2.1 _ _ _ he1) (by omega) rfl rfl rfl rfl (Nat.le_of_ble_eq_true rfl) dSe_comesOn_3 ?_
  refine at_iload_n (j := 2) C dSe_comesOn_6 rfl rfl ?_
  refine at_icmp_ne C dSe_comesOn_7 rfl (fun hc => ?_) (fun hc => ?_)
  · replace h := ifn hc h
    refine at_iconst C dSe_comesOn_24 ci_0 ?_
    cases h
    exact at_zret (x := (0 : Int32)) C zn_0 dSe_comesOn_25
  · replace h := ifp hc h
    refine at_aload_n (j := 0) C dSe_comesOn_10 rfl rfl ?_
    refine at_iload_n (j := 1) C dSe_comesOn_11 rfl rfl ?_
    refine at_bipush C dSe_comesOn_12 cb_6 ?_
    obtain ⟨e2, he2, h⟩ := ob_some h
    refine at_callVi C kSe_28 (cSe_entry C.2.2.2.2.2.2.1 _ _ _ he2) (by omega) rfl rfl rfl rfl (Nat.le_of_ble_eq_true rfl) dSe_comesOn_14 ?_
    refine at_if_ne C dSe_comesOn_17 rfl (fun hc => ?_) (fun hc => ?_)
    · replace h := ifn hc h
      refine at_iconst C dSe_comesOn_24 ci_0 ?_
      cases h
      exact at_zret (x := (0 : Int32)) C zn_0 dSe_comesOn_25
    · replace h := ifp hc h
      refine at_iconst C dSe_comesOn_20 ci_1 ?_
      refine at_goto C dSe_comesOn_21 rfl ?_
      cases h
      exact at_zret (x := (1 : Int32)) C zn_1 dSe_comesOn_25
set_option maxRecDepth 100000 in
set_option maxHeartbeats 4000000 in
theorem cAc_comingDay {l : Launch} {G : GG} (hG : GOK G) {z : ST} (a0 : Int32) (R : Int32) (h : fAc_comingDay a0 = R) : Met l yAc_comingDay (.code yAc_comingDay prog_2_method_5_code 1 (some .int) :: gw) (rmm 1) (PcW G [.int a0] z) (Qw G (some (.int R)) z) 0 0 (Aw G) := by
  refine met_of (by decide) 1 G hG _ _ (Nat.le_of_ble_eq_true rfl) _ _ (fun X _ C => ?_)
  have C : Cx G X RcAc prog_2_method_5_code 1 1 (some .int) := C
  unfold fAc_comingDay at h
  show At G X 1 _ 0 [(0, .int a0)] [] z
  refine at_bipush C dAc_comingDay_0 cb_90 ?_
  refine at_iload_n (j := 0) C dAc_comingDay_2 rfl rfl ?_
  refine at_iconst C dAc_comingDay_3 ci_1 ?_
  refine at_iadd C dAc_comingDay_4 ?_
  refine at_imul C dAc_comingDay_5 ?_
  subst h
  exact at_iret C dAc_comingDay_6
set_option maxRecDepth 100000 in
set_option maxHeartbeats 4000000 in
theorem cAc_pay {l : Launch} {G : GG} (hG : GOK G) {c_Ac_unpaid : (Nat → Int32)} {c_Ac_owing : (Nat → Int32)} {c_Ac_paidOff : (Nat → Int32)} {c_Ac_lateOfPaid : (Nat → Int64)} {z111 : Z111} {z1121 : Z1121} {z11221 : Z11221} {z112221 : Z112221} {z1211112 : (Nat → Int32)} {z1211212 : (Nat → Int32)} {z121122 : (Nat → Int32)} {z1212 : Z1212} {z122 : Z122} {z2 : Z2} (a1 : Int32) (a2 : Int32) (a3 : Int32) (a4 : Int32) (R : (Int32 × (Nat → Int32) × (Nat → Int32) × (Nat → Int32) × (Nat → Int64))) (h : fAc_pay a1 a2 a3 a4 c_Ac_unpaid c_Ac_owing c_Ac_paidOff c_Ac_lateOfPaid = some R) : Met l yAc_pay (.code yAc_pay prog_2_method_4_code 6 (some .int) :: gw) (rmm 2) (PcW G [.ref (ad G 6), .int a1, .int a2, .int a3, .int a4] (((z111, (z1121, (z11221, (z112221, c_Ac_unpaid)))), (((((c_Ac_owing, z1211112), c_Ac_paidOff), ((c_Ac_lateOfPaid, z1211212), z121122)), z1212), z122)), z2)) (Qw G (some (.int R.1)) (((z111, (z1121, (z11221, (z112221, R.2.1)))), (((((R.2.2.1, z1211112), R.2.2.2.1), ((R.2.2.2.2, z1211212), z121122)), z1212), z122)), z2)) 0 0 (Aw G) := by
  refine met_of (by decide) 2 G hG _ _ (Nat.le_of_ble_eq_true rfl) _ _ (fun X _ C => ?_)
  have C : Cx G X RcAc prog_2_method_4_code 6 2 (some .int) := C
  unfold fAc_pay at h
  show At G X 6 _ 0 [(0, .ref (ad G 6)), (1, .int a1), (2, .int a2), (3, .int a3), (4, .int a4)] [] (((z111, (z1121, (z11221, (z112221, c_Ac_unpaid)))), (((((c_Ac_owing, z1211112), c_Ac_paidOff), ((c_Ac_lateOfPaid, z1211212), z121122)), z1212), z122)), z2)
  refine at_iload_n (j := 3) C dAc_pay_0 rfl rfl ?_
  refine at_aload_n (j := 0) C dAc_pay_1 rfl rfl ?_
  refine gfAc_unpaid C dAc_pay_2 ?_
  refine at_iload_n (j := 1) C dAc_pay_5 rfl rfl ?_
  refine at_bipush C dAc_pay_6 cb_33 ?_
  refine at_imul C dAc_pay_8 ?_
  refine at_iload_n (j := 2) C dAc_pay_9 rfl rfl ?_
  refine at_iadd C dAc_pay_10 ?_
  obtain ⟨hg1, h⟩ := gd_some h
  refine ldAc_unpaid (f := c_Ac_unpaid) C rfl hg1 dAc_pay_11 ?_
  refine at_mmin C jAc_40 (by omega) (Nat.le_of_ble_eq_true rfl) dAc_pay_12 ?_
  refine at_istore (L' := [(5, .int (if (c_Ac_unpaid (((a1 * (33 : Int32)) + a2)).toNatClampNeg) < a3 then (c_Ac_unpaid (((a1 * (33 : Int32)) + a2)).toNatClampNeg) else a3)), (0, .ref (ad G 6)), (1, .int a1), (2, .int a2), (3, .int a3), (4, .int a4)]) C dAc_pay_15 (by decide) rfl ?_
  refine at_aload_n (j := 1) C dAc_pay_17 rfl rfl ?_
  refine gfAc_unpaid C dAc_pay_18 ?_
  refine at_iload_n (j := 2) C dAc_pay_21 rfl rfl ?_
  refine at_bipush C dAc_pay_22 cb_33 ?_
  refine at_imul C dAc_pay_24 ?_
  refine at_iload_n (j := 3) C dAc_pay_25 rfl rfl ?_
  refine at_iadd C dAc_pay_26 ?_
  refine at_dup2 C dAc_pay_27 rfl rfl ?_
  obtain ⟨hg2, h⟩ := gd_some h
  refine ldAc_unpaid (f := c_Ac_unpaid) C rfl hg2 dAc_pay_28 ?_
  refine at_iload (j := 0) C dAc_pay_29 rfl ?_
  refine at_isub C dAc_pay_31 ?_
  obtain ⟨hg3, h⟩ := gd_some h
  refine svAc_unpaid C hg3 dAc_pay_32 ?_
  refine at_st (S1 := (((z111, (z1121, (z11221, (z112221, (upd c_Ac_unpaid (((a1 * (33 : Int32)) + a2)).toNatClampNeg ((c_Ac_unpaid (((a1 * (33 : Int32)) + a2)).toNatClampNeg) - (if (c_Ac_unpaid (((a1 * (33 : Int32)) + a2)).toNatClampNeg) < a3 then (c_Ac_unpaid (((a1 * (33 : Int32)) + a2)).toNatClampNeg) else a3))))))), (((((c_Ac_owing, z1211112), c_Ac_paidOff), ((c_Ac_lateOfPaid, z1211212), z121122)), z1212), z122)), z2)) rfl ?_
  refine at_aload_n (j := 1) C dAc_pay_33 rfl rfl ?_
  refine gfAc_owing C dAc_pay_34 ?_
  refine at_iload_n (j := 2) C dAc_pay_37 rfl rfl ?_
  refine at_dup2 C dAc_pay_38 rfl rfl ?_
  obtain ⟨hg4, h⟩ := gd_some h
  refine ldAc_owing (f := c_Ac_owing) C rfl hg4 dAc_pay_39 ?_
  refine at_iload (j := 0) C dAc_pay_40 rfl ?_
  refine at_isub C dAc_pay_42 ?_
  obtain ⟨hg5, h⟩ := gd_some h
  refine svAc_owing C hg5 dAc_pay_43 ?_
  refine at_st (S1 := (((z111, (z1121, (z11221, (z112221, (upd c_Ac_unpaid (((a1 * (33 : Int32)) + a2)).toNatClampNeg ((c_Ac_unpaid (((a1 * (33 : Int32)) + a2)).toNatClampNeg) - (if (c_Ac_unpaid (((a1 * (33 : Int32)) + a2)).toNatClampNeg) < a3 then (c_Ac_unpaid (((a1 * (33 : Int32)) + a2)).toNatClampNeg) else a3))))))), ((((((upd c_Ac_owing (a1).toNatClampNeg ((c_Ac_owing (a1).toNatClampNeg) - (if (c_Ac_unpaid (((a1 * (33 : Int32)) + a2)).toNatClampNeg) < a3 then (c_Ac_unpaid (((a1 * (33 : Int32)) + a2)).toNatClampNeg) else a3))), z1211112), c_Ac_paidOff), ((c_Ac_lateOfPaid, z1211212), z121122)), z1212), z122)), z2)) rfl ?_
  refine at_aload_n (j := 1) C dAc_pay_44 rfl rfl ?_
  refine gfAc_paidOff C dAc_pay_45 ?_
  refine at_iload_n (j := 2) C dAc_pay_48 rfl rfl ?_
  refine at_dup2 C dAc_pay_49 rfl rfl ?_
  obtain ⟨hg6, h⟩ := gd_some h
  refine ldAc_paidOff (f := c_Ac_paidOff) C rfl hg6 dAc_pay_50 ?_
  refine at_iload (j := 0) C dAc_pay_51 rfl ?_
  refine at_iadd C dAc_pay_53 ?_
  obtain ⟨hg7, h⟩ := gd_some h
  refine svAc_paidOff C hg7 dAc_pay_54 ?_
  refine at_st (S1 := (((z111, (z1121, (z11221, (z112221, (upd c_Ac_unpaid (((a1 * (33 : Int32)) + a2)).toNatClampNeg ((c_Ac_unpaid (((a1 * (33 : Int32)) + a2)).toNatClampNeg) - (if (c_Ac_unpaid (((a1 * (33 : Int32)) + a2)).toNatClampNeg) < a3 then (c_Ac_unpaid (((a1 * (33 : Int32)) + a2)).toNatClampNeg) else a3))))))), ((((((upd c_Ac_owing (a1).toNatClampNeg ((c_Ac_owing (a1).toNatClampNeg) - (if (c_Ac_unpaid (((a1 * (33 : Int32)) + a2)).toNatClampNeg) < a3 then (c_Ac_unpaid (((a1 * (33 : Int32)) + a2)).toNatClampNeg) else a3))), z1211112), (upd c_Ac_paidOff (a1).toNatClampNeg ((c_Ac_paidOff (a1).toNatClampNeg) + (if (c_Ac_unpaid (((a1 * (33 : Int32)) + a2)).toNatClampNeg) < a3 then (c_Ac_unpaid (((a1 * (33 : Int32)) + a2)).toNatClampNeg) else a3)))), ((c_Ac_lateOfPaid, z1211212), z121122)), z1212), z122)), z2)) rfl ?_
  refine at_aload_n (j := 1) C dAc_pay_55 rfl rfl ?_
  refine gfAc_lateOfPaid C dAc_pay_56 ?_
  refine at_iload_n (j := 2) C dAc_pay_59 rfl rfl ?_
  refine at_bipush C dAc_pay_60 cb_6 ?_
  refine at_idiv C dAc_pay_62 (by decide) ?_
  refine at_dup2 C dAc_pay_63 rfl rfl ?_
  obtain ⟨hg8, h⟩ := gd_some h
  refine ldAc_lateOfPaid (f := c_Ac_lateOfPaid) C rfl hg8 dAc_pay_64 ?_
  refine at_iload (j := 0) C dAc_pay_65 rfl ?_
  refine at_i2l C dAc_pay_67 ?_
  refine at_iload (j := 5) C dAc_pay_68 rfl ?_
  refine at_iload_n (j := 3) C dAc_pay_70 rfl rfl ?_
  refine at_callSi C kAc_36 (cAc_comingDay C.2.2.2.2.2.2.1 _ _ rfl) (by omega) rfl rfl (Nat.le_of_ble_eq_true rfl) dAc_pay_71 ?_
  refine at_isub C dAc_pay_74 ?_
  refine at_i2l C dAc_pay_75 ?_
  refine at_lmul C dAc_pay_76 ?_
  refine at_ladd C dAc_pay_77 ?_
  obtain ⟨hg9, h⟩ := gd_some h
  refine svAc_lateOfPaid C hg9 dAc_pay_78 ?_
  refine at_st (S1 := (((z111, (z1121, (z11221, (z112221, (upd c_Ac_unpaid (((a1 * (33 : Int32)) + a2)).toNatClampNeg ((c_Ac_unpaid (((a1 * (33 : Int32)) + a2)).toNatClampNeg) - (if (c_Ac_unpaid (((a1 * (33 : Int32)) + a2)).toNatClampNeg) < a3 then (c_Ac_unpaid (((a1 * (33 : Int32)) + a2)).toNatClampNeg) else a3))))))), ((((((upd c_Ac_owing (a1).toNatClampNeg ((c_Ac_owing (a1).toNatClampNeg) - (if (c_Ac_unpaid (((a1 * (33 : Int32)) + a2)).toNatClampNeg) < a3 then (c_Ac_unpaid (((a1 * (33 : Int32)) + a2)).toNatClampNeg) else a3))), z1211112), (upd c_Ac_paidOff (a1).toNatClampNeg ((c_Ac_paidOff (a1).toNatClampNeg) + (if (c_Ac_unpaid (((a1 * (33 : Int32)) + a2)).toNatClampNeg) < a3 then (c_Ac_unpaid (((a1 * (33 : Int32)) + a2)).toNatClampNeg) else a3)))), (((vp_updL c_Ac_lateOfPaid ((a1 / (6 : Int32))).toNatClampNeg ((c_Ac_lateOfPaid ((a1 / (6 : Int32))).toNatClampNeg) + (((if (c_Ac_unpaid (((a1 * (33 : Int32)) + a2)).toNatClampNeg) < a3 then (c_Ac_unpaid (((a1 * (33 : Int32)) + a2)).toNatClampNeg) else a3)).toInt64 * ((a4 - (fAc_comingDay a2))).toInt64))), z1211212), z121122)), z1212), z122)), z2)) rfl ?_
  refine at_iload (j := 0) C dAc_pay_79 rfl ?_
  cases h
  exact at_iret C dAc_pay_81
set_option maxRecDepth 100000 in
set_option maxHeartbeats 4000000 in
theorem wAc_store_l6 {G : GG} {X : CX} {c_Ac_gifts : (Nat → Int32)} {z111 : Z111} {z1121 : Z1121} {z11221 : Z11221} {z112221 : Z112221} {z1211212 : (Nat → Int32)} {z121122 : (Nat → Int32)} {z1212 : Z1212} {z122 : Z122} {z2 : Z2} (C : Cx G X RcAc prog_2_method_2_code 6 3 (some .int)) {Q : State → Prop}  (a1 : Int32) (a2 : Int32) (a3 : Int32) : ∀ (n : Nat) (a4 : Int32) (a5 : Int32) (c_Ac_unpaid : (Nat → Int32)) (c_Ac_owing : (Nat → Int32)) (c_Ac_paidOff : (Nat → Int32)) (c_Ac_lateOfPaid : (Nat → Int64)) (E : (Int32 × (Nat → Int32) × (Nat → Int32) × (Nat → Int32) × (Nat → Int64))) (h : fAc_store_l6 a1 a2 a3 n a4 a5 c_Ac_unpaid c_Ac_owing c_Ac_paidOff c_Ac_lateOfPaid = some E) (k0 : At G X 6 Q 39 [(0, .ref (ad G 6)), (1, .int a1), (2, .int a2), (4, .int E.1)] [] (((z111, (z1121, (z11221, (z112221, E.2.1)))), (((((E.2.2.1, c_Ac_gifts), E.2.2.2.1), ((E.2.2.2.2, z1211212), z121122)), z1212), z122)), z2)), At G X 6 Q 6 [(0, .ref (ad G 6)), (1, .int a1), (2, .int a2), (3, .int a3), (4, .int a4), (5, .int a5)] [] (((z111, (z1121, (z11221, (z112221, c_Ac_unpaid)))), (((((c_Ac_owing, c_Ac_gifts), c_Ac_paidOff), ((c_Ac_lateOfPaid, z1211212), z121122)), z1212), z122)), z2) := by
  intro n
  induction n with
  | zero =>
    intro a4 a5 c_Ac_unpaid c_Ac_owing c_Ac_paidOff c_Ac_lateOfPaid E h k0
    rw [fAc_store_l6.eq_1] at h
    cases h
  | succ n ih =>
    intro a4 a5 c_Ac_unpaid c_Ac_owing c_Ac_paidOff c_Ac_lateOfPaid E h k0
    rw [fAc_store_l6.eq_2] at h
    refine at_iload (j := 5) C dAc_store_6 rfl ?_
    refine at_bipush C dAc_store_8 cb_33 ?_
    refine at_icmp_ge C dAc_store_10 rfl (fun hc => ?_) (fun hc => ?_)
    · replace h := ifp hc h
      cases h
      refine at_loc (L' := [(0, .ref (ad G 6)), (1, .int a1), (2, .int a2), (4, .int a4)]) [0, 1, 2, 4] rfl ?_
      exact k0
    · replace h := ifn hc h
      refine at_iload (j := 4) C dAc_store_13 rfl ?_
      refine at_if_le C dAc_store_15 rfl (fun hc => ?_) (fun hc => ?_)
      · replace h := ifp hc h
        cases h
        refine at_loc (L' := [(0, .ref (ad G 6)), (1, .int a1), (2, .int a2), (4, .int a4)]) [0, 1, 2, 4] rfl ?_
        exact k0
      · replace h := ifn hc h
        refine at_iload (j := 4) C dAc_store_18 rfl ?_
        refine at_aload_n (j := 0) C dAc_store_20 rfl rfl ?_
        refine at_iload_n (j := 1) C dAc_store_21 rfl rfl ?_
        refine at_iload (j := 5) C dAc_store_22 rfl ?_
        refine at_iload (j := 4) C dAc_store_24 rfl ?_
        refine at_iload_n (j := 3) C dAc_store_26 rfl rfl ?_
        obtain ⟨e1, he1, h⟩ := ob_some h
        refine at_callVi C kAc_28 (cAc_pay C.2.2.2.2.2.2.1 _ _ _ _ _ he1) (by omega) rfl rfl rfl rfl (Nat.le_of_ble_eq_true rfl) dAc_store_27 ?_
        refine at_isub C dAc_store_30 ?_
        refine at_istore (L' := [(4, .int (a4 - e1.1)), (0, .ref (ad G 6)), (1, .int a1), (2, .int a2), (3, .int a3), (5, .int a5)]) C dAc_store_31 (by decide) rfl ?_
        refine at_iinc (j := 5) (L' := [(5, .int (a5 + (1 : Int32))), (4, .int (a4 - e1.1)), (0, .ref (ad G 6)), (1, .int a1), (2, .int a2), (3, .int a3)]) C dAc_store_33 rfl ci_1 (by decide) rfl ?_
        refine at_goto C dAc_store_36 rfl ?_
        refine at_loc (L' := [(0, .ref (ad G 6)), (1, .int a1), (2, .int a2), (3, .int a3), (4, .int (a4 - e1.1)), (5, .int (a5 + (1 : Int32)))]) [2, 3, 4, 5, 1, 0] rfl ?_
        exact ih _ _ _ _ _ _ _ h k0
set_option maxRecDepth 100000 in
set_option maxHeartbeats 4000000 in
theorem cAc_store {l : Launch} {G : GG} (hG : GOK G) {c_Ac_unpaid : (Nat → Int32)} {c_Ac_owing : (Nat → Int32)} {c_Ac_gifts : (Nat → Int32)} {c_Ac_paidOff : (Nat → Int32)} {c_Ac_lateOfPaid : (Nat → Int64)} {z111 : Z111} {z1121 : Z1121} {z11221 : Z11221} {z112221 : Z112221} {z1211212 : (Nat → Int32)} {z121122 : (Nat → Int32)} {z1212 : Z1212} {z122 : Z122} {z2 : Z2} (a1 : Int32) (a2 : Int32) (a3 : Int32) (R : (Int32 × (Nat → Int32) × (Nat → Int32) × (Nat → Int32) × (Nat → Int32) × (Nat → Int64))) (h : fAc_store a1 a2 a3 c_Ac_unpaid c_Ac_owing c_Ac_gifts c_Ac_paidOff c_Ac_lateOfPaid = some R) : Met l yAc_store (.code yAc_store prog_2_method_2_code 6 (some .int) :: gw) (rmm 3) (PcW G [.ref (ad G 6), .int a1, .int a2, .int a3] (((z111, (z1121, (z11221, (z112221, c_Ac_unpaid)))), (((((c_Ac_owing, c_Ac_gifts), c_Ac_paidOff), ((c_Ac_lateOfPaid, z1211212), z121122)), z1212), z122)), z2)) (Qw G (some (.int R.1)) (((z111, (z1121, (z11221, (z112221, R.2.1)))), (((((R.2.2.1, R.2.2.2.1), R.2.2.2.2.1), ((R.2.2.2.2.2, z1211212), z121122)), z1212), z122)), z2)) 0 0 (Aw G) := by
  refine met_of (by decide) 3 G hG _ _ (Nat.le_of_ble_eq_true rfl) _ _ (fun X _ C => ?_)
  have C : Cx G X RcAc prog_2_method_2_code 6 3 (some .int) := C
  unfold fAc_store at h
  show At G X 6 _ 0 [(0, .ref (ad G 6)), (1, .int a1), (2, .int a2), (3, .int a3)] [] (((z111, (z1121, (z11221, (z112221, c_Ac_unpaid)))), (((((c_Ac_owing, c_Ac_gifts), c_Ac_paidOff), ((c_Ac_lateOfPaid, z1211212), z121122)), z1212), z122)), z2)
  refine at_iload_n (j := 2) C dAc_store_0 rfl rfl ?_
  refine at_istore (L' := [(4, .int a2), (0, .ref (ad G 6)), (1, .int a1), (2, .int a2), (3, .int a3)]) C dAc_store_1 (by decide) rfl ?_
  refine at_iconst C dAc_store_3 ci_0 ?_
  refine at_istore (L' := [(5, .int (0 : Int32)), (4, .int a2), (0, .ref (ad G 6)), (1, .int a1), (2, .int a2), (3, .int a3)]) C dAc_store_4 (by decide) rfl ?_
  obtain ⟨e2, he2, h⟩ := ob_some h
  refine at_loc (L' := [(0, .ref (ad G 6)), (1, .int a1), (2, .int a2), (3, .int a3), (4, .int a2), (5, .int (0 : Int32))]) [2, 3, 4, 5, 1, 0] rfl ?_
  refine wAc_store_l6 C _ _ _ FU _ _ _ _ _ _ _ he2 ?_
  refine at_aload_n (j := 0) C dAc_store_39 rfl rfl ?_
  refine gfAc_gifts C dAc_store_40 ?_
  refine at_iload_n (j := 1) C dAc_store_43 rfl rfl ?_
  refine at_dup2 C dAc_store_44 rfl rfl ?_
  obtain ⟨hg3, h⟩ := gd_some h
  refine ldAc_gifts (f := c_Ac_gifts) C rfl hg3 dAc_store_45 ?_
  refine at_iload (j := 3) C dAc_store_46 rfl ?_
  refine at_iadd C dAc_store_48 ?_
  obtain ⟨hg4, h⟩ := gd_some h
  refine svAc_gifts C hg4 dAc_store_49 ?_
  refine at_st (S1 := (((z111, (z1121, (z11221, (z112221, e2.2.1)))), (((((e2.2.2.1, (upd c_Ac_gifts (a1).toNatClampNeg ((c_Ac_gifts (a1).toNatClampNeg) + e2.1))), e2.2.2.2.1), ((e2.2.2.2.2, z1211212), z121122)), z1212), z122)), z2)) rfl ?_
  refine at_iload_n (j := 2) C dAc_store_50 rfl rfl ?_
  refine at_iload (j := 3) C dAc_store_51 rfl ?_
  refine at_isub C dAc_store_53 ?_
  cases h
  exact at_iret C dAc_store_54
set_option maxRecDepth 100000 in
set_option maxHeartbeats 4000000 in
theorem cSe_markStored {l : Launch} {G : GG} (hG : GOK G) {c_Se_table : (Nat → Int32)} {c_Se_storedOrder : (Nat → Int32)} {c_Se_storedCount : Int32} {c_Se_storedPieces : Int32} {z11 : Z11} {z12111 : Z12111} {z1211211 : (Nat → Int64)} {z121212 : Int32} {z12122 : Z12122} {z122 : Z122} {z2 : Z2} (a1 : Int32) (a2 : Int32) (R : ((Nat → Int32) × (Nat → Int32) × Int32 × Int32)) (h : fSe_markStored a1 a2 c_Se_table c_Se_storedOrder c_Se_storedCount c_Se_storedPieces = some R) : Met l ySe_markStored (.code ySe_markStored prog_8_method_8_code 3 none :: gw) (rmm 2) (PcW G [.ref (ad G 7), .int a1, .int a2] ((z11, (((z12111, ((z1211211, c_Se_table), c_Se_storedOrder)), (((c_Se_storedCount, c_Se_storedPieces), z121212), z12122)), z122)), z2)) (Qw G (none) ((z11, (((z12111, ((z1211211, R.1), R.2.1)), (((R.2.2.1, R.2.2.2), z121212), z12122)), z122)), z2)) 0 0 (Aw G) := by
  refine met_of (by decide) 2 G hG _ _ (Nat.le_of_ble_eq_true rfl) _ _ (fun X _ C => ?_)
  have C : Cx G X RcSe prog_8_method_8_code 3 2 none := C
  unfold fSe_markStored at h
  show At G X 3 _ 0 [(0, .ref (ad G 7)), (1, .int a1), (2, .int a2)] [] ((z11, (((z12111, ((z1211211, c_Se_table), c_Se_storedOrder)), (((c_Se_storedCount, c_Se_storedPieces), z121212), z12122)), z122)), z2)
  refine at_aload_n (j := 0) C dSe_markStored_0 rfl rfl ?_
  refine gfSe_storedCount (x := c_Se_storedCount) C rfl dSe_markStored_1 ?_
  refine at_bipush C dSe_markStored_4 cb_100 ?_
  refine at_icmp_lt C dSe_markStored_6 rfl (fun hc => ?_) (fun hc => ?_)
  · replace h := ifp hc h
    refine at_aload_n (j := 0) C dSe_markStored_10 rfl rfl ?_
    refine gfSe_table C dSe_markStored_11 ?_
    refine at_iload_n (j := 1) C dSe_markStored_14 rfl rfl ?_
    refine at_bipush C dSe_markStored_15 cb_8 ?_
    refine at_imul C dSe_markStored_17 ?_
    refine at_bipush C dSe_markStored_18 cb_6 ?_
    refine at_iadd C dSe_markStored_20 ?_
    refine at_iconst C dSe_markStored_21 ci_1 ?_
    obtain ⟨hg1, h⟩ := gd_some h
    refine svSe_table C hg1 dSe_markStored_22 ?_
    refine at_st (S1 := ((z11, (((z12111, ((z1211211, (upd c_Se_table (((a1 * (8 : Int32)) + (6 : Int32))).toNatClampNeg (1 : Int32))), c_Se_storedOrder)), (((c_Se_storedCount, c_Se_storedPieces), z121212), z12122)), z122)), z2)) rfl ?_
    refine at_aload_n (j := 0) C dSe_markStored_23 rfl rfl ?_
    refine gfSe_table C dSe_markStored_24 ?_
    refine at_iload_n (j := 1) C dSe_markStored_27 rfl rfl ?_
    refine at_bipush C dSe_markStored_28 cb_8 ?_
    refine at_imul C dSe_markStored_30 ?_
    refine at_bipush C dSe_markStored_31 cb_7 ?_
    refine at_iadd C dSe_markStored_33 ?_
    refine at_iload_n (j := 2) C dSe_markStored_34 rfl rfl ?_
    obtain ⟨hg2, h⟩ := gd_some h
    refine svSe_table C hg2 dSe_markStored_35 ?_
    refine at_st (S1 := ((z11, (((z12111, ((z1211211, (upd (upd c_Se_table (((a1 * (8 : Int32)) + (6 : Int32))).toNatClampNeg (1 : Int32)) (((a1 * (8 : Int32)) + (7 : Int32))).toNatClampNeg a2)), c_Se_storedOrder)), (((c_Se_storedCount, c_Se_storedPieces), z121212), z12122)), z122)), z2)) rfl ?_
    refine at_aload_n (j := 0) C dSe_markStored_36 rfl rfl ?_
    refine gfSe_storedOrder C dSe_markStored_37 ?_
    refine at_aload_n (j := 0) C dSe_markStored_40 rfl rfl ?_
    refine gfSe_storedCount (x := c_Se_storedCount) C rfl dSe_markStored_41 ?_
    refine at_iload_n (j := 1) C dSe_markStored_44 rfl rfl ?_
    obtain ⟨hg3, h⟩ := gd_some h
    refine svSe_storedOrder C hg3 dSe_markStored_45 ?_
    refine at_st (S1 := ((z11, (((z12111, ((z1211211, (upd (upd c_Se_table (((a1 * (8 : Int32)) + (6 : Int32))).toNatClampNeg (1 : Int32)) (((a1 * (8 : Int32)) + (7 : Int32))).toNatClampNeg a2)), (upd c_Se_storedOrder (c_Se_storedCount).toNatClampNeg a1))), (((c_Se_storedCount, c_Se_storedPieces), z121212), z12122)), z122)), z2)) rfl ?_
    refine at_aload_n (j := 0) C dSe_markStored_46 rfl rfl ?_
    refine at_dup C dSe_markStored_47 rfl ?_
    refine gfSe_storedCount (x := c_Se_storedCount) C rfl dSe_markStored_48 ?_
    refine at_iconst C dSe_markStored_51 ci_1 ?_
    refine at_iadd C dSe_markStored_52 ?_
    refine pfSe_storedCount C dSe_markStored_53 ?_
    refine at_st (S1 := ((z11, (((z12111, ((z1211211, (upd (upd c_Se_table (((a1 * (8 : Int32)) + (6 : Int32))).toNatClampNeg (1 : Int32)) (((a1 * (8 : Int32)) + (7 : Int32))).toNatClampNeg a2)), (upd c_Se_storedOrder (c_Se_storedCount).toNatClampNeg a1))), ((((c_Se_storedCount + (1 : Int32)), c_Se_storedPieces), z121212), z12122)), z122)), z2)) rfl ?_
    refine at_aload_n (j := 0) C dSe_markStored_56 rfl rfl ?_
    refine at_dup C dSe_markStored_57 rfl ?_
    refine gfSe_storedPieces (x := c_Se_storedPieces) C rfl dSe_markStored_58 ?_
    refine at_aload_n (j := 0) C dSe_markStored_61 rfl rfl ?_
    refine at_iload_n (j := 1) C dSe_markStored_62 rfl rfl ?_
    refine at_iconst C dSe_markStored_63 ci_2 ?_
    obtain ⟨e4, he4, h⟩ := ob_some h
    refine at_callVi C kSe_28 (cSe_entry C.2.2.2.2.2.2.1 _ _ _ he4) (by omega) rfl rfl rfl rfl (Nat.le_of_ble_eq_true rfl) dSe_markStored_64 ?_
    refine at_iadd C dSe_markStored_67 ?_
    refine pfSe_storedPieces C dSe_markStored_68 ?_
    refine at_st (S1 := ((z11, (((z12111, ((z1211211, (upd (upd c_Se_table (((a1 * (8 : Int32)) + (6 : Int32))).toNatClampNeg (1 : Int32)) (((a1 * (8 : Int32)) + (7 : Int32))).toNatClampNeg a2)), (upd c_Se_storedOrder (c_Se_storedCount).toNatClampNeg a1))), ((((c_Se_storedCount + (1 : Int32)), (c_Se_storedPieces + e4)), z121212), z12122)), z122)), z2)) rfl ?_
    cases h
    exact at_vret C dSe_markStored_71
  · replace h := ifn hc h
    cases h
    exact at_vret C dSe_markStored_9
set_option maxRecDepth 100000 in
set_option maxHeartbeats 4000000 in
theorem wTL_storeArrivals_l2 {G : GG} {X : CX} {c_TL_clock : Int32} {c_Se_count : Int32} {z1111112 : (Nat → Int32)} {z111112 : Z111112} {z11112 : Z11112} {z1112 : Z1112} {z1121 : Z1121} {z11221 : Z11221} {z112221 : Z112221} {z12122 : Z12122} {z122 : Z122} {z2 : Z2} (C : Cx G X RcTL prog_1_method_26_code 4 4 none) {Q : State → Prop}  : ∀ (n : Nat) (a1 : Int32) (c_Ac_unpaid : (Nat → Int32)) (c_Ac_owing : (Nat → Int32)) (c_Ac_gifts : (Nat → Int32)) (c_Ac_paidOff : (Nat → Int32)) (c_Ac_lateOfPaid : (Nat → Int64)) (c_Se_table : (Nat → Int32)) (c_Se_storedOrder : (Nat → Int32)) (c_Se_storedCount : Int32) (c_Se_storedPieces : Int32) (E : ((Nat → Int32) × (Nat → Int32) × (Nat → Int32) × (Nat → Int32) × (Nat → Int64) × (Nat → Int32) × (Nat → Int32) × Int32 × Int32)) (h : fTL_storeArrivals_l2 c_TL_clock c_Se_count n a1 c_Ac_unpaid c_Ac_owing c_Ac_gifts c_Ac_paidOff c_Ac_lateOfPaid c_Se_table c_Se_storedOrder c_Se_storedCount c_Se_storedPieces = some E) (k0 : At G X 4 Q 87 [] [] (((((((c_TL_clock, z1111112), z111112), z11112), z1112), (z1121, (z11221, (z112221, E.1)))), (((((E.2.1, E.2.2.1), E.2.2.2.1), ((E.2.2.2.2.1, E.2.2.2.2.2.1), E.2.2.2.2.2.2.1)), (((E.2.2.2.2.2.2.2.1, E.2.2.2.2.2.2.2.2), c_Se_count), z12122)), z122)), z2)), At G X 4 Q 2 [(0, .ref (ad G 0)), (1, .int a1)] [] (((((((c_TL_clock, z1111112), z111112), z11112), z1112), (z1121, (z11221, (z112221, c_Ac_unpaid)))), (((((c_Ac_owing, c_Ac_gifts), c_Ac_paidOff), ((c_Ac_lateOfPaid, c_Se_table), c_Se_storedOrder)), (((c_Se_storedCount, c_Se_storedPieces), c_Se_count), z12122)), z122)), z2) := by
  intro n
  induction n with
  | zero =>
    intro a1 c_Ac_unpaid c_Ac_owing c_Ac_gifts c_Ac_paidOff c_Ac_lateOfPaid c_Se_table c_Se_storedOrder c_Se_storedCount c_Se_storedPieces E h k0
    rw [fTL_storeArrivals_l2.eq_1] at h
    cases h
  | succ n ih =>
    intro a1 c_Ac_unpaid c_Ac_owing c_Ac_gifts c_Ac_paidOff c_Ac_lateOfPaid c_Se_table c_Se_storedOrder c_Se_storedCount c_Se_storedPieces E h k0
    rw [fTL_storeArrivals_l2.eq_2] at h
    refine at_iload_n (j := 1) C dTL_storeArrivals_2 rfl rfl ?_
    refine at_aload_n (j := 0) C dTL_storeArrivals_3 rfl rfl ?_
    refine gfTL_sendings C dTL_storeArrivals_4 ?_
    refine at_callVi C kTL_167 (cSe_count C.2.2.2.2.2.2.1 _ rfl) (by omega) rfl rfl rfl rfl (Nat.le_of_ble_eq_true rfl) dTL_storeArrivals_7 ?_
    refine at_icmp_ge C dTL_storeArrivals_10 rfl (fun hc => ?_) (fun hc => ?_)
    · replace h := ifp hc h
      cases h
      refine at_loc (L' := []) [] rfl ?_
      exact k0
    · replace h := ifn hc h
      refine at_aload_n (j := 0) C dTL_storeArrivals_13 rfl rfl ?_
      refine gfTL_sendings C dTL_storeArrivals_14 ?_
      refine at_iload_n (j := 1) C dTL_storeArrivals_17 rfl rfl ?_
      refine at_aload_n (j := 0) C dTL_storeArrivals_18 rfl rfl ?_
      refine gfTL_clock (x := c_TL_clock) C rfl dTL_storeArrivals_19 ?_
      obtain ⟨e1, he1, h⟩ := ob_some h
      refine at_callVi C kTL_243 (cSe_comesOn C.2.2.2.2.2.2.1 _ _ _ he1) (by omega) rfl rfl rfl rfl (Nat.le_of_ble_eq_true rfl) dTL_storeArrivals_22 ?_
      refine at_if_eq C dTL_storeArrivals_25 rfl (fun hc => ?_) (fun hc => ?_)
      · replace h := ifp hc h
        refine at_iinc (j := 1) (L' := [(1, .int (a1 + (1 : Int32))), (0, .ref (ad G 0))]) C dTL_storeArrivals_81 rfl ci_1 (by decide) rfl ?_
        refine at_goto C dTL_storeArrivals_84 rfl ?_
        refine at_loc (L' := [(0, .ref (ad G 0)), (1, .int (a1 + (1 : Int32)))]) [1, 0] rfl ?_
        exact ih _ _ _ _ _ _ _ _ _ _ _ h k0
      · replace h := ifn hc h
        refine at_aload_n (j := 0) C dTL_storeArrivals_28 rfl rfl ?_
        refine gfTL_sendings C dTL_storeArrivals_29 ?_
        refine at_iload_n (j := 1) C dTL_storeArrivals_32 rfl rfl ?_
        refine at_iconst C dTL_storeArrivals_33 ci_0 ?_
        obtain ⟨e2, he2, h⟩ := ob_some h
        refine at_callVi C kTL_170 (cSe_entry C.2.2.2.2.2.2.1 _ _ _ he2) (by omega) rfl rfl rfl rfl (Nat.le_of_ble_eq_true rfl) dTL_storeArrivals_34 ?_
        refine at_aload_n (j := 0) C dTL_storeArrivals_37 rfl rfl ?_
        refine gfTL_sendings C dTL_storeArrivals_38 ?_
        refine at_iload_n (j := 1) C dTL_storeArrivals_41 rfl rfl ?_
        refine at_iconst C dTL_storeArrivals_42 ci_1 ?_
        obtain ⟨e3, he3, h⟩ := ob_some h
        refine at_callVi C kTL_170 (cSe_entry C.2.2.2.2.2.2.1 _ _ _ he3) (by omega) rfl rfl rfl rfl (Nat.le_of_ble_eq_true rfl) dTL_storeArrivals_43 ?_
        refine at_callSi C kTL_147 (cTL_slot C.2.2.2.2.2.2.1 _ _ _ rfl) (by omega) rfl rfl (Nat.le_of_ble_eq_true rfl) dTL_storeArrivals_46 ?_
        refine at_istore_n (L' := [(2, .int (fTL_slot e2 e3)), (0, .ref (ad G 0)), (1, .int a1)]) C dTL_storeArrivals_49 rfl (by decide) rfl ?_
        refine at_aload_n (j := 1) C dTL_storeArrivals_50 rfl rfl ?_
        refine gfTL_accounts C dTL_storeArrivals_51 ?_
        refine at_iload_n (j := 0) C dTL_storeArrivals_54 rfl rfl ?_
        refine at_aload_n (j := 1) C dTL_storeArrivals_55 rfl rfl ?_
        refine gfTL_sendings C dTL_storeArrivals_56 ?_
        refine at_iload_n (j := 2) C dTL_storeArrivals_59 rfl rfl ?_
        refine at_iconst C dTL_storeArrivals_60 ci_2 ?_
        obtain ⟨e4, he4, h⟩ := ob_some h
        refine at_callVi C kTL_170 (cSe_entry C.2.2.2.2.2.2.1 _ _ _ he4) (by omega) rfl rfl rfl rfl (Nat.le_of_ble_eq_true rfl) dTL_storeArrivals_61 ?_
        refine at_aload_n (j := 1) C dTL_storeArrivals_64 rfl rfl ?_
        refine gfTL_clock (x := c_TL_clock) C rfl dTL_storeArrivals_65 ?_
        obtain ⟨e5, he5, h⟩ := ob_some h
        refine at_callVi C kTL_246 (cAc_store C.2.2.2.2.2.2.1 _ _ _ _ he5) (by omega) rfl rfl rfl rfl (Nat.le_of_ble_eq_true rfl) dTL_storeArrivals_68 ?_
        refine at_istore_n (L' := [(3, .int e5.1), (2, .int (fTL_slot e2 e3)), (0, .ref (ad G 0)), (1, .int a1)]) C dTL_storeArrivals_71 rfl (by decide) rfl ?_
        refine at_aload_n (j := 2) C dTL_storeArrivals_72 rfl rfl ?_
        refine gfTL_sendings C dTL_storeArrivals_73 ?_
        refine at_iload_n (j := 3) C dTL_storeArrivals_76 rfl rfl ?_
        refine at_iload_n (j := 0) C dTL_storeArrivals_77 rfl rfl ?_
        obtain ⟨e6, he6, h⟩ := ob_some h
        refine at_callVv C kTL_250 (cSe_markStored C.2.2.2.2.2.2.1 _ _ _ he6) (by omega) rfl rfl rfl rfl (Nat.le_of_ble_eq_true rfl) dTL_storeArrivals_78 ?_
        refine at_iinc (j := 3) (L' := [(1, .int (a1 + (1 : Int32))), (3, .int e5.1), (2, .int (fTL_slot e2 e3)), (0, .ref (ad G 0))]) C dTL_storeArrivals_81 rfl ci_1 (by decide) rfl ?_
        refine at_goto C dTL_storeArrivals_84 rfl ?_
        refine at_loc (L' := [(0, .ref (ad G 0)), (1, .int (a1 + (1 : Int32)))]) [3, 0] rfl ?_
        exact ih _ _ _ _ _ _ _ _ _ _ _ h k0
set_option maxRecDepth 100000 in
set_option maxHeartbeats 4000000 in
theorem cTL_storeArrivals {l : Launch} {G : GG} (hG : GOK G) {c_TL_clock : Int32} {c_Ac_unpaid : (Nat → Int32)} {c_Ac_owing : (Nat → Int32)} {c_Ac_gifts : (Nat → Int32)} {c_Ac_paidOff : (Nat → Int32)} {c_Ac_lateOfPaid : (Nat → Int64)} {c_Se_table : (Nat → Int32)} {c_Se_storedOrder : (Nat → Int32)} {c_Se_storedCount : Int32} {c_Se_storedPieces : Int32} {c_Se_count : Int32} {z1111112 : (Nat → Int32)} {z111112 : Z111112} {z11112 : Z11112} {z1112 : Z1112} {z1121 : Z1121} {z11221 : Z11221} {z112221 : Z112221} {z12122 : Z12122} {z122 : Z122} {z2 : Z2} (R : ((Nat → Int32) × (Nat → Int32) × (Nat → Int32) × (Nat → Int32) × (Nat → Int64) × (Nat → Int32) × (Nat → Int32) × Int32 × Int32)) (h : fTL_storeArrivals c_TL_clock c_Ac_unpaid c_Ac_owing c_Ac_gifts c_Ac_paidOff c_Ac_lateOfPaid c_Se_table c_Se_storedOrder c_Se_storedCount c_Se_storedPieces c_Se_count = some R) : Met l yTL_storeArrivals (.code yTL_storeArrivals prog_1_method_26_code 4 none :: gw) (rmm 4) (PcW G [.ref (ad G 0)] (((((((c_TL_clock, z1111112), z111112), z11112), z1112), (z1121, (z11221, (z112221, c_Ac_unpaid)))), (((((c_Ac_owing, c_Ac_gifts), c_Ac_paidOff), ((c_Ac_lateOfPaid, c_Se_table), c_Se_storedOrder)), (((c_Se_storedCount, c_Se_storedPieces), c_Se_count), z12122)), z122)), z2)) (Qw G (none) (((((((c_TL_clock, z1111112), z111112), z11112), z1112), (z1121, (z11221, (z112221, R.1)))), (((((R.2.1, R.2.2.1), R.2.2.2.1), ((R.2.2.2.2.1, R.2.2.2.2.2.1), R.2.2.2.2.2.2.1)), (((R.2.2.2.2.2.2.2.1, R.2.2.2.2.2.2.2.2), c_Se_count), z12122)), z122)), z2)) 0 0 (Aw G) := by
  refine met_of (by decide) 4 G hG _ _ (Nat.le_of_ble_eq_true rfl) _ _ (fun X _ C => ?_)
  have C : Cx G X RcTL prog_1_method_26_code 4 4 none := C
  unfold fTL_storeArrivals at h
  show At G X 4 _ 0 [(0, .ref (ad G 0))] [] (((((((c_TL_clock, z1111112), z111112), z11112), z1112), (z1121, (z11221, (z112221, c_Ac_unpaid)))), (((((c_Ac_owing, c_Ac_gifts), c_Ac_paidOff), ((c_Ac_lateOfPaid, c_Se_table), c_Se_storedOrder)), (((c_Se_storedCount, c_Se_storedPieces), c_Se_count), z12122)), z122)), z2)
  refine at_iconst C dTL_storeArrivals_0 ci_0 ?_
  refine at_istore_n (L' := [(1, .int (0 : Int32)), (0, .ref (ad G 0))]) C dTL_storeArrivals_1 rfl (by decide) rfl ?_
  obtain ⟨e7, he7, h⟩ := ob_some h
  refine at_loc (L' := [(0, .ref (ad G 0)), (1, .int (0 : Int32))]) [1, 0] rfl ?_
  refine wTL_storeArrivals_l2 C FU _ _ _ _ _ _ _ _ _ _ _ he7 ?_
  cases h
  exact at_vret C dTL_storeArrivals_87
set_option maxRecDepth 100000 in
set_option maxHeartbeats 4000000 in
theorem cAc_bringDebt {l : Launch} {G : GG} (hG : GOK G) {c_Ac_unpaid : (Nat → Int32)} {c_Ac_owing : (Nat → Int32)} {c_Ac_gifts : (Nat → Int32)} {c_Ac_paidOff : (Nat → Int32)} {c_Ac_lateOfPaid : (Nat → Int64)} {z111 : Z111} {z1121 : Z1121} {z11221 : Z11221} {z112221 : Z112221} {z1211212 : (Nat → Int32)} {z121122 : (Nat → Int32)} {z1212 : Z1212} {z122 : Z122} {z2 : Z2} (a1 : Int32) (a2 : Int32) (a3 : Int32) (R : ((Nat → Int32) × (Nat → Int32) × (Nat → Int32) × (Nat → Int32) × (Nat → Int64))) (h : fAc_bringDebt a1 a2 a3 c_Ac_unpaid c_Ac_owing c_Ac_gifts c_Ac_paidOff c_Ac_lateOfPaid = some R) : Met l yAc_bringDebt (.code yAc_bringDebt prog_2_method_3_code 4 none :: gw) (rmm 3) (PcW G [.ref (ad G 6), .int a1, .int a2, .int a3] (((z111, (z1121, (z11221, (z112221, c_Ac_unpaid)))), (((((c_Ac_owing, c_Ac_gifts), c_Ac_paidOff), ((c_Ac_lateOfPaid, z1211212), z121122)), z1212), z122)), z2)) (Qw G (none) (((z111, (z1121, (z11221, (z112221, R.1)))), (((((R.2.1, R.2.2.1), R.2.2.2.1), ((R.2.2.2.2, z1211212), z121122)), z1212), z122)), z2)) 0 0 (Aw G) := by
  refine met_of (by decide) 3 G hG _ _ (Nat.le_of_ble_eq_true rfl) _ _ (fun X _ C => ?_)
  have C : Cx G X RcAc prog_2_method_3_code 4 3 none := C
  unfold fAc_bringDebt at h
  show At G X 4 _ 0 [(0, .ref (ad G 6)), (1, .int a1), (2, .int a2), (3, .int a3)] [] (((z111, (z1121, (z11221, (z112221, c_Ac_unpaid)))), (((((c_Ac_owing, c_Ac_gifts), c_Ac_paidOff), ((c_Ac_lateOfPaid, z1211212), z121122)), z1212), z122)), z2)
  refine at_iload_n (j := 3) C dAc_bringDebt_0 rfl rfl ?_
  refine at_if_le C dAc_bringDebt_1 rfl (fun hc => ?_) (fun hc => ?_)
  · replace h := ifp hc h
    cases h
    exact at_vret C dAc_bringDebt_14
  · replace h := ifn hc h
    refine at_iload_n (j := 2) C dAc_bringDebt_4 rfl rfl ?_
    refine at_iconst C dAc_bringDebt_5 ci_0 ?_
    refine at_bipush C dAc_bringDebt_6 cb_32 ?_
    refine at_callNi C kAc_32 (cTL_within C.2.2.2.2.2.2.1 _ _ _ _ rfl) (by omega) rfl rfl (Nat.le_of_ble_eq_true rfl) dAc_bringDebt_8 ?_
    refine at_if_ne C dAc_bringDebt_11 rfl (fun hc => ?_) (fun hc => ?_)
    · replace h := ifn hc h
      refine at_aload_n (j := 0) C dAc_bringDebt_15 rfl rfl ?_
      refine gfAc_unpaid C dAc_bringDebt_16 ?_
      refine at_iload_n (j := 1) C dAc_bringDebt_19 rfl rfl ?_
      refine at_bipush C dAc_bringDebt_20 cb_33 ?_
      refine at_imul C dAc_bringDebt_22 ?_
      refine at_iload_n (j := 2) C dAc_bringDebt_23 rfl rfl ?_
      refine at_iadd C dAc_bringDebt_24 ?_
      refine at_iload_n (j := 3) C dAc_bringDebt_25 rfl rfl ?_
      obtain ⟨hg1, h⟩ := gd_some h
      refine svAc_unpaid C hg1 dAc_bringDebt_26 ?_
      refine at_st (S1 := (((z111, (z1121, (z11221, (z112221, (upd c_Ac_unpaid (((a1 * (33 : Int32)) + a2)).toNatClampNeg a3))))), (((((c_Ac_owing, c_Ac_gifts), c_Ac_paidOff), ((c_Ac_lateOfPaid, z1211212), z121122)), z1212), z122)), z2)) rfl ?_
      refine at_aload_n (j := 0) C dAc_bringDebt_27 rfl rfl ?_
      refine gfAc_owing C dAc_bringDebt_28 ?_
      refine at_iload_n (j := 1) C dAc_bringDebt_31 rfl rfl ?_
      refine at_dup2 C dAc_bringDebt_32 rfl rfl ?_
      obtain ⟨hg2, h⟩ := gd_some h
      refine ldAc_owing (f := c_Ac_owing) C rfl hg2 dAc_bringDebt_33 ?_
      refine at_iload_n (j := 3) C dAc_bringDebt_34 rfl rfl ?_
      refine at_iadd C dAc_bringDebt_35 ?_
      obtain ⟨hg3, h⟩ := gd_some h
      refine svAc_owing C hg3 dAc_bringDebt_36 ?_
      refine at_st (S1 := (((z111, (z1121, (z11221, (z112221, (upd c_Ac_unpaid (((a1 * (33 : Int32)) + a2)).toNatClampNeg a3))))), ((((((upd c_Ac_owing (a1).toNatClampNeg ((c_Ac_owing (a1).toNatClampNeg) + a3)), c_Ac_gifts), c_Ac_paidOff), ((c_Ac_lateOfPaid, z1211212), z121122)), z1212), z122)), z2)) rfl ?_
      refine at_aload_n (j := 0) C dAc_bringDebt_37 rfl rfl ?_
      refine gfAc_gifts C dAc_bringDebt_38 ?_
      refine at_iload_n (j := 1) C dAc_bringDebt_41 rfl rfl ?_
      refine at_dup2 C dAc_bringDebt_42 rfl rfl ?_
      obtain ⟨hg4, h⟩ := gd_some h
      refine ldAc_gifts (f := c_Ac_gifts) C rfl hg4 dAc_bringDebt_43 ?_
      refine at_aload_n (j := 0) C dAc_bringDebt_44 rfl rfl ?_
      refine at_iload_n (j := 1) C dAc_bringDebt_45 rfl rfl ?_
      refine at_iload_n (j := 2) C dAc_bringDebt_46 rfl rfl ?_
      refine at_aload_n (j := 0) C dAc_bringDebt_47 rfl rfl ?_
      refine gfAc_gifts C dAc_bringDebt_48 ?_
      refine at_iload_n (j := 1) C dAc_bringDebt_51 rfl rfl ?_
      obtain ⟨hg5, h⟩ := gd_some h
      refine ldAc_gifts (f := c_Ac_gifts) C rfl hg5 dAc_bringDebt_52 ?_
      refine at_iload_n (j := 2) C dAc_bringDebt_53 rfl rfl ?_
      refine at_callSi C kAc_36 (cAc_comingDay C.2.2.2.2.2.2.1 _ _ rfl) (by omega) rfl rfl (Nat.le_of_ble_eq_true rfl) dAc_bringDebt_54 ?_
      obtain ⟨e6, he6, h⟩ := ob_some h
      refine at_callVi C kAc_28 (cAc_pay C.2.2.2.2.2.2.1 _ _ _ _ _ he6) (by omega) rfl rfl rfl rfl (Nat.le_of_ble_eq_true rfl) dAc_bringDebt_57 ?_
      refine at_isub C dAc_bringDebt_60 ?_
      obtain ⟨hg7, h⟩ := gd_some h
      refine svAc_gifts C hg7 dAc_bringDebt_61 ?_
      refine at_st (S1 := (((z111, (z1121, (z11221, (z112221, e6.2.1)))), (((((e6.2.2.1, (upd c_Ac_gifts (a1).toNatClampNeg ((c_Ac_gifts (a1).toNatClampNeg) - e6.1))), e6.2.2.2.1), ((e6.2.2.2.2, z1211212), z121122)), z1212), z122)), z2)) rfl ?_
      cases h
      exact at_vret C dAc_bringDebt_62
    · replace h := ifp hc h
      cases h
      exact at_vret C dAc_bringDebt_14
