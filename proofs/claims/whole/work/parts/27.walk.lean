set_option maxRecDepth 100000 in
set_option maxHeartbeats 4000000 in
theorem wMM_store_l27 {G : GG} {X : CX} {c_MM_clock : Int32} {c_MM_quarters : Int32} {c_MM_gift : (Nat → Int32)} {c_MM_paid : (Nat → Int32)} {c_MM_town : (Nat → Int32)} {c_MM_good : (Nat → Int32)} {c_MM_pieces : (Nat → Int32)} {c_MM_isStored : (Nat → Int32)} {c_MM_used : (Nat → Int32)} {c_MM_stored : Int32} {c_MM_storedOrder : (Nat → Int32)} {c_MM_storedMany : Int32} {z11 : Z11} {z121 : Z121} {z1221 : Z1221} {z12221 : Z12221} {z122221 : Z122221} {z2111112 : (Nat → Int32)} {z211112 : Z211112} {z21112 : Z21112} {z2112111 : Int32} {z211222 : Int32} {z21212 : Z21212} {z212222 : (Nat → Int32)} {z22 : Z22} (C : Cx G X RcMM prog_12_method_34_code 6 1 none) {Q : State → Prop}  (a1 : Int32) (a2 : Int32) : ∀ (n : Nat) (a3 : Int32) (a4 : Int32) (c_MM_debt : (Nat → Int32)) (c_MM_late : (Nat → Int64)) (E : (Int32 × (Nat → Int32) × (Nat → Int64))) (h : fMM_store_l27 a1 a2 c_MM_clock c_MM_quarters c_MM_town n a3 a4 c_MM_debt c_MM_late = some E) (k0 : At G X 6 Q 129 [(0, .ref (ad G 40)), (1, .int a1), (2, .int a2), (3, .int E.1)] [] ((z11, (z121, (z1221, (z12221, (z122221, c_MM_clock))))), ((((((c_MM_quarters, z2111112), z211112), z21112), (((z2112111, E.2.1), c_MM_gift), ((c_MM_paid, E.2.2), z211222))), ((((c_MM_town, c_MM_good), c_MM_pieces), z21212), (((c_MM_isStored, c_MM_used), c_MM_stored), ((c_MM_storedOrder, c_MM_storedMany), z212222)))), z22))), At G X 6 Q 27 [(0, .ref (ad G 40)), (1, .int a1), (2, .int a2), (3, .int a3), (4, .int a4)] [] ((z11, (z121, (z1221, (z12221, (z122221, c_MM_clock))))), ((((((c_MM_quarters, z2111112), z211112), z21112), (((z2112111, c_MM_debt), c_MM_gift), ((c_MM_paid, c_MM_late), z211222))), ((((c_MM_town, c_MM_good), c_MM_pieces), z21212), (((c_MM_isStored, c_MM_used), c_MM_stored), ((c_MM_storedOrder, c_MM_storedMany), z212222)))), z22)) := by
  intro n
  induction n with
  | zero =>
    intro a3 a4 c_MM_debt c_MM_late E h k0
    rw [fMM_store_l27.eq_1] at h
    cases h
  | succ n ih =>
    intro a3 a4 c_MM_debt c_MM_late E h k0
    rw [fMM_store_l27.eq_2] at h
    refine at_iload (j := 4) C dMM_store_27 rfl ?_
    refine at_aload_n (j := 0) C dMM_store_29 rfl rfl ?_
    refine gfMM_quarters (x := c_MM_quarters) C rfl dMM_store_30 ?_
    refine at_icmp_ge C dMM_store_33 rfl (fun hc => ?_) (fun hc => ?_)
    · replace h := ifp hc h
      cases h
      refine at_loc (L' := [(0, .ref (ad G 40)), (1, .int a1), (2, .int a2), (3, .int a3)]) [0, 1, 2, 3] rfl ?_
      exact k0
    · replace h := ifn hc h
      refine at_aload_n (j := 0) C dMM_store_36 rfl rfl ?_
      refine gfMM_debt C dMM_store_37 ?_
      refine at_bipush C dMM_store_40 cb_96 ?_
      refine at_iload (j := 4) C dMM_store_42 rfl ?_
      refine at_imul C dMM_store_44 ?_
      refine at_iload_n (j := 2) C dMM_store_45 rfl rfl ?_
      refine at_iadd C dMM_store_46 ?_
      obtain ⟨hg4, h⟩ := gd_some h
      refine ldMM_debt (f := c_MM_debt) C rfl hg4 dMM_store_47 ?_
      refine at_iload_n (j := 3) C dMM_store_48 rfl rfl ?_
      refine at_icmp_ge C dMM_store_49 rfl (fun hc => ?_) (fun hc => ?_)
      · replace h := ifp hc h
        refine at_iload_n (j := 3) C dMM_store_67 rfl rfl ?_
        refine at_istore (L' := [(5, .int a3), (0, .ref (ad G 40)), (1, .int a1), (2, .int a2), (3, .int a3), (4, .int a4)]) C dMM_store_68 (by decide) rfl ?_
        refine at_aload_n (j := 1) C dMM_store_70 rfl rfl ?_
        refine gfMM_debt C dMM_store_71 ?_
        refine at_bipush C dMM_store_74 cb_96 ?_
        refine at_iload (j := 5) C dMM_store_76 rfl ?_
        refine at_imul C dMM_store_78 ?_
        refine at_iload_n (j := 3) C dMM_store_79 rfl rfl ?_
        refine at_iadd C dMM_store_80 ?_
        refine at_dup2 C dMM_store_81 rfl rfl ?_
        obtain ⟨hg5, h⟩ := gd_some h
        refine ldMM_debt (f := c_MM_debt) C rfl hg5 dMM_store_82 ?_
        refine at_iload (j := 0) C dMM_store_83 rfl ?_
        refine at_isub C dMM_store_85 ?_
        obtain ⟨hg6, h⟩ := gd_some h
        refine svMM_debt C hg6 dMM_store_86 ?_
        refine at_st (S1 := ((z11, (z121, (z1221, (z12221, (z122221, c_MM_clock))))), ((((((c_MM_quarters, z2111112), z211112), z21112), (((z2112111, (upd c_MM_debt ((((96 : Int32) * a4) + a2)).toNatClampNeg ((c_MM_debt ((((96 : Int32) * a4) + a2)).toNatClampNeg) - a3))), c_MM_gift), ((c_MM_paid, c_MM_late), z211222))), ((((c_MM_town, c_MM_good), c_MM_pieces), z21212), (((c_MM_isStored, c_MM_used), c_MM_stored), ((c_MM_storedOrder, c_MM_storedMany), z212222)))), z22))) rfl ?_
        refine at_iload_n (j := 4) C dMM_store_87 rfl rfl ?_
        refine at_iload (j := 0) C dMM_store_88 rfl ?_
        refine at_isub C dMM_store_90 ?_
        refine at_istore_n (L' := [(3, .int (a3 - a3)), (5, .int a3), (0, .ref (ad G 40)), (1, .int a1), (2, .int a2), (4, .int a4)]) C dMM_store_91 rfl (by decide) rfl ?_
        refine at_aload_n (j := 2) C dMM_store_92 rfl rfl ?_
        refine gfMM_late C dMM_store_93 ?_
        refine at_aload_n (j := 2) C dMM_store_96 rfl rfl ?_
        refine gfMM_town C dMM_store_97 ?_
        refine at_iload_n (j := 3) C dMM_store_100 rfl rfl ?_
        obtain ⟨hg7, h⟩ := gd_some h
        refine ldMM_town (f := c_MM_town) C rfl hg7 dMM_store_101 ?_
        refine at_dup2 C dMM_store_102 rfl rfl ?_
        obtain ⟨hg8, h⟩ := gd_some h
        refine ldMM_late (f := c_MM_late) C rfl hg8 dMM_store_103 ?_
        refine at_iload (j := 1) C dMM_store_104 rfl ?_
        refine at_i2l C dMM_store_106 ?_
        refine at_aload_n (j := 2) C dMM_store_107 rfl rfl ?_
        refine gfMM_clock (x := c_MM_clock) C rfl dMM_store_108 ?_
        refine at_bipush C dMM_store_111 cb_90 ?_
        refine at_iload (j := 5) C dMM_store_113 rfl ?_
        refine at_iconst C dMM_store_115 ci_1 ?_
        refine at_iadd C dMM_store_116 ?_
        refine at_imul C dMM_store_117 ?_
        refine at_isub C dMM_store_118 ?_
        refine at_i2l C dMM_store_119 ?_
        refine at_lmul C dMM_store_120 ?_
        refine at_ladd C dMM_store_121 ?_
        obtain ⟨hg9, h⟩ := gd_some h
        refine svMM_late C hg9 dMM_store_122 ?_
        refine at_st (S1 := ((z11, (z121, (z1221, (z12221, (z122221, c_MM_clock))))), ((((((c_MM_quarters, z2111112), z211112), z21112), (((z2112111, (upd c_MM_debt ((((96 : Int32) * a4) + a2)).toNatClampNeg ((c_MM_debt ((((96 : Int32) * a4) + a2)).toNatClampNeg) - a3))), c_MM_gift), ((c_MM_paid, (vp_updL c_MM_late ((c_MM_town (a1).toNatClampNeg)).toNatClampNeg ((c_MM_late ((c_MM_town (a1).toNatClampNeg)).toNatClampNeg) + ((a3).toInt64 * ((c_MM_clock - ((90 : Int32) * (a4 + (1 : Int32))))).toInt64)))), z211222))), ((((c_MM_town, c_MM_good), c_MM_pieces), z21212), (((c_MM_isStored, c_MM_used), c_MM_stored), ((c_MM_storedOrder, c_MM_storedMany), z212222)))), z22))) rfl ?_
        refine at_iinc (j := 5) (L' := [(4, .int (a4 + (1 : Int32))), (3, .int (a3 - a3)), (5, .int a3), (0, .ref (ad G 40)), (1, .int a1), (2, .int a2)]) C dMM_store_123 rfl ci_1 (by decide) rfl ?_
        refine at_goto C dMM_store_126 rfl ?_
        refine at_loc (L' := [(0, .ref (ad G 40)), (1, .int a1), (2, .int a2), (3, .int (a3 - a3)), (4, .int (a4 + (1 : Int32)))]) [3, 4, 5, 1, 0] rfl ?_
        exact ih _ _ _ _ _ h k0
      · replace h := ifn hc h
        refine at_aload_n (j := 0) C dMM_store_52 rfl rfl ?_
        refine gfMM_debt C dMM_store_53 ?_
        refine at_bipush C dMM_store_56 cb_96 ?_
        refine at_iload (j := 4) C dMM_store_58 rfl ?_
        refine at_imul C dMM_store_60 ?_
        refine at_iload_n (j := 2) C dMM_store_61 rfl rfl ?_
        refine at_iadd C dMM_store_62 ?_
        obtain ⟨hg10, h⟩ := gd_some h
        refine ldMM_debt (f := c_MM_debt) C rfl hg10 dMM_store_63 ?_
        refine at_goto C dMM_store_64 rfl ?_
        refine at_istore (L' := [(5, .int (c_MM_debt ((((96 : Int32) * a4) + a2)).toNatClampNeg)), (0, .ref (ad G 40)), (1, .int a1), (2, .int a2), (3, .int a3), (4, .int a4)]) C dMM_store_68 (by decide) rfl ?_
        refine at_aload_n (j := 1) C dMM_store_70 rfl rfl ?_
        refine gfMM_debt C dMM_store_71 ?_
        refine at_bipush C dMM_store_74 cb_96 ?_
        refine at_iload (j := 5) C dMM_store_76 rfl ?_
        refine at_imul C dMM_store_78 ?_
        refine at_iload_n (j := 3) C dMM_store_79 rfl rfl ?_
        refine at_iadd C dMM_store_80 ?_
        refine at_dup2 C dMM_store_81 rfl rfl ?_
        obtain ⟨hg11, h⟩ := gd_some h
        refine ldMM_debt (f := c_MM_debt) C rfl hg11 dMM_store_82 ?_
        refine at_iload (j := 0) C dMM_store_83 rfl ?_
        refine at_isub C dMM_store_85 ?_
        obtain ⟨hg12, h⟩ := gd_some h
        refine svMM_debt C hg12 dMM_store_86 ?_
        refine at_st (S1 := ((z11, (z121, (z1221, (z12221, (z122221, c_MM_clock))))), ((((((c_MM_quarters, z2111112), z211112), z21112), (((z2112111, (upd c_MM_debt ((((96 : Int32) * a4) + a2)).toNatClampNeg ((c_MM_debt ((((96 : Int32) * a4) + a2)).toNatClampNeg) - (c_MM_debt ((((96 : Int32) * a4) + a2)).toNatClampNeg)))), c_MM_gift), ((c_MM_paid, c_MM_late), z211222))), ((((c_MM_town, c_MM_good), c_MM_pieces), z21212), (((c_MM_isStored, c_MM_used), c_MM_stored), ((c_MM_storedOrder, c_MM_storedMany), z212222)))), z22))) rfl ?_
        refine at_iload_n (j := 4) C dMM_store_87 rfl rfl ?_
        refine at_iload (j := 0) C dMM_store_88 rfl ?_
        refine at_isub C dMM_store_90 ?_
        refine at_istore_n (L' := [(3, .int (a3 - (c_MM_debt ((((96 : Int32) * a4) + a2)).toNatClampNeg))), (5, .int (c_MM_debt ((((96 : Int32) * a4) + a2)).toNatClampNeg)), (0, .ref (ad G 40)), (1, .int a1), (2, .int a2), (4, .int a4)]) C dMM_store_91 rfl (by decide) rfl ?_
        refine at_aload_n (j := 2) C dMM_store_92 rfl rfl ?_
        refine gfMM_late C dMM_store_93 ?_
        refine at_aload_n (j := 2) C dMM_store_96 rfl rfl ?_
        refine gfMM_town C dMM_store_97 ?_
        refine at_iload_n (j := 3) C dMM_store_100 rfl rfl ?_
        obtain ⟨hg13, h⟩ := gd_some h
        refine ldMM_town (f := c_MM_town) C rfl hg13 dMM_store_101 ?_
        refine at_dup2 C dMM_store_102 rfl rfl ?_
        obtain ⟨hg14, h⟩ := gd_some h
        refine ldMM_late (f := c_MM_late) C rfl hg14 dMM_store_103 ?_
        refine at_iload (j := 1) C dMM_store_104 rfl ?_
        refine at_i2l C dMM_store_106 ?_
        refine at_aload_n (j := 2) C dMM_store_107 rfl rfl ?_
        refine gfMM_clock (x := c_MM_clock) C rfl dMM_store_108 ?_
        refine at_bipush C dMM_store_111 cb_90 ?_
        refine at_iload (j := 5) C dMM_store_113 rfl ?_
        refine at_iconst C dMM_store_115 ci_1 ?_
        refine at_iadd C dMM_store_116 ?_
        refine at_imul C dMM_store_117 ?_
        refine at_isub C dMM_store_118 ?_
        refine at_i2l C dMM_store_119 ?_
        refine at_lmul C dMM_store_120 ?_
        refine at_ladd C dMM_store_121 ?_
        obtain ⟨hg15, h⟩ := gd_some h
        refine svMM_late C hg15 dMM_store_122 ?_
        refine at_st (S1 := ((z11, (z121, (z1221, (z12221, (z122221, c_MM_clock))))), ((((((c_MM_quarters, z2111112), z211112), z21112), (((z2112111, (upd c_MM_debt ((((96 : Int32) * a4) + a2)).toNatClampNeg ((c_MM_debt ((((96 : Int32) * a4) + a2)).toNatClampNeg) - (c_MM_debt ((((96 : Int32) * a4) + a2)).toNatClampNeg)))), c_MM_gift), ((c_MM_paid, (vp_updL c_MM_late ((c_MM_town (a1).toNatClampNeg)).toNatClampNeg ((c_MM_late ((c_MM_town (a1).toNatClampNeg)).toNatClampNeg) + (((c_MM_debt ((((96 : Int32) * a4) + a2)).toNatClampNeg)).toInt64 * ((c_MM_clock - ((90 : Int32) * (a4 + (1 : Int32))))).toInt64)))), z211222))), ((((c_MM_town, c_MM_good), c_MM_pieces), z21212), (((c_MM_isStored, c_MM_used), c_MM_stored), ((c_MM_storedOrder, c_MM_storedMany), z212222)))), z22))) rfl ?_
        refine at_iinc (j := 5) (L' := [(4, .int (a4 + (1 : Int32))), (3, .int (a3 - (c_MM_debt ((((96 : Int32) * a4) + a2)).toNatClampNeg))), (5, .int (c_MM_debt ((((96 : Int32) * a4) + a2)).toNatClampNeg)), (0, .ref (ad G 40)), (1, .int a1), (2, .int a2)]) C dMM_store_123 rfl ci_1 (by decide) rfl ?_
        refine at_goto C dMM_store_126 rfl ?_
        refine at_loc (L' := [(0, .ref (ad G 40)), (1, .int a1), (2, .int a2), (3, .int (a3 - (c_MM_debt ((((96 : Int32) * a4) + a2)).toNatClampNeg))), (4, .int (a4 + (1 : Int32)))]) [3, 4, 5, 1, 0] rfl ?_
        exact ih _ _ _ _ _ h k0
set_option maxRecDepth 100000 in
set_option maxHeartbeats 4000000 in
theorem cMM_store {l : Launch} {G : GG} (hG : GOK G) {c_MM_clock : Int32} {c_MM_quarters : Int32} {c_MM_debt : (Nat → Int32)} {c_MM_gift : (Nat → Int32)} {c_MM_paid : (Nat → Int32)} {c_MM_late : (Nat → Int64)} {c_MM_town : (Nat → Int32)} {c_MM_good : (Nat → Int32)} {c_MM_pieces : (Nat → Int32)} {c_MM_isStored : (Nat → Int32)} {c_MM_used : (Nat → Int32)} {c_MM_stored : Int32} {c_MM_storedOrder : (Nat → Int32)} {c_MM_storedMany : Int32} {z11 : Z11} {z121 : Z121} {z1221 : Z1221} {z12221 : Z12221} {z122221 : Z122221} {z2111112 : (Nat → Int32)} {z211112 : Z211112} {z21112 : Z21112} {z2112111 : Int32} {z211222 : Int32} {z21212 : Z21212} {z212222 : (Nat → Int32)} {z22 : Z22} (a1 : Int32) (R : ((Nat → Int32) × (Nat → Int32) × (Nat → Int32) × (Nat → Int64) × (Nat → Int32) × (Nat → Int32) × Int32 × (Nat → Int32) × Int32)) (h : fMM_store a1 c_MM_clock c_MM_quarters c_MM_debt c_MM_gift c_MM_paid c_MM_late c_MM_town c_MM_good c_MM_pieces c_MM_isStored c_MM_used c_MM_stored c_MM_storedOrder c_MM_storedMany = some R) : Met l yMM_store (.code yMM_store prog_12_method_34_code 6 none :: gw) (rmm 1) (PcW G [.ref (ad G 40), .int a1] ((z11, (z121, (z1221, (z12221, (z122221, c_MM_clock))))), ((((((c_MM_quarters, z2111112), z211112), z21112), (((z2112111, c_MM_debt), c_MM_gift), ((c_MM_paid, c_MM_late), z211222))), ((((c_MM_town, c_MM_good), c_MM_pieces), z21212), (((c_MM_isStored, c_MM_used), c_MM_stored), ((c_MM_storedOrder, c_MM_storedMany), z212222)))), z22))) (Qw G (none) ((z11, (z121, (z1221, (z12221, (z122221, c_MM_clock))))), ((((((c_MM_quarters, z2111112), z211112), z21112), (((z2112111, R.1), R.2.1), ((R.2.2.1, R.2.2.2.1), z211222))), ((((c_MM_town, c_MM_good), c_MM_pieces), z21212), (((R.2.2.2.2.1, R.2.2.2.2.2.1), R.2.2.2.2.2.2.1), ((R.2.2.2.2.2.2.2.1, R.2.2.2.2.2.2.2.2), z212222)))), z22))) 0 0 (Aw G) := by
  refine met_of (by decide) 1 G hG _ _ (Nat.le_of_ble_eq_true rfl) _ _ (fun X _ C => ?_)
  have C : Cx G X RcMM prog_12_method_34_code 6 1 none := C
  unfold fMM_store at h
  show At G X 6 _ 0 [(0, .ref (ad G 40)), (1, .int a1)] [] ((z11, (z121, (z1221, (z12221, (z122221, c_MM_clock))))), ((((((c_MM_quarters, z2111112), z211112), z21112), (((z2112111, c_MM_debt), c_MM_gift), ((c_MM_paid, c_MM_late), z211222))), ((((c_MM_town, c_MM_good), c_MM_pieces), z21212), (((c_MM_isStored, c_MM_used), c_MM_stored), ((c_MM_storedOrder, c_MM_storedMany), z212222)))), z22))
  refine at_bipush C dMM_store_0 cb_6 ?_
  refine at_aload_n (j := 0) C dMM_store_2 rfl rfl ?_
  refine gfMM_town C dMM_store_3 ?_
  refine at_iload_n (j := 1) C dMM_store_6 rfl rfl ?_
  obtain ⟨hg1, h⟩ := gd_some h
  refine ldMM_town (f := c_MM_town) C rfl hg1 dMM_store_7 ?_
  refine at_imul C dMM_store_8 ?_
  refine at_aload_n (j := 0) C dMM_store_9 rfl rfl ?_
  refine gfMM_good C dMM_store_10 ?_
  refine at_iload_n (j := 1) C dMM_store_13 rfl rfl ?_
  obtain ⟨hg2, h⟩ := gd_some h
  refine ldMM_good (f := c_MM_good) C rfl hg2 dMM_store_14 ?_
  refine at_iadd C dMM_store_15 ?_
  refine at_istore_n (L' := [(2, .int (((6 : Int32) * (c_MM_town (a1).toNatClampNeg)) + (c_MM_good (a1).toNatClampNeg))), (0, .ref (ad G 40)), (1, .int a1)]) C dMM_store_16 rfl (by decide) rfl ?_
  refine at_aload_n (j := 1) C dMM_store_17 rfl rfl ?_
  refine gfMM_pieces C dMM_store_18 ?_
  refine at_iload_n (j := 2) C dMM_store_21 rfl rfl ?_
  obtain ⟨hg3, h⟩ := gd_some h
  refine ldMM_pieces (f := c_MM_pieces) C rfl hg3 dMM_store_22 ?_
  refine at_istore_n (L' := [(3, .int (c_MM_pieces (a1).toNatClampNeg)), (2, .int (((6 : Int32) * (c_MM_town (a1).toNatClampNeg)) + (c_MM_good (a1).toNatClampNeg))), (0, .ref (ad G 40)), (1, .int a1)]) C dMM_store_23 rfl (by decide) rfl ?_
  refine at_iconst C dMM_store_24 ci_0 ?_
  refine at_istore (L' := [(4, .int (0 : Int32)), (3, .int (c_MM_pieces (a1).toNatClampNeg)), (2, .int (((6 : Int32) * (c_MM_town (a1).toNatClampNeg)) + (c_MM_good (a1).toNatClampNeg))), (0, .ref (ad G 40)), (1, .int a1)]) C dMM_store_25 (by decide) rfl ?_
  obtain ⟨e16, he16, h⟩ := ob_some h
  refine at_loc (L' := [(0, .ref (ad G 40)), (1, .int a1), (2, .int (((6 : Int32) * (c_MM_town (a1).toNatClampNeg)) + (c_MM_good (a1).toNatClampNeg))), (3, .int (c_MM_pieces (a1).toNatClampNeg)), (4, .int (0 : Int32))]) [3, 4, 2, 1, 0] rfl ?_
  refine wMM_store_l27 C _ _ FU _ _ _ _ _ he16 ?_
  refine at_aload_n (j := 0) C dMM_store_129 rfl rfl ?_
  refine gfMM_used C dMM_store_130 ?_
  refine at_iload_n (j := 1) C dMM_store_133 rfl rfl ?_
  refine at_aload_n (j := 0) C dMM_store_134 rfl rfl ?_
  refine gfMM_pieces C dMM_store_135 ?_
  refine at_iload_n (j := 1) C dMM_store_138 rfl rfl ?_
  obtain ⟨hg17, h⟩ := gd_some h
  refine ldMM_pieces (f := c_MM_pieces) C rfl hg17 dMM_store_139 ?_
  refine at_iload_n (j := 3) C dMM_store_140 rfl rfl ?_
  refine at_isub C dMM_store_141 ?_
  obtain ⟨hg18, h⟩ := gd_some h
  refine svMM_used C hg18 dMM_store_142 ?_
  refine at_st (S1 := ((z11, (z121, (z1221, (z12221, (z122221, c_MM_clock))))), ((((((c_MM_quarters, z2111112), z211112), z21112), (((z2112111, e16.2.1), c_MM_gift), ((c_MM_paid, e16.2.2), z211222))), ((((c_MM_town, c_MM_good), c_MM_pieces), z21212), (((c_MM_isStored, (upd c_MM_used (a1).toNatClampNeg ((c_MM_pieces (a1).toNatClampNeg) - e16.1))), c_MM_stored), ((c_MM_storedOrder, c_MM_storedMany), z212222)))), z22))) rfl ?_
  refine at_aload_n (j := 0) C dMM_store_143 rfl rfl ?_
  refine gfMM_paid C dMM_store_144 ?_
  refine at_iload_n (j := 2) C dMM_store_147 rfl rfl ?_
  refine at_dup2 C dMM_store_148 rfl rfl ?_
  obtain ⟨hg19, h⟩ := gd_some h
  refine ldMM_paid (f := c_MM_paid) C rfl hg19 dMM_store_149 ?_
  refine at_aload_n (j := 0) C dMM_store_150 rfl rfl ?_
  refine gfMM_used C dMM_store_151 ?_
  refine at_iload_n (j := 1) C dMM_store_154 rfl rfl ?_
  obtain ⟨hg20, h⟩ := gd_some h
  refine ldMM_used (f := (upd c_MM_used (a1).toNatClampNeg ((c_MM_pieces (a1).toNatClampNeg) - e16.1))) C rfl hg20 dMM_store_155 ?_
  refine at_iadd C dMM_store_156 ?_
  obtain ⟨hg21, h⟩ := gd_some h
  refine svMM_paid C hg21 dMM_store_157 ?_
  refine at_st (S1 := ((z11, (z121, (z1221, (z12221, (z122221, c_MM_clock))))), ((((((c_MM_quarters, z2111112), z211112), z21112), (((z2112111, e16.2.1), c_MM_gift), (((upd c_MM_paid ((((6 : Int32) * (c_MM_town (a1).toNatClampNeg)) + (c_MM_good (a1).toNatClampNeg))).toNatClampNeg ((c_MM_paid ((((6 : Int32) * (c_MM_town (a1).toNatClampNeg)) + (c_MM_good (a1).toNatClampNeg))).toNatClampNeg) + ((upd c_MM_used (a1).toNatClampNeg ((c_MM_pieces (a1).toNatClampNeg) - e16.1)) (a1).toNatClampNeg))), e16.2.2), z211222))), ((((c_MM_town, c_MM_good), c_MM_pieces), z21212), (((c_MM_isStored, (upd c_MM_used (a1).toNatClampNeg ((c_MM_pieces (a1).toNatClampNeg) - e16.1))), c_MM_stored), ((c_MM_storedOrder, c_MM_storedMany), z212222)))), z22))) rfl ?_
  refine at_aload_n (j := 0) C dMM_store_158 rfl rfl ?_
  refine gfMM_gift C dMM_store_159 ?_
  refine at_iload_n (j := 2) C dMM_store_162 rfl rfl ?_
  refine at_dup2 C dMM_store_163 rfl rfl ?_
  obtain ⟨hg22, h⟩ := gd_some h
  refine ldMM_gift (f := c_MM_gift) C rfl hg22 dMM_store_164 ?_
  refine at_iload_n (j := 3) C dMM_store_165 rfl rfl ?_
  refine at_iadd C dMM_store_166 ?_
  obtain ⟨hg23, h⟩ := gd_some h
  refine svMM_gift C hg23 dMM_store_167 ?_
  refine at_st (S1 := ((z11, (z121, (z1221, (z12221, (z122221, c_MM_clock))))), ((((((c_MM_quarters, z2111112), z211112), z21112), (((z2112111, e16.2.1), (upd c_MM_gift ((((6 : Int32) * (c_MM_town (a1).toNatClampNeg)) + (c_MM_good (a1).toNatClampNeg))).toNatClampNeg ((c_MM_gift ((((6 : Int32) * (c_MM_town (a1).toNatClampNeg)) + (c_MM_good (a1).toNatClampNeg))).toNatClampNeg) + e16.1))), (((upd c_MM_paid ((((6 : Int32) * (c_MM_town (a1).toNatClampNeg)) + (c_MM_good (a1).toNatClampNeg))).toNatClampNeg ((c_MM_paid ((((6 : Int32) * (c_MM_town (a1).toNatClampNeg)) + (c_MM_good (a1).toNatClampNeg))).toNatClampNeg) + ((upd c_MM_used (a1).toNatClampNeg ((c_MM_pieces (a1).toNatClampNeg) - e16.1)) (a1).toNatClampNeg))), e16.2.2), z211222))), ((((c_MM_town, c_MM_good), c_MM_pieces), z21212), (((c_MM_isStored, (upd c_MM_used (a1).toNatClampNeg ((c_MM_pieces (a1).toNatClampNeg) - e16.1))), c_MM_stored), ((c_MM_storedOrder, c_MM_storedMany), z212222)))), z22))) rfl ?_
  refine at_aload_n (j := 0) C dMM_store_168 rfl rfl ?_
  refine gfMM_isStored C dMM_store_169 ?_
  refine at_iload_n (j := 1) C dMM_store_172 rfl rfl ?_
  refine at_iconst C dMM_store_173 ci_1 ?_
  obtain ⟨hg24, h⟩ := gd_some h
  refine svMM_isStored C hg24 dMM_store_174 ?_
  refine at_st (S1 := ((z11, (z121, (z1221, (z12221, (z122221, c_MM_clock))))), ((((((c_MM_quarters, z2111112), z211112), z21112), (((z2112111, e16.2.1), (upd c_MM_gift ((((6 : Int32) * (c_MM_town (a1).toNatClampNeg)) + (c_MM_good (a1).toNatClampNeg))).toNatClampNeg ((c_MM_gift ((((6 : Int32) * (c_MM_town (a1).toNatClampNeg)) + (c_MM_good (a1).toNatClampNeg))).toNatClampNeg) + e16.1))), (((upd c_MM_paid ((((6 : Int32) * (c_MM_town (a1).toNatClampNeg)) + (c_MM_good (a1).toNatClampNeg))).toNatClampNeg ((c_MM_paid ((((6 : Int32) * (c_MM_town (a1).toNatClampNeg)) + (c_MM_good (a1).toNatClampNeg))).toNatClampNeg) + ((upd c_MM_used (a1).toNatClampNeg ((c_MM_pieces (a1).toNatClampNeg) - e16.1)) (a1).toNatClampNeg))), e16.2.2), z211222))), ((((c_MM_town, c_MM_good), c_MM_pieces), z21212), ((((upd c_MM_isStored (a1).toNatClampNeg (vp_nar .boolean (1 : Int32))), (upd c_MM_used (a1).toNatClampNeg ((c_MM_pieces (a1).toNatClampNeg) - e16.1))), c_MM_stored), ((c_MM_storedOrder, c_MM_storedMany), z212222)))), z22))) rfl ?_
  refine at_aload_n (j := 0) C dMM_store_175 rfl rfl ?_
  refine at_dup C dMM_store_176 rfl ?_
  refine gfMM_stored (x := c_MM_stored) C rfl dMM_store_177 ?_
  refine at_aload_n (j := 0) C dMM_store_180 rfl rfl ?_
  refine gfMM_pieces C dMM_store_181 ?_
  refine at_iload_n (j := 1) C dMM_store_184 rfl rfl ?_
  obtain ⟨hg25, h⟩ := gd_some h
  refine ldMM_pieces (f := c_MM_pieces) C rfl hg25 dMM_store_185 ?_
  refine at_iadd C dMM_store_186 ?_
  refine pfMM_stored C dMM_store_187 ?_
  refine at_st (S1 := ((z11, (z121, (z1221, (z12221, (z122221, c_MM_clock))))), ((((((c_MM_quarters, z2111112), z211112), z21112), (((z2112111, e16.2.1), (upd c_MM_gift ((((6 : Int32) * (c_MM_town (a1).toNatClampNeg)) + (c_MM_good (a1).toNatClampNeg))).toNatClampNeg ((c_MM_gift ((((6 : Int32) * (c_MM_town (a1).toNatClampNeg)) + (c_MM_good (a1).toNatClampNeg))).toNatClampNeg) + e16.1))), (((upd c_MM_paid ((((6 : Int32) * (c_MM_town (a1).toNatClampNeg)) + (c_MM_good (a1).toNatClampNeg))).toNatClampNeg ((c_MM_paid ((((6 : Int32) * (c_MM_town (a1).toNatClampNeg)) + (c_MM_good (a1).toNatClampNeg))).toNatClampNeg) + ((upd c_MM_used (a1).toNatClampNeg ((c_MM_pieces (a1).toNatClampNeg) - e16.1)) (a1).toNatClampNeg))), e16.2.2), z211222))), ((((c_MM_town, c_MM_good), c_MM_pieces), z21212), ((((upd c_MM_isStored (a1).toNatClampNeg (vp_nar .boolean (1 : Int32))), (upd c_MM_used (a1).toNatClampNeg ((c_MM_pieces (a1).toNatClampNeg) - e16.1))), (c_MM_stored + (c_MM_pieces (a1).toNatClampNeg))), ((c_MM_storedOrder, c_MM_storedMany), z212222)))), z22))) rfl ?_
  refine at_aload_n (j := 0) C dMM_store_190 rfl rfl ?_
  refine gfMM_storedOrder C dMM_store_191 ?_
  refine at_aload_n (j := 0) C dMM_store_194 rfl rfl ?_
  refine gfMM_storedMany (x := c_MM_storedMany) C rfl dMM_store_195 ?_
  refine at_iload_n (j := 1) C dMM_store_198 rfl rfl ?_
  obtain ⟨hg26, h⟩ := gd_some h
  refine svMM_storedOrder C hg26 dMM_store_199 ?_
  refine at_st (S1 := ((z11, (z121, (z1221, (z12221, (z122221, c_MM_clock))))), ((((((c_MM_quarters, z2111112), z211112), z21112), (((z2112111, e16.2.1), (upd c_MM_gift ((((6 : Int32) * (c_MM_town (a1).toNatClampNeg)) + (c_MM_good (a1).toNatClampNeg))).toNatClampNeg ((c_MM_gift ((((6 : Int32) * (c_MM_town (a1).toNatClampNeg)) + (c_MM_good (a1).toNatClampNeg))).toNatClampNeg) + e16.1))), (((upd c_MM_paid ((((6 : Int32) * (c_MM_town (a1).toNatClampNeg)) + (c_MM_good (a1).toNatClampNeg))).toNatClampNeg ((c_MM_paid ((((6 : Int32) * (c_MM_town (a1).toNatClampNeg)) + (c_MM_good (a1).toNatClampNeg))).toNatClampNeg) + ((upd c_MM_used (a1).toNatClampNeg ((c_MM_pieces (a1).toNatClampNeg) - e16.1)) (a1).toNatClampNeg))), e16.2.2), z211222))), ((((c_MM_town, c_MM_good), c_MM_pieces), z21212), ((((upd c_MM_isStored (a1).toNatClampNeg (vp_nar .boolean (1 : Int32))), (upd c_MM_used (a1).toNatClampNeg ((c_MM_pieces (a1).toNatClampNeg) - e16.1))), (c_MM_stored + (c_MM_pieces (a1).toNatClampNeg))), (((upd c_MM_storedOrder (c_MM_storedMany).toNatClampNeg a1), c_MM_storedMany), z212222)))), z22))) rfl ?_
  refine at_aload_n (j := 0) C dMM_store_200 rfl rfl ?_
  refine at_dup C dMM_store_201 rfl ?_
  refine gfMM_storedMany (x := c_MM_storedMany) C rfl dMM_store_202 ?_
  refine at_iconst C dMM_store_205 ci_1 ?_
  refine at_iadd C dMM_store_206 ?_
  refine pfMM_storedMany C dMM_store_207 ?_
  refine at_st (S1 := ((z11, (z121, (z1221, (z12221, (z122221, c_MM_clock))))), ((((((c_MM_quarters, z2111112), z211112), z21112), (((z2112111, e16.2.1), (upd c_MM_gift ((((6 : Int32) * (c_MM_town (a1).toNatClampNeg)) + (c_MM_good (a1).toNatClampNeg))).toNatClampNeg ((c_MM_gift ((((6 : Int32) * (c_MM_town (a1).toNatClampNeg)) + (c_MM_good (a1).toNatClampNeg))).toNatClampNeg) + e16.1))), (((upd c_MM_paid ((((6 : Int32) * (c_MM_town (a1).toNatClampNeg)) + (c_MM_good (a1).toNatClampNeg))).toNatClampNeg ((c_MM_paid ((((6 : Int32) * (c_MM_town (a1).toNatClampNeg)) + (c_MM_good (a1).toNatClampNeg))).toNatClampNeg) + ((upd c_MM_used (a1).toNatClampNeg ((c_MM_pieces (a1).toNatClampNeg) - e16.1)) (a1).toNatClampNeg))), e16.2.2), z211222))), ((((c_MM_town, c_MM_good), c_MM_pieces), z21212), ((((upd c_MM_isStored (a1).toNatClampNeg (vp_nar .boolean (1 : Int32))), (upd c_MM_used (a1).toNatClampNeg ((c_MM_pieces (a1).toNatClampNeg) - e16.1))), (c_MM_stored + (c_MM_pieces (a1).toNatClampNeg))), (((upd c_MM_storedOrder (c_MM_storedMany).toNatClampNeg a1), (c_MM_storedMany + (1 : Int32))), z212222)))), z22))) rfl ?_
  cases h
  exact at_vret C dMM_store_210
set_option maxRecDepth 100000 in
set_option maxHeartbeats 4000000 in
theorem wMM_quarter_l10 {G : GG} {X : CX} {c_MM_quarters : Int32} {c_MM_told : (Nat → Int32)} {c_MM_readAt : (Nat → Int32)} {z1 : Z1} {z2111112 : (Nat → Int32)} {z211112 : Z211112} {z2111211 : Int32} {z2112111 : Int32} {z2112212 : (Nat → Int64)} {z211222 : Int32} {z212 : Z212} {z22 : Z22} (C : Cx G X RcMM prog_12_method_35_code 6 4 none) {Q : State → Prop}  (a1 : Int32) : ∀ (n : Nat) (a2 : Int32) (c_MM_debt : (Nat → Int32)) (c_MM_gift : (Nat → Int32)) (c_MM_paid : (Nat → Int32)) (E : ((Nat → Int32) × (Nat → Int32) × (Nat → Int32))) (h : fMM_quarter_l10 a1 c_MM_quarters c_MM_told c_MM_readAt n a2 c_MM_debt c_MM_gift c_MM_paid = some E) (k0 : At G X 6 Q 102 [(0, .ref (ad G 40)), (1, .int a1)] [] (z1, ((((((c_MM_quarters, z2111112), z211112), ((z2111211, c_MM_told), c_MM_readAt)), (((z2112111, E.1), E.2.1), ((E.2.2, z2112212), z211222))), z212), z22))), At G X 6 Q 10 [(0, .ref (ad G 40)), (1, .int a1), (2, .int a2)] [] (z1, ((((((c_MM_quarters, z2111112), z211112), ((z2111211, c_MM_told), c_MM_readAt)), (((z2112111, c_MM_debt), c_MM_gift), ((c_MM_paid, z2112212), z211222))), z212), z22)) := by
  intro n
  induction n with
  | zero =>
    intro a2 c_MM_debt c_MM_gift c_MM_paid E h k0
    rw [fMM_quarter_l10.eq_1] at h
    cases h
  | succ n ih =>
    intro a2 c_MM_debt c_MM_gift c_MM_paid E h k0
    rw [fMM_quarter_l10.eq_2] at h
    refine at_iload_n (j := 2) C dMM_quarter_10 rfl rfl ?_
    refine at_bipush C dMM_quarter_11 cb_6 ?_
    refine at_icmp_ge C dMM_quarter_13 rfl (fun hc => ?_) (fun hc => ?_)
    · replace h := ifp hc h
      cases h
      refine at_loc (L' := [(0, .ref (ad G 40)), (1, .int a1)]) [0, 1] rfl ?_
      exact k0
    · replace h := ifn hc h
      refine at_bipush C dMM_quarter_16 cb_6 ?_
      refine at_iload_n (j := 1) C dMM_quarter_18 rfl rfl ?_
      refine at_imul C dMM_quarter_19 ?_
      refine at_iload_n (j := 2) C dMM_quarter_20 rfl rfl ?_
      refine at_iadd C dMM_quarter_21 ?_
      refine at_istore_n (L' := [(3, .int (((6 : Int32) * a1) + a2)), (0, .ref (ad G 40)), (1, .int a1), (2, .int a2)]) C dMM_quarter_22 rfl (by decide) rfl ?_
      refine at_aload_n (j := 1) C dMM_quarter_23 rfl rfl ?_
      refine at_iload_n (j := 2) C dMM_quarter_24 rfl rfl ?_
      refine at_iload_n (j := 3) C dMM_quarter_25 rfl rfl ?_
      obtain ⟨e1, he1, h⟩ := ob_some h
      refine at_callVi C kMM_192 (cMM_owedOf C.2.2.2.2.2.2.1 _ _ _ he1) (by omega) rfl rfl rfl rfl (Nat.le_of_ble_eq_true rfl) dMM_quarter_26 ?_
      refine at_istore (L' := [(4, .int e1), (3, .int (((6 : Int32) * a1) + a2)), (0, .ref (ad G 40)), (1, .int a1), (2, .int a2)]) C dMM_quarter_29 (by decide) rfl ?_
      refine at_aload_n (j := 2) C dMM_quarter_31 rfl rfl ?_
      refine gfMM_gift C dMM_quarter_32 ?_
      refine at_iload_n (j := 1) C dMM_quarter_35 rfl rfl ?_
      obtain ⟨hg2, h⟩ := gd_some h
      refine ldMM_gift (f := c_MM_gift) C rfl hg2 dMM_quarter_36 ?_
      refine at_iload (j := 0) C dMM_quarter_37 rfl ?_
      refine at_icmp_ge C dMM_quarter_39 rfl (fun hc => ?_) (fun hc => ?_)
      · replace h := ifp hc h
        refine at_iload (j := 0) C dMM_quarter_51 rfl ?_
        refine at_istore (L' := [(5, .int e1), (4, .int e1), (3, .int (((6 : Int32) * a1) + a2)), (0, .ref (ad G 40)), (1, .int a1), (2, .int a2)]) C dMM_quarter_53 (by decide) rfl ?_
        refine at_aload_n (j := 3) C dMM_quarter_55 rfl rfl ?_
        refine gfMM_gift C dMM_quarter_56 ?_
        refine at_iload_n (j := 2) C dMM_quarter_59 rfl rfl ?_
        refine at_dup2 C dMM_quarter_60 rfl rfl ?_
        obtain ⟨hg3, h⟩ := gd_some h
        refine ldMM_gift (f := c_MM_gift) C rfl hg3 dMM_quarter_61 ?_
        refine at_iload (j := 0) C dMM_quarter_62 rfl ?_
        refine at_isub C dMM_quarter_64 ?_
        obtain ⟨hg4, h⟩ := gd_some h
        refine svMM_gift C hg4 dMM_quarter_65 ?_
        refine at_st (S1 := (z1, ((((((c_MM_quarters, z2111112), z211112), ((z2111211, c_MM_told), c_MM_readAt)), (((z2112111, c_MM_debt), (upd c_MM_gift ((((6 : Int32) * a1) + a2)).toNatClampNeg ((c_MM_gift ((((6 : Int32) * a1) + a2)).toNatClampNeg) - e1))), ((c_MM_paid, z2112212), z211222))), z212), z22))) rfl ?_
        refine at_aload_n (j := 3) C dMM_quarter_66 rfl rfl ?_
        refine gfMM_paid C dMM_quarter_67 ?_
        refine at_iload_n (j := 2) C dMM_quarter_70 rfl rfl ?_
        refine at_dup2 C dMM_quarter_71 rfl rfl ?_
        obtain ⟨hg5, h⟩ := gd_some h
        refine ldMM_paid (f := c_MM_paid) C rfl hg5 dMM_quarter_72 ?_
        refine at_iload (j := 0) C dMM_quarter_73 rfl ?_
        refine at_iadd C dMM_quarter_75 ?_
        obtain ⟨hg6, h⟩ := gd_some h
        refine svMM_paid C hg6 dMM_quarter_76 ?_
        refine at_st (S1 := (z1, ((((((c_MM_quarters, z2111112), z211112), ((z2111211, c_MM_told), c_MM_readAt)), (((z2112111, c_MM_debt), (upd c_MM_gift ((((6 : Int32) * a1) + a2)).toNatClampNeg ((c_MM_gift ((((6 : Int32) * a1) + a2)).toNatClampNeg) - e1))), (((upd c_MM_paid ((((6 : Int32) * a1) + a2)).toNatClampNeg ((c_MM_paid ((((6 : Int32) * a1) + a2)).toNatClampNeg) + e1)), z2112212), z211222))), z212), z22))) rfl ?_
        refine at_aload_n (j := 3) C dMM_quarter_77 rfl rfl ?_
        refine gfMM_debt C dMM_quarter_78 ?_
        refine at_bipush C dMM_quarter_81 cb_96 ?_
        refine at_aload_n (j := 3) C dMM_quarter_83 rfl rfl ?_
        refine gfMM_quarters (x := c_MM_quarters) C rfl dMM_quarter_84 ?_
        refine at_imul C dMM_quarter_87 ?_
        refine at_iload_n (j := 2) C dMM_quarter_88 rfl rfl ?_
        refine at_iadd C dMM_quarter_89 ?_
        refine at_iload (j := 1) C dMM_quarter_90 rfl ?_
        refine at_iload (j := 0) C dMM_quarter_92 rfl ?_
        refine at_isub C dMM_quarter_94 ?_
        obtain ⟨hg7, h⟩ := gd_some h
        refine svMM_debt C hg7 dMM_quarter_95 ?_
        refine at_st (S1 := (z1, ((((((c_MM_quarters, z2111112), z211112), ((z2111211, c_MM_told), c_MM_readAt)), (((z2112111, (upd c_MM_debt ((((96 : Int32) * c_MM_quarters) + (((6 : Int32) * a1) + a2))).toNatClampNeg (e1 - e1))), (upd c_MM_gift ((((6 : Int32) * a1) + a2)).toNatClampNeg ((c_MM_gift ((((6 : Int32) * a1) + a2)).toNatClampNeg) - e1))), (((upd c_MM_paid ((((6 : Int32) * a1) + a2)).toNatClampNeg ((c_MM_paid ((((6 : Int32) * a1) + a2)).toNatClampNeg) + e1)), z2112212), z211222))), z212), z22))) rfl ?_
        refine at_iinc (j := 5) (L' := [(2, .int (a2 + (1 : Int32))), (5, .int e1), (4, .int e1), (3, .int (((6 : Int32) * a1) + a2)), (0, .ref (ad G 40)), (1, .int a1)]) C dMM_quarter_96 rfl ci_1 (by decide) rfl ?_
        refine at_goto C dMM_quarter_99 rfl ?_
        refine at_loc (L' := [(0, .ref (ad G 40)), (1, .int a1), (2, .int (a2 + (1 : Int32)))]) [4, 5, 0] rfl ?_
        exact ih _ _ _ _ _ h k0
      · replace h := ifn hc h
        refine at_aload_n (j := 2) C dMM_quarter_42 rfl rfl ?_
        refine gfMM_gift C dMM_quarter_43 ?_
        refine at_iload_n (j := 1) C dMM_quarter_46 rfl rfl ?_
        obtain ⟨hg8, h⟩ := gd_some h
        refine ldMM_gift (f := c_MM_gift) C rfl hg8 dMM_quarter_47 ?_
        refine at_goto C dMM_quarter_48 rfl ?_
        refine at_istore (L' := [(5, .int (c_MM_gift ((((6 : Int32) * a1) + a2)).toNatClampNeg)), (4, .int e1), (3, .int (((6 : Int32) * a1) + a2)), (0, .ref (ad G 40)), (1, .int a1), (2, .int a2)]) C dMM_quarter_53 (by decide) rfl ?_
        refine at_aload_n (j := 3) C dMM_quarter_55 rfl rfl ?_
        refine gfMM_gift C dMM_quarter_56 ?_
        refine at_iload_n (j := 2) C dMM_quarter_59 rfl rfl ?_
        refine at_dup2 C dMM_quarter_60 rfl rfl ?_
        obtain ⟨hg9, h⟩ := gd_some h
        refine ldMM_gift (f := c_MM_gift) C rfl hg9 dMM_quarter_61 ?_
        refine at_iload (j := 0) C dMM_quarter_62 rfl ?_
        refine at_isub C dMM_quarter_64 ?_
        obtain ⟨hg10, h⟩ := gd_some h
        refine svMM_gift C hg10 dMM_quarter_65 ?_
        refine at_st (S1 := (z1, ((((((c_MM_quarters, z2111112), z211112), ((z2111211, c_MM_told), c_MM_readAt)), (((z2112111, c_MM_debt), (upd c_MM_gift ((((6 : Int32) * a1) + a2)).toNatClampNeg ((c_MM_gift ((((6 : Int32) * a1) + a2)).toNatClampNeg) - (c_MM_gift ((((6 : Int32) * a1) + a2)).toNatClampNeg)))), ((c_MM_paid, z2112212), z211222))), z212), z22))) rfl ?_
        refine at_aload_n (j := 3) C dMM_quarter_66 rfl rfl ?_
        refine gfMM_paid C dMM_quarter_67 ?_
        refine at_iload_n (j := 2) C dMM_quarter_70 rfl rfl ?_
        refine at_dup2 C dMM_quarter_71 rfl rfl ?_
        obtain ⟨hg11, h⟩ := gd_some h
        refine ldMM_paid (f := c_MM_paid) C rfl hg11 dMM_quarter_72 ?_
        refine at_iload (j := 0) C dMM_quarter_73 rfl ?_
        refine at_iadd C dMM_quarter_75 ?_
        obtain ⟨hg12, h⟩ := gd_some h
        refine svMM_paid C hg12 dMM_quarter_76 ?_
        refine at_st (S1 := (z1, ((((((c_MM_quarters, z2111112), z211112), ((z2111211, c_MM_told), c_MM_readAt)), (((z2112111, c_MM_debt), (upd c_MM_gift ((((6 : Int32) * a1) + a2)).toNatClampNeg ((c_MM_gift ((((6 : Int32) * a1) + a2)).toNatClampNeg) - (c_MM_gift ((((6 : Int32) * a1) + a2)).toNatClampNeg)))), (((upd c_MM_paid ((((6 : Int32) * a1) + a2)).toNatClampNeg ((c_MM_paid ((((6 : Int32) * a1) + a2)).toNatClampNeg) + (c_MM_gift ((((6 : Int32) * a1) + a2)).toNatClampNeg))), z2112212), z211222))), z212), z22))) rfl ?_
        refine at_aload_n (j := 3) C dMM_quarter_77 rfl rfl ?_
        refine gfMM_debt C dMM_quarter_78 ?_
        refine at_bipush C dMM_quarter_81 cb_96 ?_
        refine at_aload_n (j := 3) C dMM_quarter_83 rfl rfl ?_
        refine gfMM_quarters (x := c_MM_quarters) C rfl dMM_quarter_84 ?_
        refine at_imul C dMM_quarter_87 ?_
        refine at_iload_n (j := 2) C dMM_quarter_88 rfl rfl ?_
        refine at_iadd C dMM_quarter_89 ?_
        refine at_iload (j := 1) C dMM_quarter_90 rfl ?_
        refine at_iload (j := 0) C dMM_quarter_92 rfl ?_
        refine at_isub C dMM_quarter_94 ?_
        obtain ⟨hg13, h⟩ := gd_some h
        refine svMM_debt C hg13 dMM_quarter_95 ?_
        refine at_st (S1 := (z1, ((((((c_MM_quarters, z2111112), z211112), ((z2111211, c_MM_told), c_MM_readAt)), (((z2112111, (upd c_MM_debt ((((96 : Int32) * c_MM_quarters) + (((6 : Int32) * a1) + a2))).toNatClampNeg (e1 - (c_MM_gift ((((6 : Int32) * a1) + a2)).toNatClampNeg)))), (upd c_MM_gift ((((6 : Int32) * a1) + a2)).toNatClampNeg ((c_MM_gift ((((6 : Int32) * a1) + a2)).toNatClampNeg) - (c_MM_gift ((((6 : Int32) * a1) + a2)).toNatClampNeg)))), (((upd c_MM_paid ((((6 : Int32) * a1) + a2)).toNatClampNeg ((c_MM_paid ((((6 : Int32) * a1) + a2)).toNatClampNeg) + (c_MM_gift ((((6 : Int32) * a1) + a2)).toNatClampNeg))), z2112212), z211222))), z212), z22))) rfl ?_
        refine at_iinc (j := 5) (L' := [(2, .int (a2 + (1 : Int32))), (5, .int (c_MM_gift ((((6 : Int32) * a1) + a2)).toNatClampNeg)), (4, .int e1), (3, .int (((6 : Int32) * a1) + a2)), (0, .ref (ad G 40)), (1, .int a1)]) C dMM_quarter_96 rfl ci_1 (by decide) rfl ?_
        refine at_goto C dMM_quarter_99 rfl ?_
        refine at_loc (L' := [(0, .ref (ad G 40)), (1, .int a1), (2, .int (a2 + (1 : Int32)))]) [4, 5, 0] rfl ?_
        exact ih _ _ _ _ _ h k0
set_option maxRecDepth 100000 in
set_option maxHeartbeats 4000000 in
theorem wMM_quarter_l2 {G : GG} {X : CX} {c_MM_quarters : Int32} {c_MM_told : (Nat → Int32)} {c_MM_readAt : (Nat → Int32)} {z1 : Z1} {z2111112 : (Nat → Int32)} {z211112 : Z211112} {z2111211 : Int32} {z2112111 : Int32} {z2112212 : (Nat → Int64)} {z211222 : Int32} {z212 : Z212} {z22 : Z22} (C : Cx G X RcMM prog_12_method_35_code 6 4 none) {Q : State → Prop}  : ∀ (n : Nat) (a1 : Int32) (c_MM_debt : (Nat → Int32)) (c_MM_gift : (Nat → Int32)) (c_MM_paid : (Nat → Int32)) (E : ((Nat → Int32) × (Nat → Int32) × (Nat → Int32))) (h : fMM_quarter_l2 c_MM_quarters c_MM_told c_MM_readAt n a1 c_MM_debt c_MM_gift c_MM_paid = some E) (k0 : At G X 6 Q 108 [(0, .ref (ad G 40))] [] (z1, ((((((c_MM_quarters, z2111112), z211112), ((z2111211, c_MM_told), c_MM_readAt)), (((z2112111, E.1), E.2.1), ((E.2.2, z2112212), z211222))), z212), z22))), At G X 6 Q 2 [(0, .ref (ad G 40)), (1, .int a1)] [] (z1, ((((((c_MM_quarters, z2111112), z211112), ((z2111211, c_MM_told), c_MM_readAt)), (((z2112111, c_MM_debt), c_MM_gift), ((c_MM_paid, z2112212), z211222))), z212), z22)) := by
  intro n
  induction n with
  | zero =>
    intro a1 c_MM_debt c_MM_gift c_MM_paid E h k0
    rw [fMM_quarter_l2.eq_1] at h
    cases h
  | succ n ih =>
    intro a1 c_MM_debt c_MM_gift c_MM_paid E h k0
    rw [fMM_quarter_l2.eq_2] at h
    refine at_iload_n (j := 1) C dMM_quarter_2 rfl rfl ?_
    refine at_bipush C dMM_quarter_3 cb_16 ?_
    refine at_icmp_ge C dMM_quarter_5 rfl (fun hc => ?_) (fun hc => ?_)
    · replace h := ifp hc h
      cases h
      refine at_loc (L' := [(0, .ref (ad G 40))]) [0] rfl ?_
      exact k0
    · replace h := ifn hc h
      refine at_iconst C dMM_quarter_8 ci_0 ?_
      refine at_istore_n (L' := [(2, .int (0 : Int32)), (0, .ref (ad G 40)), (1, .int a1)]) C dMM_quarter_9 rfl (by decide) rfl ?_
      obtain ⟨e14, he14, h⟩ := ob_some h
      refine at_loc (L' := [(0, .ref (ad G 40)), (1, .int a1), (2, .int (0 : Int32))]) [1, 2, 0] rfl ?_
      refine wMM_quarter_l10 C _ FU _ _ _ _ _ he14 ?_
      refine at_iinc (j := 1) (L' := [(1, .int (a1 + (1 : Int32))), (0, .ref (ad G 40))]) C dMM_quarter_102 rfl ci_1 (by decide) rfl ?_
      refine at_goto C dMM_quarter_105 rfl ?_
      refine at_loc (L' := [(0, .ref (ad G 40)), (1, .int (a1 + (1 : Int32)))]) [1, 0] rfl ?_
      exact ih _ _ _ _ _ h k0
set_option maxRecDepth 100000 in
set_option maxHeartbeats 4000000 in
theorem cMM_quarter {l : Launch} {G : GG} (hG : GOK G) {c_MM_quarters : Int32} {c_MM_told : (Nat → Int32)} {c_MM_readAt : (Nat → Int32)} {c_MM_debt : (Nat → Int32)} {c_MM_gift : (Nat → Int32)} {c_MM_paid : (Nat → Int32)} {z1 : Z1} {z2111112 : (Nat → Int32)} {z211112 : Z211112} {z2111211 : Int32} {z2112111 : Int32} {z2112212 : (Nat → Int64)} {z211222 : Int32} {z212 : Z212} {z22 : Z22} (R : (Int32 × (Nat → Int32) × (Nat → Int32) × (Nat → Int32))) (h : fMM_quarter c_MM_quarters c_MM_told c_MM_readAt c_MM_debt c_MM_gift c_MM_paid = some R) : Met l yMM_quarter (.code yMM_quarter prog_12_method_35_code 6 none :: gw) (rmm 4) (PcW G [.ref (ad G 40)] (z1, ((((((c_MM_quarters, z2111112), z211112), ((z2111211, c_MM_told), c_MM_readAt)), (((z2112111, c_MM_debt), c_MM_gift), ((c_MM_paid, z2112212), z211222))), z212), z22))) (Qw G (none) (z1, ((((((R.1, z2111112), z211112), ((z2111211, c_MM_told), c_MM_readAt)), (((z2112111, R.2.1), R.2.2.1), ((R.2.2.2, z2112212), z211222))), z212), z22))) 0 0 (Aw G) := by
  refine met_of (by decide) 4 G hG _ _ (Nat.le_of_ble_eq_true rfl) _ _ (fun X _ C => ?_)
  have C : Cx G X RcMM prog_12_method_35_code 6 4 none := C
  unfold fMM_quarter at h
  show At G X 6 _ 0 [(0, .ref (ad G 40))] [] (z1, ((((((c_MM_quarters, z2111112), z211112), ((z2111211, c_MM_told), c_MM_readAt)), (((z2112111, c_MM_debt), c_MM_gift), ((c_MM_paid, z2112212), z211222))), z212), z22))
  refine at_iconst C dMM_quarter_0 ci_1 ?_
  refine at_istore_n (L' := [(1, .int (1 : Int32)), (0, .ref (ad G 40))]) C dMM_quarter_1 rfl (by decide) rfl ?_
  obtain ⟨e15, he15, h⟩ := ob_some h
  refine at_loc (L' := [(0, .ref (ad G 40)), (1, .int (1 : Int32))]) [1, 0] rfl ?_
  refine wMM_quarter_l2 C FU _ _ _ _ _ he15 ?_
  refine at_aload_n (j := 0) C dMM_quarter_108 rfl rfl ?_
  refine at_dup C dMM_quarter_109 rfl ?_
  refine gfMM_quarters (x := c_MM_quarters) C rfl dMM_quarter_110 ?_
  refine at_iconst C dMM_quarter_113 ci_1 ?_
  refine at_iadd C dMM_quarter_114 ?_
  refine pfMM_quarters C dMM_quarter_115 ?_
  refine at_st (S1 := (z1, (((((((c_MM_quarters + (1 : Int32)), z2111112), z211112), ((z2111211, c_MM_told), c_MM_readAt)), (((z2112111, e15.1), e15.2.1), ((e15.2.2, z2112212), z211222))), z212), z22))) rfl ?_
  cases h
  exact at_vret C dMM_quarter_118
set_option maxRecDepth 100000 in
set_option maxHeartbeats 4000000 in
theorem wMM_days_l43 {G : GG} {X : CX} {c_MM_clock : Int32} {c_MM_quarters : Int32} {c_MM_told : (Nat → Int32)} {c_MM_readAt : (Nat → Int32)} {c_MM_sendings : Int32} {c_MM_town : (Nat → Int32)} {c_MM_good : (Nat → Int32)} {c_MM_pieces : (Nat → Int32)} {c_MM_comes : (Nat → Int32)} {z11 : Z11} {z121 : Z121} {z1221 : Z1221} {z12221 : Z12221} {z122221 : Z122221} {z2111112 : (Nat → Int32)} {z211112 : Z211112} {z2111211 : Int32} {z2112111 : Int32} {z212121 : Z212121} {z212222 : (Nat → Int32)} {z22 : Z22} (C : Cx G X RcMM prog_12_method_36_code 4 5 (some .int)) {Q : State → Prop}  (a1 : Int32) (a2 : Int32) : ∀ (n : Nat) (a3 : Int32) (c_MM_debt : (Nat → Int32)) (c_MM_gift : (Nat → Int32)) (c_MM_paid : (Nat → Int32)) (c_MM_late : (Nat → Int64)) (c_MM_isStored : (Nat → Int32)) (c_MM_used : (Nat → Int32)) (c_MM_stored : Int32) (c_MM_storedOrder : (Nat → Int32)) (c_MM_storedMany : Int32) (E : ((Nat → Int32) × (Nat → Int32) × (Nat → Int32) × (Nat → Int64) × (Nat → Int32) × (Nat → Int32) × Int32 × (Nat → Int32) × Int32)) (h : fMM_days_l43 a1 a2 c_MM_clock c_MM_quarters c_MM_sendings c_MM_town c_MM_good c_MM_pieces c_MM_comes n a3 c_MM_debt c_MM_gift c_MM_paid c_MM_late c_MM_isStored c_MM_used c_MM_stored c_MM_storedOrder c_MM_storedMany = some E) (k0 : At G X 4 Q 84 [(0, .ref (ad G 40)), (1, .int a1), (2, .int a2)] [] ((z11, (z121, (z1221, (z12221, (z122221, c_MM_clock))))), ((((((c_MM_quarters, z2111112), z211112), ((z2111211, c_MM_told), c_MM_readAt)), (((z2112111, E.1), E.2.1), ((E.2.2.1, E.2.2.2.1), c_MM_sendings))), ((((c_MM_town, c_MM_good), c_MM_pieces), (z212121, c_MM_comes)), (((E.2.2.2.2.1, E.2.2.2.2.2.1), E.2.2.2.2.2.2.1), ((E.2.2.2.2.2.2.2.1, E.2.2.2.2.2.2.2.2), z212222)))), z22))), At G X 4 Q 43 [(0, .ref (ad G 40)), (1, .int a1), (2, .int a2), (3, .int a3)] [] ((z11, (z121, (z1221, (z12221, (z122221, c_MM_clock))))), ((((((c_MM_quarters, z2111112), z211112), ((z2111211, c_MM_told), c_MM_readAt)), (((z2112111, c_MM_debt), c_MM_gift), ((c_MM_paid, c_MM_late), c_MM_sendings))), ((((c_MM_town, c_MM_good), c_MM_pieces), (z212121, c_MM_comes)), (((c_MM_isStored, c_MM_used), c_MM_stored), ((c_MM_storedOrder, c_MM_storedMany), z212222)))), z22)) := by
  intro n
  induction n with
  | zero =>
    intro a3 c_MM_debt c_MM_gift c_MM_paid c_MM_late c_MM_isStored c_MM_used c_MM_stored c_MM_storedOrder c_MM_storedMany E h k0
    rw [fMM_days_l43.eq_1] at h
    cases h
  | succ n ih =>
    intro a3 c_MM_debt c_MM_gift c_MM_paid c_MM_late c_MM_isStored c_MM_used c_MM_stored c_MM_storedOrder c_MM_storedMany E h k0
    rw [fMM_days_l43.eq_2] at h
    refine at_iload_n (j := 3) C dMM_days_43 rfl rfl ?_
    refine at_aload_n (j := 0) C dMM_days_44 rfl rfl ?_
    refine gfMM_sendings (x := c_MM_sendings) C rfl dMM_days_45 ?_
    refine at_icmp_ge C dMM_days_48 rfl (fun hc => ?_) (fun hc => ?_)
    · replace h := ifp hc h
      cases h
      refine at_loc (L' := [(0, .ref (ad G 40)), (1, .int a1), (2, .int a2)]) [0, 1, 2] rfl ?_
      exact k0
    · replace h := ifn hc h
      refine at_aload_n (j := 0) C dMM_days_51 rfl rfl ?_
      refine gfMM_isStored C dMM_days_52 ?_
      refine at_iload_n (j := 3) C dMM_days_55 rfl rfl ?_
      obtain ⟨hg1, h⟩ := gd_some h
      refine ldMM_isStored (f := c_MM_isStored) C rfl hg1 dMM_days_56 ?_
      refine at_if_ne C dMM_days_57 rfl (fun hc => ?_) (fun hc => ?_)
      · replace h := ifn hc h
        refine at_iinc (j := 3) (L' := [(3, .int (a3 + (1 : Int32))), (0, .ref (ad G 40)), (1, .int a1), (2, .int a2)]) C dMM_days_78 rfl ci_1 (by decide) rfl ?_
        refine at_goto C dMM_days_81 rfl ?_
        refine at_loc (L' := [(0, .ref (ad G 40)), (1, .int a1), (2, .int a2), (3, .int (a3 + (1 : Int32)))]) [1, 2, 3, 0] rfl ?_
        exact ih _ _ _ _ _ _ _ _ _ _ _ h k0
      · replace h := ifp hc h
        refine at_aload_n (j := 0) C dMM_days_60 rfl rfl ?_
        refine gfMM_comes C dMM_days_61 ?_
        refine at_iload_n (j := 3) C dMM_days_64 rfl rfl ?_
        obtain ⟨hg2, h⟩ := gd_some h
        refine ldMM_comes (f := c_MM_comes) C rfl hg2 dMM_days_65 ?_
        refine at_aload_n (j := 0) C dMM_days_66 rfl rfl ?_
        refine gfMM_clock (x := c_MM_clock) C rfl dMM_days_67 ?_
        refine at_icmp_ne C dMM_days_70 rfl (fun hc => ?_) (fun hc => ?_)
        · replace h := ifn hc h
          refine at_iinc (j := 3) (L' := [(3, .int (a3 + (1 : Int32))), (0, .ref (ad G 40)), (1, .int a1), (2, .int a2)]) C dMM_days_78 rfl ci_1 (by decide) rfl ?_
          refine at_goto C dMM_days_81 rfl ?_
          refine at_loc (L' := [(0, .ref (ad G 40)), (1, .int a1), (2, .int a2), (3, .int (a3 + (1 : Int32)))]) [1, 2, 3, 0] rfl ?_
          exact ih _ _ _ _ _ _ _ _ _ _ _ h k0
        · replace h := ifp hc h
          refine at_aload_n (j := 0) C dMM_days_73 rfl rfl ?_
          refine at_iload_n (j := 3) C dMM_days_74 rfl rfl ?_
          obtain ⟨e3, he3, h⟩ := ob_some h
          refine at_callVv C kMM_214 (cMM_store C.2.2.2.2.2.2.1 _ _ he3) (by omega) rfl rfl rfl rfl (Nat.le_of_ble_eq_true rfl) dMM_days_75 ?_
          refine at_iinc (j := 3) (L' := [(3, .int (a3 + (1 : Int32))), (0, .ref (ad G 40)), (1, .int a1), (2, .int a2)]) C dMM_days_78 rfl ci_1 (by decide) rfl ?_
          refine at_goto C dMM_days_81 rfl ?_
          refine at_loc (L' := [(0, .ref (ad G 40)), (1, .int a1), (2, .int a2), (3, .int (a3 + (1 : Int32)))]) [1, 2, 3, 0] rfl ?_
          exact ih _ _ _ _ _ _ _ _ _ _ _ h k0
set_option maxRecDepth 100000 in
set_option maxHeartbeats 4000000 in
theorem wMM_days_l26 {G : GG} {X : CX} {c_MM_told : (Nat → Int32)} {c_MM_readAt : (Nat → Int32)} {c_MM_sendings : Int32} {c_MM_town : (Nat → Int32)} {c_MM_good : (Nat → Int32)} {c_MM_pieces : (Nat → Int32)} {c_MM_comes : (Nat → Int32)} {z11 : Z11} {z121 : Z121} {z1221 : Z1221} {z12221 : Z12221} {z122221 : Z122221} {z2111112 : (Nat → Int32)} {z211112 : Z211112} {z2111211 : Int32} {z2112111 : Int32} {z212121 : Z212121} {z212222 : (Nat → Int32)} {z22 : Z22} (C : Cx G X RcMM prog_12_method_36_code 4 5 (some .int)) {Q : State → Prop}  (a1 : Int32) : ∀ (n : Nat) (a2 : Int32) (c_MM_clock : Int32) (c_MM_quarters : Int32) (c_MM_debt : (Nat → Int32)) (c_MM_gift : (Nat → Int32)) (c_MM_paid : (Nat → Int32)) (c_MM_late : (Nat → Int64)) (c_MM_isStored : (Nat → Int32)) (c_MM_used : (Nat → Int32)) (c_MM_stored : Int32) (c_MM_storedOrder : (Nat → Int32)) (c_MM_storedMany : Int32) (E : (Int32 × Int32 × (Nat → Int32) × (Nat → Int32) × (Nat → Int32) × (Nat → Int64) × (Nat → Int32) × (Nat → Int32) × Int32 × (Nat → Int32) × Int32)) (h : fMM_days_l26 a1 c_MM_told c_MM_readAt c_MM_sendings c_MM_town c_MM_good c_MM_pieces c_MM_comes n a2 c_MM_clock c_MM_quarters c_MM_debt c_MM_gift c_MM_paid c_MM_late c_MM_isStored c_MM_used c_MM_stored c_MM_storedOrder c_MM_storedMany = some E) (k0 : At G X 4 Q 104 [(0, .ref (ad G 40))] [] ((z11, (z121, (z1221, (z12221, (z122221, E.1))))), ((((((E.2.1, z2111112), z211112), ((z2111211, c_MM_told), c_MM_readAt)), (((z2112111, E.2.2.1), E.2.2.2.1), ((E.2.2.2.2.1, E.2.2.2.2.2.1), c_MM_sendings))), ((((c_MM_town, c_MM_good), c_MM_pieces), (z212121, c_MM_comes)), (((E.2.2.2.2.2.2.1, E.2.2.2.2.2.2.2.1), E.2.2.2.2.2.2.2.2.1), ((E.2.2.2.2.2.2.2.2.2.1, E.2.2.2.2.2.2.2.2.2.2), z212222)))), z22))), At G X 4 Q 26 [(0, .ref (ad G 40)), (1, .int a1), (2, .int a2)] [] ((z11, (z121, (z1221, (z12221, (z122221, c_MM_clock))))), ((((((c_MM_quarters, z2111112), z211112), ((z2111211, c_MM_told), c_MM_readAt)), (((z2112111, c_MM_debt), c_MM_gift), ((c_MM_paid, c_MM_late), c_MM_sendings))), ((((c_MM_town, c_MM_good), c_MM_pieces), (z212121, c_MM_comes)), (((c_MM_isStored, c_MM_used), c_MM_stored), ((c_MM_storedOrder, c_MM_storedMany), z212222)))), z22)) := by
  intro n
  induction n with
  | zero =>
    intro a2 c_MM_clock c_MM_quarters c_MM_debt c_MM_gift c_MM_paid c_MM_late c_MM_isStored c_MM_used c_MM_stored c_MM_storedOrder c_MM_storedMany E h k0
    rw [fMM_days_l26.eq_1] at h
    cases h
  | succ n ih =>
    intro a2 c_MM_clock c_MM_quarters c_MM_debt c_MM_gift c_MM_paid c_MM_late c_MM_isStored c_MM_used c_MM_stored c_MM_storedOrder c_MM_storedMany E h k0
    rw [fMM_days_l26.eq_2] at h
    refine at_iload_n (j := 2) C dMM_days_26 rfl rfl ?_
    refine at_iload_n (j := 1) C dMM_days_27 rfl rfl ?_
    refine at_icmp_ge C dMM_days_28 rfl (fun hc => ?_) (fun hc => ?_)
    · replace h := ifp hc h
      cases h
      refine at_loc (L' := [(0, .ref (ad G 40))]) [0] rfl ?_
      exact k0
    · replace h := ifn hc h
      refine at_aload_n (j := 0) C dMM_days_31 rfl rfl ?_
      refine at_dup C dMM_days_32 rfl ?_
      refine gfMM_clock (x := c_MM_clock) C rfl dMM_days_33 ?_
      refine at_iconst C dMM_days_36 ci_1 ?_
      refine at_iadd C dMM_days_37 ?_
      refine pfMM_clock C dMM_days_38 ?_
      refine at_st (S1 := ((z11, (z121, (z1221, (z12221, (z122221, (c_MM_clock + (1 : Int32))))))), ((((((c_MM_quarters, z2111112), z211112), ((z2111211, c_MM_told), c_MM_readAt)), (((z2112111, c_MM_debt), c_MM_gift), ((c_MM_paid, c_MM_late), c_MM_sendings))), ((((c_MM_town, c_MM_good), c_MM_pieces), (z212121, c_MM_comes)), (((c_MM_isStored, c_MM_used), c_MM_stored), ((c_MM_storedOrder, c_MM_storedMany), z212222)))), z22))) rfl ?_
      refine at_iconst C dMM_days_41 ci_0 ?_
      refine at_istore_n (L' := [(3, .int (0 : Int32)), (0, .ref (ad G 40)), (1, .int a1), (2, .int a2)]) C dMM_days_42 rfl (by decide) rfl ?_
      obtain ⟨e4, he4, h⟩ := ob_some h
      refine at_loc (L' := [(0, .ref (ad G 40)), (1, .int a1), (2, .int a2), (3, .int (0 : Int32))]) [1, 2, 3, 0] rfl ?_
      refine wMM_days_l43 C _ _ FU _ _ _ _ _ _ _ _ _ _ _ he4 ?_
      refine at_aload_n (j := 0) C dMM_days_84 rfl rfl ?_
      refine gfMM_clock (x := (c_MM_clock + (1 : Int32))) C rfl dMM_days_85 ?_
      refine at_bipush C dMM_days_88 cb_90 ?_
      refine at_irem C dMM_days_90 (by decide) ?_
      refine at_if_ne C dMM_days_91 rfl (fun hc => ?_) (fun hc => ?_)
      · replace h := ifn hc h
        refine at_iinc (j := 2) (L' := [(2, .int (a2 + (1 : Int32))), (0, .ref (ad G 40)), (1, .int a1)]) C dMM_days_98 rfl ci_1 (by decide) rfl ?_
        refine at_goto C dMM_days_101 rfl ?_
        refine at_loc (L' := [(0, .ref (ad G 40)), (1, .int a1), (2, .int (a2 + (1 : Int32)))]) [1, 2, 0] rfl ?_
        exact ih _ _ _ _ _ _ _ _ _ _ _ _ _ h k0
      · replace h := ifp hc h
        refine at_aload_n (j := 0) C dMM_days_94 rfl rfl ?_
        obtain ⟨e5, he5, h⟩ := ob_some h
        refine at_callVv C kMM_217 (cMM_quarter C.2.2.2.2.2.2.1 _ he5) (by omega) rfl rfl rfl rfl (Nat.le_of_ble_eq_true rfl) dMM_days_95 ?_
        refine at_iinc (j := 2) (L' := [(2, .int (a2 + (1 : Int32))), (0, .ref (ad G 40)), (1, .int a1)]) C dMM_days_98 rfl ci_1 (by decide) rfl ?_
        refine at_goto C dMM_days_101 rfl ?_
        refine at_loc (L' := [(0, .ref (ad G 40)), (1, .int a1), (2, .int (a2 + (1 : Int32)))]) [1, 2, 0] rfl ?_
        exact ih _ _ _ _ _ _ _ _ _ _ _ _ _ h k0
set_option maxRecDepth 100000 in
set_option maxHeartbeats 4000000 in
theorem cMM_days {l : Launch} {G : GG} (hG : GOK G) {c_MM_clock : Int32} {c_MM_quarters : Int32} {c_MM_told : (Nat → Int32)} {c_MM_readAt : (Nat → Int32)} {c_MM_debt : (Nat → Int32)} {c_MM_gift : (Nat → Int32)} {c_MM_paid : (Nat → Int32)} {c_MM_late : (Nat → Int64)} {c_MM_sendings : Int32} {c_MM_town : (Nat → Int32)} {c_MM_good : (Nat → Int32)} {c_MM_pieces : (Nat → Int32)} {c_MM_comes : (Nat → Int32)} {c_MM_isStored : (Nat → Int32)} {c_MM_used : (Nat → Int32)} {c_MM_stored : Int32} {c_MM_storedOrder : (Nat → Int32)} {c_MM_storedMany : Int32} {z11 : Z11} {z121 : Z121} {z1221 : Z1221} {z12221 : Z12221} {z122221 : Z122221} {z2111112 : (Nat → Int32)} {z211112 : Z211112} {z2111211 : Int32} {z2112111 : Int32} {z212121 : Z212121} {z212222 : (Nat → Int32)} {z22 : Z22} (a1 : Int32) (R : (Int32 × Int32 × Int32 × (Nat → Int32) × (Nat → Int32) × (Nat → Int32) × (Nat → Int64) × (Nat → Int32) × (Nat → Int32) × Int32 × (Nat → Int32) × Int32)) (h : fMM_days a1 c_MM_clock c_MM_quarters c_MM_told c_MM_readAt c_MM_debt c_MM_gift c_MM_paid c_MM_late c_MM_sendings c_MM_town c_MM_good c_MM_pieces c_MM_comes c_MM_isStored c_MM_used c_MM_stored c_MM_storedOrder c_MM_storedMany = some R) : Met l yMM_days (.code yMM_days prog_12_method_36_code 4 (some .int) :: gw) (rmm 5) (PcW G [.ref (ad G 40), .int a1] ((z11, (z121, (z1221, (z12221, (z122221, c_MM_clock))))), ((((((c_MM_quarters, z2111112), z211112), ((z2111211, c_MM_told), c_MM_readAt)), (((z2112111, c_MM_debt), c_MM_gift), ((c_MM_paid, c_MM_late), c_MM_sendings))), ((((c_MM_town, c_MM_good), c_MM_pieces), (z212121, c_MM_comes)), (((c_MM_isStored, c_MM_used), c_MM_stored), ((c_MM_storedOrder, c_MM_storedMany), z212222)))), z22))) (Qw G (some (.int R.1)) ((z11, (z121, (z1221, (z12221, (z122221, R.2.1))))), ((((((R.2.2.1, z2111112), z211112), ((z2111211, c_MM_told), c_MM_readAt)), (((z2112111, R.2.2.2.1), R.2.2.2.2.1), ((R.2.2.2.2.2.1, R.2.2.2.2.2.2.1), c_MM_sendings))), ((((c_MM_town, c_MM_good), c_MM_pieces), (z212121, c_MM_comes)), (((R.2.2.2.2.2.2.2.1, R.2.2.2.2.2.2.2.2.1), R.2.2.2.2.2.2.2.2.2.1), ((R.2.2.2.2.2.2.2.2.2.2.1, R.2.2.2.2.2.2.2.2.2.2.2), z212222)))), z22))) 0 0 (Aw G) := by
  refine met_of (by decide) 5 G hG _ _ (Nat.le_of_ble_eq_true rfl) _ _ (fun X _ C => ?_)
  have C : Cx G X RcMM prog_12_method_36_code 4 5 (some .int) := C
  unfold fMM_days at h
  show At G X 4 _ 0 [(0, .ref (ad G 40)), (1, .int a1)] [] ((z11, (z121, (z1221, (z12221, (z122221, c_MM_clock))))), ((((((c_MM_quarters, z2111112), z211112), ((z2111211, c_MM_told), c_MM_readAt)), (((z2112111, c_MM_debt), c_MM_gift), ((c_MM_paid, c_MM_late), c_MM_sendings))), ((((c_MM_town, c_MM_good), c_MM_pieces), (z212121, c_MM_comes)), (((c_MM_isStored, c_MM_used), c_MM_stored), ((c_MM_storedOrder, c_MM_storedMany), z212222)))), z22))
  refine at_iload_n (j := 1) C dMM_days_0 rfl rfl ?_
  refine at_iconst C dMM_days_1 ci_1 ?_
  refine at_bipush C dMM_days_2 cb_100 ?_
  refine at_callSi C kMM_109 (cMM_isIn C.2.2.2.2.2.2.1 _ _ _ _ rfl) (by omega) rfl rfl (Nat.le_of_ble_eq_true rfl) dMM_days_4 ?_
  refine at_if_eq C dMM_days_7 rfl (fun hc => ?_) (fun hc => ?_)
  · replace h := ifp hc h
    refine at_iconst C dMM_days_22 ci_m1 ?_
    cases h
    exact at_iret C dMM_days_23
  · replace h := ifn hc h
    refine at_aload_n (j := 0) C dMM_days_10 rfl rfl ?_
    refine gfMM_clock (x := c_MM_clock) C rfl dMM_days_11 ?_
    refine at_iload_n (j := 1) C dMM_days_14 rfl rfl ?_
    refine at_iadd C dMM_days_15 ?_
    refine at_sipush C dMM_days_16 cs_3000 ?_
    refine at_icmp_le C dMM_days_19 rfl (fun hc => ?_) (fun hc => ?_)
    · replace h := ifp hc h
      refine at_iconst C dMM_days_24 ci_0 ?_
      refine at_istore_n (L' := [(2, .int (0 : Int32)), (0, .ref (ad G 40)), (1, .int a1)]) C dMM_days_25 rfl (by decide) rfl ?_
      obtain ⟨e6, he6, h⟩ := ob_some h
      refine at_loc (L' := [(0, .ref (ad G 40)), (1, .int a1), (2, .int (0 : Int32))]) [1, 2, 0] rfl ?_
      refine wMM_days_l26 C _ FU _ _ _ _ _ _ _ _ _ _ _ _ _ he6 ?_
      refine at_aload_n (j := 0) C dMM_days_104 rfl rfl ?_
      refine gfMM_clock (x := e6.1) C rfl dMM_days_105 ?_
      cases h
      exact at_iret C dMM_days_108
    · replace h := ifn hc h
      refine at_iconst C dMM_days_22 ci_m1 ?_
      cases h
      exact at_iret C dMM_days_23
set_option maxRecDepth 100000 in
set_option maxHeartbeats 4000000 in
theorem wMM_account_l38 {G : GG} {X : CX} {c_MM_quarters : Int32} {c_MM_debt : (Nat → Int32)} {c_MM_gift : (Nat → Int32)} {c_MM_paid : (Nat → Int32)} {z1 : Z1} {z2111112 : (Nat → Int32)} {z211112 : Z211112} {z21112 : Z21112} {z2112111 : Int32} {z2112212 : (Nat → Int64)} {z211222 : Int32} {z212 : Z212} {z22 : Z22} (C : Cx G X RcMM prog_12_method_37_code 8 3 (some .int)) {Q : State → Prop}  (a3 : Int32) (a4 : Int32) : ∀ (n : Nat) (a5 : Int32) (a6 : Int32) (a7 : Int32) (E : (Int32 × Int32)) (h : fMM_account_l38 a3 a4 c_MM_debt n a5 a6 a7 = some E) (k0 : At G X 8 Q 87 [(0, .ref (ad G 40)), (3, .int a3), (4, .int a4), (5, .int E.1), (6, .int E.2)] [] (z1, ((((((c_MM_quarters, z2111112), z211112), z21112), (((z2112111, c_MM_debt), c_MM_gift), ((c_MM_paid, z2112212), z211222))), z212), z22))), At G X 8 Q 38 [(0, .ref (ad G 40)), (3, .int a3), (4, .int a4), (5, .int a5), (6, .int a6), (7, .int a7)] [] (z1, ((((((c_MM_quarters, z2111112), z211112), z21112), (((z2112111, c_MM_debt), c_MM_gift), ((c_MM_paid, z2112212), z211222))), z212), z22)) := by
  intro n
  induction n with
  | zero =>
    intro a5 a6 a7 E h k0
    rw [fMM_account_l38.eq_1] at h
    cases h
  | succ n ih =>
    intro a5 a6 a7 E h k0
    rw [fMM_account_l38.eq_2] at h
    refine at_iload (j := 5) C dMM_account_38 rfl ?_
    refine at_if_lt C dMM_account_40 rfl (fun hc => ?_) (fun hc => ?_)
    · replace h := ifp hc h
      cases h
      refine at_loc (L' := [(0, .ref (ad G 40)), (3, .int a3), (4, .int a4), (5, .int a5), (6, .int a6)]) [0, 1, 2, 3, 4] rfl ?_
      exact k0
    · replace h := ifn hc h
      refine at_iload (j := 3) C dMM_account_43 rfl ?_
      refine at_aload_n (j := 0) C dMM_account_45 rfl rfl ?_
      refine gfMM_debt C dMM_account_46 ?_
      refine at_bipush C dMM_account_49 cb_96 ?_
      refine at_iload (j := 5) C dMM_account_51 rfl ?_
      refine at_imul C dMM_account_53 ?_
      refine at_iload (j := 2) C dMM_account_54 rfl ?_
      refine at_iadd C dMM_account_56 ?_
      obtain ⟨hg1, h⟩ := gd_some h
      refine ldMM_debt (f := c_MM_debt) C rfl hg1 dMM_account_57 ?_
      refine at_iadd C dMM_account_58 ?_
      refine at_istore (L' := [(5, .int (a5 + (c_MM_debt ((((96 : Int32) * a7) + a4)).toNatClampNeg))), (0, .ref (ad G 40)), (3, .int a3), (4, .int a4), (6, .int a6), (7, .int a7)]) C dMM_account_59 (by decide) rfl ?_
      refine at_aload_n (j := 1) C dMM_account_61 rfl rfl ?_
      refine gfMM_debt C dMM_account_62 ?_
      refine at_bipush C dMM_account_65 cb_96 ?_
      refine at_iload (j := 5) C dMM_account_67 rfl ?_
      refine at_imul C dMM_account_69 ?_
      refine at_iload (j := 3) C dMM_account_70 rfl ?_
      refine at_iadd C dMM_account_72 ?_
      obtain ⟨hg2, h⟩ := gd_some h
      refine ldMM_debt (f := c_MM_debt) C rfl hg2 dMM_account_73 ?_
      refine at_if_le C dMM_account_74 rfl (fun hc => ?_) (fun hc => ?_)
      · replace h := ifp hc h
        refine at_iinc (j := 5) (L' := [(7, .int (a7 + (-1 : Int32))), (5, .int (a5 + (c_MM_debt ((((96 : Int32) * a7) + a4)).toNatClampNeg))), (0, .ref (ad G 40)), (3, .int a3), (4, .int a4), (6, .int a6)]) C dMM_account_81 rfl ci_m1 (by decide) rfl ?_
        refine at_goto C dMM_account_84 rfl ?_
        refine at_loc (L' := [(0, .ref (ad G 40)), (3, .int a3), (4, .int a4), (5, .int (a5 + (c_MM_debt ((((96 : Int32) * a7) + a4)).toNatClampNeg))), (6, .int a6), (7, .int (a7 + (-1 : Int32)))]) [2, 3, 4, 1, 5, 0] rfl ?_
        exact ih _ _ _ _ h k0
      · replace h := ifn hc h
        refine at_iload (j := 5) C dMM_account_77 rfl ?_
        refine at_istore (L' := [(6, .int a7), (5, .int (a5 + (c_MM_debt ((((96 : Int32) * a7) + a4)).toNatClampNeg))), (0, .ref (ad G 40)), (3, .int a3), (4, .int a4), (7, .int a7)]) C dMM_account_79 (by decide) rfl ?_
        refine at_iinc (j := 5) (L' := [(7, .int (a7 + (-1 : Int32))), (6, .int a7), (5, .int (a5 + (c_MM_debt ((((96 : Int32) * a7) + a4)).toNatClampNeg))), (0, .ref (ad G 40)), (3, .int a3), (4, .int a4)]) C dMM_account_81 rfl ci_m1 (by decide) rfl ?_
        refine at_goto C dMM_account_84 rfl ?_
        refine at_loc (L' := [(0, .ref (ad G 40)), (3, .int a3), (4, .int a4), (5, .int (a5 + (c_MM_debt ((((96 : Int32) * a7) + a4)).toNatClampNeg))), (6, .int a7), (7, .int (a7 + (-1 : Int32)))]) [3, 4, 5, 2, 1, 0] rfl ?_
        exact ih _ _ _ _ h k0
set_option maxRecDepth 100000 in
set_option maxHeartbeats 4000000 in
theorem cMM_account {l : Launch} {G : GG} (hG : GOK G) {c_MM_quarters : Int32} {c_MM_debt : (Nat → Int32)} {c_MM_gift : (Nat → Int32)} {c_MM_paid : (Nat → Int32)} {z1 : Z1} {z2111112 : (Nat → Int32)} {z211112 : Z211112} {z21112 : Z21112} {z2112111 : Int32} {z2112212 : (Nat → Int64)} {z211222 : Int32} {z212 : Z212} {z22 : Z22} (a1 : Int32) (a2 : Int32) (a3 : Int32) (R : Int32) (h : fMM_account a1 a2 a3 c_MM_quarters c_MM_debt c_MM_gift c_MM_paid = some R) : Met l yMM_account (.code yMM_account prog_12_method_37_code 8 (some .int) :: gw) (rmm 3) (PcW G [.ref (ad G 40), .int a1, .int a2, .int a3] (z1, ((((((c_MM_quarters, z2111112), z211112), z21112), (((z2112111, c_MM_debt), c_MM_gift), ((c_MM_paid, z2112212), z211222))), z212), z22))) (Qw G (some (.int R)) (z1, ((((((c_MM_quarters, z2111112), z211112), z21112), (((z2112111, c_MM_debt), c_MM_gift), ((c_MM_paid, z2112212), z211222))), z212), z22))) 0 0 (Aw G) := by
  refine met_of (by decide) 3 G hG _ _ (Nat.le_of_ble_eq_true rfl) _ _ (fun X _ C => ?_)
  have C : Cx G X RcMM prog_12_method_37_code 8 3 (some .int) := C
  unfold fMM_account at h
  show At G X 8 _ 0 [(0, .ref (ad G 40)), (1, .int a1), (2, .int a2), (3, .int a3)] [] (z1, ((((((c_MM_quarters, z2111112), z211112), z21112), (((z2112111, c_MM_debt), c_MM_gift), ((c_MM_paid, z2112212), z211222))), z212), z22))
  refine at_iload_n (j := 1) C dMM_account_0 rfl rfl ?_
  refine at_callSi C kMM_160 (cMM_isTown C.2.2.2.2.2.2.1 _ _ rfl) (by omega) rfl rfl (Nat.le_of_ble_eq_true rfl) dMM_account_1 ?_
  refine at_if_eq C dMM_account_4 rfl (fun hc => ?_) (fun hc => ?_)
  · replace h := ifp hc h
    refine at_iconst C dMM_account_14 ci_m1 ?_
    cases h
    exact at_iret C dMM_account_15
  · replace h := ifn hc h
    refine at_iload_n (j := 2) C dMM_account_7 rfl rfl ?_
    refine at_callSi C kMM_122 (cMM_isGood C.2.2.2.2.2.2.1 _ _ rfl) (by omega) rfl rfl (Nat.le_of_ble_eq_true rfl) dMM_account_8 ?_
    refine at_if_ne C dMM_account_11 rfl (fun hc => ?_) (fun hc => ?_)
    · replace h := ifn hc h
      refine at_bipush C dMM_account_16 cb_6 ?_
      refine at_iload_n (j := 1) C dMM_account_18 rfl rfl ?_
      refine at_imul C dMM_account_19 ?_
      refine at_iload_n (j := 2) C dMM_account_20 rfl rfl ?_
      refine at_iadd C dMM_account_21 ?_
      refine at_istore (L' := [(4, .int (((6 : Int32) * a1) + a2)), (0, .ref (ad G 40)), (1, .int a1), (2, .int a2), (3, .int a3)]) C dMM_account_22 (by decide) rfl ?_
      refine at_iconst C dMM_account_24 ci_0 ?_
      refine at_istore (L' := [(5, .int (0 : Int32)), (4, .int (((6 : Int32) * a1) + a2)), (0, .ref (ad G 40)), (1, .int a1), (2, .int a2), (3, .int a3)]) C dMM_account_25 (by decide) rfl ?_
      refine at_iconst C dMM_account_27 ci_m1 ?_
      refine at_istore (L' := [(6, .int (-1 : Int32)), (5, .int (0 : Int32)), (4, .int (((6 : Int32) * a1) + a2)), (0, .ref (ad G 40)), (1, .int a1), (2, .int a2), (3, .int a3)]) C dMM_account_28 (by decide) rfl ?_
      refine at_aload_n (j := 3) C dMM_account_30 rfl rfl ?_
      refine gfMM_quarters (x := c_MM_quarters) C rfl dMM_account_31 ?_
      refine at_iconst C dMM_account_34 ci_1 ?_
      refine at_isub C dMM_account_35 ?_
      refine at_istore (L' := [(7, .int (c_MM_quarters - (1 : Int32))), (6, .int (-1 : Int32)), (5, .int (0 : Int32)), (4, .int (((6 : Int32) * a1) + a2)), (0, .ref (ad G 40)), (1, .int a1), (2, .int a2), (3, .int a3)]) C dMM_account_36 (by decide) rfl ?_
      obtain ⟨e3, he3, h⟩ := ob_some h
      refine at_loc (L' := [(0, .ref (ad G 40)), (3, .int a3), (4, .int (((6 : Int32) * a1) + a2)), (5, .int (0 : Int32)), (6, .int (-1 : Int32)), (7, .int (c_MM_quarters - (1 : Int32)))]) [4, 7, 3, 2, 1, 0] rfl ?_
      refine wMM_account_l38 C _ _ FU _ _ _ _ he3 ?_
      refine at_iload_n (j := 1) C dMM_account_87 rfl rfl ?_
      refine at_if_ne C dMM_account_88 rfl (fun hc => ?_) (fun hc => ?_)
      · replace h := ifn hc h
        refine at_iload_n (j := 1) C dMM_account_96 rfl rfl ?_
        refine at_iconst C dMM_account_97 ci_1 ?_
        refine at_icmp_ne C dMM_account_98 rfl (fun hc => ?_) (fun hc => ?_)
        · replace h := ifn hc h
          refine at_iload_n (j := 1) C dMM_account_111 rfl rfl ?_
          refine at_iconst C dMM_account_112 ci_2 ?_
          refine at_icmp_ne C dMM_account_113 rfl (fun hc => ?_) (fun hc => ?_)
          · replace h := ifn hc h
            refine at_iload_n (j := 1) C dMM_account_121 rfl rfl ?_
            refine at_iconst C dMM_account_122 ci_3 ?_
            refine at_icmp_ne C dMM_account_123 rfl (fun hc => ?_) (fun hc => ?_)
            · replace h := ifn hc h
              refine at_iconst C dMM_account_136 ci_m1 ?_
              cases h
              exact at_iret C dMM_account_137
            · replace h := ifp hc h
              refine at_aload_n (j := 0) C dMM_account_126 rfl rfl ?_
              refine gfMM_paid C dMM_account_127 ?_
              refine at_iload (j := 2) C dMM_account_130 rfl ?_
              obtain ⟨hg4, h⟩ := gd_some h
              refine ldMM_paid (f := c_MM_paid) C rfl hg4 dMM_account_132 ?_
              refine at_goto C dMM_account_133 rfl ?_
              cases h
              exact at_iret C dMM_account_137
          · replace h := ifp hc h
            refine at_iload (j := 4) C dMM_account_116 rfl ?_
            refine at_goto C dMM_account_118 rfl ?_
            cases h
            exact at_iret C dMM_account_137
        · replace h := ifp hc h
          refine at_aload_n (j := 0) C dMM_account_101 rfl rfl ?_
          refine gfMM_gift C dMM_account_102 ?_
          refine at_iload (j := 2) C dMM_account_105 rfl ?_
          obtain ⟨hg5, h⟩ := gd_some h
          refine ldMM_gift (f := c_MM_gift) C rfl hg5 dMM_account_107 ?_
          refine at_goto C dMM_account_108 rfl ?_
          cases h
          exact at_iret C dMM_account_137
      · replace h := ifp hc h
        refine at_iload (j := 3) C dMM_account_91 rfl ?_
        refine at_goto C dMM_account_93 rfl ?_
        cases h
        exact at_iret C dMM_account_137
    · replace h := ifp hc h
      refine at_iconst C dMM_account_14 ci_m1 ?_
      cases h
      exact at_iret C dMM_account_15
set_option maxRecDepth 100000 in
set_option maxHeartbeats 4000000 in
theorem wMM_late_l33 {G : GG} {X : CX} {c_MM_clock : Int32} {c_MM_quarters : Int32} {c_MM_debt : (Nat → Int32)} {c_MM_late : (Nat → Int64)} {z11 : Z11} {z121 : Z121} {z1221 : Z1221} {z12221 : Z12221} {z122221 : Z122221} {z2111112 : (Nat → Int32)} {z211112 : Z211112} {z21112 : Z21112} {z2112111 : Int32} {z211212 : (Nat → Int32)} {z2112211 : (Nat → Int32)} {z211222 : Int32} {z212 : Z212} {z22 : Z22} (C : Cx G X RcMM prog_12_method_38_code 6 3 (some .long)) {Q : State → Prop}  (a1 : Int32) (a4 : Int32) : ∀ (n : Nat) (a2 : Int64) (a5 : Int32) (E : Int64) (h : fMM_late_l33 a1 a4 c_MM_clock c_MM_debt n a2 a5 = some E) (k0 : At G X 6 Q 82 [(0, .ref (ad G 40)), (1, .int a1), (2, .long E), (4, .int a4)] [] ((z11, (z121, (z1221, (z12221, (z122221, c_MM_clock))))), ((((((c_MM_quarters, z2111112), z211112), z21112), (((z2112111, c_MM_debt), z211212), ((z2112211, c_MM_late), z211222))), z212), z22))), At G X 6 Q 33 [(0, .ref (ad G 40)), (1, .int a1), (2, .long a2), (4, .int a4), (5, .int a5)] [] ((z11, (z121, (z1221, (z12221, (z122221, c_MM_clock))))), ((((((c_MM_quarters, z2111112), z211112), z21112), (((z2112111, c_MM_debt), z211212), ((z2112211, c_MM_late), z211222))), z212), z22)) := by
  intro n
  induction n with
  | zero =>
    intro a2 a5 E h k0
    rw [fMM_late_l33.eq_1] at h
    cases h
  | succ n ih =>
    intro a2 a5 E h k0
    rw [fMM_late_l33.eq_2] at h
    refine at_iload (j := 4) C dMM_late_33 rfl ?_
    refine at_bipush C dMM_late_35 cb_6 ?_
    refine at_icmp_ge C dMM_late_37 rfl (fun hc => ?_) (fun hc => ?_)
    · replace h := ifp hc h
      cases h
      refine at_loc (L' := [(0, .ref (ad G 40)), (1, .int a1), (2, .long a2), (4, .int a4)]) [0, 1, 2, 3] rfl ?_
      exact k0
    · replace h := ifn hc h
      refine at_lload_n (j := 2) C dMM_late_40 rfl rfl ?_
      refine at_aload_n (j := 0) C dMM_late_41 rfl rfl ?_
      refine gfMM_debt C dMM_late_42 ?_
      refine at_bipush C dMM_late_45 cb_96 ?_
      refine at_iload (j := 3) C dMM_late_47 rfl ?_
      refine at_imul C dMM_late_49 ?_
      refine at_bipush C dMM_late_50 cb_6 ?_
      refine at_iload_n (j := 1) C dMM_late_52 rfl rfl ?_
      refine at_imul C dMM_late_53 ?_
      refine at_iadd C dMM_late_54 ?_
      refine at_iload (j := 4) C dMM_late_55 rfl ?_
      refine at_iadd C dMM_late_57 ?_
      obtain ⟨hg2, h⟩ := gd_some h
      refine ldMM_debt (f := c_MM_debt) C rfl hg2 dMM_late_58 ?_
      refine at_i2l C dMM_late_59 ?_
      refine at_aload_n (j := 0) C dMM_late_60 rfl rfl ?_
      refine gfMM_clock (x := c_MM_clock) C rfl dMM_late_61 ?_
      refine at_bipush C dMM_late_64 cb_90 ?_
      refine at_iload (j := 3) C dMM_late_66 rfl ?_
      refine at_iconst C dMM_late_68 ci_1 ?_
      refine at_iadd C dMM_late_69 ?_
      refine at_imul C dMM_late_70 ?_
      refine at_isub C dMM_late_71 ?_
      refine at_i2l C dMM_late_72 ?_
      refine at_lmul C dMM_late_73 ?_
      refine at_ladd C dMM_late_74 ?_
      refine at_lstore_n (L' := [(2, .long (a2 + (((c_MM_debt (((((96 : Int32) * a4) + ((6 : Int32) * a1)) + a5)).toNatClampNeg)).toInt64 * ((c_MM_clock - ((90 : Int32) * (a4 + (1 : Int32))))).toInt64))), (0, .ref (ad G 40)), (1, .int a1), (4, .int a4), (5, .int a5)]) C dMM_late_75 rfl (by decide) rfl ?_
      refine at_iinc (j := 4) (L' := [(5, .int (a5 + (1 : Int32))), (2, .long (a2 + (((c_MM_debt (((((96 : Int32) * a4) + ((6 : Int32) * a1)) + a5)).toNatClampNeg)).toInt64 * ((c_MM_clock - ((90 : Int32) * (a4 + (1 : Int32))))).toInt64))), (0, .ref (ad G 40)), (1, .int a1), (4, .int a4)]) C dMM_late_76 rfl ci_1 (by decide) rfl ?_
      refine at_goto C dMM_late_79 rfl ?_
      refine at_loc (L' := [(0, .ref (ad G 40)), (1, .int a1), (2, .long (a2 + (((c_MM_debt (((((96 : Int32) * a4) + ((6 : Int32) * a1)) + a5)).toNatClampNeg)).toInt64 * ((c_MM_clock - ((90 : Int32) * (a4 + (1 : Int32))))).toInt64))), (4, .int a4), (5, .int (a5 + (1 : Int32)))]) [2, 3, 1, 4, 0] rfl ?_
      exact ih _ _ _ h k0
set_option maxRecDepth 100000 in
set_option maxHeartbeats 4000000 in
theorem wMM_late_l21 {G : GG} {X : CX} {c_MM_clock : Int32} {c_MM_quarters : Int32} {c_MM_debt : (Nat → Int32)} {c_MM_late : (Nat → Int64)} {z11 : Z11} {z121 : Z121} {z1221 : Z1221} {z12221 : Z12221} {z122221 : Z122221} {z2111112 : (Nat → Int32)} {z211112 : Z211112} {z21112 : Z21112} {z2112111 : Int32} {z211212 : (Nat → Int32)} {z2112211 : (Nat → Int32)} {z211222 : Int32} {z212 : Z212} {z22 : Z22} (C : Cx G X RcMM prog_12_method_38_code 6 3 (some .long)) {Q : State → Prop}  (a1 : Int32) : ∀ (n : Nat) (a2 : Int64) (a4 : Int32) (E : Int64) (h : fMM_late_l21 a1 c_MM_clock c_MM_quarters c_MM_debt n a2 a4 = some E) (k0 : At G X 6 Q 88 [(2, .long E)] [] ((z11, (z121, (z1221, (z12221, (z122221, c_MM_clock))))), ((((((c_MM_quarters, z2111112), z211112), z21112), (((z2112111, c_MM_debt), z211212), ((z2112211, c_MM_late), z211222))), z212), z22))), At G X 6 Q 21 [(0, .ref (ad G 40)), (1, .int a1), (2, .long a2), (4, .int a4)] [] ((z11, (z121, (z1221, (z12221, (z122221, c_MM_clock))))), ((((((c_MM_quarters, z2111112), z211112), z21112), (((z2112111, c_MM_debt), z211212), ((z2112211, c_MM_late), z211222))), z212), z22)) := by
  intro n
  induction n with
  | zero =>
    intro a2 a4 E h k0
    rw [fMM_late_l21.eq_1] at h
    cases h
  | succ n ih =>
    intro a2 a4 E h k0
    rw [fMM_late_l21.eq_2] at h
    refine at_iload (j := 3) C dMM_late_21 rfl ?_
    refine at_aload_n (j := 0) C dMM_late_23 rfl rfl ?_
    refine gfMM_quarters (x := c_MM_quarters) C rfl dMM_late_24 ?_
    refine at_icmp_ge C dMM_late_27 rfl (fun hc => ?_) (fun hc => ?_)
    · replace h := ifp hc h
      cases h
      refine at_loc (L' := [(2, .long a2)]) [2] rfl ?_
      exact k0
    · replace h := ifn hc h
      refine at_iconst C dMM_late_30 ci_0 ?_
      refine at_istore (L' := [(5, .int (0 : Int32)), (0, .ref (ad G 40)), (1, .int a1), (2, .long a2), (4, .int a4)]) C dMM_late_31 (by decide) rfl ?_
      obtain ⟨e3, he3, h⟩ := ob_some h
      refine at_loc (L' := [(0, .ref (ad G 40)), (1, .int a1), (2, .long a2), (4, .int a4), (5, .int (0 : Int32))]) [1, 2, 3, 4, 0] rfl ?_
      refine wMM_late_l33 C _ _ FU _ _ _ he3 ?_
      refine at_iinc (j := 3) (L' := [(4, .int (a4 + (1 : Int32))), (0, .ref (ad G 40)), (1, .int a1), (2, .long e3)]) C dMM_late_82 rfl ci_1 (by decide) rfl ?_
      refine at_goto C dMM_late_85 rfl ?_
      refine at_loc (L' := [(0, .ref (ad G 40)), (1, .int a1), (2, .long e3), (4, .int (a4 + (1 : Int32)))]) [1, 2, 3, 0] rfl ?_
      exact ih _ _ _ h k0
set_option maxRecDepth 100000 in
set_option maxHeartbeats 4000000 in
theorem cMM_late {l : Launch} {G : GG} (hG : GOK G) {c_MM_clock : Int32} {c_MM_quarters : Int32} {c_MM_debt : (Nat → Int32)} {c_MM_late : (Nat → Int64)} {z11 : Z11} {z121 : Z121} {z1221 : Z1221} {z12221 : Z12221} {z122221 : Z122221} {z2111112 : (Nat → Int32)} {z211112 : Z211112} {z21112 : Z21112} {z2112111 : Int32} {z211212 : (Nat → Int32)} {z2112211 : (Nat → Int32)} {z211222 : Int32} {z212 : Z212} {z22 : Z22} (a1 : Int32) (R : Int64) (h : fMM_late a1 c_MM_clock c_MM_quarters c_MM_debt c_MM_late = some R) : Met l yMM_late (.code yMM_late prog_12_method_38_code 6 (some .long) :: gw) (rmm 3) (PcW G [.ref (ad G 40), .int a1] ((z11, (z121, (z1221, (z12221, (z122221, c_MM_clock))))), ((((((c_MM_quarters, z2111112), z211112), z21112), (((z2112111, c_MM_debt), z211212), ((z2112211, c_MM_late), z211222))), z212), z22))) (Qw G (some (.long R)) ((z11, (z121, (z1221, (z12221, (z122221, c_MM_clock))))), ((((((c_MM_quarters, z2111112), z211112), z21112), (((z2112111, c_MM_debt), z211212), ((z2112211, c_MM_late), z211222))), z212), z22))) 0 0 (Aw G) := by
  refine met_of (by decide) 3 G hG _ _ (Nat.le_of_ble_eq_true rfl) _ _ (fun X _ C => ?_)
  have C : Cx G X RcMM prog_12_method_38_code 6 3 (some .long) := C
  unfold fMM_late at h
  show At G X 6 _ 0 [(0, .ref (ad G 40)), (1, .int a1)] [] ((z11, (z121, (z1221, (z12221, (z122221, c_MM_clock))))), ((((((c_MM_quarters, z2111112), z211112), z21112), (((z2112111, c_MM_debt), z211212), ((z2112211, c_MM_late), z211222))), z212), z22))
  refine at_iload_n (j := 1) C dMM_late_0 rfl rfl ?_
  refine at_callSi C kMM_160 (cMM_isTown C.2.2.2.2.2.2.1 _ _ rfl) (by omega) rfl rfl (Nat.le_of_ble_eq_true rfl) dMM_late_1 ?_
  refine at_if_ne C dMM_late_4 rfl (fun hc => ?_) (fun hc => ?_)
  · replace h := ifn hc h
    refine at_aload_n (j := 0) C dMM_late_11 rfl rfl ?_
    refine gfMM_late C dMM_late_12 ?_
    refine at_iload_n (j := 1) C dMM_late_15 rfl rfl ?_
    obtain ⟨hg1, h⟩ := gd_some h
    refine ldMM_late (f := c_MM_late) C rfl hg1 dMM_late_16 ?_
    refine at_lstore_n (L' := [(2, .long (c_MM_late (a1).toNatClampNeg)), (0, .ref (ad G 40)), (1, .int a1)]) C dMM_late_17 rfl (by decide) rfl ?_
    refine at_iconst C dMM_late_18 ci_0 ?_
    refine at_istore (L' := [(4, .int (0 : Int32)), (2, .long (c_MM_late (a1).toNatClampNeg)), (0, .ref (ad G 40)), (1, .int a1)]) C dMM_late_19 (by decide) rfl ?_
    obtain ⟨e4, he4, h⟩ := ob_some h
    refine at_loc (L' := [(0, .ref (ad G 40)), (1, .int a1), (2, .long (c_MM_late (a1).toNatClampNeg)), (4, .int (0 : Int32))]) [2, 3, 1, 0] rfl ?_
    refine wMM_late_l21 C _ FU _ _ _ he4 ?_
    refine at_lload_n (j := 0) C dMM_late_88 rfl rfl ?_
    cases h
    exact at_lret C dMM_late_89
  · replace h := ifp hc h
    refine at_ldc2 C qMM_220 dMM_late_7 ?_
    cases h
    exact at_lret C dMM_late_10
set_option maxRecDepth 100000 in
set_option maxHeartbeats 4000000 in
theorem wMM_piece_l20 {G : GG} {X : CX} {c_MM_pieces : (Nat → Int32)} {c_MM_stored : Int32} {c_MM_storedOrder : (Nat → Int32)} {z1 : Z1} {z211 : Z211} {z212111 : Z212111} {z21212 : Z21212} {z212211 : Z212211} {z2122212 : Int32} {z212222 : (Nat → Int32)} {z22 : Z22} (C : Cx G X RcMM prog_12_method_39_code 4 2 (some .int)) {Q : State → Prop}  : ∀ (n : Nat) (a2 : Int32) (a3 : Int32) (E : Int32) (h : fMM_piece_l20 c_MM_pieces c_MM_storedOrder n a2 a3 = some E) (k0 : At G X 4 Q 55 [(0, .ref (ad G 40)), (3, .int E)] [] (z1, ((z211, (((z212111, c_MM_pieces), z21212), ((z212211, c_MM_stored), ((c_MM_storedOrder, z2122212), z212222)))), z22))), At G X 4 Q 20 [(0, .ref (ad G 40)), (2, .int a2), (3, .int a3)] [] (z1, ((z211, (((z212111, c_MM_pieces), z21212), ((z212211, c_MM_stored), ((c_MM_storedOrder, z2122212), z212222)))), z22)) := by
  intro n
  induction n with
  | zero =>
    intro a2 a3 E h k0
    rw [fMM_piece_l20.eq_1] at h
    cases h
  | succ n ih =>
    intro a2 a3 E h k0
    rw [fMM_piece_l20.eq_2] at h
    refine at_iload_n (j := 1) C dMM_piece_20 rfl rfl ?_
    refine at_aload_n (j := 0) C dMM_piece_21 rfl rfl ?_
    refine gfMM_pieces C dMM_piece_22 ?_
    refine at_aload_n (j := 0) C dMM_piece_25 rfl rfl ?_
    refine gfMM_storedOrder C dMM_piece_26 ?_
    refine at_iload_n (j := 2) C dMM_piece_29 rfl rfl ?_
    obtain ⟨hg1, h⟩ := gd_some h
    refine ldMM_storedOrder (f := c_MM_storedOrder) C rfl hg1 dMM_piece_30 ?_
    obtain ⟨hg2, h⟩ := gd_some h
    refine ldMM_pieces (f := c_MM_pieces) C rfl hg2 dMM_piece_31 ?_
    refine at_icmp_lt C dMM_piece_32 rfl (fun hc => ?_) (fun hc => ?_)
    · replace h := ifp hc h
      cases h
      refine at_loc (L' := [(0, .ref (ad G 40)), (3, .int a3)]) [0, 2] rfl ?_
      exact k0
    · replace h := ifn hc h
      refine at_iload_n (j := 1) C dMM_piece_35 rfl rfl ?_
      refine at_aload_n (j := 0) C dMM_piece_36 rfl rfl ?_
      refine gfMM_pieces C dMM_piece_37 ?_
      refine at_aload_n (j := 0) C dMM_piece_40 rfl rfl ?_
      refine gfMM_storedOrder C dMM_piece_41 ?_
      refine at_iload_n (j := 2) C dMM_piece_44 rfl rfl ?_
      obtain ⟨hg3, h⟩ := gd_some h
      refine ldMM_storedOrder (f := c_MM_storedOrder) C rfl hg3 dMM_piece_45 ?_
      obtain ⟨hg4, h⟩ := gd_some h
      refine ldMM_pieces (f := c_MM_pieces) C rfl hg4 dMM_piece_46 ?_
      refine at_isub C dMM_piece_47 ?_
      refine at_istore_n (L' := [(2, .int (a2 - (c_MM_pieces ((c_MM_storedOrder (a3).toNatClampNeg)).toNatClampNeg))), (0, .ref (ad G 40)), (3, .int a3)]) C dMM_piece_48 rfl (by decide) rfl ?_
      refine at_iinc (j := 2) (L' := [(3, .int (a3 + (1 : Int32))), (2, .int (a2 - (c_MM_pieces ((c_MM_storedOrder (a3).toNatClampNeg)).toNatClampNeg))), (0, .ref (ad G 40))]) C dMM_piece_49 rfl ci_1 (by decide) rfl ?_
      refine at_goto C dMM_piece_52 rfl ?_
      refine at_loc (L' := [(0, .ref (ad G 40)), (2, .int (a2 - (c_MM_pieces ((c_MM_storedOrder (a3).toNatClampNeg)).toNatClampNeg))), (3, .int (a3 + (1 : Int32)))]) [2, 1, 0] rfl ?_
      exact ih _ _ _ h k0
set_option maxRecDepth 100000 in
set_option maxHeartbeats 4000000 in
theorem cMM_piece {l : Launch} {G : GG} (hG : GOK G) {c_MM_pieces : (Nat → Int32)} {c_MM_stored : Int32} {c_MM_storedOrder : (Nat → Int32)} {z1 : Z1} {z211 : Z211} {z212111 : Z212111} {z21212 : Z21212} {z212211 : Z212211} {z2122212 : Int32} {z212222 : (Nat → Int32)} {z22 : Z22} (a1 : Int32) (R : Int32) (h : fMM_piece a1 c_MM_pieces c_MM_stored c_MM_storedOrder = some R) : Met l yMM_piece (.code yMM_piece prog_12_method_39_code 4 (some .int) :: gw) (rmm 2) (PcW G [.ref (ad G 40), .int a1] (z1, ((z211, (((z212111, c_MM_pieces), z21212), ((z212211, c_MM_stored), ((c_MM_storedOrder, z2122212), z212222)))), z22))) (Qw G (some (.int R)) (z1, ((z211, (((z212111, c_MM_pieces), z21212), ((z212211, c_MM_stored), ((c_MM_storedOrder, z2122212), z212222)))), z22))) 0 0 (Aw G) := by
  refine met_of (by decide) 2 G hG _ _ (Nat.le_of_ble_eq_true rfl) _ _ (fun X _ C => ?_)
  have C : Cx G X RcMM prog_12_method_39_code 4 2 (some .int) := C
  unfold fMM_piece at h
  show At G X 4 _ 0 [(0, .ref (ad G 40)), (1, .int a1)] [] (z1, ((z211, (((z212111, c_MM_pieces), z21212), ((z212211, c_MM_stored), ((c_MM_storedOrder, z2122212), z212222)))), z22))
  refine at_iload_n (j := 1) C dMM_piece_0 rfl rfl ?_
  refine at_iconst C dMM_piece_1 ci_0 ?_
  refine at_aload_n (j := 0) C dMM_piece_2 rfl rfl ?_
  refine gfMM_stored (x := c_MM_stored) C rfl dMM_piece_3 ?_
  refine at_iconst C dMM_piece_6 ci_1 ?_
  refine at_isub C dMM_piece_7 ?_
  refine at_callSi C kMM_109 (cMM_isIn C.2.2.2.2.2.2.1 _ _ _ _ rfl) (by omega) rfl rfl (Nat.le_of_ble_eq_true rfl) dMM_piece_8 ?_
  refine at_if_ne C dMM_piece_11 rfl (fun hc => ?_) (fun hc => ?_)
  · replace h := ifn hc h
    refine at_iload_n (j := 1) C dMM_piece_16 rfl rfl ?_
    refine at_istore_n (L' := [(2, .int a1), (0, .ref (ad G 40)), (1, .int a1)]) C dMM_piece_17 rfl (by decide) rfl ?_
    refine at_iconst C dMM_piece_18 ci_0 ?_
    refine at_istore_n (L' := [(3, .int (0 : Int32)), (2, .int a1), (0, .ref (ad G 40)), (1, .int a1)]) C dMM_piece_19 rfl (by decide) rfl ?_
    obtain ⟨e5, he5, h⟩ := ob_some h
    refine at_loc (L' := [(0, .ref (ad G 40)), (2, .int a1), (3, .int (0 : Int32))]) [2, 1, 0] rfl ?_
    refine wMM_piece_l20 C FU _ _ _ he5 ?_
    refine at_aload_n (j := 0) C dMM_piece_55 rfl rfl ?_
    refine gfMM_storedOrder C dMM_piece_56 ?_
    refine at_iload_n (j := 1) C dMM_piece_59 rfl rfl ?_
    obtain ⟨hg6, h⟩ := gd_some h
    refine ldMM_storedOrder (f := c_MM_storedOrder) C rfl hg6 dMM_piece_60 ?_
    cases h
    exact at_iret C dMM_piece_61
  · replace h := ifp hc h
    refine at_iconst C dMM_piece_14 ci_m1 ?_
    cases h
    exact at_iret C dMM_piece_15
