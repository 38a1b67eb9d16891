set_option maxRecDepth 100000 in
set_option maxHeartbeats 4000000 in
theorem wMM_copy_l54 {G : GG} {X : CX} {c_MM_readAt : (Nat → Int32)} {c_MM_reads : Int32} {c_MM_tape : (Nat → Int32)} {c_MM_taped : Int32} {c_MM_fault : Int32} {c_MM_faultPlace : Int32} {c_MM_at : Int32} {c_MM_place : Int32} {c_MM_token : Int32} {c_MM_number : Int32} {c_MM_lines : Int32} {c_MM_towns : Int32} {c_MM_goods : Int32} {z1 : Z1} {z21111 : Z21111} {z2111211 : Int32} {z2112112 : (Nat → Int32)} {z211212 : (Nat → Int32)} {z21122 : Z21122} {z2121 : Z2121} {z21221 : Z21221} {z212221 : Z212221} {z2212212 : Int32} {z221222 : (Nat → Int32)} {z222 : Z222} (C : Cx G X RcMM prog_12_method_22_code 3 7 (some .int)) {Q : State → Prop}  (a1 : Int32) : ∀ (n : Nat) (a2 : Int32) (c_MM_told : (Nat → Int32)) (E : (Nat → Int32)) (h : fMM_copy_l54 a1 n a2 c_MM_told = some E) (k0 : At G X 3 Q 87 [(0, .ref (ad G 40)), (1, .int a1)] [] (z1, ((((z21111, ((z2111211, E), c_MM_readAt)), (((c_MM_reads, z2112112), z211212), z21122)), (z2121, (z21221, (z212221, c_MM_tape)))), (((((c_MM_taped, c_MM_fault), c_MM_faultPlace), ((c_MM_at, c_MM_place), c_MM_token)), (((c_MM_number, c_MM_lines), c_MM_towns), ((c_MM_goods, z2212212), z221222))), z222)))), At G X 3 Q 54 [(0, .ref (ad G 40)), (1, .int a1), (2, .int a2)] [] (z1, ((((z21111, ((z2111211, c_MM_told), c_MM_readAt)), (((c_MM_reads, z2112112), z211212), z21122)), (z2121, (z21221, (z212221, c_MM_tape)))), (((((c_MM_taped, c_MM_fault), c_MM_faultPlace), ((c_MM_at, c_MM_place), c_MM_token)), (((c_MM_number, c_MM_lines), c_MM_towns), ((c_MM_goods, z2212212), z221222))), z222))) := by
  intro n
  induction n with
  | zero =>
    intro a2 c_MM_told E h k0
    rw [fMM_copy_l54.eq_1] at h
    cases h
  | succ n ih =>
    intro a2 c_MM_told E h k0
    rw [fMM_copy_l54.eq_2] at h
    refine at_iload_n (j := 2) C dMM_copy_54 rfl rfl ?_
    refine at_bipush C dMM_copy_55 cb_96 ?_
    refine at_icmp_ge C dMM_copy_57 rfl (fun hc => ?_) (fun hc => ?_)
    · replace h := ifp hc h
      cases h
      refine at_loc (L' := [(0, .ref (ad G 40)), (1, .int a1)]) [0, 1] rfl ?_
      exact k0
    · replace h := ifn hc h
      refine at_aload_n (j := 0) C dMM_copy_60 rfl rfl ?_
      refine gfMM_told C dMM_copy_61 ?_
      refine at_bipush C dMM_copy_64 cb_96 ?_
      refine at_iload_n (j := 1) C dMM_copy_66 rfl rfl ?_
      refine at_imul C dMM_copy_67 ?_
      refine at_iload_n (j := 2) C dMM_copy_68 rfl rfl ?_
      refine at_iadd C dMM_copy_69 ?_
      refine at_aload_n (j := 0) C dMM_copy_70 rfl rfl ?_
      refine gfMM_told C dMM_copy_71 ?_
      refine at_sipush C dMM_copy_74 cs_480 ?_
      refine at_iload_n (j := 2) C dMM_copy_77 rfl rfl ?_
      refine at_iadd C dMM_copy_78 ?_
      obtain ⟨hg2, h⟩ := gd_some h
      refine ldMM_told (f := c_MM_told) C rfl hg2 dMM_copy_79 ?_
      obtain ⟨hg3, h⟩ := gd_some h
      refine svMM_told C hg3 dMM_copy_80 ?_
      refine at_st (S1 := (z1, ((((z21111, ((z2111211, (upd c_MM_told ((((96 : Int32) * a1) + a2)).toNatClampNeg (c_MM_told (((480 : Int32) + a2)).toNatClampNeg))), c_MM_readAt)), (((c_MM_reads, z2112112), z211212), z21122)), (z2121, (z21221, (z212221, c_MM_tape)))), (((((c_MM_taped, c_MM_fault), c_MM_faultPlace), ((c_MM_at, c_MM_place), c_MM_token)), (((c_MM_number, c_MM_lines), c_MM_towns), ((c_MM_goods, z2212212), z221222))), z222)))) rfl ?_
      refine at_iinc (j := 2) (L' := [(2, .int (a2 + (1 : Int32))), (0, .ref (ad G 40)), (1, .int a1)]) C dMM_copy_81 rfl ci_1 (by decide) rfl ?_
      refine at_goto C dMM_copy_84 rfl ?_
      refine at_loc (L' := [(0, .ref (ad G 40)), (1, .int a1), (2, .int (a2 + (1 : Int32)))]) [1, 2, 0] rfl ?_
      exact ih _ _ _ h k0
set_option maxRecDepth 100000 in
set_option maxHeartbeats 4000000 in
theorem cMM_copy {l : Launch} {G : GG} (hG : GOK G) {c_MM_told : (Nat → Int32)} {c_MM_readAt : (Nat → Int32)} {c_MM_reads : Int32} {c_MM_tape : (Nat → Int32)} {c_MM_taped : Int32} {c_MM_fault : Int32} {c_MM_faultPlace : Int32} {c_MM_at : Int32} {c_MM_place : Int32} {c_MM_token : Int32} {c_MM_number : Int32} {c_MM_lines : Int32} {c_MM_towns : Int32} {c_MM_goods : Int32} {z1 : Z1} {z21111 : Z21111} {z2111211 : Int32} {z2112112 : (Nat → Int32)} {z211212 : (Nat → Int32)} {z21122 : Z21122} {z2121 : Z2121} {z21221 : Z21221} {z212221 : Z212221} {z2212212 : Int32} {z221222 : (Nat → Int32)} {z222 : Z222} (a1 : Int32) (R : (Int32 × (Nat → Int32) × (Nat → Int32) × Int32 × Int32 × Int32 × Int32 × Int32 × Int32 × Int32 × Int32 × Int32 × Int32 × Int32)) (h : fMM_copy a1 c_MM_told c_MM_readAt c_MM_reads c_MM_tape c_MM_taped c_MM_fault c_MM_faultPlace c_MM_at c_MM_place c_MM_token c_MM_number c_MM_lines c_MM_towns c_MM_goods = some R) : Met l yMM_copy (.code yMM_copy prog_12_method_22_code 3 (some .int) :: gw) (rmm 7) (PcW G [.ref (ad G 40), .int a1] (z1, ((((z21111, ((z2111211, c_MM_told), c_MM_readAt)), (((c_MM_reads, z2112112), z211212), z21122)), (z2121, (z21221, (z212221, c_MM_tape)))), (((((c_MM_taped, c_MM_fault), c_MM_faultPlace), ((c_MM_at, c_MM_place), c_MM_token)), (((c_MM_number, c_MM_lines), c_MM_towns), ((c_MM_goods, z2212212), z221222))), z222)))) (Qw G (some (.int R.1)) (z1, ((((z21111, ((z2111211, R.2.1), R.2.2.1)), (((R.2.2.2.1, z2112112), z211212), z21122)), (z2121, (z21221, (z212221, c_MM_tape)))), (((((R.2.2.2.2.1, R.2.2.2.2.2.1), R.2.2.2.2.2.2.1), ((R.2.2.2.2.2.2.2.1, R.2.2.2.2.2.2.2.2.1), R.2.2.2.2.2.2.2.2.2.1)), (((R.2.2.2.2.2.2.2.2.2.2.1, R.2.2.2.2.2.2.2.2.2.2.2.1), R.2.2.2.2.2.2.2.2.2.2.2.2.1), ((R.2.2.2.2.2.2.2.2.2.2.2.2.2, z2212212), z221222))), z222)))) 0 0 (Aw G) := by
  refine met_of (by decide) 7 G hG _ _ (Nat.le_of_ble_eq_true rfl) _ _ (fun X _ C => ?_)
  have C : Cx G X RcMM prog_12_method_22_code 3 7 (some .int) := C
  unfold fMM_copy at h
  show At G X 3 _ 0 [(0, .ref (ad G 40)), (1, .int a1)] [] (z1, ((((z21111, ((z2111211, c_MM_told), c_MM_readAt)), (((c_MM_reads, z2112112), z211212), z21122)), (z2121, (z21221, (z212221, c_MM_tape)))), (((((c_MM_taped, c_MM_fault), c_MM_faultPlace), ((c_MM_at, c_MM_place), c_MM_token)), (((c_MM_number, c_MM_lines), c_MM_towns), ((c_MM_goods, z2212212), z221222))), z222)))
  refine at_iload_n (j := 1) C dMM_copy_0 rfl rfl ?_
  refine at_iconst C dMM_copy_1 ci_0 ?_
  refine at_iconst C dMM_copy_2 ci_4 ?_
  refine at_callSi C kMM_109 (cMM_isIn C.2.2.2.2.2.2.1 _ _ _ _ rfl) (by omega) rfl rfl (Nat.le_of_ble_eq_true rfl) dMM_copy_3 ?_
  refine at_if_ne C dMM_copy_6 rfl (fun hc => ?_) (fun hc => ?_)
  · replace h := ifn hc h
    refine at_aload_n (j := 0) C dMM_copy_11 rfl rfl ?_
    refine at_aload_n (j := 0) C dMM_copy_12 rfl rfl ?_
    obtain ⟨e1, he1, h⟩ := ob_some h
    refine at_callVi C kMM_179 (cMM_read C.2.2.2.2.2.2.1 _ he1) (by omega) rfl rfl rfl rfl (Nat.le_of_ble_eq_true rfl) dMM_copy_13 ?_
    refine pfMM_fault C dMM_copy_16 ?_
    refine at_st (S1 := (z1, ((((z21111, ((z2111211, e1.2.1), c_MM_readAt)), (((c_MM_reads, z2112112), z211212), z21122)), (z2121, (z21221, (z212221, c_MM_tape)))), (((((c_MM_taped, e1.1), c_MM_faultPlace), ((e1.2.2.1, e1.2.2.2.1), e1.2.2.2.2.1)), (((e1.2.2.2.2.2.1, e1.2.2.2.2.2.2.1), e1.2.2.2.2.2.2.2.1), ((e1.2.2.2.2.2.2.2.2, z2212212), z221222))), z222)))) rfl ?_
    refine at_aload_n (j := 0) C dMM_copy_19 rfl rfl ?_
    refine at_aload_n (j := 0) C dMM_copy_20 rfl rfl ?_
    refine gfMM_fault (x := e1.1) C rfl dMM_copy_21 ?_
    refine at_if_ne C dMM_copy_24 rfl (fun hc => ?_) (fun hc => ?_)
    · replace h := ifn hc h
      refine at_aload_n (j := 0) C dMM_copy_31 rfl rfl ?_
      refine gfMM_place (x := e1.2.2.2.1) C rfl dMM_copy_32 ?_
      refine pfMM_faultPlace C dMM_copy_35 ?_
      refine at_st (S1 := (z1, ((((z21111, ((z2111211, e1.2.1), c_MM_readAt)), (((c_MM_reads, z2112112), z211212), z21122)), (z2121, (z21221, (z212221, c_MM_tape)))), (((((c_MM_taped, e1.1), e1.2.2.2.1), ((e1.2.2.1, e1.2.2.2.1), e1.2.2.2.2.1)), (((e1.2.2.2.2.2.1, e1.2.2.2.2.2.2.1), e1.2.2.2.2.2.2.2.1), ((e1.2.2.2.2.2.2.2.2, z2212212), z221222))), z222)))) rfl ?_
      refine at_aload_n (j := 0) C dMM_copy_38 rfl rfl ?_
      refine at_iconst C dMM_copy_39 ci_0 ?_
      refine pfMM_taped C dMM_copy_40 ?_
      refine at_st (S1 := (z1, ((((z21111, ((z2111211, e1.2.1), c_MM_readAt)), (((c_MM_reads, z2112112), z211212), z21122)), (z2121, (z21221, (z212221, c_MM_tape)))), ((((((0 : Int32), e1.1), e1.2.2.2.1), ((e1.2.2.1, e1.2.2.2.1), e1.2.2.2.2.1)), (((e1.2.2.2.2.2.1, e1.2.2.2.2.2.2.1), e1.2.2.2.2.2.2.2.1), ((e1.2.2.2.2.2.2.2.2, z2212212), z221222))), z222)))) rfl ?_
      refine at_aload_n (j := 0) C dMM_copy_43 rfl rfl ?_
      refine gfMM_fault (x := e1.1) C rfl dMM_copy_44 ?_
      refine at_if_eq C dMM_copy_47 rfl (fun hc => ?_) (fun hc => ?_)
      · replace h := ifp hc h
        refine at_iconst C dMM_copy_52 ci_0 ?_
        refine at_istore_n (L' := [(2, .int (0 : Int32)), (0, .ref (ad G 40)), (1, .int a1)]) C dMM_copy_53 rfl (by decide) rfl ?_
        obtain ⟨e4, he4, h⟩ := ob_some h
        refine at_loc (L' := [(0, .ref (ad G 40)), (1, .int a1), (2, .int (0 : Int32))]) [1, 2, 0] rfl ?_
        refine wMM_copy_l54 C _ FU _ _ _ he4 ?_
        refine at_aload_n (j := 0) C dMM_copy_87 rfl rfl ?_
        refine at_dup C dMM_copy_88 rfl ?_
        refine gfMM_reads (x := c_MM_reads) C rfl dMM_copy_89 ?_
        refine at_iconst C dMM_copy_92 ci_1 ?_
        refine at_iadd C dMM_copy_93 ?_
        refine pfMM_reads C dMM_copy_94 ?_
        refine at_st (S1 := (z1, ((((z21111, ((z2111211, e4), c_MM_readAt)), ((((c_MM_reads + (1 : Int32)), z2112112), z211212), z21122)), (z2121, (z21221, (z212221, c_MM_tape)))), ((((((0 : Int32), e1.1), e1.2.2.2.1), ((e1.2.2.1, e1.2.2.2.1), e1.2.2.2.2.1)), (((e1.2.2.2.2.2.1, e1.2.2.2.2.2.2.1), e1.2.2.2.2.2.2.2.1), ((e1.2.2.2.2.2.2.2.2, z2212212), z221222))), z222)))) rfl ?_
        refine at_aload_n (j := 0) C dMM_copy_97 rfl rfl ?_
        refine gfMM_readAt C dMM_copy_98 ?_
        refine at_iload_n (j := 1) C dMM_copy_101 rfl rfl ?_
        refine at_aload_n (j := 0) C dMM_copy_102 rfl rfl ?_
        refine gfMM_reads (x := (c_MM_reads + (1 : Int32))) C rfl dMM_copy_103 ?_
        obtain ⟨hg5, h⟩ := gd_some h
        refine svMM_readAt C hg5 dMM_copy_106 ?_
        refine at_st (S1 := (z1, ((((z21111, ((z2111211, e4), (upd c_MM_readAt (a1).toNatClampNeg (c_MM_reads + (1 : Int32))))), ((((c_MM_reads + (1 : Int32)), z2112112), z211212), z21122)), (z2121, (z21221, (z212221, c_MM_tape)))), ((((((0 : Int32), e1.1), e1.2.2.2.1), ((e1.2.2.1, e1.2.2.2.1), e1.2.2.2.2.1)), (((e1.2.2.2.2.2.1, e1.2.2.2.2.2.2.1), e1.2.2.2.2.2.2.2.1), ((e1.2.2.2.2.2.2.2.2, z2212212), z221222))), z222)))) rfl ?_
        refine at_aload_n (j := 0) C dMM_copy_107 rfl rfl ?_
        refine gfMM_lines (x := e1.2.2.2.2.2.2.1) C rfl dMM_copy_108 ?_
        cases h
        exact at_iret C dMM_copy_111
      · replace h := ifn hc h
        refine at_iconst C dMM_copy_50 ci_m1 ?_
        cases h
        exact at_iret C dMM_copy_51
    · replace h := ifp hc h
      refine at_iconst C dMM_copy_27 ci_m1 ?_
      refine at_goto C dMM_copy_28 rfl ?_
      refine pfMM_faultPlace C dMM_copy_35 ?_
      refine at_st (S1 := (z1, ((((z21111, ((z2111211, e1.2.1), c_MM_readAt)), (((c_MM_reads, z2112112), z211212), z21122)), (z2121, (z21221, (z212221, c_MM_tape)))), (((((c_MM_taped, e1.1), (-1 : Int32)), ((e1.2.2.1, e1.2.2.2.1), e1.2.2.2.2.1)), (((e1.2.2.2.2.2.1, e1.2.2.2.2.2.2.1), e1.2.2.2.2.2.2.2.1), ((e1.2.2.2.2.2.2.2.2, z2212212), z221222))), z222)))) rfl ?_
      refine at_aload_n (j := 0) C dMM_copy_38 rfl rfl ?_
      refine at_iconst C dMM_copy_39 ci_0 ?_
      refine pfMM_taped C dMM_copy_40 ?_
      refine at_st (S1 := (z1, ((((z21111, ((z2111211, e1.2.1), c_MM_readAt)), (((c_MM_reads, z2112112), z211212), z21122)), (z2121, (z21221, (z212221, c_MM_tape)))), ((((((0 : Int32), e1.1), (-1 : Int32)), ((e1.2.2.1, e1.2.2.2.1), e1.2.2.2.2.1)), (((e1.2.2.2.2.2.1, e1.2.2.2.2.2.2.1), e1.2.2.2.2.2.2.2.1), ((e1.2.2.2.2.2.2.2.2, z2212212), z221222))), z222)))) rfl ?_
      refine at_aload_n (j := 0) C dMM_copy_43 rfl rfl ?_
      refine gfMM_fault (x := e1.1) C rfl dMM_copy_44 ?_
      refine at_if_eq C dMM_copy_47 rfl (fun hc => ?_) (fun hc => ?_)
      · replace h := ifp hc h
        refine at_iconst C dMM_copy_52 ci_0 ?_
        refine at_istore_n (L' := [(2, .int (0 : Int32)), (0, .ref (ad G 40)), (1, .int a1)]) C dMM_copy_53 rfl (by decide) rfl ?_
        obtain ⟨e6, he6, h⟩ := ob_some h
        refine at_loc (L' := [(0, .ref (ad G 40)), (1, .int a1), (2, .int (0 : Int32))]) [1, 2, 0] rfl ?_
        refine wMM_copy_l54 C _ FU _ _ _ he6 ?_
        refine at_aload_n (j := 0) C dMM_copy_87 rfl rfl ?_
        refine at_dup C dMM_copy_88 rfl ?_
        refine gfMM_reads (x := c_MM_reads) C rfl dMM_copy_89 ?_
        refine at_iconst C dMM_copy_92 ci_1 ?_
        refine at_iadd C dMM_copy_93 ?_
        refine pfMM_reads C dMM_copy_94 ?_
        refine at_st (S1 := (z1, ((((z21111, ((z2111211, e6), c_MM_readAt)), ((((c_MM_reads + (1 : Int32)), z2112112), z211212), z21122)), (z2121, (z21221, (z212221, c_MM_tape)))), ((((((0 : Int32), e1.1), (-1 : Int32)), ((e1.2.2.1, e1.2.2.2.1), e1.2.2.2.2.1)), (((e1.2.2.2.2.2.1, e1.2.2.2.2.2.2.1), e1.2.2.2.2.2.2.2.1), ((e1.2.2.2.2.2.2.2.2, z2212212), z221222))), z222)))) rfl ?_
        refine at_aload_n (j := 0) C dMM_copy_97 rfl rfl ?_
        refine gfMM_readAt C dMM_copy_98 ?_
        refine at_iload_n (j := 1) C dMM_copy_101 rfl rfl ?_
        refine at_aload_n (j := 0) C dMM_copy_102 rfl rfl ?_
        refine gfMM_reads (x := (c_MM_reads + (1 : Int32))) C rfl dMM_copy_103 ?_
        obtain ⟨hg7, h⟩ := gd_some h
        refine svMM_readAt C hg7 dMM_copy_106 ?_
        refine at_st (S1 := (z1, ((((z21111, ((z2111211, e6), (upd c_MM_readAt (a1).toNatClampNeg (c_MM_reads + (1 : Int32))))), ((((c_MM_reads + (1 : Int32)), z2112112), z211212), z21122)), (z2121, (z21221, (z212221, c_MM_tape)))), ((((((0 : Int32), e1.1), (-1 : Int32)), ((e1.2.2.1, e1.2.2.2.1), e1.2.2.2.2.1)), (((e1.2.2.2.2.2.1, e1.2.2.2.2.2.2.1), e1.2.2.2.2.2.2.2.1), ((e1.2.2.2.2.2.2.2.2, z2212212), z221222))), z222)))) rfl ?_
        refine at_aload_n (j := 0) C dMM_copy_107 rfl rfl ?_
        refine gfMM_lines (x := e1.2.2.2.2.2.2.1) C rfl dMM_copy_108 ?_
        cases h
        exact at_iret C dMM_copy_111
      · replace h := ifn hc h
        refine at_iconst C dMM_copy_50 ci_m1 ?_
        cases h
        exact at_iret C dMM_copy_51
  · replace h := ifp hc h
    refine at_iconst C dMM_copy_9 ci_m1 ?_
    cases h
    exact at_iret C dMM_copy_10
set_option maxRecDepth 100000 in
set_option maxHeartbeats 4000000 in
theorem cMM_fault {l : Launch} {G : GG} (hG : GOK G) {c_MM_fault : Int32} {c_MM_faultPlace : Int32} {z1 : Z1} {z21 : Z21} {z2211111 : Int32} {z22112 : Z22112} {z2212 : Z2212} {z222 : Z222} (a1 : Int32) (R : Int32) (h : fMM_fault a1 c_MM_fault c_MM_faultPlace = R) : Met l yMM_fault (.code yMM_fault prog_12_method_23_code 2 (some .int) :: gw) (rmm 1) (PcW G [.ref (ad G 40), .int a1] (z1, (z21, (((((z2211111, c_MM_fault), c_MM_faultPlace), z22112), z2212), z222)))) (Qw G (some (.int R)) (z1, (z21, (((((z2211111, c_MM_fault), c_MM_faultPlace), z22112), z2212), z222)))) 0 0 (Aw G) := by
  refine met_of (by decide) 1 G hG _ _ (Nat.le_of_ble_eq_true rfl) _ _ (fun X _ C => ?_)
  have C : Cx G X RcMM prog_12_method_23_code 2 1 (some .int) := C
  unfold fMM_fault at h
  show At G X 2 _ 0 [(0, .ref (ad G 40)), (1, .int a1)] [] (z1, (z21, (((((z2211111, c_MM_fault), c_MM_faultPlace), z22112), z2212), z222)))
  refine at_iload_n (j := 1) C dMM_fault_0 rfl rfl ?_
  refine at_if_ne C dMM_fault_1 rfl (fun hc => ?_) (fun hc => ?_)
  · replace h := ifn hc h
    refine at_iload_n (j := 1) C dMM_fault_11 rfl rfl ?_
    refine at_iconst C dMM_fault_12 ci_1 ?_
    refine at_icmp_ne C dMM_fault_13 rfl (fun hc => ?_) (fun hc => ?_)
    · replace h := ifn hc h
      refine at_iconst C dMM_fault_23 ci_m1 ?_
      subst h
      exact at_iret C dMM_fault_24
    · replace h := ifp hc h
      refine at_aload_n (j := 0) C dMM_fault_16 rfl rfl ?_
      refine gfMM_faultPlace (x := c_MM_faultPlace) C rfl dMM_fault_17 ?_
      refine at_goto C dMM_fault_20 rfl ?_
      subst h
      exact at_iret C dMM_fault_24
  · replace h := ifp hc h
    refine at_aload_n (j := 0) C dMM_fault_4 rfl rfl ?_
    refine gfMM_fault (x := c_MM_fault) C rfl dMM_fault_5 ?_
    refine at_goto C dMM_fault_8 rfl ?_
    subst h
    exact at_iret C dMM_fault_24
set_option maxRecDepth 100000 in
set_option maxHeartbeats 4000000 in
theorem cMM_tellsOf {l : Launch} {G : GG} (hG : GOK G) {c_MM_told : (Nat → Int32)} {z1 : Z1} {z21111 : Z21111} {z2111211 : Int32} {z211122 : (Nat → Int32)} {z2112 : Z2112} {z212 : Z212} {z22 : Z22} (a1 : Int32) (a2 : Int32) (a3 : Int32) (R : Int32) (h : fMM_tellsOf a1 a2 a3 c_MM_told = some R) : Met l yMM_tellsOf (.code yMM_tellsOf prog_12_method_24_code 4 (some .int) :: gw) (rmm 1) (PcW G [.ref (ad G 40), .int a1, .int a2, .int a3] (z1, ((((z21111, ((z2111211, c_MM_told), z211122)), z2112), z212), z22))) (Qw G (some (.int R)) (z1, ((((z21111, ((z2111211, c_MM_told), z211122)), z2112), z212), z22))) 0 0 (Aw G) := by
  refine met_of (by decide) 1 G hG _ _ (Nat.le_of_ble_eq_true rfl) _ _ (fun X _ C => ?_)
  have C : Cx G X RcMM prog_12_method_24_code 4 1 (some .int) := C
  unfold fMM_tellsOf at h
  show At G X 4 _ 0 [(0, .ref (ad G 40)), (1, .int a1), (2, .int a2), (3, .int a3)] [] (z1, ((((z21111, ((z2111211, c_MM_told), z211122)), z2112), z212), z22))
  refine at_aload_n (j := 0) C dMM_tellsOf_0 rfl rfl ?_
  refine gfMM_told C dMM_tellsOf_1 ?_
  refine at_bipush C dMM_tellsOf_4 cb_96 ?_
  refine at_iload_n (j := 1) C dMM_tellsOf_6 rfl rfl ?_
  refine at_imul C dMM_tellsOf_7 ?_
  refine at_bipush C dMM_tellsOf_8 cb_6 ?_
  refine at_iload_n (j := 2) C dMM_tellsOf_10 rfl rfl ?_
  refine at_imul C dMM_tellsOf_11 ?_
  refine at_iadd C dMM_tellsOf_12 ?_
  refine at_iload_n (j := 3) C dMM_tellsOf_13 rfl rfl ?_
  refine at_iadd C dMM_tellsOf_14 ?_
  obtain ⟨hg1, h⟩ := gd_some h
  refine ldMM_told (f := c_MM_told) C rfl hg1 dMM_tellsOf_15 ?_
  cases h
  exact at_iret C dMM_tellsOf_16
set_option maxRecDepth 100000 in
set_option maxHeartbeats 4000000 in
theorem cMM_tells {l : Launch} {G : GG} (hG : GOK G) {c_MM_told : (Nat → Int32)} {z1 : Z1} {z21111 : Z21111} {z2111211 : Int32} {z211122 : (Nat → Int32)} {z2112 : Z2112} {z212 : Z212} {z22 : Z22} (a1 : Int32) (a2 : Int32) (a3 : Int32) (R : Int32) (h : fMM_tells a1 a2 a3 c_MM_told = some R) : Met l yMM_tells (.code yMM_tells prog_12_method_25_code 4 (some .int) :: gw) (rmm 3) (PcW G [.ref (ad G 40), .int a1, .int a2, .int a3] (z1, ((((z21111, ((z2111211, c_MM_told), z211122)), z2112), z212), z22))) (Qw G (some (.int R)) (z1, ((((z21111, ((z2111211, c_MM_told), z211122)), z2112), z212), z22))) 0 0 (Aw G) := by
  refine met_of (by decide) 3 G hG _ _ (Nat.le_of_ble_eq_true rfl) _ _ (fun X _ C => ?_)
  have C : Cx G X RcMM prog_12_method_25_code 4 3 (some .int) := C
  unfold fMM_tells at h
  show At G X 4 _ 0 [(0, .ref (ad G 40)), (1, .int a1), (2, .int a2), (3, .int a3)] [] (z1, ((((z21111, ((z2111211, c_MM_told), z211122)), z2112), z212), z22))
  refine at_iload_n (j := 1) C dMM_tells_0 rfl rfl ?_
  refine at_iconst C dMM_tells_1 ci_0 ?_
  refine at_iconst C dMM_tells_2 ci_4 ?_
  refine at_callSi C kMM_109 (cMM_isIn C.2.2.2.2.2.2.1 _ _ _ _ rfl) (by omega) rfl rfl (Nat.le_of_ble_eq_true rfl) dMM_tells_3 ?_
  refine at_if_eq C dMM_tells_6 rfl (fun hc => ?_) (fun hc => ?_)
  · replace h := ifp hc h
    refine at_iconst C dMM_tells_33 ci_m1 ?_
    cases h
    exact at_iret C dMM_tells_34
  · replace h := ifn hc h
    refine at_iload_n (j := 2) C dMM_tells_9 rfl rfl ?_
    refine at_callSi C kMM_160 (cMM_isTown C.2.2.2.2.2.2.1 _ _ rfl) (by omega) rfl rfl (Nat.le_of_ble_eq_true rfl) dMM_tells_10 ?_
    refine at_if_eq C dMM_tells_13 rfl (fun hc => ?_) (fun hc => ?_)
    · replace h := ifp hc h
      refine at_iconst C dMM_tells_33 ci_m1 ?_
      cases h
      exact at_iret C dMM_tells_34
    · replace h := ifn hc h
      refine at_iload_n (j := 3) C dMM_tells_16 rfl rfl ?_
      refine at_callSi C kMM_122 (cMM_isGood C.2.2.2.2.2.2.1 _ _ rfl) (by omega) rfl rfl (Nat.le_of_ble_eq_true rfl) dMM_tells_17 ?_
      refine at_if_eq C dMM_tells_20 rfl (fun hc => ?_) (fun hc => ?_)
      · replace h := ifp hc h
        refine at_iconst C dMM_tells_33 ci_m1 ?_
        cases h
        exact at_iret C dMM_tells_34
      · replace h := ifn hc h
        refine at_aload_n (j := 0) C dMM_tells_23 rfl rfl ?_
        refine at_iload_n (j := 1) C dMM_tells_24 rfl rfl ?_
        refine at_iload_n (j := 2) C dMM_tells_25 rfl rfl ?_
        refine at_iload_n (j := 3) C dMM_tells_26 rfl rfl ?_
        obtain ⟨e1, he1, h⟩ := ob_some h
        refine at_callVi C kMM_185 (cMM_tellsOf C.2.2.2.2.2.2.1 _ _ _ _ he1) (by omega) rfl rfl rfl rfl (Nat.le_of_ble_eq_true rfl) dMM_tells_27 ?_
        refine at_goto C dMM_tells_30 rfl ?_
        cases h
        exact at_iret C dMM_tells_34
set_option maxRecDepth 100000 in
set_option maxHeartbeats 4000000 in
theorem wMM_votes_l6 {G : GG} {X : CX} {c_MM_told : (Nat → Int32)} {z1 : Z1} {z21111 : Z21111} {z2111211 : Int32} {z211122 : (Nat → Int32)} {z2112 : Z2112} {z212 : Z212} {z22 : Z22} (C : Cx G X RcMM prog_12_method_26_code 6 2 (some .int)) {Q : State → Prop}  (a1 : Int32) (a2 : Int32) (a3 : Int32) : ∀ (n : Nat) (a4 : Int32) (a5 : Int32) (E : Int32) (h : fMM_votes_l6 a1 a2 a3 c_MM_told n a4 a5 = some E) (k0 : At G X 6 Q 40 [(4, .int E)] [] (z1, ((((z21111, ((z2111211, c_MM_told), z211122)), z2112), z212), z22))), At G X 6 Q 6 [(0, .ref (ad G 40)), (1, .int a1), (2, .int a2), (3, .int a3), (4, .int a4), (5, .int a5)] [] (z1, ((((z21111, ((z2111211, c_MM_told), z211122)), z2112), z212), z22)) := by
  intro n
  induction n with
  | zero =>
    intro a4 a5 E h k0
    rw [fMM_votes_l6.eq_1] at h
    cases h
  | succ n ih =>
    intro a4 a5 E h k0
    rw [fMM_votes_l6.eq_2] at h
    refine at_iload (j := 5) C dMM_votes_6 rfl ?_
    refine at_iconst C dMM_votes_8 ci_5 ?_
    refine at_icmp_ge C dMM_votes_9 rfl (fun hc => ?_) (fun hc => ?_)
    · replace h := ifp hc h
      cases h
      refine at_loc (L' := [(4, .int a4)]) [4] rfl ?_
      exact k0
    · replace h := ifn hc h
      refine at_iload (j := 4) C dMM_votes_12 rfl ?_
      refine at_aload_n (j := 0) C dMM_votes_14 rfl rfl ?_
      refine at_iload (j := 5) C dMM_votes_15 rfl ?_
      refine at_iload_n (j := 2) C dMM_votes_17 rfl rfl ?_
      refine at_iload_n (j := 3) C dMM_votes_18 rfl rfl ?_
      obtain ⟨e1, he1, h⟩ := ob_some h
      refine at_callVi C kMM_185 (cMM_tellsOf C.2.2.2.2.2.2.1 _ _ _ _ he1) (by omega) rfl rfl rfl rfl (Nat.le_of_ble_eq_true rfl) dMM_votes_19 ?_
      refine at_iload_n (j := 1) C dMM_votes_22 rfl rfl ?_
      refine at_icmp_ne C dMM_votes_23 rfl (fun hc => ?_) (fun hc => ?_)
      · replace h := ifn hc h
        refine at_iconst C dMM_votes_30 ci_0 ?_
        refine at_iadd C dMM_votes_31 ?_
        refine at_istore (L' := [(4, .int (a4 + (0 : Int32))), (0, .ref (ad G 40)), (1, .int a1), (2, .int a2), (3, .int a3), (5, .int a5)]) C dMM_votes_32 (by decide) rfl ?_
        refine at_iinc (j := 5) (L' := [(5, .int (a5 + (1 : Int32))), (4, .int (a4 + (0 : Int32))), (0, .ref (ad G 40)), (1, .int a1), (2, .int a2), (3, .int a3)]) C dMM_votes_34 rfl ci_1 (by decide) rfl ?_
        refine at_goto C dMM_votes_37 rfl ?_
        refine at_loc (L' := [(0, .ref (ad G 40)), (1, .int a1), (2, .int a2), (3, .int a3), (4, .int (a4 + (0 : Int32))), (5, .int (a5 + (1 : Int32)))]) [2, 3, 4, 5, 1, 0] rfl ?_
        exact ih _ _ _ h k0
      · replace h := ifp hc h
        refine at_iconst C dMM_votes_26 ci_1 ?_
        refine at_goto C dMM_votes_27 rfl ?_
        refine at_iadd C dMM_votes_31 ?_
        refine at_istore (L' := [(4, .int (a4 + (1 : Int32))), (0, .ref (ad G 40)), (1, .int a1), (2, .int a2), (3, .int a3), (5, .int a5)]) C dMM_votes_32 (by decide) rfl ?_
        refine at_iinc (j := 5) (L' := [(5, .int (a5 + (1 : Int32))), (4, .int (a4 + (1 : Int32))), (0, .ref (ad G 40)), (1, .int a1), (2, .int a2), (3, .int a3)]) C dMM_votes_34 rfl ci_1 (by decide) rfl ?_
        refine at_goto C dMM_votes_37 rfl ?_
        refine at_loc (L' := [(0, .ref (ad G 40)), (1, .int a1), (2, .int a2), (3, .int a3), (4, .int (a4 + (1 : Int32))), (5, .int (a5 + (1 : Int32)))]) [2, 3, 4, 5, 1, 0] rfl ?_
        exact ih _ _ _ h k0
set_option maxRecDepth 100000 in
set_option maxHeartbeats 4000000 in
theorem cMM_votes {l : Launch} {G : GG} (hG : GOK G) {c_MM_told : (Nat → Int32)} {z1 : Z1} {z21111 : Z21111} {z2111211 : Int32} {z211122 : (Nat → Int32)} {z2112 : Z2112} {z212 : Z212} {z22 : Z22} (a1 : Int32) (a2 : Int32) (a3 : Int32) (R : Int32) (h : fMM_votes a1 a2 a3 c_MM_told = some R) : Met l yMM_votes (.code yMM_votes prog_12_method_26_code 6 (some .int) :: gw) (rmm 2) (PcW G [.ref (ad G 40), .int a1, .int a2, .int a3] (z1, ((((z21111, ((z2111211, c_MM_told), z211122)), z2112), z212), z22))) (Qw G (some (.int R)) (z1, ((((z21111, ((z2111211, c_MM_told), z211122)), z2112), z212), z22))) 0 0 (Aw G) := by
  refine met_of (by decide) 2 G hG _ _ (Nat.le_of_ble_eq_true rfl) _ _ (fun X _ C => ?_)
  have C : Cx G X RcMM prog_12_method_26_code 6 2 (some .int) := C
  unfold fMM_votes at h
  show At G X 6 _ 0 [(0, .ref (ad G 40)), (1, .int a1), (2, .int a2), (3, .int a3)] [] (z1, ((((z21111, ((z2111211, c_MM_told), z211122)), z2112), z212), z22))
  refine at_iconst C dMM_votes_0 ci_0 ?_
  refine at_istore (L' := [(4, .int (0 : Int32)), (0, .ref (ad G 40)), (1, .int a1), (2, .int a2), (3, .int a3)]) C dMM_votes_1 (by decide) rfl ?_
  refine at_iconst C dMM_votes_3 ci_0 ?_
  refine at_istore (L' := [(5, .int (0 : Int32)), (4, .int (0 : Int32)), (0, .ref (ad G 40)), (1, .int a1), (2, .int a2), (3, .int a3)]) C dMM_votes_4 (by decide) rfl ?_
  obtain ⟨e2, he2, h⟩ := ob_some h
  refine at_loc (L' := [(0, .ref (ad G 40)), (1, .int a1), (2, .int a2), (3, .int a3), (4, .int (0 : Int32)), (5, .int (0 : Int32))]) [2, 3, 4, 5, 1, 0] rfl ?_
  refine wMM_votes_l6 C _ _ _ FU _ _ _ he2 ?_
  refine at_iload (j := 0) C dMM_votes_40 rfl ?_
  cases h
  exact at_iret C dMM_votes_42
set_option maxRecDepth 100000 in
set_option maxHeartbeats 4000000 in
theorem wMM_owedOf_l5 {G : GG} {X : CX} {c_MM_told : (Nat → Int32)} {c_MM_readAt : (Nat → Int32)} {z1 : Z1} {z21111 : Z21111} {z2111211 : Int32} {z2112 : Z2112} {z212 : Z212} {z22 : Z22} (C : Cx G X RcMM prog_12_method_27_code 7 3 (some .int)) {Q : State → Prop}  (a1 : Int32) (a2 : Int32) : ∀ (n : Nat) (a3 : Int32) (a4 : Int32) (E : Int32) (h : fMM_owedOf_l5 a1 a2 c_MM_told c_MM_readAt n a3 a4 = some E) (k0 : At G X 7 Q 96 [(0, .ref (ad G 40)), (1, .int a1), (2, .int a2), (3, .int E)] [] (z1, ((((z21111, ((z2111211, c_MM_told), c_MM_readAt)), z2112), z212), z22))), At G X 7 Q 5 [(0, .ref (ad G 40)), (1, .int a1), (2, .int a2), (3, .int a3), (4, .int a4)] [] (z1, ((((z21111, ((z2111211, c_MM_told), c_MM_readAt)), z2112), z212), z22)) := by
  intro n
  induction n with
  | zero =>
    intro a3 a4 E h k0
    rw [fMM_owedOf_l5.eq_1] at h
    cases h
  | succ n ih =>
    intro a3 a4 E h k0
    rw [fMM_owedOf_l5.eq_2] at h
    refine at_iload (j := 4) C dMM_owedOf_5 rfl ?_
    refine at_iconst C dMM_owedOf_7 ci_5 ?_
    refine at_icmp_ge C dMM_owedOf_8 rfl (fun hc => ?_) (fun hc => ?_)
    · replace h := ifp hc h
      cases h
      refine at_loc (L' := [(0, .ref (ad G 40)), (1, .int a1), (2, .int a2), (3, .int a3)]) [0, 1, 2, 3] rfl ?_
      exact k0
    · replace h := ifn hc h
      refine at_aload_n (j := 0) C dMM_owedOf_11 rfl rfl ?_
      refine at_iload (j := 4) C dMM_owedOf_12 rfl ?_
      refine at_iload_n (j := 1) C dMM_owedOf_14 rfl rfl ?_
      refine at_iload_n (j := 2) C dMM_owedOf_15 rfl rfl ?_
      obtain ⟨e1, he1, h⟩ := ob_some h
      refine at_callVi C kMM_185 (cMM_tellsOf C.2.2.2.2.2.2.1 _ _ _ _ he1) (by omega) rfl rfl rfl rfl (Nat.le_of_ble_eq_true rfl) dMM_owedOf_16 ?_
      refine at_istore (L' := [(5, .int e1), (0, .ref (ad G 40)), (1, .int a1), (2, .int a2), (3, .int a3), (4, .int a4)]) C dMM_owedOf_19 (by decide) rfl ?_
      refine at_iload (j := 0) C dMM_owedOf_21 rfl ?_
      refine at_if_ge C dMM_owedOf_23 rfl (fun hc => ?_) (fun hc => ?_)
      · replace h := ifp hc h
        refine at_iload_n (j := 4) C dMM_owedOf_29 rfl rfl ?_
        refine at_if_ge C dMM_owedOf_30 rfl (fun hc => ?_) (fun hc => ?_)
        · replace h := ifp hc h
          refine at_aload_n (j := 1) C dMM_owedOf_37 rfl rfl ?_
          refine at_iload (j := 0) C dMM_owedOf_38 rfl ?_
          refine at_iload_n (j := 2) C dMM_owedOf_40 rfl rfl ?_
          refine at_iload_n (j := 3) C dMM_owedOf_41 rfl rfl ?_
          obtain ⟨e2, he2, h⟩ := ob_some h
          refine at_callVi C kMM_189 (cMM_votes C.2.2.2.2.2.2.1 _ _ _ _ he2) (by omega) rfl rfl rfl rfl (Nat.le_of_ble_eq_true rfl) dMM_owedOf_42 ?_
          refine at_aload_n (j := 1) C dMM_owedOf_45 rfl rfl ?_
          refine at_aload_n (j := 1) C dMM_owedOf_46 rfl rfl ?_
          refine at_iload_n (j := 4) C dMM_owedOf_47 rfl rfl ?_
          refine at_iload_n (j := 2) C dMM_owedOf_48 rfl rfl ?_
          refine at_iload_n (j := 3) C dMM_owedOf_49 rfl rfl ?_
          obtain ⟨e3, he3, h⟩ := ob_some h
          refine at_callVi C kMM_185 (cMM_tellsOf C.2.2.2.2.2.2.1 _ _ _ _ he3) (by omega) rfl rfl rfl rfl (Nat.le_of_ble_eq_true rfl) dMM_owedOf_50 ?_
          refine at_iload_n (j := 2) C dMM_owedOf_53 rfl rfl ?_
          refine at_iload_n (j := 3) C dMM_owedOf_54 rfl rfl ?_
          obtain ⟨e4, he4, h⟩ := ob_some h
          refine at_callVi C kMM_189 (cMM_votes C.2.2.2.2.2.2.1 _ _ _ _ he4) (by omega) rfl rfl rfl rfl (Nat.le_of_ble_eq_true rfl) dMM_owedOf_55 ?_
          refine at_isub C dMM_owedOf_58 ?_
          refine at_istore (L' := [(6, .int (e2 - e4)), (5, .int e1), (0, .ref (ad G 40)), (1, .int a1), (2, .int a2), (3, .int a3), (4, .int a4)]) C dMM_owedOf_59 (by decide) rfl ?_
          refine at_iload (j := 0) C dMM_owedOf_61 rfl ?_
          refine at_if_gt C dMM_owedOf_63 rfl (fun hc => ?_) (fun hc => ?_)
          · replace h := ifp hc h
            refine at_iload (j := 6) C dMM_owedOf_87 rfl ?_
            refine at_istore_n (L' := [(3, .int a4), (6, .int (e2 - e4)), (5, .int e1), (0, .ref (ad G 40)), (1, .int a1), (2, .int a2), (4, .int a4)]) C dMM_owedOf_89 rfl (by decide) rfl ?_
            refine at_iinc (j := 6) (L' := [(4, .int (a4 + (1 : Int32))), (3, .int a4), (6, .int (e2 - e4)), (5, .int e1), (0, .ref (ad G 40)), (1, .int a1), (2, .int a2)]) C dMM_owedOf_90 rfl ci_1 (by decide) rfl ?_
            refine at_goto C dMM_owedOf_93 rfl ?_
            refine at_loc (L' := [(0, .ref (ad G 40)), (1, .int a1), (2, .int a2), (3, .int a4), (4, .int (a4 + (1 : Int32)))]) [4, 5, 6, 1, 0] rfl ?_
            exact ih _ _ _ h k0
          · replace h := ifn hc h
            refine at_iload (j := 0) C dMM_owedOf_66 rfl ?_
            refine at_if_ne C dMM_owedOf_68 rfl (fun hc => ?_) (fun hc => ?_)
            · replace h := ifn hc h
              refine at_iinc (j := 6) (L' := [(4, .int (a4 + (1 : Int32))), (6, .int (e2 - e4)), (5, .int e1), (0, .ref (ad G 40)), (1, .int a1), (2, .int a2), (3, .int a3)]) C dMM_owedOf_90 rfl ci_1 (by decide) rfl ?_
              refine at_goto C dMM_owedOf_93 rfl ?_
              refine at_loc (L' := [(0, .ref (ad G 40)), (1, .int a1), (2, .int a2), (3, .int a3), (4, .int (a4 + (1 : Int32)))]) [3, 4, 5, 6, 0] rfl ?_
              exact ih _ _ _ h k0
            · replace h := ifp hc h
              refine at_aload_n (j := 2) C dMM_owedOf_71 rfl rfl ?_
              refine gfMM_readAt C dMM_owedOf_72 ?_
              refine at_iload (j := 6) C dMM_owedOf_75 rfl ?_
              obtain ⟨hg5, h⟩ := gd_some h
              refine ldMM_readAt (f := c_MM_readAt) C rfl hg5 dMM_owedOf_77 ?_
              refine at_aload_n (j := 2) C dMM_owedOf_78 rfl rfl ?_
              refine gfMM_readAt C dMM_owedOf_79 ?_
              refine at_iload_n (j := 5) C dMM_owedOf_82 rfl rfl ?_
              obtain ⟨hg6, h⟩ := gd_some h
              refine ldMM_readAt (f := c_MM_readAt) C rfl hg6 dMM_owedOf_83 ?_
              refine at_icmp_le C dMM_owedOf_84 rfl (fun hc => ?_) (fun hc => ?_)
              · replace h := ifp hc h
                refine at_iinc (j := 6) (L' := [(4, .int (a4 + (1 : Int32))), (6, .int (e2 - e4)), (5, .int e1), (0, .ref (ad G 40)), (1, .int a1), (2, .int a2), (3, .int a3)]) C dMM_owedOf_90 rfl ci_1 (by decide) rfl ?_
                refine at_goto C dMM_owedOf_93 rfl ?_
                refine at_loc (L' := [(0, .ref (ad G 40)), (1, .int a1), (2, .int a2), (3, .int a3), (4, .int (a4 + (1 : Int32)))]) [3, 4, 5, 6, 0] rfl ?_
                exact ih _ _ _ h k0
              · replace h := ifn hc h
                refine at_iload (j := 6) C dMM_owedOf_87 rfl ?_
                refine at_istore_n (L' := [(3, .int a4), (6, .int (e2 - e4)), (5, .int e1), (0, .ref (ad G 40)), (1, .int a1), (2, .int a2), (4, .int a4)]) C dMM_owedOf_89 rfl (by decide) rfl ?_
                refine at_iinc (j := 6) (L' := [(4, .int (a4 + (1 : Int32))), (3, .int a4), (6, .int (e2 - e4)), (5, .int e1), (0, .ref (ad G 40)), (1, .int a1), (2, .int a2)]) C dMM_owedOf_90 rfl ci_1 (by decide) rfl ?_
                refine at_goto C dMM_owedOf_93 rfl ?_
                refine at_loc (L' := [(0, .ref (ad G 40)), (1, .int a1), (2, .int a2), (3, .int a4), (4, .int (a4 + (1 : Int32)))]) [4, 5, 6, 1, 0] rfl ?_
                exact ih _ _ _ h k0
        · replace h := ifn hc h
          refine at_iconst C dMM_owedOf_33 ci_1 ?_
          refine at_goto C dMM_owedOf_34 rfl ?_
          refine at_istore (L' := [(6, .int (1 : Int32)), (5, .int e1), (0, .ref (ad G 40)), (1, .int a1), (2, .int a2), (3, .int a3), (4, .int a4)]) C dMM_owedOf_59 (by decide) rfl ?_
          refine at_iload (j := 0) C dMM_owedOf_61 rfl ?_
          refine at_if_gt C dMM_owedOf_63 rfl (fun hc => ?_) (fun hc => ?_)
          · replace h := ifp hc h
            refine at_iload (j := 6) C dMM_owedOf_87 rfl ?_
            refine at_istore_n (L' := [(3, .int a4), (6, .int (1 : Int32)), (5, .int e1), (0, .ref (ad G 40)), (1, .int a1), (2, .int a2), (4, .int a4)]) C dMM_owedOf_89 rfl (by decide) rfl ?_
            refine at_iinc (j := 6) (L' := [(4, .int (a4 + (1 : Int32))), (3, .int a4), (6, .int (1 : Int32)), (5, .int e1), (0, .ref (ad G 40)), (1, .int a1), (2, .int a2)]) C dMM_owedOf_90 rfl ci_1 (by decide) rfl ?_
            refine at_goto C dMM_owedOf_93 rfl ?_
            refine at_loc (L' := [(0, .ref (ad G 40)), (1, .int a1), (2, .int a2), (3, .int a4), (4, .int (a4 + (1 : Int32)))]) [4, 5, 6, 1, 0] rfl ?_
            exact ih _ _ _ h k0
          · replace h := ifn hc h
            refine at_iload (j := 0) C dMM_owedOf_66 rfl ?_
            refine at_if_ne C dMM_owedOf_68 rfl (fun hc => ?_) (fun hc => ?_)
            · replace h := ifn hc h
              refine at_iinc (j := 6) (L' := [(4, .int (a4 + (1 : Int32))), (6, .int (1 : Int32)), (5, .int e1), (0, .ref (ad G 40)), (1, .int a1), (2, .int a2), (3, .int a3)]) C dMM_owedOf_90 rfl ci_1 (by decide) rfl ?_
              refine at_goto C dMM_owedOf_93 rfl ?_
              refine at_loc (L' := [(0, .ref (ad G 40)), (1, .int a1), (2, .int a2), (3, .int a3), (4, .int (a4 + (1 : Int32)))]) [3, 4, 5, 6, 0] rfl ?_
              exact ih _ _ _ h k0
            · replace h := ifp hc h
              refine at_aload_n (j := 2) C dMM_owedOf_71 rfl rfl ?_
              refine gfMM_readAt C dMM_owedOf_72 ?_
              refine at_iload (j := 6) C dMM_owedOf_75 rfl ?_
              obtain ⟨hg7, h⟩ := gd_some h
              refine ldMM_readAt (f := c_MM_readAt) C rfl hg7 dMM_owedOf_77 ?_
              refine at_aload_n (j := 2) C dMM_owedOf_78 rfl rfl ?_
              refine gfMM_readAt C dMM_owedOf_79 ?_
              refine at_iload_n (j := 5) C dMM_owedOf_82 rfl rfl ?_
              obtain ⟨hg8, h⟩ := gd_some h
              refine ldMM_readAt (f := c_MM_readAt) C rfl hg8 dMM_owedOf_83 ?_
              refine at_icmp_le C dMM_owedOf_84 rfl (fun hc => ?_) (fun hc => ?_)
              · replace h := ifp hc h
                refine at_iinc (j := 6) (L' := [(4, .int (a4 + (1 : Int32))), (6, .int (1 : Int32)), (5, .int e1), (0, .ref (ad G 40)), (1, .int a1), (2, .int a2), (3, .int a3)]) C dMM_owedOf_90 rfl ci_1 (by decide) rfl ?_
                refine at_goto C dMM_owedOf_93 rfl ?_
                refine at_loc (L' := [(0, .ref (ad G 40)), (1, .int a1), (2, .int a2), (3, .int a3), (4, .int (a4 + (1 : Int32)))]) [3, 4, 5, 6, 0] rfl ?_
                exact ih _ _ _ h k0
              · replace h := ifn hc h
                refine at_iload (j := 6) C dMM_owedOf_87 rfl ?_
                refine at_istore_n (L' := [(3, .int a4), (6, .int (1 : Int32)), (5, .int e1), (0, .ref (ad G 40)), (1, .int a1), (2, .int a2), (4, .int a4)]) C dMM_owedOf_89 rfl (by decide) rfl ?_
                refine at_iinc (j := 6) (L' := [(4, .int (a4 + (1 : Int32))), (3, .int a4), (6, .int (1 : Int32)), (5, .int e1), (0, .ref (ad G 40)), (1, .int a1), (2, .int a2)]) C dMM_owedOf_90 rfl ci_1 (by decide) rfl ?_
                refine at_goto C dMM_owedOf_93 rfl ?_
                refine at_loc (L' := [(0, .ref (ad G 40)), (1, .int a1), (2, .int a2), (3, .int a4), (4, .int (a4 + (1 : Int32)))]) [4, 5, 6, 1, 0] rfl ?_
                exact ih _ _ _ h k0
      · replace h := ifn hc h
        refine at_goto C dMM_owedOf_26 rfl ?_
        refine at_iinc (j := 5) (L' := [(4, .int (a4 + (1 : Int32))), (5, .int e1), (0, .ref (ad G 40)), (1, .int a1), (2, .int a2), (3, .int a3)]) C dMM_owedOf_90 rfl ci_1 (by decide) rfl ?_
        refine at_goto C dMM_owedOf_93 rfl ?_
        refine at_loc (L' := [(0, .ref (ad G 40)), (1, .int a1), (2, .int a2), (3, .int a3), (4, .int (a4 + (1 : Int32)))]) [2, 3, 4, 5, 0] rfl ?_
        exact ih _ _ _ h k0
set_option maxRecDepth 100000 in
set_option maxHeartbeats 4000000 in
theorem cMM_owedOf {l : Launch} {G : GG} (hG : GOK G) {c_MM_told : (Nat → Int32)} {c_MM_readAt : (Nat → Int32)} {z1 : Z1} {z21111 : Z21111} {z2111211 : Int32} {z2112 : Z2112} {z212 : Z212} {z22 : Z22} (a1 : Int32) (a2 : Int32) (R : Int32) (h : fMM_owedOf a1 a2 c_MM_told c_MM_readAt = some R) : Met l yMM_owedOf (.code yMM_owedOf prog_12_method_27_code 7 (some .int) :: gw) (rmm 3) (PcW G [.ref (ad G 40), .int a1, .int a2] (z1, ((((z21111, ((z2111211, c_MM_told), c_MM_readAt)), z2112), z212), z22))) (Qw G (some (.int R)) (z1, ((((z21111, ((z2111211, c_MM_told), c_MM_readAt)), z2112), z212), z22))) 0 0 (Aw G) := by
  refine met_of (by decide) 3 G hG _ _ (Nat.le_of_ble_eq_true rfl) _ _ (fun X _ C => ?_)
  have C : Cx G X RcMM prog_12_method_27_code 7 3 (some .int) := C
  unfold fMM_owedOf at h
  show At G X 7 _ 0 [(0, .ref (ad G 40)), (1, .int a1), (2, .int a2)] [] (z1, ((((z21111, ((z2111211, c_MM_told), c_MM_readAt)), z2112), z212), z22))
  refine at_iconst C dMM_owedOf_0 ci_m1 ?_
  refine at_istore_n (L' := [(3, .int (-1 : Int32)), (0, .ref (ad G 40)), (1, .int a1), (2, .int a2)]) C dMM_owedOf_1 rfl (by decide) rfl ?_
  refine at_iconst C dMM_owedOf_2 ci_0 ?_
  refine at_istore (L' := [(4, .int (0 : Int32)), (3, .int (-1 : Int32)), (0, .ref (ad G 40)), (1, .int a1), (2, .int a2)]) C dMM_owedOf_3 (by decide) rfl ?_
  obtain ⟨e9, he9, h⟩ := ob_some h
  refine at_loc (L' := [(0, .ref (ad G 40)), (1, .int a1), (2, .int a2), (3, .int (-1 : Int32)), (4, .int (0 : Int32))]) [2, 3, 4, 1, 0] rfl ?_
  refine wMM_owedOf_l5 C _ _ FU _ _ _ he9 ?_
  refine at_iload_n (j := 3) C dMM_owedOf_96 rfl rfl ?_
  refine at_if_ge C dMM_owedOf_97 rfl (fun hc => ?_) (fun hc => ?_)
  · replace h := ifp hc h
    refine at_aload_n (j := 0) C dMM_owedOf_104 rfl rfl ?_
    refine at_iload_n (j := 3) C dMM_owedOf_105 rfl rfl ?_
    refine at_iload_n (j := 1) C dMM_owedOf_106 rfl rfl ?_
    refine at_iload_n (j := 2) C dMM_owedOf_107 rfl rfl ?_
    obtain ⟨e10, he10, h⟩ := ob_some h
    refine at_callVi C kMM_185 (cMM_tellsOf C.2.2.2.2.2.2.1 _ _ _ _ he10) (by omega) rfl rfl rfl rfl (Nat.le_of_ble_eq_true rfl) dMM_owedOf_108 ?_
    cases h
    exact at_iret C dMM_owedOf_111
  · replace h := ifn hc h
    refine at_iconst C dMM_owedOf_100 ci_0 ?_
    refine at_goto C dMM_owedOf_101 rfl ?_
    cases h
    exact at_iret C dMM_owedOf_111
set_option maxRecDepth 100000 in
set_option maxHeartbeats 4000000 in
theorem cMM_owed {l : Launch} {G : GG} (hG : GOK G) {c_MM_told : (Nat → Int32)} {c_MM_readAt : (Nat → Int32)} {z1 : Z1} {z21111 : Z21111} {z2111211 : Int32} {z2112 : Z2112} {z212 : Z212} {z22 : Z22} (a1 : Int32) (a2 : Int32) (R : Int32) (h : fMM_owed a1 a2 c_MM_told c_MM_readAt = some R) : Met l yMM_owed (.code yMM_owed prog_12_method_28_code 3 (some .int) :: gw) (rmm 4) (PcW G [.ref (ad G 40), .int a1, .int a2] (z1, ((((z21111, ((z2111211, c_MM_told), c_MM_readAt)), z2112), z212), z22))) (Qw G (some (.int R)) (z1, ((((z21111, ((z2111211, c_MM_told), c_MM_readAt)), z2112), z212), z22))) 0 0 (Aw G) := by
  refine met_of (by decide) 4 G hG _ _ (Nat.le_of_ble_eq_true rfl) _ _ (fun X _ C => ?_)
  have C : Cx G X RcMM prog_12_method_28_code 3 4 (some .int) := C
  unfold fMM_owed at h
  show At G X 3 _ 0 [(0, .ref (ad G 40)), (1, .int a1), (2, .int a2)] [] (z1, ((((z21111, ((z2111211, c_MM_told), c_MM_readAt)), z2112), z212), z22))
  refine at_iload_n (j := 1) C dMM_owed_0 rfl rfl ?_
  refine at_callSi C kMM_160 (cMM_isTown C.2.2.2.2.2.2.1 _ _ rfl) (by omega) rfl rfl (Nat.le_of_ble_eq_true rfl) dMM_owed_1 ?_
  refine at_if_eq C dMM_owed_4 rfl (fun hc => ?_) (fun hc => ?_)
  · replace h := ifp hc h
    refine at_iconst C dMM_owed_23 ci_m1 ?_
    cases h
    exact at_iret C dMM_owed_24
  · replace h := ifn hc h
    refine at_iload_n (j := 2) C dMM_owed_7 rfl rfl ?_
    refine at_callSi C kMM_122 (cMM_isGood C.2.2.2.2.2.2.1 _ _ rfl) (by omega) rfl rfl (Nat.le_of_ble_eq_true rfl) dMM_owed_8 ?_
    refine at_if_eq C dMM_owed_11 rfl (fun hc => ?_) (fun hc => ?_)
    · replace h := ifp hc h
      refine at_iconst C dMM_owed_23 ci_m1 ?_
      cases h
      exact at_iret C dMM_owed_24
    · replace h := ifn hc h
      refine at_aload_n (j := 0) C dMM_owed_14 rfl rfl ?_
      refine at_iload_n (j := 1) C dMM_owed_15 rfl rfl ?_
      refine at_iload_n (j := 2) C dMM_owed_16 rfl rfl ?_
      obtain ⟨e1, he1, h⟩ := ob_some h
      refine at_callVi C kMM_192 (cMM_owedOf C.2.2.2.2.2.2.1 _ _ _ he1) (by omega) rfl rfl rfl rfl (Nat.le_of_ble_eq_true rfl) dMM_owed_17 ?_
      refine at_goto C dMM_owed_20 rfl ?_
      cases h
      exact at_iret C dMM_owed_24
set_option maxRecDepth 100000 in
set_option maxHeartbeats 4000000 in
theorem wMM_isQuarrel_l5 {G : GG} {X : CX} {c_MM_told : (Nat → Int32)} {z1 : Z1} {z21111 : Z21111} {z2111211 : Int32} {z211122 : (Nat → Int32)} {z2112 : Z2112} {z212 : Z212} {z22 : Z22} (C : Cx G X RcMM prog_12_method_29_code 6 2 (some .boolean)) {Q : State → Prop}  (a1 : Int32) (a2 : Int32) : ∀ (n : Nat) (a3 : Int32) (a4 : Int32) (E : Unit ⊕ Unit) (h : fMM_isQuarrel_l5 a1 a2 c_MM_told n a3 a4 = some E) (k0 : ∀ e, E = (Sum.inl e) → At G X 6 Q 36 [] [] (z1, ((((z21111, ((z2111211, c_MM_told), z211122)), z2112), z212), z22))) (k1 : ∀ e, E = (Sum.inr e) → At G X 6 Q 52 [] [] (z1, ((((z21111, ((z2111211, c_MM_told), z211122)), z2112), z212), z22))), At G X 6 Q 5 [(0, .ref (ad G 40)), (1, .int a1), (2, .int a2), (3, .int a3), (4, .int a4)] [] (z1, ((((z21111, ((z2111211, c_MM_told), z211122)), z2112), z212), z22)) := by
  intro n
  induction n with
  | zero =>
    intro a3 a4 E h k0 k1
    rw [fMM_isQuarrel_l5.eq_1] at h
    cases h
  | succ n ih =>
    intro a3 a4 E h k0 k1
    rw [fMM_isQuarrel_l5.eq_2] at h
    refine at_iload (j := 4) C dMM_isQuarrel_5 rfl ?_
    refine at_iconst C dMM_isQuarrel_7 ci_5 ?_
    refine at_icmp_ge C dMM_isQuarrel_8 rfl (fun hc => ?_) (fun hc => ?_)
    · replace h := ifp hc h
      cases h
      refine at_loc (L' := []) [] rfl ?_
      exact k1 _ rfl
    · replace h := ifn hc h
      refine at_aload_n (j := 0) C dMM_isQuarrel_11 rfl rfl ?_
      refine at_iload (j := 4) C dMM_isQuarrel_12 rfl ?_
      refine at_iload_n (j := 1) C dMM_isQuarrel_14 rfl rfl ?_
      refine at_iload_n (j := 2) C dMM_isQuarrel_15 rfl rfl ?_
      obtain ⟨e1, he1, h⟩ := ob_some h
      refine at_callVi C kMM_185 (cMM_tellsOf C.2.2.2.2.2.2.1 _ _ _ _ he1) (by omega) rfl rfl rfl rfl (Nat.le_of_ble_eq_true rfl) dMM_isQuarrel_16 ?_
      refine at_istore (L' := [(5, .int e1), (0, .ref (ad G 40)), (1, .int a1), (2, .int a2), (3, .int a3), (4, .int a4)]) C dMM_isQuarrel_19 (by decide) rfl ?_
      refine at_iload (j := 0) C dMM_isQuarrel_21 rfl ?_
      refine at_if_lt C dMM_isQuarrel_23 rfl (fun hc => ?_) (fun hc => ?_)
      · replace h := ifp hc h
        refine at_iload (j := 0) C dMM_isQuarrel_38 rfl ?_
        refine at_if_lt C dMM_isQuarrel_40 rfl (fun hc => ?_) (fun hc => ?_)
        · replace h := ifp hc h
          refine at_iinc (j := 5) (L' := [(4, .int (a4 + (1 : Int32))), (5, .int e1), (0, .ref (ad G 40)), (1, .int a1), (2, .int a2), (3, .int a3)]) C dMM_isQuarrel_46 rfl ci_1 (by decide) rfl ?_
          refine at_goto C dMM_isQuarrel_49 rfl ?_
          refine at_loc (L' := [(0, .ref (ad G 40)), (1, .int a1), (2, .int a2), (3, .int a3), (4, .int (a4 + (1 : Int32)))]) [2, 3, 4, 5, 0] rfl ?_
          exact ih _ _ _ h k0 k1
        · replace h := ifn hc h
          refine at_iload (j := 0) C dMM_isQuarrel_43 rfl ?_
          refine at_istore_n (L' := [(3, .int e1), (5, .int e1), (0, .ref (ad G 40)), (1, .int a1), (2, .int a2), (4, .int a4)]) C dMM_isQuarrel_45 rfl (by decide) rfl ?_
          refine at_iinc (j := 5) (L' := [(4, .int (a4 + (1 : Int32))), (3, .int e1), (5, .int e1), (0, .ref (ad G 40)), (1, .int a1), (2, .int a2)]) C dMM_isQuarrel_46 rfl ci_1 (by decide) rfl ?_
          refine at_goto C dMM_isQuarrel_49 rfl ?_
          refine at_loc (L' := [(0, .ref (ad G 40)), (1, .int a1), (2, .int a2), (3, .int e1), (4, .int (a4 + (1 : Int32)))]) [3, 4, 5, 1, 0] rfl ?_
          exact ih _ _ _ h k0 k1
      · replace h := ifn hc h
        refine at_iload_n (j := 4) C dMM_isQuarrel_26 rfl rfl ?_
        refine at_if_lt C dMM_isQuarrel_27 rfl (fun hc => ?_) (fun hc => ?_)
        · replace h := ifp hc h
          refine at_iload (j := 0) C dMM_isQuarrel_38 rfl ?_
          refine at_if_lt C dMM_isQuarrel_40 rfl (fun hc => ?_) (fun hc => ?_)
          · replace h := ifp hc h
            refine at_iinc (j := 5) (L' := [(4, .int (a4 + (1 : Int32))), (5, .int e1), (0, .ref (ad G 40)), (1, .int a1), (2, .int a2), (3, .int a3)]) C dMM_isQuarrel_46 rfl ci_1 (by decide) rfl ?_
            refine at_goto C dMM_isQuarrel_49 rfl ?_
            refine at_loc (L' := [(0, .ref (ad G 40)), (1, .int a1), (2, .int a2), (3, .int a3), (4, .int (a4 + (1 : Int32)))]) [2, 3, 4, 5, 0] rfl ?_
            exact ih _ _ _ h k0 k1
          · replace h := ifn hc h
            refine at_iload (j := 0) C dMM_isQuarrel_43 rfl ?_
            refine at_istore_n (L' := [(3, .int e1), (5, .int e1), (0, .ref (ad G 40)), (1, .int a1), (2, .int a2), (4, .int a4)]) C dMM_isQuarrel_45 rfl (by decide) rfl ?_
            refine at_iinc (j := 5) (L' := [(4, .int (a4 + (1 : Int32))), (3, .int e1), (5, .int e1), (0, .ref (ad G 40)), (1, .int a1), (2, .int a2)]) C dMM_isQuarrel_46 rfl ci_1 (by decide) rfl ?_
            refine at_goto C dMM_isQuarrel_49 rfl ?_
            refine at_loc (L' := [(0, .ref (ad G 40)), (1, .int a1), (2, .int a2), (3, .int e1), (4, .int (a4 + (1 : Int32)))]) [3, 4, 5, 1, 0] rfl ?_
            exact ih _ _ _ h k0 k1
        · replace h := ifn hc h
          refine at_iload (j := 0) C dMM_isQuarrel_30 rfl ?_
          refine at_iload_n (j := 4) C dMM_isQuarrel_32 rfl rfl ?_
          refine at_icmp_eq C dMM_isQuarrel_33 rfl (fun hc => ?_) (fun hc => ?_)
          · replace h := ifp hc h
            refine at_iload (j := 0) C dMM_isQuarrel_38 rfl ?_
            refine at_if_lt C dMM_isQuarrel_40 rfl (fun hc => ?_) (fun hc => ?_)
            · replace h := ifp hc h
              refine at_iinc (j := 5) (L' := [(4, .int (a4 + (1 : Int32))), (5, .int e1), (0, .ref (ad G 40)), (1, .int a1), (2, .int a2), (3, .int a3)]) C dMM_isQuarrel_46 rfl ci_1 (by decide) rfl ?_
              refine at_goto C dMM_isQuarrel_49 rfl ?_
              refine at_loc (L' := [(0, .ref (ad G 40)), (1, .int a1), (2, .int a2), (3, .int a3), (4, .int (a4 + (1 : Int32)))]) [2, 3, 4, 5, 0] rfl ?_
              exact ih _ _ _ h k0 k1
            · replace h := ifn hc h
              refine at_iload (j := 0) C dMM_isQuarrel_43 rfl ?_
              refine at_istore_n (L' := [(3, .int e1), (5, .int e1), (0, .ref (ad G 40)), (1, .int a1), (2, .int a2), (4, .int a4)]) C dMM_isQuarrel_45 rfl (by decide) rfl ?_
              refine at_iinc (j := 5) (L' := [(4, .int (a4 + (1 : Int32))), (3, .int e1), (5, .int e1), (0, .ref (ad G 40)), (1, .int a1), (2, .int a2)]) C dMM_isQuarrel_46 rfl ci_1 (by decide) rfl ?_
              refine at_goto C dMM_isQuarrel_49 rfl ?_
              refine at_loc (L' := [(0, .ref (ad G 40)), (1, .int a1), (2, .int a2), (3, .int e1), (4, .int (a4 + (1 : Int32)))]) [3, 4, 5, 1, 0] rfl ?_
              exact ih _ _ _ h k0 k1
          · replace h := ifn hc h
            cases h
            refine at_loc (L' := []) [] rfl ?_
            exact k0 _ rfl
set_option maxRecDepth 100000 in
set_option maxHeartbeats 4000000 in
theorem cMM_isQuarrel {l : Launch} {G : GG} (hG : GOK G) {c_MM_told : (Nat → Int32)} {z1 : Z1} {z21111 : Z21111} {z2111211 : Int32} {z211122 : (Nat → Int32)} {z2112 : Z2112} {z212 : Z212} {z22 : Z22} (a1 : Int32) (a2 : Int32) (R : Int32) (h : fMM_isQuarrel a1 a2 c_MM_told = some R) : Met l yMM_isQuarrel (.code yMM_isQuarrel prog_12_method_29_code 6 (some .boolean) :: gw) (rmm 2) (PcW G [.ref (ad G 40), .int a1, .int a2] (z1, ((((z21111, ((z2111211, c_MM_told), z211122)), z2112), z212), z22))) (Qw G (some (.int R)) (z1, ((((z21111, ((z2111211, c_MM_told), z211122)), z2112), z212), z22))) 0 0 (Aw G) := by
  refine met_of (by decide) 2 G hG _ _ (Nat.le_of_ble_eq_true rfl) _ _ (fun X _ C => ?_)
  have C : Cx G X RcMM prog_12_method_29_code 6 2 (some .boolean) := C
  unfold fMM_isQuarrel at h
  show At G X 6 _ 0 [(0, .ref (ad G 40)), (1, .int a1), (2, .int a2)] [] (z1, ((((z21111, ((z2111211, c_MM_told), z211122)), z2112), z212), z22))
  refine at_iconst C dMM_isQuarrel_0 ci_m1 ?_
  refine at_istore_n (L' := [(3, .int (-1 : Int32)), (0, .ref (ad G 40)), (1, .int a1), (2, .int a2)]) C dMM_isQuarrel_1 rfl (by decide) rfl ?_
  refine at_iconst C dMM_isQuarrel_2 ci_0 ?_
  refine at_istore (L' := [(4, .int (0 : Int32)), (3, .int (-1 : Int32)), (0, .ref (ad G 40)), (1, .int a1), (2, .int a2)]) C dMM_isQuarrel_3 (by decide) rfl ?_
  obtain ⟨e2, he2, h⟩ := ob_some h
  refine at_loc (L' := [(0, .ref (ad G 40)), (1, .int a1), (2, .int a2), (3, .int (-1 : Int32)), (4, .int (0 : Int32))]) [2, 3, 4, 1, 0] rfl ?_
  rcases e2 with e3 | e4
  · simp only [Sum.elim_inl, Sum.elim_inr] at h
    refine wMM_isQuarrel_l5 C _ _ FU _ _ _ he2 (fun e he => ?_) (fun e he => by cases he)
    cases he
    refine at_iconst C dMM_isQuarrel_36 ci_1 ?_
    cases h
    exact at_zret (x := (1 : Int32)) C zn_1 dMM_isQuarrel_37
  · simp only [Sum.elim_inl, Sum.elim_inr] at h
    refine wMM_isQuarrel_l5 C _ _ FU _ _ _ he2 (fun e he => by cases he) (fun e he => ?_)
    cases he
    refine at_iconst C dMM_isQuarrel_52 ci_0 ?_
    cases h
    exact at_zret (x := (0 : Int32)) C zn_0 dMM_isQuarrel_53
set_option maxRecDepth 100000 in
set_option maxHeartbeats 4000000 in
theorem cMM_quarrel {l : Launch} {G : GG} (hG : GOK G) {c_MM_told : (Nat → Int32)} {z1 : Z1} {z21111 : Z21111} {z2111211 : Int32} {z211122 : (Nat → Int32)} {z2112 : Z2112} {z212 : Z212} {z22 : Z22} (a1 : Int32) (a2 : Int32) (R : Int32) (h : fMM_quarrel a1 a2 c_MM_told = some R) : Met l yMM_quarrel (.code yMM_quarrel prog_12_method_30_code 3 (some .int) :: gw) (rmm 3) (PcW G [.ref (ad G 40), .int a1, .int a2] (z1, ((((z21111, ((z2111211, c_MM_told), z211122)), z2112), z212), z22))) (Qw G (some (.int R)) (z1, ((((z21111, ((z2111211, c_MM_told), z211122)), z2112), z212), z22))) 0 0 (Aw G) := by
  refine met_of (by decide) 3 G hG _ _ (Nat.le_of_ble_eq_true rfl) _ _ (fun X _ C => ?_)
  have C : Cx G X RcMM prog_12_method_30_code 3 3 (some .int) := C
  unfold fMM_quarrel at h
  show At G X 3 _ 0 [(0, .ref (ad G 40)), (1, .int a1), (2, .int a2)] [] (z1, ((((z21111, ((z2111211, c_MM_told), z211122)), z2112), z212), z22))
  refine at_iload_n (j := 1) C dMM_quarrel_0 rfl rfl ?_
  refine at_callSi C kMM_160 (cMM_isTown C.2.2.2.2.2.2.1 _ _ rfl) (by omega) rfl rfl (Nat.le_of_ble_eq_true rfl) dMM_quarrel_1 ?_
  refine at_if_eq C dMM_quarrel_4 rfl (fun hc => ?_) (fun hc => ?_)
  · replace h := ifp hc h
    refine at_iconst C dMM_quarrel_31 ci_m1 ?_
    cases h
    exact at_iret C dMM_quarrel_32
  · replace h := ifn hc h
    refine at_iload_n (j := 2) C dMM_quarrel_7 rfl rfl ?_
    refine at_callSi C kMM_122 (cMM_isGood C.2.2.2.2.2.2.1 _ _ rfl) (by omega) rfl rfl (Nat.le_of_ble_eq_true rfl) dMM_quarrel_8 ?_
    refine at_if_eq C dMM_quarrel_11 rfl (fun hc => ?_) (fun hc => ?_)
    · replace h := ifp hc h
      refine at_iconst C dMM_quarrel_31 ci_m1 ?_
      cases h
      exact at_iret C dMM_quarrel_32
    · replace h := ifn hc h
      refine at_aload_n (j := 0) C dMM_quarrel_14 rfl rfl ?_
      refine at_iload_n (j := 1) C dMM_quarrel_15 rfl rfl ?_
      refine at_iload_n (j := 2) C dMM_quarrel_16 rfl rfl ?_
      obtain ⟨e1, he1, h⟩ := ob_some h
      refine at_callVi C kMM_195 (cMM_isQuarrel C.2.2.2.2.2.2.1 _ _ _ he1) (by omega) rfl rfl rfl rfl (Nat.le_of_ble_eq_true rfl) dMM_quarrel_17 ?_
      refine at_if_eq C dMM_quarrel_20 rfl (fun hc => ?_) (fun hc => ?_)
      · replace h := ifp hc h
        refine at_iconst C dMM_quarrel_27 ci_0 ?_
        refine at_goto C dMM_quarrel_28 rfl ?_
        cases h
        exact at_iret C dMM_quarrel_32
      · replace h := ifn hc h
        refine at_iconst C dMM_quarrel_23 ci_1 ?_
        refine at_goto C dMM_quarrel_24 rfl ?_
        cases h
        exact at_iret C dMM_quarrel_32
set_option maxRecDepth 100000 in
set_option maxHeartbeats 4000000 in
theorem wMM_quarrels_l12 {G : GG} {X : CX} {c_MM_told : (Nat → Int32)} {z1 : Z1} {z21111 : Z21111} {z2111211 : Int32} {z211122 : (Nat → Int32)} {z2112 : Z2112} {z212 : Z212} {z22 : Z22} (C : Cx G X RcMM prog_12_method_31_code 4 3 (some .int)) {Q : State → Prop}  (a2 : Int32) : ∀ (n : Nat) (a1 : Int32) (a3 : Int32) (E : Int32) (h : fMM_quarrels_l12 a2 c_MM_told n a1 a3 = some E) (k0 : At G X 4 Q 41 [(0, .ref (ad G 40)), (1, .int E), (2, .int a2)] [] (z1, ((((z21111, ((z2111211, c_MM_told), z211122)), z2112), z212), z22))), At G X 4 Q 12 [(0, .ref (ad G 40)), (1, .int a1), (2, .int a2), (3, .int a3)] [] (z1, ((((z21111, ((z2111211, c_MM_told), z211122)), z2112), z212), z22)) := by
  intro n
  induction n with
  | zero =>
    intro a1 a3 E h k0
    rw [fMM_quarrels_l12.eq_1] at h
    cases h
  | succ n ih =>
    intro a1 a3 E h k0
    rw [fMM_quarrels_l12.eq_2] at h
    refine at_iload_n (j := 3) C dMM_quarrels_12 rfl rfl ?_
    refine at_bipush C dMM_quarrels_13 cb_6 ?_
    refine at_icmp_ge C dMM_quarrels_15 rfl (fun hc => ?_) (fun hc => ?_)
    · replace h := ifp hc h
      cases h
      refine at_loc (L' := [(0, .ref (ad G 40)), (1, .int a1), (2, .int a2)]) [0, 1, 2] rfl ?_
      exact k0
    · replace h := ifn hc h
      refine at_iload_n (j := 1) C dMM_quarrels_18 rfl rfl ?_
      refine at_aload_n (j := 0) C dMM_quarrels_19 rfl rfl ?_
      refine at_iload_n (j := 2) C dMM_quarrels_20 rfl rfl ?_
      refine at_iload_n (j := 3) C dMM_quarrels_21 rfl rfl ?_
      obtain ⟨e1, he1, h⟩ := ob_some h
      refine at_callVi C kMM_195 (cMM_isQuarrel C.2.2.2.2.2.2.1 _ _ _ he1) (by omega) rfl rfl rfl rfl (Nat.le_of_ble_eq_true rfl) dMM_quarrels_22 ?_
      refine at_if_eq C dMM_quarrels_25 rfl (fun hc => ?_) (fun hc => ?_)
      · replace h := ifp hc h
        refine at_iconst C dMM_quarrels_32 ci_0 ?_
        refine at_iadd C dMM_quarrels_33 ?_
        refine at_istore_n (L' := [(1, .int (a1 + (0 : Int32))), (0, .ref (ad G 40)), (2, .int a2), (3, .int a3)]) C dMM_quarrels_34 rfl (by decide) rfl ?_
        refine at_iinc (j := 3) (L' := [(3, .int (a3 + (1 : Int32))), (1, .int (a1 + (0 : Int32))), (0, .ref (ad G 40)), (2, .int a2)]) C dMM_quarrels_35 rfl ci_1 (by decide) rfl ?_
        refine at_goto C dMM_quarrels_38 rfl ?_
        refine at_loc (L' := [(0, .ref (ad G 40)), (1, .int (a1 + (0 : Int32))), (2, .int a2), (3, .int (a3 + (1 : Int32)))]) [2, 1, 3, 0] rfl ?_
        exact ih _ _ _ h k0
      · replace h := ifn hc h
        refine at_iconst C dMM_quarrels_28 ci_1 ?_
        refine at_goto C dMM_quarrels_29 rfl ?_
        refine at_iadd C dMM_quarrels_33 ?_
        refine at_istore_n (L' := [(1, .int (a1 + (1 : Int32))), (0, .ref (ad G 40)), (2, .int a2), (3, .int a3)]) C dMM_quarrels_34 rfl (by decide) rfl ?_
        refine at_iinc (j := 3) (L' := [(3, .int (a3 + (1 : Int32))), (1, .int (a1 + (1 : Int32))), (0, .ref (ad G 40)), (2, .int a2)]) C dMM_quarrels_35 rfl ci_1 (by decide) rfl ?_
        refine at_goto C dMM_quarrels_38 rfl ?_
        refine at_loc (L' := [(0, .ref (ad G 40)), (1, .int (a1 + (1 : Int32))), (2, .int a2), (3, .int (a3 + (1 : Int32)))]) [2, 1, 3, 0] rfl ?_
        exact ih _ _ _ h k0
set_option maxRecDepth 100000 in
set_option maxHeartbeats 4000000 in
theorem wMM_quarrels_l4 {G : GG} {X : CX} {c_MM_told : (Nat → Int32)} {z1 : Z1} {z21111 : Z21111} {z2111211 : Int32} {z211122 : (Nat → Int32)} {z2112 : Z2112} {z212 : Z212} {z22 : Z22} (C : Cx G X RcMM prog_12_method_31_code 4 3 (some .int)) {Q : State → Prop}  : ∀ (n : Nat) (a1 : Int32) (a2 : Int32) (E : Int32) (h : fMM_quarrels_l4 c_MM_told n a1 a2 = some E) (k0 : At G X 4 Q 47 [(1, .int E)] [] (z1, ((((z21111, ((z2111211, c_MM_told), z211122)), z2112), z212), z22))), At G X 4 Q 4 [(0, .ref (ad G 40)), (1, .int a1), (2, .int a2)] [] (z1, ((((z21111, ((z2111211, c_MM_told), z211122)), z2112), z212), z22)) := by
  intro n
  induction n with
  | zero =>
    intro a1 a2 E h k0
    rw [fMM_quarrels_l4.eq_1] at h
    cases h
  | succ n ih =>
    intro a1 a2 E h k0
    rw [fMM_quarrels_l4.eq_2] at h
    refine at_iload_n (j := 2) C dMM_quarrels_4 rfl rfl ?_
    refine at_bipush C dMM_quarrels_5 cb_16 ?_
    refine at_icmp_ge C dMM_quarrels_7 rfl (fun hc => ?_) (fun hc => ?_)
    · replace h := ifp hc h
      cases h
      refine at_loc (L' := [(1, .int a1)]) [1] rfl ?_
      exact k0
    · replace h := ifn hc h
      refine at_iconst C dMM_quarrels_10 ci_0 ?_
      refine at_istore_n (L' := [(3, .int (0 : Int32)), (0, .ref (ad G 40)), (1, .int a1), (2, .int a2)]) C dMM_quarrels_11 rfl (by decide) rfl ?_
      obtain ⟨e2, he2, h⟩ := ob_some h
      refine at_loc (L' := [(0, .ref (ad G 40)), (1, .int a1), (2, .int a2), (3, .int (0 : Int32))]) [1, 2, 3, 0] rfl ?_
      refine wMM_quarrels_l12 C _ FU _ _ _ he2 ?_
      refine at_iinc (j := 2) (L' := [(2, .int (a2 + (1 : Int32))), (0, .ref (ad G 40)), (1, .int e2)]) C dMM_quarrels_41 rfl ci_1 (by decide) rfl ?_
      refine at_goto C dMM_quarrels_44 rfl ?_
      refine at_loc (L' := [(0, .ref (ad G 40)), (1, .int e2), (2, .int (a2 + (1 : Int32)))]) [1, 2, 0] rfl ?_
      exact ih _ _ _ h k0
set_option maxRecDepth 100000 in
set_option maxHeartbeats 4000000 in
theorem cMM_quarrels {l : Launch} {G : GG} (hG : GOK G) {c_MM_told : (Nat → Int32)} {z1 : Z1} {z21111 : Z21111} {z2111211 : Int32} {z211122 : (Nat → Int32)} {z2112 : Z2112} {z212 : Z212} {z22 : Z22} (R : Int32) (h : fMM_quarrels c_MM_told = some R) : Met l yMM_quarrels (.code yMM_quarrels prog_12_method_31_code 4 (some .int) :: gw) (rmm 3) (PcW G [.ref (ad G 40)] (z1, ((((z21111, ((z2111211, c_MM_told), z211122)), z2112), z212), z22))) (Qw G (some (.int R)) (z1, ((((z21111, ((z2111211, c_MM_told), z211122)), z2112), z212), z22))) 0 0 (Aw G) := by
  refine met_of (by decide) 3 G hG _ _ (Nat.le_of_ble_eq_true rfl) _ _ (fun X _ C => ?_)
  have C : Cx G X RcMM prog_12_method_31_code 4 3 (some .int) := C
  unfold fMM_quarrels at h
  show At G X 4 _ 0 [(0, .ref (ad G 40))] [] (z1, ((((z21111, ((z2111211, c_MM_told), z211122)), z2112), z212), z22))
  refine at_iconst C dMM_quarrels_0 ci_0 ?_
  refine at_istore_n (L' := [(1, .int (0 : Int32)), (0, .ref (ad G 40))]) C dMM_quarrels_1 rfl (by decide) rfl ?_
  refine at_iconst C dMM_quarrels_2 ci_1 ?_
  refine at_istore_n (L' := [(2, .int (1 : Int32)), (1, .int (0 : Int32)), (0, .ref (ad G 40))]) C dMM_quarrels_3 rfl (by decide) rfl ?_
  obtain ⟨e3, he3, h⟩ := ob_some h
  refine at_loc (L' := [(0, .ref (ad G 40)), (1, .int (0 : Int32)), (2, .int (1 : Int32))]) [2, 1, 0] rfl ?_
  refine wMM_quarrels_l4 C FU _ _ _ he3 ?_
  refine at_iload_n (j := 0) C dMM_quarrels_47 rfl rfl ?_
  cases h
  exact at_iret C dMM_quarrels_48
set_option maxRecDepth 100000 in
set_option maxHeartbeats 4000000 in
theorem cMM_send {l : Launch} {G : GG} (hG : GOK G) {c_MM_clock : Int32} {c_MM_roads : (Nat → Int32)} {c_MM_ways : (Nat → Int32)} {c_MM_weight : (Nat → Int32)} {c_MM_load : Int32} {c_MM_sendings : Int32} {c_MM_town : (Nat → Int32)} {c_MM_good : (Nat → Int32)} {c_MM_pieces : (Nat → Int32)} {c_MM_bearers : (Nat → Int32)} {c_MM_left : (Nat → Int32)} {c_MM_comes : (Nat → Int32)} {z11 : Z11} {z121 : Z121} {z1221 : Z1221} {z12221 : Z12221} {z122221 : Z122221} {z2111111 : Int32} {z2111212 : (Nat → Int32)} {z211122 : (Nat → Int32)} {z21121 : Z21121} {z211221 : Z211221} {z2122 : Z2122} {z22 : Z22} (a1 : Int32) (a2 : Int32) (a3 : Int32) (R : (Int32 × (Nat → Int32) × Int32 × (Nat → Int32) × (Nat → Int32) × (Nat → Int32) × (Nat → Int32) × (Nat → Int32) × (Nat → Int32))) (h : fMM_send a1 a2 a3 c_MM_clock c_MM_roads c_MM_ways c_MM_weight c_MM_load c_MM_sendings c_MM_town c_MM_good c_MM_pieces c_MM_bearers c_MM_left c_MM_comes = some R) : Met l yMM_send (.code yMM_send prog_12_method_32_code 5 (some .int) :: gw) (rmm 3) (PcW G [.ref (ad G 40), .int a1, .int a2, .int a3] ((z11, (z121, (z1221, (z12221, (z122221, c_MM_clock))))), ((((((z2111111, c_MM_roads), (c_MM_ways, c_MM_weight)), ((c_MM_load, z2111212), z211122)), (z21121, (z211221, c_MM_sendings))), ((((c_MM_town, c_MM_good), c_MM_pieces), ((c_MM_bearers, c_MM_left), c_MM_comes)), z2122)), z22))) (Qw G (some (.int R.1)) ((z11, (z121, (z1221, (z12221, (z122221, c_MM_clock))))), ((((((z2111111, c_MM_roads), (R.2.1, c_MM_weight)), ((c_MM_load, z2111212), z211122)), (z21121, (z211221, R.2.2.1))), ((((R.2.2.2.1, R.2.2.2.2.1), R.2.2.2.2.2.1), ((R.2.2.2.2.2.2.1, R.2.2.2.2.2.2.2.1), R.2.2.2.2.2.2.2.2)), z2122)), z22))) 0 0 (Aw G) := by
  refine met_of (by decide) 3 G hG _ _ (Nat.le_of_ble_eq_true rfl) _ _ (fun X _ C => ?_)
  have C : Cx G X RcMM prog_12_method_32_code 5 3 (some .int) := C
  unfold fMM_send at h
  show At G X 5 _ 0 [(0, .ref (ad G 40)), (1, .int a1), (2, .int a2), (3, .int a3)] [] ((z11, (z121, (z1221, (z12221, (z122221, c_MM_clock))))), ((((((z2111111, c_MM_roads), (c_MM_ways, c_MM_weight)), ((c_MM_load, z2111212), z211122)), (z21121, (z211221, c_MM_sendings))), ((((c_MM_town, c_MM_good), c_MM_pieces), ((c_MM_bearers, c_MM_left), c_MM_comes)), z2122)), z22))
  refine at_iload_n (j := 1) C dMM_send_0 rfl rfl ?_
  refine at_callSi C kMM_160 (cMM_isTown C.2.2.2.2.2.2.1 _ _ rfl) (by omega) rfl rfl (Nat.le_of_ble_eq_true rfl) dMM_send_1 ?_
  refine at_if_eq C dMM_send_4 rfl (fun hc => ?_) (fun hc => ?_)
  · replace h := ifp hc h
    refine at_iconst C dMM_send_34 ci_m1 ?_
    cases h
    exact at_iret C dMM_send_35
  · replace h := ifn hc h
    refine at_iload_n (j := 2) C dMM_send_7 rfl rfl ?_
    refine at_callSi C kMM_122 (cMM_isGood C.2.2.2.2.2.2.1 _ _ rfl) (by omega) rfl rfl (Nat.le_of_ble_eq_true rfl) dMM_send_8 ?_
    refine at_if_eq C dMM_send_11 rfl (fun hc => ?_) (fun hc => ?_)
    · replace h := ifp hc h
      refine at_iconst C dMM_send_34 ci_m1 ?_
      cases h
      exact at_iret C dMM_send_35
    · replace h := ifn hc h
      refine at_iload_n (j := 3) C dMM_send_14 rfl rfl ?_
      refine at_iconst C dMM_send_15 ci_1 ?_
      refine at_sipush C dMM_send_16 cs_9999 ?_
      refine at_callSi C kMM_109 (cMM_isIn C.2.2.2.2.2.2.1 _ _ _ _ rfl) (by omega) rfl rfl (Nat.le_of_ble_eq_true rfl) dMM_send_19 ?_
      refine at_if_eq C dMM_send_22 rfl (fun hc => ?_) (fun hc => ?_)
      · replace h := ifp hc h
        refine at_iconst C dMM_send_34 ci_m1 ?_
        cases h
        exact at_iret C dMM_send_35
      · replace h := ifn hc h
        refine at_aload_n (j := 0) C dMM_send_25 rfl rfl ?_
        refine gfMM_sendings (x := c_MM_sendings) C rfl dMM_send_26 ?_
        refine at_bipush C dMM_send_29 cb_100 ?_
        refine at_icmp_ne C dMM_send_31 rfl (fun hc => ?_) (fun hc => ?_)
        · replace h := ifn hc h
          refine at_aload_n (j := 0) C dMM_send_36 rfl rfl ?_
          refine at_iload_n (j := 1) C dMM_send_37 rfl rfl ?_
          refine at_iconst C dMM_send_38 ci_0 ?_
          obtain ⟨e1, he1, h⟩ := ob_some h
          refine at_callVi C kMM_118 (cMM_wayOf C.2.2.2.2.2.2.1 _ _ _ he1) (by omega) rfl rfl rfl rfl (Nat.le_of_ble_eq_true rfl) dMM_send_39 ?_
          refine at_istore (L' := [(4, .int e1.1), (0, .ref (ad G 40)), (1, .int a1), (2, .int a2), (3, .int a3)]) C dMM_send_42 (by decide) rfl ?_
          refine at_iload (j := 0) C dMM_send_44 rfl ?_
          refine at_if_ge C dMM_send_46 rfl (fun hc => ?_) (fun hc => ?_)
          · replace h := ifp hc h
            refine at_aload_n (j := 1) C dMM_send_51 rfl rfl ?_
            refine gfMM_town C dMM_send_52 ?_
            refine at_aload_n (j := 1) C dMM_send_55 rfl rfl ?_
            refine gfMM_sendings (x := c_MM_sendings) C rfl dMM_send_56 ?_
            refine at_iload_n (j := 2) C dMM_send_59 rfl rfl ?_
            obtain ⟨hg2, h⟩ := gd_some h
            refine svMM_town C hg2 dMM_send_60 ?_
            refine at_st (S1 := ((z11, (z121, (z1221, (z12221, (z122221, c_MM_clock))))), ((((((z2111111, c_MM_roads), (e1.2, c_MM_weight)), ((c_MM_load, z2111212), z211122)), (z21121, (z211221, c_MM_sendings))), (((((upd c_MM_town (c_MM_sendings).toNatClampNeg a1), c_MM_good), c_MM_pieces), ((c_MM_bearers, c_MM_left), c_MM_comes)), z2122)), z22))) rfl ?_
            refine at_aload_n (j := 1) C dMM_send_61 rfl rfl ?_
            refine gfMM_good C dMM_send_62 ?_
            refine at_aload_n (j := 1) C dMM_send_65 rfl rfl ?_
            refine gfMM_sendings (x := c_MM_sendings) C rfl dMM_send_66 ?_
            refine at_iload_n (j := 3) C dMM_send_69 rfl rfl ?_
            obtain ⟨hg3, h⟩ := gd_some h
            refine svMM_good C hg3 dMM_send_70 ?_
            refine at_st (S1 := ((z11, (z121, (z1221, (z12221, (z122221, c_MM_clock))))), ((((((z2111111, c_MM_roads), (e1.2, c_MM_weight)), ((c_MM_load, z2111212), z211122)), (z21121, (z211221, c_MM_sendings))), (((((upd c_MM_town (c_MM_sendings).toNatClampNeg a1), (upd c_MM_good (c_MM_sendings).toNatClampNeg a2)), c_MM_pieces), ((c_MM_bearers, c_MM_left), c_MM_comes)), z2122)), z22))) rfl ?_
            refine at_aload_n (j := 1) C dMM_send_71 rfl rfl ?_
            refine gfMM_pieces C dMM_send_72 ?_
            refine at_aload_n (j := 1) C dMM_send_75 rfl rfl ?_
            refine gfMM_sendings (x := c_MM_sendings) C rfl dMM_send_76 ?_
            refine at_iload_n (j := 4) C dMM_send_79 rfl rfl ?_
            obtain ⟨hg4, h⟩ := gd_some h
            refine svMM_pieces C hg4 dMM_send_80 ?_
            refine at_st (S1 := ((z11, (z121, (z1221, (z12221, (z122221, c_MM_clock))))), ((((((z2111111, c_MM_roads), (e1.2, c_MM_weight)), ((c_MM_load, z2111212), z211122)), (z21121, (z211221, c_MM_sendings))), (((((upd c_MM_town (c_MM_sendings).toNatClampNeg a1), (upd c_MM_good (c_MM_sendings).toNatClampNeg a2)), (upd c_MM_pieces (c_MM_sendings).toNatClampNeg a3)), ((c_MM_bearers, c_MM_left), c_MM_comes)), z2122)), z22))) rfl ?_
            refine at_aload_n (j := 1) C dMM_send_81 rfl rfl ?_
            refine gfMM_bearers C dMM_send_82 ?_
            refine at_aload_n (j := 1) C dMM_send_85 rfl rfl ?_
            refine gfMM_sendings (x := c_MM_sendings) C rfl dMM_send_86 ?_
            refine at_aload_n (j := 1) C dMM_send_89 rfl rfl ?_
            refine at_iload_n (j := 3) C dMM_send_90 rfl rfl ?_
            refine at_iload_n (j := 4) C dMM_send_91 rfl rfl ?_
            obtain ⟨e5, he5, h⟩ := ob_some h
            refine at_callVi C kMM_125 (cMM_carriersOf C.2.2.2.2.2.2.1 _ _ _ he5) (by omega) rfl rfl rfl rfl (Nat.le_of_ble_eq_true rfl) dMM_send_92 ?_
            obtain ⟨hg6, h⟩ := gd_some h
            refine svMM_bearers C hg6 dMM_send_95 ?_
            refine at_st (S1 := ((z11, (z121, (z1221, (z12221, (z122221, c_MM_clock))))), ((((((z2111111, c_MM_roads), (e1.2, c_MM_weight)), ((c_MM_load, z2111212), z211122)), (z21121, (z211221, c_MM_sendings))), (((((upd c_MM_town (c_MM_sendings).toNatClampNeg a1), (upd c_MM_good (c_MM_sendings).toNatClampNeg a2)), (upd c_MM_pieces (c_MM_sendings).toNatClampNeg a3)), (((upd c_MM_bearers (c_MM_sendings).toNatClampNeg e5), c_MM_left), c_MM_comes)), z2122)), z22))) rfl ?_
            refine at_aload_n (j := 1) C dMM_send_96 rfl rfl ?_
            refine gfMM_left C dMM_send_97 ?_
            refine at_aload_n (j := 1) C dMM_send_100 rfl rfl ?_
            refine gfMM_sendings (x := c_MM_sendings) C rfl dMM_send_101 ?_
            refine at_aload_n (j := 1) C dMM_send_104 rfl rfl ?_
            refine gfMM_clock (x := c_MM_clock) C rfl dMM_send_105 ?_
            obtain ⟨hg7, h⟩ := gd_some h
            refine svMM_left C hg7 dMM_send_108 ?_
            refine at_st (S1 := ((z11, (z121, (z1221, (z12221, (z122221, c_MM_clock))))), ((((((z2111111, c_MM_roads), (e1.2, c_MM_weight)), ((c_MM_load, z2111212), z211122)), (z21121, (z211221, c_MM_sendings))), (((((upd c_MM_town (c_MM_sendings).toNatClampNeg a1), (upd c_MM_good (c_MM_sendings).toNatClampNeg a2)), (upd c_MM_pieces (c_MM_sendings).toNatClampNeg a3)), (((upd c_MM_bearers (c_MM_sendings).toNatClampNeg e5), (upd c_MM_left (c_MM_sendings).toNatClampNeg c_MM_clock)), c_MM_comes)), z2122)), z22))) rfl ?_
            refine at_aload_n (j := 1) C dMM_send_109 rfl rfl ?_
            refine gfMM_comes C dMM_send_110 ?_
            refine at_aload_n (j := 1) C dMM_send_113 rfl rfl ?_
            refine gfMM_sendings (x := c_MM_sendings) C rfl dMM_send_114 ?_
            refine at_aload_n (j := 1) C dMM_send_117 rfl rfl ?_
            refine gfMM_clock (x := c_MM_clock) C rfl dMM_send_118 ?_
            refine at_iload (j := 0) C dMM_send_121 rfl ?_
            refine at_iadd C dMM_send_123 ?_
            obtain ⟨hg8, h⟩ := gd_some h
            refine svMM_comes C hg8 dMM_send_124 ?_
            refine at_st (S1 := ((z11, (z121, (z1221, (z12221, (z122221, c_MM_clock))))), ((((((z2111111, c_MM_roads), (e1.2, c_MM_weight)), ((c_MM_load, z2111212), z211122)), (z21121, (z211221, c_MM_sendings))), (((((upd c_MM_town (c_MM_sendings).toNatClampNeg a1), (upd c_MM_good (c_MM_sendings).toNatClampNeg a2)), (upd c_MM_pieces (c_MM_sendings).toNatClampNeg a3)), (((upd c_MM_bearers (c_MM_sendings).toNatClampNeg e5), (upd c_MM_left (c_MM_sendings).toNatClampNeg c_MM_clock)), (upd c_MM_comes (c_MM_sendings).toNatClampNeg (c_MM_clock + e1.1)))), z2122)), z22))) rfl ?_
            refine at_aload_n (j := 1) C dMM_send_125 rfl rfl ?_
            refine at_dup C dMM_send_126 rfl ?_
            refine gfMM_sendings (x := c_MM_sendings) C rfl dMM_send_127 ?_
            refine at_iconst C dMM_send_130 ci_1 ?_
            refine at_iadd C dMM_send_131 ?_
            refine pfMM_sendings C dMM_send_132 ?_
            refine at_st (S1 := ((z11, (z121, (z1221, (z12221, (z122221, c_MM_clock))))), ((((((z2111111, c_MM_roads), (e1.2, c_MM_weight)), ((c_MM_load, z2111212), z211122)), (z21121, (z211221, (c_MM_sendings + (1 : Int32))))), (((((upd c_MM_town (c_MM_sendings).toNatClampNeg a1), (upd c_MM_good (c_MM_sendings).toNatClampNeg a2)), (upd c_MM_pieces (c_MM_sendings).toNatClampNeg a3)), (((upd c_MM_bearers (c_MM_sendings).toNatClampNeg e5), (upd c_MM_left (c_MM_sendings).toNatClampNeg c_MM_clock)), (upd c_MM_comes (c_MM_sendings).toNatClampNeg (c_MM_clock + e1.1)))), z2122)), z22))) rfl ?_
            refine at_aload_n (j := 1) C dMM_send_135 rfl rfl ?_
            refine gfMM_sendings (x := (c_MM_sendings + (1 : Int32))) C rfl dMM_send_136 ?_
            refine at_iconst C dMM_send_139 ci_1 ?_
            refine at_isub C dMM_send_140 ?_
            cases h
            exact at_iret C dMM_send_141
          · replace h := ifn hc h
            refine at_iconst C dMM_send_49 ci_m1 ?_
            cases h
            exact at_iret C dMM_send_50
        · replace h := ifp hc h
          refine at_iconst C dMM_send_34 ci_m1 ?_
          cases h
          exact at_iret C dMM_send_35
set_option maxRecDepth 100000 in
set_option maxHeartbeats 4000000 in
theorem cMM_sending {l : Launch} {G : GG} (hG : GOK G) {c_MM_sendings : Int32} {c_MM_town : (Nat → Int32)} {c_MM_good : (Nat → Int32)} {c_MM_pieces : (Nat → Int32)} {c_MM_bearers : (Nat → Int32)} {c_MM_left : (Nat → Int32)} {c_MM_comes : (Nat → Int32)} {c_MM_isStored : (Nat → Int32)} {c_MM_used : (Nat → Int32)} {z1 : Z1} {z2111 : Z2111} {z21121 : Z21121} {z211221 : Z211221} {z212212 : Int32} {z21222 : Z21222} {z22 : Z22} (a1 : Int32) (a2 : Int32) (R : Int32) (h : fMM_sending a1 a2 c_MM_sendings c_MM_town c_MM_good c_MM_pieces c_MM_bearers c_MM_left c_MM_comes c_MM_isStored c_MM_used = some R) : Met l yMM_sending (.code yMM_sending prog_12_method_33_code 3 (some .int) :: gw) (rmm 2) (PcW G [.ref (ad G 40), .int a1, .int a2] (z1, (((z2111, (z21121, (z211221, c_MM_sendings))), ((((c_MM_town, c_MM_good), c_MM_pieces), ((c_MM_bearers, c_MM_left), c_MM_comes)), (((c_MM_isStored, c_MM_used), z212212), z21222))), z22))) (Qw G (some (.int R)) (z1, (((z2111, (z21121, (z211221, c_MM_sendings))), ((((c_MM_town, c_MM_good), c_MM_pieces), ((c_MM_bearers, c_MM_left), c_MM_comes)), (((c_MM_isStored, c_MM_used), z212212), z21222))), z22))) 0 0 (Aw G) := by
  refine met_of (by decide) 2 G hG _ _ (Nat.le_of_ble_eq_true rfl) _ _ (fun X _ C => ?_)
  have C : Cx G X RcMM prog_12_method_33_code 3 2 (some .int) := C
  unfold fMM_sending at h
  show At G X 3 _ 0 [(0, .ref (ad G 40)), (1, .int a1), (2, .int a2)] [] (z1, (((z2111, (z21121, (z211221, c_MM_sendings))), ((((c_MM_town, c_MM_good), c_MM_pieces), ((c_MM_bearers, c_MM_left), c_MM_comes)), (((c_MM_isStored, c_MM_used), z212212), z21222))), z22))
  refine at_iload_n (j := 1) C dMM_sending_0 rfl rfl ?_
  refine at_iconst C dMM_sending_1 ci_0 ?_
  refine at_aload_n (j := 0) C dMM_sending_2 rfl rfl ?_
  refine gfMM_sendings (x := c_MM_sendings) C rfl dMM_sending_3 ?_
  refine at_iconst C dMM_sending_6 ci_1 ?_
  refine at_isub C dMM_sending_7 ?_
  refine at_callSi C kMM_109 (cMM_isIn C.2.2.2.2.2.2.1 _ _ _ _ rfl) (by omega) rfl rfl (Nat.le_of_ble_eq_true rfl) dMM_sending_8 ?_
  refine at_if_ne C dMM_sending_11 rfl (fun hc => ?_) (fun hc => ?_)
  · replace h := ifn hc h
    refine at_iload_n (j := 2) C dMM_sending_16 rfl rfl ?_
    by_cases hc : a2 = (0 : Int32)
    · replace h := ifp hc h
      refine at_tin C (0 : Int32) hc dMM_sending_17 (by decide) (by decide) rfl rfl ?_
      refine at_aload_n (j := 0) C dMM_sending_64 rfl rfl ?_
      refine gfMM_town C dMM_sending_65 ?_
      refine at_iload_n (j := 1) C dMM_sending_68 rfl rfl ?_
      obtain ⟨hg1, h⟩ := gd_some h
      refine ldMM_town (f := c_MM_town) C rfl hg1 dMM_sending_69 ?_
      cases h
      exact at_iret C dMM_sending_70
    replace h := ifn hc h
    have hn0 := hc
    clear hc
    by_cases hc : a2 = (1 : Int32)
    · replace h := ifp hc h
      refine at_tin C (1 : Int32) hc dMM_sending_17 (by decide) (by decide) rfl rfl ?_
      refine at_aload_n (j := 0) C dMM_sending_71 rfl rfl ?_
      refine gfMM_good C dMM_sending_72 ?_
      refine at_iload_n (j := 1) C dMM_sending_75 rfl rfl ?_
      obtain ⟨hg2, h⟩ := gd_some h
      refine ldMM_good (f := c_MM_good) C rfl hg2 dMM_sending_76 ?_
      cases h
      exact at_iret C dMM_sending_77
    replace h := ifn hc h
    have hn1 := hc
    clear hc
    by_cases hc : a2 = (2 : Int32)
    · replace h := ifp hc h
      refine at_tin C (2 : Int32) hc dMM_sending_17 (by decide) (by decide) rfl rfl ?_
      refine at_aload_n (j := 0) C dMM_sending_78 rfl rfl ?_
      refine gfMM_pieces C dMM_sending_79 ?_
      refine at_iload_n (j := 1) C dMM_sending_82 rfl rfl ?_
      obtain ⟨hg3, h⟩ := gd_some h
      refine ldMM_pieces (f := c_MM_pieces) C rfl hg3 dMM_sending_83 ?_
      cases h
      exact at_iret C dMM_sending_84
    replace h := ifn hc h
    have hn2 := hc
    clear hc
    by_cases hc : a2 = (3 : Int32)
    · replace h := ifp hc h
      refine at_tin C (3 : Int32) hc dMM_sending_17 (by decide) (by decide) rfl rfl ?_
      refine at_aload_n (j := 0) C dMM_sending_85 rfl rfl ?_
      refine gfMM_bearers C dMM_sending_86 ?_
      refine at_iload_n (j := 1) C dMM_sending_89 rfl rfl ?_
      obtain ⟨hg4, h⟩ := gd_some h
      refine ldMM_bearers (f := c_MM_bearers) C rfl hg4 dMM_sending_90 ?_
      cases h
      exact at_iret C dMM_sending_91
    replace h := ifn hc h
    have hn3 := hc
    clear hc
    by_cases hc : a2 = (4 : Int32)
    · replace h := ifp hc h
      refine at_tin C (4 : Int32) hc dMM_sending_17 (by decide) (by decide) rfl rfl ?_
      refine at_aload_n (j := 0) C dMM_sending_92 rfl rfl ?_
      refine gfMM_left C dMM_sending_93 ?_
      refine at_iload_n (j := 1) C dMM_sending_96 rfl rfl ?_
      obtain ⟨hg5, h⟩ := gd_some h
      refine ldMM_left (f := c_MM_left) C rfl hg5 dMM_sending_97 ?_
      cases h
      exact at_iret C dMM_sending_98
    replace h := ifn hc h
    have hn4 := hc
    clear hc
    by_cases hc : a2 = (5 : Int32)
    · replace h := ifp hc h
      refine at_tin C (5 : Int32) hc dMM_sending_17 (by decide) (by decide) rfl rfl ?_
      refine at_aload_n (j := 0) C dMM_sending_99 rfl rfl ?_
      refine gfMM_comes C dMM_sending_100 ?_
      refine at_iload_n (j := 1) C dMM_sending_103 rfl rfl ?_
      obtain ⟨hg6, h⟩ := gd_some h
      refine ldMM_comes (f := c_MM_comes) C rfl hg6 dMM_sending_104 ?_
      cases h
      exact at_iret C dMM_sending_105
    replace h := ifn hc h
    have hn5 := hc
    clear hc
    by_cases hc : a2 = (6 : Int32)
    · replace h := ifp hc h
      refine at_tin C (6 : Int32) hc dMM_sending_17 (by decide) (by decide) rfl rfl ?_
      refine at_aload_n (j := 0) C dMM_sending_106 rfl rfl ?_
      refine gfMM_isStored C dMM_sending_107 ?_
      refine at_iload_n (j := 1) C dMM_sending_110 rfl rfl ?_
      obtain ⟨hg7, h⟩ := gd_some h
      refine ldMM_isStored (f := c_MM_isStored) C rfl hg7 dMM_sending_111 ?_
      refine at_if_eq C dMM_sending_112 rfl (fun hc => ?_) (fun hc => ?_)
      · replace h := ifp hc h
        refine at_iconst C dMM_sending_119 ci_0 ?_
        cases h
        exact at_iret C dMM_sending_120
      · replace h := ifn hc h
        refine at_iconst C dMM_sending_115 ci_1 ?_
        refine at_goto C dMM_sending_116 rfl ?_
        cases h
        exact at_iret C dMM_sending_120
    replace h := ifn hc h
    have hn6 := hc
    clear hc
    by_cases hc : a2 = (7 : Int32)
    · replace h := ifp hc h
      refine at_tin C (7 : Int32) hc dMM_sending_17 (by decide) (by decide) rfl rfl ?_
      refine at_aload_n (j := 0) C dMM_sending_121 rfl rfl ?_
      refine gfMM_used C dMM_sending_122 ?_
      refine at_iload_n (j := 1) C dMM_sending_125 rfl rfl ?_
      obtain ⟨hg8, h⟩ := gd_some h
      refine ldMM_used (f := c_MM_used) C rfl hg8 dMM_sending_126 ?_
      cases h
      exact at_iret C dMM_sending_127
    replace h := ifn hc h
    have hn7 := hc
    clear hc
    refine at_tout C dMM_sending_17 (by have := lv_neT hn0 (show ((0 : Int32)).toInt = 0 from by decide); have := lv_neT hn1 (show ((1 : Int32)).toInt = 1 from by decide); have := lv_neT hn2 (show ((2 : Int32)).toInt = 2 from by decide); have := lv_neT hn3 (show ((3 : Int32)).toInt = 3 from by decide); have := lv_neT hn4 (show ((4 : Int32)).toInt = 4 from by decide); have := lv_neT hn5 (show ((5 : Int32)).toInt = 5 from by decide); have := lv_neT hn6 (show ((6 : Int32)).toInt = 6 from by decide); have := lv_neT hn7 (show ((7 : Int32)).toInt = 7 from by decide); omega) rfl ?_
    refine at_iconst C dMM_sending_128 ci_m1 ?_
    cases h
    exact at_iret C dMM_sending_129
  · replace h := ifp hc h
    refine at_iconst C dMM_sending_14 ci_m1 ?_
    cases h
    exact at_iret C dMM_sending_15
