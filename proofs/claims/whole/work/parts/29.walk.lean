set_option maxRecDepth 100000 in
set_option maxHeartbeats 4000000 in
theorem wMM_parted_l5 {G : GG} {X : CX} {c_MM_yield2 : (Nat → Int32)} {z1 : Z1} {z21 : Z21} {z221 : Z221} {z2221 : Z2221} {z22221 : Z22221} {z2222211 : Int64} (C : Cx G X RcMM prog_12_method_48_code 8 3 (some .int)) {Q : State → Prop}  (a1 : Int32) (a2 : Int32) : ∀ (n : Nat) (a3 : Int32) (a4 : Int32) (c_MM_hasMore : (Nat → Int32)) (E : (Int32 × (Nat → Int32))) (h : fMM_parted_l5 a1 a2 c_MM_yield2 n a3 a4 c_MM_hasMore = some E) (k0 : At G X 8 Q 36 [(0, .ref (ad G 40)), (1, .int a1), (2, .int a2), (3, .int E.1)] [] (z1, (z21, (z221, (z2221, (z22221, ((z2222211, c_MM_yield2), E.2))))))), At G X 8 Q 5 [(0, .ref (ad G 40)), (1, .int a1), (2, .int a2), (3, .int a3), (4, .int a4)] [] (z1, (z21, (z221, (z2221, (z22221, ((z2222211, c_MM_yield2), c_MM_hasMore)))))) := by
  intro n
  induction n with
  | zero =>
    intro a3 a4 c_MM_hasMore E h k0
    rw [fMM_parted_l5.eq_1] at h
    cases h
  | succ n ih =>
    intro a3 a4 c_MM_hasMore E h k0
    rw [fMM_parted_l5.eq_2] at h
    refine at_iload (j := 4) C dMM_parted_5 rfl ?_
    refine at_bipush C dMM_parted_7 cb_16 ?_
    refine at_icmp_ge C dMM_parted_9 rfl (fun hc => ?_) (fun hc => ?_)
    · replace h := ifp hc h
      cases h
      refine at_loc (L' := [(0, .ref (ad G 40)), (1, .int a1), (2, .int a2), (3, .int a3)]) [0, 1, 2, 3] rfl ?_
      exact k0
    · replace h := ifn hc h
      refine at_iload_n (j := 3) C dMM_parted_12 rfl rfl ?_
      refine at_aload_n (j := 0) C dMM_parted_13 rfl rfl ?_
      refine gfMM_yield2 C dMM_parted_14 ?_
      refine at_iload (j := 4) C dMM_parted_17 rfl ?_
      obtain ⟨hg1, h⟩ := gd_some h
      refine ldMM_yield2 (f := c_MM_yield2) C rfl hg1 dMM_parted_19 ?_
      refine at_iadd C dMM_parted_20 ?_
      refine at_istore_n (L' := [(3, .int (a3 + (c_MM_yield2 (a4).toNatClampNeg))), (0, .ref (ad G 40)), (1, .int a1), (2, .int a2), (4, .int a4)]) C dMM_parted_21 rfl (by decide) rfl ?_
      refine at_aload_n (j := 1) C dMM_parted_22 rfl rfl ?_
      refine gfMM_hasMore C dMM_parted_23 ?_
      refine at_iload (j := 4) C dMM_parted_26 rfl ?_
      refine at_iconst C dMM_parted_28 ci_0 ?_
      obtain ⟨hg2, h⟩ := gd_some h
      refine svMM_hasMore C hg2 dMM_parted_29 ?_
      refine at_st (S1 := (z1, (z21, (z221, (z2221, (z22221, ((z2222211, c_MM_yield2), (upd c_MM_hasMore (a4).toNatClampNeg (vp_nar .boolean (0 : Int32)))))))))) rfl ?_
      refine at_iinc (j := 4) (L' := [(4, .int (a4 + (1 : Int32))), (3, .int (a3 + (c_MM_yield2 (a4).toNatClampNeg))), (0, .ref (ad G 40)), (1, .int a1), (2, .int a2)]) C dMM_parted_30 rfl ci_1 (by decide) rfl ?_
      refine at_goto C dMM_parted_33 rfl ?_
      refine at_loc (L' := [(0, .ref (ad G 40)), (1, .int a1), (2, .int a2), (3, .int (a3 + (c_MM_yield2 (a4).toNatClampNeg))), (4, .int (a4 + (1 : Int32)))]) [2, 3, 4, 1, 0] rfl ?_
      exact ih _ _ _ _ h k0
set_option maxRecDepth 100000 in
set_option maxHeartbeats 4000000 in
theorem wMM_parted_l65 {G : GG} {X : CX} {c_MM_yield2 : (Nat → Int32)} {c_MM_hasMore : (Nat → Int32)} {z1 : Z1} {z21 : Z21} {z221 : Z221} {z2221 : Z2221} {z22221 : Z22221} {z2222211 : Int64} (C : Cx G X RcMM prog_12_method_48_code 8 3 (some .int)) {Q : State → Prop}  (a1 : Int32) (a2 : Int32) (a3 : Int32) : ∀ (n : Nat) (a4 : Int32) (a5 : Int32) (E : Int32) (h : fMM_parted_l65 a1 a2 a3 c_MM_yield2 n a4 a5 = some E) (k0 : At G X 8 Q 98 [(0, .ref (ad G 40)), (1, .int a1), (2, .int a2), (3, .int a3), (4, .int E)] [] (z1, (z21, (z221, (z2221, (z22221, ((z2222211, c_MM_yield2), c_MM_hasMore))))))), At G X 8 Q 65 [(0, .ref (ad G 40)), (1, .int a1), (2, .int a2), (3, .int a3), (4, .int a4), (5, .int a5)] [] (z1, (z21, (z221, (z2221, (z22221, ((z2222211, c_MM_yield2), c_MM_hasMore)))))) := by
  intro n
  induction n with
  | zero =>
    intro a4 a5 E h k0
    rw [fMM_parted_l65.eq_1] at h
    cases h
  | succ n ih =>
    intro a4 a5 E h k0
    rw [fMM_parted_l65.eq_2] at h
    refine at_iload (j := 5) C dMM_parted_65 rfl ?_
    refine at_bipush C dMM_parted_67 cb_16 ?_
    refine at_icmp_ge C dMM_parted_69 rfl (fun hc => ?_) (fun hc => ?_)
    · replace h := ifp hc h
      cases h
      refine at_loc (L' := [(0, .ref (ad G 40)), (1, .int a1), (2, .int a2), (3, .int a3), (4, .int a4)]) [0, 1, 2, 3, 4] rfl ?_
      exact k0
    · replace h := ifn hc h
      refine at_iload (j := 4) C dMM_parted_72 rfl ?_
      refine at_iload_n (j := 1) C dMM_parted_74 rfl rfl ?_
      refine at_i2l C dMM_parted_75 ?_
      refine at_aload_n (j := 0) C dMM_parted_76 rfl rfl ?_
      refine gfMM_yield2 C dMM_parted_77 ?_
      refine at_iload (j := 5) C dMM_parted_80 rfl ?_
      obtain ⟨hg4, h⟩ := gd_some h
      refine ldMM_yield2 (f := c_MM_yield2) C rfl hg4 dMM_parted_82 ?_
      refine at_i2l C dMM_parted_83 ?_
      refine at_lmul C dMM_parted_84 ?_
      refine at_iload_n (j := 3) C dMM_parted_85 rfl rfl ?_
      refine at_i2l C dMM_parted_86 ?_
      obtain ⟨hg5, h⟩ := gd_some h
      refine at_ldiv C dMM_parted_87 hg5 ?_
      refine at_l2i C dMM_parted_88 ?_
      refine at_isub C dMM_parted_89 ?_
      refine at_istore (L' := [(4, .int (a4 - ((((a1).toInt64 * ((c_MM_yield2 (a5).toNatClampNeg)).toInt64) / (a3).toInt64)).toInt32)), (0, .ref (ad G 40)), (1, .int a1), (2, .int a2), (3, .int a3), (5, .int a5)]) C dMM_parted_90 (by decide) rfl ?_
      refine at_iinc (j := 5) (L' := [(5, .int (a5 + (1 : Int32))), (4, .int (a4 - ((((a1).toInt64 * ((c_MM_yield2 (a5).toNatClampNeg)).toInt64) / (a3).toInt64)).toInt32)), (0, .ref (ad G 40)), (1, .int a1), (2, .int a2), (3, .int a3)]) C dMM_parted_92 rfl ci_1 (by decide) rfl ?_
      refine at_goto C dMM_parted_95 rfl ?_
      refine at_loc (L' := [(0, .ref (ad G 40)), (1, .int a1), (2, .int a2), (3, .int a3), (4, .int (a4 - ((((a1).toInt64 * ((c_MM_yield2 (a5).toNatClampNeg)).toInt64) / (a3).toInt64)).toInt32)), (5, .int (a5 + (1 : Int32)))]) [2, 3, 4, 5, 1, 0] rfl ?_
      exact ih _ _ _ h k0
set_option maxRecDepth 100000 in
set_option maxHeartbeats 4000000 in
theorem wMM_parted_l114 {G : GG} {X : CX} {c_MM_yield2 : (Nat → Int32)} {c_MM_hasMore : (Nat → Int32)} {z1 : Z1} {z21 : Z21} {z221 : Z221} {z2221 : Z2221} {z22221 : Z22221} {z2222211 : Int64} (C : Cx G X RcMM prog_12_method_48_code 8 3 (some .int)) {Q : State → Prop}  (a1 : Int32) (a2 : Int32) (a3 : Int32) (a4 : Int32) (a5 : Int32) : ∀ (n : Nat) (a6 : Int32) (a7 : Int32) (E : Int32) (h : fMM_parted_l114 a1 a2 a3 a4 a5 c_MM_yield2 c_MM_hasMore n a6 a7 = some E) (k0 : At G X 8 Q 178 [(0, .ref (ad G 40)), (1, .int a1), (2, .int a2), (3, .int a3), (4, .int a4), (5, .int a5), (6, .int E)] [] (z1, (z21, (z221, (z2221, (z22221, ((z2222211, c_MM_yield2), c_MM_hasMore))))))), At G X 8 Q 114 [(0, .ref (ad G 40)), (1, .int a1), (2, .int a2), (3, .int a3), (4, .int a4), (5, .int a5), (6, .int a6), (7, .int a7)] [] (z1, (z21, (z221, (z2221, (z22221, ((z2222211, c_MM_yield2), c_MM_hasMore)))))) := by
  intro n
  induction n with
  | zero =>
    intro a6 a7 E h k0
    rw [fMM_parted_l114.eq_1] at h
    cases h
  | succ n ih =>
    intro a6 a7 E h k0
    rw [fMM_parted_l114.eq_2] at h
    refine at_iload (j := 7) C dMM_parted_114 rfl ?_
    refine at_bipush C dMM_parted_116 cb_16 ?_
    refine at_icmp_ge C dMM_parted_118 rfl (fun hc => ?_) (fun hc => ?_)
    · replace h := ifp hc h
      cases h
      refine at_loc (L' := [(0, .ref (ad G 40)), (1, .int a1), (2, .int a2), (3, .int a3), (4, .int a4), (5, .int a5), (6, .int a6)]) [0, 1, 2, 3, 4, 5, 6] rfl ?_
      exact k0
    · replace h := ifn hc h
      refine at_aload_n (j := 0) C dMM_parted_121 rfl rfl ?_
      refine gfMM_hasMore C dMM_parted_122 ?_
      refine at_iload (j := 7) C dMM_parted_125 rfl ?_
      obtain ⟨hg7, h⟩ := gd_some h
      refine ldMM_hasMore (f := c_MM_hasMore) C rfl hg7 dMM_parted_127 ?_
      refine at_if_ne C dMM_parted_128 rfl (fun hc => ?_) (fun hc => ?_)
      · replace h := ifn hc h
        refine at_iinc (j := 7) (L' := [(7, .int (a7 + (1 : Int32))), (0, .ref (ad G 40)), (1, .int a1), (2, .int a2), (3, .int a3), (4, .int a4), (5, .int a5), (6, .int a6)]) C dMM_parted_172 rfl ci_1 (by decide) rfl ?_
        refine at_goto C dMM_parted_175 rfl ?_
        refine at_loc (L' := [(0, .ref (ad G 40)), (1, .int a1), (2, .int a2), (3, .int a3), (4, .int a4), (5, .int a5), (6, .int a6), (7, .int (a7 + (1 : Int32)))]) [1, 2, 3, 4, 5, 6, 7, 0] rfl ?_
        exact ih _ _ _ h k0
      · replace h := ifp hc h
        refine at_iload (j := 6) C dMM_parted_131 rfl ?_
        refine at_if_lt C dMM_parted_133 rfl (fun hc => ?_) (fun hc => ?_)
        · replace h := ifp hc h
          refine at_iload (j := 7) C dMM_parted_168 rfl ?_
          refine at_istore (L' := [(6, .int a7), (0, .ref (ad G 40)), (1, .int a1), (2, .int a2), (3, .int a3), (4, .int a4), (5, .int a5), (7, .int a7)]) C dMM_parted_170 (by decide) rfl ?_
          refine at_iinc (j := 7) (L' := [(7, .int (a7 + (1 : Int32))), (6, .int a7), (0, .ref (ad G 40)), (1, .int a1), (2, .int a2), (3, .int a3), (4, .int a4), (5, .int a5)]) C dMM_parted_172 rfl ci_1 (by decide) rfl ?_
          refine at_goto C dMM_parted_175 rfl ?_
          refine at_loc (L' := [(0, .ref (ad G 40)), (1, .int a1), (2, .int a2), (3, .int a3), (4, .int a4), (5, .int a5), (6, .int a7), (7, .int (a7 + (1 : Int32)))]) [2, 3, 4, 5, 6, 7, 1, 0] rfl ?_
          exact ih _ _ _ h k0
        · replace h := ifn hc h
          refine at_iload_n (j := 1) C dMM_parted_136 rfl rfl ?_
          refine at_i2l C dMM_parted_137 ?_
          refine at_aload_n (j := 0) C dMM_parted_138 rfl rfl ?_
          refine gfMM_yield2 C dMM_parted_139 ?_
          refine at_iload (j := 7) C dMM_parted_142 rfl ?_
          obtain ⟨hg8, h⟩ := gd_some h
          refine ldMM_yield2 (f := c_MM_yield2) C rfl hg8 dMM_parted_144 ?_
          refine at_i2l C dMM_parted_145 ?_
          refine at_lmul C dMM_parted_146 ?_
          refine at_iload_n (j := 3) C dMM_parted_147 rfl rfl ?_
          refine at_i2l C dMM_parted_148 ?_
          obtain ⟨hg9, h⟩ := gd_some h
          refine at_lrem C dMM_parted_149 hg9 ?_
          refine at_iload_n (j := 1) C dMM_parted_150 rfl rfl ?_
          refine at_i2l C dMM_parted_151 ?_
          refine at_aload_n (j := 0) C dMM_parted_152 rfl rfl ?_
          refine gfMM_yield2 C dMM_parted_153 ?_
          refine at_iload (j := 6) C dMM_parted_156 rfl ?_
          obtain ⟨hg10, h⟩ := gd_some h
          refine ldMM_yield2 (f := c_MM_yield2) C rfl hg10 dMM_parted_158 ?_
          refine at_i2l C dMM_parted_159 ?_
          refine at_lmul C dMM_parted_160 ?_
          refine at_iload_n (j := 3) C dMM_parted_161 rfl rfl ?_
          refine at_i2l C dMM_parted_162 ?_
          obtain ⟨hg11, h⟩ := gd_some h
          refine at_lrem C dMM_parted_163 hg11 ?_
          refine at_lcmp C dMM_parted_164 ?_
          refine at_if_le C dMM_parted_165 rfl (fun hc => ?_) (fun hc => ?_)
          · replace h := ifp hc h
            refine at_iinc (j := 7) (L' := [(7, .int (a7 + (1 : Int32))), (0, .ref (ad G 40)), (1, .int a1), (2, .int a2), (3, .int a3), (4, .int a4), (5, .int a5), (6, .int a6)]) C dMM_parted_172 rfl ci_1 (by decide) rfl ?_
            refine at_goto C dMM_parted_175 rfl ?_
            refine at_loc (L' := [(0, .ref (ad G 40)), (1, .int a1), (2, .int a2), (3, .int a3), (4, .int a4), (5, .int a5), (6, .int a6), (7, .int (a7 + (1 : Int32)))]) [1, 2, 3, 4, 5, 6, 7, 0] rfl ?_
            exact ih _ _ _ h k0
          · replace h := ifn hc h
            refine at_iload (j := 7) C dMM_parted_168 rfl ?_
            refine at_istore (L' := [(6, .int a7), (0, .ref (ad G 40)), (1, .int a1), (2, .int a2), (3, .int a3), (4, .int a4), (5, .int a5), (7, .int a7)]) C dMM_parted_170 (by decide) rfl ?_
            refine at_iinc (j := 7) (L' := [(7, .int (a7 + (1 : Int32))), (6, .int a7), (0, .ref (ad G 40)), (1, .int a1), (2, .int a2), (3, .int a3), (4, .int a4), (5, .int a5)]) C dMM_parted_172 rfl ci_1 (by decide) rfl ?_
            refine at_goto C dMM_parted_175 rfl ?_
            refine at_loc (L' := [(0, .ref (ad G 40)), (1, .int a1), (2, .int a2), (3, .int a3), (4, .int a4), (5, .int a5), (6, .int a7), (7, .int (a7 + (1 : Int32)))]) [2, 3, 4, 5, 6, 7, 1, 0] rfl ?_
            exact ih _ _ _ h k0
set_option maxRecDepth 100000 in
set_option maxHeartbeats 4000000 in
theorem wMM_parted_l101 {G : GG} {X : CX} {c_MM_yield2 : (Nat → Int32)} {z1 : Z1} {z21 : Z21} {z221 : Z221} {z2221 : Z2221} {z22221 : Z22221} {z2222211 : Int64} (C : Cx G X RcMM prog_12_method_48_code 8 3 (some .int)) {Q : State → Prop}  (a1 : Int32) (a2 : Int32) (a3 : Int32) (a4 : Int32) : ∀ (n : Nat) (a5 : Int32) (c_MM_hasMore : (Nat → Int32)) (E : (Nat → Int32)) (h : fMM_parted_l101 a1 a2 a3 a4 c_MM_yield2 n a5 c_MM_hasMore = some E) (k0 : At G X 8 Q 192 [(0, .ref (ad G 40)), (1, .int a1), (2, .int a2), (3, .int a3)] [] (z1, (z21, (z221, (z2221, (z22221, ((z2222211, c_MM_yield2), E))))))), At G X 8 Q 101 [(0, .ref (ad G 40)), (1, .int a1), (2, .int a2), (3, .int a3), (4, .int a4), (5, .int a5)] [] (z1, (z21, (z221, (z2221, (z22221, ((z2222211, c_MM_yield2), c_MM_hasMore)))))) := by
  intro n
  induction n with
  | zero =>
    intro a5 c_MM_hasMore E h k0
    rw [fMM_parted_l101.eq_1] at h
    cases h
  | succ n ih =>
    intro a5 c_MM_hasMore E h k0
    rw [fMM_parted_l101.eq_2] at h
    refine at_iload (j := 5) C dMM_parted_101 rfl ?_
    refine at_iload (j := 4) C dMM_parted_103 rfl ?_
    refine at_icmp_ge C dMM_parted_105 rfl (fun hc => ?_) (fun hc => ?_)
    · replace h := ifp hc h
      cases h
      refine at_loc (L' := [(0, .ref (ad G 40)), (1, .int a1), (2, .int a2), (3, .int a3)]) [0, 1, 2, 3] rfl ?_
      exact k0
    · replace h := ifn hc h
      refine at_iconst C dMM_parted_108 ci_m1 ?_
      refine at_istore (L' := [(6, .int (-1 : Int32)), (0, .ref (ad G 40)), (1, .int a1), (2, .int a2), (3, .int a3), (4, .int a4), (5, .int a5)]) C dMM_parted_109 (by decide) rfl ?_
      refine at_iconst C dMM_parted_111 ci_1 ?_
      refine at_istore (L' := [(7, .int (1 : Int32)), (6, .int (-1 : Int32)), (0, .ref (ad G 40)), (1, .int a1), (2, .int a2), (3, .int a3), (4, .int a4), (5, .int a5)]) C dMM_parted_112 (by decide) rfl ?_
      obtain ⟨e12, he12, h⟩ := ob_some h
      refine at_loc (L' := [(0, .ref (ad G 40)), (1, .int a1), (2, .int a2), (3, .int a3), (4, .int a4), (5, .int a5), (6, .int (-1 : Int32)), (7, .int (1 : Int32))]) [2, 3, 4, 5, 6, 7, 1, 0] rfl ?_
      refine wMM_parted_l114 C _ _ _ _ _ FU _ _ _ he12 ?_
      refine at_aload_n (j := 0) C dMM_parted_178 rfl rfl ?_
      refine gfMM_hasMore C dMM_parted_179 ?_
      refine at_iload (j := 6) C dMM_parted_182 rfl ?_
      refine at_iconst C dMM_parted_184 ci_1 ?_
      obtain ⟨hg13, h⟩ := gd_some h
      refine svMM_hasMore C hg13 dMM_parted_185 ?_
      refine at_st (S1 := (z1, (z21, (z221, (z2221, (z22221, ((z2222211, c_MM_yield2), (upd c_MM_hasMore (e12).toNatClampNeg (vp_nar .boolean (1 : Int32)))))))))) rfl ?_
      refine at_iinc (j := 5) (L' := [(5, .int (a5 + (1 : Int32))), (0, .ref (ad G 40)), (1, .int a1), (2, .int a2), (3, .int a3), (4, .int a4), (6, .int e12)]) C dMM_parted_186 rfl ci_1 (by decide) rfl ?_
      refine at_goto C dMM_parted_189 rfl ?_
      refine at_loc (L' := [(0, .ref (ad G 40)), (1, .int a1), (2, .int a2), (3, .int a3), (4, .int a4), (5, .int (a5 + (1 : Int32)))]) [1, 2, 3, 4, 5, 0] rfl ?_
      exact ih _ _ _ h k0
set_option maxRecDepth 100000 in
set_option maxHeartbeats 4000000 in
theorem cMM_parted {l : Launch} {G : GG} (hG : GOK G) {c_MM_yield2 : (Nat → Int32)} {c_MM_hasMore : (Nat → Int32)} {z1 : Z1} {z21 : Z21} {z221 : Z221} {z2221 : Z2221} {z22221 : Z22221} {z2222211 : Int64} (a1 : Int32) (a2 : Int32) (R : (Int32 × (Nat → Int32))) (h : fMM_parted a1 a2 c_MM_yield2 c_MM_hasMore = some R) : Met l yMM_parted (.code yMM_parted prog_12_method_48_code 8 (some .int) :: gw) (rmm 3) (PcW G [.ref (ad G 40), .int a1, .int a2] (z1, (z21, (z221, (z2221, (z22221, ((z2222211, c_MM_yield2), c_MM_hasMore))))))) (Qw G (some (.int R.1)) (z1, (z21, (z221, (z2221, (z22221, ((z2222211, c_MM_yield2), R.2))))))) 0 0 (Aw G) := by
  refine met_of (by decide) 3 G hG _ _ (Nat.le_of_ble_eq_true rfl) _ _ (fun X _ C => ?_)
  have C : Cx G X RcMM prog_12_method_48_code 8 3 (some .int) := C
  unfold fMM_parted at h
  show At G X 8 _ 0 [(0, .ref (ad G 40)), (1, .int a1), (2, .int a2)] [] (z1, (z21, (z221, (z2221, (z22221, ((z2222211, c_MM_yield2), c_MM_hasMore))))))
  refine at_iconst C dMM_parted_0 ci_0 ?_
  refine at_istore_n (L' := [(3, .int (0 : Int32)), (0, .ref (ad G 40)), (1, .int a1), (2, .int a2)]) C dMM_parted_1 rfl (by decide) rfl ?_
  refine at_iconst C dMM_parted_2 ci_1 ?_
  refine at_istore (L' := [(4, .int (1 : Int32)), (3, .int (0 : Int32)), (0, .ref (ad G 40)), (1, .int a1), (2, .int a2)]) C dMM_parted_3 (by decide) rfl ?_
  obtain ⟨e3, he3, h⟩ := ob_some h
  refine at_loc (L' := [(0, .ref (ad G 40)), (1, .int a1), (2, .int a2), (3, .int (0 : Int32)), (4, .int (1 : Int32))]) [2, 3, 4, 1, 0] rfl ?_
  refine wMM_parted_l5 C _ _ FU _ _ _ _ he3 ?_
  refine at_iload_n (j := 1) C dMM_parted_36 rfl rfl ?_
  refine at_iconst C dMM_parted_37 ci_0 ?_
  refine at_ldc C qMM_117 dMM_parted_38 ?_
  refine at_callSi C kMM_109 (cMM_isIn C.2.2.2.2.2.2.1 _ _ _ _ rfl) (by omega) rfl rfl (Nat.le_of_ble_eq_true rfl) dMM_parted_40 ?_
  refine at_if_eq C dMM_parted_43 rfl (fun hc => ?_) (fun hc => ?_)
  · replace h := ifp hc h
    refine at_iconst C dMM_parted_57 ci_m1 ?_
    cases h
    exact at_iret C dMM_parted_58
  · replace h := ifn hc h
    refine at_iload_n (j := 2) C dMM_parted_46 rfl rfl ?_
    refine at_callSi C kMM_160 (cMM_isTown C.2.2.2.2.2.2.1 _ _ rfl) (by omega) rfl rfl (Nat.le_of_ble_eq_true rfl) dMM_parted_47 ?_
    refine at_if_eq C dMM_parted_50 rfl (fun hc => ?_) (fun hc => ?_)
    · replace h := ifp hc h
      refine at_iconst C dMM_parted_57 ci_m1 ?_
      cases h
      exact at_iret C dMM_parted_58
    · replace h := ifn hc h
      refine at_iload_n (j := 3) C dMM_parted_53 rfl rfl ?_
      refine at_if_ne C dMM_parted_54 rfl (fun hc => ?_) (fun hc => ?_)
      · replace h := ifn hc h
        refine at_iload_n (j := 1) C dMM_parted_59 rfl rfl ?_
        refine at_istore (L' := [(4, .int a1), (0, .ref (ad G 40)), (1, .int a1), (2, .int a2), (3, .int e3.1)]) C dMM_parted_60 (by decide) rfl ?_
        refine at_iconst C dMM_parted_62 ci_1 ?_
        refine at_istore (L' := [(5, .int (1 : Int32)), (4, .int a1), (0, .ref (ad G 40)), (1, .int a1), (2, .int a2), (3, .int e3.1)]) C dMM_parted_63 (by decide) rfl ?_
        obtain ⟨e6, he6, h⟩ := ob_some h
        refine at_loc (L' := [(0, .ref (ad G 40)), (1, .int a1), (2, .int a2), (3, .int e3.1), (4, .int a1), (5, .int (1 : Int32))]) [2, 3, 4, 5, 1, 0] rfl ?_
        refine wMM_parted_l65 C _ _ _ FU _ _ _ he6 ?_
        refine at_iconst C dMM_parted_98 ci_0 ?_
        refine at_istore (L' := [(5, .int (0 : Int32)), (0, .ref (ad G 40)), (1, .int a1), (2, .int a2), (3, .int e3.1), (4, .int e6)]) C dMM_parted_99 (by decide) rfl ?_
        obtain ⟨e14, he14, h⟩ := ob_some h
        refine at_loc (L' := [(0, .ref (ad G 40)), (1, .int a1), (2, .int a2), (3, .int e3.1), (4, .int e6), (5, .int (0 : Int32))]) [1, 2, 3, 4, 5, 0] rfl ?_
        refine wMM_parted_l101 C _ _ _ _ FU _ _ _ he14 ?_
        refine at_iload_n (j := 1) C dMM_parted_192 rfl rfl ?_
        refine at_i2l C dMM_parted_193 ?_
        refine at_aload_n (j := 0) C dMM_parted_194 rfl rfl ?_
        refine gfMM_yield2 C dMM_parted_195 ?_
        refine at_iload_n (j := 2) C dMM_parted_198 rfl rfl ?_
        obtain ⟨hg15, h⟩ := gd_some h
        refine ldMM_yield2 (f := c_MM_yield2) C rfl hg15 dMM_parted_199 ?_
        refine at_i2l C dMM_parted_200 ?_
        refine at_lmul C dMM_parted_201 ?_
        refine at_iload_n (j := 3) C dMM_parted_202 rfl rfl ?_
        refine at_i2l C dMM_parted_203 ?_
        obtain ⟨hg16, h⟩ := gd_some h
        refine at_ldiv C dMM_parted_204 hg16 ?_
        refine at_l2i C dMM_parted_205 ?_
        refine at_aload_n (j := 0) C dMM_parted_206 rfl rfl ?_
        refine gfMM_hasMore C dMM_parted_207 ?_
        refine at_iload_n (j := 2) C dMM_parted_210 rfl rfl ?_
        obtain ⟨hg17, h⟩ := gd_some h
        refine ldMM_hasMore (f := e14) C rfl hg17 dMM_parted_211 ?_
        refine at_if_eq C dMM_parted_212 rfl (fun hc => ?_) (fun hc => ?_)
        · replace h := ifp hc h
          refine at_iconst C dMM_parted_219 ci_0 ?_
          refine at_iadd C dMM_parted_220 ?_
          cases h
          exact at_iret C dMM_parted_221
        · replace h := ifn hc h
          refine at_iconst C dMM_parted_215 ci_1 ?_
          refine at_goto C dMM_parted_216 rfl ?_
          refine at_iadd C dMM_parted_220 ?_
          cases h
          exact at_iret C dMM_parted_221
      · replace h := ifp hc h
        refine at_iconst C dMM_parted_57 ci_m1 ?_
        cases h
        exact at_iret C dMM_parted_58
set_option maxRecDepth 100000 in
set_option maxHeartbeats 4000000 in
theorem wMM_about_l25 {G : GG} {X : CX} {c_MM_clock : Int32} {c_MM_quarters : Int32} {c_MM_weight : (Nat → Int32)} {c_MM_load : Int32} {c_MM_readAt : (Nat → Int32)} {c_MM_sendings : Int32} {c_MM_stored : Int32} {c_MM_taped : Int32} {c_MM_markets : Int32} {z11 : Z11} {z121 : Z121} {z1221 : Z1221} {z12221 : Z12221} {z122221 : Z122221} {z2111112 : (Nat → Int32)} {z2111121 : (Nat → Int32)} {z2111212 : (Nat → Int32)} {z21121 : Z21121} {z211221 : Z211221} {z2121 : Z2121} {z212211 : Z212211} {z21222 : Z21222} {z2211112 : Int32} {z221112 : Int32} {z22112 : Z22112} {z22121 : Z22121} {z2212211 : Int32} {z221222 : (Nat → Int32)} {z222 : Z222} (C : Cx G X RcMM prog_12_method_49_code 4 2 (some .int)) {Q : State → Prop}  (a1 : Int32) : ∀ (n : Nat) (a2 : Int32) (a3 : Int32) (E : Int32) (h : fMM_about_l25 a1 c_MM_readAt n a2 a3 = some E) (k0 : At G X 4 Q 53 [(0, .ref (ad G 40)), (1, .int a1), (2, .int E)] [] ((z11, (z121, (z1221, (z12221, (z122221, c_MM_clock))))), ((((((c_MM_quarters, z2111112), (z2111121, c_MM_weight)), ((c_MM_load, z2111212), c_MM_readAt)), (z21121, (z211221, c_MM_sendings))), (z2121, ((z212211, c_MM_stored), z21222))), (((((c_MM_taped, z2211112), z221112), z22112), (z22121, ((z2212211, c_MM_markets), z221222))), z222)))), At G X 4 Q 25 [(0, .ref (ad G 40)), (1, .int a1), (2, .int a2), (3, .int a3)] [] ((z11, (z121, (z1221, (z12221, (z122221, c_MM_clock))))), ((((((c_MM_quarters, z2111112), (z2111121, c_MM_weight)), ((c_MM_load, z2111212), c_MM_readAt)), (z21121, (z211221, c_MM_sendings))), (z2121, ((z212211, c_MM_stored), z21222))), (((((c_MM_taped, z2211112), z221112), z22112), (z22121, ((z2212211, c_MM_markets), z221222))), z222))) := by
  intro n
  induction n with
  | zero =>
    intro a2 a3 E h k0
    rw [fMM_about_l25.eq_1] at h
    cases h
  | succ n ih =>
    intro a2 a3 E h k0
    rw [fMM_about_l25.eq_2] at h
    refine at_iload_n (j := 3) C dMM_about_25 rfl rfl ?_
    refine at_iconst C dMM_about_26 ci_5 ?_
    refine at_icmp_ge C dMM_about_27 rfl (fun hc => ?_) (fun hc => ?_)
    · replace h := ifp hc h
      cases h
      refine at_loc (L' := [(0, .ref (ad G 40)), (1, .int a1), (2, .int a2)]) [0, 1, 2] rfl ?_
      exact k0
    · replace h := ifn hc h
      refine at_iload_n (j := 2) C dMM_about_30 rfl rfl ?_
      refine at_aload_n (j := 0) C dMM_about_31 rfl rfl ?_
      refine gfMM_readAt C dMM_about_32 ?_
      refine at_iload_n (j := 3) C dMM_about_35 rfl rfl ?_
      obtain ⟨hg1, h⟩ := gd_some h
      refine ldMM_readAt (f := c_MM_readAt) C rfl hg1 dMM_about_36 ?_
      refine at_if_le C dMM_about_37 rfl (fun hc => ?_) (fun hc => ?_)
      · replace h := ifp hc h
        refine at_iconst C dMM_about_44 ci_0 ?_
        refine at_iadd C dMM_about_45 ?_
        refine at_istore_n (L' := [(2, .int (a2 + (0 : Int32))), (0, .ref (ad G 40)), (1, .int a1), (3, .int a3)]) C dMM_about_46 rfl (by decide) rfl ?_
        refine at_iinc (j := 3) (L' := [(3, .int (a3 + (1 : Int32))), (2, .int (a2 + (0 : Int32))), (0, .ref (ad G 40)), (1, .int a1)]) C dMM_about_47 rfl ci_1 (by decide) rfl ?_
        refine at_goto C dMM_about_50 rfl ?_
        refine at_loc (L' := [(0, .ref (ad G 40)), (1, .int a1), (2, .int (a2 + (0 : Int32))), (3, .int (a3 + (1 : Int32)))]) [2, 3, 1, 0] rfl ?_
        exact ih _ _ _ h k0
      · replace h := ifn hc h
        refine at_iconst C dMM_about_40 ci_1 ?_
        refine at_goto C dMM_about_41 rfl ?_
        refine at_iadd C dMM_about_45 ?_
        refine at_istore_n (L' := [(2, .int (a2 + (1 : Int32))), (0, .ref (ad G 40)), (1, .int a1), (3, .int a3)]) C dMM_about_46 rfl (by decide) rfl ?_
        refine at_iinc (j := 3) (L' := [(3, .int (a3 + (1 : Int32))), (2, .int (a2 + (1 : Int32))), (0, .ref (ad G 40)), (1, .int a1)]) C dMM_about_47 rfl ci_1 (by decide) rfl ?_
        refine at_goto C dMM_about_50 rfl ?_
        refine at_loc (L' := [(0, .ref (ad G 40)), (1, .int a1), (2, .int (a2 + (1 : Int32))), (3, .int (a3 + (1 : Int32)))]) [2, 3, 1, 0] rfl ?_
        exact ih _ _ _ h k0
set_option maxRecDepth 100000 in
set_option maxHeartbeats 4000000 in
theorem cMM_about {l : Launch} {G : GG} (hG : GOK G) {c_MM_clock : Int32} {c_MM_quarters : Int32} {c_MM_weight : (Nat → Int32)} {c_MM_load : Int32} {c_MM_readAt : (Nat → Int32)} {c_MM_sendings : Int32} {c_MM_stored : Int32} {c_MM_taped : Int32} {c_MM_markets : Int32} {z11 : Z11} {z121 : Z121} {z1221 : Z1221} {z12221 : Z12221} {z122221 : Z122221} {z2111112 : (Nat → Int32)} {z2111121 : (Nat → Int32)} {z2111212 : (Nat → Int32)} {z21121 : Z21121} {z211221 : Z211221} {z2121 : Z2121} {z212211 : Z212211} {z21222 : Z21222} {z2211112 : Int32} {z221112 : Int32} {z22112 : Z22112} {z22121 : Z22121} {z2212211 : Int32} {z221222 : (Nat → Int32)} {z222 : Z222} (a1 : Int32) (R : Int32) (h : fMM_about a1 c_MM_clock c_MM_quarters c_MM_weight c_MM_load c_MM_readAt c_MM_sendings c_MM_stored c_MM_taped c_MM_markets = some R) : Met l yMM_about (.code yMM_about prog_12_method_49_code 4 (some .int) :: gw) (rmm 2) (PcW G [.ref (ad G 40), .int a1] ((z11, (z121, (z1221, (z12221, (z122221, c_MM_clock))))), ((((((c_MM_quarters, z2111112), (z2111121, c_MM_weight)), ((c_MM_load, z2111212), c_MM_readAt)), (z21121, (z211221, c_MM_sendings))), (z2121, ((z212211, c_MM_stored), z21222))), (((((c_MM_taped, z2211112), z221112), z22112), (z22121, ((z2212211, c_MM_markets), z221222))), z222)))) (Qw G (some (.int R)) ((z11, (z121, (z1221, (z12221, (z122221, c_MM_clock))))), ((((((c_MM_quarters, z2111112), (z2111121, c_MM_weight)), ((c_MM_load, z2111212), c_MM_readAt)), (z21121, (z211221, c_MM_sendings))), (z2121, ((z212211, c_MM_stored), z21222))), (((((c_MM_taped, z2211112), z221112), z22112), (z22121, ((z2212211, c_MM_markets), z221222))), z222)))) 0 0 (Aw G) := by
  refine met_of (by decide) 2 G hG _ _ (Nat.le_of_ble_eq_true rfl) _ _ (fun X _ C => ?_)
  have C : Cx G X RcMM prog_12_method_49_code 4 2 (some .int) := C
  unfold fMM_about at h
  show At G X 4 _ 0 [(0, .ref (ad G 40)), (1, .int a1)] [] ((z11, (z121, (z1221, (z12221, (z122221, c_MM_clock))))), ((((((c_MM_quarters, z2111112), (z2111121, c_MM_weight)), ((c_MM_load, z2111212), c_MM_readAt)), (z21121, (z211221, c_MM_sendings))), (z2121, ((z212211, c_MM_stored), z21222))), (((((c_MM_taped, z2211112), z221112), z22112), (z22121, ((z2212211, c_MM_markets), z221222))), z222)))
  refine at_iload_n (j := 1) C dMM_about_0 rfl rfl ?_
  refine at_bipush C dMM_about_1 cb_10 ?_
  refine at_bipush C dMM_about_3 cb_15 ?_
  refine at_callSi C kMM_109 (cMM_isIn C.2.2.2.2.2.2.1 _ _ _ _ rfl) (by omega) rfl rfl (Nat.le_of_ble_eq_true rfl) dMM_about_5 ?_
  refine at_if_eq C dMM_about_8 rfl (fun hc => ?_) (fun hc => ?_)
  · replace h := ifp hc h
    refine at_iconst C dMM_about_21 ci_0 ?_
    refine at_istore_n (L' := [(2, .int (0 : Int32)), (0, .ref (ad G 40)), (1, .int a1)]) C dMM_about_22 rfl (by decide) rfl ?_
    refine at_iconst C dMM_about_23 ci_0 ?_
    refine at_istore_n (L' := [(3, .int (0 : Int32)), (2, .int (0 : Int32)), (0, .ref (ad G 40)), (1, .int a1)]) C dMM_about_24 rfl (by decide) rfl ?_
    obtain ⟨e2, he2, h⟩ := ob_some h
    refine at_loc (L' := [(0, .ref (ad G 40)), (1, .int a1), (2, .int (0 : Int32)), (3, .int (0 : Int32))]) [2, 3, 1, 0] rfl ?_
    refine wMM_about_l25 C _ FU _ _ _ he2 ?_
    refine at_iload_n (j := 1) C dMM_about_53 rfl rfl ?_
    by_cases hc : a1 = (0 : Int32)
    · replace h := ifp hc h
      refine at_tin C (0 : Int32) hc dMM_about_54 (by decide) (by decide) rfl rfl ?_
      refine at_aload_n (j := 0) C dMM_about_100 rfl rfl ?_
      refine gfMM_clock (x := c_MM_clock) C rfl dMM_about_101 ?_
      cases h
      exact at_iret C dMM_about_104
    replace h := ifn hc h
    have hn0 := hc
    clear hc
    by_cases hc : a1 = (1 : Int32)
    · replace h := ifp hc h
      refine at_tin C (1 : Int32) hc dMM_about_54 (by decide) (by decide) rfl rfl ?_
      refine at_aload_n (j := 0) C dMM_about_105 rfl rfl ?_
      refine gfMM_quarters (x := c_MM_quarters) C rfl dMM_about_106 ?_
      cases h
      exact at_iret C dMM_about_109
    replace h := ifn hc h
    have hn1 := hc
    clear hc
    by_cases hc : a1 = (2 : Int32)
    · replace h := ifp hc h
      refine at_tin C (2 : Int32) hc dMM_about_54 (by decide) (by decide) rfl rfl ?_
      refine at_aload_n (j := 0) C dMM_about_110 rfl rfl ?_
      refine gfMM_sendings (x := c_MM_sendings) C rfl dMM_about_111 ?_
      cases h
      exact at_iret C dMM_about_114
    replace h := ifn hc h
    have hn2 := hc
    clear hc
    by_cases hc : a1 = (3 : Int32)
    · replace h := ifp hc h
      refine at_tin C (3 : Int32) hc dMM_about_54 (by decide) (by decide) rfl rfl ?_
      refine at_aload_n (j := 0) C dMM_about_115 rfl rfl ?_
      refine gfMM_stored (x := c_MM_stored) C rfl dMM_about_116 ?_
      cases h
      exact at_iret C dMM_about_119
    replace h := ifn hc h
    have hn3 := hc
    clear hc
    by_cases hc : a1 = (4 : Int32)
    · replace h := ifp hc h
      refine at_tin C (4 : Int32) hc dMM_about_54 (by decide) (by decide) rfl rfl ?_
      refine at_aload_n (j := 0) C dMM_about_120 rfl rfl ?_
      refine gfMM_markets (x := c_MM_markets) C rfl dMM_about_121 ?_
      cases h
      exact at_iret C dMM_about_124
    replace h := ifn hc h
    have hn4 := hc
    clear hc
    by_cases hc : a1 = (5 : Int32)
    · replace h := ifp hc h
      refine at_tin C (5 : Int32) hc dMM_about_54 (by decide) (by decide) rfl rfl ?_
      refine at_aload_n (j := 0) C dMM_about_125 rfl rfl ?_
      refine gfMM_load (x := c_MM_load) C rfl dMM_about_126 ?_
      cases h
      exact at_iret C dMM_about_129
    replace h := ifn hc h
    have hn5 := hc
    clear hc
    by_cases hc : a1 = (6 : Int32)
    · replace h := ifp hc h
      refine at_tin C (6 : Int32) hc dMM_about_54 (by decide) (by decide) rfl rfl ?_
      refine at_aload_n (j := 0) C dMM_about_130 rfl rfl ?_
      refine gfMM_taped (x := c_MM_taped) C rfl dMM_about_131 ?_
      cases h
      exact at_iret C dMM_about_134
    replace h := ifn hc h
    have hn6 := hc
    clear hc
    by_cases hc : a1 = (7 : Int32)
    · replace h := ifp hc h
      refine at_tin C (7 : Int32) hc dMM_about_54 (by decide) (by decide) rfl rfl ?_
      refine at_iload_n (j := 2) C dMM_about_135 rfl rfl ?_
      cases h
      exact at_iret C dMM_about_136
    replace h := ifn hc h
    have hn7 := hc
    clear hc
    refine at_tout C dMM_about_54 (by have := lv_neT hn0 (show ((0 : Int32)).toInt = 0 from by decide); have := lv_neT hn1 (show ((1 : Int32)).toInt = 1 from by decide); have := lv_neT hn2 (show ((2 : Int32)).toInt = 2 from by decide); have := lv_neT hn3 (show ((3 : Int32)).toInt = 3 from by decide); have := lv_neT hn4 (show ((4 : Int32)).toInt = 4 from by decide); have := lv_neT hn5 (show ((5 : Int32)).toInt = 5 from by decide); have := lv_neT hn6 (show ((6 : Int32)).toInt = 6 from by decide); have := lv_neT hn7 (show ((7 : Int32)).toInt = 7 from by decide); omega) rfl ?_
    refine at_iconst C dMM_about_137 ci_m1 ?_
    cases h
    exact at_iret C dMM_about_138
  · replace h := ifn hc h
    refine at_aload_n (j := 0) C dMM_about_11 rfl rfl ?_
    refine gfMM_weight C dMM_about_12 ?_
    refine at_iload_n (j := 1) C dMM_about_15 rfl rfl ?_
    refine at_bipush C dMM_about_16 cb_10 ?_
    refine at_isub C dMM_about_18 ?_
    obtain ⟨hg3, h⟩ := gd_some h
    refine ldMM_weight (f := c_MM_weight) C rfl hg3 dMM_about_19 ?_
    cases h
    exact at_iret C dMM_about_20
