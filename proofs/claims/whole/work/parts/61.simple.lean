/-! makings without a loop -/
theorem dRo_init_0 : decode prog_7_method_1_code 0 = .ok (.aload_n 0, 1) := by decide +kernel
theorem dRo_init_1 : decode prog_7_method_1_code 1 = .ok (.invokespecial 3, 3) := by decide +kernel
theorem dRo_init_4 : decode prog_7_method_1_code 4 = .ok (.aload_n 0, 1) := by decide +kernel
theorem dRo_init_5 : decode prog_7_method_1_code 5 = .ok (.sipush 256, 3) := by decide +kernel
theorem dRo_init_8 : decode prog_7_method_1_code 8 = .ok (.newarray .int, 2) := by decide +kernel
theorem dRo_init_10 : decode prog_7_method_1_code 10 = .ok (.putfield 9, 3) := by decide +kernel
theorem dRo_init_13 : decode prog_7_method_1_code 13 = .ok (.aload_n 0, 1) := by decide +kernel
theorem dRo_init_14 : decode prog_7_method_1_code 14 = .ok (.bipush 16, 2) := by decide +kernel
theorem dRo_init_16 : decode prog_7_method_1_code 16 = .ok (.newarray .int, 2) := by decide +kernel
theorem dRo_init_18 : decode prog_7_method_1_code 18 = .ok (.putfield 15, 3) := by decide +kernel
theorem dRo_init_21 : decode prog_7_method_1_code 21 = .ok (.aload_n 0, 1) := by decide +kernel
theorem dRo_init_22 : decode prog_7_method_1_code 22 = .ok (.bipush 16, 2) := by decide +kernel
theorem dRo_init_24 : decode prog_7_method_1_code 24 = .ok (.newarray .int, 2) := by decide +kernel
theorem dRo_init_26 : decode prog_7_method_1_code 26 = .ok (.putfield 18, 3) := by decide +kernel
theorem dRo_init_29 : decode prog_7_method_1_code 29 = .ok (.return_, 1) := by decide +kernel
def woRo (K : CC) (h : Nat) (u : Nat → Nat) : va_W := [(h, .inr (5, [.ref (u 0), .ref (u 1), .ref (u 2)])), ((u 0), .inl (K.2 0, 256, .inl (fun _ => 0))), ((u 1), .inl (K.2 0, 16, .inl (fun _ => 0))), ((u 2), .inl (K.2 0, 16, .inl (fun _ => 0)))]
theorem mRo {l : Launch} (K : CC) (h sz : Nat) : Met l yRo_init (.code yRo_init prog_7_method_1_code 1 none :: gw) (rmC 1 3 288) (PcB K h 5 [.null, .null, .null] sz) (QcB K (woRo K h) (va_A [(h, .inr (5, [.null, .null, .null]))] sz)) 3 288 (va_A [(h, .inr (5, [.null, .null, .null]))] sz) := by
  refine met_mk (y := yRo_init) (cc := prog_7_method_1_code) (mL := 1) (by decide) rfl 1 3 288 K h 5 [.null, .null, .null] sz (by decide) (woRo K h) (fun X A _ C => ?_)
  have C : Kx K X A RcRo prog_7_method_1_code 1 1 3 288 := C
  refine bt_aload_n (j := 0) C dRo_init_0 rfl rfl ?_
  refine bt_obj C (by omega) (mg (i := 72) (by decide +kernel) rfl) dRo_init_1 ?_
  refine bt_aload_n (j := 0) C dRo_init_4 rfl rfl ?_
  refine bt_sipush (x := 256) C dRo_init_5 (by decide) ?_
  refine bt_newa (N := 256) (a0 := (256, .inl (fun _ => 0))) C 0 rfl rfl (mg (i := 83) (by decide +kernel) rfl) (fun _ => rfl) (by decide) (by decide) (by decide) (by decide) (by decide) dRo_init_8 (fun q0 => ?_)
  refine bt_put (ty := .array .int) C 0 5 0 rfl rfl (by decide) iwRo tcRo tyRo nmRo lkRo_length rfl rfl rfl rfl (Nat.le_of_ble_eq_true rfl) dRo_init_10 ?_
  refine bt_w (ws' := [(h, .inr (5, [.ref q0, .null, .null])), (q0, .inl (K.2 0, 256, .inl (fun _ => 0)))]) rfl ?_
  refine bt_aload_n (j := 0) C dRo_init_13 rfl rfl ?_
  refine bt_bipush (x := 16) C dRo_init_14 (by decide) ?_
  refine bt_newa (N := 16) (a0 := (16, .inl (fun _ => 0))) C 0 rfl rfl (mg (i := 83) (by decide +kernel) rfl) (fun _ => rfl) (by decide) (by decide) (by decide) (by decide) (by decide) dRo_init_16 (fun q1 => ?_)
  refine bt_put (ty := .array .int) C 0 5 1 rfl rfl (by decide) iwRo tcRo tyRo nmRo lkRo_reach rfl rfl rfl rfl (Nat.le_of_ble_eq_true rfl) dRo_init_18 ?_
  refine bt_w (ws' := [(h, .inr (5, [.ref q0, .ref q1, .null])), (q0, .inl (K.2 0, 256, .inl (fun _ => 0))), (q1, .inl (K.2 0, 16, .inl (fun _ => 0)))]) rfl ?_
  refine bt_aload_n (j := 0) C dRo_init_21 rfl rfl ?_
  refine bt_bipush (x := 16) C dRo_init_22 (by decide) ?_
  refine bt_newa (N := 16) (a0 := (16, .inl (fun _ => 0))) C 0 rfl rfl (mg (i := 83) (by decide +kernel) rfl) (fun _ => rfl) (by decide) (by decide) (by decide) (by decide) (by decide) dRo_init_24 (fun q2 => ?_)
  refine bt_put (ty := .array .int) C 0 5 2 rfl rfl (by decide) iwRo tcRo tyRo nmRo lkRo_settled rfl rfl rfl rfl (Nat.le_of_ble_eq_true rfl) dRo_init_26 ?_
  refine bt_w (ws' := [(h, .inr (5, [.ref q0, .ref q1, .ref q2])), (q0, .inl (K.2 0, 256, .inl (fun _ => 0))), (q1, .inl (K.2 0, 16, .inl (fun _ => 0))), (q2, .inl (K.2 0, 16, .inl (fun _ => 0)))]) rfl ?_
  exact bt_vret C (fun i => ([q0, q1, q2] : List Nat).getD i 0) rfl dRo_init_29
theorem dTa_init_0 : decode prog_10_method_1_code 0 = .ok (.aload_n 0, 1) := by decide +kernel
theorem dTa_init_1 : decode prog_10_method_1_code 1 = .ok (.invokespecial 1, 3) := by decide +kernel
theorem dTa_init_4 : decode prog_10_method_1_code 4 = .ok (.aload_n 0, 1) := by decide +kernel
theorem dTa_init_5 : decode prog_10_method_1_code 5 = .ok (.sipush 300, 3) := by decide +kernel
theorem dTa_init_8 : decode prog_10_method_1_code 8 = .ok (.newarray .byte, 2) := by decide +kernel
theorem dTa_init_10 : decode prog_10_method_1_code 10 = .ok (.putfield 9, 3) := by decide +kernel
theorem dTa_init_13 : decode prog_10_method_1_code 13 = .ok (.aload_n 0, 1) := by decide +kernel
theorem dTa_init_14 : decode prog_10_method_1_code 14 = .ok (.iconst 0, 1) := by decide +kernel
theorem dTa_init_15 : decode prog_10_method_1_code 15 = .ok (.putfield 13, 3) := by decide +kernel
theorem dTa_init_18 : decode prog_10_method_1_code 18 = .ok (.return_, 1) := by decide +kernel
def woTa (K : CC) (h : Nat) (u : Nat → Nat) : va_W := [(h, .inr (8, [.ref (u 0), .int 0])), ((u 0), .inl (K.2 1, 300, .inl (fun _ => 0)))]
theorem mTa {l : Launch} (K : CC) (h sz : Nat) : Met l yTa_init (.code yTa_init prog_10_method_1_code 1 none :: gw) (rmC 1 1 300) (PcB K h 8 [.null, .int 0] sz) (QcB K (woTa K h) (va_A [(h, .inr (8, [.null, .int 0]))] sz)) 1 300 (va_A [(h, .inr (8, [.null, .int 0]))] sz) := by
  refine met_mk (y := yTa_init) (cc := prog_10_method_1_code) (mL := 1) (by decide) rfl 1 1 300 K h 8 [.null, .int 0] sz (by decide) (woTa K h) (fun X A _ C => ?_)
  have C : Kx K X A RcTa prog_10_method_1_code 1 1 1 300 := C
  refine bt_aload_n (j := 0) C dTa_init_0 rfl rfl ?_
  refine bt_obj C (by omega) (mg (i := 105) (by decide +kernel) rfl) dTa_init_1 ?_
  refine bt_aload_n (j := 0) C dTa_init_4 rfl rfl ?_
  refine bt_sipush (x := 300) C dTa_init_5 (by decide) ?_
  refine bt_newa (N := 300) (a0 := (300, .inl (fun _ => 0))) C 1 rfl rfl (mg (i := 113) (by decide +kernel) rfl) (fun _ => rfl) (by decide) (by decide) (by decide) (by decide) (by decide) dTa_init_8 (fun q0 => ?_)
  refine bt_put (ty := .array .byte) C 0 8 0 rfl rfl (by decide) iwTa tcTa tyTa nmTa lkTa_bytes rfl rfl rfl rfl (Nat.le_of_ble_eq_true rfl) dTa_init_10 ?_
  refine bt_w (ws' := [(h, .inr (8, [.ref q0, .int 0])), (q0, .inl (K.2 1, 300, .inl (fun _ => 0)))]) rfl ?_
  refine bt_aload_n (j := 0) C dTa_init_13 rfl rfl ?_
  refine bt_iconst (x := 0) C dTa_init_14 (by decide) ?_
  refine bt_put (ty := .int) C 0 8 1 rfl rfl (by decide) iwTa tcTa tyTa nmTa lkTa_size rfl rfl rfl rfl (Nat.le_of_ble_eq_true rfl) dTa_init_15 ?_
  refine bt_w (ws' := [(h, .inr (8, [.ref q0, .int 0])), (q0, .inl (K.2 1, 300, .inl (fun _ => 0)))]) rfl ?_
  exact bt_vret C (fun i => ([q0] : List Nat).getD i 0) rfl dTa_init_18
theorem dLi_init_0 : decode prog_4_method_1_code 0 = .ok (.aload_n 0, 1) := by decide +kernel
theorem dLi_init_1 : decode prog_4_method_1_code 1 = .ok (.invokespecial 3, 3) := by decide +kernel
theorem dLi_init_4 : decode prog_4_method_1_code 4 = .ok (.aload_n 0, 1) := by decide +kernel
theorem dLi_init_5 : decode prog_4_method_1_code 5 = .ok (.bipush 96, 2) := by decide +kernel
theorem dLi_init_7 : decode prog_4_method_1_code 7 = .ok (.newarray .int, 2) := by decide +kernel
theorem dLi_init_9 : decode prog_4_method_1_code 9 = .ok (.putfield 9, 3) := by decide +kernel
theorem dLi_init_12 : decode prog_4_method_1_code 12 = .ok (.aload_n 0, 1) := by decide +kernel
theorem dLi_init_13 : decode prog_4_method_1_code 13 = .ok (.bipush 16, 2) := by decide +kernel
theorem dLi_init_15 : decode prog_4_method_1_code 15 = .ok (.newarray .int, 2) := by decide +kernel
theorem dLi_init_17 : decode prog_4_method_1_code 17 = .ok (.putfield 15, 3) := by decide +kernel
theorem dLi_init_20 : decode prog_4_method_1_code 20 = .ok (.aload_n 0, 1) := by decide +kernel
theorem dLi_init_21 : decode prog_4_method_1_code 21 = .ok (.iconst 0, 1) := by decide +kernel
theorem dLi_init_22 : decode prog_4_method_1_code 22 = .ok (.putfield 18, 3) := by decide +kernel
theorem dLi_init_25 : decode prog_4_method_1_code 25 = .ok (.aload_n 0, 1) := by decide +kernel
theorem dLi_init_26 : decode prog_4_method_1_code 26 = .ok (.iconst 0, 1) := by decide +kernel
theorem dLi_init_27 : decode prog_4_method_1_code 27 = .ok (.putfield 22, 3) := by decide +kernel
theorem dLi_init_30 : decode prog_4_method_1_code 30 = .ok (.aload_n 0, 1) := by decide +kernel
theorem dLi_init_31 : decode prog_4_method_1_code 31 = .ok (.iconst (-1), 1) := by decide +kernel
theorem dLi_init_32 : decode prog_4_method_1_code 32 = .ok (.putfield 26, 3) := by decide +kernel
theorem dLi_init_35 : decode prog_4_method_1_code 35 = .ok (.return_, 1) := by decide +kernel
def woLi (K : CC) (h : Nat) (u : Nat → Nat) : va_W := [(h, .inr (2, [.ref (u 0), .ref (u 1), .int 0, .int 0, .int 0, .int 0, .int 0, .int 0, .int 0, .int 0, .int 0, .int 0, .int (-1)])), ((u 0), .inl (K.2 0, 96, .inl (fun _ => 0))), ((u 1), .inl (K.2 0, 16, .inl (fun _ => 0)))]
theorem mLi {l : Launch} (K : CC) (h sz : Nat) : Met l yLi_init (.code yLi_init prog_4_method_1_code 1 none :: gw) (rmC 1 2 112) (PcB K h 2 [.null, .null, .int 0, .int 0, .int 0, .int 0, .int 0, .int 0, .int 0, .int 0, .int 0, .int 0, .int 0] sz) (QcB K (woLi K h) (va_A [(h, .inr (2, [.null, .null, .int 0, .int 0, .int 0, .int 0, .int 0, .int 0, .int 0, .int 0, .int 0, .int 0, .int 0]))] sz)) 2 112 (va_A [(h, .inr (2, [.null, .null, .int 0, .int 0, .int 0, .int 0, .int 0, .int 0, .int 0, .int 0, .int 0, .int 0, .int 0]))] sz) := by
  refine met_mk (y := yLi_init) (cc := prog_4_method_1_code) (mL := 1) (by decide) rfl 1 2 112 K h 2 [.null, .null, .int 0, .int 0, .int 0, .int 0, .int 0, .int 0, .int 0, .int 0, .int 0, .int 0, .int 0] sz (by decide) (woLi K h) (fun X A _ C => ?_)
  have C : Kx K X A RcLi prog_4_method_1_code 1 1 2 112 := C
  refine bt_aload_n (j := 0) C dLi_init_0 rfl rfl ?_
  refine bt_obj C (by omega) (mg (i := 119) (by decide +kernel) rfl) dLi_init_1 ?_
  refine bt_aload_n (j := 0) C dLi_init_4 rfl rfl ?_
  refine bt_bipush (x := 96) C dLi_init_5 (by decide) ?_
  refine bt_newa (N := 96) (a0 := (96, .inl (fun _ => 0))) C 0 rfl rfl (mg (i := 83) (by decide +kernel) rfl) (fun _ => rfl) (by decide) (by decide) (by decide) (by decide) (by decide) dLi_init_7 (fun q0 => ?_)
  refine bt_put (ty := .array .int) C 0 2 0 rfl rfl (by decide) iwLi tcLi tyLi nmLi lkLi_row rfl rfl rfl rfl (Nat.le_of_ble_eq_true rfl) dLi_init_9 ?_
  refine bt_w (ws' := [(h, .inr (2, [.ref q0, .null, .int 0, .int 0, .int 0, .int 0, .int 0, .int 0, .int 0, .int 0, .int 0, .int 0, .int 0])), (q0, .inl (K.2 0, 96, .inl (fun _ => 0)))]) rfl ?_
  refine bt_aload_n (j := 0) C dLi_init_12 rfl rfl ?_
  refine bt_bipush (x := 16) C dLi_init_13 (by decide) ?_
  refine bt_newa (N := 16) (a0 := (16, .inl (fun _ => 0))) C 0 rfl rfl (mg (i := 83) (by decide +kernel) rfl) (fun _ => rfl) (by decide) (by decide) (by decide) (by decide) (by decide) dLi_init_15 (fun q1 => ?_)
  refine bt_put (ty := .array .int) C 0 2 1 rfl rfl (by decide) iwLi tcLi tyLi nmLi lkLi_townSeen rfl rfl rfl rfl (Nat.le_of_ble_eq_true rfl) dLi_init_17 ?_
  refine bt_w (ws' := [(h, .inr (2, [.ref q0, .ref q1, .int 0, .int 0, .int 0, .int 0, .int 0, .int 0, .int 0, .int 0, .int 0, .int 0, .int 0])), (q0, .inl (K.2 0, 96, .inl (fun _ => 0))), (q1, .inl (K.2 0, 16, .inl (fun _ => 0)))]) rfl ?_
  refine bt_aload_n (j := 0) C dLi_init_20 rfl rfl ?_
  refine bt_iconst (x := 0) C dLi_init_21 (by decide) ?_
  refine bt_put (ty := .boolean) C 0 2 10 rfl rfl (by decide) iwLi tcLi tyLi nmLi lkLi_anyRead rfl rfl rfl rfl (Nat.le_of_ble_eq_true rfl) dLi_init_22 ?_
  refine bt_w (ws' := [(h, .inr (2, [.ref q0, .ref q1, .int 0, .int 0, .int 0, .int 0, .int 0, .int 0, .int 0, .int 0, .int 0, .int 0, .int 0])), (q0, .inl (K.2 0, 96, .inl (fun _ => 0))), (q1, .inl (K.2 0, 16, .inl (fun _ => 0)))]) rfl ?_
  refine bt_aload_n (j := 0) C dLi_init_25 rfl rfl ?_
  refine bt_iconst (x := 0) C dLi_init_26 (by decide) ?_
  refine bt_put (ty := .int) C 0 2 11 rfl rfl (by decide) iwLi tcLi tyLi nmLi lkLi_faultKind rfl rfl rfl rfl (Nat.le_of_ble_eq_true rfl) dLi_init_27 ?_
  refine bt_w (ws' := [(h, .inr (2, [.ref q0, .ref q1, .int 0, .int 0, .int 0, .int 0, .int 0, .int 0, .int 0, .int 0, .int 0, .int 0, .int 0])), (q0, .inl (K.2 0, 96, .inl (fun _ => 0))), (q1, .inl (K.2 0, 16, .inl (fun _ => 0)))]) rfl ?_
  refine bt_aload_n (j := 0) C dLi_init_30 rfl rfl ?_
  refine bt_iconst (x := -1) C dLi_init_31 (by decide) ?_
  refine bt_put (ty := .int) C 0 2 12 rfl rfl (by decide) iwLi tcLi tyLi nmLi lkLi_faultPlace rfl rfl rfl rfl (Nat.le_of_ble_eq_true rfl) dLi_init_32 ?_
  refine bt_w (ws' := [(h, .inr (2, [.ref q0, .ref q1, .int 0, .int 0, .int 0, .int 0, .int 0, .int 0, .int 0, .int 0, .int 0, .int 0, .int (-1)])), (q0, .inl (K.2 0, 96, .inl (fun _ => 0))), (q1, .inl (K.2 0, 16, .inl (fun _ => 0)))]) rfl ?_
  exact bt_vret C (fun i => ([q0, q1] : List Nat).getD i 0) rfl dLi_init_35
theorem dAc_init_0 : decode prog_2_method_1_code 0 = .ok (.aload_n 0, 1) := by decide +kernel
theorem dAc_init_1 : decode prog_2_method_1_code 1 = .ok (.invokespecial 3, 3) := by decide +kernel
theorem dAc_init_4 : decode prog_2_method_1_code 4 = .ok (.aload_n 0, 1) := by decide +kernel
theorem dAc_init_5 : decode prog_2_method_1_code 5 = .ok (.sipush 3168, 3) := by decide +kernel
theorem dAc_init_8 : decode prog_2_method_1_code 8 = .ok (.newarray .int, 2) := by decide +kernel
theorem dAc_init_10 : decode prog_2_method_1_code 10 = .ok (.putfield 11, 3) := by decide +kernel
theorem dAc_init_13 : decode prog_2_method_1_code 13 = .ok (.aload_n 0, 1) := by decide +kernel
theorem dAc_init_14 : decode prog_2_method_1_code 14 = .ok (.bipush 96, 2) := by decide +kernel
theorem dAc_init_16 : decode prog_2_method_1_code 16 = .ok (.newarray .int, 2) := by decide +kernel
theorem dAc_init_18 : decode prog_2_method_1_code 18 = .ok (.putfield 15, 3) := by decide +kernel
theorem dAc_init_21 : decode prog_2_method_1_code 21 = .ok (.aload_n 0, 1) := by decide +kernel
theorem dAc_init_22 : decode prog_2_method_1_code 22 = .ok (.bipush 96, 2) := by decide +kernel
theorem dAc_init_24 : decode prog_2_method_1_code 24 = .ok (.newarray .int, 2) := by decide +kernel
theorem dAc_init_26 : decode prog_2_method_1_code 26 = .ok (.putfield 18, 3) := by decide +kernel
theorem dAc_init_29 : decode prog_2_method_1_code 29 = .ok (.aload_n 0, 1) := by decide +kernel
theorem dAc_init_30 : decode prog_2_method_1_code 30 = .ok (.bipush 96, 2) := by decide +kernel
theorem dAc_init_32 : decode prog_2_method_1_code 32 = .ok (.newarray .int, 2) := by decide +kernel
theorem dAc_init_34 : decode prog_2_method_1_code 34 = .ok (.putfield 21, 3) := by decide +kernel
theorem dAc_init_37 : decode prog_2_method_1_code 37 = .ok (.aload_n 0, 1) := by decide +kernel
theorem dAc_init_38 : decode prog_2_method_1_code 38 = .ok (.bipush 16, 2) := by decide +kernel
theorem dAc_init_40 : decode prog_2_method_1_code 40 = .ok (.newarray .long, 2) := by decide +kernel
theorem dAc_init_42 : decode prog_2_method_1_code 42 = .ok (.putfield 24, 3) := by decide +kernel
theorem dAc_init_45 : decode prog_2_method_1_code 45 = .ok (.return_, 1) := by decide +kernel
def woAc (K : CC) (h : Nat) (u : Nat → Nat) : va_W := [(h, .inr (0, [.ref (u 0), .ref (u 1), .ref (u 2), .ref (u 3), .ref (u 4)])), ((u 0), .inl (K.2 0, 3168, .inl (fun _ => 0))), ((u 1), .inl (K.2 0, 96, .inl (fun _ => 0))), ((u 2), .inl (K.2 0, 96, .inl (fun _ => 0))), ((u 3), .inl (K.2 0, 96, .inl (fun _ => 0))), ((u 4), .inl (K.2 2, 16, .inr (.inl (fun _ => 0))))]
theorem mAc {l : Launch} (K : CC) (h sz : Nat) : Met l yAc_init (.code yAc_init prog_2_method_1_code 1 none :: gw) (rmC 1 5 3472) (PcB K h 0 [.null, .null, .null, .null, .null] sz) (QcB K (woAc K h) (va_A [(h, .inr (0, [.null, .null, .null, .null, .null]))] sz)) 5 3472 (va_A [(h, .inr (0, [.null, .null, .null, .null, .null]))] sz) := by
  refine met_mk (y := yAc_init) (cc := prog_2_method_1_code) (mL := 1) (by decide) rfl 1 5 3472 K h 0 [.null, .null, .null, .null, .null] sz (by decide) (woAc K h) (fun X A _ C => ?_)
  have C : Kx K X A RcAc prog_2_method_1_code 1 1 5 3472 := C
  refine bt_aload_n (j := 0) C dAc_init_0 rfl rfl ?_
  refine bt_obj C (by omega) (mg (i := 184) (by decide +kernel) rfl) dAc_init_1 ?_
  refine bt_aload_n (j := 0) C dAc_init_4 rfl rfl ?_
  refine bt_sipush (x := 3168) C dAc_init_5 (by decide) ?_
  refine bt_newa (N := 3168) (a0 := (3168, .inl (fun _ => 0))) C 0 rfl rfl (mg (i := 83) (by decide +kernel) rfl) (fun _ => rfl) (by decide) (by decide) (by decide) (by decide) (by decide) dAc_init_8 (fun q0 => ?_)
  refine bt_put (ty := .array .int) C 0 0 0 rfl rfl (by decide) iwAc tcAc tyAc nmAc lkAc_unpaid rfl rfl rfl rfl (Nat.le_of_ble_eq_true rfl) dAc_init_10 ?_
  refine bt_w (ws' := [(h, .inr (0, [.ref q0, .null, .null, .null, .null])), (q0, .inl (K.2 0, 3168, .inl (fun _ => 0)))]) rfl ?_
  refine bt_aload_n (j := 0) C dAc_init_13 rfl rfl ?_
  refine bt_bipush (x := 96) C dAc_init_14 (by decide) ?_
  refine bt_newa (N := 96) (a0 := (96, .inl (fun _ => 0))) C 0 rfl rfl (mg (i := 83) (by decide +kernel) rfl) (fun _ => rfl) (by decide) (by decide) (by decide) (by decide) (by decide) dAc_init_16 (fun q1 => ?_)
  refine bt_put (ty := .array .int) C 0 0 1 rfl rfl (by decide) iwAc tcAc tyAc nmAc lkAc_owing rfl rfl rfl rfl (Nat.le_of_ble_eq_true rfl) dAc_init_18 ?_
  refine bt_w (ws' := [(h, .inr (0, [.ref q0, .ref q1, .null, .null, .null])), (q0, .inl (K.2 0, 3168, .inl (fun _ => 0))), (q1, .inl (K.2 0, 96, .inl (fun _ => 0)))]) rfl ?_
  refine bt_aload_n (j := 0) C dAc_init_21 rfl rfl ?_
  refine bt_bipush (x := 96) C dAc_init_22 (by decide) ?_
  refine bt_newa (N := 96) (a0 := (96, .inl (fun _ => 0))) C 0 rfl rfl (mg (i := 83) (by decide +kernel) rfl) (fun _ => rfl) (by decide) (by decide) (by decide) (by decide) (by decide) dAc_init_24 (fun q2 => ?_)
  refine bt_put (ty := .array .int) C 0 0 2 rfl rfl (by decide) iwAc tcAc tyAc nmAc lkAc_gifts rfl rfl rfl rfl (Nat.le_of_ble_eq_true rfl) dAc_init_26 ?_
  refine bt_w (ws' := [(h, .inr (0, [.ref q0, .ref q1, .ref q2, .null, .null])), (q0, .inl (K.2 0, 3168, .inl (fun _ => 0))), (q1, .inl (K.2 0, 96, .inl (fun _ => 0))), (q2, .inl (K.2 0, 96, .inl (fun _ => 0)))]) rfl ?_
  refine bt_aload_n (j := 0) C dAc_init_29 rfl rfl ?_
  refine bt_bipush (x := 96) C dAc_init_30 (by decide) ?_
  refine bt_newa (N := 96) (a0 := (96, .inl (fun _ => 0))) C 0 rfl rfl (mg (i := 83) (by decide +kernel) rfl) (fun _ => rfl) (by decide) (by decide) (by decide) (by decide) (by decide) dAc_init_32 (fun q3 => ?_)
  refine bt_put (ty := .array .int) C 0 0 3 rfl rfl (by decide) iwAc tcAc tyAc nmAc lkAc_paidOff rfl rfl rfl rfl (Nat.le_of_ble_eq_true rfl) dAc_init_34 ?_
  refine bt_w (ws' := [(h, .inr (0, [.ref q0, .ref q1, .ref q2, .ref q3, .null])), (q0, .inl (K.2 0, 3168, .inl (fun _ => 0))), (q1, .inl (K.2 0, 96, .inl (fun _ => 0))), (q2, .inl (K.2 0, 96, .inl (fun _ => 0))), (q3, .inl (K.2 0, 96, .inl (fun _ => 0)))]) rfl ?_
  refine bt_aload_n (j := 0) C dAc_init_37 rfl rfl ?_
  refine bt_bipush (x := 16) C dAc_init_38 (by decide) ?_
  refine bt_newa (N := 16) (a0 := (16, .inr (.inl (fun _ => 0)))) C 2 rfl rfl (mg (i := 201) (by decide +kernel) rfl) (fun _ => rfl) (by decide) (by decide) (by decide) (by decide) (by decide) dAc_init_40 (fun q4 => ?_)
  refine bt_put (ty := .array .long) C 0 0 4 rfl rfl (by decide) iwAc tcAc tyAc nmAc lkAc_lateOfPaid rfl rfl rfl rfl (Nat.le_of_ble_eq_true rfl) dAc_init_42 ?_
  refine bt_w (ws' := [(h, .inr (0, [.ref q0, .ref q1, .ref q2, .ref q3, .ref q4])), (q0, .inl (K.2 0, 3168, .inl (fun _ => 0))), (q1, .inl (K.2 0, 96, .inl (fun _ => 0))), (q2, .inl (K.2 0, 96, .inl (fun _ => 0))), (q3, .inl (K.2 0, 96, .inl (fun _ => 0))), (q4, .inl (K.2 2, 16, .inr (.inl (fun _ => 0))))]) rfl ?_
  exact bt_vret C (fun i => ([q0, q1, q2, q3, q4] : List Nat).getD i 0) rfl dAc_init_45
theorem dSe_init_0 : decode prog_8_method_1_code 0 = .ok (.aload_n 0, 1) := by decide +kernel
theorem dSe_init_1 : decode prog_8_method_1_code 1 = .ok (.invokespecial 3, 3) := by decide +kernel
theorem dSe_init_4 : decode prog_8_method_1_code 4 = .ok (.aload_n 0, 1) := by decide +kernel
theorem dSe_init_5 : decode prog_8_method_1_code 5 = .ok (.sipush 800, 3) := by decide +kernel
theorem dSe_init_8 : decode prog_8_method_1_code 8 = .ok (.newarray .int, 2) := by decide +kernel
theorem dSe_init_10 : decode prog_8_method_1_code 10 = .ok (.putfield 11, 3) := by decide +kernel
theorem dSe_init_13 : decode prog_8_method_1_code 13 = .ok (.aload_n 0, 1) := by decide +kernel
theorem dSe_init_14 : decode prog_8_method_1_code 14 = .ok (.bipush 100, 2) := by decide +kernel
theorem dSe_init_16 : decode prog_8_method_1_code 16 = .ok (.newarray .int, 2) := by decide +kernel
theorem dSe_init_18 : decode prog_8_method_1_code 18 = .ok (.putfield 15, 3) := by decide +kernel
theorem dSe_init_21 : decode prog_8_method_1_code 21 = .ok (.aload_n 0, 1) := by decide +kernel
theorem dSe_init_22 : decode prog_8_method_1_code 22 = .ok (.iconst 0, 1) := by decide +kernel
theorem dSe_init_23 : decode prog_8_method_1_code 23 = .ok (.putfield 18, 3) := by decide +kernel
theorem dSe_init_26 : decode prog_8_method_1_code 26 = .ok (.aload_n 0, 1) := by decide +kernel
theorem dSe_init_27 : decode prog_8_method_1_code 27 = .ok (.iconst 0, 1) := by decide +kernel
theorem dSe_init_28 : decode prog_8_method_1_code 28 = .ok (.putfield 22, 3) := by decide +kernel
theorem dSe_init_31 : decode prog_8_method_1_code 31 = .ok (.aload_n 0, 1) := by decide +kernel
theorem dSe_init_32 : decode prog_8_method_1_code 32 = .ok (.iconst 0, 1) := by decide +kernel
theorem dSe_init_33 : decode prog_8_method_1_code 33 = .ok (.putfield 25, 3) := by decide +kernel
theorem dSe_init_36 : decode prog_8_method_1_code 36 = .ok (.return_, 1) := by decide +kernel
def woSe (K : CC) (h : Nat) (u : Nat → Nat) : va_W := [(h, .inr (6, [.ref (u 0), .ref (u 1), .int 0, .int 0, .int 0])), ((u 0), .inl (K.2 0, 800, .inl (fun _ => 0))), ((u 1), .inl (K.2 0, 100, .inl (fun _ => 0)))]
theorem mSe {l : Launch} (K : CC) (h sz : Nat) : Met l ySe_init (.code ySe_init prog_8_method_1_code 1 none :: gw) (rmC 1 2 900) (PcB K h 6 [.null, .null, .int 0, .int 0, .int 0] sz) (QcB K (woSe K h) (va_A [(h, .inr (6, [.null, .null, .int 0, .int 0, .int 0]))] sz)) 2 900 (va_A [(h, .inr (6, [.null, .null, .int 0, .int 0, .int 0]))] sz) := by
  refine met_mk (y := ySe_init) (cc := prog_8_method_1_code) (mL := 1) (by decide) rfl 1 2 900 K h 6 [.null, .null, .int 0, .int 0, .int 0] sz (by decide) (woSe K h) (fun X A _ C => ?_)
  have C : Kx K X A RcSe prog_8_method_1_code 1 1 2 900 := C
  refine bt_aload_n (j := 0) C dSe_init_0 rfl rfl ?_
  refine bt_obj C (by omega) (mg (i := 207) (by decide +kernel) rfl) dSe_init_1 ?_
  refine bt_aload_n (j := 0) C dSe_init_4 rfl rfl ?_
  refine bt_sipush (x := 800) C dSe_init_5 (by decide) ?_
  refine bt_newa (N := 800) (a0 := (800, .inl (fun _ => 0))) C 0 rfl rfl (mg (i := 83) (by decide +kernel) rfl) (fun _ => rfl) (by decide) (by decide) (by decide) (by decide) (by decide) dSe_init_8 (fun q0 => ?_)
  refine bt_put (ty := .array .int) C 0 6 0 rfl rfl (by decide) iwSe tcSe tySe nmSe lkSe_table rfl rfl rfl rfl (Nat.le_of_ble_eq_true rfl) dSe_init_10 ?_
  refine bt_w (ws' := [(h, .inr (6, [.ref q0, .null, .int 0, .int 0, .int 0])), (q0, .inl (K.2 0, 800, .inl (fun _ => 0)))]) rfl ?_
  refine bt_aload_n (j := 0) C dSe_init_13 rfl rfl ?_
  refine bt_bipush (x := 100) C dSe_init_14 (by decide) ?_
  refine bt_newa (N := 100) (a0 := (100, .inl (fun _ => 0))) C 0 rfl rfl (mg (i := 83) (by decide +kernel) rfl) (fun _ => rfl) (by decide) (by decide) (by decide) (by decide) (by decide) dSe_init_16 (fun q1 => ?_)
  refine bt_put (ty := .array .int) C 0 6 1 rfl rfl (by decide) iwSe tcSe tySe nmSe lkSe_storedOrder rfl rfl rfl rfl (Nat.le_of_ble_eq_true rfl) dSe_init_18 ?_
  refine bt_w (ws' := [(h, .inr (6, [.ref q0, .ref q1, .int 0, .int 0, .int 0])), (q0, .inl (K.2 0, 800, .inl (fun _ => 0))), (q1, .inl (K.2 0, 100, .inl (fun _ => 0)))]) rfl ?_
  refine bt_aload_n (j := 0) C dSe_init_21 rfl rfl ?_
  refine bt_iconst (x := 0) C dSe_init_22 (by decide) ?_
  refine bt_put (ty := .int) C 0 6 2 rfl rfl (by decide) iwSe tcSe tySe nmSe lkSe_storedCount rfl rfl rfl rfl (Nat.le_of_ble_eq_true rfl) dSe_init_23 ?_
  refine bt_w (ws' := [(h, .inr (6, [.ref q0, .ref q1, .int 0, .int 0, .int 0])), (q0, .inl (K.2 0, 800, .inl (fun _ => 0))), (q1, .inl (K.2 0, 100, .inl (fun _ => 0)))]) rfl ?_
  refine bt_aload_n (j := 0) C dSe_init_26 rfl rfl ?_
  refine bt_iconst (x := 0) C dSe_init_27 (by decide) ?_
  refine bt_put (ty := .int) C 0 6 3 rfl rfl (by decide) iwSe tcSe tySe nmSe lkSe_storedPieces rfl rfl rfl rfl (Nat.le_of_ble_eq_true rfl) dSe_init_28 ?_
  refine bt_w (ws' := [(h, .inr (6, [.ref q0, .ref q1, .int 0, .int 0, .int 0])), (q0, .inl (K.2 0, 800, .inl (fun _ => 0))), (q1, .inl (K.2 0, 100, .inl (fun _ => 0)))]) rfl ?_
  refine bt_aload_n (j := 0) C dSe_init_31 rfl rfl ?_
  refine bt_iconst (x := 0) C dSe_init_32 (by decide) ?_
  refine bt_put (ty := .int) C 0 6 4 rfl rfl (by decide) iwSe tcSe tySe nmSe lkSe_count rfl rfl rfl rfl (Nat.le_of_ble_eq_true rfl) dSe_init_33 ?_
  refine bt_w (ws' := [(h, .inr (6, [.ref q0, .ref q1, .int 0, .int 0, .int 0])), (q0, .inl (K.2 0, 800, .inl (fun _ => 0))), (q1, .inl (K.2 0, 100, .inl (fun _ => 0)))]) rfl ?_
  exact bt_vret C (fun i => ([q0, q1] : List Nat).getD i 0) rfl dSe_init_36
theorem dMa_init_0 : decode prog_5_method_1_code 0 = .ok (.aload_n 0, 1) := by decide +kernel
theorem dMa_init_1 : decode prog_5_method_1_code 1 = .ok (.invokespecial 3, 3) := by decide +kernel
theorem dMa_init_4 : decode prog_5_method_1_code 4 = .ok (.aload_n 0, 1) := by decide +kernel
theorem dMa_init_5 : decode prog_5_method_1_code 5 = .ok (.bipush 20, 2) := by decide +kernel
theorem dMa_init_7 : decode prog_5_method_1_code 7 = .ok (.newarray .int, 2) := by decide +kernel
theorem dMa_init_9 : decode prog_5_method_1_code 9 = .ok (.putfield 11, 3) := by decide +kernel
theorem dMa_init_12 : decode prog_5_method_1_code 12 = .ok (.aload_n 0, 1) := by decide +kernel
theorem dMa_init_13 : decode prog_5_method_1_code 13 = .ok (.bipush 20, 2) := by decide +kernel
theorem dMa_init_15 : decode prog_5_method_1_code 15 = .ok (.newarray .int, 2) := by decide +kernel
theorem dMa_init_17 : decode prog_5_method_1_code 17 = .ok (.putfield 15, 3) := by decide +kernel
theorem dMa_init_20 : decode prog_5_method_1_code 20 = .ok (.aload_n 0, 1) := by decide +kernel
theorem dMa_init_21 : decode prog_5_method_1_code 21 = .ok (.bipush 20, 2) := by decide +kernel
theorem dMa_init_23 : decode prog_5_method_1_code 23 = .ok (.newarray .int, 2) := by decide +kernel
theorem dMa_init_25 : decode prog_5_method_1_code 25 = .ok (.putfield 18, 3) := by decide +kernel
theorem dMa_init_28 : decode prog_5_method_1_code 28 = .ok (.aload_n 0, 1) := by decide +kernel
theorem dMa_init_29 : decode prog_5_method_1_code 29 = .ok (.bipush 20, 2) := by decide +kernel
theorem dMa_init_31 : decode prog_5_method_1_code 31 = .ok (.newarray .int, 2) := by decide +kernel
theorem dMa_init_33 : decode prog_5_method_1_code 33 = .ok (.putfield 21, 3) := by decide +kernel
theorem dMa_init_36 : decode prog_5_method_1_code 36 = .ok (.aload_n 0, 1) := by decide +kernel
theorem dMa_init_37 : decode prog_5_method_1_code 37 = .ok (.iconst 0, 1) := by decide +kernel
theorem dMa_init_38 : decode prog_5_method_1_code 38 = .ok (.putfield 24, 3) := by decide +kernel
theorem dMa_init_41 : decode prog_5_method_1_code 41 = .ok (.aload_n 0, 1) := by decide +kernel
theorem dMa_init_42 : decode prog_5_method_1_code 42 = .ok (.bipush 6, 2) := by decide +kernel
theorem dMa_init_44 : decode prog_5_method_1_code 44 = .ok (.newarray .int, 2) := by decide +kernel
theorem dMa_init_46 : decode prog_5_method_1_code 46 = .ok (.putfield 28, 3) := by decide +kernel
theorem dMa_init_49 : decode prog_5_method_1_code 49 = .ok (.aload_n 0, 1) := by decide +kernel
theorem dMa_init_50 : decode prog_5_method_1_code 50 = .ok (.iconst 5, 1) := by decide +kernel
theorem dMa_init_51 : decode prog_5_method_1_code 51 = .ok (.newarray .int, 2) := by decide +kernel
theorem dMa_init_53 : decode prog_5_method_1_code 53 = .ok (.putfield 31, 3) := by decide +kernel
theorem dMa_init_56 : decode prog_5_method_1_code 56 = .ok (.aload_n 0, 1) := by decide +kernel
theorem dMa_init_57 : decode prog_5_method_1_code 57 = .ok (.iconst 5, 1) := by decide +kernel
theorem dMa_init_58 : decode prog_5_method_1_code 58 = .ok (.newarray .int, 2) := by decide +kernel
theorem dMa_init_60 : decode prog_5_method_1_code 60 = .ok (.putfield 34, 3) := by decide +kernel
theorem dMa_init_63 : decode prog_5_method_1_code 63 = .ok (.aload_n 0, 1) := by decide +kernel
theorem dMa_init_64 : decode prog_5_method_1_code 64 = .ok (.iconst 5, 1) := by decide +kernel
theorem dMa_init_65 : decode prog_5_method_1_code 65 = .ok (.newarray .int, 2) := by decide +kernel
theorem dMa_init_67 : decode prog_5_method_1_code 67 = .ok (.putfield 37, 3) := by decide +kernel
theorem dMa_init_70 : decode prog_5_method_1_code 70 = .ok (.aload_n 0, 1) := by decide +kernel
theorem dMa_init_71 : decode prog_5_method_1_code 71 = .ok (.iconst 0, 1) := by decide +kernel
theorem dMa_init_72 : decode prog_5_method_1_code 72 = .ok (.putfield 40, 3) := by decide +kernel
theorem dMa_init_75 : decode prog_5_method_1_code 75 = .ok (.return_, 1) := by decide +kernel
def woMa (K : CC) (h : Nat) (u : Nat → Nat) : va_W := [(h, .inr (3, [.ref (u 0), .ref (u 1), .ref (u 2), .ref (u 3), .int 0, .ref (u 4), .ref (u 5), .ref (u 6), .int 0, .long 0, .int 0, .ref (u 7), .int 0])), ((u 0), .inl (K.2 0, 20, .inl (fun _ => 0))), ((u 1), .inl (K.2 0, 20, .inl (fun _ => 0))), ((u 2), .inl (K.2 0, 20, .inl (fun _ => 0))), ((u 3), .inl (K.2 0, 20, .inl (fun _ => 0))), ((u 4), .inl (K.2 0, 6, .inl (fun _ => 0))), ((u 5), .inl (K.2 0, 5, .inl (fun _ => 0))), ((u 6), .inl (K.2 0, 5, .inl (fun _ => 0))), ((u 7), .inl (K.2 0, 5, .inl (fun _ => 0)))]
theorem mMa {l : Launch} (K : CC) (h sz : Nat) : Met l yMa_init (.code yMa_init prog_5_method_1_code 1 none :: gw) (rmC 1 8 101) (PcB K h 3 [.null, .null, .null, .null, .int 0, .null, .null, .null, .int 0, .long 0, .int 0, .null, .int 0] sz) (QcB K (woMa K h) (va_A [(h, .inr (3, [.null, .null, .null, .null, .int 0, .null, .null, .null, .int 0, .long 0, .int 0, .null, .int 0]))] sz)) 8 101 (va_A [(h, .inr (3, [.null, .null, .null, .null, .int 0, .null, .null, .null, .int 0, .long 0, .int 0, .null, .int 0]))] sz) := by
  refine met_mk (y := yMa_init) (cc := prog_5_method_1_code) (mL := 1) (by decide) rfl 1 8 101 K h 3 [.null, .null, .null, .null, .int 0, .null, .null, .null, .int 0, .long 0, .int 0, .null, .int 0] sz (by decide) (woMa K h) (fun X A _ C => ?_)
  have C : Kx K X A RcMa prog_5_method_1_code 1 1 8 101 := C
  refine bt_aload_n (j := 0) C dMa_init_0 rfl rfl ?_
  refine bt_obj C (by omega) (mg (i := 229) (by decide +kernel) rfl) dMa_init_1 ?_
  refine bt_aload_n (j := 0) C dMa_init_4 rfl rfl ?_
  refine bt_bipush (x := 20) C dMa_init_5 (by decide) ?_
  refine bt_newa (N := 20) (a0 := (20, .inl (fun _ => 0))) C 0 rfl rfl (mg (i := 83) (by decide +kernel) rfl) (fun _ => rfl) (by decide) (by decide) (by decide) (by decide) (by decide) dMa_init_7 (fun q0 => ?_)
  refine bt_put (ty := .array .int) C 0 3 0 rfl rfl (by decide) iwMa tcMa tyMa nmMa lkMa_fromGood rfl rfl rfl rfl (Nat.le_of_ble_eq_true rfl) dMa_init_9 ?_
  refine bt_w (ws' := [(h, .inr (3, [.ref q0, .null, .null, .null, .int 0, .null, .null, .null, .int 0, .long 0, .int 0, .null, .int 0])), (q0, .inl (K.2 0, 20, .inl (fun _ => 0)))]) rfl ?_
  refine bt_aload_n (j := 0) C dMa_init_12 rfl rfl ?_
  refine bt_bipush (x := 20) C dMa_init_13 (by decide) ?_
  refine bt_newa (N := 20) (a0 := (20, .inl (fun _ => 0))) C 0 rfl rfl (mg (i := 83) (by decide +kernel) rfl) (fun _ => rfl) (by decide) (by decide) (by decide) (by decide) (by decide) dMa_init_15 (fun q1 => ?_)
  refine bt_put (ty := .array .int) C 0 3 1 rfl rfl (by decide) iwMa tcMa tyMa nmMa lkMa_given rfl rfl rfl rfl (Nat.le_of_ble_eq_true rfl) dMa_init_17 ?_
  refine bt_w (ws' := [(h, .inr (3, [.ref q0, .ref q1, .null, .null, .int 0, .null, .null, .null, .int 0, .long 0, .int 0, .null, .int 0])), (q0, .inl (K.2 0, 20, .inl (fun _ => 0))), (q1, .inl (K.2 0, 20, .inl (fun _ => 0)))]) rfl ?_
  refine bt_aload_n (j := 0) C dMa_init_20 rfl rfl ?_
  refine bt_bipush (x := 20) C dMa_init_21 (by decide) ?_
  refine bt_newa (N := 20) (a0 := (20, .inl (fun _ => 0))) C 0 rfl rfl (mg (i := 83) (by decide +kernel) rfl) (fun _ => rfl) (by decide) (by decide) (by decide) (by decide) (by decide) dMa_init_23 (fun q2 => ?_)
  refine bt_put (ty := .array .int) C 0 3 2 rfl rfl (by decide) iwMa tcMa tyMa nmMa lkMa_toGood rfl rfl rfl rfl (Nat.le_of_ble_eq_true rfl) dMa_init_25 ?_
  refine bt_w (ws' := [(h, .inr (3, [.ref q0, .ref q1, .ref q2, .null, .int 0, .null, .null, .null, .int 0, .long 0, .int 0, .null, .int 0])), (q0, .inl (K.2 0, 20, .inl (fun _ => 0))), (q1, .inl (K.2 0, 20, .inl (fun _ => 0))), (q2, .inl (K.2 0, 20, .inl (fun _ => 0)))]) rfl ?_
  refine bt_aload_n (j := 0) C dMa_init_28 rfl rfl ?_
  refine bt_bipush (x := 20) C dMa_init_29 (by decide) ?_
  refine bt_newa (N := 20) (a0 := (20, .inl (fun _ => 0))) C 0 rfl rfl (mg (i := 83) (by decide +kernel) rfl) (fun _ => rfl) (by decide) (by decide) (by decide) (by decide) (by decide) dMa_init_31 (fun q3 => ?_)
  refine bt_put (ty := .array .int) C 0 3 3 rfl rfl (by decide) iwMa tcMa tyMa nmMa lkMa_gained rfl rfl rfl rfl (Nat.le_of_ble_eq_true rfl) dMa_init_33 ?_
  refine bt_w (ws' := [(h, .inr (3, [.ref q0, .ref q1, .ref q2, .ref q3, .int 0, .null, .null, .null, .int 0, .long 0, .int 0, .null, .int 0])), (q0, .inl (K.2 0, 20, .inl (fun _ => 0))), (q1, .inl (K.2 0, 20, .inl (fun _ => 0))), (q2, .inl (K.2 0, 20, .inl (fun _ => 0))), (q3, .inl (K.2 0, 20, .inl (fun _ => 0)))]) rfl ?_
  refine bt_aload_n (j := 0) C dMa_init_36 rfl rfl ?_
  refine bt_iconst (x := 0) C dMa_init_37 (by decide) ?_
  refine bt_put (ty := .int) C 0 3 4 rfl rfl (by decide) iwMa tcMa tyMa nmMa lkMa_count rfl rfl rfl rfl (Nat.le_of_ble_eq_true rfl) dMa_init_38 ?_
  refine bt_w (ws' := [(h, .inr (3, [.ref q0, .ref q1, .ref q2, .ref q3, .int 0, .null, .null, .null, .int 0, .long 0, .int 0, .null, .int 0])), (q0, .inl (K.2 0, 20, .inl (fun _ => 0))), (q1, .inl (K.2 0, 20, .inl (fun _ => 0))), (q2, .inl (K.2 0, 20, .inl (fun _ => 0))), (q3, .inl (K.2 0, 20, .inl (fun _ => 0)))]) rfl ?_
  refine bt_aload_n (j := 0) C dMa_init_41 rfl rfl ?_
  refine bt_bipush (x := 6) C dMa_init_42 (by decide) ?_
  refine bt_newa (N := 6) (a0 := (6, .inl (fun _ => 0))) C 0 rfl rfl (mg (i := 83) (by decide +kernel) rfl) (fun _ => rfl) (by decide) (by decide) (by decide) (by decide) (by decide) dMa_init_44 (fun q4 => ?_)
  refine bt_put (ty := .array .int) C 0 3 5 rfl rfl (by decide) iwMa tcMa tyMa nmMa lkMa_visited rfl rfl rfl rfl (Nat.le_of_ble_eq_true rfl) dMa_init_46 ?_
  refine bt_w (ws' := [(h, .inr (3, [.ref q0, .ref q1, .ref q2, .ref q3, .int 0, .ref q4, .null, .null, .int 0, .long 0, .int 0, .null, .int 0])), (q0, .inl (K.2 0, 20, .inl (fun _ => 0))), (q1, .inl (K.2 0, 20, .inl (fun _ => 0))), (q2, .inl (K.2 0, 20, .inl (fun _ => 0))), (q3, .inl (K.2 0, 20, .inl (fun _ => 0))), (q4, .inl (K.2 0, 6, .inl (fun _ => 0)))]) rfl ?_
  refine bt_aload_n (j := 0) C dMa_init_49 rfl rfl ?_
  refine bt_iconst (x := 5) C dMa_init_50 (by decide) ?_
  refine bt_newa (N := 5) (a0 := (5, .inl (fun _ => 0))) C 0 rfl rfl (mg (i := 83) (by decide +kernel) rfl) (fun _ => rfl) (by decide) (by decide) (by decide) (by decide) (by decide) dMa_init_51 (fun q5 => ?_)
  refine bt_put (ty := .array .int) C 0 3 6 rfl rfl (by decide) iwMa tcMa tyMa nmMa lkMa_trail rfl rfl rfl rfl (Nat.le_of_ble_eq_true rfl) dMa_init_53 ?_
  refine bt_w (ws' := [(h, .inr (3, [.ref q0, .ref q1, .ref q2, .ref q3, .int 0, .ref q4, .ref q5, .null, .int 0, .long 0, .int 0, .null, .int 0])), (q0, .inl (K.2 0, 20, .inl (fun _ => 0))), (q1, .inl (K.2 0, 20, .inl (fun _ => 0))), (q2, .inl (K.2 0, 20, .inl (fun _ => 0))), (q3, .inl (K.2 0, 20, .inl (fun _ => 0))), (q4, .inl (K.2 0, 6, .inl (fun _ => 0))), (q5, .inl (K.2 0, 5, .inl (fun _ => 0)))]) rfl ?_
  refine bt_aload_n (j := 0) C dMa_init_56 rfl rfl ?_
  refine bt_iconst (x := 5) C dMa_init_57 (by decide) ?_
  refine bt_newa (N := 5) (a0 := (5, .inl (fun _ => 0))) C 0 rfl rfl (mg (i := 83) (by decide +kernel) rfl) (fun _ => rfl) (by decide) (by decide) (by decide) (by decide) (by decide) dMa_init_58 (fun q6 => ?_)
  refine bt_put (ty := .array .int) C 0 3 7 rfl rfl (by decide) iwMa tcMa tyMa nmMa lkMa_found rfl rfl rfl rfl (Nat.le_of_ble_eq_true rfl) dMa_init_60 ?_
  refine bt_w (ws' := [(h, .inr (3, [.ref q0, .ref q1, .ref q2, .ref q3, .int 0, .ref q4, .ref q5, .ref q6, .int 0, .long 0, .int 0, .null, .int 0])), (q0, .inl (K.2 0, 20, .inl (fun _ => 0))), (q1, .inl (K.2 0, 20, .inl (fun _ => 0))), (q2, .inl (K.2 0, 20, .inl (fun _ => 0))), (q3, .inl (K.2 0, 20, .inl (fun _ => 0))), (q4, .inl (K.2 0, 6, .inl (fun _ => 0))), (q5, .inl (K.2 0, 5, .inl (fun _ => 0))), (q6, .inl (K.2 0, 5, .inl (fun _ => 0)))]) rfl ?_
  refine bt_aload_n (j := 0) C dMa_init_63 rfl rfl ?_
  refine bt_iconst (x := 5) C dMa_init_64 (by decide) ?_
  refine bt_newa (N := 5) (a0 := (5, .inl (fun _ => 0))) C 0 rfl rfl (mg (i := 83) (by decide +kernel) rfl) (fun _ => rfl) (by decide) (by decide) (by decide) (by decide) (by decide) dMa_init_65 (fun q7 => ?_)
  refine bt_put (ty := .array .int) C 0 3 11 rfl rfl (by decide) iwMa tcMa tyMa nmMa lkMa_best rfl rfl rfl rfl (Nat.le_of_ble_eq_true rfl) dMa_init_67 ?_
  refine bt_w (ws' := [(h, .inr (3, [.ref q0, .ref q1, .ref q2, .ref q3, .int 0, .ref q4, .ref q5, .ref q6, .int 0, .long 0, .int 0, .ref q7, .int 0])), (q0, .inl (K.2 0, 20, .inl (fun _ => 0))), (q1, .inl (K.2 0, 20, .inl (fun _ => 0))), (q2, .inl (K.2 0, 20, .inl (fun _ => 0))), (q3, .inl (K.2 0, 20, .inl (fun _ => 0))), (q4, .inl (K.2 0, 6, .inl (fun _ => 0))), (q5, .inl (K.2 0, 5, .inl (fun _ => 0))), (q6, .inl (K.2 0, 5, .inl (fun _ => 0))), (q7, .inl (K.2 0, 5, .inl (fun _ => 0)))]) rfl ?_
  refine bt_aload_n (j := 0) C dMa_init_70 rfl rfl ?_
  refine bt_iconst (x := 0) C dMa_init_71 (by decide) ?_
  refine bt_put (ty := .int) C 0 3 12 rfl rfl (by decide) iwMa tcMa tyMa nmMa lkMa_bestLength rfl rfl rfl rfl (Nat.le_of_ble_eq_true rfl) dMa_init_72 ?_
  refine bt_w (ws' := [(h, .inr (3, [.ref q0, .ref q1, .ref q2, .ref q3, .int 0, .ref q4, .ref q5, .ref q6, .int 0, .long 0, .int 0, .ref q7, .int 0])), (q0, .inl (K.2 0, 20, .inl (fun _ => 0))), (q1, .inl (K.2 0, 20, .inl (fun _ => 0))), (q2, .inl (K.2 0, 20, .inl (fun _ => 0))), (q3, .inl (K.2 0, 20, .inl (fun _ => 0))), (q4, .inl (K.2 0, 6, .inl (fun _ => 0))), (q5, .inl (K.2 0, 5, .inl (fun _ => 0))), (q6, .inl (K.2 0, 5, .inl (fun _ => 0))), (q7, .inl (K.2 0, 5, .inl (fun _ => 0)))]) rfl ?_
  exact bt_vret C (fun i => ([q0, q1, q2, q3, q4, q5, q6, q7] : List Nat).getD i 0) rfl dMa_init_75
theorem dSh_init_0 : decode prog_9_method_1_code 0 = .ok (.aload_n 0, 1) := by decide +kernel
theorem dSh_init_1 : decode prog_9_method_1_code 1 = .ok (.invokespecial 3, 3) := by decide +kernel
theorem dSh_init_4 : decode prog_9_method_1_code 4 = .ok (.aload_n 0, 1) := by decide +kernel
theorem dSh_init_5 : decode prog_9_method_1_code 5 = .ok (.bipush 16, 2) := by decide +kernel
theorem dSh_init_7 : decode prog_9_method_1_code 7 = .ok (.newarray .int, 2) := by decide +kernel
theorem dSh_init_9 : decode prog_9_method_1_code 9 = .ok (.putfield 9, 3) := by decide +kernel
theorem dSh_init_12 : decode prog_9_method_1_code 12 = .ok (.return_, 1) := by decide +kernel
def woSh (K : CC) (h : Nat) (u : Nat → Nat) : va_W := [(h, .inr (7, [.ref (u 0)])), ((u 0), .inl (K.2 0, 16, .inl (fun _ => 0)))]
theorem mSh {l : Launch} (K : CC) (h sz : Nat) : Met l ySh_init (.code ySh_init prog_9_method_1_code 1 none :: gw) (rmC 1 1 16) (PcB K h 7 [.null] sz) (QcB K (woSh K h) (va_A [(h, .inr (7, [.null]))] sz)) 1 16 (va_A [(h, .inr (7, [.null]))] sz) := by
  refine met_mk (y := ySh_init) (cc := prog_9_method_1_code) (mL := 1) (by decide) rfl 1 1 16 K h 7 [.null] sz (by decide) (woSh K h) (fun X A _ C => ?_)
  have C : Kx K X A RcSh prog_9_method_1_code 1 1 1 16 := C
  refine bt_aload_n (j := 0) C dSh_init_0 rfl rfl ?_
  refine bt_obj C (by omega) (mg (i := 275) (by decide +kernel) rfl) dSh_init_1 ?_
  refine bt_aload_n (j := 0) C dSh_init_4 rfl rfl ?_
  refine bt_bipush (x := 16) C dSh_init_5 (by decide) ?_
  refine bt_newa (N := 16) (a0 := (16, .inl (fun _ => 0))) C 0 rfl rfl (mg (i := 83) (by decide +kernel) rfl) (fun _ => rfl) (by decide) (by decide) (by decide) (by decide) (by decide) dSh_init_7 (fun q0 => ?_)
  refine bt_put (ty := .array .int) C 0 7 0 rfl rfl (by decide) iwSh tcSh tySh nmSh lkSh_yieldOf rfl rfl rfl rfl (Nat.le_of_ble_eq_true rfl) dSh_init_9 ?_
  refine bt_w (ws' := [(h, .inr (7, [.ref q0])), (q0, .inl (K.2 0, 16, .inl (fun _ => 0)))]) rfl ?_
  exact bt_vret C (fun i => ([q0] : List Nat).getD i 0) rfl dSh_init_12
