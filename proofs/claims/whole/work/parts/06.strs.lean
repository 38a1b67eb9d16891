theorem dslen_0 : decode prog_14_method_54_code 0 = .ok (.aload_n 0, 1) := by decide +kernel
theorem dslen_1 : decode prog_14_method_54_code 1 = .ok (.getfield 9, 3) := by decide +kernel
theorem dslen_4 : decode prog_14_method_54_code 4 = .ok (.arraylength, 1) := by decide +kernel
theorem dslen_5 : decode prog_14_method_54_code 5 = .ok (.aload_n 0, 1) := by decide +kernel
theorem dslen_6 : decode prog_14_method_54_code 6 = .ok (.invokevirtual 335, 3) := by decide +kernel
theorem dslen_9 : decode prog_14_method_54_code 9 = .ok (.ishr, 1) := by decide +kernel
theorem dslen_10 : decode prog_14_method_54_code 10 = .ok (.ireturn, 1) := by decide +kernel
theorem dschar_0 : decode prog_14_method_56_code 0 = .ok (.aload_n 0, 1) := by decide +kernel
theorem dschar_1 : decode prog_14_method_56_code 1 = .ok (.invokevirtual 492, 3) := by decide +kernel
theorem dschar_4 : decode prog_14_method_56_code 4 = .ok (.ifCond .eq 12, 3) := by decide +kernel
theorem dschar_7 : decode prog_14_method_56_code 7 = .ok (.aload_n 0, 1) := by decide +kernel
theorem dschar_8 : decode prog_14_method_56_code 8 = .ok (.getfield 9, 3) := by decide +kernel
theorem dschar_11 : decode prog_14_method_56_code 11 = .ok (.iload_n 1, 1) := by decide +kernel
theorem dschar_12 : decode prog_14_method_56_code 12 = .ok (.invokestatic 495, 3) := by decide +kernel
theorem dschar_15 : decode prog_14_method_56_code 15 = .ok (.ireturn, 1) := by decide +kernel
theorem dschar_16 : decode prog_14_method_56_code 16 = .ok (.aload_n 0, 1) := by decide +kernel
theorem dschar_17 : decode prog_14_method_56_code 17 = .ok (.getfield 9, 3) := by decide +kernel
theorem dschar_20 : decode prog_14_method_56_code 20 = .ok (.iload_n 1, 1) := by decide +kernel
theorem dschar_21 : decode prog_14_method_56_code 21 = .ok (.invokestatic 498, 3) := by decide +kernel
theorem dschar_24 : decode prog_14_method_56_code 24 = .ok (.ireturn, 1) := by decide +kernel
abbrev ycod : MethodName := ⟨"java/lang/String", "coder", "()B"⟩
theorem dcod_0 : decode prog_14_method_152_code 0 = .ok (.getstatic 38, 3) := by decide +kernel
theorem dcod_3 : decode prog_14_method_152_code 3 = .ok (.ifCond .eq 10, 3) := by decide +kernel
theorem dcod_6 : decode prog_14_method_152_code 6 = .ok (.aload_n 0, 1) := by decide +kernel
theorem dcod_7 : decode prog_14_method_152_code 7 = .ok (.getfield 15, 3) := by decide +kernel
theorem dcod_10 : decode prog_14_method_152_code 10 = .ok (.goto 4, 3) := by decide +kernel
theorem dcod_13 : decode prog_14_method_152_code 13 = .ok (.iconst 1, 1) := by decide +kernel
theorem dcod_14 : decode prog_14_method_152_code 14 = .ok (.ireturn, 1) := by decide +kernel
abbrev yisl : MethodName := ⟨"java/lang/String", "isLatin1", "()Z"⟩
theorem disl_0 : decode prog_14_method_154_code 0 = .ok (.getstatic 38, 3) := by decide +kernel
theorem disl_3 : decode prog_14_method_154_code 3 = .ok (.ifCond .eq 14, 3) := by decide +kernel
theorem disl_6 : decode prog_14_method_154_code 6 = .ok (.aload_n 0, 1) := by decide +kernel
theorem disl_7 : decode prog_14_method_154_code 7 = .ok (.getfield 15, 3) := by decide +kernel
theorem disl_10 : decode prog_14_method_154_code 10 = .ok (.ifCond .ne 7, 3) := by decide +kernel
theorem disl_13 : decode prog_14_method_154_code 13 = .ok (.iconst 1, 1) := by decide +kernel
theorem disl_14 : decode prog_14_method_154_code 14 = .ok (.goto 4, 3) := by decide +kernel
theorem disl_17 : decode prog_14_method_154_code 17 = .ok (.iconst 0, 1) := by decide +kernel
theorem disl_18 : decode prog_14_method_154_code 18 = .ok (.ireturn, 1) := by decide +kernel
abbrev ysci : MethodName := ⟨"java/lang/String", "checkIndex", "(II)V"⟩
theorem dsci_0 : decode prog_14_method_155_code 0 = .ok (.iload_n 0, 1) := by decide +kernel
theorem dsci_1 : decode prog_14_method_155_code 1 = .ok (.iload_n 1, 1) := by decide +kernel
theorem dsci_2 : decode prog_14_method_155_code 2 = .ok (.getstatic 1053, 3) := by decide +kernel
theorem dsci_5 : decode prog_14_method_155_code 5 = .ok (.invokestatic 1059, 3) := by decide +kernel
theorem dsci_8 : decode prog_14_method_155_code 8 = .ok (.pop, 1) := by decide +kernel
theorem dsci_9 : decode prog_14_method_155_code 9 = .ok (.return_, 1) := by decide +kernel
abbrev ylch : MethodName := ⟨"java/lang/StringLatin1", "charAt", "([BI)C"⟩
theorem dlch_0 : decode prog_15_method_2_code 0 = .ok (.iload_n 1, 1) := by decide +kernel
theorem dlch_1 : decode prog_15_method_2_code 1 = .ok (.aload_n 0, 1) := by decide +kernel
theorem dlch_2 : decode prog_15_method_2_code 2 = .ok (.arraylength, 1) := by decide +kernel
theorem dlch_3 : decode prog_15_method_2_code 3 = .ok (.invokestatic 9, 3) := by decide +kernel
theorem dlch_6 : decode prog_15_method_2_code 6 = .ok (.aload_n 0, 1) := by decide +kernel
theorem dlch_7 : decode prog_15_method_2_code 7 = .ok (.iload_n 1, 1) := by decide +kernel
theorem dlch_8 : decode prog_15_method_2_code 8 = .ok (.baload, 1) := by decide +kernel
theorem dlch_9 : decode prog_15_method_2_code 9 = .ok (.sipush 255, 3) := by decide +kernel
theorem dlch_12 : decode prog_15_method_2_code 12 = .ok (.iand, 1) := by decide +kernel
theorem dlch_13 : decode prog_15_method_2_code 13 = .ok (.i2c, 1) := by decide +kernel
theorem dlch_14 : decode prog_15_method_2_code 14 = .ok (.ireturn, 1) := by decide +kernel
abbrev ypci : MethodName := ⟨"jdk/internal/util/Preconditions", "checkIndex", "(IILjava/util/function/BiFunction;)I"⟩
theorem dpci_0 : decode prog_19_method_11_code 0 = .ok (.iload_n 0, 1) := by decide +kernel
theorem dpci_1 : decode prog_19_method_11_code 1 = .ok (.ifCond .lt 8, 3) := by decide +kernel
theorem dpci_4 : decode prog_19_method_11_code 4 = .ok (.iload_n 0, 1) := by decide +kernel
theorem dpci_5 : decode prog_19_method_11_code 5 = .ok (.iload_n 1, 1) := by decide +kernel
theorem dpci_6 : decode prog_19_method_11_code 6 = .ok (.if_icmp .lt 10, 3) := by decide +kernel
theorem dpci_9 : decode prog_19_method_11_code 9 = .ok (.aload_n 2, 1) := by decide +kernel
theorem dpci_10 : decode prog_19_method_11_code 10 = .ok (.iload_n 0, 1) := by decide +kernel
theorem dpci_11 : decode prog_19_method_11_code 11 = .ok (.iload_n 1, 1) := by decide +kernel
theorem dpci_12 : decode prog_19_method_11_code 12 = .ok (.invokestatic 95, 3) := by decide +kernel
theorem dpci_15 : decode prog_19_method_11_code 15 = .ok (.athrow, 1) := by decide +kernel
theorem dpci_16 : decode prog_19_method_11_code 16 = .ok (.iload_n 0, 1) := by decide +kernel
theorem dpci_17 : decode prog_19_method_11_code 17 = .ok (.ireturn, 1) := by decide +kernel
theorem fl_val : Cond.fieldLink "java/lang/String" 9 "java/lang/String" "value" "[B" ∈ gw := mg (i := 1139) (by decide +kernel) rfl
theorem fl_cs : Cond.fieldLink "java/lang/String" 38 "java/lang/String" "COMPACT_STRINGS" "Z" ∈ gw := mg (i := 446) (by decide +kernel) rfl
theorem fl_cod : Cond.fieldLink "java/lang/String" 15 "java/lang/String" "coder" "B" ∈ gw := mg (i := 1140) (by decide +kernel) rfl
theorem fl_fmt : Cond.fieldLink "java/lang/String" 1053 "jdk/internal/util/Preconditions" "SIOOBE_FORMATTER" "Ljava/util/function/BiFunction;" ∈ gw := mg (i := 462) (by decide +kernel) rfl
theorem kj_cod : kV "java/lang/String" 335 "java/lang/String" ycod prog_14_method_152_code 1 (some .byte) 0 := ⟨(mg (i := 442) (by decide +kernel) rfl), (mg (i := 443) (by decide +kernel) rfl), (mg (i := 444) (by decide +kernel) rfl), (mg (i := 54) (by decide +kernel) rfl), (mg (i := 445) (by decide +kernel) rfl), ⟨by decide, by decide, by decide +kernel⟩, by decide⟩
theorem kj_isl : kV "java/lang/String" 492 "java/lang/String" yisl prog_14_method_154_code 1 (some .boolean) 0 := ⟨(mg (i := 452) (by decide +kernel) rfl), (mg (i := 453) (by decide +kernel) rfl), (mg (i := 454) (by decide +kernel) rfl), (mg (i := 54) (by decide +kernel) rfl), (mg (i := 455) (by decide +kernel) rfl), ⟨by decide, by decide, by decide +kernel⟩, by decide⟩
theorem kj_lch : kS "java/lang/String" 495 ylch prog_15_method_2_code 2 (some .char) 2 := ⟨(mg (i := 456) (by decide +kernel) rfl), (mg (i := 457) (by decide +kernel) rfl), (mg (i := 55) (by decide +kernel) rfl), (mg (i := 458) (by decide +kernel) rfl), ⟨by decide, by decide, by decide +kernel⟩, by decide⟩
theorem kj_sci : kS "java/lang/StringLatin1" 9 ysci prog_14_method_155_code 2 none 2 := ⟨(mg (i := 459) (by decide +kernel) rfl), (mg (i := 460) (by decide +kernel) rfl), (mg (i := 54) (by decide +kernel) rfl), (mg (i := 461) (by decide +kernel) rfl), ⟨by decide, by decide, by decide +kernel⟩, by decide⟩
theorem kj_pci : kS "java/lang/String" 1059 ypci prog_19_method_11_code 3 (some .int) 3 := ⟨(mg (i := 464) (by decide +kernel) rfl), (mg (i := 465) (by decide +kernel) rfl), (mg (i := 56) (by decide +kernel) rfl), (mg (i := 466) (by decide +kernel) rfl), ⟨by decide, by decide, by decide +kernel⟩, by decide⟩
section STRS
variable {G : GG} {X : CX} {own : String} {cc : ByteArray} {nL lv pc : Nat} {rt : Option FieldType} {Q : State → Prop} {S : ST} {L L' : List (Nat × Value)} {st : List Value}
theorem at_i2c (C : Cx G X own cc nL lv rt) {x y : Int32} (hv : (x.toUInt32 % 65536).toInt32 = y) (d : decode cc pc = .ok (.i2c, 1)) (kk : At G X nL Q (pc + 1) L (.int y :: st) S) : At G X nL Q pc L (.int x :: st) S := fun ls H locs hl hP hS => lv_i2c C.1 C.2.1 d hv (kk ls H locs hl hP hS)
theorem at_gets (C : Cx G X own cc nL lv rt) {cn n ds : String} {w : Value} {idx : Nat} (hZ : va_Z cn n ds w (Aw G) (xs X) (xs X).heap) (hlink : Cond.fieldLink own idx cn n ds ∈ gw) (d : decode cc pc = .ok (.getstatic idx, 3)) (kk : At G X nL Q (pc + 3) L (w :: st) S) : At G X nL Q pc L st S := fun ls H locs hl hP hS => va_gets C.1 C.2.1 hZ hS C.2.2.2.1 (C.2.2.2.2.1 _ hlink) (fun _ h => h) d (kk ls H locs hl hP hS)
theorem at_sval (C : Cx G X "java/lang/String" cc nL lv rt) (d : decode cc pc = .ok (.getfield 9, 3)) (kk : At G X nL Q (pc + 3) L (.ref G.2.2.2.2 :: st) S) : At G X nL Q pc L (.ref G.2.2.2.1 :: st) S := fun ls H locs hl hP hS => vk_getf C.1 C.2.1 (C.2.2.2.2.2.1.2.2.2.1.1 0 (by decide)).2.2.1 hS C.2.2.2.1 (C.2.2.2.2.1 _ fl_val) (fun _ h => h) d (kk ls H locs hl hP hS)
theorem at_scod (C : Cx G X "java/lang/String" cc nL lv rt) (d : decode cc pc = .ok (.getfield 15, 3)) (kk : At G X nL Q (pc + 3) L (.int 0 :: st) S) : At G X nL Q pc L (.ref G.2.2.2.1 :: st) S := fun ls H locs hl hP hS => vk_getf C.1 C.2.1 (C.2.2.2.2.2.1.2.2.2.1.1 0 (by decide)).2.1 hS C.2.2.2.1 (C.2.2.2.2.1 _ fl_cod) (fun _ h => h) d (kk ls H locs hl hP hS)
theorem at_vlen (C : Cx G X own cc nL lv rt) (d : decode cc pc = .ok (.arraylength, 1)) (kk : At G X nL Q (pc + 1) L (.int 4 :: st) S) : At G X nL Q pc L (.ref G.2.2.2.2 :: st) S := fun ls H locs hl hP hS => va_tlen C.1 C.2.1 (C.2.2.2.2.2.1.2.2.2.1.1 0 (by decide)).2.2.2 hS (by decide) d (kk ls H locs hl hP hS)
theorem at_vld (C : Cx G X own cc nL lv rt) {i : Int32} (hi : inb i 4 = true) (d : decode cc pc = .ok (.baload, 1)) (kk : At G X nL Q (pc + 1) L (.int (town i) :: st) S) : At G X nL Q pc L (.int i :: .ref G.2.2.2.2 :: st) S := fun ls H locs hl hP hS => va_tb C.1 C.2.1 (C.2.2.2.2.2.1.2.2.2.1.1 0 (by decide)).2.2.2 hS (inb_in hi) rfl d (kk ls H locs hl hP hS)
theorem at_callZ {idx n j mL : Nat} {y : MethodName} {bytes : ByteArray} {ret : Option FieldType} {r : Int32} {As st0 : List Value} (C : Cx G X own cc nL lv rt) (hk : kV own idx "java/lang/String" y bytes mL ret n) (hM : Met (xl X) y (.code y bytes mL ret :: gw) (rmm j) (PcW G (.ref G.2.2.2.1 :: As) S) (Qw G (some (.int r)) S) 0 0 (Aw G)) (hj : j < lv) (hn : As.length = n) (hst : st0 = As.reverse ++ .ref G.2.2.2.1 :: st) (hcat : (st.map fun v => v.category).sum ≤ 8) (d : decode cc pc = .ok (.invokevirtual idx, 3)) (kk : At G X nL Q (pc + 3) L (.int r :: st) S) : At G X nL Q pc L st0 S := by
  intro ls H locs hl hP hS
  obtain ⟨k1, k2, k3, k4, k5, k6, k7⟩ := hk
  have hts := C.2.2.2.2.1
  refine at_run (vr := some (.int r)) _ hl hS (va_runV (As := As) (C := "java/lang/String") (cc := cc) (nL := nL) (Ts := gw) (own := own) (n := n) ⟨C.1, C.2.1, C.2.2.1, C.2.2.2.1, hts⟩ hM ⟨callB_of n hts (gw_good k5) rfl rfl rfl (hts _ k4) (hts _ k1) k6 (rmm_fit C hj k7), hts _ k2, hts _ k3⟩ ⟨PcW.blind, vk_recv (i := 0) C.2.2.2.2.2.1.2.2.2.1 (by decide) hS, fun U hU hW => ⟨rfl, by rw [hU]; exact hP, C.2.2.2.2.2.1.pass hW hU hS⟩⟩ rfl hn hl.1 hst (lv_room hcat) d C.2.2.2.2.2.2.2.2.2.2.2) kk
theorem ccod {l : Launch} (hG : GOK G) : Met l ycod (.code ycod prog_14_method_152_code 1 (some .byte) :: gw) (rmm 1) (PcW G [.ref G.2.2.2.1] S) (Qw G (some (.int 0)) S) 0 0 (Aw G) := by
  refine met_of (by decide) 1 G hG S _ (Nat.le_of_ble_eq_true rfl) _ _ (fun X _ C => ?_)
  have C : Cx G X "java/lang/String" prog_14_method_152_code 1 1 (some .byte) := C
  show At G X 1 _ 0 [(0, .ref G.2.2.2.1)] [] S
  refine at_gets C C.2.2.2.2.2.1.2.2.2.2.1 fl_cs dcod_0 ?_
  refine at_if_eq C dcod_3 rfl (fun h => absurd h (by decide)) (fun _ => ?_)
  refine at_aload_n (j := 0) C dcod_6 rfl rfl ?_
  refine at_scod C dcod_7 ?_
  refine at_goto C dcod_10 rfl ?_
  exact at_zret (x := 0) C rfl dcod_14
theorem cisl {l : Launch} (hG : GOK G) : Met l yisl (.code yisl prog_14_method_154_code 1 (some .boolean) :: gw) (rmm 1) (PcW G [.ref G.2.2.2.1] S) (Qw G (some (.int 1)) S) 0 0 (Aw G) := by
  refine met_of (by decide) 1 G hG S _ (Nat.le_of_ble_eq_true rfl) _ _ (fun X _ C => ?_)
  have C : Cx G X "java/lang/String" prog_14_method_154_code 1 1 (some .boolean) := C
  show At G X 1 _ 0 [(0, .ref G.2.2.2.1)] [] S
  refine at_gets C C.2.2.2.2.2.1.2.2.2.2.1 fl_cs disl_0 ?_
  refine at_if_eq C disl_3 rfl (fun h => absurd h (by decide)) (fun _ => ?_)
  refine at_aload_n (j := 0) C disl_6 rfl rfl ?_
  refine at_scod C disl_7 ?_
  refine at_if_ne C disl_10 rfl (fun h => absurd rfl h) (fun _ => ?_)
  refine at_iconst (x := 1) C disl_13 (by decide) ?_
  refine at_goto C disl_14 rfl ?_
  exact at_zret (x := 1) C rfl disl_18
theorem cslen {l : Launch} (hG : GOK G) : Met l yslen (.code yslen prog_14_method_54_code 1 (some .int) :: gw) (rmm 2) (PcW G [.ref G.2.2.2.1] S) (Qw G (some (.int 4)) S) 0 0 (Aw G) := by
  refine met_of (by decide) 2 G hG S _ (Nat.le_of_ble_eq_true rfl) _ _ (fun X _ C => ?_)
  have C : Cx G X "java/lang/String" prog_14_method_54_code 1 2 (some .int) := C
  show At G X 1 _ 0 [(0, .ref G.2.2.2.1)] [] S
  refine at_aload_n (j := 0) C dslen_0 rfl rfl ?_
  refine at_sval C dslen_1 ?_
  refine at_vlen C dslen_4 ?_
  refine at_aload_n (j := 0) C dslen_5 rfl rfl ?_
  refine at_callZ (As := []) C kj_cod (ccod hG) (by omega) rfl rfl (Nat.le_of_ble_eq_true rfl) dslen_6 ?_
  refine at_ishr C dslen_9 ?_
  exact at_iret C dslen_10
theorem cpci {l : Launch} (hG : GOK G) {i n : Int32} {w : Value} (hw : w = .null ∨ ∃ t, w = .ref t) (h0 : ¬ i < 0) (h1 : i < n) : Met l ypci (.code ypci prog_19_method_11_code 3 (some .int) :: gw) (rmm 1) (PcW G [.int i, .int n, w] S) (Qw G (some (.int i)) S) 0 0 (Aw G) := by
  have hlen : (lg_sl [.int i, .int n, w]).length ≤ 3 := by
    rcases hw with rfl | ⟨t, rfl⟩ <;> exact Nat.le_of_ble_eq_true rfl
  refine met_of (by decide) 1 G hG S _ hlen _ _ (fun X _ C => ?_)
  have C : Cx G X "jdk/internal/util/Preconditions" prog_19_method_11_code 3 1 (some .int) := C
  show At G X 3 _ 0 [(0, .int i), (1, .int n), (2, w)] [] S
  refine at_iload_n (j := 0) C dpci_0 rfl rfl ?_
  refine at_if_lt C dpci_1 rfl (fun h => absurd h h0) (fun _ => ?_)
  refine at_iload_n (j := 0) C dpci_4 rfl rfl ?_
  refine at_iload_n (j := 1) C dpci_5 rfl rfl ?_
  refine at_icmp_lt C dpci_6 rfl (fun _ => ?_) (fun h => absurd h1 h)
  refine at_iload_n (j := 0) C dpci_16 rfl rfl ?_
  exact at_iret C dpci_17
theorem csci {l : Launch} (hG : GOK G) {i n : Int32} (h0 : ¬ i < 0) (h1 : i < n) : Met l ysci (.code ysci prog_14_method_155_code 2 none :: gw) (rmm 2) (PcW G [.int i, .int n] S) (Qw G none S) 0 0 (Aw G) := by
  refine met_of (by decide) 2 G hG S _ (Nat.le_of_ble_eq_true rfl) _ _ (fun X _ C => ?_)
  have C : Cx G X "java/lang/String" prog_14_method_155_code 2 2 none := C
  show At G X 2 _ 0 [(0, .int i), (1, .int n)] [] S
  have hq := C.2.2.2.2.2.1.2.2.2.2.2
  have key : ∀ w : Value, (w = .null ∨ ∃ t, w = .ref t) → va_Z "jdk/internal/util/Preconditions" "SIOOBE_FORMATTER" "Ljava/util/function/BiFunction;" w (Aw G) (xs X) (xs X).heap → At G X 2 (MQ (xb X) (Qw G none S) (xa X) (xs X) (xk X) (xz X) (Aw G)) 0 [(0, .int i), (1, .int n)] [] S := by
    intro w hw hZ
    have hc : w.category = 1 := by rcases hw with rfl | ⟨t, rfl⟩ <;> rfl
    refine at_iload_n (j := 0) C dsci_0 rfl rfl ?_
    refine at_iload_n (j := 1) C dsci_1 rfl rfl ?_
    refine at_gets C hZ fl_fmt dsci_2 ?_
    refine at_callSi (As := [.int i, .int n, w]) (st := []) C kj_pci (cpci hG hw h0 h1) (by omega) rfl rfl (Nat.le_of_ble_eq_true rfl) dsci_5 ?_
    refine at_pop C dsci_8 rfl ?_
    exact at_vret C dsci_9
  rcases hq with h | ⟨t, h⟩
  · exact key _ (Or.inl rfl) h
  · exact key _ (Or.inr ⟨t, rfl⟩) h
theorem town_ch {i : Int32} (hi : inb i 4 = true) : ((town i &&& 255).toUInt32 % 65536).toInt32 = town i ∧ narrow .char (.int (town i)) = .int (town i) := by
  have h := inb_lt hi
  unfold town
  generalize i.toNatClampNeg = k at h
  have h4 : k = 0 ∨ k = 1 ∨ k = 2 ∨ k = 3 := by omega
  rcases h4 with rfl | rfl | rfl | rfl <;> exact ⟨by decide, rfl⟩
theorem inb_4 {i : Int32} (hi : inb i 4 = true) : ¬ i < 0 ∧ i < 4 := by
  unfold inb at hi
  simp only [Bool.and_eq_true, Bool.not_eq_true', decide_eq_false_iff_not, decide_eq_true_eq] at hi
  refine ⟨hi.1, ?_⟩
  have h1 := hi.1
  rw [Int32.lt_iff_toInt_lt] at h1 ⊢
  have h2 := hi.2
  unfold Int32.toNatClampNeg at h2
  have e0 : (0 : Int32).toInt = 0 := by decide
  have e4 : (4 : Int32).toInt = 4 := by decide
  rw [e0] at h1
  rw [e4]
  omega
theorem clch {l : Launch} (hG : GOK G) {i : Int32} (hi : inb i 4 = true) : Met l ylch (.code ylch prog_15_method_2_code 2 (some .char) :: gw) (rmm 3) (PcW G [.ref G.2.2.2.2, .int i] S) (Qw G (some (.int (town i))) S) 0 0 (Aw G) := by
  refine met_of (by decide) 3 G hG S _ (Nat.le_of_ble_eq_true rfl) _ _ (fun X _ C => ?_)
  have C : Cx G X "java/lang/StringLatin1" prog_15_method_2_code 2 3 (some .char) := C
  show At G X 2 _ 0 [(0, .ref G.2.2.2.2), (1, .int i)] [] S
  refine at_iload_n (j := 1) C dlch_0 rfl rfl ?_
  refine at_aload_n (j := 0) C dlch_1 rfl rfl ?_
  refine at_vlen C dlch_2 ?_
  refine at_callSv (As := [.int i, .int 4]) (st := []) C kj_sci (csci hG (inb_4 hi).1 (inb_4 hi).2) (by omega) rfl rfl (Nat.le_of_ble_eq_true rfl) dlch_3 ?_
  refine at_aload_n (j := 0) C dlch_6 rfl rfl ?_
  refine at_iload_n (j := 1) C dlch_7 rfl rfl ?_
  refine at_vld C hi dlch_8 ?_
  refine at_sipush (x := 255) C dlch_9 (by decide) ?_
  refine at_iand C dlch_12 ?_
  refine at_i2c C (town_ch hi).1 dlch_13 ?_
  exact at_zret C (town_ch hi).2 dlch_14
theorem cschar {l : Launch} (hG : GOK G) {i : Int32} (hi : inb i 4 = true) : Met l yschar (.code yschar prog_14_method_56_code 2 (some .char) :: gw) (rmm 4) (PcW G [.ref G.2.2.2.1, .int i] S) (Qw G (some (.int (town i))) S) 0 0 (Aw G) := by
  refine met_of (by decide) 4 G hG S _ (Nat.le_of_ble_eq_true rfl) _ _ (fun X _ C => ?_)
  have C : Cx G X "java/lang/String" prog_14_method_56_code 2 4 (some .char) := C
  show At G X 2 _ 0 [(0, .ref G.2.2.2.1), (1, .int i)] [] S
  refine at_aload_n (j := 0) C dschar_0 rfl rfl ?_
  refine at_callZ (As := []) C kj_isl (cisl hG) (by omega) rfl rfl (Nat.le_of_ble_eq_true rfl) dschar_1 ?_
  refine at_if_eq C dschar_4 rfl (fun h => absurd h (by decide)) (fun _ => ?_)
  refine at_aload_n (j := 0) C dschar_7 rfl rfl ?_
  refine at_sval C dschar_8 ?_
  refine at_iload_n (j := 1) C dschar_11 rfl rfl ?_
  refine at_callSi (As := [.ref G.2.2.2.2, .int i]) (st := []) C kj_lch (clch hG hi) (by omega) rfl rfl (Nat.le_of_ble_eq_true rfl) dschar_12 ?_
  exact at_zret C (town_ch hi).2 dschar_15
theorem at_slen (C : Cx G X own cc nL lv rt) {idx : Nat} (hk : kV own idx "java/lang/String" yslen prog_14_method_54_code 1 (some .int) 0) (hlv : 2 < lv) (hcat : (st.map fun v => v.category).sum ≤ 8) (d : decode cc pc = .ok (.invokevirtual idx, 3)) (kk : At G X nL Q (pc + 3) L (.int 4 :: st) S) : At G X nL Q pc L (.ref G.2.2.2.1 :: st) S :=
  at_callZ (As := []) C hk (cslen C.2.2.2.2.2.2.1) hlv rfl rfl hcat d kk
theorem at_schar (C : Cx G X own cc nL lv rt) {idx : Nat} {i : Int32} (hk : kV own idx "java/lang/String" yschar prog_14_method_56_code 2 (some .char) 1) (hi : inb i 4 = true) (hlv : 4 < lv) (hcat : (st.map fun v => v.category).sum ≤ 8) (d : decode cc pc = .ok (.invokevirtual idx, 3)) (kk : At G X nL Q (pc + 3) L (.int (town i) :: st) S) : At G X nL Q pc L (.int i :: .ref G.2.2.2.1 :: st) S :=
  at_callZ (As := [.int i]) C hk (cschar C.2.2.2.2.2.2.1 hi) hlv rfl rfl hcat d kk
end STRS
