/-! the making of Copies -/
section CO
variable {K : CC} {X : CX} {A : Nat → Prop} {own : String} {cc : ByteArray} {nL lv kR zR pc k z : Nat} {Q : State → Prop} {L L' : List (Nat × Value)} {st : List Value} {ws : va_W}
theorem bt_perm {ws' : va_W} (is : List Nat) (hn : va_nd is = true) (h1 : is.filterMap (fun i => ws[i]?) = ws') (h2 : is.map (fun i => ws[i]?) = ws'.map some) (kk : Bt K X A nL Q pc L st k z ws') : Bt K X A nL Q pc L st k z ws := fun ls H locs hl hP hD hS => kk ls H locs hl (hP.sub is h1) (hD.sub is hn h2) hS
theorem bb_aald (C : Kb K X A own cc nL lv kR zR) (q : Nat) {n a b : Nat} {f : Nat → Option Nat} {i : Int32} (ha : ws[q]? = some (a, .inl (K.2 4, n, .inr (.inr (.inr (.inr f)))))) (hi : inb i n = true) (hf : va_rf (f i.toNatClampNeg) = .ref b) (d : decode cc pc = .ok (.aaload, 1)) (kk : Bt K X A nL Q (pc + 1) L (.ref b :: st) k z ws) : Bt K X A nL Q pc L (.int i :: .ref a :: st) k z ws := by
  intro ls H locs hl hP hD hS
  have hin := inb_in hi
  have hlt := inb_lt hi
  refine W.aald (v := va_rf (f i.toNatClampNeg)) (ty := .array .int) C.1.1 C.1.2.1 (hP q _ ha) ((C.2.1.1.2 4 _ rfl).1 n (fun j => va_rf (f j))) rfl (fun q => by cases q) (by show ¬ (i < 0 ∨ (arrV _ _ _).slots.size ≤ _); rw [arrV_size]; exact hin) (by show (arrV _ _ _).slots[_]? = _; rw [arrV_read _ _ hlt]) rfl rfl d ?_
  rw [hf]
  exact kk ls H locs hl hP hD hS
theorem rw5_r (r : Nat → Nat) : (fun i => if i < 5 then some (r i) else none) = rw5 (r 0) (r 1) (r 2) (r 3) (r 4) := by
  funext i
  by_cases hi : i < 5
  · have e : i = 0 ∨ i = 1 ∨ i = 2 ∨ i = 3 ∨ i = 4 := by omega
    rcases e with rfl | rfl | rfl | rfl | rfl <;> rfl
  · show (if i < 5 then _ else none) = (if i < 5 then _ else none)
    rw [if_neg hi, if_neg hi]
theorem bb_mna (C : Kb K X A own cc nL lv kR zR) {index : Nat} (hlink : Cond.classLink own index ("[" ++ (FieldType.array .int).toString) ∈ gw) (hk : k + 6 ≤ kR) (hz : z + 485 ≤ zR) (d : decode cc pc = .ok (.multianewarray index 2, 4))
    (kk : ∀ q r0 r1 r2 r3 r4, Bt K X A nL Q (pc + 4) L (.ref q :: st) (k + 6) (z + 485) (ws ++ [(q, .inl (K.2 4, 5, .inr (.inr (.inr (.inr (rw5 r0 r1 r2 r3 r4)))))), (r0, .inl (K.2 0, 96, .inl (fun _ => 0))), (r1, .inl (K.2 0, 96, .inl (fun _ => 0))), (r2, .inl (K.2 0, 96, .inl (fun _ => 0))), (r3, .inl (K.2 0, 96, .inl (fun _ => 0))), (r4, .inl (K.2 0, 96, .inl (fun _ => 0)))])) : Bt K X A nL Q pc L (.int 96 :: .int 5 :: st) k z ws := by
  intro ls H locs hl hP hD hS
  have hts := C.1.2.2.2.2
  obtain ⟨r1, r2, r3, r4, r5⟩ := C.2.2.2
  have hcy : (xs X).vm.findClass (FieldType.array .int).toString = some (K.2 0) := (C.2.1.1.2 0 _ rfl).2
  have hP' : va_P K.1 cls (ws ++ va_pl [] (fun _ => .inl (K.2 0, 0, .inl (fun _ => 0)))) H := by rw [show va_pl [] (fun _ => .inl (K.2 0, 0, .inl (fun _ => 0))) = ([] : va_W) from rfl, List.append_nil]; exact hP
  have hD' : va_D A (ws ++ va_pl [] (fun _ => .inl (K.2 0, 0, .inl (fun _ => 0)))) := by rw [show va_pl [] (fun _ => .inl (K.2 0, 0, .inl (fun _ => 0))) = ([] : va_W) from rfl, List.append_nil]; exact hD
  refine va_mna (ty := .int) (n := 5) (k := 96) (N' := 5) (K' := 96) (z := (96, .inl (fun _ => 0))) C.1.1 C.1.2.1 C.1.2.2.2.1 (hts _ hlink) r5 (hts _ (mg (i := 83) (by decide +kernel) rfl)) hcy C.2.1.1 hP' hD' hS C.2.2.1 (by decide) (by decide) (by decide) (by decide) (by decide) (by decide) (by decide) rfl rfl (by omega) (by omega) (fun c => arrV_new c 96 (.int 0)) d (fun q r cA H1 hinj hni hK1 hP1 hD1 hS1 => ?_)
  have e : cA = K.2 4 := ra_eq (hK1.2 5 (cA, .array .int) rfl).2 (C.2.1.1.2 4 _ rfl).2
  subst e
  have ev : va_pl ([] ++ (List.range 5).map r) (vr_up (fun _ => .inl (K.2 0, 0, .inl (fun _ => 0))) ((List.range 5).map r) (.inl (K.2 0, (96, .inl (fun _ => 0))))) = ([(r 0, .inl (K.2 0, 96, .inl (fun _ => 0))), (r 1, .inl (K.2 0, 96, .inl (fun _ => 0))), (r 2, .inl (K.2 0, 96, .inl (fun _ => 0))), (r 3, .inl (K.2 0, 96, .inl (fun _ => 0))), (r 4, .inl (K.2 0, 96, .inl (fun _ => 0)))] : va_W) := by
    rw [← vr_rows (fun a _ h => absurd h List.not_mem_nil)]
    rfl
  rw [ev, rw5_r, List.append_assoc] at hP1 hD1
  exact kk q (r 0) (r 1) (r 2) (r 3) (r 4) ls H1 locs hl hP1 hD1 hS1
end CO
theorem dCo_init_0 : decode prog_3_method_1_code 0 = .ok (.aload_n 0, 1) := by decide +kernel
theorem dCo_init_1 : decode prog_3_method_1_code 1 = .ok (.invokespecial 3, 3) := by decide +kernel
theorem dCo_init_4 : decode prog_3_method_1_code 4 = .ok (.aload_n 0, 1) := by decide +kernel
theorem dCo_init_5 : decode prog_3_method_1_code 5 = .ok (.iconst 5, 1) := by decide +kernel
theorem dCo_init_6 : decode prog_3_method_1_code 6 = .ok (.bipush 96, 2) := by decide +kernel
theorem dCo_init_8 : decode prog_3_method_1_code 8 = .ok (.multianewarray 11 2, 4) := by decide +kernel
theorem dCo_init_12 : decode prog_3_method_1_code 12 = .ok (.putfield 13, 3) := by decide +kernel
theorem dCo_init_15 : decode prog_3_method_1_code 15 = .ok (.aload_n 0, 1) := by decide +kernel
theorem dCo_init_16 : decode prog_3_method_1_code 16 = .ok (.iconst 5, 1) := by decide +kernel
theorem dCo_init_17 : decode prog_3_method_1_code 17 = .ok (.newarray .int, 2) := by decide +kernel
theorem dCo_init_19 : decode prog_3_method_1_code 19 = .ok (.putfield 16, 3) := by decide +kernel
theorem dCo_init_22 : decode prog_3_method_1_code 22 = .ok (.aload_n 0, 1) := by decide +kernel
theorem dCo_init_23 : decode prog_3_method_1_code 23 = .ok (.iconst 0, 1) := by decide +kernel
theorem dCo_init_24 : decode prog_3_method_1_code 24 = .ok (.putfield 20, 3) := by decide +kernel
theorem dCo_init_27 : decode prog_3_method_1_code 27 = .ok (.iconst 0, 1) := by decide +kernel
theorem dCo_init_28 : decode prog_3_method_1_code 28 = .ok (.istore_n 1, 1) := by decide +kernel
theorem dCo_init_29 : decode prog_3_method_1_code 29 = .ok (.iload_n 1, 1) := by decide +kernel
theorem dCo_init_30 : decode prog_3_method_1_code 30 = .ok (.iconst 5, 1) := by decide +kernel
theorem dCo_init_31 : decode prog_3_method_1_code 31 = .ok (.if_icmp .ge 19, 3) := by decide +kernel
theorem dCo_init_34 : decode prog_3_method_1_code 34 = .ok (.aload_n 0, 1) := by decide +kernel
theorem dCo_init_35 : decode prog_3_method_1_code 35 = .ok (.getfield 13, 3) := by decide +kernel
theorem dCo_init_38 : decode prog_3_method_1_code 38 = .ok (.iload_n 1, 1) := by decide +kernel
theorem dCo_init_39 : decode prog_3_method_1_code 39 = .ok (.aaload, 1) := by decide +kernel
theorem dCo_init_40 : decode prog_3_method_1_code 40 = .ok (.iconst (-1), 1) := by decide +kernel
theorem dCo_init_41 : decode prog_3_method_1_code 41 = .ok (.invokestatic 24, 3) := by decide +kernel
theorem dCo_init_44 : decode prog_3_method_1_code 44 = .ok (.iinc 1 1, 3) := by decide +kernel
theorem dCo_init_47 : decode prog_3_method_1_code 47 = .ok (.goto (-18), 3) := by decide +kernel
theorem dCo_init_50 : decode prog_3_method_1_code 50 = .ok (.return_, 1) := by decide +kernel
theorem jCo_24 : kS RcCo 24 yfill prog_18_method_103_code 4 none 2 := ⟨(mg (i := 168) (by decide +kernel) rfl), (mg (i := 91) (by decide +kernel) rfl), (mg (i := 44) (by decide +kernel) rfl), (mg (i := 92) (by decide +kernel) rfl), ⟨by decide, by decide, by decide +kernel⟩, by decide⟩
theorem mCo {l : Launch} : HCo l := by
  intro K h sz
  refine met_mk (y := yCo_init) (cc := prog_3_method_1_code) (mL := 2) (by decide) rfl 2 7 490 K h 1 [.null, .null, .int 0] sz (by decide) (woCo K h) (fun X A _ C => ?_)
  have C : Kx K X A RcCo prog_3_method_1_code 2 2 7 490 := C
  refine bt_aload_n (j := 0) C dCo_init_0 rfl rfl ?_
  refine bt_obj C (by omega) (mg (i := 165) (by decide +kernel) rfl) dCo_init_1 ?_
  refine bt_aload_n (j := 0) C dCo_init_4 rfl rfl ?_
  refine bt_iconst (x := 5) C dCo_init_5 (by decide) ?_
  refine bt_bipush (x := 96) C dCo_init_6 (by decide) ?_
  refine bb_mna C.b (mg (i := 166) (by decide +kernel) rfl) (by decide) (by decide) dCo_init_8 (fun q r0 r1 r2 r3 r4 => ?_)
  refine bt_w (ws' := [(h, .inr (1, [.null, .null, .int 0])), (q, .inl (K.2 4, 5, .inr (.inr (.inr (.inr (rw5 r0 r1 r2 r3 r4)))))), (r0, .inl (K.2 0, 96, .inl (fun _ => 0))), (r1, .inl (K.2 0, 96, .inl (fun _ => 0))), (r2, .inl (K.2 0, 96, .inl (fun _ => 0))), (r3, .inl (K.2 0, 96, .inl (fun _ => 0))), (r4, .inl (K.2 0, 96, .inl (fun _ => 0)))]) rfl ?_
  refine bt_put (ty := .array (.array .int)) C 0 1 0 rfl rfl (by decide) iwCo tcCo tyCo nmCo lkCo_told rfl rfl rfl rfl (Nat.le_of_ble_eq_true rfl) dCo_init_12 ?_
  refine bt_w (ws' := [(h, .inr (1, [.ref q, .null, .int 0])), (q, .inl (K.2 4, 5, .inr (.inr (.inr (.inr (rw5 r0 r1 r2 r3 r4)))))), (r0, .inl (K.2 0, 96, .inl (fun _ => 0))), (r1, .inl (K.2 0, 96, .inl (fun _ => 0))), (r2, .inl (K.2 0, 96, .inl (fun _ => 0))), (r3, .inl (K.2 0, 96, .inl (fun _ => 0))), (r4, .inl (K.2 0, 96, .inl (fun _ => 0)))]) rfl ?_
  refine bt_aload_n (j := 0) C dCo_init_15 rfl rfl ?_
  refine bt_iconst (x := 5) C dCo_init_16 (by decide) ?_
  refine bt_newa (N := 5) (a0 := (5, .inl (fun _ => 0))) C 0 rfl rfl (mg (i := 83) (by decide +kernel) rfl) (fun _ => rfl) (by decide) (by decide) (by decide) (by decide) (by decide) dCo_init_17 (fun a => ?_)
  refine bt_w (ws' := [(h, .inr (1, [.ref q, .null, .int 0])), (q, .inl (K.2 4, 5, .inr (.inr (.inr (.inr (rw5 r0 r1 r2 r3 r4)))))), (r0, .inl (K.2 0, 96, .inl (fun _ => 0))), (r1, .inl (K.2 0, 96, .inl (fun _ => 0))), (r2, .inl (K.2 0, 96, .inl (fun _ => 0))), (r3, .inl (K.2 0, 96, .inl (fun _ => 0))), (r4, .inl (K.2 0, 96, .inl (fun _ => 0))), (a, .inl (K.2 0, 5, .inl (fun _ => 0)))]) rfl ?_
  refine bt_put (ty := .array .int) C 0 1 1 rfl rfl (by decide) iwCo tcCo tyCo nmCo lkCo_readAs rfl rfl rfl rfl (Nat.le_of_ble_eq_true rfl) dCo_init_19 ?_
  refine bt_w (ws' := [(h, .inr (1, [.ref q, .ref a, .int 0])), (q, .inl (K.2 4, 5, .inr (.inr (.inr (.inr (rw5 r0 r1 r2 r3 r4)))))), (r0, .inl (K.2 0, 96, .inl (fun _ => 0))), (r1, .inl (K.2 0, 96, .inl (fun _ => 0))), (r2, .inl (K.2 0, 96, .inl (fun _ => 0))), (r3, .inl (K.2 0, 96, .inl (fun _ => 0))), (r4, .inl (K.2 0, 96, .inl (fun _ => 0))), (a, .inl (K.2 0, 5, .inl (fun _ => 0)))]) rfl ?_
  refine bt_aload_n (j := 0) C dCo_init_22 rfl rfl ?_
  refine bt_iconst (x := 0) C dCo_init_23 (by decide) ?_
  refine bt_put (ty := .int) C 0 1 2 rfl rfl (by decide) iwCo tcCo tyCo nmCo lkCo_readings rfl rfl rfl rfl (Nat.le_of_ble_eq_true rfl) dCo_init_24 ?_
  refine bt_w (ws' := [(h, .inr (1, [.ref q, .ref a, .int 0])), (q, .inl (K.2 4, 5, .inr (.inr (.inr (.inr (rw5 r0 r1 r2 r3 r4)))))), (r0, .inl (K.2 0, 96, .inl (fun _ => 0))), (r1, .inl (K.2 0, 96, .inl (fun _ => 0))), (r2, .inl (K.2 0, 96, .inl (fun _ => 0))), (r3, .inl (K.2 0, 96, .inl (fun _ => 0))), (r4, .inl (K.2 0, 96, .inl (fun _ => 0))), (a, .inl (K.2 0, 5, .inl (fun _ => 0)))]) rfl ?_
  refine bt_iconst (x := 0) C dCo_init_27 (by decide) ?_
  refine bb_istore_n (L' := [(1, .int 0), (0, .ref h)]) C.b dCo_init_28 rfl (by decide) rfl ?_
  refine bb_iload_n (j := 0) C.b dCo_init_29 rfl rfl ?_
  refine bt_iconst (x := 5) C dCo_init_30 (by decide) ?_
  refine bb_icmp_ge C.b dCo_init_31 rfl (fun hc => absurd hc (by decide)) (fun _ => ?_)
  refine bt_aload_n (j := 1) C dCo_init_34 rfl rfl ?_
  refine bb_get C.b 0 1 0 rfl rfl (by decide) iwCo lkCo_told rfl dCo_init_35 ?_
  refine bb_iload_n (j := 0) C.b dCo_init_38 rfl rfl ?_
  refine bb_aald (b := r0) C.b 1 rfl (by decide) (by rw [show (0 : Int32).toNatClampNeg = 0 from by decide]; rfl) dCo_init_39 ?_
  refine bt_iconst (x := -1) C dCo_init_40 (by decide) ?_
  refine bb_fill (wr := [(h, .inr (1, [.ref q, .ref a, .int 0])), (q, .inl (K.2 4, 5, .inr (.inr (.inr (.inr (rw5 r0 r1 r2 r3 r4)))))), (r1, .inl (K.2 0, 96, .inl (fun _ => 0))), (r2, .inl (K.2 0, 96, .inl (fun _ => 0))), (r3, .inl (K.2 0, 96, .inl (fun _ => 0))), (r4, .inl (K.2 0, 96, .inl (fun _ => 0))), (a, .inl (K.2 0, 5, .inl (fun _ => 0)))]) C.b jCo_24 (by decide) (by decide) (by decide) (by decide) [2] [0, 1, 3, 4, 5, 6, 7] rfl rfl rfl rfl rfl (by decide) (by decide) dCo_init_41 ?_
  refine bt_w (ws' := [(h, .inr (1, [.ref q, .ref a, .int 0])), (q, .inl (K.2 4, 5, .inr (.inr (.inr (.inr (rw5 r0 r1 r2 r3 r4)))))), (r1, .inl (K.2 0, 96, .inl (fun _ => 0))), (r2, .inl (K.2 0, 96, .inl (fun _ => 0))), (r3, .inl (K.2 0, 96, .inl (fun _ => 0))), (r4, .inl (K.2 0, 96, .inl (fun _ => 0))), (a, .inl (K.2 0, 5, .inl (fun _ => 0))), (r0, .inl (K.2 0, 96, .inl (filI 96 (-1) (fun _ => 0))))]) rfl ?_
  refine bb_iinc (j := 0) (c := 1) (L' := [(1, .int 1), (0, .ref h)]) C.b dCo_init_44 rfl (by decide) (by decide) (by rw [show (0 : Int32) + 1 = 1 from by decide]; rfl) ?_
  refine bb_goto C.b dCo_init_47 rfl ?_
  refine bb_iload_n (j := 0) C.b dCo_init_29 rfl rfl ?_
  refine bt_iconst (x := 5) C dCo_init_30 (by decide) ?_
  refine bb_icmp_ge C.b dCo_init_31 rfl (fun hc => absurd hc (by decide)) (fun _ => ?_)
  refine bt_aload_n (j := 1) C dCo_init_34 rfl rfl ?_
  refine bb_get C.b 0 1 0 rfl rfl (by decide) iwCo lkCo_told rfl dCo_init_35 ?_
  refine bb_iload_n (j := 0) C.b dCo_init_38 rfl rfl ?_
  refine bb_aald (b := r1) C.b 1 rfl (by decide) (by rw [show (1 : Int32).toNatClampNeg = 1 from by decide]; rfl) dCo_init_39 ?_
  refine bt_iconst (x := -1) C dCo_init_40 (by decide) ?_
  refine bb_fill (wr := [(h, .inr (1, [.ref q, .ref a, .int 0])), (q, .inl (K.2 4, 5, .inr (.inr (.inr (.inr (rw5 r0 r1 r2 r3 r4)))))), (r2, .inl (K.2 0, 96, .inl (fun _ => 0))), (r3, .inl (K.2 0, 96, .inl (fun _ => 0))), (r4, .inl (K.2 0, 96, .inl (fun _ => 0))), (a, .inl (K.2 0, 5, .inl (fun _ => 0))), (r0, .inl (K.2 0, 96, .inl (filI 96 (-1) (fun _ => 0))))]) C.b jCo_24 (by decide) (by decide) (by decide) (by decide) [2] [0, 1, 3, 4, 5, 6, 7] rfl rfl rfl rfl rfl (by decide) (by decide) dCo_init_41 ?_
  refine bt_w (ws' := [(h, .inr (1, [.ref q, .ref a, .int 0])), (q, .inl (K.2 4, 5, .inr (.inr (.inr (.inr (rw5 r0 r1 r2 r3 r4)))))), (r2, .inl (K.2 0, 96, .inl (fun _ => 0))), (r3, .inl (K.2 0, 96, .inl (fun _ => 0))), (r4, .inl (K.2 0, 96, .inl (fun _ => 0))), (a, .inl (K.2 0, 5, .inl (fun _ => 0))), (r0, .inl (K.2 0, 96, .inl (filI 96 (-1) (fun _ => 0)))), (r1, .inl (K.2 0, 96, .inl (filI 96 (-1) (fun _ => 0))))]) rfl ?_
  refine bb_iinc (j := 0) (c := 1) (L' := [(1, .int 2), (0, .ref h)]) C.b dCo_init_44 rfl (by decide) (by decide) (by rw [show (1 : Int32) + 1 = 2 from by decide]; rfl) ?_
  refine bb_goto C.b dCo_init_47 rfl ?_
  refine bb_iload_n (j := 0) C.b dCo_init_29 rfl rfl ?_
  refine bt_iconst (x := 5) C dCo_init_30 (by decide) ?_
  refine bb_icmp_ge C.b dCo_init_31 rfl (fun hc => absurd hc (by decide)) (fun _ => ?_)
  refine bt_aload_n (j := 1) C dCo_init_34 rfl rfl ?_
  refine bb_get C.b 0 1 0 rfl rfl (by decide) iwCo lkCo_told rfl dCo_init_35 ?_
  refine bb_iload_n (j := 0) C.b dCo_init_38 rfl rfl ?_
  refine bb_aald (b := r2) C.b 1 rfl (by decide) (by rw [show (2 : Int32).toNatClampNeg = 2 from by decide]; rfl) dCo_init_39 ?_
  refine bt_iconst (x := -1) C dCo_init_40 (by decide) ?_
  refine bb_fill (wr := [(h, .inr (1, [.ref q, .ref a, .int 0])), (q, .inl (K.2 4, 5, .inr (.inr (.inr (.inr (rw5 r0 r1 r2 r3 r4)))))), (r3, .inl (K.2 0, 96, .inl (fun _ => 0))), (r4, .inl (K.2 0, 96, .inl (fun _ => 0))), (a, .inl (K.2 0, 5, .inl (fun _ => 0))), (r0, .inl (K.2 0, 96, .inl (filI 96 (-1) (fun _ => 0)))), (r1, .inl (K.2 0, 96, .inl (filI 96 (-1) (fun _ => 0))))]) C.b jCo_24 (by decide) (by decide) (by decide) (by decide) [2] [0, 1, 3, 4, 5, 6, 7] rfl rfl rfl rfl rfl (by decide) (by decide) dCo_init_41 ?_
  refine bt_w (ws' := [(h, .inr (1, [.ref q, .ref a, .int 0])), (q, .inl (K.2 4, 5, .inr (.inr (.inr (.inr (rw5 r0 r1 r2 r3 r4)))))), (r3, .inl (K.2 0, 96, .inl (fun _ => 0))), (r4, .inl (K.2 0, 96, .inl (fun _ => 0))), (a, .inl (K.2 0, 5, .inl (fun _ => 0))), (r0, .inl (K.2 0, 96, .inl (filI 96 (-1) (fun _ => 0)))), (r1, .inl (K.2 0, 96, .inl (filI 96 (-1) (fun _ => 0)))), (r2, .inl (K.2 0, 96, .inl (filI 96 (-1) (fun _ => 0))))]) rfl ?_
  refine bb_iinc (j := 0) (c := 1) (L' := [(1, .int 3), (0, .ref h)]) C.b dCo_init_44 rfl (by decide) (by decide) (by rw [show (2 : Int32) + 1 = 3 from by decide]; rfl) ?_
  refine bb_goto C.b dCo_init_47 rfl ?_
  refine bb_iload_n (j := 0) C.b dCo_init_29 rfl rfl ?_
  refine bt_iconst (x := 5) C dCo_init_30 (by decide) ?_
  refine bb_icmp_ge C.b dCo_init_31 rfl (fun hc => absurd hc (by decide)) (fun _ => ?_)
  refine bt_aload_n (j := 1) C dCo_init_34 rfl rfl ?_
  refine bb_get C.b 0 1 0 rfl rfl (by decide) iwCo lkCo_told rfl dCo_init_35 ?_
  refine bb_iload_n (j := 0) C.b dCo_init_38 rfl rfl ?_
  refine bb_aald (b := r3) C.b 1 rfl (by decide) (by rw [show (3 : Int32).toNatClampNeg = 3 from by decide]; rfl) dCo_init_39 ?_
  refine bt_iconst (x := -1) C dCo_init_40 (by decide) ?_
  refine bb_fill (wr := [(h, .inr (1, [.ref q, .ref a, .int 0])), (q, .inl (K.2 4, 5, .inr (.inr (.inr (.inr (rw5 r0 r1 r2 r3 r4)))))), (r4, .inl (K.2 0, 96, .inl (fun _ => 0))), (a, .inl (K.2 0, 5, .inl (fun _ => 0))), (r0, .inl (K.2 0, 96, .inl (filI 96 (-1) (fun _ => 0)))), (r1, .inl (K.2 0, 96, .inl (filI 96 (-1) (fun _ => 0)))), (r2, .inl (K.2 0, 96, .inl (filI 96 (-1) (fun _ => 0))))]) C.b jCo_24 (by decide) (by decide) (by decide) (by decide) [2] [0, 1, 3, 4, 5, 6, 7] rfl rfl rfl rfl rfl (by decide) (by decide) dCo_init_41 ?_
  refine bt_w (ws' := [(h, .inr (1, [.ref q, .ref a, .int 0])), (q, .inl (K.2 4, 5, .inr (.inr (.inr (.inr (rw5 r0 r1 r2 r3 r4)))))), (r4, .inl (K.2 0, 96, .inl (fun _ => 0))), (a, .inl (K.2 0, 5, .inl (fun _ => 0))), (r0, .inl (K.2 0, 96, .inl (filI 96 (-1) (fun _ => 0)))), (r1, .inl (K.2 0, 96, .inl (filI 96 (-1) (fun _ => 0)))), (r2, .inl (K.2 0, 96, .inl (filI 96 (-1) (fun _ => 0)))), (r3, .inl (K.2 0, 96, .inl (filI 96 (-1) (fun _ => 0))))]) rfl ?_
  refine bb_iinc (j := 0) (c := 1) (L' := [(1, .int 4), (0, .ref h)]) C.b dCo_init_44 rfl (by decide) (by decide) (by rw [show (3 : Int32) + 1 = 4 from by decide]; rfl) ?_
  refine bb_goto C.b dCo_init_47 rfl ?_
  refine bb_iload_n (j := 0) C.b dCo_init_29 rfl rfl ?_
  refine bt_iconst (x := 5) C dCo_init_30 (by decide) ?_
  refine bb_icmp_ge C.b dCo_init_31 rfl (fun hc => absurd hc (by decide)) (fun _ => ?_)
  refine bt_aload_n (j := 1) C dCo_init_34 rfl rfl ?_
  refine bb_get C.b 0 1 0 rfl rfl (by decide) iwCo lkCo_told rfl dCo_init_35 ?_
  refine bb_iload_n (j := 0) C.b dCo_init_38 rfl rfl ?_
  refine bb_aald (b := r4) C.b 1 rfl (by decide) (by rw [show (4 : Int32).toNatClampNeg = 4 from by decide]; rfl) dCo_init_39 ?_
  refine bt_iconst (x := -1) C dCo_init_40 (by decide) ?_
  refine bb_fill (wr := [(h, .inr (1, [.ref q, .ref a, .int 0])), (q, .inl (K.2 4, 5, .inr (.inr (.inr (.inr (rw5 r0 r1 r2 r3 r4)))))), (a, .inl (K.2 0, 5, .inl (fun _ => 0))), (r0, .inl (K.2 0, 96, .inl (filI 96 (-1) (fun _ => 0)))), (r1, .inl (K.2 0, 96, .inl (filI 96 (-1) (fun _ => 0)))), (r2, .inl (K.2 0, 96, .inl (filI 96 (-1) (fun _ => 0)))), (r3, .inl (K.2 0, 96, .inl (filI 96 (-1) (fun _ => 0))))]) C.b jCo_24 (by decide) (by decide) (by decide) (by decide) [2] [0, 1, 3, 4, 5, 6, 7] rfl rfl rfl rfl rfl (by decide) (by decide) dCo_init_41 ?_
  refine bt_w (ws' := [(h, .inr (1, [.ref q, .ref a, .int 0])), (q, .inl (K.2 4, 5, .inr (.inr (.inr (.inr (rw5 r0 r1 r2 r3 r4)))))), (a, .inl (K.2 0, 5, .inl (fun _ => 0))), (r0, .inl (K.2 0, 96, .inl (filI 96 (-1) (fun _ => 0)))), (r1, .inl (K.2 0, 96, .inl (filI 96 (-1) (fun _ => 0)))), (r2, .inl (K.2 0, 96, .inl (filI 96 (-1) (fun _ => 0)))), (r3, .inl (K.2 0, 96, .inl (filI 96 (-1) (fun _ => 0)))), (r4, .inl (K.2 0, 96, .inl (filI 96 (-1) (fun _ => 0))))]) rfl ?_
  refine bb_iinc (j := 0) (c := 1) (L' := [(1, .int 5), (0, .ref h)]) C.b dCo_init_44 rfl (by decide) (by decide) (by rw [show (4 : Int32) + 1 = 5 from by decide]; rfl) ?_
  refine bb_goto C.b dCo_init_47 rfl ?_
  refine bb_iload_n (j := 0) C.b dCo_init_29 rfl rfl ?_
  refine bt_iconst (x := 5) C dCo_init_30 (by decide) ?_
  refine bb_icmp_ge C.b dCo_init_31 rfl (fun _ => ?_) (fun hc => absurd (Int32.le_refl _) hc)
  refine bt_perm (ws' := [(h, .inr (1, [.ref q, .ref a, .int 0])), (q, .inl (K.2 4, 5, .inr (.inr (.inr (.inr (rw5 r0 r1 r2 r3 r4)))))), (r0, .inl (K.2 0, 96, .inl (filI 96 (-1) (fun _ => 0)))), (r1, .inl (K.2 0, 96, .inl (filI 96 (-1) (fun _ => 0)))), (r2, .inl (K.2 0, 96, .inl (filI 96 (-1) (fun _ => 0)))), (r3, .inl (K.2 0, 96, .inl (filI 96 (-1) (fun _ => 0)))), (r4, .inl (K.2 0, 96, .inl (filI 96 (-1) (fun _ => 0)))), (a, .inl (K.2 0, 5, .inl (fun _ => 0)))]) [0, 1, 3, 4, 5, 6, 7, 2] rfl rfl rfl ?_
  exact bt_vret C (fun i => ([q, r0, r1, r2, r3, r4, a] : List Nat).getD i 0) rfl dCo_init_50
