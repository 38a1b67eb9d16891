/-! making: an array is filled -/
def PcF (K : CC) (a n : Nat) (f : Nat → Int32) (x : Int32) (sz : Nat) : Array Value → State → Prop := fun av U => av = ([.ref a, .int x] : List Value).toArray ∧ U.heap.size = sz ∧ va_P K.1 cls [(a, .inl (K.2 0, n, .inl f))] U.heap ∧ va_K K.1 cls (tyc K) U ∧ (∀ q ∈ nst, va_Nw (.methodLinkNest q.1 q.2.1 q.2.2.1 q.2.2.2) U) ∧ va_D (fun _ => True) [(a, .inl (K.2 0, n, .inl f))] ∧ va_AOA .int U
theorem PcF.blind {K : CC} {a n : Nat} {f : Nat → Int32} {x : Int32} {sz : Nat} : FrameBlind (PcF K a n f x sz) := by
  intro v U g mk q
  obtain ⟨q0, q1, qP, qK, qN, qD, qO⟩ := q
  exact ⟨q0, q1, qP, va_K.moved (u := U) (U := U.calling g mk v) (Vm.Alike.refl U.vm) qK, fun x hx => va_Nw.same (u := U) (U := U.calling g mk v) rfl rfl (qN x hx), qD, va_AOA.moved (u := U) (U := U.calling g mk v) (Vm.Alike.refl U.vm) qO⟩
section FILL
variable {K : CC} {X : CX} {A : Nat → Prop} {own : String} {cc : ByteArray} {nL lv kR zR pc k z : Nat} {Q : State → Prop} {L L' : List (Nat × Value)} {st : List Value} {ws : va_W}
theorem bb_alen (C : Kb K X A own cc nL lv kR zR) (q : Nat) {n a : Nat} {f : Nat → Int32} (ha : ws[q]? = some (a, .inl (K.2 0, n, .inl f))) (d : decode cc pc = .ok (.arraylength, 1)) (kk : Bt K X A nL Q (pc + 1) L (.int (nI n) :: st) k z ws) : Bt K X A nL Q pc L (.ref a :: st) k z ws :=
  fun ls H locs hl hP hD hS => va_alen (tys := tyc K) C.1.1 C.1.2.1 C.2.1.1 hP q 0 ha rfl rfl d (kk ls H locs hl hP hD hS)
theorem bb_vret {mc ms : Nat} {wo : (Nat → Nat) → va_W} (C : Kb K X A own cc nL lv kR zR) (hr : (xh X).sig.returnType = none) (hlk : (xh X).locks = false) (u : Nat → Nat) (h : ws = wo u) (d : decode cc pc = .ok (.return_, 1)) : Bt K X A nL (MQ (xb X) (QcB K wo A) (xa X) (xs X) mc ms A) pc L [] mc ms ws := by
  intro ls H locs hl hP hD hS
  subst h
  exact W.vret C.1.1 C.1.2.1 hr (fun t ht _ => ⟨⟨u, rfl, trivial, by rw [ht]; exact hP, hD⟩, hS.F ht⟩) hS.2.2 d hlk
theorem bb_loc (ks : List Nat) (h : lv_pick L ks = L') (kk : Bt K X A nL Q pc L' st k z ws) : Bt K X A nL Q pc L st k z ws := fun ls H locs hl hP hD hS => kk ls H locs (lv_sub hl ks h) hP hD hS
theorem fillW {a n : Nat} {f : Nat → Int32} {x : Int32} (C : Kb K X A "java/util/Arrays" prog_18_method_103_code 4 lv kR zR) (hr : (xh X).sig.returnType = none) (hlk : (xh X).locks = false) (hn : n < 2 ^ 31) : ∀ (j i : Nat), j + i = n → Bt K X A 4 (MQ (xb X) (QcB K (fun _ => [(a, .inl (K.2 0, n, .inl (filI n x f)))]) A) (xa X) (xs X) 0 0 A) 5 [(3, .int (nI n)), (2, .int (nI i)), (0, .ref a), (1, .int x)] [] 0 0 [(a, .inl (K.2 0, n, .inl (filI i x f)))] := by
  intro j
  induction j with
  | zero =>
    intro i hi
    have hi : i = n := by omega
    subst hi
    refine bb_iload_n (j := 1) C dfill_5 rfl rfl ?_
    refine bb_iload_n (j := 0) C dfill_6 rfl rfl ?_
    refine bb_icmp_ge C dfill_7 rfl (fun _ => ?_) (fun h => absurd (Int32.le_refl _) h)
    exact bb_vret C hr hlk (fun _ => 0) rfl dfill_20
  | succ j ih =>
    intro i hi
    refine bb_iload_n (j := 1) C dfill_5 rfl rfl ?_
    refine bb_iload_n (j := 0) C dfill_6 rfl rfl ?_
    refine bb_icmp_ge C dfill_7 rfl (fun h => absurd h (nI_ge (by omega) hn)) (fun _ => ?_)
    refine bb_aload_n (j := 2) C dfill_10 rfl rfl ?_
    refine bb_iload_n (j := 1) C dfill_11 rfl rfl ?_
    refine bb_iload_n (j := 3) C dfill_12 rfl rfl ?_
    refine bb_iast C 0 rfl (inb_n (by omega) hn) dfill_13 ?_
    refine bt_w (ws' := [(a, .inl (K.2 0, n, .inl (filI (i + 1) x f)))]) (by rw [nI_clamp (by omega), filI_s]; rfl) ?_
    refine bb_iinc (j := 1) (c := 1) (L' := [(2, .int (nI i + 1)), (3, .int (nI n)), (0, .ref a), (1, .int x)]) C dfill_14 rfl (by decide) (by decide) rfl ?_
    refine bb_goto C dfill_17 rfl ?_
    refine bb_loc (L' := [(3, .int (nI n)), (2, .int (nI (i + 1))), (0, .ref a), (1, .int x)]) [1, 0, 2, 3] ?_ (ih (i + 1) (by omega))
    rw [nI_succ]
    rfl
theorem mfill {l : Launch} (K : CC) (a n : Nat) (f : Nat → Int32) (x : Int32) (sz : Nat) (hn : n < 2 ^ 31) : Met l yfill (.code yfill prog_18_method_103_code 4 none :: gw) (rmC 1 0 0) (PcF K a n f x sz) (QcB K (fun _ => [(a, .inl (K.2 0, n, .inl (filI n x f)))]) (va_A [(a, .inl (K.2 0, n, .inl f))] sz)) 0 0 (va_A [(a, .inl (K.2 0, n, .inl f))] sz) := by
  refine Met.ofW (cc := prog_18_method_103_code) (maxL := 4) (ret := none) (by decide) rfl ?_
  intro p e s m args below meth c s₁ B hml hv
  obtain ⟨rfl, hsz, hP, hK, hN, hD0, hO⟩ := hv
  have hts := atoms_spec (ws := .code yfill prog_18_method_103_code 4 none :: gw) B.pre
  subst hsz
  have hD := hD0.self (sz := s.heap.size)
  have hl := lv_entry ([.ref a, .int x] : List Value) (n := 4) (Nat.le_of_ble_eq_true rfl)
  rw [lg_entry_eq]
  generalize hAe : va_A [(a, .inl (K.2 0, n, .inl f))] s.heap.size = A at hD ⊢
  have C : Kb K (p, l, e, rmC 1 0 0, s, m, ([.ref a, .int x] : List Value).toArray, below, meth, c, 0, 0) A "java/util/Arrays" prog_18_method_103_code 4 1 0 0 := ⟨⟨B.exec, B.bytes, hml, findClass_of_methodNamed B.named, fun w hw => hts w (List.mem_cons_of_mem _ hw)⟩, ⟨hK, hN⟩, fun q h => by rw [← hAe]; exact Or.inr h, ⟨Nat.le_refl _, Nat.le_refl _, Nat.le_refl _, Nat.le_refl _, hO⟩⟩
  have go : Bt K (p, l, e, rmC 1 0 0, s, m, ([.ref a, .int x] : List Value).toArray, below, meth, c, 0, 0) A 4 (MQ below (QcB K (fun _ => [(a, .inl (K.2 0, n, .inl (filI n x f)))]) A) ([.ref a, .int x] : List Value).toArray s 0 0 A) 0 [(0, .ref a), (1, .int x)] [] 0 0 [(a, .inl (K.2 0, n, .inl f))] := by
    refine bb_iconst (x := 0) C dfill_0 (by decide) ?_
    refine bb_istore_n (L' := [(2, .int 0), (0, .ref a), (1, .int x)]) C dfill_1 rfl (by decide) rfl ?_
    refine bb_aload_n (j := 1) C dfill_2 rfl rfl ?_
    refine bb_alen C 0 rfl dfill_3 ?_
    refine bb_istore_n (L' := [(3, .int (nI n)), (2, .int 0), (0, .ref a), (1, .int x)]) C dfill_4 rfl (by decide) rfl ?_
    have hW := fillW (a := a) (f := f) (x := x) C B.returns B.notSynchronized hn n 0 (by omega)
    rw [filI_0] at hW
    exact hW
  exact go _ s.heap [] hl hP hD va_S.rf
theorem bb_fill (C : Kb K X A own cc nL lv kR zR) {idx a n : Nat} {f : Nat → Int32} {x : Int32} {wr : va_W} (hk : kS own idx yfill prog_18_method_103_code 4 none 2) (hn31 : n < 2 ^ 31) (hlv : 2 ≤ lv) (hkR : k ≤ kR) (hzR : z ≤ zR) (isC isR : List Nat) (hC : isC.map (fun i => ws[i]?) = ([(a, .inl (K.2 0, n, .inl f))] : va_W).map some) (hC2 : isC.filterMap (fun i => ws[i]?) = [(a, .inl (K.2 0, n, .inl f))]) (hnC : va_nd isC = true) (hR : isR.map (fun i => ws[i]?) = wr.map some) (hn : va_nd isR = true) (hdis : ∀ i ∈ isR, i ∉ isC) (hcat : (st.map fun v => v.category).sum ≤ 8) (d : decode cc pc = .ok (.invokestatic idx, 3)) (kk : Bt K X A nL Q (pc + 3) L st k z (wr ++ [(a, .inl (K.2 0, n, .inl (filI n x f)))])) : Bt K X A nL Q pc L (.int x :: .ref a :: st) k z ws := by
  intro ls H locs hl hP hD hS
  obtain ⟨k1, k2, k4, k5, k6, k7⟩ := hk
  have hts := C.1.2.2.2.2
  obtain ⟨r1, r2, r3, r4, r5⟩ := C.2.2.2
  have hPc := hP.sub (ws' := [(a, .inl (K.2 0, n, .inl f))]) isC hC2
  have hDc := hD.sub (ws' := [(a, .inl (K.2 0, n, .inl f))]) isC hnC hC
  have hFc := va_free (wc := [(a, .inl (K.2 0, n, .inl f))]) hD hS C.2.2.1 isC hC
  refine va_callv (va_runS (As := [.ref a, .int x]) (rest := st) (n := 2) ⟨C.1.1, C.1.2.1, C.1.2.2.1, C.1.2.2.2.1, hts⟩ (mfill (l := xl X) K a n f x H.size hn31) ⟨callB_of 2 hts (gw_good k5) rfl rfl rfl (hts _ k4) (hts _ k1) k6 ⟨show 1 + 1 ≤ _ by omega, show 8 + (4 + 11) + 60 * 1 ≤ _ by omega⟩, hts _ k2⟩ ⟨PcF.blind, fun U hU hW => ⟨rfl, by rw [hU], by rw [hU]; exact hPc, va_K.moved hW.alike C.2.1.1, fun q hq => va_Nw.warmM hW (C.2.1.2 q hq), hDc.weaken (fun _ _ _ _ => trivial), va_AOA.moved hW.alike r5⟩⟩ rfl rfl hl.1 rfl (lv_room hcat) d ⟨by omega, by omega⟩) hS (fun q _ h => hFc q h) hFc (fun u t H1 locs1 ht hvm _ hB hz1 hk1 hS1 => ?_)
  obtain ⟨hP1, hD1⟩ := hB
  rw [ht] at hP1
  obtain ⟨hP2, hD2⟩ := va_join (wr := wr) (w1 := [(a, .inl (K.2 0, n, .inl (filI n x f)))]) hP hD isC isR hC hR hn hdis hk1 hFc hP1 hD1
  exact kk ls H1 locs1 hl hP2 hD2 hS1
end FILL
