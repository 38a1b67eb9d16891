/-! making: worlds that grow -/
theorem va_AOA.moved {t : FieldType} {u U : State} (hvm : u.vm.Alike U.vm) (h : va_AOA t u) : va_AOA t U := Jvm.Stand.arrayOver_alikeB hvm h
abbrev CC : Type := va_G × (Nat → ClassId)
def tyc (K : CC) : List (ClassId × FieldType) := [(K.2 0, .int), (K.2 1, .byte), (K.2 2, .long), (K.2 3, .boolean), (K.2 4, .array .int)]
def Kx (K : CC) (X : CX) (A : Nat → Prop) (own : String) (cc : ByteArray) (nL lv kR zR : Nat) : Prop :=
  ((xp X).tables.exec = Jvm.exec ∧ (xc X).code = cc ∧ (xc X).maxLocals = nL ∧ (xs X).vm.findClass own = some (xm X).cls ∧ (∀ w ∈ gw, w.before (xa X) (xs X) = true)) ∧ (va_K K.1 cls (tyc K) (xs X) ∧ (∀ q ∈ nst, va_Nw (.methodLinkNest q.1 q.2.1 q.2.2.1 q.2.2.2) (xs X))) ∧ ((xh X).sig.returnType = none ∧ (xh X).locks = false ∧ (xh X).name = "<init>") ∧ (∀ q, (xs X).heap.size ≤ q → A q) ∧ (lv ≤ (xR X).frames ∧ 60 * lv ≤ (xR X).locals ∧ kR ≤ (xR X).cells ∧ zR ≤ (xR X).slots ∧ va_AOA .int (xs X))
def Bt (K : CC) (X : CX) (A : Nat → Prop) (nL : Nat) (Q : State → Prop) (pc : Nat) (L : List (Nat × Value)) (st : List Value) (k z : Nat) (ws : va_W) : Prop :=
  ∀ (ls : Array Slot) (H : Heap) (locs : List Loc), lv_has ls nL L → va_P K.1 cls ws H → va_D A ws → va_S A (xs X).heap H locs → W (xp X) (xl X) (xe X) (xR X) (xs X) (xm X) (xa X) (xb X) (xh X) (xc X) H locs k z Q (F0 (xm X) pc ls st)
theorem ra_eq {U : State} {a b : ClassId} {ty : FieldType} (h1 : va_RA U a ty) (h2 : va_RA U b ty) : a = b := by
  cases ty with
  | object C =>
    obtain ⟨_, _, _, _, _, x⟩ := h1
    obtain ⟨_, _, _, _, _, y⟩ := h2
    exact Option.some.inj (x.symm.trans y)
  | _ => exact Option.some.inj (Eq.trans (Eq.symm h1) h2)
section MAKE
variable {K : CC} {X : CX} {A : Nat → Prop} {own : String} {cc : ByteArray} {nL lv kR zR pc k z : Nat} {Q : State → Prop} {L L' : List (Nat × Value)} {st : List Value} {ws : va_W}
theorem bt_w {ws' : va_W} (h : ws = ws') (kk : Bt K X A nL Q pc L st k z ws') : Bt K X A nL Q pc L st k z ws := by rw [h]; exact kk
theorem bt_aload_n (C : Kx K X A own cc nL lv kR zR) {f : Fin 4} {i j x : Nat} (d : decode cc pc = .ok (.aload_n f, 1)) (hi : (f : Nat) = i) (hj : L[j]? = some (i, .ref x)) (kk : Bt K X A nL Q (pc + 1) L (.ref x :: st) k z ws) : Bt K X A nL Q pc L st k z ws := fun ls H locs hl hP hD hS => lv_aload_n C.1.1 C.1.2.1 d hi (lv_at hl j hj) (kk ls H locs hl hP hD hS)
theorem bt_iconst (C : Kx K X A own cc nL lv kR zR) {n : Int} {x : Int32} (d : decode cc pc = .ok (.iconst n, 1)) (hv : Int32.ofInt n = x) (kk : Bt K X A nL Q (pc + 1) L (.int x :: st) k z ws) : Bt K X A nL Q pc L st k z ws := fun ls H locs hl hP hD hS => lv_iconst C.1.1 C.1.2.1 d hv (kk ls H locs hl hP hD hS)
theorem bt_bipush (C : Kx K X A own cc nL lv kR zR) {n : Int} {x : Int32} (d : decode cc pc = .ok (.bipush n, 2)) (hv : (Int8.ofInt n).toInt32 = x) (kk : Bt K X A nL Q (pc + 2) L (.int x :: st) k z ws) : Bt K X A nL Q pc L st k z ws := fun ls H locs hl hP hD hS => lv_bipush C.1.1 C.1.2.1 d hv (kk ls H locs hl hP hD hS)
theorem bt_sipush (C : Kx K X A own cc nL lv kR zR) {n : Int} {x : Int32} (d : decode cc pc = .ok (.sipush n, 3)) (hv : (Int16.ofInt n).toInt32 = x) (kk : Bt K X A nL Q (pc + 3) L (.int x :: st) k z ws) : Bt K X A nL Q pc L st k z ws := fun ls H locs hl hP hD hS => lv_sipush C.1.1 C.1.2.1 d hv (kk ls H locs hl hP hD hS)
theorem bt_dup (C : Kx K X A own cc nL lv kR zR) {a : Value} (d : decode cc pc = .ok (.dup, 1)) (h : a.category = 1) (kk : Bt K X A nL Q (pc + 1) L (a :: a :: st) k z ws) : Bt K X A nL Q pc L (a :: st) k z ws := fun ls H locs hl hP hD hS => lv_dup C.1.1 C.1.2.1 d h (kk ls H locs hl hP hD hS)
theorem ow1 : Cond.instanceMethod Lib.objectInit ∈ gw := mg (i := 65) (by decide +kernel) rfl
theorem ow2 : Cond.code Lib.objectInit ⟨#[0xb1]⟩ 1 none ∈ gw := mg (i := 66) (by decide +kernel) rfl
theorem bt_obj (C : Kx K X A own cc nL lv kR zR) (hlv : 1 ≤ lv) {idx a : Nat} (hlink : Cond.methodLink own idx Lib.objectInit ∈ gw) (d : decode cc pc = .ok (.invokespecial idx, 3)) (kk : Bt K X A nL Q (pc + 3) L [] k z ws) : Bt K X A nL Q pc L [.ref a] k z ws := by
  intro ls H locs hl hP hD hS
  have hts := C.1.2.2.2.2
  have h1 := C.2.2.2.2.1
  have h2 := C.2.2.2.2.2.1
  refine W.objInit C.1.1 C.1.2.1 C.1.2.2.2.1 (hts _ hlink) (hts _ ow1) (hts _ ow2) rfl (by rw [C.1.2.2.1]; exact hl.1) rfl d (by omega) (show 0 + 12 ≤ (xR X).locals by omega) ?_
  exact kk ls H locs hl hP hD hS
theorem bt_newa (C : Kx K X A own cc nL lv kR zR) {atype : ArrayType} {ty : FieldType} (t : Nat) (ht : (tyc K)[t]? = some (K.2 t, ty)) (hty : newarray.typeOf atype = ty) (harr : Cond.arrayClass (newarray.typeOf atype) ∈ gw) {n : Int32} {N : Nat} {a0 : vp_A} (ha : ∀ cA : ClassId, vp_cell cA a0 = arrV cA N (fun _ => defaultValue ty)) (hn : ¬ n < 0) (hN : n.toNatClampNeg = N) (hbytes : N * componentBytes ty ≤ 536870912) (hk : k + 1 ≤ kR) (hz : z + N ≤ zR) (d : decode cc pc = .ok (.newarray atype, 2))
    (kk : ∀ q, Bt K X A nL Q (pc + 2) L (.ref q :: st) (k + 1) (z + N) (ws ++ [(q, .inl (K.2 t, a0))])) : Bt K X A nL Q pc L (.int n :: st) k z ws := by
  intro ls H locs hl hP hD hS
  have h3 := C.2.2.2.2.2.2
  refine va_newa C.1.1 C.1.2.1 (C.1.2.2.2.2 _ harr) hty C.2.1.1 hP hD hS C.2.2.2.1 ha hn hN hbytes (by omega) (by omega) d (fun q cA H1 hK1 hP1 hD1 hS1 => ?_)
  have e : cA = K.2 t := by
    have x1 := (hK1.2 5 (cA, ty) rfl).2
    have x2 := (C.2.1.1.2 t _ ht).2
    exact ra_eq x1 x2
  subst e
  exact kk q ls H1 locs hl hP1 hD1 hS1
/-- a field is set: any field, in its class's own making -/
theorem bt_put (C : Kx K X A own cc nL lv kR zR) (q ci j : Nat) {fs : List Value} {T : u_T} {N index a : Nat} {w : Value} {ty : FieldType} (he : ws[q]? = some (a, .inr (ci, fs))) (hc : cls[ci]? = some (own, T, N)) (hj : j < N) (hin : ∀ w ∈ u_ws own T N, w ∈ gw) (ty0 : Nat → FieldType) (hty : ∀ k, k < N → parseFieldDescriptor (T k).2.2.1 = some (ty0 k)) (hnm : ∀ a, a < N → ∀ b, b < N → a ≠ b → (T a).2.1 ≠ (T b).2.1) (hlink : Cond.fieldLink own index (T j).1 (T j).2.1 (T j).2.2.1 ∈ gw) (hdecl : (T j).1 = own) (hd : ty0 j = ty) (hn : narrow ty w = w) (hfit : fits ty w = true) (hl : j < fs.length) (d : decode cc pc = .ok (.putfield index, 3)) (kk : Bt K X A nL Q (pc + 3) L st k z (ws.set q (a, .inr (ci, fs.set j w)))) : Bt K X A nL Q pc L (w :: .ref a :: st) k z ws := by
  intro ls H locs hll hP hD hS
  by_cases hf : (T j).2.2.2 = true
  · exact va_putF (D := K.1) (cl := cls) (tys := tyc K) (ws := ws) (C := own) (T := T) (N := N) C.1.1 C.1.2.1 C.1.2.2.2.2 hin ty0 hty hnm C.1.2.2.2.1 C.2.1.1 hP hD hS q he hc j hj (C.1.2.2.2.2 _ hlink) (fun _ h => h) hf C.2.2.1.2.2 hdecl (by rw [hty j hj, hd]) hn hfit hl d (fun H1 locs1 hP1 hD1 hS1 => kk ls H1 locs1 hll hP1 hD1 hS1)
  · exact va_put (D := K.1) (cl := cls) (tys := tyc K) (ws := ws) (C := own) (T := T) (N := N) C.1.1 C.1.2.1 C.1.2.2.2.2 hin ty0 hty hnm C.1.2.2.2.1 C.2.1.1 hP hD hS q he hc j hj (C.1.2.2.2.2 _ hlink) (fun _ h => h) (by cases hb : (T j).2.2.2 with | true => exact absurd hb hf | false => rfl) (by rw [hty j hj, hd]) hn hfit hl d (fun H1 locs1 hP1 hD1 hS1 => kk ls H1 locs1 hll hP1 hD1 hS1)
end MAKE
def rmC (lv mc ms : Nat) : Room := { frames := lv, cells := mc, slots := ms, locals := 60 * lv }
/-- a making's start: the new object alone -/
def PcB (K : CC) (h ci : Nat) (fs : List Value) (sz : Nat) : Array Value → State → Prop := fun a U => a = ([.ref h] : List Value).toArray ∧ U.heap.size = sz ∧ va_P K.1 cls [(h, .inr (ci, fs))] U.heap ∧ va_K K.1 cls (tyc K) U ∧ (∀ q ∈ nst, va_Nw (.methodLinkNest q.1 q.2.1 q.2.2.1 q.2.2.2) U) ∧ va_D (fun _ => True) [(h, .inr (ci, fs))] ∧ va_AOA .int U
/-- a making's end: the world wo, for some addresses u -/
def QcB (K : CC) (wo : (Nat → Nat) → va_W) (A : Nat → Prop) : Array Value → State → Outcome → State → Prop := va_Qv (fun _ : Nat → Nat => True) (fun u t => va_P K.1 cls (wo u) t.heap ∧ va_D A (wo u)) A
theorem PcB.blind {K : CC} {h ci : Nat} {fs : List Value} {sz : Nat} : FrameBlind (PcB K h ci fs sz) := by
  intro a U g mk q
  obtain ⟨q0, q1, qP, qK, qN, qD, qO⟩ := q
  exact ⟨q0, q1, qP, va_K.moved (u := U) (U := U.calling g mk a) (Vm.Alike.refl U.vm) qK, fun x hx => va_Nw.same (u := U) (U := U.calling g mk a) rfl rfl (qN x hx), qD, va_AOA.moved (u := U) (U := U.calling g mk a) (Vm.Alike.refl U.vm) qO⟩
theorem met_mk {l : Launch} {y : MethodName} {cc : ByteArray} {mL : Nat} (hy : plainName y.cls = true) (hn : y.name = "<init>") (lv mc ms : Nat) (K : CC) (h ci : Nat) (fs : List Value) (sz : Nat) (hlen : 1 ≤ mL) (wo : (Nat → Nat) → va_W)
    (body : ∀ (X : CX) (A : Nat → Prop), xl X = l → Kx K X A y.cls cc mL lv mc ms → Bt K X A mL (MQ (xb X) (QcB K wo A) (xa X) (xs X) mc ms A) 0 [(0, .ref h)] [] 0 0 [(h, .inr (ci, fs))]) : Met l y (.code y cc mL none :: gw) (rmC lv mc ms) (PcB K h ci fs sz) (QcB K wo (va_A [(h, .inr (ci, fs))] sz)) mc ms (va_A [(h, .inr (ci, fs))] sz) := by
  refine Met.ofW (cc := cc) (maxL := mL) (ret := none) hy rfl ?_
  intro p e s m args below meth c s₁ B hml hv
  obtain ⟨rfl, hsz, hP, hK, hN, hD0, hO⟩ := hv
  have hts := atoms_spec (ws := .code y cc mL none :: gw) B.pre
  have hin : meth.name = y.name := (name_of_methodNamed B.named B.method).1
  subst hsz
  have hD := hD0.self (sz := s.heap.size)
  have hl := lv_entry ([.ref h] : List Value) (n := mL) (by show 1 ≤ mL; exact hlen)
  rw [lg_entry_eq]
  exact body (p, l, e, rmC lv mc ms, s, m, ([.ref h] : List Value).toArray, below, meth, c, 0, 0) _ rfl ⟨⟨B.exec, B.bytes, hml, findClass_of_methodNamed B.named, fun w hw => hts w (List.mem_cons_of_mem _ hw)⟩, ⟨hK, hN⟩, ⟨B.returns, B.notSynchronized, by rw [← hn]; exact hin⟩, fun q h => Or.inr h, ⟨Nat.le_refl _, Nat.le_refl _, Nat.le_refl _, Nat.le_refl _, hO⟩⟩ _ s.heap [] hl hP hD va_S.rf
theorem bt_vret {K : CC} {X : CX} {A : Nat → Prop} {own : String} {cc : ByteArray} {nL lv kR zR pc mc ms : Nat} {L : List (Nat × Value)} {ws : va_W} {wo : (Nat → Nat) → va_W} (C : Kx K X A own cc nL lv kR zR) (u : Nat → Nat) (h : ws = wo u) (d : decode cc pc = .ok (.return_, 1)) : Bt K X A nL (MQ (xb X) (QcB K wo A) (xa X) (xs X) mc ms A) pc L [] mc ms ws := by
  intro ls H locs hl hP hD hS
  subst h
  exact W.vret C.1.1 C.1.2.1 C.2.2.1.1 (fun t ht _ => ⟨⟨u, rfl, trivial, by rw [ht]; exact hP, hD⟩, hS.F ht⟩) hS.2.2 d C.2.2.1.2.1
