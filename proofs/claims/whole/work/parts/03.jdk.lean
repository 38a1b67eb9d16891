section JDK
variable {G : GG} {X : CX} {own : String} {cc : ByteArray} {nL lv pc : Nat} {rt : Option FieldType} {Q : State → Prop} {S : ST} {L L' : List (Nat × Value)} {st : List Value}
theorem at_callVi {idx n j mL q ci N : Nat} {cn : String} {y : MethodName} {bytes : ByteArray} {ret : Option FieldType} {r : Int32} {S1 : ST} {As st0 : List Value} {fs : List Value} {T : u_T} (C : Cx G X own cc nL lv rt) (hk : kV own idx cn y bytes mL ret n) (hM : Met (xl X) y (.code y bytes mL ret :: gw) (rmm j) (PcW G (.ref (ad G q) :: As) S) (Qw G (some (.int r)) S1) 0 0 (Aw G)) (hj : j < lv) (hr : (wld G S)[q]? = some (ad G q, .inr (ci, fs))) (hc : cls[ci]? = some (cn, T, N)) (hn : As.length = n) (hst : st0 = As.reverse ++ .ref (ad G q) :: st) (hcat : (st.map fun v => v.category).sum ≤ 8) (d : decode cc pc = .ok (.invokevirtual idx, 3)) (kk : At G X nL Q (pc + 3) L (.int r :: st) S1) : At G X nL Q pc L st0 S := at_callV C hk hM hj hr hc hn hst hcat d kk
theorem at_callVl {idx n j mL q ci N : Nat} {cn : String} {y : MethodName} {bytes : ByteArray} {ret : Option FieldType} {r : Int64} {S1 : ST} {As st0 : List Value} {fs : List Value} {T : u_T} (C : Cx G X own cc nL lv rt) (hk : kV own idx cn y bytes mL ret n) (hM : Met (xl X) y (.code y bytes mL ret :: gw) (rmm j) (PcW G (.ref (ad G q) :: As) S) (Qw G (some (.long r)) S1) 0 0 (Aw G)) (hj : j < lv) (hr : (wld G S)[q]? = some (ad G q, .inr (ci, fs))) (hc : cls[ci]? = some (cn, T, N)) (hn : As.length = n) (hst : st0 = As.reverse ++ .ref (ad G q) :: st) (hcat : (st.map fun v => v.category).sum ≤ 8) (d : decode cc pc = .ok (.invokevirtual idx, 3)) (kk : At G X nL Q (pc + 3) L (.long r :: st) S1) : At G X nL Q pc L st0 S := at_callV C hk hM hj hr hc hn hst hcat d kk
theorem at_callVv {idx n j mL q ci N : Nat} {cn : String} {y : MethodName} {bytes : ByteArray} {ret : Option FieldType}  {S1 : ST} {As st0 : List Value} {fs : List Value} {T : u_T} (C : Cx G X own cc nL lv rt) (hk : kV own idx cn y bytes mL ret n) (hM : Met (xl X) y (.code y bytes mL ret :: gw) (rmm j) (PcW G (.ref (ad G q) :: As) S) (Qw G (none) S1) 0 0 (Aw G)) (hj : j < lv) (hr : (wld G S)[q]? = some (ad G q, .inr (ci, fs))) (hc : cls[ci]? = some (cn, T, N)) (hn : As.length = n) (hst : st0 = As.reverse ++ .ref (ad G q) :: st) (hcat : (st.map fun v => v.category).sum ≤ 8) (d : decode cc pc = .ok (.invokevirtual idx, 3)) (kk : At G X nL Q (pc + 3) L (st) S1) : At G X nL Q pc L st0 S := at_callV C hk hM hj hr hc hn hst hcat d kk
theorem at_callVr {idx n j mL q ci N : Nat} {cn : String} {y : MethodName} {bytes : ByteArray} {ret : Option FieldType} {r : Nat} {S1 : ST} {As st0 : List Value} {fs : List Value} {T : u_T} (C : Cx G X own cc nL lv rt) (hk : kV own idx cn y bytes mL ret n) (hM : Met (xl X) y (.code y bytes mL ret :: gw) (rmm j) (PcW G (.ref (ad G q) :: As) S) (Qw G (some (.ref r)) S1) 0 0 (Aw G)) (hj : j < lv) (hr : (wld G S)[q]? = some (ad G q, .inr (ci, fs))) (hc : cls[ci]? = some (cn, T, N)) (hn : As.length = n) (hst : st0 = As.reverse ++ .ref (ad G q) :: st) (hcat : (st.map fun v => v.category).sum ≤ 8) (d : decode cc pc = .ok (.invokevirtual idx, 3)) (kk : At G X nL Q (pc + 3) L (.ref r :: st) S1) : At G X nL Q pc L st0 S := at_callV C hk hM hj hr hc hn hst hcat d kk
theorem at_callSi {idx n j mL : Nat} {y : MethodName} {bytes : ByteArray} {ret : Option FieldType} {r : Int32} {S1 : ST} {As st0 : List Value} (C : Cx G X own cc nL lv rt) (hk : kS own idx y bytes mL ret n) (hM : Met (xl X) y (.code y bytes mL ret :: gw) (rmm j) (PcW G As S) (Qw G (some (.int r)) S1) 0 0 (Aw G)) (hj : j < lv) (hn : As.length = n) (hst : st0 = As.reverse ++ st) (hcat : (st.map fun v => v.category).sum ≤ 8) (d : decode cc pc = .ok (.invokestatic idx, 3)) (kk : At G X nL Q (pc + 3) L (.int r :: st) S1) : At G X nL Q pc L st0 S := at_callS C hk hM hj hn hst hcat d kk
theorem at_callSl {idx n j mL : Nat} {y : MethodName} {bytes : ByteArray} {ret : Option FieldType} {r : Int64} {S1 : ST} {As st0 : List Value} (C : Cx G X own cc nL lv rt) (hk : kS own idx y bytes mL ret n) (hM : Met (xl X) y (.code y bytes mL ret :: gw) (rmm j) (PcW G As S) (Qw G (some (.long r)) S1) 0 0 (Aw G)) (hj : j < lv) (hn : As.length = n) (hst : st0 = As.reverse ++ st) (hcat : (st.map fun v => v.category).sum ≤ 8) (d : decode cc pc = .ok (.invokestatic idx, 3)) (kk : At G X nL Q (pc + 3) L (.long r :: st) S1) : At G X nL Q pc L st0 S := at_callS C hk hM hj hn hst hcat d kk
theorem at_callSv {idx n j mL : Nat} {y : MethodName} {bytes : ByteArray} {ret : Option FieldType}  {S1 : ST} {As st0 : List Value} (C : Cx G X own cc nL lv rt) (hk : kS own idx y bytes mL ret n) (hM : Met (xl X) y (.code y bytes mL ret :: gw) (rmm j) (PcW G As S) (Qw G (none) S1) 0 0 (Aw G)) (hj : j < lv) (hn : As.length = n) (hst : st0 = As.reverse ++ st) (hcat : (st.map fun v => v.category).sum ≤ 8) (d : decode cc pc = .ok (.invokestatic idx, 3)) (kk : At G X nL Q (pc + 3) L (st) S1) : At G X nL Q pc L st0 S := at_callS C hk hM hj hn hst hcat d kk
theorem at_callSr {idx n j mL : Nat} {y : MethodName} {bytes : ByteArray} {ret : Option FieldType} {r : Nat} {S1 : ST} {As st0 : List Value} (C : Cx G X own cc nL lv rt) (hk : kS own idx y bytes mL ret n) (hM : Met (xl X) y (.code y bytes mL ret :: gw) (rmm j) (PcW G As S) (Qw G (some (.ref r)) S1) 0 0 (Aw G)) (hj : j < lv) (hn : As.length = n) (hst : st0 = As.reverse ++ st) (hcat : (st.map fun v => v.category).sum ≤ 8) (d : decode cc pc = .ok (.invokestatic idx, 3)) (kk : At G X nL Q (pc + 3) L (.ref r :: st) S1) : At G X nL Q pc L st0 S := at_callS C hk hM hj hn hst hcat d kk
theorem at_callNi {idx n j mL : Nat} {host : String} {y : MethodName} {bytes : ByteArray} {ret : Option FieldType} {r : Int32} {S1 : ST} {As st0 : List Value} (C : Cx G X own cc nL lv rt) (hk : kN own idx y host bytes mL ret n) (hM : Met (xl X) y (.code y bytes mL ret :: gw) (rmm j) (PcW G As S) (Qw G (some (.int r)) S1) 0 0 (Aw G)) (hj : j < lv) (hn : As.length = n) (hst : st0 = As.reverse ++ st) (hcat : (st.map fun v => v.category).sum ≤ 8) (d : decode cc pc = .ok (.invokestatic idx, 3)) (kk : At G X nL Q (pc + 3) L (.int r :: st) S1) : At G X nL Q pc L st0 S := at_callN C hk hM hj hn hst hcat d kk
theorem at_callNl {idx n j mL : Nat} {host : String} {y : MethodName} {bytes : ByteArray} {ret : Option FieldType} {r : Int64} {S1 : ST} {As st0 : List Value} (C : Cx G X own cc nL lv rt) (hk : kN own idx y host bytes mL ret n) (hM : Met (xl X) y (.code y bytes mL ret :: gw) (rmm j) (PcW G As S) (Qw G (some (.long r)) S1) 0 0 (Aw G)) (hj : j < lv) (hn : As.length = n) (hst : st0 = As.reverse ++ st) (hcat : (st.map fun v => v.category).sum ≤ 8) (d : decode cc pc = .ok (.invokestatic idx, 3)) (kk : At G X nL Q (pc + 3) L (.long r :: st) S1) : At G X nL Q pc L st0 S := at_callN C hk hM hj hn hst hcat d kk
theorem at_callNv {idx n j mL : Nat} {host : String} {y : MethodName} {bytes : ByteArray} {ret : Option FieldType}  {S1 : ST} {As st0 : List Value} (C : Cx G X own cc nL lv rt) (hk : kN own idx y host bytes mL ret n) (hM : Met (xl X) y (.code y bytes mL ret :: gw) (rmm j) (PcW G As S) (Qw G (none) S1) 0 0 (Aw G)) (hj : j < lv) (hn : As.length = n) (hst : st0 = As.reverse ++ st) (hcat : (st.map fun v => v.category).sum ≤ 8) (d : decode cc pc = .ok (.invokestatic idx, 3)) (kk : At G X nL Q (pc + 3) L (st) S1) : At G X nL Q pc L st0 S := at_callN C hk hM hj hn hst hcat d kk
theorem at_callNr {idx n j mL : Nat} {host : String} {y : MethodName} {bytes : ByteArray} {ret : Option FieldType} {r : Nat} {S1 : ST} {As st0 : List Value} (C : Cx G X own cc nL lv rt) (hk : kN own idx y host bytes mL ret n) (hM : Met (xl X) y (.code y bytes mL ret :: gw) (rmm j) (PcW G As S) (Qw G (some (.ref r)) S1) 0 0 (Aw G)) (hj : j < lv) (hn : As.length = n) (hst : st0 = As.reverse ++ st) (hcat : (st.map fun v => v.category).sum ≤ 8) (d : decode cc pc = .ok (.invokestatic idx, 3)) (kk : At G X nL Q (pc + 3) L (.ref r :: st) S1) : At G X nL Q pc L st0 S := at_callN C hk hM hj hn hst hcat d kk
theorem zn_0 : narrow .boolean (.int 0) = .int 0 := rfl
theorem zn_1 : narrow .boolean (.int 1) = .int 1 := rfl
def isz (x : Int32) : Bool := decide (x = 0) || decide (x = 1)
theorem isz_nar {x : Int32} (h : isz x = true) : narrow .boolean (.int x) = .int x := by
  unfold isz at h
  simp only [Bool.or_eq_true, decide_eq_true_eq] at h
  rcases h with rfl | rfl <;> rfl
theorem rm1 (C : Cx G X own cc nL lv rt) (h : 0 < lv) : 1 ≤ (xR X).frames ∧ 60 ≤ (xR X).locals := by
  have h1 := C.2.2.2.2.2.2.2.2.2.1
  have h2 := C.2.2.2.2.2.2.2.2.2.2.1
  omega
theorem at_mmin (C : Cx G X own cc nL lv rt) {idx : Nat} {x y : Int32} (hj : Cond.methodLink own idx Lib.Math.min.name ∈ gw ∧ Cond.static Lib.Math.min.name ∈ gw ∧ Cond.initialized "java/lang/Math" ∈ gw ∧ Cond.code Lib.Math.min.name Lib.Math.min.code 2 (some .int) ∈ gw) (hlv : 0 < lv) (hcat : (st.map fun v => v.category).sum ≤ 8) (d : decode cc pc = .ok (.invokestatic idx, 3)) (kk : At G X nL Q (pc + 3) L (.int (if y < x then y else x) :: st) S) : At G X nL Q pc L (.int y :: .int x :: st) S := fun ls H locs hl hP hS => va_mmin C.1 C.2.1 (C.2.2.1.trans hl.1.symm) C.2.2.2.1 (C.2.2.2.2.1 _ hj.1) (C.2.2.2.2.1 _ hj.2.1) (C.2.2.2.2.1 _ hj.2.2.1) (C.2.2.2.2.1 _ hj.2.2.2) (rm1 C hlv).1 (by have := (rm1 C hlv).2; omega) C.2.2.2.2.2.2.2.2.2.2.2.1 C.2.2.2.2.2.2.2.2.2.2.2.2 d (kk ls H locs hl hP hS)
theorem at_mmax (C : Cx G X own cc nL lv rt) {idx : Nat} {x y : Int32} (hj : Cond.methodLink own idx Lib.Math.max.name ∈ gw ∧ Cond.static Lib.Math.max.name ∈ gw ∧ Cond.initialized "java/lang/Math" ∈ gw ∧ Cond.code Lib.Math.max.name Lib.Math.max.code 2 (some .int) ∈ gw) (hlv : 0 < lv) (hcat : (st.map fun v => v.category).sum ≤ 8) (d : decode cc pc = .ok (.invokestatic idx, 3)) (kk : At G X nL Q (pc + 3) L (.int (if x < y then y else x) :: st) S) : At G X nL Q pc L (.int y :: .int x :: st) S := fun ls H locs hl hP hS => va_mmax C.1 C.2.1 (C.2.2.1.trans hl.1.symm) C.2.2.2.1 (C.2.2.2.2.1 _ hj.1) (C.2.2.2.2.1 _ hj.2.1) (C.2.2.2.2.1 _ hj.2.2.1) (C.2.2.2.2.1 _ hj.2.2.2) (rm1 C hlv).1 (by have := (rm1 C hlv).2; omega) C.2.2.2.2.2.2.2.2.2.2.2.1 C.2.2.2.2.2.2.2.2.2.2.2.2 d (kk ls H locs hl hP hS)
theorem at_mminL (C : Cx G X own cc nL lv rt) {idx : Nat} {x y : Int64} (hj : Cond.methodLink own idx Lib.MathLoose.min_long.x ∈ gw ∧ Cond.static Lib.MathLoose.min_long.x ∈ gw ∧ Cond.initialized "java/lang/Math" ∈ gw ∧ Cond.code Lib.MathLoose.min_long.x Lib.MathLoose.min_long.code 4 (some .long) ∈ gw) (hlv : 0 < lv) (hcat : (st.map fun v => v.category).sum ≤ 8) (d : decode cc pc = .ok (.invokestatic idx, 3)) (kk : At G X nL Q (pc + 3) L (.long (if y < x then y else x) :: st) S) : At G X nL Q pc L (.long y :: .long x :: st) S := fun ls H locs hl hP hS => va_mmin_long C.1 C.2.1 (C.2.2.1.trans hl.1.symm) C.2.2.2.1 (C.2.2.2.2.1 _ hj.1) (C.2.2.2.2.1 _ hj.2.1) (C.2.2.2.2.1 _ hj.2.2.1) (C.2.2.2.2.1 _ hj.2.2.2) (rm1 C hlv).1 (by have := (rm1 C hlv).2; omega) C.2.2.2.2.2.2.2.2.2.2.2.1 C.2.2.2.2.2.2.2.2.2.2.2.2 d (kk ls H locs hl hP hS)
theorem at_alen (C : Cx G X own cc nL lv rt) (q : Nat) {n a : Nat} {f : Nat → Int32} (ha : (wld G S)[q]? = some (a, .inl (cy G 0, n, .inl f))) (d : decode cc pc = .ok (.arraylength, 1)) (kk : At G X nL Q (pc + 1) L (.int (nI n) :: st) S) : At G X nL Q pc L (.ref a :: st) S :=
  fun ls H locs hl hP hS => va_alen (tys := tys G) C.1 C.2.1 C.2.2.2.2.2.1.1 hP q 0 ha rfl rfl d (kk ls H locs hl hP hS)
/-- Arrays.fill -/
def filI (n : Nat) (x : Int32) (f : Nat → Int32) : Nat → Int32 := fun j => if j < n then x else f j
theorem filI_0 (x : Int32) (f : Nat → Int32) : filI 0 x f = f := by
  funext j
  simp [filI]
theorem filI_s (i : Nat) (x : Int32) (f : Nat → Int32) : upd (filI i x f) i x = filI (i + 1) x f := by
  funext j
  by_cases h : j = i
  · subst h; simp [upd, filI]
  · by_cases h2 : j < i
    · simp [upd, filI, h, h2]; omega
    · have : ¬ j < i + 1 := by omega
      simp [upd, filI, h, h2, this]
abbrev yfill : MethodName := ⟨"java/util/Arrays", "fill", "([II)V"⟩
theorem dfill_0 : decode prog_18_method_103_code 0 = .ok (.iconst 0, 1) := by decide +kernel
theorem dfill_1 : decode prog_18_method_103_code 1 = .ok (.istore_n 2, 1) := by decide +kernel
theorem dfill_2 : decode prog_18_method_103_code 2 = .ok (.aload_n 0, 1) := by decide +kernel
theorem dfill_3 : decode prog_18_method_103_code 3 = .ok (.arraylength, 1) := by decide +kernel
theorem dfill_4 : decode prog_18_method_103_code 4 = .ok (.istore_n 3, 1) := by decide +kernel
theorem dfill_5 : decode prog_18_method_103_code 5 = .ok (.iload_n 2, 1) := by decide +kernel
theorem dfill_6 : decode prog_18_method_103_code 6 = .ok (.iload_n 3, 1) := by decide +kernel
theorem dfill_7 : decode prog_18_method_103_code 7 = .ok (.if_icmp .ge 13, 3) := by decide +kernel
theorem dfill_10 : decode prog_18_method_103_code 10 = .ok (.aload_n 0, 1) := by decide +kernel
theorem dfill_11 : decode prog_18_method_103_code 11 = .ok (.iload_n 2, 1) := by decide +kernel
theorem dfill_12 : decode prog_18_method_103_code 12 = .ok (.iload_n 1, 1) := by decide +kernel
theorem dfill_13 : decode prog_18_method_103_code 13 = .ok (.iastore, 1) := by decide +kernel
theorem dfill_14 : decode prog_18_method_103_code 14 = .ok (.iinc 2 1, 3) := by decide +kernel
theorem dfill_17 : decode prog_18_method_103_code 17 = .ok (.goto (-12), 3) := by decide +kernel
theorem dfill_20 : decode prog_18_method_103_code 20 = .ok (.return_, 1) := by decide +kernel
theorem filW {n q : Nat} {f : Nat → Int32} {x : Int32} {set : ST → (Nat → Int32) → ST} (C : Cx G X "java/util/Arrays" prog_18_method_103_code 4 lv none) (hn : n < 2 ^ 31) (hset : ∀ g, (wld G S).set q (ad G q, .inl (cy G 0, n, .inl g)) = wld G (set S g)) (hq : q < (wld G S).length) : ∀ (k i : Nat), k + i = n → At G X 4 (MQ (xb X) (Qw G none (set S (filI n x f))) (xa X) (xs X) (xk X) (xz X) (Aw G)) 5 [(3, .int (nI n)), (2, .int (nI i)), (0, .ref (ad G q)), (1, .int x)] [] (set S (filI i x f)) := by
  intro k
  induction k with
  | zero =>
    intro i hi
    have hi : i = n := by omega
    subst hi
    refine at_iload_n (j := 1) C dfill_5 rfl rfl ?_
    refine at_iload_n (j := 0) C dfill_6 rfl rfl ?_
    refine at_icmp_ge C dfill_7 rfl (fun _ => ?_) (fun h => absurd (Int32.le_refl _) h)
    exact at_vret C dfill_20
  | succ k ih =>
    intro i hi
    refine at_iload_n (j := 1) C dfill_5 rfl rfl ?_
    refine at_iload_n (j := 0) C dfill_6 rfl rfl ?_
    refine at_icmp_ge C dfill_7 rfl (fun h => absurd h (nI_ge (by omega) hn)) (fun _ => ?_)
    refine at_aload_n (j := 2) C dfill_10 rfl rfl ?_
    refine at_iload_n (j := 1) C dfill_11 rfl rfl ?_
    refine at_iload_n (j := 3) C dfill_12 rfl rfl ?_
    have hcl : (nI i).toNatClampNeg = i := nI_clamp (by omega)
    have hin : inb (nI i) n = true := by
      unfold inb
      rw [hcl]
      simp only [Bool.and_eq_true, Bool.not_eq_true', decide_eq_false_iff_not, decide_eq_true_eq]
      exact ⟨nI_pos (by omega), by omega⟩
    refine at_iast (S1 := set S (filI (i + 1) x f)) (f := filI i x f) C q ?_ hin ?_ dfill_13 ?_
    · rw [← hset, List.getElem?_set_self hq]
    · rw [← hset, ← hset, List.set_set, hcl, filI_s]
    · refine at_iinc (j := 1) (c := 1) (L' := [(2, .int (nI i + 1)), (3, .int (nI n)), (0, .ref (ad G q)), (1, .int x)]) C dfill_14 rfl (by decide) (by decide) rfl ?_
      refine at_goto C dfill_17 rfl ?_
      refine at_loc (L' := [(3, .int (nI n)), (2, .int (nI (i + 1))), (0, .ref (ad G q)), (1, .int x)]) [1, 0, 2, 3] ?_ (ih (i + 1) (by omega))
      rw [nI_succ]
      rfl
theorem cfill {l : Launch} (hG : GOK G) (q : Nat) {n : Nat} {f : Nat → Int32} {x : Int32} {set : ST → (Nat → Int32) → ST} (hn : n < 2 ^ 31) (ha : (wld G S)[q]? = some (ad G q, .inl (cy G 0, n, .inl f))) (hset : ∀ g, (wld G S).set q (ad G q, .inl (cy G 0, n, .inl g)) = wld G (set S g)) : Met l yfill (.code yfill prog_18_method_103_code 4 none :: gw) (rmm 1) (PcW G [.ref (ad G q), .int x] S) (Qw G none (set S (filI n x f))) 0 0 (Aw G) := by
  have hq : q < (wld G S).length := (List.getElem?_eq_some_iff.mp ha).1
  have h0 : wld G S = wld G (set S f) := by
    obtain ⟨hq2, e⟩ := List.getElem?_eq_some_iff.mp ha
    rw [← hset, ← e, List.set_getElem_self]
  refine met_of (by decide) 1 G hG S _ (Nat.le_of_ble_eq_true rfl) _ _ (fun X _ C => ?_)
  have C : Cx G X "java/util/Arrays" prog_18_method_103_code 4 1 none := C
  show At G X 4 _ 0 [(0, .ref (ad G q)), (1, .int x)] [] S
  refine at_iconst (x := 0) C dfill_0 (by decide) ?_
  refine at_istore_n (L' := [(2, .int 0), (0, .ref (ad G q)), (1, .int x)]) C dfill_1 rfl (by decide) rfl ?_
  refine at_aload_n (j := 1) C dfill_2 rfl rfl ?_
  refine at_alen C q ha dfill_3 ?_
  refine at_istore_n (L' := [(3, .int (nI n)), (2, .int 0), (0, .ref (ad G q)), (1, .int x)]) C dfill_4 rfl (by decide) rfl ?_
  intro ls H locs hl hP hS
  rw [h0] at hP
  have hW := filW (S := S) (f := f) (x := x) C hn hset hq n 0 (by omega)
  rw [filI_0] at hW
  exact hW ls H locs hl hP hS
theorem at_fill (C : Cx G X own cc nL lv rt) {idx : Nat} (hk : kS own idx yfill prog_18_method_103_code 4 none 2) (q : Nat) {n : Nat} {f : Nat → Int32} {x : Int32} (set : ST → (Nat → Int32) → ST) (hn : n < 2 ^ 31) (ha : (wld G S)[q]? = some (ad G q, .inl (cy G 0, n, .inl f))) (hset : ∀ g, (wld G S).set q (ad G q, .inl (cy G 0, n, .inl g)) = wld G (set S g)) (hlv : 1 < lv) (hcat : (st.map fun v => v.category).sum ≤ 8) (d : decode cc pc = .ok (.invokestatic idx, 3)) (kk : At G X nL Q (pc + 3) L st (set S (filI n x f))) : At G X nL Q pc L (.int x :: .ref (ad G q) :: st) S :=
  at_callSv (As := [.ref (ad G q), .int x]) C hk (cfill C.2.2.2.2.2.2.1 q hn ha hset) hlv rfl rfl hcat d kk
/-- System.arraycopy of ints -/
def cpb (n0 n1 : Nat) (sp dp n : Int32) : Bool := !(decide (sp < 0)) && !(decide (dp < 0)) && !(decide (n < 0)) && decide (sp.toNatClampNeg + n.toNatClampNeg ≤ n0) && decide (dp.toNatClampNeg + n.toNatClampNeg ≤ n1)
def cpyI (f g : Nat → Int32) (sp dp n : Int32) : Nat → Int32 := va_cpy f g sp.toNatClampNeg dp.toNatClampNeg n.toNatClampNeg
theorem at_acopy (C : Cx G X own cc nL lv rt) {idx : Nat} (hj : Cond.methodLink own idx arraycopyName ∈ gw ∧ Cond.native arraycopyName ∈ gw ∧ Cond.static arraycopyName ∈ gw ∧ Cond.initialized "java/lang/System" ∈ gw) (q0 q1 : Nat) {a0 a n0 n1 : Nat} {f g : Nat → Int32} {sp dp n : Int32} (set : ST → (Nat → Int32) → ST) (ha0 : (wld G S)[q0]? = some (a0, .inl (cy G 0, n0, .inl f))) (ha1 : (wld G S)[q1]? = some (a, .inl (cy G 0, n1, .inl g))) (hset : ∀ h, (wld G S).set q1 (a, .inl (cy G 0, n1, .inl h)) = wld G (set S h)) (hg : cpb n0 n1 sp dp n = true) (hlv : 0 < lv) (hcat : (st.map fun v => v.category).sum ≤ 8) (d : decode cc pc = .ok (.invokestatic idx, 3)) (kk : At G X nL Q (pc + 3) L st (set S (cpyI f g sp dp n))) : At G X nL Q pc L (.int n :: .int dp :: .ref a :: .int sp :: .ref a0 :: st) S := by
  intro ls H locs hl hP hS
  unfold cpb at hg
  simp only [Bool.and_eq_true, Bool.not_eq_true', decide_eq_false_iff_not, decide_eq_true_eq] at hg
  obtain ⟨⟨⟨⟨g1, g2⟩, g3⟩, g4⟩, g5⟩ := hg
  have hnw : nativeFrameWords "java/lang/System" "arraycopy" 5 ≤ 40 := by decide
  exact va_copyi (tys := tys G) C.1 C.2.1 (C.2.2.1.trans hl.1.symm) C.2.2.2.1 (C.2.2.2.2.1 _ hj.1) (C.2.2.2.2.1 _ hj.2.1) (C.2.2.2.2.1 _ hj.2.2.1) (C.2.2.2.2.1 _ hj.2.2.2) C.2.2.2.2.2.1.1 hP (wld_D C.2.2.2.2.2.2.1 S) hS q0 q1 0 0 ha0 ha1 rfl rfl rfl g1 g2 g3 g4 g5 (fun _ _ => rfl) (rm1 C hlv).1 (by have := (rm1 C hlv).2; omega) d (fun H1 locs1 hP1 _ hS1 => kk ls H1 locs1 hl (by rw [← hset]; exact hP1) hS1)
theorem at_ldcS (C : Cx G X RcLi cc nL lv rt) (d : decode cc pc = .ok (.ldc 89, 2)) (kk : At G X nL Q (pc + 2) L (.ref G.2.2.2.1 :: st) S) : At G X nL Q pc L st S := fun ls H locs hl hP hS => va_ldcS C.1 C.2.1 C.2.2.2.1 C.2.2.2.2.2.1.2.2.1 d (kk ls H locs hl hP hS)
/-- the chars of the word town -/
def town (i : Int32) : Int32 := [116, 111, 119, 110].getD i.toNatClampNeg 0
abbrev yslen : MethodName := ⟨"java/lang/String", "length", "()I"⟩
abbrev yschar : MethodName := ⟨"java/lang/String", "charAt", "(I)C"⟩
end JDK
