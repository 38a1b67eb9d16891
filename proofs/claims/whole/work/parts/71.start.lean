/-! the law's start -/
theorem eq_static {args : Array Value} {s : State} {C n d : String} {k : Int32} (h : (Cond.eq (Term.static C n d) (Term.int k)).before args s = true) : (Term.static C n d).eval args s none [] s = some (.int k) := by
  exact Cond.eq_int h rfl
theorem nests {args : Array Value} {s : State} (hts : ∀ w ∈ lw_tbl, w.before args s = true) : ∀ q ∈ nst, va_Nw (.methodLinkNest q.1 q.2.1 q.2.2.1 q.2.2.2) s := by
  intro q hq
  refine va_Nw.of rfl (A := args) (hts _ ?_)
  unfold nst at hq
  rcases List.mem_cons.mp hq with rfl | hq
  · exact List.mem_of_getElem? (i := 69) (by decide +kernel)
  rcases List.mem_cons.mp hq with rfl | hq
  · exact List.mem_of_getElem? (i := 102) (by decide +kernel)
  rcases List.mem_cons.mp hq with rfl | hq
  · exact List.mem_of_getElem? (i := 116) (by decide +kernel)
  rcases List.mem_cons.mp hq with rfl | hq
  · exact List.mem_of_getElem? (i := 181) (by decide +kernel)
  rcases List.mem_cons.mp hq with rfl | hq
  · exact List.mem_of_getElem? (i := 204) (by decide +kernel)
  rcases List.mem_cons.mp hq with rfl | hq
  · exact List.mem_of_getElem? (i := 226) (by decide +kernel)
  rcases List.mem_cons.mp hq with rfl | hq
  · exact List.mem_of_getElem? (i := 272) (by decide +kernel)
  rcases List.mem_cons.mp hq with rfl | hq
  · exact List.mem_of_getElem? (i := 354) (by decide +kernel)
  rcases List.mem_cons.mp hq with rfl | hq
  · exact List.mem_of_getElem? (i := 432) (by decide +kernel)
  rcases List.mem_cons.mp hq with rfl | hq
  · exact List.mem_of_getElem? (i := 510) (by decide +kernel)
  rcases List.mem_cons.mp hq with rfl | hq
  · exact List.mem_of_getElem? (i := 521) (by decide +kernel)
  rcases List.mem_cons.mp hq with rfl | hq
  · exact List.mem_of_getElem? (i := 522) (by decide +kernel)
  rcases List.mem_cons.mp hq with rfl | hq
  · exact List.mem_of_getElem? (i := 655) (by decide +kernel)
  rcases List.mem_cons.mp hq with rfl | hq
  · exact List.mem_of_getElem? (i := 684) (by decide +kernel)
  exact absurd hq List.not_mem_nil
theorem kITL : kI yTL_init prog_1_method_1_code 1 := ⟨(mg (i := 62) (by decide +kernel) rfl), (mg (i := 41) (by decide +kernel) rfl), (mg (i := 63) (by decide +kernel) rfl), ⟨by decide, by decide, by decide +kernel⟩, by decide, rfl⟩
theorem kIMM : kI yMM_init prog_12_method_1_code 2 := ⟨(mg (i := 794) (by decide +kernel) rfl), (mg (i := 52) (by decide +kernel) rfl), (mg (i := 795) (by decide +kernel) rfl), ⟨by decide, by decide, by decide +kernel⟩, by decide, rfl⟩
theorem over0 {args : Array Value} {s : State} (hts : ∀ w ∈ lw_tbl, w.before args s = true) : va_AOA .int s := (hts (Cond.arrayOver (.array .int)) (List.mem_of_getElem? (i := 167) (by decide +kernel)) : _)
theorem c4_0 {s : State} (h : va_AOA .int s) : ∃ c4 : ClassId, ArrOfT s c4 (.array .int) ∧ va_RA s c4 (.array .int) := by
  obtain ⟨comp, c, k, h1, h2, h3, h4, h5⟩ := arrayOverA_spec h
  exact ⟨c, fun n z => ⟨(fun q hq => by cases hq), k, h3, comp, h4⟩, h5⟩
theorem wld_get {G : GG} {S : ST} {i : Nat} (hi : i < nC) : ∃ e : va_E, (wld G S)[i]? = some (ad G i, e) := by
  have hl : i < (wld G S).length := hi
  cases hq : (wld G S)[i]? with
  | none => rw [List.getElem?_eq_none_iff] at hq; omega
  | some q => exact ⟨q.2, by rw [← (wld_at hq).2]⟩
theorem gok_of {G : GG} {S : ST} {A : Nat → Prop} (h : va_D A (wld G S)) : GOK G := by
  intro i j hi hj hij
  obtain ⟨e1, h1⟩ := wld_get (G := G) (S := S) hi
  obtain ⟨e2, h2⟩ := wld_get (G := G) (S := S) hj
  exact h.1 i j _ _ h1 h2 hij
theorem aw_of {G : GG} {S : ST} {A : Nat → Prop} (h : va_D A (wld G S)) {q : Nat} (hq : Aw G q) : A q := by
  obtain ⟨k, hk, rfl⟩ := hq
  obtain ⟨e, he⟩ := wld_get (G := G) (S := S) hk
  exact h.2 k _ he
theorem bb_astore_n {K : CC} {X : CX} {A : Nat → Prop} {own : String} {cc : ByteArray} {nL lv kR zR pc k z : Nat} {Q : State → Prop} {L L' : List (Nat × Value)} {st : List Value} {ws : va_W} (C : Kb K X A own cc nL lv kR zR) {f : Fin 4} {i x : Nat} (d : decode cc pc = .ok (.astore_n f, 1)) (hi : (f : Nat) = i) (hn : i < nL) (hL : (i, Value.ref x) :: L.filter (fun q => !(q.1 == i) && !(q.1 + 1 == i && q.2.category == 2)) = L') (kk : Bt K X A nL Q (pc + 1) L' st k z ws) : Bt K X A nL Q pc L (.ref x :: st) k z ws := fun _ H locs hl hP hD hS => lv_astore_n C.1.1 C.1.2.1 d hi hl hn hL (fun ls' h' => kk ls' H locs h' hP hD hS)
theorem ef0 {b : Nat} {s : State} (hts : ∀ w ∈ lw_tbl, w.before #[Value.ref b] s = true) (hg : (Jvm.Cond.and given_1 narrow_1).before #[Value.ref b] s = true) (K : CC) (hK : va_K K.1 cls (tyc K) s) (h g : Nat) (u v : Nat → Nat) (hA : ∀ q, q < s.heap.size → ¬ Aw (G0 K h g u v 0 0) q) : ∃ x y, EF (G0 K h g u v x y) s s.heap := by
  have htg : ∀ w ∈ gw, w.before #[Value.ref b] s = true := fun w hw => hts w (List.mem_filter.mp hw).1
  have hf := flat_of_before _ hg
  obtain ⟨x, y, h1, h2⟩ := sf0 htg hg (Aw (G0 K h g u v 0 0)) hA
  refine ⟨x, y, hK, nests hts, vk_R.of (hts _ (List.mem_of_getElem? (i := 437) (by decide +kernel))) h2, h1, ?_, ?_⟩
  · refine va_Zof (args := #[Value.ref b]) (hts _ (List.mem_of_getElem? (i := 447) (by decide +kernel))) (hts _ (List.mem_of_getElem? (i := 54) (by decide +kernel))) ?_ hA
    have hq : (Cond.eq (Term.static "java/lang/String" "COMPACT_STRINGS" "Z") (Term.int 1)).before #[Value.ref b] s = true := hf _ (by decide +kernel)
    exact eq_static hq
  · exact va_Zqof (args := #[Value.ref b]) (hts _ (List.mem_of_getElem? (i := 463) (by decide +kernel))) (hts _ (List.mem_of_getElem? (i := 56) (by decide +kernel))) (hf _ (by decide +kernel)) hA
theorem whole_start {p : Program} {e : Env} {s : State} {m : MethodId} {below : List Frame} {meth : Method} {c : Code} (l : Launch) {b L : Nat} {xs : Nat → Int32} (hL : L ≤ 3072) (C0 : lw_At p s m meth c b L xs) : W p l e room_1 s m #[Value.ref b] below meth c s.heap [] 0 0 (lw_Z below #[Value.ref b] s) (entryFrame m ([Value.ref b] : List Value).toArray 4) := by
  obtain ⟨hx, hb, hr, hml, hown, hts, hX, hbl, hlocks, hgv⟩ := id C0
  have htg : ∀ w ∈ gw, w.before #[Value.ref b] s = true := fun w hw => hts w (List.mem_filter.mp hw).1
  have hO := over0 hts
  obtain ⟨c4, h4⟩ := c4_0 hO
  obtain ⟨K, -, hK⟩ := known htg c4 h4
  have C : Kb K (p, l, e, room_1, s, m, #[Value.ref b], below, meth, c, 70, 11699) (fun q : Nat => s.heap.size ≤ q) RcLw code 4 1000 600000 7302250 := ⟨⟨hx, hb, hml, hown, htg⟩, ⟨hK, nests hts⟩, fun _ h => h, ⟨Nat.le_of_ble_eq_true rfl, Nat.le_of_ble_eq_true rfl, Nat.le_of_ble_eq_true rfl, Nat.le_of_ble_eq_true rfl, hO⟩⟩
  have hP : va_P K.1 cls [] s.heap := fun k q h => by simp at h
  have hD : va_D (fun q : Nat => s.heap.size ≤ q) [] := ⟨fun i j p q h => by simp at h, fun k q h => by simp at h⟩
  have hl := lv_entry ([.ref b]) (n := 4) (Nat.le_of_ble_eq_true rfl)
  rw [lg_entry_eq]
  have go : Bt K (p, l, e, room_1, s, m, #[Value.ref b], below, meth, c, 70, 11699) (fun q : Nat => s.heap.size ≤ q) 4 (lw_Z below #[Value.ref b] s) 0 [(0, .ref b)] [] 0 0 [] := by
    refine bb_new (fs := [.null, .null, .null, .null, .null, .null, .null, .null, .null, .int 0]) C 9 rfl iwTL tcTL tyTL (mg (i := 59) (by decide +kernel) rfl) (mg (i := 60) (by decide +kernel) rfl) (mg (i := 41) (by decide +kernel) rfl) (fun j hj => by have e : j = 0 ∨ j = 1 ∨ j = 2 ∨ j = 3 ∨ j = 4 ∨ j = 5 ∨ j = 6 ∨ j = 7 ∨ j = 8 ∨ j = 9 := (by omega); rcases e with rfl | rfl | rfl | rfl | rfl | rfl | rfl | rfl | rfl | rfl <;> rfl) (by decide) (by decide) dlw_0 (fun h => ?_)
    refine bt_w (ws' := [(h, .inr (9, [.null, .null, .null, .null, .null, .null, .null, .null, .null, .int 0]))]) rfl ?_
    refine bb_dup C dlw_3 rfl ?_
    refine bb_mkI (wr := []) C (mg (i := 61) (by decide +kernel) rfl) kITL (fun sz => mTL mCo K h sz) (by decide) (by decide) (by decide) [0] [] rfl rfl rfl rfl rfl (by decide) (Nat.le_of_ble_eq_true rfl) dlw_4 (fun u => ?_)
    refine bb_astore_n (L' := [(1, .ref h), (0, .ref b)]) C dlw_7 rfl (by decide) rfl ?_
    refine bt_w (ws' := woTL K h u) rfl ?_
    refine bb_new (fs := [.int 0, .int 0, .null, .null, .null, .int 0, .null, .null, .int 0, .null, .null, .null, .null, .int 0, .null, .null, .null, .null, .null, .null, .null, .null, .int 0, .null, .int 0, .null, .int 0, .int 0, .int 0, .int 0, .int 0, .int 0, .int 0, .int 0, .int 0, .int 0, .int 0, .null, .null, .null, .null, .null, .null, .null, .int 0, .int 0, .null, .long 0, .null, .null]) C 10 rfl iwMM tcMM tyMM (mg (i := 791) (by decide +kernel) rfl) (mg (i := 792) (by decide +kernel) rfl) (mg (i := 52) (by decide +kernel) rfl) (fun j hj => by have e : j = 0 ∨ j = 1 ∨ j = 2 ∨ j = 3 ∨ j = 4 ∨ j = 5 ∨ j = 6 ∨ j = 7 ∨ j = 8 ∨ j = 9 ∨ j = 10 ∨ j = 11 ∨ j = 12 ∨ j = 13 ∨ j = 14 ∨ j = 15 ∨ j = 16 ∨ j = 17 ∨ j = 18 ∨ j = 19 ∨ j = 20 ∨ j = 21 ∨ j = 22 ∨ j = 23 ∨ j = 24 ∨ j = 25 ∨ j = 26 ∨ j = 27 ∨ j = 28 ∨ j = 29 ∨ j = 30 ∨ j = 31 ∨ j = 32 ∨ j = 33 ∨ j = 34 ∨ j = 35 ∨ j = 36 ∨ j = 37 ∨ j = 38 ∨ j = 39 ∨ j = 40 ∨ j = 41 ∨ j = 42 ∨ j = 43 ∨ j = 44 ∨ j = 45 ∨ j = 46 ∨ j = 47 ∨ j = 48 ∨ j = 49 := (by omega); rcases e with rfl | rfl | rfl | rfl | rfl | rfl | rfl | rfl | rfl | rfl | rfl | rfl | rfl | rfl | rfl | rfl | rfl | rfl | rfl | rfl | rfl | rfl | rfl | rfl | rfl | rfl | rfl | rfl | rfl | rfl | rfl | rfl | rfl | rfl | rfl | rfl | rfl | rfl | rfl | rfl | rfl | rfl | rfl | rfl | rfl | rfl | rfl | rfl | rfl | rfl <;> rfl) (by decide) (by decide) dlw_8 (fun g => ?_)
    refine bb_dup C dlw_11 rfl ?_
    refine bb_mkI (wr := woTL K h u) C (mg (i := 793) (by decide +kernel) rfl) kIMM (fun sz => mMM K g sz) (by decide) (by decide) (by decide) [40] [0, 1, 2, 3, 4, 5, 6, 7, 8, 9, 10, 11, 12, 13, 14, 15, 16, 17, 18, 19, 20, 21, 22, 23, 24, 25, 26, 27, 28, 29, 30, 31, 32, 33, 34, 35, 36, 37, 38, 39] rfl rfl rfl rfl rfl (by decide) (Nat.le_of_ble_eq_true rfl) dlw_12 (fun v => ?_)
    refine bb_astore_n (L' := [(2, .ref g), (1, .ref h), (0, .ref b)]) C dlw_15 rfl (by decide) rfl ?_
    refine bb_iconst (x := 0) C dlw_16 (by decide) ?_
    refine bb_istore_n (L' := [(3, .int 0), (2, .ref g), (1, .ref h), (0, .ref b)]) C dlw_17 rfl (by decide) rfl ?_
    intro ls H locs hl hP hD hS
    have hP0 := hP.sub isP (perm_P K h g u v 0 0)
    have hD0 := hD.sub isP perm_n (perm_D K h g u v 0 0)
    have hAw : ∀ q, Aw (G0 K h g u v 0 0) q → s.heap.size ≤ q := fun q hq => aw_of hD0 hq
    obtain ⟨x, y, hE⟩ := ef0 hts hgv K hK h g u v (fun q hq hn => absurd (hAw q hn) (by omega))
    have Cx0 : Cx (G0 K h g u v x y) (p, l, e, room_1, s, m, #[Value.ref b], below, meth, c, 70, 11699) RcLw code 4 1000 (some .boolean) := ⟨hx, hb, hml, hown, htg, hE, gok_of (G := G0 K h g u v x y) (S := S0) hD0, hr, hlocks, Nat.le_of_ble_eq_true rfl, Nat.le_of_ble_eq_true rfl, Nat.le_of_ble_eq_true rfl, Nat.le_of_ble_eq_true rfl⟩
    refine va_forget (fun q hq => hS.2.2 q hq) ?_
    have hlp := lw_loop (G := G0 K h g u v x y) (N := L) (sc := xs) (Q := lw_Z below #[Value.ref b] s) Cx0 (by decide) hX hbl (fun hn => absurd (hAw b hn) (by show ¬ s.heap.size ≤ b; exact Nat.not_le.mpr hbl)) hL (fun i S => ?_) L 0 S0 (by omega) (by omega) rel0
    · exact hlp ls H [] (lv_sub hl [0, 3, 2, 1] rfl) hP0 ⟨hS.1, fun q h1 _ => hS.2.1 q h1 (Nat.not_le.mpr h1), fun _ h => by cases h⟩
    · refine at_iconst (x := 1) Cx0 dlw_943 (by decide) ?_
      intro ls2 H2 locs2 hl2 hP2 hS2
      refine va_forget (fun q hq => hAw q.base (hS2.2.2 q hq)) ?_
      refine W.widen (k := 600000) (n := 7302250) (Nat.le_of_ble_eq_true rfl) (Nat.le_of_ble_eq_true rfl) ?_
      exact lw_ret hx hb hr hlocks dlw_944
  exact go _ s.heap [] hl hP hD va_S.rf
