section
-- ===== PART A: goes FIRST, ahead of the names: the tables' words, and 'selects' of the private methods out of them =====
/-- a private method of a class that the tables say can be made, by its rows of tables_1 -/
def lw_okq (q : MethodName × Nat) : Prop := (q.1.cls ≠ "java/lang/invoke/MethodHandle" ∧ q.1.cls ≠ "java/lang/invoke/VarHandle") ∧ Cond.instantiable q.1.cls q.2 ∈ tables_1 ∧ Cond.privateMethod q.1 ∈ tables_1 ∧ Cond.instanceMethod q.1 ∈ tables_1
theorem lw_p0 : lw_okq (⟨"TributeLists$Roads", "nearestOpen", "()I"⟩, 3) := ⟨⟨by decide +kernel, by decide +kernel⟩, List.mem_of_getElem? (i := 28) (by decide +kernel), List.mem_of_getElem? (i := 296) (by decide +kernel), List.mem_of_getElem? (i := 297) (by decide +kernel)⟩
theorem lw_p1 : lw_okq (⟨"TributeLists$Roads", "reachOnFrom", "(I)V"⟩, 3) := ⟨⟨by decide +kernel, by decide +kernel⟩, List.mem_of_getElem? (i := 28) (by decide +kernel), List.mem_of_getElem? (i := 300) (by decide +kernel), List.mem_of_getElem? (i := 301) (by decide +kernel)⟩
theorem lw_p2 : lw_okq (⟨"TributeLists$Porters", "piecesEach", "(I)I"⟩, 2) := ⟨⟨by decide +kernel, by decide +kernel⟩, List.mem_of_getElem? (i := 45) (by decide +kernel), List.mem_of_getElem? (i := 331) (by decide +kernel), List.mem_of_getElem? (i := 332) (by decide +kernel)⟩
theorem lw_p3 : lw_okq (⟨"TributeLists$ListReader", "startAnew", "()V"⟩, 13) := ⟨⟨by decide +kernel, by decide +kernel⟩, List.mem_of_getElem? (i := 75) (by decide +kernel), List.mem_of_getElem? (i := 373) (by decide +kernel), List.mem_of_getElem? (i := 374) (by decide +kernel)⟩
theorem lw_p4 : lw_okq (⟨"TributeLists$ListReader", "nextToken", "(LTributeLists$Tape;)V"⟩, 13) := ⟨⟨by decide +kernel, by decide +kernel⟩, List.mem_of_getElem? (i := 75) (by decide +kernel), List.mem_of_getElem? (i := 378) (by decide +kernel), List.mem_of_getElem? (i := 379) (by decide +kernel)⟩
theorem lw_p5 : lw_okq (⟨"TributeLists$ListReader", "takeLetters", "(LTributeLists$Tape;)V"⟩, 13) := ⟨⟨by decide +kernel, by decide +kernel⟩, List.mem_of_getElem? (i := 75) (by decide +kernel), List.mem_of_getElem? (i := 394) (by decide +kernel), List.mem_of_getElem? (i := 395) (by decide +kernel)⟩
theorem lw_p6 : lw_okq (⟨"TributeLists$ListReader", "takeDigits", "(LTributeLists$Tape;)V"⟩, 13) := ⟨⟨by decide +kernel, by decide +kernel⟩, List.mem_of_getElem? (i := 75) (by decide +kernel), List.mem_of_getElem? (i := 450) (by decide +kernel), List.mem_of_getElem? (i := 451) (by decide +kernel)⟩
theorem lw_p7 : lw_okq (⟨"TributeLists$ListReader", "takeToken", "()I"⟩, 13) := ⟨⟨by decide +kernel, by decide +kernel⟩, List.mem_of_getElem? (i := 75) (by decide +kernel), List.mem_of_getElem? (i := 459) (by decide +kernel), List.mem_of_getElem? (i := 460) (by decide +kernel)⟩
theorem lw_p8 : lw_okq (⟨"TributeLists$ListReader", "takeLineStart", "()I"⟩, 13) := ⟨⟨by decide +kernel, by decide +kernel⟩, List.mem_of_getElem? (i := 75) (by decide +kernel), List.mem_of_getElem? (i := 463) (by decide +kernel), List.mem_of_getElem? (i := 464) (by decide +kernel)⟩
theorem lw_p9 : lw_okq (⟨"TributeLists$ListReader", "takeTown", "()I"⟩, 13) := ⟨⟨by decide +kernel, by decide +kernel⟩, List.mem_of_getElem? (i := 75) (by decide +kernel), List.mem_of_getElem? (i := 467) (by decide +kernel), List.mem_of_getElem? (i := 468) (by decide +kernel)⟩
theorem lw_p10 : lw_okq (⟨"TributeLists$ListReader", "takeColon", "()I"⟩, 13) := ⟨⟨by decide +kernel, by decide +kernel⟩, List.mem_of_getElem? (i := 75) (by decide +kernel), List.mem_of_getElem? (i := 474) (by decide +kernel), List.mem_of_getElem? (i := 475) (by decide +kernel)⟩
theorem lw_p11 : lw_okq (⟨"TributeLists$ListReader", "takeGood", "()I"⟩, 13) := ⟨⟨by decide +kernel, by decide +kernel⟩, List.mem_of_getElem? (i := 75) (by decide +kernel), List.mem_of_getElem? (i := 478) (by decide +kernel), List.mem_of_getElem? (i := 479) (by decide +kernel)⟩
theorem lw_p12 : lw_okq (⟨"TributeLists$ListReader", "takePieces", "()I"⟩, 13) := ⟨⟨by decide +kernel, by decide +kernel⟩, List.mem_of_getElem? (i := 75) (by decide +kernel), List.mem_of_getElem? (i := 486) (by decide +kernel), List.mem_of_getElem? (i := 487) (by decide +kernel)⟩
theorem lw_p13 : lw_okq (⟨"TributeLists$ListReader", "takeBehindPart", "()I"⟩, 13) := ⟨⟨by decide +kernel, by decide +kernel⟩, List.mem_of_getElem? (i := 75) (by decide +kernel), List.mem_of_getElem? (i := 490) (by decide +kernel), List.mem_of_getElem? (i := 491) (by decide +kernel)⟩
theorem lw_p14 : lw_okq (⟨"TributeLists$Copies", "votesFor", "(II)I"⟩, 3) := ⟨⟨by decide +kernel, by decide +kernel⟩, List.mem_of_getElem? (i := 121) (by decide +kernel), List.mem_of_getElem? (i := 539) (by decide +kernel), List.mem_of_getElem? (i := 540) (by decide +kernel)⟩
theorem lw_p15 : lw_okq (⟨"TributeLists", "storeArrivals", "()V"⟩, 10) := ⟨⟨by decide +kernel, by decide +kernel⟩, List.mem_of_getElem? (i := 20) (by decide +kernel), List.mem_of_getElem? (i := 583) (by decide +kernel), List.mem_of_getElem? (i := 584) (by decide +kernel)⟩
def lw_privs_1 : List (MethodName × Nat) := [(⟨"TributeLists$Roads", "nearestOpen", "()I"⟩, 3), (⟨"TributeLists$Roads", "reachOnFrom", "(I)V"⟩, 3), (⟨"TributeLists$Porters", "piecesEach", "(I)I"⟩, 2), (⟨"TributeLists$ListReader", "startAnew", "()V"⟩, 13), (⟨"TributeLists$ListReader", "nextToken", "(LTributeLists$Tape;)V"⟩, 13), (⟨"TributeLists$ListReader", "takeLetters", "(LTributeLists$Tape;)V"⟩, 13), (⟨"TributeLists$ListReader", "takeDigits", "(LTributeLists$Tape;)V"⟩, 13), (⟨"TributeLists$ListReader", "takeToken", "()I"⟩, 13), (⟨"TributeLists$ListReader", "takeLineStart", "()I"⟩, 13), (⟨"TributeLists$ListReader", "takeTown", "()I"⟩, 13), (⟨"TributeLists$ListReader", "takeColon", "()I"⟩, 13), (⟨"TributeLists$ListReader", "takeGood", "()I"⟩, 13), (⟨"TributeLists$ListReader", "takePieces", "()I"⟩, 13), (⟨"TributeLists$ListReader", "takeBehindPart", "()I"⟩, 13), (⟨"TributeLists$Copies", "votesFor", "(II)I"⟩, 3), (⟨"TributeLists", "storeArrivals", "()V"⟩, 10)]
theorem lw_r1 : ∀ q ∈ lw_privs_1, lw_okq q := List.forall_mem_cons.mpr ⟨lw_p0, List.forall_mem_cons.mpr ⟨lw_p1, List.forall_mem_cons.mpr ⟨lw_p2, List.forall_mem_cons.mpr ⟨lw_p3, List.forall_mem_cons.mpr ⟨lw_p4, List.forall_mem_cons.mpr ⟨lw_p5, List.forall_mem_cons.mpr ⟨lw_p6, List.forall_mem_cons.mpr ⟨lw_p7, List.forall_mem_cons.mpr ⟨lw_p8, List.forall_mem_cons.mpr ⟨lw_p9, List.forall_mem_cons.mpr ⟨lw_p10, List.forall_mem_cons.mpr ⟨lw_p11, List.forall_mem_cons.mpr ⟨lw_p12, List.forall_mem_cons.mpr ⟨lw_p13, List.forall_mem_cons.mpr ⟨lw_p14, List.forall_mem_cons.mpr ⟨lw_p15, fun _ h => absurd h List.not_mem_nil⟩⟩⟩⟩⟩⟩⟩⟩⟩⟩⟩⟩⟩⟩⟩⟩
theorem lw_p16 : lw_okq (⟨"TributeLists$Accounts", "pay", "(IIII)I"⟩, 5) := ⟨⟨by decide +kernel, by decide +kernel⟩, List.mem_of_getElem? (i := 140) (by decide +kernel), List.mem_of_getElem? (i := 596) (by decide +kernel), List.mem_of_getElem? (i := 597) (by decide +kernel)⟩
theorem lw_p17 : lw_okq (⟨"TributeLists", "bringDebts", "()V"⟩, 10) := ⟨⟨by decide +kernel, by decide +kernel⟩, List.mem_of_getElem? (i := 20) (by decide +kernel), List.mem_of_getElem? (i := 608) (by decide +kernel), List.mem_of_getElem? (i := 609) (by decide +kernel)⟩
theorem lw_p18 : lw_okq (⟨"TributeLists$Markets", "search", "(IJI)V"⟩, 13) := ⟨⟨by decide +kernel, by decide +kernel⟩, List.mem_of_getElem? (i := 185) (by decide +kernel), List.mem_of_getElem? (i := 677) (by decide +kernel), List.mem_of_getElem? (i := 678) (by decide +kernel)⟩
theorem lw_p19 : lw_okq (⟨"TributeLists$Markets", "keepIfBetter", "(JI)V"⟩, 13) := ⟨⟨by decide +kernel, by decide +kernel⟩, List.mem_of_getElem? (i := 185) (by decide +kernel), List.mem_of_getElem? (i := 681) (by decide +kernel), List.mem_of_getElem? (i := 682) (by decide +kernel)⟩
theorem lw_p20 : lw_okq (⟨"TributeLists$Markets", "exchanged", "(JI)J"⟩, 13) := ⟨⟨by decide +kernel, by decide +kernel⟩, List.mem_of_getElem? (i := 185) (by decide +kernel), List.mem_of_getElem? (i := 686) (by decide +kernel), List.mem_of_getElem? (i := 687) (by decide +kernel)⟩
theorem lw_p21 : lw_okq (⟨"TributeLists$Shares", "allYields", "()I"⟩, 1) := ⟨⟨by decide +kernel, by decide +kernel⟩, List.mem_of_getElem? (i := 231) (by decide +kernel), List.mem_of_getElem? (i := 724) (by decide +kernel), List.mem_of_getElem? (i := 725) (by decide +kernel)⟩
theorem lw_p22 : lw_okq (⟨"TributeListsModel", "wayOf", "(II)I"⟩, 50) := ⟨⟨by decide +kernel, by decide +kernel⟩, List.mem_of_getElem? (i := 752) (by decide +kernel), List.mem_of_getElem? (i := 924) (by decide +kernel), List.mem_of_getElem? (i := 925) (by decide +kernel)⟩
theorem lw_p23 : lw_okq (⟨"TributeListsModel", "carriersOf", "(II)I"⟩, 50) := ⟨⟨by decide +kernel, by decide +kernel⟩, List.mem_of_getElem? (i := 752) (by decide +kernel), List.mem_of_getElem? (i := 940) (by decide +kernel), List.mem_of_getElem? (i := 941) (by decide +kernel)⟩
theorem lw_p24 : lw_okq (⟨"TributeListsModel", "four", "(I)V"⟩, 50) := ⟨⟨by decide +kernel, by decide +kernel⟩, List.mem_of_getElem? (i := 752) (by decide +kernel), List.mem_of_getElem? (i := 948) (by decide +kernel), List.mem_of_getElem? (i := 949) (by decide +kernel)⟩
theorem lw_p25 : lw_okq (⟨"TributeListsModel", "read", "()I"⟩, 50) := ⟨⟨by decide +kernel, by decide +kernel⟩, List.mem_of_getElem? (i := 752) (by decide +kernel), List.mem_of_getElem? (i := 960) (by decide +kernel), List.mem_of_getElem? (i := 961) (by decide +kernel)⟩
theorem lw_p26 : lw_okq (⟨"TributeListsModel", "nextToken", "()V"⟩, 50) := ⟨⟨by decide +kernel, by decide +kernel⟩, List.mem_of_getElem? (i := 752) (by decide +kernel), List.mem_of_getElem? (i := 964) (by decide +kernel), List.mem_of_getElem? (i := 965) (by decide +kernel)⟩
theorem lw_p27 : lw_okq (⟨"TributeListsModel", "see", "(I)I"⟩, 50) := ⟨⟨by decide +kernel, by decide +kernel⟩, List.mem_of_getElem? (i := 752) (by decide +kernel), List.mem_of_getElem? (i := 968) (by decide +kernel), List.mem_of_getElem? (i := 969) (by decide +kernel)⟩
theorem lw_p28 : lw_okq (⟨"TributeListsModel", "line", "()I"⟩, 50) := ⟨⟨by decide +kernel, by decide +kernel⟩, List.mem_of_getElem? (i := 752) (by decide +kernel), List.mem_of_getElem? (i := 978) (by decide +kernel), List.mem_of_getElem? (i := 979) (by decide +kernel)⟩
theorem lw_p29 : lw_okq (⟨"TributeListsModel", "part", "(I)I"⟩, 50) := ⟨⟨by decide +kernel, by decide +kernel⟩, List.mem_of_getElem? (i := 752) (by decide +kernel), List.mem_of_getElem? (i := 985) (by decide +kernel), List.mem_of_getElem? (i := 986) (by decide +kernel)⟩
theorem lw_p30 : lw_okq (⟨"TributeListsModel", "tellsOf", "(III)I"⟩, 50) := ⟨⟨by decide +kernel, by decide +kernel⟩, List.mem_of_getElem? (i := 752) (by decide +kernel), List.mem_of_getElem? (i := 997) (by decide +kernel), List.mem_of_getElem? (i := 998) (by decide +kernel)⟩
theorem lw_p31 : lw_okq (⟨"TributeListsModel", "owedOf", "(II)I"⟩, 50) := ⟨⟨by decide +kernel, by decide +kernel⟩, List.mem_of_getElem? (i := 752) (by decide +kernel), List.mem_of_getElem? (i := 1005) (by decide +kernel), List.mem_of_getElem? (i := 1006) (by decide +kernel)⟩
def lw_privs_2 : List (MethodName × Nat) := [(⟨"TributeLists$Accounts", "pay", "(IIII)I"⟩, 5), (⟨"TributeLists", "bringDebts", "()V"⟩, 10), (⟨"TributeLists$Markets", "search", "(IJI)V"⟩, 13), (⟨"TributeLists$Markets", "keepIfBetter", "(JI)V"⟩, 13), (⟨"TributeLists$Markets", "exchanged", "(JI)J"⟩, 13), (⟨"TributeLists$Shares", "allYields", "()I"⟩, 1), (⟨"TributeListsModel", "wayOf", "(II)I"⟩, 50), (⟨"TributeListsModel", "carriersOf", "(II)I"⟩, 50), (⟨"TributeListsModel", "four", "(I)V"⟩, 50), (⟨"TributeListsModel", "read", "()I"⟩, 50), (⟨"TributeListsModel", "nextToken", "()V"⟩, 50), (⟨"TributeListsModel", "see", "(I)I"⟩, 50), (⟨"TributeListsModel", "line", "()I"⟩, 50), (⟨"TributeListsModel", "part", "(I)I"⟩, 50), (⟨"TributeListsModel", "tellsOf", "(III)I"⟩, 50), (⟨"TributeListsModel", "owedOf", "(II)I"⟩, 50)]
theorem lw_r2 : ∀ q ∈ lw_privs_2, lw_okq q := List.forall_mem_cons.mpr ⟨lw_p16, List.forall_mem_cons.mpr ⟨lw_p17, List.forall_mem_cons.mpr ⟨lw_p18, List.forall_mem_cons.mpr ⟨lw_p19, List.forall_mem_cons.mpr ⟨lw_p20, List.forall_mem_cons.mpr ⟨lw_p21, List.forall_mem_cons.mpr ⟨lw_p22, List.forall_mem_cons.mpr ⟨lw_p23, List.forall_mem_cons.mpr ⟨lw_p24, List.forall_mem_cons.mpr ⟨lw_p25, List.forall_mem_cons.mpr ⟨lw_p26, List.forall_mem_cons.mpr ⟨lw_p27, List.forall_mem_cons.mpr ⟨lw_p28, List.forall_mem_cons.mpr ⟨lw_p29, List.forall_mem_cons.mpr ⟨lw_p30, List.forall_mem_cons.mpr ⟨lw_p31, fun _ h => absurd h List.not_mem_nil⟩⟩⟩⟩⟩⟩⟩⟩⟩⟩⟩⟩⟩⟩⟩⟩
theorem lw_p32 : lw_okq (⟨"TributeListsModel", "votes", "(III)I"⟩, 50) := ⟨⟨by decide +kernel, by decide +kernel⟩, List.mem_of_getElem? (i := 752) (by decide +kernel), List.mem_of_getElem? (i := 1009) (by decide +kernel), List.mem_of_getElem? (i := 1010) (by decide +kernel)⟩
theorem lw_p33 : lw_okq (⟨"TributeListsModel", "isQuarrel", "(II)Z"⟩, 50) := ⟨⟨by decide +kernel, by decide +kernel⟩, List.mem_of_getElem? (i := 752) (by decide +kernel), List.mem_of_getElem? (i := 1017) (by decide +kernel), List.mem_of_getElem? (i := 1018) (by decide +kernel)⟩
theorem lw_p34 : lw_okq (⟨"TributeListsModel", "store", "(I)V"⟩, 50) := ⟨⟨by decide +kernel, by decide +kernel⟩, List.mem_of_getElem? (i := 752) (by decide +kernel), List.mem_of_getElem? (i := 1037) (by decide +kernel), List.mem_of_getElem? (i := 1038) (by decide +kernel)⟩
theorem lw_p35 : lw_okq (⟨"TributeListsModel", "quarter", "()V"⟩, 50) := ⟨⟨by decide +kernel, by decide +kernel⟩, List.mem_of_getElem? (i := 752) (by decide +kernel), List.mem_of_getElem? (i := 1041) (by decide +kernel), List.mem_of_getElem? (i := 1042) (by decide +kernel)⟩
theorem lw_p36 : lw_okq (⟨"TributeListsModel", "search", "(III)V"⟩, 50) := ⟨⟨by decide +kernel, by decide +kernel⟩, List.mem_of_getElem? (i := 752) (by decide +kernel), List.mem_of_getElem? (i := 1066) (by decide +kernel), List.mem_of_getElem? (i := 1067) (by decide +kernel)⟩
theorem lw_p37 : lw_okq (⟨"TributeListsModel", "wasThrough", "(III)Z"⟩, 50) := ⟨⟨by decide +kernel, by decide +kernel⟩, List.mem_of_getElem? (i := 752) (by decide +kernel), List.mem_of_getElem? (i := 1070) (by decide +kernel), List.mem_of_getElem? (i := 1071) (by decide +kernel)⟩
theorem lw_p38 : lw_okq (⟨"TributeListsModel", "found", "(I)V"⟩, 50) := ⟨⟨by decide +kernel, by decide +kernel⟩, List.mem_of_getElem? (i := 752) (by decide +kernel), List.mem_of_getElem? (i := 1074) (by decide +kernel), List.mem_of_getElem? (i := 1075) (by decide +kernel)⟩
theorem lw_p39 : lw_okq (⟨"TributeListsModel", "isAhead", "(I)Z"⟩, 50) := ⟨⟨by decide +kernel, by decide +kernel⟩, List.mem_of_getElem? (i := 752) (by decide +kernel), List.mem_of_getElem? (i := 1078) (by decide +kernel), List.mem_of_getElem? (i := 1079) (by decide +kernel)⟩
def lw_privs_3 : List (MethodName × Nat) := [(⟨"TributeListsModel", "votes", "(III)I"⟩, 50), (⟨"TributeListsModel", "isQuarrel", "(II)Z"⟩, 50), (⟨"TributeListsModel", "store", "(I)V"⟩, 50), (⟨"TributeListsModel", "quarter", "()V"⟩, 50), (⟨"TributeListsModel", "search", "(III)V"⟩, 50), (⟨"TributeListsModel", "wasThrough", "(III)Z"⟩, 50), (⟨"TributeListsModel", "found", "(I)V"⟩, 50), (⟨"TributeListsModel", "isAhead", "(I)Z"⟩, 50)]
theorem lw_r3 : ∀ q ∈ lw_privs_3, lw_okq q := List.forall_mem_cons.mpr ⟨lw_p32, List.forall_mem_cons.mpr ⟨lw_p33, List.forall_mem_cons.mpr ⟨lw_p34, List.forall_mem_cons.mpr ⟨lw_p35, List.forall_mem_cons.mpr ⟨lw_p36, List.forall_mem_cons.mpr ⟨lw_p37, List.forall_mem_cons.mpr ⟨lw_p38, List.forall_mem_cons.mpr ⟨lw_p39, fun _ h => absurd h List.not_mem_nil⟩⟩⟩⟩⟩⟩⟩⟩
def lw_privs : List (MethodName × Nat) := lw_privs_1 ++ (lw_privs_2 ++ (lw_privs_3))
def lw_tbl : List Cond := k2_sels lw_privs ++ tables_1
theorem lw_privs_ok : ∀ q ∈ lw_privs, lw_okq q := by
  show ∀ q ∈ lw_privs_1 ++ (lw_privs_2 ++ (lw_privs_3)), lw_okq q
  exact List.forall_mem_append.mpr ⟨lw_r1, List.forall_mem_append.mpr ⟨lw_r2, lw_r3⟩⟩
end
section
abbrev GG : Type := va_G × (Nat → Nat) × (Nat → ClassId) × Nat × Nat
abbrev ad (G : GG) : Nat → Nat := G.2.1
abbrev cy (G : GG) : Nat → ClassId := G.2.2.1
abbrev Z111111 : Type := Int32 × (Nat → Int32)
abbrev Z111112 : Type := (Nat → Int32) × (Nat → Int32)
abbrev Z11111 : Type := Z111111 × Z111112
abbrev Z111121 : Type := (Nat → Int32) × Int32
abbrev Z11112 : Type := Z111121 × (Nat → Int32)
abbrev Z1111 : Type := Z11111 × Z11112
abbrev Z111211 : Type := Int32 × (Nat → Int32)
abbrev Z11121 : Type := Z111211 × (Nat → Int32)
abbrev Z111221 : Type := Int32 × Int32
abbrev Z11122 : Type := Z111221 × Int32
abbrev Z1112 : Type := Z11121 × Z11122
abbrev Z111 : Type := Z1111 × Z1112
abbrev Z112111 : Type := Int32 × Int32
abbrev Z11211 : Type := Z112111 × Int32
abbrev Z112121 : Type := Int32 × Int32
abbrev Z11212 : Type := Z112121 × Int32
abbrev Z1121 : Type := Z11211 × Z11212
abbrev Z112211 : Type := Int32 × Int32
abbrev Z11221 : Type := Z112211 × (Nat → Nat → Int32)
abbrev Z112221 : Type := (Nat → Int32) × Int32
abbrev Z11222 : Type := Z112221 × (Nat → Int32)
abbrev Z1122 : Type := Z11221 × Z11222
abbrev Z112 : Type := Z1121 × Z1122
abbrev Z11 : Type := Z111 × Z112
abbrev Z121111 : Type := (Nat → Int32) × (Nat → Int32)
abbrev Z12111 : Type := Z121111 × (Nat → Int32)
abbrev Z121121 : Type := (Nat → Int64) × (Nat → Int32)
abbrev Z12112 : Type := Z121121 × (Nat → Int32)
abbrev Z1211 : Type := Z12111 × Z12112
abbrev Z121211 : Type := Int32 × Int32
abbrev Z12121 : Type := Z121211 × Int32
abbrev Z121221 : Type := (Nat → Int32) × (Nat → Int32)
abbrev Z12122 : Type := Z121221 × (Nat → Int32)
abbrev Z1212 : Type := Z12121 × Z12122
abbrev Z121 : Type := Z1211 × Z1212
abbrev Z122111 : Type := (Nat → Int32) × Int32
abbrev Z12211 : Type := Z122111 × (Nat → Int32)
abbrev Z122121 : Type := (Nat → Int32) × (Nat → Int32)
abbrev Z12212 : Type := Z122121 × Int32
abbrev Z1221 : Type := Z12211 × Z12212
abbrev Z122211 : Type := Int64 × Int32
abbrev Z12221 : Type := Z122211 × (Nat → Int32)
abbrev Z122221 : Type := Int32 × (Nat → Int32)
abbrev Z12222 : Type := Z122221 × Int32
abbrev Z1222 : Type := Z12221 × Z12222
abbrev Z122 : Type := Z1221 × Z1222
abbrev Z12 : Type := Z121 × Z122
abbrev Z1 : Type := Z11 × Z12
abbrev Z211111 : Type := Int32 × (Nat → Int32)
abbrev Z211112 : Type := (Nat → Int32) × (Nat → Int32)
abbrev Z21111 : Type := Z211111 × Z211112
abbrev Z211121 : Type := Int32 × (Nat → Int32)
abbrev Z21112 : Type := Z211121 × (Nat → Int32)
abbrev Z2111 : Type := Z21111 × Z21112
abbrev Z211211 : Type := Int32 × (Nat → Int32)
abbrev Z21121 : Type := Z211211 × (Nat → Int32)
abbrev Z211221 : Type := (Nat → Int32) × (Nat → Int64)
abbrev Z21122 : Type := Z211221 × Int32
abbrev Z2112 : Type := Z21121 × Z21122
abbrev Z211 : Type := Z2111 × Z2112
abbrev Z212111 : Type := (Nat → Int32) × (Nat → Int32)
abbrev Z21211 : Type := Z212111 × (Nat → Int32)
abbrev Z212121 : Type := (Nat → Int32) × (Nat → Int32)
abbrev Z21212 : Type := Z212121 × (Nat → Int32)
abbrev Z2121 : Type := Z21211 × Z21212
abbrev Z212211 : Type := (Nat → Int32) × (Nat → Int32)
abbrev Z21221 : Type := Z212211 × Int32
abbrev Z212221 : Type := (Nat → Int32) × Int32
abbrev Z21222 : Type := Z212221 × (Nat → Int32)
abbrev Z2122 : Type := Z21221 × Z21222
abbrev Z212 : Type := Z2121 × Z2122
abbrev Z21 : Type := Z211 × Z212
abbrev Z221111 : Type := Int32 × Int32
abbrev Z22111 : Type := Z221111 × Int32
abbrev Z221121 : Type := Int32 × Int32
abbrev Z22112 : Type := Z221121 × Int32
abbrev Z2211 : Type := Z22111 × Z22112
abbrev Z221211 : Type := Int32 × Int32
abbrev Z22121 : Type := Z221211 × Int32
abbrev Z221221 : Type := Int32 × Int32
abbrev Z22122 : Type := Z221221 × (Nat → Int32)
abbrev Z2212 : Type := Z22121 × Z22122
abbrev Z221 : Type := Z2211 × Z2212
abbrev Z222111 : Type := (Nat → Int32) × (Nat → Int32)
abbrev Z22211 : Type := Z222111 × (Nat → Int32)
abbrev Z222121 : Type := (Nat → Int32) × (Nat → Int64)
abbrev Z22212 : Type := Z222121 × (Nat → Int32)
abbrev Z2221 : Type := Z22211 × Z22212
abbrev Z222211 : Type := Int32 × Int32
abbrev Z22221 : Type := Z222211 × (Nat → Int32)
abbrev Z222221 : Type := Int64 × (Nat → Int32)
abbrev Z22222 : Type := Z222221 × (Nat → Int32)
abbrev Z2222 : Type := Z22221 × Z22222
abbrev Z222 : Type := Z2221 × Z2222
abbrev Z22 : Type := Z221 × Z222
abbrev Z2 : Type := Z21 × Z22
abbrev ST : Type := Z1 × Z2
def gTL_clock (S : ST) : Int32 := S.1.1.1.1.1.1.1
def sTL_clock (S : ST) (v : Int32) : ST := (((((((v, S.1.1.1.1.1.1.2), S.1.1.1.1.1.2), S.1.1.1.1.2), S.1.1.1.2), S.1.1.2), S.1.2), S.2)
def gRo_length (S : ST) : (Nat → Int32) := S.1.1.1.1.1.1.2
def sRo_length (S : ST) (v : (Nat → Int32)) : ST := (((((((S.1.1.1.1.1.1.1, v), S.1.1.1.1.1.2), S.1.1.1.1.2), S.1.1.1.2), S.1.1.2), S.1.2), S.2)
def gRo_reach (S : ST) : (Nat → Int32) := S.1.1.1.1.1.2.1
def sRo_reach (S : ST) (v : (Nat → Int32)) : ST := ((((((S.1.1.1.1.1.1, (v, S.1.1.1.1.1.2.2)), S.1.1.1.1.2), S.1.1.1.2), S.1.1.2), S.1.2), S.2)
def gRo_settled (S : ST) : (Nat → Int32) := S.1.1.1.1.1.2.2
def sRo_settled (S : ST) (v : (Nat → Int32)) : ST := ((((((S.1.1.1.1.1.1, (S.1.1.1.1.1.2.1, v)), S.1.1.1.1.2), S.1.1.1.2), S.1.1.2), S.1.2), S.2)
def gPo_weights (S : ST) : (Nat → Int32) := S.1.1.1.1.2.1.1
def sPo_weights (S : ST) (v : (Nat → Int32)) : ST := (((((S.1.1.1.1.1, ((v, S.1.1.1.1.2.1.2), S.1.1.1.1.2.2)), S.1.1.1.2), S.1.1.2), S.1.2), S.2)
def gPo_load (S : ST) : Int32 := S.1.1.1.1.2.1.2
def sPo_load (S : ST) (v : Int32) : ST := (((((S.1.1.1.1.1, ((S.1.1.1.1.2.1.1, v), S.1.1.1.1.2.2)), S.1.1.1.2), S.1.1.2), S.1.2), S.2)
def gTa_bytes (S : ST) : (Nat → Int32) := S.1.1.1.1.2.2
def sTa_bytes (S : ST) (v : (Nat → Int32)) : ST := (((((S.1.1.1.1.1, (S.1.1.1.1.2.1, v)), S.1.1.1.2), S.1.1.2), S.1.2), S.2)
def gTa_size (S : ST) : Int32 := S.1.1.1.2.1.1.1
def sTa_size (S : ST) (v : Int32) : ST := ((((S.1.1.1.1, (((v, S.1.1.1.2.1.1.2), S.1.1.1.2.1.2), S.1.1.1.2.2)), S.1.1.2), S.1.2), S.2)
def gLi_row (S : ST) : (Nat → Int32) := S.1.1.1.2.1.1.2
def sLi_row (S : ST) (v : (Nat → Int32)) : ST := ((((S.1.1.1.1, (((S.1.1.1.2.1.1.1, v), S.1.1.1.2.1.2), S.1.1.1.2.2)), S.1.1.2), S.1.2), S.2)
def gLi_townSeen (S : ST) : (Nat → Int32) := S.1.1.1.2.1.2
def sLi_townSeen (S : ST) (v : (Nat → Int32)) : ST := ((((S.1.1.1.1, ((S.1.1.1.2.1.1, v), S.1.1.1.2.2)), S.1.1.2), S.1.2), S.2)
def gLi_cursor (S : ST) : Int32 := S.1.1.1.2.2.1.1
def sLi_cursor (S : ST) (v : Int32) : ST := ((((S.1.1.1.1, (S.1.1.1.2.1, ((v, S.1.1.1.2.2.1.2), S.1.1.1.2.2.2))), S.1.1.2), S.1.2), S.2)
def gLi_tokenStart (S : ST) : Int32 := S.1.1.1.2.2.1.2
def sLi_tokenStart (S : ST) (v : Int32) : ST := ((((S.1.1.1.1, (S.1.1.1.2.1, ((S.1.1.1.2.2.1.1, v), S.1.1.1.2.2.2))), S.1.1.2), S.1.2), S.2)
def gLi_tokenKind (S : ST) : Int32 := S.1.1.1.2.2.2
def sLi_tokenKind (S : ST) (v : Int32) : ST := ((((S.1.1.1.1, (S.1.1.1.2.1, (S.1.1.1.2.2.1, v))), S.1.1.2), S.1.2), S.2)
def gLi_number (S : ST) : Int32 := S.1.1.2.1.1.1.1
def sLi_number (S : ST) (v : Int32) : ST := (((S.1.1.1, ((((v, S.1.1.2.1.1.1.2), S.1.1.2.1.1.2), S.1.1.2.1.2), S.1.1.2.2)), S.1.2), S.2)
def gLi_expected (S : ST) : Int32 := S.1.1.2.1.1.1.2
def sLi_expected (S : ST) (v : Int32) : ST := (((S.1.1.1, ((((S.1.1.2.1.1.1.1, v), S.1.1.2.1.1.2), S.1.1.2.1.2), S.1.1.2.2)), S.1.2), S.2)
def gLi_lines (S : ST) : Int32 := S.1.1.2.1.1.2
def sLi_lines (S : ST) (v : Int32) : ST := (((S.1.1.1, (((S.1.1.2.1.1.1, v), S.1.1.2.1.2), S.1.1.2.2)), S.1.2), S.2)
def gLi_town (S : ST) : Int32 := S.1.1.2.1.2.1.1
def sLi_town (S : ST) (v : Int32) : ST := (((S.1.1.1, ((S.1.1.2.1.1, ((v, S.1.1.2.1.2.1.2), S.1.1.2.1.2.2)), S.1.1.2.2)), S.1.2), S.2)
def gLi_good (S : ST) : Int32 := S.1.1.2.1.2.1.2
def sLi_good (S : ST) (v : Int32) : ST := (((S.1.1.1, ((S.1.1.2.1.1, ((S.1.1.2.1.2.1.1, v), S.1.1.2.1.2.2)), S.1.1.2.2)), S.1.2), S.2)
def gLi_anyRead (S : ST) : Int32 := S.1.1.2.1.2.2
def sLi_anyRead (S : ST) (v : Int32) : ST := (((S.1.1.1, ((S.1.1.2.1.1, (S.1.1.2.1.2.1, v)), S.1.1.2.2)), S.1.2), S.2)
def gLi_faultKind (S : ST) : Int32 := S.1.1.2.2.1.1.1
def sLi_faultKind (S : ST) (v : Int32) : ST := (((S.1.1.1, (S.1.1.2.1, (((v, S.1.1.2.2.1.1.2), S.1.1.2.2.1.2), S.1.1.2.2.2))), S.1.2), S.2)
def gLi_faultPlace (S : ST) : Int32 := S.1.1.2.2.1.1.2
def sLi_faultPlace (S : ST) (v : Int32) : ST := (((S.1.1.1, (S.1.1.2.1, (((S.1.1.2.2.1.1.1, v), S.1.1.2.2.1.2), S.1.1.2.2.2))), S.1.2), S.2)
def gCo_told (S : ST) : (Nat → Nat → Int32) := S.1.1.2.2.1.2
def sCo_told (S : ST) (v : (Nat → Nat → Int32)) : ST := (((S.1.1.1, (S.1.1.2.1, ((S.1.1.2.2.1.1, v), S.1.1.2.2.2))), S.1.2), S.2)
def gCo_readAs (S : ST) : (Nat → Int32) := S.1.1.2.2.2.1.1
def sCo_readAs (S : ST) (v : (Nat → Int32)) : ST := (((S.1.1.1, (S.1.1.2.1, (S.1.1.2.2.1, ((v, S.1.1.2.2.2.1.2), S.1.1.2.2.2.2)))), S.1.2), S.2)
def gCo_readings (S : ST) : Int32 := S.1.1.2.2.2.1.2
def sCo_readings (S : ST) (v : Int32) : ST := (((S.1.1.1, (S.1.1.2.1, (S.1.1.2.2.1, ((S.1.1.2.2.2.1.1, v), S.1.1.2.2.2.2)))), S.1.2), S.2)
def gAc_unpaid (S : ST) : (Nat → Int32) := S.1.1.2.2.2.2
def sAc_unpaid (S : ST) (v : (Nat → Int32)) : ST := (((S.1.1.1, (S.1.1.2.1, (S.1.1.2.2.1, (S.1.1.2.2.2.1, v)))), S.1.2), S.2)
def gAc_owing (S : ST) : (Nat → Int32) := S.1.2.1.1.1.1.1
def sAc_owing (S : ST) (v : (Nat → Int32)) : ST := ((S.1.1, (((((v, S.1.2.1.1.1.1.2), S.1.2.1.1.1.2), S.1.2.1.1.2), S.1.2.1.2), S.1.2.2)), S.2)
def gAc_gifts (S : ST) : (Nat → Int32) := S.1.2.1.1.1.1.2
def sAc_gifts (S : ST) (v : (Nat → Int32)) : ST := ((S.1.1, (((((S.1.2.1.1.1.1.1, v), S.1.2.1.1.1.2), S.1.2.1.1.2), S.1.2.1.2), S.1.2.2)), S.2)
def gAc_paidOff (S : ST) : (Nat → Int32) := S.1.2.1.1.1.2
def sAc_paidOff (S : ST) (v : (Nat → Int32)) : ST := ((S.1.1, ((((S.1.2.1.1.1.1, v), S.1.2.1.1.2), S.1.2.1.2), S.1.2.2)), S.2)
def gAc_lateOfPaid (S : ST) : (Nat → Int64) := S.1.2.1.1.2.1.1
def sAc_lateOfPaid (S : ST) (v : (Nat → Int64)) : ST := ((S.1.1, (((S.1.2.1.1.1, ((v, S.1.2.1.1.2.1.2), S.1.2.1.1.2.2)), S.1.2.1.2), S.1.2.2)), S.2)
def gSe_table (S : ST) : (Nat → Int32) := S.1.2.1.1.2.1.2
def sSe_table (S : ST) (v : (Nat → Int32)) : ST := ((S.1.1, (((S.1.2.1.1.1, ((S.1.2.1.1.2.1.1, v), S.1.2.1.1.2.2)), S.1.2.1.2), S.1.2.2)), S.2)
def gSe_storedOrder (S : ST) : (Nat → Int32) := S.1.2.1.1.2.2
def sSe_storedOrder (S : ST) (v : (Nat → Int32)) : ST := ((S.1.1, (((S.1.2.1.1.1, (S.1.2.1.1.2.1, v)), S.1.2.1.2), S.1.2.2)), S.2)
def gSe_storedCount (S : ST) : Int32 := S.1.2.1.2.1.1.1
def sSe_storedCount (S : ST) (v : Int32) : ST := ((S.1.1, ((S.1.2.1.1, (((v, S.1.2.1.2.1.1.2), S.1.2.1.2.1.2), S.1.2.1.2.2)), S.1.2.2)), S.2)
def gSe_storedPieces (S : ST) : Int32 := S.1.2.1.2.1.1.2
def sSe_storedPieces (S : ST) (v : Int32) : ST := ((S.1.1, ((S.1.2.1.1, (((S.1.2.1.2.1.1.1, v), S.1.2.1.2.1.2), S.1.2.1.2.2)), S.1.2.2)), S.2)
def gSe_count (S : ST) : Int32 := S.1.2.1.2.1.2
def sSe_count (S : ST) (v : Int32) : ST := ((S.1.1, ((S.1.2.1.1, ((S.1.2.1.2.1.1, v), S.1.2.1.2.2)), S.1.2.2)), S.2)
def gMa_fromGood (S : ST) : (Nat → Int32) := S.1.2.1.2.2.1.1
def sMa_fromGood (S : ST) (v : (Nat → Int32)) : ST := ((S.1.1, ((S.1.2.1.1, (S.1.2.1.2.1, ((v, S.1.2.1.2.2.1.2), S.1.2.1.2.2.2))), S.1.2.2)), S.2)
def gMa_given (S : ST) : (Nat → Int32) := S.1.2.1.2.2.1.2
def sMa_given (S : ST) (v : (Nat → Int32)) : ST := ((S.1.1, ((S.1.2.1.1, (S.1.2.1.2.1, ((S.1.2.1.2.2.1.1, v), S.1.2.1.2.2.2))), S.1.2.2)), S.2)
def gMa_toGood (S : ST) : (Nat → Int32) := S.1.2.1.2.2.2
def sMa_toGood (S : ST) (v : (Nat → Int32)) : ST := ((S.1.1, ((S.1.2.1.1, (S.1.2.1.2.1, (S.1.2.1.2.2.1, v))), S.1.2.2)), S.2)
def gMa_gained (S : ST) : (Nat → Int32) := S.1.2.2.1.1.1.1
def sMa_gained (S : ST) (v : (Nat → Int32)) : ST := ((S.1.1, (S.1.2.1, ((((v, S.1.2.2.1.1.1.2), S.1.2.2.1.1.2), S.1.2.2.1.2), S.1.2.2.2))), S.2)
def gMa_count (S : ST) : Int32 := S.1.2.2.1.1.1.2
def sMa_count (S : ST) (v : Int32) : ST := ((S.1.1, (S.1.2.1, ((((S.1.2.2.1.1.1.1, v), S.1.2.2.1.1.2), S.1.2.2.1.2), S.1.2.2.2))), S.2)
def gMa_visited (S : ST) : (Nat → Int32) := S.1.2.2.1.1.2
def sMa_visited (S : ST) (v : (Nat → Int32)) : ST := ((S.1.1, (S.1.2.1, (((S.1.2.2.1.1.1, v), S.1.2.2.1.2), S.1.2.2.2))), S.2)
def gMa_trail (S : ST) : (Nat → Int32) := S.1.2.2.1.2.1.1
def sMa_trail (S : ST) (v : (Nat → Int32)) : ST := ((S.1.1, (S.1.2.1, ((S.1.2.2.1.1, ((v, S.1.2.2.1.2.1.2), S.1.2.2.1.2.2)), S.1.2.2.2))), S.2)
def gMa_found (S : ST) : (Nat → Int32) := S.1.2.2.1.2.1.2
def sMa_found (S : ST) (v : (Nat → Int32)) : ST := ((S.1.1, (S.1.2.1, ((S.1.2.2.1.1, ((S.1.2.2.1.2.1.1, v), S.1.2.2.1.2.2)), S.1.2.2.2))), S.2)
def gMa_foundLength (S : ST) : Int32 := S.1.2.2.1.2.2
def sMa_foundLength (S : ST) (v : Int32) : ST := ((S.1.1, (S.1.2.1, ((S.1.2.2.1.1, (S.1.2.2.1.2.1, v)), S.1.2.2.2))), S.2)
def gMa_foundAmount (S : ST) : Int64 := S.1.2.2.2.1.1.1
def sMa_foundAmount (S : ST) (v : Int64) : ST := ((S.1.1, (S.1.2.1, (S.1.2.2.1, (((v, S.1.2.2.2.1.1.2), S.1.2.2.2.1.2), S.1.2.2.2.2)))), S.2)
def gMa_goal (S : ST) : Int32 := S.1.2.2.2.1.1.2
def sMa_goal (S : ST) (v : Int32) : ST := ((S.1.1, (S.1.2.1, (S.1.2.2.1, (((S.1.2.2.2.1.1.1, v), S.1.2.2.2.1.2), S.1.2.2.2.2)))), S.2)
def gMa_best (S : ST) : (Nat → Int32) := S.1.2.2.2.1.2
def sMa_best (S : ST) (v : (Nat → Int32)) : ST := ((S.1.1, (S.1.2.1, (S.1.2.2.1, ((S.1.2.2.2.1.1, v), S.1.2.2.2.2)))), S.2)
def gMa_bestLength (S : ST) : Int32 := S.1.2.2.2.2.1.1
def sMa_bestLength (S : ST) (v : Int32) : ST := ((S.1.1, (S.1.2.1, (S.1.2.2.1, (S.1.2.2.2.1, ((v, S.1.2.2.2.2.1.2), S.1.2.2.2.2.2))))), S.2)
def gSh_yieldOf (S : ST) : (Nat → Int32) := S.1.2.2.2.2.1.2
def sSh_yieldOf (S : ST) (v : (Nat → Int32)) : ST := ((S.1.1, (S.1.2.1, (S.1.2.2.1, (S.1.2.2.2.1, ((S.1.2.2.2.2.1.1, v), S.1.2.2.2.2.2))))), S.2)
def gMM_clock (S : ST) : Int32 := S.1.2.2.2.2.2
def sMM_clock (S : ST) (v : Int32) : ST := ((S.1.1, (S.1.2.1, (S.1.2.2.1, (S.1.2.2.2.1, (S.1.2.2.2.2.1, v))))), S.2)
def gMM_quarters (S : ST) : Int32 := S.2.1.1.1.1.1.1
def sMM_quarters (S : ST) (v : Int32) : ST := (S.1, ((((((v, S.2.1.1.1.1.1.2), S.2.1.1.1.1.2), S.2.1.1.1.2), S.2.1.1.2), S.2.1.2), S.2.2))
def gMM_roads (S : ST) : (Nat → Int32) := S.2.1.1.1.1.1.2
def sMM_roads (S : ST) (v : (Nat → Int32)) : ST := (S.1, ((((((S.2.1.1.1.1.1.1, v), S.2.1.1.1.1.2), S.2.1.1.1.2), S.2.1.1.2), S.2.1.2), S.2.2))
def gMM_ways (S : ST) : (Nat → Int32) := S.2.1.1.1.1.2.1
def sMM_ways (S : ST) (v : (Nat → Int32)) : ST := (S.1, (((((S.2.1.1.1.1.1, (v, S.2.1.1.1.1.2.2)), S.2.1.1.1.2), S.2.1.1.2), S.2.1.2), S.2.2))
def gMM_weight (S : ST) : (Nat → Int32) := S.2.1.1.1.1.2.2
def sMM_weight (S : ST) (v : (Nat → Int32)) : ST := (S.1, (((((S.2.1.1.1.1.1, (S.2.1.1.1.1.2.1, v)), S.2.1.1.1.2), S.2.1.1.2), S.2.1.2), S.2.2))
def gMM_load (S : ST) : Int32 := S.2.1.1.1.2.1.1
def sMM_load (S : ST) (v : Int32) : ST := (S.1, ((((S.2.1.1.1.1, ((v, S.2.1.1.1.2.1.2), S.2.1.1.1.2.2)), S.2.1.1.2), S.2.1.2), S.2.2))
def gMM_told (S : ST) : (Nat → Int32) := S.2.1.1.1.2.1.2
def sMM_told (S : ST) (v : (Nat → Int32)) : ST := (S.1, ((((S.2.1.1.1.1, ((S.2.1.1.1.2.1.1, v), S.2.1.1.1.2.2)), S.2.1.1.2), S.2.1.2), S.2.2))
def gMM_readAt (S : ST) : (Nat → Int32) := S.2.1.1.1.2.2
def sMM_readAt (S : ST) (v : (Nat → Int32)) : ST := (S.1, ((((S.2.1.1.1.1, (S.2.1.1.1.2.1, v)), S.2.1.1.2), S.2.1.2), S.2.2))
def gMM_reads (S : ST) : Int32 := S.2.1.1.2.1.1.1
def sMM_reads (S : ST) (v : Int32) : ST := (S.1, (((S.2.1.1.1, (((v, S.2.1.1.2.1.1.2), S.2.1.1.2.1.2), S.2.1.1.2.2)), S.2.1.2), S.2.2))
def gMM_debt (S : ST) : (Nat → Int32) := S.2.1.1.2.1.1.2
def sMM_debt (S : ST) (v : (Nat → Int32)) : ST := (S.1, (((S.2.1.1.1, (((S.2.1.1.2.1.1.1, v), S.2.1.1.2.1.2), S.2.1.1.2.2)), S.2.1.2), S.2.2))
def gMM_gift (S : ST) : (Nat → Int32) := S.2.1.1.2.1.2
def sMM_gift (S : ST) (v : (Nat → Int32)) : ST := (S.1, (((S.2.1.1.1, ((S.2.1.1.2.1.1, v), S.2.1.1.2.2)), S.2.1.2), S.2.2))
def gMM_paid (S : ST) : (Nat → Int32) := S.2.1.1.2.2.1.1
def sMM_paid (S : ST) (v : (Nat → Int32)) : ST := (S.1, (((S.2.1.1.1, (S.2.1.1.2.1, ((v, S.2.1.1.2.2.1.2), S.2.1.1.2.2.2))), S.2.1.2), S.2.2))
def gMM_late (S : ST) : (Nat → Int64) := S.2.1.1.2.2.1.2
def sMM_late (S : ST) (v : (Nat → Int64)) : ST := (S.1, (((S.2.1.1.1, (S.2.1.1.2.1, ((S.2.1.1.2.2.1.1, v), S.2.1.1.2.2.2))), S.2.1.2), S.2.2))
def gMM_sendings (S : ST) : Int32 := S.2.1.1.2.2.2
def sMM_sendings (S : ST) (v : Int32) : ST := (S.1, (((S.2.1.1.1, (S.2.1.1.2.1, (S.2.1.1.2.2.1, v))), S.2.1.2), S.2.2))
def gMM_town (S : ST) : (Nat → Int32) := S.2.1.2.1.1.1.1
def sMM_town (S : ST) (v : (Nat → Int32)) : ST := (S.1, ((S.2.1.1, ((((v, S.2.1.2.1.1.1.2), S.2.1.2.1.1.2), S.2.1.2.1.2), S.2.1.2.2)), S.2.2))
def gMM_good (S : ST) : (Nat → Int32) := S.2.1.2.1.1.1.2
def sMM_good (S : ST) (v : (Nat → Int32)) : ST := (S.1, ((S.2.1.1, ((((S.2.1.2.1.1.1.1, v), S.2.1.2.1.1.2), S.2.1.2.1.2), S.2.1.2.2)), S.2.2))
def gMM_pieces (S : ST) : (Nat → Int32) := S.2.1.2.1.1.2
def sMM_pieces (S : ST) (v : (Nat → Int32)) : ST := (S.1, ((S.2.1.1, (((S.2.1.2.1.1.1, v), S.2.1.2.1.2), S.2.1.2.2)), S.2.2))
def gMM_bearers (S : ST) : (Nat → Int32) := S.2.1.2.1.2.1.1
def sMM_bearers (S : ST) (v : (Nat → Int32)) : ST := (S.1, ((S.2.1.1, ((S.2.1.2.1.1, ((v, S.2.1.2.1.2.1.2), S.2.1.2.1.2.2)), S.2.1.2.2)), S.2.2))
def gMM_left (S : ST) : (Nat → Int32) := S.2.1.2.1.2.1.2
def sMM_left (S : ST) (v : (Nat → Int32)) : ST := (S.1, ((S.2.1.1, ((S.2.1.2.1.1, ((S.2.1.2.1.2.1.1, v), S.2.1.2.1.2.2)), S.2.1.2.2)), S.2.2))
def gMM_comes (S : ST) : (Nat → Int32) := S.2.1.2.1.2.2
def sMM_comes (S : ST) (v : (Nat → Int32)) : ST := (S.1, ((S.2.1.1, ((S.2.1.2.1.1, (S.2.1.2.1.2.1, v)), S.2.1.2.2)), S.2.2))
def gMM_isStored (S : ST) : (Nat → Int32) := S.2.1.2.2.1.1.1
def sMM_isStored (S : ST) (v : (Nat → Int32)) : ST := (S.1, ((S.2.1.1, (S.2.1.2.1, (((v, S.2.1.2.2.1.1.2), S.2.1.2.2.1.2), S.2.1.2.2.2))), S.2.2))
def gMM_used (S : ST) : (Nat → Int32) := S.2.1.2.2.1.1.2
def sMM_used (S : ST) (v : (Nat → Int32)) : ST := (S.1, ((S.2.1.1, (S.2.1.2.1, (((S.2.1.2.2.1.1.1, v), S.2.1.2.2.1.2), S.2.1.2.2.2))), S.2.2))
def gMM_stored (S : ST) : Int32 := S.2.1.2.2.1.2
def sMM_stored (S : ST) (v : Int32) : ST := (S.1, ((S.2.1.1, (S.2.1.2.1, ((S.2.1.2.2.1.1, v), S.2.1.2.2.2))), S.2.2))
def gMM_storedOrder (S : ST) : (Nat → Int32) := S.2.1.2.2.2.1.1
def sMM_storedOrder (S : ST) (v : (Nat → Int32)) : ST := (S.1, ((S.2.1.1, (S.2.1.2.1, (S.2.1.2.2.1, ((v, S.2.1.2.2.2.1.2), S.2.1.2.2.2.2)))), S.2.2))
def gMM_storedMany (S : ST) : Int32 := S.2.1.2.2.2.1.2
def sMM_storedMany (S : ST) (v : Int32) : ST := (S.1, ((S.2.1.1, (S.2.1.2.1, (S.2.1.2.2.1, ((S.2.1.2.2.2.1.1, v), S.2.1.2.2.2.2)))), S.2.2))
def gMM_tape (S : ST) : (Nat → Int32) := S.2.1.2.2.2.2
def sMM_tape (S : ST) (v : (Nat → Int32)) : ST := (S.1, ((S.2.1.1, (S.2.1.2.1, (S.2.1.2.2.1, (S.2.1.2.2.2.1, v)))), S.2.2))
def gMM_taped (S : ST) : Int32 := S.2.2.1.1.1.1.1
def sMM_taped (S : ST) (v : Int32) : ST := (S.1, (S.2.1, (((((v, S.2.2.1.1.1.1.2), S.2.2.1.1.1.2), S.2.2.1.1.2), S.2.2.1.2), S.2.2.2)))
def gMM_fault (S : ST) : Int32 := S.2.2.1.1.1.1.2
def sMM_fault (S : ST) (v : Int32) : ST := (S.1, (S.2.1, (((((S.2.2.1.1.1.1.1, v), S.2.2.1.1.1.2), S.2.2.1.1.2), S.2.2.1.2), S.2.2.2)))
def gMM_faultPlace (S : ST) : Int32 := S.2.2.1.1.1.2
def sMM_faultPlace (S : ST) (v : Int32) : ST := (S.1, (S.2.1, ((((S.2.2.1.1.1.1, v), S.2.2.1.1.2), S.2.2.1.2), S.2.2.2)))
def gMM_at (S : ST) : Int32 := S.2.2.1.1.2.1.1
def sMM_at (S : ST) (v : Int32) : ST := (S.1, (S.2.1, (((S.2.2.1.1.1, ((v, S.2.2.1.1.2.1.2), S.2.2.1.1.2.2)), S.2.2.1.2), S.2.2.2)))
def gMM_place (S : ST) : Int32 := S.2.2.1.1.2.1.2
def sMM_place (S : ST) (v : Int32) : ST := (S.1, (S.2.1, (((S.2.2.1.1.1, ((S.2.2.1.1.2.1.1, v), S.2.2.1.1.2.2)), S.2.2.1.2), S.2.2.2)))
def gMM_token (S : ST) : Int32 := S.2.2.1.1.2.2
def sMM_token (S : ST) (v : Int32) : ST := (S.1, (S.2.1, (((S.2.2.1.1.1, (S.2.2.1.1.2.1, v)), S.2.2.1.2), S.2.2.2)))
def gMM_number (S : ST) : Int32 := S.2.2.1.2.1.1.1
def sMM_number (S : ST) (v : Int32) : ST := (S.1, (S.2.1, ((S.2.2.1.1, (((v, S.2.2.1.2.1.1.2), S.2.2.1.2.1.2), S.2.2.1.2.2)), S.2.2.2)))
def gMM_lines (S : ST) : Int32 := S.2.2.1.2.1.1.2
def sMM_lines (S : ST) (v : Int32) : ST := (S.1, (S.2.1, ((S.2.2.1.1, (((S.2.2.1.2.1.1.1, v), S.2.2.1.2.1.2), S.2.2.1.2.2)), S.2.2.2)))
def gMM_towns (S : ST) : Int32 := S.2.2.1.2.1.2
def sMM_towns (S : ST) (v : Int32) : ST := (S.1, (S.2.1, ((S.2.2.1.1, ((S.2.2.1.2.1.1, v), S.2.2.1.2.2)), S.2.2.2)))
def gMM_goods (S : ST) : Int32 := S.2.2.1.2.2.1.1
def sMM_goods (S : ST) (v : Int32) : ST := (S.1, (S.2.1, ((S.2.2.1.1, (S.2.2.1.2.1, ((v, S.2.2.1.2.2.1.2), S.2.2.1.2.2.2))), S.2.2.2)))
def gMM_markets (S : ST) : Int32 := S.2.2.1.2.2.1.2
def sMM_markets (S : ST) (v : Int32) : ST := (S.1, (S.2.1, ((S.2.2.1.1, (S.2.2.1.2.1, ((S.2.2.1.2.2.1.1, v), S.2.2.1.2.2.2))), S.2.2.2)))
def gMM_from (S : ST) : (Nat → Int32) := S.2.2.1.2.2.2
def sMM_from (S : ST) (v : (Nat → Int32)) : ST := (S.1, (S.2.1, ((S.2.2.1.1, (S.2.2.1.2.1, (S.2.2.1.2.2.1, v))), S.2.2.2)))
def gMM_gives (S : ST) : (Nat → Int32) := S.2.2.2.1.1.1.1
def sMM_gives (S : ST) (v : (Nat → Int32)) : ST := (S.1, (S.2.1, (S.2.2.1, ((((v, S.2.2.2.1.1.1.2), S.2.2.2.1.1.2), S.2.2.2.1.2), S.2.2.2.2))))
def gMM_to (S : ST) : (Nat → Int32) := S.2.2.2.1.1.1.2
def sMM_to (S : ST) (v : (Nat → Int32)) : ST := (S.1, (S.2.1, (S.2.2.1, ((((S.2.2.2.1.1.1.1, v), S.2.2.2.1.1.2), S.2.2.2.1.2), S.2.2.2.2))))
def gMM_gets (S : ST) : (Nat → Int32) := S.2.2.2.1.1.2
def sMM_gets (S : ST) (v : (Nat → Int32)) : ST := (S.1, (S.2.1, (S.2.2.1, (((S.2.2.2.1.1.1, v), S.2.2.2.1.2), S.2.2.2.2))))
def gMM_open (S : ST) : (Nat → Int32) := S.2.2.2.1.2.1.1
def sMM_open (S : ST) (v : (Nat → Int32)) : ST := (S.1, (S.2.1, (S.2.2.1, ((S.2.2.2.1.1, ((v, S.2.2.2.1.2.1.2), S.2.2.2.1.2.2)), S.2.2.2.2))))
def gMM_much (S : ST) : (Nat → Int64) := S.2.2.2.1.2.1.2
def sMM_much (S : ST) (v : (Nat → Int64)) : ST := (S.1, (S.2.1, (S.2.2.1, ((S.2.2.2.1.1, ((S.2.2.2.1.2.1.1, v), S.2.2.2.1.2.2)), S.2.2.2.2))))
def gMM_bestRow (S : ST) : (Nat → Int32) := S.2.2.2.1.2.2
def sMM_bestRow (S : ST) (v : (Nat → Int32)) : ST := (S.1, (S.2.1, (S.2.2.1, ((S.2.2.2.1.1, (S.2.2.2.1.2.1, v)), S.2.2.2.2))))
def gMM_bestLong (S : ST) : Int32 := S.2.2.2.2.1.1.1
def sMM_bestLong (S : ST) (v : Int32) : ST := (S.1, (S.2.1, (S.2.2.1, (S.2.2.2.1, (((v, S.2.2.2.2.1.1.2), S.2.2.2.2.1.2), S.2.2.2.2.2)))))
def gMM_rowLong (S : ST) : Int32 := S.2.2.2.2.1.1.2
def sMM_rowLong (S : ST) (v : Int32) : ST := (S.1, (S.2.1, (S.2.2.1, (S.2.2.2.1, (((S.2.2.2.2.1.1.1, v), S.2.2.2.2.1.2), S.2.2.2.2.2)))))
def gMM_row (S : ST) : (Nat → Int32) := S.2.2.2.2.1.2
def sMM_row (S : ST) (v : (Nat → Int32)) : ST := (S.1, (S.2.1, (S.2.2.1, (S.2.2.2.1, ((S.2.2.2.2.1.1, v), S.2.2.2.2.2)))))
def gMM_best (S : ST) : Int64 := S.2.2.2.2.2.1.1
def sMM_best (S : ST) (v : Int64) : ST := (S.1, (S.2.1, (S.2.2.1, (S.2.2.2.1, (S.2.2.2.2.1, ((v, S.2.2.2.2.2.1.2), S.2.2.2.2.2.2))))))
def gMM_yield2 (S : ST) : (Nat → Int32) := S.2.2.2.2.2.1.2
def sMM_yield2 (S : ST) (v : (Nat → Int32)) : ST := (S.1, (S.2.1, (S.2.2.1, (S.2.2.2.1, (S.2.2.2.2.1, ((S.2.2.2.2.2.1.1, v), S.2.2.2.2.2.2))))))
def gMM_hasMore (S : ST) : (Nat → Int32) := S.2.2.2.2.2.2
def sMM_hasMore (S : ST) (v : (Nat → Int32)) : ST := (S.1, (S.2.1, (S.2.2.1, (S.2.2.2.1, (S.2.2.2.2.1, (S.2.2.2.2.2.1, v))))))
def RcAc : String := "TributeLists$Accounts"
def FcAc : u_T := fun k => match k with
  | 0 => ("TributeLists$Accounts", "unpaid", "[I", true)
  | 1 => ("TributeLists$Accounts", "owing", "[I", true)
  | 2 => ("TributeLists$Accounts", "gifts", "[I", true)
  | 3 => ("TributeLists$Accounts", "paidOff", "[I", true)
  | _ => ("TributeLists$Accounts", "lateOfPaid", "[J", true)
def tcAc : Nat → FieldType := fun k => match k with
  | 0 => .array .int
  | 1 => .array .int
  | 2 => .array .int
  | 3 => .array .int
  | _ => .array .long
theorem nmAc : ∀ a, a < 5 → ∀ b, b < 5 → a ≠ b → (FcAc a).2.1 ≠ (FcAc b).2.1 := by decide +kernel
theorem tyAc : ∀ k, k < 5 → parseFieldDescriptor (FcAc k).2.2.1 = some (tcAc k) := by decide +kernel
def RcCo : String := "TributeLists$Copies"
def FcCo : u_T := fun k => match k with
  | 0 => ("TributeLists$Copies", "told", "[[I", true)
  | 1 => ("TributeLists$Copies", "readAs", "[I", true)
  | _ => ("TributeLists$Copies", "readings", "I", false)
def tcCo : Nat → FieldType := fun k => match k with
  | 0 => .array (.array .int)
  | 1 => .array .int
  | _ => .int
theorem nmCo : ∀ a, a < 3 → ∀ b, b < 3 → a ≠ b → (FcCo a).2.1 ≠ (FcCo b).2.1 := by decide +kernel
theorem tyCo : ∀ k, k < 3 → parseFieldDescriptor (FcCo k).2.2.1 = some (tcCo k) := by decide +kernel
def RcLi : String := "TributeLists$ListReader"
def FcLi : u_T := fun k => match k with
  | 0 => ("TributeLists$ListReader", "row", "[I", true)
  | 1 => ("TributeLists$ListReader", "townSeen", "[I", true)
  | 2 => ("TributeLists$ListReader", "cursor", "I", false)
  | 3 => ("TributeLists$ListReader", "tokenStart", "I", false)
  | 4 => ("TributeLists$ListReader", "tokenKind", "I", false)
  | 5 => ("TributeLists$ListReader", "number", "I", false)
  | 6 => ("TributeLists$ListReader", "expected", "I", false)
  | 7 => ("TributeLists$ListReader", "lines", "I", false)
  | 8 => ("TributeLists$ListReader", "town", "I", false)
  | 9 => ("TributeLists$ListReader", "good", "I", false)
  | 10 => ("TributeLists$ListReader", "anyRead", "Z", false)
  | 11 => ("TributeLists$ListReader", "faultKind", "I", false)
  | _ => ("TributeLists$ListReader", "faultPlace", "I", false)
def tcLi : Nat → FieldType := fun k => match k with
  | 0 => .array .int
  | 1 => .array .int
  | 2 => .int
  | 3 => .int
  | 4 => .int
  | 5 => .int
  | 6 => .int
  | 7 => .int
  | 8 => .int
  | 9 => .int
  | 10 => .boolean
  | 11 => .int
  | _ => .int
theorem nmLi : ∀ a, a < 13 → ∀ b, b < 13 → a ≠ b → (FcLi a).2.1 ≠ (FcLi b).2.1 := by decide +kernel
theorem tyLi : ∀ k, k < 13 → parseFieldDescriptor (FcLi k).2.2.1 = some (tcLi k) := by decide +kernel
def RcMa : String := "TributeLists$Markets"
def FcMa : u_T := fun k => match k with
  | 0 => ("TributeLists$Markets", "fromGood", "[I", true)
  | 1 => ("TributeLists$Markets", "given", "[I", true)
  | 2 => ("TributeLists$Markets", "toGood", "[I", true)
  | 3 => ("TributeLists$Markets", "gained", "[I", true)
  | 4 => ("TributeLists$Markets", "count", "I", false)
  | 5 => ("TributeLists$Markets", "visited", "[I", true)
  | 6 => ("TributeLists$Markets", "trail", "[I", true)
  | 7 => ("TributeLists$Markets", "found", "[I", true)
  | 8 => ("TributeLists$Markets", "foundLength", "I", false)
  | 9 => ("TributeLists$Markets", "foundAmount", "J", false)
  | 10 => ("TributeLists$Markets", "goal", "I", false)
  | 11 => ("TributeLists$Markets", "best", "[I", true)
  | _ => ("TributeLists$Markets", "bestLength", "I", false)
def tcMa : Nat → FieldType := fun k => match k with
  | 0 => .array .int
  | 1 => .array .int
  | 2 => .array .int
  | 3 => .array .int
  | 4 => .int
  | 5 => .array .int
  | 6 => .array .int
  | 7 => .array .int
  | 8 => .int
  | 9 => .long
  | 10 => .int
  | 11 => .array .int
  | _ => .int
theorem nmMa : ∀ a, a < 13 → ∀ b, b < 13 → a ≠ b → (FcMa a).2.1 ≠ (FcMa b).2.1 := by decide +kernel
theorem tyMa : ∀ k, k < 13 → parseFieldDescriptor (FcMa k).2.2.1 = some (tcMa k) := by decide +kernel
def RcPo : String := "TributeLists$Porters"
def FcPo : u_T := fun k => match k with
  | 0 => ("TributeLists$Porters", "weights", "[I", true)
  | _ => ("TributeLists$Porters", "load", "I", false)
def tcPo : Nat → FieldType := fun k => match k with
  | 0 => .array .int
  | _ => .int
theorem nmPo : ∀ a, a < 2 → ∀ b, b < 2 → a ≠ b → (FcPo a).2.1 ≠ (FcPo b).2.1 := by decide +kernel
theorem tyPo : ∀ k, k < 2 → parseFieldDescriptor (FcPo k).2.2.1 = some (tcPo k) := by decide +kernel
def RcRo : String := "TributeLists$Roads"
def FcRo : u_T := fun k => match k with
  | 0 => ("TributeLists$Roads", "length", "[I", true)
  | 1 => ("TributeLists$Roads", "reach", "[I", true)
  | _ => ("TributeLists$Roads", "settled", "[I", true)
def tcRo : Nat → FieldType := fun k => match k with
  | 0 => .array .int
  | 1 => .array .int
  | _ => .array .int
theorem nmRo : ∀ a, a < 3 → ∀ b, b < 3 → a ≠ b → (FcRo a).2.1 ≠ (FcRo b).2.1 := by decide +kernel
theorem tyRo : ∀ k, k < 3 → parseFieldDescriptor (FcRo k).2.2.1 = some (tcRo k) := by decide +kernel
def RcSe : String := "TributeLists$Sendings"
def FcSe : u_T := fun k => match k with
  | 0 => ("TributeLists$Sendings", "table", "[I", true)
  | 1 => ("TributeLists$Sendings", "storedOrder", "[I", true)
  | 2 => ("TributeLists$Sendings", "storedCount", "I", false)
  | 3 => ("TributeLists$Sendings", "storedPieces", "I", false)
  | _ => ("TributeLists$Sendings", "count", "I", false)
def tcSe : Nat → FieldType := fun k => match k with
  | 0 => .array .int
  | 1 => .array .int
  | 2 => .int
  | 3 => .int
  | _ => .int
theorem nmSe : ∀ a, a < 5 → ∀ b, b < 5 → a ≠ b → (FcSe a).2.1 ≠ (FcSe b).2.1 := by decide +kernel
theorem tySe : ∀ k, k < 5 → parseFieldDescriptor (FcSe k).2.2.1 = some (tcSe k) := by decide +kernel
def RcSh : String := "TributeLists$Shares"
def FcSh : u_T := fun k => match k with
  | _ => ("TributeLists$Shares", "yieldOf", "[I", true)
def tcSh : Nat → FieldType := fun k => match k with
  | _ => .array .int
theorem nmSh : ∀ a, a < 1 → ∀ b, b < 1 → a ≠ b → (FcSh a).2.1 ≠ (FcSh b).2.1 := by decide +kernel
theorem tySh : ∀ k, k < 1 → parseFieldDescriptor (FcSh k).2.2.1 = some (tcSh k) := by decide +kernel
def RcTa : String := "TributeLists$Tape"
def FcTa : u_T := fun k => match k with
  | 0 => ("TributeLists$Tape", "bytes", "[B", true)
  | _ => ("TributeLists$Tape", "size", "I", false)
def tcTa : Nat → FieldType := fun k => match k with
  | 0 => .array .byte
  | _ => .int
theorem nmTa : ∀ a, a < 2 → ∀ b, b < 2 → a ≠ b → (FcTa a).2.1 ≠ (FcTa b).2.1 := by decide +kernel
theorem tyTa : ∀ k, k < 2 → parseFieldDescriptor (FcTa k).2.2.1 = some (tcTa k) := by decide +kernel
def RcTL : String := "TributeLists"
def FcTL : u_T := fun k => match k with
  | 0 => ("TributeLists", "roads", "LTributeLists$Roads;", true)
  | 1 => ("TributeLists", "porters", "LTributeLists$Porters;", true)
  | 2 => ("TributeLists", "tape", "LTributeLists$Tape;", true)
  | 3 => ("TributeLists", "reader", "LTributeLists$ListReader;", true)
  | 4 => ("TributeLists", "copies", "LTributeLists$Copies;", true)
  | 5 => ("TributeLists", "accounts", "LTributeLists$Accounts;", true)
  | 6 => ("TributeLists", "sendings", "LTributeLists$Sendings;", true)
  | 7 => ("TributeLists", "markets", "LTributeLists$Markets;", true)
  | 8 => ("TributeLists", "shares", "LTributeLists$Shares;", true)
  | _ => ("TributeLists", "clock", "I", false)
def tcTL : Nat → FieldType := fun k => match k with
  | 0 => .object "TributeLists$Roads"
  | 1 => .object "TributeLists$Porters"
  | 2 => .object "TributeLists$Tape"
  | 3 => .object "TributeLists$ListReader"
  | 4 => .object "TributeLists$Copies"
  | 5 => .object "TributeLists$Accounts"
  | 6 => .object "TributeLists$Sendings"
  | 7 => .object "TributeLists$Markets"
  | 8 => .object "TributeLists$Shares"
  | _ => .int
theorem nmTL : ∀ a, a < 10 → ∀ b, b < 10 → a ≠ b → (FcTL a).2.1 ≠ (FcTL b).2.1 := by decide +kernel
theorem tyTL : ∀ k, k < 10 → parseFieldDescriptor (FcTL k).2.2.1 = some (tcTL k) := by decide +kernel
def RcMM : String := "TributeListsModel"
def FcMM : u_T := fun k => match k with
  | 0 => ("TributeListsModel", "clock", "I", false)
  | 1 => ("TributeListsModel", "quarters", "I", false)
  | 2 => ("TributeListsModel", "roads", "[I", true)
  | 3 => ("TributeListsModel", "ways", "[I", true)
  | 4 => ("TributeListsModel", "weight", "[I", true)
  | 5 => ("TributeListsModel", "load", "I", false)
  | 6 => ("TributeListsModel", "told", "[I", true)
  | 7 => ("TributeListsModel", "readAt", "[I", true)
  | 8 => ("TributeListsModel", "reads", "I", false)
  | 9 => ("TributeListsModel", "debt", "[I", true)
  | 10 => ("TributeListsModel", "gift", "[I", true)
  | 11 => ("TributeListsModel", "paid", "[I", true)
  | 12 => ("TributeListsModel", "late", "[J", true)
  | 13 => ("TributeListsModel", "sendings", "I", false)
  | 14 => ("TributeListsModel", "town", "[I", true)
  | 15 => ("TributeListsModel", "good", "[I", true)
  | 16 => ("TributeListsModel", "pieces", "[I", true)
  | 17 => ("TributeListsModel", "bearers", "[I", true)
  | 18 => ("TributeListsModel", "left", "[I", true)
  | 19 => ("TributeListsModel", "comes", "[I", true)
  | 20 => ("TributeListsModel", "isStored", "[Z", true)
  | 21 => ("TributeListsModel", "used", "[I", true)
  | 22 => ("TributeListsModel", "stored", "I", false)
  | 23 => ("TributeListsModel", "storedOrder", "[I", true)
  | 24 => ("TributeListsModel", "storedMany", "I", false)
  | 25 => ("TributeListsModel", "tape", "[I", true)
  | 26 => ("TributeListsModel", "taped", "I", false)
  | 27 => ("TributeListsModel", "fault", "I", false)
  | 28 => ("TributeListsModel", "faultPlace", "I", false)
  | 29 => ("TributeListsModel", "at", "I", false)
  | 30 => ("TributeListsModel", "place", "I", false)
  | 31 => ("TributeListsModel", "token", "I", false)
  | 32 => ("TributeListsModel", "number", "I", false)
  | 33 => ("TributeListsModel", "lines", "I", false)
  | 34 => ("TributeListsModel", "towns", "I", false)
  | 35 => ("TributeListsModel", "goods", "I", false)
  | 36 => ("TributeListsModel", "markets", "I", false)
  | 37 => ("TributeListsModel", "from", "[I", true)
  | 38 => ("TributeListsModel", "gives", "[I", true)
  | 39 => ("TributeListsModel", "to", "[I", true)
  | 40 => ("TributeListsModel", "gets", "[I", true)
  | 41 => ("TributeListsModel", "open", "[I", true)
  | 42 => ("TributeListsModel", "much", "[J", true)
  | 43 => ("TributeListsModel", "bestRow", "[I", true)
  | 44 => ("TributeListsModel", "bestLong", "I", false)
  | 45 => ("TributeListsModel", "rowLong", "I", false)
  | 46 => ("TributeListsModel", "row", "[I", true)
  | 47 => ("TributeListsModel", "best", "J", false)
  | 48 => ("TributeListsModel", "yield2", "[I", true)
  | _ => ("TributeListsModel", "hasMore", "[Z", true)
def tcMM : Nat → FieldType := fun k => match k with
  | 0 => .int
  | 1 => .int
  | 2 => .array .int
  | 3 => .array .int
  | 4 => .array .int
  | 5 => .int
  | 6 => .array .int
  | 7 => .array .int
  | 8 => .int
  | 9 => .array .int
  | 10 => .array .int
  | 11 => .array .int
  | 12 => .array .long
  | 13 => .int
  | 14 => .array .int
  | 15 => .array .int
  | 16 => .array .int
  | 17 => .array .int
  | 18 => .array .int
  | 19 => .array .int
  | 20 => .array .boolean
  | 21 => .array .int
  | 22 => .int
  | 23 => .array .int
  | 24 => .int
  | 25 => .array .int
  | 26 => .int
  | 27 => .int
  | 28 => .int
  | 29 => .int
  | 30 => .int
  | 31 => .int
  | 32 => .int
  | 33 => .int
  | 34 => .int
  | 35 => .int
  | 36 => .int
  | 37 => .array .int
  | 38 => .array .int
  | 39 => .array .int
  | 40 => .array .int
  | 41 => .array .int
  | 42 => .array .long
  | 43 => .array .int
  | 44 => .int
  | 45 => .int
  | 46 => .array .int
  | 47 => .long
  | 48 => .array .int
  | _ => .array .boolean
theorem nmMM : ∀ a, a < 50 → ∀ b, b < 50 → a ≠ b → (FcMM a).2.1 ≠ (FcMM b).2.1 := by decide +kernel
theorem tyMM : ∀ k, k < 50 → parseFieldDescriptor (FcMM k).2.2.1 = some (tcMM k) := by decide +kernel
abbrev cls : List vw_C := [(RcAc, FcAc, 5), (RcCo, FcCo, 3), (RcLi, FcLi, 13), (RcMa, FcMa, 13), (RcPo, FcPo, 2), (RcRo, FcRo, 3), (RcSe, FcSe, 5), (RcSh, FcSh, 1), (RcTa, FcTa, 2), (RcTL, FcTL, 10), (RcMM, FcMM, 50)]
abbrev tys (G : GG) : List (ClassId × FieldType) := [(cy G 0, .int), (cy G 1, .byte), (cy G 2, .long), (cy G 3, .boolean), (cy G 4, .array .int)]
def rwCo_told (G : GG) : Nat → Option Nat := fun i => if i < 5 then some (ad G (18 + i)) else none
def wld (G : GG) (S : ST) : va_W := [
  (ad G 0, .inr (9, [.ref (ad G 1), .ref (ad G 2), .ref (ad G 3), .ref (ad G 4), .ref (ad G 5), .ref (ad G 6), .ref (ad G 7), .ref (ad G 8), .ref (ad G 9), .int (gTL_clock S)])),
  (ad G 1, .inr (5, [.ref (ad G 10), .ref (ad G 11), .ref (ad G 12)])),
  (ad G 2, .inr (4, [.ref (ad G 13), .int (gPo_load S)])),
  (ad G 3, .inr (8, [.ref (ad G 14), .int (gTa_size S)])),
  (ad G 4, .inr (2, [.ref (ad G 15), .ref (ad G 16), .int (gLi_cursor S), .int (gLi_tokenStart S), .int (gLi_tokenKind S), .int (gLi_number S), .int (gLi_expected S), .int (gLi_lines S), .int (gLi_town S), .int (gLi_good S), .int (gLi_anyRead S), .int (gLi_faultKind S), .int (gLi_faultPlace S)])),
  (ad G 5, .inr (1, [.ref (ad G 17), .ref (ad G 23), .int (gCo_readings S)])),
  (ad G 6, .inr (0, [.ref (ad G 24), .ref (ad G 25), .ref (ad G 26), .ref (ad G 27), .ref (ad G 28)])),
  (ad G 7, .inr (6, [.ref (ad G 29), .ref (ad G 30), .int (gSe_storedCount S), .int (gSe_storedPieces S), .int (gSe_count S)])),
  (ad G 8, .inr (3, [.ref (ad G 31), .ref (ad G 32), .ref (ad G 33), .ref (ad G 34), .int (gMa_count S), .ref (ad G 35), .ref (ad G 36), .ref (ad G 37), .int (gMa_foundLength S), .long (gMa_foundAmount S), .int (gMa_goal S), .ref (ad G 38), .int (gMa_bestLength S)])),
  (ad G 9, .inr (7, [.ref (ad G 39)])),
  (ad G 10, .inl (cy G 0, 256, .inl (gRo_length S))),
  (ad G 11, .inl (cy G 0, 16, .inl (gRo_reach S))),
  (ad G 12, .inl (cy G 0, 16, .inl (gRo_settled S))),
  (ad G 13, .inl (cy G 0, 6, .inl (gPo_weights S))),
  (ad G 14, .inl (cy G 1, 300, .inl (gTa_bytes S))),
  (ad G 15, .inl (cy G 0, 96, .inl (gLi_row S))),
  (ad G 16, .inl (cy G 0, 16, .inl (gLi_townSeen S))),
  (ad G 17, .inl (cy G 4, 5, .inr (.inr (.inr (.inr (rwCo_told G)))))),
  (ad G 18, .inl (cy G 0, 96, .inl (gCo_told S 0))),
  (ad G 19, .inl (cy G 0, 96, .inl (gCo_told S 1))),
  (ad G 20, .inl (cy G 0, 96, .inl (gCo_told S 2))),
  (ad G 21, .inl (cy G 0, 96, .inl (gCo_told S 3))),
  (ad G 22, .inl (cy G 0, 96, .inl (gCo_told S 4))),
  (ad G 23, .inl (cy G 0, 5, .inl (gCo_readAs S))),
  (ad G 24, .inl (cy G 0, 3168, .inl (gAc_unpaid S))),
  (ad G 25, .inl (cy G 0, 96, .inl (gAc_owing S))),
  (ad G 26, .inl (cy G 0, 96, .inl (gAc_gifts S))),
  (ad G 27, .inl (cy G 0, 96, .inl (gAc_paidOff S))),
  (ad G 28, .inl (cy G 2, 16, .inr (.inl (gAc_lateOfPaid S)))),
  (ad G 29, .inl (cy G 0, 800, .inl (gSe_table S))),
  (ad G 30, .inl (cy G 0, 100, .inl (gSe_storedOrder S))),
  (ad G 31, .inl (cy G 0, 20, .inl (gMa_fromGood S))),
  (ad G 32, .inl (cy G 0, 20, .inl (gMa_given S))),
  (ad G 33, .inl (cy G 0, 20, .inl (gMa_toGood S))),
  (ad G 34, .inl (cy G 0, 20, .inl (gMa_gained S))),
  (ad G 35, .inl (cy G 0, 6, .inl (gMa_visited S))),
  (ad G 36, .inl (cy G 0, 5, .inl (gMa_trail S))),
  (ad G 37, .inl (cy G 0, 5, .inl (gMa_found S))),
  (ad G 38, .inl (cy G 0, 5, .inl (gMa_best S))),
  (ad G 39, .inl (cy G 0, 16, .inl (gSh_yieldOf S))),
  (ad G 40, .inr (10, [.int (gMM_clock S), .int (gMM_quarters S), .ref (ad G 41), .ref (ad G 42), .ref (ad G 43), .int (gMM_load S), .ref (ad G 44), .ref (ad G 45), .int (gMM_reads S), .ref (ad G 46), .ref (ad G 47), .ref (ad G 48), .ref (ad G 49), .int (gMM_sendings S), .ref (ad G 50), .ref (ad G 51), .ref (ad G 52), .ref (ad G 53), .ref (ad G 54), .ref (ad G 55), .ref (ad G 56), .ref (ad G 57), .int (gMM_stored S), .ref (ad G 58), .int (gMM_storedMany S), .ref (ad G 59), .int (gMM_taped S), .int (gMM_fault S), .int (gMM_faultPlace S), .int (gMM_at S), .int (gMM_place S), .int (gMM_token S), .int (gMM_number S), .int (gMM_lines S), .int (gMM_towns S), .int (gMM_goods S), .int (gMM_markets S), .ref (ad G 60), .ref (ad G 61), .ref (ad G 62), .ref (ad G 63), .ref (ad G 64), .ref (ad G 65), .ref (ad G 66), .int (gMM_bestLong S), .int (gMM_rowLong S), .ref (ad G 67), .long (gMM_best S), .ref (ad G 68), .ref (ad G 69)])),
  (ad G 41, .inl (cy G 0, 256, .inl (gMM_roads S))),
  (ad G 42, .inl (cy G 0, 256, .inl (gMM_ways S))),
  (ad G 43, .inl (cy G 0, 6, .inl (gMM_weight S))),
  (ad G 44, .inl (cy G 0, 576, .inl (gMM_told S))),
  (ad G 45, .inl (cy G 0, 5, .inl (gMM_readAt S))),
  (ad G 46, .inl (cy G 0, 3264, .inl (gMM_debt S))),
  (ad G 47, .inl (cy G 0, 96, .inl (gMM_gift S))),
  (ad G 48, .inl (cy G 0, 96, .inl (gMM_paid S))),
  (ad G 49, .inl (cy G 2, 16, .inr (.inl (gMM_late S)))),
  (ad G 50, .inl (cy G 0, 100, .inl (gMM_town S))),
  (ad G 51, .inl (cy G 0, 100, .inl (gMM_good S))),
  (ad G 52, .inl (cy G 0, 100, .inl (gMM_pieces S))),
  (ad G 53, .inl (cy G 0, 100, .inl (gMM_bearers S))),
  (ad G 54, .inl (cy G 0, 100, .inl (gMM_left S))),
  (ad G 55, .inl (cy G 0, 100, .inl (gMM_comes S))),
  (ad G 56, .inl (cy G 3, 100, .inl (gMM_isStored S))),
  (ad G 57, .inl (cy G 0, 100, .inl (gMM_used S))),
  (ad G 58, .inl (cy G 0, 100, .inl (gMM_storedOrder S))),
  (ad G 59, .inl (cy G 0, 300, .inl (gMM_tape S))),
  (ad G 60, .inl (cy G 0, 20, .inl (gMM_from S))),
  (ad G 61, .inl (cy G 0, 20, .inl (gMM_gives S))),
  (ad G 62, .inl (cy G 0, 20, .inl (gMM_to S))),
  (ad G 63, .inl (cy G 0, 20, .inl (gMM_gets S))),
  (ad G 64, .inl (cy G 0, 6, .inl (gMM_open S))),
  (ad G 65, .inl (cy G 2, 6, .inr (.inl (gMM_much S)))),
  (ad G 66, .inl (cy G 0, 6, .inl (gMM_bestRow S))),
  (ad G 67, .inl (cy G 0, 6, .inl (gMM_row S))),
  (ad G 68, .inl (cy G 0, 16, .inl (gMM_yield2 S))),
  (ad G 69, .inl (cy G 3, 16, .inl (gMM_hasMore S)))]
def nC : Nat := 70
def gw : List Cond := lw_tbl.filter goodWord
theorem mg {i : Nat} {w : Cond} (h : lw_tbl[i]? = some w) (g : goodWord w = true) : w ∈ gw := List.mem_filter.mpr ⟨List.mem_of_getElem? h, g⟩
theorem iwAc : ∀ w ∈ u_ws RcAc FcAc 5, w ∈ gw := by
  intro w hw
  obtain ⟨k, hk, rfl⟩ := List.mem_map.mp hw
  have hk := List.mem_range.mp hk
  have h : ∀ k, k < 5 → lw_tbl[[190, 192, 194, 196, 198].getD k 0]? = some (u_lay RcAc FcAc k) ∧ goodWord (u_lay RcAc FcAc k) = true := by decide +kernel
  exact mg (h k hk).1 (h k hk).2
theorem iwCo : ∀ w ∈ u_ws RcCo FcCo 3, w ∈ gw := by
  intro w hw
  obtain ⟨k, hk, rfl⟩ := List.mem_map.mp hw
  have hk := List.mem_range.mp hk
  have h : ∀ k, k < 3 → lw_tbl[[172, 174, 176].getD k 0]? = some (u_lay RcCo FcCo k) ∧ goodWord (u_lay RcCo FcCo k) = true := by decide +kernel
  exact mg (h k hk).1 (h k hk).2
theorem iwLi : ∀ w ∈ u_ws RcLi FcLi 13, w ∈ gw := by
  intro w hw
  obtain ⟨k, hk, rfl⟩ := List.mem_map.mp hw
  have hk := List.mem_range.mp hk
  have h : ∀ k, k < 13 → lw_tbl[[133, 135, 137, 139, 141, 143, 145, 147, 149, 151, 153, 155, 157].getD k 0]? = some (u_lay RcLi FcLi k) ∧ goodWord (u_lay RcLi FcLi k) = true := by decide +kernel
  exact mg (h k hk).1 (h k hk).2
theorem iwMa : ∀ w ∈ u_ws RcMa FcMa 13, w ∈ gw := by
  intro w hw
  obtain ⟨k, hk, rfl⟩ := List.mem_map.mp hw
  have hk := List.mem_range.mp hk
  have h : ∀ k, k < 13 → lw_tbl[[243, 245, 247, 249, 251, 253, 255, 257, 259, 261, 263, 265, 267].getD k 0]? = some (u_lay RcMa FcMa k) ∧ goodWord (u_lay RcMa FcMa k) = true := by decide +kernel
  exact mg (h k hk).1 (h k hk).2
theorem iwPo : ∀ w ∈ u_ws RcPo FcPo 2, w ∈ gw := by
  intro w hw
  obtain ⟨k, hk, rfl⟩ := List.mem_map.mp hw
  have hk := List.mem_range.mp hk
  have h : ∀ k, k < 2 → lw_tbl[[95, 97].getD k 0]? = some (u_lay RcPo FcPo k) ∧ goodWord (u_lay RcPo FcPo k) = true := by decide +kernel
  exact mg (h k hk).1 (h k hk).2
theorem iwRo : ∀ w ∈ u_ws RcRo FcRo 3, w ∈ gw := by
  intro w hw
  obtain ⟨k, hk, rfl⟩ := List.mem_map.mp hw
  have hk := List.mem_range.mp hk
  have h : ∀ k, k < 3 → lw_tbl[[76, 78, 80].getD k 0]? = some (u_lay RcRo FcRo k) ∧ goodWord (u_lay RcRo FcRo k) = true := by decide +kernel
  exact mg (h k hk).1 (h k hk).2
theorem iwSe : ∀ w ∈ u_ws RcSe FcSe 5, w ∈ gw := by
  intro w hw
  obtain ⟨k, hk, rfl⟩ := List.mem_map.mp hw
  have hk := List.mem_range.mp hk
  have h : ∀ k, k < 5 → lw_tbl[[213, 215, 217, 219, 221].getD k 0]? = some (u_lay RcSe FcSe k) ∧ goodWord (u_lay RcSe FcSe k) = true := by decide +kernel
  exact mg (h k hk).1 (h k hk).2
theorem iwSh : ∀ w ∈ u_ws RcSh FcSh 1, w ∈ gw := by
  intro w hw
  obtain ⟨k, hk, rfl⟩ := List.mem_map.mp hw
  have hk := List.mem_range.mp hk
  have h : ∀ k, k < 1 → lw_tbl[[277].getD k 0]? = some (u_lay RcSh FcSh k) ∧ goodWord (u_lay RcSh FcSh k) = true := by decide +kernel
  exact mg (h k hk).1 (h k hk).2
theorem iwTa : ∀ w ∈ u_ws RcTa FcTa 2, w ∈ gw := by
  intro w hw
  obtain ⟨k, hk, rfl⟩ := List.mem_map.mp hw
  have hk := List.mem_range.mp hk
  have h : ∀ k, k < 2 → lw_tbl[[108, 110].getD k 0]? = some (u_lay RcTa FcTa k) ∧ goodWord (u_lay RcTa FcTa k) = true := by decide +kernel
  exact mg (h k hk).1 (h k hk).2
theorem iwTL : ∀ w ∈ u_ws RcTL FcTL 10, w ∈ gw := by
  intro w hw
  obtain ⟨k, hk, rfl⟩ := List.mem_map.mp hw
  have hk := List.mem_range.mp hk
  have h : ∀ k, k < 10 → lw_tbl[[290, 292, 294, 296, 298, 300, 302, 304, 306, 308].getD k 0]? = some (u_lay RcTL FcTL k) ∧ goodWord (u_lay RcTL FcTL k) = true := by decide +kernel
  exact mg (h k hk).1 (h k hk).2
theorem iwMM : ∀ w ∈ u_ws RcMM FcMM 50, w ∈ gw := by
  intro w hw
  obtain ⟨k, hk, rfl⟩ := List.mem_map.mp hw
  have hk := List.mem_range.mp hk
  have h : ∀ k, k < 50 → lw_tbl[[847, 849, 851, 853, 855, 857, 859, 861, 863, 865, 867, 869, 871, 873, 875, 877, 879, 881, 883, 885, 887, 889, 891, 893, 895, 897, 899, 901, 903, 905, 907, 909, 911, 913, 915, 917, 919, 921, 923, 925, 927, 929, 931, 933, 935, 937, 939, 941, 943, 945].getD k 0]? = some (u_lay RcMM FcMM k) ∧ goodWord (u_lay RcMM FcMM k) = true := by decide +kernel
  exact mg (h k hk).1 (h k hk).2
def nst : List (String × Nat × MethodName × String) := [("TributeLists", 11, ⟨"TributeLists$Roads", "<init>", "()V"⟩, "TributeLists"), ("TributeLists", 25, ⟨"TributeLists$Tape", "<init>", "()V"⟩, "TributeLists"), ("TributeLists", 32, ⟨"TributeLists$ListReader", "<init>", "()V"⟩, "TributeLists"), ("TributeLists", 46, ⟨"TributeLists$Accounts", "<init>", "()V"⟩, "TributeLists"), ("TributeLists", 53, ⟨"TributeLists$Sendings", "<init>", "()V"⟩, "TributeLists"), ("TributeLists", 60, ⟨"TributeLists$Markets", "<init>", "()V"⟩, "TributeLists"), ("TributeLists", 67, ⟨"TributeLists$Shares", "<init>", "()V"⟩, "TributeLists"), ("TributeLists$Porters", 25, ⟨"TributeLists", "within", "(III)Z"⟩, "TributeLists"), ("TributeLists$ListReader", 142, ⟨"TributeLists", "within", "(III)Z"⟩, "TributeLists"), ("TributeLists$ListReader", 128, ⟨"TributeLists", "isTown", "(I)Z"⟩, "TributeLists"), ("TributeLists$ListReader", 133, ⟨"TributeLists", "isGood", "(I)Z"⟩, "TributeLists"), ("TributeLists$ListReader", 136, ⟨"TributeLists", "slot", "(II)I"⟩, "TributeLists"), ("TributeLists$Accounts", 32, ⟨"TributeLists", "within", "(III)Z"⟩, "TributeLists"), ("TributeLists$Accounts", 46, ⟨"TributeLists", "slot", "(II)I"⟩, "TributeLists")]
def SF (G : GG) (U : State) (H : Heap) (A : Nat → Prop) : Prop := vk_R "TributeLists$ListReader" 89 "town" G.2.2.2.1 U ∧ vk_S 1 [4] [[116, 111, 119, 110]] (fun _ => G.2.2.2.1) (fun _ => G.2.2.2.2) A U H ∧ va_Z "java/lang/String" "COMPACT_STRINGS" "Z" (.int 1) A U H ∧ va_Zq "jdk/internal/util/Preconditions" "SIOOBE_FORMATTER" "Ljava/util/function/BiFunction;" A U H
/-- the addresses of the world's cells -/
def Aw (G : GG) : Nat → Prop := fun q => ∃ k, k < nC ∧ q = ad G k
def GOK (G : GG) : Prop := ∀ i j, i < nC → j < nC → ad G i = ad G j → i = j
theorem wld_fst (G : GG) (S : ST) : (wld G S).map Prod.fst = (List.range nC).map (ad G) := rfl
theorem wld_at {G : GG} {S : ST} {i : Nat} {q : Nat × va_E} (h : (wld G S)[i]? = some q) : i < nC ∧ q.1 = ad G i := by
  have h1 : ((wld G S).map Prod.fst)[i]? = some q.1 := by rw [List.getElem?_map, h]; rfl
  rw [wld_fst, List.getElem?_map] at h1
  by_cases hi : i < nC
  · rw [List.getElem?_range hi] at h1
    exact ⟨hi, (Option.some.inj h1).symm⟩
  · rw [List.getElem?_eq_none (by rw [List.length_range]; omega)] at h1
    cases h1
theorem wld_D {G : GG} (hG : GOK G) (S : ST) : va_D (Aw G) (wld G S) := by
  refine ⟨fun i j x y hi hj hxy => ?_, fun k q hk => ?_⟩
  · obtain ⟨a1, a2⟩ := wld_at hi
    obtain ⟨b1, b2⟩ := wld_at hj
    exact hG i j a1 b1 (by rw [← a2, ← b2]; exact hxy)
  · obtain ⟨a1, a2⟩ := wld_at hk
    exact ⟨k, a1, a2⟩
def EF (G : GG) (U : State) (H : Heap) : Prop := va_K G.1 cls (tys G) U ∧ (∀ q ∈ nst, va_Nw (.methodLinkNest q.1 q.2.1 q.2.2.1 q.2.2.2) U) ∧ SF G U H (Aw G)
theorem EF.pass {G : GG} {s U : State} {H : Heap} {locs : List Loc} (h : EF G s s.heap) (hW : s.WarmedH U.vm) (hU : U.heap = H) (hS : va_S (Aw G) s.heap H locs) : EF G U U.heap := by
  obtain ⟨h1, h2, h3, h4, h5, h6⟩ := h
  have hk : ∀ a : Nat, a < s.heap.size → ¬ Aw G a → U.heap[a]? = s.heap[a]? := fun a ha hn => by rw [hU]; exact hS.2.1 a ha hn
  exact ⟨va_K.moved hW.alike h1, fun q hq => va_Nw.warmM hW (h2 q hq), vk_R.warm hW h3, (vk_S.moved hW.alike h4).kept hk, (va_Z.moved hW.alike h5).kept hk, (va_Zq.moved hW.alike h6).kept hk⟩
theorem EF.same {G : GG} {u U : State} (h : EF G u u.heap) (hv : U.vm = u.vm) (hh : U.heap = u.heap) : EF G U U.heap := by
  obtain ⟨h1, h2, h3, h4, h5, h6⟩ := h
  have hA : u.vm.Alike U.vm := by rw [hv]; exact Vm.Alike.refl _
  rw [hh]
  exact ⟨va_K.moved hA h1, fun q hq => va_Nw.same rfl hv.symm (h2 q hq), vk_R.same hv h3, vk_S.moved hA h4, va_Z.moved hA h5, va_Zq.moved hA h6⟩
/-- a method's start: the world is S -/
def PcW (G : GG) (av : List Value) (S : ST) : Array Value → State → Prop := fun a U => a = av.toArray ∧ va_P G.1 cls (wld G S) U.heap ∧ EF G U U.heap
theorem PcW.blind {G : GG} {av : List Value} {S : ST} : FrameBlind (PcW G av S) := by
  intro a U g mk h
  obtain ⟨h1, h2, h3⟩ := h
  exact ⟨h1, h2, EF.same h3 rfl rfl⟩
/-- a method's end: it returns v, the world is S' -/
def Qw (G : GG) (v : Option Value) (S' : ST) : Array Value → State → Outcome → State → Prop := fun _ st o t => o = .returned v ∧ va_P G.1 cls (wld G S') t.heap ∧ va_F (Aw G) st t
def rmm (k : Nat) : Room := { frames := k, cells := 0, slots := 0, locals := 60 * k }
abbrev CX : Type := Program × Launch × Env × Room × State × MethodId × Array Value × List Frame × Method × Code × Nat × Nat
abbrev xp (X : CX) : Program := X.1
abbrev xl (X : CX) : Launch := X.2.1
abbrev xe (X : CX) : Env := X.2.2.1
abbrev xR (X : CX) : Room := X.2.2.2.1
abbrev xs (X : CX) : State := X.2.2.2.2.1
abbrev xm (X : CX) : MethodId := X.2.2.2.2.2.1
abbrev xa (X : CX) : Array Value := X.2.2.2.2.2.2.1
abbrev xb (X : CX) : List Frame := X.2.2.2.2.2.2.2.1
abbrev xh (X : CX) : Method := X.2.2.2.2.2.2.2.2.1
abbrev xc (X : CX) : Code := X.2.2.2.2.2.2.2.2.2.1
abbrev xk (X : CX) : Nat := X.2.2.2.2.2.2.2.2.2.2.1
abbrev xz (X : CX) : Nat := X.2.2.2.2.2.2.2.2.2.2.2
def Cx (G : GG) (X : CX) (own : String) (cc : ByteArray) (nL lv : Nat) (rt : Option FieldType) : Prop :=
  (xp X).tables.exec = Jvm.exec ∧ (xc X).code = cc ∧ (xc X).maxLocals = nL ∧ (xs X).vm.findClass own = some (xm X).cls ∧ (∀ w ∈ gw, w.before (xa X) (xs X) = true) ∧ EF G (xs X) (xs X).heap ∧ GOK G ∧ (xh X).sig.returnType = rt ∧ (xh X).locks = false ∧ (lv ≤ (xR X).frames ∧ 60 * lv ≤ (xR X).locals ∧ xk X ≤ (xR X).cells ∧ xz X ≤ (xR X).slots)
def At (G : GG) (X : CX) (nL : Nat) (Q : State → Prop) (pc : Nat) (L : List (Nat × Value)) (st : List Value) (S : ST) : Prop :=
  ∀ (ls : Array Slot) (H : Heap) (locs : List Loc), lv_has ls nL L → va_P G.1 cls (wld G S) H → va_S (Aw G) (xs X).heap H locs → W (xp X) (xl X) (xe X) (xR X) (xs X) (xm X) (xa X) (xb X) (xh X) (xc X) H locs (xk X) (xz X) Q (F0 (xm X) pc ls st)
/-- an index in its row -/
def inb (i : Int32) (n : Nat) : Bool := !(decide (i < 0)) && decide (i.toNatClampNeg < n)
theorem inb_in {i : Int32} {n : Nat} (h : inb i n = true) : vp_in i n := by
  unfold inb at h
  simp only [Bool.and_eq_true, Bool.not_eq_true', decide_eq_false_iff_not, decide_eq_true_eq] at h
  intro q
  rcases q with q | q
  · exact h.1 q
  · omega
theorem inb_lt {i : Int32} {n : Nat} (h : inb i n = true) : i.toNatClampNeg < n := by
  unfold inb at h
  simp only [Bool.and_eq_true, Bool.not_eq_true', decide_eq_false_iff_not, decide_eq_true_eq] at h
  exact h.2
def nz (y : Int32) : Bool := !(decide (y = 0))
theorem nz_ne {y : Int32} (h : nz y = true) : ¬ y = 0 := by
  unfold nz at h
  simpa using h
def nzL (y : Int64) : Bool := !(decide (y = 0))
theorem nzL_ne {y : Int64} (h : nzL y = true) : ¬ y = 0 := by
  unfold nzL at h
  simpa using h
/-- a guard: none where it fails -/
def gd {α : Type} (b : Bool) (x : Option α) : Option α := if b = true then x else none
theorem gd_some {α : Type} {b : Bool} {x : Option α} {r : α} (h : gd b x = some r) : b = true ∧ x = some r := by
  unfold gd at h
  by_cases hb : b = true
  · rw [if_pos hb] at h; exact ⟨hb, h⟩
  · rw [if_neg hb] at h; cases h
theorem gd_true {α : Type} {b : Bool} {x : Option α} (hb : b = true) : gd b x = x := if_pos hb
def ob {α β : Type} (x : Option α) (f : α → Option β) : Option β := x.bind f
theorem ob_some {α β : Type} {x : Option α} {f : α → Option β} {r : β} (h : ob x f = some r) : ∃ e, x = some e ∧ f e = some r := Option.bind_eq_some_iff.mp h
theorem ob_eq {α β : Type} {x : Option α} {f : α → Option β} {e : α} (h : x = some e) : ob x f = f e := by rw [h]; rfl
theorem ifp {α : Type} {c : Prop} {i : Decidable c} {a b r : α} (hc : c) (h : @ite α c i a b = r) : a = r := by rw [if_pos hc] at h; exact h
theorem ifn {α : Type} {c : Prop} {i : Decidable c} {a b r : α} (hc : ¬ c) (h : @ite α c i a b = r) : b = r := by rw [if_neg hc] at h; exact h
/-- a method that keeps its contract: from a walk of its code -/
theorem met_of {l : Launch} {y : MethodName} {cc : ByteArray} {mL : Nat} {ret : Option FieldType} (hy : plainName y.cls = true) (lv : Nat) (G : GG) (hG : GOK G) (S : ST) (av : List Value) (hlen : (lg_sl av).length ≤ mL) (v : Option Value) (S' : ST)
    (body : ∀ X : CX, xl X = l → Cx G X y.cls cc mL lv ret → At G X mL (MQ (xb X) (Qw G v S') (xa X) (xs X) (xk X) (xz X) (Aw G)) 0 (lv_args 0 av) [] S) : Met l y (.code y cc mL ret :: gw) (rmm lv) (PcW G av S) (Qw G v S') 0 0 (Aw G) := by
  refine Met.ofW (cc := cc) (maxL := mL) (ret := ret) hy rfl ?_
  intro p e s m args below meth c s₁ B hml hv
  obtain ⟨rfl, hP, hE⟩ := hv
  have hts := atoms_spec (ws := .code y cc mL ret :: gw) B.pre
  have hl := lv_entry av (n := mL) hlen
  rw [lg_entry_eq]
  exact body (p, l, e, rmm lv, s, m, av.toArray, below, meth, c, 0, 0) rfl ⟨B.exec, B.bytes, hml, findClass_of_methodNamed B.named, fun w hw => hts w (List.mem_cons_of_mem _ hw), hE, hG, B.returns, B.notSynchronized, ⟨Nat.le_refl _, Nat.le_refl _, Nat.le_refl _, Nat.le_refl _⟩⟩ _ s.heap [] hl hP va_S.rf
section ROWS
variable {G : GG} {X : CX} {own : String} {cc : ByteArray} {nL lv pc : Nat} {rt : Option FieldType} {Q : State → Prop} {S : ST} {L L' : List (Nat × Value)} {st : List Value}
theorem at_loc (ks : List Nat) (h : lv_pick L ks = L') (kk : At G X nL Q pc L' st S) : At G X nL Q pc L st S := fun ls H locs hl hP hS => kk ls H locs (lv_sub hl ks h) hP hS
theorem at_iconst (C : Cx G X own cc nL lv rt) {n : Int} {x : Int32} (d : decode cc pc = .ok (.iconst n, 1)) (hv : Int32.ofInt n = x) (kk : At G X nL Q (pc + 1) L (.int x :: st) S) : At G X nL Q pc L st S := fun ls H locs hl hP hS => lv_iconst C.1 C.2.1 d hv (kk ls H locs hl hP hS)
theorem at_bipush (C : Cx G X own cc nL lv rt) {n : Int} {x : Int32} (d : decode cc pc = .ok (.bipush n, 2)) (hv : (Int8.ofInt n).toInt32 = x) (kk : At G X nL Q (pc + 2) L (.int x :: st) S) : At G X nL Q pc L st S := fun ls H locs hl hP hS => lv_bipush C.1 C.2.1 d hv (kk ls H locs hl hP hS)
theorem at_sipush (C : Cx G X own cc nL lv rt) {n : Int} {x : Int32} (d : decode cc pc = .ok (.sipush n, 3)) (hv : (Int16.ofInt n).toInt32 = x) (kk : At G X nL Q (pc + 3) L (.int x :: st) S) : At G X nL Q pc L st S := fun ls H locs hl hP hS => lv_sipush C.1 C.2.1 d hv (kk ls H locs hl hP hS)
theorem at_lconst (C : Cx G X own cc nL lv rt) {n : Fin 2} {x : Int64} (d : decode cc pc = .ok (.lconst n, 1)) (hv : Int64.ofNat (n : Nat) = x) (kk : At G X nL Q (pc + 1) L (.long x :: st) S) : At G X nL Q pc L st S := fun ls H locs hl hP hS => lv_lconst C.1 C.2.1 d hv (kk ls H locs hl hP hS)
theorem at_ldc (C : Cx G X own cc nL lv rt) {i : Nat} {x : Int32} (hw : Cond.constant own i x ∈ gw) (d : decode cc pc = .ok (.ldc i, 2)) (kk : At G X nL Q (pc + 2) L (.int x :: st) S) : At G X nL Q pc L st S := fun ls H locs hl hP hS => lv_ldc C.1 C.2.1 C.2.2.2.1 (C.2.2.2.2.1 _ hw) d (kk ls H locs hl hP hS)
theorem at_ldc2 (C : Cx G X own cc nL lv rt) {i : Nat} {x : Int64} (hw : Cond.constantLong own i x ∈ gw) (d : decode cc pc = .ok (.ldc2_w i, 3)) (kk : At G X nL Q (pc + 3) L (.long x :: st) S) : At G X nL Q pc L st S := fun ls H locs hl hP hS => lv_ldc2 C.1 C.2.1 C.2.2.2.1 (C.2.2.2.2.1 _ hw) d (kk ls H locs hl hP hS)
theorem at_iload_n (C : Cx G X own cc nL lv rt) {k : Fin 4} {i j : Nat} {x : Int32} (d : decode cc pc = .ok (.iload_n k, 1)) (hi : (k : Nat) = i) (hj : L[j]? = some (i, .int x)) (kk : At G X nL Q (pc + 1) L (.int x :: st) S) : At G X nL Q pc L st S := fun ls H locs hl hP hS => lv_iload_n C.1 C.2.1 d hi (lv_at hl j hj) (kk ls H locs hl hP hS)
theorem at_iload (C : Cx G X own cc nL lv rt) {i j : Nat} {x : Int32} (d : decode cc pc = .ok (.iload i, 2)) (hj : L[j]? = some (i, .int x)) (kk : At G X nL Q (pc + 2) L (.int x :: st) S) : At G X nL Q pc L st S := fun ls H locs hl hP hS => lv_iload C.1 C.2.1 d (lv_at hl j hj) (kk ls H locs hl hP hS)
theorem at_lload_n (C : Cx G X own cc nL lv rt) {k : Fin 4} {i j : Nat} {x : Int64} (d : decode cc pc = .ok (.lload_n k, 1)) (hi : (k : Nat) = i) (hj : L[j]? = some (i, .long x)) (kk : At G X nL Q (pc + 1) L (.long x :: st) S) : At G X nL Q pc L st S := fun ls H locs hl hP hS => lv_lload_n C.1 C.2.1 d hi (lv_at hl j hj) (kk ls H locs hl hP hS)
theorem at_lload (C : Cx G X own cc nL lv rt) {i j : Nat} {x : Int64} (d : decode cc pc = .ok (.lload i, 2)) (hj : L[j]? = some (i, .long x)) (kk : At G X nL Q (pc + 2) L (.long x :: st) S) : At G X nL Q pc L st S := fun ls H locs hl hP hS => lv_lload C.1 C.2.1 d (lv_at hl j hj) (kk ls H locs hl hP hS)
theorem at_aload_n (C : Cx G X own cc nL lv rt) {k : Fin 4} {i j : Nat} {x : Nat} (d : decode cc pc = .ok (.aload_n k, 1)) (hi : (k : Nat) = i) (hj : L[j]? = some (i, .ref x)) (kk : At G X nL Q (pc + 1) L (.ref x :: st) S) : At G X nL Q pc L st S := fun ls H locs hl hP hS => lv_aload_n C.1 C.2.1 d hi (lv_at hl j hj) (kk ls H locs hl hP hS)
theorem at_istore_n (C : Cx G X own cc nL lv rt) {k : Fin 4} {i : Nat} {x : Int32} (d : decode cc pc = .ok (.istore_n k, 1)) (hi : (k : Nat) = i) (hn : i < nL) (hL : (i, Value.int x) :: L.filter (fun q => !(q.1 == i) && !(q.1 + 1 == i && q.2.category == 2)) = L') (kk : At G X nL Q (pc + 1) L' st S) : At G X nL Q pc L (.int x :: st) S := fun _ H locs hl hP hS => lv_istore_n C.1 C.2.1 d hi hl hn hL (fun ls' h' => kk ls' H locs h' hP hS)
theorem at_istore (C : Cx G X own cc nL lv rt) {i : Nat} {x : Int32} (d : decode cc pc = .ok (.istore i, 2)) (hn : i < nL) (hL : (i, Value.int x) :: L.filter (fun q => !(q.1 == i) && !(q.1 + 1 == i && q.2.category == 2)) = L') (kk : At G X nL Q (pc + 2) L' st S) : At G X nL Q pc L (.int x :: st) S := fun _ H locs hl hP hS => lv_istore C.1 C.2.1 d hl hn hL (fun ls' h' => kk ls' H locs h' hP hS)
theorem at_lstore_n (C : Cx G X own cc nL lv rt) {k : Fin 4} {i : Nat} {x : Int64} (d : decode cc pc = .ok (.lstore_n k, 1)) (hi : (k : Nat) = i) (hn : i + 1 < nL) (hL : (i, Value.long x) :: L.filter (fun q => !(q.1 == i) && (!(q.1 == i + 1) && !(q.1 + 1 == i && q.2.category == 2))) = L') (kk : At G X nL Q (pc + 1) L' st S) : At G X nL Q pc L (.long x :: st) S := fun _ H locs hl hP hS => lv_lstore_n C.1 C.2.1 d hi hl hn hL (fun ls' h' => kk ls' H locs h' hP hS)
theorem at_lstore (C : Cx G X own cc nL lv rt) {i : Nat} {x : Int64} (d : decode cc pc = .ok (.lstore i, 2)) (hn : i + 1 < nL) (hL : (i, Value.long x) :: L.filter (fun q => !(q.1 == i) && (!(q.1 == i + 1) && !(q.1 + 1 == i && q.2.category == 2))) = L') (kk : At G X nL Q (pc + 2) L' st S) : At G X nL Q pc L (.long x :: st) S := fun _ H locs hl hP hS => lv_lstore C.1 C.2.1 d hl hn hL (fun ls' h' => kk ls' H locs h' hP hS)
theorem at_iinc (C : Cx G X own cc nL lv rt) {i j : Nat} {n : Int} {x c : Int32} (d : decode cc pc = .ok (.iinc i n, 3)) (hj : L[j]? = some (i, .int x)) (hv : Int32.ofInt n = c) (hn : i < nL) (hL : (i, Value.int (x + c)) :: L.filter (fun q => !(q.1 == i) && !(q.1 + 1 == i && q.2.category == 2)) = L') (kk : At G X nL Q (pc + 3) L' st S) : At G X nL Q pc L st S := fun _ H locs hl hP hS => lv_iinc C.1 C.2.1 d hl hj (congrArg (fun z => x + z) hv) hn hL (fun ls' h' => kk ls' H locs h' hP hS)
theorem at_iadd (C : Cx G X own cc nL lv rt) {x y : Int32} (d : decode cc pc = .ok (.iadd, 1)) (kk : At G X nL Q (pc + 1) L (.int (x + y) :: st) S) : At G X nL Q pc L (.int y :: .int x :: st) S := fun ls H locs hl hP hS => lv_iadd C.1 C.2.1 d (kk ls H locs hl hP hS)
theorem at_isub (C : Cx G X own cc nL lv rt) {x y : Int32} (d : decode cc pc = .ok (.isub, 1)) (kk : At G X nL Q (pc + 1) L (.int (x - y) :: st) S) : At G X nL Q pc L (.int y :: .int x :: st) S := fun ls H locs hl hP hS => lv_isub C.1 C.2.1 d (kk ls H locs hl hP hS)
theorem at_imul (C : Cx G X own cc nL lv rt) {x y : Int32} (d : decode cc pc = .ok (.imul, 1)) (kk : At G X nL Q (pc + 1) L (.int (x * y) :: st) S) : At G X nL Q pc L (.int y :: .int x :: st) S := fun ls H locs hl hP hS => lv_imul C.1 C.2.1 d (kk ls H locs hl hP hS)
theorem at_iand (C : Cx G X own cc nL lv rt) {x y : Int32} (d : decode cc pc = .ok (.iand, 1)) (kk : At G X nL Q (pc + 1) L (.int (x &&& y) :: st) S) : At G X nL Q pc L (.int y :: .int x :: st) S := fun ls H locs hl hP hS => lv_iand C.1 C.2.1 d (kk ls H locs hl hP hS)
theorem at_ior (C : Cx G X own cc nL lv rt) {x y : Int32} (d : decode cc pc = .ok (.ior, 1)) (kk : At G X nL Q (pc + 1) L (.int (x ||| y) :: st) S) : At G X nL Q pc L (.int y :: .int x :: st) S := fun ls H locs hl hP hS => lv_ior C.1 C.2.1 d (kk ls H locs hl hP hS)
theorem at_ishl (C : Cx G X own cc nL lv rt) {x y : Int32} (d : decode cc pc = .ok (.ishl, 1)) (kk : At G X nL Q (pc + 1) L (.int (x <<< (y &&& 31)) :: st) S) : At G X nL Q pc L (.int y :: .int x :: st) S := fun ls H locs hl hP hS => lv_ishl C.1 C.2.1 d (kk ls H locs hl hP hS)
theorem at_ishr (C : Cx G X own cc nL lv rt) {x y : Int32} (d : decode cc pc = .ok (.ishr, 1)) (kk : At G X nL Q (pc + 1) L (.int (x >>> (y &&& 31)) :: st) S) : At G X nL Q pc L (.int y :: .int x :: st) S := fun ls H locs hl hP hS => lv_ishr C.1 C.2.1 d (kk ls H locs hl hP hS)
theorem at_idiv (C : Cx G X own cc nL lv rt) {x y : Int32} (d : decode cc pc = .ok (.idiv, 1)) (hne : nz y = true) (kk : At G X nL Q (pc + 1) L (.int (x / y) :: st) S) : At G X nL Q pc L (.int y :: .int x :: st) S := fun ls H locs hl hP hS => lv_idiv C.1 C.2.1 d (nz_ne hne) (kk ls H locs hl hP hS)
theorem at_irem (C : Cx G X own cc nL lv rt) {x y : Int32} (d : decode cc pc = .ok (.irem, 1)) (hne : nz y = true) (kk : At G X nL Q (pc + 1) L (.int (x - x / y * y) :: st) S) : At G X nL Q pc L (.int y :: .int x :: st) S := fun ls H locs hl hP hS => lv_irem C.1 C.2.1 d (nz_ne hne) (kk ls H locs hl hP hS)
theorem at_ladd (C : Cx G X own cc nL lv rt) {x y : Int64} (d : decode cc pc = .ok (.ladd, 1)) (kk : At G X nL Q (pc + 1) L (.long (x + y) :: st) S) : At G X nL Q pc L (.long y :: .long x :: st) S := fun ls H locs hl hP hS => lv_ladd C.1 C.2.1 d (kk ls H locs hl hP hS)
theorem at_lsub (C : Cx G X own cc nL lv rt) {x y : Int64} (d : decode cc pc = .ok (.lsub, 1)) (kk : At G X nL Q (pc + 1) L (.long (x - y) :: st) S) : At G X nL Q pc L (.long y :: .long x :: st) S := fun ls H locs hl hP hS => lv_lsub C.1 C.2.1 d (kk ls H locs hl hP hS)
theorem at_lmul (C : Cx G X own cc nL lv rt) {x y : Int64} (d : decode cc pc = .ok (.lmul, 1)) (kk : At G X nL Q (pc + 1) L (.long (x * y) :: st) S) : At G X nL Q pc L (.long y :: .long x :: st) S := fun ls H locs hl hP hS => lv_lmul C.1 C.2.1 d (kk ls H locs hl hP hS)
theorem at_ldiv (C : Cx G X own cc nL lv rt) {x y : Int64} (d : decode cc pc = .ok (.ldiv, 1)) (hne : nzL y = true) (kk : At G X nL Q (pc + 1) L (.long (x / y) :: st) S) : At G X nL Q pc L (.long y :: .long x :: st) S := fun ls H locs hl hP hS => lv_ldiv C.1 C.2.1 d (nzL_ne hne) (kk ls H locs hl hP hS)
theorem at_lrem (C : Cx G X own cc nL lv rt) {x y : Int64} (d : decode cc pc = .ok (.lrem, 1)) (hne : nzL y = true) (kk : At G X nL Q (pc + 1) L (.long (x - x / y * y) :: st) S) : At G X nL Q pc L (.long y :: .long x :: st) S := fun ls H locs hl hP hS => lv_lrem C.1 C.2.1 d (nzL_ne hne) (kk ls H locs hl hP hS)
theorem at_i2l (C : Cx G X own cc nL lv rt) {x : Int32} (d : decode cc pc = .ok (.i2l, 1)) (kk : At G X nL Q (pc + 1) L (.long (x.toInt64) :: st) S) : At G X nL Q pc L (.int x :: st) S := fun ls H locs hl hP hS => lv_i2l C.1 C.2.1 d rfl (kk ls H locs hl hP hS)
theorem at_l2i (C : Cx G X own cc nL lv rt) {x : Int64} (d : decode cc pc = .ok (.l2i, 1)) (kk : At G X nL Q (pc + 1) L (.int (x.toInt32) :: st) S) : At G X nL Q pc L (.long x :: st) S := fun ls H locs hl hP hS => lv_l2i C.1 C.2.1 d rfl (kk ls H locs hl hP hS)
theorem at_i2b (C : Cx G X own cc nL lv rt) {x : Int32} (d : decode cc pc = .ok (.i2b, 1)) (kk : At G X nL Q (pc + 1) L (.int (x.toInt8.toInt32) :: st) S) : At G X nL Q pc L (.int x :: st) S := fun ls H locs hl hP hS => lv_i2b C.1 C.2.1 d rfl (kk ls H locs hl hP hS)
theorem at_lcmp (C : Cx G X own cc nL lv rt) {x y : Int64} (d : decode cc pc = .ok (.lcmp, 1)) (kk : At G X nL Q (pc + 1) L (.int (lg_cmp x y) :: st) S) : At G X nL Q pc L (.long y :: .long x :: st) S := fun ls H locs hl hP hS => W.lcmp C.1 C.2.1 d (kk ls H locs hl hP hS)
theorem at_dup (C : Cx G X own cc nL lv rt) {a : Value} (d : decode cc pc = .ok (.dup, 1)) (h : a.category = 1) (kk : At G X nL Q (pc + 1) L (a :: a :: st) S) : At G X nL Q pc L (a :: st) S := fun ls H locs hl hP hS => lv_dup C.1 C.2.1 d h (kk ls H locs hl hP hS)
theorem at_pop (C : Cx G X own cc nL lv rt) {a : Value} (d : decode cc pc = .ok (.pop, 1)) (h : a.category = 1) (kk : At G X nL Q (pc + 1) L st S) : At G X nL Q pc L (a :: st) S := fun ls H locs hl hP hS => lv_pop C.1 C.2.1 d h (kk ls H locs hl hP hS)
theorem at_dup2 (C : Cx G X own cc nL lv rt) {a b : Value} (d : decode cc pc = .ok (.dup2, 1)) (h : a.category = 1) (h2 : b.category = 1) (kk : At G X nL Q (pc + 1) L (a :: b :: a :: b :: st) S) : At G X nL Q pc L (a :: b :: st) S := fun ls H locs hl hP hS => lv_dup2_11 C.1 C.2.1 d h h2 (kk ls H locs hl hP hS)
theorem at_if_eq (C : Cx G X own cc nL lv rt) {x : Int32} {off : Int} {tgt : Nat} (d : decode cc pc = .ok (.ifCond .eq off, 3)) (ht : (pc : Int) + off = (tgt : Int)) (kt : x = 0 → At G X nL Q tgt L st S) (kf : ¬ x = 0 → At G X nL Q (pc + 3) L st S) : At G X nL Q pc L (.int x :: st) S := fun ls H locs hl hP hS => lv_if_eq C.1 C.2.1 d ht (fun h => kt h ls H locs hl hP hS) (fun h => kf h ls H locs hl hP hS)
theorem at_icmp_eq (C : Cx G X own cc nL lv rt) {x y : Int32} {off : Int} {tgt : Nat} (d : decode cc pc = .ok (.if_icmp .eq off, 3)) (ht : (pc : Int) + off = (tgt : Int)) (kt : x = y → At G X nL Q tgt L st S) (kf : ¬ x = y → At G X nL Q (pc + 3) L st S) : At G X nL Q pc L (.int y :: .int x :: st) S := fun ls H locs hl hP hS => lv_icmp_eq C.1 C.2.1 d ht (fun h => kt h ls H locs hl hP hS) (fun h => kf h ls H locs hl hP hS)
theorem at_if_ne (C : Cx G X own cc nL lv rt) {x : Int32} {off : Int} {tgt : Nat} (d : decode cc pc = .ok (.ifCond .ne off, 3)) (ht : (pc : Int) + off = (tgt : Int)) (kt : ¬ x = 0 → At G X nL Q tgt L st S) (kf : x = 0 → At G X nL Q (pc + 3) L st S) : At G X nL Q pc L (.int x :: st) S := fun ls H locs hl hP hS => lv_if_ne C.1 C.2.1 d ht (fun h => kt h ls H locs hl hP hS) (fun h => kf h ls H locs hl hP hS)
theorem at_icmp_ne (C : Cx G X own cc nL lv rt) {x y : Int32} {off : Int} {tgt : Nat} (d : decode cc pc = .ok (.if_icmp .ne off, 3)) (ht : (pc : Int) + off = (tgt : Int)) (kt : ¬ x = y → At G X nL Q tgt L st S) (kf : x = y → At G X nL Q (pc + 3) L st S) : At G X nL Q pc L (.int y :: .int x :: st) S := fun ls H locs hl hP hS => lv_icmp_ne C.1 C.2.1 d ht (fun h => kt h ls H locs hl hP hS) (fun h => kf h ls H locs hl hP hS)
theorem at_if_lt (C : Cx G X own cc nL lv rt) {x : Int32} {off : Int} {tgt : Nat} (d : decode cc pc = .ok (.ifCond .lt off, 3)) (ht : (pc : Int) + off = (tgt : Int)) (kt : x < 0 → At G X nL Q tgt L st S) (kf : ¬ x < 0 → At G X nL Q (pc + 3) L st S) : At G X nL Q pc L (.int x :: st) S := fun ls H locs hl hP hS => lv_if_lt C.1 C.2.1 d ht (fun h => kt h ls H locs hl hP hS) (fun h => kf h ls H locs hl hP hS)
theorem at_icmp_lt (C : Cx G X own cc nL lv rt) {x y : Int32} {off : Int} {tgt : Nat} (d : decode cc pc = .ok (.if_icmp .lt off, 3)) (ht : (pc : Int) + off = (tgt : Int)) (kt : x < y → At G X nL Q tgt L st S) (kf : ¬ x < y → At G X nL Q (pc + 3) L st S) : At G X nL Q pc L (.int y :: .int x :: st) S := fun ls H locs hl hP hS => lv_icmp_lt C.1 C.2.1 d ht (fun h => kt h ls H locs hl hP hS) (fun h => kf h ls H locs hl hP hS)
theorem at_if_ge (C : Cx G X own cc nL lv rt) {x : Int32} {off : Int} {tgt : Nat} (d : decode cc pc = .ok (.ifCond .ge off, 3)) (ht : (pc : Int) + off = (tgt : Int)) (kt : 0 ≤ x → At G X nL Q tgt L st S) (kf : ¬ 0 ≤ x → At G X nL Q (pc + 3) L st S) : At G X nL Q pc L (.int x :: st) S := fun ls H locs hl hP hS => lv_if_ge C.1 C.2.1 d ht (fun h => kt h ls H locs hl hP hS) (fun h => kf h ls H locs hl hP hS)
theorem at_icmp_ge (C : Cx G X own cc nL lv rt) {x y : Int32} {off : Int} {tgt : Nat} (d : decode cc pc = .ok (.if_icmp .ge off, 3)) (ht : (pc : Int) + off = (tgt : Int)) (kt : y ≤ x → At G X nL Q tgt L st S) (kf : ¬ y ≤ x → At G X nL Q (pc + 3) L st S) : At G X nL Q pc L (.int y :: .int x :: st) S := fun ls H locs hl hP hS => lv_icmp_ge C.1 C.2.1 d ht (fun h => kt h ls H locs hl hP hS) (fun h => kf h ls H locs hl hP hS)
theorem at_if_gt (C : Cx G X own cc nL lv rt) {x : Int32} {off : Int} {tgt : Nat} (d : decode cc pc = .ok (.ifCond .gt off, 3)) (ht : (pc : Int) + off = (tgt : Int)) (kt : 0 < x → At G X nL Q tgt L st S) (kf : ¬ 0 < x → At G X nL Q (pc + 3) L st S) : At G X nL Q pc L (.int x :: st) S := fun ls H locs hl hP hS => lv_if_gt C.1 C.2.1 d ht (fun h => kt h ls H locs hl hP hS) (fun h => kf h ls H locs hl hP hS)
theorem at_icmp_gt (C : Cx G X own cc nL lv rt) {x y : Int32} {off : Int} {tgt : Nat} (d : decode cc pc = .ok (.if_icmp .gt off, 3)) (ht : (pc : Int) + off = (tgt : Int)) (kt : y < x → At G X nL Q tgt L st S) (kf : ¬ y < x → At G X nL Q (pc + 3) L st S) : At G X nL Q pc L (.int y :: .int x :: st) S := fun ls H locs hl hP hS => lv_icmp_gt C.1 C.2.1 d ht (fun h => kt h ls H locs hl hP hS) (fun h => kf h ls H locs hl hP hS)
theorem at_if_le (C : Cx G X own cc nL lv rt) {x : Int32} {off : Int} {tgt : Nat} (d : decode cc pc = .ok (.ifCond .le off, 3)) (ht : (pc : Int) + off = (tgt : Int)) (kt : x ≤ 0 → At G X nL Q tgt L st S) (kf : ¬ x ≤ 0 → At G X nL Q (pc + 3) L st S) : At G X nL Q pc L (.int x :: st) S := fun ls H locs hl hP hS => lv_if_le C.1 C.2.1 d ht (fun h => kt h ls H locs hl hP hS) (fun h => kf h ls H locs hl hP hS)
theorem at_icmp_le (C : Cx G X own cc nL lv rt) {x y : Int32} {off : Int} {tgt : Nat} (d : decode cc pc = .ok (.if_icmp .le off, 3)) (ht : (pc : Int) + off = (tgt : Int)) (kt : x ≤ y → At G X nL Q tgt L st S) (kf : ¬ x ≤ y → At G X nL Q (pc + 3) L st S) : At G X nL Q pc L (.int y :: .int x :: st) S := fun ls H locs hl hP hS => lv_icmp_le C.1 C.2.1 d ht (fun h => kt h ls H locs hl hP hS) (fun h => kf h ls H locs hl hP hS)
theorem at_goto (C : Cx G X own cc nL lv rt) {off : Int} {tgt : Nat} (d : decode cc pc = .ok (.goto off, 3)) (ht : (pc : Int) + off = (tgt : Int)) (kk : At G X nL Q tgt L st S) : At G X nL Q pc L st S := fun ls H locs hl hP hS => lv_goto C.1 C.2.1 d ht (kk ls H locs hl hP hS)
theorem at_tin (C : Cx G X own cc nL lv rt) {dflt lo hi : Int} {offs : Array Int} {len : Nat} {x : Int32} {off : Int} {tgt : Nat} (c : Int32) (hx : x = c) (d : decode cc pc = .ok (.tableswitch dflt lo hi offs, len)) (h1 : ¬ c.toInt < lo) (h2 : ¬ hi < c.toInt) (ho : offs[(c.toInt - lo).toNat]? = some off) (ht : (pc : Int) + off = (tgt : Int)) (kk : At G X nL Q tgt L st S) : At G X nL Q pc L (.int x :: st) S := by
  subst hx
  exact fun ls H locs hl hP hS => lv_tableIn C.1 C.2.1 d h1 h2 ho ht (kk ls H locs hl hP hS)
theorem at_tout (C : Cx G X own cc nL lv rt) {dflt lo hi : Int} {offs : Array Int} {len : Nat} {x : Int32} {tgt : Nat} (d : decode cc pc = .ok (.tableswitch dflt lo hi offs, len)) (h : x.toInt < lo ∨ hi < x.toInt) (ht : (pc : Int) + dflt = (tgt : Int)) (kk : At G X nL Q tgt L st S) : At G X nL Q pc L (.int x :: st) S := fun ls H locs hl hP hS => lv_tableOut C.1 C.2.1 d h ht (kk ls H locs hl hP hS)
theorem at_lsw (C : Cx G X own cc nL lv rt) {dflt : Int} {ps : Array (Int × Int)} {len : Nat} {x : Int32} {off : Int} {tgt : Nat} (d : decode cc pc = .ok (.lookupswitch dflt ps, len)) (hp : (ps.toList.zip (ps.toList.drop 1)).all (fun (a, next) => a.1 < next.1) = true) (ho : Op.lookupswitch.offset ps.toList dflt x.toInt = off) (ht : (pc : Int) + off = (tgt : Int)) (kk : At G X nL Q tgt L st S) : At G X nL Q pc L (.int x :: st) S := fun ls H locs hl hP hS => lv_lookup C.1 C.2.1 d hp ho ht (kk ls H locs hl hP hS)
/-- the answer: an int of a method that answers one -/
theorem at_iret (C : Cx G X own cc nL lv (some .int)) {x : Int32} (d : decode cc pc = .ok (.ireturn, 1)) : At G X nL (MQ (xb X) (Qw G (some (.int x)) S) (xa X) (xs X) (xk X) (xz X) (Aw G)) pc L [.int x] S := fun _ _ _ _ hP hS => W.iret C.1 C.2.1 C.2.2.2.2.2.2.2.1 (fun _ ht _ => ⟨rfl, by rw [ht]; exact hP, hS.F ht⟩) hS.2.2 d C.2.2.2.2.2.2.2.2.1
theorem at_zret {ty : FieldType} (C : Cx G X own cc nL lv (some ty)) {x : Int32} (hz : narrow ty (.int x) = .int x) (d : decode cc pc = .ok (.ireturn, 1)) : At G X nL (MQ (xb X) (Qw G (some (.int x)) S) (xa X) (xs X) (xk X) (xz X) (Aw G)) pc L [.int x] S := fun _ _ _ _ hP hS => W.zret C.1 C.2.1 C.2.2.2.2.2.2.2.1 hz (fun _ ht _ => ⟨rfl, by rw [ht]; exact hP, hS.F ht⟩) hS.2.2 d C.2.2.2.2.2.2.2.2.1
theorem at_lret (C : Cx G X own cc nL lv (some .long)) {x : Int64} (d : decode cc pc = .ok (.lreturn, 1)) : At G X nL (MQ (xb X) (Qw G (some (.long x)) S) (xa X) (xs X) (xk X) (xz X) (Aw G)) pc L [.long x] S := fun _ _ _ _ hP hS => W.lret C.1 C.2.1 C.2.2.2.2.2.2.2.1 (fun _ ht _ => ⟨rfl, by rw [ht]; exact hP, hS.F ht⟩) hS.2.2 d C.2.2.2.2.2.2.2.2.1
theorem at_vret (C : Cx G X own cc nL lv none) (d : decode cc pc = .ok (.return_, 1)) : At G X nL (MQ (xb X) (Qw G none S) (xa X) (xs X) (xk X) (xz X) (Aw G)) pc L [] S := fun _ _ _ _ hP hS => W.vret C.1 C.2.1 C.2.2.2.2.2.2.2.1 (fun _ ht _ => ⟨rfl, by rw [ht]; exact hP, hS.F ht⟩) hS.2.2 d C.2.2.2.2.2.2.2.2.1
theorem at_aret {t : FieldType} (C : Cx G X own cc nL lv (some (.array t))) {x : Nat} (d : decode cc pc = .ok (.areturn, 1)) : At G X nL (MQ (xb X) (Qw G (some (.ref x)) S) (xa X) (xs X) (xk X) (xz X) (Aw G)) pc L [.ref x] S := fun _ _ _ _ hP hS => W.aret C.1 C.2.1 C.2.2.2.2.2.2.2.1 (Or.inr ⟨t, rfl⟩) (Or.inr ⟨x, rfl⟩) (fun _ ht _ => ⟨rfl, by rw [ht]; exact hP, hS.F ht⟩) hS.2.2 d C.2.2.2.2.2.2.2.2.1
/-- another name of the state -/
theorem at_st {S1 : ST} (h : S = S1) (kk : At G X nL Q pc L st S1) : At G X nL Q pc L st S := by
  subst h
  exact kk
/-- fields -/
theorem at_get (C : Cx G X own cc nL lv rt) (q ci k : Nat) {fs : List Value} {T : u_T} {N index a : Nat} {cn : String} {w : Value} (he : (wld G S)[q]? = some (a, .inr (ci, fs))) (hc : cls[ci]? = some (cn, T, N)) (hk : k < N) (hin : ∀ w ∈ u_ws cn T N, w ∈ gw) (hlink : Cond.fieldLink own index (T k).1 (T k).2.1 (T k).2.2.1 ∈ gw) (hv : fs[k]? = some w) (d : decode cc pc = .ok (.getfield index, 3)) (kk : At G X nL Q (pc + 3) L (w :: st) S) : At G X nL Q pc L (.ref a :: st) S :=
  fun ls H locs hl hP hS => va_get (D := G.1) (cl := cls) (tys := tys G) (ws := wld G S) (C := cn) (T := T) (N := N) C.1 C.2.1 C.2.2.2.2.1 hin C.2.2.2.1 C.2.2.2.2.2.1.1 hP q he hc k hk (C.2.2.2.2.1 _ hlink) (fun _ h => h) hv d (kk ls H locs hl hP hS)
theorem at_put (C : Cx G X own cc nL lv rt) (q ci k : Nat) {fs : List Value} {T : u_T} {N index a : Nat} {cn : String} {w : Value} {ty : FieldType} {S1 : ST} (he : (wld G S)[q]? = some (a, .inr (ci, fs))) (hc : cls[ci]? = some (cn, T, N)) (hk : k < N) (hin : ∀ w ∈ u_ws cn T N, w ∈ gw) (ty0 : Nat → FieldType) (hty : ∀ k, k < N → parseFieldDescriptor (T k).2.2.1 = some (ty0 k)) (hnm : ∀ a, a < N → ∀ b, b < N → a ≠ b → (T a).2.1 ≠ (T b).2.1) (hlink : Cond.fieldLink own index (T k).1 (T k).2.1 (T k).2.2.1 ∈ gw) (hfin : (T k).2.2.2 = false) (hd : ty0 k = ty) (hn : narrow ty w = w) (hfit : fits ty w = true) (hl : k < fs.length) (hset : (wld G S).set q (a, .inr (ci, fs.set k w)) = wld G S1) (d : decode cc pc = .ok (.putfield index, 3)) (kk : At G X nL Q (pc + 3) L st S1) : At G X nL Q pc L (w :: .ref a :: st) S :=
  fun ls H locs hll hP hS => va_put (D := G.1) (cl := cls) (tys := tys G) (ws := wld G S) (C := cn) (T := T) (N := N) C.1 C.2.1 C.2.2.2.2.1 hin ty0 hty hnm C.2.2.2.1 C.2.2.2.2.2.1.1 hP (wld_D C.2.2.2.2.2.2.1 S) hS q he hc k hk (C.2.2.2.2.1 _ hlink) (fun _ h => h) hfin (by rw [hty k hk, hd]) hn hfit hl d (fun H1 locs1 hP1 _ hS1 => kk ls H1 locs1 hll (by rw [← hset]; exact hP1) hS1)
/-- arrays -/
theorem at_iald (C : Cx G X own cc nL lv rt) (q : Nat) {n a : Nat} {f : Nat → Int32} {i : Int32} (ha : (wld G S)[q]? = some (a, .inl (cy G 0, n, .inl f))) (hi : inb i n = true) (d : decode cc pc = .ok (.iaload, 1)) (kk : At G X nL Q (pc + 1) L (.int (f i.toNatClampNeg) :: st) S) : At G X nL Q pc L (.int i :: .ref a :: st) S :=
  fun ls H locs hl hP hS => va_iald (tys := tys G) C.1 C.2.1 C.2.2.2.2.2.1.1 hP q 0 ha rfl (inb_in hi) d (kk ls H locs hl hP hS)
theorem at_bald (C : Cx G X own cc nL lv rt) (q : Nat) {n a : Nat} {f : Nat → Int32} {i : Int32} (ha : (wld G S)[q]? = some (a, .inl (cy G 1, n, .inl f))) (hi : inb i n = true) (d : decode cc pc = .ok (.baload, 1)) (kk : At G X nL Q (pc + 1) L (.int (f i.toNatClampNeg) :: st) S) : At G X nL Q pc L (.int i :: .ref a :: st) S :=
  fun ls H locs hl hP hS => va_bald (tys := tys G) C.1 C.2.1 C.2.2.2.2.2.1.1 hP q 1 ha rfl (inb_in hi) d (kk ls H locs hl hP hS)
theorem at_zald (C : Cx G X own cc nL lv rt) (q : Nat) {n a : Nat} {f : Nat → Int32} {i : Int32} (ha : (wld G S)[q]? = some (a, .inl (cy G 3, n, .inl f))) (hi : inb i n = true) (d : decode cc pc = .ok (.baload, 1)) (kk : At G X nL Q (pc + 1) L (.int (f i.toNatClampNeg) :: st) S) : At G X nL Q pc L (.int i :: .ref a :: st) S :=
  fun ls H locs hl hP hS => va_zald (tys := tys G) C.1 C.2.1 C.2.2.2.2.2.1.1 hP q 3 ha rfl (inb_in hi) d (kk ls H locs hl hP hS)
theorem at_lald (C : Cx G X own cc nL lv rt) (q : Nat) {n a : Nat} {f : Nat → Int64} {i : Int32} (ha : (wld G S)[q]? = some (a, .inl (cy G 2, n, .inr (.inl f)))) (hi : inb i n = true) (d : decode cc pc = .ok (.laload, 1)) (kk : At G X nL Q (pc + 1) L (.long (f i.toNatClampNeg) :: st) S) : At G X nL Q pc L (.int i :: .ref a :: st) S :=
  fun ls H locs hl hP hS => va_lald (tys := tys G) C.1 C.2.1 C.2.2.2.2.2.1.1 hP q 2 ha rfl (inb_in hi) d (kk ls H locs hl hP hS)
theorem at_aald (C : Cx G X own cc nL lv rt) (q : Nat) {n a b : Nat} {f : Nat → Option Nat} {i : Int32} (ha : (wld G S)[q]? = some (a, .inl (cy G 4, n, .inr (.inr (.inr (.inr f)))))) (hi : inb i n = true) (hf : va_rf (f i.toNatClampNeg) = .ref b) (d : decode cc pc = .ok (.aaload, 1)) (kk : At G X nL Q (pc + 1) L (.ref b :: st) S) : At G X nL Q pc L (.int i :: .ref a :: st) S := by
  intro ls H locs hl hP hS
  have hin := inb_in hi
  have hlt := inb_lt hi
  refine W.aald (v := va_rf (f i.toNatClampNeg)) (ty := .array .int) C.1 C.2.1 (hP q _ ha) ((C.2.2.2.2.2.1.1.2 4 _ rfl).1 n (fun j => va_rf (f j))) rfl (fun q => by cases q) (by show ¬ (i < 0 ∨ (arrV _ _ _).slots.size ≤ _); rw [arrV_size]; exact hin) (by show (arrV _ _ _).slots[_]? = _; rw [arrV_read _ _ hlt]) rfl rfl d ?_
  rw [hf]
  exact kk ls H locs hl hP hS
theorem at_iast (C : Cx G X own cc nL lv rt) (q : Nat) {n a : Nat} {f : Nat → Int32} {i x : Int32} {S1 : ST} (ha : (wld G S)[q]? = some (a, .inl (cy G 0, n, .inl f))) (hi : inb i n = true) (hset : (wld G S).set q (a, .inl (cy G 0, n, .inl (upd f i.toNatClampNeg x))) = wld G S1) (d : decode cc pc = .ok (.iastore, 1)) (kk : At G X nL Q (pc + 1) L st S1) : At G X nL Q pc L (.int x :: .int i :: .ref a :: st) S :=
  fun ls H locs hl hP hS => va_iast (tys := tys G) C.1 C.2.1 C.2.2.2.2.2.1.1 hP (wld_D C.2.2.2.2.2.2.1 S) hS q 0 ha rfl (inb_in hi) d (fun H1 locs1 hP1 _ hS1 => kk ls H1 locs1 hl (by rw [← hset]; exact hP1) hS1)
theorem at_bast (C : Cx G X own cc nL lv rt) (q : Nat) {n a : Nat} {f : Nat → Int32} {i x : Int32} {S1 : ST} (ha : (wld G S)[q]? = some (a, .inl (cy G 1, n, .inl f))) (hi : inb i n = true) (hset : (wld G S).set q (a, .inl (cy G 1, n, .inl (upd f i.toNatClampNeg (vp_nar .byte x)))) = wld G S1) (d : decode cc pc = .ok (.bastore, 1)) (kk : At G X nL Q (pc + 1) L st S1) : At G X nL Q pc L (.int x :: .int i :: .ref a :: st) S :=
  fun ls H locs hl hP hS => va_bast (tys := tys G) C.1 C.2.1 C.2.2.2.2.2.1.1 hP (wld_D C.2.2.2.2.2.2.1 S) hS q 1 ha rfl (inb_in hi) d (fun H1 locs1 hP1 _ hS1 => kk ls H1 locs1 hl (by rw [← hset]; exact hP1) hS1)
theorem at_zast (C : Cx G X own cc nL lv rt) (q : Nat) {n a : Nat} {f : Nat → Int32} {i x : Int32} {S1 : ST} (ha : (wld G S)[q]? = some (a, .inl (cy G 3, n, .inl f))) (hi : inb i n = true) (hset : (wld G S).set q (a, .inl (cy G 3, n, .inl (upd f i.toNatClampNeg (vp_nar .boolean x)))) = wld G S1) (d : decode cc pc = .ok (.bastore, 1)) (kk : At G X nL Q (pc + 1) L st S1) : At G X nL Q pc L (.int x :: .int i :: .ref a :: st) S :=
  fun ls H locs hl hP hS => va_zast (tys := tys G) C.1 C.2.1 C.2.2.2.2.2.1.1 hP (wld_D C.2.2.2.2.2.2.1 S) hS q 3 ha rfl (inb_in hi) d (fun H1 locs1 hP1 _ hS1 => kk ls H1 locs1 hl (by rw [← hset]; exact hP1) hS1)
theorem at_last (C : Cx G X own cc nL lv rt) (q : Nat) {n a : Nat} {f : Nat → Int64} {i : Int32} {x : Int64} {S1 : ST} (ha : (wld G S)[q]? = some (a, .inl (cy G 2, n, .inr (.inl f)))) (hi : inb i n = true) (hset : (wld G S).set q (a, .inl (cy G 2, n, .inr (.inl (vp_updL f i.toNatClampNeg x)))) = wld G S1) (d : decode cc pc = .ok (.lastore, 1)) (kk : At G X nL Q (pc + 1) L st S1) : At G X nL Q pc L (.long x :: .int i :: .ref a :: st) S :=
  fun ls H locs hl hP hS => va_last (tys := tys G) C.1 C.2.1 C.2.2.2.2.2.1.1 hP (wld_D C.2.2.2.2.2.2.1 S) hS q 2 ha rfl (inb_in hi) d (fun H1 locs1 hP1 _ hS1 => kk ls H1 locs1 hl (by rw [← hset]; exact hP1) hS1)
/-- calls: the words -/
def kV (own : String) (idx : Nat) (cn : String) (y : MethodName) (bytes : ByteArray) (mL : Nat) (ret : Option FieldType) (n : Nat) : Prop :=
  Cond.methodLink own idx y ∈ gw ∧ Cond.instanceMethod y ∈ gw ∧ Cond.selects cn y y ∈ gw ∧ Cond.initialized y.cls ∈ gw ∧ Cond.code y bytes mL ret ∈ gw ∧ (y.cls ≠ "java/lang/invoke/MethodHandle" ∧ y.cls ≠ "java/lang/invoke/VarHandle" ∧ (parseMethodDescriptor y.desc).map (fun d => d.parameters.length) = some n) ∧ mL ≤ 40
def kS (own : String) (idx : Nat) (y : MethodName) (bytes : ByteArray) (mL : Nat) (ret : Option FieldType) (n : Nat) : Prop :=
  Cond.methodLink own idx y ∈ gw ∧ Cond.static y ∈ gw ∧ Cond.initialized y.cls ∈ gw ∧ Cond.code y bytes mL ret ∈ gw ∧ (y.cls ≠ "java/lang/invoke/MethodHandle" ∧ y.cls ≠ "java/lang/invoke/VarHandle" ∧ (parseMethodDescriptor y.desc).map (fun d => d.parameters.length) = some n) ∧ mL ≤ 40
def kN (own : String) (idx : Nat) (y : MethodName) (host : String) (bytes : ByteArray) (mL : Nat) (ret : Option FieldType) (n : Nat) : Prop :=
  (own, idx, y, host) ∈ nst ∧ Cond.static y ∈ gw ∧ Cond.initialized y.cls ∈ gw ∧ Cond.code y bytes mL ret ∈ gw ∧ (y.cls ≠ "java/lang/invoke/MethodHandle" ∧ y.cls ≠ "java/lang/invoke/VarHandle" ∧ (parseMethodDescriptor y.desc).map (fun d => d.parameters.length) = some n) ∧ mL ≤ 40
theorem gw_good {y : MethodName} {bytes : ByteArray} {mL : Nat} {ret : Option FieldType} (h : Cond.code y bytes mL ret ∈ gw) : GoodIn gw (.code y bytes mL ret :: gw) := by
  intro w hw
  have hm : w ∈ gw := by
    rcases List.mem_cons.mp hw with rfl | h2
    · exact h
    · exact h2
  exact ⟨hm, good_of_word (List.mem_filter.mp hm).2⟩
theorem at_run {vr : Option Value} {S1 : ST} {st0 : List Value} (a : Array Value) {ls : Array Slot} {H : Heap} {locs : List Loc} (hl : lv_has ls nL L) (hS : va_S (Aw G) (xs X).heap H locs) (hrun : va_Run (xp X) (xl X) (xe X) (xR X) (xs X) (xm X) (xa X) (xb X) (xh X) (xc X) H locs (xk X) (xz X) 0 0 (F0 (xm X) pc ls st0) st (Qw G vr S1 a) (Aw G)) (kk : At G X nL Q (pc + 3) L (vr.toList ++ st) S1) :
    W (xp X) (xl X) (xe X) (xR X) (xs X) (xm X) (xa X) (xb X) (xh X) (xc X) H locs (xk X) (xz X) Q (F0 (xm X) pc ls st0) := by
  intro T hT XX
  obtain ⟨v', st₀, t, T', L', h0, X', hL, e1, e2, ⟨ho, hP1, hz, hk⟩, go⟩ := hrun T hT XX
  cases ho
  rw [h0] at hz hk
  obtain ⟨t2, a1, b1⟩ := kk ls T'.heap (locs ++ L') hl (by rw [e1]; exact hP1) ⟨Nat.le_trans hS.1 (by rw [e1]; exact hz), fun q h1 h2 => by rw [e1, hk q (Nat.lt_of_lt_of_le h1 hS.1) h2]; exact hS.2.1 q h1 h2, fun q hq => by
    rcases List.mem_append.mp hq with h | h
    · exact hS.2.2 q h
    · exact hL q h⟩ T' rfl X'
  exact ⟨t2, go t2 a1, b1⟩
theorem rmm_fit {j mL : Nat} (C : Cx G X own cc nL lv rt) (hj : j < lv) (hm : mL ≤ 40) : (rmm j).frames + 1 ≤ (xR X).frames ∧ 8 + (mL + 11) + (rmm j).locals ≤ (xR X).locals := by
  have h1 := C.2.2.2.2.2.2.2.2.2.1
  have h2 := C.2.2.2.2.2.2.2.2.2.2.1
  show j + 1 ≤ (xR X).frames ∧ 8 + (mL + 11) + 60 * j ≤ (xR X).locals
  omega
theorem at_callV {idx n j mL q ci N : Nat} {cn : String} {y : MethodName} {bytes : ByteArray} {ret : Option FieldType} {vr : Option Value} {S1 : ST} {As st0 : List Value} {fs : List Value} {T : u_T} (C : Cx G X own cc nL lv rt) (hk : kV own idx cn y bytes mL ret n) (hM : Met (xl X) y (.code y bytes mL ret :: gw) (rmm j) (PcW G (.ref (ad G q) :: As) S) (Qw G vr S1) 0 0 (Aw G)) (hj : j < lv) (hr : (wld G S)[q]? = some (ad G q, .inr (ci, fs))) (hc : cls[ci]? = some (cn, T, N)) (hn : As.length = n) (hst : st0 = As.reverse ++ .ref (ad G q) :: st) (hcat : (st.map fun v => v.category).sum ≤ 8) (d : decode cc pc = .ok (.invokevirtual idx, 3)) (kk : At G X nL Q (pc + 3) L (vr.toList ++ st) S1) : At G X nL Q pc L st0 S := by
  intro ls H locs hl hP hS
  obtain ⟨k1, k2, k3, k4, k5, k6, k7⟩ := hk
  have hts := C.2.2.2.2.1
  refine at_run _ hl hS (va_runV (As := As) (C := cn) (cc := cc) (nL := nL) (Ts := gw) (own := own) (n := n) ⟨C.1, C.2.1, C.2.2.1, C.2.2.2.1, hts⟩ hM ⟨callB_of n hts (gw_good k5) rfl rfl rfl (hts _ k4) (hts _ k1) k6 (rmm_fit C hj k7), hts _ k2, hts _ k3⟩ ⟨PcW.blind, va_recv C.2.2.2.2.2.1.1 hP hc hr, fun U hU hW => ⟨rfl, by rw [hU]; exact hP, C.2.2.2.2.2.1.pass hW hU hS⟩⟩ rfl hn hl.1 hst (lv_room hcat) d C.2.2.2.2.2.2.2.2.2.2.2) kk
theorem at_callS {idx n j mL : Nat} {y : MethodName} {bytes : ByteArray} {ret : Option FieldType} {vr : Option Value} {S1 : ST} {As st0 : List Value} (C : Cx G X own cc nL lv rt) (hk : kS own idx y bytes mL ret n) (hM : Met (xl X) y (.code y bytes mL ret :: gw) (rmm j) (PcW G As S) (Qw G vr S1) 0 0 (Aw G)) (hj : j < lv) (hn : As.length = n) (hst : st0 = As.reverse ++ st) (hcat : (st.map fun v => v.category).sum ≤ 8) (d : decode cc pc = .ok (.invokestatic idx, 3)) (kk : At G X nL Q (pc + 3) L (vr.toList ++ st) S1) : At G X nL Q pc L st0 S := by
  intro ls H locs hl hP hS
  obtain ⟨k1, k2, k4, k5, k6, k7⟩ := hk
  have hts := C.2.2.2.2.1
  refine at_run _ hl hS (va_runS (As := As) (cc := cc) (nL := nL) (Ts := gw) (own := own) (n := n) ⟨C.1, C.2.1, C.2.2.1, C.2.2.2.1, hts⟩ hM ⟨callB_of n hts (gw_good k5) rfl rfl rfl (hts _ k4) (hts _ k1) k6 (rmm_fit C hj k7), hts _ k2⟩ ⟨PcW.blind, fun U hU hW => ⟨rfl, by rw [hU]; exact hP, C.2.2.2.2.2.1.pass hW hU hS⟩⟩ rfl hn hl.1 hst (lv_room hcat) d C.2.2.2.2.2.2.2.2.2.2.2) kk
theorem at_callN {idx n j mL : Nat} {host : String} {y : MethodName} {bytes : ByteArray} {ret : Option FieldType} {vr : Option Value} {S1 : ST} {As st0 : List Value} (C : Cx G X own cc nL lv rt) (hk : kN own idx y host bytes mL ret n) (hM : Met (xl X) y (.code y bytes mL ret :: gw) (rmm j) (PcW G As S) (Qw G vr S1) 0 0 (Aw G)) (hj : j < lv) (hn : As.length = n) (hst : st0 = As.reverse ++ st) (hcat : (st.map fun v => v.category).sum ≤ 8) (d : decode cc pc = .ok (.invokestatic idx, 3)) (kk : At G X nL Q (pc + 3) L (vr.toList ++ st) S1) : At G X nL Q pc L st0 S := by
  intro ls H locs hl hP hS
  obtain ⟨k1, k2, k4, k5, k6, k7⟩ := hk
  have hts := C.2.2.2.2.1
  refine at_run _ hl hS (va_runSN (As := As) (cc := cc) (nL := nL) (Ts := gw) (own := own) (n := n) (host := host) ⟨C.1, C.2.1, C.2.2.1, C.2.2.2.1, hts⟩ hM ⟨va_cnB n hts (gw_good k5) rfl rfl rfl (C.2.2.2.2.2.1.2.1 _ k1) (hts _ k4) k6 (rmm_fit C hj k7), hts _ k2, trivial⟩ ⟨PcW.blind, fun U hU hW => ⟨rfl, by rw [hU]; exact hP, C.2.2.2.2.2.1.pass hW hU hS⟩⟩ rfl hn hl.1 hst (lv_room hcat) d C.2.2.2.2.2.2.2.2.2.2.2) kk
end ROWS
end
section
section ROWS2
variable {G : GG} {X : CX} {own : String} {cc : ByteArray} {nL lv pc : Nat} {rt : Option FieldType} {Q : State → Prop} {S : ST} {L : List (Nat × Value)} {st : List Value}
theorem lkTL_roads : Cond.fieldLink RcTL 12 "TributeLists" "roads" "LTributeLists$Roads;" ∈ gw := mg (i := 280) (by decide +kernel) rfl
theorem gfTL_roads (C : Cx G X RcTL cc nL lv rt) (d : decode cc pc = .ok (.getfield 12, 3)) (kk : At G X nL Q (pc + 3) L (.ref (ad G 1) :: st) S) : At G X nL Q pc L (.ref (ad G 0) :: st) S := at_get C 0 9 0 rfl rfl (by decide) iwTL lkTL_roads rfl d kk
theorem lkTL_porters : Cond.fieldLink RcTL 19 "TributeLists" "porters" "LTributeLists$Porters;" ∈ gw := mg (i := 281) (by decide +kernel) rfl
theorem gfTL_porters (C : Cx G X RcTL cc nL lv rt) (d : decode cc pc = .ok (.getfield 19, 3)) (kk : At G X nL Q (pc + 3) L (.ref (ad G 2) :: st) S) : At G X nL Q pc L (.ref (ad G 0) :: st) S := at_get C 0 9 1 rfl rfl (by decide) iwTL lkTL_porters rfl d kk
theorem lkTL_tape : Cond.fieldLink RcTL 26 "TributeLists" "tape" "LTributeLists$Tape;" ∈ gw := mg (i := 282) (by decide +kernel) rfl
theorem gfTL_tape (C : Cx G X RcTL cc nL lv rt) (d : decode cc pc = .ok (.getfield 26, 3)) (kk : At G X nL Q (pc + 3) L (.ref (ad G 3) :: st) S) : At G X nL Q pc L (.ref (ad G 0) :: st) S := at_get C 0 9 2 rfl rfl (by decide) iwTL lkTL_tape rfl d kk
theorem lkTL_reader : Cond.fieldLink RcTL 33 "TributeLists" "reader" "LTributeLists$ListReader;" ∈ gw := mg (i := 283) (by decide +kernel) rfl
theorem gfTL_reader (C : Cx G X RcTL cc nL lv rt) (d : decode cc pc = .ok (.getfield 33, 3)) (kk : At G X nL Q (pc + 3) L (.ref (ad G 4) :: st) S) : At G X nL Q pc L (.ref (ad G 0) :: st) S := at_get C 0 9 3 rfl rfl (by decide) iwTL lkTL_reader rfl d kk
theorem lkTL_copies : Cond.fieldLink RcTL 40 "TributeLists" "copies" "LTributeLists$Copies;" ∈ gw := mg (i := 284) (by decide +kernel) rfl
theorem gfTL_copies (C : Cx G X RcTL cc nL lv rt) (d : decode cc pc = .ok (.getfield 40, 3)) (kk : At G X nL Q (pc + 3) L (.ref (ad G 5) :: st) S) : At G X nL Q pc L (.ref (ad G 0) :: st) S := at_get C 0 9 4 rfl rfl (by decide) iwTL lkTL_copies rfl d kk
theorem lkTL_accounts : Cond.fieldLink RcTL 47 "TributeLists" "accounts" "LTributeLists$Accounts;" ∈ gw := mg (i := 285) (by decide +kernel) rfl
theorem gfTL_accounts (C : Cx G X RcTL cc nL lv rt) (d : decode cc pc = .ok (.getfield 47, 3)) (kk : At G X nL Q (pc + 3) L (.ref (ad G 6) :: st) S) : At G X nL Q pc L (.ref (ad G 0) :: st) S := at_get C 0 9 5 rfl rfl (by decide) iwTL lkTL_accounts rfl d kk
theorem lkTL_sendings : Cond.fieldLink RcTL 54 "TributeLists" "sendings" "LTributeLists$Sendings;" ∈ gw := mg (i := 286) (by decide +kernel) rfl
theorem gfTL_sendings (C : Cx G X RcTL cc nL lv rt) (d : decode cc pc = .ok (.getfield 54, 3)) (kk : At G X nL Q (pc + 3) L (.ref (ad G 7) :: st) S) : At G X nL Q pc L (.ref (ad G 0) :: st) S := at_get C 0 9 6 rfl rfl (by decide) iwTL lkTL_sendings rfl d kk
theorem lkTL_markets : Cond.fieldLink RcTL 61 "TributeLists" "markets" "LTributeLists$Markets;" ∈ gw := mg (i := 287) (by decide +kernel) rfl
theorem gfTL_markets (C : Cx G X RcTL cc nL lv rt) (d : decode cc pc = .ok (.getfield 61, 3)) (kk : At G X nL Q (pc + 3) L (.ref (ad G 8) :: st) S) : At G X nL Q pc L (.ref (ad G 0) :: st) S := at_get C 0 9 7 rfl rfl (by decide) iwTL lkTL_markets rfl d kk
theorem lkTL_shares : Cond.fieldLink RcTL 68 "TributeLists" "shares" "LTributeLists$Shares;" ∈ gw := mg (i := 288) (by decide +kernel) rfl
theorem gfTL_shares (C : Cx G X RcTL cc nL lv rt) (d : decode cc pc = .ok (.getfield 68, 3)) (kk : At G X nL Q (pc + 3) L (.ref (ad G 9) :: st) S) : At G X nL Q pc L (.ref (ad G 0) :: st) S := at_get C 0 9 8 rfl rfl (by decide) iwTL lkTL_shares rfl d kk
theorem lkTL_clock : Cond.fieldLink RcTL 72 "TributeLists" "clock" "I" ∈ gw := mg (i := 289) (by decide +kernel) rfl
theorem gfTL_clock (C : Cx G X RcTL cc nL lv rt) {x : Int32} (hx : gTL_clock S = x) (d : decode cc pc = .ok (.getfield 72, 3)) (kk : At G X nL Q (pc + 3) L (.int x :: st) S) : At G X nL Q pc L (.ref (ad G 0) :: st) S := by
  subst hx
  exact at_get C 0 9 9 rfl rfl (by decide) iwTL lkTL_clock rfl d kk
theorem pfTL_clock (C : Cx G X RcTL cc nL lv rt) {x : Int32} (d : decode cc pc = .ok (.putfield 72, 3)) (kk : At G X nL Q (pc + 3) L st (sTL_clock S x)) : At G X nL Q pc L (.int x :: .ref (ad G 0) :: st) S := at_put C 0 9 9 rfl rfl (by decide) iwTL tcTL tyTL nmTL lkTL_clock rfl rfl rfl rfl (Nat.le_of_ble_eq_true rfl) rfl d kk
theorem lkRo_length : Cond.fieldLink RcRo 9 "TributeLists$Roads" "length" "[I" ∈ gw := mg (i := 73) (by decide +kernel) rfl
theorem gfRo_length (C : Cx G X RcRo cc nL lv rt) (d : decode cc pc = .ok (.getfield 9, 3)) (kk : At G X nL Q (pc + 3) L (.ref (ad G 10) :: st) S) : At G X nL Q pc L (.ref (ad G 1) :: st) S := at_get C 1 5 0 rfl rfl (by decide) iwRo lkRo_length rfl d kk
theorem lkRo_reach : Cond.fieldLink RcRo 15 "TributeLists$Roads" "reach" "[I" ∈ gw := mg (i := 74) (by decide +kernel) rfl
theorem gfRo_reach (C : Cx G X RcRo cc nL lv rt) (d : decode cc pc = .ok (.getfield 15, 3)) (kk : At G X nL Q (pc + 3) L (.ref (ad G 11) :: st) S) : At G X nL Q pc L (.ref (ad G 1) :: st) S := at_get C 1 5 1 rfl rfl (by decide) iwRo lkRo_reach rfl d kk
theorem lkRo_settled : Cond.fieldLink RcRo 18 "TributeLists$Roads" "settled" "[I" ∈ gw := mg (i := 75) (by decide +kernel) rfl
theorem gfRo_settled (C : Cx G X RcRo cc nL lv rt) (d : decode cc pc = .ok (.getfield 18, 3)) (kk : At G X nL Q (pc + 3) L (.ref (ad G 12) :: st) S) : At G X nL Q pc L (.ref (ad G 1) :: st) S := at_get C 1 5 2 rfl rfl (by decide) iwRo lkRo_settled rfl d kk
theorem lkPo_weights : Cond.fieldLink RcPo 9 "TributeLists$Porters" "weights" "[I" ∈ gw := mg (i := 93) (by decide +kernel) rfl
theorem gfPo_weights (C : Cx G X RcPo cc nL lv rt) (d : decode cc pc = .ok (.getfield 9, 3)) (kk : At G X nL Q (pc + 3) L (.ref (ad G 13) :: st) S) : At G X nL Q pc L (.ref (ad G 2) :: st) S := at_get C 2 4 0 rfl rfl (by decide) iwPo lkPo_weights rfl d kk
theorem lkPo_load : Cond.fieldLink RcPo 15 "TributeLists$Porters" "load" "I" ∈ gw := mg (i := 94) (by decide +kernel) rfl
theorem gfPo_load (C : Cx G X RcPo cc nL lv rt) {x : Int32} (hx : gPo_load S = x) (d : decode cc pc = .ok (.getfield 15, 3)) (kk : At G X nL Q (pc + 3) L (.int x :: st) S) : At G X nL Q pc L (.ref (ad G 2) :: st) S := by
  subst hx
  exact at_get C 2 4 1 rfl rfl (by decide) iwPo lkPo_load rfl d kk
theorem pfPo_load (C : Cx G X RcPo cc nL lv rt) {x : Int32} (d : decode cc pc = .ok (.putfield 15, 3)) (kk : At G X nL Q (pc + 3) L st (sPo_load S x)) : At G X nL Q pc L (.int x :: .ref (ad G 2) :: st) S := at_put C 2 4 1 rfl rfl (by decide) iwPo tcPo tyPo nmPo lkPo_load rfl rfl rfl rfl (Nat.le_of_ble_eq_true rfl) rfl d kk
theorem lkTa_bytes : Cond.fieldLink RcTa 9 "TributeLists$Tape" "bytes" "[B" ∈ gw := mg (i := 106) (by decide +kernel) rfl
theorem gfTa_bytes (C : Cx G X RcTa cc nL lv rt) (d : decode cc pc = .ok (.getfield 9, 3)) (kk : At G X nL Q (pc + 3) L (.ref (ad G 14) :: st) S) : At G X nL Q pc L (.ref (ad G 3) :: st) S := at_get C 3 8 0 rfl rfl (by decide) iwTa lkTa_bytes rfl d kk
theorem lkTa_size : Cond.fieldLink RcTa 13 "TributeLists$Tape" "size" "I" ∈ gw := mg (i := 107) (by decide +kernel) rfl
theorem gfTa_size (C : Cx G X RcTa cc nL lv rt) {x : Int32} (hx : gTa_size S = x) (d : decode cc pc = .ok (.getfield 13, 3)) (kk : At G X nL Q (pc + 3) L (.int x :: st) S) : At G X nL Q pc L (.ref (ad G 3) :: st) S := by
  subst hx
  exact at_get C 3 8 1 rfl rfl (by decide) iwTa lkTa_size rfl d kk
theorem pfTa_size (C : Cx G X RcTa cc nL lv rt) {x : Int32} (d : decode cc pc = .ok (.putfield 13, 3)) (kk : At G X nL Q (pc + 3) L st (sTa_size S x)) : At G X nL Q pc L (.int x :: .ref (ad G 3) :: st) S := at_put C 3 8 1 rfl rfl (by decide) iwTa tcTa tyTa nmTa lkTa_size rfl rfl rfl rfl (Nat.le_of_ble_eq_true rfl) rfl d kk
theorem lkLi_row : Cond.fieldLink RcLi 9 "TributeLists$ListReader" "row" "[I" ∈ gw := mg (i := 120) (by decide +kernel) rfl
theorem gfLi_row (C : Cx G X RcLi cc nL lv rt) (d : decode cc pc = .ok (.getfield 9, 3)) (kk : At G X nL Q (pc + 3) L (.ref (ad G 15) :: st) S) : At G X nL Q pc L (.ref (ad G 4) :: st) S := at_get C 4 2 0 rfl rfl (by decide) iwLi lkLi_row rfl d kk
theorem lkLi_townSeen : Cond.fieldLink RcLi 15 "TributeLists$ListReader" "townSeen" "[I" ∈ gw := mg (i := 121) (by decide +kernel) rfl
theorem gfLi_townSeen (C : Cx G X RcLi cc nL lv rt) (d : decode cc pc = .ok (.getfield 15, 3)) (kk : At G X nL Q (pc + 3) L (.ref (ad G 16) :: st) S) : At G X nL Q pc L (.ref (ad G 4) :: st) S := at_get C 4 2 1 rfl rfl (by decide) iwLi lkLi_townSeen rfl d kk
theorem lkLi_cursor : Cond.fieldLink RcLi 57 "TributeLists$ListReader" "cursor" "I" ∈ gw := mg (i := 122) (by decide +kernel) rfl
theorem gfLi_cursor (C : Cx G X RcLi cc nL lv rt) {x : Int32} (hx : gLi_cursor S = x) (d : decode cc pc = .ok (.getfield 57, 3)) (kk : At G X nL Q (pc + 3) L (.int x :: st) S) : At G X nL Q pc L (.ref (ad G 4) :: st) S := by
  subst hx
  exact at_get C 4 2 2 rfl rfl (by decide) iwLi lkLi_cursor rfl d kk
theorem pfLi_cursor (C : Cx G X RcLi cc nL lv rt) {x : Int32} (d : decode cc pc = .ok (.putfield 57, 3)) (kk : At G X nL Q (pc + 3) L st (sLi_cursor S x)) : At G X nL Q pc L (.int x :: .ref (ad G 4) :: st) S := at_put C 4 2 2 rfl rfl (by decide) iwLi tcLi tyLi nmLi lkLi_cursor rfl rfl rfl rfl (Nat.le_of_ble_eq_true rfl) rfl d kk
theorem lkLi_tokenStart : Cond.fieldLink RcLi 42 "TributeLists$ListReader" "tokenStart" "I" ∈ gw := mg (i := 123) (by decide +kernel) rfl
theorem gfLi_tokenStart (C : Cx G X RcLi cc nL lv rt) {x : Int32} (hx : gLi_tokenStart S = x) (d : decode cc pc = .ok (.getfield 42, 3)) (kk : At G X nL Q (pc + 3) L (.int x :: st) S) : At G X nL Q pc L (.ref (ad G 4) :: st) S := by
  subst hx
  exact at_get C 4 2 3 rfl rfl (by decide) iwLi lkLi_tokenStart rfl d kk
theorem pfLi_tokenStart (C : Cx G X RcLi cc nL lv rt) {x : Int32} (d : decode cc pc = .ok (.putfield 42, 3)) (kk : At G X nL Q (pc + 3) L st (sLi_tokenStart S x)) : At G X nL Q pc L (.int x :: .ref (ad G 4) :: st) S := at_put C 4 2 3 rfl rfl (by decide) iwLi tcLi tyLi nmLi lkLi_tokenStart rfl rfl rfl rfl (Nat.le_of_ble_eq_true rfl) rfl d kk
theorem lkLi_tokenKind : Cond.fieldLink RcLi 45 "TributeLists$ListReader" "tokenKind" "I" ∈ gw := mg (i := 124) (by decide +kernel) rfl
theorem gfLi_tokenKind (C : Cx G X RcLi cc nL lv rt) {x : Int32} (hx : gLi_tokenKind S = x) (d : decode cc pc = .ok (.getfield 45, 3)) (kk : At G X nL Q (pc + 3) L (.int x :: st) S) : At G X nL Q pc L (.ref (ad G 4) :: st) S := by
  subst hx
  exact at_get C 4 2 4 rfl rfl (by decide) iwLi lkLi_tokenKind rfl d kk
theorem pfLi_tokenKind (C : Cx G X RcLi cc nL lv rt) {x : Int32} (d : decode cc pc = .ok (.putfield 45, 3)) (kk : At G X nL Q (pc + 3) L st (sLi_tokenKind S x)) : At G X nL Q pc L (.int x :: .ref (ad G 4) :: st) S := at_put C 4 2 4 rfl rfl (by decide) iwLi tcLi tyLi nmLi lkLi_tokenKind rfl rfl rfl rfl (Nat.le_of_ble_eq_true rfl) rfl d kk
theorem lkLi_number : Cond.fieldLink RcLi 100 "TributeLists$ListReader" "number" "I" ∈ gw := mg (i := 125) (by decide +kernel) rfl
theorem gfLi_number (C : Cx G X RcLi cc nL lv rt) {x : Int32} (hx : gLi_number S = x) (d : decode cc pc = .ok (.getfield 100, 3)) (kk : At G X nL Q (pc + 3) L (.int x :: st) S) : At G X nL Q pc L (.ref (ad G 4) :: st) S := by
  subst hx
  exact at_get C 4 2 5 rfl rfl (by decide) iwLi lkLi_number rfl d kk
theorem pfLi_number (C : Cx G X RcLi cc nL lv rt) {x : Int32} (d : decode cc pc = .ok (.putfield 100, 3)) (kk : At G X nL Q (pc + 3) L st (sLi_number S x)) : At G X nL Q pc L (.int x :: .ref (ad G 4) :: st) S := at_put C 4 2 5 rfl rfl (by decide) iwLi tcLi tyLi nmLi lkLi_number rfl rfl rfl rfl (Nat.le_of_ble_eq_true rfl) rfl d kk
theorem lkLi_expected : Cond.fieldLink RcLi 60 "TributeLists$ListReader" "expected" "I" ∈ gw := mg (i := 126) (by decide +kernel) rfl
theorem gfLi_expected (C : Cx G X RcLi cc nL lv rt) {x : Int32} (hx : gLi_expected S = x) (d : decode cc pc = .ok (.getfield 60, 3)) (kk : At G X nL Q (pc + 3) L (.int x :: st) S) : At G X nL Q pc L (.ref (ad G 4) :: st) S := by
  subst hx
  exact at_get C 4 2 6 rfl rfl (by decide) iwLi lkLi_expected rfl d kk
theorem pfLi_expected (C : Cx G X RcLi cc nL lv rt) {x : Int32} (d : decode cc pc = .ok (.putfield 60, 3)) (kk : At G X nL Q (pc + 3) L st (sLi_expected S x)) : At G X nL Q pc L (.int x :: .ref (ad G 4) :: st) S := at_put C 4 2 6 rfl rfl (by decide) iwLi tcLi tyLi nmLi lkLi_expected rfl rfl rfl rfl (Nat.le_of_ble_eq_true rfl) rfl d kk
theorem lkLi_lines : Cond.fieldLink RcLi 48 "TributeLists$ListReader" "lines" "I" ∈ gw := mg (i := 127) (by decide +kernel) rfl
theorem gfLi_lines (C : Cx G X RcLi cc nL lv rt) {x : Int32} (hx : gLi_lines S = x) (d : decode cc pc = .ok (.getfield 48, 3)) (kk : At G X nL Q (pc + 3) L (.int x :: st) S) : At G X nL Q pc L (.ref (ad G 4) :: st) S := by
  subst hx
  exact at_get C 4 2 7 rfl rfl (by decide) iwLi lkLi_lines rfl d kk
theorem pfLi_lines (C : Cx G X RcLi cc nL lv rt) {x : Int32} (d : decode cc pc = .ok (.putfield 48, 3)) (kk : At G X nL Q (pc + 3) L st (sLi_lines S x)) : At G X nL Q pc L (.int x :: .ref (ad G 4) :: st) S := at_put C 4 2 7 rfl rfl (by decide) iwLi tcLi tyLi nmLi lkLi_lines rfl rfl rfl rfl (Nat.le_of_ble_eq_true rfl) rfl d kk
theorem lkLi_town : Cond.fieldLink RcLi 131 "TributeLists$ListReader" "town" "I" ∈ gw := mg (i := 128) (by decide +kernel) rfl
theorem gfLi_town (C : Cx G X RcLi cc nL lv rt) {x : Int32} (hx : gLi_town S = x) (d : decode cc pc = .ok (.getfield 131, 3)) (kk : At G X nL Q (pc + 3) L (.int x :: st) S) : At G X nL Q pc L (.ref (ad G 4) :: st) S := by
  subst hx
  exact at_get C 4 2 8 rfl rfl (by decide) iwLi lkLi_town rfl d kk
theorem pfLi_town (C : Cx G X RcLi cc nL lv rt) {x : Int32} (d : decode cc pc = .ok (.putfield 131, 3)) (kk : At G X nL Q (pc + 3) L st (sLi_town S x)) : At G X nL Q pc L (.int x :: .ref (ad G 4) :: st) S := at_put C 4 2 8 rfl rfl (by decide) iwLi tcLi tyLi nmLi lkLi_town rfl rfl rfl rfl (Nat.le_of_ble_eq_true rfl) rfl d kk
theorem lkLi_good : Cond.fieldLink RcLi 139 "TributeLists$ListReader" "good" "I" ∈ gw := mg (i := 129) (by decide +kernel) rfl
theorem gfLi_good (C : Cx G X RcLi cc nL lv rt) {x : Int32} (hx : gLi_good S = x) (d : decode cc pc = .ok (.getfield 139, 3)) (kk : At G X nL Q (pc + 3) L (.int x :: st) S) : At G X nL Q pc L (.ref (ad G 4) :: st) S := by
  subst hx
  exact at_get C 4 2 9 rfl rfl (by decide) iwLi lkLi_good rfl d kk
theorem pfLi_good (C : Cx G X RcLi cc nL lv rt) {x : Int32} (d : decode cc pc = .ok (.putfield 139, 3)) (kk : At G X nL Q (pc + 3) L st (sLi_good S x)) : At G X nL Q pc L (.int x :: .ref (ad G 4) :: st) S := at_put C 4 2 9 rfl rfl (by decide) iwLi tcLi tyLi nmLi lkLi_good rfl rfl rfl rfl (Nat.le_of_ble_eq_true rfl) rfl d kk
theorem lkLi_anyRead : Cond.fieldLink RcLi 18 "TributeLists$ListReader" "anyRead" "Z" ∈ gw := mg (i := 130) (by decide +kernel) rfl
theorem gfLi_anyRead (C : Cx G X RcLi cc nL lv rt) {x : Int32} (hx : gLi_anyRead S = x) (d : decode cc pc = .ok (.getfield 18, 3)) (kk : At G X nL Q (pc + 3) L (.int x :: st) S) : At G X nL Q pc L (.ref (ad G 4) :: st) S := by
  subst hx
  exact at_get C 4 2 10 rfl rfl (by decide) iwLi lkLi_anyRead rfl d kk
theorem pfLi_anyRead (C : Cx G X RcLi cc nL lv rt) {x : Int32} (hz : narrow .boolean (.int x) = .int x ∧ fits .boolean (.int x) = true) (d : decode cc pc = .ok (.putfield 18, 3)) (kk : At G X nL Q (pc + 3) L st (sLi_anyRead S x)) : At G X nL Q pc L (.int x :: .ref (ad G 4) :: st) S := at_put C 4 2 10 rfl rfl (by decide) iwLi tcLi tyLi nmLi lkLi_anyRead rfl rfl hz.1 hz.2 (Nat.le_of_ble_eq_true rfl) rfl d kk
theorem lkLi_faultKind : Cond.fieldLink RcLi 22 "TributeLists$ListReader" "faultKind" "I" ∈ gw := mg (i := 131) (by decide +kernel) rfl
theorem gfLi_faultKind (C : Cx G X RcLi cc nL lv rt) {x : Int32} (hx : gLi_faultKind S = x) (d : decode cc pc = .ok (.getfield 22, 3)) (kk : At G X nL Q (pc + 3) L (.int x :: st) S) : At G X nL Q pc L (.ref (ad G 4) :: st) S := by
  subst hx
  exact at_get C 4 2 11 rfl rfl (by decide) iwLi lkLi_faultKind rfl d kk
theorem pfLi_faultKind (C : Cx G X RcLi cc nL lv rt) {x : Int32} (d : decode cc pc = .ok (.putfield 22, 3)) (kk : At G X nL Q (pc + 3) L st (sLi_faultKind S x)) : At G X nL Q pc L (.int x :: .ref (ad G 4) :: st) S := at_put C 4 2 11 rfl rfl (by decide) iwLi tcLi tyLi nmLi lkLi_faultKind rfl rfl rfl rfl (Nat.le_of_ble_eq_true rfl) rfl d kk
theorem lkLi_faultPlace : Cond.fieldLink RcLi 26 "TributeLists$ListReader" "faultPlace" "I" ∈ gw := mg (i := 132) (by decide +kernel) rfl
theorem gfLi_faultPlace (C : Cx G X RcLi cc nL lv rt) {x : Int32} (hx : gLi_faultPlace S = x) (d : decode cc pc = .ok (.getfield 26, 3)) (kk : At G X nL Q (pc + 3) L (.int x :: st) S) : At G X nL Q pc L (.ref (ad G 4) :: st) S := by
  subst hx
  exact at_get C 4 2 12 rfl rfl (by decide) iwLi lkLi_faultPlace rfl d kk
theorem pfLi_faultPlace (C : Cx G X RcLi cc nL lv rt) {x : Int32} (d : decode cc pc = .ok (.putfield 26, 3)) (kk : At G X nL Q (pc + 3) L st (sLi_faultPlace S x)) : At G X nL Q pc L (.int x :: .ref (ad G 4) :: st) S := at_put C 4 2 12 rfl rfl (by decide) iwLi tcLi tyLi nmLi lkLi_faultPlace rfl rfl rfl rfl (Nat.le_of_ble_eq_true rfl) rfl d kk
theorem lkCo_told : Cond.fieldLink RcCo 13 "TributeLists$Copies" "told" "[[I" ∈ gw := mg (i := 169) (by decide +kernel) rfl
theorem gfCo_told (C : Cx G X RcCo cc nL lv rt) (d : decode cc pc = .ok (.getfield 13, 3)) (kk : At G X nL Q (pc + 3) L (.ref (ad G 17) :: st) S) : At G X nL Q pc L (.ref (ad G 5) :: st) S := at_get C 5 1 0 rfl rfl (by decide) iwCo lkCo_told rfl d kk
theorem lkCo_readAs : Cond.fieldLink RcCo 16 "TributeLists$Copies" "readAs" "[I" ∈ gw := mg (i := 170) (by decide +kernel) rfl
theorem gfCo_readAs (C : Cx G X RcCo cc nL lv rt) (d : decode cc pc = .ok (.getfield 16, 3)) (kk : At G X nL Q (pc + 3) L (.ref (ad G 23) :: st) S) : At G X nL Q pc L (.ref (ad G 5) :: st) S := at_get C 5 1 1 rfl rfl (by decide) iwCo lkCo_readAs rfl d kk
theorem lkCo_readings : Cond.fieldLink RcCo 20 "TributeLists$Copies" "readings" "I" ∈ gw := mg (i := 171) (by decide +kernel) rfl
theorem gfCo_readings (C : Cx G X RcCo cc nL lv rt) {x : Int32} (hx : gCo_readings S = x) (d : decode cc pc = .ok (.getfield 20, 3)) (kk : At G X nL Q (pc + 3) L (.int x :: st) S) : At G X nL Q pc L (.ref (ad G 5) :: st) S := by
  subst hx
  exact at_get C 5 1 2 rfl rfl (by decide) iwCo lkCo_readings rfl d kk
theorem pfCo_readings (C : Cx G X RcCo cc nL lv rt) {x : Int32} (d : decode cc pc = .ok (.putfield 20, 3)) (kk : At G X nL Q (pc + 3) L st (sCo_readings S x)) : At G X nL Q pc L (.int x :: .ref (ad G 5) :: st) S := at_put C 5 1 2 rfl rfl (by decide) iwCo tcCo tyCo nmCo lkCo_readings rfl rfl rfl rfl (Nat.le_of_ble_eq_true rfl) rfl d kk
theorem lkAc_unpaid : Cond.fieldLink RcAc 11 "TributeLists$Accounts" "unpaid" "[I" ∈ gw := mg (i := 185) (by decide +kernel) rfl
theorem gfAc_unpaid (C : Cx G X RcAc cc nL lv rt) (d : decode cc pc = .ok (.getfield 11, 3)) (kk : At G X nL Q (pc + 3) L (.ref (ad G 24) :: st) S) : At G X nL Q pc L (.ref (ad G 6) :: st) S := at_get C 6 0 0 rfl rfl (by decide) iwAc lkAc_unpaid rfl d kk
theorem lkAc_owing : Cond.fieldLink RcAc 15 "TributeLists$Accounts" "owing" "[I" ∈ gw := mg (i := 186) (by decide +kernel) rfl
theorem gfAc_owing (C : Cx G X RcAc cc nL lv rt) (d : decode cc pc = .ok (.getfield 15, 3)) (kk : At G X nL Q (pc + 3) L (.ref (ad G 25) :: st) S) : At G X nL Q pc L (.ref (ad G 6) :: st) S := at_get C 6 0 1 rfl rfl (by decide) iwAc lkAc_owing rfl d kk
theorem lkAc_gifts : Cond.fieldLink RcAc 18 "TributeLists$Accounts" "gifts" "[I" ∈ gw := mg (i := 187) (by decide +kernel) rfl
theorem gfAc_gifts (C : Cx G X RcAc cc nL lv rt) (d : decode cc pc = .ok (.getfield 18, 3)) (kk : At G X nL Q (pc + 3) L (.ref (ad G 26) :: st) S) : At G X nL Q pc L (.ref (ad G 6) :: st) S := at_get C 6 0 2 rfl rfl (by decide) iwAc lkAc_gifts rfl d kk
theorem lkAc_paidOff : Cond.fieldLink RcAc 21 "TributeLists$Accounts" "paidOff" "[I" ∈ gw := mg (i := 188) (by decide +kernel) rfl
theorem gfAc_paidOff (C : Cx G X RcAc cc nL lv rt) (d : decode cc pc = .ok (.getfield 21, 3)) (kk : At G X nL Q (pc + 3) L (.ref (ad G 27) :: st) S) : At G X nL Q pc L (.ref (ad G 6) :: st) S := at_get C 6 0 3 rfl rfl (by decide) iwAc lkAc_paidOff rfl d kk
theorem lkAc_lateOfPaid : Cond.fieldLink RcAc 24 "TributeLists$Accounts" "lateOfPaid" "[J" ∈ gw := mg (i := 189) (by decide +kernel) rfl
theorem gfAc_lateOfPaid (C : Cx G X RcAc cc nL lv rt) (d : decode cc pc = .ok (.getfield 24, 3)) (kk : At G X nL Q (pc + 3) L (.ref (ad G 28) :: st) S) : At G X nL Q pc L (.ref (ad G 6) :: st) S := at_get C 6 0 4 rfl rfl (by decide) iwAc lkAc_lateOfPaid rfl d kk
theorem lkSe_table : Cond.fieldLink RcSe 11 "TributeLists$Sendings" "table" "[I" ∈ gw := mg (i := 208) (by decide +kernel) rfl
theorem gfSe_table (C : Cx G X RcSe cc nL lv rt) (d : decode cc pc = .ok (.getfield 11, 3)) (kk : At G X nL Q (pc + 3) L (.ref (ad G 29) :: st) S) : At G X nL Q pc L (.ref (ad G 7) :: st) S := at_get C 7 6 0 rfl rfl (by decide) iwSe lkSe_table rfl d kk
theorem lkSe_storedOrder : Cond.fieldLink RcSe 15 "TributeLists$Sendings" "storedOrder" "[I" ∈ gw := mg (i := 209) (by decide +kernel) rfl
theorem gfSe_storedOrder (C : Cx G X RcSe cc nL lv rt) (d : decode cc pc = .ok (.getfield 15, 3)) (kk : At G X nL Q (pc + 3) L (.ref (ad G 30) :: st) S) : At G X nL Q pc L (.ref (ad G 7) :: st) S := at_get C 7 6 1 rfl rfl (by decide) iwSe lkSe_storedOrder rfl d kk
theorem lkSe_storedCount : Cond.fieldLink RcSe 18 "TributeLists$Sendings" "storedCount" "I" ∈ gw := mg (i := 210) (by decide +kernel) rfl
theorem gfSe_storedCount (C : Cx G X RcSe cc nL lv rt) {x : Int32} (hx : gSe_storedCount S = x) (d : decode cc pc = .ok (.getfield 18, 3)) (kk : At G X nL Q (pc + 3) L (.int x :: st) S) : At G X nL Q pc L (.ref (ad G 7) :: st) S := by
  subst hx
  exact at_get C 7 6 2 rfl rfl (by decide) iwSe lkSe_storedCount rfl d kk
theorem pfSe_storedCount (C : Cx G X RcSe cc nL lv rt) {x : Int32} (d : decode cc pc = .ok (.putfield 18, 3)) (kk : At G X nL Q (pc + 3) L st (sSe_storedCount S x)) : At G X nL Q pc L (.int x :: .ref (ad G 7) :: st) S := at_put C 7 6 2 rfl rfl (by decide) iwSe tcSe tySe nmSe lkSe_storedCount rfl rfl rfl rfl (Nat.le_of_ble_eq_true rfl) rfl d kk
theorem lkSe_storedPieces : Cond.fieldLink RcSe 22 "TributeLists$Sendings" "storedPieces" "I" ∈ gw := mg (i := 211) (by decide +kernel) rfl
theorem gfSe_storedPieces (C : Cx G X RcSe cc nL lv rt) {x : Int32} (hx : gSe_storedPieces S = x) (d : decode cc pc = .ok (.getfield 22, 3)) (kk : At G X nL Q (pc + 3) L (.int x :: st) S) : At G X nL Q pc L (.ref (ad G 7) :: st) S := by
  subst hx
  exact at_get C 7 6 3 rfl rfl (by decide) iwSe lkSe_storedPieces rfl d kk
theorem pfSe_storedPieces (C : Cx G X RcSe cc nL lv rt) {x : Int32} (d : decode cc pc = .ok (.putfield 22, 3)) (kk : At G X nL Q (pc + 3) L st (sSe_storedPieces S x)) : At G X nL Q pc L (.int x :: .ref (ad G 7) :: st) S := at_put C 7 6 3 rfl rfl (by decide) iwSe tcSe tySe nmSe lkSe_storedPieces rfl rfl rfl rfl (Nat.le_of_ble_eq_true rfl) rfl d kk
theorem lkSe_count : Cond.fieldLink RcSe 25 "TributeLists$Sendings" "count" "I" ∈ gw := mg (i := 212) (by decide +kernel) rfl
theorem gfSe_count (C : Cx G X RcSe cc nL lv rt) {x : Int32} (hx : gSe_count S = x) (d : decode cc pc = .ok (.getfield 25, 3)) (kk : At G X nL Q (pc + 3) L (.int x :: st) S) : At G X nL Q pc L (.ref (ad G 7) :: st) S := by
  subst hx
  exact at_get C 7 6 4 rfl rfl (by decide) iwSe lkSe_count rfl d kk
theorem pfSe_count (C : Cx G X RcSe cc nL lv rt) {x : Int32} (d : decode cc pc = .ok (.putfield 25, 3)) (kk : At G X nL Q (pc + 3) L st (sSe_count S x)) : At G X nL Q pc L (.int x :: .ref (ad G 7) :: st) S := at_put C 7 6 4 rfl rfl (by decide) iwSe tcSe tySe nmSe lkSe_count rfl rfl rfl rfl (Nat.le_of_ble_eq_true rfl) rfl d kk
theorem lkMa_fromGood : Cond.fieldLink RcMa 11 "TributeLists$Markets" "fromGood" "[I" ∈ gw := mg (i := 230) (by decide +kernel) rfl
theorem gfMa_fromGood (C : Cx G X RcMa cc nL lv rt) (d : decode cc pc = .ok (.getfield 11, 3)) (kk : At G X nL Q (pc + 3) L (.ref (ad G 31) :: st) S) : At G X nL Q pc L (.ref (ad G 8) :: st) S := at_get C 8 3 0 rfl rfl (by decide) iwMa lkMa_fromGood rfl d kk
theorem lkMa_given : Cond.fieldLink RcMa 15 "TributeLists$Markets" "given" "[I" ∈ gw := mg (i := 231) (by decide +kernel) rfl
theorem gfMa_given (C : Cx G X RcMa cc nL lv rt) (d : decode cc pc = .ok (.getfield 15, 3)) (kk : At G X nL Q (pc + 3) L (.ref (ad G 32) :: st) S) : At G X nL Q pc L (.ref (ad G 8) :: st) S := at_get C 8 3 1 rfl rfl (by decide) iwMa lkMa_given rfl d kk
theorem lkMa_toGood : Cond.fieldLink RcMa 18 "TributeLists$Markets" "toGood" "[I" ∈ gw := mg (i := 232) (by decide +kernel) rfl
theorem gfMa_toGood (C : Cx G X RcMa cc nL lv rt) (d : decode cc pc = .ok (.getfield 18, 3)) (kk : At G X nL Q (pc + 3) L (.ref (ad G 33) :: st) S) : At G X nL Q pc L (.ref (ad G 8) :: st) S := at_get C 8 3 2 rfl rfl (by decide) iwMa lkMa_toGood rfl d kk
theorem lkMa_gained : Cond.fieldLink RcMa 21 "TributeLists$Markets" "gained" "[I" ∈ gw := mg (i := 233) (by decide +kernel) rfl
theorem gfMa_gained (C : Cx G X RcMa cc nL lv rt) (d : decode cc pc = .ok (.getfield 21, 3)) (kk : At G X nL Q (pc + 3) L (.ref (ad G 34) :: st) S) : At G X nL Q pc L (.ref (ad G 8) :: st) S := at_get C 8 3 3 rfl rfl (by decide) iwMa lkMa_gained rfl d kk
theorem lkMa_count : Cond.fieldLink RcMa 24 "TributeLists$Markets" "count" "I" ∈ gw := mg (i := 234) (by decide +kernel) rfl
theorem gfMa_count (C : Cx G X RcMa cc nL lv rt) {x : Int32} (hx : gMa_count S = x) (d : decode cc pc = .ok (.getfield 24, 3)) (kk : At G X nL Q (pc + 3) L (.int x :: st) S) : At G X nL Q pc L (.ref (ad G 8) :: st) S := by
  subst hx
  exact at_get C 8 3 4 rfl rfl (by decide) iwMa lkMa_count rfl d kk
theorem pfMa_count (C : Cx G X RcMa cc nL lv rt) {x : Int32} (d : decode cc pc = .ok (.putfield 24, 3)) (kk : At G X nL Q (pc + 3) L st (sMa_count S x)) : At G X nL Q pc L (.int x :: .ref (ad G 8) :: st) S := at_put C 8 3 4 rfl rfl (by decide) iwMa tcMa tyMa nmMa lkMa_count rfl rfl rfl rfl (Nat.le_of_ble_eq_true rfl) rfl d kk
theorem lkMa_visited : Cond.fieldLink RcMa 28 "TributeLists$Markets" "visited" "[I" ∈ gw := mg (i := 235) (by decide +kernel) rfl
theorem gfMa_visited (C : Cx G X RcMa cc nL lv rt) (d : decode cc pc = .ok (.getfield 28, 3)) (kk : At G X nL Q (pc + 3) L (.ref (ad G 35) :: st) S) : At G X nL Q pc L (.ref (ad G 8) :: st) S := at_get C 8 3 5 rfl rfl (by decide) iwMa lkMa_visited rfl d kk
theorem lkMa_trail : Cond.fieldLink RcMa 31 "TributeLists$Markets" "trail" "[I" ∈ gw := mg (i := 236) (by decide +kernel) rfl
theorem gfMa_trail (C : Cx G X RcMa cc nL lv rt) (d : decode cc pc = .ok (.getfield 31, 3)) (kk : At G X nL Q (pc + 3) L (.ref (ad G 36) :: st) S) : At G X nL Q pc L (.ref (ad G 8) :: st) S := at_get C 8 3 6 rfl rfl (by decide) iwMa lkMa_trail rfl d kk
theorem lkMa_found : Cond.fieldLink RcMa 34 "TributeLists$Markets" "found" "[I" ∈ gw := mg (i := 237) (by decide +kernel) rfl
theorem gfMa_found (C : Cx G X RcMa cc nL lv rt) (d : decode cc pc = .ok (.getfield 34, 3)) (kk : At G X nL Q (pc + 3) L (.ref (ad G 37) :: st) S) : At G X nL Q pc L (.ref (ad G 8) :: st) S := at_get C 8 3 7 rfl rfl (by decide) iwMa lkMa_found rfl d kk
theorem lkMa_foundLength : Cond.fieldLink RcMa 58 "TributeLists$Markets" "foundLength" "I" ∈ gw := mg (i := 238) (by decide +kernel) rfl
theorem gfMa_foundLength (C : Cx G X RcMa cc nL lv rt) {x : Int32} (hx : gMa_foundLength S = x) (d : decode cc pc = .ok (.getfield 58, 3)) (kk : At G X nL Q (pc + 3) L (.int x :: st) S) : At G X nL Q pc L (.ref (ad G 8) :: st) S := by
  subst hx
  exact at_get C 8 3 8 rfl rfl (by decide) iwMa lkMa_foundLength rfl d kk
theorem pfMa_foundLength (C : Cx G X RcMa cc nL lv rt) {x : Int32} (d : decode cc pc = .ok (.putfield 58, 3)) (kk : At G X nL Q (pc + 3) L st (sMa_foundLength S x)) : At G X nL Q pc L (.int x :: .ref (ad G 8) :: st) S := at_put C 8 3 8 rfl rfl (by decide) iwMa tcMa tyMa nmMa lkMa_foundLength rfl rfl rfl rfl (Nat.le_of_ble_eq_true rfl) rfl d kk
theorem lkMa_foundAmount : Cond.fieldLink RcMa 54 "TributeLists$Markets" "foundAmount" "J" ∈ gw := mg (i := 239) (by decide +kernel) rfl
theorem gfMa_foundAmount (C : Cx G X RcMa cc nL lv rt) {x : Int64} (hx : gMa_foundAmount S = x) (d : decode cc pc = .ok (.getfield 54, 3)) (kk : At G X nL Q (pc + 3) L (.long x :: st) S) : At G X nL Q pc L (.ref (ad G 8) :: st) S := by
  subst hx
  exact at_get C 8 3 9 rfl rfl (by decide) iwMa lkMa_foundAmount rfl d kk
theorem pfMa_foundAmount (C : Cx G X RcMa cc nL lv rt) {x : Int64} (d : decode cc pc = .ok (.putfield 54, 3)) (kk : At G X nL Q (pc + 3) L st (sMa_foundAmount S x)) : At G X nL Q pc L (.long x :: .ref (ad G 8) :: st) S := at_put C 8 3 9 rfl rfl (by decide) iwMa tcMa tyMa nmMa lkMa_foundAmount rfl rfl rfl rfl (Nat.le_of_ble_eq_true rfl) rfl d kk
theorem lkMa_goal : Cond.fieldLink RcMa 49 "TributeLists$Markets" "goal" "I" ∈ gw := mg (i := 240) (by decide +kernel) rfl
theorem gfMa_goal (C : Cx G X RcMa cc nL lv rt) {x : Int32} (hx : gMa_goal S = x) (d : decode cc pc = .ok (.getfield 49, 3)) (kk : At G X nL Q (pc + 3) L (.int x :: st) S) : At G X nL Q pc L (.ref (ad G 8) :: st) S := by
  subst hx
  exact at_get C 8 3 10 rfl rfl (by decide) iwMa lkMa_goal rfl d kk
theorem pfMa_goal (C : Cx G X RcMa cc nL lv rt) {x : Int32} (d : decode cc pc = .ok (.putfield 49, 3)) (kk : At G X nL Q (pc + 3) L st (sMa_goal S x)) : At G X nL Q pc L (.int x :: .ref (ad G 8) :: st) S := at_put C 8 3 10 rfl rfl (by decide) iwMa tcMa tyMa nmMa lkMa_goal rfl rfl rfl rfl (Nat.le_of_ble_eq_true rfl) rfl d kk
theorem lkMa_best : Cond.fieldLink RcMa 37 "TributeLists$Markets" "best" "[I" ∈ gw := mg (i := 241) (by decide +kernel) rfl
theorem gfMa_best (C : Cx G X RcMa cc nL lv rt) (d : decode cc pc = .ok (.getfield 37, 3)) (kk : At G X nL Q (pc + 3) L (.ref (ad G 38) :: st) S) : At G X nL Q pc L (.ref (ad G 8) :: st) S := at_get C 8 3 11 rfl rfl (by decide) iwMa lkMa_best rfl d kk
theorem lkMa_bestLength : Cond.fieldLink RcMa 40 "TributeLists$Markets" "bestLength" "I" ∈ gw := mg (i := 242) (by decide +kernel) rfl
theorem gfMa_bestLength (C : Cx G X RcMa cc nL lv rt) {x : Int32} (hx : gMa_bestLength S = x) (d : decode cc pc = .ok (.getfield 40, 3)) (kk : At G X nL Q (pc + 3) L (.int x :: st) S) : At G X nL Q pc L (.ref (ad G 8) :: st) S := by
  subst hx
  exact at_get C 8 3 12 rfl rfl (by decide) iwMa lkMa_bestLength rfl d kk
theorem pfMa_bestLength (C : Cx G X RcMa cc nL lv rt) {x : Int32} (d : decode cc pc = .ok (.putfield 40, 3)) (kk : At G X nL Q (pc + 3) L st (sMa_bestLength S x)) : At G X nL Q pc L (.int x :: .ref (ad G 8) :: st) S := at_put C 8 3 12 rfl rfl (by decide) iwMa tcMa tyMa nmMa lkMa_bestLength rfl rfl rfl rfl (Nat.le_of_ble_eq_true rfl) rfl d kk
theorem lkSh_yieldOf : Cond.fieldLink RcSh 9 "TributeLists$Shares" "yieldOf" "[I" ∈ gw := mg (i := 276) (by decide +kernel) rfl
theorem gfSh_yieldOf (C : Cx G X RcSh cc nL lv rt) (d : decode cc pc = .ok (.getfield 9, 3)) (kk : At G X nL Q (pc + 3) L (.ref (ad G 39) :: st) S) : At G X nL Q pc L (.ref (ad G 9) :: st) S := at_get C 9 7 0 rfl rfl (by decide) iwSh lkSh_yieldOf rfl d kk
theorem lkMM_clock : Cond.fieldLink RcMM 202 "TributeListsModel" "clock" "I" ∈ gw := mg (i := 797) (by decide +kernel) rfl
theorem gfMM_clock (C : Cx G X RcMM cc nL lv rt) {x : Int32} (hx : gMM_clock S = x) (d : decode cc pc = .ok (.getfield 202, 3)) (kk : At G X nL Q (pc + 3) L (.int x :: st) S) : At G X nL Q pc L (.ref (ad G 40) :: st) S := by
  subst hx
  exact at_get C 40 10 0 rfl rfl (by decide) iwMM lkMM_clock rfl d kk
theorem pfMM_clock (C : Cx G X RcMM cc nL lv rt) {x : Int32} (d : decode cc pc = .ok (.putfield 202, 3)) (kk : At G X nL Q (pc + 3) L st (sMM_clock S x)) : At G X nL Q pc L (.int x :: .ref (ad G 40) :: st) S := at_put C 40 10 0 rfl rfl (by decide) iwMM tcMM tyMM nmMM lkMM_clock rfl rfl rfl rfl (Nat.le_of_ble_eq_true rfl) rfl d kk
theorem lkMM_quarters : Cond.fieldLink RcMM 205 "TributeListsModel" "quarters" "I" ∈ gw := mg (i := 798) (by decide +kernel) rfl
theorem gfMM_quarters (C : Cx G X RcMM cc nL lv rt) {x : Int32} (hx : gMM_quarters S = x) (d : decode cc pc = .ok (.getfield 205, 3)) (kk : At G X nL Q (pc + 3) L (.int x :: st) S) : At G X nL Q pc L (.ref (ad G 40) :: st) S := by
  subst hx
  exact at_get C 40 10 1 rfl rfl (by decide) iwMM lkMM_quarters rfl d kk
theorem pfMM_quarters (C : Cx G X RcMM cc nL lv rt) {x : Int32} (d : decode cc pc = .ok (.putfield 205, 3)) (kk : At G X nL Q (pc + 3) L st (sMM_quarters S x)) : At G X nL Q pc L (.int x :: .ref (ad G 40) :: st) S := at_put C 40 10 1 rfl rfl (by decide) iwMM tcMM tyMM nmMM lkMM_quarters rfl rfl rfl rfl (Nat.le_of_ble_eq_true rfl) rfl d kk
theorem lkMM_roads : Cond.fieldLink RcMM 7 "TributeListsModel" "roads" "[I" ∈ gw := mg (i := 799) (by decide +kernel) rfl
theorem gfMM_roads (C : Cx G X RcMM cc nL lv rt) (d : decode cc pc = .ok (.getfield 7, 3)) (kk : At G X nL Q (pc + 3) L (.ref (ad G 41) :: st) S) : At G X nL Q pc L (.ref (ad G 40) :: st) S := at_get C 40 10 2 rfl rfl (by decide) iwMM lkMM_roads rfl d kk
theorem lkMM_ways : Cond.fieldLink RcMM 13 "TributeListsModel" "ways" "[I" ∈ gw := mg (i := 800) (by decide +kernel) rfl
theorem gfMM_ways (C : Cx G X RcMM cc nL lv rt) (d : decode cc pc = .ok (.getfield 13, 3)) (kk : At G X nL Q (pc + 3) L (.ref (ad G 42) :: st) S) : At G X nL Q pc L (.ref (ad G 40) :: st) S := at_get C 40 10 3 rfl rfl (by decide) iwMM lkMM_ways rfl d kk
theorem lkMM_weight : Cond.fieldLink RcMM 16 "TributeListsModel" "weight" "[I" ∈ gw := mg (i := 801) (by decide +kernel) rfl
theorem gfMM_weight (C : Cx G X RcMM cc nL lv rt) (d : decode cc pc = .ok (.getfield 16, 3)) (kk : At G X nL Q (pc + 3) L (.ref (ad G 43) :: st) S) : At G X nL Q pc L (.ref (ad G 40) :: st) S := at_get C 40 10 4 rfl rfl (by decide) iwMM lkMM_weight rfl d kk
theorem lkMM_load : Cond.fieldLink RcMM 19 "TributeListsModel" "load" "I" ∈ gw := mg (i := 802) (by decide +kernel) rfl
theorem gfMM_load (C : Cx G X RcMM cc nL lv rt) {x : Int32} (hx : gMM_load S = x) (d : decode cc pc = .ok (.getfield 19, 3)) (kk : At G X nL Q (pc + 3) L (.int x :: st) S) : At G X nL Q pc L (.ref (ad G 40) :: st) S := by
  subst hx
  exact at_get C 40 10 5 rfl rfl (by decide) iwMM lkMM_load rfl d kk
theorem pfMM_load (C : Cx G X RcMM cc nL lv rt) {x : Int32} (d : decode cc pc = .ok (.putfield 19, 3)) (kk : At G X nL Q (pc + 3) L st (sMM_load S x)) : At G X nL Q pc L (.int x :: .ref (ad G 40) :: st) S := at_put C 40 10 5 rfl rfl (by decide) iwMM tcMM tyMM nmMM lkMM_load rfl rfl rfl rfl (Nat.le_of_ble_eq_true rfl) rfl d kk
theorem lkMM_told : Cond.fieldLink RcMM 23 "TributeListsModel" "told" "[I" ∈ gw := mg (i := 803) (by decide +kernel) rfl
theorem gfMM_told (C : Cx G X RcMM cc nL lv rt) (d : decode cc pc = .ok (.getfield 23, 3)) (kk : At G X nL Q (pc + 3) L (.ref (ad G 44) :: st) S) : At G X nL Q pc L (.ref (ad G 40) :: st) S := at_get C 40 10 6 rfl rfl (by decide) iwMM lkMM_told rfl d kk
theorem lkMM_readAt : Cond.fieldLink RcMM 26 "TributeListsModel" "readAt" "[I" ∈ gw := mg (i := 804) (by decide +kernel) rfl
theorem gfMM_readAt (C : Cx G X RcMM cc nL lv rt) (d : decode cc pc = .ok (.getfield 26, 3)) (kk : At G X nL Q (pc + 3) L (.ref (ad G 45) :: st) S) : At G X nL Q pc L (.ref (ad G 40) :: st) S := at_get C 40 10 7 rfl rfl (by decide) iwMM lkMM_readAt rfl d kk
theorem lkMM_reads : Cond.fieldLink RcMM 182 "TributeListsModel" "reads" "I" ∈ gw := mg (i := 805) (by decide +kernel) rfl
theorem gfMM_reads (C : Cx G X RcMM cc nL lv rt) {x : Int32} (hx : gMM_reads S = x) (d : decode cc pc = .ok (.getfield 182, 3)) (kk : At G X nL Q (pc + 3) L (.int x :: st) S) : At G X nL Q pc L (.ref (ad G 40) :: st) S := by
  subst hx
  exact at_get C 40 10 8 rfl rfl (by decide) iwMM lkMM_reads rfl d kk
theorem pfMM_reads (C : Cx G X RcMM cc nL lv rt) {x : Int32} (d : decode cc pc = .ok (.putfield 182, 3)) (kk : At G X nL Q (pc + 3) L st (sMM_reads S x)) : At G X nL Q pc L (.int x :: .ref (ad G 40) :: st) S := at_put C 40 10 8 rfl rfl (by decide) iwMM tcMM tyMM nmMM lkMM_reads rfl rfl rfl rfl (Nat.le_of_ble_eq_true rfl) rfl d kk
theorem lkMM_debt : Cond.fieldLink RcMM 29 "TributeListsModel" "debt" "[I" ∈ gw := mg (i := 806) (by decide +kernel) rfl
theorem gfMM_debt (C : Cx G X RcMM cc nL lv rt) (d : decode cc pc = .ok (.getfield 29, 3)) (kk : At G X nL Q (pc + 3) L (.ref (ad G 46) :: st) S) : At G X nL Q pc L (.ref (ad G 40) :: st) S := at_get C 40 10 9 rfl rfl (by decide) iwMM lkMM_debt rfl d kk
theorem lkMM_gift : Cond.fieldLink RcMM 32 "TributeListsModel" "gift" "[I" ∈ gw := mg (i := 807) (by decide +kernel) rfl
theorem gfMM_gift (C : Cx G X RcMM cc nL lv rt) (d : decode cc pc = .ok (.getfield 32, 3)) (kk : At G X nL Q (pc + 3) L (.ref (ad G 47) :: st) S) : At G X nL Q pc L (.ref (ad G 40) :: st) S := at_get C 40 10 10 rfl rfl (by decide) iwMM lkMM_gift rfl d kk
theorem lkMM_paid : Cond.fieldLink RcMM 35 "TributeListsModel" "paid" "[I" ∈ gw := mg (i := 808) (by decide +kernel) rfl
theorem gfMM_paid (C : Cx G X RcMM cc nL lv rt) (d : decode cc pc = .ok (.getfield 35, 3)) (kk : At G X nL Q (pc + 3) L (.ref (ad G 48) :: st) S) : At G X nL Q pc L (.ref (ad G 40) :: st) S := at_get C 40 10 11 rfl rfl (by decide) iwMM lkMM_paid rfl d kk
theorem lkMM_late : Cond.fieldLink RcMM 38 "TributeListsModel" "late" "[J" ∈ gw := mg (i := 809) (by decide +kernel) rfl
theorem gfMM_late (C : Cx G X RcMM cc nL lv rt) (d : decode cc pc = .ok (.getfield 38, 3)) (kk : At G X nL Q (pc + 3) L (.ref (ad G 49) :: st) S) : At G X nL Q pc L (.ref (ad G 40) :: st) S := at_get C 40 10 12 rfl rfl (by decide) iwMM lkMM_late rfl d kk
theorem lkMM_sendings : Cond.fieldLink RcMM 199 "TributeListsModel" "sendings" "I" ∈ gw := mg (i := 810) (by decide +kernel) rfl
theorem gfMM_sendings (C : Cx G X RcMM cc nL lv rt) {x : Int32} (hx : gMM_sendings S = x) (d : decode cc pc = .ok (.getfield 199, 3)) (kk : At G X nL Q (pc + 3) L (.int x :: st) S) : At G X nL Q pc L (.ref (ad G 40) :: st) S := by
  subst hx
  exact at_get C 40 10 13 rfl rfl (by decide) iwMM lkMM_sendings rfl d kk
theorem pfMM_sendings (C : Cx G X RcMM cc nL lv rt) {x : Int32} (d : decode cc pc = .ok (.putfield 199, 3)) (kk : At G X nL Q (pc + 3) L st (sMM_sendings S x)) : At G X nL Q pc L (.int x :: .ref (ad G 40) :: st) S := at_put C 40 10 13 rfl rfl (by decide) iwMM tcMM tyMM nmMM lkMM_sendings rfl rfl rfl rfl (Nat.le_of_ble_eq_true rfl) rfl d kk
theorem lkMM_town : Cond.fieldLink RcMM 42 "TributeListsModel" "town" "[I" ∈ gw := mg (i := 811) (by decide +kernel) rfl
theorem gfMM_town (C : Cx G X RcMM cc nL lv rt) (d : decode cc pc = .ok (.getfield 42, 3)) (kk : At G X nL Q (pc + 3) L (.ref (ad G 50) :: st) S) : At G X nL Q pc L (.ref (ad G 40) :: st) S := at_get C 40 10 14 rfl rfl (by decide) iwMM lkMM_town rfl d kk
theorem lkMM_good : Cond.fieldLink RcMM 45 "TributeListsModel" "good" "[I" ∈ gw := mg (i := 812) (by decide +kernel) rfl
theorem gfMM_good (C : Cx G X RcMM cc nL lv rt) (d : decode cc pc = .ok (.getfield 45, 3)) (kk : At G X nL Q (pc + 3) L (.ref (ad G 51) :: st) S) : At G X nL Q pc L (.ref (ad G 40) :: st) S := at_get C 40 10 15 rfl rfl (by decide) iwMM lkMM_good rfl d kk
theorem lkMM_pieces : Cond.fieldLink RcMM 48 "TributeListsModel" "pieces" "[I" ∈ gw := mg (i := 813) (by decide +kernel) rfl
theorem gfMM_pieces (C : Cx G X RcMM cc nL lv rt) (d : decode cc pc = .ok (.getfield 48, 3)) (kk : At G X nL Q (pc + 3) L (.ref (ad G 52) :: st) S) : At G X nL Q pc L (.ref (ad G 40) :: st) S := at_get C 40 10 16 rfl rfl (by decide) iwMM lkMM_pieces rfl d kk
theorem lkMM_bearers : Cond.fieldLink RcMM 51 "TributeListsModel" "bearers" "[I" ∈ gw := mg (i := 814) (by decide +kernel) rfl
theorem gfMM_bearers (C : Cx G X RcMM cc nL lv rt) (d : decode cc pc = .ok (.getfield 51, 3)) (kk : At G X nL Q (pc + 3) L (.ref (ad G 53) :: st) S) : At G X nL Q pc L (.ref (ad G 40) :: st) S := at_get C 40 10 17 rfl rfl (by decide) iwMM lkMM_bearers rfl d kk
theorem lkMM_left : Cond.fieldLink RcMM 54 "TributeListsModel" "left" "[I" ∈ gw := mg (i := 815) (by decide +kernel) rfl
theorem gfMM_left (C : Cx G X RcMM cc nL lv rt) (d : decode cc pc = .ok (.getfield 54, 3)) (kk : At G X nL Q (pc + 3) L (.ref (ad G 54) :: st) S) : At G X nL Q pc L (.ref (ad G 40) :: st) S := at_get C 40 10 18 rfl rfl (by decide) iwMM lkMM_left rfl d kk
theorem lkMM_comes : Cond.fieldLink RcMM 57 "TributeListsModel" "comes" "[I" ∈ gw := mg (i := 816) (by decide +kernel) rfl
theorem gfMM_comes (C : Cx G X RcMM cc nL lv rt) (d : decode cc pc = .ok (.getfield 57, 3)) (kk : At G X nL Q (pc + 3) L (.ref (ad G 55) :: st) S) : At G X nL Q pc L (.ref (ad G 40) :: st) S := at_get C 40 10 19 rfl rfl (by decide) iwMM lkMM_comes rfl d kk
theorem lkMM_isStored : Cond.fieldLink RcMM 60 "TributeListsModel" "isStored" "[Z" ∈ gw := mg (i := 817) (by decide +kernel) rfl
theorem gfMM_isStored (C : Cx G X RcMM cc nL lv rt) (d : decode cc pc = .ok (.getfield 60, 3)) (kk : At G X nL Q (pc + 3) L (.ref (ad G 56) :: st) S) : At G X nL Q pc L (.ref (ad G 40) :: st) S := at_get C 40 10 20 rfl rfl (by decide) iwMM lkMM_isStored rfl d kk
theorem lkMM_used : Cond.fieldLink RcMM 64 "TributeListsModel" "used" "[I" ∈ gw := mg (i := 818) (by decide +kernel) rfl
theorem gfMM_used (C : Cx G X RcMM cc nL lv rt) (d : decode cc pc = .ok (.getfield 64, 3)) (kk : At G X nL Q (pc + 3) L (.ref (ad G 57) :: st) S) : At G X nL Q pc L (.ref (ad G 40) :: st) S := at_get C 40 10 21 rfl rfl (by decide) iwMM lkMM_used rfl d kk
theorem lkMM_stored : Cond.fieldLink RcMM 208 "TributeListsModel" "stored" "I" ∈ gw := mg (i := 819) (by decide +kernel) rfl
theorem gfMM_stored (C : Cx G X RcMM cc nL lv rt) {x : Int32} (hx : gMM_stored S = x) (d : decode cc pc = .ok (.getfield 208, 3)) (kk : At G X nL Q (pc + 3) L (.int x :: st) S) : At G X nL Q pc L (.ref (ad G 40) :: st) S := by
  subst hx
  exact at_get C 40 10 22 rfl rfl (by decide) iwMM lkMM_stored rfl d kk
theorem pfMM_stored (C : Cx G X RcMM cc nL lv rt) {x : Int32} (d : decode cc pc = .ok (.putfield 208, 3)) (kk : At G X nL Q (pc + 3) L st (sMM_stored S x)) : At G X nL Q pc L (.int x :: .ref (ad G 40) :: st) S := at_put C 40 10 22 rfl rfl (by decide) iwMM tcMM tyMM nmMM lkMM_stored rfl rfl rfl rfl (Nat.le_of_ble_eq_true rfl) rfl d kk
theorem lkMM_storedOrder : Cond.fieldLink RcMM 67 "TributeListsModel" "storedOrder" "[I" ∈ gw := mg (i := 820) (by decide +kernel) rfl
theorem gfMM_storedOrder (C : Cx G X RcMM cc nL lv rt) (d : decode cc pc = .ok (.getfield 67, 3)) (kk : At G X nL Q (pc + 3) L (.ref (ad G 58) :: st) S) : At G X nL Q pc L (.ref (ad G 40) :: st) S := at_get C 40 10 23 rfl rfl (by decide) iwMM lkMM_storedOrder rfl d kk
theorem lkMM_storedMany : Cond.fieldLink RcMM 211 "TributeListsModel" "storedMany" "I" ∈ gw := mg (i := 821) (by decide +kernel) rfl
theorem gfMM_storedMany (C : Cx G X RcMM cc nL lv rt) {x : Int32} (hx : gMM_storedMany S = x) (d : decode cc pc = .ok (.getfield 211, 3)) (kk : At G X nL Q (pc + 3) L (.int x :: st) S) : At G X nL Q pc L (.ref (ad G 40) :: st) S := by
  subst hx
  exact at_get C 40 10 24 rfl rfl (by decide) iwMM lkMM_storedMany rfl d kk
theorem pfMM_storedMany (C : Cx G X RcMM cc nL lv rt) {x : Int32} (d : decode cc pc = .ok (.putfield 211, 3)) (kk : At G X nL Q (pc + 3) L st (sMM_storedMany S x)) : At G X nL Q pc L (.int x :: .ref (ad G 40) :: st) S := at_put C 40 10 24 rfl rfl (by decide) iwMM tcMM tyMM nmMM lkMM_storedMany rfl rfl rfl rfl (Nat.le_of_ble_eq_true rfl) rfl d kk
theorem lkMM_tape : Cond.fieldLink RcMM 70 "TributeListsModel" "tape" "[I" ∈ gw := mg (i := 822) (by decide +kernel) rfl
theorem gfMM_tape (C : Cx G X RcMM cc nL lv rt) (d : decode cc pc = .ok (.getfield 70, 3)) (kk : At G X nL Q (pc + 3) L (.ref (ad G 59) :: st) S) : At G X nL Q pc L (.ref (ad G 40) :: st) S := at_get C 40 10 25 rfl rfl (by decide) iwMM lkMM_tape rfl d kk
theorem lkMM_taped : Cond.fieldLink RcMM 128 "TributeListsModel" "taped" "I" ∈ gw := mg (i := 823) (by decide +kernel) rfl
theorem gfMM_taped (C : Cx G X RcMM cc nL lv rt) {x : Int32} (hx : gMM_taped S = x) (d : decode cc pc = .ok (.getfield 128, 3)) (kk : At G X nL Q (pc + 3) L (.int x :: st) S) : At G X nL Q pc L (.ref (ad G 40) :: st) S := by
  subst hx
  exact at_get C 40 10 26 rfl rfl (by decide) iwMM lkMM_taped rfl d kk
theorem pfMM_taped (C : Cx G X RcMM cc nL lv rt) {x : Int32} (d : decode cc pc = .ok (.putfield 128, 3)) (kk : At G X nL Q (pc + 3) L st (sMM_taped S x)) : At G X nL Q pc L (.int x :: .ref (ad G 40) :: st) S := at_put C 40 10 26 rfl rfl (by decide) iwMM tcMM tyMM nmMM lkMM_taped rfl rfl rfl rfl (Nat.le_of_ble_eq_true rfl) rfl d kk
theorem lkMM_fault : Cond.fieldLink RcMM 73 "TributeListsModel" "fault" "I" ∈ gw := mg (i := 824) (by decide +kernel) rfl
theorem gfMM_fault (C : Cx G X RcMM cc nL lv rt) {x : Int32} (hx : gMM_fault S = x) (d : decode cc pc = .ok (.getfield 73, 3)) (kk : At G X nL Q (pc + 3) L (.int x :: st) S) : At G X nL Q pc L (.ref (ad G 40) :: st) S := by
  subst hx
  exact at_get C 40 10 27 rfl rfl (by decide) iwMM lkMM_fault rfl d kk
theorem pfMM_fault (C : Cx G X RcMM cc nL lv rt) {x : Int32} (d : decode cc pc = .ok (.putfield 73, 3)) (kk : At G X nL Q (pc + 3) L st (sMM_fault S x)) : At G X nL Q pc L (.int x :: .ref (ad G 40) :: st) S := at_put C 40 10 27 rfl rfl (by decide) iwMM tcMM tyMM nmMM lkMM_fault rfl rfl rfl rfl (Nat.le_of_ble_eq_true rfl) rfl d kk
theorem lkMM_faultPlace : Cond.fieldLink RcMM 76 "TributeListsModel" "faultPlace" "I" ∈ gw := mg (i := 825) (by decide +kernel) rfl
theorem gfMM_faultPlace (C : Cx G X RcMM cc nL lv rt) {x : Int32} (hx : gMM_faultPlace S = x) (d : decode cc pc = .ok (.getfield 76, 3)) (kk : At G X nL Q (pc + 3) L (.int x :: st) S) : At G X nL Q pc L (.ref (ad G 40) :: st) S := by
  subst hx
  exact at_get C 40 10 28 rfl rfl (by decide) iwMM lkMM_faultPlace rfl d kk
theorem pfMM_faultPlace (C : Cx G X RcMM cc nL lv rt) {x : Int32} (d : decode cc pc = .ok (.putfield 76, 3)) (kk : At G X nL Q (pc + 3) L st (sMM_faultPlace S x)) : At G X nL Q pc L (.int x :: .ref (ad G 40) :: st) S := at_put C 40 10 28 rfl rfl (by decide) iwMM tcMM tyMM nmMM lkMM_faultPlace rfl rfl rfl rfl (Nat.le_of_ble_eq_true rfl) rfl d kk
theorem lkMM_at : Cond.fieldLink RcMM 135 "TributeListsModel" "at" "I" ∈ gw := mg (i := 826) (by decide +kernel) rfl
theorem gfMM_at (C : Cx G X RcMM cc nL lv rt) {x : Int32} (hx : gMM_at S = x) (d : decode cc pc = .ok (.getfield 135, 3)) (kk : At G X nL Q (pc + 3) L (.int x :: st) S) : At G X nL Q pc L (.ref (ad G 40) :: st) S := by
  subst hx
  exact at_get C 40 10 29 rfl rfl (by decide) iwMM lkMM_at rfl d kk
theorem pfMM_at (C : Cx G X RcMM cc nL lv rt) {x : Int32} (d : decode cc pc = .ok (.putfield 135, 3)) (kk : At G X nL Q (pc + 3) L st (sMM_at S x)) : At G X nL Q pc L (.int x :: .ref (ad G 40) :: st) S := at_put C 40 10 29 rfl rfl (by decide) iwMM tcMM tyMM nmMM lkMM_at rfl rfl rfl rfl (Nat.le_of_ble_eq_true rfl) rfl d kk
theorem lkMM_place : Cond.fieldLink RcMM 142 "TributeListsModel" "place" "I" ∈ gw := mg (i := 827) (by decide +kernel) rfl
theorem gfMM_place (C : Cx G X RcMM cc nL lv rt) {x : Int32} (hx : gMM_place S = x) (d : decode cc pc = .ok (.getfield 142, 3)) (kk : At G X nL Q (pc + 3) L (.int x :: st) S) : At G X nL Q pc L (.ref (ad G 40) :: st) S := by
  subst hx
  exact at_get C 40 10 30 rfl rfl (by decide) iwMM lkMM_place rfl d kk
theorem pfMM_place (C : Cx G X RcMM cc nL lv rt) {x : Int32} (d : decode cc pc = .ok (.putfield 142, 3)) (kk : At G X nL Q (pc + 3) L st (sMM_place S x)) : At G X nL Q pc L (.int x :: .ref (ad G 40) :: st) S := at_put C 40 10 30 rfl rfl (by decide) iwMM tcMM tyMM nmMM lkMM_place rfl rfl rfl rfl (Nat.le_of_ble_eq_true rfl) rfl d kk
theorem lkMM_token : Cond.fieldLink RcMM 145 "TributeListsModel" "token" "I" ∈ gw := mg (i := 828) (by decide +kernel) rfl
theorem gfMM_token (C : Cx G X RcMM cc nL lv rt) {x : Int32} (hx : gMM_token S = x) (d : decode cc pc = .ok (.getfield 145, 3)) (kk : At G X nL Q (pc + 3) L (.int x :: st) S) : At G X nL Q pc L (.ref (ad G 40) :: st) S := by
  subst hx
  exact at_get C 40 10 31 rfl rfl (by decide) iwMM lkMM_token rfl d kk
theorem pfMM_token (C : Cx G X RcMM cc nL lv rt) {x : Int32} (d : decode cc pc = .ok (.putfield 145, 3)) (kk : At G X nL Q (pc + 3) L st (sMM_token S x)) : At G X nL Q pc L (.int x :: .ref (ad G 40) :: st) S := at_put C 40 10 31 rfl rfl (by decide) iwMM tcMM tyMM nmMM lkMM_token rfl rfl rfl rfl (Nat.le_of_ble_eq_true rfl) rfl d kk
theorem lkMM_number : Cond.fieldLink RcMM 151 "TributeListsModel" "number" "I" ∈ gw := mg (i := 829) (by decide +kernel) rfl
theorem gfMM_number (C : Cx G X RcMM cc nL lv rt) {x : Int32} (hx : gMM_number S = x) (d : decode cc pc = .ok (.getfield 151, 3)) (kk : At G X nL Q (pc + 3) L (.int x :: st) S) : At G X nL Q pc L (.ref (ad G 40) :: st) S := by
  subst hx
  exact at_get C 40 10 32 rfl rfl (by decide) iwMM lkMM_number rfl d kk
theorem pfMM_number (C : Cx G X RcMM cc nL lv rt) {x : Int32} (d : decode cc pc = .ok (.putfield 151, 3)) (kk : At G X nL Q (pc + 3) L st (sMM_number S x)) : At G X nL Q pc L (.int x :: .ref (ad G 40) :: st) S := at_put C 40 10 32 rfl rfl (by decide) iwMM tcMM tyMM nmMM lkMM_number rfl rfl rfl rfl (Nat.le_of_ble_eq_true rfl) rfl d kk
theorem lkMM_lines : Cond.fieldLink RcMM 172 "TributeListsModel" "lines" "I" ∈ gw := mg (i := 830) (by decide +kernel) rfl
theorem gfMM_lines (C : Cx G X RcMM cc nL lv rt) {x : Int32} (hx : gMM_lines S = x) (d : decode cc pc = .ok (.getfield 172, 3)) (kk : At G X nL Q (pc + 3) L (.int x :: st) S) : At G X nL Q pc L (.ref (ad G 40) :: st) S := by
  subst hx
  exact at_get C 40 10 33 rfl rfl (by decide) iwMM lkMM_lines rfl d kk
theorem pfMM_lines (C : Cx G X RcMM cc nL lv rt) {x : Int32} (d : decode cc pc = .ok (.putfield 172, 3)) (kk : At G X nL Q (pc + 3) L st (sMM_lines S x)) : At G X nL Q pc L (.int x :: .ref (ad G 40) :: st) S := at_put C 40 10 33 rfl rfl (by decide) iwMM tcMM tyMM nmMM lkMM_lines rfl rfl rfl rfl (Nat.le_of_ble_eq_true rfl) rfl d kk
theorem lkMM_towns : Cond.fieldLink RcMM 163 "TributeListsModel" "towns" "I" ∈ gw := mg (i := 831) (by decide +kernel) rfl
theorem gfMM_towns (C : Cx G X RcMM cc nL lv rt) {x : Int32} (hx : gMM_towns S = x) (d : decode cc pc = .ok (.getfield 163, 3)) (kk : At G X nL Q (pc + 3) L (.int x :: st) S) : At G X nL Q pc L (.ref (ad G 40) :: st) S := by
  subst hx
  exact at_get C 40 10 34 rfl rfl (by decide) iwMM lkMM_towns rfl d kk
theorem pfMM_towns (C : Cx G X RcMM cc nL lv rt) {x : Int32} (d : decode cc pc = .ok (.putfield 163, 3)) (kk : At G X nL Q (pc + 3) L st (sMM_towns S x)) : At G X nL Q pc L (.int x :: .ref (ad G 40) :: st) S := at_put C 40 10 34 rfl rfl (by decide) iwMM tcMM tyMM nmMM lkMM_towns rfl rfl rfl rfl (Nat.le_of_ble_eq_true rfl) rfl d kk
theorem lkMM_goods : Cond.fieldLink RcMM 166 "TributeListsModel" "goods" "I" ∈ gw := mg (i := 832) (by decide +kernel) rfl
theorem gfMM_goods (C : Cx G X RcMM cc nL lv rt) {x : Int32} (hx : gMM_goods S = x) (d : decode cc pc = .ok (.getfield 166, 3)) (kk : At G X nL Q (pc + 3) L (.int x :: st) S) : At G X nL Q pc L (.ref (ad G 40) :: st) S := by
  subst hx
  exact at_get C 40 10 35 rfl rfl (by decide) iwMM lkMM_goods rfl d kk
theorem pfMM_goods (C : Cx G X RcMM cc nL lv rt) {x : Int32} (d : decode cc pc = .ok (.putfield 166, 3)) (kk : At G X nL Q (pc + 3) L st (sMM_goods S x)) : At G X nL Q pc L (.int x :: .ref (ad G 40) :: st) S := at_put C 40 10 35 rfl rfl (by decide) iwMM tcMM tyMM nmMM lkMM_goods rfl rfl rfl rfl (Nat.le_of_ble_eq_true rfl) rfl d kk
theorem lkMM_markets : Cond.fieldLink RcMM 222 "TributeListsModel" "markets" "I" ∈ gw := mg (i := 833) (by decide +kernel) rfl
theorem gfMM_markets (C : Cx G X RcMM cc nL lv rt) {x : Int32} (hx : gMM_markets S = x) (d : decode cc pc = .ok (.getfield 222, 3)) (kk : At G X nL Q (pc + 3) L (.int x :: st) S) : At G X nL Q pc L (.ref (ad G 40) :: st) S := by
  subst hx
  exact at_get C 40 10 36 rfl rfl (by decide) iwMM lkMM_markets rfl d kk
theorem pfMM_markets (C : Cx G X RcMM cc nL lv rt) {x : Int32} (d : decode cc pc = .ok (.putfield 222, 3)) (kk : At G X nL Q (pc + 3) L st (sMM_markets S x)) : At G X nL Q pc L (.int x :: .ref (ad G 40) :: st) S := at_put C 40 10 36 rfl rfl (by decide) iwMM tcMM tyMM nmMM lkMM_markets rfl rfl rfl rfl (Nat.le_of_ble_eq_true rfl) rfl d kk
theorem lkMM_from : Cond.fieldLink RcMM 79 "TributeListsModel" "from" "[I" ∈ gw := mg (i := 834) (by decide +kernel) rfl
theorem gfMM_from (C : Cx G X RcMM cc nL lv rt) (d : decode cc pc = .ok (.getfield 79, 3)) (kk : At G X nL Q (pc + 3) L (.ref (ad G 60) :: st) S) : At G X nL Q pc L (.ref (ad G 40) :: st) S := at_get C 40 10 37 rfl rfl (by decide) iwMM lkMM_from rfl d kk
theorem lkMM_gives : Cond.fieldLink RcMM 82 "TributeListsModel" "gives" "[I" ∈ gw := mg (i := 835) (by decide +kernel) rfl
theorem gfMM_gives (C : Cx G X RcMM cc nL lv rt) (d : decode cc pc = .ok (.getfield 82, 3)) (kk : At G X nL Q (pc + 3) L (.ref (ad G 61) :: st) S) : At G X nL Q pc L (.ref (ad G 40) :: st) S := at_get C 40 10 38 rfl rfl (by decide) iwMM lkMM_gives rfl d kk
theorem lkMM_to : Cond.fieldLink RcMM 85 "TributeListsModel" "to" "[I" ∈ gw := mg (i := 836) (by decide +kernel) rfl
theorem gfMM_to (C : Cx G X RcMM cc nL lv rt) (d : decode cc pc = .ok (.getfield 85, 3)) (kk : At G X nL Q (pc + 3) L (.ref (ad G 62) :: st) S) : At G X nL Q pc L (.ref (ad G 40) :: st) S := at_get C 40 10 39 rfl rfl (by decide) iwMM lkMM_to rfl d kk
theorem lkMM_gets : Cond.fieldLink RcMM 88 "TributeListsModel" "gets" "[I" ∈ gw := mg (i := 837) (by decide +kernel) rfl
theorem gfMM_gets (C : Cx G X RcMM cc nL lv rt) (d : decode cc pc = .ok (.getfield 88, 3)) (kk : At G X nL Q (pc + 3) L (.ref (ad G 63) :: st) S) : At G X nL Q pc L (.ref (ad G 40) :: st) S := at_get C 40 10 40 rfl rfl (by decide) iwMM lkMM_gets rfl d kk
theorem lkMM_open : Cond.fieldLink RcMM 91 "TributeListsModel" "open" "[I" ∈ gw := mg (i := 838) (by decide +kernel) rfl
theorem gfMM_open (C : Cx G X RcMM cc nL lv rt) (d : decode cc pc = .ok (.getfield 91, 3)) (kk : At G X nL Q (pc + 3) L (.ref (ad G 64) :: st) S) : At G X nL Q pc L (.ref (ad G 40) :: st) S := at_get C 40 10 41 rfl rfl (by decide) iwMM lkMM_open rfl d kk
theorem lkMM_much : Cond.fieldLink RcMM 94 "TributeListsModel" "much" "[J" ∈ gw := mg (i := 839) (by decide +kernel) rfl
theorem gfMM_much (C : Cx G X RcMM cc nL lv rt) (d : decode cc pc = .ok (.getfield 94, 3)) (kk : At G X nL Q (pc + 3) L (.ref (ad G 65) :: st) S) : At G X nL Q pc L (.ref (ad G 40) :: st) S := at_get C 40 10 42 rfl rfl (by decide) iwMM lkMM_much rfl d kk
theorem lkMM_bestRow : Cond.fieldLink RcMM 97 "TributeListsModel" "bestRow" "[I" ∈ gw := mg (i := 840) (by decide +kernel) rfl
theorem gfMM_bestRow (C : Cx G X RcMM cc nL lv rt) (d : decode cc pc = .ok (.getfield 97, 3)) (kk : At G X nL Q (pc + 3) L (.ref (ad G 66) :: st) S) : At G X nL Q pc L (.ref (ad G 40) :: st) S := at_get C 40 10 43 rfl rfl (by decide) iwMM lkMM_bestRow rfl d kk
theorem lkMM_bestLong : Cond.fieldLink RcMM 229 "TributeListsModel" "bestLong" "I" ∈ gw := mg (i := 841) (by decide +kernel) rfl
theorem gfMM_bestLong (C : Cx G X RcMM cc nL lv rt) {x : Int32} (hx : gMM_bestLong S = x) (d : decode cc pc = .ok (.getfield 229, 3)) (kk : At G X nL Q (pc + 3) L (.int x :: st) S) : At G X nL Q pc L (.ref (ad G 40) :: st) S := by
  subst hx
  exact at_get C 40 10 44 rfl rfl (by decide) iwMM lkMM_bestLong rfl d kk
theorem pfMM_bestLong (C : Cx G X RcMM cc nL lv rt) {x : Int32} (d : decode cc pc = .ok (.putfield 229, 3)) (kk : At G X nL Q (pc + 3) L st (sMM_bestLong S x)) : At G X nL Q pc L (.int x :: .ref (ad G 40) :: st) S := at_put C 40 10 44 rfl rfl (by decide) iwMM tcMM tyMM nmMM lkMM_bestLong rfl rfl rfl rfl (Nat.le_of_ble_eq_true rfl) rfl d kk
theorem lkMM_rowLong : Cond.fieldLink RcMM 245 "TributeListsModel" "rowLong" "I" ∈ gw := mg (i := 842) (by decide +kernel) rfl
theorem gfMM_rowLong (C : Cx G X RcMM cc nL lv rt) {x : Int32} (hx : gMM_rowLong S = x) (d : decode cc pc = .ok (.getfield 245, 3)) (kk : At G X nL Q (pc + 3) L (.int x :: st) S) : At G X nL Q pc L (.ref (ad G 40) :: st) S := by
  subst hx
  exact at_get C 40 10 45 rfl rfl (by decide) iwMM lkMM_rowLong rfl d kk
theorem pfMM_rowLong (C : Cx G X RcMM cc nL lv rt) {x : Int32} (d : decode cc pc = .ok (.putfield 245, 3)) (kk : At G X nL Q (pc + 3) L st (sMM_rowLong S x)) : At G X nL Q pc L (.int x :: .ref (ad G 40) :: st) S := at_put C 40 10 45 rfl rfl (by decide) iwMM tcMM tyMM nmMM lkMM_rowLong rfl rfl rfl rfl (Nat.le_of_ble_eq_true rfl) rfl d kk
theorem lkMM_row : Cond.fieldLink RcMM 100 "TributeListsModel" "row" "[I" ∈ gw := mg (i := 843) (by decide +kernel) rfl
theorem gfMM_row (C : Cx G X RcMM cc nL lv rt) (d : decode cc pc = .ok (.getfield 100, 3)) (kk : At G X nL Q (pc + 3) L (.ref (ad G 67) :: st) S) : At G X nL Q pc L (.ref (ad G 40) :: st) S := at_get C 40 10 46 rfl rfl (by decide) iwMM lkMM_row rfl d kk
theorem lkMM_best : Cond.fieldLink RcMM 225 "TributeListsModel" "best" "J" ∈ gw := mg (i := 844) (by decide +kernel) rfl
theorem gfMM_best (C : Cx G X RcMM cc nL lv rt) {x : Int64} (hx : gMM_best S = x) (d : decode cc pc = .ok (.getfield 225, 3)) (kk : At G X nL Q (pc + 3) L (.long x :: st) S) : At G X nL Q pc L (.ref (ad G 40) :: st) S := by
  subst hx
  exact at_get C 40 10 47 rfl rfl (by decide) iwMM lkMM_best rfl d kk
theorem pfMM_best (C : Cx G X RcMM cc nL lv rt) {x : Int64} (d : decode cc pc = .ok (.putfield 225, 3)) (kk : At G X nL Q (pc + 3) L st (sMM_best S x)) : At G X nL Q pc L (.long x :: .ref (ad G 40) :: st) S := at_put C 40 10 47 rfl rfl (by decide) iwMM tcMM tyMM nmMM lkMM_best rfl rfl rfl rfl (Nat.le_of_ble_eq_true rfl) rfl d kk
theorem lkMM_yield2 : Cond.fieldLink RcMM 103 "TributeListsModel" "yield2" "[I" ∈ gw := mg (i := 845) (by decide +kernel) rfl
theorem gfMM_yield2 (C : Cx G X RcMM cc nL lv rt) (d : decode cc pc = .ok (.getfield 103, 3)) (kk : At G X nL Q (pc + 3) L (.ref (ad G 68) :: st) S) : At G X nL Q pc L (.ref (ad G 40) :: st) S := at_get C 40 10 48 rfl rfl (by decide) iwMM lkMM_yield2 rfl d kk
theorem lkMM_hasMore : Cond.fieldLink RcMM 106 "TributeListsModel" "hasMore" "[Z" ∈ gw := mg (i := 846) (by decide +kernel) rfl
theorem gfMM_hasMore (C : Cx G X RcMM cc nL lv rt) (d : decode cc pc = .ok (.getfield 106, 3)) (kk : At G X nL Q (pc + 3) L (.ref (ad G 69) :: st) S) : At G X nL Q pc L (.ref (ad G 40) :: st) S := at_get C 40 10 49 rfl rfl (by decide) iwMM lkMM_hasMore rfl d kk
theorem ldRo_length (C : Cx G X own cc nL lv rt) {f : Nat → Int32} (hf : gRo_length S = f) {i : Int32} (hi : inb i 256 = true) (d : decode cc pc = .ok (.iaload, 1)) (kk : At G X nL Q (pc + 1) L (.int (f i.toNatClampNeg) :: st) S) : At G X nL Q pc L (.int i :: .ref (ad G 10) :: st) S := by
  subst hf
  exact at_iald C 10 rfl hi d kk
theorem svRo_length (C : Cx G X own cc nL lv rt) {i x : Int32} (hi : inb i 256 = true) (d : decode cc pc = .ok (.iastore, 1)) (kk : At G X nL Q (pc + 1) L st (sRo_length S (upd (gRo_length S) i.toNatClampNeg x))) : At G X nL Q pc L (.int x :: .int i :: .ref (ad G 10) :: st) S := at_iast C 10 rfl hi rfl d kk
theorem ldRo_reach (C : Cx G X own cc nL lv rt) {f : Nat → Int32} (hf : gRo_reach S = f) {i : Int32} (hi : inb i 16 = true) (d : decode cc pc = .ok (.iaload, 1)) (kk : At G X nL Q (pc + 1) L (.int (f i.toNatClampNeg) :: st) S) : At G X nL Q pc L (.int i :: .ref (ad G 11) :: st) S := by
  subst hf
  exact at_iald C 11 rfl hi d kk
theorem svRo_reach (C : Cx G X own cc nL lv rt) {i x : Int32} (hi : inb i 16 = true) (d : decode cc pc = .ok (.iastore, 1)) (kk : At G X nL Q (pc + 1) L st (sRo_reach S (upd (gRo_reach S) i.toNatClampNeg x))) : At G X nL Q pc L (.int x :: .int i :: .ref (ad G 11) :: st) S := at_iast C 11 rfl hi rfl d kk
theorem ldRo_settled (C : Cx G X own cc nL lv rt) {f : Nat → Int32} (hf : gRo_settled S = f) {i : Int32} (hi : inb i 16 = true) (d : decode cc pc = .ok (.iaload, 1)) (kk : At G X nL Q (pc + 1) L (.int (f i.toNatClampNeg) :: st) S) : At G X nL Q pc L (.int i :: .ref (ad G 12) :: st) S := by
  subst hf
  exact at_iald C 12 rfl hi d kk
theorem svRo_settled (C : Cx G X own cc nL lv rt) {i x : Int32} (hi : inb i 16 = true) (d : decode cc pc = .ok (.iastore, 1)) (kk : At G X nL Q (pc + 1) L st (sRo_settled S (upd (gRo_settled S) i.toNatClampNeg x))) : At G X nL Q pc L (.int x :: .int i :: .ref (ad G 12) :: st) S := at_iast C 12 rfl hi rfl d kk
theorem ldPo_weights (C : Cx G X own cc nL lv rt) {f : Nat → Int32} (hf : gPo_weights S = f) {i : Int32} (hi : inb i 6 = true) (d : decode cc pc = .ok (.iaload, 1)) (kk : At G X nL Q (pc + 1) L (.int (f i.toNatClampNeg) :: st) S) : At G X nL Q pc L (.int i :: .ref (ad G 13) :: st) S := by
  subst hf
  exact at_iald C 13 rfl hi d kk
theorem svPo_weights (C : Cx G X own cc nL lv rt) {i x : Int32} (hi : inb i 6 = true) (d : decode cc pc = .ok (.iastore, 1)) (kk : At G X nL Q (pc + 1) L st (sPo_weights S (upd (gPo_weights S) i.toNatClampNeg x))) : At G X nL Q pc L (.int x :: .int i :: .ref (ad G 13) :: st) S := at_iast C 13 rfl hi rfl d kk
theorem ldTa_bytes (C : Cx G X own cc nL lv rt) {f : Nat → Int32} (hf : gTa_bytes S = f) {i : Int32} (hi : inb i 300 = true) (d : decode cc pc = .ok (.baload, 1)) (kk : At G X nL Q (pc + 1) L (.int (f i.toNatClampNeg) :: st) S) : At G X nL Q pc L (.int i :: .ref (ad G 14) :: st) S := by
  subst hf
  exact at_bald C 14 rfl hi d kk
theorem svTa_bytes (C : Cx G X own cc nL lv rt) {i x : Int32} (hi : inb i 300 = true) (d : decode cc pc = .ok (.bastore, 1)) (kk : At G X nL Q (pc + 1) L st (sTa_bytes S (upd (gTa_bytes S) i.toNatClampNeg (vp_nar .byte x)))) : At G X nL Q pc L (.int x :: .int i :: .ref (ad G 14) :: st) S := at_bast C 14 rfl hi rfl d kk
theorem ldLi_row (C : Cx G X own cc nL lv rt) {f : Nat → Int32} (hf : gLi_row S = f) {i : Int32} (hi : inb i 96 = true) (d : decode cc pc = .ok (.iaload, 1)) (kk : At G X nL Q (pc + 1) L (.int (f i.toNatClampNeg) :: st) S) : At G X nL Q pc L (.int i :: .ref (ad G 15) :: st) S := by
  subst hf
  exact at_iald C 15 rfl hi d kk
theorem svLi_row (C : Cx G X own cc nL lv rt) {i x : Int32} (hi : inb i 96 = true) (d : decode cc pc = .ok (.iastore, 1)) (kk : At G X nL Q (pc + 1) L st (sLi_row S (upd (gLi_row S) i.toNatClampNeg x))) : At G X nL Q pc L (.int x :: .int i :: .ref (ad G 15) :: st) S := at_iast C 15 rfl hi rfl d kk
theorem ldLi_townSeen (C : Cx G X own cc nL lv rt) {f : Nat → Int32} (hf : gLi_townSeen S = f) {i : Int32} (hi : inb i 16 = true) (d : decode cc pc = .ok (.iaload, 1)) (kk : At G X nL Q (pc + 1) L (.int (f i.toNatClampNeg) :: st) S) : At G X nL Q pc L (.int i :: .ref (ad G 16) :: st) S := by
  subst hf
  exact at_iald C 16 rfl hi d kk
theorem svLi_townSeen (C : Cx G X own cc nL lv rt) {i x : Int32} (hi : inb i 16 = true) (d : decode cc pc = .ok (.iastore, 1)) (kk : At G X nL Q (pc + 1) L st (sLi_townSeen S (upd (gLi_townSeen S) i.toNatClampNeg x))) : At G X nL Q pc L (.int x :: .int i :: .ref (ad G 16) :: st) S := at_iast C 16 rfl hi rfl d kk
theorem raCo_told (C : Cx G X own cc nL lv rt) {i : Int32} (hi : inb i 5 = true) (d : decode cc pc = .ok (.aaload, 1)) (kk : At G X nL Q (pc + 1) L (.ref (ad G (18 + i.toNatClampNeg)) :: st) S) : At G X nL Q pc L (.int i :: .ref (ad G 17) :: st) S := at_aald C 17 rfl hi (by show va_rf (rwCo_told G _) = _; rw [rwCo_told, if_pos (inb_lt hi)]; rfl) d kk
theorem rgCo_told (i : Nat) (hi : i < 5) : (wld G S)[18 + i]? = some (ad G (18 + i), .inl (cy G 0, 96, .inl (gCo_told S i))) := by
  have h : i = 0 ∨ i = 1 ∨ i = 2 ∨ i = 3 ∨ i = 4 := by omega
  rcases h with rfl | rfl | rfl | rfl | rfl <;> rfl
theorem ldCo_told (C : Cx G X own cc nL lv rt) {f : Nat → Nat → Int32} (hf : gCo_told S = f) {r i : Int32} (hr : inb r 5 = true) (hi : inb i 96 = true) (d : decode cc pc = .ok (.iaload, 1)) (kk : At G X nL Q (pc + 1) L (.int (f r.toNatClampNeg i.toNatClampNeg) :: st) S) : At G X nL Q pc L (.int i :: .ref (ad G (18 + r.toNatClampNeg)) :: st) S := by
  subst hf
  exact at_iald C (18 + r.toNatClampNeg) (rgCo_told _ (inb_lt hr)) hi d kk
theorem rsCo_told (i : Nat) (hi : i < 5) (f : Nat → Int32) : (wld G S).set (18 + i) (ad G (18 + i), .inl (cy G 0, 96, .inl f)) = wld G (sCo_told S (va_up (gCo_told S) i f)) := by
  have h : i = 0 ∨ i = 1 ∨ i = 2 ∨ i = 3 ∨ i = 4 := by omega
  rcases h with rfl | rfl | rfl | rfl | rfl <;> rfl
theorem ldCo_readAs (C : Cx G X own cc nL lv rt) {f : Nat → Int32} (hf : gCo_readAs S = f) {i : Int32} (hi : inb i 5 = true) (d : decode cc pc = .ok (.iaload, 1)) (kk : At G X nL Q (pc + 1) L (.int (f i.toNatClampNeg) :: st) S) : At G X nL Q pc L (.int i :: .ref (ad G 23) :: st) S := by
  subst hf
  exact at_iald C 23 rfl hi d kk
theorem svCo_readAs (C : Cx G X own cc nL lv rt) {i x : Int32} (hi : inb i 5 = true) (d : decode cc pc = .ok (.iastore, 1)) (kk : At G X nL Q (pc + 1) L st (sCo_readAs S (upd (gCo_readAs S) i.toNatClampNeg x))) : At G X nL Q pc L (.int x :: .int i :: .ref (ad G 23) :: st) S := at_iast C 23 rfl hi rfl d kk
theorem ldAc_unpaid (C : Cx G X own cc nL lv rt) {f : Nat → Int32} (hf : gAc_unpaid S = f) {i : Int32} (hi : inb i 3168 = true) (d : decode cc pc = .ok (.iaload, 1)) (kk : At G X nL Q (pc + 1) L (.int (f i.toNatClampNeg) :: st) S) : At G X nL Q pc L (.int i :: .ref (ad G 24) :: st) S := by
  subst hf
  exact at_iald C 24 rfl hi d kk
theorem svAc_unpaid (C : Cx G X own cc nL lv rt) {i x : Int32} (hi : inb i 3168 = true) (d : decode cc pc = .ok (.iastore, 1)) (kk : At G X nL Q (pc + 1) L st (sAc_unpaid S (upd (gAc_unpaid S) i.toNatClampNeg x))) : At G X nL Q pc L (.int x :: .int i :: .ref (ad G 24) :: st) S := at_iast C 24 rfl hi rfl d kk
theorem ldAc_owing (C : Cx G X own cc nL lv rt) {f : Nat → Int32} (hf : gAc_owing S = f) {i : Int32} (hi : inb i 96 = true) (d : decode cc pc = .ok (.iaload, 1)) (kk : At G X nL Q (pc + 1) L (.int (f i.toNatClampNeg) :: st) S) : At G X nL Q pc L (.int i :: .ref (ad G 25) :: st) S := by
  subst hf
  exact at_iald C 25 rfl hi d kk
theorem svAc_owing (C : Cx G X own cc nL lv rt) {i x : Int32} (hi : inb i 96 = true) (d : decode cc pc = .ok (.iastore, 1)) (kk : At G X nL Q (pc + 1) L st (sAc_owing S (upd (gAc_owing S) i.toNatClampNeg x))) : At G X nL Q pc L (.int x :: .int i :: .ref (ad G 25) :: st) S := at_iast C 25 rfl hi rfl d kk
theorem ldAc_gifts (C : Cx G X own cc nL lv rt) {f : Nat → Int32} (hf : gAc_gifts S = f) {i : Int32} (hi : inb i 96 = true) (d : decode cc pc = .ok (.iaload, 1)) (kk : At G X nL Q (pc + 1) L (.int (f i.toNatClampNeg) :: st) S) : At G X nL Q pc L (.int i :: .ref (ad G 26) :: st) S := by
  subst hf
  exact at_iald C 26 rfl hi d kk
theorem svAc_gifts (C : Cx G X own cc nL lv rt) {i x : Int32} (hi : inb i 96 = true) (d : decode cc pc = .ok (.iastore, 1)) (kk : At G X nL Q (pc + 1) L st (sAc_gifts S (upd (gAc_gifts S) i.toNatClampNeg x))) : At G X nL Q pc L (.int x :: .int i :: .ref (ad G 26) :: st) S := at_iast C 26 rfl hi rfl d kk
theorem ldAc_paidOff (C : Cx G X own cc nL lv rt) {f : Nat → Int32} (hf : gAc_paidOff S = f) {i : Int32} (hi : inb i 96 = true) (d : decode cc pc = .ok (.iaload, 1)) (kk : At G X nL Q (pc + 1) L (.int (f i.toNatClampNeg) :: st) S) : At G X nL Q pc L (.int i :: .ref (ad G 27) :: st) S := by
  subst hf
  exact at_iald C 27 rfl hi d kk
theorem svAc_paidOff (C : Cx G X own cc nL lv rt) {i x : Int32} (hi : inb i 96 = true) (d : decode cc pc = .ok (.iastore, 1)) (kk : At G X nL Q (pc + 1) L st (sAc_paidOff S (upd (gAc_paidOff S) i.toNatClampNeg x))) : At G X nL Q pc L (.int x :: .int i :: .ref (ad G 27) :: st) S := at_iast C 27 rfl hi rfl d kk
theorem ldAc_lateOfPaid (C : Cx G X own cc nL lv rt) {f : Nat → Int64} (hf : gAc_lateOfPaid S = f) {i : Int32} (hi : inb i 16 = true) (d : decode cc pc = .ok (.laload, 1)) (kk : At G X nL Q (pc + 1) L (.long (f i.toNatClampNeg) :: st) S) : At G X nL Q pc L (.int i :: .ref (ad G 28) :: st) S := by
  subst hf
  exact at_lald C 28 rfl hi d kk
theorem svAc_lateOfPaid (C : Cx G X own cc nL lv rt) {i : Int32} {x : Int64} (hi : inb i 16 = true) (d : decode cc pc = .ok (.lastore, 1)) (kk : At G X nL Q (pc + 1) L st (sAc_lateOfPaid S (vp_updL (gAc_lateOfPaid S) i.toNatClampNeg x))) : At G X nL Q pc L (.long x :: .int i :: .ref (ad G 28) :: st) S := at_last C 28 rfl hi rfl d kk
theorem ldSe_table (C : Cx G X own cc nL lv rt) {f : Nat → Int32} (hf : gSe_table S = f) {i : Int32} (hi : inb i 800 = true) (d : decode cc pc = .ok (.iaload, 1)) (kk : At G X nL Q (pc + 1) L (.int (f i.toNatClampNeg) :: st) S) : At G X nL Q pc L (.int i :: .ref (ad G 29) :: st) S := by
  subst hf
  exact at_iald C 29 rfl hi d kk
theorem svSe_table (C : Cx G X own cc nL lv rt) {i x : Int32} (hi : inb i 800 = true) (d : decode cc pc = .ok (.iastore, 1)) (kk : At G X nL Q (pc + 1) L st (sSe_table S (upd (gSe_table S) i.toNatClampNeg x))) : At G X nL Q pc L (.int x :: .int i :: .ref (ad G 29) :: st) S := at_iast C 29 rfl hi rfl d kk
theorem ldSe_storedOrder (C : Cx G X own cc nL lv rt) {f : Nat → Int32} (hf : gSe_storedOrder S = f) {i : Int32} (hi : inb i 100 = true) (d : decode cc pc = .ok (.iaload, 1)) (kk : At G X nL Q (pc + 1) L (.int (f i.toNatClampNeg) :: st) S) : At G X nL Q pc L (.int i :: .ref (ad G 30) :: st) S := by
  subst hf
  exact at_iald C 30 rfl hi d kk
theorem svSe_storedOrder (C : Cx G X own cc nL lv rt) {i x : Int32} (hi : inb i 100 = true) (d : decode cc pc = .ok (.iastore, 1)) (kk : At G X nL Q (pc + 1) L st (sSe_storedOrder S (upd (gSe_storedOrder S) i.toNatClampNeg x))) : At G X nL Q pc L (.int x :: .int i :: .ref (ad G 30) :: st) S := at_iast C 30 rfl hi rfl d kk
theorem ldMa_fromGood (C : Cx G X own cc nL lv rt) {f : Nat → Int32} (hf : gMa_fromGood S = f) {i : Int32} (hi : inb i 20 = true) (d : decode cc pc = .ok (.iaload, 1)) (kk : At G X nL Q (pc + 1) L (.int (f i.toNatClampNeg) :: st) S) : At G X nL Q pc L (.int i :: .ref (ad G 31) :: st) S := by
  subst hf
  exact at_iald C 31 rfl hi d kk
theorem svMa_fromGood (C : Cx G X own cc nL lv rt) {i x : Int32} (hi : inb i 20 = true) (d : decode cc pc = .ok (.iastore, 1)) (kk : At G X nL Q (pc + 1) L st (sMa_fromGood S (upd (gMa_fromGood S) i.toNatClampNeg x))) : At G X nL Q pc L (.int x :: .int i :: .ref (ad G 31) :: st) S := at_iast C 31 rfl hi rfl d kk
theorem ldMa_given (C : Cx G X own cc nL lv rt) {f : Nat → Int32} (hf : gMa_given S = f) {i : Int32} (hi : inb i 20 = true) (d : decode cc pc = .ok (.iaload, 1)) (kk : At G X nL Q (pc + 1) L (.int (f i.toNatClampNeg) :: st) S) : At G X nL Q pc L (.int i :: .ref (ad G 32) :: st) S := by
  subst hf
  exact at_iald C 32 rfl hi d kk
theorem svMa_given (C : Cx G X own cc nL lv rt) {i x : Int32} (hi : inb i 20 = true) (d : decode cc pc = .ok (.iastore, 1)) (kk : At G X nL Q (pc + 1) L st (sMa_given S (upd (gMa_given S) i.toNatClampNeg x))) : At G X nL Q pc L (.int x :: .int i :: .ref (ad G 32) :: st) S := at_iast C 32 rfl hi rfl d kk
theorem ldMa_toGood (C : Cx G X own cc nL lv rt) {f : Nat → Int32} (hf : gMa_toGood S = f) {i : Int32} (hi : inb i 20 = true) (d : decode cc pc = .ok (.iaload, 1)) (kk : At G X nL Q (pc + 1) L (.int (f i.toNatClampNeg) :: st) S) : At G X nL Q pc L (.int i :: .ref (ad G 33) :: st) S := by
  subst hf
  exact at_iald C 33 rfl hi d kk
theorem svMa_toGood (C : Cx G X own cc nL lv rt) {i x : Int32} (hi : inb i 20 = true) (d : decode cc pc = .ok (.iastore, 1)) (kk : At G X nL Q (pc + 1) L st (sMa_toGood S (upd (gMa_toGood S) i.toNatClampNeg x))) : At G X nL Q pc L (.int x :: .int i :: .ref (ad G 33) :: st) S := at_iast C 33 rfl hi rfl d kk
theorem ldMa_gained (C : Cx G X own cc nL lv rt) {f : Nat → Int32} (hf : gMa_gained S = f) {i : Int32} (hi : inb i 20 = true) (d : decode cc pc = .ok (.iaload, 1)) (kk : At G X nL Q (pc + 1) L (.int (f i.toNatClampNeg) :: st) S) : At G X nL Q pc L (.int i :: .ref (ad G 34) :: st) S := by
  subst hf
  exact at_iald C 34 rfl hi d kk
theorem svMa_gained (C : Cx G X own cc nL lv rt) {i x : Int32} (hi : inb i 20 = true) (d : decode cc pc = .ok (.iastore, 1)) (kk : At G X nL Q (pc + 1) L st (sMa_gained S (upd (gMa_gained S) i.toNatClampNeg x))) : At G X nL Q pc L (.int x :: .int i :: .ref (ad G 34) :: st) S := at_iast C 34 rfl hi rfl d kk
theorem ldMa_visited (C : Cx G X own cc nL lv rt) {f : Nat → Int32} (hf : gMa_visited S = f) {i : Int32} (hi : inb i 6 = true) (d : decode cc pc = .ok (.iaload, 1)) (kk : At G X nL Q (pc + 1) L (.int (f i.toNatClampNeg) :: st) S) : At G X nL Q pc L (.int i :: .ref (ad G 35) :: st) S := by
  subst hf
  exact at_iald C 35 rfl hi d kk
theorem svMa_visited (C : Cx G X own cc nL lv rt) {i x : Int32} (hi : inb i 6 = true) (d : decode cc pc = .ok (.iastore, 1)) (kk : At G X nL Q (pc + 1) L st (sMa_visited S (upd (gMa_visited S) i.toNatClampNeg x))) : At G X nL Q pc L (.int x :: .int i :: .ref (ad G 35) :: st) S := at_iast C 35 rfl hi rfl d kk
theorem ldMa_trail (C : Cx G X own cc nL lv rt) {f : Nat → Int32} (hf : gMa_trail S = f) {i : Int32} (hi : inb i 5 = true) (d : decode cc pc = .ok (.iaload, 1)) (kk : At G X nL Q (pc + 1) L (.int (f i.toNatClampNeg) :: st) S) : At G X nL Q pc L (.int i :: .ref (ad G 36) :: st) S := by
  subst hf
  exact at_iald C 36 rfl hi d kk
theorem svMa_trail (C : Cx G X own cc nL lv rt) {i x : Int32} (hi : inb i 5 = true) (d : decode cc pc = .ok (.iastore, 1)) (kk : At G X nL Q (pc + 1) L st (sMa_trail S (upd (gMa_trail S) i.toNatClampNeg x))) : At G X nL Q pc L (.int x :: .int i :: .ref (ad G 36) :: st) S := at_iast C 36 rfl hi rfl d kk
theorem ldMa_found (C : Cx G X own cc nL lv rt) {f : Nat → Int32} (hf : gMa_found S = f) {i : Int32} (hi : inb i 5 = true) (d : decode cc pc = .ok (.iaload, 1)) (kk : At G X nL Q (pc + 1) L (.int (f i.toNatClampNeg) :: st) S) : At G X nL Q pc L (.int i :: .ref (ad G 37) :: st) S := by
  subst hf
  exact at_iald C 37 rfl hi d kk
theorem svMa_found (C : Cx G X own cc nL lv rt) {i x : Int32} (hi : inb i 5 = true) (d : decode cc pc = .ok (.iastore, 1)) (kk : At G X nL Q (pc + 1) L st (sMa_found S (upd (gMa_found S) i.toNatClampNeg x))) : At G X nL Q pc L (.int x :: .int i :: .ref (ad G 37) :: st) S := at_iast C 37 rfl hi rfl d kk
theorem ldMa_best (C : Cx G X own cc nL lv rt) {f : Nat → Int32} (hf : gMa_best S = f) {i : Int32} (hi : inb i 5 = true) (d : decode cc pc = .ok (.iaload, 1)) (kk : At G X nL Q (pc + 1) L (.int (f i.toNatClampNeg) :: st) S) : At G X nL Q pc L (.int i :: .ref (ad G 38) :: st) S := by
  subst hf
  exact at_iald C 38 rfl hi d kk
theorem svMa_best (C : Cx G X own cc nL lv rt) {i x : Int32} (hi : inb i 5 = true) (d : decode cc pc = .ok (.iastore, 1)) (kk : At G X nL Q (pc + 1) L st (sMa_best S (upd (gMa_best S) i.toNatClampNeg x))) : At G X nL Q pc L (.int x :: .int i :: .ref (ad G 38) :: st) S := at_iast C 38 rfl hi rfl d kk
theorem ldSh_yieldOf (C : Cx G X own cc nL lv rt) {f : Nat → Int32} (hf : gSh_yieldOf S = f) {i : Int32} (hi : inb i 16 = true) (d : decode cc pc = .ok (.iaload, 1)) (kk : At G X nL Q (pc + 1) L (.int (f i.toNatClampNeg) :: st) S) : At G X nL Q pc L (.int i :: .ref (ad G 39) :: st) S := by
  subst hf
  exact at_iald C 39 rfl hi d kk
theorem svSh_yieldOf (C : Cx G X own cc nL lv rt) {i x : Int32} (hi : inb i 16 = true) (d : decode cc pc = .ok (.iastore, 1)) (kk : At G X nL Q (pc + 1) L st (sSh_yieldOf S (upd (gSh_yieldOf S) i.toNatClampNeg x))) : At G X nL Q pc L (.int x :: .int i :: .ref (ad G 39) :: st) S := at_iast C 39 rfl hi rfl d kk
theorem ldMM_roads (C : Cx G X own cc nL lv rt) {f : Nat → Int32} (hf : gMM_roads S = f) {i : Int32} (hi : inb i 256 = true) (d : decode cc pc = .ok (.iaload, 1)) (kk : At G X nL Q (pc + 1) L (.int (f i.toNatClampNeg) :: st) S) : At G X nL Q pc L (.int i :: .ref (ad G 41) :: st) S := by
  subst hf
  exact at_iald C 41 rfl hi d kk
theorem svMM_roads (C : Cx G X own cc nL lv rt) {i x : Int32} (hi : inb i 256 = true) (d : decode cc pc = .ok (.iastore, 1)) (kk : At G X nL Q (pc + 1) L st (sMM_roads S (upd (gMM_roads S) i.toNatClampNeg x))) : At G X nL Q pc L (.int x :: .int i :: .ref (ad G 41) :: st) S := at_iast C 41 rfl hi rfl d kk
theorem ldMM_ways (C : Cx G X own cc nL lv rt) {f : Nat → Int32} (hf : gMM_ways S = f) {i : Int32} (hi : inb i 256 = true) (d : decode cc pc = .ok (.iaload, 1)) (kk : At G X nL Q (pc + 1) L (.int (f i.toNatClampNeg) :: st) S) : At G X nL Q pc L (.int i :: .ref (ad G 42) :: st) S := by
  subst hf
  exact at_iald C 42 rfl hi d kk
theorem svMM_ways (C : Cx G X own cc nL lv rt) {i x : Int32} (hi : inb i 256 = true) (d : decode cc pc = .ok (.iastore, 1)) (kk : At G X nL Q (pc + 1) L st (sMM_ways S (upd (gMM_ways S) i.toNatClampNeg x))) : At G X nL Q pc L (.int x :: .int i :: .ref (ad G 42) :: st) S := at_iast C 42 rfl hi rfl d kk
theorem ldMM_weight (C : Cx G X own cc nL lv rt) {f : Nat → Int32} (hf : gMM_weight S = f) {i : Int32} (hi : inb i 6 = true) (d : decode cc pc = .ok (.iaload, 1)) (kk : At G X nL Q (pc + 1) L (.int (f i.toNatClampNeg) :: st) S) : At G X nL Q pc L (.int i :: .ref (ad G 43) :: st) S := by
  subst hf
  exact at_iald C 43 rfl hi d kk
theorem svMM_weight (C : Cx G X own cc nL lv rt) {i x : Int32} (hi : inb i 6 = true) (d : decode cc pc = .ok (.iastore, 1)) (kk : At G X nL Q (pc + 1) L st (sMM_weight S (upd (gMM_weight S) i.toNatClampNeg x))) : At G X nL Q pc L (.int x :: .int i :: .ref (ad G 43) :: st) S := at_iast C 43 rfl hi rfl d kk
theorem ldMM_told (C : Cx G X own cc nL lv rt) {f : Nat → Int32} (hf : gMM_told S = f) {i : Int32} (hi : inb i 576 = true) (d : decode cc pc = .ok (.iaload, 1)) (kk : At G X nL Q (pc + 1) L (.int (f i.toNatClampNeg) :: st) S) : At G X nL Q pc L (.int i :: .ref (ad G 44) :: st) S := by
  subst hf
  exact at_iald C 44 rfl hi d kk
theorem svMM_told (C : Cx G X own cc nL lv rt) {i x : Int32} (hi : inb i 576 = true) (d : decode cc pc = .ok (.iastore, 1)) (kk : At G X nL Q (pc + 1) L st (sMM_told S (upd (gMM_told S) i.toNatClampNeg x))) : At G X nL Q pc L (.int x :: .int i :: .ref (ad G 44) :: st) S := at_iast C 44 rfl hi rfl d kk
theorem ldMM_readAt (C : Cx G X own cc nL lv rt) {f : Nat → Int32} (hf : gMM_readAt S = f) {i : Int32} (hi : inb i 5 = true) (d : decode cc pc = .ok (.iaload, 1)) (kk : At G X nL Q (pc + 1) L (.int (f i.toNatClampNeg) :: st) S) : At G X nL Q pc L (.int i :: .ref (ad G 45) :: st) S := by
  subst hf
  exact at_iald C 45 rfl hi d kk
theorem svMM_readAt (C : Cx G X own cc nL lv rt) {i x : Int32} (hi : inb i 5 = true) (d : decode cc pc = .ok (.iastore, 1)) (kk : At G X nL Q (pc + 1) L st (sMM_readAt S (upd (gMM_readAt S) i.toNatClampNeg x))) : At G X nL Q pc L (.int x :: .int i :: .ref (ad G 45) :: st) S := at_iast C 45 rfl hi rfl d kk
theorem ldMM_debt (C : Cx G X own cc nL lv rt) {f : Nat → Int32} (hf : gMM_debt S = f) {i : Int32} (hi : inb i 3264 = true) (d : decode cc pc = .ok (.iaload, 1)) (kk : At G X nL Q (pc + 1) L (.int (f i.toNatClampNeg) :: st) S) : At G X nL Q pc L (.int i :: .ref (ad G 46) :: st) S := by
  subst hf
  exact at_iald C 46 rfl hi d kk
theorem svMM_debt (C : Cx G X own cc nL lv rt) {i x : Int32} (hi : inb i 3264 = true) (d : decode cc pc = .ok (.iastore, 1)) (kk : At G X nL Q (pc + 1) L st (sMM_debt S (upd (gMM_debt S) i.toNatClampNeg x))) : At G X nL Q pc L (.int x :: .int i :: .ref (ad G 46) :: st) S := at_iast C 46 rfl hi rfl d kk
theorem ldMM_gift (C : Cx G X own cc nL lv rt) {f : Nat → Int32} (hf : gMM_gift S = f) {i : Int32} (hi : inb i 96 = true) (d : decode cc pc = .ok (.iaload, 1)) (kk : At G X nL Q (pc + 1) L (.int (f i.toNatClampNeg) :: st) S) : At G X nL Q pc L (.int i :: .ref (ad G 47) :: st) S := by
  subst hf
  exact at_iald C 47 rfl hi d kk
theorem svMM_gift (C : Cx G X own cc nL lv rt) {i x : Int32} (hi : inb i 96 = true) (d : decode cc pc = .ok (.iastore, 1)) (kk : At G X nL Q (pc + 1) L st (sMM_gift S (upd (gMM_gift S) i.toNatClampNeg x))) : At G X nL Q pc L (.int x :: .int i :: .ref (ad G 47) :: st) S := at_iast C 47 rfl hi rfl d kk
theorem ldMM_paid (C : Cx G X own cc nL lv rt) {f : Nat → Int32} (hf : gMM_paid S = f) {i : Int32} (hi : inb i 96 = true) (d : decode cc pc = .ok (.iaload, 1)) (kk : At G X nL Q (pc + 1) L (.int (f i.toNatClampNeg) :: st) S) : At G X nL Q pc L (.int i :: .ref (ad G 48) :: st) S := by
  subst hf
  exact at_iald C 48 rfl hi d kk
theorem svMM_paid (C : Cx G X own cc nL lv rt) {i x : Int32} (hi : inb i 96 = true) (d : decode cc pc = .ok (.iastore, 1)) (kk : At G X nL Q (pc + 1) L st (sMM_paid S (upd (gMM_paid S) i.toNatClampNeg x))) : At G X nL Q pc L (.int x :: .int i :: .ref (ad G 48) :: st) S := at_iast C 48 rfl hi rfl d kk
theorem ldMM_late (C : Cx G X own cc nL lv rt) {f : Nat → Int64} (hf : gMM_late S = f) {i : Int32} (hi : inb i 16 = true) (d : decode cc pc = .ok (.laload, 1)) (kk : At G X nL Q (pc + 1) L (.long (f i.toNatClampNeg) :: st) S) : At G X nL Q pc L (.int i :: .ref (ad G 49) :: st) S := by
  subst hf
  exact at_lald C 49 rfl hi d kk
theorem svMM_late (C : Cx G X own cc nL lv rt) {i : Int32} {x : Int64} (hi : inb i 16 = true) (d : decode cc pc = .ok (.lastore, 1)) (kk : At G X nL Q (pc + 1) L st (sMM_late S (vp_updL (gMM_late S) i.toNatClampNeg x))) : At G X nL Q pc L (.long x :: .int i :: .ref (ad G 49) :: st) S := at_last C 49 rfl hi rfl d kk
theorem ldMM_town (C : Cx G X own cc nL lv rt) {f : Nat → Int32} (hf : gMM_town S = f) {i : Int32} (hi : inb i 100 = true) (d : decode cc pc = .ok (.iaload, 1)) (kk : At G X nL Q (pc + 1) L (.int (f i.toNatClampNeg) :: st) S) : At G X nL Q pc L (.int i :: .ref (ad G 50) :: st) S := by
  subst hf
  exact at_iald C 50 rfl hi d kk
theorem svMM_town (C : Cx G X own cc nL lv rt) {i x : Int32} (hi : inb i 100 = true) (d : decode cc pc = .ok (.iastore, 1)) (kk : At G X nL Q (pc + 1) L st (sMM_town S (upd (gMM_town S) i.toNatClampNeg x))) : At G X nL Q pc L (.int x :: .int i :: .ref (ad G 50) :: st) S := at_iast C 50 rfl hi rfl d kk
theorem ldMM_good (C : Cx G X own cc nL lv rt) {f : Nat → Int32} (hf : gMM_good S = f) {i : Int32} (hi : inb i 100 = true) (d : decode cc pc = .ok (.iaload, 1)) (kk : At G X nL Q (pc + 1) L (.int (f i.toNatClampNeg) :: st) S) : At G X nL Q pc L (.int i :: .ref (ad G 51) :: st) S := by
  subst hf
  exact at_iald C 51 rfl hi d kk
theorem svMM_good (C : Cx G X own cc nL lv rt) {i x : Int32} (hi : inb i 100 = true) (d : decode cc pc = .ok (.iastore, 1)) (kk : At G X nL Q (pc + 1) L st (sMM_good S (upd (gMM_good S) i.toNatClampNeg x))) : At G X nL Q pc L (.int x :: .int i :: .ref (ad G 51) :: st) S := at_iast C 51 rfl hi rfl d kk
theorem ldMM_pieces (C : Cx G X own cc nL lv rt) {f : Nat → Int32} (hf : gMM_pieces S = f) {i : Int32} (hi : inb i 100 = true) (d : decode cc pc = .ok (.iaload, 1)) (kk : At G X nL Q (pc + 1) L (.int (f i.toNatClampNeg) :: st) S) : At G X nL Q pc L (.int i :: .ref (ad G 52) :: st) S := by
  subst hf
  exact at_iald C 52 rfl hi d kk
theorem svMM_pieces (C : Cx G X own cc nL lv rt) {i x : Int32} (hi : inb i 100 = true) (d : decode cc pc = .ok (.iastore, 1)) (kk : At G X nL Q (pc + 1) L st (sMM_pieces S (upd (gMM_pieces S) i.toNatClampNeg x))) : At G X nL Q pc L (.int x :: .int i :: .ref (ad G 52) :: st) S := at_iast C 52 rfl hi rfl d kk
theorem ldMM_bearers (C : Cx G X own cc nL lv rt) {f : Nat → Int32} (hf : gMM_bearers S = f) {i : Int32} (hi : inb i 100 = true) (d : decode cc pc = .ok (.iaload, 1)) (kk : At G X nL Q (pc + 1) L (.int (f i.toNatClampNeg) :: st) S) : At G X nL Q pc L (.int i :: .ref (ad G 53) :: st) S := by
  subst hf
  exact at_iald C 53 rfl hi d kk
theorem svMM_bearers (C : Cx G X own cc nL lv rt) {i x : Int32} (hi : inb i 100 = true) (d : decode cc pc = .ok (.iastore, 1)) (kk : At G X nL Q (pc + 1) L st (sMM_bearers S (upd (gMM_bearers S) i.toNatClampNeg x))) : At G X nL Q pc L (.int x :: .int i :: .ref (ad G 53) :: st) S := at_iast C 53 rfl hi rfl d kk
theorem ldMM_left (C : Cx G X own cc nL lv rt) {f : Nat → Int32} (hf : gMM_left S = f) {i : Int32} (hi : inb i 100 = true) (d : decode cc pc = .ok (.iaload, 1)) (kk : At G X nL Q (pc + 1) L (.int (f i.toNatClampNeg) :: st) S) : At G X nL Q pc L (.int i :: .ref (ad G 54) :: st) S := by
  subst hf
  exact at_iald C 54 rfl hi d kk
theorem svMM_left (C : Cx G X own cc nL lv rt) {i x : Int32} (hi : inb i 100 = true) (d : decode cc pc = .ok (.iastore, 1)) (kk : At G X nL Q (pc + 1) L st (sMM_left S (upd (gMM_left S) i.toNatClampNeg x))) : At G X nL Q pc L (.int x :: .int i :: .ref (ad G 54) :: st) S := at_iast C 54 rfl hi rfl d kk
theorem ldMM_comes (C : Cx G X own cc nL lv rt) {f : Nat → Int32} (hf : gMM_comes S = f) {i : Int32} (hi : inb i 100 = true) (d : decode cc pc = .ok (.iaload, 1)) (kk : At G X nL Q (pc + 1) L (.int (f i.toNatClampNeg) :: st) S) : At G X nL Q pc L (.int i :: .ref (ad G 55) :: st) S := by
  subst hf
  exact at_iald C 55 rfl hi d kk
theorem svMM_comes (C : Cx G X own cc nL lv rt) {i x : Int32} (hi : inb i 100 = true) (d : decode cc pc = .ok (.iastore, 1)) (kk : At G X nL Q (pc + 1) L st (sMM_comes S (upd (gMM_comes S) i.toNatClampNeg x))) : At G X nL Q pc L (.int x :: .int i :: .ref (ad G 55) :: st) S := at_iast C 55 rfl hi rfl d kk
theorem ldMM_isStored (C : Cx G X own cc nL lv rt) {f : Nat → Int32} (hf : gMM_isStored S = f) {i : Int32} (hi : inb i 100 = true) (d : decode cc pc = .ok (.baload, 1)) (kk : At G X nL Q (pc + 1) L (.int (f i.toNatClampNeg) :: st) S) : At G X nL Q pc L (.int i :: .ref (ad G 56) :: st) S := by
  subst hf
  exact at_zald C 56 rfl hi d kk
theorem svMM_isStored (C : Cx G X own cc nL lv rt) {i x : Int32} (hi : inb i 100 = true) (d : decode cc pc = .ok (.bastore, 1)) (kk : At G X nL Q (pc + 1) L st (sMM_isStored S (upd (gMM_isStored S) i.toNatClampNeg (vp_nar .boolean x)))) : At G X nL Q pc L (.int x :: .int i :: .ref (ad G 56) :: st) S := at_zast C 56 rfl hi rfl d kk
theorem ldMM_used (C : Cx G X own cc nL lv rt) {f : Nat → Int32} (hf : gMM_used S = f) {i : Int32} (hi : inb i 100 = true) (d : decode cc pc = .ok (.iaload, 1)) (kk : At G X nL Q (pc + 1) L (.int (f i.toNatClampNeg) :: st) S) : At G X nL Q pc L (.int i :: .ref (ad G 57) :: st) S := by
  subst hf
  exact at_iald C 57 rfl hi d kk
theorem svMM_used (C : Cx G X own cc nL lv rt) {i x : Int32} (hi : inb i 100 = true) (d : decode cc pc = .ok (.iastore, 1)) (kk : At G X nL Q (pc + 1) L st (sMM_used S (upd (gMM_used S) i.toNatClampNeg x))) : At G X nL Q pc L (.int x :: .int i :: .ref (ad G 57) :: st) S := at_iast C 57 rfl hi rfl d kk
theorem ldMM_storedOrder (C : Cx G X own cc nL lv rt) {f : Nat → Int32} (hf : gMM_storedOrder S = f) {i : Int32} (hi : inb i 100 = true) (d : decode cc pc = .ok (.iaload, 1)) (kk : At G X nL Q (pc + 1) L (.int (f i.toNatClampNeg) :: st) S) : At G X nL Q pc L (.int i :: .ref (ad G 58) :: st) S := by
  subst hf
  exact at_iald C 58 rfl hi d kk
theorem svMM_storedOrder (C : Cx G X own cc nL lv rt) {i x : Int32} (hi : inb i 100 = true) (d : decode cc pc = .ok (.iastore, 1)) (kk : At G X nL Q (pc + 1) L st (sMM_storedOrder S (upd (gMM_storedOrder S) i.toNatClampNeg x))) : At G X nL Q pc L (.int x :: .int i :: .ref (ad G 58) :: st) S := at_iast C 58 rfl hi rfl d kk
theorem ldMM_tape (C : Cx G X own cc nL lv rt) {f : Nat → Int32} (hf : gMM_tape S = f) {i : Int32} (hi : inb i 300 = true) (d : decode cc pc = .ok (.iaload, 1)) (kk : At G X nL Q (pc + 1) L (.int (f i.toNatClampNeg) :: st) S) : At G X nL Q pc L (.int i :: .ref (ad G 59) :: st) S := by
  subst hf
  exact at_iald C 59 rfl hi d kk
theorem svMM_tape (C : Cx G X own cc nL lv rt) {i x : Int32} (hi : inb i 300 = true) (d : decode cc pc = .ok (.iastore, 1)) (kk : At G X nL Q (pc + 1) L st (sMM_tape S (upd (gMM_tape S) i.toNatClampNeg x))) : At G X nL Q pc L (.int x :: .int i :: .ref (ad G 59) :: st) S := at_iast C 59 rfl hi rfl d kk
theorem ldMM_from (C : Cx G X own cc nL lv rt) {f : Nat → Int32} (hf : gMM_from S = f) {i : Int32} (hi : inb i 20 = true) (d : decode cc pc = .ok (.iaload, 1)) (kk : At G X nL Q (pc + 1) L (.int (f i.toNatClampNeg) :: st) S) : At G X nL Q pc L (.int i :: .ref (ad G 60) :: st) S := by
  subst hf
  exact at_iald C 60 rfl hi d kk
theorem svMM_from (C : Cx G X own cc nL lv rt) {i x : Int32} (hi : inb i 20 = true) (d : decode cc pc = .ok (.iastore, 1)) (kk : At G X nL Q (pc + 1) L st (sMM_from S (upd (gMM_from S) i.toNatClampNeg x))) : At G X nL Q pc L (.int x :: .int i :: .ref (ad G 60) :: st) S := at_iast C 60 rfl hi rfl d kk
theorem ldMM_gives (C : Cx G X own cc nL lv rt) {f : Nat → Int32} (hf : gMM_gives S = f) {i : Int32} (hi : inb i 20 = true) (d : decode cc pc = .ok (.iaload, 1)) (kk : At G X nL Q (pc + 1) L (.int (f i.toNatClampNeg) :: st) S) : At G X nL Q pc L (.int i :: .ref (ad G 61) :: st) S := by
  subst hf
  exact at_iald C 61 rfl hi d kk
theorem svMM_gives (C : Cx G X own cc nL lv rt) {i x : Int32} (hi : inb i 20 = true) (d : decode cc pc = .ok (.iastore, 1)) (kk : At G X nL Q (pc + 1) L st (sMM_gives S (upd (gMM_gives S) i.toNatClampNeg x))) : At G X nL Q pc L (.int x :: .int i :: .ref (ad G 61) :: st) S := at_iast C 61 rfl hi rfl d kk
theorem ldMM_to (C : Cx G X own cc nL lv rt) {f : Nat → Int32} (hf : gMM_to S = f) {i : Int32} (hi : inb i 20 = true) (d : decode cc pc = .ok (.iaload, 1)) (kk : At G X nL Q (pc + 1) L (.int (f i.toNatClampNeg) :: st) S) : At G X nL Q pc L (.int i :: .ref (ad G 62) :: st) S := by
  subst hf
  exact at_iald C 62 rfl hi d kk
theorem svMM_to (C : Cx G X own cc nL lv rt) {i x : Int32} (hi : inb i 20 = true) (d : decode cc pc = .ok (.iastore, 1)) (kk : At G X nL Q (pc + 1) L st (sMM_to S (upd (gMM_to S) i.toNatClampNeg x))) : At G X nL Q pc L (.int x :: .int i :: .ref (ad G 62) :: st) S := at_iast C 62 rfl hi rfl d kk
theorem ldMM_gets (C : Cx G X own cc nL lv rt) {f : Nat → Int32} (hf : gMM_gets S = f) {i : Int32} (hi : inb i 20 = true) (d : decode cc pc = .ok (.iaload, 1)) (kk : At G X nL Q (pc + 1) L (.int (f i.toNatClampNeg) :: st) S) : At G X nL Q pc L (.int i :: .ref (ad G 63) :: st) S := by
  subst hf
  exact at_iald C 63 rfl hi d kk
theorem svMM_gets (C : Cx G X own cc nL lv rt) {i x : Int32} (hi : inb i 20 = true) (d : decode cc pc = .ok (.iastore, 1)) (kk : At G X nL Q (pc + 1) L st (sMM_gets S (upd (gMM_gets S) i.toNatClampNeg x))) : At G X nL Q pc L (.int x :: .int i :: .ref (ad G 63) :: st) S := at_iast C 63 rfl hi rfl d kk
theorem ldMM_open (C : Cx G X own cc nL lv rt) {f : Nat → Int32} (hf : gMM_open S = f) {i : Int32} (hi : inb i 6 = true) (d : decode cc pc = .ok (.iaload, 1)) (kk : At G X nL Q (pc + 1) L (.int (f i.toNatClampNeg) :: st) S) : At G X nL Q pc L (.int i :: .ref (ad G 64) :: st) S := by
  subst hf
  exact at_iald C 64 rfl hi d kk
theorem svMM_open (C : Cx G X own cc nL lv rt) {i x : Int32} (hi : inb i 6 = true) (d : decode cc pc = .ok (.iastore, 1)) (kk : At G X nL Q (pc + 1) L st (sMM_open S (upd (gMM_open S) i.toNatClampNeg x))) : At G X nL Q pc L (.int x :: .int i :: .ref (ad G 64) :: st) S := at_iast C 64 rfl hi rfl d kk
theorem ldMM_much (C : Cx G X own cc nL lv rt) {f : Nat → Int64} (hf : gMM_much S = f) {i : Int32} (hi : inb i 6 = true) (d : decode cc pc = .ok (.laload, 1)) (kk : At G X nL Q (pc + 1) L (.long (f i.toNatClampNeg) :: st) S) : At G X nL Q pc L (.int i :: .ref (ad G 65) :: st) S := by
  subst hf
  exact at_lald C 65 rfl hi d kk
theorem svMM_much (C : Cx G X own cc nL lv rt) {i : Int32} {x : Int64} (hi : inb i 6 = true) (d : decode cc pc = .ok (.lastore, 1)) (kk : At G X nL Q (pc + 1) L st (sMM_much S (vp_updL (gMM_much S) i.toNatClampNeg x))) : At G X nL Q pc L (.long x :: .int i :: .ref (ad G 65) :: st) S := at_last C 65 rfl hi rfl d kk
theorem ldMM_bestRow (C : Cx G X own cc nL lv rt) {f : Nat → Int32} (hf : gMM_bestRow S = f) {i : Int32} (hi : inb i 6 = true) (d : decode cc pc = .ok (.iaload, 1)) (kk : At G X nL Q (pc + 1) L (.int (f i.toNatClampNeg) :: st) S) : At G X nL Q pc L (.int i :: .ref (ad G 66) :: st) S := by
  subst hf
  exact at_iald C 66 rfl hi d kk
theorem svMM_bestRow (C : Cx G X own cc nL lv rt) {i x : Int32} (hi : inb i 6 = true) (d : decode cc pc = .ok (.iastore, 1)) (kk : At G X nL Q (pc + 1) L st (sMM_bestRow S (upd (gMM_bestRow S) i.toNatClampNeg x))) : At G X nL Q pc L (.int x :: .int i :: .ref (ad G 66) :: st) S := at_iast C 66 rfl hi rfl d kk
theorem ldMM_row (C : Cx G X own cc nL lv rt) {f : Nat → Int32} (hf : gMM_row S = f) {i : Int32} (hi : inb i 6 = true) (d : decode cc pc = .ok (.iaload, 1)) (kk : At G X nL Q (pc + 1) L (.int (f i.toNatClampNeg) :: st) S) : At G X nL Q pc L (.int i :: .ref (ad G 67) :: st) S := by
  subst hf
  exact at_iald C 67 rfl hi d kk
theorem svMM_row (C : Cx G X own cc nL lv rt) {i x : Int32} (hi : inb i 6 = true) (d : decode cc pc = .ok (.iastore, 1)) (kk : At G X nL Q (pc + 1) L st (sMM_row S (upd (gMM_row S) i.toNatClampNeg x))) : At G X nL Q pc L (.int x :: .int i :: .ref (ad G 67) :: st) S := at_iast C 67 rfl hi rfl d kk
theorem ldMM_yield2 (C : Cx G X own cc nL lv rt) {f : Nat → Int32} (hf : gMM_yield2 S = f) {i : Int32} (hi : inb i 16 = true) (d : decode cc pc = .ok (.iaload, 1)) (kk : At G X nL Q (pc + 1) L (.int (f i.toNatClampNeg) :: st) S) : At G X nL Q pc L (.int i :: .ref (ad G 68) :: st) S := by
  subst hf
  exact at_iald C 68 rfl hi d kk
theorem svMM_yield2 (C : Cx G X own cc nL lv rt) {i x : Int32} (hi : inb i 16 = true) (d : decode cc pc = .ok (.iastore, 1)) (kk : At G X nL Q (pc + 1) L st (sMM_yield2 S (upd (gMM_yield2 S) i.toNatClampNeg x))) : At G X nL Q pc L (.int x :: .int i :: .ref (ad G 68) :: st) S := at_iast C 68 rfl hi rfl d kk
theorem ldMM_hasMore (C : Cx G X own cc nL lv rt) {f : Nat → Int32} (hf : gMM_hasMore S = f) {i : Int32} (hi : inb i 16 = true) (d : decode cc pc = .ok (.baload, 1)) (kk : At G X nL Q (pc + 1) L (.int (f i.toNatClampNeg) :: st) S) : At G X nL Q pc L (.int i :: .ref (ad G 69) :: st) S := by
  subst hf
  exact at_zald C 69 rfl hi d kk
theorem svMM_hasMore (C : Cx G X own cc nL lv rt) {i x : Int32} (hi : inb i 16 = true) (d : decode cc pc = .ok (.bastore, 1)) (kk : At G X nL Q (pc + 1) L st (sMM_hasMore S (upd (gMM_hasMore S) i.toNatClampNeg (vp_nar .boolean x)))) : At G X nL Q pc L (.int x :: .int i :: .ref (ad G 69) :: st) S := at_zast C 69 rfl hi rfl d kk
end ROWS2
end
section
section JDK
variable {G : GG} {X : CX} {own : String} {cc : ByteArray} {nL lv pc : Nat} {rt : Option FieldType} {Q : State → Prop} {S : ST} {L L' : List (Nat × Value)} {st : List Value}
theorem at_callVi {idx n j mL q ci N : Nat} {cn : String} {y : MethodName} {bytes : ByteArray} {ret : Option FieldType} {r : Int32} {S1 : ST} {As st0 : List Value} {fs : List Value} {T : u_T} (C : Cx G X own cc nL lv rt) (hk : kV own idx cn y bytes mL ret n) (hM : Met (xl X) y (.code y bytes mL ret :: gw) (rmm j) (PcW G (.ref (ad G q) :: As) S) (Qw G (some (.int r)) S1) 0 0 (Aw G)) (hj : j < lv) (hr : (wld G S)[q]? = some (ad G q, .inr (ci, fs))) (hc : cls[ci]? = some (cn, T, N)) (hn : As.length = n) (hst : st0 = As.reverse ++ .ref (ad G q) :: st) (hcat : (st.map fun v => v.category).sum ≤ 8) (d : decode cc pc = .ok (.invokevirtual idx, 3)) (kk : At G X nL Q (pc + 3) L (.int r :: st) S1) : At G X nL Q pc L st0 S := at_callV C hk hM hj hr hc hn hst hcat d kk
theorem at_callVl {idx n j mL q ci N : Nat} {cn : String} {y : MethodName} {bytes : ByteArray} {ret : Option FieldType} {r : Int64} {S1 : ST} {As st0 : List Value} {fs : List Value} {T : u_T} (C : Cx G X own cc nL lv rt) (hk : kV own idx cn y bytes mL ret n) (hM : Met (xl X) y (.code y bytes mL ret :: gw) (rmm j) (PcW G (.ref (ad G q) :: As) S) (Qw G (some (.long r)) S1) 0 0 (Aw G)) (hj : j < lv) (hr : (wld G S)[q]? = some (ad G q, .inr (ci, fs))) (hc : cls[ci]? = some (cn, T, N)) (hn : As.length = n) (hst : st0 = As.reverse ++ .ref (ad G q) :: st) (hcat : (st.map fun v => v.category).sum ≤ 8) (d : decode cc pc = .ok (.invokevirtual idx, 3)) (kk : At G X nL Q (pc + 3) L (.long r :: st) S1) : At G X nL Q pc L st0 S := at_callV C hk hM hj hr hc hn hst hcat d kk
theorem at_callVv {idx n j mL q ci N : Nat} {cn : String} {y : MethodName} {bytes : ByteArray} {ret : Option FieldType}  {S1 : ST} {As st0 : List Value} {fs : List Value} {T : u_T} (C : Cx G X own cc nL lv rt) (hk : kV own idx cn y bytes mL ret n) (hM : Met (xl X) y (.code y bytes mL ret :: gw) (rmm j) (PcW G (.ref (ad G q) :: As) S) (Qw G (none) S1) 0 0 (Aw G)) (hj : j < lv) (hr : (wld G S)[q]? = some (ad G q, .inr (ci, fs))) (hc : cls[ci]? = some (cn, T, N)) (hn : As.length = n) (hst : st0 = As.reverse ++ .ref (ad G q) :: st) (hcat : (st.map fun v => v.category).sum ≤ 8) (d : decode cc pc = .ok (.invokevirtual idx, 3)) (kk : At G X nL Q (pc + 3) L (st) S1) : At G X nL Q pc L st0 S := at_callV C hk hM hj hr hc hn hst hcat d kk
theorem at_callVr {idx n j mL q ci N : Nat} {cn : String} {y : MethodName} {bytes : ByteArray} {ret : Option FieldType} {r : Nat} {S1 : ST} {As st0 : List Value} {fs : List Value} {T : u_T} (C : Cx G X own cc nL lv rt) (hk : kV own idx cn y bytes mL ret n) (hM : Met (xl X) y (.code y bytes mL ret :: gw) (rmm j) (PcW G (.ref (ad G q) :: As) S) (Qw G (some (.ref r)) S1) 0 0 (Aw G)) (hj : j < lv) (hr : (wld G S)[q]? = some (ad G q, .inr (ci, fs))) (hc : cls[ci]? = some (cn, T, N)) (hn : As.length = n) (hst : st0 = As.reverse ++ .ref (ad G q) :: st) (hcat : (st.map fun v => v.category).sum ≤ 8) (d : decode cc pc = .ok (.invokevirtual idx, 3)) (kk : At G X nL Q (pc + 3) L (.ref r :: st) S1) : At G X nL Q pc L st0 S := at_callV C hk hM hj hr hc hn hst hcat d kk
theorem at_callSi {idx n j mL : Nat} {y : MethodName} {bytes : ByteArray} {ret : Option FieldType} {r : Int32} {S1 : ST} {As st0 : List Value} (C : Cx G X own cc nL lv rt) (hk : kS own idx y bytes mL ret n) (hM : Met (xl X) y (.code y bytes mL ret :: gw) (rmm j) (PcW G As S) (Qw G (some (.int r)) S1) 0 0 (Aw G)) (hj : j < lv) (hn : As.length = n) (hst : st0 = As.reverse ++ st) (hcat : (st.map fun v => v.category).sum ≤ 8) (d : decode cc pc = .ok (.invokestatic idx, 3)) (kk : At G X nL Q (pc + 3) L (.int r :: st) S1) : At G X nL Q pc L st0 S := at_callS C hk hM hj hn hst hcat d kk
theorem at_callSl {idx n j mL : Nat} {y : MethodName} {bytes : ByteArray} {ret : Option FieldType} {r : Int64} {S1 : ST} {As st0 : List Value} (C : Cx G X own cc nL lv rt) (hk : kS own idx y bytes mL ret n) (hM : Met (xl X) y (.code y bytes mL ret :: gw) (rmm j) (PcW G As S) (Qw G (some (.long r)) S1) 0 0 (Aw G)) (hj : j < lv) (hn : As.length = n) (hst : st0 = As.reverse ++ st) (hcat : (st.map fun v => v.category).sum ≤ 8) (d : decode cc pc = .ok (.invokestatic idx, 3)) (kk : At G X nL Q (pc + 3) L (.long r :: st) S1) : At G X nL Q pc L st0 S := at_callS C hk hM hj hn hst hcat d kk
theorem at_callSv {idx n j mL : Nat} {y : MethodName} {bytes : ByteArray} {ret : Option FieldType}  {S1 : ST} {As st0 : List Value} (C : Cx G X own cc nL lv rt) (hk : kS own idx y bytes mL ret n) (hM : Met (xl X) y (.code y bytes mL ret :: gw) (rmm j) (PcW G As S) (Qw G (none) S1) 0 0 (Aw G)) (hj : j < lv) (hn : As.length = n) (hst : st0 = As.reverse ++ st) (hcat : (st.map fun v => v.category).sum ≤ 8) (d : decode cc pc = .ok (.invokestatic idx, 3)) (kk : At G X nL Q (pc + 3) L (st) S1) : At G X nL Q pc L st0 S := at_callS C hk hM hj hn hst hcat d kk
theorem at_callSr {idx n j mL : Nat} {y : MethodName} {bytes : ByteArray} {ret : Option FieldType} {r : Nat} {S1 : ST} {As st0 : List Value} (C : Cx G X own cc nL lv rt) (hk : kS own idx y bytes mL ret n) (hM : Met (xl X) y (.code y bytes mL ret :: gw) (rmm j) (PcW G As S) (Qw G (some (.ref r)) S1) 0 0 (Aw G)) (hj : j < lv) (hn : As.length = n) (hst : st0 = As.reverse ++ st) (hcat : (st.map fun v => v.category).sum ≤ 8) (d : decode cc pc = .ok (.invokestatic idx, 3)) (kk : At G X nL Q (pc + 3) L (.ref r :: st) S1) : At G X nL Q pc L st0 S := at_callS C hk hM hj hn hst hcat d kk
theorem at_callNi {idx n j mL : Nat} {host : String} {y : MethodName} {bytes : ByteArray} {ret : Option FieldType} {r : Int32} {S1 : ST} {As st0 : List Value} (C : Cx G X own cc nL lv rt) (hk : kN own idx y host bytes mL ret n) (hM : Met (xl X) y (.code y bytes mL ret :: gw) (rmm j) (PcW G As S) (Qw G (some (.int r)) S1) 0 0 (Aw G)) (hj : j < lv) (hn : As.length = n) (hst : st0 = As.reverse ++ st) (hcat : (st.map fun v => v.category).sum ≤ 8) (d : decode cc pc = .ok (.invokestatic idx, 3)) (kk : At G X nL Q (pc + 3) L (.int r :: st) S1) : At G X nL Q pc L st0 S := at_callN C hk hM hj hn hst hcat d kk
theorem at_callNl {idx n j mL : Nat} {host : String} {y : MethodName} {bytes : ByteArray} {ret : Option FieldType} {r : Int64} {S1 : ST} {As st0 : List Value} (C : Cx G X own cc nL lv rt) (hk : kN own idx y host bytes mL ret n) (hM : Met (xl X) y (.code y bytes mL ret :: gw) (rmm j) (PcW G As S) (Qw G (some (.long r)) S1) 0 0 (Aw G)) (hj : j < lv) (hn : As.length = n) (hst : st0 = As.reverse ++ st) (hcat : (st.map fun v => v.category).sum ≤ 8) (d : decode cc pc = .ok (.invokestatic idx, 3)) (kk : At G X nL Q (pc + 3) L (.long r :: st) S1) : At G X nL Q pc L st0 S := at_callN C hk hM hj hn hst hcat d kk
theorem at_callNv {idx n j mL : Nat} {host : String} {y : MethodName} {bytes : ByteArray} {ret : Option FieldType}  {S1 : ST} {As st0 : List Value} (C : Cx G X own cc nL lv rt) (hk : kN own idx y host bytes mL ret n) (hM : Met (xl X) y (.code y bytes mL ret :: gw) (rmm j) (PcW G As S) (Qw G (none) S1) 0 0 (Aw G)) (hj : j < lv) (hn : As.length = n) (hst : st0 = As.reverse ++ st) (hcat : (st.map fun v => v.category).sum ≤ 8) (d : decode cc pc = .ok (.invokestatic idx, 3)) (kk : At G X nL Q (pc + 3) L (st) S1) : At G X nL Q pc L st0 S := at_callN C hk hM hj hn hst hcat d kk
theorem at_callNr {idx n j mL : Nat} {host : String} {y : MethodName} {bytes : ByteArray} {ret : Option FieldType} {r : Nat} {S1 : ST} {As st0 : List Value} (C : Cx G X own cc nL lv rt) (hk : kN own idx y host bytes mL ret n) (hM : Met (xl X) y (.code y bytes mL ret :: gw) (rmm j) (PcW G As S) (Qw G (some (.ref r)) S1) 0 0 (Aw G)) (hj : j < lv) (hn : As.length = n) (hst : st0 = As.reverse ++ st) (hcat : (st.map fun v => v.category).sum ≤ 8) (d : decode cc pc = .ok (.invokestatic idx, 3)) (kk : At G X nL Q (pc + 3) L (.ref r :: st) S1) : At G X nL Q pc L st0 S := at_callN C hk hM hj hn hst hcat d kk
theorem zn_0 : narrow .boolean (.int 0) = .int 0 := rfl
theorem zn_1 : narrow .boolean (.int 1) = .int 1 := rfl
def isz (x : Int32) : Bool := decide (x = 0) || decide (x = 1)
theorem isz_nar {x : Int32} (h : isz x = true) : narrow .boolean (.int x) = .int x := by
  unfold isz at h
  simp only [Bool.or_eq_true, decide_eq_true_eq] at h
  rcases h with rfl | rfl <;> rfl
theorem rm1 (C : Cx G X own cc nL lv rt) (h : 0 < lv) : 1 ≤ (xR X).frames ∧ 60 ≤ (xR X).locals := by
  have h1 := C.2.2.2.2.2.2.2.2.2.1
  have h2 := C.2.2.2.2.2.2.2.2.2.2.1
  omega
theorem at_mmin (C : Cx G X own cc nL lv rt) {idx : Nat} {x y : Int32} (hj : Cond.methodLink own idx Lib.Math.min.name ∈ gw ∧ Cond.static Lib.Math.min.name ∈ gw ∧ Cond.initialized "java/lang/Math" ∈ gw ∧ Cond.code Lib.Math.min.name Lib.Math.min.code 2 (some .int) ∈ gw) (hlv : 0 < lv) (hcat : (st.map fun v => v.category).sum ≤ 8) (d : decode cc pc = .ok (.invokestatic idx, 3)) (kk : At G X nL Q (pc + 3) L (.int (if y < x then y else x) :: st) S) : At G X nL Q pc L (.int y :: .int x :: st) S := fun ls H locs hl hP hS => va_mmin C.1 C.2.1 (C.2.2.1.trans hl.1.symm) C.2.2.2.1 (C.2.2.2.2.1 _ hj.1) (C.2.2.2.2.1 _ hj.2.1) (C.2.2.2.2.1 _ hj.2.2.1) (C.2.2.2.2.1 _ hj.2.2.2) (rm1 C hlv).1 (by have := (rm1 C hlv).2; omega) C.2.2.2.2.2.2.2.2.2.2.2.1 C.2.2.2.2.2.2.2.2.2.2.2.2 d (kk ls H locs hl hP hS)
theorem at_mmax (C : Cx G X own cc nL lv rt) {idx : Nat} {x y : Int32} (hj : Cond.methodLink own idx Lib.Math.max.name ∈ gw ∧ Cond.static Lib.Math.max.name ∈ gw ∧ Cond.initialized "java/lang/Math" ∈ gw ∧ Cond.code Lib.Math.max.name Lib.Math.max.code 2 (some .int) ∈ gw) (hlv : 0 < lv) (hcat : (st.map fun v => v.category).sum ≤ 8) (d : decode cc pc = .ok (.invokestatic idx, 3)) (kk : At G X nL Q (pc + 3) L (.int (if x < y then y else x) :: st) S) : At G X nL Q pc L (.int y :: .int x :: st) S := fun ls H locs hl hP hS => va_mmax C.1 C.2.1 (C.2.2.1.trans hl.1.symm) C.2.2.2.1 (C.2.2.2.2.1 _ hj.1) (C.2.2.2.2.1 _ hj.2.1) (C.2.2.2.2.1 _ hj.2.2.1) (C.2.2.2.2.1 _ hj.2.2.2) (rm1 C hlv).1 (by have := (rm1 C hlv).2; omega) C.2.2.2.2.2.2.2.2.2.2.2.1 C.2.2.2.2.2.2.2.2.2.2.2.2 d (kk ls H locs hl hP hS)
theorem at_mminL (C : Cx G X own cc nL lv rt) {idx : Nat} {x y : Int64} (hj : Cond.methodLink own idx Lib.MathLoose.min_long.x ∈ gw ∧ Cond.static Lib.MathLoose.min_long.x ∈ gw ∧ Cond.initialized "java/lang/Math" ∈ gw ∧ Cond.code Lib.MathLoose.min_long.x Lib.MathLoose.min_long.code 4 (some .long) ∈ gw) (hlv : 0 < lv) (hcat : (st.map fun v => v.category).sum ≤ 8) (d : decode cc pc = .ok (.invokestatic idx, 3)) (kk : At G X nL Q (pc + 3) L (.long (if y < x then y else x) :: st) S) : At G X nL Q pc L (.long y :: .long x :: st) S := fun ls H locs hl hP hS => va_mmin_long C.1 C.2.1 (C.2.2.1.trans hl.1.symm) C.2.2.2.1 (C.2.2.2.2.1 _ hj.1) (C.2.2.2.2.1 _ hj.2.1) (C.2.2.2.2.1 _ hj.2.2.1) (C.2.2.2.2.1 _ hj.2.2.2) (rm1 C hlv).1 (by have := (rm1 C hlv).2; omega) C.2.2.2.2.2.2.2.2.2.2.2.1 C.2.2.2.2.2.2.2.2.2.2.2.2 d (kk ls H locs hl hP hS)
theorem at_alen (C : Cx G X own cc nL lv rt) (q : Nat) {n a : Nat} {f : Nat → Int32} (ha : (wld G S)[q]? = some (a, .inl (cy G 0, n, .inl f))) (d : decode cc pc = .ok (.arraylength, 1)) (kk : At G X nL Q (pc + 1) L (.int (nI n) :: st) S) : At G X nL Q pc L (.ref a :: st) S :=
  fun ls H locs hl hP hS => va_alen (tys := tys G) C.1 C.2.1 C.2.2.2.2.2.1.1 hP q 0 ha rfl rfl d (kk ls H locs hl hP hS)
/-- Arrays.fill -/
def filI (n : Nat) (x : Int32) (f : Nat → Int32) : Nat → Int32 := fun j => if j < n then x else f j
theorem filI_0 (x : Int32) (f : Nat → Int32) : filI 0 x f = f := by
  funext j
  simp [filI]
theorem filI_s (i : Nat) (x : Int32) (f : Nat → Int32) : upd (filI i x f) i x = filI (i + 1) x f := by
  funext j
  by_cases h : j = i
  · subst h; simp [upd, filI]
  · by_cases h2 : j < i
    · simp [upd, filI, h, h2]; omega
    · have : ¬ j < i + 1 := by omega
      simp [upd, filI, h, h2, this]
abbrev yfill : MethodName := ⟨"java/util/Arrays", "fill", "([II)V"⟩
theorem dfill_0 : decode prog_18_method_103_code 0 = .ok (.iconst 0, 1) := by decide +kernel
theorem dfill_1 : decode prog_18_method_103_code 1 = .ok (.istore_n 2, 1) := by decide +kernel
theorem dfill_2 : decode prog_18_method_103_code 2 = .ok (.aload_n 0, 1) := by decide +kernel
theorem dfill_3 : decode prog_18_method_103_code 3 = .ok (.arraylength, 1) := by decide +kernel
theorem dfill_4 : decode prog_18_method_103_code 4 = .ok (.istore_n 3, 1) := by decide +kernel
theorem dfill_5 : decode prog_18_method_103_code 5 = .ok (.iload_n 2, 1) := by decide +kernel
theorem dfill_6 : decode prog_18_method_103_code 6 = .ok (.iload_n 3, 1) := by decide +kernel
theorem dfill_7 : decode prog_18_method_103_code 7 = .ok (.if_icmp .ge 13, 3) := by decide +kernel
theorem dfill_10 : decode prog_18_method_103_code 10 = .ok (.aload_n 0, 1) := by decide +kernel
theorem dfill_11 : decode prog_18_method_103_code 11 = .ok (.iload_n 2, 1) := by decide +kernel
theorem dfill_12 : decode prog_18_method_103_code 12 = .ok (.iload_n 1, 1) := by decide +kernel
theorem dfill_13 : decode prog_18_method_103_code 13 = .ok (.iastore, 1) := by decide +kernel
theorem dfill_14 : decode prog_18_method_103_code 14 = .ok (.iinc 2 1, 3) := by decide +kernel
theorem dfill_17 : decode prog_18_method_103_code 17 = .ok (.goto (-12), 3) := by decide +kernel
theorem dfill_20 : decode prog_18_method_103_code 20 = .ok (.return_, 1) := by decide +kernel
theorem filW {n q : Nat} {f : Nat → Int32} {x : Int32} {set : ST → (Nat → Int32) → ST} (C : Cx G X "java/util/Arrays" prog_18_method_103_code 4 lv none) (hn : n < 2 ^ 31) (hset : ∀ g, (wld G S).set q (ad G q, .inl (cy G 0, n, .inl g)) = wld G (set S g)) (hq : q < (wld G S).length) : ∀ (k i : Nat), k + i = n → At G X 4 (MQ (xb X) (Qw G none (set S (filI n x f))) (xa X) (xs X) (xk X) (xz X) (Aw G)) 5 [(3, .int (nI n)), (2, .int (nI i)), (0, .ref (ad G q)), (1, .int x)] [] (set S (filI i x f)) := by
  intro k
  induction k with
  | zero =>
    intro i hi
    have hi : i = n := by omega
    subst hi
    refine at_iload_n (j := 1) C dfill_5 rfl rfl ?_
    refine at_iload_n (j := 0) C dfill_6 rfl rfl ?_
    refine at_icmp_ge C dfill_7 rfl (fun _ => ?_) (fun h => absurd (Int32.le_refl _) h)
    exact at_vret C dfill_20
  | succ k ih =>
    intro i hi
    refine at_iload_n (j := 1) C dfill_5 rfl rfl ?_
    refine at_iload_n (j := 0) C dfill_6 rfl rfl ?_
    refine at_icmp_ge C dfill_7 rfl (fun h => absurd h (nI_ge (by omega) hn)) (fun _ => ?_)
    refine at_aload_n (j := 2) C dfill_10 rfl rfl ?_
    refine at_iload_n (j := 1) C dfill_11 rfl rfl ?_
    refine at_iload_n (j := 3) C dfill_12 rfl rfl ?_
    have hcl : (nI i).toNatClampNeg = i := nI_clamp (by omega)
    have hin : inb (nI i) n = true := by
      unfold inb
      rw [hcl]
      simp only [Bool.and_eq_true, Bool.not_eq_true', decide_eq_false_iff_not, decide_eq_true_eq]
      exact ⟨nI_pos (by omega), by omega⟩
    refine at_iast (S1 := set S (filI (i + 1) x f)) (f := filI i x f) C q ?_ hin ?_ dfill_13 ?_
    · rw [← hset, List.getElem?_set_self hq]
    · rw [← hset, ← hset, List.set_set, hcl, filI_s]
    · refine at_iinc (j := 1) (c := 1) (L' := [(2, .int (nI i + 1)), (3, .int (nI n)), (0, .ref (ad G q)), (1, .int x)]) C dfill_14 rfl (by decide) (by decide) rfl ?_
      refine at_goto C dfill_17 rfl ?_
      refine at_loc (L' := [(3, .int (nI n)), (2, .int (nI (i + 1))), (0, .ref (ad G q)), (1, .int x)]) [1, 0, 2, 3] ?_ (ih (i + 1) (by omega))
      rw [nI_succ]
      rfl
theorem cfill {l : Launch} (hG : GOK G) (q : Nat) {n : Nat} {f : Nat → Int32} {x : Int32} {set : ST → (Nat → Int32) → ST} (hn : n < 2 ^ 31) (ha : (wld G S)[q]? = some (ad G q, .inl (cy G 0, n, .inl f))) (hset : ∀ g, (wld G S).set q (ad G q, .inl (cy G 0, n, .inl g)) = wld G (set S g)) : Met l yfill (.code yfill prog_18_method_103_code 4 none :: gw) (rmm 1) (PcW G [.ref (ad G q), .int x] S) (Qw G none (set S (filI n x f))) 0 0 (Aw G) := by
  have hq : q < (wld G S).length := (List.getElem?_eq_some_iff.mp ha).1
  have h0 : wld G S = wld G (set S f) := by
    obtain ⟨hq2, e⟩ := List.getElem?_eq_some_iff.mp ha
    rw [← hset, ← e, List.set_getElem_self]
  refine met_of (by decide) 1 G hG S _ (Nat.le_of_ble_eq_true rfl) _ _ (fun X _ C => ?_)
  have C : Cx G X "java/util/Arrays" prog_18_method_103_code 4 1 none := C
  show At G X 4 _ 0 [(0, .ref (ad G q)), (1, .int x)] [] S
  refine at_iconst (x := 0) C dfill_0 (by decide) ?_
  refine at_istore_n (L' := [(2, .int 0), (0, .ref (ad G q)), (1, .int x)]) C dfill_1 rfl (by decide) rfl ?_
  refine at_aload_n (j := 1) C dfill_2 rfl rfl ?_
  refine at_alen C q ha dfill_3 ?_
  refine at_istore_n (L' := [(3, .int (nI n)), (2, .int 0), (0, .ref (ad G q)), (1, .int x)]) C dfill_4 rfl (by decide) rfl ?_
  intro ls H locs hl hP hS
  rw [h0] at hP
  have hW := filW (S := S) (f := f) (x := x) C hn hset hq n 0 (by omega)
  rw [filI_0] at hW
  exact hW ls H locs hl hP hS
theorem at_fill (C : Cx G X own cc nL lv rt) {idx : Nat} (hk : kS own idx yfill prog_18_method_103_code 4 none 2) (q : Nat) {n : Nat} {f : Nat → Int32} {x : Int32} (set : ST → (Nat → Int32) → ST) (hn : n < 2 ^ 31) (ha : (wld G S)[q]? = some (ad G q, .inl (cy G 0, n, .inl f))) (hset : ∀ g, (wld G S).set q (ad G q, .inl (cy G 0, n, .inl g)) = wld G (set S g)) (hlv : 1 < lv) (hcat : (st.map fun v => v.category).sum ≤ 8) (d : decode cc pc = .ok (.invokestatic idx, 3)) (kk : At G X nL Q (pc + 3) L st (set S (filI n x f))) : At G X nL Q pc L (.int x :: .ref (ad G q) :: st) S :=
  at_callSv (As := [.ref (ad G q), .int x]) C hk (cfill C.2.2.2.2.2.2.1 q hn ha hset) hlv rfl rfl hcat d kk
/-- System.arraycopy of ints -/
def cpb (n0 n1 : Nat) (sp dp n : Int32) : Bool := !(decide (sp < 0)) && !(decide (dp < 0)) && !(decide (n < 0)) && decide (sp.toNatClampNeg + n.toNatClampNeg ≤ n0) && decide (dp.toNatClampNeg + n.toNatClampNeg ≤ n1)
def cpyI (f g : Nat → Int32) (sp dp n : Int32) : Nat → Int32 := va_cpy f g sp.toNatClampNeg dp.toNatClampNeg n.toNatClampNeg
theorem at_acopy (C : Cx G X own cc nL lv rt) {idx : Nat} (hj : Cond.methodLink own idx arraycopyName ∈ gw ∧ Cond.native arraycopyName ∈ gw ∧ Cond.static arraycopyName ∈ gw ∧ Cond.initialized "java/lang/System" ∈ gw) (q0 q1 : Nat) {a0 a n0 n1 : Nat} {f g : Nat → Int32} {sp dp n : Int32} (set : ST → (Nat → Int32) → ST) (ha0 : (wld G S)[q0]? = some (a0, .inl (cy G 0, n0, .inl f))) (ha1 : (wld G S)[q1]? = some (a, .inl (cy G 0, n1, .inl g))) (hset : ∀ h, (wld G S).set q1 (a, .inl (cy G 0, n1, .inl h)) = wld G (set S h)) (hg : cpb n0 n1 sp dp n = true) (hlv : 0 < lv) (hcat : (st.map fun v => v.category).sum ≤ 8) (d : decode cc pc = .ok (.invokestatic idx, 3)) (kk : At G X nL Q (pc + 3) L st (set S (cpyI f g sp dp n))) : At G X nL Q pc L (.int n :: .int dp :: .ref a :: .int sp :: .ref a0 :: st) S := by
  intro ls H locs hl hP hS
  unfold cpb at hg
  simp only [Bool.and_eq_true, Bool.not_eq_true', decide_eq_false_iff_not, decide_eq_true_eq] at hg
  obtain ⟨⟨⟨⟨g1, g2⟩, g3⟩, g4⟩, g5⟩ := hg
  have hnw : nativeFrameWords "java/lang/System" "arraycopy" 5 ≤ 40 := by decide
  exact va_copyi (tys := tys G) C.1 C.2.1 (C.2.2.1.trans hl.1.symm) C.2.2.2.1 (C.2.2.2.2.1 _ hj.1) (C.2.2.2.2.1 _ hj.2.1) (C.2.2.2.2.1 _ hj.2.2.1) (C.2.2.2.2.1 _ hj.2.2.2) C.2.2.2.2.2.1.1 hP (wld_D C.2.2.2.2.2.2.1 S) hS q0 q1 0 0 ha0 ha1 rfl rfl rfl g1 g2 g3 g4 g5 (fun _ _ => rfl) (rm1 C hlv).1 (by have := (rm1 C hlv).2; omega) d (fun H1 locs1 hP1 _ hS1 => kk ls H1 locs1 hl (by rw [← hset]; exact hP1) hS1)
theorem at_ldcS (C : Cx G X RcLi cc nL lv rt) (d : decode cc pc = .ok (.ldc 89, 2)) (kk : At G X nL Q (pc + 2) L (.ref G.2.2.2.1 :: st) S) : At G X nL Q pc L st S := fun ls H locs hl hP hS => va_ldcS C.1 C.2.1 C.2.2.2.1 C.2.2.2.2.2.1.2.2.1 d (kk ls H locs hl hP hS)
/-- the chars of the word town -/
def town (i : Int32) : Int32 := [116, 111, 119, 110].getD i.toNatClampNeg 0
abbrev yslen : MethodName := ⟨"java/lang/String", "length", "()I"⟩
abbrev yschar : MethodName := ⟨"java/lang/String", "charAt", "(I)C"⟩
end JDK
end
section
theorem cb_m4 : (Int8.ofInt (-4)).toInt32 = (-4 : Int32) := by decide
theorem cb_m3 : (Int8.ofInt (-3)).toInt32 = (-3 : Int32) := by decide
theorem cb_m2 : (Int8.ofInt (-2)).toInt32 = (-2 : Int32) := by decide
theorem cb_6 : (Int8.ofInt (6)).toInt32 = (6 : Int32) := by decide
theorem cb_7 : (Int8.ofInt (7)).toInt32 = (7 : Int32) := by decide
theorem cb_8 : (Int8.ofInt (8)).toInt32 = (8 : Int32) := by decide
theorem cb_10 : (Int8.ofInt (10)).toInt32 = (10 : Int32) := by decide
theorem cb_15 : (Int8.ofInt (15)).toInt32 = (15 : Int32) := by decide
theorem cb_16 : (Int8.ofInt (16)).toInt32 = (16 : Int32) := by decide
theorem cb_20 : (Int8.ofInt (20)).toInt32 = (20 : Int32) := by decide
theorem cb_24 : (Int8.ofInt (24)).toInt32 = (24 : Int32) := by decide
theorem cb_30 : (Int8.ofInt (30)).toInt32 = (30 : Int32) := by decide
theorem cb_32 : (Int8.ofInt (32)).toInt32 = (32 : Int32) := by decide
theorem cb_33 : (Int8.ofInt (33)).toInt32 = (33 : Int32) := by decide
theorem cb_44 : (Int8.ofInt (44)).toInt32 = (44 : Int32) := by decide
theorem cb_48 : (Int8.ofInt (48)).toInt32 = (48 : Int32) := by decide
theorem cb_50 : (Int8.ofInt (50)).toInt32 = (50 : Int32) := by decide
theorem cb_57 : (Int8.ofInt (57)).toInt32 = (57 : Int32) := by decide
theorem cb_58 : (Int8.ofInt (58)).toInt32 = (58 : Int32) := by decide
theorem cb_59 : (Int8.ofInt (59)).toInt32 = (59 : Int32) := by decide
theorem cb_65 : (Int8.ofInt (65)).toInt32 = (65 : Int32) := by decide
theorem cb_90 : (Int8.ofInt (90)).toInt32 = (90 : Int32) := by decide
theorem cb_96 : (Int8.ofInt (96)).toInt32 = (96 : Int32) := by decide
theorem cb_97 : (Int8.ofInt (97)).toInt32 = (97 : Int32) := by decide
theorem cb_99 : (Int8.ofInt (99)).toInt32 = (99 : Int32) := by decide
theorem cb_100 : (Int8.ofInt (100)).toInt32 = (100 : Int32) := by decide
theorem cb_110 : (Int8.ofInt (110)).toInt32 = (110 : Int32) := by decide
theorem cb_111 : (Int8.ofInt (111)).toInt32 = (111 : Int32) := by decide
theorem cb_116 : (Int8.ofInt (116)).toInt32 = (116 : Int32) := by decide
theorem cb_119 : (Int8.ofInt (119)).toInt32 = (119 : Int32) := by decide
theorem cb_122 : (Int8.ofInt (122)).toInt32 = (122 : Int32) := by decide
theorem ci_m8 : Int32.ofInt (-8) = (-8 : Int32) := by decide
theorem ci_m1 : Int32.ofInt (-1) = (-1 : Int32) := by decide
theorem ci_0 : Int32.ofInt (0) = (0 : Int32) := by decide
theorem ci_1 : Int32.ofInt (1) = (1 : Int32) := by decide
theorem ci_2 : Int32.ofInt (2) = (2 : Int32) := by decide
theorem ci_3 : Int32.ofInt (3) = (3 : Int32) := by decide
theorem ci_4 : Int32.ofInt (4) = (4 : Int32) := by decide
theorem ci_5 : Int32.ofInt (5) = (5 : Int32) := by decide
theorem cs_255 : (Int16.ofInt (255)).toInt32 = (255 : Int32) := by decide
theorem cs_256 : (Int16.ofInt (256)).toInt32 = (256 : Int32) := by decide
theorem cs_280 : (Int16.ofInt (280)).toInt32 = (280 : Int32) := by decide
theorem cs_300 : (Int16.ofInt (300)).toInt32 = (300 : Int32) := by decide
theorem cs_480 : (Int16.ofInt (480)).toInt32 = (480 : Int32) := by decide
theorem cs_3000 : (Int16.ofInt (3000)).toInt32 = (3000 : Int32) := by decide
theorem cs_9999 : (Int16.ofInt (9999)).toInt32 = (9999 : Int32) := by decide
theorem cs_10000 : (Int16.ofInt (10000)).toInt32 = (10000 : Int32) := by decide
abbrev yTL_init : MethodName := ⟨"TributeLists", "<init>", "()V"⟩
abbrev yTL_road : MethodName := ⟨"TributeLists", "road", "(III)Z"⟩
abbrev yTL_way : MethodName := ⟨"TributeLists", "way", "(II)I"⟩
abbrev yTL_weight : MethodName := ⟨"TributeLists", "weight", "(II)Z"⟩
abbrev yTL_carriers : MethodName := ⟨"TributeLists", "carriers", "(II)I"⟩
abbrev yTL_feed : MethodName := ⟨"TributeLists", "feed", "(IIIII)I"⟩
abbrev yTL_end : MethodName := ⟨"TributeLists", "end", "(I)I"⟩
abbrev yTL_copy : MethodName := ⟨"TributeLists", "copy", "(I)I"⟩
abbrev yTL_fault : MethodName := ⟨"TributeLists", "fault", "(I)I"⟩
abbrev yTL_tells : MethodName := ⟨"TributeLists", "tells", "(III)I"⟩
abbrev yTL_owed : MethodName := ⟨"TributeLists", "owed", "(II)I"⟩
abbrev yTL_quarrel : MethodName := ⟨"TributeLists", "quarrel", "(II)I"⟩
abbrev yTL_quarrels : MethodName := ⟨"TributeLists", "quarrels", "()I"⟩
abbrev yTL_send : MethodName := ⟨"TributeLists", "send", "(III)I"⟩
abbrev yTL_sending : MethodName := ⟨"TributeLists", "sending", "(II)I"⟩
abbrev yTL_days : MethodName := ⟨"TributeLists", "days", "(I)I"⟩
abbrev yTL_account : MethodName := ⟨"TributeLists", "account", "(III)I"⟩
abbrev yTL_late : MethodName := ⟨"TributeLists", "late", "(I)J"⟩
abbrev yTL_piece : MethodName := ⟨"TributeLists", "piece", "(I)I"⟩
abbrev yTL_market : MethodName := ⟨"TributeLists", "market", "(IIII)I"⟩
abbrev yTL_barter : MethodName := ⟨"TributeLists", "barter", "(III)I"⟩
abbrev yTL_bartered : MethodName := ⟨"TributeLists", "bartered", "(I)I"⟩
abbrev yTL_yields : MethodName := ⟨"TributeLists", "yields", "(II)Z"⟩
abbrev yTL_parted : MethodName := ⟨"TributeLists", "parted", "(II)I"⟩
abbrev yTL_about : MethodName := ⟨"TributeLists", "about", "(I)I"⟩
abbrev yTL_storeArrivals : MethodName := ⟨"TributeLists", "storeArrivals", "()V"⟩
abbrev yTL_bringDebts : MethodName := ⟨"TributeLists", "bringDebts", "()V"⟩
abbrev yTL_within : MethodName := ⟨"TributeLists", "within", "(III)Z"⟩
abbrev yTL_isPlace : MethodName := ⟨"TributeLists", "isPlace", "(I)Z"⟩
abbrev yTL_isTown : MethodName := ⟨"TributeLists", "isTown", "(I)Z"⟩
abbrev yTL_isGood : MethodName := ⟨"TributeLists", "isGood", "(I)Z"⟩
abbrev yTL_isCopy : MethodName := ⟨"TributeLists", "isCopy", "(I)Z"⟩
abbrev yTL_slot : MethodName := ⟨"TributeLists", "slot", "(II)I"⟩
abbrev yRo_init : MethodName := ⟨"TributeLists$Roads", "<init>", "()V"⟩
abbrev yRo_lay : MethodName := ⟨"TributeLists$Roads", "lay", "(III)V"⟩
abbrev yRo_leastDays : MethodName := ⟨"TributeLists$Roads", "leastDays", "(II)I"⟩
abbrev yRo_nearestOpen : MethodName := ⟨"TributeLists$Roads", "nearestOpen", "()I"⟩
abbrev yRo_reachOnFrom : MethodName := ⟨"TributeLists$Roads", "reachOnFrom", "(I)V"⟩
abbrev yPo_init : MethodName := ⟨"TributeLists$Porters", "<init>", "()V"⟩
abbrev yPo_setLoad : MethodName := ⟨"TributeLists$Porters", "setLoad", "(I)Z"⟩
abbrev yPo_setWeight : MethodName := ⟨"TributeLists$Porters", "setWeight", "(II)Z"⟩
abbrev yPo_load : MethodName := ⟨"TributeLists$Porters", "load", "()I"⟩
abbrev yPo_weightOf : MethodName := ⟨"TributeLists$Porters", "weightOf", "(I)I"⟩
abbrev yPo_needed : MethodName := ⟨"TributeLists$Porters", "needed", "(II)I"⟩
abbrev yPo_piecesEach : MethodName := ⟨"TributeLists$Porters", "piecesEach", "(I)I"⟩
abbrev yTa_init : MethodName := ⟨"TributeLists$Tape", "<init>", "()V"⟩
abbrev yTa_hasRoomForFive : MethodName := ⟨"TributeLists$Tape", "hasRoomForFive", "()Z"⟩
abbrev yTa_append : MethodName := ⟨"TributeLists$Tape", "append", "(I)V"⟩
abbrev yTa_cut : MethodName := ⟨"TributeLists$Tape", "cut", "(I)V"⟩
abbrev yTa_size : MethodName := ⟨"TributeLists$Tape", "size", "()I"⟩
abbrev yTa_at : MethodName := ⟨"TributeLists$Tape", "at", "(I)I"⟩
abbrev yLi_init : MethodName := ⟨"TributeLists$ListReader", "<init>", "()V"⟩
abbrev yLi_row : MethodName := ⟨"TributeLists$ListReader", "row", "()[I"⟩
abbrev yLi_hasRead : MethodName := ⟨"TributeLists$ListReader", "hasRead", "()Z"⟩
abbrev yLi_faultKind : MethodName := ⟨"TributeLists$ListReader", "faultKind", "()I"⟩
abbrev yLi_faultPlace : MethodName := ⟨"TributeLists$ListReader", "faultPlace", "()I"⟩
abbrev yLi_read : MethodName := ⟨"TributeLists$ListReader", "read", "(LTributeLists$Tape;)I"⟩
abbrev yLi_startAnew : MethodName := ⟨"TributeLists$ListReader", "startAnew", "()V"⟩
abbrev yLi_nextToken : MethodName := ⟨"TributeLists$ListReader", "nextToken", "(LTributeLists$Tape;)V"⟩
abbrev yLi_takeLetters : MethodName := ⟨"TributeLists$ListReader", "takeLetters", "(LTributeLists$Tape;)V"⟩
abbrev yLi_takeDigits : MethodName := ⟨"TributeLists$ListReader", "takeDigits", "(LTributeLists$Tape;)V"⟩
abbrev yLi_takeToken : MethodName := ⟨"TributeLists$ListReader", "takeToken", "()I"⟩
abbrev yLi_takeLineStart : MethodName := ⟨"TributeLists$ListReader", "takeLineStart", "()I"⟩
abbrev yLi_takeTown : MethodName := ⟨"TributeLists$ListReader", "takeTown", "()I"⟩
abbrev yLi_takeColon : MethodName := ⟨"TributeLists$ListReader", "takeColon", "()I"⟩
abbrev yLi_takeGood : MethodName := ⟨"TributeLists$ListReader", "takeGood", "()I"⟩
abbrev yLi_takePieces : MethodName := ⟨"TributeLists$ListReader", "takePieces", "()I"⟩
abbrev yLi_takeBehindPart : MethodName := ⟨"TributeLists$ListReader", "takeBehindPart", "()I"⟩
abbrev yLi_isBlank : MethodName := ⟨"TributeLists$ListReader", "isBlank", "(I)Z"⟩
abbrev yLi_isLetter : MethodName := ⟨"TributeLists$ListReader", "isLetter", "(I)Z"⟩
abbrev yLi_isDigit : MethodName := ⟨"TributeLists$ListReader", "isDigit", "(I)Z"⟩
abbrev yLi_isSign : MethodName := ⟨"TributeLists$ListReader", "isSign", "(I)Z"⟩
abbrev yCo_init : MethodName := ⟨"TributeLists$Copies", "<init>", "()V"⟩
abbrev yCo_replace : MethodName := ⟨"TributeLists$Copies", "replace", "(I[I)V"⟩
abbrev yCo_countRead : MethodName := ⟨"TributeLists$Copies", "countRead", "()I"⟩
abbrev yCo_toldBy : MethodName := ⟨"TributeLists$Copies", "toldBy", "(II)I"⟩
abbrev yCo_mostTold : MethodName := ⟨"TributeLists$Copies", "mostTold", "(I)I"⟩
abbrev yCo_votesFor : MethodName := ⟨"TributeLists$Copies", "votesFor", "(II)I"⟩
abbrev yCo_differ : MethodName := ⟨"TributeLists$Copies", "differ", "(I)Z"⟩
abbrev yAc_init : MethodName := ⟨"TributeLists$Accounts", "<init>", "()V"⟩
abbrev yAc_store : MethodName := ⟨"TributeLists$Accounts", "store", "(III)I"⟩
abbrev yAc_bringDebt : MethodName := ⟨"TributeLists$Accounts", "bringDebt", "(III)V"⟩
abbrev yAc_pay : MethodName := ⟨"TributeLists$Accounts", "pay", "(IIII)I"⟩
abbrev yAc_comingDay : MethodName := ⟨"TributeLists$Accounts", "comingDay", "(I)I"⟩
abbrev yAc_owing : MethodName := ⟨"TributeLists$Accounts", "owing", "(I)I"⟩
abbrev yAc_gift : MethodName := ⟨"TributeLists$Accounts", "gift", "(I)I"⟩
abbrev yAc_paid : MethodName := ⟨"TributeLists$Accounts", "paid", "(I)I"⟩
abbrev yAc_oldestQuarter : MethodName := ⟨"TributeLists$Accounts", "oldestQuarter", "(I)I"⟩
abbrev yAc_lateness : MethodName := ⟨"TributeLists$Accounts", "lateness", "(II)J"⟩
abbrev ySe_init : MethodName := ⟨"TributeLists$Sendings", "<init>", "()V"⟩
abbrev ySe_isFull : MethodName := ⟨"TributeLists$Sendings", "isFull", "()Z"⟩
abbrev ySe_count : MethodName := ⟨"TributeLists$Sendings", "count", "()I"⟩
abbrev ySe_storedPieces : MethodName := ⟨"TributeLists$Sendings", "storedPieces", "()I"⟩
abbrev ySe_add : MethodName := ⟨"TributeLists$Sendings", "add", "(IIIIII)I"⟩
abbrev ySe_entry : MethodName := ⟨"TributeLists$Sendings", "entry", "(II)I"⟩
abbrev ySe_comesOn : MethodName := ⟨"TributeLists$Sendings", "comesOn", "(II)Z"⟩
abbrev ySe_markStored : MethodName := ⟨"TributeLists$Sendings", "markStored", "(II)V"⟩
abbrev ySe_ofPiece : MethodName := ⟨"TributeLists$Sendings", "ofPiece", "(I)I"⟩
abbrev yMa_init : MethodName := ⟨"TributeLists$Markets", "<init>", "()V"⟩
abbrev yMa_isFull : MethodName := ⟨"TributeLists$Markets", "isFull", "()Z"⟩
abbrev yMa_count : MethodName := ⟨"TributeLists$Markets", "count", "()I"⟩
abbrev yMa_add : MethodName := ⟨"TributeLists$Markets", "add", "(IIII)I"⟩
abbrev yMa_bestLength : MethodName := ⟨"TributeLists$Markets", "bestLength", "()I"⟩
abbrev yMa_bestStep : MethodName := ⟨"TributeLists$Markets", "bestStep", "(I)I"⟩
abbrev yMa_findBest : MethodName := ⟨"TributeLists$Markets", "findBest", "(III)J"⟩
abbrev yMa_search : MethodName := ⟨"TributeLists$Markets", "search", "(IJI)V"⟩
abbrev yMa_exchanged : MethodName := ⟨"TributeLists$Markets", "exchanged", "(JI)J"⟩
abbrev yMa_keepIfBetter : MethodName := ⟨"TributeLists$Markets", "keepIfBetter", "(JI)V"⟩
abbrev ySh_init : MethodName := ⟨"TributeLists$Shares", "<init>", "()V"⟩
abbrev ySh_setYield : MethodName := ⟨"TributeLists$Shares", "setYield", "(II)V"⟩
abbrev ySh_shareOf : MethodName := ⟨"TributeLists$Shares", "shareOf", "(II)I"⟩
abbrev ySh_allYields : MethodName := ⟨"TributeLists$Shares", "allYields", "()I"⟩
abbrev yMM_init : MethodName := ⟨"TributeListsModel", "<init>", "()V"⟩
abbrev yMM_isIn : MethodName := ⟨"TributeListsModel", "isIn", "(III)Z"⟩
abbrev yMM_isPlace : MethodName := ⟨"TributeListsModel", "isPlace", "(I)Z"⟩
abbrev yMM_isTown : MethodName := ⟨"TributeListsModel", "isTown", "(I)Z"⟩
abbrev yMM_isGood : MethodName := ⟨"TributeListsModel", "isGood", "(I)Z"⟩
abbrev yMM_road : MethodName := ⟨"TributeListsModel", "road", "(III)Z"⟩
abbrev yMM_wayOf : MethodName := ⟨"TributeListsModel", "wayOf", "(II)I"⟩
abbrev yMM_way : MethodName := ⟨"TributeListsModel", "way", "(II)I"⟩
abbrev yMM_weight : MethodName := ⟨"TributeListsModel", "weight", "(II)Z"⟩
abbrev yMM_carriersOf : MethodName := ⟨"TributeListsModel", "carriersOf", "(II)I"⟩
abbrev yMM_carriers : MethodName := ⟨"TributeListsModel", "carriers", "(II)I"⟩
abbrev yMM_four : MethodName := ⟨"TributeListsModel", "four", "(I)V"⟩
abbrev yMM_feed : MethodName := ⟨"TributeListsModel", "feed", "(IIIII)I"⟩
abbrev yMM_end : MethodName := ⟨"TributeListsModel", "end", "(I)I"⟩
abbrev yMM_see : MethodName := ⟨"TributeListsModel", "see", "(I)I"⟩
abbrev yMM_isLetter : MethodName := ⟨"TributeListsModel", "isLetter", "(I)Z"⟩
abbrev yMM_isDigit : MethodName := ⟨"TributeListsModel", "isDigit", "(I)Z"⟩
abbrev yMM_nextToken : MethodName := ⟨"TributeListsModel", "nextToken", "()V"⟩
abbrev yMM_line : MethodName := ⟨"TributeListsModel", "line", "()I"⟩
abbrev yMM_part : MethodName := ⟨"TributeListsModel", "part", "(I)I"⟩
abbrev yMM_read : MethodName := ⟨"TributeListsModel", "read", "()I"⟩
abbrev yMM_copy : MethodName := ⟨"TributeListsModel", "copy", "(I)I"⟩
abbrev yMM_fault : MethodName := ⟨"TributeListsModel", "fault", "(I)I"⟩
abbrev yMM_tellsOf : MethodName := ⟨"TributeListsModel", "tellsOf", "(III)I"⟩
abbrev yMM_tells : MethodName := ⟨"TributeListsModel", "tells", "(III)I"⟩
abbrev yMM_votes : MethodName := ⟨"TributeListsModel", "votes", "(III)I"⟩
abbrev yMM_owedOf : MethodName := ⟨"TributeListsModel", "owedOf", "(II)I"⟩
abbrev yMM_owed : MethodName := ⟨"TributeListsModel", "owed", "(II)I"⟩
abbrev yMM_isQuarrel : MethodName := ⟨"TributeListsModel", "isQuarrel", "(II)Z"⟩
abbrev yMM_quarrel : MethodName := ⟨"TributeListsModel", "quarrel", "(II)I"⟩
abbrev yMM_quarrels : MethodName := ⟨"TributeListsModel", "quarrels", "()I"⟩
abbrev yMM_send : MethodName := ⟨"TributeListsModel", "send", "(III)I"⟩
abbrev yMM_sending : MethodName := ⟨"TributeListsModel", "sending", "(II)I"⟩
abbrev yMM_store : MethodName := ⟨"TributeListsModel", "store", "(I)V"⟩
abbrev yMM_quarter : MethodName := ⟨"TributeListsModel", "quarter", "()V"⟩
abbrev yMM_days : MethodName := ⟨"TributeListsModel", "days", "(I)I"⟩
abbrev yMM_account : MethodName := ⟨"TributeListsModel", "account", "(III)I"⟩
abbrev yMM_late : MethodName := ⟨"TributeListsModel", "late", "(I)J"⟩
abbrev yMM_piece : MethodName := ⟨"TributeListsModel", "piece", "(I)I"⟩
abbrev yMM_market : MethodName := ⟨"TributeListsModel", "market", "(IIII)I"⟩
abbrev yMM_isAhead : MethodName := ⟨"TributeListsModel", "isAhead", "(I)Z"⟩
abbrev yMM_found : MethodName := ⟨"TributeListsModel", "found", "(I)V"⟩
abbrev yMM_wasThrough : MethodName := ⟨"TributeListsModel", "wasThrough", "(III)Z"⟩
abbrev yMM_search : MethodName := ⟨"TributeListsModel", "search", "(III)V"⟩
abbrev yMM_barter : MethodName := ⟨"TributeListsModel", "barter", "(III)I"⟩
abbrev yMM_bartered : MethodName := ⟨"TributeListsModel", "bartered", "(I)I"⟩
abbrev yMM_yields : MethodName := ⟨"TributeListsModel", "yields", "(II)Z"⟩
abbrev yMM_parted : MethodName := ⟨"TributeListsModel", "parted", "(II)I"⟩
abbrev yMM_about : MethodName := ⟨"TributeListsModel", "about", "(I)I"⟩
theorem qTL_195 : Cond.constantLong RcTL 195 (-1) ∈ gw := mg (i := 685) (by decide +kernel) rfl
theorem qTL_208 : Cond.constantLong RcTL 208 (1000000000) ∈ gw := mg (i := 730) (by decide +kernel) rfl
theorem qTL_226 : Cond.constant RcTL 226 (100000) ∈ gw := mg (i := 758) (by decide +kernel) rfl
theorem qRo_21 : Cond.constant RcRo 21 (1000000) ∈ gw := mg (i := 333) (by decide +kernel) rfl
theorem qLi_103 : Cond.constant RcLi 103 (100000) ∈ gw := mg (i := 493) (by decide +kernel) rfl
theorem qMa_52 : Cond.constantLong RcMa 52 (-1) ∈ gw := mg (i := 715) (by decide +kernel) rfl
theorem qMM_117 : Cond.constant RcMM 117 (100000) ∈ gw := mg (i := 967) (by decide +kernel) rfl
theorem qMM_220 : Cond.constantLong RcMM 220 (-1) ∈ gw := mg (i := 1092) (by decide +kernel) rfl
theorem qMM_248 : Cond.constantLong RcMM 248 (1000000000) ∈ gw := mg (i := 1121) (by decide +kernel) rfl
theorem qMM_250 : Cond.constant RcMM 250 (1000000000) ∈ gw := mg (i := 1122) (by decide +kernel) rfl
theorem kTL_76 : kS RcTL 76 yTL_isPlace prog_1_method_29_code 1 (some .boolean) 1 := ⟨(mg (i := 315) (by decide +kernel) rfl), (mg (i := 316) (by decide +kernel) rfl), (mg (i := 41) (by decide +kernel) rfl), (mg (i := 317) (by decide +kernel) rfl), ⟨by decide, by decide, by decide +kernel⟩, by decide⟩
theorem kTL_80 : kS RcTL 80 yTL_within prog_1_method_28_code 3 (some .boolean) 3 := ⟨(mg (i := 318) (by decide +kernel) rfl), (mg (i := 319) (by decide +kernel) rfl), (mg (i := 41) (by decide +kernel) rfl), (mg (i := 320) (by decide +kernel) rfl), ⟨by decide, by decide, by decide +kernel⟩, by decide⟩
theorem kTL_84 : kV RcTL 84 RcRo yRo_lay prog_7_method_2_code 4 none 3 := ⟨(mg (i := 321) (by decide +kernel) rfl), (mg (i := 322) (by decide +kernel) rfl), (mg (i := 323) (by decide +kernel) rfl), (mg (i := 42) (by decide +kernel) rfl), (mg (i := 324) (by decide +kernel) rfl), ⟨by decide, by decide, by decide +kernel⟩, by decide⟩
theorem kTL_88 : kV RcTL 88 RcRo yRo_leastDays prog_7_method_3_code 5 (some .int) 2 := ⟨(mg (i := 329) (by decide +kernel) rfl), (mg (i := 330) (by decide +kernel) rfl), (mg (i := 331) (by decide +kernel) rfl), (mg (i := 42) (by decide +kernel) rfl), (mg (i := 332) (by decide +kernel) rfl), ⟨by decide, by decide, by decide +kernel⟩, by decide⟩
theorem kTL_92 : kV RcTL 92 RcPo yPo_setLoad prog_6_method_2_code 2 (some .boolean) 1 := ⟨(mg (i := 350) (by decide +kernel) rfl), (mg (i := 351) (by decide +kernel) rfl), (mg (i := 352) (by decide +kernel) rfl), (mg (i := 43) (by decide +kernel) rfl), (mg (i := 353) (by decide +kernel) rfl), ⟨by decide, by decide, by decide +kernel⟩, by decide⟩
theorem kTL_95 : kS RcTL 95 yTL_isGood prog_1_method_31_code 1 (some .boolean) 1 := ⟨(mg (i := 355) (by decide +kernel) rfl), (mg (i := 356) (by decide +kernel) rfl), (mg (i := 41) (by decide +kernel) rfl), (mg (i := 357) (by decide +kernel) rfl), ⟨by decide, by decide, by decide +kernel⟩, by decide⟩
theorem kTL_98 : kV RcTL 98 RcPo yPo_setWeight prog_6_method_3_code 3 (some .boolean) 2 := ⟨(mg (i := 358) (by decide +kernel) rfl), (mg (i := 359) (by decide +kernel) rfl), (mg (i := 360) (by decide +kernel) rfl), (mg (i := 43) (by decide +kernel) rfl), (mg (i := 361) (by decide +kernel) rfl), ⟨by decide, by decide, by decide +kernel⟩, by decide⟩
theorem kTL_102 : kV RcTL 102 RcPo yPo_needed prog_6_method_6_code 4 (some .int) 2 := ⟨(mg (i := 366) (by decide +kernel) rfl), (mg (i := 367) (by decide +kernel) rfl), (mg (i := 368) (by decide +kernel) rfl), (mg (i := 43) (by decide +kernel) rfl), (mg (i := 369) (by decide +kernel) rfl), ⟨by decide, by decide, by decide +kernel⟩, by decide⟩
theorem kTL_105 : kV RcTL 105 RcTa yTa_hasRoomForFive prog_10_method_2_code 1 (some .boolean) 0 := ⟨(mg (i := 381) (by decide +kernel) rfl), (mg (i := 382) (by decide +kernel) rfl), (mg (i := 383) (by decide +kernel) rfl), (mg (i := 45) (by decide +kernel) rfl), (mg (i := 384) (by decide +kernel) rfl), ⟨by decide, by decide, by decide +kernel⟩, by decide⟩
theorem kTL_109 : kV RcTL 109 RcTa yTa_append prog_10_method_3_code 3 none 1 := ⟨(mg (i := 385) (by decide +kernel) rfl), (mg (i := 386) (by decide +kernel) rfl), (mg (i := 387) (by decide +kernel) rfl), (mg (i := 45) (by decide +kernel) rfl), (mg (i := 388) (by decide +kernel) rfl), ⟨by decide, by decide, by decide +kernel⟩, by decide⟩
theorem kTL_113 : kV RcTL 113 RcTa yTa_size prog_10_method_5_code 1 (some .int) 0 := ⟨(mg (i := 389) (by decide +kernel) rfl), (mg (i := 390) (by decide +kernel) rfl), (mg (i := 391) (by decide +kernel) rfl), (mg (i := 45) (by decide +kernel) rfl), (mg (i := 392) (by decide +kernel) rfl), ⟨by decide, by decide, by decide +kernel⟩, by decide⟩
theorem kTL_117 : kV RcTL 117 RcTa yTa_cut prog_10_method_4_code 2 none 1 := ⟨(mg (i := 397) (by decide +kernel) rfl), (mg (i := 398) (by decide +kernel) rfl), (mg (i := 399) (by decide +kernel) rfl), (mg (i := 45) (by decide +kernel) rfl), (mg (i := 400) (by decide +kernel) rfl), ⟨by decide, by decide, by decide +kernel⟩, by decide⟩
theorem kTL_120 : kS RcTL 120 yTL_isCopy prog_1_method_32_code 1 (some .boolean) 1 := ⟨(mg (i := 405) (by decide +kernel) rfl), (mg (i := 406) (by decide +kernel) rfl), (mg (i := 41) (by decide +kernel) rfl), (mg (i := 407) (by decide +kernel) rfl), ⟨by decide, by decide, by decide +kernel⟩, by decide⟩
theorem kTL_123 : kV RcTL 123 RcLi yLi_read prog_4_method_6_code 3 (some .int) 1 := ⟨(mg (i := 408) (by decide +kernel) rfl), (mg (i := 409) (by decide +kernel) rfl), (mg (i := 410) (by decide +kernel) rfl), (mg (i := 46) (by decide +kernel) rfl), (mg (i := 411) (by decide +kernel) rfl), ⟨by decide, by decide, by decide +kernel⟩, by decide⟩
theorem kTL_127 : kV RcTL 127 RcLi yLi_row prog_4_method_2_code 1 (some (.array .int)) 0 := ⟨(mg (i := 533) (by decide +kernel) rfl), (mg (i := 534) (by decide +kernel) rfl), (mg (i := 535) (by decide +kernel) rfl), (mg (i := 46) (by decide +kernel) rfl), (mg (i := 536) (by decide +kernel) rfl), ⟨by decide, by decide, by decide +kernel⟩, by decide⟩
theorem kTL_131 : kV RcTL 131 RcCo yCo_replace prog_3_method_2_code 3 none 2 := ⟨(mg (i := 537) (by decide +kernel) rfl), (mg (i := 538) (by decide +kernel) rfl), (mg (i := 539) (by decide +kernel) rfl), (mg (i := 47) (by decide +kernel) rfl), (mg (i := 540) (by decide +kernel) rfl), ⟨by decide, by decide, by decide +kernel⟩, by decide⟩
theorem kTL_135 : kV RcTL 135 RcLi yLi_hasRead prog_4_method_3_code 1 (some .boolean) 0 := ⟨(mg (i := 548) (by decide +kernel) rfl), (mg (i := 549) (by decide +kernel) rfl), (mg (i := 550) (by decide +kernel) rfl), (mg (i := 46) (by decide +kernel) rfl), (mg (i := 551) (by decide +kernel) rfl), ⟨by decide, by decide, by decide +kernel⟩, by decide⟩
theorem kTL_138 : kV RcTL 138 RcLi yLi_faultKind prog_4_method_4_code 1 (some .int) 0 := ⟨(mg (i := 552) (by decide +kernel) rfl), (mg (i := 553) (by decide +kernel) rfl), (mg (i := 554) (by decide +kernel) rfl), (mg (i := 46) (by decide +kernel) rfl), (mg (i := 555) (by decide +kernel) rfl), ⟨by decide, by decide, by decide +kernel⟩, by decide⟩
theorem kTL_141 : kV RcTL 141 RcLi yLi_faultPlace prog_4_method_5_code 1 (some .int) 0 := ⟨(mg (i := 556) (by decide +kernel) rfl), (mg (i := 557) (by decide +kernel) rfl), (mg (i := 558) (by decide +kernel) rfl), (mg (i := 46) (by decide +kernel) rfl), (mg (i := 559) (by decide +kernel) rfl), ⟨by decide, by decide, by decide +kernel⟩, by decide⟩
theorem kTL_144 : kS RcTL 144 yTL_isTown prog_1_method_30_code 1 (some .boolean) 1 := ⟨(mg (i := 564) (by decide +kernel) rfl), (mg (i := 511) (by decide +kernel) rfl), (mg (i := 41) (by decide +kernel) rfl), (mg (i := 512) (by decide +kernel) rfl), ⟨by decide, by decide, by decide +kernel⟩, by decide⟩
theorem kTL_147 : kS RcTL 147 yTL_slot prog_1_method_33_code 2 (some .int) 2 := ⟨(mg (i := 565) (by decide +kernel) rfl), (mg (i := 523) (by decide +kernel) rfl), (mg (i := 41) (by decide +kernel) rfl), (mg (i := 524) (by decide +kernel) rfl), ⟨by decide, by decide, by decide +kernel⟩, by decide⟩
theorem kTL_150 : kV RcTL 150 RcCo yCo_toldBy prog_3_method_4_code 3 (some .int) 2 := ⟨(mg (i := 566) (by decide +kernel) rfl), (mg (i := 567) (by decide +kernel) rfl), (mg (i := 568) (by decide +kernel) rfl), (mg (i := 47) (by decide +kernel) rfl), (mg (i := 569) (by decide +kernel) rfl), ⟨by decide, by decide, by decide +kernel⟩, by decide⟩
theorem kTL_153 : kV RcTL 153 RcCo yCo_mostTold prog_3_method_5_code 7 (some .int) 1 := ⟨(mg (i := 574) (by decide +kernel) rfl), (mg (i := 575) (by decide +kernel) rfl), (mg (i := 576) (by decide +kernel) rfl), (mg (i := 47) (by decide +kernel) rfl), (mg (i := 577) (by decide +kernel) rfl), ⟨by decide, by decide, by decide +kernel⟩, by decide⟩
theorem kTL_157 : kV RcTL 157 RcCo yCo_differ prog_3_method_7_code 5 (some .boolean) 1 := ⟨(mg (i := 586) (by decide +kernel) rfl), (mg (i := 587) (by decide +kernel) rfl), (mg (i := 588) (by decide +kernel) rfl), (mg (i := 47) (by decide +kernel) rfl), (mg (i := 589) (by decide +kernel) rfl), ⟨by decide, by decide, by decide +kernel⟩, by decide⟩
theorem kTL_160 : kV RcTL 160 RcSe ySe_isFull prog_8_method_2_code 1 (some .boolean) 0 := ⟨(mg (i := 598) (by decide +kernel) rfl), (mg (i := 599) (by decide +kernel) rfl), (mg (i := 600) (by decide +kernel) rfl), (mg (i := 49) (by decide +kernel) rfl), (mg (i := 601) (by decide +kernel) rfl), ⟨by decide, by decide, by decide +kernel⟩, by decide⟩
theorem kTL_163 : kV RcTL 163 RcSe ySe_add prog_8_method_5_code 8 (some .int) 6 := ⟨(mg (i := 602) (by decide +kernel) rfl), (mg (i := 603) (by decide +kernel) rfl), (mg (i := 604) (by decide +kernel) rfl), (mg (i := 49) (by decide +kernel) rfl), (mg (i := 605) (by decide +kernel) rfl), ⟨by decide, by decide, by decide +kernel⟩, by decide⟩
theorem kTL_167 : kV RcTL 167 RcSe ySe_count prog_8_method_3_code 1 (some .int) 0 := ⟨(mg (i := 610) (by decide +kernel) rfl), (mg (i := 611) (by decide +kernel) rfl), (mg (i := 612) (by decide +kernel) rfl), (mg (i := 49) (by decide +kernel) rfl), (mg (i := 613) (by decide +kernel) rfl), ⟨by decide, by decide, by decide +kernel⟩, by decide⟩
theorem kTL_170 : kV RcTL 170 RcSe ySe_entry prog_8_method_6_code 3 (some .int) 2 := ⟨(mg (i := 614) (by decide +kernel) rfl), (mg (i := 615) (by decide +kernel) rfl), (mg (i := 616) (by decide +kernel) rfl), (mg (i := 49) (by decide +kernel) rfl), (mg (i := 617) (by decide +kernel) rfl), ⟨by decide, by decide, by decide +kernel⟩, by decide⟩
theorem kTL_173 : kV RcTL 173 RcTL yTL_storeArrivals prog_1_method_26_code 4 none 0 := ⟨(mg (i := 622) (by decide +kernel) rfl), (mg (i := 624) (by decide +kernel) rfl), (mg (i := 15) (by decide +kernel) rfl), (mg (i := 41) (by decide +kernel) rfl), (mg (i := 625) (by decide +kernel) rfl), ⟨by decide, by decide, by decide +kernel⟩, by decide⟩
theorem kTL_176 : kV RcTL 176 RcTL yTL_bringDebts prog_1_method_27_code 3 none 0 := ⟨(mg (i := 647) (by decide +kernel) rfl), (mg (i := 649) (by decide +kernel) rfl), (mg (i := 17) (by decide +kernel) rfl), (mg (i := 41) (by decide +kernel) rfl), (mg (i := 650) (by decide +kernel) rfl), ⟨by decide, by decide, by decide +kernel⟩, by decide⟩
theorem kTL_179 : kV RcTL 179 RcAc yAc_owing prog_2_method_6_code 2 (some .int) 1 := ⟨(mg (i := 660) (by decide +kernel) rfl), (mg (i := 661) (by decide +kernel) rfl), (mg (i := 662) (by decide +kernel) rfl), (mg (i := 48) (by decide +kernel) rfl), (mg (i := 663) (by decide +kernel) rfl), ⟨by decide, by decide, by decide +kernel⟩, by decide⟩
theorem kTL_182 : kV RcTL 182 RcAc yAc_gift prog_2_method_7_code 2 (some .int) 1 := ⟨(mg (i := 664) (by decide +kernel) rfl), (mg (i := 665) (by decide +kernel) rfl), (mg (i := 666) (by decide +kernel) rfl), (mg (i := 48) (by decide +kernel) rfl), (mg (i := 667) (by decide +kernel) rfl), ⟨by decide, by decide, by decide +kernel⟩, by decide⟩
theorem kTL_185 : kV RcTL 185 RcAc yAc_oldestQuarter prog_2_method_9_code 3 (some .int) 1 := ⟨(mg (i := 668) (by decide +kernel) rfl), (mg (i := 669) (by decide +kernel) rfl), (mg (i := 670) (by decide +kernel) rfl), (mg (i := 48) (by decide +kernel) rfl), (mg (i := 671) (by decide +kernel) rfl), ⟨by decide, by decide, by decide +kernel⟩, by decide⟩
theorem kTL_188 : kV RcTL 188 RcAc yAc_paid prog_2_method_8_code 2 (some .int) 1 := ⟨(mg (i := 672) (by decide +kernel) rfl), (mg (i := 673) (by decide +kernel) rfl), (mg (i := 674) (by decide +kernel) rfl), (mg (i := 48) (by decide +kernel) rfl), (mg (i := 675) (by decide +kernel) rfl), ⟨by decide, by decide, by decide +kernel⟩, by decide⟩
theorem kTL_191 : kV RcTL 191 RcAc yAc_lateness prog_2_method_10_code 7 (some .long) 2 := ⟨(mg (i := 680) (by decide +kernel) rfl), (mg (i := 681) (by decide +kernel) rfl), (mg (i := 682) (by decide +kernel) rfl), (mg (i := 48) (by decide +kernel) rfl), (mg (i := 683) (by decide +kernel) rfl), ⟨by decide, by decide, by decide +kernel⟩, by decide⟩
theorem kTL_197 : kV RcTL 197 RcSe ySe_ofPiece prog_8_method_9_code 5 (some .int) 1 := ⟨(mg (i := 690) (by decide +kernel) rfl), (mg (i := 691) (by decide +kernel) rfl), (mg (i := 692) (by decide +kernel) rfl), (mg (i := 49) (by decide +kernel) rfl), (mg (i := 693) (by decide +kernel) rfl), ⟨by decide, by decide, by decide +kernel⟩, by decide⟩
theorem kTL_200 : kV RcTL 200 RcMa yMa_isFull prog_5_method_2_code 1 (some .boolean) 0 := ⟨(mg (i := 698) (by decide +kernel) rfl), (mg (i := 699) (by decide +kernel) rfl), (mg (i := 700) (by decide +kernel) rfl), (mg (i := 50) (by decide +kernel) rfl), (mg (i := 701) (by decide +kernel) rfl), ⟨by decide, by decide, by decide +kernel⟩, by decide⟩
theorem kTL_201 : kV RcTL 201 RcMa yMa_add prog_5_method_4_code 5 (some .int) 4 := ⟨(mg (i := 702) (by decide +kernel) rfl), (mg (i := 703) (by decide +kernel) rfl), (mg (i := 704) (by decide +kernel) rfl), (mg (i := 50) (by decide +kernel) rfl), (mg (i := 705) (by decide +kernel) rfl), ⟨by decide, by decide, by decide +kernel⟩, by decide⟩
theorem kTL_204 : kV RcTL 204 RcMa yMa_findBest prog_5_method_7_code 4 (some .long) 3 := ⟨(mg (i := 710) (by decide +kernel) rfl), (mg (i := 711) (by decide +kernel) rfl), (mg (i := 712) (by decide +kernel) rfl), (mg (i := 50) (by decide +kernel) rfl), (mg (i := 713) (by decide +kernel) rfl), ⟨by decide, by decide, by decide +kernel⟩, by decide⟩
theorem jTL_210 : Cond.methodLink RcTL 210 Lib.MathLoose.min_long.x ∈ gw ∧ Cond.static Lib.MathLoose.min_long.x ∈ gw ∧ Cond.initialized "java/lang/Math" ∈ gw ∧ Cond.code Lib.MathLoose.min_long.x Lib.MathLoose.min_long.code 4 (some .long) ∈ gw := ⟨(mg (i := 731) (by decide +kernel) rfl), (mg (i := 732) (by decide +kernel) rfl), (mg (i := 53) (by decide +kernel) rfl), (mg (i := 733) (by decide +kernel) rfl)⟩
theorem kTL_216 : kV RcTL 216 RcMa yMa_bestLength prog_5_method_5_code 1 (some .int) 0 := ⟨(mg (i := 738) (by decide +kernel) rfl), (mg (i := 739) (by decide +kernel) rfl), (mg (i := 740) (by decide +kernel) rfl), (mg (i := 50) (by decide +kernel) rfl), (mg (i := 741) (by decide +kernel) rfl), ⟨by decide, by decide, by decide +kernel⟩, by decide⟩
theorem kTL_219 : kV RcTL 219 RcMa yMa_bestStep prog_5_method_6_code 2 (some .int) 1 := ⟨(mg (i := 742) (by decide +kernel) rfl), (mg (i := 743) (by decide +kernel) rfl), (mg (i := 744) (by decide +kernel) rfl), (mg (i := 50) (by decide +kernel) rfl), (mg (i := 745) (by decide +kernel) rfl), ⟨by decide, by decide, by decide +kernel⟩, by decide⟩
theorem kTL_222 : kV RcTL 222 RcSh ySh_setYield prog_9_method_2_code 3 none 2 := ⟨(mg (i := 750) (by decide +kernel) rfl), (mg (i := 751) (by decide +kernel) rfl), (mg (i := 752) (by decide +kernel) rfl), (mg (i := 51) (by decide +kernel) rfl), (mg (i := 753) (by decide +kernel) rfl), ⟨by decide, by decide, by decide +kernel⟩, by decide⟩
theorem kTL_227 : kV RcTL 227 RcSh ySh_shareOf prog_9_method_3_code 13 (some .int) 2 := ⟨(mg (i := 759) (by decide +kernel) rfl), (mg (i := 760) (by decide +kernel) rfl), (mg (i := 761) (by decide +kernel) rfl), (mg (i := 51) (by decide +kernel) rfl), (mg (i := 762) (by decide +kernel) rfl), ⟨by decide, by decide, by decide +kernel⟩, by decide⟩
theorem kTL_230 : kV RcTL 230 RcPo yPo_weightOf prog_6_method_5_code 2 (some .int) 1 := ⟨(mg (i := 771) (by decide +kernel) rfl), (mg (i := 772) (by decide +kernel) rfl), (mg (i := 773) (by decide +kernel) rfl), (mg (i := 43) (by decide +kernel) rfl), (mg (i := 774) (by decide +kernel) rfl), ⟨by decide, by decide, by decide +kernel⟩, by decide⟩
theorem kTL_233 : kV RcTL 233 RcSe ySe_storedPieces prog_8_method_4_code 1 (some .int) 0 := ⟨(mg (i := 775) (by decide +kernel) rfl), (mg (i := 776) (by decide +kernel) rfl), (mg (i := 777) (by decide +kernel) rfl), (mg (i := 49) (by decide +kernel) rfl), (mg (i := 778) (by decide +kernel) rfl), ⟨by decide, by decide, by decide +kernel⟩, by decide⟩
theorem kTL_236 : kV RcTL 236 RcMa yMa_count prog_5_method_3_code 1 (some .int) 0 := ⟨(mg (i := 779) (by decide +kernel) rfl), (mg (i := 780) (by decide +kernel) rfl), (mg (i := 781) (by decide +kernel) rfl), (mg (i := 50) (by decide +kernel) rfl), (mg (i := 782) (by decide +kernel) rfl), ⟨by decide, by decide, by decide +kernel⟩, by decide⟩
theorem kTL_237 : kV RcTL 237 RcPo yPo_load prog_6_method_4_code 1 (some .int) 0 := ⟨(mg (i := 783) (by decide +kernel) rfl), (mg (i := 784) (by decide +kernel) rfl), (mg (i := 785) (by decide +kernel) rfl), (mg (i := 43) (by decide +kernel) rfl), (mg (i := 786) (by decide +kernel) rfl), ⟨by decide, by decide, by decide +kernel⟩, by decide⟩
theorem kTL_240 : kV RcTL 240 RcCo yCo_countRead prog_3_method_3_code 3 (some .int) 0 := ⟨(mg (i := 787) (by decide +kernel) rfl), (mg (i := 788) (by decide +kernel) rfl), (mg (i := 789) (by decide +kernel) rfl), (mg (i := 47) (by decide +kernel) rfl), (mg (i := 790) (by decide +kernel) rfl), ⟨by decide, by decide, by decide +kernel⟩, by decide⟩
theorem kTL_243 : kV RcTL 243 RcSe ySe_comesOn prog_8_method_7_code 3 (some .boolean) 2 := ⟨(mg (i := 626) (by decide +kernel) rfl), (mg (i := 627) (by decide +kernel) rfl), (mg (i := 628) (by decide +kernel) rfl), (mg (i := 49) (by decide +kernel) rfl), (mg (i := 629) (by decide +kernel) rfl), ⟨by decide, by decide, by decide +kernel⟩, by decide⟩
theorem kTL_246 : kV RcTL 246 RcAc yAc_store prog_2_method_2_code 6 (some .int) 3 := ⟨(mg (i := 631) (by decide +kernel) rfl), (mg (i := 632) (by decide +kernel) rfl), (mg (i := 633) (by decide +kernel) rfl), (mg (i := 48) (by decide +kernel) rfl), (mg (i := 634) (by decide +kernel) rfl), ⟨by decide, by decide, by decide +kernel⟩, by decide⟩
theorem kTL_250 : kV RcTL 250 RcSe ySe_markStored prog_8_method_8_code 3 none 2 := ⟨(mg (i := 643) (by decide +kernel) rfl), (mg (i := 644) (by decide +kernel) rfl), (mg (i := 645) (by decide +kernel) rfl), (mg (i := 49) (by decide +kernel) rfl), (mg (i := 646) (by decide +kernel) rfl), ⟨by decide, by decide, by decide +kernel⟩, by decide⟩
theorem kTL_253 : kV RcTL 253 RcAc yAc_bringDebt prog_2_method_3_code 4 none 3 := ⟨(mg (i := 651) (by decide +kernel) rfl), (mg (i := 652) (by decide +kernel) rfl), (mg (i := 653) (by decide +kernel) rfl), (mg (i := 48) (by decide +kernel) rfl), (mg (i := 654) (by decide +kernel) rfl), ⟨by decide, by decide, by decide +kernel⟩, by decide⟩
theorem jRo_22 : kS RcRo 22 yfill prog_18_method_103_code 4 none 2 := ⟨(mg (i := 334) (by decide +kernel) rfl), (mg (i := 91) (by decide +kernel) rfl), (mg (i := 44) (by decide +kernel) rfl), (mg (i := 92) (by decide +kernel) rfl), ⟨by decide, by decide, by decide +kernel⟩, by decide⟩
theorem kRo_28 : kV RcRo 28 RcRo yRo_nearestOpen prog_7_method_4_code 4 (some .int) 0 := ⟨(mg (i := 335) (by decide +kernel) rfl), (mg (i := 337) (by decide +kernel) rfl), (mg (i := 0) (by decide +kernel) rfl), (mg (i := 42) (by decide +kernel) rfl), (mg (i := 338) (by decide +kernel) rfl), ⟨by decide, by decide, by decide +kernel⟩, by decide⟩
theorem kRo_32 : kV RcRo 32 RcRo yRo_reachOnFrom prog_7_method_5_code 4 none 1 := ⟨(mg (i := 339) (by decide +kernel) rfl), (mg (i := 341) (by decide +kernel) rfl), (mg (i := 1) (by decide +kernel) rfl), (mg (i := 42) (by decide +kernel) rfl), (mg (i := 342) (by decide +kernel) rfl), ⟨by decide, by decide, by decide +kernel⟩, by decide⟩
theorem jRo_36 : Cond.methodLink RcRo 36 Lib.Math.min.name ∈ gw ∧ Cond.static Lib.Math.min.name ∈ gw ∧ Cond.initialized "java/lang/Math" ∈ gw ∧ Cond.code Lib.Math.min.name Lib.Math.min.code 2 (some .int) ∈ gw := ⟨(mg (i := 343) (by decide +kernel) rfl), (mg (i := 344) (by decide +kernel) rfl), (mg (i := 53) (by decide +kernel) rfl), (mg (i := 345) (by decide +kernel) rfl)⟩
theorem kPo_25 : kN RcPo 25 yTL_within RcTL prog_1_method_28_code 3 (some .boolean) 3 := ⟨by decide +kernel, (mg (i := 319) (by decide +kernel) rfl), (mg (i := 41) (by decide +kernel) rfl), (mg (i := 320) (by decide +kernel) rfl), ⟨by decide, by decide, by decide +kernel⟩, by decide⟩
theorem kPo_29 : kV RcPo 29 RcPo yPo_piecesEach prog_6_method_7_code 3 (some .int) 1 := ⟨(mg (i := 370) (by decide +kernel) rfl), (mg (i := 372) (by decide +kernel) rfl), (mg (i := 2) (by decide +kernel) rfl), (mg (i := 43) (by decide +kernel) rfl), (mg (i := 373) (by decide +kernel) rfl), ⟨by decide, by decide, by decide +kernel⟩, by decide⟩
theorem jPo_33 : Cond.methodLink RcPo 33 Lib.Math.max.name ∈ gw ∧ Cond.static Lib.Math.max.name ∈ gw ∧ Cond.initialized "java/lang/Math" ∈ gw ∧ Cond.code Lib.Math.max.name Lib.Math.max.code 2 (some .int) ∈ gw := ⟨(mg (i := 374) (by decide +kernel) rfl), (mg (i := 375) (by decide +kernel) rfl), (mg (i := 53) (by decide +kernel) rfl), (mg (i := 376) (by decide +kernel) rfl)⟩
theorem kLi_29 : kV RcLi 29 RcLi yLi_startAnew prog_4_method_7_code 1 none 0 := ⟨(mg (i := 412) (by decide +kernel) rfl), (mg (i := 414) (by decide +kernel) rfl), (mg (i := 3) (by decide +kernel) rfl), (mg (i := 46) (by decide +kernel) rfl), (mg (i := 415) (by decide +kernel) rfl), ⟨by decide, by decide, by decide +kernel⟩, by decide⟩
theorem kLi_34 : kV RcLi 34 RcLi yLi_nextToken prog_4_method_8_code 3 none 1 := ⟨(mg (i := 417) (by decide +kernel) rfl), (mg (i := 419) (by decide +kernel) rfl), (mg (i := 4) (by decide +kernel) rfl), (mg (i := 46) (by decide +kernel) rfl), (mg (i := 420) (by decide +kernel) rfl), ⟨by decide, by decide, by decide +kernel⟩, by decide⟩
theorem kLi_38 : kV RcLi 38 RcLi yLi_takeToken prog_4_method_11_code 1 (some .int) 0 := ⟨(mg (i := 498) (by decide +kernel) rfl), (mg (i := 500) (by decide +kernel) rfl), (mg (i := 7) (by decide +kernel) rfl), (mg (i := 46) (by decide +kernel) rfl), (mg (i := 501) (by decide +kernel) rfl), ⟨by decide, by decide, by decide +kernel⟩, by decide⟩
theorem jLi_51 : kS RcLi 51 yfill prog_18_method_103_code 4 none 2 := ⟨(mg (i := 416) (by decide +kernel) rfl), (mg (i := 91) (by decide +kernel) rfl), (mg (i := 44) (by decide +kernel) rfl), (mg (i := 92) (by decide +kernel) rfl), ⟨by decide, by decide, by decide +kernel⟩, by decide⟩
theorem kLi_63 : kV RcLi 63 RcTa yTa_size prog_10_method_5_code 1 (some .int) 0 := ⟨(mg (i := 421) (by decide +kernel) rfl), (mg (i := 390) (by decide +kernel) rfl), (mg (i := 391) (by decide +kernel) rfl), (mg (i := 45) (by decide +kernel) rfl), (mg (i := 392) (by decide +kernel) rfl), ⟨by decide, by decide, by decide +kernel⟩, by decide⟩
theorem kLi_66 : kV RcLi 66 RcTa yTa_at prog_10_method_6_code 2 (some .int) 1 := ⟨(mg (i := 422) (by decide +kernel) rfl), (mg (i := 423) (by decide +kernel) rfl), (mg (i := 424) (by decide +kernel) rfl), (mg (i := 45) (by decide +kernel) rfl), (mg (i := 425) (by decide +kernel) rfl), ⟨by decide, by decide, by decide +kernel⟩, by decide⟩
theorem kLi_70 : kS RcLi 70 yLi_isBlank prog_4_method_18_code 1 (some .boolean) 1 := ⟨(mg (i := 426) (by decide +kernel) rfl), (mg (i := 427) (by decide +kernel) rfl), (mg (i := 46) (by decide +kernel) rfl), (mg (i := 428) (by decide +kernel) rfl), ⟨by decide, by decide, by decide +kernel⟩, by decide⟩
theorem kLi_74 : kS RcLi 74 yLi_isLetter prog_4_method_19_code 1 (some .boolean) 1 := ⟨(mg (i := 429) (by decide +kernel) rfl), (mg (i := 430) (by decide +kernel) rfl), (mg (i := 46) (by decide +kernel) rfl), (mg (i := 431) (by decide +kernel) rfl), ⟨by decide, by decide, by decide +kernel⟩, by decide⟩
theorem kLi_77 : kV RcLi 77 RcLi yLi_takeLetters prog_4_method_9_code 4 none 1 := ⟨(mg (i := 433) (by decide +kernel) rfl), (mg (i := 435) (by decide +kernel) rfl), (mg (i := 5) (by decide +kernel) rfl), (mg (i := 46) (by decide +kernel) rfl), (mg (i := 436) (by decide +kernel) rfl), ⟨by decide, by decide, by decide +kernel⟩, by decide⟩
theorem kLi_80 : kS RcLi 80 yLi_isDigit prog_4_method_20_code 1 (some .boolean) 1 := ⟨(mg (i := 486) (by decide +kernel) rfl), (mg (i := 487) (by decide +kernel) rfl), (mg (i := 46) (by decide +kernel) rfl), (mg (i := 488) (by decide +kernel) rfl), ⟨by decide, by decide, by decide +kernel⟩, by decide⟩
theorem kLi_83 : kV RcLi 83 RcLi yLi_takeDigits prog_4_method_10_code 2 none 1 := ⟨(mg (i := 489) (by decide +kernel) rfl), (mg (i := 491) (by decide +kernel) rfl), (mg (i := 6) (by decide +kernel) rfl), (mg (i := 46) (by decide +kernel) rfl), (mg (i := 492) (by decide +kernel) rfl), ⟨by decide, by decide, by decide +kernel⟩, by decide⟩
theorem kLi_86 : kS RcLi 86 yLi_isSign prog_4_method_21_code 1 (some .boolean) 1 := ⟨(mg (i := 495) (by decide +kernel) rfl), (mg (i := 496) (by decide +kernel) rfl), (mg (i := 46) (by decide +kernel) rfl), (mg (i := 497) (by decide +kernel) rfl), ⟨by decide, by decide, by decide +kernel⟩, by decide⟩
theorem jLi_91 : kV RcLi 91 "java/lang/String" yslen prog_14_method_54_code 1 (some .int) 0 := ⟨(mg (i := 438) (by decide +kernel) rfl), (mg (i := 439) (by decide +kernel) rfl), (mg (i := 440) (by decide +kernel) rfl), (mg (i := 54) (by decide +kernel) rfl), (mg (i := 441) (by decide +kernel) rfl), ⟨by decide, by decide, by decide +kernel⟩, by decide⟩
theorem jLi_96 : kV RcLi 96 "java/lang/String" yschar prog_14_method_56_code 2 (some .char) 1 := ⟨(mg (i := 448) (by decide +kernel) rfl), (mg (i := 449) (by decide +kernel) rfl), (mg (i := 450) (by decide +kernel) rfl), (mg (i := 54) (by decide +kernel) rfl), (mg (i := 451) (by decide +kernel) rfl), ⟨by decide, by decide, by decide +kernel⟩, by decide⟩
theorem jLi_104 : Cond.methodLink RcLi 104 Lib.Math.min.name ∈ gw ∧ Cond.static Lib.Math.min.name ∈ gw ∧ Cond.initialized "java/lang/Math" ∈ gw ∧ Cond.code Lib.Math.min.name Lib.Math.min.code 2 (some .int) ∈ gw := ⟨(mg (i := 494) (by decide +kernel) rfl), (mg (i := 344) (by decide +kernel) rfl), (mg (i := 53) (by decide +kernel) rfl), (mg (i := 345) (by decide +kernel) rfl)⟩
theorem kLi_110 : kV RcLi 110 RcLi yLi_takeLineStart prog_4_method_12_code 1 (some .int) 0 := ⟨(mg (i := 502) (by decide +kernel) rfl), (mg (i := 504) (by decide +kernel) rfl), (mg (i := 8) (by decide +kernel) rfl), (mg (i := 46) (by decide +kernel) rfl), (mg (i := 505) (by decide +kernel) rfl), ⟨by decide, by decide, by decide +kernel⟩, by decide⟩
theorem kLi_113 : kV RcLi 113 RcLi yLi_takeTown prog_4_method_13_code 1 (some .int) 0 := ⟨(mg (i := 506) (by decide +kernel) rfl), (mg (i := 508) (by decide +kernel) rfl), (mg (i := 9) (by decide +kernel) rfl), (mg (i := 46) (by decide +kernel) rfl), (mg (i := 509) (by decide +kernel) rfl), ⟨by decide, by decide, by decide +kernel⟩, by decide⟩
theorem kLi_116 : kV RcLi 116 RcLi yLi_takeColon prog_4_method_14_code 1 (some .int) 0 := ⟨(mg (i := 513) (by decide +kernel) rfl), (mg (i := 515) (by decide +kernel) rfl), (mg (i := 10) (by decide +kernel) rfl), (mg (i := 46) (by decide +kernel) rfl), (mg (i := 516) (by decide +kernel) rfl), ⟨by decide, by decide, by decide +kernel⟩, by decide⟩
theorem kLi_119 : kV RcLi 119 RcLi yLi_takeGood prog_4_method_15_code 1 (some .int) 0 := ⟨(mg (i := 517) (by decide +kernel) rfl), (mg (i := 519) (by decide +kernel) rfl), (mg (i := 11) (by decide +kernel) rfl), (mg (i := 46) (by decide +kernel) rfl), (mg (i := 520) (by decide +kernel) rfl), ⟨by decide, by decide, by decide +kernel⟩, by decide⟩
theorem kLi_122 : kV RcLi 122 RcLi yLi_takePieces prog_4_method_16_code 1 (some .int) 0 := ⟨(mg (i := 525) (by decide +kernel) rfl), (mg (i := 527) (by decide +kernel) rfl), (mg (i := 12) (by decide +kernel) rfl), (mg (i := 46) (by decide +kernel) rfl), (mg (i := 528) (by decide +kernel) rfl), ⟨by decide, by decide, by decide +kernel⟩, by decide⟩
theorem kLi_125 : kV RcLi 125 RcLi yLi_takeBehindPart prog_4_method_17_code 1 (some .int) 0 := ⟨(mg (i := 529) (by decide +kernel) rfl), (mg (i := 531) (by decide +kernel) rfl), (mg (i := 13) (by decide +kernel) rfl), (mg (i := 46) (by decide +kernel) rfl), (mg (i := 532) (by decide +kernel) rfl), ⟨by decide, by decide, by decide +kernel⟩, by decide⟩
theorem kLi_128 : kN RcLi 128 yTL_isTown RcTL prog_1_method_30_code 1 (some .boolean) 1 := ⟨by decide +kernel, (mg (i := 511) (by decide +kernel) rfl), (mg (i := 41) (by decide +kernel) rfl), (mg (i := 512) (by decide +kernel) rfl), ⟨by decide, by decide, by decide +kernel⟩, by decide⟩
theorem kLi_133 : kN RcLi 133 yTL_isGood RcTL prog_1_method_31_code 1 (some .boolean) 1 := ⟨by decide +kernel, (mg (i := 356) (by decide +kernel) rfl), (mg (i := 41) (by decide +kernel) rfl), (mg (i := 357) (by decide +kernel) rfl), ⟨by decide, by decide, by decide +kernel⟩, by decide⟩
theorem kLi_136 : kN RcLi 136 yTL_slot RcTL prog_1_method_33_code 2 (some .int) 2 := ⟨by decide +kernel, (mg (i := 523) (by decide +kernel) rfl), (mg (i := 41) (by decide +kernel) rfl), (mg (i := 524) (by decide +kernel) rfl), ⟨by decide, by decide, by decide +kernel⟩, by decide⟩
theorem kLi_142 : kN RcLi 142 yTL_within RcTL prog_1_method_28_code 3 (some .boolean) 3 := ⟨by decide +kernel, (mg (i := 319) (by decide +kernel) rfl), (mg (i := 41) (by decide +kernel) rfl), (mg (i := 320) (by decide +kernel) rfl), ⟨by decide, by decide, by decide +kernel⟩, by decide⟩
theorem jCo_30 : Cond.methodLink RcCo 30 arraycopyName ∈ gw ∧ Cond.native arraycopyName ∈ gw ∧ Cond.static arraycopyName ∈ gw ∧ Cond.initialized "java/lang/System" ∈ gw := ⟨(mg (i := 541) (by decide +kernel) rfl), (mg (i := 543) (by decide +kernel) rfl), (mg (i := 542) (by decide +kernel) rfl), (mg (i := 58) (by decide +kernel) rfl)⟩
theorem kCo_36 : kV RcCo 36 RcCo yCo_votesFor prog_3_method_6_code 5 (some .int) 2 := ⟨(mg (i := 578) (by decide +kernel) rfl), (mg (i := 580) (by decide +kernel) rfl), (mg (i := 14) (by decide +kernel) rfl), (mg (i := 47) (by decide +kernel) rfl), (mg (i := 581) (by decide +kernel) rfl), ⟨by decide, by decide, by decide +kernel⟩, by decide⟩
theorem kAc_28 : kV RcAc 28 RcAc yAc_pay prog_2_method_4_code 6 (some .int) 4 := ⟨(mg (i := 635) (by decide +kernel) rfl), (mg (i := 637) (by decide +kernel) rfl), (mg (i := 16) (by decide +kernel) rfl), (mg (i := 48) (by decide +kernel) rfl), (mg (i := 638) (by decide +kernel) rfl), ⟨by decide, by decide, by decide +kernel⟩, by decide⟩
theorem kAc_32 : kN RcAc 32 yTL_within RcTL prog_1_method_28_code 3 (some .boolean) 3 := ⟨by decide +kernel, (mg (i := 319) (by decide +kernel) rfl), (mg (i := 41) (by decide +kernel) rfl), (mg (i := 320) (by decide +kernel) rfl), ⟨by decide, by decide, by decide +kernel⟩, by decide⟩
theorem kAc_36 : kS RcAc 36 yAc_comingDay prog_2_method_5_code 1 (some .int) 1 := ⟨(mg (i := 640) (by decide +kernel) rfl), (mg (i := 641) (by decide +kernel) rfl), (mg (i := 48) (by decide +kernel) rfl), (mg (i := 642) (by decide +kernel) rfl), ⟨by decide, by decide, by decide +kernel⟩, by decide⟩
theorem jAc_40 : Cond.methodLink RcAc 40 Lib.Math.min.name ∈ gw ∧ Cond.static Lib.Math.min.name ∈ gw ∧ Cond.initialized "java/lang/Math" ∈ gw ∧ Cond.code Lib.Math.min.name Lib.Math.min.code 2 (some .int) ∈ gw := ⟨(mg (i := 639) (by decide +kernel) rfl), (mg (i := 344) (by decide +kernel) rfl), (mg (i := 53) (by decide +kernel) rfl), (mg (i := 345) (by decide +kernel) rfl)⟩
theorem kAc_46 : kN RcAc 46 yTL_slot RcTL prog_1_method_33_code 2 (some .int) 2 := ⟨by decide +kernel, (mg (i := 523) (by decide +kernel) rfl), (mg (i := 41) (by decide +kernel) rfl), (mg (i := 524) (by decide +kernel) rfl), ⟨by decide, by decide, by decide +kernel⟩, by decide⟩
theorem kSe_28 : kV RcSe 28 RcSe ySe_entry prog_8_method_6_code 3 (some .int) 2 := ⟨(mg (i := 630) (by decide +kernel) rfl), (mg (i := 615) (by decide +kernel) rfl), (mg (i := 616) (by decide +kernel) rfl), (mg (i := 49) (by decide +kernel) rfl), (mg (i := 617) (by decide +kernel) rfl), ⟨by decide, by decide, by decide +kernel⟩, by decide⟩
theorem jMa_43 : kS RcMa 43 yfill prog_18_method_103_code 4 none 2 := ⟨(mg (i := 714) (by decide +kernel) rfl), (mg (i := 91) (by decide +kernel) rfl), (mg (i := 44) (by decide +kernel) rfl), (mg (i := 92) (by decide +kernel) rfl), ⟨by decide, by decide, by decide +kernel⟩, by decide⟩
theorem kMa_61 : kV RcMa 61 RcMa yMa_search prog_5_method_8_code 7 none 3 := ⟨(mg (i := 716) (by decide +kernel) rfl), (mg (i := 718) (by decide +kernel) rfl), (mg (i := 18) (by decide +kernel) rfl), (mg (i := 50) (by decide +kernel) rfl), (mg (i := 719) (by decide +kernel) rfl), ⟨by decide, by decide, by decide +kernel⟩, by decide⟩
theorem jMa_65 : Cond.methodLink RcMa 65 arraycopyName ∈ gw ∧ Cond.native arraycopyName ∈ gw ∧ Cond.static arraycopyName ∈ gw ∧ Cond.initialized "java/lang/System" ∈ gw := ⟨(mg (i := 724) (by decide +kernel) rfl), (mg (i := 543) (by decide +kernel) rfl), (mg (i := 542) (by decide +kernel) rfl), (mg (i := 58) (by decide +kernel) rfl)⟩
theorem kMa_71 : kV RcMa 71 RcMa yMa_keepIfBetter prog_5_method_10_code 4 none 2 := ⟨(mg (i := 720) (by decide +kernel) rfl), (mg (i := 722) (by decide +kernel) rfl), (mg (i := 19) (by decide +kernel) rfl), (mg (i := 50) (by decide +kernel) rfl), (mg (i := 723) (by decide +kernel) rfl), ⟨by decide, by decide, by decide +kernel⟩, by decide⟩
theorem kMa_75 : kV RcMa 75 RcMa yMa_exchanged prog_5_method_9_code 5 (some .long) 2 := ⟨(mg (i := 725) (by decide +kernel) rfl), (mg (i := 727) (by decide +kernel) rfl), (mg (i := 20) (by decide +kernel) rfl), (mg (i := 50) (by decide +kernel) rfl), (mg (i := 728) (by decide +kernel) rfl), ⟨by decide, by decide, by decide +kernel⟩, by decide⟩
theorem jMa_79 : Cond.methodLink RcMa 79 Lib.Math.max.name ∈ gw ∧ Cond.static Lib.Math.max.name ∈ gw ∧ Cond.initialized "java/lang/Math" ∈ gw ∧ Cond.code Lib.Math.max.name Lib.Math.max.code 2 (some .int) ∈ gw := ⟨(mg (i := 729) (by decide +kernel) rfl), (mg (i := 375) (by decide +kernel) rfl), (mg (i := 53) (by decide +kernel) rfl), (mg (i := 376) (by decide +kernel) rfl)⟩
theorem kSh_15 : kV RcSh 15 RcSh ySh_allYields prog_9_method_4_code 3 (some .int) 0 := ⟨(mg (i := 763) (by decide +kernel) rfl), (mg (i := 765) (by decide +kernel) rfl), (mg (i := 21) (by decide +kernel) rfl), (mg (i := 51) (by decide +kernel) rfl), (mg (i := 766) (by decide +kernel) rfl), ⟨by decide, by decide, by decide +kernel⟩, by decide⟩
theorem kMM_109 : kS RcMM 109 yMM_isIn prog_12_method_2_code 3 (some .boolean) 3 := ⟨(mg (i := 956) (by decide +kernel) rfl), (mg (i := 957) (by decide +kernel) rfl), (mg (i := 52) (by decide +kernel) rfl), (mg (i := 958) (by decide +kernel) rfl), ⟨by decide, by decide, by decide +kernel⟩, by decide⟩
theorem kMM_113 : kS RcMM 113 yMM_isPlace prog_12_method_3_code 1 (some .boolean) 1 := ⟨(mg (i := 953) (by decide +kernel) rfl), (mg (i := 954) (by decide +kernel) rfl), (mg (i := 52) (by decide +kernel) rfl), (mg (i := 955) (by decide +kernel) rfl), ⟨by decide, by decide, by decide +kernel⟩, by decide⟩
theorem kMM_118 : kV RcMM 118 RcMM yMM_wayOf prog_12_method_7_code 6 (some .int) 2 := ⟨(mg (i := 963) (by decide +kernel) rfl), (mg (i := 965) (by decide +kernel) rfl), (mg (i := 22) (by decide +kernel) rfl), (mg (i := 52) (by decide +kernel) rfl), (mg (i := 966) (by decide +kernel) rfl), ⟨by decide, by decide, by decide +kernel⟩, by decide⟩
theorem kMM_122 : kS RcMM 122 yMM_isGood prog_12_method_5_code 1 (some .boolean) 1 := ⟨(mg (i := 972) (by decide +kernel) rfl), (mg (i := 973) (by decide +kernel) rfl), (mg (i := 52) (by decide +kernel) rfl), (mg (i := 974) (by decide +kernel) rfl), ⟨by decide, by decide, by decide +kernel⟩, by decide⟩
theorem kMM_125 : kV RcMM 125 RcMM yMM_carriersOf prog_12_method_10_code 4 (some .int) 2 := ⟨(mg (i := 979) (by decide +kernel) rfl), (mg (i := 981) (by decide +kernel) rfl), (mg (i := 23) (by decide +kernel) rfl), (mg (i := 52) (by decide +kernel) rfl), (mg (i := 982) (by decide +kernel) rfl), ⟨by decide, by decide, by decide +kernel⟩, by decide⟩
theorem kMM_131 : kV RcMM 131 RcMM yMM_four prog_12_method_12_code 3 none 1 := ⟨(mg (i := 987) (by decide +kernel) rfl), (mg (i := 989) (by decide +kernel) rfl), (mg (i := 24) (by decide +kernel) rfl), (mg (i := 52) (by decide +kernel) rfl), (mg (i := 990) (by decide +kernel) rfl), ⟨by decide, by decide, by decide +kernel⟩, by decide⟩
theorem kMM_138 : kV RcMM 138 RcMM yMM_see prog_12_method_15_code 2 (some .int) 1 := ⟨(mg (i := 1007) (by decide +kernel) rfl), (mg (i := 1009) (by decide +kernel) rfl), (mg (i := 27) (by decide +kernel) rfl), (mg (i := 52) (by decide +kernel) rfl), (mg (i := 1010) (by decide +kernel) rfl), ⟨by decide, by decide, by decide +kernel⟩, by decide⟩
theorem kMM_148 : kS RcMM 148 yMM_isDigit prog_12_method_17_code 1 (some .boolean) 1 := ⟨(mg (i := 1011) (by decide +kernel) rfl), (mg (i := 1012) (by decide +kernel) rfl), (mg (i := 52) (by decide +kernel) rfl), (mg (i := 1013) (by decide +kernel) rfl), ⟨by decide, by decide, by decide +kernel⟩, by decide⟩
theorem kMM_154 : kS RcMM 154 yMM_isLetter prog_12_method_16_code 1 (some .boolean) 1 := ⟨(mg (i := 1014) (by decide +kernel) rfl), (mg (i := 1015) (by decide +kernel) rfl), (mg (i := 52) (by decide +kernel) rfl), (mg (i := 1016) (by decide +kernel) rfl), ⟨by decide, by decide, by decide +kernel⟩, by decide⟩
theorem kMM_157 : kV RcMM 157 RcMM yMM_nextToken prog_12_method_18_code 2 none 0 := ⟨(mg (i := 1003) (by decide +kernel) rfl), (mg (i := 1005) (by decide +kernel) rfl), (mg (i := 26) (by decide +kernel) rfl), (mg (i := 52) (by decide +kernel) rfl), (mg (i := 1006) (by decide +kernel) rfl), ⟨by decide, by decide, by decide +kernel⟩, by decide⟩
theorem kMM_160 : kS RcMM 160 yMM_isTown prog_12_method_4_code 1 (some .boolean) 1 := ⟨(mg (i := 1021) (by decide +kernel) rfl), (mg (i := 1022) (by decide +kernel) rfl), (mg (i := 52) (by decide +kernel) rfl), (mg (i := 1023) (by decide +kernel) rfl), ⟨by decide, by decide, by decide +kernel⟩, by decide⟩
theorem kMM_169 : kV RcMM 169 RcMM yMM_part prog_12_method_20_code 3 (some .int) 1 := ⟨(mg (i := 1024) (by decide +kernel) rfl), (mg (i := 1026) (by decide +kernel) rfl), (mg (i := 29) (by decide +kernel) rfl), (mg (i := 52) (by decide +kernel) rfl), (mg (i := 1027) (by decide +kernel) rfl), ⟨by decide, by decide, by decide +kernel⟩, by decide⟩
theorem kMM_175 : kV RcMM 175 RcMM yMM_line prog_12_method_19_code 4 (some .int) 0 := ⟨(mg (i := 1017) (by decide +kernel) rfl), (mg (i := 1019) (by decide +kernel) rfl), (mg (i := 28) (by decide +kernel) rfl), (mg (i := 52) (by decide +kernel) rfl), (mg (i := 1020) (by decide +kernel) rfl), ⟨by decide, by decide, by decide +kernel⟩, by decide⟩
theorem kMM_179 : kV RcMM 179 RcMM yMM_read prog_12_method_21_code 2 (some .int) 0 := ⟨(mg (i := 999) (by decide +kernel) rfl), (mg (i := 1001) (by decide +kernel) rfl), (mg (i := 25) (by decide +kernel) rfl), (mg (i := 52) (by decide +kernel) rfl), (mg (i := 1002) (by decide +kernel) rfl), ⟨by decide, by decide, by decide +kernel⟩, by decide⟩
theorem kMM_185 : kV RcMM 185 RcMM yMM_tellsOf prog_12_method_24_code 4 (some .int) 3 := ⟨(mg (i := 1036) (by decide +kernel) rfl), (mg (i := 1038) (by decide +kernel) rfl), (mg (i := 30) (by decide +kernel) rfl), (mg (i := 52) (by decide +kernel) rfl), (mg (i := 1039) (by decide +kernel) rfl), ⟨by decide, by decide, by decide +kernel⟩, by decide⟩
theorem kMM_189 : kV RcMM 189 RcMM yMM_votes prog_12_method_26_code 6 (some .int) 3 := ⟨(mg (i := 1048) (by decide +kernel) rfl), (mg (i := 1050) (by decide +kernel) rfl), (mg (i := 32) (by decide +kernel) rfl), (mg (i := 52) (by decide +kernel) rfl), (mg (i := 1051) (by decide +kernel) rfl), ⟨by decide, by decide, by decide +kernel⟩, by decide⟩
theorem kMM_192 : kV RcMM 192 RcMM yMM_owedOf prog_12_method_27_code 7 (some .int) 2 := ⟨(mg (i := 1044) (by decide +kernel) rfl), (mg (i := 1046) (by decide +kernel) rfl), (mg (i := 31) (by decide +kernel) rfl), (mg (i := 52) (by decide +kernel) rfl), (mg (i := 1047) (by decide +kernel) rfl), ⟨by decide, by decide, by decide +kernel⟩, by decide⟩
theorem kMM_195 : kV RcMM 195 RcMM yMM_isQuarrel prog_12_method_29_code 6 (some .boolean) 2 := ⟨(mg (i := 1056) (by decide +kernel) rfl), (mg (i := 1058) (by decide +kernel) rfl), (mg (i := 33) (by decide +kernel) rfl), (mg (i := 52) (by decide +kernel) rfl), (mg (i := 1059) (by decide +kernel) rfl), ⟨by decide, by decide, by decide +kernel⟩, by decide⟩
theorem kMM_214 : kV RcMM 214 RcMM yMM_store prog_12_method_34_code 6 none 1 := ⟨(mg (i := 1076) (by decide +kernel) rfl), (mg (i := 1078) (by decide +kernel) rfl), (mg (i := 34) (by decide +kernel) rfl), (mg (i := 52) (by decide +kernel) rfl), (mg (i := 1079) (by decide +kernel) rfl), ⟨by decide, by decide, by decide +kernel⟩, by decide⟩
theorem kMM_217 : kV RcMM 217 RcMM yMM_quarter prog_12_method_35_code 6 none 0 := ⟨(mg (i := 1080) (by decide +kernel) rfl), (mg (i := 1082) (by decide +kernel) rfl), (mg (i := 35) (by decide +kernel) rfl), (mg (i := 52) (by decide +kernel) rfl), (mg (i := 1083) (by decide +kernel) rfl), ⟨by decide, by decide, by decide +kernel⟩, by decide⟩
theorem kMM_232 : kV RcMM 232 RcMM yMM_isAhead prog_12_method_41_code 3 (some .boolean) 1 := ⟨(mg (i := 1117) (by decide +kernel) rfl), (mg (i := 1119) (by decide +kernel) rfl), (mg (i := 39) (by decide +kernel) rfl), (mg (i := 52) (by decide +kernel) rfl), (mg (i := 1120) (by decide +kernel) rfl), ⟨by decide, by decide, by decide +kernel⟩, by decide⟩
theorem kMM_235 : kV RcMM 235 RcMM yMM_wasThrough prog_12_method_43_code 5 (some .boolean) 3 := ⟨(mg (i := 1109) (by decide +kernel) rfl), (mg (i := 1111) (by decide +kernel) rfl), (mg (i := 37) (by decide +kernel) rfl), (mg (i := 52) (by decide +kernel) rfl), (mg (i := 1112) (by decide +kernel) rfl), ⟨by decide, by decide, by decide +kernel⟩, by decide⟩
theorem kMM_238 : kV RcMM 238 RcMM yMM_found prog_12_method_42_code 5 none 1 := ⟨(mg (i := 1113) (by decide +kernel) rfl), (mg (i := 1115) (by decide +kernel) rfl), (mg (i := 38) (by decide +kernel) rfl), (mg (i := 52) (by decide +kernel) rfl), (mg (i := 1116) (by decide +kernel) rfl), ⟨by decide, by decide, by decide +kernel⟩, by decide⟩
theorem kMM_241 : kV RcMM 241 RcMM yMM_search prog_12_method_44_code 7 none 3 := ⟨(mg (i := 1105) (by decide +kernel) rfl), (mg (i := 1107) (by decide +kernel) rfl), (mg (i := 36) (by decide +kernel) rfl), (mg (i := 52) (by decide +kernel) rfl), (mg (i := 1108) (by decide +kernel) rfl), ⟨by decide, by decide, by decide +kernel⟩, by decide⟩
end
section
def FU : Nat := 1000000000
def fTL_within (a0 : Int32) (a1 : Int32) (a2 : Int32) : Int32 := (if a0 < a1 then (0 : Int32) else (if a2 < a0 then (0 : Int32) else (1 : Int32)))
theorem zb_TL_within {a0 : Int32} {a1 : Int32} {a2 : Int32} : narrow .boolean (.int (fTL_within a0 a1 a2)) = .int (fTL_within a0 a1 a2) := by
  unfold fTL_within
  (repeat' split) <;> first | rfl | (dsimp only; rfl)
def fTL_isPlace (a0 : Int32) : Int32 := (fTL_within a0 (0 : Int32) (15 : Int32))
theorem zb_TL_isPlace {a0 : Int32} : narrow .boolean (.int (fTL_isPlace a0)) = .int (fTL_isPlace a0) := by
  unfold fTL_isPlace
  (repeat' split) <;> first | rfl | (dsimp only; rfl) | exact zb_TL_within
def fRo_lay (a1 : Int32) (a2 : Int32) (a3 : Int32) (c_Ro_length : (Nat → Int32)) : Option (Nat → Int32) := gd (inb ((a1 * (16 : Int32)) + a2) 256) (gd (inb ((a2 * (16 : Int32)) + a1) 256) (some (upd (upd c_Ro_length (((a1 * (16 : Int32)) + a2)).toNatClampNeg a3) (((a2 * (16 : Int32)) + a1)).toNatClampNeg a3)))
def fTL_road (a1 : Int32) (a2 : Int32) (a3 : Int32) (c_Ro_length : (Nat → Int32)) : Option (Int32 × (Nat → Int32)) := (if (fTL_isPlace a1) = (0 : Int32) then some ((0 : Int32), c_Ro_length) else (if (fTL_isPlace a2) = (0 : Int32) then some ((0 : Int32), c_Ro_length) else (if a1 = a2 then some ((0 : Int32), c_Ro_length) else (if (fTL_within a3 (0 : Int32) (30 : Int32)) = (0 : Int32) then some ((0 : Int32), c_Ro_length) else ob (fRo_lay a1 a2 a3 c_Ro_length) (fun e1 => some ((1 : Int32), e1))))))
def fRo_nearestOpen_l7 (c_Ro_reach : (Nat → Int32)) (c_Ro_settled : (Nat → Int32)) : Nat → Int32 → Int32 → Int32 → Option (Int32)
  | 0, _, _, _ => none
  | n + 1, a1, a2, a3 => (if (16 : Int32) ≤ a3 then some (a1) else gd (inb a3 16) ((if (c_Ro_settled (a3).toNatClampNeg) = (0 : Int32) then gd (inb a3 16) ((if a2 ≤ (c_Ro_reach (a3).toNatClampNeg) then fRo_nearestOpen_l7 c_Ro_reach c_Ro_settled n a1 a2 (a3 + (1 : Int32)) else gd (inb a3 16) (fRo_nearestOpen_l7 c_Ro_reach c_Ro_settled n a3 (c_Ro_reach (a3).toNatClampNeg) (a3 + (1 : Int32))))) else fRo_nearestOpen_l7 c_Ro_reach c_Ro_settled n a1 a2 (a3 + (1 : Int32)))))
def fRo_nearestOpen (c_Ro_reach : (Nat → Int32)) (c_Ro_settled : (Nat → Int32)) : Option Int32 := ob (fRo_nearestOpen_l7 c_Ro_reach c_Ro_settled FU (-1 : Int32) (1000000 : Int32) (0 : Int32)) (fun e4 => some (e4))
def fRo_reachOnFrom_l2 (a1 : Int32) (c_Ro_length : (Nat → Int32)) : Nat → Int32 → (Nat → Int32) → Option ((Nat → Int32))
  | 0, _, _ => none
  | n + 1, a2, c_Ro_reach => (if (16 : Int32) ≤ a2 then some (c_Ro_reach) else gd (inb ((a1 * (16 : Int32)) + a2) 256) ((if (c_Ro_length (((a1 * (16 : Int32)) + a2)).toNatClampNeg) ≤ (0 : Int32) then fRo_reachOnFrom_l2 a1 c_Ro_length n (a2 + (1 : Int32)) c_Ro_reach else gd (inb a2 16) (gd (inb a1 16) (gd (inb a2 16) (fRo_reachOnFrom_l2 a1 c_Ro_length n (a2 + (1 : Int32)) (upd c_Ro_reach (a2).toNatClampNeg (if ((c_Ro_reach (a1).toNatClampNeg) + (c_Ro_length (((a1 * (16 : Int32)) + a2)).toNatClampNeg)) < (c_Ro_reach (a2).toNatClampNeg) then ((c_Ro_reach (a1).toNatClampNeg) + (c_Ro_length (((a1 * (16 : Int32)) + a2)).toNatClampNeg)) else (c_Ro_reach (a2).toNatClampNeg)))))))))
def fRo_reachOnFrom (a1 : Int32) (c_Ro_length : (Nat → Int32)) (c_Ro_reach : (Nat → Int32)) : Option (Nat → Int32) := ob (fRo_reachOnFrom_l2 a1 c_Ro_length FU (0 : Int32) c_Ro_reach) (fun e5 => some (e5))
def fRo_leastDays_l26 (a2 : Int32) (c_Ro_length : (Nat → Int32)) : Nat → Int32 → (Nat → Int32) → (Nat → Int32) → Option (((Nat → Int32) × (Nat → Int32)) ⊕ ((Nat → Int32) × (Nat → Int32)))
  | 0, _, _, _ => none
  | n + 1, a3, c_Ro_reach, c_Ro_settled => (if (16 : Int32) ≤ a3 then some (Sum.inr (c_Ro_reach, c_Ro_settled)) else ob (fRo_nearestOpen c_Ro_reach c_Ro_settled) (fun e2 => (if e2 = (-1 : Int32) then some (Sum.inr (c_Ro_reach, c_Ro_settled)) else (if e2 = a2 then some (Sum.inl (c_Ro_reach, c_Ro_settled)) else gd (inb e2 16) (ob (fRo_reachOnFrom e2 c_Ro_length c_Ro_reach) (fun e4 => fRo_leastDays_l26 a2 c_Ro_length n (a3 + (1 : Int32)) e4 (upd c_Ro_settled (e2).toNatClampNeg (1 : Int32))))))))
def fRo_leastDays (a1 : Int32) (a2 : Int32) (c_Ro_length : (Nat → Int32)) (c_Ro_reach : (Nat → Int32)) (c_Ro_settled : (Nat → Int32)) : Option (Int32 × (Nat → Int32) × (Nat → Int32)) := gd (inb a1 16) (ob (fRo_leastDays_l26 a2 c_Ro_length FU (0 : Int32) (upd (filI 16 (1000000 : Int32) c_Ro_reach) (a1).toNatClampNeg (0 : Int32)) (filI 16 (0 : Int32) c_Ro_settled)) (Sum.elim (fun e6 => gd (inb a2 16) ((if (1000000 : Int32) ≤ (e6.1 (a2).toNatClampNeg) then some ((-1 : Int32), e6.1, e6.2) else gd (inb a2 16) (some ((e6.1 (a2).toNatClampNeg), e6.1, e6.2))))) (fun e9 => gd (inb a2 16) ((if (1000000 : Int32) ≤ (e9.1 (a2).toNatClampNeg) then some ((-1 : Int32), e9.1, e9.2) else gd (inb a2 16) (some ((e9.1 (a2).toNatClampNeg), e9.1, e9.2)))))))
def fTL_way (a1 : Int32) (a2 : Int32) (c_Ro_length : (Nat → Int32)) (c_Ro_reach : (Nat → Int32)) (c_Ro_settled : (Nat → Int32)) : Option (Int32 × (Nat → Int32) × (Nat → Int32)) := (if (fTL_isPlace a1) = (0 : Int32) then some ((-1 : Int32), c_Ro_reach, c_Ro_settled) else (if (fTL_isPlace a2) = (0 : Int32) then some ((-1 : Int32), c_Ro_reach, c_Ro_settled) else ob (fRo_leastDays a1 a2 c_Ro_length c_Ro_reach c_Ro_settled) (fun e1 => some (e1.1, e1.2.1, e1.2.2))))
def fPo_setLoad (a1 : Int32) (c_Po_load : Int32) : (Int32 × Int32) := (if (fTL_within a1 (1 : Int32) (100 : Int32)) = (0 : Int32) then ((0 : Int32), c_Po_load) else ((1 : Int32), a1))
theorem zb_Po_setLoad {a1 : Int32} {c_Po_load : Int32} : narrow .boolean (.int (fPo_setLoad a1 c_Po_load).1) = .int (fPo_setLoad a1 c_Po_load).1 := by
  unfold fPo_setLoad
  (repeat' split) <;> first | rfl | (dsimp only; rfl) | exact zb_TL_within
def fTL_isGood (a0 : Int32) : Int32 := (fTL_within a0 (0 : Int32) (5 : Int32))
theorem zb_TL_isGood {a0 : Int32} : narrow .boolean (.int (fTL_isGood a0)) = .int (fTL_isGood a0) := by
  unfold fTL_isGood
  (repeat' split) <;> first | rfl | (dsimp only; rfl) | exact zb_TL_within
def fPo_setWeight (a1 : Int32) (a2 : Int32) (c_Po_weights : (Nat → Int32)) : Option (Int32 × (Nat → Int32)) := (if (fTL_within a2 (1 : Int32) (50 : Int32)) = (0 : Int32) then some ((0 : Int32), c_Po_weights) else gd (inb a1 6) (some ((1 : Int32), (upd c_Po_weights (a1).toNatClampNeg a2))))
def fTL_weight (a1 : Int32) (a2 : Int32) (c_Po_weights : (Nat → Int32)) (c_Po_load : Int32) : Option (Int32 × (Nat → Int32) × Int32) := (if a1 = (-1 : Int32) then some ((fPo_setLoad a2 c_Po_load).1, c_Po_weights, (fPo_setLoad a2 c_Po_load).2) else (if (fTL_isGood a1) = (0 : Int32) then some ((0 : Int32), c_Po_weights, c_Po_load) else ob (fPo_setWeight a1 a2 c_Po_weights) (fun e1 => (if e1.1 = (0 : Int32) then some ((0 : Int32), e1.2, c_Po_load) else some ((1 : Int32), e1.2, c_Po_load)))))
def fPo_piecesEach (a1 : Int32) (c_Po_weights : (Nat → Int32)) (c_Po_load : Int32) : Option Int32 := gd (inb a1 6) (gd (nz (if (1 : Int32) < (c_Po_weights (a1).toNatClampNeg) then (c_Po_weights (a1).toNatClampNeg) else (1 : Int32))) (some (if (1 : Int32) < (c_Po_load / (if (1 : Int32) < (c_Po_weights (a1).toNatClampNeg) then (c_Po_weights (a1).toNatClampNeg) else (1 : Int32))) then (c_Po_load / (if (1 : Int32) < (c_Po_weights (a1).toNatClampNeg) then (c_Po_weights (a1).toNatClampNeg) else (1 : Int32))) else (1 : Int32))))
def fPo_needed (a1 : Int32) (a2 : Int32) (c_Po_weights : (Nat → Int32)) (c_Po_load : Int32) : Option Int32 := ob (fPo_piecesEach a1 c_Po_weights c_Po_load) (fun e1 => gd (nz e1) (some (((a2 + e1) - (1 : Int32)) / e1)))
def fTL_carriers (a1 : Int32) (a2 : Int32) (c_Po_weights : (Nat → Int32)) (c_Po_load : Int32) : Option Int32 := (if (fTL_isGood a1) = (0 : Int32) then some (-1 : Int32) else (if (fTL_within a2 (0 : Int32) (9999 : Int32)) = (0 : Int32) then some (-1 : Int32) else ob (fPo_needed a1 a2 c_Po_weights c_Po_load) (fun e1 => some (e1))))
def fTa_hasRoomForFive (c_Ta_size : Int32) : Int32 := (if (280 : Int32) < c_Ta_size then (0 : Int32) else (1 : Int32))
theorem zb_Ta_hasRoomForFive {c_Ta_size : Int32} : narrow .boolean (.int (fTa_hasRoomForFive c_Ta_size)) = .int (fTa_hasRoomForFive c_Ta_size) := by
  unfold fTa_hasRoomForFive
  (repeat' split) <;> first | rfl | (dsimp only; rfl)
def fTa_append_l3 (a1 : Int32) : Nat → Int32 → (Nat → Int32) → Int32 → Option (((Nat → Int32) × Int32))
  | 0, _, _, _ => none
  | n + 1, a2, c_Ta_bytes, c_Ta_size => (if a2 < (0 : Int32) then some ((c_Ta_bytes, c_Ta_size)) else (if (300 : Int32) ≤ c_Ta_size then some ((c_Ta_bytes, c_Ta_size)) else gd (inb c_Ta_size 300) (fTa_append_l3 a1 n (a2 + (-8 : Int32)) (upd c_Ta_bytes (c_Ta_size).toNatClampNeg (vp_nar .byte ((a1 >>> (a2 &&& 31))).toInt8.toInt32)) (c_Ta_size + (1 : Int32)))))
def fTa_append (a1 : Int32) (c_Ta_bytes : (Nat → Int32)) (c_Ta_size : Int32) : Option ((Nat → Int32) × Int32) := ob (fTa_append_l3 a1 FU (24 : Int32) c_Ta_bytes c_Ta_size) (fun e2 => some (e2.1, e2.2))
def fTa_size (c_Ta_size : Int32) : Int32 := c_Ta_size
def fTL_feed (a1 : Int32) (a2 : Int32) (a3 : Int32) (a4 : Int32) (a5 : Int32) (c_Ta_bytes : (Nat → Int32)) (c_Ta_size : Int32) : Option (Int32 × (Nat → Int32) × Int32) := (if (fTa_hasRoomForFive c_Ta_size) = (0 : Int32) then some ((-1 : Int32), c_Ta_bytes, c_Ta_size) else ob (fTa_append a1 c_Ta_bytes c_Ta_size) (fun e1 => ob (fTa_append a2 e1.1 e1.2) (fun e2 => ob (fTa_append a3 e2.1 e2.2) (fun e3 => ob (fTa_append a4 e3.1 e3.2) (fun e4 => ob (fTa_append a5 e4.1 e4.2) (fun e5 => some ((fTa_size e5.2), e5.1, e5.2)))))))
def fTa_cut (a1 : Int32) (c_Ta_size : Int32) : Int32 := a1
def fTL_end (a1 : Int32) (c_Ta_size : Int32) : (Int32 × Int32) := (if (fTL_within a1 (0 : Int32) (fTa_size c_Ta_size)) = (0 : Int32) then ((-1 : Int32), c_Ta_size) else (a1, (fTa_cut a1 c_Ta_size)))
def fTL_isCopy (a0 : Int32) : Int32 := (fTL_within a0 (0 : Int32) (4 : Int32))
theorem zb_TL_isCopy {a0 : Int32} : narrow .boolean (.int (fTL_isCopy a0)) = .int (fTL_isCopy a0) := by
  unfold fTL_isCopy
  (repeat' split) <;> first | rfl | (dsimp only; rfl) | exact zb_TL_within
def fLi_startAnew (c_Li_row : (Nat → Int32)) (c_Li_townSeen : (Nat → Int32)) (c_Li_cursor : Int32) (c_Li_expected : Int32) (c_Li_lines : Int32) (c_Li_anyRead : Int32) (c_Li_faultKind : Int32) (c_Li_faultPlace : Int32) : Option ((Nat → Int32) × (Nat → Int32) × Int32 × Int32 × Int32 × Int32 × Int32 × Int32) := some ((filI 96 (-1 : Int32) c_Li_row), (filI 16 (0 : Int32) c_Li_townSeen), (0 : Int32), (0 : Int32), (0 : Int32), (1 : Int32), (0 : Int32), (-1 : Int32))
def fTa_at (a1 : Int32) (c_Ta_bytes : (Nat → Int32)) : Option Int32 := gd (inb a1 300) (some ((c_Ta_bytes (a1).toNatClampNeg) &&& (255 : Int32)))
def fLi_isBlank (a0 : Int32) : Int32 := (if a0 = (32 : Int32) then (1 : Int32) else (if a0 = (10 : Int32) then (1 : Int32) else (0 : Int32)))
theorem zb_Li_isBlank {a0 : Int32} : narrow .boolean (.int (fLi_isBlank a0)) = .int (fLi_isBlank a0) := by
  unfold fLi_isBlank
  (repeat' split) <;> first | rfl | (dsimp only; rfl)
def fLi_isLetter (a0 : Int32) : Int32 := (if (fTL_within a0 (97 : Int32) (122 : Int32)) = (0 : Int32) then (if (fTL_within a0 (65 : Int32) (90 : Int32)) = (0 : Int32) then (0 : Int32) else (1 : Int32)) else (1 : Int32))
theorem zb_Li_isLetter {a0 : Int32} : narrow .boolean (.int (fLi_isLetter a0)) = .int (fLi_isLetter a0) := by
  unfold fLi_isLetter
  (repeat' split) <;> first | rfl | (dsimp only; rfl) | exact zb_TL_within
def fLi_takeLetters_l2 (c_Ta_bytes : (Nat → Int32)) (c_Ta_size : Int32) (c_Li_tokenStart : Int32) : Nat → Int32 → Int32 → Option ((Int32 × Int32))
  | 0, _, _ => none
  | n + 1, a2, c_Li_cursor => (if (fTa_size c_Ta_size) ≤ c_Li_cursor then some ((a2, c_Li_cursor)) else ob (fTa_at c_Li_cursor c_Ta_bytes) (fun e1 => (if (fLi_isLetter e1) = (0 : Int32) then some ((a2, c_Li_cursor)) else (if a2 = (0 : Int32) then fLi_takeLetters_l2 c_Ta_bytes c_Ta_size c_Li_tokenStart n (0 : Int32) (c_Li_cursor + (1 : Int32)) else (if (4 : Int32) ≤ (c_Li_cursor - c_Li_tokenStart) then fLi_takeLetters_l2 c_Ta_bytes c_Ta_size c_Li_tokenStart n (0 : Int32) (c_Li_cursor + (1 : Int32)) else gd (inb (c_Li_cursor - c_Li_tokenStart) 4) (ob (fTa_at c_Li_cursor c_Ta_bytes) (fun e3 => (if (town (c_Li_cursor - c_Li_tokenStart)) = e3 then fLi_takeLetters_l2 c_Ta_bytes c_Ta_size c_Li_tokenStart n (1 : Int32) (c_Li_cursor + (1 : Int32)) else fLi_takeLetters_l2 c_Ta_bytes c_Ta_size c_Li_tokenStart n (0 : Int32) (c_Li_cursor + (1 : Int32))))))))))
def fLi_takeLetters (c_Ta_bytes : (Nat → Int32)) (c_Ta_size : Int32) (c_Li_cursor : Int32) (c_Li_tokenStart : Int32) (c_Li_tokenKind : Int32) : Option (Int32 × Int32) := ob (fLi_takeLetters_l2 c_Ta_bytes c_Ta_size c_Li_tokenStart FU (1 : Int32) c_Li_cursor) (fun e4 => (if e4.1 = (0 : Int32) then some (e4.2, (-4 : Int32)) else (if (e4.2 - c_Li_tokenStart) = (4 : Int32) then some (e4.2, (-2 : Int32)) else some (e4.2, (-4 : Int32)))))
def fLi_isDigit (a0 : Int32) : Int32 := (fTL_within a0 (48 : Int32) (57 : Int32))
theorem zb_Li_isDigit {a0 : Int32} : narrow .boolean (.int (fLi_isDigit a0)) = .int (fLi_isDigit a0) := by
  unfold fLi_isDigit
  (repeat' split) <;> first | rfl | (dsimp only; rfl) | exact zb_TL_within
def fLi_takeDigits_l5 (c_Ta_bytes : (Nat → Int32)) (c_Ta_size : Int32) : Nat → Int32 → Int32 → Option ((Int32 × Int32))
  | 0, _, _ => none
  | n + 1, c_Li_cursor, c_Li_number => (if (fTa_size c_Ta_size) ≤ c_Li_cursor then some ((c_Li_cursor, c_Li_number)) else ob (fTa_at c_Li_cursor c_Ta_bytes) (fun e1 => (if (fLi_isDigit e1) = (0 : Int32) then some ((c_Li_cursor, c_Li_number)) else ob (fTa_at c_Li_cursor c_Ta_bytes) (fun e2 => fLi_takeDigits_l5 c_Ta_bytes c_Ta_size n (c_Li_cursor + (1 : Int32)) (if ((c_Li_number * (10 : Int32)) + (e2 - (48 : Int32))) < (100000 : Int32) then ((c_Li_number * (10 : Int32)) + (e2 - (48 : Int32))) else (100000 : Int32))))))
def fLi_takeDigits (c_Ta_bytes : (Nat → Int32)) (c_Ta_size : Int32) (c_Li_cursor : Int32) (c_Li_tokenKind : Int32) (c_Li_number : Int32) : Option (Int32 × Int32 × Int32) := ob (fLi_takeDigits_l5 c_Ta_bytes c_Ta_size FU c_Li_cursor (0 : Int32)) (fun e3 => some (e3.1, (-3 : Int32), e3.2))
def fLi_isSign (a0 : Int32) : Int32 := (if a0 = (59 : Int32) then (1 : Int32) else (if a0 = (44 : Int32) then (1 : Int32) else (if a0 = (58 : Int32) then (1 : Int32) else (0 : Int32))))
theorem zb_Li_isSign {a0 : Int32} : narrow .boolean (.int (fLi_isSign a0)) = .int (fLi_isSign a0) := by
  unfold fLi_isSign
  (repeat' split) <;> first | rfl | (dsimp only; rfl)
def fLi_nextToken_l0 (c_Ta_bytes : (Nat → Int32)) (c_Ta_size : Int32) : Nat → Int32 → Option (Int32)
  | 0, _ => none
  | n + 1, c_Li_cursor => (if (fTa_size c_Ta_size) ≤ c_Li_cursor then some (c_Li_cursor) else ob (fTa_at c_Li_cursor c_Ta_bytes) (fun e1 => (if (fLi_isBlank e1) = (0 : Int32) then some (c_Li_cursor) else fLi_nextToken_l0 c_Ta_bytes c_Ta_size n (c_Li_cursor + (1 : Int32)))))
def fLi_nextToken (c_Ta_bytes : (Nat → Int32)) (c_Ta_size : Int32) (c_Li_cursor : Int32) (c_Li_tokenStart : Int32) (c_Li_tokenKind : Int32) (c_Li_number : Int32) : Option (Int32 × Int32 × Int32 × Int32) := ob (fLi_nextToken_l0 c_Ta_bytes c_Ta_size FU c_Li_cursor) (fun e2 => (if e2 < (fTa_size c_Ta_size) then ob (fTa_at e2 c_Ta_bytes) (fun e3 => (if (fLi_isLetter e3) = (0 : Int32) then (if (fLi_isDigit e3) = (0 : Int32) then (if (fLi_isSign e3) = (0 : Int32) then some ((e2 + (1 : Int32)), e2, (-4 : Int32), c_Li_number) else some ((e2 + (1 : Int32)), e2, e3, c_Li_number)) else ob (fLi_takeDigits c_Ta_bytes c_Ta_size e2 c_Li_tokenKind c_Li_number) (fun e4 => some (e4.1, e2, e4.2.1, e4.2.2))) else ob (fLi_takeLetters c_Ta_bytes c_Ta_size e2 e2 c_Li_tokenKind) (fun e5 => some (e5.1, e2, e5.2, c_Li_number)))) else some (e2, e2, (-1 : Int32), c_Li_number)))
def fLi_takeBehindPart (c_Li_tokenKind : Int32) (c_Li_expected : Int32) (c_Li_lines : Int32) : (Int32 × Int32 × Int32) := (if c_Li_tokenKind = (44 : Int32) then ((0 : Int32), (3 : Int32), c_Li_lines) else (if c_Li_tokenKind = (59 : Int32) then ((0 : Int32), (0 : Int32), (c_Li_lines + (1 : Int32))) else ((1 : Int32), c_Li_expected, c_Li_lines)))
def fTL_slot (a0 : Int32) (a1 : Int32) : Int32 := ((a0 * (6 : Int32)) + a1)
def fLi_takePieces (c_Li_row : (Nat → Int32)) (c_Li_tokenKind : Int32) (c_Li_number : Int32) (c_Li_expected : Int32) (c_Li_town : Int32) (c_Li_good : Int32) : Option (Int32 × (Nat → Int32) × Int32) := (if c_Li_tokenKind = (-3 : Int32) then (if c_Li_number ≤ (9999 : Int32) then gd (inb (fTL_slot c_Li_town c_Li_good) 96) (some ((0 : Int32), (upd c_Li_row ((fTL_slot c_Li_town c_Li_good)).toNatClampNeg c_Li_number), (5 : Int32))) else some ((3 : Int32), c_Li_row, c_Li_expected)) else some ((1 : Int32), c_Li_row, c_Li_expected))
def fLi_takeGood (c_Li_row : (Nat → Int32)) (c_Li_tokenKind : Int32) (c_Li_number : Int32) (c_Li_expected : Int32) (c_Li_town : Int32) (c_Li_good : Int32) : Option (Int32 × Int32 × Int32) := (if c_Li_tokenKind = (-3 : Int32) then (if (fTL_isGood c_Li_number) = (0 : Int32) then some ((3 : Int32), c_Li_expected, c_Li_good) else gd (inb (fTL_slot c_Li_town c_Li_number) 96) ((if (c_Li_row ((fTL_slot c_Li_town c_Li_number)).toNatClampNeg) = (-1 : Int32) then some ((0 : Int32), (4 : Int32), c_Li_number) else some ((2 : Int32), c_Li_expected, c_Li_good)))) else some ((1 : Int32), c_Li_expected, c_Li_good))
def fLi_takeColon (c_Li_tokenKind : Int32) (c_Li_expected : Int32) : (Int32 × Int32) := (if c_Li_tokenKind = (58 : Int32) then ((0 : Int32), (3 : Int32)) else ((1 : Int32), (3 : Int32)))
def fTL_isTown (a0 : Int32) : Int32 := (fTL_within a0 (1 : Int32) (15 : Int32))
theorem zb_TL_isTown {a0 : Int32} : narrow .boolean (.int (fTL_isTown a0)) = .int (fTL_isTown a0) := by
  unfold fTL_isTown
  (repeat' split) <;> first | rfl | (dsimp only; rfl) | exact zb_TL_within
def fLi_takeTown (c_Li_townSeen : (Nat → Int32)) (c_Li_tokenKind : Int32) (c_Li_number : Int32) (c_Li_expected : Int32) (c_Li_town : Int32) : Option (Int32 × (Nat → Int32) × Int32 × Int32) := (if c_Li_tokenKind = (-3 : Int32) then (if (fTL_isTown c_Li_number) = (0 : Int32) then some ((3 : Int32), c_Li_townSeen, c_Li_expected, c_Li_town) else gd (inb c_Li_number 16) ((if (c_Li_townSeen (c_Li_number).toNatClampNeg) = (0 : Int32) then gd (inb c_Li_number 16) (some ((0 : Int32), (upd c_Li_townSeen (c_Li_number).toNatClampNeg (1 : Int32)), (2 : Int32), c_Li_number)) else some ((2 : Int32), c_Li_townSeen, c_Li_expected, c_Li_town)))) else some ((1 : Int32), c_Li_townSeen, c_Li_expected, c_Li_town))
def fLi_takeLineStart (c_Li_tokenKind : Int32) (c_Li_expected : Int32) : (Int32 × Int32) := (if c_Li_tokenKind = (-1 : Int32) then ((0 : Int32), c_Li_expected) else (if c_Li_tokenKind = (-2 : Int32) then ((0 : Int32), (1 : Int32)) else ((1 : Int32), (1 : Int32))))
def fLi_takeToken (c_Li_row : (Nat → Int32)) (c_Li_townSeen : (Nat → Int32)) (c_Li_tokenKind : Int32) (c_Li_number : Int32) (c_Li_expected : Int32) (c_Li_lines : Int32) (c_Li_town : Int32) (c_Li_good : Int32) : Option (Int32 × (Nat → Int32) × (Nat → Int32) × Int32 × Int32 × Int32 × Int32) := (if c_Li_expected = (0 : Int32) then some ((fLi_takeLineStart c_Li_tokenKind c_Li_expected).1, c_Li_row, c_Li_townSeen, (fLi_takeLineStart c_Li_tokenKind c_Li_expected).2, c_Li_lines, c_Li_town, c_Li_good) else if c_Li_expected = (1 : Int32) then ob (fLi_takeTown c_Li_townSeen c_Li_tokenKind c_Li_number c_Li_expected c_Li_town) (fun e1 => some (e1.1, c_Li_row, e1.2.1, e1.2.2.1, c_Li_lines, e1.2.2.2, c_Li_good)) else if c_Li_expected = (2 : Int32) then some ((fLi_takeColon c_Li_tokenKind c_Li_expected).1, c_Li_row, c_Li_townSeen, (fLi_takeColon c_Li_tokenKind c_Li_expected).2, c_Li_lines, c_Li_town, c_Li_good) else if c_Li_expected = (3 : Int32) then ob (fLi_takeGood c_Li_row c_Li_tokenKind c_Li_number c_Li_expected c_Li_town c_Li_good) (fun e2 => some (e2.1, c_Li_row, c_Li_townSeen, e2.2.1, c_Li_lines, c_Li_town, e2.2.2)) else if c_Li_expected = (4 : Int32) then ob (fLi_takePieces c_Li_row c_Li_tokenKind c_Li_number c_Li_expected c_Li_town c_Li_good) (fun e3 => some (e3.1, e3.2.1, c_Li_townSeen, e3.2.2, c_Li_lines, c_Li_town, c_Li_good)) else some ((fLi_takeBehindPart c_Li_tokenKind c_Li_expected c_Li_lines).1, c_Li_row, c_Li_townSeen, (fLi_takeBehindPart c_Li_tokenKind c_Li_expected c_Li_lines).2.1, (fLi_takeBehindPart c_Li_tokenKind c_Li_expected c_Li_lines).2.2, c_Li_town, c_Li_good))
def fLi_read_l6 (c_Ta_bytes : (Nat → Int32)) (c_Ta_size : Int32) : Nat → Int32 → (Nat → Int32) → (Nat → Int32) → Int32 → Int32 → Int32 → Int32 → Int32 → Int32 → Int32 → Int32 → Int32 → Option (((Nat → Int32) × (Nat → Int32) × Int32 × Int32 × Int32 × Int32 × Int32 × Int32 × Int32 × Int32 × Int32) ⊕ ((Nat → Int32) × (Nat → Int32) × Int32 × Int32 × Int32 × Int32 × Int32 × Int32 × Int32 × Int32 × Int32) ⊕ ((Nat → Int32) × (Nat → Int32) × Int32 × Int32 × Int32 × Int32 × Int32 × Int32 × Int32 × Int32 × Int32))
  | 0, _, _, _, _, _, _, _, _, _, _, _, _ => none
  | n + 1, a2, c_Li_row, c_Li_townSeen, c_Li_cursor, c_Li_tokenStart, c_Li_tokenKind, c_Li_number, c_Li_expected, c_Li_lines, c_Li_town, c_Li_good, c_Li_faultKind => (if (300 : Int32) < a2 then some (Sum.inr (Sum.inr (c_Li_row, c_Li_townSeen, c_Li_cursor, c_Li_tokenStart, c_Li_tokenKind, c_Li_number, c_Li_expected, c_Li_lines, c_Li_town, c_Li_good, c_Li_faultKind))) else ob (fLi_nextToken c_Ta_bytes c_Ta_size c_Li_cursor c_Li_tokenStart c_Li_tokenKind c_Li_number) (fun e2 => ob (fLi_takeToken c_Li_row c_Li_townSeen e2.2.2.1 e2.2.2.2 c_Li_expected c_Li_lines c_Li_town c_Li_good) (fun e3 => (if e3.1 = (0 : Int32) then (if e2.2.2.1 = (-1 : Int32) then some (Sum.inr (Sum.inl (e3.2.1, e3.2.2.1, e2.1, e2.2.1, e2.2.2.1, e2.2.2.2, e3.2.2.2.1, e3.2.2.2.2.1, e3.2.2.2.2.2.1, e3.2.2.2.2.2.2, e3.1))) else fLi_read_l6 c_Ta_bytes c_Ta_size n (a2 + (1 : Int32)) e3.2.1 e3.2.2.1 e2.1 e2.2.1 e2.2.2.1 e2.2.2.2 e3.2.2.2.1 e3.2.2.2.2.1 e3.2.2.2.2.2.1 e3.2.2.2.2.2.2 e3.1) else some (Sum.inl (e3.2.1, e3.2.2.1, e2.1, e2.2.1, e2.2.2.1, e2.2.2.2, e3.2.2.2.1, e3.2.2.2.2.1, e3.2.2.2.2.2.1, e3.2.2.2.2.2.2, e3.1))))))
def fLi_read (c_Ta_bytes : (Nat → Int32)) (c_Ta_size : Int32) (c_Li_row : (Nat → Int32)) (c_Li_townSeen : (Nat → Int32)) (c_Li_cursor : Int32) (c_Li_tokenStart : Int32) (c_Li_tokenKind : Int32) (c_Li_number : Int32) (c_Li_expected : Int32) (c_Li_lines : Int32) (c_Li_town : Int32) (c_Li_good : Int32) (c_Li_anyRead : Int32) (c_Li_faultKind : Int32) (c_Li_faultPlace : Int32) : Option (Int32 × (Nat → Int32) × (Nat → Int32) × Int32 × Int32 × Int32 × Int32 × Int32 × Int32 × Int32 × Int32 × Int32 × Int32 × Int32) := ob (fLi_startAnew c_Li_row c_Li_townSeen c_Li_cursor c_Li_expected c_Li_lines c_Li_anyRead c_Li_faultKind c_Li_faultPlace) (fun e1 => ob (fLi_read_l6 c_Ta_bytes c_Ta_size FU (0 : Int32) e1.1 e1.2.1 e1.2.2.1 c_Li_tokenStart c_Li_tokenKind c_Li_number e1.2.2.2.1 e1.2.2.2.2.1 c_Li_town c_Li_good e1.2.2.2.2.2.2.1) (Sum.elim (fun e5 => some ((-1 : Int32), e5.1, e5.2.1, e5.2.2.1, e5.2.2.2.1, e5.2.2.2.2.1, e5.2.2.2.2.2.1, e5.2.2.2.2.2.2.1, e5.2.2.2.2.2.2.2.1, e5.2.2.2.2.2.2.2.2.1, e5.2.2.2.2.2.2.2.2.2.1, e1.2.2.2.2.2.1, e5.2.2.2.2.2.2.2.2.2.2, e5.2.2.2.1)) (Sum.elim (fun e6 => some (e6.2.2.2.2.2.2.2.1, e6.1, e6.2.1, e6.2.2.1, e6.2.2.2.1, e6.2.2.2.2.1, e6.2.2.2.2.2.1, e6.2.2.2.2.2.2.1, e6.2.2.2.2.2.2.2.1, e6.2.2.2.2.2.2.2.2.1, e6.2.2.2.2.2.2.2.2.2.1, e1.2.2.2.2.2.1, e6.2.2.2.2.2.2.2.2.2.2, e1.2.2.2.2.2.2.2)) (fun e7 => some ((-1 : Int32), e7.1, e7.2.1, e7.2.2.1, e7.2.2.2.1, e7.2.2.2.2.1, e7.2.2.2.2.2.1, e7.2.2.2.2.2.2.1, e7.2.2.2.2.2.2.2.1, e7.2.2.2.2.2.2.2.2.1, e7.2.2.2.2.2.2.2.2.2.1, e1.2.2.2.2.2.1, e7.2.2.2.2.2.2.2.2.2.2, e1.2.2.2.2.2.2.2)))))
def fLi_row : Unit := ()
def fCo_replace (a1 : Int32) (c_Li_row : (Nat → Int32)) (c_Co_told : (Nat → Nat → Int32)) (c_Co_readAs : (Nat → Int32)) (c_Co_readings : Int32) : Option ((Nat → Nat → Int32) × (Nat → Int32) × Int32) := gd (inb a1 5) (gd (cpb 96 96 (0 : Int32) (0 : Int32) (96 : Int32)) (gd (inb a1 5) (some ((va_up c_Co_told (a1).toNatClampNeg (cpyI c_Li_row (c_Co_told (a1).toNatClampNeg) (0 : Int32) (0 : Int32) (96 : Int32))), (upd c_Co_readAs (a1).toNatClampNeg (c_Co_readings + (1 : Int32))), (c_Co_readings + (1 : Int32))))))
def fTL_copy (a1 : Int32) (c_Ta_bytes : (Nat → Int32)) (c_Ta_size : Int32) (c_Li_row : (Nat → Int32)) (c_Li_townSeen : (Nat → Int32)) (c_Li_cursor : Int32) (c_Li_tokenStart : Int32) (c_Li_tokenKind : Int32) (c_Li_number : Int32) (c_Li_expected : Int32) (c_Li_lines : Int32) (c_Li_town : Int32) (c_Li_good : Int32) (c_Li_anyRead : Int32) (c_Li_faultKind : Int32) (c_Li_faultPlace : Int32) (c_Co_told : (Nat → Nat → Int32)) (c_Co_readAs : (Nat → Int32)) (c_Co_readings : Int32) : Option (Int32 × Int32 × (Nat → Int32) × (Nat → Int32) × Int32 × Int32 × Int32 × Int32 × Int32 × Int32 × Int32 × Int32 × Int32 × Int32 × Int32 × (Nat → Nat → Int32) × (Nat → Int32) × Int32) := (if (fTL_isCopy a1) = (0 : Int32) then some ((-1 : Int32), c_Ta_size, c_Li_row, c_Li_townSeen, c_Li_cursor, c_Li_tokenStart, c_Li_tokenKind, c_Li_number, c_Li_expected, c_Li_lines, c_Li_town, c_Li_good, c_Li_anyRead, c_Li_faultKind, c_Li_faultPlace, c_Co_told, c_Co_readAs, c_Co_readings) else ob (fLi_read c_Ta_bytes c_Ta_size c_Li_row c_Li_townSeen c_Li_cursor c_Li_tokenStart c_Li_tokenKind c_Li_number c_Li_expected c_Li_lines c_Li_town c_Li_good c_Li_anyRead c_Li_faultKind c_Li_faultPlace) (fun e1 => (if e1.1 = (-1 : Int32) then some (e1.1, (fTa_cut (0 : Int32) c_Ta_size), e1.2.1, e1.2.2.1, e1.2.2.2.1, e1.2.2.2.2.1, e1.2.2.2.2.2.1, e1.2.2.2.2.2.2.1, e1.2.2.2.2.2.2.2.1, e1.2.2.2.2.2.2.2.2.1, e1.2.2.2.2.2.2.2.2.2.1, e1.2.2.2.2.2.2.2.2.2.2.1, e1.2.2.2.2.2.2.2.2.2.2.2.1, e1.2.2.2.2.2.2.2.2.2.2.2.2.1, e1.2.2.2.2.2.2.2.2.2.2.2.2.2, c_Co_told, c_Co_readAs, c_Co_readings) else ob (fCo_replace a1 e1.2.1 c_Co_told c_Co_readAs c_Co_readings) (fun e2 => some (e1.1, (fTa_cut (0 : Int32) c_Ta_size), e1.2.1, e1.2.2.1, e1.2.2.2.1, e1.2.2.2.2.1, e1.2.2.2.2.2.1, e1.2.2.2.2.2.2.1, e1.2.2.2.2.2.2.2.1, e1.2.2.2.2.2.2.2.2.1, e1.2.2.2.2.2.2.2.2.2.1, e1.2.2.2.2.2.2.2.2.2.2.1, e1.2.2.2.2.2.2.2.2.2.2.2.1, e1.2.2.2.2.2.2.2.2.2.2.2.2.1, e1.2.2.2.2.2.2.2.2.2.2.2.2.2, e2.1, e2.2.1, e2.2.2)))))
def fLi_hasRead (c_Li_anyRead : Int32) : Option Int32 := gd (isz c_Li_anyRead) (some (c_Li_anyRead))
def fLi_faultPlace (c_Li_faultPlace : Int32) : Int32 := c_Li_faultPlace
def fLi_faultKind (c_Li_faultKind : Int32) : Int32 := c_Li_faultKind
def fTL_fault (a1 : Int32) (c_Li_anyRead : Int32) (c_Li_faultKind : Int32) (c_Li_faultPlace : Int32) : Option Int32 := ob (fLi_hasRead c_Li_anyRead) (fun e1 => (if e1 = (0 : Int32) then some (-1 : Int32) else (if a1 = (0 : Int32) then some (fLi_faultKind c_Li_faultKind) else if a1 = (1 : Int32) then some (fLi_faultPlace c_Li_faultPlace) else some (-1 : Int32))))
def fCo_toldBy (a1 : Int32) (a2 : Int32) (c_Co_told : (Nat → Nat → Int32)) : Option Int32 := gd (inb a1 5) (gd (inb a2 96) (some (c_Co_told (a1).toNatClampNeg (a2).toNatClampNeg)))
def fTL_tells (a1 : Int32) (a2 : Int32) (a3 : Int32) (c_Co_told : (Nat → Nat → Int32)) : Option Int32 := (if (fTL_isCopy a1) = (0 : Int32) then some (-1 : Int32) else (if (fTL_isTown a2) = (0 : Int32) then some (-1 : Int32) else (if (fTL_isGood a3) = (0 : Int32) then some (-1 : Int32) else ob (fCo_toldBy a1 (fTL_slot a2 a3) c_Co_told) (fun e1 => some (e1)))))
def fCo_votesFor_l12 (a1 : Int32) (a2 : Int32) (c_Co_told : (Nat → Nat → Int32)) : Nat → Int32 → Int32 → Option (Int32)
  | 0, _, _ => none
  | n + 1, a3, a4 => (if (5 : Int32) ≤ a4 then some (a3) else gd (inb a4 5) (gd (inb a2 96) ((if (c_Co_told (a4).toNatClampNeg (a2).toNatClampNeg) = a1 then fCo_votesFor_l12 a1 a2 c_Co_told n (a3 + (1 : Int32)) (a4 + (1 : Int32)) else fCo_votesFor_l12 a1 a2 c_Co_told n a3 (a4 + (1 : Int32))))))
def fCo_votesFor (a1 : Int32) (a2 : Int32) (c_Co_told : (Nat → Nat → Int32)) : Option Int32 := (if a1 = (-1 : Int32) then some (0 : Int32) else ob (fCo_votesFor_l12 a1 a2 c_Co_told FU (0 : Int32) (0 : Int32)) (fun e3 => some (e3)))
def fCo_mostTold_l10 (a1 : Int32) (c_Co_told : (Nat → Nat → Int32)) (c_Co_readAs : (Nat → Int32)) : Nat → Int32 → Int32 → Int32 → Int32 → Option (Int32)
  | 0, _, _, _, _ => none
  | n + 1, a2, a3, a4, a5 => (if (5 : Int32) ≤ a5 then some (a2) else gd (inb a5 5) (gd (inb a1 96) (ob (fCo_votesFor (c_Co_told (a5).toNatClampNeg (a1).toNatClampNeg) a1 c_Co_told) (fun e3 => (if a3 < e3 then gd (inb a5 5) (gd (inb a1 96) (gd (inb a5 5) (fCo_mostTold_l10 a1 c_Co_told c_Co_readAs n (c_Co_told (a5).toNatClampNeg (a1).toNatClampNeg) e3 (c_Co_readAs (a5).toNatClampNeg) (a5 + (1 : Int32))))) else (if e3 = a3 then (if e3 ≤ (0 : Int32) then fCo_mostTold_l10 a1 c_Co_told c_Co_readAs n a2 a3 a4 (a5 + (1 : Int32)) else gd (inb a5 5) ((if (c_Co_readAs (a5).toNatClampNeg) ≤ a4 then fCo_mostTold_l10 a1 c_Co_told c_Co_readAs n a2 a3 a4 (a5 + (1 : Int32)) else gd (inb a5 5) (gd (inb a1 96) (gd (inb a5 5) (fCo_mostTold_l10 a1 c_Co_told c_Co_readAs n (c_Co_told (a5).toNatClampNeg (a1).toNatClampNeg) e3 (c_Co_readAs (a5).toNatClampNeg) (a5 + (1 : Int32)))))))) else fCo_mostTold_l10 a1 c_Co_told c_Co_readAs n a2 a3 a4 (a5 + (1 : Int32))))))))
def fCo_mostTold (a1 : Int32) (c_Co_told : (Nat → Nat → Int32)) (c_Co_readAs : (Nat → Int32)) : Option Int32 := ob (fCo_mostTold_l10 a1 c_Co_told c_Co_readAs FU (0 : Int32) (0 : Int32) (0 : Int32) (0 : Int32)) (fun e11 => some (e11))
def fTL_owed (a1 : Int32) (a2 : Int32) (c_Co_told : (Nat → Nat → Int32)) (c_Co_readAs : (Nat → Int32)) : Option Int32 := (if (fTL_isTown a1) = (0 : Int32) then some (-1 : Int32) else (if (fTL_isGood a2) = (0 : Int32) then some (-1 : Int32) else ob (fCo_mostTold (fTL_slot a1 a2) c_Co_told c_Co_readAs) (fun e1 => some (e1))))
def fCo_differ_l4 (a1 : Int32) (c_Co_told : (Nat → Nat → Int32)) : Nat → Int32 → Int32 → Option (Unit ⊕ Unit)
  | 0, _, _ => none
  | n + 1, a2, a3 => (if (5 : Int32) ≤ a3 then some (Sum.inr ()) else gd (inb a3 5) (gd (inb a1 96) ((if (c_Co_told (a3).toNatClampNeg (a1).toNatClampNeg) = (-1 : Int32) then fCo_differ_l4 a1 c_Co_told n a2 (a3 + (1 : Int32)) else (if a2 = (-1 : Int32) then fCo_differ_l4 a1 c_Co_told n (c_Co_told (a3).toNatClampNeg (a1).toNatClampNeg) (a3 + (1 : Int32)) else (if a2 = (c_Co_told (a3).toNatClampNeg (a1).toNatClampNeg) then fCo_differ_l4 a1 c_Co_told n (c_Co_told (a3).toNatClampNeg (a1).toNatClampNeg) (a3 + (1 : Int32)) else some (Sum.inl ())))))))
def fCo_differ (a1 : Int32) (c_Co_told : (Nat → Nat → Int32)) : Option Int32 := ob (fCo_differ_l4 a1 c_Co_told FU (-1 : Int32) (0 : Int32)) (Sum.elim (fun e4 => some (1 : Int32)) (fun e5 => some (0 : Int32)))
def fTL_quarrel (a1 : Int32) (a2 : Int32) (c_Co_told : (Nat → Nat → Int32)) : Option Int32 := (if (fTL_isTown a1) = (0 : Int32) then some (-1 : Int32) else (if (fTL_isGood a2) = (0 : Int32) then some (-1 : Int32) else ob (fCo_differ (fTL_slot a1 a2) c_Co_told) (fun e1 => (if e1 = (0 : Int32) then some (0 : Int32) else some (1 : Int32)))))
def fTL_quarrels_l8 (c_Co_told : (Nat → Nat → Int32)) : Nat → Int32 → Int32 → Option (Int32)
  | 0, _, _ => none
  | n + 1, a1, a2 => (if (96 : Int32) ≤ a2 then some (a1) else ob (fCo_differ a2 c_Co_told) (fun e1 => (if e1 = (0 : Int32) then fTL_quarrels_l8 c_Co_told n a1 (a2 + (1 : Int32)) else fTL_quarrels_l8 c_Co_told n (a1 + (1 : Int32)) (a2 + (1 : Int32)))))
def fTL_quarrels (c_Co_told : (Nat → Nat → Int32)) : Option Int32 := ob (fTL_quarrels_l8 c_Co_told FU (0 : Int32) (fTL_slot (1 : Int32) (0 : Int32))) (fun e2 => some (e2))
def fSe_isFull (c_Se_count : Int32) : Int32 := (if c_Se_count < (100 : Int32) then (0 : Int32) else (1 : Int32))
theorem zb_Se_isFull {c_Se_count : Int32} : narrow .boolean (.int (fSe_isFull c_Se_count)) = .int (fSe_isFull c_Se_count) := by
  unfold fSe_isFull
  (repeat' split) <;> first | rfl | (dsimp only; rfl)
def fSe_add (a1 : Int32) (a2 : Int32) (a3 : Int32) (a4 : Int32) (a5 : Int32) (a6 : Int32) (c_Se_table : (Nat → Int32)) (c_Se_count : Int32) : Option (Int32 × (Nat → Int32) × Int32) := gd (inb ((c_Se_count * (8 : Int32)) + (0 : Int32)) 800) (gd (inb ((c_Se_count * (8 : Int32)) + (1 : Int32)) 800) (gd (inb ((c_Se_count * (8 : Int32)) + (2 : Int32)) 800) (gd (inb ((c_Se_count * (8 : Int32)) + (3 : Int32)) 800) (gd (inb ((c_Se_count * (8 : Int32)) + (4 : Int32)) 800) (gd (inb ((c_Se_count * (8 : Int32)) + (5 : Int32)) 800) (some (((c_Se_count + (1 : Int32)) - (1 : Int32)), (upd (upd (upd (upd (upd (upd c_Se_table (((c_Se_count * (8 : Int32)) + (0 : Int32))).toNatClampNeg a1) (((c_Se_count * (8 : Int32)) + (1 : Int32))).toNatClampNeg a2) (((c_Se_count * (8 : Int32)) + (2 : Int32))).toNatClampNeg a3) (((c_Se_count * (8 : Int32)) + (3 : Int32))).toNatClampNeg a4) (((c_Se_count * (8 : Int32)) + (4 : Int32))).toNatClampNeg a5) (((c_Se_count * (8 : Int32)) + (5 : Int32))).toNatClampNeg a6), (c_Se_count + (1 : Int32)))))))))
def fTL_send (a1 : Int32) (a2 : Int32) (a3 : Int32) (c_TL_clock : Int32) (c_Ro_length : (Nat → Int32)) (c_Ro_reach : (Nat → Int32)) (c_Ro_settled : (Nat → Int32)) (c_Po_weights : (Nat → Int32)) (c_Po_load : Int32) (c_Se_table : (Nat → Int32)) (c_Se_count : Int32) : Option (Int32 × (Nat → Int32) × (Nat → Int32) × (Nat → Int32) × Int32) := (if (fTL_isTown a1) = (0 : Int32) then some ((-1 : Int32), c_Ro_reach, c_Ro_settled, c_Se_table, c_Se_count) else (if (fTL_isGood a2) = (0 : Int32) then some ((-1 : Int32), c_Ro_reach, c_Ro_settled, c_Se_table, c_Se_count) else (if (fTL_within a3 (1 : Int32) (9999 : Int32)) = (0 : Int32) then some ((-1 : Int32), c_Ro_reach, c_Ro_settled, c_Se_table, c_Se_count) else (if (fSe_isFull c_Se_count) = (0 : Int32) then ob (fRo_leastDays a1 (0 : Int32) c_Ro_length c_Ro_reach c_Ro_settled) (fun e1 => (if e1.1 = (-1 : Int32) then some ((-1 : Int32), e1.2.1, e1.2.2, c_Se_table, c_Se_count) else ob (fPo_needed a2 a3 c_Po_weights c_Po_load) (fun e2 => ob (fSe_add a1 a2 a3 e2 c_TL_clock (c_TL_clock + e1.1) c_Se_table c_Se_count) (fun e3 => some (e3.1, e1.2.1, e1.2.2, e3.2.1, e3.2.2))))) else some ((-1 : Int32), c_Ro_reach, c_Ro_settled, c_Se_table, c_Se_count)))))
def fSe_count (c_Se_count : Int32) : Int32 := c_Se_count
def fSe_entry (a1 : Int32) (a2 : Int32) (c_Se_table : (Nat → Int32)) : Option Int32 := gd (inb ((a1 * (8 : Int32)) + a2) 800) (some (c_Se_table (((a1 * (8 : Int32)) + a2)).toNatClampNeg))
def fTL_sending (a1 : Int32) (a2 : Int32) (c_Se_table : (Nat → Int32)) (c_Se_count : Int32) : Option Int32 := (if (fTL_within a1 (0 : Int32) ((fSe_count c_Se_count) - (1 : Int32))) = (0 : Int32) then some (-1 : Int32) else (if (fTL_within a2 (0 : Int32) (7 : Int32)) = (0 : Int32) then some (-1 : Int32) else ob (fSe_entry a1 a2 c_Se_table) (fun e1 => some (e1))))
def fSe_comesOn (a1 : Int32) (a2 : Int32) (c_Se_table : (Nat → Int32)) : Option Int32 := ob (fSe_entry a1 (5 : Int32) c_Se_table) (fun e1 => (if e1 = a2 then ob (fSe_entry a1 (6 : Int32) c_Se_table) (fun e2 => (if e2 = (0 : Int32) then some (1 : Int32) else some (0 : Int32))) else some (0 : Int32)))
def fAc_comingDay (a0 : Int32) : Int32 := ((90 : Int32) * (a0 + (1 : Int32)))
def fAc_pay (a1 : Int32) (a2 : Int32) (a3 : Int32) (a4 : Int32) (c_Ac_unpaid : (Nat → Int32)) (c_Ac_owing : (Nat → Int32)) (c_Ac_paidOff : (Nat → Int32)) (c_Ac_lateOfPaid : (Nat → Int64)) : Option (Int32 × (Nat → Int32) × (Nat → Int32) × (Nat → Int32) × (Nat → Int64)) := gd (inb ((a1 * (33 : Int32)) + a2) 3168) (gd (inb ((a1 * (33 : Int32)) + a2) 3168) (gd (inb ((a1 * (33 : Int32)) + a2) 3168) (gd (inb a1 96) (gd (inb a1 96) (gd (inb a1 96) (gd (inb a1 96) (gd (inb (a1 / (6 : Int32)) 16) (gd (inb (a1 / (6 : Int32)) 16) (some ((if (c_Ac_unpaid (((a1 * (33 : Int32)) + a2)).toNatClampNeg) < a3 then (c_Ac_unpaid (((a1 * (33 : Int32)) + a2)).toNatClampNeg) else a3), (upd c_Ac_unpaid (((a1 * (33 : Int32)) + a2)).toNatClampNeg ((c_Ac_unpaid (((a1 * (33 : Int32)) + a2)).toNatClampNeg) - (if (c_Ac_unpaid (((a1 * (33 : Int32)) + a2)).toNatClampNeg) < a3 then (c_Ac_unpaid (((a1 * (33 : Int32)) + a2)).toNatClampNeg) else a3))), (upd c_Ac_owing (a1).toNatClampNeg ((c_Ac_owing (a1).toNatClampNeg) - (if (c_Ac_unpaid (((a1 * (33 : Int32)) + a2)).toNatClampNeg) < a3 then (c_Ac_unpaid (((a1 * (33 : Int32)) + a2)).toNatClampNeg) else a3))), (upd c_Ac_paidOff (a1).toNatClampNeg ((c_Ac_paidOff (a1).toNatClampNeg) + (if (c_Ac_unpaid (((a1 * (33 : Int32)) + a2)).toNatClampNeg) < a3 then (c_Ac_unpaid (((a1 * (33 : Int32)) + a2)).toNatClampNeg) else a3))), (vp_updL c_Ac_lateOfPaid ((a1 / (6 : Int32))).toNatClampNeg ((c_Ac_lateOfPaid ((a1 / (6 : Int32))).toNatClampNeg) + (((if (c_Ac_unpaid (((a1 * (33 : Int32)) + a2)).toNatClampNeg) < a3 then (c_Ac_unpaid (((a1 * (33 : Int32)) + a2)).toNatClampNeg) else a3)).toInt64 * ((a4 - (fAc_comingDay a2))).toInt64)))))))))))))
def fAc_store_l6 (a1 : Int32) (a2 : Int32) (a3 : Int32) : Nat → Int32 → Int32 → (Nat → Int32) → (Nat → Int32) → (Nat → Int32) → (Nat → Int64) → Option ((Int32 × (Nat → Int32) × (Nat → Int32) × (Nat → Int32) × (Nat → Int64)))
  | 0, _, _, _, _, _, _ => none
  | n + 1, a4, a5, c_Ac_unpaid, c_Ac_owing, c_Ac_paidOff, c_Ac_lateOfPaid => (if (33 : Int32) ≤ a5 then some ((a4, c_Ac_unpaid, c_Ac_owing, c_Ac_paidOff, c_Ac_lateOfPaid)) else (if a4 ≤ (0 : Int32) then some ((a4, c_Ac_unpaid, c_Ac_owing, c_Ac_paidOff, c_Ac_lateOfPaid)) else ob (fAc_pay a1 a5 a4 a3 c_Ac_unpaid c_Ac_owing c_Ac_paidOff c_Ac_lateOfPaid) (fun e1 => fAc_store_l6 a1 a2 a3 n (a4 - e1.1) (a5 + (1 : Int32)) e1.2.1 e1.2.2.1 e1.2.2.2.1 e1.2.2.2.2)))
def fAc_store (a1 : Int32) (a2 : Int32) (a3 : Int32) (c_Ac_unpaid : (Nat → Int32)) (c_Ac_owing : (Nat → Int32)) (c_Ac_gifts : (Nat → Int32)) (c_Ac_paidOff : (Nat → Int32)) (c_Ac_lateOfPaid : (Nat → Int64)) : Option (Int32 × (Nat → Int32) × (Nat → Int32) × (Nat → Int32) × (Nat → Int32) × (Nat → Int64)) := ob (fAc_store_l6 a1 a2 a3 FU a2 (0 : Int32) c_Ac_unpaid c_Ac_owing c_Ac_paidOff c_Ac_lateOfPaid) (fun e2 => gd (inb a1 96) (gd (inb a1 96) (some ((a2 - e2.1), e2.2.1, e2.2.2.1, (upd c_Ac_gifts (a1).toNatClampNeg ((c_Ac_gifts (a1).toNatClampNeg) + e2.1)), e2.2.2.2.1, e2.2.2.2.2))))
def fSe_markStored (a1 : Int32) (a2 : Int32) (c_Se_table : (Nat → Int32)) (c_Se_storedOrder : (Nat → Int32)) (c_Se_storedCount : Int32) (c_Se_storedPieces : Int32) : Option ((Nat → Int32) × (Nat → Int32) × Int32 × Int32) := (if c_Se_storedCount < (100 : Int32) then gd (inb ((a1 * (8 : Int32)) + (6 : Int32)) 800) (gd (inb ((a1 * (8 : Int32)) + (7 : Int32)) 800) (gd (inb c_Se_storedCount 100) (ob (fSe_entry a1 (2 : Int32) (upd (upd c_Se_table (((a1 * (8 : Int32)) + (6 : Int32))).toNatClampNeg (1 : Int32)) (((a1 * (8 : Int32)) + (7 : Int32))).toNatClampNeg a2)) (fun e4 => some ((upd (upd c_Se_table (((a1 * (8 : Int32)) + (6 : Int32))).toNatClampNeg (1 : Int32)) (((a1 * (8 : Int32)) + (7 : Int32))).toNatClampNeg a2), (upd c_Se_storedOrder (c_Se_storedCount).toNatClampNeg a1), (c_Se_storedCount + (1 : Int32)), (c_Se_storedPieces + e4)))))) else some (c_Se_table, c_Se_storedOrder, c_Se_storedCount, c_Se_storedPieces))
def fTL_storeArrivals_l2 (c_TL_clock : Int32) (c_Se_count : Int32) : Nat → Int32 → (Nat → Int32) → (Nat → Int32) → (Nat → Int32) → (Nat → Int32) → (Nat → Int64) → (Nat → Int32) → (Nat → Int32) → Int32 → Int32 → Option (((Nat → Int32) × (Nat → Int32) × (Nat → Int32) × (Nat → Int32) × (Nat → Int64) × (Nat → Int32) × (Nat → Int32) × Int32 × Int32))
  | 0, _, _, _, _, _, _, _, _, _, _ => none
  | n + 1, a1, c_Ac_unpaid, c_Ac_owing, c_Ac_gifts, c_Ac_paidOff, c_Ac_lateOfPaid, c_Se_table, c_Se_storedOrder, c_Se_storedCount, c_Se_storedPieces => (if (fSe_count c_Se_count) ≤ a1 then some ((c_Ac_unpaid, c_Ac_owing, c_Ac_gifts, c_Ac_paidOff, c_Ac_lateOfPaid, c_Se_table, c_Se_storedOrder, c_Se_storedCount, c_Se_storedPieces)) else ob (fSe_comesOn a1 c_TL_clock c_Se_table) (fun e1 => (if e1 = (0 : Int32) then fTL_storeArrivals_l2 c_TL_clock c_Se_count n (a1 + (1 : Int32)) c_Ac_unpaid c_Ac_owing c_Ac_gifts c_Ac_paidOff c_Ac_lateOfPaid c_Se_table c_Se_storedOrder c_Se_storedCount c_Se_storedPieces else ob (fSe_entry a1 (0 : Int32) c_Se_table) (fun e2 => ob (fSe_entry a1 (1 : Int32) c_Se_table) (fun e3 => ob (fSe_entry a1 (2 : Int32) c_Se_table) (fun e4 => ob (fAc_store (fTL_slot e2 e3) e4 c_TL_clock c_Ac_unpaid c_Ac_owing c_Ac_gifts c_Ac_paidOff c_Ac_lateOfPaid) (fun e5 => ob (fSe_markStored a1 e5.1 c_Se_table c_Se_storedOrder c_Se_storedCount c_Se_storedPieces) (fun e6 => fTL_storeArrivals_l2 c_TL_clock c_Se_count n (a1 + (1 : Int32)) e5.2.1 e5.2.2.1 e5.2.2.2.1 e5.2.2.2.2.1 e5.2.2.2.2.2 e6.1 e6.2.1 e6.2.2.1 e6.2.2.2))))))))
def fTL_storeArrivals (c_TL_clock : Int32) (c_Ac_unpaid : (Nat → Int32)) (c_Ac_owing : (Nat → Int32)) (c_Ac_gifts : (Nat → Int32)) (c_Ac_paidOff : (Nat → Int32)) (c_Ac_lateOfPaid : (Nat → Int64)) (c_Se_table : (Nat → Int32)) (c_Se_storedOrder : (Nat → Int32)) (c_Se_storedCount : Int32) (c_Se_storedPieces : Int32) (c_Se_count : Int32) : Option ((Nat → Int32) × (Nat → Int32) × (Nat → Int32) × (Nat → Int32) × (Nat → Int64) × (Nat → Int32) × (Nat → Int32) × Int32 × Int32) := ob (fTL_storeArrivals_l2 c_TL_clock c_Se_count FU (0 : Int32) c_Ac_unpaid c_Ac_owing c_Ac_gifts c_Ac_paidOff c_Ac_lateOfPaid c_Se_table c_Se_storedOrder c_Se_storedCount c_Se_storedPieces) (fun e7 => some (e7.1, e7.2.1, e7.2.2.1, e7.2.2.2.1, e7.2.2.2.2.1, e7.2.2.2.2.2.1, e7.2.2.2.2.2.2.1, e7.2.2.2.2.2.2.2.1, e7.2.2.2.2.2.2.2.2))
def fAc_bringDebt (a1 : Int32) (a2 : Int32) (a3 : Int32) (c_Ac_unpaid : (Nat → Int32)) (c_Ac_owing : (Nat → Int32)) (c_Ac_gifts : (Nat → Int32)) (c_Ac_paidOff : (Nat → Int32)) (c_Ac_lateOfPaid : (Nat → Int64)) : Option ((Nat → Int32) × (Nat → Int32) × (Nat → Int32) × (Nat → Int32) × (Nat → Int64)) := (if a3 ≤ (0 : Int32) then some (c_Ac_unpaid, c_Ac_owing, c_Ac_gifts, c_Ac_paidOff, c_Ac_lateOfPaid) else (if (fTL_within a2 (0 : Int32) (32 : Int32)) = (0 : Int32) then some (c_Ac_unpaid, c_Ac_owing, c_Ac_gifts, c_Ac_paidOff, c_Ac_lateOfPaid) else gd (inb ((a1 * (33 : Int32)) + a2) 3168) (gd (inb a1 96) (gd (inb a1 96) (gd (inb a1 96) (gd (inb a1 96) (ob (fAc_pay a1 a2 (c_Ac_gifts (a1).toNatClampNeg) (fAc_comingDay a2) (upd c_Ac_unpaid (((a1 * (33 : Int32)) + a2)).toNatClampNeg a3) (upd c_Ac_owing (a1).toNatClampNeg ((c_Ac_owing (a1).toNatClampNeg) + a3)) c_Ac_paidOff c_Ac_lateOfPaid) (fun e6 => gd (inb a1 96) (some (e6.2.1, e6.2.2.1, (upd c_Ac_gifts (a1).toNatClampNeg ((c_Ac_gifts (a1).toNatClampNeg) - e6.1)), e6.2.2.2.1, e6.2.2.2.2))))))))))
def fTL_bringDebts_l16 (a1 : Int32) (c_Co_told : (Nat → Nat → Int32)) (c_Co_readAs : (Nat → Int32)) : Nat → Int32 → (Nat → Int32) → (Nat → Int32) → (Nat → Int32) → (Nat → Int32) → (Nat → Int64) → Option (((Nat → Int32) × (Nat → Int32) × (Nat → Int32) × (Nat → Int32) × (Nat → Int64)))
  | 0, _, _, _, _, _, _ => none
  | n + 1, a2, c_Ac_unpaid, c_Ac_owing, c_Ac_gifts, c_Ac_paidOff, c_Ac_lateOfPaid => (if (96 : Int32) ≤ a2 then some ((c_Ac_unpaid, c_Ac_owing, c_Ac_gifts, c_Ac_paidOff, c_Ac_lateOfPaid)) else ob (fCo_mostTold a2 c_Co_told c_Co_readAs) (fun e1 => ob (fAc_bringDebt a2 a1 e1 c_Ac_unpaid c_Ac_owing c_Ac_gifts c_Ac_paidOff c_Ac_lateOfPaid) (fun e2 => fTL_bringDebts_l16 a1 c_Co_told c_Co_readAs n (a2 + (1 : Int32)) e2.1 e2.2.1 e2.2.2.1 e2.2.2.2.1 e2.2.2.2.2)))
def fTL_bringDebts (c_TL_clock : Int32) (c_Co_told : (Nat → Nat → Int32)) (c_Co_readAs : (Nat → Int32)) (c_Ac_unpaid : (Nat → Int32)) (c_Ac_owing : (Nat → Int32)) (c_Ac_gifts : (Nat → Int32)) (c_Ac_paidOff : (Nat → Int32)) (c_Ac_lateOfPaid : (Nat → Int64)) : Option ((Nat → Int32) × (Nat → Int32) × (Nat → Int32) × (Nat → Int32) × (Nat → Int64)) := ob (fTL_bringDebts_l16 ((c_TL_clock / (90 : Int32)) - (1 : Int32)) c_Co_told c_Co_readAs FU (fTL_slot (1 : Int32) (0 : Int32)) c_Ac_unpaid c_Ac_owing c_Ac_gifts c_Ac_paidOff c_Ac_lateOfPaid) (fun e3 => some (e3.1, e3.2.1, e3.2.2.1, e3.2.2.2.1, e3.2.2.2.2))
def fTL_days_l26 (a1 : Int32) (c_Co_told : (Nat → Nat → Int32)) (c_Co_readAs : (Nat → Int32)) (c_Se_count : Int32) : Nat → Int32 → Int32 → (Nat → Int32) → (Nat → Int32) → (Nat → Int32) → (Nat → Int32) → (Nat → Int64) → (Nat → Int32) → (Nat → Int32) → Int32 → Int32 → Option ((Int32 × (Nat → Int32) × (Nat → Int32) × (Nat → Int32) × (Nat → Int32) × (Nat → Int64) × (Nat → Int32) × (Nat → Int32) × Int32 × Int32))
  | 0, _, _, _, _, _, _, _, _, _, _, _ => none
  | n + 1, a2, c_TL_clock, c_Ac_unpaid, c_Ac_owing, c_Ac_gifts, c_Ac_paidOff, c_Ac_lateOfPaid, c_Se_table, c_Se_storedOrder, c_Se_storedCount, c_Se_storedPieces => (if a1 ≤ a2 then some ((c_TL_clock, c_Ac_unpaid, c_Ac_owing, c_Ac_gifts, c_Ac_paidOff, c_Ac_lateOfPaid, c_Se_table, c_Se_storedOrder, c_Se_storedCount, c_Se_storedPieces)) else ob (fTL_storeArrivals (c_TL_clock + (1 : Int32)) c_Ac_unpaid c_Ac_owing c_Ac_gifts c_Ac_paidOff c_Ac_lateOfPaid c_Se_table c_Se_storedOrder c_Se_storedCount c_Se_storedPieces c_Se_count) (fun e1 => (if ((c_TL_clock + (1 : Int32)) - (c_TL_clock + (1 : Int32)) / (90 : Int32) * (90 : Int32)) = (0 : Int32) then ob (fTL_bringDebts (c_TL_clock + (1 : Int32)) c_Co_told c_Co_readAs e1.1 e1.2.1 e1.2.2.1 e1.2.2.2.1 e1.2.2.2.2.1) (fun e2 => fTL_days_l26 a1 c_Co_told c_Co_readAs c_Se_count n (a2 + (1 : Int32)) (c_TL_clock + (1 : Int32)) e2.1 e2.2.1 e2.2.2.1 e2.2.2.2.1 e2.2.2.2.2 e1.2.2.2.2.2.1 e1.2.2.2.2.2.2.1 e1.2.2.2.2.2.2.2.1 e1.2.2.2.2.2.2.2.2) else fTL_days_l26 a1 c_Co_told c_Co_readAs c_Se_count n (a2 + (1 : Int32)) (c_TL_clock + (1 : Int32)) e1.1 e1.2.1 e1.2.2.1 e1.2.2.2.1 e1.2.2.2.2.1 e1.2.2.2.2.2.1 e1.2.2.2.2.2.2.1 e1.2.2.2.2.2.2.2.1 e1.2.2.2.2.2.2.2.2)))
def fTL_days (a1 : Int32) (c_TL_clock : Int32) (c_Co_told : (Nat → Nat → Int32)) (c_Co_readAs : (Nat → Int32)) (c_Ac_unpaid : (Nat → Int32)) (c_Ac_owing : (Nat → Int32)) (c_Ac_gifts : (Nat → Int32)) (c_Ac_paidOff : (Nat → Int32)) (c_Ac_lateOfPaid : (Nat → Int64)) (c_Se_table : (Nat → Int32)) (c_Se_storedOrder : (Nat → Int32)) (c_Se_storedCount : Int32) (c_Se_storedPieces : Int32) (c_Se_count : Int32) : Option (Int32 × Int32 × (Nat → Int32) × (Nat → Int32) × (Nat → Int32) × (Nat → Int32) × (Nat → Int64) × (Nat → Int32) × (Nat → Int32) × Int32 × Int32) := (if (fTL_within a1 (1 : Int32) (100 : Int32)) = (0 : Int32) then some ((-1 : Int32), c_TL_clock, c_Ac_unpaid, c_Ac_owing, c_Ac_gifts, c_Ac_paidOff, c_Ac_lateOfPaid, c_Se_table, c_Se_storedOrder, c_Se_storedCount, c_Se_storedPieces) else (if a1 ≤ ((3000 : Int32) - c_TL_clock) then ob (fTL_days_l26 a1 c_Co_told c_Co_readAs c_Se_count FU (0 : Int32) c_TL_clock c_Ac_unpaid c_Ac_owing c_Ac_gifts c_Ac_paidOff c_Ac_lateOfPaid c_Se_table c_Se_storedOrder c_Se_storedCount c_Se_storedPieces) (fun e3 => some (e3.1, e3.1, e3.2.1, e3.2.2.1, e3.2.2.2.1, e3.2.2.2.2.1, e3.2.2.2.2.2.1, e3.2.2.2.2.2.2.1, e3.2.2.2.2.2.2.2.1, e3.2.2.2.2.2.2.2.2.1, e3.2.2.2.2.2.2.2.2.2)) else some ((-1 : Int32), c_TL_clock, c_Ac_unpaid, c_Ac_owing, c_Ac_gifts, c_Ac_paidOff, c_Ac_lateOfPaid, c_Se_table, c_Se_storedOrder, c_Se_storedCount, c_Se_storedPieces)))
def fAc_paid (a1 : Int32) (c_Ac_paidOff : (Nat → Int32)) : Option Int32 := gd (inb a1 96) (some (c_Ac_paidOff (a1).toNatClampNeg))
def fAc_oldestQuarter_l2 (a1 : Int32) (c_Ac_unpaid : (Nat → Int32)) : Nat → Int32 → Option (Int32 ⊕ Unit)
  | 0, _ => none
  | n + 1, a2 => (if (33 : Int32) ≤ a2 then some (Sum.inr ()) else gd (inb ((a1 * (33 : Int32)) + a2) 3168) ((if (c_Ac_unpaid (((a1 * (33 : Int32)) + a2)).toNatClampNeg) ≤ (0 : Int32) then fAc_oldestQuarter_l2 a1 c_Ac_unpaid n (a2 + (1 : Int32)) else some (Sum.inl a2))))
def fAc_oldestQuarter (a1 : Int32) (c_Ac_unpaid : (Nat → Int32)) : Option Int32 := ob (fAc_oldestQuarter_l2 a1 c_Ac_unpaid FU (0 : Int32)) (Sum.elim (fun e3 => some (e3)) (fun e4 => some (-1 : Int32)))
def fAc_gift (a1 : Int32) (c_Ac_gifts : (Nat → Int32)) : Option Int32 := gd (inb a1 96) (some (c_Ac_gifts (a1).toNatClampNeg))
def fAc_owing (a1 : Int32) (c_Ac_owing : (Nat → Int32)) : Option Int32 := gd (inb a1 96) (some (c_Ac_owing (a1).toNatClampNeg))
def fTL_account (a1 : Int32) (a2 : Int32) (a3 : Int32) (c_Ac_unpaid : (Nat → Int32)) (c_Ac_owing : (Nat → Int32)) (c_Ac_gifts : (Nat → Int32)) (c_Ac_paidOff : (Nat → Int32)) : Option Int32 := (if (fTL_isTown a1) = (0 : Int32) then some (-1 : Int32) else (if (fTL_isGood a2) = (0 : Int32) then some (-1 : Int32) else (if a3 = (0 : Int32) then ob (fAc_owing (fTL_slot a1 a2) c_Ac_owing) (fun e1 => some (e1)) else if a3 = (1 : Int32) then ob (fAc_gift (fTL_slot a1 a2) c_Ac_gifts) (fun e2 => some (e2)) else if a3 = (2 : Int32) then ob (fAc_oldestQuarter (fTL_slot a1 a2) c_Ac_unpaid) (fun e3 => some (e3)) else if a3 = (3 : Int32) then ob (fAc_paid (fTL_slot a1 a2) c_Ac_paidOff) (fun e4 => some (e4)) else some (-1 : Int32))))
def fAc_lateness_l20 (a1 : Int32) (a2 : Int32) (a5 : Int32) (c_Ac_unpaid : (Nat → Int32)) : Nat → Int64 → Int32 → Option (Int64)
  | 0, _, _ => none
  | n + 1, a3, a6 => (if (33 : Int32) ≤ a6 then some (a3) else gd (inb (((fTL_slot a1 a5) * (33 : Int32)) + a6) 3168) (fAc_lateness_l20 a1 a2 a5 c_Ac_unpaid n (a3 + (((c_Ac_unpaid ((((fTL_slot a1 a5) * (33 : Int32)) + a6)).toNatClampNeg)).toInt64 * ((a2 - (fAc_comingDay a6))).toInt64)) (a6 + (1 : Int32))))
def fAc_lateness_l10 (a1 : Int32) (a2 : Int32) (c_Ac_unpaid : (Nat → Int32)) : Nat → Int64 → Int32 → Option (Int64)
  | 0, _, _ => none
  | n + 1, a3, a5 => (if (6 : Int32) ≤ a5 then some (a3) else ob (fAc_lateness_l20 a1 a2 a5 c_Ac_unpaid FU a3 (0 : Int32)) (fun e3 => fAc_lateness_l10 a1 a2 c_Ac_unpaid n e3 (a5 + (1 : Int32))))
def fAc_lateness (a1 : Int32) (a2 : Int32) (c_Ac_unpaid : (Nat → Int32)) (c_Ac_lateOfPaid : (Nat → Int64)) : Option Int64 := gd (inb a1 16) (ob (fAc_lateness_l10 a1 a2 c_Ac_unpaid FU (c_Ac_lateOfPaid (a1).toNatClampNeg) (0 : Int32)) (fun e4 => some (e4)))
def fTL_late (a1 : Int32) (c_TL_clock : Int32) (c_Ac_unpaid : (Nat → Int32)) (c_Ac_lateOfPaid : (Nat → Int64)) : Option Int64 := (if (fTL_isTown a1) = (0 : Int32) then some (-1 : Int64) else ob (fAc_lateness a1 c_TL_clock c_Ac_unpaid c_Ac_lateOfPaid) (fun e1 => some (e1)))
def fSe_ofPiece_l4 (c_Se_table : (Nat → Int32)) (c_Se_storedOrder : (Nat → Int32)) (c_Se_storedCount : Int32) : Nat → Int32 → Int32 → Option (Int32 ⊕ Unit)
  | 0, _, _ => none
  | n + 1, a2, a3 => (if c_Se_storedCount ≤ a3 then some (Sum.inr ()) else gd (inb a3 100) (ob (fSe_entry (c_Se_storedOrder (a3).toNatClampNeg) (2 : Int32) c_Se_table) (fun e2 => (if e2 ≤ a2 then fSe_ofPiece_l4 c_Se_table c_Se_storedOrder c_Se_storedCount n (a2 - e2) (a3 + (1 : Int32)) else some (Sum.inl a3)))))
def fSe_ofPiece (a1 : Int32) (c_Se_table : (Nat → Int32)) (c_Se_storedOrder : (Nat → Int32)) (c_Se_storedCount : Int32) : Option Int32 := ob (fSe_ofPiece_l4 c_Se_table c_Se_storedOrder c_Se_storedCount FU a1 (0 : Int32)) (Sum.elim (fun e4 => gd (inb e4 100) (some (c_Se_storedOrder (e4).toNatClampNeg))) (fun e6 => some (-1 : Int32)))
def fTL_piece (a1 : Int32) (c_Se_table : (Nat → Int32)) (c_Se_storedOrder : (Nat → Int32)) (c_Se_storedCount : Int32) : Option Int32 := (if (0 : Int32) ≤ a1 then ob (fSe_ofPiece a1 c_Se_table c_Se_storedOrder c_Se_storedCount) (fun e1 => some (e1)) else some (-1 : Int32))
def fMa_isFull (c_Ma_count : Int32) : Int32 := (if c_Ma_count < (20 : Int32) then (0 : Int32) else (1 : Int32))
theorem zb_Ma_isFull {c_Ma_count : Int32} : narrow .boolean (.int (fMa_isFull c_Ma_count)) = .int (fMa_isFull c_Ma_count) := by
  unfold fMa_isFull
  (repeat' split) <;> first | rfl | (dsimp only; rfl)
def fMa_add (a1 : Int32) (a2 : Int32) (a3 : Int32) (a4 : Int32) (c_Ma_fromGood : (Nat → Int32)) (c_Ma_given : (Nat → Int32)) (c_Ma_toGood : (Nat → Int32)) (c_Ma_gained : (Nat → Int32)) (c_Ma_count : Int32) : Option (Int32 × (Nat → Int32) × (Nat → Int32) × (Nat → Int32) × (Nat → Int32) × Int32) := gd (inb c_Ma_count 20) (gd (inb c_Ma_count 20) (gd (inb c_Ma_count 20) (gd (inb c_Ma_count 20) (some (((c_Ma_count + (1 : Int32)) - (1 : Int32)), (upd c_Ma_fromGood (c_Ma_count).toNatClampNeg a1), (upd c_Ma_given (c_Ma_count).toNatClampNeg a2), (upd c_Ma_toGood (c_Ma_count).toNatClampNeg a3), (upd c_Ma_gained (c_Ma_count).toNatClampNeg a4), (c_Ma_count + (1 : Int32)))))))
def fTL_market (a1 : Int32) (a2 : Int32) (a3 : Int32) (a4 : Int32) (c_Ma_fromGood : (Nat → Int32)) (c_Ma_given : (Nat → Int32)) (c_Ma_toGood : (Nat → Int32)) (c_Ma_gained : (Nat → Int32)) (c_Ma_count : Int32) : Option (Int32 × (Nat → Int32) × (Nat → Int32) × (Nat → Int32) × (Nat → Int32) × Int32) := (if (fTL_isGood a1) = (0 : Int32) then some ((-1 : Int32), c_Ma_fromGood, c_Ma_given, c_Ma_toGood, c_Ma_gained, c_Ma_count) else (if (fTL_isGood a3) = (0 : Int32) then some ((-1 : Int32), c_Ma_fromGood, c_Ma_given, c_Ma_toGood, c_Ma_gained, c_Ma_count) else (if a1 = a3 then some ((-1 : Int32), c_Ma_fromGood, c_Ma_given, c_Ma_toGood, c_Ma_gained, c_Ma_count) else (if (fTL_within a2 (1 : Int32) (99 : Int32)) = (0 : Int32) then some ((-1 : Int32), c_Ma_fromGood, c_Ma_given, c_Ma_toGood, c_Ma_gained, c_Ma_count) else (if (fTL_within a4 (1 : Int32) (99 : Int32)) = (0 : Int32) then some ((-1 : Int32), c_Ma_fromGood, c_Ma_given, c_Ma_toGood, c_Ma_gained, c_Ma_count) else (if (fMa_isFull c_Ma_count) = (0 : Int32) then ob (fMa_add a1 a2 a3 a4 c_Ma_fromGood c_Ma_given c_Ma_toGood c_Ma_gained c_Ma_count) (fun e1 => some (e1.1, e1.2.1, e1.2.2.1, e1.2.2.2.1, e1.2.2.2.2.1, e1.2.2.2.2.2)) else some ((-1 : Int32), c_Ma_fromGood, c_Ma_given, c_Ma_toGood, c_Ma_gained, c_Ma_count)))))))
def fMa_keepIfBetter (a1 : Int64) (a3 : Int32) (c_Ma_trail : (Nat → Int32)) (c_Ma_found : (Nat → Int32)) (c_Ma_foundLength : Int32) (c_Ma_foundAmount : Int64) : Option ((Nat → Int32) × Int32 × Int64) := (if (0 : Int32) < (lg_cmp a1 c_Ma_foundAmount) then gd (cpb 5 5 (0 : Int32) (0 : Int32) a3) (some ((cpyI c_Ma_trail c_Ma_found (0 : Int32) (0 : Int32) a3), a3, a1)) else (if (lg_cmp a1 c_Ma_foundAmount) = (0 : Int32) then (if c_Ma_foundLength ≤ a3 then some (c_Ma_found, c_Ma_foundLength, c_Ma_foundAmount) else gd (cpb 5 5 (0 : Int32) (0 : Int32) a3) (some ((cpyI c_Ma_trail c_Ma_found (0 : Int32) (0 : Int32) a3), a3, a1))) else some (c_Ma_found, c_Ma_foundLength, c_Ma_foundAmount)))
def fMa_exchanged (a1 : Int64) (a3 : Int32) (c_Ma_given : (Nat → Int32)) (c_Ma_gained : (Nat → Int32)) : Option Int64 := gd (inb a3 20) (gd (nzL ((if (1 : Int32) < (c_Ma_given (a3).toNatClampNeg) then (c_Ma_given (a3).toNatClampNeg) else (1 : Int32))).toInt64) (gd (inb a3 20) (some ((a1 / ((if (1 : Int32) < (c_Ma_given (a3).toNatClampNeg) then (c_Ma_given (a3).toNatClampNeg) else (1 : Int32))).toInt64) * ((c_Ma_gained (a3).toNatClampNeg)).toInt64))))
def fMa_search_l26 (rec : Int32 → Int64 → Int32 → (Nat → Int32) → (Nat → Int32) → (Nat → Int32) → (Nat → Int32) → Int32 → (Nat → Int32) → (Nat → Int32) → (Nat → Int32) → Int32 → Int64 → Int32 → Option ((Nat → Int32) × (Nat → Int32) × (Nat → Int32) × Int32 × Int64)) (a1 : Int32) (a2 : Int64) (a4 : Int32) (c_Ma_fromGood : (Nat → Int32)) (c_Ma_given : (Nat → Int32)) (c_Ma_toGood : (Nat → Int32)) (c_Ma_gained : (Nat → Int32)) (c_Ma_count : Int32) (c_Ma_goal : Int32) : Nat → Int32 → (Nat → Int32) → (Nat → Int32) → (Nat → Int32) → Int32 → Int64 → Option (((Nat → Int32) × (Nat → Int32) × (Nat → Int32) × Int32 × Int64))
  | 0, _, _, _, _, _, _ => none
  | n + 1, a5, c_Ma_visited, c_Ma_trail, c_Ma_found, c_Ma_foundLength, c_Ma_foundAmount => (if c_Ma_count ≤ a5 then some ((c_Ma_visited, c_Ma_trail, c_Ma_found, c_Ma_foundLength, c_Ma_foundAmount)) else gd (inb a5 20) (gd (inb a5 20) ((if (c_Ma_fromGood (a5).toNatClampNeg) = a1 then gd (inb (c_Ma_toGood (a5).toNatClampNeg) 6) ((if (c_Ma_visited ((c_Ma_toGood (a5).toNatClampNeg)).toNatClampNeg) = (0 : Int32) then gd (inb a4 5) (gd (inb (c_Ma_toGood (a5).toNatClampNeg) 6) (ob (fMa_exchanged a2 a5 c_Ma_given c_Ma_gained) (fun e6 => ob (rec (c_Ma_toGood (a5).toNatClampNeg) e6 (a4 + (1 : Int32)) c_Ma_fromGood c_Ma_given c_Ma_toGood c_Ma_gained c_Ma_count (upd c_Ma_visited ((c_Ma_toGood (a5).toNatClampNeg)).toNatClampNeg (1 : Int32)) (upd c_Ma_trail (a4).toNatClampNeg a5) c_Ma_found c_Ma_foundLength c_Ma_foundAmount c_Ma_goal) (fun e7 => gd (inb (c_Ma_toGood (a5).toNatClampNeg) 6) (fMa_search_l26 rec a1 a2 a4 c_Ma_fromGood c_Ma_given c_Ma_toGood c_Ma_gained c_Ma_count c_Ma_goal n (a5 + (1 : Int32)) (upd e7.1 ((c_Ma_toGood (a5).toNatClampNeg)).toNatClampNeg (0 : Int32)) e7.2.1 e7.2.2.1 e7.2.2.2.1 e7.2.2.2.2))))) else fMa_search_l26 rec a1 a2 a4 c_Ma_fromGood c_Ma_given c_Ma_toGood c_Ma_gained c_Ma_count c_Ma_goal n (a5 + (1 : Int32)) c_Ma_visited c_Ma_trail c_Ma_found c_Ma_foundLength c_Ma_foundAmount)) else fMa_search_l26 rec a1 a2 a4 c_Ma_fromGood c_Ma_given c_Ma_toGood c_Ma_gained c_Ma_count c_Ma_goal n (a5 + (1 : Int32)) c_Ma_visited c_Ma_trail c_Ma_found c_Ma_foundLength c_Ma_foundAmount))))
def fMa_search : Nat → Int32 → Int64 → Int32 → (Nat → Int32) → (Nat → Int32) → (Nat → Int32) → (Nat → Int32) → Int32 → (Nat → Int32) → (Nat → Int32) → (Nat → Int32) → Int32 → Int64 → Int32 → Option ((Nat → Int32) × (Nat → Int32) × (Nat → Int32) × Int32 × Int64)
  | 0, _, _, _, _, _, _, _, _, _, _, _, _, _, _ => none
  | d + 1, a1, a2, a4, c_Ma_fromGood, c_Ma_given, c_Ma_toGood, c_Ma_gained, c_Ma_count, c_Ma_visited, c_Ma_trail, c_Ma_found, c_Ma_foundLength, c_Ma_foundAmount, c_Ma_goal => (if a1 = c_Ma_goal then ob (fMa_keepIfBetter a2 a4 c_Ma_trail c_Ma_found c_Ma_foundLength c_Ma_foundAmount) (fun e10 => some (c_Ma_visited, c_Ma_trail, e10.1, e10.2.1, e10.2.2)) else (if a4 < (5 : Int32) then ob (fMa_search_l26 (fMa_search d) a1 a2 a4 c_Ma_fromGood c_Ma_given c_Ma_toGood c_Ma_gained c_Ma_count c_Ma_goal FU (0 : Int32) c_Ma_visited c_Ma_trail c_Ma_found c_Ma_foundLength c_Ma_foundAmount) (fun e9 => some (e9.1, e9.2.1, e9.2.2.1, e9.2.2.2.1, e9.2.2.2.2)) else some (c_Ma_visited, c_Ma_trail, c_Ma_found, c_Ma_foundLength, c_Ma_foundAmount)))
def fMa_findBest (a1 : Int32) (a2 : Int32) (a3 : Int32) (c_Ma_fromGood : (Nat → Int32)) (c_Ma_given : (Nat → Int32)) (c_Ma_toGood : (Nat → Int32)) (c_Ma_gained : (Nat → Int32)) (c_Ma_count : Int32) (c_Ma_visited : (Nat → Int32)) (c_Ma_trail : (Nat → Int32)) (c_Ma_found : (Nat → Int32)) (c_Ma_foundLength : Int32) (c_Ma_foundAmount : Int64) (c_Ma_goal : Int32) (c_Ma_best : (Nat → Int32)) (c_Ma_bestLength : Int32) : Option (Int64 × (Nat → Int32) × (Nat → Int32) × (Nat → Int32) × Int32 × Int64 × Int32 × (Nat → Int32) × Int32) := gd (inb a1 6) (ob (fMa_search 8 a1 (a2).toInt64 (0 : Int32) c_Ma_fromGood c_Ma_given c_Ma_toGood c_Ma_gained c_Ma_count (upd (filI 6 (0 : Int32) c_Ma_visited) (a1).toNatClampNeg (1 : Int32)) c_Ma_trail c_Ma_found (0 : Int32) (-1 : Int64) a3) (fun e2 => (if (lg_cmp e2.2.2.2.2 (-1 : Int64)) = (0 : Int32) then some (e2.2.2.2.2, e2.1, e2.2.1, e2.2.2.1, e2.2.2.2.1, e2.2.2.2.2, a3, c_Ma_best, c_Ma_bestLength) else gd (cpb 5 5 (0 : Int32) (0 : Int32) (5 : Int32)) (some (e2.2.2.2.2, e2.1, e2.2.1, e2.2.2.1, e2.2.2.2.1, e2.2.2.2.2, a3, (cpyI e2.2.2.1 c_Ma_best (0 : Int32) (0 : Int32) (5 : Int32)), e2.2.2.2.1)))))
def fTL_barter (a1 : Int32) (a2 : Int32) (a3 : Int32) (c_Ma_fromGood : (Nat → Int32)) (c_Ma_given : (Nat → Int32)) (c_Ma_toGood : (Nat → Int32)) (c_Ma_gained : (Nat → Int32)) (c_Ma_count : Int32) (c_Ma_visited : (Nat → Int32)) (c_Ma_trail : (Nat → Int32)) (c_Ma_found : (Nat → Int32)) (c_Ma_foundLength : Int32) (c_Ma_foundAmount : Int64) (c_Ma_goal : Int32) (c_Ma_best : (Nat → Int32)) (c_Ma_bestLength : Int32) : Option (Int32 × (Nat → Int32) × (Nat → Int32) × (Nat → Int32) × Int32 × Int64 × Int32 × (Nat → Int32) × Int32) := (if (fTL_isGood a1) = (0 : Int32) then some ((-1 : Int32), c_Ma_visited, c_Ma_trail, c_Ma_found, c_Ma_foundLength, c_Ma_foundAmount, c_Ma_goal, c_Ma_best, c_Ma_bestLength) else (if (fTL_isGood a3) = (0 : Int32) then some ((-1 : Int32), c_Ma_visited, c_Ma_trail, c_Ma_found, c_Ma_foundLength, c_Ma_foundAmount, c_Ma_goal, c_Ma_best, c_Ma_bestLength) else (if a1 = a3 then some ((-1 : Int32), c_Ma_visited, c_Ma_trail, c_Ma_found, c_Ma_foundLength, c_Ma_foundAmount, c_Ma_goal, c_Ma_best, c_Ma_bestLength) else (if (fTL_within a2 (1 : Int32) (9999 : Int32)) = (0 : Int32) then some ((-1 : Int32), c_Ma_visited, c_Ma_trail, c_Ma_found, c_Ma_foundLength, c_Ma_foundAmount, c_Ma_goal, c_Ma_best, c_Ma_bestLength) else ob (fMa_findBest a1 a2 a3 c_Ma_fromGood c_Ma_given c_Ma_toGood c_Ma_gained c_Ma_count c_Ma_visited c_Ma_trail c_Ma_found c_Ma_foundLength c_Ma_foundAmount c_Ma_goal c_Ma_best c_Ma_bestLength) (fun e1 => some (((if (1000000000 : Int64) < e1.1 then (1000000000 : Int64) else e1.1)).toInt32, e1.2.1, e1.2.2.1, e1.2.2.2.1, e1.2.2.2.2.1, e1.2.2.2.2.2.1, e1.2.2.2.2.2.2.1, e1.2.2.2.2.2.2.2.1, e1.2.2.2.2.2.2.2.2))))))
def fMa_bestLength (c_Ma_bestLength : Int32) : Int32 := c_Ma_bestLength
def fMa_bestStep (a1 : Int32) (c_Ma_best : (Nat → Int32)) : Option Int32 := gd (inb a1 5) (some (c_Ma_best (a1).toNatClampNeg))
def fTL_bartered (a1 : Int32) (c_Ma_best : (Nat → Int32)) (c_Ma_bestLength : Int32) : Option Int32 := (if (fTL_within a1 (0 : Int32) ((fMa_bestLength c_Ma_bestLength) - (1 : Int32))) = (0 : Int32) then some (-1 : Int32) else ob (fMa_bestStep a1 c_Ma_best) (fun e1 => some (e1)))
def fSh_setYield (a1 : Int32) (a2 : Int32) (c_Sh_yieldOf : (Nat → Int32)) : Option (Nat → Int32) := gd (inb a1 16) (some (upd c_Sh_yieldOf (a1).toNatClampNeg a2))
def fTL_yields (a1 : Int32) (a2 : Int32) (c_Sh_yieldOf : (Nat → Int32)) : Option (Int32 × (Nat → Int32)) := (if (fTL_isTown a1) = (0 : Int32) then some ((0 : Int32), c_Sh_yieldOf) else (if (fTL_within a2 (0 : Int32) (10000 : Int32)) = (0 : Int32) then some ((0 : Int32), c_Sh_yieldOf) else ob (fSh_setYield a1 a2 c_Sh_yieldOf) (fun e1 => some ((1 : Int32), e1))))
def fSh_allYields_l4 (c_Sh_yieldOf : (Nat → Int32)) : Nat → Int32 → Int32 → Option (Int32)
  | 0, _, _ => none
  | n + 1, a1, a2 => (if (16 : Int32) ≤ a2 then some (a1) else gd (inb a2 16) (fSh_allYields_l4 c_Sh_yieldOf n (a1 + (c_Sh_yieldOf (a2).toNatClampNeg)) (a2 + (1 : Int32))))
def fSh_allYields (c_Sh_yieldOf : (Nat → Int32)) : Option Int32 := ob (fSh_allYields_l4 c_Sh_yieldOf FU (0 : Int32) (1 : Int32)) (fun e2 => some (e2))
def fSh_shareOf_l35 (a1 : Int32) (a2 : Int32) (a3 : Int32) (a6 : Int64) (c_Sh_yieldOf : (Nat → Int32)) : Nat → Int32 → Int32 → Int32 → Option ((Int32 × Int32))
  | 0, _, _, _ => none
  | n + 1, a4, a5, a8 => (if (16 : Int32) ≤ a8 then some ((a4, a5)) else gd (inb a8 16) (gd (nzL (a3).toInt64) (gd (nzL (a3).toInt64) ((if (0 : Int32) < (lg_cmp (((a1).toInt64 * ((c_Sh_yieldOf (a8).toNatClampNeg)).toInt64) - ((a1).toInt64 * ((c_Sh_yieldOf (a8).toNatClampNeg)).toInt64) / (a3).toInt64 * (a3).toInt64) a6) then fSh_shareOf_l35 a1 a2 a3 a6 c_Sh_yieldOf n (a4 - ((((a1).toInt64 * ((c_Sh_yieldOf (a8).toNatClampNeg)).toInt64) / (a3).toInt64)).toInt32) (a5 + (1 : Int32)) (a8 + (1 : Int32)) else (if (lg_cmp (((a1).toInt64 * ((c_Sh_yieldOf (a8).toNatClampNeg)).toInt64) - ((a1).toInt64 * ((c_Sh_yieldOf (a8).toNatClampNeg)).toInt64) / (a3).toInt64 * (a3).toInt64) a6) = (0 : Int32) then (if a2 ≤ a8 then fSh_shareOf_l35 a1 a2 a3 a6 c_Sh_yieldOf n (a4 - ((((a1).toInt64 * ((c_Sh_yieldOf (a8).toNatClampNeg)).toInt64) / (a3).toInt64)).toInt32) a5 (a8 + (1 : Int32)) else fSh_shareOf_l35 a1 a2 a3 a6 c_Sh_yieldOf n (a4 - ((((a1).toInt64 * ((c_Sh_yieldOf (a8).toNatClampNeg)).toInt64) / (a3).toInt64)).toInt32) (a5 + (1 : Int32)) (a8 + (1 : Int32))) else fSh_shareOf_l35 a1 a2 a3 a6 c_Sh_yieldOf n (a4 - ((((a1).toInt64 * ((c_Sh_yieldOf (a8).toNatClampNeg)).toInt64) / (a3).toInt64)).toInt32) a5 (a8 + (1 : Int32))))))))
def fSh_shareOf (a1 : Int32) (a2 : Int32) (c_Sh_yieldOf : (Nat → Int32)) : Option Int32 := ob (fSh_allYields c_Sh_yieldOf) (fun e1 => (if (0 : Int32) < e1 then gd (inb a2 16) (gd (nzL (e1).toInt64) (ob (fSh_shareOf_l35 a1 a2 e1 (((a1).toInt64 * ((c_Sh_yieldOf (a2).toNatClampNeg)).toInt64) - ((a1).toInt64 * ((c_Sh_yieldOf (a2).toNatClampNeg)).toInt64) / (e1).toInt64 * (e1).toInt64) c_Sh_yieldOf FU a1 (0 : Int32) (1 : Int32)) (fun e7 => gd (inb a2 16) (gd (nzL (e1).toInt64) ((if e7.1 ≤ e7.2 then some ((((a1).toInt64 * ((c_Sh_yieldOf (a2).toNatClampNeg)).toInt64) / (e1).toInt64)).toInt32 else some (((((a1).toInt64 * ((c_Sh_yieldOf (a2).toNatClampNeg)).toInt64) / (e1).toInt64)).toInt32 + (1 : Int32)))))))) else some (-1 : Int32)))
def fTL_parted (a1 : Int32) (a2 : Int32) (c_Sh_yieldOf : (Nat → Int32)) : Option Int32 := (if (fTL_isTown a2) = (0 : Int32) then some (-1 : Int32) else (if (fTL_within a1 (0 : Int32) (100000 : Int32)) = (0 : Int32) then some (-1 : Int32) else ob (fSh_shareOf a1 a2 c_Sh_yieldOf) (fun e1 => some (e1))))
def fPo_weightOf (a1 : Int32) (c_Po_weights : (Nat → Int32)) : Option Int32 := gd (inb a1 6) (some (c_Po_weights (a1).toNatClampNeg))
def fCo_countRead_l4 (c_Co_readAs : (Nat → Int32)) : Nat → Int32 → Int32 → Option (Int32)
  | 0, _, _ => none
  | n + 1, a1, a2 => (if (5 : Int32) ≤ a2 then some (a1) else gd (inb a2 5) ((if (c_Co_readAs (a2).toNatClampNeg) ≤ (0 : Int32) then fCo_countRead_l4 c_Co_readAs n a1 (a2 + (1 : Int32)) else fCo_countRead_l4 c_Co_readAs n (a1 + (1 : Int32)) (a2 + (1 : Int32)))))
def fCo_countRead (c_Co_readAs : (Nat → Int32)) : Option Int32 := ob (fCo_countRead_l4 c_Co_readAs FU (0 : Int32) (0 : Int32)) (fun e2 => some (e2))
def fPo_load (c_Po_load : Int32) : Int32 := c_Po_load
def fMa_count (c_Ma_count : Int32) : Int32 := c_Ma_count
def fSe_storedPieces (c_Se_storedPieces : Int32) : Int32 := c_Se_storedPieces
def fTL_about (a1 : Int32) (c_TL_clock : Int32) (c_Po_weights : (Nat → Int32)) (c_Po_load : Int32) (c_Ta_size : Int32) (c_Co_readAs : (Nat → Int32)) (c_Se_storedPieces : Int32) (c_Se_count : Int32) (c_Ma_count : Int32) : Option Int32 := (if (fTL_within a1 (10 : Int32) (15 : Int32)) = (0 : Int32) then (if a1 = (0 : Int32) then some (c_TL_clock) else if a1 = (1 : Int32) then some (c_TL_clock / (90 : Int32)) else if a1 = (2 : Int32) then some (fSe_count c_Se_count) else if a1 = (3 : Int32) then some (fSe_storedPieces c_Se_storedPieces) else if a1 = (4 : Int32) then some (fMa_count c_Ma_count) else if a1 = (5 : Int32) then some (fPo_load c_Po_load) else if a1 = (6 : Int32) then some (fTa_size c_Ta_size) else if a1 = (7 : Int32) then ob (fCo_countRead c_Co_readAs) (fun e1 => some (e1)) else some (-1 : Int32)) else ob (fPo_weightOf (a1 - (10 : Int32)) c_Po_weights) (fun e2 => some (e2)))
def fMM_isIn (a0 : Int32) (a1 : Int32) (a2 : Int32) : Int32 := (if a0 < a1 then (0 : Int32) else (if a2 < a0 then (0 : Int32) else (1 : Int32)))
theorem zb_MM_isIn {a0 : Int32} {a1 : Int32} {a2 : Int32} : narrow .boolean (.int (fMM_isIn a0 a1 a2)) = .int (fMM_isIn a0 a1 a2) := by
  unfold fMM_isIn
  (repeat' split) <;> first | rfl | (dsimp only; rfl)
def fMM_isPlace (a0 : Int32) : Int32 := (fMM_isIn a0 (0 : Int32) (15 : Int32))
theorem zb_MM_isPlace {a0 : Int32} : narrow .boolean (.int (fMM_isPlace a0)) = .int (fMM_isPlace a0) := by
  unfold fMM_isPlace
  (repeat' split) <;> first | rfl | (dsimp only; rfl) | exact zb_MM_isIn
def fMM_isTown (a0 : Int32) : Int32 := (fMM_isIn a0 (1 : Int32) (15 : Int32))
theorem zb_MM_isTown {a0 : Int32} : narrow .boolean (.int (fMM_isTown a0)) = .int (fMM_isTown a0) := by
  unfold fMM_isTown
  (repeat' split) <;> first | rfl | (dsimp only; rfl) | exact zb_MM_isIn
def fMM_isGood (a0 : Int32) : Int32 := (fMM_isIn a0 (0 : Int32) (5 : Int32))
theorem zb_MM_isGood {a0 : Int32} : narrow .boolean (.int (fMM_isGood a0)) = .int (fMM_isGood a0) := by
  unfold fMM_isGood
  (repeat' split) <;> first | rfl | (dsimp only; rfl) | exact zb_MM_isIn
def fMM_road (a1 : Int32) (a2 : Int32) (a3 : Int32) (c_MM_roads : (Nat → Int32)) : Option (Int32 × (Nat → Int32)) := (if (fMM_isPlace a1) = (0 : Int32) then some ((0 : Int32), c_MM_roads) else (if (fMM_isPlace a2) = (0 : Int32) then some ((0 : Int32), c_MM_roads) else (if a1 = a2 then some ((0 : Int32), c_MM_roads) else (if (fMM_isIn a3 (0 : Int32) (30 : Int32)) = (0 : Int32) then some ((0 : Int32), c_MM_roads) else gd (inb (((16 : Int32) * a1) + a2) 256) (gd (inb (((16 : Int32) * a2) + a1) 256) (some ((1 : Int32), (upd (upd c_MM_roads ((((16 : Int32) * a1) + a2)).toNatClampNeg a3) ((((16 : Int32) * a2) + a1)).toNatClampNeg a3))))))))
def fMM_wayOf_l2 (a1 : Int32) (a2 : Int32) (c_MM_roads : (Nat → Int32)) : Nat → Int32 → (Nat → Int32) → Option ((Nat → Int32))
  | 0, _, _ => none
  | n + 1, a3, c_MM_ways => (if (256 : Int32) ≤ a3 then some (c_MM_ways) else (if (a3 / (16 : Int32)) = (a3 - a3 / (16 : Int32) * (16 : Int32)) then gd (inb a3 256) (fMM_wayOf_l2 a1 a2 c_MM_roads n (a3 + (1 : Int32)) (upd c_MM_ways (a3).toNatClampNeg (0 : Int32))) else gd (inb a3 256) ((if (c_MM_roads (a3).toNatClampNeg) = (0 : Int32) then gd (inb a3 256) (fMM_wayOf_l2 a1 a2 c_MM_roads n (a3 + (1 : Int32)) (upd c_MM_ways (a3).toNatClampNeg (100000 : Int32))) else gd (inb a3 256) (gd (inb a3 256) (fMM_wayOf_l2 a1 a2 c_MM_roads n (a3 + (1 : Int32)) (upd c_MM_ways (a3).toNatClampNeg (c_MM_roads (a3).toNatClampNeg))))))))
def fMM_wayOf_l67 (a1 : Int32) (a2 : Int32) (a3 : Int32) : Nat → Int32 → (Nat → Int32) → Option ((Nat → Int32))
  | 0, _, _ => none
  | n + 1, a4, c_MM_ways => (if (256 : Int32) ≤ a4 then some (c_MM_ways) else gd (inb (((a4 / (16 : Int32)) * (16 : Int32)) + a3) 256) (gd (inb (((16 : Int32) * a3) + (a4 - a4 / (16 : Int32) * (16 : Int32))) 256) (gd (inb a4 256) ((if (c_MM_ways (a4).toNatClampNeg) ≤ ((c_MM_ways ((((a4 / (16 : Int32)) * (16 : Int32)) + a3)).toNatClampNeg) + (c_MM_ways ((((16 : Int32) * a3) + (a4 - a4 / (16 : Int32) * (16 : Int32)))).toNatClampNeg)) then fMM_wayOf_l67 a1 a2 a3 n (a4 + (1 : Int32)) c_MM_ways else gd (inb a4 256) (fMM_wayOf_l67 a1 a2 a3 n (a4 + (1 : Int32)) (upd c_MM_ways (a4).toNatClampNeg ((c_MM_ways ((((a4 / (16 : Int32)) * (16 : Int32)) + a3)).toNatClampNeg) + (c_MM_ways ((((16 : Int32) * a3) + (a4 - a4 / (16 : Int32) * (16 : Int32)))).toNatClampNeg)))))))))
def fMM_wayOf_l58 (a1 : Int32) (a2 : Int32) : Nat → Int32 → (Nat → Int32) → Option ((Nat → Int32))
  | 0, _, _ => none
  | n + 1, a3, c_MM_ways => (if (16 : Int32) ≤ a3 then some (c_MM_ways) else ob (fMM_wayOf_l67 a1 a2 a3 FU (0 : Int32) c_MM_ways) (fun e11 => fMM_wayOf_l58 a1 a2 n (a3 + (1 : Int32)) e11))
def fMM_wayOf (a1 : Int32) (a2 : Int32) (c_MM_roads : (Nat → Int32)) (c_MM_ways : (Nat → Int32)) : Option (Int32 × (Nat → Int32)) := ob (fMM_wayOf_l2 a1 a2 c_MM_roads FU (0 : Int32) c_MM_ways) (fun e6 => ob (fMM_wayOf_l58 a1 a2 FU (0 : Int32) e6) (fun e12 => gd (inb (((16 : Int32) * a1) + a2) 256) ((if (e12 ((((16 : Int32) * a1) + a2)).toNatClampNeg) < (100000 : Int32) then gd (inb (((16 : Int32) * a1) + a2) 256) (some ((e12 ((((16 : Int32) * a1) + a2)).toNatClampNeg), e12)) else some ((-1 : Int32), e12)))))
def fMM_way (a1 : Int32) (a2 : Int32) (c_MM_roads : (Nat → Int32)) (c_MM_ways : (Nat → Int32)) : Option (Int32 × (Nat → Int32)) := (if (fMM_isPlace a1) = (0 : Int32) then some ((-1 : Int32), c_MM_ways) else (if (fMM_isPlace a2) = (0 : Int32) then some ((-1 : Int32), c_MM_ways) else ob (fMM_wayOf a1 a2 c_MM_roads c_MM_ways) (fun e1 => some (e1.1, e1.2))))
def fMM_weight (a1 : Int32) (a2 : Int32) (c_MM_weight : (Nat → Int32)) (c_MM_load : Int32) : Option (Int32 × (Nat → Int32) × Int32) := (if a1 = (-1 : Int32) then (if (fMM_isIn a2 (1 : Int32) (100 : Int32)) = (0 : Int32) then (if (fMM_isGood a1) = (0 : Int32) then some ((0 : Int32), c_MM_weight, c_MM_load) else (if (fMM_isIn a2 (1 : Int32) (50 : Int32)) = (0 : Int32) then some ((0 : Int32), c_MM_weight, c_MM_load) else gd (inb a1 6) (some ((1 : Int32), (upd c_MM_weight (a1).toNatClampNeg a2), c_MM_load)))) else some ((1 : Int32), c_MM_weight, a2)) else (if (fMM_isGood a1) = (0 : Int32) then some ((0 : Int32), c_MM_weight, c_MM_load) else (if (fMM_isIn a2 (1 : Int32) (50 : Int32)) = (0 : Int32) then some ((0 : Int32), c_MM_weight, c_MM_load) else gd (inb a1 6) (some ((1 : Int32), (upd c_MM_weight (a1).toNatClampNeg a2), c_MM_load)))))
def fMM_carriersOf (a1 : Int32) (a2 : Int32) (c_MM_weight : (Nat → Int32)) (c_MM_load : Int32) : Option Int32 := gd (inb a1 6) (gd (nz (c_MM_weight (a1).toNatClampNeg)) ((if (1 : Int32) ≤ (c_MM_load / (c_MM_weight (a1).toNatClampNeg)) then gd (inb a1 6) (gd (nz (c_MM_weight (a1).toNatClampNeg)) (gd (nz (c_MM_load / (c_MM_weight (a1).toNatClampNeg))) (some (((a2 + (c_MM_load / (c_MM_weight (a1).toNatClampNeg))) - (1 : Int32)) / (c_MM_load / (c_MM_weight (a1).toNatClampNeg)))))) else some (((a2 + (1 : Int32)) - (1 : Int32)) / (1 : Int32)))))
def fMM_carriers (a1 : Int32) (a2 : Int32) (c_MM_weight : (Nat → Int32)) (c_MM_load : Int32) : Option Int32 := (if (fMM_isGood a1) = (0 : Int32) then some (-1 : Int32) else (if (fMM_isIn a2 (0 : Int32) (9999 : Int32)) = (0 : Int32) then some (-1 : Int32) else ob (fMM_carriersOf a1 a2 c_MM_weight c_MM_load) (fun e1 => some (e1))))
def fMM_four_l3 (a1 : Int32) : Nat → Int32 → (Nat → Int32) → Int32 → Option (((Nat → Int32) × Int32))
  | 0, _, _, _ => none
  | n + 1, a2, c_MM_tape, c_MM_taped => (if a2 < (0 : Int32) then some ((c_MM_tape, c_MM_taped)) else gd (inb c_MM_taped 300) (fMM_four_l3 a1 n (a2 + (-8 : Int32)) (upd c_MM_tape (c_MM_taped).toNatClampNeg ((a1 >>> (a2 &&& 31)) &&& (255 : Int32))) (c_MM_taped + (1 : Int32))))
def fMM_four (a1 : Int32) (c_MM_tape : (Nat → Int32)) (c_MM_taped : Int32) : Option ((Nat → Int32) × Int32) := ob (fMM_four_l3 a1 FU (24 : Int32) c_MM_tape c_MM_taped) (fun e2 => some (e2.1, e2.2))
def fMM_feed (a1 : Int32) (a2 : Int32) (a3 : Int32) (a4 : Int32) (a5 : Int32) (c_MM_tape : (Nat → Int32)) (c_MM_taped : Int32) : Option (Int32 × (Nat → Int32) × Int32) := (if (c_MM_taped + (20 : Int32)) ≤ (300 : Int32) then ob (fMM_four a1 c_MM_tape c_MM_taped) (fun e1 => ob (fMM_four a2 e1.1 e1.2) (fun e2 => ob (fMM_four a3 e2.1 e2.2) (fun e3 => ob (fMM_four a4 e3.1 e3.2) (fun e4 => ob (fMM_four a5 e4.1 e4.2) (fun e5 => some (e5.2, e5.1, e5.2)))))) else some ((-1 : Int32), c_MM_tape, c_MM_taped))
def fMM_end (a1 : Int32) (c_MM_taped : Int32) : (Int32 × Int32) := (if (fMM_isIn a1 (0 : Int32) c_MM_taped) = (0 : Int32) then ((-1 : Int32), c_MM_taped) else (a1, a1))
def fMM_see (a1 : Int32) (c_MM_tape : (Nat → Int32)) (c_MM_taped : Int32) : Option Int32 := (if c_MM_taped ≤ a1 then some (-1 : Int32) else gd (inb a1 300) (some (c_MM_tape (a1).toNatClampNeg)))
def fMM_isLetter (a0 : Int32) : Int32 := (if (fMM_isIn a0 (97 : Int32) (122 : Int32)) = (0 : Int32) then (if (fMM_isIn a0 (65 : Int32) (90 : Int32)) = (0 : Int32) then (0 : Int32) else (1 : Int32)) else (1 : Int32))
theorem zb_MM_isLetter {a0 : Int32} : narrow .boolean (.int (fMM_isLetter a0)) = .int (fMM_isLetter a0) := by
  unfold fMM_isLetter
  (repeat' split) <;> first | rfl | (dsimp only; rfl) | exact zb_MM_isIn
def fMM_isDigit (a0 : Int32) : Int32 := (fMM_isIn a0 (48 : Int32) (57 : Int32))
theorem zb_MM_isDigit {a0 : Int32} : narrow .boolean (.int (fMM_isDigit a0)) = .int (fMM_isDigit a0) := by
  unfold fMM_isDigit
  (repeat' split) <;> first | rfl | (dsimp only; rfl) | exact zb_MM_isIn
def fMM_nextToken_l0 (c_MM_tape : (Nat → Int32)) (c_MM_taped : Int32) : Nat → Int32 → Option (Int32)
  | 0, _ => none
  | n + 1, c_MM_at => ob (fMM_see c_MM_at c_MM_tape c_MM_taped) (fun e1 => (if e1 = (32 : Int32) then fMM_nextToken_l0 c_MM_tape c_MM_taped n (c_MM_at + (1 : Int32)) else ob (fMM_see c_MM_at c_MM_tape c_MM_taped) (fun e2 => (if e2 = (10 : Int32) then fMM_nextToken_l0 c_MM_tape c_MM_taped n (c_MM_at + (1 : Int32)) else some (c_MM_at)))))
def fMM_nextToken_l151 (a1 : Int32) (c_MM_tape : (Nat → Int32)) (c_MM_taped : Int32) : Nat → Int32 → Option (Int32)
  | 0, _ => none
  | n + 1, c_MM_at => ob (fMM_see c_MM_at c_MM_tape c_MM_taped) (fun e5 => (if (fMM_isLetter e5) = (0 : Int32) then some (c_MM_at) else fMM_nextToken_l151 a1 c_MM_tape c_MM_taped n (c_MM_at + (1 : Int32))))
def fMM_nextToken_l85 (c_MM_tape : (Nat → Int32)) (c_MM_taped : Int32) : Nat → Int32 → Int32 → Option ((Int32 × Int32))
  | 0, _, _ => none
  | n + 1, c_MM_at, c_MM_number => ob (fMM_see c_MM_at c_MM_tape c_MM_taped) (fun e10 => (if (fMM_isDigit e10) = (0 : Int32) then some ((c_MM_at, c_MM_number)) else (if (100000 : Int32) ≤ c_MM_number then fMM_nextToken_l85 c_MM_tape c_MM_taped n (c_MM_at + (1 : Int32)) c_MM_number else ob (fMM_see c_MM_at c_MM_tape c_MM_taped) (fun e11 => fMM_nextToken_l85 c_MM_tape c_MM_taped n (c_MM_at + (1 : Int32)) ((((10 : Int32) * c_MM_number) + e11) - (48 : Int32))))))
def fMM_nextToken (c_MM_tape : (Nat → Int32)) (c_MM_taped : Int32) (c_MM_at : Int32) (c_MM_place : Int32) (c_MM_token : Int32) (c_MM_number : Int32) : Option (Int32 × Int32 × Int32 × Int32) := ob (fMM_nextToken_l0 c_MM_tape c_MM_taped FU c_MM_at) (fun e3 => ob (fMM_see e3 c_MM_tape c_MM_taped) (fun e4 => (if (0 : Int32) ≤ e4 then (if (fMM_isDigit e4) = (0 : Int32) then (if (fMM_isLetter e4) = (0 : Int32) then (if e4 = (59 : Int32) then some ((e3 + (1 : Int32)), e3, (2 : Int32), c_MM_number) else (if e4 = (44 : Int32) then some ((e3 + (1 : Int32)), e3, (3 : Int32), c_MM_number) else (if e4 = (58 : Int32) then some ((e3 + (1 : Int32)), e3, (4 : Int32), c_MM_number) else some ((e3 + (1 : Int32)), e3, (5 : Int32), c_MM_number)))) else ob (fMM_nextToken_l151 e4 c_MM_tape c_MM_taped FU e3) (fun e6 => (if (e6 - e3) = (4 : Int32) then (if e4 = (116 : Int32) then ob (fMM_see (e3 + (1 : Int32)) c_MM_tape c_MM_taped) (fun e7 => (if e7 = (111 : Int32) then ob (fMM_see (e3 + (2 : Int32)) c_MM_tape c_MM_taped) (fun e8 => (if e8 = (119 : Int32) then ob (fMM_see (e3 + (3 : Int32)) c_MM_tape c_MM_taped) (fun e9 => (if e9 = (110 : Int32) then some (e6, e3, (6 : Int32), c_MM_number) else some (e6, e3, (5 : Int32), c_MM_number))) else some (e6, e3, (5 : Int32), c_MM_number))) else some (e6, e3, (5 : Int32), c_MM_number))) else some (e6, e3, (5 : Int32), c_MM_number)) else some (e6, e3, (5 : Int32), c_MM_number)))) else ob (fMM_nextToken_l85 c_MM_tape c_MM_taped FU e3 (0 : Int32)) (fun e12 => some (e12.1, e3, (1 : Int32), e12.2))) else some (e3, e3, (0 : Int32), c_MM_number))))
def fMM_part (a1 : Int32) (c_MM_told : (Nat → Int32)) (c_MM_tape : (Nat → Int32)) (c_MM_taped : Int32) (c_MM_at : Int32) (c_MM_place : Int32) (c_MM_token : Int32) (c_MM_number : Int32) (c_MM_goods : Int32) : Option (Int32 × (Nat → Int32) × Int32 × Int32 × Int32 × Int32 × Int32) := (if c_MM_token = (1 : Int32) then (if (fMM_isGood c_MM_number) = (0 : Int32) then (if (fMM_isGood c_MM_number) = (0 : Int32) then some ((3 : Int32), c_MM_told, c_MM_at, c_MM_place, c_MM_token, c_MM_number, c_MM_goods) else ob (fMM_nextToken c_MM_tape c_MM_taped c_MM_at c_MM_place c_MM_token c_MM_number) (fun e1 => (if e1.2.2.1 = (1 : Int32) then (if e1.2.2.2 ≤ (9999 : Int32) then gd (inb (((480 : Int32) + ((6 : Int32) * a1)) + c_MM_number) 576) (ob (fMM_nextToken c_MM_tape c_MM_taped e1.1 e1.2.1 e1.2.2.1 e1.2.2.2) (fun e3 => some ((0 : Int32), (upd c_MM_told ((((480 : Int32) + ((6 : Int32) * a1)) + c_MM_number)).toNatClampNeg e1.2.2.2), e3.1, e3.2.1, e3.2.2.1, e3.2.2.2, (c_MM_goods ||| ((1 : Int32) <<< (c_MM_number &&& 31)))))) else some ((3 : Int32), c_MM_told, e1.1, e1.2.1, e1.2.2.1, e1.2.2.2, (c_MM_goods ||| ((1 : Int32) <<< (c_MM_number &&& 31))))) else some ((1 : Int32), c_MM_told, e1.1, e1.2.1, e1.2.2.1, e1.2.2.2, (c_MM_goods ||| ((1 : Int32) <<< (c_MM_number &&& 31))))))) else (if ((c_MM_goods >>> (c_MM_number &&& 31)) &&& (1 : Int32)) = (1 : Int32) then some ((2 : Int32), c_MM_told, c_MM_at, c_MM_place, c_MM_token, c_MM_number, c_MM_goods) else (if (fMM_isGood c_MM_number) = (0 : Int32) then some ((3 : Int32), c_MM_told, c_MM_at, c_MM_place, c_MM_token, c_MM_number, c_MM_goods) else ob (fMM_nextToken c_MM_tape c_MM_taped c_MM_at c_MM_place c_MM_token c_MM_number) (fun e4 => (if e4.2.2.1 = (1 : Int32) then (if e4.2.2.2 ≤ (9999 : Int32) then gd (inb (((480 : Int32) + ((6 : Int32) * a1)) + c_MM_number) 576) (ob (fMM_nextToken c_MM_tape c_MM_taped e4.1 e4.2.1 e4.2.2.1 e4.2.2.2) (fun e6 => some ((0 : Int32), (upd c_MM_told ((((480 : Int32) + ((6 : Int32) * a1)) + c_MM_number)).toNatClampNeg e4.2.2.2), e6.1, e6.2.1, e6.2.2.1, e6.2.2.2, (c_MM_goods ||| ((1 : Int32) <<< (c_MM_number &&& 31)))))) else some ((3 : Int32), c_MM_told, e4.1, e4.2.1, e4.2.2.1, e4.2.2.2, (c_MM_goods ||| ((1 : Int32) <<< (c_MM_number &&& 31))))) else some ((1 : Int32), c_MM_told, e4.1, e4.2.1, e4.2.2.1, e4.2.2.2, (c_MM_goods ||| ((1 : Int32) <<< (c_MM_number &&& 31))))))))) else some ((1 : Int32), c_MM_told, c_MM_at, c_MM_place, c_MM_token, c_MM_number, c_MM_goods))
def fMM_line_l102 (a1 : Int32) (c_MM_tape : (Nat → Int32)) (c_MM_taped : Int32) : Nat → Int32 → (Nat → Int32) → Int32 → Int32 → Int32 → Int32 → Int32 → Option ((Int32 × (Nat → Int32) × Int32 × Int32 × Int32 × Int32 × Int32) ⊕ ((Nat → Int32) × Int32 × Int32 × Int32 × Int32 × Int32))
  | 0, _, _, _, _, _, _, _ => none
  | n + 1, a2, c_MM_told, c_MM_at, c_MM_place, c_MM_token, c_MM_number, c_MM_goods => (if a2 = (0 : Int32) then some (Sum.inr (c_MM_told, c_MM_at, c_MM_place, c_MM_token, c_MM_number, c_MM_goods)) else ob (fMM_nextToken c_MM_tape c_MM_taped c_MM_at c_MM_place c_MM_token c_MM_number) (fun e3 => ob (fMM_part a1 c_MM_told c_MM_tape c_MM_taped e3.1 e3.2.1 e3.2.2.1 e3.2.2.2 c_MM_goods) (fun e4 => (if e4.1 = (0 : Int32) then (if e4.2.2.2.2.1 = (3 : Int32) then fMM_line_l102 a1 c_MM_tape c_MM_taped n (1 : Int32) e4.2.1 e4.2.2.1 e4.2.2.2.1 e4.2.2.2.2.1 e4.2.2.2.2.2.1 e4.2.2.2.2.2.2 else fMM_line_l102 a1 c_MM_tape c_MM_taped n (0 : Int32) e4.2.1 e4.2.2.1 e4.2.2.2.1 e4.2.2.2.2.1 e4.2.2.2.2.2.1 e4.2.2.2.2.2.2) else some (Sum.inl (e4.1, e4.2.1, e4.2.2.1, e4.2.2.2.1, e4.2.2.2.2.1, e4.2.2.2.2.2.1, e4.2.2.2.2.2.2))))))
def fMM_line (c_MM_told : (Nat → Int32)) (c_MM_tape : (Nat → Int32)) (c_MM_taped : Int32) (c_MM_at : Int32) (c_MM_place : Int32) (c_MM_token : Int32) (c_MM_number : Int32) (c_MM_lines : Int32) (c_MM_towns : Int32) (c_MM_goods : Int32) : Option (Int32 × (Nat → Int32) × Int32 × Int32 × Int32 × Int32 × Int32 × Int32 × Int32) := (if c_MM_token = (6 : Int32) then ob (fMM_nextToken c_MM_tape c_MM_taped c_MM_at c_MM_place c_MM_token c_MM_number) (fun e1 => (if e1.2.2.1 = (1 : Int32) then (if (fMM_isTown e1.2.2.2) = (0 : Int32) then (if (fMM_isTown e1.2.2.2) = (0 : Int32) then some ((3 : Int32), c_MM_told, e1.1, e1.2.1, e1.2.2.1, e1.2.2.2, c_MM_lines, c_MM_towns, c_MM_goods) else ob (fMM_nextToken c_MM_tape c_MM_taped e1.1 e1.2.1 e1.2.2.1 e1.2.2.2) (fun e2 => (if e2.2.2.1 = (4 : Int32) then ob (fMM_line_l102 e1.2.2.2 c_MM_tape c_MM_taped FU (1 : Int32) c_MM_told e2.1 e2.2.1 e2.2.2.1 e2.2.2.2 (0 : Int32)) (Sum.elim (fun e6 => some (e6.1, e6.2.1, e6.2.2.1, e6.2.2.2.1, e6.2.2.2.2.1, e6.2.2.2.2.2.1, c_MM_lines, (c_MM_towns ||| ((1 : Int32) <<< (e1.2.2.2 &&& 31))), e6.2.2.2.2.2.2)) (fun e7 => (if e7.2.2.2.1 = (2 : Int32) then ob (fMM_nextToken c_MM_tape c_MM_taped e7.2.1 e7.2.2.1 e7.2.2.2.1 e7.2.2.2.2.1) (fun e8 => some ((0 : Int32), e7.1, e8.1, e8.2.1, e8.2.2.1, e8.2.2.2, (c_MM_lines + (1 : Int32)), (c_MM_towns ||| ((1 : Int32) <<< (e1.2.2.2 &&& 31))), e7.2.2.2.2.2)) else some ((1 : Int32), e7.1, e7.2.1, e7.2.2.1, e7.2.2.2.1, e7.2.2.2.2.1, c_MM_lines, (c_MM_towns ||| ((1 : Int32) <<< (e1.2.2.2 &&& 31))), e7.2.2.2.2.2)))) else some ((1 : Int32), c_MM_told, e2.1, e2.2.1, e2.2.2.1, e2.2.2.2, c_MM_lines, (c_MM_towns ||| ((1 : Int32) <<< (e1.2.2.2 &&& 31))), (0 : Int32))))) else (if ((c_MM_towns >>> (e1.2.2.2 &&& 31)) &&& (1 : Int32)) = (1 : Int32) then some ((2 : Int32), c_MM_told, e1.1, e1.2.1, e1.2.2.1, e1.2.2.2, c_MM_lines, c_MM_towns, c_MM_goods) else (if (fMM_isTown e1.2.2.2) = (0 : Int32) then some ((3 : Int32), c_MM_told, e1.1, e1.2.1, e1.2.2.1, e1.2.2.2, c_MM_lines, c_MM_towns, c_MM_goods) else ob (fMM_nextToken c_MM_tape c_MM_taped e1.1 e1.2.1 e1.2.2.1 e1.2.2.2) (fun e9 => (if e9.2.2.1 = (4 : Int32) then ob (fMM_line_l102 e1.2.2.2 c_MM_tape c_MM_taped FU (1 : Int32) c_MM_told e9.1 e9.2.1 e9.2.2.1 e9.2.2.2 (0 : Int32)) (Sum.elim (fun e11 => some (e11.1, e11.2.1, e11.2.2.1, e11.2.2.2.1, e11.2.2.2.2.1, e11.2.2.2.2.2.1, c_MM_lines, (c_MM_towns ||| ((1 : Int32) <<< (e1.2.2.2 &&& 31))), e11.2.2.2.2.2.2)) (fun e12 => (if e12.2.2.2.1 = (2 : Int32) then ob (fMM_nextToken c_MM_tape c_MM_taped e12.2.1 e12.2.2.1 e12.2.2.2.1 e12.2.2.2.2.1) (fun e13 => some ((0 : Int32), e12.1, e13.1, e13.2.1, e13.2.2.1, e13.2.2.2, (c_MM_lines + (1 : Int32)), (c_MM_towns ||| ((1 : Int32) <<< (e1.2.2.2 &&& 31))), e12.2.2.2.2.2)) else some ((1 : Int32), e12.1, e12.2.1, e12.2.2.1, e12.2.2.2.1, e12.2.2.2.2.1, c_MM_lines, (c_MM_towns ||| ((1 : Int32) <<< (e1.2.2.2 &&& 31))), e12.2.2.2.2.2)))) else some ((1 : Int32), c_MM_told, e9.1, e9.2.1, e9.2.2.1, e9.2.2.2, c_MM_lines, (c_MM_towns ||| ((1 : Int32) <<< (e1.2.2.2 &&& 31))), (0 : Int32))))))) else some ((1 : Int32), c_MM_told, e1.1, e1.2.1, e1.2.2.1, e1.2.2.2, c_MM_lines, c_MM_towns, c_MM_goods))) else some ((1 : Int32), c_MM_told, c_MM_at, c_MM_place, c_MM_token, c_MM_number, c_MM_lines, c_MM_towns, c_MM_goods))
def fMM_read_l2 : Nat → Int32 → (Nat → Int32) → Option ((Nat → Int32))
  | 0, _, _ => none
  | n + 1, a1, c_MM_told => (if (96 : Int32) ≤ a1 then some (c_MM_told) else gd (inb ((480 : Int32) + a1) 576) (fMM_read_l2 n (a1 + (1 : Int32)) (upd c_MM_told (((480 : Int32) + a1)).toNatClampNeg (-1 : Int32))))
def fMM_read_l44 (c_MM_tape : (Nat → Int32)) (c_MM_taped : Int32) : Nat → (Nat → Int32) → Int32 → Int32 → Int32 → Int32 → Int32 → Int32 → Int32 → Option ((Int32 × (Nat → Int32) × Int32 × Int32 × Int32 × Int32 × Int32 × Int32 × Int32) ⊕ ((Nat → Int32) × Int32 × Int32 × Int32 × Int32 × Int32 × Int32 × Int32))
  | 0, _, _, _, _, _, _, _, _ => none
  | n + 1, c_MM_told, c_MM_at, c_MM_place, c_MM_token, c_MM_number, c_MM_lines, c_MM_towns, c_MM_goods => (if c_MM_token = (0 : Int32) then some (Sum.inr (c_MM_told, c_MM_at, c_MM_place, c_MM_token, c_MM_number, c_MM_lines, c_MM_towns, c_MM_goods)) else ob (fMM_line c_MM_told c_MM_tape c_MM_taped c_MM_at c_MM_place c_MM_token c_MM_number c_MM_lines c_MM_towns c_MM_goods) (fun e4 => (if e4.1 = (0 : Int32) then fMM_read_l44 c_MM_tape c_MM_taped n e4.2.1 e4.2.2.1 e4.2.2.2.1 e4.2.2.2.2.1 e4.2.2.2.2.2.1 e4.2.2.2.2.2.2.1 e4.2.2.2.2.2.2.2.1 e4.2.2.2.2.2.2.2.2 else some (Sum.inl (e4.1, e4.2.1, e4.2.2.1, e4.2.2.2.1, e4.2.2.2.2.1, e4.2.2.2.2.2.1, e4.2.2.2.2.2.2.1, e4.2.2.2.2.2.2.2.1, e4.2.2.2.2.2.2.2.2)))))
def fMM_read (c_MM_told : (Nat → Int32)) (c_MM_tape : (Nat → Int32)) (c_MM_taped : Int32) (c_MM_at : Int32) (c_MM_place : Int32) (c_MM_token : Int32) (c_MM_number : Int32) (c_MM_lines : Int32) (c_MM_towns : Int32) (c_MM_goods : Int32) : Option (Int32 × (Nat → Int32) × Int32 × Int32 × Int32 × Int32 × Int32 × Int32 × Int32) := ob (fMM_read_l2 FU (0 : Int32) c_MM_told) (fun e2 => ob (fMM_nextToken c_MM_tape c_MM_taped (0 : Int32) c_MM_place c_MM_token c_MM_number) (fun e3 => ob (fMM_read_l44 c_MM_tape c_MM_taped FU e2 e3.1 e3.2.1 e3.2.2.1 e3.2.2.2 (0 : Int32) (0 : Int32) c_MM_goods) (Sum.elim (fun e6 => some (e6.1, e6.2.1, e6.2.2.1, e6.2.2.2.1, e6.2.2.2.2.1, e6.2.2.2.2.2.1, e6.2.2.2.2.2.2.1, e6.2.2.2.2.2.2.2.1, e6.2.2.2.2.2.2.2.2)) (fun e7 => some ((0 : Int32), e7.1, e7.2.1, e7.2.2.1, e7.2.2.2.1, e7.2.2.2.2.1, e7.2.2.2.2.2.1, e7.2.2.2.2.2.2.1, e7.2.2.2.2.2.2.2)))))
def fMM_copy_l54 (a1 : Int32) : Nat → Int32 → (Nat → Int32) → Option ((Nat → Int32))
  | 0, _, _ => none
  | n + 1, a2, c_MM_told => (if (96 : Int32) ≤ a2 then some (c_MM_told) else gd (inb ((480 : Int32) + a2) 576) (gd (inb (((96 : Int32) * a1) + a2) 576) (fMM_copy_l54 a1 n (a2 + (1 : Int32)) (upd c_MM_told ((((96 : Int32) * a1) + a2)).toNatClampNeg (c_MM_told (((480 : Int32) + a2)).toNatClampNeg)))))
def fMM_copy (a1 : Int32) (c_MM_told : (Nat → Int32)) (c_MM_readAt : (Nat → Int32)) (c_MM_reads : Int32) (c_MM_tape : (Nat → Int32)) (c_MM_taped : Int32) (c_MM_fault : Int32) (c_MM_faultPlace : Int32) (c_MM_at : Int32) (c_MM_place : Int32) (c_MM_token : Int32) (c_MM_number : Int32) (c_MM_lines : Int32) (c_MM_towns : Int32) (c_MM_goods : Int32) : Option (Int32 × (Nat → Int32) × (Nat → Int32) × Int32 × Int32 × Int32 × Int32 × Int32 × Int32 × Int32 × Int32 × Int32 × Int32 × Int32) := (if (fMM_isIn a1 (0 : Int32) (4 : Int32)) = (0 : Int32) then some ((-1 : Int32), c_MM_told, c_MM_readAt, c_MM_reads, c_MM_taped, c_MM_fault, c_MM_faultPlace, c_MM_at, c_MM_place, c_MM_token, c_MM_number, c_MM_lines, c_MM_towns, c_MM_goods) else ob (fMM_read c_MM_told c_MM_tape c_MM_taped c_MM_at c_MM_place c_MM_token c_MM_number c_MM_lines c_MM_towns c_MM_goods) (fun e1 => (if e1.1 = (0 : Int32) then (if e1.1 = (0 : Int32) then ob (fMM_copy_l54 a1 FU (0 : Int32) e1.2.1) (fun e6 => gd (inb a1 5) (some (e1.2.2.2.2.2.2.1, e6, (upd c_MM_readAt (a1).toNatClampNeg (c_MM_reads + (1 : Int32))), (c_MM_reads + (1 : Int32)), (0 : Int32), e1.1, (-1 : Int32), e1.2.2.1, e1.2.2.2.1, e1.2.2.2.2.1, e1.2.2.2.2.2.1, e1.2.2.2.2.2.2.1, e1.2.2.2.2.2.2.2.1, e1.2.2.2.2.2.2.2.2))) else some ((-1 : Int32), e1.2.1, c_MM_readAt, c_MM_reads, (0 : Int32), e1.1, (-1 : Int32), e1.2.2.1, e1.2.2.2.1, e1.2.2.2.2.1, e1.2.2.2.2.2.1, e1.2.2.2.2.2.2.1, e1.2.2.2.2.2.2.2.1, e1.2.2.2.2.2.2.2.2)) else (if e1.1 = (0 : Int32) then ob (fMM_copy_l54 a1 FU (0 : Int32) e1.2.1) (fun e4 => gd (inb a1 5) (some (e1.2.2.2.2.2.2.1, e4, (upd c_MM_readAt (a1).toNatClampNeg (c_MM_reads + (1 : Int32))), (c_MM_reads + (1 : Int32)), (0 : Int32), e1.1, e1.2.2.2.1, e1.2.2.1, e1.2.2.2.1, e1.2.2.2.2.1, e1.2.2.2.2.2.1, e1.2.2.2.2.2.2.1, e1.2.2.2.2.2.2.2.1, e1.2.2.2.2.2.2.2.2))) else some ((-1 : Int32), e1.2.1, c_MM_readAt, c_MM_reads, (0 : Int32), e1.1, e1.2.2.2.1, e1.2.2.1, e1.2.2.2.1, e1.2.2.2.2.1, e1.2.2.2.2.2.1, e1.2.2.2.2.2.2.1, e1.2.2.2.2.2.2.2.1, e1.2.2.2.2.2.2.2.2)))))
def fMM_fault (a1 : Int32) (c_MM_fault : Int32) (c_MM_faultPlace : Int32) : Int32 := (if a1 = (0 : Int32) then c_MM_fault else (if a1 = (1 : Int32) then c_MM_faultPlace else (-1 : Int32)))
def fMM_tellsOf (a1 : Int32) (a2 : Int32) (a3 : Int32) (c_MM_told : (Nat → Int32)) : Option Int32 := gd (inb ((((96 : Int32) * a1) + ((6 : Int32) * a2)) + a3) 576) (some (c_MM_told (((((96 : Int32) * a1) + ((6 : Int32) * a2)) + a3)).toNatClampNeg))
def fMM_tells (a1 : Int32) (a2 : Int32) (a3 : Int32) (c_MM_told : (Nat → Int32)) : Option Int32 := (if (fMM_isIn a1 (0 : Int32) (4 : Int32)) = (0 : Int32) then some (-1 : Int32) else (if (fMM_isTown a2) = (0 : Int32) then some (-1 : Int32) else (if (fMM_isGood a3) = (0 : Int32) then some (-1 : Int32) else ob (fMM_tellsOf a1 a2 a3 c_MM_told) (fun e1 => some (e1)))))
def fMM_votes_l6 (a1 : Int32) (a2 : Int32) (a3 : Int32) (c_MM_told : (Nat → Int32)) : Nat → Int32 → Int32 → Option (Int32)
  | 0, _, _ => none
  | n + 1, a4, a5 => (if (5 : Int32) ≤ a5 then some (a4) else ob (fMM_tellsOf a5 a2 a3 c_MM_told) (fun e1 => (if e1 = a1 then fMM_votes_l6 a1 a2 a3 c_MM_told n (a4 + (1 : Int32)) (a5 + (1 : Int32)) else fMM_votes_l6 a1 a2 a3 c_MM_told n (a4 + (0 : Int32)) (a5 + (1 : Int32)))))
def fMM_votes (a1 : Int32) (a2 : Int32) (a3 : Int32) (c_MM_told : (Nat → Int32)) : Option Int32 := ob (fMM_votes_l6 a1 a2 a3 c_MM_told FU (0 : Int32) (0 : Int32)) (fun e2 => some (e2))
def fMM_owedOf_l5 (a1 : Int32) (a2 : Int32) (c_MM_told : (Nat → Int32)) (c_MM_readAt : (Nat → Int32)) : Nat → Int32 → Int32 → Option (Int32)
  | 0, _, _ => none
  | n + 1, a3, a4 => (if (5 : Int32) ≤ a4 then some (a3) else ob (fMM_tellsOf a4 a1 a2 c_MM_told) (fun e1 => (if (0 : Int32) ≤ e1 then (if (0 : Int32) ≤ a3 then ob (fMM_votes e1 a1 a2 c_MM_told) (fun e2 => ob (fMM_tellsOf a3 a1 a2 c_MM_told) (fun e3 => ob (fMM_votes e3 a1 a2 c_MM_told) (fun e4 => (if (0 : Int32) < (e2 - e4) then fMM_owedOf_l5 a1 a2 c_MM_told c_MM_readAt n a4 (a4 + (1 : Int32)) else (if (e2 - e4) = (0 : Int32) then gd (inb a4 5) (gd (inb a3 5) ((if (c_MM_readAt (a4).toNatClampNeg) ≤ (c_MM_readAt (a3).toNatClampNeg) then fMM_owedOf_l5 a1 a2 c_MM_told c_MM_readAt n a3 (a4 + (1 : Int32)) else fMM_owedOf_l5 a1 a2 c_MM_told c_MM_readAt n a4 (a4 + (1 : Int32))))) else fMM_owedOf_l5 a1 a2 c_MM_told c_MM_readAt n a3 (a4 + (1 : Int32))))))) else (if (0 : Int32) < (1 : Int32) then fMM_owedOf_l5 a1 a2 c_MM_told c_MM_readAt n a4 (a4 + (1 : Int32)) else (if (1 : Int32) = (0 : Int32) then gd (inb a4 5) (gd (inb a3 5) ((if (c_MM_readAt (a4).toNatClampNeg) ≤ (c_MM_readAt (a3).toNatClampNeg) then fMM_owedOf_l5 a1 a2 c_MM_told c_MM_readAt n a3 (a4 + (1 : Int32)) else fMM_owedOf_l5 a1 a2 c_MM_told c_MM_readAt n a4 (a4 + (1 : Int32))))) else fMM_owedOf_l5 a1 a2 c_MM_told c_MM_readAt n a3 (a4 + (1 : Int32))))) else fMM_owedOf_l5 a1 a2 c_MM_told c_MM_readAt n a3 (a4 + (1 : Int32)))))
def fMM_owedOf (a1 : Int32) (a2 : Int32) (c_MM_told : (Nat → Int32)) (c_MM_readAt : (Nat → Int32)) : Option Int32 := ob (fMM_owedOf_l5 a1 a2 c_MM_told c_MM_readAt FU (-1 : Int32) (0 : Int32)) (fun e9 => (if (0 : Int32) ≤ e9 then ob (fMM_tellsOf e9 a1 a2 c_MM_told) (fun e10 => some (e10)) else some (0 : Int32)))
def fMM_owed (a1 : Int32) (a2 : Int32) (c_MM_told : (Nat → Int32)) (c_MM_readAt : (Nat → Int32)) : Option Int32 := (if (fMM_isTown a1) = (0 : Int32) then some (-1 : Int32) else (if (fMM_isGood a2) = (0 : Int32) then some (-1 : Int32) else ob (fMM_owedOf a1 a2 c_MM_told c_MM_readAt) (fun e1 => some (e1))))
def fMM_isQuarrel_l5 (a1 : Int32) (a2 : Int32) (c_MM_told : (Nat → Int32)) : Nat → Int32 → Int32 → Option (Unit ⊕ Unit)
  | 0, _, _ => none
  | n + 1, a3, a4 => (if (5 : Int32) ≤ a4 then some (Sum.inr ()) else ob (fMM_tellsOf a4 a1 a2 c_MM_told) (fun e1 => (if e1 < (0 : Int32) then (if e1 < (0 : Int32) then fMM_isQuarrel_l5 a1 a2 c_MM_told n a3 (a4 + (1 : Int32)) else fMM_isQuarrel_l5 a1 a2 c_MM_told n e1 (a4 + (1 : Int32))) else (if a3 < (0 : Int32) then (if e1 < (0 : Int32) then fMM_isQuarrel_l5 a1 a2 c_MM_told n a3 (a4 + (1 : Int32)) else fMM_isQuarrel_l5 a1 a2 c_MM_told n e1 (a4 + (1 : Int32))) else (if e1 = a3 then (if e1 < (0 : Int32) then fMM_isQuarrel_l5 a1 a2 c_MM_told n a3 (a4 + (1 : Int32)) else fMM_isQuarrel_l5 a1 a2 c_MM_told n e1 (a4 + (1 : Int32))) else some (Sum.inl ()))))))
def fMM_isQuarrel (a1 : Int32) (a2 : Int32) (c_MM_told : (Nat → Int32)) : Option Int32 := ob (fMM_isQuarrel_l5 a1 a2 c_MM_told FU (-1 : Int32) (0 : Int32)) (Sum.elim (fun e3 => some (1 : Int32)) (fun e4 => some (0 : Int32)))
def fMM_quarrel (a1 : Int32) (a2 : Int32) (c_MM_told : (Nat → Int32)) : Option Int32 := (if (fMM_isTown a1) = (0 : Int32) then some (-1 : Int32) else (if (fMM_isGood a2) = (0 : Int32) then some (-1 : Int32) else ob (fMM_isQuarrel a1 a2 c_MM_told) (fun e1 => (if e1 = (0 : Int32) then some (0 : Int32) else some (1 : Int32)))))
def fMM_quarrels_l12 (a2 : Int32) (c_MM_told : (Nat → Int32)) : Nat → Int32 → Int32 → Option (Int32)
  | 0, _, _ => none
  | n + 1, a1, a3 => (if (6 : Int32) ≤ a3 then some (a1) else ob (fMM_isQuarrel a2 a3 c_MM_told) (fun e1 => (if e1 = (0 : Int32) then fMM_quarrels_l12 a2 c_MM_told n (a1 + (0 : Int32)) (a3 + (1 : Int32)) else fMM_quarrels_l12 a2 c_MM_told n (a1 + (1 : Int32)) (a3 + (1 : Int32)))))
def fMM_quarrels_l4 (c_MM_told : (Nat → Int32)) : Nat → Int32 → Int32 → Option (Int32)
  | 0, _, _ => none
  | n + 1, a1, a2 => (if (16 : Int32) ≤ a2 then some (a1) else ob (fMM_quarrels_l12 a2 c_MM_told FU a1 (0 : Int32)) (fun e2 => fMM_quarrels_l4 c_MM_told n e2 (a2 + (1 : Int32))))
def fMM_quarrels (c_MM_told : (Nat → Int32)) : Option Int32 := ob (fMM_quarrels_l4 c_MM_told FU (0 : Int32) (1 : Int32)) (fun e3 => some (e3))
def fMM_send (a1 : Int32) (a2 : Int32) (a3 : Int32) (c_MM_clock : Int32) (c_MM_roads : (Nat → Int32)) (c_MM_ways : (Nat → Int32)) (c_MM_weight : (Nat → Int32)) (c_MM_load : Int32) (c_MM_sendings : Int32) (c_MM_town : (Nat → Int32)) (c_MM_good : (Nat → Int32)) (c_MM_pieces : (Nat → Int32)) (c_MM_bearers : (Nat → Int32)) (c_MM_left : (Nat → Int32)) (c_MM_comes : (Nat → Int32)) : Option (Int32 × (Nat → Int32) × Int32 × (Nat → Int32) × (Nat → Int32) × (Nat → Int32) × (Nat → Int32) × (Nat → Int32) × (Nat → Int32)) := (if (fMM_isTown a1) = (0 : Int32) then some ((-1 : Int32), c_MM_ways, c_MM_sendings, c_MM_town, c_MM_good, c_MM_pieces, c_MM_bearers, c_MM_left, c_MM_comes) else (if (fMM_isGood a2) = (0 : Int32) then some ((-1 : Int32), c_MM_ways, c_MM_sendings, c_MM_town, c_MM_good, c_MM_pieces, c_MM_bearers, c_MM_left, c_MM_comes) else (if (fMM_isIn a3 (1 : Int32) (9999 : Int32)) = (0 : Int32) then some ((-1 : Int32), c_MM_ways, c_MM_sendings, c_MM_town, c_MM_good, c_MM_pieces, c_MM_bearers, c_MM_left, c_MM_comes) else (if c_MM_sendings = (100 : Int32) then some ((-1 : Int32), c_MM_ways, c_MM_sendings, c_MM_town, c_MM_good, c_MM_pieces, c_MM_bearers, c_MM_left, c_MM_comes) else ob (fMM_wayOf a1 (0 : Int32) c_MM_roads c_MM_ways) (fun e1 => (if (0 : Int32) ≤ e1.1 then gd (inb c_MM_sendings 100) (gd (inb c_MM_sendings 100) (gd (inb c_MM_sendings 100) (ob (fMM_carriersOf a2 a3 c_MM_weight c_MM_load) (fun e5 => gd (inb c_MM_sendings 100) (gd (inb c_MM_sendings 100) (gd (inb c_MM_sendings 100) (some (((c_MM_sendings + (1 : Int32)) - (1 : Int32)), e1.2, (c_MM_sendings + (1 : Int32)), (upd c_MM_town (c_MM_sendings).toNatClampNeg a1), (upd c_MM_good (c_MM_sendings).toNatClampNeg a2), (upd c_MM_pieces (c_MM_sendings).toNatClampNeg a3), (upd c_MM_bearers (c_MM_sendings).toNatClampNeg e5), (upd c_MM_left (c_MM_sendings).toNatClampNeg c_MM_clock), (upd c_MM_comes (c_MM_sendings).toNatClampNeg (c_MM_clock + e1.1)))))))))) else some ((-1 : Int32), e1.2, c_MM_sendings, c_MM_town, c_MM_good, c_MM_pieces, c_MM_bearers, c_MM_left, c_MM_comes)))))))
def fMM_sending (a1 : Int32) (a2 : Int32) (c_MM_sendings : Int32) (c_MM_town : (Nat → Int32)) (c_MM_good : (Nat → Int32)) (c_MM_pieces : (Nat → Int32)) (c_MM_bearers : (Nat → Int32)) (c_MM_left : (Nat → Int32)) (c_MM_comes : (Nat → Int32)) (c_MM_isStored : (Nat → Int32)) (c_MM_used : (Nat → Int32)) : Option Int32 := (if (fMM_isIn a1 (0 : Int32) (c_MM_sendings - (1 : Int32))) = (0 : Int32) then some (-1 : Int32) else (if a2 = (0 : Int32) then gd (inb a1 100) (some (c_MM_town (a1).toNatClampNeg)) else if a2 = (1 : Int32) then gd (inb a1 100) (some (c_MM_good (a1).toNatClampNeg)) else if a2 = (2 : Int32) then gd (inb a1 100) (some (c_MM_pieces (a1).toNatClampNeg)) else if a2 = (3 : Int32) then gd (inb a1 100) (some (c_MM_bearers (a1).toNatClampNeg)) else if a2 = (4 : Int32) then gd (inb a1 100) (some (c_MM_left (a1).toNatClampNeg)) else if a2 = (5 : Int32) then gd (inb a1 100) (some (c_MM_comes (a1).toNatClampNeg)) else if a2 = (6 : Int32) then gd (inb a1 100) ((if (c_MM_isStored (a1).toNatClampNeg) = (0 : Int32) then some (0 : Int32) else some (1 : Int32))) else if a2 = (7 : Int32) then gd (inb a1 100) (some (c_MM_used (a1).toNatClampNeg)) else some (-1 : Int32)))
def fMM_store_l27 (a1 : Int32) (a2 : Int32) (c_MM_clock : Int32) (c_MM_quarters : Int32) (c_MM_town : (Nat → Int32)) : Nat → Int32 → Int32 → (Nat → Int32) → (Nat → Int64) → Option ((Int32 × (Nat → Int32) × (Nat → Int64)))
  | 0, _, _, _, _ => none
  | n + 1, a3, a4, c_MM_debt, c_MM_late => (if c_MM_quarters ≤ a4 then some ((a3, c_MM_debt, c_MM_late)) else gd (inb (((96 : Int32) * a4) + a2) 3264) ((if a3 ≤ (c_MM_debt ((((96 : Int32) * a4) + a2)).toNatClampNeg) then gd (inb (((96 : Int32) * a4) + a2) 3264) (gd (inb (((96 : Int32) * a4) + a2) 3264) (gd (inb a1 100) (gd (inb (c_MM_town (a1).toNatClampNeg) 16) (gd (inb (c_MM_town (a1).toNatClampNeg) 16) (fMM_store_l27 a1 a2 c_MM_clock c_MM_quarters c_MM_town n (a3 - a3) (a4 + (1 : Int32)) (upd c_MM_debt ((((96 : Int32) * a4) + a2)).toNatClampNeg ((c_MM_debt ((((96 : Int32) * a4) + a2)).toNatClampNeg) - a3)) (vp_updL c_MM_late ((c_MM_town (a1).toNatClampNeg)).toNatClampNeg ((c_MM_late ((c_MM_town (a1).toNatClampNeg)).toNatClampNeg) + ((a3).toInt64 * ((c_MM_clock - ((90 : Int32) * (a4 + (1 : Int32))))).toInt64)))))))) else gd (inb (((96 : Int32) * a4) + a2) 3264) (gd (inb (((96 : Int32) * a4) + a2) 3264) (gd (inb (((96 : Int32) * a4) + a2) 3264) (gd (inb a1 100) (gd (inb (c_MM_town (a1).toNatClampNeg) 16) (gd (inb (c_MM_town (a1).toNatClampNeg) 16) (fMM_store_l27 a1 a2 c_MM_clock c_MM_quarters c_MM_town n (a3 - (c_MM_debt ((((96 : Int32) * a4) + a2)).toNatClampNeg)) (a4 + (1 : Int32)) (upd c_MM_debt ((((96 : Int32) * a4) + a2)).toNatClampNeg ((c_MM_debt ((((96 : Int32) * a4) + a2)).toNatClampNeg) - (c_MM_debt ((((96 : Int32) * a4) + a2)).toNatClampNeg))) (vp_updL c_MM_late ((c_MM_town (a1).toNatClampNeg)).toNatClampNeg ((c_MM_late ((c_MM_town (a1).toNatClampNeg)).toNatClampNeg) + (((c_MM_debt ((((96 : Int32) * a4) + a2)).toNatClampNeg)).toInt64 * ((c_MM_clock - ((90 : Int32) * (a4 + (1 : Int32))))).toInt64))))))))))))
def fMM_store (a1 : Int32) (c_MM_clock : Int32) (c_MM_quarters : Int32) (c_MM_debt : (Nat → Int32)) (c_MM_gift : (Nat → Int32)) (c_MM_paid : (Nat → Int32)) (c_MM_late : (Nat → Int64)) (c_MM_town : (Nat → Int32)) (c_MM_good : (Nat → Int32)) (c_MM_pieces : (Nat → Int32)) (c_MM_isStored : (Nat → Int32)) (c_MM_used : (Nat → Int32)) (c_MM_stored : Int32) (c_MM_storedOrder : (Nat → Int32)) (c_MM_storedMany : Int32) : Option ((Nat → Int32) × (Nat → Int32) × (Nat → Int32) × (Nat → Int64) × (Nat → Int32) × (Nat → Int32) × Int32 × (Nat → Int32) × Int32) := gd (inb a1 100) (gd (inb a1 100) (gd (inb a1 100) (ob (fMM_store_l27 a1 (((6 : Int32) * (c_MM_town (a1).toNatClampNeg)) + (c_MM_good (a1).toNatClampNeg)) c_MM_clock c_MM_quarters c_MM_town FU (c_MM_pieces (a1).toNatClampNeg) (0 : Int32) c_MM_debt c_MM_late) (fun e16 => gd (inb a1 100) (gd (inb a1 100) (gd (inb (((6 : Int32) * (c_MM_town (a1).toNatClampNeg)) + (c_MM_good (a1).toNatClampNeg)) 96) (gd (inb a1 100) (gd (inb (((6 : Int32) * (c_MM_town (a1).toNatClampNeg)) + (c_MM_good (a1).toNatClampNeg)) 96) (gd (inb (((6 : Int32) * (c_MM_town (a1).toNatClampNeg)) + (c_MM_good (a1).toNatClampNeg)) 96) (gd (inb (((6 : Int32) * (c_MM_town (a1).toNatClampNeg)) + (c_MM_good (a1).toNatClampNeg)) 96) (gd (inb a1 100) (gd (inb a1 100) (gd (inb c_MM_storedMany 100) (some (e16.2.1, (upd c_MM_gift ((((6 : Int32) * (c_MM_town (a1).toNatClampNeg)) + (c_MM_good (a1).toNatClampNeg))).toNatClampNeg ((c_MM_gift ((((6 : Int32) * (c_MM_town (a1).toNatClampNeg)) + (c_MM_good (a1).toNatClampNeg))).toNatClampNeg) + e16.1)), (upd c_MM_paid ((((6 : Int32) * (c_MM_town (a1).toNatClampNeg)) + (c_MM_good (a1).toNatClampNeg))).toNatClampNeg ((c_MM_paid ((((6 : Int32) * (c_MM_town (a1).toNatClampNeg)) + (c_MM_good (a1).toNatClampNeg))).toNatClampNeg) + ((upd c_MM_used (a1).toNatClampNeg ((c_MM_pieces (a1).toNatClampNeg) - e16.1)) (a1).toNatClampNeg))), e16.2.2, (upd c_MM_isStored (a1).toNatClampNeg (vp_nar .boolean (1 : Int32))), (upd c_MM_used (a1).toNatClampNeg ((c_MM_pieces (a1).toNatClampNeg) - e16.1)), (c_MM_stored + (c_MM_pieces (a1).toNatClampNeg)), (upd c_MM_storedOrder (c_MM_storedMany).toNatClampNeg a1), (c_MM_storedMany + (1 : Int32)))))))))))))))))
def fMM_quarter_l10 (a1 : Int32) (c_MM_quarters : Int32) (c_MM_told : (Nat → Int32)) (c_MM_readAt : (Nat → Int32)) : Nat → Int32 → (Nat → Int32) → (Nat → Int32) → (Nat → Int32) → Option (((Nat → Int32) × (Nat → Int32) × (Nat → Int32)))
  | 0, _, _, _, _ => none
  | n + 1, a2, c_MM_debt, c_MM_gift, c_MM_paid => (if (6 : Int32) ≤ a2 then some ((c_MM_debt, c_MM_gift, c_MM_paid)) else ob (fMM_owedOf a1 a2 c_MM_told c_MM_readAt) (fun e1 => gd (inb (((6 : Int32) * a1) + a2) 96) ((if e1 ≤ (c_MM_gift ((((6 : Int32) * a1) + a2)).toNatClampNeg) then gd (inb (((6 : Int32) * a1) + a2) 96) (gd (inb (((6 : Int32) * a1) + a2) 96) (gd (inb (((6 : Int32) * a1) + a2) 96) (gd (inb (((6 : Int32) * a1) + a2) 96) (gd (inb (((96 : Int32) * c_MM_quarters) + (((6 : Int32) * a1) + a2)) 3264) (fMM_quarter_l10 a1 c_MM_quarters c_MM_told c_MM_readAt n (a2 + (1 : Int32)) (upd c_MM_debt ((((96 : Int32) * c_MM_quarters) + (((6 : Int32) * a1) + a2))).toNatClampNeg (e1 - e1)) (upd c_MM_gift ((((6 : Int32) * a1) + a2)).toNatClampNeg ((c_MM_gift ((((6 : Int32) * a1) + a2)).toNatClampNeg) - e1)) (upd c_MM_paid ((((6 : Int32) * a1) + a2)).toNatClampNeg ((c_MM_paid ((((6 : Int32) * a1) + a2)).toNatClampNeg) + e1))))))) else gd (inb (((6 : Int32) * a1) + a2) 96) (gd (inb (((6 : Int32) * a1) + a2) 96) (gd (inb (((6 : Int32) * a1) + a2) 96) (gd (inb (((6 : Int32) * a1) + a2) 96) (gd (inb (((6 : Int32) * a1) + a2) 96) (gd (inb (((96 : Int32) * c_MM_quarters) + (((6 : Int32) * a1) + a2)) 3264) (fMM_quarter_l10 a1 c_MM_quarters c_MM_told c_MM_readAt n (a2 + (1 : Int32)) (upd c_MM_debt ((((96 : Int32) * c_MM_quarters) + (((6 : Int32) * a1) + a2))).toNatClampNeg (e1 - (c_MM_gift ((((6 : Int32) * a1) + a2)).toNatClampNeg))) (upd c_MM_gift ((((6 : Int32) * a1) + a2)).toNatClampNeg ((c_MM_gift ((((6 : Int32) * a1) + a2)).toNatClampNeg) - (c_MM_gift ((((6 : Int32) * a1) + a2)).toNatClampNeg))) (upd c_MM_paid ((((6 : Int32) * a1) + a2)).toNatClampNeg ((c_MM_paid ((((6 : Int32) * a1) + a2)).toNatClampNeg) + (c_MM_gift ((((6 : Int32) * a1) + a2)).toNatClampNeg)))))))))))))
def fMM_quarter_l2 (c_MM_quarters : Int32) (c_MM_told : (Nat → Int32)) (c_MM_readAt : (Nat → Int32)) : Nat → Int32 → (Nat → Int32) → (Nat → Int32) → (Nat → Int32) → Option (((Nat → Int32) × (Nat → Int32) × (Nat → Int32)))
  | 0, _, _, _, _ => none
  | n + 1, a1, c_MM_debt, c_MM_gift, c_MM_paid => (if (16 : Int32) ≤ a1 then some ((c_MM_debt, c_MM_gift, c_MM_paid)) else ob (fMM_quarter_l10 a1 c_MM_quarters c_MM_told c_MM_readAt FU (0 : Int32) c_MM_debt c_MM_gift c_MM_paid) (fun e14 => fMM_quarter_l2 c_MM_quarters c_MM_told c_MM_readAt n (a1 + (1 : Int32)) e14.1 e14.2.1 e14.2.2))
def fMM_quarter (c_MM_quarters : Int32) (c_MM_told : (Nat → Int32)) (c_MM_readAt : (Nat → Int32)) (c_MM_debt : (Nat → Int32)) (c_MM_gift : (Nat → Int32)) (c_MM_paid : (Nat → Int32)) : Option (Int32 × (Nat → Int32) × (Nat → Int32) × (Nat → Int32)) := ob (fMM_quarter_l2 c_MM_quarters c_MM_told c_MM_readAt FU (1 : Int32) c_MM_debt c_MM_gift c_MM_paid) (fun e15 => some ((c_MM_quarters + (1 : Int32)), e15.1, e15.2.1, e15.2.2))
def fMM_days_l43 (a1 : Int32) (a2 : Int32) (c_MM_clock : Int32) (c_MM_quarters : Int32) (c_MM_sendings : Int32) (c_MM_town : (Nat → Int32)) (c_MM_good : (Nat → Int32)) (c_MM_pieces : (Nat → Int32)) (c_MM_comes : (Nat → Int32)) : Nat → Int32 → (Nat → Int32) → (Nat → Int32) → (Nat → Int32) → (Nat → Int64) → (Nat → Int32) → (Nat → Int32) → Int32 → (Nat → Int32) → Int32 → Option (((Nat → Int32) × (Nat → Int32) × (Nat → Int32) × (Nat → Int64) × (Nat → Int32) × (Nat → Int32) × Int32 × (Nat → Int32) × Int32))
  | 0, _, _, _, _, _, _, _, _, _, _ => none
  | n + 1, a3, c_MM_debt, c_MM_gift, c_MM_paid, c_MM_late, c_MM_isStored, c_MM_used, c_MM_stored, c_MM_storedOrder, c_MM_storedMany => (if c_MM_sendings ≤ a3 then some ((c_MM_debt, c_MM_gift, c_MM_paid, c_MM_late, c_MM_isStored, c_MM_used, c_MM_stored, c_MM_storedOrder, c_MM_storedMany)) else gd (inb a3 100) ((if (c_MM_isStored (a3).toNatClampNeg) = (0 : Int32) then gd (inb a3 100) ((if (c_MM_comes (a3).toNatClampNeg) = c_MM_clock then ob (fMM_store a3 c_MM_clock c_MM_quarters c_MM_debt c_MM_gift c_MM_paid c_MM_late c_MM_town c_MM_good c_MM_pieces c_MM_isStored c_MM_used c_MM_stored c_MM_storedOrder c_MM_storedMany) (fun e3 => fMM_days_l43 a1 a2 c_MM_clock c_MM_quarters c_MM_sendings c_MM_town c_MM_good c_MM_pieces c_MM_comes n (a3 + (1 : Int32)) e3.1 e3.2.1 e3.2.2.1 e3.2.2.2.1 e3.2.2.2.2.1 e3.2.2.2.2.2.1 e3.2.2.2.2.2.2.1 e3.2.2.2.2.2.2.2.1 e3.2.2.2.2.2.2.2.2) else fMM_days_l43 a1 a2 c_MM_clock c_MM_quarters c_MM_sendings c_MM_town c_MM_good c_MM_pieces c_MM_comes n (a3 + (1 : Int32)) c_MM_debt c_MM_gift c_MM_paid c_MM_late c_MM_isStored c_MM_used c_MM_stored c_MM_storedOrder c_MM_storedMany)) else fMM_days_l43 a1 a2 c_MM_clock c_MM_quarters c_MM_sendings c_MM_town c_MM_good c_MM_pieces c_MM_comes n (a3 + (1 : Int32)) c_MM_debt c_MM_gift c_MM_paid c_MM_late c_MM_isStored c_MM_used c_MM_stored c_MM_storedOrder c_MM_storedMany)))
def fMM_days_l26 (a1 : Int32) (c_MM_told : (Nat → Int32)) (c_MM_readAt : (Nat → Int32)) (c_MM_sendings : Int32) (c_MM_town : (Nat → Int32)) (c_MM_good : (Nat → Int32)) (c_MM_pieces : (Nat → Int32)) (c_MM_comes : (Nat → Int32)) : Nat → Int32 → Int32 → Int32 → (Nat → Int32) → (Nat → Int32) → (Nat → Int32) → (Nat → Int64) → (Nat → Int32) → (Nat → Int32) → Int32 → (Nat → Int32) → Int32 → Option ((Int32 × Int32 × (Nat → Int32) × (Nat → Int32) × (Nat → Int32) × (Nat → Int64) × (Nat → Int32) × (Nat → Int32) × Int32 × (Nat → Int32) × Int32))
  | 0, _, _, _, _, _, _, _, _, _, _, _, _ => none
  | n + 1, a2, c_MM_clock, c_MM_quarters, c_MM_debt, c_MM_gift, c_MM_paid, c_MM_late, c_MM_isStored, c_MM_used, c_MM_stored, c_MM_storedOrder, c_MM_storedMany => (if a1 ≤ a2 then some ((c_MM_clock, c_MM_quarters, c_MM_debt, c_MM_gift, c_MM_paid, c_MM_late, c_MM_isStored, c_MM_used, c_MM_stored, c_MM_storedOrder, c_MM_storedMany)) else ob (fMM_days_l43 a1 a2 (c_MM_clock + (1 : Int32)) c_MM_quarters c_MM_sendings c_MM_town c_MM_good c_MM_pieces c_MM_comes FU (0 : Int32) c_MM_debt c_MM_gift c_MM_paid c_MM_late c_MM_isStored c_MM_used c_MM_stored c_MM_storedOrder c_MM_storedMany) (fun e4 => (if ((c_MM_clock + (1 : Int32)) - (c_MM_clock + (1 : Int32)) / (90 : Int32) * (90 : Int32)) = (0 : Int32) then ob (fMM_quarter c_MM_quarters c_MM_told c_MM_readAt e4.1 e4.2.1 e4.2.2.1) (fun e5 => fMM_days_l26 a1 c_MM_told c_MM_readAt c_MM_sendings c_MM_town c_MM_good c_MM_pieces c_MM_comes n (a2 + (1 : Int32)) (c_MM_clock + (1 : Int32)) e5.1 e5.2.1 e5.2.2.1 e5.2.2.2 e4.2.2.2.1 e4.2.2.2.2.1 e4.2.2.2.2.2.1 e4.2.2.2.2.2.2.1 e4.2.2.2.2.2.2.2.1 e4.2.2.2.2.2.2.2.2) else fMM_days_l26 a1 c_MM_told c_MM_readAt c_MM_sendings c_MM_town c_MM_good c_MM_pieces c_MM_comes n (a2 + (1 : Int32)) (c_MM_clock + (1 : Int32)) c_MM_quarters e4.1 e4.2.1 e4.2.2.1 e4.2.2.2.1 e4.2.2.2.2.1 e4.2.2.2.2.2.1 e4.2.2.2.2.2.2.1 e4.2.2.2.2.2.2.2.1 e4.2.2.2.2.2.2.2.2)))
def fMM_days (a1 : Int32) (c_MM_clock : Int32) (c_MM_quarters : Int32) (c_MM_told : (Nat → Int32)) (c_MM_readAt : (Nat → Int32)) (c_MM_debt : (Nat → Int32)) (c_MM_gift : (Nat → Int32)) (c_MM_paid : (Nat → Int32)) (c_MM_late : (Nat → Int64)) (c_MM_sendings : Int32) (c_MM_town : (Nat → Int32)) (c_MM_good : (Nat → Int32)) (c_MM_pieces : (Nat → Int32)) (c_MM_comes : (Nat → Int32)) (c_MM_isStored : (Nat → Int32)) (c_MM_used : (Nat → Int32)) (c_MM_stored : Int32) (c_MM_storedOrder : (Nat → Int32)) (c_MM_storedMany : Int32) : Option (Int32 × Int32 × Int32 × (Nat → Int32) × (Nat → Int32) × (Nat → Int32) × (Nat → Int64) × (Nat → Int32) × (Nat → Int32) × Int32 × (Nat → Int32) × Int32) := (if (fMM_isIn a1 (1 : Int32) (100 : Int32)) = (0 : Int32) then some ((-1 : Int32), c_MM_clock, c_MM_quarters, c_MM_debt, c_MM_gift, c_MM_paid, c_MM_late, c_MM_isStored, c_MM_used, c_MM_stored, c_MM_storedOrder, c_MM_storedMany) else (if (c_MM_clock + a1) ≤ (3000 : Int32) then ob (fMM_days_l26 a1 c_MM_told c_MM_readAt c_MM_sendings c_MM_town c_MM_good c_MM_pieces c_MM_comes FU (0 : Int32) c_MM_clock c_MM_quarters c_MM_debt c_MM_gift c_MM_paid c_MM_late c_MM_isStored c_MM_used c_MM_stored c_MM_storedOrder c_MM_storedMany) (fun e6 => some (e6.1, e6.1, e6.2.1, e6.2.2.1, e6.2.2.2.1, e6.2.2.2.2.1, e6.2.2.2.2.2.1, e6.2.2.2.2.2.2.1, e6.2.2.2.2.2.2.2.1, e6.2.2.2.2.2.2.2.2.1, e6.2.2.2.2.2.2.2.2.2.1, e6.2.2.2.2.2.2.2.2.2.2)) else some ((-1 : Int32), c_MM_clock, c_MM_quarters, c_MM_debt, c_MM_gift, c_MM_paid, c_MM_late, c_MM_isStored, c_MM_used, c_MM_stored, c_MM_storedOrder, c_MM_storedMany)))
def fMM_account_l38 (a3 : Int32) (a4 : Int32) (c_MM_debt : (Nat → Int32)) : Nat → Int32 → Int32 → Int32 → Option ((Int32 × Int32))
  | 0, _, _, _ => none
  | n + 1, a5, a6, a7 => (if a7 < (0 : Int32) then some ((a5, a6)) else gd (inb (((96 : Int32) * a7) + a4) 3264) (gd (inb (((96 : Int32) * a7) + a4) 3264) ((if (c_MM_debt ((((96 : Int32) * a7) + a4)).toNatClampNeg) ≤ (0 : Int32) then fMM_account_l38 a3 a4 c_MM_debt n (a5 + (c_MM_debt ((((96 : Int32) * a7) + a4)).toNatClampNeg)) a6 (a7 + (-1 : Int32)) else fMM_account_l38 a3 a4 c_MM_debt n (a5 + (c_MM_debt ((((96 : Int32) * a7) + a4)).toNatClampNeg)) a7 (a7 + (-1 : Int32))))))
def fMM_account (a1 : Int32) (a2 : Int32) (a3 : Int32) (c_MM_quarters : Int32) (c_MM_debt : (Nat → Int32)) (c_MM_gift : (Nat → Int32)) (c_MM_paid : (Nat → Int32)) : Option Int32 := (if (fMM_isTown a1) = (0 : Int32) then some (-1 : Int32) else (if (fMM_isGood a2) = (0 : Int32) then some (-1 : Int32) else ob (fMM_account_l38 a3 (((6 : Int32) * a1) + a2) c_MM_debt FU (0 : Int32) (-1 : Int32) (c_MM_quarters - (1 : Int32))) (fun e3 => (if a3 = (0 : Int32) then some (e3.1) else (if a3 = (1 : Int32) then gd (inb (((6 : Int32) * a1) + a2) 96) (some (c_MM_gift ((((6 : Int32) * a1) + a2)).toNatClampNeg)) else (if a3 = (2 : Int32) then some (e3.2) else (if a3 = (3 : Int32) then gd (inb (((6 : Int32) * a1) + a2) 96) (some (c_MM_paid ((((6 : Int32) * a1) + a2)).toNatClampNeg)) else some (-1 : Int32))))))))
def fMM_late_l33 (a1 : Int32) (a4 : Int32) (c_MM_clock : Int32) (c_MM_debt : (Nat → Int32)) : Nat → Int64 → Int32 → Option (Int64)
  | 0, _, _ => none
  | n + 1, a2, a5 => (if (6 : Int32) ≤ a5 then some (a2) else gd (inb ((((96 : Int32) * a4) + ((6 : Int32) * a1)) + a5) 3264) (fMM_late_l33 a1 a4 c_MM_clock c_MM_debt n (a2 + (((c_MM_debt (((((96 : Int32) * a4) + ((6 : Int32) * a1)) + a5)).toNatClampNeg)).toInt64 * ((c_MM_clock - ((90 : Int32) * (a4 + (1 : Int32))))).toInt64)) (a5 + (1 : Int32))))
def fMM_late_l21 (a1 : Int32) (c_MM_clock : Int32) (c_MM_quarters : Int32) (c_MM_debt : (Nat → Int32)) : Nat → Int64 → Int32 → Option (Int64)
  | 0, _, _ => none
  | n + 1, a2, a4 => (if c_MM_quarters ≤ a4 then some (a2) else ob (fMM_late_l33 a1 a4 c_MM_clock c_MM_debt FU a2 (0 : Int32)) (fun e3 => fMM_late_l21 a1 c_MM_clock c_MM_quarters c_MM_debt n e3 (a4 + (1 : Int32))))
def fMM_late (a1 : Int32) (c_MM_clock : Int32) (c_MM_quarters : Int32) (c_MM_debt : (Nat → Int32)) (c_MM_late : (Nat → Int64)) : Option Int64 := (if (fMM_isTown a1) = (0 : Int32) then some (-1 : Int64) else gd (inb a1 16) (ob (fMM_late_l21 a1 c_MM_clock c_MM_quarters c_MM_debt FU (c_MM_late (a1).toNatClampNeg) (0 : Int32)) (fun e4 => some (e4))))
def fMM_piece_l20 (c_MM_pieces : (Nat → Int32)) (c_MM_storedOrder : (Nat → Int32)) : Nat → Int32 → Int32 → Option (Int32)
  | 0, _, _ => none
  | n + 1, a2, a3 => gd (inb a3 100) (gd (inb (c_MM_storedOrder (a3).toNatClampNeg) 100) ((if a2 < (c_MM_pieces ((c_MM_storedOrder (a3).toNatClampNeg)).toNatClampNeg) then some (a3) else gd (inb a3 100) (gd (inb (c_MM_storedOrder (a3).toNatClampNeg) 100) (fMM_piece_l20 c_MM_pieces c_MM_storedOrder n (a2 - (c_MM_pieces ((c_MM_storedOrder (a3).toNatClampNeg)).toNatClampNeg)) (a3 + (1 : Int32)))))))
def fMM_piece (a1 : Int32) (c_MM_pieces : (Nat → Int32)) (c_MM_stored : Int32) (c_MM_storedOrder : (Nat → Int32)) : Option Int32 := (if (fMM_isIn a1 (0 : Int32) (c_MM_stored - (1 : Int32))) = (0 : Int32) then some (-1 : Int32) else ob (fMM_piece_l20 c_MM_pieces c_MM_storedOrder FU a1 (0 : Int32)) (fun e5 => gd (inb e5 100) (some (c_MM_storedOrder (e5).toNatClampNeg))))
def fMM_market (a1 : Int32) (a2 : Int32) (a3 : Int32) (a4 : Int32) (c_MM_markets : Int32) (c_MM_from : (Nat → Int32)) (c_MM_gives : (Nat → Int32)) (c_MM_to : (Nat → Int32)) (c_MM_gets : (Nat → Int32)) : Option (Int32 × Int32 × (Nat → Int32) × (Nat → Int32) × (Nat → Int32) × (Nat → Int32)) := (if (fMM_isGood a1) = (0 : Int32) then some ((-1 : Int32), c_MM_markets, c_MM_from, c_MM_gives, c_MM_to, c_MM_gets) else (if (fMM_isGood a3) = (0 : Int32) then some ((-1 : Int32), c_MM_markets, c_MM_from, c_MM_gives, c_MM_to, c_MM_gets) else (if a1 = a3 then some ((-1 : Int32), c_MM_markets, c_MM_from, c_MM_gives, c_MM_to, c_MM_gets) else (if (fMM_isIn a2 (1 : Int32) (99 : Int32)) = (0 : Int32) then some ((-1 : Int32), c_MM_markets, c_MM_from, c_MM_gives, c_MM_to, c_MM_gets) else (if (fMM_isIn a4 (1 : Int32) (99 : Int32)) = (0 : Int32) then some ((-1 : Int32), c_MM_markets, c_MM_from, c_MM_gives, c_MM_to, c_MM_gets) else (if c_MM_markets = (20 : Int32) then some ((-1 : Int32), c_MM_markets, c_MM_from, c_MM_gives, c_MM_to, c_MM_gets) else gd (inb c_MM_markets 20) (gd (inb c_MM_markets 20) (gd (inb c_MM_markets 20) (gd (inb c_MM_markets 20) (some (((c_MM_markets + (1 : Int32)) - (1 : Int32)), (c_MM_markets + (1 : Int32)), (upd c_MM_from (c_MM_markets).toNatClampNeg a1), (upd c_MM_gives (c_MM_markets).toNatClampNeg a2), (upd c_MM_to (c_MM_markets).toNatClampNeg a3), (upd c_MM_gets (c_MM_markets).toNatClampNeg a4))))))))))))
def fMM_isAhead_l2 (a1 : Int32) (c_MM_open : (Nat → Int32)) (c_MM_bestRow : (Nat → Int32)) : Nat → Int32 → Option (Int32 ⊕ Unit)
  | 0, _ => none
  | n + 1, a2 => (if a1 ≤ a2 then some (Sum.inr ()) else gd (inb a2 6) (gd (inb a2 6) ((if (c_MM_open (a2).toNatClampNeg) = (c_MM_bestRow (a2).toNatClampNeg) then fMM_isAhead_l2 a1 c_MM_open c_MM_bestRow n (a2 + (1 : Int32)) else some (Sum.inl a2)))))
def fMM_isAhead (a1 : Int32) (c_MM_open : (Nat → Int32)) (c_MM_bestRow : (Nat → Int32)) : Option Int32 := ob (fMM_isAhead_l2 a1 c_MM_open c_MM_bestRow FU (0 : Int32)) (Sum.elim (fun e4 => gd (inb e4 6) (gd (inb e4 6) ((if (c_MM_bestRow (e4).toNatClampNeg) ≤ (c_MM_open (e4).toNatClampNeg) then some (0 : Int32) else some (1 : Int32))))) (fun e7 => some (0 : Int32)))
def fMM_found_l65 (a1 : Int32) (c_MM_open : (Nat → Int32)) : Nat → Int32 → (Nat → Int32) → Option ((Nat → Int32))
  | 0, _, _ => none
  | n + 1, a4, c_MM_bestRow => (if a1 ≤ a4 then some (c_MM_bestRow) else gd (inb a4 6) (gd (inb a4 6) (fMM_found_l65 a1 c_MM_open n (a4 + (1 : Int32)) (upd c_MM_bestRow (a4).toNatClampNeg (c_MM_open (a4).toNatClampNeg)))))
def fMM_found (a1 : Int32) (c_MM_open : (Nat → Int32)) (c_MM_much : (Nat → Int64)) (c_MM_bestRow : (Nat → Int32)) (c_MM_bestLong : Int32) (c_MM_best : Int64) : Option ((Nat → Int32) × Int32 × Int64) := gd (inb (a1 - (1 : Int32)) 6) ((if (lg_cmp (c_MM_much ((a1 - (1 : Int32))).toNatClampNeg) c_MM_best) < (0 : Int32) then some (c_MM_bestRow, c_MM_bestLong, c_MM_best) else (if (lg_cmp (c_MM_much ((a1 - (1 : Int32))).toNatClampNeg) c_MM_best) = (0 : Int32) then (if c_MM_bestLong < a1 then some (c_MM_bestRow, c_MM_bestLong, c_MM_best) else (if a1 = c_MM_bestLong then ob (fMM_isAhead a1 c_MM_open c_MM_bestRow) (fun e6 => (if e6 = (0 : Int32) then some (c_MM_bestRow, c_MM_bestLong, c_MM_best) else ob (fMM_found_l65 a1 c_MM_open FU (0 : Int32) c_MM_bestRow) (fun e7 => some (e7, a1, (c_MM_much ((a1 - (1 : Int32))).toNatClampNeg))))) else ob (fMM_found_l65 a1 c_MM_open FU (0 : Int32) c_MM_bestRow) (fun e5 => some (e5, a1, (c_MM_much ((a1 - (1 : Int32))).toNatClampNeg))))) else ob (fMM_found_l65 a1 c_MM_open FU (0 : Int32) c_MM_bestRow) (fun e4 => some (e4, a1, (c_MM_much ((a1 - (1 : Int32))).toNatClampNeg))))))
def fMM_wasThrough_l10 (a1 : Int32) (a3 : Int32) (c_MM_to : (Nat → Int32)) (c_MM_open : (Nat → Int32)) : Nat → Int32 → Option (Unit ⊕ Unit)
  | 0, _ => none
  | n + 1, a4 => (if a3 ≤ a4 then some (Sum.inr ()) else gd (inb a4 6) (gd (inb (c_MM_open (a4).toNatClampNeg) 20) ((if (c_MM_to ((c_MM_open (a4).toNatClampNeg)).toNatClampNeg) = a1 then some (Sum.inl ()) else fMM_wasThrough_l10 a1 a3 c_MM_to c_MM_open n (a4 + (1 : Int32))))))
def fMM_wasThrough (a1 : Int32) (a2 : Int32) (a3 : Int32) (c_MM_to : (Nat → Int32)) (c_MM_open : (Nat → Int32)) : Option Int32 := (if a1 = a2 then some (1 : Int32) else ob (fMM_wasThrough_l10 a1 a3 c_MM_to c_MM_open FU (0 : Int32)) (Sum.elim (fun e4 => some (1 : Int32)) (fun e5 => some (0 : Int32))))
def fMM_search_l58 (a1 : Int32) (a2 : Int32) (a3 : Int32) (a4 : Int32) (a6 : Int32) (c_MM_markets : Int32) (c_MM_from : (Nat → Int32)) (c_MM_to : (Nat → Int32)) (c_MM_open : (Nat → Int32)) : Nat → Int32 → Option (Int32)
  | 0, _ => none
  | n + 1, a5 => (if c_MM_markets ≤ a5 then some (a5) else gd (inb a5 20) ((if (c_MM_from (a5).toNatClampNeg) = a6 then gd (inb a5 20) (ob (fMM_wasThrough (c_MM_to (a5).toNatClampNeg) a1 a4 c_MM_to c_MM_open) (fun e6 => (if e6 = (0 : Int32) then some (a5) else fMM_search_l58 a1 a2 a3 a4 a6 c_MM_markets c_MM_from c_MM_to c_MM_open n (a5 + (1 : Int32))))) else fMM_search_l58 a1 a2 a3 a4 a6 c_MM_markets c_MM_from c_MM_to c_MM_open n (a5 + (1 : Int32)))))
def fMM_search_l17 (a1 : Int32) (a2 : Int32) (a3 : Int32) (c_MM_markets : Int32) (c_MM_from : (Nat → Int32)) (c_MM_gives : (Nat → Int32)) (c_MM_to : (Nat → Int32)) (c_MM_gets : (Nat → Int32)) : Nat → Int32 → (Nat → Int32) → (Nat → Int64) → (Nat → Int32) → Int32 → Int64 → Option (((Nat → Int32) × (Nat → Int64) × (Nat → Int32) × Int32 × Int64))
  | 0, _, _, _, _, _, _ => none
  | n + 1, a4, c_MM_open, c_MM_much, c_MM_bestRow, c_MM_bestLong, c_MM_best => (if a4 < (0 : Int32) then some ((c_MM_open, c_MM_much, c_MM_bestRow, c_MM_bestLong, c_MM_best)) else gd (inb a4 6) ((if a4 = (0 : Int32) then ob (fMM_search_l58 a1 a2 a3 a4 a1 c_MM_markets c_MM_from c_MM_to c_MM_open FU ((c_MM_open (a4).toNatClampNeg) + (1 : Int32))) (fun e24 => (if e24 = c_MM_markets then fMM_search_l17 a1 a2 a3 c_MM_markets c_MM_from c_MM_gives c_MM_to c_MM_gets n (a4 + (-1 : Int32)) c_MM_open c_MM_much c_MM_bestRow c_MM_bestLong c_MM_best else gd (inb a4 6) ((if a4 = (0 : Int32) then gd (inb e24 20) (gd (nzL ((c_MM_gives (e24).toNatClampNeg)).toInt64) (gd (inb e24 20) (gd (inb a4 6) (gd (inb e24 20) ((if (c_MM_to (e24).toNatClampNeg) = a3 then ob (fMM_found (a4 + (1 : Int32)) (upd c_MM_open (a4).toNatClampNeg e24) (vp_updL c_MM_much (a4).toNatClampNeg (((a2).toInt64 / ((c_MM_gives (e24).toNatClampNeg)).toInt64) * ((c_MM_gets (e24).toNatClampNeg)).toInt64)) c_MM_bestRow c_MM_bestLong c_MM_best) (fun e40 => fMM_search_l17 a1 a2 a3 c_MM_markets c_MM_from c_MM_gives c_MM_to c_MM_gets n a4 (upd c_MM_open (a4).toNatClampNeg e24) (vp_updL c_MM_much (a4).toNatClampNeg (((a2).toInt64 / ((c_MM_gives (e24).toNatClampNeg)).toInt64) * ((c_MM_gets (e24).toNatClampNeg)).toInt64)) e40.1 e40.2.1 e40.2.2) else gd (inb (a4 + (1 : Int32)) 6) (fMM_search_l17 a1 a2 a3 c_MM_markets c_MM_from c_MM_gives c_MM_to c_MM_gets n (a4 + (1 : Int32)) (upd (upd c_MM_open (a4).toNatClampNeg e24) ((a4 + (1 : Int32))).toNatClampNeg (-1 : Int32)) (vp_updL c_MM_much (a4).toNatClampNeg (((a2).toInt64 / ((c_MM_gives (e24).toNatClampNeg)).toInt64) * ((c_MM_gets (e24).toNatClampNeg)).toInt64)) c_MM_bestRow c_MM_bestLong c_MM_best))))))) else gd (inb (a4 - (1 : Int32)) 6) (gd (inb e24 20) (gd (nzL ((c_MM_gives (e24).toNatClampNeg)).toInt64) (gd (inb e24 20) (gd (inb a4 6) (gd (inb e24 20) ((if (c_MM_to (e24).toNatClampNeg) = a3 then ob (fMM_found (a4 + (1 : Int32)) (upd c_MM_open (a4).toNatClampNeg e24) (vp_updL c_MM_much (a4).toNatClampNeg (((c_MM_much ((a4 - (1 : Int32))).toNatClampNeg) / ((c_MM_gives (e24).toNatClampNeg)).toInt64) * ((c_MM_gets (e24).toNatClampNeg)).toInt64)) c_MM_bestRow c_MM_bestLong c_MM_best) (fun e33 => fMM_search_l17 a1 a2 a3 c_MM_markets c_MM_from c_MM_gives c_MM_to c_MM_gets n a4 (upd c_MM_open (a4).toNatClampNeg e24) (vp_updL c_MM_much (a4).toNatClampNeg (((c_MM_much ((a4 - (1 : Int32))).toNatClampNeg) / ((c_MM_gives (e24).toNatClampNeg)).toInt64) * ((c_MM_gets (e24).toNatClampNeg)).toInt64)) e33.1 e33.2.1 e33.2.2) else gd (inb (a4 + (1 : Int32)) 6) (fMM_search_l17 a1 a2 a3 c_MM_markets c_MM_from c_MM_gives c_MM_to c_MM_gets n (a4 + (1 : Int32)) (upd (upd c_MM_open (a4).toNatClampNeg e24) ((a4 + (1 : Int32))).toNatClampNeg (-1 : Int32)) (vp_updL c_MM_much (a4).toNatClampNeg (((c_MM_much ((a4 - (1 : Int32))).toNatClampNeg) / ((c_MM_gives (e24).toNatClampNeg)).toInt64) * ((c_MM_gets (e24).toNatClampNeg)).toInt64)) c_MM_bestRow c_MM_bestLong c_MM_best)))))))))))) else gd (inb (a4 - (1 : Int32)) 6) (gd (inb (c_MM_open ((a4 - (1 : Int32))).toNatClampNeg) 20) (ob (fMM_search_l58 a1 a2 a3 a4 (c_MM_to ((c_MM_open ((a4 - (1 : Int32))).toNatClampNeg)).toNatClampNeg) c_MM_markets c_MM_from c_MM_to c_MM_open FU ((c_MM_open (a4).toNatClampNeg) + (1 : Int32))) (fun e7 => (if e7 = c_MM_markets then fMM_search_l17 a1 a2 a3 c_MM_markets c_MM_from c_MM_gives c_MM_to c_MM_gets n (a4 + (-1 : Int32)) c_MM_open c_MM_much c_MM_bestRow c_MM_bestLong c_MM_best else gd (inb a4 6) ((if a4 = (0 : Int32) then gd (inb e7 20) (gd (nzL ((c_MM_gives (e7).toNatClampNeg)).toInt64) (gd (inb e7 20) (gd (inb a4 6) (gd (inb e7 20) ((if (c_MM_to (e7).toNatClampNeg) = a3 then ob (fMM_found (a4 + (1 : Int32)) (upd c_MM_open (a4).toNatClampNeg e7) (vp_updL c_MM_much (a4).toNatClampNeg (((a2).toInt64 / ((c_MM_gives (e7).toNatClampNeg)).toInt64) * ((c_MM_gets (e7).toNatClampNeg)).toInt64)) c_MM_bestRow c_MM_bestLong c_MM_best) (fun e23 => fMM_search_l17 a1 a2 a3 c_MM_markets c_MM_from c_MM_gives c_MM_to c_MM_gets n a4 (upd c_MM_open (a4).toNatClampNeg e7) (vp_updL c_MM_much (a4).toNatClampNeg (((a2).toInt64 / ((c_MM_gives (e7).toNatClampNeg)).toInt64) * ((c_MM_gets (e7).toNatClampNeg)).toInt64)) e23.1 e23.2.1 e23.2.2) else gd (inb (a4 + (1 : Int32)) 6) (fMM_search_l17 a1 a2 a3 c_MM_markets c_MM_from c_MM_gives c_MM_to c_MM_gets n (a4 + (1 : Int32)) (upd (upd c_MM_open (a4).toNatClampNeg e7) ((a4 + (1 : Int32))).toNatClampNeg (-1 : Int32)) (vp_updL c_MM_much (a4).toNatClampNeg (((a2).toInt64 / ((c_MM_gives (e7).toNatClampNeg)).toInt64) * ((c_MM_gets (e7).toNatClampNeg)).toInt64)) c_MM_bestRow c_MM_bestLong c_MM_best))))))) else gd (inb (a4 - (1 : Int32)) 6) (gd (inb e7 20) (gd (nzL ((c_MM_gives (e7).toNatClampNeg)).toInt64) (gd (inb e7 20) (gd (inb a4 6) (gd (inb e7 20) ((if (c_MM_to (e7).toNatClampNeg) = a3 then ob (fMM_found (a4 + (1 : Int32)) (upd c_MM_open (a4).toNatClampNeg e7) (vp_updL c_MM_much (a4).toNatClampNeg (((c_MM_much ((a4 - (1 : Int32))).toNatClampNeg) / ((c_MM_gives (e7).toNatClampNeg)).toInt64) * ((c_MM_gets (e7).toNatClampNeg)).toInt64)) c_MM_bestRow c_MM_bestLong c_MM_best) (fun e16 => fMM_search_l17 a1 a2 a3 c_MM_markets c_MM_from c_MM_gives c_MM_to c_MM_gets n a4 (upd c_MM_open (a4).toNatClampNeg e7) (vp_updL c_MM_much (a4).toNatClampNeg (((c_MM_much ((a4 - (1 : Int32))).toNatClampNeg) / ((c_MM_gives (e7).toNatClampNeg)).toInt64) * ((c_MM_gets (e7).toNatClampNeg)).toInt64)) e16.1 e16.2.1 e16.2.2) else gd (inb (a4 + (1 : Int32)) 6) (fMM_search_l17 a1 a2 a3 c_MM_markets c_MM_from c_MM_gives c_MM_to c_MM_gets n (a4 + (1 : Int32)) (upd (upd c_MM_open (a4).toNatClampNeg e7) ((a4 + (1 : Int32))).toNatClampNeg (-1 : Int32)) (vp_updL c_MM_much (a4).toNatClampNeg (((c_MM_much ((a4 - (1 : Int32))).toNatClampNeg) / ((c_MM_gives (e7).toNatClampNeg)).toInt64) * ((c_MM_gets (e7).toNatClampNeg)).toInt64)) c_MM_bestRow c_MM_bestLong c_MM_best)))))))))))))))))
def fMM_search (a1 : Int32) (a2 : Int32) (a3 : Int32) (c_MM_markets : Int32) (c_MM_from : (Nat → Int32)) (c_MM_gives : (Nat → Int32)) (c_MM_to : (Nat → Int32)) (c_MM_gets : (Nat → Int32)) (c_MM_open : (Nat → Int32)) (c_MM_much : (Nat → Int64)) (c_MM_bestRow : (Nat → Int32)) (c_MM_bestLong : Int32) (c_MM_best : Int64) : Option ((Nat → Int32) × (Nat → Int64) × (Nat → Int32) × Int32 × Int64) := ob (fMM_search_l17 a1 a2 a3 c_MM_markets c_MM_from c_MM_gives c_MM_to c_MM_gets FU (0 : Int32) (upd c_MM_open ((0 : Int32)).toNatClampNeg (-1 : Int32)) c_MM_much c_MM_bestRow c_MM_bestLong (-1 : Int64)) (fun e41 => some (e41.1, e41.2.1, e41.2.2.1, e41.2.2.2.1, e41.2.2.2.2))
def fMM_barter_l61 (c_MM_bestRow : (Nat → Int32)) (c_MM_bestLong : Int32) : Nat → Int32 → (Nat → Int32) → Option ((Nat → Int32))
  | 0, _, _ => none
  | n + 1, a4, c_MM_row => (if c_MM_bestLong ≤ a4 then some (c_MM_row) else gd (inb a4 6) (gd (inb a4 6) (fMM_barter_l61 c_MM_bestRow c_MM_bestLong n (a4 + (1 : Int32)) (upd c_MM_row (a4).toNatClampNeg (c_MM_bestRow (a4).toNatClampNeg)))))
def fMM_barter (a1 : Int32) (a2 : Int32) (a3 : Int32) (c_MM_markets : Int32) (c_MM_from : (Nat → Int32)) (c_MM_gives : (Nat → Int32)) (c_MM_to : (Nat → Int32)) (c_MM_gets : (Nat → Int32)) (c_MM_open : (Nat → Int32)) (c_MM_much : (Nat → Int64)) (c_MM_bestRow : (Nat → Int32)) (c_MM_bestLong : Int32) (c_MM_rowLong : Int32) (c_MM_row : (Nat → Int32)) (c_MM_best : Int64) : Option (Int32 × (Nat → Int32) × (Nat → Int64) × (Nat → Int32) × Int32 × Int32 × (Nat → Int32) × Int64) := (if (fMM_isGood a1) = (0 : Int32) then some ((-1 : Int32), c_MM_open, c_MM_much, c_MM_bestRow, c_MM_bestLong, c_MM_rowLong, c_MM_row, c_MM_best) else (if (fMM_isGood a3) = (0 : Int32) then some ((-1 : Int32), c_MM_open, c_MM_much, c_MM_bestRow, c_MM_bestLong, c_MM_rowLong, c_MM_row, c_MM_best) else (if a1 = a3 then some ((-1 : Int32), c_MM_open, c_MM_much, c_MM_bestRow, c_MM_bestLong, c_MM_rowLong, c_MM_row, c_MM_best) else (if (fMM_isIn a2 (1 : Int32) (9999 : Int32)) = (0 : Int32) then some ((-1 : Int32), c_MM_open, c_MM_much, c_MM_bestRow, c_MM_bestLong, c_MM_rowLong, c_MM_row, c_MM_best) else ob (fMM_search a1 a2 a3 c_MM_markets c_MM_from c_MM_gives c_MM_to c_MM_gets c_MM_open c_MM_much c_MM_bestRow c_MM_bestLong c_MM_best) (fun e1 => (if (0 : Int32) ≤ (lg_cmp e1.2.2.2.2 (0 : Int64)) then ob (fMM_barter_l61 e1.2.2.1 e1.2.2.2.1 FU (0 : Int32) c_MM_row) (fun e4 => (if (lg_cmp e1.2.2.2.2 (1000000000 : Int64)) ≤ (0 : Int32) then some ((e1.2.2.2.2).toInt32, e1.1, e1.2.1, e1.2.2.1, e1.2.2.2.1, e1.2.2.2.1, e4, e1.2.2.2.2) else some ((1000000000 : Int32), e1.1, e1.2.1, e1.2.2.1, e1.2.2.2.1, e1.2.2.2.1, e4, e1.2.2.2.2))) else some ((-1 : Int32), e1.1, e1.2.1, e1.2.2.1, e1.2.2.2.1, c_MM_rowLong, c_MM_row, e1.2.2.2.2)))))))
def fMM_bartered (a1 : Int32) (c_MM_rowLong : Int32) (c_MM_row : (Nat → Int32)) : Option Int32 := (if (fMM_isIn a1 (0 : Int32) (c_MM_rowLong - (1 : Int32))) = (0 : Int32) then some (-1 : Int32) else gd (inb a1 6) (some (c_MM_row (a1).toNatClampNeg)))
def fMM_yields (a1 : Int32) (a2 : Int32) (c_MM_yield2 : (Nat → Int32)) : Option (Int32 × (Nat → Int32)) := (if (fMM_isTown a1) = (0 : Int32) then some ((0 : Int32), c_MM_yield2) else (if (fMM_isIn a2 (0 : Int32) (10000 : Int32)) = (0 : Int32) then some ((0 : Int32), c_MM_yield2) else gd (inb a1 16) (some ((1 : Int32), (upd c_MM_yield2 (a1).toNatClampNeg a2)))))
def fMM_parted_l5 (a1 : Int32) (a2 : Int32) (c_MM_yield2 : (Nat → Int32)) : Nat → Int32 → Int32 → (Nat → Int32) → Option ((Int32 × (Nat → Int32)))
  | 0, _, _, _ => none
  | n + 1, a3, a4, c_MM_hasMore => (if (16 : Int32) ≤ a4 then some ((a3, c_MM_hasMore)) else gd (inb a4 16) (gd (inb a4 16) (fMM_parted_l5 a1 a2 c_MM_yield2 n (a3 + (c_MM_yield2 (a4).toNatClampNeg)) (a4 + (1 : Int32)) (upd c_MM_hasMore (a4).toNatClampNeg (vp_nar .boolean (0 : Int32))))))
def fMM_parted_l65 (a1 : Int32) (a2 : Int32) (a3 : Int32) (c_MM_yield2 : (Nat → Int32)) : Nat → Int32 → Int32 → Option (Int32)
  | 0, _, _ => none
  | n + 1, a4, a5 => (if (16 : Int32) ≤ a5 then some (a4) else gd (inb a5 16) (gd (nzL (a3).toInt64) (fMM_parted_l65 a1 a2 a3 c_MM_yield2 n (a4 - ((((a1).toInt64 * ((c_MM_yield2 (a5).toNatClampNeg)).toInt64) / (a3).toInt64)).toInt32) (a5 + (1 : Int32)))))
def fMM_parted_l114 (a1 : Int32) (a2 : Int32) (a3 : Int32) (a4 : Int32) (a5 : Int32) (c_MM_yield2 : (Nat → Int32)) (c_MM_hasMore : (Nat → Int32)) : Nat → Int32 → Int32 → Option (Int32)
  | 0, _, _ => none
  | n + 1, a6, a7 => (if (16 : Int32) ≤ a7 then some (a6) else gd (inb a7 16) ((if (c_MM_hasMore (a7).toNatClampNeg) = (0 : Int32) then (if a6 < (0 : Int32) then fMM_parted_l114 a1 a2 a3 a4 a5 c_MM_yield2 c_MM_hasMore n a7 (a7 + (1 : Int32)) else gd (inb a7 16) (gd (nzL (a3).toInt64) (gd (inb a6 16) (gd (nzL (a3).toInt64) ((if (lg_cmp (((a1).toInt64 * ((c_MM_yield2 (a7).toNatClampNeg)).toInt64) - ((a1).toInt64 * ((c_MM_yield2 (a7).toNatClampNeg)).toInt64) / (a3).toInt64 * (a3).toInt64) (((a1).toInt64 * ((c_MM_yield2 (a6).toNatClampNeg)).toInt64) - ((a1).toInt64 * ((c_MM_yield2 (a6).toNatClampNeg)).toInt64) / (a3).toInt64 * (a3).toInt64)) ≤ (0 : Int32) then fMM_parted_l114 a1 a2 a3 a4 a5 c_MM_yield2 c_MM_hasMore n a6 (a7 + (1 : Int32)) else fMM_parted_l114 a1 a2 a3 a4 a5 c_MM_yield2 c_MM_hasMore n a7 (a7 + (1 : Int32)))))))) else fMM_parted_l114 a1 a2 a3 a4 a5 c_MM_yield2 c_MM_hasMore n a6 (a7 + (1 : Int32)))))
def fMM_parted_l101 (a1 : Int32) (a2 : Int32) (a3 : Int32) (a4 : Int32) (c_MM_yield2 : (Nat → Int32)) : Nat → Int32 → (Nat → Int32) → Option ((Nat → Int32))
  | 0, _, _ => none
  | n + 1, a5, c_MM_hasMore => (if a4 ≤ a5 then some (c_MM_hasMore) else ob (fMM_parted_l114 a1 a2 a3 a4 a5 c_MM_yield2 c_MM_hasMore FU (-1 : Int32) (1 : Int32)) (fun e12 => gd (inb e12 16) (fMM_parted_l101 a1 a2 a3 a4 c_MM_yield2 n (a5 + (1 : Int32)) (upd c_MM_hasMore (e12).toNatClampNeg (vp_nar .boolean (1 : Int32))))))
def fMM_parted (a1 : Int32) (a2 : Int32) (c_MM_yield2 : (Nat → Int32)) (c_MM_hasMore : (Nat → Int32)) : Option (Int32 × (Nat → Int32)) := ob (fMM_parted_l5 a1 a2 c_MM_yield2 FU (0 : Int32) (1 : Int32) c_MM_hasMore) (fun e3 => (if (fMM_isIn a1 (0 : Int32) (100000 : Int32)) = (0 : Int32) then some ((-1 : Int32), e3.2) else (if (fMM_isTown a2) = (0 : Int32) then some ((-1 : Int32), e3.2) else (if e3.1 = (0 : Int32) then some ((-1 : Int32), e3.2) else ob (fMM_parted_l65 a1 a2 e3.1 c_MM_yield2 FU a1 (1 : Int32)) (fun e6 => ob (fMM_parted_l101 a1 a2 e3.1 e6 c_MM_yield2 FU (0 : Int32) e3.2) (fun e14 => gd (inb a2 16) (gd (nzL (e3.1).toInt64) (gd (inb a2 16) ((if (e14 (a2).toNatClampNeg) = (0 : Int32) then some ((((((a1).toInt64 * ((c_MM_yield2 (a2).toNatClampNeg)).toInt64) / (e3.1).toInt64)).toInt32 + (0 : Int32)), e14) else some ((((((a1).toInt64 * ((c_MM_yield2 (a2).toNatClampNeg)).toInt64) / (e3.1).toInt64)).toInt32 + (1 : Int32)), e14)))))))))))
def fMM_about_l25 (a1 : Int32) (c_MM_readAt : (Nat → Int32)) : Nat → Int32 → Int32 → Option (Int32)
  | 0, _, _ => none
  | n + 1, a2, a3 => (if (5 : Int32) ≤ a3 then some (a2) else gd (inb a3 5) ((if (c_MM_readAt (a3).toNatClampNeg) ≤ (0 : Int32) then fMM_about_l25 a1 c_MM_readAt n (a2 + (0 : Int32)) (a3 + (1 : Int32)) else fMM_about_l25 a1 c_MM_readAt n (a2 + (1 : Int32)) (a3 + (1 : Int32)))))
def fMM_about (a1 : Int32) (c_MM_clock : Int32) (c_MM_quarters : Int32) (c_MM_weight : (Nat → Int32)) (c_MM_load : Int32) (c_MM_readAt : (Nat → Int32)) (c_MM_sendings : Int32) (c_MM_stored : Int32) (c_MM_taped : Int32) (c_MM_markets : Int32) : Option Int32 := (if (fMM_isIn a1 (10 : Int32) (15 : Int32)) = (0 : Int32) then ob (fMM_about_l25 a1 c_MM_readAt FU (0 : Int32) (0 : Int32)) (fun e2 => (if a1 = (0 : Int32) then some (c_MM_clock) else if a1 = (1 : Int32) then some (c_MM_quarters) else if a1 = (2 : Int32) then some (c_MM_sendings) else if a1 = (3 : Int32) then some (c_MM_stored) else if a1 = (4 : Int32) then some (c_MM_markets) else if a1 = (5 : Int32) then some (c_MM_load) else if a1 = (6 : Int32) then some (c_MM_taped) else if a1 = (7 : Int32) then some (e2) else some (-1 : Int32))) else gd (inb (a1 - (10 : Int32)) 6) (some (c_MM_weight ((a1 - (10 : Int32))).toNatClampNeg)))
end
section
theorem dslen_0 : decode prog_14_method_54_code 0 = .ok (.aload_n 0, 1) := by decide +kernel
theorem dslen_1 : decode prog_14_method_54_code 1 = .ok (.getfield 9, 3) := by decide +kernel
theorem dslen_4 : decode prog_14_method_54_code 4 = .ok (.arraylength, 1) := by decide +kernel
theorem dslen_5 : decode prog_14_method_54_code 5 = .ok (.aload_n 0, 1) := by decide +kernel
theorem dslen_6 : decode prog_14_method_54_code 6 = .ok (.invokevirtual 335, 3) := by decide +kernel
theorem dslen_9 : decode prog_14_method_54_code 9 = .ok (.ishr, 1) := by decide +kernel
theorem dslen_10 : decode prog_14_method_54_code 10 = .ok (.ireturn, 1) := by decide +kernel
theorem dschar_0 : decode prog_14_method_56_code 0 = .ok (.aload_n 0, 1) := by decide +kernel
theorem dschar_1 : decode prog_14_method_56_code 1 = .ok (.invokevirtual 492, 3) := by decide +kernel
theorem dschar_4 : decode prog_14_method_56_code 4 = .ok (.ifCond .eq 12, 3) := by decide +kernel
theorem dschar_7 : decode prog_14_method_56_code 7 = .ok (.aload_n 0, 1) := by decide +kernel
theorem dschar_8 : decode prog_14_method_56_code 8 = .ok (.getfield 9, 3) := by decide +kernel
theorem dschar_11 : decode prog_14_method_56_code 11 = .ok (.iload_n 1, 1) := by decide +kernel
theorem dschar_12 : decode prog_14_method_56_code 12 = .ok (.invokestatic 495, 3) := by decide +kernel
theorem dschar_15 : decode prog_14_method_56_code 15 = .ok (.ireturn, 1) := by decide +kernel
theorem dschar_16 : decode prog_14_method_56_code 16 = .ok (.aload_n 0, 1) := by decide +kernel
theorem dschar_17 : decode prog_14_method_56_code 17 = .ok (.getfield 9, 3) := by decide +kernel
theorem dschar_20 : decode prog_14_method_56_code 20 = .ok (.iload_n 1, 1) := by decide +kernel
theorem dschar_21 : decode prog_14_method_56_code 21 = .ok (.invokestatic 498, 3) := by decide +kernel
theorem dschar_24 : decode prog_14_method_56_code 24 = .ok (.ireturn, 1) := by decide +kernel
abbrev ycod : MethodName := ⟨"java/lang/String", "coder", "()B"⟩
theorem dcod_0 : decode prog_14_method_152_code 0 = .ok (.getstatic 38, 3) := by decide +kernel
theorem dcod_3 : decode prog_14_method_152_code 3 = .ok (.ifCond .eq 10, 3) := by decide +kernel
theorem dcod_6 : decode prog_14_method_152_code 6 = .ok (.aload_n 0, 1) := by decide +kernel
theorem dcod_7 : decode prog_14_method_152_code 7 = .ok (.getfield 15, 3) := by decide +kernel
theorem dcod_10 : decode prog_14_method_152_code 10 = .ok (.goto 4, 3) := by decide +kernel
theorem dcod_13 : decode prog_14_method_152_code 13 = .ok (.iconst 1, 1) := by decide +kernel
theorem dcod_14 : decode prog_14_method_152_code 14 = .ok (.ireturn, 1) := by decide +kernel
abbrev yisl : MethodName := ⟨"java/lang/String", "isLatin1", "()Z"⟩
theorem disl_0 : decode prog_14_method_154_code 0 = .ok (.getstatic 38, 3) := by decide +kernel
theorem disl_3 : decode prog_14_method_154_code 3 = .ok (.ifCond .eq 14, 3) := by decide +kernel
theorem disl_6 : decode prog_14_method_154_code 6 = .ok (.aload_n 0, 1) := by decide +kernel
theorem disl_7 : decode prog_14_method_154_code 7 = .ok (.getfield 15, 3) := by decide +kernel
theorem disl_10 : decode prog_14_method_154_code 10 = .ok (.ifCond .ne 7, 3) := by decide +kernel
theorem disl_13 : decode prog_14_method_154_code 13 = .ok (.iconst 1, 1) := by decide +kernel
theorem disl_14 : decode prog_14_method_154_code 14 = .ok (.goto 4, 3) := by decide +kernel
theorem disl_17 : decode prog_14_method_154_code 17 = .ok (.iconst 0, 1) := by decide +kernel
theorem disl_18 : decode prog_14_method_154_code 18 = .ok (.ireturn, 1) := by decide +kernel
abbrev ysci : MethodName := ⟨"java/lang/String", "checkIndex", "(II)V"⟩
theorem dsci_0 : decode prog_14_method_155_code 0 = .ok (.iload_n 0, 1) := by decide +kernel
theorem dsci_1 : decode prog_14_method_155_code 1 = .ok (.iload_n 1, 1) := by decide +kernel
theorem dsci_2 : decode prog_14_method_155_code 2 = .ok (.getstatic 1053, 3) := by decide +kernel
theorem dsci_5 : decode prog_14_method_155_code 5 = .ok (.invokestatic 1059, 3) := by decide +kernel
theorem dsci_8 : decode prog_14_method_155_code 8 = .ok (.pop, 1) := by decide +kernel
theorem dsci_9 : decode prog_14_method_155_code 9 = .ok (.return_, 1) := by decide +kernel
abbrev ylch : MethodName := ⟨"java/lang/StringLatin1", "charAt", "([BI)C"⟩
theorem dlch_0 : decode prog_15_method_2_code 0 = .ok (.iload_n 1, 1) := by decide +kernel
theorem dlch_1 : decode prog_15_method_2_code 1 = .ok (.aload_n 0, 1) := by decide +kernel
theorem dlch_2 : decode prog_15_method_2_code 2 = .ok (.arraylength, 1) := by decide +kernel
theorem dlch_3 : decode prog_15_method_2_code 3 = .ok (.invokestatic 9, 3) := by decide +kernel
theorem dlch_6 : decode prog_15_method_2_code 6 = .ok (.aload_n 0, 1) := by decide +kernel
theorem dlch_7 : decode prog_15_method_2_code 7 = .ok (.iload_n 1, 1) := by decide +kernel
theorem dlch_8 : decode prog_15_method_2_code 8 = .ok (.baload, 1) := by decide +kernel
theorem dlch_9 : decode prog_15_method_2_code 9 = .ok (.sipush 255, 3) := by decide +kernel
theorem dlch_12 : decode prog_15_method_2_code 12 = .ok (.iand, 1) := by decide +kernel
theorem dlch_13 : decode prog_15_method_2_code 13 = .ok (.i2c, 1) := by decide +kernel
theorem dlch_14 : decode prog_15_method_2_code 14 = .ok (.ireturn, 1) := by decide +kernel
abbrev ypci : MethodName := ⟨"jdk/internal/util/Preconditions", "checkIndex", "(IILjava/util/function/BiFunction;)I"⟩
theorem dpci_0 : decode prog_19_method_11_code 0 = .ok (.iload_n 0, 1) := by decide +kernel
theorem dpci_1 : decode prog_19_method_11_code 1 = .ok (.ifCond .lt 8, 3) := by decide +kernel
theorem dpci_4 : decode prog_19_method_11_code 4 = .ok (.iload_n 0, 1) := by decide +kernel
theorem dpci_5 : decode prog_19_method_11_code 5 = .ok (.iload_n 1, 1) := by decide +kernel
theorem dpci_6 : decode prog_19_method_11_code 6 = .ok (.if_icmp .lt 10, 3) := by decide +kernel
theorem dpci_9 : decode prog_19_method_11_code 9 = .ok (.aload_n 2, 1) := by decide +kernel
theorem dpci_10 : decode prog_19_method_11_code 10 = .ok (.iload_n 0, 1) := by decide +kernel
theorem dpci_11 : decode prog_19_method_11_code 11 = .ok (.iload_n 1, 1) := by decide +kernel
theorem dpci_12 : decode prog_19_method_11_code 12 = .ok (.invokestatic 95, 3) := by decide +kernel
theorem dpci_15 : decode prog_19_method_11_code 15 = .ok (.athrow, 1) := by decide +kernel
theorem dpci_16 : decode prog_19_method_11_code 16 = .ok (.iload_n 0, 1) := by decide +kernel
theorem dpci_17 : decode prog_19_method_11_code 17 = .ok (.ireturn, 1) := by decide +kernel
theorem fl_val : Cond.fieldLink "java/lang/String" 9 "java/lang/String" "value" "[B" ∈ gw := mg (i := 1139) (by decide +kernel) rfl
theorem fl_cs : Cond.fieldLink "java/lang/String" 38 "java/lang/String" "COMPACT_STRINGS" "Z" ∈ gw := mg (i := 446) (by decide +kernel) rfl
theorem fl_cod : Cond.fieldLink "java/lang/String" 15 "java/lang/String" "coder" "B" ∈ gw := mg (i := 1140) (by decide +kernel) rfl
theorem fl_fmt : Cond.fieldLink "java/lang/String" 1053 "jdk/internal/util/Preconditions" "SIOOBE_FORMATTER" "Ljava/util/function/BiFunction;" ∈ gw := mg (i := 462) (by decide +kernel) rfl
theorem kj_cod : kV "java/lang/String" 335 "java/lang/String" ycod prog_14_method_152_code 1 (some .byte) 0 := ⟨(mg (i := 442) (by decide +kernel) rfl), (mg (i := 443) (by decide +kernel) rfl), (mg (i := 444) (by decide +kernel) rfl), (mg (i := 54) (by decide +kernel) rfl), (mg (i := 445) (by decide +kernel) rfl), ⟨by decide, by decide, by decide +kernel⟩, by decide⟩
theorem kj_isl : kV "java/lang/String" 492 "java/lang/String" yisl prog_14_method_154_code 1 (some .boolean) 0 := ⟨(mg (i := 452) (by decide +kernel) rfl), (mg (i := 453) (by decide +kernel) rfl), (mg (i := 454) (by decide +kernel) rfl), (mg (i := 54) (by decide +kernel) rfl), (mg (i := 455) (by decide +kernel) rfl), ⟨by decide, by decide, by decide +kernel⟩, by decide⟩
theorem kj_lch : kS "java/lang/String" 495 ylch prog_15_method_2_code 2 (some .char) 2 := ⟨(mg (i := 456) (by decide +kernel) rfl), (mg (i := 457) (by decide +kernel) rfl), (mg (i := 55) (by decide +kernel) rfl), (mg (i := 458) (by decide +kernel) rfl), ⟨by decide, by decide, by decide +kernel⟩, by decide⟩
theorem kj_sci : kS "java/lang/StringLatin1" 9 ysci prog_14_method_155_code 2 none 2 := ⟨(mg (i := 459) (by decide +kernel) rfl), (mg (i := 460) (by decide +kernel) rfl), (mg (i := 54) (by decide +kernel) rfl), (mg (i := 461) (by decide +kernel) rfl), ⟨by decide, by decide, by decide +kernel⟩, by decide⟩
theorem kj_pci : kS "java/lang/String" 1059 ypci prog_19_method_11_code 3 (some .int) 3 := ⟨(mg (i := 464) (by decide +kernel) rfl), (mg (i := 465) (by decide +kernel) rfl), (mg (i := 56) (by decide +kernel) rfl), (mg (i := 466) (by decide +kernel) rfl), ⟨by decide, by decide, by decide +kernel⟩, by decide⟩
section STRS
variable {G : GG} {X : CX} {own : String} {cc : ByteArray} {nL lv pc : Nat} {rt : Option FieldType} {Q : State → Prop} {S : ST} {L L' : List (Nat × Value)} {st : List Value}
theorem at_i2c (C : Cx G X own cc nL lv rt) {x y : Int32} (hv : (x.toUInt32 % 65536).toInt32 = y) (d : decode cc pc = .ok (.i2c, 1)) (kk : At G X nL Q (pc + 1) L (.int y :: st) S) : At G X nL Q pc L (.int x :: st) S := fun ls H locs hl hP hS => lv_i2c C.1 C.2.1 d hv (kk ls H locs hl hP hS)
theorem at_gets (C : Cx G X own cc nL lv rt) {cn n ds : String} {w : Value} {idx : Nat} (hZ : va_Z cn n ds w (Aw G) (xs X) (xs X).heap) (hlink : Cond.fieldLink own idx cn n ds ∈ gw) (d : decode cc pc = .ok (.getstatic idx, 3)) (kk : At G X nL Q (pc + 3) L (w :: st) S) : At G X nL Q pc L st S := fun ls H locs hl hP hS => va_gets C.1 C.2.1 hZ hS C.2.2.2.1 (C.2.2.2.2.1 _ hlink) (fun _ h => h) d (kk ls H locs hl hP hS)
theorem at_sval (C : Cx G X "java/lang/String" cc nL lv rt) (d : decode cc pc = .ok (.getfield 9, 3)) (kk : At G X nL Q (pc + 3) L (.ref G.2.2.2.2 :: st) S) : At G X nL Q pc L (.ref G.2.2.2.1 :: st) S := fun ls H locs hl hP hS => vk_getf C.1 C.2.1 (C.2.2.2.2.2.1.2.2.2.1.1 0 (by decide)).2.2.1 hS C.2.2.2.1 (C.2.2.2.2.1 _ fl_val) (fun _ h => h) d (kk ls H locs hl hP hS)
theorem at_scod (C : Cx G X "java/lang/String" cc nL lv rt) (d : decode cc pc = .ok (.getfield 15, 3)) (kk : At G X nL Q (pc + 3) L (.int 0 :: st) S) : At G X nL Q pc L (.ref G.2.2.2.1 :: st) S := fun ls H locs hl hP hS => vk_getf C.1 C.2.1 (C.2.2.2.2.2.1.2.2.2.1.1 0 (by decide)).2.1 hS C.2.2.2.1 (C.2.2.2.2.1 _ fl_cod) (fun _ h => h) d (kk ls H locs hl hP hS)
theorem at_vlen (C : Cx G X own cc nL lv rt) (d : decode cc pc = .ok (.arraylength, 1)) (kk : At G X nL Q (pc + 1) L (.int 4 :: st) S) : At G X nL Q pc L (.ref G.2.2.2.2 :: st) S := fun ls H locs hl hP hS => va_tlen C.1 C.2.1 (C.2.2.2.2.2.1.2.2.2.1.1 0 (by decide)).2.2.2 hS (by decide) d (kk ls H locs hl hP hS)
theorem at_vld (C : Cx G X own cc nL lv rt) {i : Int32} (hi : inb i 4 = true) (d : decode cc pc = .ok (.baload, 1)) (kk : At G X nL Q (pc + 1) L (.int (town i) :: st) S) : At G X nL Q pc L (.int i :: .ref G.2.2.2.2 :: st) S := fun ls H locs hl hP hS => va_tb C.1 C.2.1 (C.2.2.2.2.2.1.2.2.2.1.1 0 (by decide)).2.2.2 hS (inb_in hi) rfl d (kk ls H locs hl hP hS)
theorem at_callZ {idx n j mL : Nat} {y : MethodName} {bytes : ByteArray} {ret : Option FieldType} {r : Int32} {As st0 : List Value} (C : Cx G X own cc nL lv rt) (hk : kV own idx "java/lang/String" y bytes mL ret n) (hM : Met (xl X) y (.code y bytes mL ret :: gw) (rmm j) (PcW G (.ref G.2.2.2.1 :: As) S) (Qw G (some (.int r)) S) 0 0 (Aw G)) (hj : j < lv) (hn : As.length = n) (hst : st0 = As.reverse ++ .ref G.2.2.2.1 :: st) (hcat : (st.map fun v => v.category).sum ≤ 8) (d : decode cc pc = .ok (.invokevirtual idx, 3)) (kk : At G X nL Q (pc + 3) L (.int r :: st) S) : At G X nL Q pc L st0 S := by
  intro ls H locs hl hP hS
  obtain ⟨k1, k2, k3, k4, k5, k6, k7⟩ := hk
  have hts := C.2.2.2.2.1
  refine at_run (vr := some (.int r)) _ hl hS (va_runV (As := As) (C := "java/lang/String") (cc := cc) (nL := nL) (Ts := gw) (own := own) (n := n) ⟨C.1, C.2.1, C.2.2.1, C.2.2.2.1, hts⟩ hM ⟨callB_of n hts (gw_good k5) rfl rfl rfl (hts _ k4) (hts _ k1) k6 (rmm_fit C hj k7), hts _ k2, hts _ k3⟩ ⟨PcW.blind, vk_recv (i := 0) C.2.2.2.2.2.1.2.2.2.1 (by decide) hS, fun U hU hW => ⟨rfl, by rw [hU]; exact hP, C.2.2.2.2.2.1.pass hW hU hS⟩⟩ rfl hn hl.1 hst (lv_room hcat) d C.2.2.2.2.2.2.2.2.2.2.2) kk
theorem ccod {l : Launch} (hG : GOK G) : Met l ycod (.code ycod prog_14_method_152_code 1 (some .byte) :: gw) (rmm 1) (PcW G [.ref G.2.2.2.1] S) (Qw G (some (.int 0)) S) 0 0 (Aw G) := by
  refine met_of (by decide) 1 G hG S _ (Nat.le_of_ble_eq_true rfl) _ _ (fun X _ C => ?_)
  have C : Cx G X "java/lang/String" prog_14_method_152_code 1 1 (some .byte) := C
  show At G X 1 _ 0 [(0, .ref G.2.2.2.1)] [] S
  refine at_gets C C.2.2.2.2.2.1.2.2.2.2.1 fl_cs dcod_0 ?_
  refine at_if_eq C dcod_3 rfl (fun h => absurd h (by decide)) (fun _ => ?_)
  refine at_aload_n (j := 0) C dcod_6 rfl rfl ?_
  refine at_scod C dcod_7 ?_
  refine at_goto C dcod_10 rfl ?_
  exact at_zret (x := 0) C rfl dcod_14
theorem cisl {l : Launch} (hG : GOK G) : Met l yisl (.code yisl prog_14_method_154_code 1 (some .boolean) :: gw) (rmm 1) (PcW G [.ref G.2.2.2.1] S) (Qw G (some (.int 1)) S) 0 0 (Aw G) := by
  refine met_of (by decide) 1 G hG S _ (Nat.le_of_ble_eq_true rfl) _ _ (fun X _ C => ?_)
  have C : Cx G X "java/lang/String" prog_14_method_154_code 1 1 (some .boolean) := C
  show At G X 1 _ 0 [(0, .ref G.2.2.2.1)] [] S
  refine at_gets C C.2.2.2.2.2.1.2.2.2.2.1 fl_cs disl_0 ?_
  refine at_if_eq C disl_3 rfl (fun h => absurd h (by decide)) (fun _ => ?_)
  refine at_aload_n (j := 0) C disl_6 rfl rfl ?_
  refine at_scod C disl_7 ?_
  refine at_if_ne C disl_10 rfl (fun h => absurd rfl h) (fun _ => ?_)
  refine at_iconst (x := 1) C disl_13 (by decide) ?_
  refine at_goto C disl_14 rfl ?_
  exact at_zret (x := 1) C rfl disl_18
theorem cslen {l : Launch} (hG : GOK G) : Met l yslen (.code yslen prog_14_method_54_code 1 (some .int) :: gw) (rmm 2) (PcW G [.ref G.2.2.2.1] S) (Qw G (some (.int 4)) S) 0 0 (Aw G) := by
  refine met_of (by decide) 2 G hG S _ (Nat.le_of_ble_eq_true rfl) _ _ (fun X _ C => ?_)
  have C : Cx G X "java/lang/String" prog_14_method_54_code 1 2 (some .int) := C
  show At G X 1 _ 0 [(0, .ref G.2.2.2.1)] [] S
  refine at_aload_n (j := 0) C dslen_0 rfl rfl ?_
  refine at_sval C dslen_1 ?_
  refine at_vlen C dslen_4 ?_
  refine at_aload_n (j := 0) C dslen_5 rfl rfl ?_
  refine at_callZ (As := []) C kj_cod (ccod hG) (by omega) rfl rfl (Nat.le_of_ble_eq_true rfl) dslen_6 ?_
  refine at_ishr C dslen_9 ?_
  exact at_iret C dslen_10
theorem cpci {l : Launch} (hG : GOK G) {i n : Int32} {w : Value} (hw : w = .null ∨ ∃ t, w = .ref t) (h0 : ¬ i < 0) (h1 : i < n) : Met l ypci (.code ypci prog_19_method_11_code 3 (some .int) :: gw) (rmm 1) (PcW G [.int i, .int n, w] S) (Qw G (some (.int i)) S) 0 0 (Aw G) := by
  have hlen : (lg_sl [.int i, .int n, w]).length ≤ 3 := by
    rcases hw with rfl | ⟨t, rfl⟩ <;> exact Nat.le_of_ble_eq_true rfl
  refine met_of (by decide) 1 G hG S _ hlen _ _ (fun X _ C => ?_)
  have C : Cx G X "jdk/internal/util/Preconditions" prog_19_method_11_code 3 1 (some .int) := C
  show At G X 3 _ 0 [(0, .int i), (1, .int n), (2, w)] [] S
  refine at_iload_n (j := 0) C dpci_0 rfl rfl ?_
  refine at_if_lt C dpci_1 rfl (fun h => absurd h h0) (fun _ => ?_)
  refine at_iload_n (j := 0) C dpci_4 rfl rfl ?_
  refine at_iload_n (j := 1) C dpci_5 rfl rfl ?_
  refine at_icmp_lt C dpci_6 rfl (fun _ => ?_) (fun h => absurd h1 h)
  refine at_iload_n (j := 0) C dpci_16 rfl rfl ?_
  exact at_iret C dpci_17
theorem csci {l : Launch} (hG : GOK G) {i n : Int32} (h0 : ¬ i < 0) (h1 : i < n) : Met l ysci (.code ysci prog_14_method_155_code 2 none :: gw) (rmm 2) (PcW G [.int i, .int n] S) (Qw G none S) 0 0 (Aw G) := by
  refine met_of (by decide) 2 G hG S _ (Nat.le_of_ble_eq_true rfl) _ _ (fun X _ C => ?_)
  have C : Cx G X "java/lang/String" prog_14_method_155_code 2 2 none := C
  show At G X 2 _ 0 [(0, .int i), (1, .int n)] [] S
  have hq := C.2.2.2.2.2.1.2.2.2.2.2
  have key : ∀ w : Value, (w = .null ∨ ∃ t, w = .ref t) → va_Z "jdk/internal/util/Preconditions" "SIOOBE_FORMATTER" "Ljava/util/function/BiFunction;" w (Aw G) (xs X) (xs X).heap → At G X 2 (MQ (xb X) (Qw G none S) (xa X) (xs X) (xk X) (xz X) (Aw G)) 0 [(0, .int i), (1, .int n)] [] S := by
    intro w hw hZ
    have hc : w.category = 1 := by rcases hw with rfl | ⟨t, rfl⟩ <;> rfl
    refine at_iload_n (j := 0) C dsci_0 rfl rfl ?_
    refine at_iload_n (j := 1) C dsci_1 rfl rfl ?_
    refine at_gets C hZ fl_fmt dsci_2 ?_
    refine at_callSi (As := [.int i, .int n, w]) (st := []) C kj_pci (cpci hG hw h0 h1) (by omega) rfl rfl (Nat.le_of_ble_eq_true rfl) dsci_5 ?_
    refine at_pop C dsci_8 rfl ?_
    exact at_vret C dsci_9
  rcases hq with h | ⟨t, h⟩
  · exact key _ (Or.inl rfl) h
  · exact key _ (Or.inr ⟨t, rfl⟩) h
theorem town_ch {i : Int32} (hi : inb i 4 = true) : ((town i &&& 255).toUInt32 % 65536).toInt32 = town i ∧ narrow .char (.int (town i)) = .int (town i) := by
  have h := inb_lt hi
  unfold town
  generalize i.toNatClampNeg = k at h
  have h4 : k = 0 ∨ k = 1 ∨ k = 2 ∨ k = 3 := by omega
  rcases h4 with rfl | rfl | rfl | rfl <;> exact ⟨by decide, rfl⟩
theorem inb_4 {i : Int32} (hi : inb i 4 = true) : ¬ i < 0 ∧ i < 4 := by
  unfold inb at hi
  simp only [Bool.and_eq_true, Bool.not_eq_true', decide_eq_false_iff_not, decide_eq_true_eq] at hi
  refine ⟨hi.1, ?_⟩
  have h1 := hi.1
  rw [Int32.lt_iff_toInt_lt] at h1 ⊢
  have h2 := hi.2
  unfold Int32.toNatClampNeg at h2
  have e0 : (0 : Int32).toInt = 0 := by decide
  have e4 : (4 : Int32).toInt = 4 := by decide
  rw [e0] at h1
  rw [e4]
  omega
theorem clch {l : Launch} (hG : GOK G) {i : Int32} (hi : inb i 4 = true) : Met l ylch (.code ylch prog_15_method_2_code 2 (some .char) :: gw) (rmm 3) (PcW G [.ref G.2.2.2.2, .int i] S) (Qw G (some (.int (town i))) S) 0 0 (Aw G) := by
  refine met_of (by decide) 3 G hG S _ (Nat.le_of_ble_eq_true rfl) _ _ (fun X _ C => ?_)
  have C : Cx G X "java/lang/StringLatin1" prog_15_method_2_code 2 3 (some .char) := C
  show At G X 2 _ 0 [(0, .ref G.2.2.2.2), (1, .int i)] [] S
  refine at_iload_n (j := 1) C dlch_0 rfl rfl ?_
  refine at_aload_n (j := 0) C dlch_1 rfl rfl ?_
  refine at_vlen C dlch_2 ?_
  refine at_callSv (As := [.int i, .int 4]) (st := []) C kj_sci (csci hG (inb_4 hi).1 (inb_4 hi).2) (by omega) rfl rfl (Nat.le_of_ble_eq_true rfl) dlch_3 ?_
  refine at_aload_n (j := 0) C dlch_6 rfl rfl ?_
  refine at_iload_n (j := 1) C dlch_7 rfl rfl ?_
  refine at_vld C hi dlch_8 ?_
  refine at_sipush (x := 255) C dlch_9 (by decide) ?_
  refine at_iand C dlch_12 ?_
  refine at_i2c C (town_ch hi).1 dlch_13 ?_
  exact at_zret C (town_ch hi).2 dlch_14
theorem cschar {l : Launch} (hG : GOK G) {i : Int32} (hi : inb i 4 = true) : Met l yschar (.code yschar prog_14_method_56_code 2 (some .char) :: gw) (rmm 4) (PcW G [.ref G.2.2.2.1, .int i] S) (Qw G (some (.int (town i))) S) 0 0 (Aw G) := by
  refine met_of (by decide) 4 G hG S _ (Nat.le_of_ble_eq_true rfl) _ _ (fun X _ C => ?_)
  have C : Cx G X "java/lang/String" prog_14_method_56_code 2 4 (some .char) := C
  show At G X 2 _ 0 [(0, .ref G.2.2.2.1), (1, .int i)] [] S
  refine at_aload_n (j := 0) C dschar_0 rfl rfl ?_
  refine at_callZ (As := []) C kj_isl (cisl hG) (by omega) rfl rfl (Nat.le_of_ble_eq_true rfl) dschar_1 ?_
  refine at_if_eq C dschar_4 rfl (fun h => absurd h (by decide)) (fun _ => ?_)
  refine at_aload_n (j := 0) C dschar_7 rfl rfl ?_
  refine at_sval C dschar_8 ?_
  refine at_iload_n (j := 1) C dschar_11 rfl rfl ?_
  refine at_callSi (As := [.ref G.2.2.2.2, .int i]) (st := []) C kj_lch (clch hG hi) (by omega) rfl rfl (Nat.le_of_ble_eq_true rfl) dschar_12 ?_
  exact at_zret C (town_ch hi).2 dschar_15
theorem at_slen (C : Cx G X own cc nL lv rt) {idx : Nat} (hk : kV own idx "java/lang/String" yslen prog_14_method_54_code 1 (some .int) 0) (hlv : 2 < lv) (hcat : (st.map fun v => v.category).sum ≤ 8) (d : decode cc pc = .ok (.invokevirtual idx, 3)) (kk : At G X nL Q (pc + 3) L (.int 4 :: st) S) : At G X nL Q pc L (.ref G.2.2.2.1 :: st) S :=
  at_callZ (As := []) C hk (cslen C.2.2.2.2.2.2.1) hlv rfl rfl hcat d kk
theorem at_schar (C : Cx G X own cc nL lv rt) {idx : Nat} {i : Int32} (hk : kV own idx "java/lang/String" yschar prog_14_method_56_code 2 (some .char) 1) (hi : inb i 4 = true) (hlv : 4 < lv) (hcat : (st.map fun v => v.category).sum ≤ 8) (d : decode cc pc = .ok (.invokevirtual idx, 3)) (kk : At G X nL Q (pc + 3) L (.int (town i) :: st) S) : At G X nL Q pc L (.int i :: .ref G.2.2.2.1 :: st) S :=
  at_callZ (As := [.int i]) C hk (cschar C.2.2.2.2.2.2.1 hi) hlv rfl rfl hcat d kk
end STRS
end
