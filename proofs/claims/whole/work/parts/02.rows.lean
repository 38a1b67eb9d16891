section ROWS2
variable {G : GG} {X : CX} {own : String} {cc : ByteArray} {nL lv pc : Nat} {rt : Option FieldType} {Q : State → Prop} {S : ST} {L : List (Nat × Value)} {st : List Value}
theorem lkTL_roads : Cond.fieldLink RcTL 12 "TributeLists" "roads" "LTributeLists$Roads;" ∈ gw := mg (i := 280) (by decide +kernel) rfl
theorem gfTL_roads (C : Cx G X RcTL cc nL lv rt) (d : decode cc pc = .ok (.getfield 12, 3)) (kk : At G X nL Q (pc + 3) L (.ref (ad G 1) :: st) S) : At G X nL Q pc L (.ref (ad G 0) :: st) S := at_get C 0 9 0 rfl rfl (by decide) iwTL lkTL_roads rfl d kk
theorem lkTL_porters : Cond.fieldLink RcTL 19 "TributeLists" "porters" "LTributeLists$Porters;" ∈ gw := mg (i := 281) (by decide +kernel) rfl
theorem gfTL_porters (C : Cx G X RcTL cc nL lv rt) (d : decode cc pc = .ok (.getfield 19, 3)) (kk : At G X nL Q (pc + 3) L (.ref (ad G 2) :: st) S) : At G X nL Q pc L (.ref (ad G 0) :: st) S := at_get C 0 9 1 rfl rfl (by decide) iwTL lkTL_porters rfl d kk
theorem lkTL_tape : Cond.fieldLink RcTL 26 "TributeLists" "tape" "LTributeLists$Tape;" ∈ gw := mg (i := 282) (by decide +kernel) rfl
theorem gfTL_tape (C : Cx G X RcTL cc nL lv rt) (d : decode cc pc = .ok (.getfield 26, 3)) (kk : At G X nL Q (pc + 3) L (.ref (ad G 3) :: st) S) : At G X nL Q pc L (.ref (ad G 0) :: st) S := at_get C 0 9 2 rfl rfl (by decide) iwTL lkTL_tape rfl d kk
theorem lkTL_reader : Cond.fieldLink RcTL 33 "TributeLists" "reader" "LTributeLists$ListReader;" ∈ gw := mg (i := 283) (by decide +kernel) rfl
theorem gfTL_reader (C : Cx G X RcTL cc nL lv rt) (d : decode cc pc = .ok (.getfield 33, 3)) (kk : At G X nL Q (pc + 3) L (.ref (ad G 4) :: st) S) : At G X nL Q pc L (.ref (ad G 0) :: st) S := at_get C 0 9 3 rfl rfl (by decide) iwTL lkTL_reader rfl d kk
theorem lkTL_copies : Cond.fieldLink RcTL 40 "TributeLists" "copies" "LTributeLists$Copies;" ∈ gw := mg (i := 284) (by decide +kernel) rfl
theorem gfTL_copies (C : Cx G X RcTL cc nL lv rt) (d : decode cc pc = .ok (.getfield 40, 3)) (kk : At G X nL Q (pc + 3) L (.ref (ad G 5) :: st) S) : At G X nL Q pc L (.ref (ad G 0) :: st) S := at_get C 0 9 4 rfl rfl (by decide) iwTL lkTL_copies rfl d kk
theorem lkTL_accounts : Cond.fieldLink RcTL 47 "TributeLists" "accounts" "LTributeLists$Accounts;" ∈ gw := mg (i := 285) (by decide +kernel) rfl
theorem gfTL_accounts (C : Cx G X RcTL cc nL lv rt) (d : decode cc pc = .ok (.getfield 47, 3)) (kk : At G X nL Q (pc + 3) L (.ref (ad G 6) :: st) S) : At G X nL Q pc L (.ref (ad G 0) :: st) S := at_get C 0 9 5 rfl rfl (by decide) iwTL lkTL_accounts rfl d kk
theorem lkTL_sendings : Cond.fieldLink RcTL 54 "TributeLists" "sendings" "LTributeLists$Sendings;" ∈ gw := mg (i := 286) (by decide +kernel) rfl
theorem gfTL_sendings (C : Cx G X RcTL cc nL lv rt) (d : decode cc pc = .ok (.getfield 54, 3)) (kk : At G X nL Q (pc + 3) L (.ref (ad G 7) :: st) S) : At G X nL Q pc L (.ref (ad G 0) :: st) S := at_get C 0 9 6 rfl rfl (by decide) iwTL lkTL_sendings rfl d kk
theorem lkTL_markets : Cond.fieldLink RcTL 61 "TributeLists" "markets" "LTributeLists$Markets;" ∈ gw := mg (i := 287) (by decide +kernel) rfl
theorem gfTL_markets (C : Cx G X RcTL cc nL lv rt) (d : decode cc pc = .ok (.getfield 61, 3)) (kk : At G X nL Q (pc + 3) L (.ref (ad G 8) :: st) S) : At G X nL Q pc L (.ref (ad G 0) :: st) S := at_get C 0 9 7 rfl rfl (by decide) iwTL lkTL_markets rfl d kk
theorem lkTL_shares : Cond.fieldLink RcTL 68 "TributeLists" "shares" "LTributeLists$Shares;" ∈ gw := mg (i := 288) (by decide +kernel) rfl
theorem gfTL_shares (C : Cx G X RcTL cc nL lv rt) (d : decode cc pc = .ok (.getfield 68, 3)) (kk : At G X nL Q (pc + 3) L (.ref (ad G 9) :: st) S) : At G X nL Q pc L (.ref (ad G 0) :: st) S := at_get C 0 9 8 rfl rfl (by decide) iwTL lkTL_shares rfl d kk
theorem lkTL_clock : Cond.fieldLink RcTL 72 "TributeLists" "clock" "I" ∈ gw := mg (i := 289) (by decide +kernel) rfl
theorem gfTL_clock (C : Cx G X RcTL cc nL lv rt) {x : Int32} (hx : gTL_clock S = x) (d : decode cc pc = .ok (.getfield 72, 3)) (kk : At G X nL Q (pc + 3) L (.int x :: st) S) : At G X nL Q pc L (.ref (ad G 0) :: st) S := by
  subst hx
  exact at_get C 0 9 9 rfl rfl (by decide) iwTL lkTL_clock rfl d kk
theorem pfTL_clock (C : Cx G X RcTL cc nL lv rt) {x : Int32} (d : decode cc pc = .ok (.putfield 72, 3)) (kk : At G X nL Q (pc + 3) L st (sTL_clock S x)) : At G X nL Q pc L (.int x :: .ref (ad G 0) :: st) S := at_put C 0 9 9 rfl rfl (by decide) iwTL tcTL tyTL nmTL lkTL_clock rfl rfl rfl rfl (Nat.le_of_ble_eq_true rfl) rfl d kk
theorem lkRo_length : Cond.fieldLink RcRo 9 "TributeLists$Roads" "length" "[I" ∈ gw := mg (i := 73) (by decide +kernel) rfl
theorem gfRo_length (C : Cx G X RcRo cc nL lv rt) (d : decode cc pc = .ok (.getfield 9, 3)) (kk : At G X nL Q (pc + 3) L (.ref (ad G 10) :: st) S) : At G X nL Q pc L (.ref (ad G 1) :: st) S := at_get C 1 5 0 rfl rfl (by decide) iwRo lkRo_length rfl d kk
theorem lkRo_reach : Cond.fieldLink RcRo 15 "TributeLists$Roads" "reach" "[I" ∈ gw := mg (i := 74) (by decide +kernel) rfl
theorem gfRo_reach (C : Cx G X RcRo cc nL lv rt) (d : decode cc pc = .ok (.getfield 15, 3)) (kk : At G X nL Q (pc + 3) L (.ref (ad G 11) :: st) S) : At G X nL Q pc L (.ref (ad G 1) :: st) S := at_get C 1 5 1 rfl rfl (by decide) iwRo lkRo_reach rfl d kk
theorem lkRo_settled : Cond.fieldLink RcRo 18 "TributeLists$Roads" "settled" "[I" ∈ gw := mg (i := 75) (by decide +kernel) rfl
theorem gfRo_settled (C : Cx G X RcRo cc nL lv rt) (d : decode cc pc = .ok (.getfield 18, 3)) (kk : At G X nL Q (pc + 3) L (.ref (ad G 12) :: st) S) : At G X nL Q pc L (.ref (ad G 1) :: st) S := at_get C 1 5 2 rfl rfl (by decide) iwRo lkRo_settled rfl d kk
theorem lkPo_weights : Cond.fieldLink RcPo 9 "TributeLists$Porters" "weights" "[I" ∈ gw := mg (i := 93) (by decide +kernel) rfl
theorem gfPo_weights (C : Cx G X RcPo cc nL lv rt) (d : decode cc pc = .ok (.getfield 9, 3)) (kk : At G X nL Q (pc + 3) L (.ref (ad G 13) :: st) S) : At G X nL Q pc L (.ref (ad G 2) :: st) S := at_get C 2 4 0 rfl rfl (by decide) iwPo lkPo_weights rfl d kk
theorem lkPo_load : Cond.fieldLink RcPo 15 "TributeLists$Porters" "load" "I" ∈ gw := mg (i := 94) (by decide +kernel) rfl
theorem gfPo_load (C : Cx G X RcPo cc nL lv rt) {x : Int32} (hx : gPo_load S = x) (d : decode cc pc = .ok (.getfield 15, 3)) (kk : At G X nL Q (pc + 3) L (.int x :: st) S) : At G X nL Q pc L (.ref (ad G 2) :: st) S := by
  subst hx
  exact at_get C 2 4 1 rfl rfl (by decide) iwPo lkPo_load rfl d kk
theorem pfPo_load (C : Cx G X RcPo cc nL lv rt) {x : Int32} (d : decode cc pc = .ok (.putfield 15, 3)) (kk : At G X nL Q (pc + 3) L st (sPo_load S x)) : At G X nL Q pc L (.int x :: .ref (ad G 2) :: st) S := at_put C 2 4 1 rfl rfl (by decide) iwPo tcPo tyPo nmPo lkPo_load rfl rfl rfl rfl (Nat.le_of_ble_eq_true rfl) rfl d kk
theorem lkTa_bytes : Cond.fieldLink RcTa 9 "TributeLists$Tape" "bytes" "[B" ∈ gw := mg (i := 106) (by decide +kernel) rfl
theorem gfTa_bytes (C : Cx G X RcTa cc nL lv rt) (d : decode cc pc = .ok (.getfield 9, 3)) (kk : At G X nL Q (pc + 3) L (.ref (ad G 14) :: st) S) : At G X nL Q pc L (.ref (ad G 3) :: st) S := at_get C 3 8 0 rfl rfl (by decide) iwTa lkTa_bytes rfl d kk
theorem lkTa_size : Cond.fieldLink RcTa 13 "TributeLists$Tape" "size" "I" ∈ gw := mg (i := 107) (by decide +kernel) rfl
theorem gfTa_size (C : Cx G X RcTa cc nL lv rt) {x : Int32} (hx : gTa_size S = x) (d : decode cc pc = .ok (.getfield 13, 3)) (kk : At G X nL Q (pc + 3) L (.int x :: st) S) : At G X nL Q pc L (.ref (ad G 3) :: st) S := by
  subst hx
  exact at_get C 3 8 1 rfl rfl (by decide) iwTa lkTa_size rfl d kk
theorem pfTa_size (C : Cx G X RcTa cc nL lv rt) {x : Int32} (d : decode cc pc = .ok (.putfield 13, 3)) (kk : At G X nL Q (pc + 3) L st (sTa_size S x)) : At G X nL Q pc L (.int x :: .ref (ad G 3) :: st) S := at_put C 3 8 1 rfl rfl (by decide) iwTa tcTa tyTa nmTa lkTa_size rfl rfl rfl rfl (Nat.le_of_ble_eq_true rfl) rfl d kk
theorem lkLi_row : Cond.fieldLink RcLi 9 "TributeLists$ListReader" "row" "[I" ∈ gw := mg (i := 120) (by decide +kernel) rfl
theorem gfLi_row (C : Cx G X RcLi cc nL lv rt) (d : decode cc pc = .ok (.getfield 9, 3)) (kk : At G X nL Q (pc + 3) L (.ref (ad G 15) :: st) S) : At G X nL Q pc L (.ref (ad G 4) :: st) S := at_get C 4 2 0 rfl rfl (by decide) iwLi lkLi_row rfl d kk
theorem lkLi_townSeen : Cond.fieldLink RcLi 15 "TributeLists$ListReader" "townSeen" "[I" ∈ gw := mg (i := 121) (by decide +kernel) rfl
theorem gfLi_townSeen (C : Cx G X RcLi cc nL lv rt) (d : decode cc pc = .ok (.getfield 15, 3)) (kk : At G X nL Q (pc + 3) L (.ref (ad G 16) :: st) S) : At G X nL Q pc L (.ref (ad G 4) :: st) S := at_get C 4 2 1 rfl rfl (by decide) iwLi lkLi_townSeen rfl d kk
theorem lkLi_cursor : Cond.fieldLink RcLi 57 "TributeLists$ListReader" "cursor" "I" ∈ gw := mg (i := 122) (by decide +kernel) rfl
theorem gfLi_cursor (C : Cx G X RcLi cc nL lv rt) {x : Int32} (hx : gLi_cursor S = x) (d : decode cc pc = .ok (.getfield 57, 3)) (kk : At G X nL Q (pc + 3) L (.int x :: st) S) : At G X nL Q pc L (.ref (ad G 4) :: st) S := by
  subst hx
  exact at_get C 4 2 2 rfl rfl (by decide) iwLi lkLi_cursor rfl d kk
theorem pfLi_cursor (C : Cx G X RcLi cc nL lv rt) {x : Int32} (d : decode cc pc = .ok (.putfield 57, 3)) (kk : At G X nL Q (pc + 3) L st (sLi_cursor S x)) : At G X nL Q pc L (.int x :: .ref (ad G 4) :: st) S := at_put C 4 2 2 rfl rfl (by decide) iwLi tcLi tyLi nmLi lkLi_cursor rfl rfl rfl rfl (Nat.le_of_ble_eq_true rfl) rfl d kk
theorem lkLi_tokenStart : Cond.fieldLink RcLi 42 "TributeLists$ListReader" "tokenStart" "I" ∈ gw := mg (i := 123) (by decide +kernel) rfl
theorem gfLi_tokenStart (C : Cx G X RcLi cc nL lv rt) {x : Int32} (hx : gLi_tokenStart S = x) (d : decode cc pc = .ok (.getfield 42, 3)) (kk : At G X nL Q (pc + 3) L (.int x :: st) S) : At G X nL Q pc L (.ref (ad G 4) :: st) S := by
  subst hx
  exact at_get C 4 2 3 rfl rfl (by decide) iwLi lkLi_tokenStart rfl d kk
theorem pfLi_tokenStart (C : Cx G X RcLi cc nL lv rt) {x : Int32} (d : decode cc pc = .ok (.putfield 42, 3)) (kk : At G X nL Q (pc + 3) L st (sLi_tokenStart S x)) : At G X nL Q pc L (.int x :: .ref (ad G 4) :: st) S := at_put C 4 2 3 rfl rfl (by decide) iwLi tcLi tyLi nmLi lkLi_tokenStart rfl rfl rfl rfl (Nat.le_of_ble_eq_true rfl) rfl d kk
theorem lkLi_tokenKind : Cond.fieldLink RcLi 45 "TributeLists$ListReader" "tokenKind" "I" ∈ gw := mg (i := 124) (by decide +kernel) rfl
theorem gfLi_tokenKind (C : Cx G X RcLi cc nL lv rt) {x : Int32} (hx : gLi_tokenKind S = x) (d : decode cc pc = .ok (.getfield 45, 3)) (kk : At G X nL Q (pc + 3) L (.int x :: st) S) : At G X nL Q pc L (.ref (ad G 4) :: st) S := by
  subst hx
  exact at_get C 4 2 4 rfl rfl (by decide) iwLi lkLi_tokenKind rfl d kk
theorem pfLi_tokenKind (C : Cx G X RcLi cc nL lv rt) {x : Int32} (d : decode cc pc = .ok (.putfield 45, 3)) (kk : At G X nL Q (pc + 3) L st (sLi_tokenKind S x)) : At G X nL Q pc L (.int x :: .ref (ad G 4) :: st) S := at_put C 4 2 4 rfl rfl (by decide) iwLi tcLi tyLi nmLi lkLi_tokenKind rfl rfl rfl rfl (Nat.le_of_ble_eq_true rfl) rfl d kk
theorem lkLi_number : Cond.fieldLink RcLi 100 "TributeLists$ListReader" "number" "I" ∈ gw := mg (i := 125) (by decide +kernel) rfl
theorem gfLi_number (C : Cx G X RcLi cc nL lv rt) {x : Int32} (hx : gLi_number S = x) (d : decode cc pc = .ok (.getfield 100, 3)) (kk : At G X nL Q (pc + 3) L (.int x :: st) S) : At G X nL Q pc L (.ref (ad G 4) :: st) S := by
  subst hx
  exact at_get C 4 2 5 rfl rfl (by decide) iwLi lkLi_number rfl d kk
theorem pfLi_number (C : Cx G X RcLi cc nL lv rt) {x : Int32} (d : decode cc pc = .ok (.putfield 100, 3)) (kk : At G X nL Q (pc + 3) L st (sLi_number S x)) : At G X nL Q pc L (.int x :: .ref (ad G 4) :: st) S := at_put C 4 2 5 rfl rfl (by decide) iwLi tcLi tyLi nmLi lkLi_number rfl rfl rfl rfl (Nat.le_of_ble_eq_true rfl) rfl d kk
theorem lkLi_expected : Cond.fieldLink RcLi 60 "TributeLists$ListReader" "expected" "I" ∈ gw := mg (i := 126) (by decide +kernel) rfl
theorem gfLi_expected (C : Cx G X RcLi cc nL lv rt) {x : Int32} (hx : gLi_expected S = x) (d : decode cc pc = .ok (.getfield 60, 3)) (kk : At G X nL Q (pc + 3) L (.int x :: st) S) : At G X nL Q pc L (.ref (ad G 4) :: st) S := by
  subst hx
  exact at_get C 4 2 6 rfl rfl (by decide) iwLi lkLi_expected rfl d kk
theorem pfLi_expected (C : Cx G X RcLi cc nL lv rt) {x : Int32} (d : decode cc pc = .ok (.putfield 60, 3)) (kk : At G X nL Q (pc + 3) L st (sLi_expected S x)) : At G X nL Q pc L (.int x :: .ref (ad G 4) :: st) S := at_put C 4 2 6 rfl rfl (by decide) iwLi tcLi tyLi nmLi lkLi_expected rfl rfl rfl rfl (Nat.le_of_ble_eq_true rfl) rfl d kk
theorem lkLi_lines : Cond.fieldLink RcLi 48 "TributeLists$ListReader" "lines" "I" ∈ gw := mg (i := 127) (by decide +kernel) rfl
theorem gfLi_lines (C : Cx G X RcLi cc nL lv rt) {x : Int32} (hx : gLi_lines S = x) (d : decode cc pc = .ok (.getfield 48, 3)) (kk : At G X nL Q (pc + 3) L (.int x :: st) S) : At G X nL Q pc L (.ref (ad G 4) :: st) S := by
  subst hx
  exact at_get C 4 2 7 rfl rfl (by decide) iwLi lkLi_lines rfl d kk
theorem pfLi_lines (C : Cx G X RcLi cc nL lv rt) {x : Int32} (d : decode cc pc = .ok (.putfield 48, 3)) (kk : At G X nL Q (pc + 3) L st (sLi_lines S x)) : At G X nL Q pc L (.int x :: .ref (ad G 4) :: st) S := at_put C 4 2 7 rfl rfl (by decide) iwLi tcLi tyLi nmLi lkLi_lines rfl rfl rfl rfl (Nat.le_of_ble_eq_true rfl) rfl d kk
theorem lkLi_town : Cond.fieldLink RcLi 131 "TributeLists$ListReader" "town" "I" ∈ gw := mg (i := 128) (by decide +kernel) rfl
theorem gfLi_town (C : Cx G X RcLi cc nL lv rt) {x : Int32} (hx : gLi_town S = x) (d : decode cc pc = .ok (.getfield 131, 3)) (kk : At G X nL Q (pc + 3) L (.int x :: st) S) : At G X nL Q pc L (.ref (ad G 4) :: st) S := by
  subst hx
  exact at_get C 4 2 8 rfl rfl (by decide) iwLi lkLi_town rfl d kk
theorem pfLi_town (C : Cx G X RcLi cc nL lv rt) {x : Int32} (d : decode cc pc = .ok (.putfield 131, 3)) (kk : At G X nL Q (pc + 3) L st (sLi_town S x)) : At G X nL Q pc L (.int x :: .ref (ad G 4) :: st) S := at_put C 4 2 8 rfl rfl (by decide) iwLi tcLi tyLi nmLi lkLi_town rfl rfl rfl rfl (Nat.le_of_ble_eq_true rfl) rfl d kk
theorem lkLi_good : Cond.fieldLink RcLi 139 "TributeLists$ListReader" "good" "I" ∈ gw := mg (i := 129) (by decide +kernel) rfl
theorem gfLi_good (C : Cx G X RcLi cc nL lv rt) {x : Int32} (hx : gLi_good S = x) (d : decode cc pc = .ok (.getfield 139, 3)) (kk : At G X nL Q (pc + 3) L (.int x :: st) S) : At G X nL Q pc L (.ref (ad G 4) :: st) S := by
  subst hx
  exact at_get C 4 2 9 rfl rfl (by decide) iwLi lkLi_good rfl d kk
theorem pfLi_good (C : Cx G X RcLi cc nL lv rt) {x : Int32} (d : decode cc pc = .ok (.putfield 139, 3)) (kk : At G X nL Q (pc + 3) L st (sLi_good S x)) : At G X nL Q pc L (.int x :: .ref (ad G 4) :: st) S := at_put C 4 2 9 rfl rfl (by decide) iwLi tcLi tyLi nmLi lkLi_good rfl rfl rfl rfl (Nat.le_of_ble_eq_true rfl) rfl d kk
theorem lkLi_anyRead : Cond.fieldLink RcLi 18 "TributeLists$ListReader" "anyRead" "Z" ∈ gw := mg (i := 130) (by decide +kernel) rfl
theorem gfLi_anyRead (C : Cx G X RcLi cc nL lv rt) {x : Int32} (hx : gLi_anyRead S = x) (d : decode cc pc = .ok (.getfield 18, 3)) (kk : At G X nL Q (pc + 3) L (.int x :: st) S) : At G X nL Q pc L (.ref (ad G 4) :: st) S := by
  subst hx
  exact at_get C 4 2 10 rfl rfl (by decide) iwLi lkLi_anyRead rfl d kk
theorem pfLi_anyRead (C : Cx G X RcLi cc nL lv rt) {x : Int32} (hz : narrow .boolean (.int x) = .int x ∧ fits .boolean (.int x) = true) (d : decode cc pc = .ok (.putfield 18, 3)) (kk : At G X nL Q (pc + 3) L st (sLi_anyRead S x)) : At G X nL Q pc L (.int x :: .ref (ad G 4) :: st) S := at_put C 4 2 10 rfl rfl (by decide) iwLi tcLi tyLi nmLi lkLi_anyRead rfl rfl hz.1 hz.2 (Nat.le_of_ble_eq_true rfl) rfl d kk
theorem lkLi_faultKind : Cond.fieldLink RcLi 22 "TributeLists$ListReader" "faultKind" "I" ∈ gw := mg (i := 131) (by decide +kernel) rfl
theorem gfLi_faultKind (C : Cx G X RcLi cc nL lv rt) {x : Int32} (hx : gLi_faultKind S = x) (d : decode cc pc = .ok (.getfield 22, 3)) (kk : At G X nL Q (pc + 3) L (.int x :: st) S) : At G X nL Q pc L (.ref (ad G 4) :: st) S := by
  subst hx
  exact at_get C 4 2 11 rfl rfl (by decide) iwLi lkLi_faultKind rfl d kk
theorem pfLi_faultKind (C : Cx G X RcLi cc nL lv rt) {x : Int32} (d : decode cc pc = .ok (.putfield 22, 3)) (kk : At G X nL Q (pc + 3) L st (sLi_faultKind S x)) : At G X nL Q pc L (.int x :: .ref (ad G 4) :: st) S := at_put C 4 2 11 rfl rfl (by decide) iwLi tcLi tyLi nmLi lkLi_faultKind rfl rfl rfl rfl (Nat.le_of_ble_eq_true rfl) rfl d kk
theorem lkLi_faultPlace : Cond.fieldLink RcLi 26 "TributeLists$ListReader" "faultPlace" "I" ∈ gw := mg (i := 132) (by decide +kernel) rfl
theorem gfLi_faultPlace (C : Cx G X RcLi cc nL lv rt) {x : Int32} (hx : gLi_faultPlace S = x) (d : decode cc pc = .ok (.getfield 26, 3)) (kk : At G X nL Q (pc + 3) L (.int x :: st) S) : At G X nL Q pc L (.ref (ad G 4) :: st) S := by
  subst hx
  exact at_get C 4 2 12 rfl rfl (by decide) iwLi lkLi_faultPlace rfl d kk
theorem pfLi_faultPlace (C : Cx G X RcLi cc nL lv rt) {x : Int32} (d : decode cc pc = .ok (.putfield 26, 3)) (kk : At G X nL Q (pc + 3) L st (sLi_faultPlace S x)) : At G X nL Q pc L (.int x :: .ref (ad G 4) :: st) S := at_put C 4 2 12 rfl rfl (by decide) iwLi tcLi tyLi nmLi lkLi_faultPlace rfl rfl rfl rfl (Nat.le_of_ble_eq_true rfl) rfl d kk
theorem lkCo_told : Cond.fieldLink RcCo 13 "TributeLists$Copies" "told" "[[I" ∈ gw := mg (i := 169) (by decide +kernel) rfl
theorem gfCo_told (C : Cx G X RcCo cc nL lv rt) (d : decode cc pc = .ok (.getfield 13, 3)) (kk : At G X nL Q (pc + 3) L (.ref (ad G 17) :: st) S) : At G X nL Q pc L (.ref (ad G 5) :: st) S := at_get C 5 1 0 rfl rfl (by decide) iwCo lkCo_told rfl d kk
theorem lkCo_readAs : Cond.fieldLink RcCo 16 "TributeLists$Copies" "readAs" "[I" ∈ gw := mg (i := 170) (by decide +kernel) rfl
theorem gfCo_readAs (C : Cx G X RcCo cc nL lv rt) (d : decode cc pc = .ok (.getfield 16, 3)) (kk : At G X nL Q (pc + 3) L (.ref (ad G 23) :: st) S) : At G X nL Q pc L (.ref (ad G 5) :: st) S := at_get C 5 1 1 rfl rfl (by decide) iwCo lkCo_readAs rfl d kk
theorem lkCo_readings : Cond.fieldLink RcCo 20 "TributeLists$Copies" "readings" "I" ∈ gw := mg (i := 171) (by decide +kernel) rfl
theorem gfCo_readings (C : Cx G X RcCo cc nL lv rt) {x : Int32} (hx : gCo_readings S = x) (d : decode cc pc = .ok (.getfield 20, 3)) (kk : At G X nL Q (pc + 3) L (.int x :: st) S) : At G X nL Q pc L (.ref (ad G 5) :: st) S := by
  subst hx
  exact at_get C 5 1 2 rfl rfl (by decide) iwCo lkCo_readings rfl d kk
theorem pfCo_readings (C : Cx G X RcCo cc nL lv rt) {x : Int32} (d : decode cc pc = .ok (.putfield 20, 3)) (kk : At G X nL Q (pc + 3) L st (sCo_readings S x)) : At G X nL Q pc L (.int x :: .ref (ad G 5) :: st) S := at_put C 5 1 2 rfl rfl (by decide) iwCo tcCo tyCo nmCo lkCo_readings rfl rfl rfl rfl (Nat.le_of_ble_eq_true rfl) rfl d kk
theorem lkAc_unpaid : Cond.fieldLink RcAc 11 "TributeLists$Accounts" "unpaid" "[I" ∈ gw := mg (i := 185) (by decide +kernel) rfl
theorem gfAc_unpaid (C : Cx G X RcAc cc nL lv rt) (d : decode cc pc = .ok (.getfield 11, 3)) (kk : At G X nL Q (pc + 3) L (.ref (ad G 24) :: st) S) : At G X nL Q pc L (.ref (ad G 6) :: st) S := at_get C 6 0 0 rfl rfl (by decide) iwAc lkAc_unpaid rfl d kk
theorem lkAc_owing : Cond.fieldLink RcAc 15 "TributeLists$Accounts" "owing" "[I" ∈ gw := mg (i := 186) (by decide +kernel) rfl
theorem gfAc_owing (C : Cx G X RcAc cc nL lv rt) (d : decode cc pc = .ok (.getfield 15, 3)) (kk : At G X nL Q (pc + 3) L (.ref (ad G 25) :: st) S) : At G X nL Q pc L (.ref (ad G 6) :: st) S := at_get C 6 0 1 rfl rfl (by decide) iwAc lkAc_owing rfl d kk
theorem lkAc_gifts : Cond.fieldLink RcAc 18 "TributeLists$Accounts" "gifts" "[I" ∈ gw := mg (i := 187) (by decide +kernel) rfl
theorem gfAc_gifts (C : Cx G X RcAc cc nL lv rt) (d : decode cc pc = .ok (.getfield 18, 3)) (kk : At G X nL Q (pc + 3) L (.ref (ad G 26) :: st) S) : At G X nL Q pc L (.ref (ad G 6) :: st) S := at_get C 6 0 2 rfl rfl (by decide) iwAc lkAc_gifts rfl d kk
theorem lkAc_paidOff : Cond.fieldLink RcAc 21 "TributeLists$Accounts" "paidOff" "[I" ∈ gw := mg (i := 188) (by decide +kernel) rfl
theorem gfAc_paidOff (C : Cx G X RcAc cc nL lv rt) (d : decode cc pc = .ok (.getfield 21, 3)) (kk : At G X nL Q (pc + 3) L (.ref (ad G 27) :: st) S) : At G X nL Q pc L (.ref (ad G 6) :: st) S := at_get C 6 0 3 rfl rfl (by decide) iwAc lkAc_paidOff rfl d kk
theorem lkAc_lateOfPaid : Cond.fieldLink RcAc 24 "TributeLists$Accounts" "lateOfPaid" "[J" ∈ gw := mg (i := 189) (by decide +kernel) rfl
theorem gfAc_lateOfPaid (C : Cx G X RcAc cc nL lv rt) (d : decode cc pc = .ok (.getfield 24, 3)) (kk : At G X nL Q (pc + 3) L (.ref (ad G 28) :: st) S) : At G X nL Q pc L (.ref (ad G 6) :: st) S := at_get C 6 0 4 rfl rfl (by decide) iwAc lkAc_lateOfPaid rfl d kk
theorem lkSe_table : Cond.fieldLink RcSe 11 "TributeLists$Sendings" "table" "[I" ∈ gw := mg (i := 208) (by decide +kernel) rfl
theorem gfSe_table (C : Cx G X RcSe cc nL lv rt) (d : decode cc pc = .ok (.getfield 11, 3)) (kk : At G X nL Q (pc + 3) L (.ref (ad G 29) :: st) S) : At G X nL Q pc L (.ref (ad G 7) :: st) S := at_get C 7 6 0 rfl rfl (by decide) iwSe lkSe_table rfl d kk
theorem lkSe_storedOrder : Cond.fieldLink RcSe 15 "TributeLists$Sendings" "storedOrder" "[I" ∈ gw := mg (i := 209) (by decide +kernel) rfl
theorem gfSe_storedOrder (C : Cx G X RcSe cc nL lv rt) (d : decode cc pc = .ok (.getfield 15, 3)) (kk : At G X nL Q (pc + 3) L (.ref (ad G 30) :: st) S) : At G X nL Q pc L (.ref (ad G 7) :: st) S := at_get C 7 6 1 rfl rfl (by decide) iwSe lkSe_storedOrder rfl d kk
theorem lkSe_storedCount : Cond.fieldLink RcSe 18 "TributeLists$Sendings" "storedCount" "I" ∈ gw := mg (i := 210) (by decide +kernel) rfl
theorem gfSe_storedCount (C : Cx G X RcSe cc nL lv rt) {x : Int32} (hx : gSe_storedCount S = x) (d : decode cc pc = .ok (.getfield 18, 3)) (kk : At G X nL Q (pc + 3) L (.int x :: st) S) : At G X nL Q pc L (.ref (ad G 7) :: st) S := by
  subst hx
  exact at_get C 7 6 2 rfl rfl (by decide) iwSe lkSe_storedCount rfl d kk
theorem pfSe_storedCount (C : Cx G X RcSe cc nL lv rt) {x : Int32} (d : decode cc pc = .ok (.putfield 18, 3)) (kk : At G X nL Q (pc + 3) L st (sSe_storedCount S x)) : At G X nL Q pc L (.int x :: .ref (ad G 7) :: st) S := at_put C 7 6 2 rfl rfl (by decide) iwSe tcSe tySe nmSe lkSe_storedCount rfl rfl rfl rfl (Nat.le_of_ble_eq_true rfl) rfl d kk
theorem lkSe_storedPieces : Cond.fieldLink RcSe 22 "TributeLists$Sendings" "storedPieces" "I" ∈ gw := mg (i := 211) (by decide +kernel) rfl
theorem gfSe_storedPieces (C : Cx G X RcSe cc nL lv rt) {x : Int32} (hx : gSe_storedPieces S = x) (d : decode cc pc = .ok (.getfield 22, 3)) (kk : At G X nL Q (pc + 3) L (.int x :: st) S) : At G X nL Q pc L (.ref (ad G 7) :: st) S := by
  subst hx
  exact at_get C 7 6 3 rfl rfl (by decide) iwSe lkSe_storedPieces rfl d kk
theorem pfSe_storedPieces (C : Cx G X RcSe cc nL lv rt) {x : Int32} (d : decode cc pc = .ok (.putfield 22, 3)) (kk : At G X nL Q (pc + 3) L st (sSe_storedPieces S x)) : At G X nL Q pc L (.int x :: .ref (ad G 7) :: st) S := at_put C 7 6 3 rfl rfl (by decide) iwSe tcSe tySe nmSe lkSe_storedPieces rfl rfl rfl rfl (Nat.le_of_ble_eq_true rfl) rfl d kk
theorem lkSe_count : Cond.fieldLink RcSe 25 "TributeLists$Sendings" "count" "I" ∈ gw := mg (i := 212) (by decide +kernel) rfl
theorem gfSe_count (C : Cx G X RcSe cc nL lv rt) {x : Int32} (hx : gSe_count S = x) (d : decode cc pc = .ok (.getfield 25, 3)) (kk : At G X nL Q (pc + 3) L (.int x :: st) S) : At G X nL Q pc L (.ref (ad G 7) :: st) S := by
  subst hx
  exact at_get C 7 6 4 rfl rfl (by decide) iwSe lkSe_count rfl d kk
theorem pfSe_count (C : Cx G X RcSe cc nL lv rt) {x : Int32} (d : decode cc pc = .ok (.putfield 25, 3)) (kk : At G X nL Q (pc + 3) L st (sSe_count S x)) : At G X nL Q pc L (.int x :: .ref (ad G 7) :: st) S := at_put C 7 6 4 rfl rfl (by decide) iwSe tcSe tySe nmSe lkSe_count rfl rfl rfl rfl (Nat.le_of_ble_eq_true rfl) rfl d kk
theorem lkMa_fromGood : Cond.fieldLink RcMa 11 "TributeLists$Markets" "fromGood" "[I" ∈ gw := mg (i := 230) (by decide +kernel) rfl
theorem gfMa_fromGood (C : Cx G X RcMa cc nL lv rt) (d : decode cc pc = .ok (.getfield 11, 3)) (kk : At G X nL Q (pc + 3) L (.ref (ad G 31) :: st) S) : At G X nL Q pc L (.ref (ad G 8) :: st) S := at_get C 8 3 0 rfl rfl (by decide) iwMa lkMa_fromGood rfl d kk
theorem lkMa_given : Cond.fieldLink RcMa 15 "TributeLists$Markets" "given" "[I" ∈ gw := mg (i := 231) (by decide +kernel) rfl
theorem gfMa_given (C : Cx G X RcMa cc nL lv rt) (d : decode cc pc = .ok (.getfield 15, 3)) (kk : At G X nL Q (pc + 3) L (.ref (ad G 32) :: st) S) : At G X nL Q pc L (.ref (ad G 8) :: st) S := at_get C 8 3 1 rfl rfl (by decide) iwMa lkMa_given rfl d kk
theorem lkMa_toGood : Cond.fieldLink RcMa 18 "TributeLists$Markets" "toGood" "[I" ∈ gw := mg (i := 232) (by decide +kernel) rfl
theorem gfMa_toGood (C : Cx G X RcMa cc nL lv rt) (d : decode cc pc = .ok (.getfield 18, 3)) (kk : At G X nL Q (pc + 3) L (.ref (ad G 33) :: st) S) : At G X nL Q pc L (.ref (ad G 8) :: st) S := at_get C 8 3 2 rfl rfl (by decide) iwMa lkMa_toGood rfl d kk
theorem lkMa_gained : Cond.fieldLink RcMa 21 "TributeLists$Markets" "gained" "[I" ∈ gw := mg (i := 233) (by decide +kernel) rfl
theorem gfMa_gained (C : Cx G X RcMa cc nL lv rt) (d : decode cc pc = .ok (.getfield 21, 3)) (kk : At G X nL Q (pc + 3) L (.ref (ad G 34) :: st) S) : At G X nL Q pc L (.ref (ad G 8) :: st) S := at_get C 8 3 3 rfl rfl (by decide) iwMa lkMa_gained rfl d kk
theorem lkMa_count : Cond.fieldLink RcMa 24 "TributeLists$Markets" "count" "I" ∈ gw := mg (i := 234) (by decide +kernel) rfl
theorem gfMa_count (C : Cx G X RcMa cc nL lv rt) {x : Int32} (hx : gMa_count S = x) (d : decode cc pc = .ok (.getfield 24, 3)) (kk : At G X nL Q (pc + 3) L (.int x :: st) S) : At G X nL Q pc L (.ref (ad G 8) :: st) S := by
  subst hx
  exact at_get C 8 3 4 rfl rfl (by decide) iwMa lkMa_count rfl d kk
theorem pfMa_count (C : Cx G X RcMa cc nL lv rt) {x : Int32} (d : decode cc pc = .ok (.putfield 24, 3)) (kk : At G X nL Q (pc + 3) L st (sMa_count S x)) : At G X nL Q pc L (.int x :: .ref (ad G 8) :: st) S := at_put C 8 3 4 rfl rfl (by decide) iwMa tcMa tyMa nmMa lkMa_count rfl rfl rfl rfl (Nat.le_of_ble_eq_true rfl) rfl d kk
theorem lkMa_visited : Cond.fieldLink RcMa 28 "TributeLists$Markets" "visited" "[I" ∈ gw := mg (i := 235) (by decide +kernel) rfl
theorem gfMa_visited (C : Cx G X RcMa cc nL lv rt) (d : decode cc pc = .ok (.getfield 28, 3)) (kk : At G X nL Q (pc + 3) L (.ref (ad G 35) :: st) S) : At G X nL Q pc L (.ref (ad G 8) :: st) S := at_get C 8 3 5 rfl rfl (by decide) iwMa lkMa_visited rfl d kk
theorem lkMa_trail : Cond.fieldLink RcMa 31 "TributeLists$Markets" "trail" "[I" ∈ gw := mg (i := 236) (by decide +kernel) rfl
theorem gfMa_trail (C : Cx G X RcMa cc nL lv rt) (d : decode cc pc = .ok (.getfield 31, 3)) (kk : At G X nL Q (pc + 3) L (.ref (ad G 36) :: st) S) : At G X nL Q pc L (.ref (ad G 8) :: st) S := at_get C 8 3 6 rfl rfl (by decide) iwMa lkMa_trail rfl d kk
theorem lkMa_found : Cond.fieldLink RcMa 34 "TributeLists$Markets" "found" "[I" ∈ gw := mg (i := 237) (by decide +kernel) rfl
theorem gfMa_found (C : Cx G X RcMa cc nL lv rt) (d : decode cc pc = .ok (.getfield 34, 3)) (kk : At G X nL Q (pc + 3) L (.ref (ad G 37) :: st) S) : At G X nL Q pc L (.ref (ad G 8) :: st) S := at_get C 8 3 7 rfl rfl (by decide) iwMa lkMa_found rfl d kk
theorem lkMa_foundLength : Cond.fieldLink RcMa 58 "TributeLists$Markets" "foundLength" "I" ∈ gw := mg (i := 238) (by decide +kernel) rfl
theorem gfMa_foundLength (C : Cx G X RcMa cc nL lv rt) {x : Int32} (hx : gMa_foundLength S = x) (d : decode cc pc = .ok (.getfield 58, 3)) (kk : At G X nL Q (pc + 3) L (.int x :: st) S) : At G X nL Q pc L (.ref (ad G 8) :: st) S := by
  subst hx
  exact at_get C 8 3 8 rfl rfl (by decide) iwMa lkMa_foundLength rfl d kk
theorem pfMa_foundLength (C : Cx G X RcMa cc nL lv rt) {x : Int32} (d : decode cc pc = .ok (.putfield 58, 3)) (kk : At G X nL Q (pc + 3) L st (sMa_foundLength S x)) : At G X nL Q pc L (.int x :: .ref (ad G 8) :: st) S := at_put C 8 3 8 rfl rfl (by decide) iwMa tcMa tyMa nmMa lkMa_foundLength rfl rfl rfl rfl (Nat.le_of_ble_eq_true rfl) rfl d kk
theorem lkMa_foundAmount : Cond.fieldLink RcMa 54 "TributeLists$Markets" "foundAmount" "J" ∈ gw := mg (i := 239) (by decide +kernel) rfl
theorem gfMa_foundAmount (C : Cx G X RcMa cc nL lv rt) {x : Int64} (hx : gMa_foundAmount S = x) (d : decode cc pc = .ok (.getfield 54, 3)) (kk : At G X nL Q (pc + 3) L (.long x :: st) S) : At G X nL Q pc L (.ref (ad G 8) :: st) S := by
  subst hx
  exact at_get C 8 3 9 rfl rfl (by decide) iwMa lkMa_foundAmount rfl d kk
theorem pfMa_foundAmount (C : Cx G X RcMa cc nL lv rt) {x : Int64} (d : decode cc pc = .ok (.putfield 54, 3)) (kk : At G X nL Q (pc + 3) L st (sMa_foundAmount S x)) : At G X nL Q pc L (.long x :: .ref (ad G 8) :: st) S := at_put C 8 3 9 rfl rfl (by decide) iwMa tcMa tyMa nmMa lkMa_foundAmount rfl rfl rfl rfl (Nat.le_of_ble_eq_true rfl) rfl d kk
theorem lkMa_goal : Cond.fieldLink RcMa 49 "TributeLists$Markets" "goal" "I" ∈ gw := mg (i := 240) (by decide +kernel) rfl
theorem gfMa_goal (C : Cx G X RcMa cc nL lv rt) {x : Int32} (hx : gMa_goal S = x) (d : decode cc pc = .ok (.getfield 49, 3)) (kk : At G X nL Q (pc + 3) L (.int x :: st) S) : At G X nL Q pc L (.ref (ad G 8) :: st) S := by
  subst hx
  exact at_get C 8 3 10 rfl rfl (by decide) iwMa lkMa_goal rfl d kk
theorem pfMa_goal (C : Cx G X RcMa cc nL lv rt) {x : Int32} (d : decode cc pc = .ok (.putfield 49, 3)) (kk : At G X nL Q (pc + 3) L st (sMa_goal S x)) : At G X nL Q pc L (.int x :: .ref (ad G 8) :: st) S := at_put C 8 3 10 rfl rfl (by decide) iwMa tcMa tyMa nmMa lkMa_goal rfl rfl rfl rfl (Nat.le_of_ble_eq_true rfl) rfl d kk
theorem lkMa_best : Cond.fieldLink RcMa 37 "TributeLists$Markets" "best" "[I" ∈ gw := mg (i := 241) (by decide +kernel) rfl
theorem gfMa_best (C : Cx G X RcMa cc nL lv rt) (d : decode cc pc = .ok (.getfield 37, 3)) (kk : At G X nL Q (pc + 3) L (.ref (ad G 38) :: st) S) : At G X nL Q pc L (.ref (ad G 8) :: st) S := at_get C 8 3 11 rfl rfl (by decide) iwMa lkMa_best rfl d kk
theorem lkMa_bestLength : Cond.fieldLink RcMa 40 "TributeLists$Markets" "bestLength" "I" ∈ gw := mg (i := 242) (by decide +kernel) rfl
theorem gfMa_bestLength (C : Cx G X RcMa cc nL lv rt) {x : Int32} (hx : gMa_bestLength S = x) (d : decode cc pc = .ok (.getfield 40, 3)) (kk : At G X nL Q (pc + 3) L (.int x :: st) S) : At G X nL Q pc L (.ref (ad G 8) :: st) S := by
  subst hx
  exact at_get C 8 3 12 rfl rfl (by decide) iwMa lkMa_bestLength rfl d kk
theorem pfMa_bestLength (C : Cx G X RcMa cc nL lv rt) {x : Int32} (d : decode cc pc = .ok (.putfield 40, 3)) (kk : At G X nL Q (pc + 3) L st (sMa_bestLength S x)) : At G X nL Q pc L (.int x :: .ref (ad G 8) :: st) S := at_put C 8 3 12 rfl rfl (by decide) iwMa tcMa tyMa nmMa lkMa_bestLength rfl rfl rfl rfl (Nat.le_of_ble_eq_true rfl) rfl d kk
theorem lkSh_yieldOf : Cond.fieldLink RcSh 9 "TributeLists$Shares" "yieldOf" "[I" ∈ gw := mg (i := 276) (by decide +kernel) rfl
theorem gfSh_yieldOf (C : Cx G X RcSh cc nL lv rt) (d : decode cc pc = .ok (.getfield 9, 3)) (kk : At G X nL Q (pc + 3) L (.ref (ad G 39) :: st) S) : At G X nL Q pc L (.ref (ad G 9) :: st) S := at_get C 9 7 0 rfl rfl (by decide) iwSh lkSh_yieldOf rfl d kk
theorem lkMM_clock : Cond.fieldLink RcMM 202 "TributeListsModel" "clock" "I" ∈ gw := mg (i := 797) (by decide +kernel) rfl
theorem gfMM_clock (C : Cx G X RcMM cc nL lv rt) {x : Int32} (hx : gMM_clock S = x) (d : decode cc pc = .ok (.getfield 202, 3)) (kk : At G X nL Q (pc + 3) L (.int x :: st) S) : At G X nL Q pc L (.ref (ad G 40) :: st) S := by
  subst hx
  exact at_get C 40 10 0 rfl rfl (by decide) iwMM lkMM_clock rfl d kk
theorem pfMM_clock (C : Cx G X RcMM cc nL lv rt) {x : Int32} (d : decode cc pc = .ok (.putfield 202, 3)) (kk : At G X nL Q (pc + 3) L st (sMM_clock S x)) : At G X nL Q pc L (.int x :: .ref (ad G 40) :: st) S := at_put C 40 10 0 rfl rfl (by decide) iwMM tcMM tyMM nmMM lkMM_clock rfl rfl rfl rfl (Nat.le_of_ble_eq_true rfl) rfl d kk
theorem lkMM_quarters : Cond.fieldLink RcMM 205 "TributeListsModel" "quarters" "I" ∈ gw := mg (i := 798) (by decide +kernel) rfl
theorem gfMM_quarters (C : Cx G X RcMM cc nL lv rt) {x : Int32} (hx : gMM_quarters S = x) (d : decode cc pc = .ok (.getfield 205, 3)) (kk : At G X nL Q (pc + 3) L (.int x :: st) S) : At G X nL Q pc L (.ref (ad G 40) :: st) S := by
  subst hx
  exact at_get C 40 10 1 rfl rfl (by decide) iwMM lkMM_quarters rfl d kk
theorem pfMM_quarters (C : Cx G X RcMM cc nL lv rt) {x : Int32} (d : decode cc pc = .ok (.putfield 205, 3)) (kk : At G X nL Q (pc + 3) L st (sMM_quarters S x)) : At G X nL Q pc L (.int x :: .ref (ad G 40) :: st) S := at_put C 40 10 1 rfl rfl (by decide) iwMM tcMM tyMM nmMM lkMM_quarters rfl rfl rfl rfl (Nat.le_of_ble_eq_true rfl) rfl d kk
theorem lkMM_roads : Cond.fieldLink RcMM 7 "TributeListsModel" "roads" "[I" ∈ gw := mg (i := 799) (by decide +kernel) rfl
theorem gfMM_roads (C : Cx G X RcMM cc nL lv rt) (d : decode cc pc = .ok (.getfield 7, 3)) (kk : At G X nL Q (pc + 3) L (.ref (ad G 41) :: st) S) : At G X nL Q pc L (.ref (ad G 40) :: st) S := at_get C 40 10 2 rfl rfl (by decide) iwMM lkMM_roads rfl d kk
theorem lkMM_ways : Cond.fieldLink RcMM 13 "TributeListsModel" "ways" "[I" ∈ gw := mg (i := 800) (by decide +kernel) rfl
theorem gfMM_ways (C : Cx G X RcMM cc nL lv rt) (d : decode cc pc = .ok (.getfield 13, 3)) (kk : At G X nL Q (pc + 3) L (.ref (ad G 42) :: st) S) : At G X nL Q pc L (.ref (ad G 40) :: st) S := at_get C 40 10 3 rfl rfl (by decide) iwMM lkMM_ways rfl d kk
theorem lkMM_weight : Cond.fieldLink RcMM 16 "TributeListsModel" "weight" "[I" ∈ gw := mg (i := 801) (by decide +kernel) rfl
theorem gfMM_weight (C : Cx G X RcMM cc nL lv rt) (d : decode cc pc = .ok (.getfield 16, 3)) (kk : At G X nL Q (pc + 3) L (.ref (ad G 43) :: st) S) : At G X nL Q pc L (.ref (ad G 40) :: st) S := at_get C 40 10 4 rfl rfl (by decide) iwMM lkMM_weight rfl d kk
theorem lkMM_load : Cond.fieldLink RcMM 19 "TributeListsModel" "load" "I" ∈ gw := mg (i := 802) (by decide +kernel) rfl
theorem gfMM_load (C : Cx G X RcMM cc nL lv rt) {x : Int32} (hx : gMM_load S = x) (d : decode cc pc = .ok (.getfield 19, 3)) (kk : At G X nL Q (pc + 3) L (.int x :: st) S) : At G X nL Q pc L (.ref (ad G 40) :: st) S := by
  subst hx
  exact at_get C 40 10 5 rfl rfl (by decide) iwMM lkMM_load rfl d kk
theorem pfMM_load (C : Cx G X RcMM cc nL lv rt) {x : Int32} (d : decode cc pc = .ok (.putfield 19, 3)) (kk : At G X nL Q (pc + 3) L st (sMM_load S x)) : At G X nL Q pc L (.int x :: .ref (ad G 40) :: st) S := at_put C 40 10 5 rfl rfl (by decide) iwMM tcMM tyMM nmMM lkMM_load rfl rfl rfl rfl (Nat.le_of_ble_eq_true rfl) rfl d kk
theorem lkMM_told : Cond.fieldLink RcMM 23 "TributeListsModel" "told" "[I" ∈ gw := mg (i := 803) (by decide +kernel) rfl
theorem gfMM_told (C : Cx G X RcMM cc nL lv rt) (d : decode cc pc = .ok (.getfield 23, 3)) (kk : At G X nL Q (pc + 3) L (.ref (ad G 44) :: st) S) : At G X nL Q pc L (.ref (ad G 40) :: st) S := at_get C 40 10 6 rfl rfl (by decide) iwMM lkMM_told rfl d kk
theorem lkMM_readAt : Cond.fieldLink RcMM 26 "TributeListsModel" "readAt" "[I" ∈ gw := mg (i := 804) (by decide +kernel) rfl
theorem gfMM_readAt (C : Cx G X RcMM cc nL lv rt) (d : decode cc pc = .ok (.getfield 26, 3)) (kk : At G X nL Q (pc + 3) L (.ref (ad G 45) :: st) S) : At G X nL Q pc L (.ref (ad G 40) :: st) S := at_get C 40 10 7 rfl rfl (by decide) iwMM lkMM_readAt rfl d kk
theorem lkMM_reads : Cond.fieldLink RcMM 182 "TributeListsModel" "reads" "I" ∈ gw := mg (i := 805) (by decide +kernel) rfl
theorem gfMM_reads (C : Cx G X RcMM cc nL lv rt) {x : Int32} (hx : gMM_reads S = x) (d : decode cc pc = .ok (.getfield 182, 3)) (kk : At G X nL Q (pc + 3) L (.int x :: st) S) : At G X nL Q pc L (.ref (ad G 40) :: st) S := by
  subst hx
  exact at_get C 40 10 8 rfl rfl (by decide) iwMM lkMM_reads rfl d kk
theorem pfMM_reads (C : Cx G X RcMM cc nL lv rt) {x : Int32} (d : decode cc pc = .ok (.putfield 182, 3)) (kk : At G X nL Q (pc + 3) L st (sMM_reads S x)) : At G X nL Q pc L (.int x :: .ref (ad G 40) :: st) S := at_put C 40 10 8 rfl rfl (by decide) iwMM tcMM tyMM nmMM lkMM_reads rfl rfl rfl rfl (Nat.le_of_ble_eq_true rfl) rfl d kk
theorem lkMM_debt : Cond.fieldLink RcMM 29 "TributeListsModel" "debt" "[I" ∈ gw := mg (i := 806) (by decide +kernel) rfl
theorem gfMM_debt (C : Cx G X RcMM cc nL lv rt) (d : decode cc pc = .ok (.getfield 29, 3)) (kk : At G X nL Q (pc + 3) L (.ref (ad G 46) :: st) S) : At G X nL Q pc L (.ref (ad G 40) :: st) S := at_get C 40 10 9 rfl rfl (by decide) iwMM lkMM_debt rfl d kk
theorem lkMM_gift : Cond.fieldLink RcMM 32 "TributeListsModel" "gift" "[I" ∈ gw := mg (i := 807) (by decide +kernel) rfl
theorem gfMM_gift (C : Cx G X RcMM cc nL lv rt) (d : decode cc pc = .ok (.getfield 32, 3)) (kk : At G X nL Q (pc + 3) L (.ref (ad G 47) :: st) S) : At G X nL Q pc L (.ref (ad G 40) :: st) S := at_get C 40 10 10 rfl rfl (by decide) iwMM lkMM_gift rfl d kk
theorem lkMM_paid : Cond.fieldLink RcMM 35 "TributeListsModel" "paid" "[I" ∈ gw := mg (i := 808) (by decide +kernel) rfl
theorem gfMM_paid (C : Cx G X RcMM cc nL lv rt) (d : decode cc pc = .ok (.getfield 35, 3)) (kk : At G X nL Q (pc + 3) L (.ref (ad G 48) :: st) S) : At G X nL Q pc L (.ref (ad G 40) :: st) S := at_get C 40 10 11 rfl rfl (by decide) iwMM lkMM_paid rfl d kk
theorem lkMM_late : Cond.fieldLink RcMM 38 "TributeListsModel" "late" "[J" ∈ gw := mg (i := 809) (by decide +kernel) rfl
theorem gfMM_late (C : Cx G X RcMM cc nL lv rt) (d : decode cc pc = .ok (.getfield 38, 3)) (kk : At G X nL Q (pc + 3) L (.ref (ad G 49) :: st) S) : At G X nL Q pc L (.ref (ad G 40) :: st) S := at_get C 40 10 12 rfl rfl (by decide) iwMM lkMM_late rfl d kk
theorem lkMM_sendings : Cond.fieldLink RcMM 199 "TributeListsModel" "sendings" "I" ∈ gw := mg (i := 810) (by decide +kernel) rfl
theorem gfMM_sendings (C : Cx G X RcMM cc nL lv rt) {x : Int32} (hx : gMM_sendings S = x) (d : decode cc pc = .ok (.getfield 199, 3)) (kk : At G X nL Q (pc + 3) L (.int x :: st) S) : At G X nL Q pc L (.ref (ad G 40) :: st) S := by
  subst hx
  exact at_get C 40 10 13 rfl rfl (by decide) iwMM lkMM_sendings rfl d kk
theorem pfMM_sendings (C : Cx G X RcMM cc nL lv rt) {x : Int32} (d : decode cc pc = .ok (.putfield 199, 3)) (kk : At G X nL Q (pc + 3) L st (sMM_sendings S x)) : At G X nL Q pc L (.int x :: .ref (ad G 40) :: st) S := at_put C 40 10 13 rfl rfl (by decide) iwMM tcMM tyMM nmMM lkMM_sendings rfl rfl rfl rfl (Nat.le_of_ble_eq_true rfl) rfl d kk
theorem lkMM_town : Cond.fieldLink RcMM 42 "TributeListsModel" "town" "[I" ∈ gw := mg (i := 811) (by decide +kernel) rfl
theorem gfMM_town (C : Cx G X RcMM cc nL lv rt) (d : decode cc pc = .ok (.getfield 42, 3)) (kk : At G X nL Q (pc + 3) L (.ref (ad G 50) :: st) S) : At G X nL Q pc L (.ref (ad G 40) :: st) S := at_get C 40 10 14 rfl rfl (by decide) iwMM lkMM_town rfl d kk
theorem lkMM_good : Cond.fieldLink RcMM 45 "TributeListsModel" "good" "[I" ∈ gw := mg (i := 812) (by decide +kernel) rfl
theorem gfMM_good (C : Cx G X RcMM cc nL lv rt) (d : decode cc pc = .ok (.getfield 45, 3)) (kk : At G X nL Q (pc + 3) L (.ref (ad G 51) :: st) S) : At G X nL Q pc L (.ref (ad G 40) :: st) S := at_get C 40 10 15 rfl rfl (by decide) iwMM lkMM_good rfl d kk
theorem lkMM_pieces : Cond.fieldLink RcMM 48 "TributeListsModel" "pieces" "[I" ∈ gw := mg (i := 813) (by decide +kernel) rfl
theorem gfMM_pieces (C : Cx G X RcMM cc nL lv rt) (d : decode cc pc = .ok (.getfield 48, 3)) (kk : At G X nL Q (pc + 3) L (.ref (ad G 52) :: st) S) : At G X nL Q pc L (.ref (ad G 40) :: st) S := at_get C 40 10 16 rfl rfl (by decide) iwMM lkMM_pieces rfl d kk
theorem lkMM_bearers : Cond.fieldLink RcMM 51 "TributeListsModel" "bearers" "[I" ∈ gw := mg (i := 814) (by decide +kernel) rfl
theorem gfMM_bearers (C : Cx G X RcMM cc nL lv rt) (d : decode cc pc = .ok (.getfield 51, 3)) (kk : At G X nL Q (pc + 3) L (.ref (ad G 53) :: st) S) : At G X nL Q pc L (.ref (ad G 40) :: st) S := at_get C 40 10 17 rfl rfl (by decide) iwMM lkMM_bearers rfl d kk
theorem lkMM_left : Cond.fieldLink RcMM 54 "TributeListsModel" "left" "[I" ∈ gw := mg (i := 815) (by decide +kernel) rfl
theorem gfMM_left (C : Cx G X RcMM cc nL lv rt) (d : decode cc pc = .ok (.getfield 54, 3)) (kk : At G X nL Q (pc + 3) L (.ref (ad G 54) :: st) S) : At G X nL Q pc L (.ref (ad G 40) :: st) S := at_get C 40 10 18 rfl rfl (by decide) iwMM lkMM_left rfl d kk
theorem lkMM_comes : Cond.fieldLink RcMM 57 "TributeListsModel" "comes" "[I" ∈ gw := mg (i := 816) (by decide +kernel) rfl
theorem gfMM_comes (C : Cx G X RcMM cc nL lv rt) (d : decode cc pc = .ok (.getfield 57, 3)) (kk : At G X nL Q (pc + 3) L (.ref (ad G 55) :: st) S) : At G X nL Q pc L (.ref (ad G 40) :: st) S := at_get C 40 10 19 rfl rfl (by decide) iwMM lkMM_comes rfl d kk
theorem lkMM_isStored : Cond.fieldLink RcMM 60 "TributeListsModel" "isStored" "[Z" ∈ gw := mg (i := 817) (by decide +kernel) rfl
theorem gfMM_isStored (C : Cx G X RcMM cc nL lv rt) (d : decode cc pc = .ok (.getfield 60, 3)) (kk : At G X nL Q (pc + 3) L (.ref (ad G 56) :: st) S) : At G X nL Q pc L (.ref (ad G 40) :: st) S := at_get C 40 10 20 rfl rfl (by decide) iwMM lkMM_isStored rfl d kk
theorem lkMM_used : Cond.fieldLink RcMM 64 "TributeListsModel" "used" "[I" ∈ gw := mg (i := 818) (by decide +kernel) rfl
theorem gfMM_used (C : Cx G X RcMM cc nL lv rt) (d : decode cc pc = .ok (.getfield 64, 3)) (kk : At G X nL Q (pc + 3) L (.ref (ad G 57) :: st) S) : At G X nL Q pc L (.ref (ad G 40) :: st) S := at_get C 40 10 21 rfl rfl (by decide) iwMM lkMM_used rfl d kk
theorem lkMM_stored : Cond.fieldLink RcMM 208 "TributeListsModel" "stored" "I" ∈ gw := mg (i := 819) (by decide +kernel) rfl
theorem gfMM_stored (C : Cx G X RcMM cc nL lv rt) {x : Int32} (hx : gMM_stored S = x) (d : decode cc pc = .ok (.getfield 208, 3)) (kk : At G X nL Q (pc + 3) L (.int x :: st) S) : At G X nL Q pc L (.ref (ad G 40) :: st) S := by
  subst hx
  exact at_get C 40 10 22 rfl rfl (by decide) iwMM lkMM_stored rfl d kk
theorem pfMM_stored (C : Cx G X RcMM cc nL lv rt) {x : Int32} (d : decode cc pc = .ok (.putfield 208, 3)) (kk : At G X nL Q (pc + 3) L st (sMM_stored S x)) : At G X nL Q pc L (.int x :: .ref (ad G 40) :: st) S := at_put C 40 10 22 rfl rfl (by decide) iwMM tcMM tyMM nmMM lkMM_stored rfl rfl rfl rfl (Nat.le_of_ble_eq_true rfl) rfl d kk
theorem lkMM_storedOrder : Cond.fieldLink RcMM 67 "TributeListsModel" "storedOrder" "[I" ∈ gw := mg (i := 820) (by decide +kernel) rfl
theorem gfMM_storedOrder (C : Cx G X RcMM cc nL lv rt) (d : decode cc pc = .ok (.getfield 67, 3)) (kk : At G X nL Q (pc + 3) L (.ref (ad G 58) :: st) S) : At G X nL Q pc L (.ref (ad G 40) :: st) S := at_get C 40 10 23 rfl rfl (by decide) iwMM lkMM_storedOrder rfl d kk
theorem lkMM_storedMany : Cond.fieldLink RcMM 211 "TributeListsModel" "storedMany" "I" ∈ gw := mg (i := 821) (by decide +kernel) rfl
theorem gfMM_storedMany (C : Cx G X RcMM cc nL lv rt) {x : Int32} (hx : gMM_storedMany S = x) (d : decode cc pc = .ok (.getfield 211, 3)) (kk : At G X nL Q (pc + 3) L (.int x :: st) S) : At G X nL Q pc L (.ref (ad G 40) :: st) S := by
  subst hx
  exact at_get C 40 10 24 rfl rfl (by decide) iwMM lkMM_storedMany rfl d kk
theorem pfMM_storedMany (C : Cx G X RcMM cc nL lv rt) {x : Int32} (d : decode cc pc = .ok (.putfield 211, 3)) (kk : At G X nL Q (pc + 3) L st (sMM_storedMany S x)) : At G X nL Q pc L (.int x :: .ref (ad G 40) :: st) S := at_put C 40 10 24 rfl rfl (by decide) iwMM tcMM tyMM nmMM lkMM_storedMany rfl rfl rfl rfl (Nat.le_of_ble_eq_true rfl) rfl d kk
theorem lkMM_tape : Cond.fieldLink RcMM 70 "TributeListsModel" "tape" "[I" ∈ gw := mg (i := 822) (by decide +kernel) rfl
theorem gfMM_tape (C : Cx G X RcMM cc nL lv rt) (d : decode cc pc = .ok (.getfield 70, 3)) (kk : At G X nL Q (pc + 3) L (.ref (ad G 59) :: st) S) : At G X nL Q pc L (.ref (ad G 40) :: st) S := at_get C 40 10 25 rfl rfl (by decide) iwMM lkMM_tape rfl d kk
theorem lkMM_taped : Cond.fieldLink RcMM 128 "TributeListsModel" "taped" "I" ∈ gw := mg (i := 823) (by decide +kernel) rfl
theorem gfMM_taped (C : Cx G X RcMM cc nL lv rt) {x : Int32} (hx : gMM_taped S = x) (d : decode cc pc = .ok (.getfield 128, 3)) (kk : At G X nL Q (pc + 3) L (.int x :: st) S) : At G X nL Q pc L (.ref (ad G 40) :: st) S := by
  subst hx
  exact at_get C 40 10 26 rfl rfl (by decide) iwMM lkMM_taped rfl d kk
theorem pfMM_taped (C : Cx G X RcMM cc nL lv rt) {x : Int32} (d : decode cc pc = .ok (.putfield 128, 3)) (kk : At G X nL Q (pc + 3) L st (sMM_taped S x)) : At G X nL Q pc L (.int x :: .ref (ad G 40) :: st) S := at_put C 40 10 26 rfl rfl (by decide) iwMM tcMM tyMM nmMM lkMM_taped rfl rfl rfl rfl (Nat.le_of_ble_eq_true rfl) rfl d kk
theorem lkMM_fault : Cond.fieldLink RcMM 73 "TributeListsModel" "fault" "I" ∈ gw := mg (i := 824) (by decide +kernel) rfl
theorem gfMM_fault (C : Cx G X RcMM cc nL lv rt) {x : Int32} (hx : gMM_fault S = x) (d : decode cc pc = .ok (.getfield 73, 3)) (kk : At G X nL Q (pc + 3) L (.int x :: st) S) : At G X nL Q pc L (.ref (ad G 40) :: st) S := by
  subst hx
  exact at_get C 40 10 27 rfl rfl (by decide) iwMM lkMM_fault rfl d kk
theorem pfMM_fault (C : Cx G X RcMM cc nL lv rt) {x : Int32} (d : decode cc pc = .ok (.putfield 73, 3)) (kk : At G X nL Q (pc + 3) L st (sMM_fault S x)) : At G X nL Q pc L (.int x :: .ref (ad G 40) :: st) S := at_put C 40 10 27 rfl rfl (by decide) iwMM tcMM tyMM nmMM lkMM_fault rfl rfl rfl rfl (Nat.le_of_ble_eq_true rfl) rfl d kk
theorem lkMM_faultPlace : Cond.fieldLink RcMM 76 "TributeListsModel" "faultPlace" "I" ∈ gw := mg (i := 825) (by decide +kernel) rfl
theorem gfMM_faultPlace (C : Cx G X RcMM cc nL lv rt) {x : Int32} (hx : gMM_faultPlace S = x) (d : decode cc pc = .ok (.getfield 76, 3)) (kk : At G X nL Q (pc + 3) L (.int x :: st) S) : At G X nL Q pc L (.ref (ad G 40) :: st) S := by
  subst hx
  exact at_get C 40 10 28 rfl rfl (by decide) iwMM lkMM_faultPlace rfl d kk
theorem pfMM_faultPlace (C : Cx G X RcMM cc nL lv rt) {x : Int32} (d : decode cc pc = .ok (.putfield 76, 3)) (kk : At G X nL Q (pc + 3) L st (sMM_faultPlace S x)) : At G X nL Q pc L (.int x :: .ref (ad G 40) :: st) S := at_put C 40 10 28 rfl rfl (by decide) iwMM tcMM tyMM nmMM lkMM_faultPlace rfl rfl rfl rfl (Nat.le_of_ble_eq_true rfl) rfl d kk
theorem lkMM_at : Cond.fieldLink RcMM 135 "TributeListsModel" "at" "I" ∈ gw := mg (i := 826) (by decide +kernel) rfl
theorem gfMM_at (C : Cx G X RcMM cc nL lv rt) {x : Int32} (hx : gMM_at S = x) (d : decode cc pc = .ok (.getfield 135, 3)) (kk : At G X nL Q (pc + 3) L (.int x :: st) S) : At G X nL Q pc L (.ref (ad G 40) :: st) S := by
  subst hx
  exact at_get C 40 10 29 rfl rfl (by decide) iwMM lkMM_at rfl d kk
theorem pfMM_at (C : Cx G X RcMM cc nL lv rt) {x : Int32} (d : decode cc pc = .ok (.putfield 135, 3)) (kk : At G X nL Q (pc + 3) L st (sMM_at S x)) : At G X nL Q pc L (.int x :: .ref (ad G 40) :: st) S := at_put C 40 10 29 rfl rfl (by decide) iwMM tcMM tyMM nmMM lkMM_at rfl rfl rfl rfl (Nat.le_of_ble_eq_true rfl) rfl d kk
theorem lkMM_place : Cond.fieldLink RcMM 142 "TributeListsModel" "place" "I" ∈ gw := mg (i := 827) (by decide +kernel) rfl
theorem gfMM_place (C : Cx G X RcMM cc nL lv rt) {x : Int32} (hx : gMM_place S = x) (d : decode cc pc = .ok (.getfield 142, 3)) (kk : At G X nL Q (pc + 3) L (.int x :: st) S) : At G X nL Q pc L (.ref (ad G 40) :: st) S := by
  subst hx
  exact at_get C 40 10 30 rfl rfl (by decide) iwMM lkMM_place rfl d kk
theorem pfMM_place (C : Cx G X RcMM cc nL lv rt) {x : Int32} (d : decode cc pc = .ok (.putfield 142, 3)) (kk : At G X nL Q (pc + 3) L st (sMM_place S x)) : At G X nL Q pc L (.int x :: .ref (ad G 40) :: st) S := at_put C 40 10 30 rfl rfl (by decide) iwMM tcMM tyMM nmMM lkMM_place rfl rfl rfl rfl (Nat.le_of_ble_eq_true rfl) rfl d kk
theorem lkMM_token : Cond.fieldLink RcMM 145 "TributeListsModel" "token" "I" ∈ gw := mg (i := 828) (by decide +kernel) rfl
theorem gfMM_token (C : Cx G X RcMM cc nL lv rt) {x : Int32} (hx : gMM_token S = x) (d : decode cc pc = .ok (.getfield 145, 3)) (kk : At G X nL Q (pc + 3) L (.int x :: st) S) : At G X nL Q pc L (.ref (ad G 40) :: st) S := by
  subst hx
  exact at_get C 40 10 31 rfl rfl (by decide) iwMM lkMM_token rfl d kk
theorem pfMM_token (C : Cx G X RcMM cc nL lv rt) {x : Int32} (d : decode cc pc = .ok (.putfield 145, 3)) (kk : At G X nL Q (pc + 3) L st (sMM_token S x)) : At G X nL Q pc L (.int x :: .ref (ad G 40) :: st) S := at_put C 40 10 31 rfl rfl (by decide) iwMM tcMM tyMM nmMM lkMM_token rfl rfl rfl rfl (Nat.le_of_ble_eq_true rfl) rfl d kk
theorem lkMM_number : Cond.fieldLink RcMM 151 "TributeListsModel" "number" "I" ∈ gw := mg (i := 829) (by decide +kernel) rfl
theorem gfMM_number (C : Cx G X RcMM cc nL lv rt) {x : Int32} (hx : gMM_number S = x) (d : decode cc pc = .ok (.getfield 151, 3)) (kk : At G X nL Q (pc + 3) L (.int x :: st) S) : At G X nL Q pc L (.ref (ad G 40) :: st) S := by
  subst hx
  exact at_get C 40 10 32 rfl rfl (by decide) iwMM lkMM_number rfl d kk
theorem pfMM_number (C : Cx G X RcMM cc nL lv rt) {x : Int32} (d : decode cc pc = .ok (.putfield 151, 3)) (kk : At G X nL Q (pc + 3) L st (sMM_number S x)) : At G X nL Q pc L (.int x :: .ref (ad G 40) :: st) S := at_put C 40 10 32 rfl rfl (by decide) iwMM tcMM tyMM nmMM lkMM_number rfl rfl rfl rfl (Nat.le_of_ble_eq_true rfl) rfl d kk
theorem lkMM_lines : Cond.fieldLink RcMM 172 "TributeListsModel" "lines" "I" ∈ gw := mg (i := 830) (by decide +kernel) rfl
theorem gfMM_lines (C : Cx G X RcMM cc nL lv rt) {x : Int32} (hx : gMM_lines S = x) (d : decode cc pc = .ok (.getfield 172, 3)) (kk : At G X nL Q (pc + 3) L (.int x :: st) S) : At G X nL Q pc L (.ref (ad G 40) :: st) S := by
  subst hx
  exact at_get C 40 10 33 rfl rfl (by decide) iwMM lkMM_lines rfl d kk
theorem pfMM_lines (C : Cx G X RcMM cc nL lv rt) {x : Int32} (d : decode cc pc = .ok (.putfield 172, 3)) (kk : At G X nL Q (pc + 3) L st (sMM_lines S x)) : At G X nL Q pc L (.int x :: .ref (ad G 40) :: st) S := at_put C 40 10 33 rfl rfl (by decide) iwMM tcMM tyMM nmMM lkMM_lines rfl rfl rfl rfl (Nat.le_of_ble_eq_true rfl) rfl d kk
theorem lkMM_towns : Cond.fieldLink RcMM 163 "TributeListsModel" "towns" "I" ∈ gw := mg (i := 831) (by decide +kernel) rfl
theorem gfMM_towns (C : Cx G X RcMM cc nL lv rt) {x : Int32} (hx : gMM_towns S = x) (d : decode cc pc = .ok (.getfield 163, 3)) (kk : At G X nL Q (pc + 3) L (.int x :: st) S) : At G X nL Q pc L (.ref (ad G 40) :: st) S := by
  subst hx
  exact at_get C 40 10 34 rfl rfl (by decide) iwMM lkMM_towns rfl d kk
theorem pfMM_towns (C : Cx G X RcMM cc nL lv rt) {x : Int32} (d : decode cc pc = .ok (.putfield 163, 3)) (kk : At G X nL Q (pc + 3) L st (sMM_towns S x)) : At G X nL Q pc L (.int x :: .ref (ad G 40) :: st) S := at_put C 40 10 34 rfl rfl (by decide) iwMM tcMM tyMM nmMM lkMM_towns rfl rfl rfl rfl (Nat.le_of_ble_eq_true rfl) rfl d kk
theorem lkMM_goods : Cond.fieldLink RcMM 166 "TributeListsModel" "goods" "I" ∈ gw := mg (i := 832) (by decide +kernel) rfl
theorem gfMM_goods (C : Cx G X RcMM cc nL lv rt) {x : Int32} (hx : gMM_goods S = x) (d : decode cc pc = .ok (.getfield 166, 3)) (kk : At G X nL Q (pc + 3) L (.int x :: st) S) : At G X nL Q pc L (.ref (ad G 40) :: st) S := by
  subst hx
  exact at_get C 40 10 35 rfl rfl (by decide) iwMM lkMM_goods rfl d kk
theorem pfMM_goods (C : Cx G X RcMM cc nL lv rt) {x : Int32} (d : decode cc pc = .ok (.putfield 166, 3)) (kk : At G X nL Q (pc + 3) L st (sMM_goods S x)) : At G X nL Q pc L (.int x :: .ref (ad G 40) :: st) S := at_put C 40 10 35 rfl rfl (by decide) iwMM tcMM tyMM nmMM lkMM_goods rfl rfl rfl rfl (Nat.le_of_ble_eq_true rfl) rfl d kk
theorem lkMM_markets : Cond.fieldLink RcMM 222 "TributeListsModel" "markets" "I" ∈ gw := mg (i := 833) (by decide +kernel) rfl
theorem gfMM_markets (C : Cx G X RcMM cc nL lv rt) {x : Int32} (hx : gMM_markets S = x) (d : decode cc pc = .ok (.getfield 222, 3)) (kk : At G X nL Q (pc + 3) L (.int x :: st) S) : At G X nL Q pc L (.ref (ad G 40) :: st) S := by
  subst hx
  exact at_get C 40 10 36 rfl rfl (by decide) iwMM lkMM_markets rfl d kk
theorem pfMM_markets (C : Cx G X RcMM cc nL lv rt) {x : Int32} (d : decode cc pc = .ok (.putfield 222, 3)) (kk : At G X nL Q (pc + 3) L st (sMM_markets S x)) : At G X nL Q pc L (.int x :: .ref (ad G 40) :: st) S := at_put C 40 10 36 rfl rfl (by decide) iwMM tcMM tyMM nmMM lkMM_markets rfl rfl rfl rfl (Nat.le_of_ble_eq_true rfl) rfl d kk
theorem lkMM_from : Cond.fieldLink RcMM 79 "TributeListsModel" "from" "[I" ∈ gw := mg (i := 834) (by decide +kernel) rfl
theorem gfMM_from (C : Cx G X RcMM cc nL lv rt) (d : decode cc pc = .ok (.getfield 79, 3)) (kk : At G X nL Q (pc + 3) L (.ref (ad G 60) :: st) S) : At G X nL Q pc L (.ref (ad G 40) :: st) S := at_get C 40 10 37 rfl rfl (by decide) iwMM lkMM_from rfl d kk
theorem lkMM_gives : Cond.fieldLink RcMM 82 "TributeListsModel" "gives" "[I" ∈ gw := mg (i := 835) (by decide +kernel) rfl
theorem gfMM_gives (C : Cx G X RcMM cc nL lv rt) (d : decode cc pc = .ok (.getfield 82, 3)) (kk : At G X nL Q (pc + 3) L (.ref (ad G 61) :: st) S) : At G X nL Q pc L (.ref (ad G 40) :: st) S := at_get C 40 10 38 rfl rfl (by decide) iwMM lkMM_gives rfl d kk
theorem lkMM_to : Cond.fieldLink RcMM 85 "TributeListsModel" "to" "[I" ∈ gw := mg (i := 836) (by decide +kernel) rfl
theorem gfMM_to (C : Cx G X RcMM cc nL lv rt) (d : decode cc pc = .ok (.getfield 85, 3)) (kk : At G X nL Q (pc + 3) L (.ref (ad G 62) :: st) S) : At G X nL Q pc L (.ref (ad G 40) :: st) S := at_get C 40 10 39 rfl rfl (by decide) iwMM lkMM_to rfl d kk
theorem lkMM_gets : Cond.fieldLink RcMM 88 "TributeListsModel" "gets" "[I" ∈ gw := mg (i := 837) (by decide +kernel) rfl
theorem gfMM_gets (C : Cx G X RcMM cc nL lv rt) (d : decode cc pc = .ok (.getfield 88, 3)) (kk : At G X nL Q (pc + 3) L (.ref (ad G 63) :: st) S) : At G X nL Q pc L (.ref (ad G 40) :: st) S := at_get C 40 10 40 rfl rfl (by decide) iwMM lkMM_gets rfl d kk
theorem lkMM_open : Cond.fieldLink RcMM 91 "TributeListsModel" "open" "[I" ∈ gw := mg (i := 838) (by decide +kernel) rfl
theorem gfMM_open (C : Cx G X RcMM cc nL lv rt) (d : decode cc pc = .ok (.getfield 91, 3)) (kk : At G X nL Q (pc + 3) L (.ref (ad G 64) :: st) S) : At G X nL Q pc L (.ref (ad G 40) :: st) S := at_get C 40 10 41 rfl rfl (by decide) iwMM lkMM_open rfl d kk
theorem lkMM_much : Cond.fieldLink RcMM 94 "TributeListsModel" "much" "[J" ∈ gw := mg (i := 839) (by decide +kernel) rfl
theorem gfMM_much (C : Cx G X RcMM cc nL lv rt) (d : decode cc pc = .ok (.getfield 94, 3)) (kk : At G X nL Q (pc + 3) L (.ref (ad G 65) :: st) S) : At G X nL Q pc L (.ref (ad G 40) :: st) S := at_get C 40 10 42 rfl rfl (by decide) iwMM lkMM_much rfl d kk
theorem lkMM_bestRow : Cond.fieldLink RcMM 97 "TributeListsModel" "bestRow" "[I" ∈ gw := mg (i := 840) (by decide +kernel) rfl
theorem gfMM_bestRow (C : Cx G X RcMM cc nL lv rt) (d : decode cc pc = .ok (.getfield 97, 3)) (kk : At G X nL Q (pc + 3) L (.ref (ad G 66) :: st) S) : At G X nL Q pc L (.ref (ad G 40) :: st) S := at_get C 40 10 43 rfl rfl (by decide) iwMM lkMM_bestRow rfl d kk
theorem lkMM_bestLong : Cond.fieldLink RcMM 229 "TributeListsModel" "bestLong" "I" ∈ gw := mg (i := 841) (by decide +kernel) rfl
theorem gfMM_bestLong (C : Cx G X RcMM cc nL lv rt) {x : Int32} (hx : gMM_bestLong S = x) (d : decode cc pc = .ok (.getfield 229, 3)) (kk : At G X nL Q (pc + 3) L (.int x :: st) S) : At G X nL Q pc L (.ref (ad G 40) :: st) S := by
  subst hx
  exact at_get C 40 10 44 rfl rfl (by decide) iwMM lkMM_bestLong rfl d kk
theorem pfMM_bestLong (C : Cx G X RcMM cc nL lv rt) {x : Int32} (d : decode cc pc = .ok (.putfield 229, 3)) (kk : At G X nL Q (pc + 3) L st (sMM_bestLong S x)) : At G X nL Q pc L (.int x :: .ref (ad G 40) :: st) S := at_put C 40 10 44 rfl rfl (by decide) iwMM tcMM tyMM nmMM lkMM_bestLong rfl rfl rfl rfl (Nat.le_of_ble_eq_true rfl) rfl d kk
theorem lkMM_rowLong : Cond.fieldLink RcMM 245 "TributeListsModel" "rowLong" "I" ∈ gw := mg (i := 842) (by decide +kernel) rfl
theorem gfMM_rowLong (C : Cx G X RcMM cc nL lv rt) {x : Int32} (hx : gMM_rowLong S = x) (d : decode cc pc = .ok (.getfield 245, 3)) (kk : At G X nL Q (pc + 3) L (.int x :: st) S) : At G X nL Q pc L (.ref (ad G 40) :: st) S := by
  subst hx
  exact at_get C 40 10 45 rfl rfl (by decide) iwMM lkMM_rowLong rfl d kk
theorem pfMM_rowLong (C : Cx G X RcMM cc nL lv rt) {x : Int32} (d : decode cc pc = .ok (.putfield 245, 3)) (kk : At G X nL Q (pc + 3) L st (sMM_rowLong S x)) : At G X nL Q pc L (.int x :: .ref (ad G 40) :: st) S := at_put C 40 10 45 rfl rfl (by decide) iwMM tcMM tyMM nmMM lkMM_rowLong rfl rfl rfl rfl (Nat.le_of_ble_eq_true rfl) rfl d kk
theorem lkMM_row : Cond.fieldLink RcMM 100 "TributeListsModel" "row" "[I" ∈ gw := mg (i := 843) (by decide +kernel) rfl
theorem gfMM_row (C : Cx G X RcMM cc nL lv rt) (d : decode cc pc = .ok (.getfield 100, 3)) (kk : At G X nL Q (pc + 3) L (.ref (ad G 67) :: st) S) : At G X nL Q pc L (.ref (ad G 40) :: st) S := at_get C 40 10 46 rfl rfl (by decide) iwMM lkMM_row rfl d kk
theorem lkMM_best : Cond.fieldLink RcMM 225 "TributeListsModel" "best" "J" ∈ gw := mg (i := 844) (by decide +kernel) rfl
theorem gfMM_best (C : Cx G X RcMM cc nL lv rt) {x : Int64} (hx : gMM_best S = x) (d : decode cc pc = .ok (.getfield 225, 3)) (kk : At G X nL Q (pc + 3) L (.long x :: st) S) : At G X nL Q pc L (.ref (ad G 40) :: st) S := by
  subst hx
  exact at_get C 40 10 47 rfl rfl (by decide) iwMM lkMM_best rfl d kk
theorem pfMM_best (C : Cx G X RcMM cc nL lv rt) {x : Int64} (d : decode cc pc = .ok (.putfield 225, 3)) (kk : At G X nL Q (pc + 3) L st (sMM_best S x)) : At G X nL Q pc L (.long x :: .ref (ad G 40) :: st) S := at_put C 40 10 47 rfl rfl (by decide) iwMM tcMM tyMM nmMM lkMM_best rfl rfl rfl rfl (Nat.le_of_ble_eq_true rfl) rfl d kk
theorem lkMM_yield2 : Cond.fieldLink RcMM 103 "TributeListsModel" "yield2" "[I" ∈ gw := mg (i := 845) (by decide +kernel) rfl
theorem gfMM_yield2 (C : Cx G X RcMM cc nL lv rt) (d : decode cc pc = .ok (.getfield 103, 3)) (kk : At G X nL Q (pc + 3) L (.ref (ad G 68) :: st) S) : At G X nL Q pc L (.ref (ad G 40) :: st) S := at_get C 40 10 48 rfl rfl (by decide) iwMM lkMM_yield2 rfl d kk
theorem lkMM_hasMore : Cond.fieldLink RcMM 106 "TributeListsModel" "hasMore" "[Z" ∈ gw := mg (i := 846) (by decide +kernel) rfl
theorem gfMM_hasMore (C : Cx G X RcMM cc nL lv rt) (d : decode cc pc = .ok (.getfield 106, 3)) (kk : At G X nL Q (pc + 3) L (.ref (ad G 69) :: st) S) : At G X nL Q pc L (.ref (ad G 40) :: st) S := at_get C 40 10 49 rfl rfl (by decide) iwMM lkMM_hasMore rfl d kk
theorem ldRo_length (C : Cx G X own cc nL lv rt) {f : Nat → Int32} (hf : gRo_length S = f) {i : Int32} (hi : inb i 256 = true) (d : decode cc pc = .ok (.iaload, 1)) (kk : At G X nL Q (pc + 1) L (.int (f i.toNatClampNeg) :: st) S) : At G X nL Q pc L (.int i :: .ref (ad G 10) :: st) S := by
  subst hf
  exact at_iald C 10 rfl hi d kk
theorem svRo_length (C : Cx G X own cc nL lv rt) {i x : Int32} (hi : inb i 256 = true) (d : decode cc pc = .ok (.iastore, 1)) (kk : At G X nL Q (pc + 1) L st (sRo_length S (upd (gRo_length S) i.toNatClampNeg x))) : At G X nL Q pc L (.int x :: .int i :: .ref (ad G 10) :: st) S := at_iast C 10 rfl hi rfl d kk
theorem ldRo_reach (C : Cx G X own cc nL lv rt) {f : Nat → Int32} (hf : gRo_reach S = f) {i : Int32} (hi : inb i 16 = true) (d : decode cc pc = .ok (.iaload, 1)) (kk : At G X nL Q (pc + 1) L (.int (f i.toNatClampNeg) :: st) S) : At G X nL Q pc L (.int i :: .ref (ad G 11) :: st) S := by
  subst hf
  exact at_iald C 11 rfl hi d kk
theorem svRo_reach (C : Cx G X own cc nL lv rt) {i x : Int32} (hi : inb i 16 = true) (d : decode cc pc = .ok (.iastore, 1)) (kk : At G X nL Q (pc + 1) L st (sRo_reach S (upd (gRo_reach S) i.toNatClampNeg x))) : At G X nL Q pc L (.int x :: .int i :: .ref (ad G 11) :: st) S := at_iast C 11 rfl hi rfl d kk
theorem ldRo_settled (C : Cx G X own cc nL lv rt) {f : Nat → Int32} (hf : gRo_settled S = f) {i : Int32} (hi : inb i 16 = true) (d : decode cc pc = .ok (.iaload, 1)) (kk : At G X nL Q (pc + 1) L (.int (f i.toNatClampNeg) :: st) S) : At G X nL Q pc L (.int i :: .ref (ad G 12) :: st) S := by
  subst hf
  exact at_iald C 12 rfl hi d kk
theorem svRo_settled (C : Cx G X own cc nL lv rt) {i x : Int32} (hi : inb i 16 = true) (d : decode cc pc = .ok (.iastore, 1)) (kk : At G X nL Q (pc + 1) L st (sRo_settled S (upd (gRo_settled S) i.toNatClampNeg x))) : At G X nL Q pc L (.int x :: .int i :: .ref (ad G 12) :: st) S := at_iast C 12 rfl hi rfl d kk
theorem ldPo_weights (C : Cx G X own cc nL lv rt) {f : Nat → Int32} (hf : gPo_weights S = f) {i : Int32} (hi : inb i 6 = true) (d : decode cc pc = .ok (.iaload, 1)) (kk : At G X nL Q (pc + 1) L (.int (f i.toNatClampNeg) :: st) S) : At G X nL Q pc L (.int i :: .ref (ad G 13) :: st) S := by
  subst hf
  exact at_iald C 13 rfl hi d kk
theorem svPo_weights (C : Cx G X own cc nL lv rt) {i x : Int32} (hi : inb i 6 = true) (d : decode cc pc = .ok (.iastore, 1)) (kk : At G X nL Q (pc + 1) L st (sPo_weights S (upd (gPo_weights S) i.toNatClampNeg x))) : At G X nL Q pc L (.int x :: .int i :: .ref (ad G 13) :: st) S := at_iast C 13 rfl hi rfl d kk
theorem ldTa_bytes (C : Cx G X own cc nL lv rt) {f : Nat → Int32} (hf : gTa_bytes S = f) {i : Int32} (hi : inb i 300 = true) (d : decode cc pc = .ok (.baload, 1)) (kk : At G X nL Q (pc + 1) L (.int (f i.toNatClampNeg) :: st) S) : At G X nL Q pc L (.int i :: .ref (ad G 14) :: st) S := by
  subst hf
  exact at_bald C 14 rfl hi d kk
theorem svTa_bytes (C : Cx G X own cc nL lv rt) {i x : Int32} (hi : inb i 300 = true) (d : decode cc pc = .ok (.bastore, 1)) (kk : At G X nL Q (pc + 1) L st (sTa_bytes S (upd (gTa_bytes S) i.toNatClampNeg (vp_nar .byte x)))) : At G X nL Q pc L (.int x :: .int i :: .ref (ad G 14) :: st) S := at_bast C 14 rfl hi rfl d kk
theorem ldLi_row (C : Cx G X own cc nL lv rt) {f : Nat → Int32} (hf : gLi_row S = f) {i : Int32} (hi : inb i 96 = true) (d : decode cc pc = .ok (.iaload, 1)) (kk : At G X nL Q (pc + 1) L (.int (f i.toNatClampNeg) :: st) S) : At G X nL Q pc L (.int i :: .ref (ad G 15) :: st) S := by
  subst hf
  exact at_iald C 15 rfl hi d kk
theorem svLi_row (C : Cx G X own cc nL lv rt) {i x : Int32} (hi : inb i 96 = true) (d : decode cc pc = .ok (.iastore, 1)) (kk : At G X nL Q (pc + 1) L st (sLi_row S (upd (gLi_row S) i.toNatClampNeg x))) : At G X nL Q pc L (.int x :: .int i :: .ref (ad G 15) :: st) S := at_iast C 15 rfl hi rfl d kk
theorem ldLi_townSeen (C : Cx G X own cc nL lv rt) {f : Nat → Int32} (hf : gLi_townSeen S = f) {i : Int32} (hi : inb i 16 = true) (d : decode cc pc = .ok (.iaload, 1)) (kk : At G X nL Q (pc + 1) L (.int (f i.toNatClampNeg) :: st) S) : At G X nL Q pc L (.int i :: .ref (ad G 16) :: st) S := by
  subst hf
  exact at_iald C 16 rfl hi d kk
theorem svLi_townSeen (C : Cx G X own cc nL lv rt) {i x : Int32} (hi : inb i 16 = true) (d : decode cc pc = .ok (.iastore, 1)) (kk : At G X nL Q (pc + 1) L st (sLi_townSeen S (upd (gLi_townSeen S) i.toNatClampNeg x))) : At G X nL Q pc L (.int x :: .int i :: .ref (ad G 16) :: st) S := at_iast C 16 rfl hi rfl d kk
theorem raCo_told (C : Cx G X own cc nL lv rt) {i : Int32} (hi : inb i 5 = true) (d : decode cc pc = .ok (.aaload, 1)) (kk : At G X nL Q (pc + 1) L (.ref (ad G (18 + i.toNatClampNeg)) :: st) S) : At G X nL Q pc L (.int i :: .ref (ad G 17) :: st) S := at_aald C 17 rfl hi (by show va_rf (rwCo_told G _) = _; rw [rwCo_told, if_pos (inb_lt hi)]; rfl) d kk
theorem rgCo_told (i : Nat) (hi : i < 5) : (wld G S)[18 + i]? = some (ad G (18 + i), .inl (cy G 0, 96, .inl (gCo_told S i))) := by
  have h : i = 0 ∨ i = 1 ∨ i = 2 ∨ i = 3 ∨ i = 4 := by omega
  rcases h with rfl | rfl | rfl | rfl | rfl <;> rfl
theorem ldCo_told (C : Cx G X own cc nL lv rt) {f : Nat → Nat → Int32} (hf : gCo_told S = f) {r i : Int32} (hr : inb r 5 = true) (hi : inb i 96 = true) (d : decode cc pc = .ok (.iaload, 1)) (kk : At G X nL Q (pc + 1) L (.int (f r.toNatClampNeg i.toNatClampNeg) :: st) S) : At G X nL Q pc L (.int i :: .ref (ad G (18 + r.toNatClampNeg)) :: st) S := by
  subst hf
  exact at_iald C (18 + r.toNatClampNeg) (rgCo_told _ (inb_lt hr)) hi d kk
theorem rsCo_told (i : Nat) (hi : i < 5) (f : Nat → Int32) : (wld G S).set (18 + i) (ad G (18 + i), .inl (cy G 0, 96, .inl f)) = wld G (sCo_told S (va_up (gCo_told S) i f)) := by
  have h : i = 0 ∨ i = 1 ∨ i = 2 ∨ i = 3 ∨ i = 4 := by omega
  rcases h with rfl | rfl | rfl | rfl | rfl <;> rfl
theorem ldCo_readAs (C : Cx G X own cc nL lv rt) {f : Nat → Int32} (hf : gCo_readAs S = f) {i : Int32} (hi : inb i 5 = true) (d : decode cc pc = .ok (.iaload, 1)) (kk : At G X nL Q (pc + 1) L (.int (f i.toNatClampNeg) :: st) S) : At G X nL Q pc L (.int i :: .ref (ad G 23) :: st) S := by
  subst hf
  exact at_iald C 23 rfl hi d kk
theorem svCo_readAs (C : Cx G X own cc nL lv rt) {i x : Int32} (hi : inb i 5 = true) (d : decode cc pc = .ok (.iastore, 1)) (kk : At G X nL Q (pc + 1) L st (sCo_readAs S (upd (gCo_readAs S) i.toNatClampNeg x))) : At G X nL Q pc L (.int x :: .int i :: .ref (ad G 23) :: st) S := at_iast C 23 rfl hi rfl d kk
theorem ldAc_unpaid (C : Cx G X own cc nL lv rt) {f : Nat → Int32} (hf : gAc_unpaid S = f) {i : Int32} (hi : inb i 3168 = true) (d : decode cc pc = .ok (.iaload, 1)) (kk : At G X nL Q (pc + 1) L (.int (f i.toNatClampNeg) :: st) S) : At G X nL Q pc L (.int i :: .ref (ad G 24) :: st) S := by
  subst hf
  exact at_iald C 24 rfl hi d kk
theorem svAc_unpaid (C : Cx G X own cc nL lv rt) {i x : Int32} (hi : inb i 3168 = true) (d : decode cc pc = .ok (.iastore, 1)) (kk : At G X nL Q (pc + 1) L st (sAc_unpaid S (upd (gAc_unpaid S) i.toNatClampNeg x))) : At G X nL Q pc L (.int x :: .int i :: .ref (ad G 24) :: st) S := at_iast C 24 rfl hi rfl d kk
theorem ldAc_owing (C : Cx G X own cc nL lv rt) {f : Nat → Int32} (hf : gAc_owing S = f) {i : Int32} (hi : inb i 96 = true) (d : decode cc pc = .ok (.iaload, 1)) (kk : At G X nL Q (pc + 1) L (.int (f i.toNatClampNeg) :: st) S) : At G X nL Q pc L (.int i :: .ref (ad G 25) :: st) S := by
  subst hf
  exact at_iald C 25 rfl hi d kk
theorem svAc_owing (C : Cx G X own cc nL lv rt) {i x : Int32} (hi : inb i 96 = true) (d : decode cc pc = .ok (.iastore, 1)) (kk : At G X nL Q (pc + 1) L st (sAc_owing S (upd (gAc_owing S) i.toNatClampNeg x))) : At G X nL Q pc L (.int x :: .int i :: .ref (ad G 25) :: st) S := at_iast C 25 rfl hi rfl d kk
theorem ldAc_gifts (C : Cx G X own cc nL lv rt) {f : Nat → Int32} (hf : gAc_gifts S = f) {i : Int32} (hi : inb i 96 = true) (d : decode cc pc = .ok (.iaload, 1)) (kk : At G X nL Q (pc + 1) L (.int (f i.toNatClampNeg) :: st) S) : At G X nL Q pc L (.int i :: .ref (ad G 26) :: st) S := by
  subst hf
  exact at_iald C 26 rfl hi d kk
theorem svAc_gifts (C : Cx G X own cc nL lv rt) {i x : Int32} (hi : inb i 96 = true) (d : decode cc pc = .ok (.iastore, 1)) (kk : At G X nL Q (pc + 1) L st (sAc_gifts S (upd (gAc_gifts S) i.toNatClampNeg x))) : At G X nL Q pc L (.int x :: .int i :: .ref (ad G 26) :: st) S := at_iast C 26 rfl hi rfl d kk
theorem ldAc_paidOff (C : Cx G X own cc nL lv rt) {f : Nat → Int32} (hf : gAc_paidOff S = f) {i : Int32} (hi : inb i 96 = true) (d : decode cc pc = .ok (.iaload, 1)) (kk : At G X nL Q (pc + 1) L (.int (f i.toNatClampNeg) :: st) S) : At G X nL Q pc L (.int i :: .ref (ad G 27) :: st) S := by
  subst hf
  exact at_iald C 27 rfl hi d kk
theorem svAc_paidOff (C : Cx G X own cc nL lv rt) {i x : Int32} (hi : inb i 96 = true) (d : decode cc pc = .ok (.iastore, 1)) (kk : At G X nL Q (pc + 1) L st (sAc_paidOff S (upd (gAc_paidOff S) i.toNatClampNeg x))) : At G X nL Q pc L (.int x :: .int i :: .ref (ad G 27) :: st) S := at_iast C 27 rfl hi rfl d kk
theorem ldAc_lateOfPaid (C : Cx G X own cc nL lv rt) {f : Nat → Int64} (hf : gAc_lateOfPaid S = f) {i : Int32} (hi : inb i 16 = true) (d : decode cc pc = .ok (.laload, 1)) (kk : At G X nL Q (pc + 1) L (.long (f i.toNatClampNeg) :: st) S) : At G X nL Q pc L (.int i :: .ref (ad G 28) :: st) S := by
  subst hf
  exact at_lald C 28 rfl hi d kk
theorem svAc_lateOfPaid (C : Cx G X own cc nL lv rt) {i : Int32} {x : Int64} (hi : inb i 16 = true) (d : decode cc pc = .ok (.lastore, 1)) (kk : At G X nL Q (pc + 1) L st (sAc_lateOfPaid S (vp_updL (gAc_lateOfPaid S) i.toNatClampNeg x))) : At G X nL Q pc L (.long x :: .int i :: .ref (ad G 28) :: st) S := at_last C 28 rfl hi rfl d kk
theorem ldSe_table (C : Cx G X own cc nL lv rt) {f : Nat → Int32} (hf : gSe_table S = f) {i : Int32} (hi : inb i 800 = true) (d : decode cc pc = .ok (.iaload, 1)) (kk : At G X nL Q (pc + 1) L (.int (f i.toNatClampNeg) :: st) S) : At G X nL Q pc L (.int i :: .ref (ad G 29) :: st) S := by
  subst hf
  exact at_iald C 29 rfl hi d kk
theorem svSe_table (C : Cx G X own cc nL lv rt) {i x : Int32} (hi : inb i 800 = true) (d : decode cc pc = .ok (.iastore, 1)) (kk : At G X nL Q (pc + 1) L st (sSe_table S (upd (gSe_table S) i.toNatClampNeg x))) : At G X nL Q pc L (.int x :: .int i :: .ref (ad G 29) :: st) S := at_iast C 29 rfl hi rfl d kk
theorem ldSe_storedOrder (C : Cx G X own cc nL lv rt) {f : Nat → Int32} (hf : gSe_storedOrder S = f) {i : Int32} (hi : inb i 100 = true) (d : decode cc pc = .ok (.iaload, 1)) (kk : At G X nL Q (pc + 1) L (.int (f i.toNatClampNeg) :: st) S) : At G X nL Q pc L (.int i :: .ref (ad G 30) :: st) S := by
  subst hf
  exact at_iald C 30 rfl hi d kk
theorem svSe_storedOrder (C : Cx G X own cc nL lv rt) {i x : Int32} (hi : inb i 100 = true) (d : decode cc pc = .ok (.iastore, 1)) (kk : At G X nL Q (pc + 1) L st (sSe_storedOrder S (upd (gSe_storedOrder S) i.toNatClampNeg x))) : At G X nL Q pc L (.int x :: .int i :: .ref (ad G 30) :: st) S := at_iast C 30 rfl hi rfl d kk
theorem ldMa_fromGood (C : Cx G X own cc nL lv rt) {f : Nat → Int32} (hf : gMa_fromGood S = f) {i : Int32} (hi : inb i 20 = true) (d : decode cc pc = .ok (.iaload, 1)) (kk : At G X nL Q (pc + 1) L (.int (f i.toNatClampNeg) :: st) S) : At G X nL Q pc L (.int i :: .ref (ad G 31) :: st) S := by
  subst hf
  exact at_iald C 31 rfl hi d kk
theorem svMa_fromGood (C : Cx G X own cc nL lv rt) {i x : Int32} (hi : inb i 20 = true) (d : decode cc pc = .ok (.iastore, 1)) (kk : At G X nL Q (pc + 1) L st (sMa_fromGood S (upd (gMa_fromGood S) i.toNatClampNeg x))) : At G X nL Q pc L (.int x :: .int i :: .ref (ad G 31) :: st) S := at_iast C 31 rfl hi rfl d kk
theorem ldMa_given (C : Cx G X own cc nL lv rt) {f : Nat → Int32} (hf : gMa_given S = f) {i : Int32} (hi : inb i 20 = true) (d : decode cc pc = .ok (.iaload, 1)) (kk : At G X nL Q (pc + 1) L (.int (f i.toNatClampNeg) :: st) S) : At G X nL Q pc L (.int i :: .ref (ad G 32) :: st) S := by
  subst hf
  exact at_iald C 32 rfl hi d kk
theorem svMa_given (C : Cx G X own cc nL lv rt) {i x : Int32} (hi : inb i 20 = true) (d : decode cc pc = .ok (.iastore, 1)) (kk : At G X nL Q (pc + 1) L st (sMa_given S (upd (gMa_given S) i.toNatClampNeg x))) : At G X nL Q pc L (.int x :: .int i :: .ref (ad G 32) :: st) S := at_iast C 32 rfl hi rfl d kk
theorem ldMa_toGood (C : Cx G X own cc nL lv rt) {f : Nat → Int32} (hf : gMa_toGood S = f) {i : Int32} (hi : inb i 20 = true) (d : decode cc pc = .ok (.iaload, 1)) (kk : At G X nL Q (pc + 1) L (.int (f i.toNatClampNeg) :: st) S) : At G X nL Q pc L (.int i :: .ref (ad G 33) :: st) S := by
  subst hf
  exact at_iald C 33 rfl hi d kk
theorem svMa_toGood (C : Cx G X own cc nL lv rt) {i x : Int32} (hi : inb i 20 = true) (d : decode cc pc = .ok (.iastore, 1)) (kk : At G X nL Q (pc + 1) L st (sMa_toGood S (upd (gMa_toGood S) i.toNatClampNeg x))) : At G X nL Q pc L (.int x :: .int i :: .ref (ad G 33) :: st) S := at_iast C 33 rfl hi rfl d kk
theorem ldMa_gained (C : Cx G X own cc nL lv rt) {f : Nat → Int32} (hf : gMa_gained S = f) {i : Int32} (hi : inb i 20 = true) (d : decode cc pc = .ok (.iaload, 1)) (kk : At G X nL Q (pc + 1) L (.int (f i.toNatClampNeg) :: st) S) : At G X nL Q pc L (.int i :: .ref (ad G 34) :: st) S := by
  subst hf
  exact at_iald C 34 rfl hi d kk
theorem svMa_gained (C : Cx G X own cc nL lv rt) {i x : Int32} (hi : inb i 20 = true) (d : decode cc pc = .ok (.iastore, 1)) (kk : At G X nL Q (pc + 1) L st (sMa_gained S (upd (gMa_gained S) i.toNatClampNeg x))) : At G X nL Q pc L (.int x :: .int i :: .ref (ad G 34) :: st) S := at_iast C 34 rfl hi rfl d kk
theorem ldMa_visited (C : Cx G X own cc nL lv rt) {f : Nat → Int32} (hf : gMa_visited S = f) {i : Int32} (hi : inb i 6 = true) (d : decode cc pc = .ok (.iaload, 1)) (kk : At G X nL Q (pc + 1) L (.int (f i.toNatClampNeg) :: st) S) : At G X nL Q pc L (.int i :: .ref (ad G 35) :: st) S := by
  subst hf
  exact at_iald C 35 rfl hi d kk
theorem svMa_visited (C : Cx G X own cc nL lv rt) {i x : Int32} (hi : inb i 6 = true) (d : decode cc pc = .ok (.iastore, 1)) (kk : At G X nL Q (pc + 1) L st (sMa_visited S (upd (gMa_visited S) i.toNatClampNeg x))) : At G X nL Q pc L (.int x :: .int i :: .ref (ad G 35) :: st) S := at_iast C 35 rfl hi rfl d kk
theorem ldMa_trail (C : Cx G X own cc nL lv rt) {f : Nat → Int32} (hf : gMa_trail S = f) {i : Int32} (hi : inb i 5 = true) (d : decode cc pc = .ok (.iaload, 1)) (kk : At G X nL Q (pc + 1) L (.int (f i.toNatClampNeg) :: st) S) : At G X nL Q pc L (.int i :: .ref (ad G 36) :: st) S := by
  subst hf
  exact at_iald C 36 rfl hi d kk
theorem svMa_trail (C : Cx G X own cc nL lv rt) {i x : Int32} (hi : inb i 5 = true) (d : decode cc pc = .ok (.iastore, 1)) (kk : At G X nL Q (pc + 1) L st (sMa_trail S (upd (gMa_trail S) i.toNatClampNeg x))) : At G X nL Q pc L (.int x :: .int i :: .ref (ad G 36) :: st) S := at_iast C 36 rfl hi rfl d kk
theorem ldMa_found (C : Cx G X own cc nL lv rt) {f : Nat → Int32} (hf : gMa_found S = f) {i : Int32} (hi : inb i 5 = true) (d : decode cc pc = .ok (.iaload, 1)) (kk : At G X nL Q (pc + 1) L (.int (f i.toNatClampNeg) :: st) S) : At G X nL Q pc L (.int i :: .ref (ad G 37) :: st) S := by
  subst hf
  exact at_iald C 37 rfl hi d kk
theorem svMa_found (C : Cx G X own cc nL lv rt) {i x : Int32} (hi : inb i 5 = true) (d : decode cc pc = .ok (.iastore, 1)) (kk : At G X nL Q (pc + 1) L st (sMa_found S (upd (gMa_found S) i.toNatClampNeg x))) : At G X nL Q pc L (.int x :: .int i :: .ref (ad G 37) :: st) S := at_iast C 37 rfl hi rfl d kk
theorem ldMa_best (C : Cx G X own cc nL lv rt) {f : Nat → Int32} (hf : gMa_best S = f) {i : Int32} (hi : inb i 5 = true) (d : decode cc pc = .ok (.iaload, 1)) (kk : At G X nL Q (pc + 1) L (.int (f i.toNatClampNeg) :: st) S) : At G X nL Q pc L (.int i :: .ref (ad G 38) :: st) S := by
  subst hf
  exact at_iald C 38 rfl hi d kk
theorem svMa_best (C : Cx G X own cc nL lv rt) {i x : Int32} (hi : inb i 5 = true) (d : decode cc pc = .ok (.iastore, 1)) (kk : At G X nL Q (pc + 1) L st (sMa_best S (upd (gMa_best S) i.toNatClampNeg x))) : At G X nL Q pc L (.int x :: .int i :: .ref (ad G 38) :: st) S := at_iast C 38 rfl hi rfl d kk
theorem ldSh_yieldOf (C : Cx G X own cc nL lv rt) {f : Nat → Int32} (hf : gSh_yieldOf S = f) {i : Int32} (hi : inb i 16 = true) (d : decode cc pc = .ok (.iaload, 1)) (kk : At G X nL Q (pc + 1) L (.int (f i.toNatClampNeg) :: st) S) : At G X nL Q pc L (.int i :: .ref (ad G 39) :: st) S := by
  subst hf
  exact at_iald C 39 rfl hi d kk
theorem svSh_yieldOf (C : Cx G X own cc nL lv rt) {i x : Int32} (hi : inb i 16 = true) (d : decode cc pc = .ok (.iastore, 1)) (kk : At G X nL Q (pc + 1) L st (sSh_yieldOf S (upd (gSh_yieldOf S) i.toNatClampNeg x))) : At G X nL Q pc L (.int x :: .int i :: .ref (ad G 39) :: st) S := at_iast C 39 rfl hi rfl d kk
theorem ldMM_roads (C : Cx G X own cc nL lv rt) {f : Nat → Int32} (hf : gMM_roads S = f) {i : Int32} (hi : inb i 256 = true) (d : decode cc pc = .ok (.iaload, 1)) (kk : At G X nL Q (pc + 1) L (.int (f i.toNatClampNeg) :: st) S) : At G X nL Q pc L (.int i :: .ref (ad G 41) :: st) S := by
  subst hf
  exact at_iald C 41 rfl hi d kk
theorem svMM_roads (C : Cx G X own cc nL lv rt) {i x : Int32} (hi : inb i 256 = true) (d : decode cc pc = .ok (.iastore, 1)) (kk : At G X nL Q (pc + 1) L st (sMM_roads S (upd (gMM_roads S) i.toNatClampNeg x))) : At G X nL Q pc L (.int x :: .int i :: .ref (ad G 41) :: st) S := at_iast C 41 rfl hi rfl d kk
theorem ldMM_ways (C : Cx G X own cc nL lv rt) {f : Nat → Int32} (hf : gMM_ways S = f) {i : Int32} (hi : inb i 256 = true) (d : decode cc pc = .ok (.iaload, 1)) (kk : At G X nL Q (pc + 1) L (.int (f i.toNatClampNeg) :: st) S) : At G X nL Q pc L (.int i :: .ref (ad G 42) :: st) S := by
  subst hf
  exact at_iald C 42 rfl hi d kk
theorem svMM_ways (C : Cx G X own cc nL lv rt) {i x : Int32} (hi : inb i 256 = true) (d : decode cc pc = .ok (.iastore, 1)) (kk : At G X nL Q (pc + 1) L st (sMM_ways S (upd (gMM_ways S) i.toNatClampNeg x))) : At G X nL Q pc L (.int x :: .int i :: .ref (ad G 42) :: st) S := at_iast C 42 rfl hi rfl d kk
theorem ldMM_weight (C : Cx G X own cc nL lv rt) {f : Nat → Int32} (hf : gMM_weight S = f) {i : Int32} (hi : inb i 6 = true) (d : decode cc pc = .ok (.iaload, 1)) (kk : At G X nL Q (pc + 1) L (.int (f i.toNatClampNeg) :: st) S) : At G X nL Q pc L (.int i :: .ref (ad G 43) :: st) S := by
  subst hf
  exact at_iald C 43 rfl hi d kk
theorem svMM_weight (C : Cx G X own cc nL lv rt) {i x : Int32} (hi : inb i 6 = true) (d : decode cc pc = .ok (.iastore, 1)) (kk : At G X nL Q (pc + 1) L st (sMM_weight S (upd (gMM_weight S) i.toNatClampNeg x))) : At G X nL Q pc L (.int x :: .int i :: .ref (ad G 43) :: st) S := at_iast C 43 rfl hi rfl d kk
theorem ldMM_told (C : Cx G X own cc nL lv rt) {f : Nat → Int32} (hf : gMM_told S = f) {i : Int32} (hi : inb i 576 = true) (d : decode cc pc = .ok (.iaload, 1)) (kk : At G X nL Q (pc + 1) L (.int (f i.toNatClampNeg) :: st) S) : At G X nL Q pc L (.int i :: .ref (ad G 44) :: st) S := by
  subst hf
  exact at_iald C 44 rfl hi d kk
theorem svMM_told (C : Cx G X own cc nL lv rt) {i x : Int32} (hi : inb i 576 = true) (d : decode cc pc = .ok (.iastore, 1)) (kk : At G X nL Q (pc + 1) L st (sMM_told S (upd (gMM_told S) i.toNatClampNeg x))) : At G X nL Q pc L (.int x :: .int i :: .ref (ad G 44) :: st) S := at_iast C 44 rfl hi rfl d kk
theorem ldMM_readAt (C : Cx G X own cc nL lv rt) {f : Nat → Int32} (hf : gMM_readAt S = f) {i : Int32} (hi : inb i 5 = true) (d : decode cc pc = .ok (.iaload, 1)) (kk : At G X nL Q (pc + 1) L (.int (f i.toNatClampNeg) :: st) S) : At G X nL Q pc L (.int i :: .ref (ad G 45) :: st) S := by
  subst hf
  exact at_iald C 45 rfl hi d kk
theorem svMM_readAt (C : Cx G X own cc nL lv rt) {i x : Int32} (hi : inb i 5 = true) (d : decode cc pc = .ok (.iastore, 1)) (kk : At G X nL Q (pc + 1) L st (sMM_readAt S (upd (gMM_readAt S) i.toNatClampNeg x))) : At G X nL Q pc L (.int x :: .int i :: .ref (ad G 45) :: st) S := at_iast C 45 rfl hi rfl d kk
theorem ldMM_debt (C : Cx G X own cc nL lv rt) {f : Nat → Int32} (hf : gMM_debt S = f) {i : Int32} (hi : inb i 3264 = true) (d : decode cc pc = .ok (.iaload, 1)) (kk : At G X nL Q (pc + 1) L (.int (f i.toNatClampNeg) :: st) S) : At G X nL Q pc L (.int i :: .ref (ad G 46) :: st) S := by
  subst hf
  exact at_iald C 46 rfl hi d kk
theorem svMM_debt (C : Cx G X own cc nL lv rt) {i x : Int32} (hi : inb i 3264 = true) (d : decode cc pc = .ok (.iastore, 1)) (kk : At G X nL Q (pc + 1) L st (sMM_debt S (upd (gMM_debt S) i.toNatClampNeg x))) : At G X nL Q pc L (.int x :: .int i :: .ref (ad G 46) :: st) S := at_iast C 46 rfl hi rfl d kk
theorem ldMM_gift (C : Cx G X own cc nL lv rt) {f : Nat → Int32} (hf : gMM_gift S = f) {i : Int32} (hi : inb i 96 = true) (d : decode cc pc = .ok (.iaload, 1)) (kk : At G X nL Q (pc + 1) L (.int (f i.toNatClampNeg) :: st) S) : At G X nL Q pc L (.int i :: .ref (ad G 47) :: st) S := by
  subst hf
  exact at_iald C 47 rfl hi d kk
theorem svMM_gift (C : Cx G X own cc nL lv rt) {i x : Int32} (hi : inb i 96 = true) (d : decode cc pc = .ok (.iastore, 1)) (kk : At G X nL Q (pc + 1) L st (sMM_gift S (upd (gMM_gift S) i.toNatClampNeg x))) : At G X nL Q pc L (.int x :: .int i :: .ref (ad G 47) :: st) S := at_iast C 47 rfl hi rfl d kk
theorem ldMM_paid (C : Cx G X own cc nL lv rt) {f : Nat → Int32} (hf : gMM_paid S = f) {i : Int32} (hi : inb i 96 = true) (d : decode cc pc = .ok (.iaload, 1)) (kk : At G X nL Q (pc + 1) L (.int (f i.toNatClampNeg) :: st) S) : At G X nL Q pc L (.int i :: .ref (ad G 48) :: st) S := by
  subst hf
  exact at_iald C 48 rfl hi d kk
theorem svMM_paid (C : Cx G X own cc nL lv rt) {i x : Int32} (hi : inb i 96 = true) (d : decode cc pc = .ok (.iastore, 1)) (kk : At G X nL Q (pc + 1) L st (sMM_paid S (upd (gMM_paid S) i.toNatClampNeg x))) : At G X nL Q pc L (.int x :: .int i :: .ref (ad G 48) :: st) S := at_iast C 48 rfl hi rfl d kk
theorem ldMM_late (C : Cx G X own cc nL lv rt) {f : Nat → Int64} (hf : gMM_late S = f) {i : Int32} (hi : inb i 16 = true) (d : decode cc pc = .ok (.laload, 1)) (kk : At G X nL Q (pc + 1) L (.long (f i.toNatClampNeg) :: st) S) : At G X nL Q pc L (.int i :: .ref (ad G 49) :: st) S := by
  subst hf
  exact at_lald C 49 rfl hi d kk
theorem svMM_late (C : Cx G X own cc nL lv rt) {i : Int32} {x : Int64} (hi : inb i 16 = true) (d : decode cc pc = .ok (.lastore, 1)) (kk : At G X nL Q (pc + 1) L st (sMM_late S (vp_updL (gMM_late S) i.toNatClampNeg x))) : At G X nL Q pc L (.long x :: .int i :: .ref (ad G 49) :: st) S := at_last C 49 rfl hi rfl d kk
theorem ldMM_town (C : Cx G X own cc nL lv rt) {f : Nat → Int32} (hf : gMM_town S = f) {i : Int32} (hi : inb i 100 = true) (d : decode cc pc = .ok (.iaload, 1)) (kk : At G X nL Q (pc + 1) L (.int (f i.toNatClampNeg) :: st) S) : At G X nL Q pc L (.int i :: .ref (ad G 50) :: st) S := by
  subst hf
  exact at_iald C 50 rfl hi d kk
theorem svMM_town (C : Cx G X own cc nL lv rt) {i x : Int32} (hi : inb i 100 = true) (d : decode cc pc = .ok (.iastore, 1)) (kk : At G X nL Q (pc + 1) L st (sMM_town S (upd (gMM_town S) i.toNatClampNeg x))) : At G X nL Q pc L (.int x :: .int i :: .ref (ad G 50) :: st) S := at_iast C 50 rfl hi rfl d kk
theorem ldMM_good (C : Cx G X own cc nL lv rt) {f : Nat → Int32} (hf : gMM_good S = f) {i : Int32} (hi : inb i 100 = true) (d : decode cc pc = .ok (.iaload, 1)) (kk : At G X nL Q (pc + 1) L (.int (f i.toNatClampNeg) :: st) S) : At G X nL Q pc L (.int i :: .ref (ad G 51) :: st) S := by
  subst hf
  exact at_iald C 51 rfl hi d kk
theorem svMM_good (C : Cx G X own cc nL lv rt) {i x : Int32} (hi : inb i 100 = true) (d : decode cc pc = .ok (.iastore, 1)) (kk : At G X nL Q (pc + 1) L st (sMM_good S (upd (gMM_good S) i.toNatClampNeg x))) : At G X nL Q pc L (.int x :: .int i :: .ref (ad G 51) :: st) S := at_iast C 51 rfl hi rfl d kk
theorem ldMM_pieces (C : Cx G X own cc nL lv rt) {f : Nat → Int32} (hf : gMM_pieces S = f) {i : Int32} (hi : inb i 100 = true) (d : decode cc pc = .ok (.iaload, 1)) (kk : At G X nL Q (pc + 1) L (.int (f i.toNatClampNeg) :: st) S) : At G X nL Q pc L (.int i :: .ref (ad G 52) :: st) S := by
  subst hf
  exact at_iald C 52 rfl hi d kk
theorem svMM_pieces (C : Cx G X own cc nL lv rt) {i x : Int32} (hi : inb i 100 = true) (d : decode cc pc = .ok (.iastore, 1)) (kk : At G X nL Q (pc + 1) L st (sMM_pieces S (upd (gMM_pieces S) i.toNatClampNeg x))) : At G X nL Q pc L (.int x :: .int i :: .ref (ad G 52) :: st) S := at_iast C 52 rfl hi rfl d kk
theorem ldMM_bearers (C : Cx G X own cc nL lv rt) {f : Nat → Int32} (hf : gMM_bearers S = f) {i : Int32} (hi : inb i 100 = true) (d : decode cc pc = .ok (.iaload, 1)) (kk : At G X nL Q (pc + 1) L (.int (f i.toNatClampNeg) :: st) S) : At G X nL Q pc L (.int i :: .ref (ad G 53) :: st) S := by
  subst hf
  exact at_iald C 53 rfl hi d kk
theorem svMM_bearers (C : Cx G X own cc nL lv rt) {i x : Int32} (hi : inb i 100 = true) (d : decode cc pc = .ok (.iastore, 1)) (kk : At G X nL Q (pc + 1) L st (sMM_bearers S (upd (gMM_bearers S) i.toNatClampNeg x))) : At G X nL Q pc L (.int x :: .int i :: .ref (ad G 53) :: st) S := at_iast C 53 rfl hi rfl d kk
theorem ldMM_left (C : Cx G X own cc nL lv rt) {f : Nat → Int32} (hf : gMM_left S = f) {i : Int32} (hi : inb i 100 = true) (d : decode cc pc = .ok (.iaload, 1)) (kk : At G X nL Q (pc + 1) L (.int (f i.toNatClampNeg) :: st) S) : At G X nL Q pc L (.int i :: .ref (ad G 54) :: st) S := by
  subst hf
  exact at_iald C 54 rfl hi d kk
theorem svMM_left (C : Cx G X own cc nL lv rt) {i x : Int32} (hi : inb i 100 = true) (d : decode cc pc = .ok (.iastore, 1)) (kk : At G X nL Q (pc + 1) L st (sMM_left S (upd (gMM_left S) i.toNatClampNeg x))) : At G X nL Q pc L (.int x :: .int i :: .ref (ad G 54) :: st) S := at_iast C 54 rfl hi rfl d kk
theorem ldMM_comes (C : Cx G X own cc nL lv rt) {f : Nat → Int32} (hf : gMM_comes S = f) {i : Int32} (hi : inb i 100 = true) (d : decode cc pc = .ok (.iaload, 1)) (kk : At G X nL Q (pc + 1) L (.int (f i.toNatClampNeg) :: st) S) : At G X nL Q pc L (.int i :: .ref (ad G 55) :: st) S := by
  subst hf
  exact at_iald C 55 rfl hi d kk
theorem svMM_comes (C : Cx G X own cc nL lv rt) {i x : Int32} (hi : inb i 100 = true) (d : decode cc pc = .ok (.iastore, 1)) (kk : At G X nL Q (pc + 1) L st (sMM_comes S (upd (gMM_comes S) i.toNatClampNeg x))) : At G X nL Q pc L (.int x :: .int i :: .ref (ad G 55) :: st) S := at_iast C 55 rfl hi rfl d kk
theorem ldMM_isStored (C : Cx G X own cc nL lv rt) {f : Nat → Int32} (hf : gMM_isStored S = f) {i : Int32} (hi : inb i 100 = true) (d : decode cc pc = .ok (.baload, 1)) (kk : At G X nL Q (pc + 1) L (.int (f i.toNatClampNeg) :: st) S) : At G X nL Q pc L (.int i :: .ref (ad G 56) :: st) S := by
  subst hf
  exact at_zald C 56 rfl hi d kk
theorem svMM_isStored (C : Cx G X own cc nL lv rt) {i x : Int32} (hi : inb i 100 = true) (d : decode cc pc = .ok (.bastore, 1)) (kk : At G X nL Q (pc + 1) L st (sMM_isStored S (upd (gMM_isStored S) i.toNatClampNeg (vp_nar .boolean x)))) : At G X nL Q pc L (.int x :: .int i :: .ref (ad G 56) :: st) S := at_zast C 56 rfl hi rfl d kk
theorem ldMM_used (C : Cx G X own cc nL lv rt) {f : Nat → Int32} (hf : gMM_used S = f) {i : Int32} (hi : inb i 100 = true) (d : decode cc pc = .ok (.iaload, 1)) (kk : At G X nL Q (pc + 1) L (.int (f i.toNatClampNeg) :: st) S) : At G X nL Q pc L (.int i :: .ref (ad G 57) :: st) S := by
  subst hf
  exact at_iald C 57 rfl hi d kk
theorem svMM_used (C : Cx G X own cc nL lv rt) {i x : Int32} (hi : inb i 100 = true) (d : decode cc pc = .ok (.iastore, 1)) (kk : At G X nL Q (pc + 1) L st (sMM_used S (upd (gMM_used S) i.toNatClampNeg x))) : At G X nL Q pc L (.int x :: .int i :: .ref (ad G 57) :: st) S := at_iast C 57 rfl hi rfl d kk
theorem ldMM_storedOrder (C : Cx G X own cc nL lv rt) {f : Nat → Int32} (hf : gMM_storedOrder S = f) {i : Int32} (hi : inb i 100 = true) (d : decode cc pc = .ok (.iaload, 1)) (kk : At G X nL Q (pc + 1) L (.int (f i.toNatClampNeg) :: st) S) : At G X nL Q pc L (.int i :: .ref (ad G 58) :: st) S := by
  subst hf
  exact at_iald C 58 rfl hi d kk
theorem svMM_storedOrder (C : Cx G X own cc nL lv rt) {i x : Int32} (hi : inb i 100 = true) (d : decode cc pc = .ok (.iastore, 1)) (kk : At G X nL Q (pc + 1) L st (sMM_storedOrder S (upd (gMM_storedOrder S) i.toNatClampNeg x))) : At G X nL Q pc L (.int x :: .int i :: .ref (ad G 58) :: st) S := at_iast C 58 rfl hi rfl d kk
theorem ldMM_tape (C : Cx G X own cc nL lv rt) {f : Nat → Int32} (hf : gMM_tape S = f) {i : Int32} (hi : inb i 300 = true) (d : decode cc pc = .ok (.iaload, 1)) (kk : At G X nL Q (pc + 1) L (.int (f i.toNatClampNeg) :: st) S) : At G X nL Q pc L (.int i :: .ref (ad G 59) :: st) S := by
  subst hf
  exact at_iald C 59 rfl hi d kk
theorem svMM_tape (C : Cx G X own cc nL lv rt) {i x : Int32} (hi : inb i 300 = true) (d : decode cc pc = .ok (.iastore, 1)) (kk : At G X nL Q (pc + 1) L st (sMM_tape S (upd (gMM_tape S) i.toNatClampNeg x))) : At G X nL Q pc L (.int x :: .int i :: .ref (ad G 59) :: st) S := at_iast C 59 rfl hi rfl d kk
theorem ldMM_from (C : Cx G X own cc nL lv rt) {f : Nat → Int32} (hf : gMM_from S = f) {i : Int32} (hi : inb i 20 = true) (d : decode cc pc = .ok (.iaload, 1)) (kk : At G X nL Q (pc + 1) L (.int (f i.toNatClampNeg) :: st) S) : At G X nL Q pc L (.int i :: .ref (ad G 60) :: st) S := by
  subst hf
  exact at_iald C 60 rfl hi d kk
theorem svMM_from (C : Cx G X own cc nL lv rt) {i x : Int32} (hi : inb i 20 = true) (d : decode cc pc = .ok (.iastore, 1)) (kk : At G X nL Q (pc + 1) L st (sMM_from S (upd (gMM_from S) i.toNatClampNeg x))) : At G X nL Q pc L (.int x :: .int i :: .ref (ad G 60) :: st) S := at_iast C 60 rfl hi rfl d kk
theorem ldMM_gives (C : Cx G X own cc nL lv rt) {f : Nat → Int32} (hf : gMM_gives S = f) {i : Int32} (hi : inb i 20 = true) (d : decode cc pc = .ok (.iaload, 1)) (kk : At G X nL Q (pc + 1) L (.int (f i.toNatClampNeg) :: st) S) : At G X nL Q pc L (.int i :: .ref (ad G 61) :: st) S := by
  subst hf
  exact at_iald C 61 rfl hi d kk
theorem svMM_gives (C : Cx G X own cc nL lv rt) {i x : Int32} (hi : inb i 20 = true) (d : decode cc pc = .ok (.iastore, 1)) (kk : At G X nL Q (pc + 1) L st (sMM_gives S (upd (gMM_gives S) i.toNatClampNeg x))) : At G X nL Q pc L (.int x :: .int i :: .ref (ad G 61) :: st) S := at_iast C 61 rfl hi rfl d kk
theorem ldMM_to (C : Cx G X own cc nL lv rt) {f : Nat → Int32} (hf : gMM_to S = f) {i : Int32} (hi : inb i 20 = true) (d : decode cc pc = .ok (.iaload, 1)) (kk : At G X nL Q (pc + 1) L (.int (f i.toNatClampNeg) :: st) S) : At G X nL Q pc L (.int i :: .ref (ad G 62) :: st) S := by
  subst hf
  exact at_iald C 62 rfl hi d kk
theorem svMM_to (C : Cx G X own cc nL lv rt) {i x : Int32} (hi : inb i 20 = true) (d : decode cc pc = .ok (.iastore, 1)) (kk : At G X nL Q (pc + 1) L st (sMM_to S (upd (gMM_to S) i.toNatClampNeg x))) : At G X nL Q pc L (.int x :: .int i :: .ref (ad G 62) :: st) S := at_iast C 62 rfl hi rfl d kk
theorem ldMM_gets (C : Cx G X own cc nL lv rt) {f : Nat → Int32} (hf : gMM_gets S = f) {i : Int32} (hi : inb i 20 = true) (d : decode cc pc = .ok (.iaload, 1)) (kk : At G X nL Q (pc + 1) L (.int (f i.toNatClampNeg) :: st) S) : At G X nL Q pc L (.int i :: .ref (ad G 63) :: st) S := by
  subst hf
  exact at_iald C 63 rfl hi d kk
theorem svMM_gets (C : Cx G X own cc nL lv rt) {i x : Int32} (hi : inb i 20 = true) (d : decode cc pc = .ok (.iastore, 1)) (kk : At G X nL Q (pc + 1) L st (sMM_gets S (upd (gMM_gets S) i.toNatClampNeg x))) : At G X nL Q pc L (.int x :: .int i :: .ref (ad G 63) :: st) S := at_iast C 63 rfl hi rfl d kk
theorem ldMM_open (C : Cx G X own cc nL lv rt) {f : Nat → Int32} (hf : gMM_open S = f) {i : Int32} (hi : inb i 6 = true) (d : decode cc pc = .ok (.iaload, 1)) (kk : At G X nL Q (pc + 1) L (.int (f i.toNatClampNeg) :: st) S) : At G X nL Q pc L (.int i :: .ref (ad G 64) :: st) S := by
  subst hf
  exact at_iald C 64 rfl hi d kk
theorem svMM_open (C : Cx G X own cc nL lv rt) {i x : Int32} (hi : inb i 6 = true) (d : decode cc pc = .ok (.iastore, 1)) (kk : At G X nL Q (pc + 1) L st (sMM_open S (upd (gMM_open S) i.toNatClampNeg x))) : At G X nL Q pc L (.int x :: .int i :: .ref (ad G 64) :: st) S := at_iast C 64 rfl hi rfl d kk
theorem ldMM_much (C : Cx G X own cc nL lv rt) {f : Nat → Int64} (hf : gMM_much S = f) {i : Int32} (hi : inb i 6 = true) (d : decode cc pc = .ok (.laload, 1)) (kk : At G X nL Q (pc + 1) L (.long (f i.toNatClampNeg) :: st) S) : At G X nL Q pc L (.int i :: .ref (ad G 65) :: st) S := by
  subst hf
  exact at_lald C 65 rfl hi d kk
theorem svMM_much (C : Cx G X own cc nL lv rt) {i : Int32} {x : Int64} (hi : inb i 6 = true) (d : decode cc pc = .ok (.lastore, 1)) (kk : At G X nL Q (pc + 1) L st (sMM_much S (vp_updL (gMM_much S) i.toNatClampNeg x))) : At G X nL Q pc L (.long x :: .int i :: .ref (ad G 65) :: st) S := at_last C 65 rfl hi rfl d kk
theorem ldMM_bestRow (C : Cx G X own cc nL lv rt) {f : Nat → Int32} (hf : gMM_bestRow S = f) {i : Int32} (hi : inb i 6 = true) (d : decode cc pc = .ok (.iaload, 1)) (kk : At G X nL Q (pc + 1) L (.int (f i.toNatClampNeg) :: st) S) : At G X nL Q pc L (.int i :: .ref (ad G 66) :: st) S := by
  subst hf
  exact at_iald C 66 rfl hi d kk
theorem svMM_bestRow (C : Cx G X own cc nL lv rt) {i x : Int32} (hi : inb i 6 = true) (d : decode cc pc = .ok (.iastore, 1)) (kk : At G X nL Q (pc + 1) L st (sMM_bestRow S (upd (gMM_bestRow S) i.toNatClampNeg x))) : At G X nL Q pc L (.int x :: .int i :: .ref (ad G 66) :: st) S := at_iast C 66 rfl hi rfl d kk
theorem ldMM_row (C : Cx G X own cc nL lv rt) {f : Nat → Int32} (hf : gMM_row S = f) {i : Int32} (hi : inb i 6 = true) (d : decode cc pc = .ok (.iaload, 1)) (kk : At G X nL Q (pc + 1) L (.int (f i.toNatClampNeg) :: st) S) : At G X nL Q pc L (.int i :: .ref (ad G 67) :: st) S := by
  subst hf
  exact at_iald C 67 rfl hi d kk
theorem svMM_row (C : Cx G X own cc nL lv rt) {i x : Int32} (hi : inb i 6 = true) (d : decode cc pc = .ok (.iastore, 1)) (kk : At G X nL Q (pc + 1) L st (sMM_row S (upd (gMM_row S) i.toNatClampNeg x))) : At G X nL Q pc L (.int x :: .int i :: .ref (ad G 67) :: st) S := at_iast C 67 rfl hi rfl d kk
theorem ldMM_yield2 (C : Cx G X own cc nL lv rt) {f : Nat → Int32} (hf : gMM_yield2 S = f) {i : Int32} (hi : inb i 16 = true) (d : decode cc pc = .ok (.iaload, 1)) (kk : At G X nL Q (pc + 1) L (.int (f i.toNatClampNeg) :: st) S) : At G X nL Q pc L (.int i :: .ref (ad G 68) :: st) S := by
  subst hf
  exact at_iald C 68 rfl hi d kk
theorem svMM_yield2 (C : Cx G X own cc nL lv rt) {i x : Int32} (hi : inb i 16 = true) (d : decode cc pc = .ok (.iastore, 1)) (kk : At G X nL Q (pc + 1) L st (sMM_yield2 S (upd (gMM_yield2 S) i.toNatClampNeg x))) : At G X nL Q pc L (.int x :: .int i :: .ref (ad G 68) :: st) S := at_iast C 68 rfl hi rfl d kk
theorem ldMM_hasMore (C : Cx G X own cc nL lv rt) {f : Nat → Int32} (hf : gMM_hasMore S = f) {i : Int32} (hi : inb i 16 = true) (d : decode cc pc = .ok (.baload, 1)) (kk : At G X nL Q (pc + 1) L (.int (f i.toNatClampNeg) :: st) S) : At G X nL Q pc L (.int i :: .ref (ad G 69) :: st) S := by
  subst hf
  exact at_zald C 69 rfl hi d kk
theorem svMM_hasMore (C : Cx G X own cc nL lv rt) {i x : Int32} (hi : inb i 16 = true) (d : decode cc pc = .ok (.bastore, 1)) (kk : At G X nL Q (pc + 1) L st (sMM_hasMore S (upd (gMM_hasMore S) i.toNatClampNeg (vp_nar .boolean x)))) : At G X nL Q pc L (.int x :: .int i :: .ref (ad G 69) :: st) S := at_zast C 69 rfl hi rfl d kk
end ROWS2
