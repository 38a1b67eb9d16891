abbrev GG : Type := va_G × (Nat → Nat) × (Nat → ClassId) × Nat × Nat
abbrev ad (G : GG) : Nat → Nat := G.2.1
abbrev cy (G : GG) : Nat → ClassId := G.2.2.1
abbrev Z111111 : Type := Int32 × (Nat → Int32)
abbrev Z111112 : Type := (Nat → Int32) × (Nat → Int32)
abbrev Z11111 : Type := Z111111 × Z111112
abbrev Z111121 : Type := (Nat → Int32) × Int32
abbrev Z11112 : Type := Z111121 × (Nat → Int32)
abbrev Z1111 : Type := Z11111 × Z11112
abbrev Z111211 : Type := Int32 × (Nat → Int32)
abbrev Z11121 : Type := Z111211 × (Nat → Int32)
abbrev Z111221 : Type := Int32 × Int32
abbrev Z11122 : Type := Z111221 × Int32
abbrev Z1112 : Type := Z11121 × Z11122
abbrev Z111 : Type := Z1111 × Z1112
abbrev Z112111 : Type := Int32 × Int32
abbrev Z11211 : Type := Z112111 × Int32
abbrev Z112121 : Type := Int32 × Int32
abbrev Z11212 : Type := Z112121 × Int32
abbrev Z1121 : Type := Z11211 × Z11212
abbrev Z112211 : Type := Int32 × Int32
abbrev Z11221 : Type := Z112211 × (Nat → Nat → Int32)
abbrev Z112221 : Type := (Nat → Int32) × Int32
abbrev Z11222 : Type := Z112221 × (Nat → Int32)
abbrev Z1122 : Type := Z11221 × Z11222
abbrev Z112 : Type := Z1121 × Z1122
abbrev Z11 : Type := Z111 × Z112
abbrev Z121111 : Type := (Nat → Int32) × (Nat → Int32)
abbrev Z12111 : Type := Z121111 × (Nat → Int32)
abbrev Z121121 : Type := (Nat → Int64) × (Nat → Int32)
abbrev Z12112 : Type := Z121121 × (Nat → Int32)
abbrev Z1211 : Type := Z12111 × Z12112
abbrev Z121211 : Type := Int32 × Int32
abbrev Z12121 : Type := Z121211 × Int32
abbrev Z121221 : Type := (Nat → Int32) × (Nat → Int32)
abbrev Z12122 : Type := Z121221 × (Nat → Int32)
abbrev Z1212 : Type := Z12121 × Z12122
abbrev Z121 : Type := Z1211 × Z1212
abbrev Z122111 : Type := (Nat → Int32) × Int32
abbrev Z12211 : Type := Z122111 × (Nat → Int32)
abbrev Z122121 : Type := (Nat → Int32) × (Nat → Int32)
abbrev Z12212 : Type := Z122121 × Int32
abbrev Z1221 : Type := Z12211 × Z12212
abbrev Z122211 : Type := Int64 × Int32
abbrev Z12221 : Type := Z122211 × (Nat → Int32)
abbrev Z122221 : Type := Int32 × (Nat → Int32)
abbrev Z12222 : Type := Z122221 × Int32
abbrev Z1222 : Type := Z12221 × Z12222
abbrev Z122 : Type := Z1221 × Z1222
abbrev Z12 : Type := Z121 × Z122
abbrev Z1 : Type := Z11 × Z12
abbrev Z211111 : Type := Int32 × (Nat → Int32)
abbrev Z211112 : Type := (Nat → Int32) × (Nat → Int32)
abbrev Z21111 : Type := Z211111 × Z211112
abbrev Z211121 : Type := Int32 × (Nat → Int32)
abbrev Z21112 : Type := Z211121 × (Nat → Int32)
abbrev Z2111 : Type := Z21111 × Z21112
abbrev Z211211 : Type := Int32 × (Nat → Int32)
abbrev Z21121 : Type := Z211211 × (Nat → Int32)
abbrev Z211221 : Type := (Nat → Int32) × (Nat → Int64)
abbrev Z21122 : Type := Z211221 × Int32
abbrev Z2112 : Type := Z21121 × Z21122
abbrev Z211 : Type := Z2111 × Z2112
abbrev Z212111 : Type := (Nat → Int32) × (Nat → Int32)
abbrev Z21211 : Type := Z212111 × (Nat → Int32)
abbrev Z212121 : Type := (Nat → Int32) × (Nat → Int32)
abbrev Z21212 : Type := Z212121 × (Nat → Int32)
abbrev Z2121 : Type := Z21211 × Z21212
abbrev Z212211 : Type := (Nat → Int32) × (Nat → Int32)
abbrev Z21221 : Type := Z212211 × Int32
abbrev Z212221 : Type := (Nat → Int32) × Int32
abbrev Z21222 : Type := Z212221 × (Nat → Int32)
abbrev Z2122 : Type := Z21221 × Z21222
abbrev Z212 : Type := Z2121 × Z2122
abbrev Z21 : Type := Z211 × Z212
abbrev Z221111 : Type := Int32 × Int32
abbrev Z22111 : Type := Z221111 × Int32
abbrev Z221121 : Type := Int32 × Int32
abbrev Z22112 : Type := Z221121 × Int32
abbrev Z2211 : Type := Z22111 × Z22112
abbrev Z221211 : Type := Int32 × Int32
abbrev Z22121 : Type := Z221211 × Int32
abbrev Z221221 : Type := Int32 × Int32
abbrev Z22122 : Type := Z221221 × (Nat → Int32)
abbrev Z2212 : Type := Z22121 × Z22122
abbrev Z221 : Type := Z2211 × Z2212
abbrev Z222111 : Type := (Nat → Int32) × (Nat → Int32)
abbrev Z22211 : Type := Z222111 × (Nat → Int32)
abbrev Z222121 : Type := (Nat → Int32) × (Nat → Int64)
abbrev Z22212 : Type := Z222121 × (Nat → Int32)
abbrev Z2221 : Type := Z22211 × Z22212
abbrev Z222211 : Type := Int32 × Int32
abbrev Z22221 : Type := Z222211 × (Nat → Int32)
abbrev Z222221 : Type := Int64 × (Nat → Int32)
abbrev Z22222 : Type := Z222221 × (Nat → Int32)
abbrev Z2222 : Type := Z22221 × Z22222
abbrev Z222 : Type := Z2221 × Z2222
abbrev Z22 : Type := Z221 × Z222
abbrev Z2 : Type := Z21 × Z22
abbrev ST : Type := Z1 × Z2
def gTL_clock (S : ST) : Int32 := S.1.1.1.1.1.1.1
def sTL_clock (S : ST) (v : Int32) : ST := (((((((v, S.1.1.1.1.1.1.2), S.1.1.1.1.1.2), S.1.1.1.1.2), S.1.1.1.2), S.1.1.2), S.1.2), S.2)
def gRo_length (S : ST) : (Nat → Int32) := S.1.1.1.1.1.1.2
def sRo_length (S : ST) (v : (Nat → Int32)) : ST := (((((((S.1.1.1.1.1.1.1, v), S.1.1.1.1.1.2), S.1.1.1.1.2), S.1.1.1.2), S.1.1.2), S.1.2), S.2)
def gRo_reach (S : ST) : (Nat → Int32) := S.1.1.1.1.1.2.1
def sRo_reach (S : ST) (v : (Nat → Int32)) : ST := ((((((S.1.1.1.1.1.1, (v, S.1.1.1.1.1.2.2)), S.1.1.1.1.2), S.1.1.1.2), S.1.1.2), S.1.2), S.2)
def gRo_settled (S : ST) : (Nat → Int32) := S.1.1.1.1.1.2.2
def sRo_settled (S : ST) (v : (Nat → Int32)) : ST := ((((((S.1.1.1.1.1.1, (S.1.1.1.1.1.2.1, v)), S.1.1.1.1.2), S.1.1.1.2), S.1.1.2), S.1.2), S.2)
def gPo_weights (S : ST) : (Nat → Int32) := S.1.1.1.1.2.1.1
def sPo_weights (S : ST) (v : (Nat → Int32)) : ST := (((((S.1.1.1.1.1, ((v, S.1.1.1.1.2.1.2), S.1.1.1.1.2.2)), S.1.1.1.2), S.1.1.2), S.1.2), S.2)
def gPo_load (S : ST) : Int32 := S.1.1.1.1.2.1.2
def sPo_load (S : ST) (v : Int32) : ST := (((((S.1.1.1.1.1, ((S.1.1.1.1.2.1.1, v), S.1.1.1.1.2.2)), S.1.1.1.2), S.1.1.2), S.1.2), S.2)
def gTa_bytes (S : ST) : (Nat → Int32) := S.1.1.1.1.2.2
def sTa_bytes (S : ST) (v : (Nat → Int32)) : ST := (((((S.1.1.1.1.1, (S.1.1.1.1.2.1, v)), S.1.1.1.2), S.1.1.2), S.1.2), S.2)
def gTa_size (S : ST) : Int32 := S.1.1.1.2.1.1.1
def sTa_size (S : ST) (v : Int32) : ST := ((((S.1.1.1.1, (((v, S.1.1.1.2.1.1.2), S.1.1.1.2.1.2), S.1.1.1.2.2)), S.1.1.2), S.1.2), S.2)
def gLi_row (S : ST) : (Nat → Int32) := S.1.1.1.2.1.1.2
def sLi_row (S : ST) (v : (Nat → Int32)) : ST := ((((S.1.1.1.1, (((S.1.1.1.2.1.1.1, v), S.1.1.1.2.1.2), S.1.1.1.2.2)), S.1.1.2), S.1.2), S.2)
def gLi_townSeen (S : ST) : (Nat → Int32) := S.1.1.1.2.1.2
def sLi_townSeen (S : ST) (v : (Nat → Int32)) : ST := ((((S.1.1.1.1, ((S.1.1.1.2.1.1, v), S.1.1.1.2.2)), S.1.1.2), S.1.2), S.2)
def gLi_cursor (S : ST) : Int32 := S.1.1.1.2.2.1.1
def sLi_cursor (S : ST) (v : Int32) : ST := ((((S.1.1.1.1, (S.1.1.1.2.1, ((v, S.1.1.1.2.2.1.2), S.1.1.1.2.2.2))), S.1.1.2), S.1.2), S.2)
def gLi_tokenStart (S : ST) : Int32 := S.1.1.1.2.2.1.2
def sLi_tokenStart (S : ST) (v : Int32) : ST := ((((S.1.1.1.1, (S.1.1.1.2.1, ((S.1.1.1.2.2.1.1, v), S.1.1.1.2.2.2))), S.1.1.2), S.1.2), S.2)
def gLi_tokenKind (S : ST) : Int32 := S.1.1.1.2.2.2
def sLi_tokenKind (S : ST) (v : Int32) : ST := ((((S.1.1.1.1, (S.1.1.1.2.1, (S.1.1.1.2.2.1, v))), S.1.1.2), S.1.2), S.2)
def gLi_number (S : ST) : Int32 := S.1.1.2.1.1.1.1
def sLi_number (S : ST) (v : Int32) : ST := (((S.1.1.1, ((((v, S.1.1.2.1.1.1.2), S.1.1.2.1.1.2), S.1.1.2.1.2), S.1.1.2.2)), S.1.2), S.2)
def gLi_expected (S : ST) : Int32 := S.1.1.2.1.1.1.2
def sLi_expected (S : ST) (v : Int32) : ST := (((S.1.1.1, ((((S.1.1.2.1.1.1.1, v), S.1.1.2.1.1.2), S.1.1.2.1.2), S.1.1.2.2)), S.1.2), S.2)
def gLi_lines (S : ST) : Int32 := S.1.1.2.1.1.2
def sLi_lines (S : ST) (v : Int32) : ST := (((S.1.1.1, (((S.1.1.2.1.1.1, v), S.1.1.2.1.2), S.1.1.2.2)), S.1.2), S.2)
def gLi_town (S : ST) : Int32 := S.1.1.2.1.2.1.1
def sLi_town (S : ST) (v : Int32) : ST := (((S.1.1.1, ((S.1.1.2.1.1, ((v, S.1.1.2.1.2.1.2), S.1.1.2.1.2.2)), S.1.1.2.2)), S.1.2), S.2)
def gLi_good (S : ST) : Int32 := S.1.1.2.1.2.1.2
def sLi_good (S : ST) (v : Int32) : ST := (((S.1.1.1, ((S.1.1.2.1.1, ((S.1.1.2.1.2.1.1, v), S.1.1.2.1.2.2)), S.1.1.2.2)), S.1.2), S.2)
def gLi_anyRead (S : ST) : Int32 := S.1.1.2.1.2.2
def sLi_anyRead (S : ST) (v : Int32) : ST := (((S.1.1.1, ((S.1.1.2.1.1, (S.1.1.2.1.2.1, v)), S.1.1.2.2)), S.1.2), S.2)
def gLi_faultKind (S : ST) : Int32 := S.1.1.2.2.1.1.1
def sLi_faultKind (S : ST) (v : Int32) : ST := (((S.1.1.1, (S.1.1.2.1, (((v, S.1.1.2.2.1.1.2), S.1.1.2.2.1.2), S.1.1.2.2.2))), S.1.2), S.2)
def gLi_faultPlace (S : ST) : Int32 := S.1.1.2.2.1.1.2
def sLi_faultPlace (S : ST) (v : Int32) : ST := (((S.1.1.1, (S.1.1.2.1, (((S.1.1.2.2.1.1.1, v), S.1.1.2.2.1.2), S.1.1.2.2.2))), S.1.2), S.2)
def gCo_told (S : ST) : (Nat → Nat → Int32) := S.1.1.2.2.1.2
def sCo_told (S : ST) (v : (Nat → Nat → Int32)) : ST := (((S.1.1.1, (S.1.1.2.1, ((S.1.1.2.2.1.1, v), S.1.1.2.2.2))), S.1.2), S.2)
def gCo_readAs (S : ST) : (Nat → Int32) := S.1.1.2.2.2.1.1
def sCo_readAs (S : ST) (v : (Nat → Int32)) : ST := (((S.1.1.1, (S.1.1.2.1, (S.1.1.2.2.1, ((v, S.1.1.2.2.2.1.2), S.1.1.2.2.2.2)))), S.1.2), S.2)
def gCo_readings (S : ST) : Int32 := S.1.1.2.2.2.1.2
def sCo_readings (S : ST) (v : Int32) : ST := (((S.1.1.1, (S.1.1.2.1, (S.1.1.2.2.1, ((S.1.1.2.2.2.1.1, v), S.1.1.2.2.2.2)))), S.1.2), S.2)
def gAc_unpaid (S : ST) : (Nat → Int32) := S.1.1.2.2.2.2
def sAc_unpaid (S : ST) (v : (Nat → Int32)) : ST := (((S.1.1.1, (S.1.1.2.1, (S.1.1.2.2.1, (S.1.1.2.2.2.1, v)))), S.1.2), S.2)
def gAc_owing (S : ST) : (Nat → Int32) := S.1.2.1.1.1.1.1
def sAc_owing (S : ST) (v : (Nat → Int32)) : ST := ((S.1.1, (((((v, S.1.2.1.1.1.1.2), S.1.2.1.1.1.2), S.1.2.1.1.2), S.1.2.1.2), S.1.2.2)), S.2)
def gAc_gifts (S : ST) : (Nat → Int32) := S.1.2.1.1.1.1.2
def sAc_gifts (S : ST) (v : (Nat → Int32)) : ST := ((S.1.1, (((((S.1.2.1.1.1.1.1, v), S.1.2.1.1.1.2), S.1.2.1.1.2), S.1.2.1.2), S.1.2.2)), S.2)
def gAc_paidOff (S : ST) : (Nat → Int32) := S.1.2.1.1.1.2
def sAc_paidOff (S : ST) (v : (Nat → Int32)) : ST := ((S.1.1, ((((S.1.2.1.1.1.1, v), S.1.2.1.1.2), S.1.2.1.2), S.1.2.2)), S.2)
def gAc_lateOfPaid (S : ST) : (Nat → Int64) := S.1.2.1.1.2.1.1
def sAc_lateOfPaid (S : ST) (v : (Nat → Int64)) : ST := ((S.1.1, (((S.1.2.1.1.1, ((v, S.1.2.1.1.2.1.2), S.1.2.1.1.2.2)), S.1.2.1.2), S.1.2.2)), S.2)
def gSe_table (S : ST) : (Nat → Int32) := S.1.2.1.1.2.1.2
def sSe_table (S : ST) (v : (Nat → Int32)) : ST := ((S.1.1, (((S.1.2.1.1.1, ((S.1.2.1.1.2.1.1, v), S.1.2.1.1.2.2)), S.1.2.1.2), S.1.2.2)), S.2)
def gSe_storedOrder (S : ST) : (Nat → Int32) := S.1.2.1.1.2.2
def sSe_storedOrder (S : ST) (v : (Nat → Int32)) : ST := ((S.1.1, (((S.1.2.1.1.1, (S.1.2.1.1.2.1, v)), S.1.2.1.2), S.1.2.2)), S.2)
def gSe_storedCount (S : ST) : Int32 := S.1.2.1.2.1.1.1
def sSe_storedCount (S : ST) (v : Int32) : ST := ((S.1.1, ((S.1.2.1.1, (((v, S.1.2.1.2.1.1.2), S.1.2.1.2.1.2), S.1.2.1.2.2)), S.1.2.2)), S.2)
def gSe_storedPieces (S : ST) : Int32 := S.1.2.1.2.1.1.2
def sSe_storedPieces (S : ST) (v : Int32) : ST := ((S.1.1, ((S.1.2.1.1, (((S.1.2.1.2.1.1.1, v), S.1.2.1.2.1.2), S.1.2.1.2.2)), S.1.2.2)), S.2)
def gSe_count (S : ST) : Int32 := S.1.2.1.2.1.2
def sSe_count (S : ST) (v : Int32) : ST := ((S.1.1, ((S.1.2.1.1, ((S.1.2.1.2.1.1, v), S.1.2.1.2.2)), S.1.2.2)), S.2)
def gMa_fromGood (S : ST) : (Nat → Int32) := S.1.2.1.2.2.1.1
def sMa_fromGood (S : ST) (v : (Nat → Int32)) : ST := ((S.1.1, ((S.1.2.1.1, (S.1.2.1.2.1, ((v, S.1.2.1.2.2.1.2), S.1.2.1.2.2.2))), S.1.2.2)), S.2)
def gMa_given (S : ST) : (Nat → Int32) := S.1.2.1.2.2.1.2
def sMa_given (S : ST) (v : (Nat → Int32)) : ST := ((S.1.1, ((S.1.2.1.1, (S.1.2.1.2.1, ((S.1.2.1.2.2.1.1, v), S.1.2.1.2.2.2))), S.1.2.2)), S.2)
def gMa_toGood (S : ST) : (Nat → Int32) := S.1.2.1.2.2.2
def sMa_toGood (S : ST) (v : (Nat → Int32)) : ST := ((S.1.1, ((S.1.2.1.1, (S.1.2.1.2.1, (S.1.2.1.2.2.1, v))), S.1.2.2)), S.2)
def gMa_gained (S : ST) : (Nat → Int32) := S.1.2.2.1.1.1.1
def sMa_gained (S : ST) (v : (Nat → Int32)) : ST := ((S.1.1, (S.1.2.1, ((((v, S.1.2.2.1.1.1.2), S.1.2.2.1.1.2), S.1.2.2.1.2), S.1.2.2.2))), S.2)
def gMa_count (S : ST) : Int32 := S.1.2.2.1.1.1.2
def sMa_count (S : ST) (v : Int32) : ST := ((S.1.1, (S.1.2.1, ((((S.1.2.2.1.1.1.1, v), S.1.2.2.1.1.2), S.1.2.2.1.2), S.1.2.2.2))), S.2)
def gMa_visited (S : ST) : (Nat → Int32) := S.1.2.2.1.1.2
def sMa_visited (S : ST) (v : (Nat → Int32)) : ST := ((S.1.1, (S.1.2.1, (((S.1.2.2.1.1.1, v), S.1.2.2.1.2), S.1.2.2.2))), S.2)
def gMa_trail (S : ST) : (Nat → Int32) := S.1.2.2.1.2.1.1
def sMa_trail (S : ST) (v : (Nat → Int32)) : ST := ((S.1.1, (S.1.2.1, ((S.1.2.2.1.1, ((v, S.1.2.2.1.2.1.2), S.1.2.2.1.2.2)), S.1.2.2.2))), S.2)
def gMa_found (S : ST) : (Nat → Int32) := S.1.2.2.1.2.1.2
def sMa_found (S : ST) (v : (Nat → Int32)) : ST := ((S.1.1, (S.1.2.1, ((S.1.2.2.1.1, ((S.1.2.2.1.2.1.1, v), S.1.2.2.1.2.2)), S.1.2.2.2))), S.2)
def gMa_foundLength (S : ST) : Int32 := S.1.2.2.1.2.2
def sMa_foundLength (S : ST) (v : Int32) : ST := ((S.1.1, (S.1.2.1, ((S.1.2.2.1.1, (S.1.2.2.1.2.1, v)), S.1.2.2.2))), S.2)
def gMa_foundAmount (S : ST) : Int64 := S.1.2.2.2.1.1.1
def sMa_foundAmount (S : ST) (v : Int64) : ST := ((S.1.1, (S.1.2.1, (S.1.2.2.1, (((v, S.1.2.2.2.1.1.2), S.1.2.2.2.1.2), S.1.2.2.2.2)))), S.2)
def gMa_goal (S : ST) : Int32 := S.1.2.2.2.1.1.2
def sMa_goal (S : ST) (v : Int32) : ST := ((S.1.1, (S.1.2.1, (S.1.2.2.1, (((S.1.2.2.2.1.1.1, v), S.1.2.2.2.1.2), S.1.2.2.2.2)))), S.2)
def gMa_best (S : ST) : (Nat → Int32) := S.1.2.2.2.1.2
def sMa_best (S : ST) (v : (Nat → Int32)) : ST := ((S.1.1, (S.1.2.1, (S.1.2.2.1, ((S.1.2.2.2.1.1, v), S.1.2.2.2.2)))), S.2)
def gMa_bestLength (S : ST) : Int32 := S.1.2.2.2.2.1.1
def sMa_bestLength (S : ST) (v : Int32) : ST := ((S.1.1, (S.1.2.1, (S.1.2.2.1, (S.1.2.2.2.1, ((v, S.1.2.2.2.2.1.2), S.1.2.2.2.2.2))))), S.2)
def gSh_yieldOf (S : ST) : (Nat → Int32) := S.1.2.2.2.2.1.2
def sSh_yieldOf (S : ST) (v : (Nat → Int32)) : ST := ((S.1.1, (S.1.2.1, (S.1.2.2.1, (S.1.2.2.2.1, ((S.1.2.2.2.2.1.1, v), S.1.2.2.2.2.2))))), S.2)
def gMM_clock (S : ST) : Int32 := S.1.2.2.2.2.2
def sMM_clock (S : ST) (v : Int32) : ST := ((S.1.1, (S.1.2.1, (S.1.2.2.1, (S.1.2.2.2.1, (S.1.2.2.2.2.1, v))))), S.2)
def gMM_quarters (S : ST) : Int32 := S.2.1.1.1.1.1.1
def sMM_quarters (S : ST) (v : Int32) : ST := (S.1, ((((((v, S.2.1.1.1.1.1.2), S.2.1.1.1.1.2), S.2.1.1.1.2), S.2.1.1.2), S.2.1.2), S.2.2))
def gMM_roads (S : ST) : (Nat → Int32) := S.2.1.1.1.1.1.2
def sMM_roads (S : ST) (v : (Nat → Int32)) : ST := (S.1, ((((((S.2.1.1.1.1.1.1, v), S.2.1.1.1.1.2), S.2.1.1.1.2), S.2.1.1.2), S.2.1.2), S.2.2))
def gMM_ways (S : ST) : (Nat → Int32) := S.2.1.1.1.1.2.1
def sMM_ways (S : ST) (v : (Nat → Int32)) : ST := (S.1, (((((S.2.1.1.1.1.1, (v, S.2.1.1.1.1.2.2)), S.2.1.1.1.2), S.2.1.1.2), S.2.1.2), S.2.2))
def gMM_weight (S : ST) : (Nat → Int32) := S.2.1.1.1.1.2.2
def sMM_weight (S : ST) (v : (Nat → Int32)) : ST := (S.1, (((((S.2.1.1.1.1.1, (S.2.1.1.1.1.2.1, v)), S.2.1.1.1.2), S.2.1.1.2), S.2.1.2), S.2.2))
def gMM_load (S : ST) : Int32 := S.2.1.1.1.2.1.1
def sMM_load (S : ST) (v : Int32) : ST := (S.1, ((((S.2.1.1.1.1, ((v, S.2.1.1.1.2.1.2), S.2.1.1.1.2.2)), S.2.1.1.2), S.2.1.2), S.2.2))
def gMM_told (S : ST) : (Nat → Int32) := S.2.1.1.1.2.1.2
def sMM_told (S : ST) (v : (Nat → Int32)) : ST := (S.1, ((((S.2.1.1.1.1, ((S.2.1.1.1.2.1.1, v), S.2.1.1.1.2.2)), S.2.1.1.2), S.2.1.2), S.2.2))
def gMM_readAt (S : ST) : (Nat → Int32) := S.2.1.1.1.2.2
def sMM_readAt (S : ST) (v : (Nat → Int32)) : ST := (S.1, ((((S.2.1.1.1.1, (S.2.1.1.1.2.1, v)), S.2.1.1.2), S.2.1.2), S.2.2))
def gMM_reads (S : ST) : Int32 := S.2.1.1.2.1.1.1
def sMM_reads (S : ST) (v : Int32) : ST := (S.1, (((S.2.1.1.1, (((v, S.2.1.1.2.1.1.2), S.2.1.1.2.1.2), S.2.1.1.2.2)), S.2.1.2), S.2.2))
def gMM_debt (S : ST) : (Nat → Int32) := S.2.1.1.2.1.1.2
def sMM_debt (S : ST) (v : (Nat → Int32)) : ST := (S.1, (((S.2.1.1.1, (((S.2.1.1.2.1.1.1, v), S.2.1.1.2.1.2), S.2.1.1.2.2)), S.2.1.2), S.2.2))
def gMM_gift (S : ST) : (Nat → Int32) := S.2.1.1.2.1.2
def sMM_gift (S : ST) (v : (Nat → Int32)) : ST := (S.1, (((S.2.1.1.1, ((S.2.1.1.2.1.1, v), S.2.1.1.2.2)), S.2.1.2), S.2.2))
def gMM_paid (S : ST) : (Nat → Int32) := S.2.1.1.2.2.1.1
def sMM_paid (S : ST) (v : (Nat → Int32)) : ST := (S.1, (((S.2.1.1.1, (S.2.1.1.2.1, ((v, S.2.1.1.2.2.1.2), S.2.1.1.2.2.2))), S.2.1.2), S.2.2))
def gMM_late (S : ST) : (Nat → Int64) := S.2.1.1.2.2.1.2
def sMM_late (S : ST) (v : (Nat → Int64)) : ST := (S.1, (((S.2.1.1.1, (S.2.1.1.2.1, ((S.2.1.1.2.2.1.1, v), S.2.1.1.2.2.2))), S.2.1.2), S.2.2))
def gMM_sendings (S : ST) : Int32 := S.2.1.1.2.2.2
def sMM_sendings (S : ST) (v : Int32) : ST := (S.1, (((S.2.1.1.1, (S.2.1.1.2.1, (S.2.1.1.2.2.1, v))), S.2.1.2), S.2.2))
def gMM_town (S : ST) : (Nat → Int32) := S.2.1.2.1.1.1.1
def sMM_town (S : ST) (v : (Nat → Int32)) : ST := (S.1, ((S.2.1.1, ((((v, S.2.1.2.1.1.1.2), S.2.1.2.1.1.2), S.2.1.2.1.2), S.2.1.2.2)), S.2.2))
def gMM_good (S : ST) : (Nat → Int32) := S.2.1.2.1.1.1.2
def sMM_good (S : ST) (v : (Nat → Int32)) : ST := (S.1, ((S.2.1.1, ((((S.2.1.2.1.1.1.1, v), S.2.1.2.1.1.2), S.2.1.2.1.2), S.2.1.2.2)), S.2.2))
def gMM_pieces (S : ST) : (Nat → Int32) := S.2.1.2.1.1.2
def sMM_pieces (S : ST) (v : (Nat → Int32)) : ST := (S.1, ((S.2.1.1, (((S.2.1.2.1.1.1, v), S.2.1.2.1.2), S.2.1.2.2)), S.2.2))
def gMM_bearers (S : ST) : (Nat → Int32) := S.2.1.2.1.2.1.1
def sMM_bearers (S : ST) (v : (Nat → Int32)) : ST := (S.1, ((S.2.1.1, ((S.2.1.2.1.1, ((v, S.2.1.2.1.2.1.2), S.2.1.2.1.2.2)), S.2.1.2.2)), S.2.2))
def gMM_left (S : ST) : (Nat → Int32) := S.2.1.2.1.2.1.2
def sMM_left (S : ST) (v : (Nat → Int32)) : ST := (S.1, ((S.2.1.1, ((S.2.1.2.1.1, ((S.2.1.2.1.2.1.1, v), S.2.1.2.1.2.2)), S.2.1.2.2)), S.2.2))
def gMM_comes (S : ST) : (Nat → Int32) := S.2.1.2.1.2.2
def sMM_comes (S : ST) (v : (Nat → Int32)) : ST := (S.1, ((S.2.1.1, ((S.2.1.2.1.1, (S.2.1.2.1.2.1, v)), S.2.1.2.2)), S.2.2))
def gMM_isStored (S : ST) : (Nat → Int32) := S.2.1.2.2.1.1.1
def sMM_isStored (S : ST) (v : (Nat → Int32)) : ST := (S.1, ((S.2.1.1, (S.2.1.2.1, (((v, S.2.1.2.2.1.1.2), S.2.1.2.2.1.2), S.2.1.2.2.2))), S.2.2))
def gMM_used (S : ST) : (Nat → Int32) := S.2.1.2.2.1.1.2
def sMM_used (S : ST) (v : (Nat → Int32)) : ST := (S.1, ((S.2.1.1, (S.2.1.2.1, (((S.2.1.2.2.1.1.1, v), S.2.1.2.2.1.2), S.2.1.2.2.2))), S.2.2))
def gMM_stored (S : ST) : Int32 := S.2.1.2.2.1.2
def sMM_stored (S : ST) (v : Int32) : ST := (S.1, ((S.2.1.1, (S.2.1.2.1, ((S.2.1.2.2.1.1, v), S.2.1.2.2.2))), S.2.2))
def gMM_storedOrder (S : ST) : (Nat → Int32) := S.2.1.2.2.2.1.1
def sMM_storedOrder (S : ST) (v : (Nat → Int32)) : ST := (S.1, ((S.2.1.1, (S.2.1.2.1, (S.2.1.2.2.1, ((v, S.2.1.2.2.2.1.2), S.2.1.2.2.2.2)))), S.2.2))
def gMM_storedMany (S : ST) : Int32 := S.2.1.2.2.2.1.2
def sMM_storedMany (S : ST) (v : Int32) : ST := (S.1, ((S.2.1.1, (S.2.1.2.1, (S.2.1.2.2.1, ((S.2.1.2.2.2.1.1, v), S.2.1.2.2.2.2)))), S.2.2))
def gMM_tape (S : ST) : (Nat → Int32) := S.2.1.2.2.2.2
def sMM_tape (S : ST) (v : (Nat → Int32)) : ST := (S.1, ((S.2.1.1, (S.2.1.2.1, (S.2.1.2.2.1, (S.2.1.2.2.2.1, v)))), S.2.2))
def gMM_taped (S : ST) : Int32 := S.2.2.1.1.1.1.1
def sMM_taped (S : ST) (v : Int32) : ST := (S.1, (S.2.1, (((((v, S.2.2.1.1.1.1.2), S.2.2.1.1.1.2), S.2.2.1.1.2), S.2.2.1.2), S.2.2.2)))
def gMM_fault (S : ST) : Int32 := S.2.2.1.1.1.1.2
def sMM_fault (S : ST) (v : Int32) : ST := (S.1, (S.2.1, (((((S.2.2.1.1.1.1.1, v), S.2.2.1.1.1.2), S.2.2.1.1.2), S.2.2.1.2), S.2.2.2)))
def gMM_faultPlace (S : ST) : Int32 := S.2.2.1.1.1.2
def sMM_faultPlace (S : ST) (v : Int32) : ST := (S.1, (S.2.1, ((((S.2.2.1.1.1.1, v), S.2.2.1.1.2), S.2.2.1.2), S.2.2.2)))
def gMM_at (S : ST) : Int32 := S.2.2.1.1.2.1.1
def sMM_at (S : ST) (v : Int32) : ST := (S.1, (S.2.1, (((S.2.2.1.1.1, ((v, S.2.2.1.1.2.1.2), S.2.2.1.1.2.2)), S.2.2.1.2), S.2.2.2)))
def gMM_place (S : ST) : Int32 := S.2.2.1.1.2.1.2
def sMM_place (S : ST) (v : Int32) : ST := (S.1, (S.2.1, (((S.2.2.1.1.1, ((S.2.2.1.1.2.1.1, v), S.2.2.1.1.2.2)), S.2.2.1.2), S.2.2.2)))
def gMM_token (S : ST) : Int32 := S.2.2.1.1.2.2
def sMM_token (S : ST) (v : Int32) : ST := (S.1, (S.2.1, (((S.2.2.1.1.1, (S.2.2.1.1.2.1, v)), S.2.2.1.2), S.2.2.2)))
def gMM_number (S : ST) : Int32 := S.2.2.1.2.1.1.1
def sMM_number (S : ST) (v : Int32) : ST := (S.1, (S.2.1, ((S.2.2.1.1, (((v, S.2.2.1.2.1.1.2), S.2.2.1.2.1.2), S.2.2.1.2.2)), S.2.2.2)))
def gMM_lines (S : ST) : Int32 := S.2.2.1.2.1.1.2
def sMM_lines (S : ST) (v : Int32) : ST := (S.1, (S.2.1, ((S.2.2.1.1, (((S.2.2.1.2.1.1.1, v), S.2.2.1.2.1.2), S.2.2.1.2.2)), S.2.2.2)))
def gMM_towns (S : ST) : Int32 := S.2.2.1.2.1.2
def sMM_towns (S : ST) (v : Int32) : ST := (S.1, (S.2.1, ((S.2.2.1.1, ((S.2.2.1.2.1.1, v), S.2.2.1.2.2)), S.2.2.2)))
def gMM_goods (S : ST) : Int32 := S.2.2.1.2.2.1.1
def sMM_goods (S : ST) (v : Int32) : ST := (S.1, (S.2.1, ((S.2.2.1.1, (S.2.2.1.2.1, ((v, S.2.2.1.2.2.1.2), S.2.2.1.2.2.2))), S.2.2.2)))
def gMM_markets (S : ST) : Int32 := S.2.2.1.2.2.1.2
def sMM_markets (S : ST) (v : Int32) : ST := (S.1, (S.2.1, ((S.2.2.1.1, (S.2.2.1.2.1, ((S.2.2.1.2.2.1.1, v), S.2.2.1.2.2.2))), S.2.2.2)))
def gMM_from (S : ST) : (Nat → Int32) := S.2.2.1.2.2.2
def sMM_from (S : ST) (v : (Nat → Int32)) : ST := (S.1, (S.2.1, ((S.2.2.1.1, (S.2.2.1.2.1, (S.2.2.1.2.2.1, v))), S.2.2.2)))
def gMM_gives (S : ST) : (Nat → Int32) := S.2.2.2.1.1.1.1
def sMM_gives (S : ST) (v : (Nat → Int32)) : ST := (S.1, (S.2.1, (S.2.2.1, ((((v, S.2.2.2.1.1.1.2), S.2.2.2.1.1.2), S.2.2.2.1.2), S.2.2.2.2))))
def gMM_to (S : ST) : (Nat → Int32) := S.2.2.2.1.1.1.2
def sMM_to (S : ST) (v : (Nat → Int32)) : ST := (S.1, (S.2.1, (S.2.2.1, ((((S.2.2.2.1.1.1.1, v), S.2.2.2.1.1.2), S.2.2.2.1.2), S.2.2.2.2))))
def gMM_gets (S : ST) : (Nat → Int32) := S.2.2.2.1.1.2
def sMM_gets (S : ST) (v : (Nat → Int32)) : ST := (S.1, (S.2.1, (S.2.2.1, (((S.2.2.2.1.1.1, v), S.2.2.2.1.2), S.2.2.2.2))))
def gMM_open (S : ST) : (Nat → Int32) := S.2.2.2.1.2.1.1
def sMM_open (S : ST) (v : (Nat → Int32)) : ST := (S.1, (S.2.1, (S.2.2.1, ((S.2.2.2.1.1, ((v, S.2.2.2.1.2.1.2), S.2.2.2.1.2.2)), S.2.2.2.2))))
def gMM_much (S : ST) : (Nat → Int64) := S.2.2.2.1.2.1.2
def sMM_much (S : ST) (v : (Nat → Int64)) : ST := (S.1, (S.2.1, (S.2.2.1, ((S.2.2.2.1.1, ((S.2.2.2.1.2.1.1, v), S.2.2.2.1.2.2)), S.2.2.2.2))))
def gMM_bestRow (S : ST) : (Nat → Int32) := S.2.2.2.1.2.2
def sMM_bestRow (S : ST) (v : (Nat → Int32)) : ST := (S.1, (S.2.1, (S.2.2.1, ((S.2.2.2.1.1, (S.2.2.2.1.2.1, v)), S.2.2.2.2))))
def gMM_bestLong (S : ST) : Int32 := S.2.2.2.2.1.1.1
def sMM_bestLong (S : ST) (v : Int32) : ST := (S.1, (S.2.1, (S.2.2.1, (S.2.2.2.1, (((v, S.2.2.2.2.1.1.2), S.2.2.2.2.1.2), S.2.2.2.2.2)))))
def gMM_rowLong (S : ST) : Int32 := S.2.2.2.2.1.1.2
def sMM_rowLong (S : ST) (v : Int32) : ST := (S.1, (S.2.1, (S.2.2.1, (S.2.2.2.1, (((S.2.2.2.2.1.1.1, v), S.2.2.2.2.1.2), S.2.2.2.2.2)))))
def gMM_row (S : ST) : (Nat → Int32) := S.2.2.2.2.1.2
def sMM_row (S : ST) (v : (Nat → Int32)) : ST := (S.1, (S.2.1, (S.2.2.1, (S.2.2.2.1, ((S.2.2.2.2.1.1, v), S.2.2.2.2.2)))))
def gMM_best (S : ST) : Int64 := S.2.2.2.2.2.1.1
def sMM_best (S : ST) (v : Int64) : ST := (S.1, (S.2.1, (S.2.2.1, (S.2.2.2.1, (S.2.2.2.2.1, ((v, S.2.2.2.2.2.1.2), S.2.2.2.2.2.2))))))
def gMM_yield2 (S : ST) : (Nat → Int32) := S.2.2.2.2.2.1.2
def sMM_yield2 (S : ST) (v : (Nat → Int32)) : ST := (S.1, (S.2.1, (S.2.2.1, (S.2.2.2.1, (S.2.2.2.2.1, ((S.2.2.2.2.2.1.1, v), S.2.2.2.2.2.2))))))
def gMM_hasMore (S : ST) : (Nat → Int32) := S.2.2.2.2.2.2
def sMM_hasMore (S : ST) (v : (Nat → Int32)) : ST := (S.1, (S.2.1, (S.2.2.1, (S.2.2.2.1, (S.2.2.2.2.1, (S.2.2.2.2.2.1, v))))))
def RcAc : String := "TributeLists$Accounts"
def FcAc : u_T := fun k => match k with
  | 0 => ("TributeLists$Accounts", "unpaid", "[I", true)
  | 1 => ("TributeLists$Accounts", "owing", "[I", true)
  | 2 => ("TributeLists$Accounts", "gifts", "[I", true)
  | 3 => ("TributeLists$Accounts", "paidOff", "[I", true)
  | _ => ("TributeLists$Accounts", "lateOfPaid", "[J", true)
def tcAc : Nat → FieldType := fun k => match k with
  | 0 => .array .int
  | 1 => .array .int
  | 2 => .array .int
  | 3 => .array .int
  | _ => .array .long
theorem nmAc : ∀ a, a < 5 → ∀ b, b < 5 → a ≠ b → (FcAc a).2.1 ≠ (FcAc b).2.1 := by decide +kernel
theorem tyAc : ∀ k, k < 5 → parseFieldDescriptor (FcAc k).2.2.1 = some (tcAc k) := by decide +kernel
def RcCo : String := "TributeLists$Copies"
def FcCo : u_T := fun k => match k with
  | 0 => ("TributeLists$Copies", "told", "[[I", true)
  | 1 => ("TributeLists$Copies", "readAs", "[I", true)
  | _ => ("TributeLists$Copies", "readings", "I", false)
def tcCo : Nat → FieldType := fun k => match k with
  | 0 => .array (.array .int)
  | 1 => .array .int
  | _ => .int
theorem nmCo : ∀ a, a < 3 → ∀ b, b < 3 → a ≠ b → (FcCo a).2.1 ≠ (FcCo b).2.1 := by decide +kernel
theorem tyCo : ∀ k, k < 3 → parseFieldDescriptor (FcCo k).2.2.1 = some (tcCo k) := by decide +kernel
def RcLi : String := "TributeLists$ListReader"
def FcLi : u_T := fun k => match k with
  | 0 => ("TributeLists$ListReader", "row", "[I", true)
  | 1 => ("TributeLists$ListReader", "townSeen", "[I", true)
  | 2 => ("TributeLists$ListReader", "cursor", "I", false)
  | 3 => ("TributeLists$ListReader", "tokenStart", "I", false)
  | 4 => ("TributeLists$ListReader", "tokenKind", "I", false)
  | 5 => ("TributeLists$ListReader", "number", "I", false)
  | 6 => ("TributeLists$ListReader", "expected", "I", false)
  | 7 => ("TributeLists$ListReader", "lines", "I", false)
  | 8 => ("TributeLists$ListReader", "town", "I", false)
  | 9 => ("TributeLists$ListReader", "good", "I", false)
  | 10 => ("TributeLists$ListReader", "anyRead", "Z", false)
  | 11 => ("TributeLists$ListReader", "faultKind", "I", false)
  | _ => ("TributeLists$ListReader", "faultPlace", "I", false)
def tcLi : Nat → FieldType := fun k => match k with
  | 0 => .array .int
  | 1 => .array .int
  | 2 => .int
  | 3 => .int
  | 4 => .int
  | 5 => .int
  | 6 => .int
  | 7 => .int
  | 8 => .int
  | 9 => .int
  | 10 => .boolean
  | 11 => .int
  | _ => .int
theorem nmLi : ∀ a, a < 13 → ∀ b, b < 13 → a ≠ b → (FcLi a).2.1 ≠ (FcLi b).2.1 := by decide +kernel
theorem tyLi : ∀ k, k < 13 → parseFieldDescriptor (FcLi k).2.2.1 = some (tcLi k) := by decide +kernel
def RcMa : String := "TributeLists$Markets"
def FcMa : u_T := fun k => match k with
  | 0 => ("TributeLists$Markets", "fromGood", "[I", true)
  | 1 => ("TributeLists$Markets", "given", "[I", true)
  | 2 => ("TributeLists$Markets", "toGood", "[I", true)
  | 3 => ("TributeLists$Markets", "gained", "[I", true)
  | 4 => ("TributeLists$Markets", "count", "I", false)
  | 5 => ("TributeLists$Markets", "visited", "[I", true)
  | 6 => ("TributeLists$Markets", "trail", "[I", true)
  | 7 => ("TributeLists$Markets", "found", "[I", true)
  | 8 => ("TributeLists$Markets", "foundLength", "I", false)
  | 9 => ("TributeLists$Markets", "foundAmount", "J", false)
  | 10 => ("TributeLists$Markets", "goal", "I", false)
  | 11 => ("TributeLists$Markets", "best", "[I", true)
  | _ => ("TributeLists$Markets", "bestLength", "I", false)
def tcMa : Nat → FieldType := fun k => match k with
  | 0 => .array .int
  | 1 => .array .int
  | 2 => .array .int
  | 3 => .array .int
  | 4 => .int
  | 5 => .array .int
  | 6 => .array .int
  | 7 => .array .int
  | 8 => .int
  | 9 => .long
  | 10 => .int
  | 11 => .array .int
  | _ => .int
theorem nmMa : ∀ a, a < 13 → ∀ b, b < 13 → a ≠ b → (FcMa a).2.1 ≠ (FcMa b).2.1 := by decide +kernel
theorem tyMa : ∀ k, k < 13 → parseFieldDescriptor (FcMa k).2.2.1 = some (tcMa k) := by decide +kernel
def RcPo : String := "TributeLists$Porters"
def FcPo : u_T := fun k => match k with
  | 0 => ("TributeLists$Porters", "weights", "[I", true)
  | _ => ("TributeLists$Porters", "load", "I", false)
def tcPo : Nat → FieldType := fun k => match k with
  | 0 => .array .int
  | _ => .int
theorem nmPo : ∀ a, a < 2 → ∀ b, b < 2 → a ≠ b → (FcPo a).2.1 ≠ (FcPo b).2.1 := by decide +kernel
theorem tyPo : ∀ k, k < 2 → parseFieldDescriptor (FcPo k).2.2.1 = some (tcPo k) := by decide +kernel
def RcRo : String := "TributeLists$Roads"
def FcRo : u_T := fun k => match k with
  | 0 => ("TributeLists$Roads", "length", "[I", true)
  | 1 => ("TributeLists$Roads", "reach", "[I", true)
  | _ => ("TributeLists$Roads", "settled", "[I", true)
def tcRo : Nat → FieldType := fun k => match k with
  | 0 => .array .int
  | 1 => .array .int
  | _ => .array .int
theorem nmRo : ∀ a, a < 3 → ∀ b, b < 3 → a ≠ b → (FcRo a).2.1 ≠ (FcRo b).2.1 := by decide +kernel
theorem tyRo : ∀ k, k < 3 → parseFieldDescriptor (FcRo k).2.2.1 = some (tcRo k) := by decide +kernel
def RcSe : String := "TributeLists$Sendings"
def FcSe : u_T := fun k => match k with
  | 0 => ("TributeLists$Sendings", "table", "[I", true)
  | 1 => ("TributeLists$Sendings", "storedOrder", "[I", true)
  | 2 => ("TributeLists$Sendings", "storedCount", "I", false)
  | 3 => ("TributeLists$Sendings", "storedPieces", "I", false)
  | _ => ("TributeLists$Sendings", "count", "I", false)
def tcSe : Nat → FieldType := fun k => match k with
  | 0 => .array .int
  | 1 => .array .int
  | 2 => .int
  | 3 => .int
  | _ => .int
theorem nmSe : ∀ a, a < 5 → ∀ b, b < 5 → a ≠ b → (FcSe a).2.1 ≠ (FcSe b).2.1 := by decide +kernel
theorem tySe : ∀ k, k < 5 → parseFieldDescriptor (FcSe k).2.2.1 = some (tcSe k) := by decide +kernel
def RcSh : String := "TributeLists$Shares"
def FcSh : u_T := fun k => match k with
  | _ => ("TributeLists$Shares", "yieldOf", "[I", true)
def tcSh : Nat → FieldType := fun k => match k with
  | _ => .array .int
theorem nmSh : ∀ a, a < 1 → ∀ b, b < 1 → a ≠ b → (FcSh a).2.1 ≠ (FcSh b).2.1 := by decide +kernel
theorem tySh : ∀ k, k < 1 → parseFieldDescriptor (FcSh k).2.2.1 = some (tcSh k) := by decide +kernel
def RcTa : String := "TributeLists$Tape"
def FcTa : u_T := fun k => match k with
  | 0 => ("TributeLists$Tape", "bytes", "[B", true)
  | _ => ("TributeLists$Tape", "size", "I", false)
def tcTa : Nat → FieldType := fun k => match k with
  | 0 => .array .byte
  | _ => .int
theorem nmTa : ∀ a, a < 2 → ∀ b, b < 2 → a ≠ b → (FcTa a).2.1 ≠ (FcTa b).2.1 := by decide +kernel
theorem tyTa : ∀ k, k < 2 → parseFieldDescriptor (FcTa k).2.2.1 = some (tcTa k) := by decide +kernel
def RcTL : String := "TributeLists"
def FcTL : u_T := fun k => match k with
  | 0 => ("TributeLists", "roads", "LTributeLists$Roads;", true)
  | 1 => ("TributeLists", "porters", "LTributeLists$Porters;", true)
  | 2 => ("TributeLists", "tape", "LTributeLists$Tape;", true)
  | 3 => ("TributeLists", "reader", "LTributeLists$ListReader;", true)
  | 4 => ("TributeLists", "copies", "LTributeLists$Copies;", true)
  | 5 => ("TributeLists", "accounts", "LTributeLists$Accounts;", true)
  | 6 => ("TributeLists", "sendings", "LTributeLists$Sendings;", true)
  | 7 => ("TributeLists", "markets", "LTributeLists$Markets;", true)
  | 8 => ("TributeLists", "shares", "LTributeLists$Shares;", true)
  | _ => ("TributeLists", "clock", "I", false)
def tcTL : Nat → FieldType := fun k => match k with
  | 0 => .object "TributeLists$Roads"
  | 1 => .object "TributeLists$Porters"
  | 2 => .object "TributeLists$Tape"
  | 3 => .object "TributeLists$ListReader"
  | 4 => .object "TributeLists$Copies"
  | 5 => .object "TributeLists$Accounts"
  | 6 => .object "TributeLists$Sendings"
  | 7 => .object "TributeLists$Markets"
  | 8 => .object "TributeLists$Shares"
  | _ => .int
theorem nmTL : ∀ a, a < 10 → ∀ b, b < 10 → a ≠ b → (FcTL a).2.1 ≠ (FcTL b).2.1 := by decide +kernel
theorem tyTL : ∀ k, k < 10 → parseFieldDescriptor (FcTL k).2.2.1 = some (tcTL k) := by decide +kernel
def RcMM : String := "TributeListsModel"
def FcMM : u_T := fun k => match k with
  | 0 => ("TributeListsModel", "clock", "I", false)
  | 1 => ("TributeListsModel", "quarters", "I", false)
  | 2 => ("TributeListsModel", "roads", "[I", true)
  | 3 => ("TributeListsModel", "ways", "[I", true)
  | 4 => ("TributeListsModel", "weight", "[I", true)
  | 5 => ("TributeListsModel", "load", "I", false)
  | 6 => ("TributeListsModel", "told", "[I", true)
  | 7 => ("TributeListsModel", "readAt", "[I", true)
  | 8 => ("TributeListsModel", "reads", "I", false)
  | 9 => ("TributeListsModel", "debt", "[I", true)
  | 10 => ("TributeListsModel", "gift", "[I", true)
  | 11 => ("TributeListsModel", "paid", "[I", true)
  | 12 => ("TributeListsModel", "late", "[J", true)
  | 13 => ("TributeListsModel", "sendings", "I", false)
  | 14 => ("TributeListsModel", "town", "[I", true)
  | 15 => ("TributeListsModel", "good", "[I", true)
  | 16 => ("TributeListsModel", "pieces", "[I", true)
  | 17 => ("TributeListsModel", "bearers", "[I", true)
  | 18 => ("TributeListsModel", "left", "[I", true)
  | 19 => ("TributeListsModel", "comes", "[I", true)
  | 20 => ("TributeListsModel", "isStored", "[Z", true)
  | 21 => ("TributeListsModel", "used", "[I", true)
  | 22 => ("TributeListsModel", "stored", "I", false)
  | 23 => ("TributeListsModel", "storedOrder", "[I", true)
  | 24 => ("TributeListsModel", "storedMany", "I", false)
  | 25 => ("TributeListsModel", "tape", "[I", true)
  | 26 => ("TributeListsModel", "taped", "I", false)
  | 27 => ("TributeListsModel", "fault", "I", false)
  | 28 => ("TributeListsModel", "faultPlace", "I", false)
  | 29 => ("TributeListsModel", "at", "I", false)
  | 30 => ("TributeListsModel", "place", "I", false)
  | 31 => ("TributeListsModel", "token", "I", false)
  | 32 => ("TributeListsModel", "number", "I", false)
  | 33 => ("TributeListsModel", "lines", "I", false)
  | 34 => ("TributeListsModel", "towns", "I", false)
  | 35 => ("TributeListsModel", "goods", "I", false)
  | 36 => ("TributeListsModel", "markets", "I", false)
  | 37 => ("TributeListsModel", "from", "[I", true)
  | 38 => ("TributeListsModel", "gives", "[I", true)
  | 39 => ("TributeListsModel", "to", "[I", true)
  | 40 => ("TributeListsModel", "gets", "[I", true)
  | 41 => ("TributeListsModel", "open", "[I", true)
  | 42 => ("TributeListsModel", "much", "[J", true)
  | 43 => ("TributeListsModel", "bestRow", "[I", true)
  | 44 => ("TributeListsModel", "bestLong", "I", false)
  | 45 => ("TributeListsModel", "rowLong", "I", false)
  | 46 => ("TributeListsModel", "row", "[I", true)
  | 47 => ("TributeListsModel", "best", "J", false)
  | 48 => ("TributeListsModel", "yield2", "[I", true)
  | _ => ("TributeListsModel", "hasMore", "[Z", true)
def tcMM : Nat → FieldType := fun k => match k with
  | 0 => .int
  | 1 => .int
  | 2 => .array .int
  | 3 => .array .int
  | 4 => .array .int
  | 5 => .int
  | 6 => .array .int
  | 7 => .array .int
  | 8 => .int
  | 9 => .array .int
  | 10 => .array .int
  | 11 => .array .int
  | 12 => .array .long
  | 13 => .int
  | 14 => .array .int
  | 15 => .array .int
  | 16 => .array .int
  | 17 => .array .int
  | 18 => .array .int
  | 19 => .array .int
  | 20 => .array .boolean
  | 21 => .array .int
  | 22 => .int
  | 23 => .array .int
  | 24 => .int
  | 25 => .array .int
  | 26 => .int
  | 27 => .int
  | 28 => .int
  | 29 => .int
  | 30 => .int
  | 31 => .int
  | 32 => .int
  | 33 => .int
  | 34 => .int
  | 35 => .int
  | 36 => .int
  | 37 => .array .int
  | 38 => .array .int
  | 39 => .array .int
  | 40 => .array .int
  | 41 => .array .int
  | 42 => .array .long
  | 43 => .array .int
  | 44 => .int
  | 45 => .int
  | 46 => .array .int
  | 47 => .long
  | 48 => .array .int
  | _ => .array .boolean
theorem nmMM : ∀ a, a < 50 → ∀ b, b < 50 → a ≠ b → (FcMM a).2.1 ≠ (FcMM b).2.1 := by decide +kernel
theorem tyMM : ∀ k, k < 50 → parseFieldDescriptor (FcMM k).2.2.1 = some (tcMM k) := by decide +kernel
abbrev cls : List vw_C := [(RcAc, FcAc, 5), (RcCo, FcCo, 3), (RcLi, FcLi, 13), (RcMa, FcMa, 13), (RcPo, FcPo, 2), (RcRo, FcRo, 3), (RcSe, FcSe, 5), (RcSh, FcSh, 1), (RcTa, FcTa, 2), (RcTL, FcTL, 10), (RcMM, FcMM, 50)]
abbrev tys (G : GG) : List (ClassId × FieldType) := [(cy G 0, .int), (cy G 1, .byte), (cy G 2, .long), (cy G 3, .boolean), (cy G 4, .array .int)]
def rwCo_told (G : GG) : Nat → Option Nat := fun i => if i < 5 then some (ad G (18 + i)) else none
def wld (G : GG) (S : ST) : va_W := [
  (ad G 0, .inr (9, [.ref (ad G 1), .ref (ad G 2), .ref (ad G 3), .ref (ad G 4), .ref (ad G 5), .ref (ad G 6), .ref (ad G 7), .ref (ad G 8), .ref (ad G 9), .int (gTL_clock S)])),
  (ad G 1, .inr (5, [.ref (ad G 10), .ref (ad G 11), .ref (ad G 12)])),
  (ad G 2, .inr (4, [.ref (ad G 13), .int (gPo_load S)])),
  (ad G 3, .inr (8, [.ref (ad G 14), .int (gTa_size S)])),
  (ad G 4, .inr (2, [.ref (ad G 15), .ref (ad G 16), .int (gLi_cursor S), .int (gLi_tokenStart S), .int (gLi_tokenKind S), .int (gLi_number S), .int (gLi_expected S), .int (gLi_lines S), .int (gLi_town S), .int (gLi_good S), .int (gLi_anyRead S), .int (gLi_faultKind S), .int (gLi_faultPlace S)])),
  (ad G 5, .inr (1, [.ref (ad G 17), .ref (ad G 23), .int (gCo_readings S)])),
  (ad G 6, .inr (0, [.ref (ad G 24), .ref (ad G 25), .ref (ad G 26), .ref (ad G 27), .ref (ad G 28)])),
  (ad G 7, .inr (6, [.ref (ad G 29), .ref (ad G 30), .int (gSe_storedCount S), .int (gSe_storedPieces S), .int (gSe_count S)])),
  (ad G 8, .inr (3, [.ref (ad G 31), .ref (ad G 32), .ref (ad G 33), .ref (ad G 34), .int (gMa_count S), .ref (ad G 35), .ref (ad G 36), .ref (ad G 37), .int (gMa_foundLength S), .long (gMa_foundAmount S), .int (gMa_goal S), .ref (ad G 38), .int (gMa_bestLength S)])),
  (ad G 9, .inr (7, [.ref (ad G 39)])),
  (ad G 10, .inl (cy G 0, 256, .inl (gRo_length S))),
  (ad G 11, .inl (cy G 0, 16, .inl (gRo_reach S))),
  (ad G 12, .inl (cy G 0, 16, .inl (gRo_settled S))),
  (ad G 13, .inl (cy G 0, 6, .inl (gPo_weights S))),
  (ad G 14, .inl (cy G 1, 300, .inl (gTa_bytes S))),
  (ad G 15, .inl (cy G 0, 96, .inl (gLi_row S))),
  (ad G 16, .inl (cy G 0, 16, .inl (gLi_townSeen S))),
  (ad G 17, .inl (cy G 4, 5, .inr (.inr (.inr (.inr (rwCo_told G)))))),
  (ad G 18, .inl (cy G 0, 96, .inl (gCo_told S 0))),
  (ad G 19, .inl (cy G 0, 96, .inl (gCo_told S 1))),
  (ad G 20, .inl (cy G 0, 96, .inl (gCo_told S 2))),
  (ad G 21, .inl (cy G 0, 96, .inl (gCo_told S 3))),
  (ad G 22, .inl (cy G 0, 96, .inl (gCo_told S 4))),
  (ad G 23, .inl (cy G 0, 5, .inl (gCo_readAs S))),
  (ad G 24, .inl (cy G 0, 3168, .inl (gAc_unpaid S))),
  (ad G 25, .inl (cy G 0, 96, .inl (gAc_owing S))),
  (ad G 26, .inl (cy G 0, 96, .inl (gAc_gifts S))),
  (ad G 27, .inl (cy G 0, 96, .inl (gAc_paidOff S))),
  (ad G 28, .inl (cy G 2, 16, .inr (.inl (gAc_lateOfPaid S)))),
  (ad G 29, .inl (cy G 0, 800, .inl (gSe_table S))),
  (ad G 30, .inl (cy G 0, 100, .inl (gSe_storedOrder S))),
  (ad G 31, .inl (cy G 0, 20, .inl (gMa_fromGood S))),
  (ad G 32, .inl (cy G 0, 20, .inl (gMa_given S))),
  (ad G 33, .inl (cy G 0, 20, .inl (gMa_toGood S))),
  (ad G 34, .inl (cy G 0, 20, .inl (gMa_gained S))),
  (ad G 35, .inl (cy G 0, 6, .inl (gMa_visited S))),
  (ad G 36, .inl (cy G 0, 5, .inl (gMa_trail S))),
  (ad G 37, .inl (cy G 0, 5, .inl (gMa_found S))),
  (ad G 38, .inl (cy G 0, 5, .inl (gMa_best S))),
  (ad G 39, .inl (cy G 0, 16, .inl (gSh_yieldOf S))),
  (ad G 40, .inr (10, [.int (gMM_clock S), .int (gMM_quarters S), .ref (ad G 41), .ref (ad G 42), .ref (ad G 43), .int (gMM_load S), .ref (ad G 44), .ref (ad G 45), .int (gMM_reads S), .ref (ad G 46), .ref (ad G 47), .ref (ad G 48), .ref (ad G 49), .int (gMM_sendings S), .ref (ad G 50), .ref (ad G 51), .ref (ad G 52), .ref (ad G 53), .ref (ad G 54), .ref (ad G 55), .ref (ad G 56), .ref (ad G 57), .int (gMM_stored S), .ref (ad G 58), .int (gMM_storedMany S), .ref (ad G 59), .int (gMM_taped S), .int (gMM_fault S), .int (gMM_faultPlace S), .int (gMM_at S), .int (gMM_place S), .int (gMM_token S), .int (gMM_number S), .int (gMM_lines S), .int (gMM_towns S), .int (gMM_goods S), .int (gMM_markets S), .ref (ad G 60), .ref (ad G 61), .ref (ad G 62), .ref (ad G 63), .ref (ad G 64), .ref (ad G 65), .ref (ad G 66), .int (gMM_bestLong S), .int (gMM_rowLong S), .ref (ad G 67), .long (gMM_best S), .ref (ad G 68), .ref (ad G 69)])),
  (ad G 41, .inl (cy G 0, 256, .inl (gMM_roads S))),
  (ad G 42, .inl (cy G 0, 256, .inl (gMM_ways S))),
  (ad G 43, .inl (cy G 0, 6, .inl (gMM_weight S))),
  (ad G 44, .inl (cy G 0, 576, .inl (gMM_told S))),
  (ad G 45, .inl (cy G 0, 5, .inl (gMM_readAt S))),
  (ad G 46, .inl (cy G 0, 3264, .inl (gMM_debt S))),
  (ad G 47, .inl (cy G 0, 96, .inl (gMM_gift S))),
  (ad G 48, .inl (cy G 0, 96, .inl (gMM_paid S))),
  (ad G 49, .inl (cy G 2, 16, .inr (.inl (gMM_late S)))),
  (ad G 50, .inl (cy G 0, 100, .inl (gMM_town S))),
  (ad G 51, .inl (cy G 0, 100, .inl (gMM_good S))),
  (ad G 52, .inl (cy G 0, 100, .inl (gMM_pieces S))),
  (ad G 53, .inl (cy G 0, 100, .inl (gMM_bearers S))),
  (ad G 54, .inl (cy G 0, 100, .inl (gMM_left S))),
  (ad G 55, .inl (cy G 0, 100, .inl (gMM_comes S))),
  (ad G 56, .inl (cy G 3, 100, .inl (gMM_isStored S))),
  (ad G 57, .inl (cy G 0, 100, .inl (gMM_used S))),
  (ad G 58, .inl (cy G 0, 100, .inl (gMM_storedOrder S))),
  (ad G 59, .inl (cy G 0, 300, .inl (gMM_tape S))),
  (ad G 60, .inl (cy G 0, 20, .inl (gMM_from S))),
  (ad G 61, .inl (cy G 0, 20, .inl (gMM_gives S))),
  (ad G 62, .inl (cy G 0, 20, .inl (gMM_to S))),
  (ad G 63, .inl (cy G 0, 20, .inl (gMM_gets S))),
  (ad G 64, .inl (cy G 0, 6, .inl (gMM_open S))),
  (ad G 65, .inl (cy G 2, 6, .inr (.inl (gMM_much S)))),
  (ad G 66, .inl (cy G 0, 6, .inl (gMM_bestRow S))),
  (ad G 67, .inl (cy G 0, 6, .inl (gMM_row S))),
  (ad G 68, .inl (cy G 0, 16, .inl (gMM_yield2 S))),
  (ad G 69, .inl (cy G 3, 16, .inl (gMM_hasMore S)))]
def nC : Nat := 70
def gw : List Cond := lw_tbl.filter goodWord
theorem mg {i : Nat} {w : Cond} (h : lw_tbl[i]? = some w) (g : goodWord w = true) : w ∈ gw := List.mem_filter.mpr ⟨List.mem_of_getElem? h, g⟩
theorem iwAc : ∀ w ∈ u_ws RcAc FcAc 5, w ∈ gw := by
  intro w hw
  obtain ⟨k, hk, rfl⟩ := List.mem_map.mp hw
  have hk := List.mem_range.mp hk
  have h : ∀ k, k < 5 → lw_tbl[[190, 192, 194, 196, 198].getD k 0]? = some (u_lay RcAc FcAc k) ∧ goodWord (u_lay RcAc FcAc k) = true := by decide +kernel
  exact mg (h k hk).1 (h k hk).2
theorem iwCo : ∀ w ∈ u_ws RcCo FcCo 3, w ∈ gw := by
  intro w hw
  obtain ⟨k, hk, rfl⟩ := List.mem_map.mp hw
  have hk := List.mem_range.mp hk
  have h : ∀ k, k < 3 → lw_tbl[[172, 174, 176].getD k 0]? = some (u_lay RcCo FcCo k) ∧ goodWord (u_lay RcCo FcCo k) = true := by decide +kernel
  exact mg (h k hk).1 (h k hk).2
theorem iwLi : ∀ w ∈ u_ws RcLi FcLi 13, w ∈ gw := by
  intro w hw
  obtain ⟨k, hk, rfl⟩ := List.mem_map.mp hw
  have hk := List.mem_range.mp hk
  have h : ∀ k, k < 13 → lw_tbl[[133, 135, 137, 139, 141, 143, 145, 147, 149, 151, 153, 155, 157].getD k 0]? = some (u_lay RcLi FcLi k) ∧ goodWord (u_lay RcLi FcLi k) = true := by decide +kernel
  exact mg (h k hk).1 (h k hk).2
theorem iwMa : ∀ w ∈ u_ws RcMa FcMa 13, w ∈ gw := by
  intro w hw
  obtain ⟨k, hk, rfl⟩ := List.mem_map.mp hw
  have hk := List.mem_range.mp hk
  have h : ∀ k, k < 13 → lw_tbl[[243, 245, 247, 249, 251, 253, 255, 257, 259, 261, 263, 265, 267].getD k 0]? = some (u_lay RcMa FcMa k) ∧ goodWord (u_lay RcMa FcMa k) = true := by decide +kernel
  exact mg (h k hk).1 (h k hk).2
theorem iwPo : ∀ w ∈ u_ws RcPo FcPo 2, w ∈ gw := by
  intro w hw
  obtain ⟨k, hk, rfl⟩ := List.mem_map.mp hw
  have hk := List.mem_range.mp hk
  have h : ∀ k, k < 2 → lw_tbl[[95, 97].getD k 0]? = some (u_lay RcPo FcPo k) ∧ goodWord (u_lay RcPo FcPo k) = true := by decide +kernel
  exact mg (h k hk).1 (h k hk).2
theorem iwRo : ∀ w ∈ u_ws RcRo FcRo 3, w ∈ gw := by
  intro w hw
  obtain ⟨k, hk, rfl⟩ := List.mem_map.mp hw
  have hk := List.mem_range.mp hk
  have h : ∀ k, k < 3 → lw_tbl[[76, 78, 80].getD k 0]? = some (u_lay RcRo FcRo k) ∧ goodWord (u_lay RcRo FcRo k) = true := by decide +kernel
  exact mg (h k hk).1 (h k hk).2
theorem iwSe : ∀ w ∈ u_ws RcSe FcSe 5, w ∈ gw := by
  intro w hw
  obtain ⟨k, hk, rfl⟩ := List.mem_map.mp hw
  have hk := List.mem_range.mp hk
  have h : ∀ k, k < 5 → lw_tbl[[213, 215, 217, 219, 221].getD k 0]? = some (u_lay RcSe FcSe k) ∧ goodWord (u_lay RcSe FcSe k) = true := by decide +kernel
  exact mg (h k hk).1 (h k hk).2
theorem iwSh : ∀ w ∈ u_ws RcSh FcSh 1, w ∈ gw := by
  intro w hw
  obtain ⟨k, hk, rfl⟩ := List.mem_map.mp hw
  have hk := List.mem_range.mp hk
  have h : ∀ k, k < 1 → lw_tbl[[277].getD k 0]? = some (u_lay RcSh FcSh k) ∧ goodWord (u_lay RcSh FcSh k) = true := by decide +kernel
  exact mg (h k hk).1 (h k hk).2
theorem iwTa : ∀ w ∈ u_ws RcTa FcTa 2, w ∈ gw := by
  intro w hw
  obtain ⟨k, hk, rfl⟩ := List.mem_map.mp hw
  have hk := List.mem_range.mp hk
  have h : ∀ k, k < 2 → lw_tbl[[108, 110].getD k 0]? = some (u_lay RcTa FcTa k) ∧ goodWord (u_lay RcTa FcTa k) = true := by decide +kernel
  exact mg (h k hk).1 (h k hk).2
theorem iwTL : ∀ w ∈ u_ws RcTL FcTL 10, w ∈ gw := by
  intro w hw
  obtain ⟨k, hk, rfl⟩ := List.mem_map.mp hw
  have hk := List.mem_range.mp hk
  have h : ∀ k, k < 10 → lw_tbl[[290, 292, 294, 296, 298, 300, 302, 304, 306, 308].getD k 0]? = some (u_lay RcTL FcTL k) ∧ goodWord (u_lay RcTL FcTL k) = true := by decide +kernel
  exact mg (h k hk).1 (h k hk).2
theorem iwMM : ∀ w ∈ u_ws RcMM FcMM 50, w ∈ gw := by
  intro w hw
  obtain ⟨k, hk, rfl⟩ := List.mem_map.mp hw
  have hk := List.mem_range.mp hk
  have h : ∀ k, k < 50 → lw_tbl[[847, 849, 851, 853, 855, 857, 859, 861, 863, 865, 867, 869, 871, 873, 875, 877, 879, 881, 883, 885, 887, 889, 891, 893, 895, 897, 899, 901, 903, 905, 907, 909, 911, 913, 915, 917, 919, 921, 923, 925, 927, 929, 931, 933, 935, 937, 939, 941, 943, 945].getD k 0]? = some (u_lay RcMM FcMM k) ∧ goodWord (u_lay RcMM FcMM k) = true := by decide +kernel
  exact mg (h k hk).1 (h k hk).2
def nst : List (String × Nat × MethodName × String) := [("TributeLists", 11, ⟨"TributeLists$Roads", "<init>", "()V"⟩, "TributeLists"), ("TributeLists", 25, ⟨"TributeLists$Tape", "<init>", "()V"⟩, "TributeLists"), ("TributeLists", 32, ⟨"TributeLists$ListReader", "<init>", "()V"⟩, "TributeLists"), ("TributeLists", 46, ⟨"TributeLists$Accounts", "<init>", "()V"⟩, "TributeLists"), ("TributeLists", 53, ⟨"TributeLists$Sendings", "<init>", "()V"⟩, "TributeLists"), ("TributeLists", 60, ⟨"TributeLists$Markets", "<init>", "()V"⟩, "TributeLists"), ("TributeLists", 67, ⟨"TributeLists$Shares", "<init>", "()V"⟩, "TributeLists"), ("TributeLists$Porters", 25, ⟨"TributeLists", "within", "(III)Z"⟩, "TributeLists"), ("TributeLists$ListReader", 142, ⟨"TributeLists", "within", "(III)Z"⟩, "TributeLists"), ("TributeLists$ListReader", 128, ⟨"TributeLists", "isTown", "(I)Z"⟩, "TributeLists"), ("TributeLists$ListReader", 133, ⟨"TributeLists", "isGood", "(I)Z"⟩, "TributeLists"), ("TributeLists$ListReader", 136, ⟨"TributeLists", "slot", "(II)I"⟩, "TributeLists"), ("TributeLists$Accounts", 32, ⟨"TributeLists", "within", "(III)Z"⟩, "TributeLists"), ("TributeLists$Accounts", 46, ⟨"TributeLists", "slot", "(II)I"⟩, "TributeLists")]
def SF (G : GG) (U : State) (H : Heap) (A : Nat → Prop) : Prop := vk_R "TributeLists$ListReader" 89 "town" G.2.2.2.1 U ∧ vk_S 1 [4] [[116, 111, 119, 110]] (fun _ => G.2.2.2.1) (fun _ => G.2.2.2.2) A U H ∧ va_Z "java/lang/String" "COMPACT_STRINGS" "Z" (.int 1) A U H ∧ va_Zq "jdk/internal/util/Preconditions" "SIOOBE_FORMATTER" "Ljava/util/function/BiFunction;" A U H
/-- the addresses of the world's cells -/
def Aw (G : GG) : Nat → Prop := fun q => ∃ k, k < nC ∧ q = ad G k
def GOK (G : GG) : Prop := ∀ i j, i < nC → j < nC → ad G i = ad G j → i = j
theorem wld_fst (G : GG) (S : ST) : (wld G S).map Prod.fst = (List.range nC).map (ad G) := rfl
theorem wld_at {G : GG} {S : ST} {i : Nat} {q : Nat × va_E} (h : (wld G S)[i]? = some q) : i < nC ∧ q.1 = ad G i := by
  have h1 : ((wld G S).map Prod.fst)[i]? = some q.1 := by rw [List.getElem?_map, h]; rfl
  rw [wld_fst, List.getElem?_map] at h1
  by_cases hi : i < nC
  · rw [List.getElem?_range hi] at h1
    exact ⟨hi, (Option.some.inj h1).symm⟩
  · rw [List.getElem?_eq_none (by rw [List.length_range]; omega)] at h1
    cases h1
theorem wld_D {G : GG} (hG : GOK G) (S : ST) : va_D (Aw G) (wld G S) := by
  refine ⟨fun i j x y hi hj hxy => ?_, fun k q hk => ?_⟩
  · obtain ⟨a1, a2⟩ := wld_at hi
    obtain ⟨b1, b2⟩ := wld_at hj
    exact hG i j a1 b1 (by rw [← a2, ← b2]; exact hxy)
  · obtain ⟨a1, a2⟩ := wld_at hk
    exact ⟨k, a1, a2⟩
def EF (G : GG) (U : State) (H : Heap) : Prop := va_K G.1 cls (tys G) U ∧ (∀ q ∈ nst, va_Nw (.methodLinkNest q.1 q.2.1 q.2.2.1 q.2.2.2) U) ∧ SF G U H (Aw G)
theorem EF.pass {G : GG} {s U : State} {H : Heap} {locs : List Loc} (h : EF G s s.heap) (hW : s.WarmedH U.vm) (hU : U.heap = H) (hS : va_S (Aw G) s.heap H locs) : EF G U U.heap := by
  obtain ⟨h1, h2, h3, h4, h5, h6⟩ := h
  have hk : ∀ a : Nat, a < s.heap.size → ¬ Aw G a → U.heap[a]? = s.heap[a]? := fun a ha hn => by rw [hU]; exact hS.2.1 a ha hn
  exact ⟨va_K.moved hW.alike h1, fun q hq => va_Nw.warmM hW (h2 q hq), vk_R.warm hW h3, (vk_S.moved hW.alike h4).kept hk, (va_Z.moved hW.alike h5).kept hk, (va_Zq.moved hW.alike h6).kept hk⟩
theorem EF.same {G : GG} {u U : State} (h : EF G u u.heap) (hv : U.vm = u.vm) (hh : U.heap = u.heap) : EF G U U.heap := by
  obtain ⟨h1, h2, h3, h4, h5, h6⟩ := h
  have hA : u.vm.Alike U.vm := by rw [hv]; exact Vm.Alike.refl _
  rw [hh]
  exact ⟨va_K.moved hA h1, fun q hq => va_Nw.same rfl hv.symm (h2 q hq), vk_R.same hv h3, vk_S.moved hA h4, va_Z.moved hA h5, va_Zq.moved hA h6⟩
/-- a method's start: the world is S -/
def PcW (G : GG) (av : List Value) (S : ST) : Array Value → State → Prop := fun a U => a = av.toArray ∧ va_P G.1 cls (wld G S) U.heap ∧ EF G U U.heap
theorem PcW.blind {G : GG} {av : List Value} {S : ST} : FrameBlind (PcW G av S) := by
  intro a U g mk h
  obtain ⟨h1, h2, h3⟩ := h
  exact ⟨h1, h2, EF.same h3 rfl rfl⟩
/-- a method's end: it returns v, the world is S' -/
def Qw (G : GG) (v : Option Value) (S' : ST) : Array Value → State → Outcome → State → Prop := fun _ st o t => o = .returned v ∧ va_P G.1 cls (wld G S') t.heap ∧ va_F (Aw G) st t
def rmm (k : Nat) : Room := { frames := k, cells := 0, slots := 0, locals := 60 * k }
abbrev CX : Type := Program × Launch × Env × Room × State × MethodId × Array Value × List Frame × Method × Code × Nat × Nat
abbrev xp (X : CX) : Program := X.1
abbrev xl (X : CX) : Launch := X.2.1
abbrev xe (X : CX) : Env := X.2.2.1
abbrev xR (X : CX) : Room := X.2.2.2.1
abbrev xs (X : CX) : State := X.2.2.2.2.1
abbrev xm (X : CX) : MethodId := X.2.2.2.2.2.1
abbrev xa (X : CX) : Array Value := X.2.2.2.2.2.2.1
abbrev xb (X : CX) : List Frame := X.2.2.2.2.2.2.2.1
abbrev xh (X : CX) : Method := X.2.2.2.2.2.2.2.2.1
abbrev xc (X : CX) : Code := X.2.2.2.2.2.2.2.2.2.1
abbrev xk (X : CX) : Nat := X.2.2.2.2.2.2.2.2.2.2.1
abbrev xz (X : CX) : Nat := X.2.2.2.2.2.2.2.2.2.2.2
def Cx (G : GG) (X : CX) (own : String) (cc : ByteArray) (nL lv : Nat) (rt : Option FieldType) : Prop :=
  (xp X).tables.exec = Jvm.exec ∧ (xc X).code = cc ∧ (xc X).maxLocals = nL ∧ (xs X).vm.findClass own = some (xm X).cls ∧ (∀ w ∈ gw, w.before (xa X) (xs X) = true) ∧ EF G (xs X) (xs X).heap ∧ GOK G ∧ (xh X).sig.returnType = rt ∧ (xh X).locks = false ∧ (lv ≤ (xR X).frames ∧ 60 * lv ≤ (xR X).locals ∧ xk X ≤ (xR X).cells ∧ xz X ≤ (xR X).slots)
def At (G : GG) (X : CX) (nL : Nat) (Q : State → Prop) (pc : Nat) (L : List (Nat × Value)) (st : List Value) (S : ST) : Prop :=
  ∀ (ls : Array Slot) (H : Heap) (locs : List Loc), lv_has ls nL L → va_P G.1 cls (wld G S) H → va_S (Aw G) (xs X).heap H locs → W (xp X) (xl X) (xe X) (xR X) (xs X) (xm X) (xa X) (xb X) (xh X) (xc X) H locs (xk X) (xz X) Q (F0 (xm X) pc ls st)
/-- an index in its row -/
def inb (i : Int32) (n : Nat) : Bool := !(decide (i < 0)) && decide (i.toNatClampNeg < n)
theorem inb_in {i : Int32} {n : Nat} (h : inb i n = true) : vp_in i n := by
  unfold inb at h
  simp only [Bool.and_eq_true, Bool.not_eq_true', decide_eq_false_iff_not, decide_eq_true_eq] at h
  intro q
  rcases q with q | q
  · exact h.1 q
  · omega
theorem inb_lt {i : Int32} {n : Nat} (h : inb i n = true) : i.toNatClampNeg < n := by
  unfold inb at h
  simp only [Bool.and_eq_true, Bool.not_eq_true', decide_eq_false_iff_not, decide_eq_true_eq] at h
  exact h.2
def nz (y : Int32) : Bool := !(decide (y = 0))
theorem nz_ne {y : Int32} (h : nz y = true) : ¬ y = 0 := by
  unfold nz at h
  simpa using h
def nzL (y : Int64) : Bool := !(decide (y = 0))
theorem nzL_ne {y : Int64} (h : nzL y = true) : ¬ y = 0 := by
  unfold nzL at h
  simpa using h
/-- a guard: none where it fails -/
def gd {α : Type} (b : Bool) (x : Option α) : Option α := if b = true then x else none
theorem gd_some {α : Type} {b : Bool} {x : Option α} {r : α} (h : gd b x = some r) : b = true ∧ x = some r := by
  unfold gd at h
  by_cases hb : b = true
  · rw [if_pos hb] at h; exact ⟨hb, h⟩
  · rw [if_neg hb] at h; cases h
theorem gd_true {α : Type} {b : Bool} {x : Option α} (hb : b = true) : gd b x = x := if_pos hb
def ob {α β : Type} (x : Option α) (f : α → Option β) : Option β := x.bind f
theorem ob_some {α β : Type} {x : Option α} {f : α → Option β} {r : β} (h : ob x f = some r) : ∃ e, x = some e ∧ f e = some r := Option.bind_eq_some_iff.mp h
theorem ob_eq {α β : Type} {x : Option α} {f : α → Option β} {e : α} (h : x = some e) : ob x f = f e := by rw [h]; rfl
theorem ifp {α : Type} {c : Prop} {i : Decidable c} {a b r : α} (hc : c) (h : @ite α c i a b = r) : a = r := by rw [if_pos hc] at h; exact h
theorem ifn {α : Type} {c : Prop} {i : Decidable c} {a b r : α} (hc : ¬ c) (h : @ite α c i a b = r) : b = r := by rw [if_neg hc] at h; exact h
/-- a method that keeps its contract: from a walk of its code -/
theorem met_of {l : Launch} {y : MethodName} {cc : ByteArray} {mL : Nat} {ret : Option FieldType} (hy : plainName y.cls = true) (lv : Nat) (G : GG) (hG : GOK G) (S : ST) (av : List Value) (hlen : (lg_sl av).length ≤ mL) (v : Option Value) (S' : ST)
    (body : ∀ X : CX, xl X = l → Cx G X y.cls cc mL lv ret → At G X mL (MQ (xb X) (Qw G v S') (xa X) (xs X) (xk X) (xz X) (Aw G)) 0 (lv_args 0 av) [] S) : Met l y (.code y cc mL ret :: gw) (rmm lv) (PcW G av S) (Qw G v S') 0 0 (Aw G) := by
  refine Met.ofW (cc := cc) (maxL := mL) (ret := ret) hy rfl ?_
  intro p e s m args below meth c s₁ B hml hv
  obtain ⟨rfl, hP, hE⟩ := hv
  have hts := atoms_spec (ws := .code y cc mL ret :: gw) B.pre
  have hl := lv_entry av (n := mL) hlen
  rw [lg_entry_eq]
  exact body (p, l, e, rmm lv, s, m, av.toArray, below, meth, c, 0, 0) rfl ⟨B.exec, B.bytes, hml, findClass_of_methodNamed B.named, fun w hw => hts w (List.mem_cons_of_mem _ hw), hE, hG, B.returns, B.notSynchronized, ⟨Nat.le_refl _, Nat.le_refl _, Nat.le_refl _, Nat.le_refl _⟩⟩ _ s.heap [] hl hP va_S.rf
section ROWS
variable {G : GG} {X : CX} {own : String} {cc : ByteArray} {nL lv pc : Nat} {rt : Option FieldType} {Q : State → Prop} {S : ST} {L L' : List (Nat × Value)} {st : List Value}
theorem at_loc (ks : List Nat) (h : lv_pick L ks = L') (kk : At G X nL Q pc L' st S) : At G X nL Q pc L st S := fun ls H locs hl hP hS => kk ls H locs (lv_sub hl ks h) hP hS
theorem at_iconst (C : Cx G X own cc nL lv rt) {n : Int} {x : Int32} (d : decode cc pc = .ok (.iconst n, 1)) (hv : Int32.ofInt n = x) (kk : At G X nL Q (pc + 1) L (.int x :: st) S) : At G X nL Q pc L st S := fun ls H locs hl hP hS => lv_iconst C.1 C.2.1 d hv (kk ls H locs hl hP hS)
theorem at_bipush (C : Cx G X own cc nL lv rt) {n : Int} {x : Int32} (d : decode cc pc = .ok (.bipush n, 2)) (hv : (Int8.ofInt n).toInt32 = x) (kk : At G X nL Q (pc + 2) L (.int x :: st) S) : At G X nL Q pc L st S := fun ls H locs hl hP hS => lv_bipush C.1 C.2.1 d hv (kk ls H locs hl hP hS)
theorem at_sipush (C : Cx G X own cc nL lv rt) {n : Int} {x : Int32} (d : decode cc pc = .ok (.sipush n, 3)) (hv : (Int16.ofInt n).toInt32 = x) (kk : At G X nL Q (pc + 3) L (.int x :: st) S) : At G X nL Q pc L st S := fun ls H locs hl hP hS => lv_sipush C.1 C.2.1 d hv (kk ls H locs hl hP hS)
theorem at_lconst (C : Cx G X own cc nL lv rt) {n : Fin 2} {x : Int64} (d : decode cc pc = .ok (.lconst n, 1)) (hv : Int64.ofNat (n : Nat) = x) (kk : At G X nL Q (pc + 1) L (.long x :: st) S) : At G X nL Q pc L st S := fun ls H locs hl hP hS => lv_lconst C.1 C.2.1 d hv (kk ls H locs hl hP hS)
theorem at_ldc (C : Cx G X own cc nL lv rt) {i : Nat} {x : Int32} (hw : Cond.constant own i x ∈ gw) (d : decode cc pc = .ok (.ldc i, 2)) (kk : At G X nL Q (pc + 2) L (.int x :: st) S) : At G X nL Q pc L st S := fun ls H locs hl hP hS => lv_ldc C.1 C.2.1 C.2.2.2.1 (C.2.2.2.2.1 _ hw) d (kk ls H locs hl hP hS)
theorem at_ldc2 (C : Cx G X own cc nL lv rt) {i : Nat} {x : Int64} (hw : Cond.constantLong own i x ∈ gw) (d : decode cc pc = .ok (.ldc2_w i, 3)) (kk : At G X nL Q (pc + 3) L (.long x :: st) S) : At G X nL Q pc L st S := fun ls H locs hl hP hS => lv_ldc2 C.1 C.2.1 C.2.2.2.1 (C.2.2.2.2.1 _ hw) d (kk ls H locs hl hP hS)
theorem at_iload_n (C : Cx G X own cc nL lv rt) {k : Fin 4} {i j : Nat} {x : Int32} (d : decode cc pc = .ok (.iload_n k, 1)) (hi : (k : Nat) = i) (hj : L[j]? = some (i, .int x)) (kk : At G X nL Q (pc + 1) L (.int x :: st) S) : At G X nL Q pc L st S := fun ls H locs hl hP hS => lv_iload_n C.1 C.2.1 d hi (lv_at hl j hj) (kk ls H locs hl hP hS)
theorem at_iload (C : Cx G X own cc nL lv rt) {i j : Nat} {x : Int32} (d : decode cc pc = .ok (.iload i, 2)) (hj : L[j]? = some (i, .int x)) (kk : At G X nL Q (pc + 2) L (.int x :: st) S) : At G X nL Q pc L st S := fun ls H locs hl hP hS => lv_iload C.1 C.2.1 d (lv_at hl j hj) (kk ls H locs hl hP hS)
theorem at_lload_n (C : Cx G X own cc nL lv rt) {k : Fin 4} {i j : Nat} {x : Int64} (d : decode cc pc = .ok (.lload_n k, 1)) (hi : (k : Nat) = i) (hj : L[j]? = some (i, .long x)) (kk : At G X nL Q (pc + 1) L (.long x :: st) S) : At G X nL Q pc L st S := fun ls H locs hl hP hS => lv_lload_n C.1 C.2.1 d hi (lv_at hl j hj) (kk ls H locs hl hP hS)
theorem at_lload (C : Cx G X own cc nL lv rt) {i j : Nat} {x : Int64} (d : decode cc pc = .ok (.lload i, 2)) (hj : L[j]? = some (i, .long x)) (kk : At G X nL Q (pc + 2) L (.long x :: st) S) : At G X nL Q pc L st S := fun ls H locs hl hP hS => lv_lload C.1 C.2.1 d (lv_at hl j hj) (kk ls H locs hl hP hS)
theorem at_aload_n (C : Cx G X own cc nL lv rt) {k : Fin 4} {i j : Nat} {x : Nat} (d : decode cc pc = .ok (.aload_n k, 1)) (hi : (k : Nat) = i) (hj : L[j]? = some (i, .ref x)) (kk : At G X nL Q (pc + 1) L (.ref x :: st) S) : At G X nL Q pc L st S := fun ls H locs hl hP hS => lv_aload_n C.1 C.2.1 d hi (lv_at hl j hj) (kk ls H locs hl hP hS)
theorem at_istore_n (C : Cx G X own cc nL lv rt) {k : Fin 4} {i : Nat} {x : Int32} (d : decode cc pc = .ok (.istore_n k, 1)) (hi : (k : Nat) = i) (hn : i < nL) (hL : (i, Value.int x) :: L.filter (fun q => !(q.1 == i) && !(q.1 + 1 == i && q.2.category == 2)) = L') (kk : At G X nL Q (pc + 1) L' st S) : At G X nL Q pc L (.int x :: st) S := fun _ H locs hl hP hS => lv_istore_n C.1 C.2.1 d hi hl hn hL (fun ls' h' => kk ls' H locs h' hP hS)
theorem at_istore (C : Cx G X own cc nL lv rt) {i : Nat} {x : Int32} (d : decode cc pc = .ok (.istore i, 2)) (hn : i < nL) (hL : (i, Value.int x) :: L.filter (fun q => !(q.1 == i) && !(q.1 + 1 == i && q.2.category == 2)) = L') (kk : At G X nL Q (pc + 2) L' st S) : At G X nL Q pc L (.int x :: st) S := fun _ H locs hl hP hS => lv_istore C.1 C.2.1 d hl hn hL (fun ls' h' => kk ls' H locs h' hP hS)
theorem at_lstore_n (C : Cx G X own cc nL lv rt) {k : Fin 4} {i : Nat} {x : Int64} (d : decode cc pc = .ok (.lstore_n k, 1)) (hi : (k : Nat) = i) (hn : i + 1 < nL) (hL : (i, Value.long x) :: L.filter (fun q => !(q.1 == i) && (!(q.1 == i + 1) && !(q.1 + 1 == i && q.2.category == 2))) = L') (kk : At G X nL Q (pc + 1) L' st S) : At G X nL Q pc L (.long x :: st) S := fun _ H locs hl hP hS => lv_lstore_n C.1 C.2.1 d hi hl hn hL (fun ls' h' => kk ls' H locs h' hP hS)
theorem at_lstore (C : Cx G X own cc nL lv rt) {i : Nat} {x : Int64} (d : decode cc pc = .ok (.lstore i, 2)) (hn : i + 1 < nL) (hL : (i, Value.long x) :: L.filter (fun q => !(q.1 == i) && (!(q.1 == i + 1) && !(q.1 + 1 == i && q.2.category == 2))) = L') (kk : At G X nL Q (pc + 2) L' st S) : At G X nL Q pc L (.long x :: st) S := fun _ H locs hl hP hS => lv_lstore C.1 C.2.1 d hl hn hL (fun ls' h' => kk ls' H locs h' hP hS)
theorem at_iinc (C : Cx G X own cc nL lv rt) {i j : Nat} {n : Int} {x c : Int32} (d : decode cc pc = .ok (.iinc i n, 3)) (hj : L[j]? = some (i, .int x)) (hv : Int32.ofInt n = c) (hn : i < nL) (hL : (i, Value.int (x + c)) :: L.filter (fun q => !(q.1 == i) && !(q.1 + 1 == i && q.2.category == 2)) = L') (kk : At G X nL Q (pc + 3) L' st S) : At G X nL Q pc L st S := fun _ H locs hl hP hS => lv_iinc C.1 C.2.1 d hl hj (congrArg (fun z => x + z) hv) hn hL (fun ls' h' => kk ls' H locs h' hP hS)
theorem at_iadd (C : Cx G X own cc nL lv rt) {x y : Int32} (d : decode cc pc = .ok (.iadd, 1)) (kk : At G X nL Q (pc + 1) L (.int (x + y) :: st) S) : At G X nL Q pc L (.int y :: .int x :: st) S := fun ls H locs hl hP hS => lv_iadd C.1 C.2.1 d (kk ls H locs hl hP hS)
theorem at_isub (C : Cx G X own cc nL lv rt) {x y : Int32} (d : decode cc pc = .ok (.isub, 1)) (kk : At G X nL Q (pc + 1) L (.int (x - y) :: st) S) : At G X nL Q pc L (.int y :: .int x :: st) S := fun ls H locs hl hP hS => lv_isub C.1 C.2.1 d (kk ls H locs hl hP hS)
theorem at_imul (C : Cx G X own cc nL lv rt) {x y : Int32} (d : decode cc pc = .ok (.imul, 1)) (kk : At G X nL Q (pc + 1) L (.int (x * y) :: st) S) : At G X nL Q pc L (.int y :: .int x :: st) S := fun ls H locs hl hP hS => lv_imul C.1 C.2.1 d (kk ls H locs hl hP hS)
theorem at_iand (C : Cx G X own cc nL lv rt) {x y : Int32} (d : decode cc pc = .ok (.iand, 1)) (kk : At G X nL Q (pc + 1) L (.int (x &&& y) :: st) S) : At G X nL Q pc L (.int y :: .int x :: st) S := fun ls H locs hl hP hS => lv_iand C.1 C.2.1 d (kk ls H locs hl hP hS)
theorem at_ior (C : Cx G X own cc nL lv rt) {x y : Int32} (d : decode cc pc = .ok (.ior, 1)) (kk : At G X nL Q (pc + 1) L (.int (x ||| y) :: st) S) : At G X nL Q pc L (.int y :: .int x :: st) S := fun ls H locs hl hP hS => lv_ior C.1 C.2.1 d (kk ls H locs hl hP hS)
theorem at_ishl (C : Cx G X own cc nL lv rt) {x y : Int32} (d : decode cc pc = .ok (.ishl, 1)) (kk : At G X nL Q (pc + 1) L (.int (x <<< (y &&& 31)) :: st) S) : At G X nL Q pc L (.int y :: .int x :: st) S := fun ls H locs hl hP hS => lv_ishl C.1 C.2.1 d (kk ls H locs hl hP hS)
theorem at_ishr (C : Cx G X own cc nL lv rt) {x y : Int32} (d : decode cc pc = .ok (.ishr, 1)) (kk : At G X nL Q (pc + 1) L (.int (x >>> (y &&& 31)) :: st) S) : At G X nL Q pc L (.int y :: .int x :: st) S := fun ls H locs hl hP hS => lv_ishr C.1 C.2.1 d (kk ls H locs hl hP hS)
theorem at_idiv (C : Cx G X own cc nL lv rt) {x y : Int32} (d : decode cc pc = .ok (.idiv, 1)) (hne : nz y = true) (kk : At G X nL Q (pc + 1) L (.int (x / y) :: st) S) : At G X nL Q pc L (.int y :: .int x :: st) S := fun ls H locs hl hP hS => lv_idiv C.1 C.2.1 d (nz_ne hne) (kk ls H locs hl hP hS)
theorem at_irem (C : Cx G X own cc nL lv rt) {x y : Int32} (d : decode cc pc = .ok (.irem, 1)) (hne : nz y = true) (kk : At G X nL Q (pc + 1) L (.int (x - x / y * y) :: st) S) : At G X nL Q pc L (.int y :: .int x :: st) S := fun ls H locs hl hP hS => lv_irem C.1 C.2.1 d (nz_ne hne) (kk ls H locs hl hP hS)
theorem at_ladd (C : Cx G X own cc nL lv rt) {x y : Int64} (d : decode cc pc = .ok (.ladd, 1)) (kk : At G X nL Q (pc + 1) L (.long (x + y) :: st) S) : At G X nL Q pc L (.long y :: .long x :: st) S := fun ls H locs hl hP hS => lv_ladd C.1 C.2.1 d (kk ls H locs hl hP hS)
theorem at_lsub (C : Cx G X own cc nL lv rt) {x y : Int64} (d : decode cc pc = .ok (.lsub, 1)) (kk : At G X nL Q (pc + 1) L (.long (x - y) :: st) S) : At G X nL Q pc L (.long y :: .long x :: st) S := fun ls H locs hl hP hS => lv_lsub C.1 C.2.1 d (kk ls H locs hl hP hS)
theorem at_lmul (C : Cx G X own cc nL lv rt) {x y : Int64} (d : decode cc pc = .ok (.lmul, 1)) (kk : At G X nL Q (pc + 1) L (.long (x * y) :: st) S) : At G X nL Q pc L (.long y :: .long x :: st) S := fun ls H locs hl hP hS => lv_lmul C.1 C.2.1 d (kk ls H locs hl hP hS)
theorem at_ldiv (C : Cx G X own cc nL lv rt) {x y : Int64} (d : decode cc pc = .ok (.ldiv, 1)) (hne : nzL y = true) (kk : At G X nL Q (pc + 1) L (.long (x / y) :: st) S) : At G X nL Q pc L (.long y :: .long x :: st) S := fun ls H locs hl hP hS => lv_ldiv C.1 C.2.1 d (nzL_ne hne) (kk ls H locs hl hP hS)
theorem at_lrem (C : Cx G X own cc nL lv rt) {x y : Int64} (d : decode cc pc = .ok (.lrem, 1)) (hne : nzL y = true) (kk : At G X nL Q (pc + 1) L (.long (x - x / y * y) :: st) S) : At G X nL Q pc L (.long y :: .long x :: st) S := fun ls H locs hl hP hS => lv_lrem C.1 C.2.1 d (nzL_ne hne) (kk ls H locs hl hP hS)
theorem at_i2l (C : Cx G X own cc nL lv rt) {x : Int32} (d : decode cc pc = .ok (.i2l, 1)) (kk : At G X nL Q (pc + 1) L (.long (x.toInt64) :: st) S) : At G X nL Q pc L (.int x :: st) S := fun ls H locs hl hP hS => lv_i2l C.1 C.2.1 d rfl (kk ls H locs hl hP hS)
theorem at_l2i (C : Cx G X own cc nL lv rt) {x : Int64} (d : decode cc pc = .ok (.l2i, 1)) (kk : At G X nL Q (pc + 1) L (.int (x.toInt32) :: st) S) : At G X nL Q pc L (.long x :: st) S := fun ls H locs hl hP hS => lv_l2i C.1 C.2.1 d rfl (kk ls H locs hl hP hS)
theorem at_i2b (C : Cx G X own cc nL lv rt) {x : Int32} (d : decode cc pc = .ok (.i2b, 1)) (kk : At G X nL Q (pc + 1) L (.int (x.toInt8.toInt32) :: st) S) : At G X nL Q pc L (.int x :: st) S := fun ls H locs hl hP hS => lv_i2b C.1 C.2.1 d rfl (kk ls H locs hl hP hS)
theorem at_lcmp (C : Cx G X own cc nL lv rt) {x y : Int64} (d : decode cc pc = .ok (.lcmp, 1)) (kk : At G X nL Q (pc + 1) L (.int (lg_cmp x y) :: st) S) : At G X nL Q pc L (.long y :: .long x :: st) S := fun ls H locs hl hP hS => W.lcmp C.1 C.2.1 d (kk ls H locs hl hP hS)
theorem at_dup (C : Cx G X own cc nL lv rt) {a : Value} (d : decode cc pc = .ok (.dup, 1)) (h : a.category = 1) (kk : At G X nL Q (pc + 1) L (a :: a :: st) S) : At G X nL Q pc L (a :: st) S := fun ls H locs hl hP hS => lv_dup C.1 C.2.1 d h (kk ls H locs hl hP hS)
theorem at_pop (C : Cx G X own cc nL lv rt) {a : Value} (d : decode cc pc = .ok (.pop, 1)) (h : a.category = 1) (kk : At G X nL Q (pc + 1) L st S) : At G X nL Q pc L (a :: st) S := fun ls H locs hl hP hS => lv_pop C.1 C.2.1 d h (kk ls H locs hl hP hS)
theorem at_dup2 (C : Cx G X own cc nL lv rt) {a b : Value} (d : decode cc pc = .ok (.dup2, 1)) (h : a.category = 1) (h2 : b.category = 1) (kk : At G X nL Q (pc + 1) L (a :: b :: a :: b :: st) S) : At G X nL Q pc L (a :: b :: st) S := fun ls H locs hl hP hS => lv_dup2_11 C.1 C.2.1 d h h2 (kk ls H locs hl hP hS)
theorem at_if_eq (C : Cx G X own cc nL lv rt) {x : Int32} {off : Int} {tgt : Nat} (d : decode cc pc = .ok (.ifCond .eq off, 3)) (ht : (pc : Int) + off = (tgt : Int)) (kt : x = 0 → At G X nL Q tgt L st S) (kf : ¬ x = 0 → At G X nL Q (pc + 3) L st S) : At G X nL Q pc L (.int x :: st) S := fun ls H locs hl hP hS => lv_if_eq C.1 C.2.1 d ht (fun h => kt h ls H locs hl hP hS) (fun h => kf h ls H locs hl hP hS)
theorem at_icmp_eq (C : Cx G X own cc nL lv rt) {x y : Int32} {off : Int} {tgt : Nat} (d : decode cc pc = .ok (.if_icmp .eq off, 3)) (ht : (pc : Int) + off = (tgt : Int)) (kt : x = y → At G X nL Q tgt L st S) (kf : ¬ x = y → At G X nL Q (pc + 3) L st S) : At G X nL Q pc L (.int y :: .int x :: st) S := fun ls H locs hl hP hS => lv_icmp_eq C.1 C.2.1 d ht (fun h => kt h ls H locs hl hP hS) (fun h => kf h ls H locs hl hP hS)
theorem at_if_ne (C : Cx G X own cc nL lv rt) {x : Int32} {off : Int} {tgt : Nat} (d : decode cc pc = .ok (.ifCond .ne off, 3)) (ht : (pc : Int) + off = (tgt : Int)) (kt : ¬ x = 0 → At G X nL Q tgt L st S) (kf : x = 0 → At G X nL Q (pc + 3) L st S) : At G X nL Q pc L (.int x :: st) S := fun ls H locs hl hP hS => lv_if_ne C.1 C.2.1 d ht (fun h => kt h ls H locs hl hP hS) (fun h => kf h ls H locs hl hP hS)
theorem at_icmp_ne (C : Cx G X own cc nL lv rt) {x y : Int32} {off : Int} {tgt : Nat} (d : decode cc pc = .ok (.if_icmp .ne off, 3)) (ht : (pc : Int) + off = (tgt : Int)) (kt : ¬ x = y → At G X nL Q tgt L st S) (kf : x = y → At G X nL Q (pc + 3) L st S) : At G X nL Q pc L (.int y :: .int x :: st) S := fun ls H locs hl hP hS => lv_icmp_ne C.1 C.2.1 d ht (fun h => kt h ls H locs hl hP hS) (fun h => kf h ls H locs hl hP hS)
theorem at_if_lt (C : Cx G X own cc nL lv rt) {x : Int32} {off : Int} {tgt : Nat} (d : decode cc pc = .ok (.ifCond .lt off, 3)) (ht : (pc : Int) + off = (tgt : Int)) (kt : x < 0 → At G X nL Q tgt L st S) (kf : ¬ x < 0 → At G X nL Q (pc + 3) L st S) : At G X nL Q pc L (.int x :: st) S := fun ls H locs hl hP hS => lv_if_lt C.1 C.2.1 d ht (fun h => kt h ls H locs hl hP hS) (fun h => kf h ls H locs hl hP hS)
theorem at_icmp_lt (C : Cx G X own cc nL lv rt) {x y : Int32} {off : Int} {tgt : Nat} (d : decode cc pc = .ok (.if_icmp .lt off, 3)) (ht : (pc : Int) + off = (tgt : Int)) (kt : x < y → At G X nL Q tgt L st S) (kf : ¬ x < y → At G X nL Q (pc + 3) L st S) : At G X nL Q pc L (.int y :: .int x :: st) S := fun ls H locs hl hP hS => lv_icmp_lt C.1 C.2.1 d ht (fun h => kt h ls H locs hl hP hS) (fun h => kf h ls H locs hl hP hS)
theorem at_if_ge (C : Cx G X own cc nL lv rt) {x : Int32} {off : Int} {tgt : Nat} (d : decode cc pc = .ok (.ifCond .ge off, 3)) (ht : (pc : Int) + off = (tgt : Int)) (kt : 0 ≤ x → At G X nL Q tgt L st S) (kf : ¬ 0 ≤ x → At G X nL Q (pc + 3) L st S) : At G X nL Q pc L (.int x :: st) S := fun ls H locs hl hP hS => lv_if_ge C.1 C.2.1 d ht (fun h => kt h ls H locs hl hP hS) (fun h => kf h ls H locs hl hP hS)
theorem at_icmp_ge (C : Cx G X own cc nL lv rt) {x y : Int32} {off : Int} {tgt : Nat} (d : decode cc pc = .ok (.if_icmp .ge off, 3)) (ht : (pc : Int) + off = (tgt : Int)) (kt : y ≤ x → At G X nL Q tgt L st S) (kf : ¬ y ≤ x → At G X nL Q (pc + 3) L st S) : At G X nL Q pc L (.int y :: .int x :: st) S := fun ls H locs hl hP hS => lv_icmp_ge C.1 C.2.1 d ht (fun h => kt h ls H locs hl hP hS) (fun h => kf h ls H locs hl hP hS)
theorem at_if_gt (C : Cx G X own cc nL lv rt) {x : Int32} {off : Int} {tgt : Nat} (d : decode cc pc = .ok (.ifCond .gt off, 3)) (ht : (pc : Int) + off = (tgt : Int)) (kt : 0 < x → At G X nL Q tgt L st S) (kf : ¬ 0 < x → At G X nL Q (pc + 3) L st S) : At G X nL Q pc L (.int x :: st) S := fun ls H locs hl hP hS => lv_if_gt C.1 C.2.1 d ht (fun h => kt h ls H locs hl hP hS) (fun h => kf h ls H locs hl hP hS)
theorem at_icmp_gt (C : Cx G X own cc nL lv rt) {x y : Int32} {off : Int} {tgt : Nat} (d : decode cc pc = .ok (.if_icmp .gt off, 3)) (ht : (pc : Int) + off = (tgt : Int)) (kt : y < x → At G X nL Q tgt L st S) (kf : ¬ y < x → At G X nL Q (pc + 3) L st S) : At G X nL Q pc L (.int y :: .int x :: st) S := fun ls H locs hl hP hS => lv_icmp_gt C.1 C.2.1 d ht (fun h => kt h ls H locs hl hP hS) (fun h => kf h ls H locs hl hP hS)
theorem at_if_le (C : Cx G X own cc nL lv rt) {x : Int32} {off : Int} {tgt : Nat} (d : decode cc pc = .ok (.ifCond .le off, 3)) (ht : (pc : Int) + off = (tgt : Int)) (kt : x ≤ 0 → At G X nL Q tgt L st S) (kf : ¬ x ≤ 0 → At G X nL Q (pc + 3) L st S) : At G X nL Q pc L (.int x :: st) S := fun ls H locs hl hP hS => lv_if_le C.1 C.2.1 d ht (fun h => kt h ls H locs hl hP hS) (fun h => kf h ls H locs hl hP hS)
theorem at_icmp_le (C : Cx G X own cc nL lv rt) {x y : Int32} {off : Int} {tgt : Nat} (d : decode cc pc = .ok (.if_icmp .le off, 3)) (ht : (pc : Int) + off = (tgt : Int)) (kt : x ≤ y → At G X nL Q tgt L st S) (kf : ¬ x ≤ y → At G X nL Q (pc + 3) L st S) : At G X nL Q pc L (.int y :: .int x :: st) S := fun ls H locs hl hP hS => lv_icmp_le C.1 C.2.1 d ht (fun h => kt h ls H locs hl hP hS) (fun h => kf h ls H locs hl hP hS)
theorem at_goto (C : Cx G X own cc nL lv rt) {off : Int} {tgt : Nat} (d : decode cc pc = .ok (.goto off, 3)) (ht : (pc : Int) + off = (tgt : Int)) (kk : At G X nL Q tgt L st S) : At G X nL Q pc L st S := fun ls H locs hl hP hS => lv_goto C.1 C.2.1 d ht (kk ls H locs hl hP hS)
theorem at_tin (C : Cx G X own cc nL lv rt) {dflt lo hi : Int} {offs : Array Int} {len : Nat} {x : Int32} {off : Int} {tgt : Nat} (c : Int32) (hx : x = c) (d : decode cc pc = .ok (.tableswitch dflt lo hi offs, len)) (h1 : ¬ c.toInt < lo) (h2 : ¬ hi < c.toInt) (ho : offs[(c.toInt - lo).toNat]? = some off) (ht : (pc : Int) + off = (tgt : Int)) (kk : At G X nL Q tgt L st S) : At G X nL Q pc L (.int x :: st) S := by
  subst hx
  exact fun ls H locs hl hP hS => lv_tableIn C.1 C.2.1 d h1 h2 ho ht (kk ls H locs hl hP hS)
theorem at_tout (C : Cx G X own cc nL lv rt) {dflt lo hi : Int} {offs : Array Int} {len : Nat} {x : Int32} {tgt : Nat} (d : decode cc pc = .ok (.tableswitch dflt lo hi offs, len)) (h : x.toInt < lo ∨ hi < x.toInt) (ht : (pc : Int) + dflt = (tgt : Int)) (kk : At G X nL Q tgt L st S) : At G X nL Q pc L (.int x :: st) S := fun ls H locs hl hP hS => lv_tableOut C.1 C.2.1 d h ht (kk ls H locs hl hP hS)
theorem at_lsw (C : Cx G X own cc nL lv rt) {dflt : Int} {ps : Array (Int × Int)} {len : Nat} {x : Int32} {off : Int} {tgt : Nat} (d : decode cc pc = .ok (.lookupswitch dflt ps, len)) (hp : (ps.toList.zip (ps.toList.drop 1)).all (fun (a, next) => a.1 < next.1) = true) (ho : Op.lookupswitch.offset ps.toList dflt x.toInt = off) (ht : (pc : Int) + off = (tgt : Int)) (kk : At G X nL Q tgt L st S) : At G X nL Q pc L (.int x :: st) S := fun ls H locs hl hP hS => lv_lookup C.1 C.2.1 d hp ho ht (kk ls H locs hl hP hS)
/-- the answer: an int of a method that answers one -/
theorem at_iret (C : Cx G X own cc nL lv (some .int)) {x : Int32} (d : decode cc pc = .ok (.ireturn, 1)) : At G X nL (MQ (xb X) (Qw G (some (.int x)) S) (xa X) (xs X) (xk X) (xz X) (Aw G)) pc L [.int x] S := fun _ _ _ _ hP hS => W.iret C.1 C.2.1 C.2.2.2.2.2.2.2.1 (fun _ ht _ => ⟨rfl, by rw [ht]; exact hP, hS.F ht⟩) hS.2.2 d C.2.2.2.2.2.2.2.2.1
theorem at_zret {ty : FieldType} (C : Cx G X own cc nL lv (some ty)) {x : Int32} (hz : narrow ty (.int x) = .int x) (d : decode cc pc = .ok (.ireturn, 1)) : At G X nL (MQ (xb X) (Qw G (some (.int x)) S) (xa X) (xs X) (xk X) (xz X) (Aw G)) pc L [.int x] S := fun _ _ _ _ hP hS => W.zret C.1 C.2.1 C.2.2.2.2.2.2.2.1 hz (fun _ ht _ => ⟨rfl, by rw [ht]; exact hP, hS.F ht⟩) hS.2.2 d C.2.2.2.2.2.2.2.2.1
theorem at_lret (C : Cx G X own cc nL lv (some .long)) {x : Int64} (d : decode cc pc = .ok (.lreturn, 1)) : At G X nL (MQ (xb X) (Qw G (some (.long x)) S) (xa X) (xs X) (xk X) (xz X) (Aw G)) pc L [.long x] S := fun _ _ _ _ hP hS => W.lret C.1 C.2.1 C.2.2.2.2.2.2.2.1 (fun _ ht _ => ⟨rfl, by rw [ht]; exact hP, hS.F ht⟩) hS.2.2 d C.2.2.2.2.2.2.2.2.1
theorem at_vret (C : Cx G X own cc nL lv none) (d : decode cc pc = .ok (.return_, 1)) : At G X nL (MQ (xb X) (Qw G none S) (xa X) (xs X) (xk X) (xz X) (Aw G)) pc L [] S := fun _ _ _ _ hP hS => W.vret C.1 C.2.1 C.2.2.2.2.2.2.2.1 (fun _ ht _ => ⟨rfl, by rw [ht]; exact hP, hS.F ht⟩) hS.2.2 d C.2.2.2.2.2.2.2.2.1
theorem at_aret {t : FieldType} (C : Cx G X own cc nL lv (some (.array t))) {x : Nat} (d : decode cc pc = .ok (.areturn, 1)) : At G X nL (MQ (xb X) (Qw G (some (.ref x)) S) (xa X) (xs X) (xk X) (xz X) (Aw G)) pc L [.ref x] S := fun _ _ _ _ hP hS => W.aret C.1 C.2.1 C.2.2.2.2.2.2.2.1 (Or.inr ⟨t, rfl⟩) (Or.inr ⟨x, rfl⟩) (fun _ ht _ => ⟨rfl, by rw [ht]; exact hP, hS.F ht⟩) hS.2.2 d C.2.2.2.2.2.2.2.2.1
/-- another name of the state -/
theorem at_st {S1 : ST} (h : S = S1) (kk : At G X nL Q pc L st S1) : At G X nL Q pc L st S := by
  subst h
  exact kk
/-- fields -/
theorem at_get (C : Cx G X own cc nL lv rt) (q ci k : Nat) {fs : List Value} {T : u_T} {N index a : Nat} {cn : String} {w : Value} (he : (wld G S)[q]? = some (a, .inr (ci, fs))) (hc : cls[ci]? = some (cn, T, N)) (hk : k < N) (hin : ∀ w ∈ u_ws cn T N, w ∈ gw) (hlink : Cond.fieldLink own index (T k).1 (T k).2.1 (T k).2.2.1 ∈ gw) (hv : fs[k]? = some w) (d : decode cc pc = .ok (.getfield index, 3)) (kk : At G X nL Q (pc + 3) L (w :: st) S) : At G X nL Q pc L (.ref a :: st) S :=
  fun ls H locs hl hP hS => va_get (D := G.1) (cl := cls) (tys := tys G) (ws := wld G S) (C := cn) (T := T) (N := N) C.1 C.2.1 C.2.2.2.2.1 hin C.2.2.2.1 C.2.2.2.2.2.1.1 hP q he hc k hk (C.2.2.2.2.1 _ hlink) (fun _ h => h) hv d (kk ls H locs hl hP hS)
theorem at_put (C : Cx G X own cc nL lv rt) (q ci k : Nat) {fs : List Value} {T : u_T} {N index a : Nat} {cn : String} {w : Value} {ty : FieldType} {S1 : ST} (he : (wld G S)[q]? = some (a, .inr (ci, fs))) (hc : cls[ci]? = some (cn, T, N)) (hk : k < N) (hin : ∀ w ∈ u_ws cn T N, w ∈ gw) (ty0 : Nat → FieldType) (hty : ∀ k, k < N → parseFieldDescriptor (T k).2.2.1 = some (ty0 k)) (hnm : ∀ a, a < N → ∀ b, b < N → a ≠ b → (T a).2.1 ≠ (T b).2.1) (hlink : Cond.fieldLink own index (T k).1 (T k).2.1 (T k).2.2.1 ∈ gw) (hfin : (T k).2.2.2 = false) (hd : ty0 k = ty) (hn : narrow ty w = w) (hfit : fits ty w = true) (hl : k < fs.length) (hset : (wld G S).set q (a, .inr (ci, fs.set k w)) = wld G S1) (d : decode cc pc = .ok (.putfield index, 3)) (kk : At G X nL Q (pc + 3) L st S1) : At G X nL Q pc L (w :: .ref a :: st) S :=
  fun ls H locs hll hP hS => va_put (D := G.1) (cl := cls) (tys := tys G) (ws := wld G S) (C := cn) (T := T) (N := N) C.1 C.2.1 C.2.2.2.2.1 hin ty0 hty hnm C.2.2.2.1 C.2.2.2.2.2.1.1 hP (wld_D C.2.2.2.2.2.2.1 S) hS q he hc k hk (C.2.2.2.2.1 _ hlink) (fun _ h => h) hfin (by rw [hty k hk, hd]) hn hfit hl d (fun H1 locs1 hP1 _ hS1 => kk ls H1 locs1 hll (by rw [← hset]; exact hP1) hS1)
/-- arrays -/
theorem at_iald (C : Cx G X own cc nL lv rt) (q : Nat) {n a : Nat} {f : Nat → Int32} {i : Int32} (ha : (wld G S)[q]? = some (a, .inl (cy G 0, n, .inl f))) (hi : inb i n = true) (d : decode cc pc = .ok (.iaload, 1)) (kk : At G X nL Q (pc + 1) L (.int (f i.toNatClampNeg) :: st) S) : At G X nL Q pc L (.int i :: .ref a :: st) S :=
  fun ls H locs hl hP hS => va_iald (tys := tys G) C.1 C.2.1 C.2.2.2.2.2.1.1 hP q 0 ha rfl (inb_in hi) d (kk ls H locs hl hP hS)
theorem at_bald (C : Cx G X own cc nL lv rt) (q : Nat) {n a : Nat} {f : Nat → Int32} {i : Int32} (ha : (wld G S)[q]? = some (a, .inl (cy G 1, n, .inl f))) (hi : inb i n = true) (d : decode cc pc = .ok (.baload, 1)) (kk : At G X nL Q (pc + 1) L (.int (f i.toNatClampNeg) :: st) S) : At G X nL Q pc L (.int i :: .ref a :: st) S :=
  fun ls H locs hl hP hS => va_bald (tys := tys G) C.1 C.2.1 C.2.2.2.2.2.1.1 hP q 1 ha rfl (inb_in hi) d (kk ls H locs hl hP hS)
theorem at_zald (C : Cx G X own cc nL lv rt) (q : Nat) {n a : Nat} {f : Nat → Int32} {i : Int32} (ha : (wld G S)[q]? = some (a, .inl (cy G 3, n, .inl f))) (hi : inb i n = true) (d : decode cc pc = .ok (.baload, 1)) (kk : At G X nL Q (pc + 1) L (.int (f i.toNatClampNeg) :: st) S) : At G X nL Q pc L (.int i :: .ref a :: st) S :=
  fun ls H locs hl hP hS => va_zald (tys := tys G) C.1 C.2.1 C.2.2.2.2.2.1.1 hP q 3 ha rfl (inb_in hi) d (kk ls H locs hl hP hS)
theorem at_lald (C : Cx G X own cc nL lv rt) (q : Nat) {n a : Nat} {f : Nat → Int64} {i : Int32} (ha : (wld G S)[q]? = some (a, .inl (cy G 2, n, .inr (.inl f)))) (hi : inb i n = true) (d : decode cc pc = .ok (.laload, 1)) (kk : At G X nL Q (pc + 1) L (.long (f i.toNatClampNeg) :: st) S) : At G X nL Q pc L (.int i :: .ref a :: st) S :=
  fun ls H locs hl hP hS => va_lald (tys := tys G) C.1 C.2.1 C.2.2.2.2.2.1.1 hP q 2 ha rfl (inb_in hi) d (kk ls H locs hl hP hS)
theorem at_aald (C : Cx G X own cc nL lv rt) (q : Nat) {n a b : Nat} {f : Nat → Option Nat} {i : Int32} (ha : (wld G S)[q]? = some (a, .inl (cy G 4, n, .inr (.inr (.inr (.inr f)))))) (hi : inb i n = true) (hf : va_rf (f i.toNatClampNeg) = .ref b) (d : decode cc pc = .ok (.aaload, 1)) (kk : At G X nL Q (pc + 1) L (.ref b :: st) S) : At G X nL Q pc L (.int i :: .ref a :: st) S := by
  intro ls H locs hl hP hS
  have hin := inb_in hi
  have hlt := inb_lt hi
  refine W.aald (v := va_rf (f i.toNatClampNeg)) (ty := .array .int) C.1 C.2.1 (hP q _ ha) ((C.2.2.2.2.2.1.1.2 4 _ rfl).1 n (fun j => va_rf (f j))) rfl (fun q => by cases q) (by show ¬ (i < 0 ∨ (arrV _ _ _).slots.size ≤ _); rw [arrV_size]; exact hin) (by show (arrV _ _ _).slots[_]? = _; rw [arrV_read _ _ hlt]) rfl rfl d ?_
  rw [hf]
  exact kk ls H locs hl hP hS
theorem at_iast (C : Cx G X own cc nL lv rt) (q : Nat) {n a : Nat} {f : Nat → Int32} {i x : Int32} {S1 : ST} (ha : (wld G S)[q]? = some (a, .inl (cy G 0, n, .inl f))) (hi : inb i n = true) (hset : (wld G S).set q (a, .inl (cy G 0, n, .inl (upd f i.toNatClampNeg x))) = wld G S1) (d : decode cc pc = .ok (.iastore, 1)) (kk : At G X nL Q (pc + 1) L st S1) : At G X nL Q pc L (.int x :: .int i :: .ref a :: st) S :=
  fun ls H locs hl hP hS => va_iast (tys := tys G) C.1 C.2.1 C.2.2.2.2.2.1.1 hP (wld_D C.2.2.2.2.2.2.1 S) hS q 0 ha rfl (inb_in hi) d (fun H1 locs1 hP1 _ hS1 => kk ls H1 locs1 hl (by rw [← hset]; exact hP1) hS1)
theorem at_bast (C : Cx G X own cc nL lv rt) (q : Nat) {n a : Nat} {f : Nat → Int32} {i x : Int32} {S1 : ST} (ha : (wld G S)[q]? = some (a, .inl (cy G 1, n, .inl f))) (hi : inb i n = true) (hset : (wld G S).set q (a, .inl (cy G 1, n, .inl (upd f i.toNatClampNeg (vp_nar .byte x)))) = wld G S1) (d : decode cc pc = .ok (.bastore, 1)) (kk : At G X nL Q (pc + 1) L st S1) : At G X nL Q pc L (.int x :: .int i :: .ref a :: st) S :=
  fun ls H locs hl hP hS => va_bast (tys := tys G) C.1 C.2.1 C.2.2.2.2.2.1.1 hP (wld_D C.2.2.2.2.2.2.1 S) hS q 1 ha rfl (inb_in hi) d (fun H1 locs1 hP1 _ hS1 => kk ls H1 locs1 hl (by rw [← hset]; exact hP1) hS1)
theorem at_zast (C : Cx G X own cc nL lv rt) (q : Nat) {n a : Nat} {f : Nat → Int32} {i x : Int32} {S1 : ST} (ha : (wld G S)[q]? = some (a, .inl (cy G 3, n, .inl f))) (hi : inb i n = true) (hset : (wld G S).set q (a, .inl (cy G 3, n, .inl (upd f i.toNatClampNeg (vp_nar .boolean x)))) = wld G S1) (d : decode cc pc = .ok (.bastore, 1)) (kk : At G X nL Q (pc + 1) L st S1) : At G X nL Q pc L (.int x :: .int i :: .ref a :: st) S :=
  fun ls H locs hl hP hS => va_zast (tys := tys G) C.1 C.2.1 C.2.2.2.2.2.1.1 hP (wld_D C.2.2.2.2.2.2.1 S) hS q 3 ha rfl (inb_in hi) d (fun H1 locs1 hP1 _ hS1 => kk ls H1 locs1 hl (by rw [← hset]; exact hP1) hS1)
theorem at_last (C : Cx G X own cc nL lv rt) (q : Nat) {n a : Nat} {f : Nat → Int64} {i : Int32} {x : Int64} {S1 : ST} (ha : (wld G S)[q]? = some (a, .inl (cy G 2, n, .inr (.inl f)))) (hi : inb i n = true) (hset : (wld G S).set q (a, .inl (cy G 2, n, .inr (.inl (vp_updL f i.toNatClampNeg x)))) = wld G S1) (d : decode cc pc = .ok (.lastore, 1)) (kk : At G X nL Q (pc + 1) L st S1) : At G X nL Q pc L (.long x :: .int i :: .ref a :: st) S :=
  fun ls H locs hl hP hS => va_last (tys := tys G) C.1 C.2.1 C.2.2.2.2.2.1.1 hP (wld_D C.2.2.2.2.2.2.1 S) hS q 2 ha rfl (inb_in hi) d (fun H1 locs1 hP1 _ hS1 => kk ls H1 locs1 hl (by rw [← hset]; exact hP1) hS1)
/-- calls: the words -/
def kV (own : String) (idx : Nat) (cn : String) (y : MethodName) (bytes : ByteArray) (mL : Nat) (ret : Option FieldType) (n : Nat) : Prop :=
  Cond.methodLink own idx y ∈ gw ∧ Cond.instanceMethod y ∈ gw ∧ Cond.selects cn y y ∈ gw ∧ Cond.initialized y.cls ∈ gw ∧ Cond.code y bytes mL ret ∈ gw ∧ (y.cls ≠ "java/lang/invoke/MethodHandle" ∧ y.cls ≠ "java/lang/invoke/VarHandle" ∧ (parseMethodDescriptor y.desc).map (fun d => d.parameters.length) = some n) ∧ mL ≤ 40
def kS (own : String) (idx : Nat) (y : MethodName) (bytes : ByteArray) (mL : Nat) (ret : Option FieldType) (n : Nat) : Prop :=
  Cond.methodLink own idx y ∈ gw ∧ Cond.static y ∈ gw ∧ Cond.initialized y.cls ∈ gw ∧ Cond.code y bytes mL ret ∈ gw ∧ (y.cls ≠ "java/lang/invoke/MethodHandle" ∧ y.cls ≠ "java/lang/invoke/VarHandle" ∧ (parseMethodDescriptor y.desc).map (fun d => d.parameters.length) = some n) ∧ mL ≤ 40
def kN (own : String) (idx : Nat) (y : MethodName) (host : String) (bytes : ByteArray) (mL : Nat) (ret : Option FieldType) (n : Nat) : Prop :=
  (own, idx, y, host) ∈ nst ∧ Cond.static y ∈ gw ∧ Cond.initialized y.cls ∈ gw ∧ Cond.code y bytes mL ret ∈ gw ∧ (y.cls ≠ "java/lang/invoke/MethodHandle" ∧ y.cls ≠ "java/lang/invoke/VarHandle" ∧ (parseMethodDescriptor y.desc).map (fun d => d.parameters.length) = some n) ∧ mL ≤ 40
theorem gw_good {y : MethodName} {bytes : ByteArray} {mL : Nat} {ret : Option FieldType} (h : Cond.code y bytes mL ret ∈ gw) : GoodIn gw (.code y bytes mL ret :: gw) := by
  intro w hw
  have hm : w ∈ gw := by
    rcases List.mem_cons.mp hw with rfl | h2
    · exact h
    · exact h2
  exact ⟨hm, good_of_word (List.mem_filter.mp hm).2⟩
theorem at_run {vr : Option Value} {S1 : ST} {st0 : List Value} (a : Array Value) {ls : Array Slot} {H : Heap} {locs : List Loc} (hl : lv_has ls nL L) (hS : va_S (Aw G) (xs X).heap H locs) (hrun : va_Run (xp X) (xl X) (xe X) (xR X) (xs X) (xm X) (xa X) (xb X) (xh X) (xc X) H locs (xk X) (xz X) 0 0 (F0 (xm X) pc ls st0) st (Qw G vr S1 a) (Aw G)) (kk : At G X nL Q (pc + 3) L (vr.toList ++ st) S1) :
    W (xp X) (xl X) (xe X) (xR X) (xs X) (xm X) (xa X) (xb X) (xh X) (xc X) H locs (xk X) (xz X) Q (F0 (xm X) pc ls st0) := by
  intro T hT XX
  obtain ⟨v', st₀, t, T', L', h0, X', hL, e1, e2, ⟨ho, hP1, hz, hk⟩, go⟩ := hrun T hT XX
  cases ho
  rw [h0] at hz hk
  obtain ⟨t2, a1, b1⟩ := kk ls T'.heap (locs ++ L') hl (by rw [e1]; exact hP1) ⟨Nat.le_trans hS.1 (by rw [e1]; exact hz), fun q h1 h2 => by rw [e1, hk q (Nat.lt_of_lt_of_le h1 hS.1) h2]; exact hS.2.1 q h1 h2, fun q hq => by
    rcases List.mem_append.mp hq with h | h
    · exact hS.2.2 q h
    · exact hL q h⟩ T' rfl X'
  exact ⟨t2, go t2 a1, b1⟩
theorem rmm_fit {j mL : Nat} (C : Cx G X own cc nL lv rt) (hj : j < lv) (hm : mL ≤ 40) : (rmm j).frames + 1 ≤ (xR X).frames ∧ 8 + (mL + 11) + (rmm j).locals ≤ (xR X).locals := by
  have h1 := C.2.2.2.2.2.2.2.2.2.1
  have h2 := C.2.2.2.2.2.2.2.2.2.2.1
  show j + 1 ≤ (xR X).frames ∧ 8 + (mL + 11) + 60 * j ≤ (xR X).locals
  omega
theorem at_callV {idx n j mL q ci N : Nat} {cn : String} {y : MethodName} {bytes : ByteArray} {ret : Option FieldType} {vr : Option Value} {S1 : ST} {As st0 : List Value} {fs : List Value} {T : u_T} (C : Cx G X own cc nL lv rt) (hk : kV own idx cn y bytes mL ret n) (hM : Met (xl X) y (.code y bytes mL ret :: gw) (rmm j) (PcW G (.ref (ad G q) :: As) S) (Qw G vr S1) 0 0 (Aw G)) (hj : j < lv) (hr : (wld G S)[q]? = some (ad G q, .inr (ci, fs))) (hc : cls[ci]? = some (cn, T, N)) (hn : As.length = n) (hst : st0 = As.reverse ++ .ref (ad G q) :: st) (hcat : (st.map fun v => v.category).sum ≤ 8) (d : decode cc pc = .ok (.invokevirtual idx, 3)) (kk : At G X nL Q (pc + 3) L (vr.toList ++ st) S1) : At G X nL Q pc L st0 S := by
  intro ls H locs hl hP hS
  obtain ⟨k1, k2, k3, k4, k5, k6, k7⟩ := hk
  have hts := C.2.2.2.2.1
  refine at_run _ hl hS (va_runV (As := As) (C := cn) (cc := cc) (nL := nL) (Ts := gw) (own := own) (n := n) ⟨C.1, C.2.1, C.2.2.1, C.2.2.2.1, hts⟩ hM ⟨callB_of n hts (gw_good k5) rfl rfl rfl (hts _ k4) (hts _ k1) k6 (rmm_fit C hj k7), hts _ k2, hts _ k3⟩ ⟨PcW.blind, va_recv C.2.2.2.2.2.1.1 hP hc hr, fun U hU hW => ⟨rfl, by rw [hU]; exact hP, C.2.2.2.2.2.1.pass hW hU hS⟩⟩ rfl hn hl.1 hst (lv_room hcat) d C.2.2.2.2.2.2.2.2.2.2.2) kk
theorem at_callS {idx n j mL : Nat} {y : MethodName} {bytes : ByteArray} {ret : Option FieldType} {vr : Option Value} {S1 : ST} {As st0 : List Value} (C : Cx G X own cc nL lv rt) (hk : kS own idx y bytes mL ret n) (hM : Met (xl X) y (.code y bytes mL ret :: gw) (rmm j) (PcW G As S) (Qw G vr S1) 0 0 (Aw G)) (hj : j < lv) (hn : As.length = n) (hst : st0 = As.reverse ++ st) (hcat : (st.map fun v => v.category).sum ≤ 8) (d : decode cc pc = .ok (.invokestatic idx, 3)) (kk : At G X nL Q (pc + 3) L (vr.toList ++ st) S1) : At G X nL Q pc L st0 S := by
  intro ls H locs hl hP hS
  obtain ⟨k1, k2, k4, k5, k6, k7⟩ := hk
  have hts := C.2.2.2.2.1
  refine at_run _ hl hS (va_runS (As := As) (cc := cc) (nL := nL) (Ts := gw) (own := own) (n := n) ⟨C.1, C.2.1, C.2.2.1, C.2.2.2.1, hts⟩ hM ⟨callB_of n hts (gw_good k5) rfl rfl rfl (hts _ k4) (hts _ k1) k6 (rmm_fit C hj k7), hts _ k2⟩ ⟨PcW.blind, fun U hU hW => ⟨rfl, by rw [hU]; exact hP, C.2.2.2.2.2.1.pass hW hU hS⟩⟩ rfl hn hl.1 hst (lv_room hcat) d C.2.2.2.2.2.2.2.2.2.2.2) kk
theorem at_callN {idx n j mL : Nat} {host : String} {y : MethodName} {bytes : ByteArray} {ret : Option FieldType} {vr : Option Value} {S1 : ST} {As st0 : List Value} (C : Cx G X own cc nL lv rt) (hk : kN own idx y host bytes mL ret n) (hM : Met (xl X) y (.code y bytes mL ret :: gw) (rmm j) (PcW G As S) (Qw G vr S1) 0 0 (Aw G)) (hj : j < lv) (hn : As.length = n) (hst : st0 = As.reverse ++ st) (hcat : (st.map fun v => v.category).sum ≤ 8) (d : decode cc pc = .ok (.invokestatic idx, 3)) (kk : At G X nL Q (pc + 3) L (vr.toList ++ st) S1) : At G X nL Q pc L st0 S := by
  intro ls H locs hl hP hS
  obtain ⟨k1, k2, k4, k5, k6, k7⟩ := hk
  have hts := C.2.2.2.2.1
  refine at_run _ hl hS (va_runSN (As := As) (cc := cc) (nL := nL) (Ts := gw) (own := own) (n := n) (host := host) ⟨C.1, C.2.1, C.2.2.1, C.2.2.2.1, hts⟩ hM ⟨va_cnB n hts (gw_good k5) rfl rfl rfl (C.2.2.2.2.2.1.2.1 _ k1) (hts _ k4) k6 (rmm_fit C hj k7), hts _ k2, trivial⟩ ⟨PcW.blind, fun U hU hW => ⟨rfl, by rw [hU]; exact hP, C.2.2.2.2.2.1.pass hW hU hS⟩⟩ rfl hn hl.1 hst (lv_room hcat) d C.2.2.2.2.2.2.2.2.2.2.2) kk
end ROWS

