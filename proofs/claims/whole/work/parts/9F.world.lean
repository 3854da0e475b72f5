/-! the law's world, its cells one by one -/
def WLD (g : GG) (a am ao : Nat) (h0 : Nat → Nat) (q : Nat → Nat → Nat) (qn : Nat → Nat → Nat) (qp : Nat → Nat → Nat → Nat) (qm : Nat → Nat) (X : Nat → Nat → Int32) (Y : Nat → Int64) (c : Int64) (P : Nat → Nat → Nat → Int32) (M : Nat → Nat → Int32) (J : Nat → Int64) : va_W := [oX9 a h0 (X 0), oX5 (q 0 0) (q 1) (X 1) c, aI g (q 1 0) 800 (X 2), aJ g (q 1 12) 16 Y, aI g (q 1 13) 16 (X 3), aI g (q 1 14) 16 (X 4), oX1 (q 0 1) (q 5) (X 5), aI g (q 5 4) 7 (X 6), aI g (q 5 5) 7 (X 7), aI g (q 5 6) 7 (X 8), aI g (q 5 7) 7 (X 9), aI g (q 5 10) 8 (X 10), aI g (q 5 11) 8 (X 11), aI g (q 5 12) 8 (X 12), aI g (q 5 14) 4 (X 13), aI g (q 5 15) 4 (X 14), oX7 (q 5 16) (q 15) (X 15), aI g (q 15 1) 5 (X 16), aI g (q 15 2) 5 (X 17), aI g (q 15 4) 6 (X 18), aI g (q 15 5) 6 (X 19), aI g (q 15 6) 6 (X 20), oX1 (q 0 2) (q 21) (X 21), aI g (q 21 4) 7 (X 22), aI g (q 21 5) 7 (X 23), aI g (q 21 6) 7 (X 24), aI g (q 21 7) 7 (X 25), aI g (q 21 10) 8 (X 26), aI g (q 21 11) 8 (X 27), aI g (q 21 12) 8 (X 28), aI g (q 21 14) 4 (X 29), aI g (q 21 15) 4 (X 30), oX7 (q 21 16) (q 31) (X 31), aI g (q 31 1) 5 (X 32), aI g (q 31 2) 5 (X 33), aI g (q 31 4) 6 (X 34), aI g (q 31 5) 6 (X 35), aI g (q 31 6) 6 (X 36), oX2 (q 0 5) (q 37) (X 37), aI g (q 37 6) 7 (X 38), aI g (q 37 7) 7 (X 39), aI g (q 37 8) 7 (X 40), oX2 (q 0 6) (q 41) (X 41), aI g (q 41 6) 7 (X 42), aI g (q 41 7) 7 (X 43), aI g (q 41 8) 7 (X 44), oX3 (q 0 7) (q 45) (X 45), oX3 (q 0 8) (q 46) (X 46), oX4 (q 0 9) (q 47) (X 47), aN g (q 47 0) 16 (qn 0), oX2 (qn 0 0) (qp 0 0) (P 0 0), aI g (qp 0 0 6) 7 (P 1 0), aI g (qp 0 0 7) 7 (P 2 0), aI g (qp 0 0 8) 7 (P 3 0), oX2 (qn 0 1) (qp 0 1) (P 0 1), aI g (qp 0 1 6) 7 (P 1 1), aI g (qp 0 1 7) 7 (P 2 1), aI g (qp 0 1 8) 7 (P 3 1), oX2 (qn 0 2) (qp 0 2) (P 0 2), aI g (qp 0 2 6) 7 (P 1 2), aI g (qp 0 2 7) 7 (P 2 2), aI g (qp 0 2 8) 7 (P 3 2), oX2 (qn 0 3) (qp 0 3) (P 0 3), aI g (qp 0 3 6) 7 (P 1 3), aI g (qp 0 3 7) 7 (P 2 3), aI g (qp 0 3 8) 7 (P 3 3), oX2 (qn 0 4) (qp 0 4) (P 0 4), aI g (qp 0 4 6) 7 (P 1 4), aI g (qp 0 4 7) 7 (P 2 4), aI g (qp 0 4 8) 7 (P 3 4), oX2 (qn 0 5) (qp 0 5) (P 0 5), aI g (qp 0 5 6) 7 (P 1 5), aI g (qp 0 5 7) 7 (P 2 5), aI g (qp 0 5 8) 7 (P 3 5), oX2 (qn 0 6) (qp 0 6) (P 0 6), aI g (qp 0 6 6) 7 (P 1 6), aI g (qp 0 6 7) 7 (P 2 6), aI g (qp 0 6 8) 7 (P 3 6), oX2 (qn 0 7) (qp 0 7) (P 0 7), aI g (qp 0 7 6) 7 (P 1 7), aI g (qp 0 7 7) 7 (P 2 7), aI g (qp 0 7 8) 7 (P 3 7), oX2 (qn 0 8) (qp 0 8) (P 0 8), aI g (qp 0 8 6) 7 (P 1 8), aI g (qp 0 8 7) 7 (P 2 8), aI g (qp 0 8 8) 7 (P 3 8), oX2 (qn 0 9) (qp 0 9) (P 0 9), aI g (qp 0 9 6) 7 (P 1 9), aI g (qp 0 9 7) 7 (P 2 9), aI g (qp 0 9 8) 7 (P 3 9), oX2 (qn 0 10) (qp 0 10) (P 0 10), aI g (qp 0 10 6) 7 (P 1 10), aI g (qp 0 10 7) 7 (P 2 10), aI g (qp 0 10 8) 7 (P 3 10), oX2 (qn 0 11) (qp 0 11) (P 0 11), aI g (qp 0 11 6) 7 (P 1 11), aI g (qp 0 11 7) 7 (P 2 11), aI g (qp 0 11 8) 7 (P 3 11), oX2 (qn 0 12) (qp 0 12) (P 0 12), aI g (qp 0 12 6) 7 (P 1 12), aI g (qp 0 12 7) 7 (P 2 12), aI g (qp 0 12 8) 7 (P 3 12), oX2 (qn 0 13) (qp 0 13) (P 0 13), aI g (qp 0 13 6) 7 (P 1 13), aI g (qp 0 13 7) 7 (P 2 13), aI g (qp 0 13 8) 7 (P 3 13), oX2 (qn 0 14) (qp 0 14) (P 0 14), aI g (qp 0 14 6) 7 (P 1 14), aI g (qp 0 14 7) 7 (P 2 14), aI g (qp 0 14 8) 7 (P 3 14), oX2 (qn 0 15) (qp 0 15) (P 0 15), aI g (qp 0 15 6) 7 (P 1 15), aI g (qp 0 15 7) 7 (P 2 15), aI g (qp 0 15 8) 7 (P 3 15), aN g (q 0 10) 3 (qn 1), oX2 (qn 1 0) (qp 1 0) (P 4 0), aI g (qp 1 0 6) 7 (P 5 0), aI g (qp 1 0 7) 7 (P 6 0), aI g (qp 1 0 8) 7 (P 7 0), oX2 (qn 1 1) (qp 1 1) (P 4 1), aI g (qp 1 1 6) 7 (P 5 1), aI g (qp 1 1 7) 7 (P 6 1), aI g (qp 1 1 8) 7 (P 7 1), oX2 (qn 1 2) (qp 1 2) (P 4 2), aI g (qp 1 2 6) 7 (P 5 2), aI g (qp 1 2 7) 7 (P 6 2), aI g (qp 1 2 8) 7 (P 7 2), oX6 (q 0 12) (q 48) (X 48), aI g (q 48 3) 4 (X 49), aI g (q 48 4) 4 (X 50), aN g (q 48 5) 5 (qn 2), oX2 (qn 2 0) (qp 2 0) (P 8 0), aI g (qp 2 0 6) 7 (P 9 0), aI g (qp 2 0 7) 7 (P 10 0), aI g (qp 2 0 8) 7 (P 11 0), oX2 (qn 2 1) (qp 2 1) (P 8 1), aI g (qp 2 1 6) 7 (P 9 1), aI g (qp 2 1 7) 7 (P 10 1), aI g (qp 2 1 8) 7 (P 11 1), oX2 (qn 2 2) (qp 2 2) (P 8 2), aI g (qp 2 2 6) 7 (P 9 2), aI g (qp 2 2 7) 7 (P 10 2), aI g (qp 2 2 8) 7 (P 11 2), oX2 (qn 2 3) (qp 2 3) (P 8 3), aI g (qp 2 3 6) 7 (P 9 3), aI g (qp 2 3 7) 7 (P 10 3), aI g (qp 2 3 8) 7 (P 11 3), oX2 (qn 2 4) (qp 2 4) (P 8 4), aI g (qp 2 4 6) 7 (P 9 4), aI g (qp 2 4 7) 7 (P 10 4), aI g (qp 2 4 8) 7 (P 11 4), oX2 (q 48 6) (q 51) (X 51), aI g (q 51 6) 7 (X 52), aI g (q 51 7) 7 (X 53), aI g (q 51 8) 7 (X 54), oX0 (q 0 13) (q 55) (X 55), aI g (q 55 2) 7 (X 56), aI g (q 55 3) 5 (X 57), aI g (q 55 4) 7 (X 58), oX2 (q 55 5) (q 59) (X 59), aI g (q 59 6) 7 (X 60), aI g (q 59 7) 7 (X 61), aI g (q 59 8) 7 (X 62), oX8 (q 0 14) (q 63) (X 63), aI g (q 63 3) 218 (X 64), aI g (q 63 4) 31 (X 65), oX2 (q 63 5) (q 66) (X 66), aI g (q 66 6) 7 (X 67), aI g (q 66 7) 7 (X 68), aI g (q 66 8) 7 (X 69), oX2 (q 63 6) (q 70) (X 70), aI g (q 70 6) 7 (X 71), aI g (q 70 7) 7 (X 72), aI g (q 70 8) 7 (X 73), oX10 am qm (M 0), aI g (qm 1) 800 (M 1), aI g (qm 12) 8 (M 12), aI g (qm 15) 266 (M 15), aI g (qm 16) 266 (M 16), aI g (qm 17) 17 (M 17), aI g (qm 18) 272 (M 18), aI g (qm 19) 51 (M 19), aI g (qm 25) 17 (M 25), aI g (qm 26) 4 (M 26), aI g (qm 27) 4 (M 27), aI g (qm 30) 7 (M 30), aI g (qm 31) 7 (M 31), aI g (qm 33) 218 (M 33), aJ g ao 1 J]
section Wld
variable {g : GG} {a am ao : Nat} {h0 : Nat → Nat} {q : Nat → Nat → Nat} {qn : Nat → Nat → Nat} {qp : Nat → Nat → Nat → Nat} {qm : Nat → Nat} {X : Nat → Nat → Int32} {Y : Nat → Int64} {c : Int64} {P : Nat → Nat → Nat → Int32} {M : Nat → Nat → Int32} {J : Nat → Int64}
set_option maxRecDepth 20000 in
theorem WLD_len : (WLD g a am ao h0 q qn qp qm X Y c P M J).length = 189 := rfl
theorem WLD_0 : (WLD g a am ao h0 q qn qp qm X Y c P M J)[0]? = some (oX9 a h0 (X 0)) := rfl
theorem WLD_1 : (WLD g a am ao h0 q qn qp qm X Y c P M J)[1]? = some (oX5 (q 0 0) (q 1) (X 1) c) := rfl
theorem WLD_2 : (WLD g a am ao h0 q qn qp qm X Y c P M J)[2]? = some (aI g (q 1 0) 800 (X 2)) := rfl
theorem WLD_3 : (WLD g a am ao h0 q qn qp qm X Y c P M J)[3]? = some (aJ g (q 1 12) 16 Y) := rfl
theorem WLD_4 : (WLD g a am ao h0 q qn qp qm X Y c P M J)[4]? = some (aI g (q 1 13) 16 (X 3)) := rfl
theorem WLD_5 : (WLD g a am ao h0 q qn qp qm X Y c P M J)[5]? = some (aI g (q 1 14) 16 (X 4)) := rfl
theorem WLD_6 : (WLD g a am ao h0 q qn qp qm X Y c P M J)[6]? = some (oX1 (q 0 1) (q 5) (X 5)) := rfl
theorem WLD_7 : (WLD g a am ao h0 q qn qp qm X Y c P M J)[7]? = some (aI g (q 5 4) 7 (X 6)) := rfl
theorem WLD_8 : (WLD g a am ao h0 q qn qp qm X Y c P M J)[8]? = some (aI g (q 5 5) 7 (X 7)) := rfl
theorem WLD_9 : (WLD g a am ao h0 q qn qp qm X Y c P M J)[9]? = some (aI g (q 5 6) 7 (X 8)) := rfl
theorem WLD_10 : (WLD g a am ao h0 q qn qp qm X Y c P M J)[10]? = some (aI g (q 5 7) 7 (X 9)) := rfl
theorem WLD_11 : (WLD g a am ao h0 q qn qp qm X Y c P M J)[11]? = some (aI g (q 5 10) 8 (X 10)) := rfl
theorem WLD_12 : (WLD g a am ao h0 q qn qp qm X Y c P M J)[12]? = some (aI g (q 5 11) 8 (X 11)) := rfl
theorem WLD_13 : (WLD g a am ao h0 q qn qp qm X Y c P M J)[13]? = some (aI g (q 5 12) 8 (X 12)) := rfl
theorem WLD_14 : (WLD g a am ao h0 q qn qp qm X Y c P M J)[14]? = some (aI g (q 5 14) 4 (X 13)) := rfl
theorem WLD_15 : (WLD g a am ao h0 q qn qp qm X Y c P M J)[15]? = some (aI g (q 5 15) 4 (X 14)) := rfl
theorem WLD_16 : (WLD g a am ao h0 q qn qp qm X Y c P M J)[16]? = some (oX7 (q 5 16) (q 15) (X 15)) := rfl
theorem WLD_17 : (WLD g a am ao h0 q qn qp qm X Y c P M J)[17]? = some (aI g (q 15 1) 5 (X 16)) := rfl
theorem WLD_18 : (WLD g a am ao h0 q qn qp qm X Y c P M J)[18]? = some (aI g (q 15 2) 5 (X 17)) := rfl
theorem WLD_19 : (WLD g a am ao h0 q qn qp qm X Y c P M J)[19]? = some (aI g (q 15 4) 6 (X 18)) := rfl
theorem WLD_20 : (WLD g a am ao h0 q qn qp qm X Y c P M J)[20]? = some (aI g (q 15 5) 6 (X 19)) := rfl
theorem WLD_21 : (WLD g a am ao h0 q qn qp qm X Y c P M J)[21]? = some (aI g (q 15 6) 6 (X 20)) := rfl
theorem WLD_22 : (WLD g a am ao h0 q qn qp qm X Y c P M J)[22]? = some (oX1 (q 0 2) (q 21) (X 21)) := rfl
theorem WLD_23 : (WLD g a am ao h0 q qn qp qm X Y c P M J)[23]? = some (aI g (q 21 4) 7 (X 22)) := rfl
theorem WLD_24 : (WLD g a am ao h0 q qn qp qm X Y c P M J)[24]? = some (aI g (q 21 5) 7 (X 23)) := rfl
theorem WLD_25 : (WLD g a am ao h0 q qn qp qm X Y c P M J)[25]? = some (aI g (q 21 6) 7 (X 24)) := rfl
theorem WLD_26 : (WLD g a am ao h0 q qn qp qm X Y c P M J)[26]? = some (aI g (q 21 7) 7 (X 25)) := rfl
theorem WLD_27 : (WLD g a am ao h0 q qn qp qm X Y c P M J)[27]? = some (aI g (q 21 10) 8 (X 26)) := rfl
theorem WLD_28 : (WLD g a am ao h0 q qn qp qm X Y c P M J)[28]? = some (aI g (q 21 11) 8 (X 27)) := rfl
theorem WLD_29 : (WLD g a am ao h0 q qn qp qm X Y c P M J)[29]? = some (aI g (q 21 12) 8 (X 28)) := rfl
theorem WLD_30 : (WLD g a am ao h0 q qn qp qm X Y c P M J)[30]? = some (aI g (q 21 14) 4 (X 29)) := rfl
theorem WLD_31 : (WLD g a am ao h0 q qn qp qm X Y c P M J)[31]? = some (aI g (q 21 15) 4 (X 30)) := rfl
theorem WLD_32 : (WLD g a am ao h0 q qn qp qm X Y c P M J)[32]? = some (oX7 (q 21 16) (q 31) (X 31)) := rfl
theorem WLD_33 : (WLD g a am ao h0 q qn qp qm X Y c P M J)[33]? = some (aI g (q 31 1) 5 (X 32)) := rfl
theorem WLD_34 : (WLD g a am ao h0 q qn qp qm X Y c P M J)[34]? = some (aI g (q 31 2) 5 (X 33)) := rfl
theorem WLD_35 : (WLD g a am ao h0 q qn qp qm X Y c P M J)[35]? = some (aI g (q 31 4) 6 (X 34)) := rfl
theorem WLD_36 : (WLD g a am ao h0 q qn qp qm X Y c P M J)[36]? = some (aI g (q 31 5) 6 (X 35)) := rfl
theorem WLD_37 : (WLD g a am ao h0 q qn qp qm X Y c P M J)[37]? = some (aI g (q 31 6) 6 (X 36)) := rfl
theorem WLD_38 : (WLD g a am ao h0 q qn qp qm X Y c P M J)[38]? = some (oX2 (q 0 5) (q 37) (X 37)) := rfl
theorem WLD_39 : (WLD g a am ao h0 q qn qp qm X Y c P M J)[39]? = some (aI g (q 37 6) 7 (X 38)) := rfl
theorem WLD_40 : (WLD g a am ao h0 q qn qp qm X Y c P M J)[40]? = some (aI g (q 37 7) 7 (X 39)) := rfl
theorem WLD_41 : (WLD g a am ao h0 q qn qp qm X Y c P M J)[41]? = some (aI g (q 37 8) 7 (X 40)) := rfl
theorem WLD_42 : (WLD g a am ao h0 q qn qp qm X Y c P M J)[42]? = some (oX2 (q 0 6) (q 41) (X 41)) := rfl
theorem WLD_43 : (WLD g a am ao h0 q qn qp qm X Y c P M J)[43]? = some (aI g (q 41 6) 7 (X 42)) := rfl
theorem WLD_44 : (WLD g a am ao h0 q qn qp qm X Y c P M J)[44]? = some (aI g (q 41 7) 7 (X 43)) := rfl
theorem WLD_45 : (WLD g a am ao h0 q qn qp qm X Y c P M J)[45]? = some (aI g (q 41 8) 7 (X 44)) := rfl
theorem WLD_46 : (WLD g a am ao h0 q qn qp qm X Y c P M J)[46]? = some (oX3 (q 0 7) (q 45) (X 45)) := rfl
theorem WLD_47 : (WLD g a am ao h0 q qn qp qm X Y c P M J)[47]? = some (oX3 (q 0 8) (q 46) (X 46)) := rfl
theorem WLD_48 : (WLD g a am ao h0 q qn qp qm X Y c P M J)[48]? = some (oX4 (q 0 9) (q 47) (X 47)) := rfl
theorem WLD_49 : (WLD g a am ao h0 q qn qp qm X Y c P M J)[49]? = some (aN g (q 47 0) 16 (qn 0)) := rfl
theorem WLD_50 : (WLD g a am ao h0 q qn qp qm X Y c P M J)[50]? = some (oX2 (qn 0 0) (qp 0 0) (P 0 0)) := rfl
theorem WLD_51 : (WLD g a am ao h0 q qn qp qm X Y c P M J)[51]? = some (aI g (qp 0 0 6) 7 (P 1 0)) := rfl
theorem WLD_52 : (WLD g a am ao h0 q qn qp qm X Y c P M J)[52]? = some (aI g (qp 0 0 7) 7 (P 2 0)) := rfl
theorem WLD_53 : (WLD g a am ao h0 q qn qp qm X Y c P M J)[53]? = some (aI g (qp 0 0 8) 7 (P 3 0)) := rfl
theorem WLD_54 : (WLD g a am ao h0 q qn qp qm X Y c P M J)[54]? = some (oX2 (qn 0 1) (qp 0 1) (P 0 1)) := rfl
theorem WLD_55 : (WLD g a am ao h0 q qn qp qm X Y c P M J)[55]? = some (aI g (qp 0 1 6) 7 (P 1 1)) := rfl
theorem WLD_56 : (WLD g a am ao h0 q qn qp qm X Y c P M J)[56]? = some (aI g (qp 0 1 7) 7 (P 2 1)) := rfl
theorem WLD_57 : (WLD g a am ao h0 q qn qp qm X Y c P M J)[57]? = some (aI g (qp 0 1 8) 7 (P 3 1)) := rfl
theorem WLD_58 : (WLD g a am ao h0 q qn qp qm X Y c P M J)[58]? = some (oX2 (qn 0 2) (qp 0 2) (P 0 2)) := rfl
theorem WLD_59 : (WLD g a am ao h0 q qn qp qm X Y c P M J)[59]? = some (aI g (qp 0 2 6) 7 (P 1 2)) := rfl
theorem WLD_60 : (WLD g a am ao h0 q qn qp qm X Y c P M J)[60]? = some (aI g (qp 0 2 7) 7 (P 2 2)) := rfl
theorem WLD_61 : (WLD g a am ao h0 q qn qp qm X Y c P M J)[61]? = some (aI g (qp 0 2 8) 7 (P 3 2)) := rfl
theorem WLD_62 : (WLD g a am ao h0 q qn qp qm X Y c P M J)[62]? = some (oX2 (qn 0 3) (qp 0 3) (P 0 3)) := rfl
theorem WLD_63 : (WLD g a am ao h0 q qn qp qm X Y c P M J)[63]? = some (aI g (qp 0 3 6) 7 (P 1 3)) := rfl
theorem WLD_64 : (WLD g a am ao h0 q qn qp qm X Y c P M J)[64]? = some (aI g (qp 0 3 7) 7 (P 2 3)) := rfl
theorem WLD_65 : (WLD g a am ao h0 q qn qp qm X Y c P M J)[65]? = some (aI g (qp 0 3 8) 7 (P 3 3)) := rfl
theorem WLD_66 : (WLD g a am ao h0 q qn qp qm X Y c P M J)[66]? = some (oX2 (qn 0 4) (qp 0 4) (P 0 4)) := rfl
theorem WLD_67 : (WLD g a am ao h0 q qn qp qm X Y c P M J)[67]? = some (aI g (qp 0 4 6) 7 (P 1 4)) := rfl
theorem WLD_68 : (WLD g a am ao h0 q qn qp qm X Y c P M J)[68]? = some (aI g (qp 0 4 7) 7 (P 2 4)) := rfl
theorem WLD_69 : (WLD g a am ao h0 q qn qp qm X Y c P M J)[69]? = some (aI g (qp 0 4 8) 7 (P 3 4)) := rfl
theorem WLD_70 : (WLD g a am ao h0 q qn qp qm X Y c P M J)[70]? = some (oX2 (qn 0 5) (qp 0 5) (P 0 5)) := rfl
theorem WLD_71 : (WLD g a am ao h0 q qn qp qm X Y c P M J)[71]? = some (aI g (qp 0 5 6) 7 (P 1 5)) := rfl
theorem WLD_72 : (WLD g a am ao h0 q qn qp qm X Y c P M J)[72]? = some (aI g (qp 0 5 7) 7 (P 2 5)) := rfl
theorem WLD_73 : (WLD g a am ao h0 q qn qp qm X Y c P M J)[73]? = some (aI g (qp 0 5 8) 7 (P 3 5)) := rfl
theorem WLD_74 : (WLD g a am ao h0 q qn qp qm X Y c P M J)[74]? = some (oX2 (qn 0 6) (qp 0 6) (P 0 6)) := rfl
theorem WLD_75 : (WLD g a am ao h0 q qn qp qm X Y c P M J)[75]? = some (aI g (qp 0 6 6) 7 (P 1 6)) := rfl
theorem WLD_76 : (WLD g a am ao h0 q qn qp qm X Y c P M J)[76]? = some (aI g (qp 0 6 7) 7 (P 2 6)) := rfl
theorem WLD_77 : (WLD g a am ao h0 q qn qp qm X Y c P M J)[77]? = some (aI g (qp 0 6 8) 7 (P 3 6)) := rfl
theorem WLD_78 : (WLD g a am ao h0 q qn qp qm X Y c P M J)[78]? = some (oX2 (qn 0 7) (qp 0 7) (P 0 7)) := rfl
theorem WLD_79 : (WLD g a am ao h0 q qn qp qm X Y c P M J)[79]? = some (aI g (qp 0 7 6) 7 (P 1 7)) := rfl
theorem WLD_80 : (WLD g a am ao h0 q qn qp qm X Y c P M J)[80]? = some (aI g (qp 0 7 7) 7 (P 2 7)) := rfl
theorem WLD_81 : (WLD g a am ao h0 q qn qp qm X Y c P M J)[81]? = some (aI g (qp 0 7 8) 7 (P 3 7)) := rfl
theorem WLD_82 : (WLD g a am ao h0 q qn qp qm X Y c P M J)[82]? = some (oX2 (qn 0 8) (qp 0 8) (P 0 8)) := rfl
theorem WLD_83 : (WLD g a am ao h0 q qn qp qm X Y c P M J)[83]? = some (aI g (qp 0 8 6) 7 (P 1 8)) := rfl
theorem WLD_84 : (WLD g a am ao h0 q qn qp qm X Y c P M J)[84]? = some (aI g (qp 0 8 7) 7 (P 2 8)) := rfl
theorem WLD_85 : (WLD g a am ao h0 q qn qp qm X Y c P M J)[85]? = some (aI g (qp 0 8 8) 7 (P 3 8)) := rfl
theorem WLD_86 : (WLD g a am ao h0 q qn qp qm X Y c P M J)[86]? = some (oX2 (qn 0 9) (qp 0 9) (P 0 9)) := rfl
theorem WLD_87 : (WLD g a am ao h0 q qn qp qm X Y c P M J)[87]? = some (aI g (qp 0 9 6) 7 (P 1 9)) := rfl
theorem WLD_88 : (WLD g a am ao h0 q qn qp qm X Y c P M J)[88]? = some (aI g (qp 0 9 7) 7 (P 2 9)) := rfl
theorem WLD_89 : (WLD g a am ao h0 q qn qp qm X Y c P M J)[89]? = some (aI g (qp 0 9 8) 7 (P 3 9)) := rfl
theorem WLD_90 : (WLD g a am ao h0 q qn qp qm X Y c P M J)[90]? = some (oX2 (qn 0 10) (qp 0 10) (P 0 10)) := rfl
theorem WLD_91 : (WLD g a am ao h0 q qn qp qm X Y c P M J)[91]? = some (aI g (qp 0 10 6) 7 (P 1 10)) := rfl
theorem WLD_92 : (WLD g a am ao h0 q qn qp qm X Y c P M J)[92]? = some (aI g (qp 0 10 7) 7 (P 2 10)) := rfl
theorem WLD_93 : (WLD g a am ao h0 q qn qp qm X Y c P M J)[93]? = some (aI g (qp 0 10 8) 7 (P 3 10)) := rfl
theorem WLD_94 : (WLD g a am ao h0 q qn qp qm X Y c P M J)[94]? = some (oX2 (qn 0 11) (qp 0 11) (P 0 11)) := rfl
theorem WLD_95 : (WLD g a am ao h0 q qn qp qm X Y c P M J)[95]? = some (aI g (qp 0 11 6) 7 (P 1 11)) := rfl
theorem WLD_96 : (WLD g a am ao h0 q qn qp qm X Y c P M J)[96]? = some (aI g (qp 0 11 7) 7 (P 2 11)) := rfl
theorem WLD_97 : (WLD g a am ao h0 q qn qp qm X Y c P M J)[97]? = some (aI g (qp 0 11 8) 7 (P 3 11)) := rfl
theorem WLD_98 : (WLD g a am ao h0 q qn qp qm X Y c P M J)[98]? = some (oX2 (qn 0 12) (qp 0 12) (P 0 12)) := rfl
theorem WLD_99 : (WLD g a am ao h0 q qn qp qm X Y c P M J)[99]? = some (aI g (qp 0 12 6) 7 (P 1 12)) := rfl
theorem WLD_100 : (WLD g a am ao h0 q qn qp qm X Y c P M J)[100]? = some (aI g (qp 0 12 7) 7 (P 2 12)) := rfl
theorem WLD_101 : (WLD g a am ao h0 q qn qp qm X Y c P M J)[101]? = some (aI g (qp 0 12 8) 7 (P 3 12)) := rfl
theorem WLD_102 : (WLD g a am ao h0 q qn qp qm X Y c P M J)[102]? = some (oX2 (qn 0 13) (qp 0 13) (P 0 13)) := rfl
theorem WLD_103 : (WLD g a am ao h0 q qn qp qm X Y c P M J)[103]? = some (aI g (qp 0 13 6) 7 (P 1 13)) := rfl
theorem WLD_104 : (WLD g a am ao h0 q qn qp qm X Y c P M J)[104]? = some (aI g (qp 0 13 7) 7 (P 2 13)) := rfl
theorem WLD_105 : (WLD g a am ao h0 q qn qp qm X Y c P M J)[105]? = some (aI g (qp 0 13 8) 7 (P 3 13)) := rfl
theorem WLD_106 : (WLD g a am ao h0 q qn qp qm X Y c P M J)[106]? = some (oX2 (qn 0 14) (qp 0 14) (P 0 14)) := rfl
theorem WLD_107 : (WLD g a am ao h0 q qn qp qm X Y c P M J)[107]? = some (aI g (qp 0 14 6) 7 (P 1 14)) := rfl
theorem WLD_108 : (WLD g a am ao h0 q qn qp qm X Y c P M J)[108]? = some (aI g (qp 0 14 7) 7 (P 2 14)) := rfl
theorem WLD_109 : (WLD g a am ao h0 q qn qp qm X Y c P M J)[109]? = some (aI g (qp 0 14 8) 7 (P 3 14)) := rfl
theorem WLD_110 : (WLD g a am ao h0 q qn qp qm X Y c P M J)[110]? = some (oX2 (qn 0 15) (qp 0 15) (P 0 15)) := rfl
theorem WLD_111 : (WLD g a am ao h0 q qn qp qm X Y c P M J)[111]? = some (aI g (qp 0 15 6) 7 (P 1 15)) := rfl
theorem WLD_112 : (WLD g a am ao h0 q qn qp qm X Y c P M J)[112]? = some (aI g (qp 0 15 7) 7 (P 2 15)) := rfl
theorem WLD_113 : (WLD g a am ao h0 q qn qp qm X Y c P M J)[113]? = some (aI g (qp 0 15 8) 7 (P 3 15)) := rfl
theorem WLD_114 : (WLD g a am ao h0 q qn qp qm X Y c P M J)[114]? = some (aN g (q 0 10) 3 (qn 1)) := rfl
theorem WLD_115 : (WLD g a am ao h0 q qn qp qm X Y c P M J)[115]? = some (oX2 (qn 1 0) (qp 1 0) (P 4 0)) := rfl
theorem WLD_116 : (WLD g a am ao h0 q qn qp qm X Y c P M J)[116]? = some (aI g (qp 1 0 6) 7 (P 5 0)) := rfl
theorem WLD_117 : (WLD g a am ao h0 q qn qp qm X Y c P M J)[117]? = some (aI g (qp 1 0 7) 7 (P 6 0)) := rfl
theorem WLD_118 : (WLD g a am ao h0 q qn qp qm X Y c P M J)[118]? = some (aI g (qp 1 0 8) 7 (P 7 0)) := rfl
theorem WLD_119 : (WLD g a am ao h0 q qn qp qm X Y c P M J)[119]? = some (oX2 (qn 1 1) (qp 1 1) (P 4 1)) := rfl
theorem WLD_120 : (WLD g a am ao h0 q qn qp qm X Y c P M J)[120]? = some (aI g (qp 1 1 6) 7 (P 5 1)) := rfl
theorem WLD_121 : (WLD g a am ao h0 q qn qp qm X Y c P M J)[121]? = some (aI g (qp 1 1 7) 7 (P 6 1)) := rfl
theorem WLD_122 : (WLD g a am ao h0 q qn qp qm X Y c P M J)[122]? = some (aI g (qp 1 1 8) 7 (P 7 1)) := rfl
theorem WLD_123 : (WLD g a am ao h0 q qn qp qm X Y c P M J)[123]? = some (oX2 (qn 1 2) (qp 1 2) (P 4 2)) := rfl
theorem WLD_124 : (WLD g a am ao h0 q qn qp qm X Y c P M J)[124]? = some (aI g (qp 1 2 6) 7 (P 5 2)) := rfl
theorem WLD_125 : (WLD g a am ao h0 q qn qp qm X Y c P M J)[125]? = some (aI g (qp 1 2 7) 7 (P 6 2)) := rfl
theorem WLD_126 : (WLD g a am ao h0 q qn qp qm X Y c P M J)[126]? = some (aI g (qp 1 2 8) 7 (P 7 2)) := rfl
theorem WLD_127 : (WLD g a am ao h0 q qn qp qm X Y c P M J)[127]? = some (oX6 (q 0 12) (q 48) (X 48)) := rfl
theorem WLD_128 : (WLD g a am ao h0 q qn qp qm X Y c P M J)[128]? = some (aI g (q 48 3) 4 (X 49)) := rfl
theorem WLD_129 : (WLD g a am ao h0 q qn qp qm X Y c P M J)[129]? = some (aI g (q 48 4) 4 (X 50)) := rfl
theorem WLD_130 : (WLD g a am ao h0 q qn qp qm X Y c P M J)[130]? = some (aN g (q 48 5) 5 (qn 2)) := rfl
theorem WLD_131 : (WLD g a am ao h0 q qn qp qm X Y c P M J)[131]? = some (oX2 (qn 2 0) (qp 2 0) (P 8 0)) := rfl
theorem WLD_132 : (WLD g a am ao h0 q qn qp qm X Y c P M J)[132]? = some (aI g (qp 2 0 6) 7 (P 9 0)) := rfl
theorem WLD_133 : (WLD g a am ao h0 q qn qp qm X Y c P M J)[133]? = some (aI g (qp 2 0 7) 7 (P 10 0)) := rfl
theorem WLD_134 : (WLD g a am ao h0 q qn qp qm X Y c P M J)[134]? = some (aI g (qp 2 0 8) 7 (P 11 0)) := rfl
theorem WLD_135 : (WLD g a am ao h0 q qn qp qm X Y c P M J)[135]? = some (oX2 (qn 2 1) (qp 2 1) (P 8 1)) := rfl
theorem WLD_136 : (WLD g a am ao h0 q qn qp qm X Y c P M J)[136]? = some (aI g (qp 2 1 6) 7 (P 9 1)) := rfl
theorem WLD_137 : (WLD g a am ao h0 q qn qp qm X Y c P M J)[137]? = some (aI g (qp 2 1 7) 7 (P 10 1)) := rfl
theorem WLD_138 : (WLD g a am ao h0 q qn qp qm X Y c P M J)[138]? = some (aI g (qp 2 1 8) 7 (P 11 1)) := rfl
theorem WLD_139 : (WLD g a am ao h0 q qn qp qm X Y c P M J)[139]? = some (oX2 (qn 2 2) (qp 2 2) (P 8 2)) := rfl
theorem WLD_140 : (WLD g a am ao h0 q qn qp qm X Y c P M J)[140]? = some (aI g (qp 2 2 6) 7 (P 9 2)) := rfl
theorem WLD_141 : (WLD g a am ao h0 q qn qp qm X Y c P M J)[141]? = some (aI g (qp 2 2 7) 7 (P 10 2)) := rfl
theorem WLD_142 : (WLD g a am ao h0 q qn qp qm X Y c P M J)[142]? = some (aI g (qp 2 2 8) 7 (P 11 2)) := rfl
theorem WLD_143 : (WLD g a am ao h0 q qn qp qm X Y c P M J)[143]? = some (oX2 (qn 2 3) (qp 2 3) (P 8 3)) := rfl
theorem WLD_144 : (WLD g a am ao h0 q qn qp qm X Y c P M J)[144]? = some (aI g (qp 2 3 6) 7 (P 9 3)) := rfl
theorem WLD_145 : (WLD g a am ao h0 q qn qp qm X Y c P M J)[145]? = some (aI g (qp 2 3 7) 7 (P 10 3)) := rfl
theorem WLD_146 : (WLD g a am ao h0 q qn qp qm X Y c P M J)[146]? = some (aI g (qp 2 3 8) 7 (P 11 3)) := rfl
theorem WLD_147 : (WLD g a am ao h0 q qn qp qm X Y c P M J)[147]? = some (oX2 (qn 2 4) (qp 2 4) (P 8 4)) := rfl
theorem WLD_148 : (WLD g a am ao h0 q qn qp qm X Y c P M J)[148]? = some (aI g (qp 2 4 6) 7 (P 9 4)) := rfl
theorem WLD_149 : (WLD g a am ao h0 q qn qp qm X Y c P M J)[149]? = some (aI g (qp 2 4 7) 7 (P 10 4)) := rfl
theorem WLD_150 : (WLD g a am ao h0 q qn qp qm X Y c P M J)[150]? = some (aI g (qp 2 4 8) 7 (P 11 4)) := rfl
theorem WLD_151 : (WLD g a am ao h0 q qn qp qm X Y c P M J)[151]? = some (oX2 (q 48 6) (q 51) (X 51)) := rfl
theorem WLD_152 : (WLD g a am ao h0 q qn qp qm X Y c P M J)[152]? = some (aI g (q 51 6) 7 (X 52)) := rfl
theorem WLD_153 : (WLD g a am ao h0 q qn qp qm X Y c P M J)[153]? = some (aI g (q 51 7) 7 (X 53)) := rfl
theorem WLD_154 : (WLD g a am ao h0 q qn qp qm X Y c P M J)[154]? = some (aI g (q 51 8) 7 (X 54)) := rfl
theorem WLD_155 : (WLD g a am ao h0 q qn qp qm X Y c P M J)[155]? = some (oX0 (q 0 13) (q 55) (X 55)) := rfl
theorem WLD_156 : (WLD g a am ao h0 q qn qp qm X Y c P M J)[156]? = some (aI g (q 55 2) 7 (X 56)) := rfl
theorem WLD_157 : (WLD g a am ao h0 q qn qp qm X Y c P M J)[157]? = some (aI g (q 55 3) 5 (X 57)) := rfl
theorem WLD_158 : (WLD g a am ao h0 q qn qp qm X Y c P M J)[158]? = some (aI g (q 55 4) 7 (X 58)) := rfl
theorem WLD_159 : (WLD g a am ao h0 q qn qp qm X Y c P M J)[159]? = some (oX2 (q 55 5) (q 59) (X 59)) := rfl
theorem WLD_160 : (WLD g a am ao h0 q qn qp qm X Y c P M J)[160]? = some (aI g (q 59 6) 7 (X 60)) := rfl
theorem WLD_161 : (WLD g a am ao h0 q qn qp qm X Y c P M J)[161]? = some (aI g (q 59 7) 7 (X 61)) := rfl
theorem WLD_162 : (WLD g a am ao h0 q qn qp qm X Y c P M J)[162]? = some (aI g (q 59 8) 7 (X 62)) := rfl
theorem WLD_163 : (WLD g a am ao h0 q qn qp qm X Y c P M J)[163]? = some (oX8 (q 0 14) (q 63) (X 63)) := rfl
theorem WLD_164 : (WLD g a am ao h0 q qn qp qm X Y c P M J)[164]? = some (aI g (q 63 3) 218 (X 64)) := rfl
theorem WLD_165 : (WLD g a am ao h0 q qn qp qm X Y c P M J)[165]? = some (aI g (q 63 4) 31 (X 65)) := rfl
theorem WLD_166 : (WLD g a am ao h0 q qn qp qm X Y c P M J)[166]? = some (oX2 (q 63 5) (q 66) (X 66)) := rfl
theorem WLD_167 : (WLD g a am ao h0 q qn qp qm X Y c P M J)[167]? = some (aI g (q 66 6) 7 (X 67)) := rfl
theorem WLD_168 : (WLD g a am ao h0 q qn qp qm X Y c P M J)[168]? = some (aI g (q 66 7) 7 (X 68)) := rfl
theorem WLD_169 : (WLD g a am ao h0 q qn qp qm X Y c P M J)[169]? = some (aI g (q 66 8) 7 (X 69)) := rfl
theorem WLD_170 : (WLD g a am ao h0 q qn qp qm X Y c P M J)[170]? = some (oX2 (q 63 6) (q 70) (X 70)) := rfl
theorem WLD_171 : (WLD g a am ao h0 q qn qp qm X Y c P M J)[171]? = some (aI g (q 70 6) 7 (X 71)) := rfl
theorem WLD_172 : (WLD g a am ao h0 q qn qp qm X Y c P M J)[172]? = some (aI g (q 70 7) 7 (X 72)) := rfl
theorem WLD_173 : (WLD g a am ao h0 q qn qp qm X Y c P M J)[173]? = some (aI g (q 70 8) 7 (X 73)) := rfl
theorem WLD_174 : (WLD g a am ao h0 q qn qp qm X Y c P M J)[174]? = some (oX10 am qm (M 0)) := rfl
theorem WLD_175 : (WLD g a am ao h0 q qn qp qm X Y c P M J)[175]? = some (aI g (qm 1) 800 (M 1)) := rfl
theorem WLD_176 : (WLD g a am ao h0 q qn qp qm X Y c P M J)[176]? = some (aI g (qm 12) 8 (M 12)) := rfl
theorem WLD_177 : (WLD g a am ao h0 q qn qp qm X Y c P M J)[177]? = some (aI g (qm 15) 266 (M 15)) := rfl
theorem WLD_178 : (WLD g a am ao h0 q qn qp qm X Y c P M J)[178]? = some (aI g (qm 16) 266 (M 16)) := rfl
theorem WLD_179 : (WLD g a am ao h0 q qn qp qm X Y c P M J)[179]? = some (aI g (qm 17) 17 (M 17)) := rfl
theorem WLD_180 : (WLD g a am ao h0 q qn qp qm X Y c P M J)[180]? = some (aI g (qm 18) 272 (M 18)) := rfl
theorem WLD_181 : (WLD g a am ao h0 q qn qp qm X Y c P M J)[181]? = some (aI g (qm 19) 51 (M 19)) := rfl
theorem WLD_182 : (WLD g a am ao h0 q qn qp qm X Y c P M J)[182]? = some (aI g (qm 25) 17 (M 25)) := rfl
theorem WLD_183 : (WLD g a am ao h0 q qn qp qm X Y c P M J)[183]? = some (aI g (qm 26) 4 (M 26)) := rfl
theorem WLD_184 : (WLD g a am ao h0 q qn qp qm X Y c P M J)[184]? = some (aI g (qm 27) 4 (M 27)) := rfl
theorem WLD_185 : (WLD g a am ao h0 q qn qp qm X Y c P M J)[185]? = some (aI g (qm 30) 7 (M 30)) := rfl
theorem WLD_186 : (WLD g a am ao h0 q qn qp qm X Y c P M J)[186]? = some (aI g (qm 31) 7 (M 31)) := rfl
theorem WLD_187 : (WLD g a am ao h0 q qn qp qm X Y c P M J)[187]? = some (aI g (qm 33) 218 (M 33)) := rfl
theorem WLD_188 : (WLD g a am ao h0 q qn qp qm X Y c P M J)[188]? = some (aJ g ao 1 J) := rfl
end Wld
def LK (p : Program) (l : Launch) (e : Env) (s : State) (m : MethodId) (args : Array Value) (below : List Frame) (meth : Method) (c : Code) (cells slots : Nat) (Q : State → Prop) (g : GG) (A : Nat → Prop) (a am ao b n : Nat) (iv : Int32) : Prop :=
  ∀ (q : Nat → Nat → Nat) (qn : Nat → Nat → Nat) (qp : Nat → Nat → Nat → Nat) (qm : Nat → Nat) (X : Nat → Nat → Int32) (Y : Nat → Int64) (ci : Int64) (P : Nat → Nat → Nat → Int32) (M : Nat → Nat → Int32) (J : Nat → Int64) (H : Heap) (locs : List Loc) (ls : Array Slot), INV n X Y ci P M → TBs X → va_P g.1 vwCl (WLD g a am ao (q 0) q qn qp qm X Y ci P M J) H → va_D A (WLD g a am ao (q 0) q qn qp qm X Y ci P M J) → va_S A s.heap H locs → lv_has ls 7 [(0, .ref b), (1, .ref a), (2, .ref am), (3, .ref ao), (4, .int iv)] → W p l e room_1 s m args below meth c H locs cells slots Q (F0 m 1700 ls [])
theorem bool_w {p : Program} {l : Launch} {e : Env} {R : Room} {s : State} {m : MethodId} {args : Array Value} {below : List Frame} {meth : Method} {c : Code} {H : Heap} {locs : List Loc} {cells slots : Nat} {Q : State → Prop} {cc : ByteArray} {pc : Nat} {ls : Array Slot} {x : Int32} {rest : List Value} (hx : p.tables.exec = Jvm.exec) (hb : c.code = cc) (d1 : decode cc pc = .ok (.ifCond .eq 7, 3)) (d2 : decode cc (pc + 3) = .ok (.iconst 1, 1)) (d3 : decode cc (pc + 4) = .ok (.goto 4, 3)) (d4 : decode cc (pc + 7) = .ok (.iconst 0, 1))
    (k : W p l e R s m args below meth c H locs cells slots Q (F0 m (pc + 8) ls (.int (if x = 0 then (0 : Int32) else 1) :: rest))) : W p l e R s m args below meth c H locs cells slots Q (F0 m pc ls (.int x :: rest)) := by
  refine lv_if_eq (tgt := pc + 7) hx hb d1 (by omega) (fun h => ?_) (fun h => ?_)
  · refine lv_iconst (v := 0) hx hb d4 (by decide) ?_
    rw [if_pos h] at k
    exact k
  · refine lv_iconst (v := 1) hx hb d2 (by decide) ?_
    refine lv_goto (tgt := pc + 8) hx hb d3 (by omega) ?_
    rw [if_neg h] at k
    exact k
theorem mm2 {f f' : Nat → Option (Nat × va_E)} {i : Nat} {is : List Nat} {q : Nat × va_E} (h' : f' i = some q) (h : f i = some q) (t : ∀ k ∈ is, f' k = f k) : ∀ k ∈ i :: is, f' k = f k := fun k hk => (List.mem_cons.mp hk).elim (fun e => by rw [e, h', h]) (t k)
section LawC
variable {p : Program} {l : Launch} {e : Env} {R : Room} {s : State} {m : MethodId} {args : Array Value} {below : List Frame} {meth : Method} {c : Code} {H : Heap} {locs : List Loc} {cells slots : Nat} {Q : State → Prop}
variable {g : GG} {cc : ByteArray} {nL : Nat} {ret : Option FieldType} {own : String} {Ts : List Cond} {A : Nat → Prop} {ws ws' w1 : va_W} {pc : Nat} {ls : Array Slot}
variable {y : MethodName} {wy : List Cond} {rmy : Room} {As rest st : List Value} {wc : va_W} {bytes : ByteArray} {maxLy n index NW : Nat} {rety : Option FieldType} {C : String} {T : u_T} {N ci q0 b : Nat} {fs : List Value}
/-- a call of an instance method, seen from the law: the world behind it is named, its cells given one by one -/
theorem call_W {r : Int32} (C0 : Cx p s m args meth c cc nL ret own Ts g A) (hM : MI l g y wy rmy (.ref b :: As) wc r w1) (cw : CallW R s args own C index y bytes maxLy rety wy rmy 0 0 n) (hP : va_P g.1 vwCl ws H) (hD : va_D A ws) (hS : va_S A s.heap H locs) (isC isR : List Nat) (hC : isC.map (fun i => ws[i]?) = wc.map some) (hC' : isC.map (fun i => ws'[i]?) = w1.map some) (hR : ∀ k ∈ isR, ws'[k]? = ws[k]?) (hlw : ws'.length = NW) (h2 : va_nd isC = true) (hcov : ∀ k, k < NW → k ∈ isC ∨ k ∈ isR) (hdis : ∀ i ∈ isR, i ∉ isC) (had : w1.map Prod.fst = wc.map Prod.fst)
    (hcl : vwCl[ci]? = some (C, T, N)) (hq : wc[q0]? = some (b, .inr (ci, fs))) (hsz : ls.size = nL) (hlen : As.length = n) (hst : st = As.reverse ++ .ref b :: rest) (hroom : (rest.map fun v => v.category).sum ≤ 8) (hf : cells + 0 ≤ R.cells ∧ slots + 0 ≤ R.slots) (hdg : decode cc pc = .ok (.invokevirtual index, 3))
    (k : Aft p l e R s m args below meth c cells slots Q g A ws' (F0 m (pc + 3) ls (.int r :: rest))) : W p l e R s m args below meth c H locs cells slots Q (F0 m pc ls st) := by
  have h1 := mfil hC
  have hpre := pre_of C0 hP hD hS isC h1 h2 hC (.ref b :: As)
  have hP9 := hP.sub isC h1
  obtain ⟨hx, hb, hml, hown, hts, hr, hlk, hK, hA, hSW⟩ := C0
  have hF := va_free (wc := wc) hD hS hA isC hC
  refine va_calli (va_runV (As := As) (rest := rest) ⟨hx, hb, hml, hown, hts⟩ (hM H.size) cw ⟨Pre.blind, va_recv hK.1 hP9 hcl hq, hpre⟩ rfl hlen hsz hst (lv_room (m := m) (pc := pc) (ls := ls) hroom) hdg hf) hS (fun q _ h => hF q h) hF (fun r' u t H1 locs1 ht hvm hw hB hz1 hk1 hS1 => ?_)
  obtain ⟨hP1, hD1⟩ := hB
  rw [ht] at hP1
  obtain ⟨hP2, hD2⟩ := put_to hP hD isC isR hC hC' hR (fun k hk => hcov k (hlw ▸ hk)) had hdis hk1 hP1
  subst hw
  exact k H1 locs1 hP2 hD2 hS1
theorem call_WL {r : Int64} (C0 : Cx p s m args meth c cc nL ret own Ts g A) (hM : ML l g y wy rmy (.ref b :: As) wc r w1) (cw : CallW R s args own C index y bytes maxLy rety wy rmy 0 0 n) (hP : va_P g.1 vwCl ws H) (hD : va_D A ws) (hS : va_S A s.heap H locs) (isC isR : List Nat) (hC : isC.map (fun i => ws[i]?) = wc.map some) (hC' : isC.map (fun i => ws'[i]?) = w1.map some) (hR : ∀ k ∈ isR, ws'[k]? = ws[k]?) (hlw : ws'.length = NW) (h2 : va_nd isC = true) (hcov : ∀ k, k < NW → k ∈ isC ∨ k ∈ isR) (hdis : ∀ i ∈ isR, i ∉ isC) (had : w1.map Prod.fst = wc.map Prod.fst)
    (hcl : vwCl[ci]? = some (C, T, N)) (hq : wc[q0]? = some (b, .inr (ci, fs))) (hsz : ls.size = nL) (hlen : As.length = n) (hst : st = As.reverse ++ .ref b :: rest) (hroom : (rest.map fun v => v.category).sum ≤ 8) (hf : cells + 0 ≤ R.cells ∧ slots + 0 ≤ R.slots) (hdg : decode cc pc = .ok (.invokevirtual index, 3))
    (k : Aft p l e R s m args below meth c cells slots Q g A ws' (F0 m (pc + 3) ls (.long r :: rest))) : W p l e R s m args below meth c H locs cells slots Q (F0 m pc ls st) := by
  have h1 := mfil hC
  have hpre := pre_of C0 hP hD hS isC h1 h2 hC (.ref b :: As)
  have hP9 := hP.sub isC h1
  obtain ⟨hx, hb, hml, hown, hts, hr, hlk, hK, hA, hSW⟩ := C0
  have hF := va_free (wc := wc) hD hS hA isC hC
  refine va_calll (va_runV (As := As) (rest := rest) ⟨hx, hb, hml, hown, hts⟩ (hM H.size) cw ⟨Pre.blind, va_recv hK.1 hP9 hcl hq, hpre⟩ rfl hlen hsz hst (lv_room (m := m) (pc := pc) (ls := ls) hroom) hdg hf) hS (fun q _ h => hF q h) hF (fun r' u t H1 locs1 ht hvm hw hB hz1 hk1 hS1 => ?_)
  obtain ⟨hP1, hD1⟩ := hB
  rw [ht] at hP1
  obtain ⟨hP2, hD2⟩ := put_to hP hD isC isR hC hC' hR (fun k hk => hcov k (hlw ▸ hk)) had hdis hk1 hP1
  subst hw
  exact k H1 locs1 hP2 hD2 hS1
end LawC
