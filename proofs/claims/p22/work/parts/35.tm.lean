def TM (q : Nat → Nat) (cI cJ cZ : ClassId) : List (va_E → Prop) := [objT 12 [rT (q 1), iT 0 1000, iT 0 1000, iT 0 3, iT 0 1000, iT 0 1000, iT (-2147483648) 2147483647, lT, iT 0 5, iT (-2147483648) 2147483647, iT (-2147483648) 2147483647, iT (-2147483648) 2147483647, iT 0 1, iT 0 1, rT (q 2), rT (q 3), rT (q 4), rT (q 5), rT (q 6), rT (q 7), rT (q 8), rT (q 9), rT (q 10), rT (q 11), rT (q 12), rT (q 13), rT (q 14), rT (q 15), rT (q 16), rT (q 17), rT (q 18), rT (q 19), iT 0 20, iT 0 8, rT (q 20), iT 0 400, iT 0 1, iT 0 200, iT (-2147483648) 2147483647, iT (-1) 200, rT (q 21), rT (q 22), rT (q 23), rT (q 24), rT (q 25), iT 0 40, rT (q 26), rT (q 27), rT (q 28), rT (q 29), rT (q 30), rT (q 31), rT (q 32), rT (q 33), rT (q 34), rT (q 35), rT (q 36), rT (q 37), rT (q 38), rT (q 39), rT (q 40), rT (q 41), iT 0 2200, rT (q 42), rT (q 43), rT (q 44), rT (q 45), rT (q 46), iT 0 1, iT 0 40, rT (q 47), rT (q 48), rT (q 49), rT (q 50), rT (q 51), rT (q 52), rT (q 53), rT (q 54), iT (-2147483648) 2147483647, iT (-2147483648) 2147483647, iT 0 1, iT (-2147483648) 2147483647, rT (q 55), iT (-2147483648) 2147483647, rT (q 56), rT (q 57), rT (q 58), rT (q 59), iT 0 40, rT (q 60), rT (q 61), rT (q 62), rT (q 63), iT 0 200], arrT cI 1000 (In 0 255), arrT cI 2 (In 0 10), arrT cI 2 (In 0 8), arrT cI 2 (In 0 24), arrT cI 2 (In (-2147483648) 2147483647), arrL cJ 20, arrL cJ 16, arrT cI 20 (In (-2147483648) 2147483647), arrT cI 20 (In (-2147483648) 2147483647), arrT cI 20 (In (-2147483648) 2147483647), arrT cI 20 (In (-2147483648) 2147483647), arrT cI 336 (In 0 1100), arrT cI 4400 (In (-2147483648) 2147483647), arrT cI 2 (In 0 1100), arrL cJ 2200, arrT cI 20 (In 0 5), arrT cI 20 (In 0 2), arrT cZ 20 (In 0 1), arrT cI 20 (In 0 400), arrT cI 400 (In 0 18), arrT cI 201 (In (-2147483648) 2147483647), arrT cI 1005 (In (-2147483648) 2147483647), arrT cI 201 (In (-2147483648) 2147483647), arrL cJ 603, arrL cJ 3, arrT cI 40 (In (-2147483648) 2147483647), arrT cI 40 (In (-2147483648) 2147483647), arrT cI 40 (In (-2147483648) 2147483647), arrT cI 40 (In (-2147483648) 2147483647), arrT cI 40 (In (-2147483648) 2147483647), arrT cI 40 (In (-2147483648) 2147483647), arrT cI 40 (In 0 24), arrT cI 40 (In 0 4), arrL cJ 160, arrT cI 40 (In (-2147483648) 2147483647), arrT cI 201 (In (-1) 39), arrL cJ 1200, arrT cI 2200 (In 0 289), arrT cI 2200 (In 0 289), arrT cI 2200 (In (-2147483648) 2147483647), arrL cJ 2200, arrL cJ 290, arrT cI 290 (In 0 2199), arrT cI 400 (In (-1) 2198), arrT cZ 400 (In 0 1), arrT cI 250 (In (-2147483648) 2147483647), arrT cI 40 (In (-2147483648) 2147483647), arrT cI 40 (In (-2147483648) 2147483647), arrT cI 40 (In (-2147483648) 2147483647), arrT cI 40 (In (-2147483648) 2147483647), arrT cZ 400 (In 0 1), arrT cI 40 (In (-2147483648) 2147483647), arrT cI 40 (In (-2147483648) 2147483647), arrT cI 10 (In (-2147483648) 2147483647), arrT cI 10 (In (-2147483648) 2147483647), arrT cI 40 (In (-2147483648) 2147483647), arrT cI 40 (In (-2147483648) 2147483647), arrT cZ 40 (In 0 1), arrT cI 40 (In 0 39), arrT cI 40 (In 0 39), arrT cI 40 (In (-2147483648) 2147483647), arrT cI 9 (In (-2147483648) 2147483647), arrT cI 200 (In (-2147483648) 2147483647)]
theorem tM_0 {q : Nat → Nat} {cI cJ cZ : ClassId} : (TM q cI cJ cZ)[0]? = some (objT 12 [rT (q 1), iT 0 1000, iT 0 1000, iT 0 3, iT 0 1000, iT 0 1000, iT (-2147483648) 2147483647, lT, iT 0 5, iT (-2147483648) 2147483647, iT (-2147483648) 2147483647, iT (-2147483648) 2147483647, iT 0 1, iT 0 1, rT (q 2), rT (q 3), rT (q 4), rT (q 5), rT (q 6), rT (q 7), rT (q 8), rT (q 9), rT (q 10), rT (q 11), rT (q 12), rT (q 13), rT (q 14), rT (q 15), rT (q 16), rT (q 17), rT (q 18), rT (q 19), iT 0 20, iT 0 8, rT (q 20), iT 0 400, iT 0 1, iT 0 200, iT (-2147483648) 2147483647, iT (-1) 200, rT (q 21), rT (q 22), rT (q 23), rT (q 24), rT (q 25), iT 0 40, rT (q 26), rT (q 27), rT (q 28), rT (q 29), rT (q 30), rT (q 31), rT (q 32), rT (q 33), rT (q 34), rT (q 35), rT (q 36), rT (q 37), rT (q 38), rT (q 39), rT (q 40), rT (q 41), iT 0 2200, rT (q 42), rT (q 43), rT (q 44), rT (q 45), rT (q 46), iT 0 1, iT 0 40, rT (q 47), rT (q 48), rT (q 49), rT (q 50), rT (q 51), rT (q 52), rT (q 53), rT (q 54), iT (-2147483648) 2147483647, iT (-2147483648) 2147483647, iT 0 1, iT (-2147483648) 2147483647, rT (q 55), iT (-2147483648) 2147483647, rT (q 56), rT (q 57), rT (q 58), rT (q 59), iT 0 40, rT (q 60), rT (q 61), rT (q 62), rT (q 63), iT 0 200]) := rfl
theorem tM_1 {q : Nat → Nat} {cI cJ cZ : ClassId} : (TM q cI cJ cZ)[1]? = some (arrT cI 1000 (In 0 255)) := rfl
theorem tM_2 {q : Nat → Nat} {cI cJ cZ : ClassId} : (TM q cI cJ cZ)[2]? = some (arrT cI 2 (In 0 10)) := rfl
theorem tM_3 {q : Nat → Nat} {cI cJ cZ : ClassId} : (TM q cI cJ cZ)[3]? = some (arrT cI 2 (In 0 8)) := rfl
theorem tM_4 {q : Nat → Nat} {cI cJ cZ : ClassId} : (TM q cI cJ cZ)[4]? = some (arrT cI 2 (In 0 24)) := rfl
theorem tM_5 {q : Nat → Nat} {cI cJ cZ : ClassId} : (TM q cI cJ cZ)[5]? = some (arrT cI 2 (In (-2147483648) 2147483647)) := rfl
theorem tM_6 {q : Nat → Nat} {cI cJ cZ : ClassId} : (TM q cI cJ cZ)[6]? = some (arrL cJ 20) := rfl
theorem tM_7 {q : Nat → Nat} {cI cJ cZ : ClassId} : (TM q cI cJ cZ)[7]? = some (arrL cJ 16) := rfl
theorem tM_8 {q : Nat → Nat} {cI cJ cZ : ClassId} : (TM q cI cJ cZ)[8]? = some (arrT cI 20 (In (-2147483648) 2147483647)) := rfl
theorem tM_9 {q : Nat → Nat} {cI cJ cZ : ClassId} : (TM q cI cJ cZ)[9]? = some (arrT cI 20 (In (-2147483648) 2147483647)) := rfl
theorem tM_10 {q : Nat → Nat} {cI cJ cZ : ClassId} : (TM q cI cJ cZ)[10]? = some (arrT cI 20 (In (-2147483648) 2147483647)) := rfl
theorem tM_11 {q : Nat → Nat} {cI cJ cZ : ClassId} : (TM q cI cJ cZ)[11]? = some (arrT cI 20 (In (-2147483648) 2147483647)) := rfl
theorem tM_12 {q : Nat → Nat} {cI cJ cZ : ClassId} : (TM q cI cJ cZ)[12]? = some (arrT cI 336 (In 0 1100)) := rfl
theorem tM_13 {q : Nat → Nat} {cI cJ cZ : ClassId} : (TM q cI cJ cZ)[13]? = some (arrT cI 4400 (In (-2147483648) 2147483647)) := rfl
theorem tM_14 {q : Nat → Nat} {cI cJ cZ : ClassId} : (TM q cI cJ cZ)[14]? = some (arrT cI 2 (In 0 1100)) := rfl
theorem tM_15 {q : Nat → Nat} {cI cJ cZ : ClassId} : (TM q cI cJ cZ)[15]? = some (arrL cJ 2200) := rfl
theorem tM_16 {q : Nat → Nat} {cI cJ cZ : ClassId} : (TM q cI cJ cZ)[16]? = some (arrT cI 20 (In 0 5)) := rfl
theorem tM_17 {q : Nat → Nat} {cI cJ cZ : ClassId} : (TM q cI cJ cZ)[17]? = some (arrT cI 20 (In 0 2)) := rfl
theorem tM_18 {q : Nat → Nat} {cI cJ cZ : ClassId} : (TM q cI cJ cZ)[18]? = some (arrT cZ 20 (In 0 1)) := rfl
theorem tM_19 {q : Nat → Nat} {cI cJ cZ : ClassId} : (TM q cI cJ cZ)[19]? = some (arrT cI 20 (In 0 400)) := rfl
theorem tM_20 {q : Nat → Nat} {cI cJ cZ : ClassId} : (TM q cI cJ cZ)[20]? = some (arrT cI 400 (In 0 18)) := rfl
theorem tM_21 {q : Nat → Nat} {cI cJ cZ : ClassId} : (TM q cI cJ cZ)[21]? = some (arrT cI 201 (In (-2147483648) 2147483647)) := rfl
theorem tM_22 {q : Nat → Nat} {cI cJ cZ : ClassId} : (TM q cI cJ cZ)[22]? = some (arrT cI 1005 (In (-2147483648) 2147483647)) := rfl
theorem tM_23 {q : Nat → Nat} {cI cJ cZ : ClassId} : (TM q cI cJ cZ)[23]? = some (arrT cI 201 (In (-2147483648) 2147483647)) := rfl
theorem tM_24 {q : Nat → Nat} {cI cJ cZ : ClassId} : (TM q cI cJ cZ)[24]? = some (arrL cJ 603) := rfl
theorem tM_25 {q : Nat → Nat} {cI cJ cZ : ClassId} : (TM q cI cJ cZ)[25]? = some (arrL cJ 3) := rfl
theorem tM_26 {q : Nat → Nat} {cI cJ cZ : ClassId} : (TM q cI cJ cZ)[26]? = some (arrT cI 40 (In (-2147483648) 2147483647)) := rfl
theorem tM_27 {q : Nat → Nat} {cI cJ cZ : ClassId} : (TM q cI cJ cZ)[27]? = some (arrT cI 40 (In (-2147483648) 2147483647)) := rfl
theorem tM_28 {q : Nat → Nat} {cI cJ cZ : ClassId} : (TM q cI cJ cZ)[28]? = some (arrT cI 40 (In (-2147483648) 2147483647)) := rfl
theorem tM_29 {q : Nat → Nat} {cI cJ cZ : ClassId} : (TM q cI cJ cZ)[29]? = some (arrT cI 40 (In (-2147483648) 2147483647)) := rfl
theorem tM_30 {q : Nat → Nat} {cI cJ cZ : ClassId} : (TM q cI cJ cZ)[30]? = some (arrT cI 40 (In (-2147483648) 2147483647)) := rfl
theorem tM_31 {q : Nat → Nat} {cI cJ cZ : ClassId} : (TM q cI cJ cZ)[31]? = some (arrT cI 40 (In (-2147483648) 2147483647)) := rfl
theorem tM_32 {q : Nat → Nat} {cI cJ cZ : ClassId} : (TM q cI cJ cZ)[32]? = some (arrT cI 40 (In 0 24)) := rfl
theorem tM_33 {q : Nat → Nat} {cI cJ cZ : ClassId} : (TM q cI cJ cZ)[33]? = some (arrT cI 40 (In 0 4)) := rfl
theorem tM_34 {q : Nat → Nat} {cI cJ cZ : ClassId} : (TM q cI cJ cZ)[34]? = some (arrL cJ 160) := rfl
theorem tM_35 {q : Nat → Nat} {cI cJ cZ : ClassId} : (TM q cI cJ cZ)[35]? = some (arrT cI 40 (In (-2147483648) 2147483647)) := rfl
theorem tM_36 {q : Nat → Nat} {cI cJ cZ : ClassId} : (TM q cI cJ cZ)[36]? = some (arrT cI 201 (In (-1) 39)) := rfl
theorem tM_37 {q : Nat → Nat} {cI cJ cZ : ClassId} : (TM q cI cJ cZ)[37]? = some (arrL cJ 1200) := rfl
theorem tM_38 {q : Nat → Nat} {cI cJ cZ : ClassId} : (TM q cI cJ cZ)[38]? = some (arrT cI 2200 (In 0 289)) := rfl
theorem tM_39 {q : Nat → Nat} {cI cJ cZ : ClassId} : (TM q cI cJ cZ)[39]? = some (arrT cI 2200 (In 0 289)) := rfl
theorem tM_40 {q : Nat → Nat} {cI cJ cZ : ClassId} : (TM q cI cJ cZ)[40]? = some (arrT cI 2200 (In (-2147483648) 2147483647)) := rfl
theorem tM_41 {q : Nat → Nat} {cI cJ cZ : ClassId} : (TM q cI cJ cZ)[41]? = some (arrL cJ 2200) := rfl
theorem tM_42 {q : Nat → Nat} {cI cJ cZ : ClassId} : (TM q cI cJ cZ)[42]? = some (arrL cJ 290) := rfl
theorem tM_43 {q : Nat → Nat} {cI cJ cZ : ClassId} : (TM q cI cJ cZ)[43]? = some (arrT cI 290 (In 0 2199)) := rfl
theorem tM_44 {q : Nat → Nat} {cI cJ cZ : ClassId} : (TM q cI cJ cZ)[44]? = some (arrT cI 400 (In (-1) 2198)) := rfl
theorem tM_45 {q : Nat → Nat} {cI cJ cZ : ClassId} : (TM q cI cJ cZ)[45]? = some (arrT cZ 400 (In 0 1)) := rfl
theorem tM_46 {q : Nat → Nat} {cI cJ cZ : ClassId} : (TM q cI cJ cZ)[46]? = some (arrT cI 250 (In (-2147483648) 2147483647)) := rfl
theorem tM_47 {q : Nat → Nat} {cI cJ cZ : ClassId} : (TM q cI cJ cZ)[47]? = some (arrT cI 40 (In (-2147483648) 2147483647)) := rfl
theorem tM_48 {q : Nat → Nat} {cI cJ cZ : ClassId} : (TM q cI cJ cZ)[48]? = some (arrT cI 40 (In (-2147483648) 2147483647)) := rfl
theorem tM_49 {q : Nat → Nat} {cI cJ cZ : ClassId} : (TM q cI cJ cZ)[49]? = some (arrT cI 40 (In (-2147483648) 2147483647)) := rfl
theorem tM_50 {q : Nat → Nat} {cI cJ cZ : ClassId} : (TM q cI cJ cZ)[50]? = some (arrT cI 40 (In (-2147483648) 2147483647)) := rfl
theorem tM_51 {q : Nat → Nat} {cI cJ cZ : ClassId} : (TM q cI cJ cZ)[51]? = some (arrT cZ 400 (In 0 1)) := rfl
theorem tM_52 {q : Nat → Nat} {cI cJ cZ : ClassId} : (TM q cI cJ cZ)[52]? = some (arrT cI 40 (In (-2147483648) 2147483647)) := rfl
theorem tM_53 {q : Nat → Nat} {cI cJ cZ : ClassId} : (TM q cI cJ cZ)[53]? = some (arrT cI 40 (In (-2147483648) 2147483647)) := rfl
theorem tM_54 {q : Nat → Nat} {cI cJ cZ : ClassId} : (TM q cI cJ cZ)[54]? = some (arrT cI 10 (In (-2147483648) 2147483647)) := rfl
theorem tM_55 {q : Nat → Nat} {cI cJ cZ : ClassId} : (TM q cI cJ cZ)[55]? = some (arrT cI 10 (In (-2147483648) 2147483647)) := rfl
theorem tM_56 {q : Nat → Nat} {cI cJ cZ : ClassId} : (TM q cI cJ cZ)[56]? = some (arrT cI 40 (In (-2147483648) 2147483647)) := rfl
theorem tM_57 {q : Nat → Nat} {cI cJ cZ : ClassId} : (TM q cI cJ cZ)[57]? = some (arrT cI 40 (In (-2147483648) 2147483647)) := rfl
theorem tM_58 {q : Nat → Nat} {cI cJ cZ : ClassId} : (TM q cI cJ cZ)[58]? = some (arrT cZ 40 (In 0 1)) := rfl
theorem tM_59 {q : Nat → Nat} {cI cJ cZ : ClassId} : (TM q cI cJ cZ)[59]? = some (arrT cI 40 (In 0 39)) := rfl
theorem tM_60 {q : Nat → Nat} {cI cJ cZ : ClassId} : (TM q cI cJ cZ)[60]? = some (arrT cI 40 (In 0 39)) := rfl
theorem tM_61 {q : Nat → Nat} {cI cJ cZ : ClassId} : (TM q cI cJ cZ)[61]? = some (arrT cI 40 (In (-2147483648) 2147483647)) := rfl
theorem tM_62 {q : Nat → Nat} {cI cJ cZ : ClassId} : (TM q cI cJ cZ)[62]? = some (arrT cI 9 (In (-2147483648) 2147483647)) := rfl
theorem tM_63 {q : Nat → Nat} {cI cJ cZ : ClassId} : (TM q cI cJ cZ)[63]? = some (arrT cI 200 (In (-2147483648) 2147483647)) := rfl
