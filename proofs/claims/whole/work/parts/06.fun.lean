/-! the methods as functions of the state, printed by program out of the bytecode: f_X8 the class's, f_X9 the reference's; 'fu' bounds each loop's turns; none: the machine itself would throw, or a loop runs on -/
def f_X0_become (fu : Nat) (h : Nat) (a1 : Nat) (σ : ow_S) : Option (ow_S) :=
    ow_let (ow_sI σ h 0 (σ.1 a1 0)) <| fun σ_5 =>
    ow_let (ow_sI σ_5 h 1 (σ_5.1 a1 1)) <| fun σ_13 =>
    ow_let (ow_sI σ_13 h 2 (σ_13.1 a1 2)) <| fun σ_21 =>
    ow_let (ow_sI σ_21 h 3 (σ_21.1 a1 3)) <| fun σ_29 =>
    ow_let (ow_sI σ_29 h 4 (σ_29.1 a1 4)) <| fun σ_37 =>
    some σ_37
def L_X0_sees_53 (fu : Nat) (σ : ow_S) : Option (Int32 × ow_S) :=
    some ((1 : Int32), σ)
def L_X0_sees_36 (fu : Nat) (r0 : Nat) (x1 : Int32) (σ : ow_S) : Option (Int32 × ow_S) :=
    ow_ck (¬ ((σ.1 r0 1) + (2 : Int32)) = 0) <|
    if (ow_irem x1 ((σ.1 r0 1) + (2 : Int32))) = ((σ.1 r0 1) + (1 : Int32)) then (some ((0 : Int32), σ))
    else (L_X0_sees_53 fu σ)
def L_X0_sees_20 (fu : Nat) (r0 : Nat) (x1 : Int32) (σ : ow_S) : Option (Int32 × ow_S) :=
    if (σ.1 r0 0) = (1 : Int32) then (L_X0_sees_36 fu r0 x1 σ)
    else (if (σ.1 r0 0) = (3 : Int32) then (L_X0_sees_36 fu r0 x1 σ)
    else (L_X0_sees_53 fu σ))
def f_X0_sees (fu : Nat) (h : Nat) (a1 : Int32) (σ : ow_S) : Option (Int32 × ow_S) :=
    if (σ.1 h 0) = (3 : Int32) then (if ((σ.1 h 1) / (3 : Int32)) ≤ a1 then (L_X0_sees_20 fu h a1 σ)
    else (some ((0 : Int32), σ)))
    else (L_X0_sees_20 fu h a1 σ)
def L_X0_keepsFirst_42 (fu : Nat) (r0 : Nat) (s0 : Int32) (σ : ow_S) : Option (Int32 × ow_S) :=
    if (σ.1 r0 0) = (4 : Int32) then (if (s0 &&& (1 : Int32)) = (1 : Int32) then (some ((s0 - (1 : Int32)), σ))
    else (some (s0, σ)))
    else (some (s0, σ))
def L_X0_keepsFirst_18 (fu : Nat) (r0 : Nat) (x1 : Int32) (x2 : Int32) (σ : ow_S) : Option (Int32 × ow_S) :=
    ow_ck (¬ ((σ.1 r0 1) + (3 : Int32)) = 0) <|
    if (ow_irem x2 ((σ.1 r0 1) + (3 : Int32))) = ((σ.1 r0 1) + (2 : Int32)) then (L_X0_keepsFirst_42 fu r0 (x1 + (1 : Int32)) σ)
    else (L_X0_keepsFirst_42 fu r0 x1 σ)
def f_X0_keepsFirst (fu : Nat) (h : Nat) (a1 : Int32) (a2 : Int32) (σ : ow_S) : Option (Int32 × ow_S) :=
    if (σ.1 h 0) = (2 : Int32) then (L_X0_keepsFirst_18 fu h a1 a2 σ)
    else (if (σ.1 h 0) = (4 : Int32) then (L_X0_keepsFirst_18 fu h a1 a2 σ)
    else (some (a1, σ)))
def f_X0_goings (fu : Nat) (h : Nat) (σ : ow_S) : Option (Int32 × ow_S) :=
    if (σ.1 h 0) = (5 : Int32) then (some (((2 : Int32) + ((σ.1 h 1) / (5 : Int32))), σ))
    else (some ((1 : Int32), σ))
def f_X0_lowest (fu : Nat) (h : Nat) (a1 : Int32) (σ : ow_S) : Option (Int32 × ow_S) :=
    some ((a1 &&& (((1 : Int32) <<< ((σ.1 h 2) &&& 31)) - (1 : Int32))), σ)
def f_X2_start (fu : Nat) (a1 : Int32) (σ : ow_S) : Option (ow_S) :=
    ow_let (ow_sL σ 13 ((a1.toInt64) + (1 : Int64))) <| fun σ_5 =>
    some σ_5
def f_X2_below (fu : Nat) (a1 : Int32) (σ : ow_S) : Option (Int32 × ow_S) :=
    ow_let (ow_sL σ 13 (ow_lrem ((σ.2.1 13) * (48271 : Int64)) (2147483647 : Int64))) <| fun σ_13 =>
    if a1 ≤ 0 then (some ((0 : Int32), σ_13))
    else (ow_ck (¬ (a1.toInt64) = 0) <|
    some (((ow_lrem (σ_13.2.1 13) (a1.toInt64)).toInt32), σ_13))
def f_X3_take (fu : Nat) (a1 : Int32) (σ : ow_S) : Option (ow_S) :=
    if (160 : Int32) ≤ (σ.1 7 1) then (some σ)
    else (ow_ck (ow_bd (σ.1 7 1) 160) <|
    ow_let (ow_sI σ 8 ((σ.1 7 1).toNatClampNeg) a1) <| fun σ_19 =>
    ow_let (ow_sI σ_19 7 1 ((σ_19.1 7 1) + (1 : Int32))) <| fun σ_27 =>
    some σ_27)
def f_X6_clear (fu : Nat) (h : Nat) (σ : ow_S) : Option (ow_S) :=
    ow_let (ow_sI σ h 2 (0 : Int32)) <| fun σ_2 =>
    ow_let (ow_sI σ_2 h 3 (0 : Int32)) <| fun σ_7 =>
    some σ_7
def L_X3_isBlank_12 (fu : Nat) (σ : ow_S) : Option (Int32 × ow_S) :=
    some ((1 : Int32), σ)
def f_X3_isBlank (fu : Nat) (a1 : Int32) (σ : ow_S) : Option (Int32 × ow_S) :=
    if a1 = (32 : Int32) then (L_X3_isBlank_12 fu σ)
    else (if a1 = (10 : Int32) then (L_X3_isBlank_12 fu σ)
    else (some ((0 : Int32), σ)))
def f_X3_isLetter (fu : Nat) (a1 : Int32) (σ : ow_S) : Option (Int32 × ow_S) :=
    if a1 < (97 : Int32) then (some ((0 : Int32), σ))
    else (if (122 : Int32) < a1 then (some ((0 : Int32), σ))
    else (some ((1 : Int32), σ)))
def L_X3_endOfLetters_10 (fu : Nat) : Nat → Int32 → Int32 → ow_S → Option (Int32 × ow_S)
  | 0, _, _, _ => none
  | fn + 1, x1, x2, σ =>
    if (σ.1 7 1) ≤ x2 then (some (x1, σ))
    else (ow_ck (ow_bd x2 160) <|
    ow_cl (f_X3_isLetter fu (σ.1 8 x2.toNatClampNeg) σ) <| fun r_24 σ_24 =>
    if r_24 = 0 then (some (x1, σ_24))
    else (ow_let (x2 + (1 : Int32)) <| fun x1_33 =>
    ow_let (x2 + (1 : Int32)) <| fun x2_34 =>
    (L_X3_endOfLetters_10 fu fn) x1_33 x2_34 σ_24))
def f_X3_endOfLetters (fu : Nat) (σ : ow_S) : Option (Int32 × ow_S) :=
    ow_let (σ.1 7 2) <| fun x1_4 =>
    ow_let (σ.1 7 2) <| fun x2_9 =>
    L_X3_endOfLetters_10 fu fu x1_4 x2_9 σ
def L_X3_isWord_26 (fu : Nat) : Nat → Int32 → Int32 → Nat → Int32 → ow_S → Option (Int32 × ow_S)
  | 0, _, _, _, _, _ => none
  | fn + 1, x1, x2, w3, x4, σ =>
    if x2 ≤ x4 then (some ((1 : Int32), σ))
    else (ow_ck (ow_bd (x1 + x4) 160) <|
    ow_ck (ow_bd x4 (ow_sl.getD w3 0)) <|
    if (σ.1 8 (x1 + x4).toNatClampNeg) = (ow_ch w3 x4) then (ow_let (x4 + (1 : Int32)) <| fun x4_52 =>
    (L_X3_isWord_26 fu fn) x1 x2 w3 x4_52 σ)
    else (some ((0 : Int32), σ)))
def f_X3_isWord (fu : Nat) (a1 : Int32) (a2 : Int32) (a3 : Nat) (σ : ow_S) : Option (Int32 × ow_S) :=
    if a2 = (nI (ow_sl.getD a3 0)) then (if a1 < 0 then (some ((0 : Int32), σ))
    else (if (a1 + a2) ≤ (160 : Int32) then (L_X3_isWord_26 fu fu a1 a2 a3 (0 : Int32) σ)
    else (some ((0 : Int32), σ))))
    else (some ((0 : Int32), σ))
def f_X3_wordToken (fu : Nat) (a1 : Int32) (σ : ow_S) : Option (Int32 × ow_S) :=
    ow_let (σ.1 7 2) <| fun x2_4 =>
    ow_let (ow_sI σ 7 2 (x2_4 + a1)) <| fun σ_9 =>
    ow_cl (f_X3_isWord fu x2_4 a1 1 σ_9) <| fun r_17 σ_17 =>
    if r_17 = 0 then (ow_cl (f_X3_isWord fu x2_4 a1 2 σ_17) <| fun r_30 σ_30 =>
    if r_30 = 0 then (ow_cl (f_X3_isWord fu x2_4 a1 3 σ_30) <| fun r_43 σ_43 =>
    if r_43 = 0 then (ow_cl (f_X3_isWord fu x2_4 a1 4 σ_43) <| fun r_56 σ_56 =>
    if r_56 = 0 then (ow_cl (f_X3_isWord fu x2_4 a1 5 σ_56) <| fun r_69 σ_69 =>
    if r_69 = 0 then (ow_cl (f_X3_isWord fu x2_4 a1 6 σ_69) <| fun r_82 σ_82 =>
    if r_82 = 0 then (ow_cl (f_X3_isWord fu x2_4 a1 7 σ_82) <| fun r_95 σ_95 =>
    if r_95 = 0 then (ow_cl (f_X3_isWord fu x2_4 a1 8 σ_95) <| fun r_109 σ_109 =>
    if r_109 = 0 then (ow_cl (f_X3_isWord fu x2_4 a1 9 σ_109) <| fun r_123 σ_123 =>
    if r_123 = 0 then (ow_cl (f_X3_isWord fu x2_4 a1 10 σ_123) <| fun r_137 σ_137 =>
    if r_137 = 0 then (ow_cl (f_X3_isWord fu x2_4 a1 11 σ_137) <| fun r_151 σ_151 =>
    if r_151 = 0 then (ow_cl (f_X3_isWord fu x2_4 a1 12 σ_151) <| fun r_165 σ_165 =>
    if r_165 = 0 then (some ((22 : Int32), σ_165))
    else (some ((20 : Int32), σ_165)))
    else (some ((19 : Int32), σ_151)))
    else (some ((18 : Int32), σ_137)))
    else (some ((8 : Int32), σ_123)))
    else (some ((7 : Int32), σ_109)))
    else (some ((6 : Int32), σ_95)))
    else (some ((5 : Int32), σ_82)))
    else (some ((4 : Int32), σ_69)))
    else (some ((3 : Int32), σ_56)))
    else (some ((2 : Int32), σ_43)))
    else (some ((1 : Int32), σ_30)))
    else (some ((0 : Int32), σ_17))
def f_X3_isDigit (fu : Nat) (a1 : Int32) (σ : ow_S) : Option (Int32 × ow_S) :=
    if a1 < (48 : Int32) then (some ((0 : Int32), σ))
    else (if (57 : Int32) < a1 then (some ((0 : Int32), σ))
    else (some ((1 : Int32), σ)))
def L_X3_numberToken_65 (fu : Nat) (x1 : Int32) (x2 : Int32) (σ : ow_S) : Option (Int32 × ow_S) :=
    if (4 : Int32) < x1 then (some ((22 : Int32), σ))
    else (some (((100 : Int32) + x2), σ))
def L_X3_numberToken_59 (fu : Nat) (k9 : Int32 → Int32 → Int32 → ow_S → Option (Int32 × ow_S)) (x1 : Int32) (x2 : Int32) (x3 : Int32) (σ : ow_S) : Option (Int32 × ow_S) :=
    ow_let (x3 + (1 : Int32)) <| fun x3_59 =>
    k9 x1 x2 x3_59 σ
def L_X3_numberToken_9 (fu : Nat) : Nat → Int32 → Int32 → Int32 → ow_S → Option (Int32 × ow_S)
  | 0, _, _, _, _ => none
  | fn + 1, x1, x2, x3, σ =>
    if (σ.1 7 1) ≤ x3 then (L_X3_numberToken_65 fu x1 x2 σ)
    else (ow_ck (ow_bd x3 160) <|
    ow_cl (f_X3_isDigit fu (σ.1 8 x3.toNatClampNeg) σ) <| fun r_23 σ_23 =>
    if r_23 = 0 then (L_X3_numberToken_65 fu x1 x2 σ_23)
    else (ow_let (ow_sI σ_23 7 2 (x3 + (1 : Int32))) <| fun σ_33 =>
    ow_let (x1 + (1 : Int32)) <| fun x1_36 =>
    if (4 : Int32) < x1_36 then (L_X3_numberToken_59 fu (L_X3_numberToken_9 fu fn) x1_36 x2 x3 σ_33)
    else (ow_ck (ow_bd x3 160) <|
    ow_let (((x2 * (10 : Int32)) + (σ_33.1 8 x3.toNatClampNeg)) - (48 : Int32)) <| fun x2_58 =>
    L_X3_numberToken_59 fu (L_X3_numberToken_9 fu fn) x1_36 x2_58 x3 σ_33)))
def f_X3_numberToken (fu : Nat) (σ : ow_S) : Option (Int32 × ow_S) :=
    ow_let (σ.1 7 2) <| fun x3_8 =>
    L_X3_numberToken_9 fu fu (0 : Int32) (0 : Int32) x3_8 σ
def f_X3_signToken (fu : Nat) (a1 : Int32) (σ : ow_S) : Option (Int32 × ow_S) :=
    if a1 = (40 : Int32) then (some ((15 : Int32), σ))
    else (if a1 = (41 : Int32) then (some ((16 : Int32), σ))
    else (if a1 = (42 : Int32) then (some ((13 : Int32), σ))
    else (if a1 = (43 : Int32) then (some ((11 : Int32), σ))
    else (if a1 = (44 : Int32) then (some ((22 : Int32), σ))
    else (if a1 = (45 : Int32) then (some ((12 : Int32), σ))
    else (if a1 = (46 : Int32) then (some ((22 : Int32), σ))
    else (if a1 = (47 : Int32) then (some ((22 : Int32), σ))
    else (if a1 = (48 : Int32) then (some ((22 : Int32), σ))
    else (if a1 = (49 : Int32) then (some ((22 : Int32), σ))
    else (if a1 = (50 : Int32) then (some ((22 : Int32), σ))
    else (if a1 = (51 : Int32) then (some ((22 : Int32), σ))
    else (if a1 = (52 : Int32) then (some ((22 : Int32), σ))
    else (if a1 = (53 : Int32) then (some ((22 : Int32), σ))
    else (if a1 = (54 : Int32) then (some ((22 : Int32), σ))
    else (if a1 = (55 : Int32) then (some ((22 : Int32), σ))
    else (if a1 = (56 : Int32) then (some ((22 : Int32), σ))
    else (if a1 = (57 : Int32) then (some ((22 : Int32), σ))
    else (if a1 = (58 : Int32) then (some ((22 : Int32), σ))
    else (if a1 = (59 : Int32) then (some ((17 : Int32), σ))
    else (if a1 = (60 : Int32) then (some ((9 : Int32), σ))
    else (if a1 = (61 : Int32) then (some ((10 : Int32), σ))
    else (some ((22 : Int32), σ)))))))))))))))))))))))
def L_X3_advance_38 (fu : Nat) (σ : ow_S) : Option (ow_S) :=
    ow_let (ow_sI σ 7 4 (σ.1 7 2)) <| fun σ_43 =>
    if (σ_43.1 7 2) < (σ_43.1 7 1) then (ow_ck (ow_bd (σ_43.1 7 2) 160) <|
    ow_cl (f_X3_isLetter fu (σ_43.1 8 (σ_43.1 7 2).toNatClampNeg) σ_43) <| fun r_75 σ_75 =>
    if r_75 = 0 then (ow_ck (ow_bd (σ_75.1 7 2) 160) <|
    ow_cl (f_X3_isDigit fu (σ_75.1 8 (σ_75.1 7 2).toNatClampNeg) σ_75) <| fun r_110 σ_110 =>
    if r_110 = 0 then (ow_ck (ow_bd (σ_110.1 7 2) 160) <|
    ow_cl (f_X3_signToken fu (σ_110.1 8 (σ_110.1 7 2).toNatClampNeg) σ_110) <| fun r_137 σ_137 =>
    ow_let (ow_sI σ_137 7 3 r_137) <| fun σ_140 =>
    ow_let (ow_sI σ_140 7 2 ((σ_140.1 7 2) + (1 : Int32))) <| fun σ_150 =>
    some σ_150)
    else (ow_cl (f_X3_numberToken fu σ_110) <| fun r_118 σ_118 =>
    ow_let (ow_sI σ_118 7 3 r_118) <| fun σ_121 =>
    some σ_121))
    else (ow_cl (f_X3_endOfLetters fu σ_75) <| fun r_84 σ_84 =>
    ow_cl (f_X3_wordToken fu (r_84 - (σ_84.1 7 2)) σ_84) <| fun r_92 σ_92 =>
    ow_let (ow_sI σ_92 7 3 r_92) <| fun σ_95 =>
    some σ_95))
    else (ow_let (ow_sI σ_43 7 3 (21 : Int32)) <| fun σ_60 =>
    some σ_60)
def L_X3_advance_5 (fu : Nat) : Nat → Int32 → ow_S → Option (ow_S)
  | 0, _, _ => none
  | fn + 1, x1, σ =>
    if (σ.1 7 1) ≤ x1 then (L_X3_advance_38 fu σ)
    else (ow_ck (ow_bd x1 160) <|
    ow_cl (f_X3_isBlank fu (σ.1 8 x1.toNatClampNeg) σ) <| fun r_19 σ_19 =>
    if r_19 = 0 then (L_X3_advance_38 fu σ_19)
    else (ow_let (ow_sI σ_19 7 2 (x1 + (1 : Int32))) <| fun σ_29 =>
    ow_let (x1 + (1 : Int32)) <| fun x1_32 =>
    (L_X3_advance_5 fu fn) x1_32 σ_29))
def f_X3_advance (fu : Nat) (σ : ow_S) : Option (ow_S) :=
    ow_let (σ.1 7 2) <| fun x1_4 =>
    L_X3_advance_5 fu fu x1_4 σ
def L_X3_refuse_16 (fu : Nat) (σ : ow_S) : Option (ow_S) :=
    ow_let (ow_sI σ 7 3 (22 : Int32)) <| fun σ_19 =>
    some σ_19
def f_X3_refuse (fu : Nat) (σ : ow_S) : Option (ow_S) :=
    if (σ.1 7 5) = (-1 : Int32) then (ow_let (ow_sI σ 7 5 (σ.1 7 4)) <| fun σ_13 =>
    L_X3_refuse_16 fu σ_13)
    else (L_X3_refuse_16 fu σ)
def f_X3_expect (fu : Nat) (a1 : Int32) (σ : ow_S) : Option (ow_S) :=
    if (σ.1 7 3) = a1 then (ow_cv (f_X3_advance fu σ) <| fun σ_9 =>
    some σ_9)
    else (ow_cv (f_X3_refuse fu σ) <| fun σ_16 =>
    some σ_16)
def f_X6_add (fu : Nat) (h : Nat) (a1 : Int32) (σ : ow_S) : Option (ow_S) :=
    if (160 : Int32) ≤ (σ.1 h 2) then (some σ)
    else (ow_ck (ow_bd (σ.1 h 2) 160) <|
    ow_let (ow_sI σ (h + 1) ((σ.1 h 2).toNatClampNeg) a1) <| fun σ_19 =>
    ow_let (ow_sI σ_19 h 2 ((σ_19.1 h 2) + (1 : Int32))) <| fun σ_27 =>
    some σ_27)
def f_X3_put (fu : Nat) (a1 : Int32) (σ : ow_S) : Option (ow_S) :=
    ow_op (σ.2.2 7 6) (some σ) <| fun t4 =>
    ow_cv (f_X6_add fu t4 a1 σ) <| fun σ_12 =>
    some σ_12
def L_X3_readOne_18 (fu : Nat) (g : Nat → Int32 → ow_S → Option ow_S) (σ : ow_S) : Option (ow_S) :=
    ow_cv (f_X3_put fu (σ.1 7 3) σ) <| fun σ_23 =>
    ow_cv (f_X3_advance fu σ_23) <| fun σ_27 =>
    some σ_27
def L_X3_readOne_101 (fu : Nat) (g : Nat → Int32 → ow_S → Option ow_S) (σ : ow_S) : Option (ow_S) :=
    ow_cv (f_X3_refuse fu σ) <| fun σ_102 =>
    some σ_102
def L_X3_readOne_67 (fu : Nat) (g : Nat → Int32 → ow_S → Option ow_S) (x1 : Int32) (σ : ow_S) : Option (ow_S) :=
    if (σ.1 7 3) = (15 : Int32) then (if (5 : Int32) ≤ x1 then (L_X3_readOne_101 fu g σ)
    else (ow_cv (f_X3_advance fu σ) <| fun σ_82 =>
    ow_cv (g 0 (x1 + (1 : Int32)) σ_82) <| fun σ_89 =>
    ow_cv (f_X3_expect fu (16 : Int32) σ_89) <| fun σ_95 =>
    some σ_95))
    else (L_X3_readOne_101 fu g σ)
def b_X3_readOne (fu : Nat) (g : Nat → Int32 → ow_S → Option ow_S) (a1 : Int32) (σ : ow_S) : Option (ow_S) :=
    if (100 : Int32) ≤ (σ.1 7 3) then (L_X3_readOne_18 fu g σ)
    else (if (6 : Int32) ≤ (σ.1 7 3) then (if (σ.1 7 3) = (12 : Int32) then (if (5 : Int32) ≤ a1 then (L_X3_readOne_67 fu g a1 σ)
    else (ow_cv (f_X3_advance fu σ) <| fun σ_48 =>
    ow_cv (g 5 (a1 + (1 : Int32)) σ_48) <| fun σ_55 =>
    ow_cv (f_X3_put fu (14 : Int32) σ_55) <| fun σ_61 =>
    some σ_61))
    else (L_X3_readOne_67 fu g a1 σ))
    else (L_X3_readOne_18 fu g σ))
def L_X3_readTerm_7 (fu : Nat) (g : Nat → Int32 → ow_S → Option ow_S) : Nat → Int32 → Int32 → ow_S → Option (ow_S)
  | 0, _, _, _ => none
  | fn + 1, x1, x2, σ =>
    if (160 : Int32) ≤ x2 then (some σ)
    else (if (σ.1 7 3) = (13 : Int32) then (ow_cv (f_X3_advance fu σ) <| fun σ_24 =>
    ow_cv (g 5 x1 σ_24) <| fun σ_29 =>
    ow_cv (f_X3_put fu (13 : Int32) σ_29) <| fun σ_35 =>
    ow_let (x2 + (1 : Int32)) <| fun x2_38 =>
    (L_X3_readTerm_7 fu g fn) x1 x2_38 σ_35)
    else (some σ))
def b_X3_readTerm (fu : Nat) (g : Nat → Int32 → ow_S → Option ow_S) (a1 : Int32) (σ : ow_S) : Option (ow_S) :=
    ow_cv (g 5 a1 σ) <| fun σ_2 =>
    L_X3_readTerm_7 fu g fu a1 (0 : Int32) σ_2
def L_X3_readSum_32 (fu : Nat) (g : Nat → Int32 → ow_S → Option ow_S) (k7 : Int32 → Int32 → ow_S → Option (ow_S)) (x1 : Int32) (x2 : Int32) (σ : ow_S) : Option (ow_S) :=
    ow_let (σ.1 7 3) <| fun x3_36 =>
    ow_cv (f_X3_advance fu σ) <| fun σ_38 =>
    ow_cv (g 4 x1 σ_38) <| fun σ_43 =>
    ow_cv (f_X3_put fu x3_36 σ_43) <| fun σ_48 =>
    ow_let (x2 + (1 : Int32)) <| fun x2_51 =>
    k7 x1 x2_51 σ_48
def L_X3_readSum_7 (fu : Nat) (g : Nat → Int32 → ow_S → Option ow_S) : Nat → Int32 → Int32 → ow_S → Option (ow_S)
  | 0, _, _, _ => none
  | fn + 1, x1, x2, σ =>
    if (160 : Int32) ≤ x2 then (some σ)
    else (if (σ.1 7 3) = (11 : Int32) then (L_X3_readSum_32 fu g (L_X3_readSum_7 fu g fn) x1 x2 σ)
    else (if (σ.1 7 3) = (12 : Int32) then (L_X3_readSum_32 fu g (L_X3_readSum_7 fu g fn) x1 x2 σ)
    else (some σ)))
def b_X3_readSum (fu : Nat) (g : Nat → Int32 → ow_S → Option ow_S) (a1 : Int32) (σ : ow_S) : Option (ow_S) :=
    ow_cv (g 4 a1 σ) <| fun σ_2 =>
    L_X3_readSum_7 fu g fu a1 (0 : Int32) σ_2
def L_X3_readNot_55 (fu : Nat) (g : Nat → Int32 → ow_S → Option ow_S) (x1 : Int32) (σ : ow_S) : Option (ow_S) :=
    ow_let (σ.1 7 3) <| fun x2_59 =>
    ow_cv (f_X3_advance fu σ) <| fun σ_61 =>
    ow_cv (g 3 x1 σ_61) <| fun σ_66 =>
    ow_cv (f_X3_put fu x2_59 σ_66) <| fun σ_71 =>
    some σ_71
def L_X3_readNot_32 (fu : Nat) (g : Nat → Int32 → ow_S → Option ow_S) (x1 : Int32) (σ : ow_S) : Option (ow_S) :=
    ow_cv (g 3 x1 σ) <| fun σ_34 =>
    if (σ_34.1 7 3) = (9 : Int32) then (L_X3_readNot_55 fu g x1 σ_34)
    else (if (σ_34.1 7 3) = (10 : Int32) then (L_X3_readNot_55 fu g x1 σ_34)
    else (some σ_34))
def b_X3_readNot (fu : Nat) (g : Nat → Int32 → ow_S → Option ow_S) (a1 : Int32) (σ : ow_S) : Option (ow_S) :=
    if (σ.1 7 3) = (8 : Int32) then (if (5 : Int32) ≤ a1 then (L_X3_readNot_32 fu g a1 σ)
    else (ow_cv (f_X3_advance fu σ) <| fun σ_15 =>
    ow_cv (g 2 (a1 + (1 : Int32)) σ_15) <| fun σ_22 =>
    ow_cv (f_X3_put fu (8 : Int32) σ_22) <| fun σ_28 =>
    some σ_28))
    else (L_X3_readNot_32 fu g a1 σ)
def L_X3_readBoth_7 (fu : Nat) (g : Nat → Int32 → ow_S → Option ow_S) : Nat → Int32 → Int32 → ow_S → Option (ow_S)
  | 0, _, _, _ => none
  | fn + 1, x1, x2, σ =>
    if (160 : Int32) ≤ x2 then (some σ)
    else (if (σ.1 7 3) = (7 : Int32) then (ow_cv (f_X3_advance fu σ) <| fun σ_24 =>
    ow_cv (g 2 x1 σ_24) <| fun σ_29 =>
    ow_cv (f_X3_put fu (7 : Int32) σ_29) <| fun σ_35 =>
    ow_let (x2 + (1 : Int32)) <| fun x2_38 =>
    (L_X3_readBoth_7 fu g fn) x1 x2_38 σ_35)
    else (some σ))
def b_X3_readBoth (fu : Nat) (g : Nat → Int32 → ow_S → Option ow_S) (a1 : Int32) (σ : ow_S) : Option (ow_S) :=
    ow_cv (g 2 a1 σ) <| fun σ_2 =>
    L_X3_readBoth_7 fu g fu a1 (0 : Int32) σ_2
def L_X3_readEither_7 (fu : Nat) (g : Nat → Int32 → ow_S → Option ow_S) : Nat → Int32 → Int32 → ow_S → Option (ow_S)
  | 0, _, _, _ => none
  | fn + 1, x1, x2, σ =>
    if (160 : Int32) ≤ x2 then (some σ)
    else (if (σ.1 7 3) = (6 : Int32) then (ow_cv (f_X3_advance fu σ) <| fun σ_24 =>
    ow_cv (g 1 x1 σ_24) <| fun σ_29 =>
    ow_cv (f_X3_put fu (6 : Int32) σ_29) <| fun σ_35 =>
    ow_let (x2 + (1 : Int32)) <| fun x2_38 =>
    (L_X3_readEither_7 fu g fn) x1 x2_38 σ_35)
    else (some σ))
def b_X3_readEither (fu : Nat) (g : Nat → Int32 → ow_S → Option ow_S) (a1 : Int32) (σ : ow_S) : Option (ow_S) :=
    ow_cv (g 1 a1 σ) <| fun σ_2 =>
    L_X3_readEither_7 fu g fu a1 (0 : Int32) σ_2
def f_X3_G (fu : Nat) : Nat → Nat → Int32 → ow_S → Option ow_S
  | 0, _, _, _ => none
  | d + 1, t, o, σ => if t = 0 then b_X3_readEither fu (f_X3_G fu d) o σ else if t = 1 then b_X3_readBoth fu (f_X3_G fu d) o σ else if t = 2 then b_X3_readNot fu (f_X3_G fu d) o σ else if t = 3 then b_X3_readSum fu (f_X3_G fu d) o σ else if t = 4 then b_X3_readTerm fu (f_X3_G fu d) o σ else b_X3_readOne fu (f_X3_G fu d) o σ
def f_X6_endPart (fu : Nat) (h : Nat) (σ : ow_S) : Option (ow_S) :=
    if (3 : Int32) ≤ (σ.1 h 3) then (some σ)
    else (ow_ck (ow_bd (σ.1 h 3) 3) <|
    ow_let (ow_sI σ (h + 2) ((σ.1 h 3).toNatClampNeg) (σ.1 h 2)) <| fun σ_20 =>
    ow_let (ow_sI σ_20 h 3 ((σ_20.1 h 3) + (1 : Int32))) <| fun σ_28 =>
    some σ_28)
def f_X3_readPart (fu : Nat) (a1 : Int32) (σ : ow_S) : Option (ow_S) :=
    ow_cv (f_X3_expect fu a1 σ) <| fun σ_2 =>
    ow_cv (f_X3_G fu 40 0 (0 : Int32) σ_2) <| fun σ_7 =>
    ow_cv (f_X3_expect fu (17 : Int32) σ_7) <| fun σ_13 =>
    ow_op (σ_13.2.2 7 6) (some σ_13) <| fun t20 =>
    ow_cv (f_X6_endPart fu t20 σ_13) <| fun σ_27 =>
    some σ_27
def f_X3_expectAtEnd (fu : Nat) (σ : ow_S) : Option (ow_S) :=
    if (σ.1 7 3) = (21 : Int32) then (some σ)
    else (ow_cv (f_X3_refuse fu σ) <| fun σ_10 =>
    some σ_10)
def f_X3_readInto (fu : Nat) (a1 : Nat) (σ : ow_S) : Option (Int32 × ow_S) :=
    ow_cv (f_X6_clear fu a1 σ) <| fun σ_1 =>
    ow_let (ow_sR σ_1 7 6 (some a1)) <| fun σ_6 =>
    ow_let (ow_sI σ_6 7 2 (0 : Int32)) <| fun σ_11 =>
    ow_let (ow_sI σ_11 7 5 (-1 : Int32)) <| fun σ_16 =>
    ow_cv (f_X3_advance fu σ_16) <| fun σ_20 =>
    ow_cv (f_X3_readPart fu (18 : Int32) σ_20) <| fun σ_26 =>
    ow_cv (f_X3_readPart fu (19 : Int32) σ_26) <| fun σ_32 =>
    ow_cv (f_X3_readPart fu (20 : Int32) σ_32) <| fun σ_38 =>
    ow_cv (f_X3_expectAtEnd fu σ_38) <| fun σ_42 =>
    ow_let (ow_sI σ_42 7 1 (0 : Int32)) <| fun σ_47 =>
    some ((σ_47.1 7 5), σ_47)
def f_X4_has (fu : Nat) (h : Nat) (a1 : Int32) (σ : ow_S) : Option (Int32 × ow_S) :=
    if a1 < 0 then (some ((0 : Int32), σ))
    else (if (σ.1 h 1) ≤ a1 then (some ((0 : Int32), σ))
    else (some ((1 : Int32), σ)))
def f_X4_add (fu : Nat) (h : Nat) (a1 : Int32) (σ : ow_S) : Option (Int32 × ow_S) :=
    if (σ.1 h 1) < (60 : Int32) then (ow_ck (ow_bd (σ.1 h 1) 60) <|
    ow_let (ow_sI σ (h + 1) ((σ.1 h 1).toNatClampNeg) a1) <| fun σ_20 =>
    ow_let (ow_sI σ_20 h 1 ((σ_20.1 h 1) + (1 : Int32))) <| fun σ_28 =>
    some ((1 : Int32), σ_28))
    else (some ((0 : Int32), σ))
def L_X4_become_7 (fu : Nat) : Nat → Nat → Nat → Int32 → ow_S → Option (ow_S)
  | 0, _, _, _, _ => none
  | fn + 1, r0, r1, x2, σ =>
    if (σ.1 r1 1) ≤ x2 then (some σ)
    else (ow_ck (ow_bd x2 60) <|
    ow_cl (f_X4_add fu r0 (σ.1 (r1 + 1) x2.toNatClampNeg) σ) <| fun r_22 σ_22 =>
    ow_let (x2 + (1 : Int32)) <| fun x2_26 =>
    (L_X4_become_7 fu fn) r0 r1 x2_26 σ_22)
def f_X4_become (fu : Nat) (h : Nat) (a1 : Nat) (σ : ow_S) : Option (ow_S) :=
    ow_let (ow_sI σ h 1 (0 : Int32)) <| fun σ_2 =>
    L_X4_become_7 fu fu h a1 (0 : Int32) σ_2
def L_X4_becomeAllBut_44 (fu : Nat) (k8 : Nat → Int32 → Int32 → Int32 → Int32 → ow_S → Option (ow_S)) (r0 : Nat) (x1 : Int32) (x2 : Int32) (x3 : Int32) (x4 : Int32) (σ : ow_S) : Option (ow_S) :=
    ow_let (x4 + (1 : Int32)) <| fun x4_44 =>
    k8 r0 x1 x2 x3 x4_44 σ
def L_X4_becomeAllBut_29 (fu : Nat) (k8 : Nat → Int32 → Int32 → Int32 → Int32 → ow_S → Option (ow_S)) (r0 : Nat) (x1 : Int32) (x2 : Int32) (x3 : Int32) (x4 : Int32) (s0 : Int32) (σ : ow_S) : Option (ow_S) :=
    if s0 = x1 then (L_X4_becomeAllBut_44 fu k8 r0 x1 x2 x3 x4 σ)
    else (ow_cl (f_X4_add fu r0 s0 σ) <| fun r_40 σ_40 =>
    L_X4_becomeAllBut_44 fu k8 r0 x1 x2 x3 x4 σ_40)
def L_X4_becomeAllBut_8 (fu : Nat) : Nat → Nat → Int32 → Int32 → Int32 → Int32 → ow_S → Option (ow_S)
  | 0, _, _, _, _, _, _ => none
  | fn + 1, r0, x1, x2, x3, x4, σ =>
    if x2 < x4 then (some σ)
    else (if x3 = 0 then (L_X4_becomeAllBut_29 fu (L_X4_becomeAllBut_8 fu fn) r0 x1 x2 x3 x4 x4 σ)
    else (L_X4_becomeAllBut_29 fu (L_X4_becomeAllBut_8 fu fn) r0 x1 x2 x3 x4 ((x2 + (1 : Int32)) - x4) σ))
def f_X4_becomeAllBut (fu : Nat) (h : Nat) (a1 : Int32) (a2 : Int32) (a3 : Int32) (σ : ow_S) : Option (ow_S) :=
    ow_let (ow_sI σ h 1 (0 : Int32)) <| fun σ_2 =>
    L_X4_becomeAllBut_8 fu fu h a1 a2 a3 (1 : Int32) σ_2
def L_X4_becomeWithout_31 (fu : Nat) (k7 : Nat → Nat → Int32 → Int32 → ow_S → Option (ow_S)) (r0 : Nat) (r1 : Nat) (x2 : Int32) (x3 : Int32) (σ : ow_S) : Option (ow_S) :=
    ow_let (x3 + (1 : Int32)) <| fun x3_31 =>
    k7 r0 r1 x2 x3_31 σ
def L_X4_becomeWithout_7 (fu : Nat) : Nat → Nat → Nat → Int32 → Int32 → ow_S → Option (ow_S)
  | 0, _, _, _, _, _ => none
  | fn + 1, r0, r1, x2, x3, σ =>
    if (σ.1 r1 1) ≤ x3 then (some σ)
    else (if x3 = x2 then (L_X4_becomeWithout_31 fu (L_X4_becomeWithout_7 fu fn) r0 r1 x2 x3 σ)
    else (ow_ck (ow_bd x3 60) <|
    ow_cl (f_X4_add fu r0 (σ.1 (r1 + 1) x3.toNatClampNeg) σ) <| fun r_27 σ_27 =>
    L_X4_becomeWithout_31 fu (L_X4_becomeWithout_7 fu fn) r0 r1 x2 x3 σ_27))
def f_X4_becomeWithout (fu : Nat) (h : Nat) (a1 : Nat) (a2 : Int32) (σ : ow_S) : Option (ow_S) :=
    ow_let (ow_sI σ h 1 (0 : Int32)) <| fun σ_2 =>
    L_X4_becomeWithout_7 fu fu h a1 a2 (0 : Int32) σ_2
def L_X4_becomeEverySecond_33 (fu : Nat) (k7 : Nat → Nat → Int32 → Int32 → ow_S → Option (ow_S)) (r0 : Nat) (r1 : Nat) (x2 : Int32) (x3 : Int32) (σ : ow_S) : Option (ow_S) :=
    ow_let (x3 + (1 : Int32)) <| fun x3_33 =>
    k7 r0 r1 x2 x3_33 σ
def L_X4_becomeEverySecond_7 (fu : Nat) : Nat → Nat → Nat → Int32 → Int32 → ow_S → Option (ow_S)
  | 0, _, _, _, _, _ => none
  | fn + 1, r0, r1, x2, x3, σ =>
    if (σ.1 r1 1) ≤ x3 then (some σ)
    else (if (ow_irem x3 (2 : Int32)) = x2 then (ow_ck (ow_bd x3 60) <|
    ow_cl (f_X4_add fu r0 (σ.1 (r1 + 1) x3.toNatClampNeg) σ) <| fun r_29 σ_29 =>
    L_X4_becomeEverySecond_33 fu (L_X4_becomeEverySecond_7 fu fn) r0 r1 x2 x3 σ_29)
    else (L_X4_becomeEverySecond_33 fu (L_X4_becomeEverySecond_7 fu fn) r0 r1 x2 x3 σ))
def f_X4_becomeEverySecond (fu : Nat) (h : Nat) (a1 : Nat) (a2 : Int32) (σ : ow_S) : Option (ow_S) :=
    ow_let (ow_sI σ h 1 (0 : Int32)) <| fun σ_2 =>
    L_X4_becomeEverySecond_7 fu fu h a1 a2 (0 : Int32) σ_2
def L_X4_dropAbove_38 (fu : Nat) (k12 : Nat → Int32 → Int32 → Int32 → ow_S → Option (ow_S)) (r0 : Nat) (x1 : Int32) (x2 : Int32) (x3 : Int32) (σ : ow_S) : Option (ow_S) :=
    ow_let (x3 + (1 : Int32)) <| fun x3_38 =>
    k12 r0 x1 x2 x3_38 σ
def L_X4_dropAbove_12 (fu : Nat) : Nat → Nat → Int32 → Int32 → Int32 → ow_S → Option (ow_S)
  | 0, _, _, _, _, _ => none
  | fn + 1, r0, x1, x2, x3, σ =>
    if x2 ≤ x3 then (some σ)
    else (ow_ck (ow_bd x3 60) <|
    if x1 < (σ.1 (r0 + 1) x3.toNatClampNeg) then (L_X4_dropAbove_38 fu (L_X4_dropAbove_12 fu fn) r0 x1 x2 x3 σ)
    else (ow_ck (ow_bd x3 60) <|
    ow_cl (f_X4_add fu r0 (σ.1 (r0 + 1) x3.toNatClampNeg) σ) <| fun r_34 σ_34 =>
    L_X4_dropAbove_38 fu (L_X4_dropAbove_12 fu fn) r0 x1 x2 x3 σ_34))
def f_X4_dropAbove (fu : Nat) (h : Nat) (a1 : Int32) (σ : ow_S) : Option (ow_S) :=
    ow_let (σ.1 h 1) <| fun x2_4 =>
    ow_let (ow_sI σ h 1 (0 : Int32)) <| fun σ_7 =>
    L_X4_dropAbove_12 fu fu h a1 x2_4 (0 : Int32) σ_7
def f_X4_change (fu : Nat) (h : Nat) (a1 : Int32) (a2 : Int32) (σ : ow_S) : Option (ow_S) :=
    ow_cl (f_X4_has fu h a1 σ) <| fun r_2 σ_2 =>
    if r_2 = 0 then (some σ_2)
    else (ow_cl (f_X4_has fu h a2 σ_2) <| fun r_10 σ_10 =>
    if r_10 = 0 then (some σ_10)
    else (ow_ck (ow_bd a1 60) <|
    ow_let (σ_10.1 (h + 1) a1.toNatClampNeg) <| fun x3_22 =>
    ow_ck (ow_bd a2 60) <|
    ow_ck (ow_bd a1 60) <|
    ow_let (ow_sI σ_10 (h + 1) a1.toNatClampNeg (σ_10.1 (h + 1) a2.toNatClampNeg)) <| fun σ_34 =>
    ow_ck (ow_bd a2 60) <|
    ow_let (ow_sI σ_34 (h + 1) a2.toNatClampNeg x3_22) <| fun σ_41 =>
    some σ_41))
def L_X4_beTurned_79 (fu : Nat) : Nat → Nat → Int32 → ow_S → Option (ow_S)
  | 0, _, _, _ => none
  | fn + 1, r0, x2, σ =>
    if x2 ≤ 0 then (some σ)
    else (ow_cv (f_X4_change fu r0 x2 (x2 - (1 : Int32)) σ) <| fun σ_88 =>
    ow_let (x2 + (-1 : Int32)) <| fun x2_91 =>
    (L_X4_beTurned_79 fu fn) r0 x2_91 σ_88)
def L_X4_beTurned_45 (fu : Nat) : Nat → Nat → Int32 → ow_S → Option (ow_S)
  | 0, _, _, _ => none
  | fn + 1, r0, x2, σ =>
    if ((σ.1 r0 1) - (1 : Int32)) ≤ x2 then (some σ)
    else (ow_cv (f_X4_change fu r0 x2 (x2 + (1 : Int32)) σ) <| fun σ_60 =>
    ow_let (x2 + (1 : Int32)) <| fun x2_63 =>
    (L_X4_beTurned_45 fu fn) r0 x2_63 σ_60)
def L_X4_beTurned_6 (fu : Nat) : Nat → Nat → Int32 → ow_S → Option (ow_S)
  | 0, _, _, _ => none
  | fn + 1, r0, x2, σ =>
    if ((σ.1 r0 1) / (2 : Int32)) ≤ x2 then (some σ)
    else (ow_cv (f_X4_change fu r0 x2 (((σ.1 r0 1) - (1 : Int32)) - x2) σ) <| fun σ_26 =>
    ow_let (x2 + (1 : Int32)) <| fun x2_29 =>
    (L_X4_beTurned_6 fu fn) r0 x2_29 σ_26)
def f_X4_beTurned (fu : Nat) (h : Nat) (a1 : Int32) (σ : ow_S) : Option (ow_S) :=
    if a1 = 0 then (L_X4_beTurned_6 fu fu h (0 : Int32) σ)
    else (if a1 = (1 : Int32) then (L_X4_beTurned_45 fu fu h (0 : Int32) σ)
    else (ow_let ((σ.1 h 1) - (1 : Int32)) <| fun x2_78 =>
    L_X4_beTurned_79 fu fu h x2_78 σ))
def L_X4_timesOf_25 (fu : Nat) (k4 : Nat → Int32 → Int32 → Int32 → ow_S → Option (Int32 × ow_S)) (r0 : Nat) (x1 : Int32) (x2 : Int32) (x3 : Int32) (σ : ow_S) : Option (Int32 × ow_S) :=
    ow_let (x3 + (1 : Int32)) <| fun x3_25 =>
    k4 r0 x1 x2 x3_25 σ
def L_X4_timesOf_4 (fu : Nat) : Nat → Nat → Int32 → Int32 → Int32 → ow_S → Option (Int32 × ow_S)
  | 0, _, _, _, _, _ => none
  | fn + 1, r0, x1, x2, x3, σ =>
    if (σ.1 r0 1) ≤ x3 then (some (x2, σ))
    else (ow_ck (ow_bd x3 60) <|
    if (σ.1 (r0 + 1) x3.toNatClampNeg) = x1 then (ow_let (x2 + (1 : Int32)) <| fun x2_22 =>
    L_X4_timesOf_25 fu (L_X4_timesOf_4 fu fn) r0 x1 x2_22 x3 σ)
    else (L_X4_timesOf_25 fu (L_X4_timesOf_4 fu fn) r0 x1 x2 x3 σ))
def f_X4_timesOf (fu : Nat) (h : Nat) (a1 : Int32) (σ : ow_S) : Option (Int32 × ow_S) :=
    L_X4_timesOf_4 fu fu h a1 (0 : Int32) (0 : Int32) σ
def L_X4_earliestTwice_12 (fu : Nat) (k2 : Nat → Int32 → ow_S → Option (Int32 × ow_S)) : Nat → Nat → Int32 → Int32 → ow_S → Option (Int32 × ow_S)
  | 0, _, _, _, _ => none
  | fn + 1, r0, x1, x2, σ =>
    if x1 ≤ x2 then (ow_let (x1 + (1 : Int32)) <| fun x1_45 =>
    k2 r0 x1_45 σ)
    else (ow_ck (ow_bd x2 60) <|
    ow_ck (ow_bd x1 60) <|
    if (σ.1 (r0 + 1) x2.toNatClampNeg) = (σ.1 (r0 + 1) x1.toNatClampNeg) then (ow_ck (ow_bd x1 60) <|
    some ((σ.1 (r0 + 1) x1.toNatClampNeg), σ))
    else (ow_let (x2 + (1 : Int32)) <| fun x2_39 =>
    (L_X4_earliestTwice_12 fu k2 fn) r0 x1 x2_39 σ))
def L_X4_earliestTwice_2 (fu : Nat) : Nat → Nat → Int32 → ow_S → Option (Int32 × ow_S)
  | 0, _, _, _ => none
  | fn + 1, r0, x1, σ =>
    if (σ.1 r0 1) ≤ x1 then (some ((-1 : Int32), σ))
    else (L_X4_earliestTwice_12 fu (L_X4_earliestTwice_2 fu fn) fu r0 x1 (0 : Int32) σ)
def f_X4_earliestTwice (fu : Nat) (h : Nat) (σ : ow_S) : Option (Int32 × ow_S) :=
    L_X4_earliestTwice_2 fu fu h (1 : Int32) σ
def L_X4_sum_4 (fu : Nat) : Nat → Nat → Int32 → Int32 → ow_S → Option (Int32 × ow_S)
  | 0, _, _, _, _ => none
  | fn + 1, r0, x1, x2, σ =>
    if (σ.1 r0 1) ≤ x2 then (some (x1, σ))
    else (ow_ck (ow_bd x2 60) <|
    ow_let (x1 + (σ.1 (r0 + 1) x2.toNatClampNeg)) <| fun x1_20 =>
    ow_let (x2 + (1 : Int32)) <| fun x2_21 =>
    (L_X4_sum_4 fu fn) r0 x1_20 x2_21 σ)
def f_X4_sum (fu : Nat) (h : Nat) (σ : ow_S) : Option (Int32 × ow_S) :=
    L_X4_sum_4 fu fu h (0 : Int32) (0 : Int32) σ
def L_X4_squares_4 (fu : Nat) : Nat → Nat → Int32 → Int32 → ow_S → Option (Int32 × ow_S)
  | 0, _, _, _, _ => none
  | fn + 1, r0, x1, x2, σ =>
    if (σ.1 r0 1) ≤ x2 then (some (x1, σ))
    else (ow_ck (ow_bd x2 60) <|
    ow_ck (ow_bd x2 60) <|
    ow_let (x1 + ((σ.1 (r0 + 1) x2.toNatClampNeg) * (σ.1 (r0 + 1) x2.toNatClampNeg))) <| fun x1_27 =>
    ow_let (x2 + (1 : Int32)) <| fun x2_28 =>
    (L_X4_squares_4 fu fn) r0 x1_27 x2_28 σ)
def f_X4_squares (fu : Nat) (h : Nat) (σ : ow_S) : Option (Int32 × ow_S) :=
    L_X4_squares_4 fu fu h (0 : Int32) (0 : Int32) σ
def f_X5_isMissing (fu : Nat) (h : Nat) (σ : ow_S) : Option (Int32 × ow_S) :=
    if (σ.1 h 1) = (-1 : Int32) then (some ((1 : Int32), σ))
    else (some ((0 : Int32), σ))
def f_X5_has (fu : Nat) (h : Nat) (a1 : Int32) (σ : ow_S) : Option (Int32 × ow_S) :=
    if a1 < 0 then (some ((0 : Int32), σ))
    else (if (σ.1 h 2) ≤ a1 then (some ((0 : Int32), σ))
    else (some ((1 : Int32), σ)))
def f_X5_hasRun (fu : Nat) (h : Nat) (a1 : Int32) (a2 : Int32) (σ : ow_S) : Option (Int32 × ow_S) :=
    if a1 < 0 then (some ((0 : Int32), σ))
    else (if a2 < 0 then (some ((0 : Int32), σ))
    else (if (σ.1 h 2) < a1 then (some ((0 : Int32), σ))
    else (if ((σ.1 h 2) - a1) < a2 then (some ((0 : Int32), σ))
    else (some ((1 : Int32), σ)))))
def L_X5_become_21 (fu : Nat) : Nat → Nat → Int32 → ow_S → Option (ow_S)
  | 0, _, _, _ => none
  | fn + 1, r0, x3, σ =>
    if (40 : Int32) ≤ x3 then (some σ)
    else (ow_ck (ow_bd x3 40) <|
    ow_let (ow_sI σ (r0 + 1) x3.toNatClampNeg (0 : Int32)) <| fun σ_33 =>
    ow_let (x3 + (1 : Int32)) <| fun x3_34 =>
    (L_X5_become_21 fu fn) r0 x3_34 σ_33)
def f_X5_become (fu : Nat) (h : Nat) (a1 : Int32) (a2 : Int32) (σ : ow_S) : Option (ow_S) :=
    ow_let (ow_sI σ h 1 a1) <| fun σ_2 =>
    ow_let (ow_sI σ_2 h 2 (ow_max (0 : Int32) (ow_min (40 : Int32) a2))) <| fun σ_16 =>
    L_X5_become_21 fu fu h (0 : Int32) σ_16
def L_X5_put_39 (fu : Nat) (s0 : Nat) (s1 : Int32) (s2 : Int32) (σ : ow_S) : Option (ow_S) :=
    ow_ck (ow_bd s1 40) <|
    ow_let (ow_sI σ s0 s1.toNatClampNeg s2) <| fun σ_39 =>
    some σ_39
def f_X5_put (fu : Nat) (h : Nat) (a1 : Int32) (a2 : Int32) (σ : ow_S) : Option (ow_S) :=
    ow_cl (f_X5_has fu h a1 σ) <| fun r_2 σ_2 =>
    if r_2 = 0 then (some σ_2)
    else (if (σ_2.1 h 1) = 0 then (L_X5_put_39 fu (h + 1) a1 (a2.toInt8.toInt32) σ_2)
    else (if (σ_2.1 h 1) = (1 : Int32) then (L_X5_put_39 fu (h + 1) a1 (a2.toInt16.toInt32) σ_2)
    else (L_X5_put_39 fu (h + 1) a1 a2 σ_2)))
def f_X6_startOf (fu : Nat) (h : Nat) (a1 : Int32) (σ : ow_S) : Option (Int32 × ow_S) :=
    if a1 < (1 : Int32) then (some ((0 : Int32), σ))
    else (if (σ.1 h 3) ≤ a1 then (some ((0 : Int32), σ))
    else (ow_ck (ow_bd (a1 - (1 : Int32)) 3) <|
    some ((σ.1 (h + 2) (a1 - (1 : Int32)).toNatClampNeg), σ)))
def f_X6_endOf (fu : Nat) (h : Nat) (a1 : Int32) (σ : ow_S) : Option (Int32 × ow_S) :=
    if a1 < 0 then (some ((0 : Int32), σ))
    else (if (σ.1 h 3) ≤ a1 then (some ((0 : Int32), σ))
    else (ow_ck (ow_bd a1 3) <|
    some ((σ.1 (h + 2) a1.toNatClampNeg), σ)))
def f_X7_setOut (fu : Nat) (a1 : Nat) (a2 : Int32) (a3 : Int32) (σ : ow_S) : Option (ow_S) :=
    ow_let (ow_sR σ 10 2 (some a1)) <| fun σ_2 =>
    ow_let (ow_sI σ_2 11 4 a2) <| fun σ_11 =>
    ow_let (ow_sI σ_11 11 5 a3) <| fun σ_18 =>
    some σ_18
def f_X7_keepBoth (fu : Nat) (a1 : Int32) (a2 : Int32) (σ : ow_S) : Option (ow_S) :=
    ow_let (ow_sI σ 11 0 a1) <| fun σ_6 =>
    ow_let (ow_sI σ_6 11 1 a2) <| fun σ_13 =>
    some σ_13
def f_X7_setOutAs (fu : Nat) (a1 : Nat) (a2 : Nat) (a3 : Int32) (σ : ow_S) : Option (ow_S) :=
    ow_cv (f_X7_setOut fu a2 a3 (σ.1 a1 1) σ) <| fun σ_7 =>
    ow_cl (f_X0_lowest fu a1 (σ_7.1 a1 3) σ_7) <| fun r_16 σ_16 =>
    ow_cl (f_X0_lowest fu a1 (σ_16.1 a1 4) σ_16) <| fun r_24 σ_24 =>
    ow_cv (f_X7_keepBoth fu r_16 r_24 σ_24) <| fun σ_27 =>
    some σ_27
def f_X7_meet (fu : Nat) (a1 : Int32) (a2 : Int32) (σ : ow_S) : Option (ow_S) :=
    ow_let (ow_sI σ 11 2 a1) <| fun σ_6 =>
    ow_let (ow_sI σ_6 11 3 a2) <| fun σ_13 =>
    some σ_13
def f_X7_pair (fu : Nat) (σ : ow_S) : Option (Int32 × ow_S) :=
    some ((((σ.1 11 0) <<< ((16 : Int32) &&& 31)) ||| (σ.1 11 1)), σ)
def f_X7_keepPair (fu : Nat) (a1 : Int32) (σ : ow_S) : Option (ow_S) :=
    ow_cv (f_X7_keepBoth fu (ow_ushr a1 (16 : Int32)) (a1 &&& (65535 : Int32)) σ) <| fun σ_9 =>
    some σ_9
def f_X7_valueOf (fu : Nat) (a1 : Int32) (σ : ow_S) : Option (Int32 × ow_S) :=
    if a1 < 0 then (some ((0 : Int32), σ))
    else (if (6 : Int32) ≤ a1 then (some ((0 : Int32), σ))
    else (ow_ck (ow_bd a1 6) <|
    some ((σ.1 11 a1.toNatClampNeg), σ)))
def L_X7_joined_52 (fu : Nat) (σ : ow_S) : Option (Int32 × ow_S) :=
    some ((1 : Int32), σ)
def L_X7_joined_102 (fu : Nat) (x1 : Int32) (x2 : Int32) (σ : ow_S) : Option (Int32 × ow_S) :=
    some ((x1 * x2), σ)
def f_X7_joined (fu : Nat) (a1 : Int32) (a2 : Int32) (a3 : Int32) (σ : ow_S) : Option (Int32 × ow_S) :=
    if a1 = (6 : Int32) then (if a2 = 0 then (if a3 = 0 then (some ((0 : Int32), σ))
    else (L_X7_joined_52 fu σ))
    else (L_X7_joined_52 fu σ))
    else (if a1 = (7 : Int32) then (if a2 = 0 then (some ((0 : Int32), σ))
    else (if a3 = 0 then (some ((0 : Int32), σ))
    else (some ((1 : Int32), σ))))
    else (if a1 = (8 : Int32) then (L_X7_joined_102 fu a2 a3 σ)
    else (if a1 = (9 : Int32) then (if a3 ≤ a2 then (some ((0 : Int32), σ))
    else (some ((1 : Int32), σ)))
    else (if a1 = (10 : Int32) then (if a2 = a3 then (some ((1 : Int32), σ))
    else (some ((0 : Int32), σ)))
    else (if a1 = (11 : Int32) then (some ((a2 + a3), σ))
    else (if a1 = (12 : Int32) then (some ((a2 - a3), σ))
    else (L_X7_joined_102 fu a2 a3 σ)))))))
def L_X7_tells_202 (fu : Nat) (k30 : Int32 → Int32 → Int32 → ow_S → Option (Int32 × ow_S)) (x2 : Int32) (x3 : Int32) (x4 : Int32) (σ : ow_S) : Option (Int32 × ow_S) :=
    ow_let (x4 + (1 : Int32)) <| fun x4_202 =>
    k30 x2 x3 x4_202 σ
def L_X7_tells_95 (fu : Nat) (k30 : Int32 → Int32 → Int32 → ow_S → Option (Int32 × ow_S)) (x2 : Int32) (x3 : Int32) (x4 : Int32) (s1 : Int32) (s2 : Int32) (σ : ow_S) : Option (Int32 × ow_S) :=
    ow_ck (ow_bd s1 160) <|
    ow_let (ow_sI σ 12 s1.toNatClampNeg s2) <| fun σ_95 =>
    ow_let (x2 + (1 : Int32)) <| fun x2_96 =>
    L_X7_tells_202 fu k30 x2_96 x3 x4 σ_95
def L_X7_tells_62 (fu : Nat) (k30 : Int32 → Int32 → Int32 → ow_S → Option (Int32 × ow_S)) (x2 : Int32) (x3 : Int32) (x4 : Int32) (x5 : Int32) (σ : ow_S) : Option (Int32 × ow_S) :=
    if (160 : Int32) ≤ x2 then (L_X7_tells_202 fu k30 x2 x3 x4 σ)
    else (if x5 < (100 : Int32) then (ow_cl (f_X7_valueOf fu x5 σ) <| fun r_92 σ_92 =>
    L_X7_tells_95 fu k30 x2 x3 x4 x2 r_92 σ_92)
    else (L_X7_tells_95 fu k30 x2 x3 x4 x2 (x5 - (100 : Int32)) σ))
def L_X7_tells_163 (fu : Nat) (k30 : Int32 → Int32 → Int32 → ow_S → Option (Int32 × ow_S)) (x2 : Int32) (x3 : Int32) (x4 : Int32) (s1 : Int32) (s2 : Int32) (σ : ow_S) : Option (Int32 × ow_S) :=
    ow_ck (ow_bd s1 160) <|
    ow_let (ow_sI σ 12 s1.toNatClampNeg s2) <| fun σ_163 =>
    L_X7_tells_202 fu k30 x2 x3 x4 σ_163
def L_X7_tells_116 (fu : Nat) (k30 : Int32 → Int32 → Int32 → ow_S → Option (Int32 × ow_S)) (x2 : Int32) (x3 : Int32) (x4 : Int32) (x5 : Int32) (σ : ow_S) : Option (Int32 × ow_S) :=
    if x2 < (1 : Int32) then (L_X7_tells_202 fu k30 x2 x3 x4 σ)
    else (if x5 = (14 : Int32) then (ow_ck (ow_bd (x2 - (1 : Int32)) 160) <|
    L_X7_tells_163 fu k30 x2 x3 x4 (x2 - (1 : Int32)) (-(σ.1 12 (x2 - (1 : Int32)).toNatClampNeg)) σ)
    else (ow_ck (ow_bd (x2 - (1 : Int32)) 160) <|
    if (σ.1 12 (x2 - (1 : Int32)).toNatClampNeg) = 0 then (L_X7_tells_163 fu k30 x2 x3 x4 (x2 - (1 : Int32)) (1 : Int32) σ)
    else (L_X7_tells_163 fu k30 x2 x3 x4 (x2 - (1 : Int32)) (0 : Int32) σ)))
def L_X7_tells_30 (fu : Nat) : Nat → Int32 → Int32 → Int32 → ow_S → Option (Int32 × ow_S)
  | 0, _, _, _, _ => none
  | fn + 1, x2, x3, x4, σ =>
    if x3 ≤ x4 then (some ((σ.1 12 0), σ))
    else (ow_op (σ.2.2 10 2) none <| fun t37 =>
    ow_ck (ow_bd x4 160) <|
    ow_let (σ.1 (t37 + 1) x4.toNatClampNeg) <| fun x5_46 =>
    if (100 : Int32) ≤ x5_46 then (L_X7_tells_62 fu (L_X7_tells_30 fu fn) x2 x3 x4 x5_46 σ)
    else (if (6 : Int32) ≤ x5_46 then (if x5_46 = (8 : Int32) then (L_X7_tells_116 fu (L_X7_tells_30 fu fn) x2 x3 x4 x5_46 σ)
    else (if x5_46 = (14 : Int32) then (L_X7_tells_116 fu (L_X7_tells_30 fu fn) x2 x3 x4 x5_46 σ)
    else (if x2 < (2 : Int32) then (L_X7_tells_202 fu (L_X7_tells_30 fu fn) x2 x3 x4 σ)
    else (ow_let (x2 + (-1 : Int32)) <| fun x2_172 =>
    ow_ck (ow_bd (x2_172 - (1 : Int32)) 160) <|
    ow_ck (ow_bd x2_172 160) <|
    ow_cl (f_X7_joined fu x5_46 (σ.1 12 (x2_172 - (1 : Int32)).toNatClampNeg) (σ.1 12 x2_172.toNatClampNeg) σ) <| fun r_198 σ_198 =>
    ow_ck (ow_bd (x2_172 - (1 : Int32)) 160) <|
    ow_let (ow_sI σ_198 12 ((x2_172 - (1 : Int32)).toNatClampNeg) r_198) <| fun σ_201 =>
    L_X7_tells_202 fu (L_X7_tells_30 fu fn) x2_172 x3 x4 σ_201))))
    else (L_X7_tells_62 fu (L_X7_tells_30 fu fn) x2 x3 x4 x5_46 σ)))
def f_X7_tells (fu : Nat) (a1 : Int32) (σ : ow_S) : Option (Int32 × ow_S) :=
    ow_op (σ.2.2 10 2) (some ((0 : Int32), σ)) <| fun t4 =>
    ow_cl (f_X6_endOf fu t4 a1 σ) <| fun r_16 σ_16 =>
    ow_op (σ_16.2.2 10 2) none <| fun t21 =>
    ow_cl (f_X6_startOf fu t21 a1 σ_16) <| fun r_25 σ_25 =>
    L_X7_tells_30 fu fu (0 : Int32) r_16 r_25 σ_25
def f_X7_pass (fu : Nat) (a1 : Nat) (a2 : Int32) (a3 : Int32) (σ : ow_S) : Option (ow_S) :=
    ow_cl (f_X0_sees fu a1 a3 σ) <| fun r_2 σ_2 =>
    if r_2 = 0 then (some σ_2)
    else (ow_cv (f_X7_meet fu a2 a3 σ_2) <| fun σ_12 =>
    ow_cl (f_X7_tells fu (0 : Int32) σ_12) <| fun r_17 σ_17 =>
    ow_cl (f_X7_tells fu (1 : Int32) σ_17) <| fun r_24 σ_24 =>
    ow_cl (f_X0_keepsFirst fu a1 r_17 a3 σ_24) <| fun r_35 σ_35 =>
    ow_cl (f_X0_lowest fu a1 r_35 σ_35) <| fun r_38 σ_38 =>
    ow_cl (f_X0_lowest fu a1 r_24 σ_38) <| fun r_44 σ_44 =>
    ow_cv (f_X7_keepBoth fu r_38 r_44 σ_44) <| fun σ_47 =>
    some σ_47)
def L_X7_goAlong_3 (fu : Nat) : Nat → Nat → Nat → Int32 → Int32 → ow_S → Option (ow_S)
  | 0, _, _, _, _, _ => none
  | fn + 1, r1, r2, x3, x4, σ =>
    if x3 ≤ x4 then (some σ)
    else (if (σ.1 r2 1) ≤ x4 then (some σ)
    else (ow_ck (ow_bd x4 60) <|
    ow_cv (f_X7_pass fu r1 (σ.1 (r2 + 1) x4.toNatClampNeg) x4 σ) <| fun σ_29 =>
    ow_let (x4 + (1 : Int32)) <| fun x4_32 =>
    (L_X7_goAlong_3 fu fn) r1 r2 x3 x4_32 σ_29))
def f_X7_goAlong (fu : Nat) (a1 : Nat) (a2 : Nat) (a3 : Int32) (σ : ow_S) : Option (ow_S) :=
    L_X7_goAlong_3 fu fu a1 a2 a3 (0 : Int32) σ
def f_X7_tellsBounded (fu : Nat) (a1 : Int32) (σ : ow_S) : Option (Int32 × ow_S) :=
    ow_cl (f_X7_tells fu a1 σ) <| fun r_6 σ_6 =>
    some ((ow_max (-1000000 : Int32) (ow_min (1000000 : Int32) r_6)), σ_6)
def L_X7_says_11 (fu : Nat) : Nat → Nat → Nat → Int32 → ow_S → Option (Int32 × ow_S)
  | 0, _, _, _, _ => none
  | fn + 1, r1, r2, x5, σ =>
    ow_cl (f_X0_goings fu r1 σ) <| fun r_14 σ_14 =>
    if r_14 ≤ x5 then (ow_cv (f_X7_meet fu (0 : Int32) (σ_14.1 r2 1) σ_14) <| fun σ_42 =>
    ow_cl (f_X7_tellsBounded fu (2 : Int32) σ_42) <| fun r_47 σ_47 =>
    some (r_47, σ_47))
    else (ow_cv (f_X7_goAlong fu r1 r2 (σ_14.1 r2 1) σ_14) <| fun σ_27 =>
    ow_let (x5 + (1 : Int32)) <| fun x5_30 =>
    (L_X7_says_11 fu fn) r1 r2 x5_30 σ_27)
def f_X7_says (fu : Nat) (a1 : Nat) (a2 : Nat) (a3 : Nat) (a4 : Int32) (σ : ow_S) : Option (Int32 × ow_S) :=
    ow_cv (f_X7_setOutAs fu a1 a3 a4 σ) <| fun σ_5 =>
    L_X7_says_11 fu fu a1 a2 (0 : Int32) σ_5
def f_X8_count (fu : Nat) (a1 : Int32) (σ : ow_S) : Option (Int32 × ow_S) :=
    if a1 = (0 : Int32) then (some ((σ.1 0 12), σ))
    else (if a1 = (1 : Int32) then (some ((σ.1 0 11), σ))
    else (if a1 = (2 : Int32) then (some ((σ.1 1 1), σ))
    else (if a1 = (3 : Int32) then (some ((σ.1 0 13), σ))
    else (if a1 = (4 : Int32) then (some ((σ.1 0 14), σ))
    else (if a1 = (5 : Int32) then (some ((σ.1 7 1), σ))
    else (some ((-2 : Int32), σ)))))))
def f_X8_deal (fu : Nat) (a1 : Int32) (σ : ow_S) : Option (Int32 × ow_S) :=
    if a1 < (1 : Int32) then (some ((-2 : Int32), σ))
    else (if a1 ≤ (52 : Int32) then (ow_let (σ.1 0 11) <| fun x2_18 =>
    ow_let (ow_sI σ 0 11 a1) <| fun σ_21 =>
    ow_cv (f_X4_dropAbove fu 1 a1 σ_21) <| fun σ_29 =>
    some (x2_18, σ_29))
    else (some ((-2 : Int32), σ)))
def f_X8_isCard (fu : Nat) (a1 : Int32) (σ : ow_S) : Option (Int32 × ow_S) :=
    if a1 < (1 : Int32) then (some ((0 : Int32), σ))
    else (if (σ.1 0 11) < a1 then (some ((0 : Int32), σ))
    else (some ((1 : Int32), σ)))
def f_X8_card (fu : Nat) (a1 : Int32) (σ : ow_S) : Option (Int32 × ow_S) :=
    ow_cl (f_X8_isCard fu a1 σ) <| fun r_2 σ_2 =>
    if r_2 = 0 then (some ((-2 : Int32), σ_2))
    else (ow_cl (f_X4_add fu 1 a1 σ_2) <| fun r_16 σ_16 =>
    if r_16 = 0 then (some ((-4 : Int32), σ_16))
    else (some ((σ_16.1 1 1), σ_16)))
def L_X8_isWay_9 (fu : Nat) (σ : ow_S) : Option (Int32 × ow_S) :=
    some ((1 : Int32), σ)
def f_X8_isWay (fu : Nat) (a1 : Int32) (σ : ow_S) : Option (Int32 × ow_S) :=
    if a1 = 0 then (L_X8_isWay_9 fu σ)
    else (if a1 = (1 : Int32) then (L_X8_isWay_9 fu σ)
    else (some ((0 : Int32), σ)))
def L_X8_fill_13 (fu : Nat) (x1 : Int32) (x2 : Int32) (σ : ow_S) : Option (Int32 × ow_S) :=
    ow_cl (f_X8_isWay fu x2 σ) <| fun r_14 σ_14 =>
    if r_14 = 0 then (some ((-2 : Int32), σ_14))
    else (ow_cv (f_X4_becomeAllBut fu 1 x1 (σ_14.1 0 11) x2 σ_14) <| fun σ_33 =>
    some ((σ_33.1 1 1), σ_33))
def f_X8_fill (fu : Nat) (a1 : Int32) (a2 : Int32) (σ : ow_S) : Option (Int32 × ow_S) :=
    if a1 = (-1 : Int32) then (L_X8_fill_13 fu a1 a2 σ)
    else (ow_cl (f_X8_isCard fu a1 σ) <| fun r_7 σ_7 =>
    if r_7 = 0 then (some ((-2 : Int32), σ_7))
    else (L_X8_fill_13 fu a1 a2 σ_7))
def f_X8_at (fu : Nat) (a1 : Int32) (σ : ow_S) : Option (Int32 × ow_S) :=
    ow_cl (f_X4_has fu 1 a1 σ) <| fun r_5 σ_5 =>
    if r_5 = 0 then (some ((-6 : Int32), σ_5))
    else (ow_ck (ow_bd a1 60) <|
    some ((σ_5.1 2 a1.toNatClampNeg), σ_5))
def f_X8_turn (fu : Nat) (a1 : Int32) (σ : ow_S) : Option (Int32 × ow_S) :=
    if a1 < 0 then (some ((-2 : Int32), σ))
    else (if a1 ≤ (2 : Int32) then (ow_cv (f_X4_beTurned fu 1 a1 σ) <| fun σ_17 =>
    if (σ_17.1 1 1) ≤ 0 then (some ((-1 : Int32), σ_17))
    else (some ((σ_17.1 2 0), σ_17)))
    else (some ((-2 : Int32), σ)))
def L_X8_missing_46 (fu : Nat) (k17 : Int32 → Int32 → Int32 → ow_S → Option (Int32 × ow_S)) (x1 : Int32) (x2 : Int32) (x3 : Int32) (σ : ow_S) : Option (Int32 × ow_S) :=
    ow_let (x3 + (1 : Int32)) <| fun x3_46 =>
    k17 x1 x2 x3_46 σ
def L_X8_missing_17 (fu : Nat) : Nat → Int32 → Int32 → Int32 → ow_S → Option (Int32 × ow_S)
  | 0, _, _, _, _ => none
  | fn + 1, x1, x2, x3, σ =>
    if (σ.1 0 11) < x3 then (some ((-1 : Int32), σ))
    else (ow_cl (f_X4_timesOf fu 1 x3 σ) <| fun r_30 σ_30 =>
    if r_30 = 0 then (if x2 = x1 then (some (x3, σ_30))
    else (ow_let (x2 + (1 : Int32)) <| fun x2_43 =>
    L_X8_missing_46 fu (L_X8_missing_17 fu fn) x1 x2_43 x3 σ_30))
    else (L_X8_missing_46 fu (L_X8_missing_17 fu fn) x1 x2 x3 σ_30))
def f_X8_missing (fu : Nat) (a1 : Int32) (σ : ow_S) : Option (Int32 × ow_S) :=
    if a1 < 0 then (some ((-2 : Int32), σ))
    else (if a1 < (52 : Int32) then (L_X8_missing_17 fu fu a1 (0 : Int32) (1 : Int32) σ)
    else (some ((-2 : Int32), σ)))
def L_X8_unlikeCards_26 (fu : Nat) (k4 : Int32 → Int32 → ow_S → Option (Int32 × ow_S)) (x1 : Int32) (x2 : Int32) (σ : ow_S) : Option (Int32 × ow_S) :=
    ow_let (x2 + (1 : Int32)) <| fun x2_26 =>
    k4 x1 x2_26 σ
def L_X8_unlikeCards_4 (fu : Nat) : Nat → Int32 → Int32 → ow_S → Option (Int32 × ow_S)
  | 0, _, _, _ => none
  | fn + 1, x1, x2, σ =>
    if (σ.1 0 11) < x2 then (some (x1, σ))
    else (ow_cl (f_X4_timesOf fu 1 x2 σ) <| fun r_17 σ_17 =>
    if r_17 ≤ 0 then (L_X8_unlikeCards_26 fu (L_X8_unlikeCards_4 fu fn) x1 x2 σ_17)
    else (ow_let (x1 + (1 : Int32)) <| fun x1_23 =>
    L_X8_unlikeCards_26 fu (L_X8_unlikeCards_4 fu fn) x1_23 x2 σ_17))
def f_X8_unlikeCards (fu : Nat) (σ : ow_S) : Option (Int32 × ow_S) :=
    L_X8_unlikeCards_4 fu fu (0 : Int32) (1 : Int32) σ
def L_X8_commonestCard_35 (fu : Nat) (k6 : Int32 → Int32 → Int32 → ow_S → Option (Int32 × ow_S)) (x1 : Int32) (x2 : Int32) (x3 : Int32) (σ : ow_S) : Option (Int32 × ow_S) :=
    ow_let (x3 + (1 : Int32)) <| fun x3_35 =>
    k6 x1 x2 x3_35 σ
def L_X8_commonestCard_6 (fu : Nat) : Nat → Int32 → Int32 → Int32 → ow_S → Option (Int32 × ow_S)
  | 0, _, _, _, _ => none
  | fn + 1, x1, x2, x3, σ =>
    if (σ.1 0 11) < x3 then (some (x1, σ))
    else (ow_cl (f_X4_timesOf fu 1 x3 σ) <| fun r_19 σ_19 =>
    if r_19 ≤ x2 then (L_X8_commonestCard_35 fu (L_X8_commonestCard_6 fu fn) x1 x2 x3 σ_19)
    else (L_X8_commonestCard_35 fu (L_X8_commonestCard_6 fu fn) x3 r_19 x3 σ_19))
def f_X8_commonestCard (fu : Nat) (σ : ow_S) : Option (Int32 × ow_S) :=
    L_X8_commonestCard_6 fu fu (-1 : Int32) (0 : Int32) (1 : Int32) σ
def f_X8_truth (fu : Nat) (a1 : Int32) (σ : ow_S) : Option (Int32 × ow_S) :=
    if a1 = (0 : Int32) then (ow_cl (f_X8_unlikeCards fu σ) <| fun r_53 σ_53 =>
    some (((σ.1 0 11) - r_53), σ_53))
    else (if a1 = (1 : Int32) then (ow_cl (f_X8_unlikeCards fu σ) <| fun r_59 σ_59 =>
    some (r_59, σ_59))
    else (if a1 = (2 : Int32) then (ow_cl (f_X8_commonestCard fu σ) <| fun r_64 σ_64 =>
    some (r_64, σ_64))
    else (if a1 = (3 : Int32) then (ow_cl (f_X8_commonestCard fu σ) <| fun r_73 σ_73 =>
    ow_cl (f_X4_timesOf fu 1 r_73 σ_73) <| fun r_76 σ_76 =>
    some (r_76, σ_76))
    else (if a1 = (4 : Int32) then (ow_cl (f_X8_commonestCard fu σ) <| fun r_85 σ_85 =>
    ow_cl (f_X4_timesOf fu 1 r_85 σ_85) <| fun r_88 σ_88 =>
    if (r_88 * (2 : Int32)) ≤ (σ_88.1 1 1) then (some ((0 : Int32), σ_88))
    else (some ((1 : Int32), σ_88)))
    else (if a1 = (5 : Int32) then (ow_cl (f_X4_earliestTwice fu 1 σ) <| fun r_113 σ_113 =>
    some (r_113, σ_113))
    else (if a1 = (6 : Int32) then (ow_cl (f_X4_sum fu 1 σ) <| fun r_121 σ_121 =>
    some (r_121, σ_121))
    else (if a1 = (7 : Int32) then (ow_cl (f_X4_squares fu 1 σ) <| fun r_129 σ_129 =>
    some (r_129, σ_129))
    else (some ((-2 : Int32), σ)))))))))
def f_X8_packSum (fu : Nat) (σ : ow_S) : Option (Int32 × ow_S) :=
    some ((((σ.1 0 11) * ((σ.1 0 11) + (1 : Int32))) / (2 : Int32)), σ)
def L_X8_two_124 (fu : Nat) (k60 : Int32 → Int32 → Int32 → Int32 → ow_S → Option (Int32 × ow_S)) (x1 : Int32) (x2 : Int32) (x3 : Int32) (x4 : Int32) (σ : ow_S) : Option (Int32 × ow_S) :=
    ow_let (x4 + (1 : Int32)) <| fun x4_124 =>
    k60 x1 x2 x3 x4_124 σ
def L_X8_two_60 (fu : Nat) : Nat → Int32 → Int32 → Int32 → Int32 → ow_S → Option (Int32 × ow_S)
  | 0, _, _, _, _, _ => none
  | fn + 1, x1, x2, x3, x4, σ =>
    if (σ.1 0 11) < x4 then (if x1 = 0 then (some ((-1 : Int32), σ))
    else (some ((σ.1 0 11), σ)))
    else (ow_let (x2 - x4) <| fun x5_73 =>
    if x5_73 ≤ x4 then (L_X8_two_124 fu (L_X8_two_60 fu fn) x1 x2 x3 x4 σ)
    else (if (σ.1 0 11) < x5_73 then (L_X8_two_124 fu (L_X8_two_60 fu fn) x1 x2 x3 x4 σ)
    else (if ((x4 * x4) + (x5_73 * x5_73)) = x3 then (if x1 = 0 then (some ((((100 : Int32) * x4) + x5_73), σ))
    else (some (x4, σ)))
    else (L_X8_two_124 fu (L_X8_two_60 fu fn) x1 x2 x3 x4 σ))))
def f_X8_two (fu : Nat) (a1 : Int32) (σ : ow_S) : Option (Int32 × ow_S) :=
    if a1 < 0 then (some ((-2 : Int32), σ))
    else (if a1 ≤ (1 : Int32) then (ow_cl (f_X8_packSum fu σ) <| fun r_13 σ_13 =>
    ow_cl (f_X4_sum fu 1 σ_13) <| fun r_20 σ_20 =>
    ow_let (r_13 - r_20) <| fun x2_24 =>
    ow_cl (f_X4_squares fu 1 σ_20) <| fun r_52 σ_52 =>
    ow_let (((((σ_20.1 0 11) * ((σ_20.1 0 11) + (1 : Int32))) * (((2 : Int32) * (σ_20.1 0 11)) + (1 : Int32))) / (6 : Int32)) - r_52) <| fun x3_56 =>
    L_X8_two_60 fu fu a1 x2_24 x3_56 (1 : Int32) σ_52)
    else (some ((-2 : Int32), σ)))
def f_X8_isByte (fu : Nat) (a1 : Int32) (σ : ow_S) : Option (Int32 × ow_S) :=
    if a1 < 0 then (some ((0 : Int32), σ))
    else (if (255 : Int32) < a1 then (some ((0 : Int32), σ))
    else (some ((1 : Int32), σ)))
def L_X8_feed_125 (fu : Nat) (k72 : Int32 → Int32 → Int32 → Int32 → Int32 → Int32 → Int32 → ow_S → Option (Int32 × ow_S)) (x1 : Int32) (x2 : Int32) (x3 : Int32) (x4 : Int32) (x5 : Int32) (x6 : Int32) (x7 : Int32) (s1 : Int32) (σ : ow_S) : Option (Int32 × ow_S) :=
    ow_cv (f_X3_take fu s1 σ) <| fun σ_125 =>
    ow_let (x7 + (1 : Int32)) <| fun x7_128 =>
    k72 x1 x2 x3 x4 x5 x6 x7_128 σ_125
def L_X8_feed_72 (fu : Nat) : Nat → Int32 → Int32 → Int32 → Int32 → Int32 → Int32 → Int32 → ow_S → Option (Int32 × ow_S)
  | 0, _, _, _, _, _, _, _, _ => none
  | fn + 1, x1, x2, x3, x4, x5, x6, x7, σ =>
    if x1 ≤ x7 then (some ((σ.1 7 1), σ))
    else (if x7 = 0 then (L_X8_feed_125 fu (L_X8_feed_72 fu fn) x1 x2 x3 x4 x5 x6 x7 x2 σ)
    else (if x7 = (1 : Int32) then (L_X8_feed_125 fu (L_X8_feed_72 fu fn) x1 x2 x3 x4 x5 x6 x7 x3 σ)
    else (if x7 = (2 : Int32) then (L_X8_feed_125 fu (L_X8_feed_72 fu fn) x1 x2 x3 x4 x5 x6 x7 x4 σ)
    else (if x7 = (3 : Int32) then (L_X8_feed_125 fu (L_X8_feed_72 fu fn) x1 x2 x3 x4 x5 x6 x7 x5 σ)
    else (L_X8_feed_125 fu (L_X8_feed_72 fu fn) x1 x2 x3 x4 x5 x6 x7 x6 σ)))))
def f_X8_feed (fu : Nat) (a1 : Int32) (a2 : Int32) (a3 : Int32) (a4 : Int32) (a5 : Int32) (a6 : Int32) (σ : ow_S) : Option (Int32 × ow_S) :=
    if a1 < (1 : Int32) then (some ((-2 : Int32), σ))
    else (if (5 : Int32) < a1 then (some ((-2 : Int32), σ))
    else (ow_cl (f_X8_isByte fu a2 σ) <| fun r_11 σ_11 =>
    if r_11 = 0 then (some ((-2 : Int32), σ_11))
    else (ow_cl (f_X8_isByte fu a3 σ_11) <| fun r_18 σ_18 =>
    if r_18 = 0 then (some ((-2 : Int32), σ_18))
    else (ow_cl (f_X8_isByte fu a4 σ_18) <| fun r_26 σ_26 =>
    if r_26 = 0 then (some ((-2 : Int32), σ_26))
    else (ow_cl (f_X8_isByte fu a5 σ_26) <| fun r_34 σ_34 =>
    if r_34 = 0 then (some ((-2 : Int32), σ_34))
    else (ow_cl (f_X8_isByte fu a6 σ_34) <| fun r_42 σ_42 =>
    if r_42 = 0 then (some ((-2 : Int32), σ_42))
    else (if ((σ_42.1 7 1) + a1) ≤ (160 : Int32) then (L_X8_feed_72 fu fu a1 a2 a3 a4 a5 a6 (0 : Int32) σ_42)
    else (some ((-4 : Int32), σ_42)))))))))
def f_X8_text (fu : Nat) (σ : ow_S) : Option (Int32 × ow_S) :=
    if (σ.1 0 13) < (6 : Int32) then (ow_ck (ow_bd (σ.1 0 13) 6) <| ow_let (30 + 3 * (σ.1 0 13).toNatClampNeg) <| fun h_24 =>
    ow_cl (f_X3_readInto fu h_24 σ) <| fun r_25 σ_25 =>
    if r_25 < 0 then (ow_let (ow_sI σ_25 0 13 ((σ_25.1 0 13) + (1 : Int32))) <| fun σ_45 =>
    some (((σ_45.1 0 13) - (1 : Int32)), σ_45))
    else (some (((-100 : Int32) - r_25), σ_25)))
    else (some ((-4 : Int32), σ))
def f_X8_force (fu : Nat) (a1 : Int32) (σ : ow_S) : Option (Int32 × ow_S) :=
    if a1 < 0 then (some ((-2 : Int32), σ))
    else (if a1 < (σ.1 0 13) then (ow_let (σ.1 0 14) <| fun x2_19 =>
    ow_let (ow_sI σ 0 14 a1) <| fun σ_22 =>
    some (x2_19, σ_22))
    else (some ((-2 : Int32), σ)))
def f_X8_isNumber (fu : Nat) (a1 : Int32) (σ : ow_S) : Option (Int32 × ow_S) :=
    if a1 < 0 then (some ((0 : Int32), σ))
    else (if (65535 : Int32) < a1 then (some ((0 : Int32), σ))
    else (some ((1 : Int32), σ)))
def L_X8_lawText_28 (fu : Nat) (σ : ow_S) : Option (Nat × ow_S) :=
    ow_ck (ow_bd (0 : Int32) 6) <| ow_let (30 + 3 * (0 : Int32).toNatClampNeg) <| fun h_33 =>
    some (h_33, σ)
def f_X8_lawText (fu : Nat) (σ : ow_S) : Option (Nat × ow_S) :=
    if (σ.1 0 14) < 0 then (L_X8_lawText_28 fu σ)
    else (if (6 : Int32) ≤ (σ.1 0 14) then (L_X8_lawText_28 fu σ)
    else (ow_ck (ow_bd (σ.1 0 14) 6) <| ow_let (30 + 3 * (σ.1 0 14).toNatClampNeg) <| fun h_24 =>
    some (h_24, σ)))
def f_X8_asks (fu : Nat) (a1 : Int32) (a2 : Int32) (a3 : Int32) (a4 : Int32) (σ : ow_S) : Option (Int32 × ow_S) :=
    ow_let (a4 / (1000 : Int32)) <| fun x5_6 =>
    ow_let (ow_irem (a4 / (10 : Int32)) (100 : Int32)) <| fun x6_16 =>
    if a1 < 0 then (some ((-2 : Int32), σ))
    else (if (3 : Int32) ≤ a1 then (some ((-2 : Int32), σ))
    else (ow_cl (f_X8_isNumber fu a2 σ) <| fun r_28 σ_28 =>
    if r_28 = 0 then (some ((-2 : Int32), σ_28))
    else (ow_cl (f_X8_isNumber fu a3 σ_28) <| fun r_35 σ_35 =>
    if r_35 = 0 then (some ((-2 : Int32), σ_35))
    else (if a4 < 0 then (some ((-2 : Int32), σ_35))
    else (if (52 : Int32) < x5_6 then (some ((-2 : Int32), σ_35))
    else (if x6_16 < (60 : Int32) then (ow_cl (f_X8_lawText fu σ_35) <| fun r_68 σ_68 =>
    ow_cv (f_X7_setOut fu r_68 (σ_68.1 0 11) (ow_irem a4 (10 : Int32)) σ_68) <| fun σ_80 =>
    ow_cv (f_X7_keepBoth fu a2 a3 σ_80) <| fun σ_89 =>
    ow_cv (f_X7_meet fu x5_6 x6_16 σ_89) <| fun σ_100 =>
    ow_cl (f_X7_tellsBounded fu a1 σ_100) <| fun r_108 σ_108 =>
    some (r_108, σ_108))
    else (some ((-2 : Int32), σ_35))))))))
def f_X8_isBits (fu : Nat) (a1 : Int32) (σ : ow_S) : Option (Int32 × ow_S) :=
    if a1 < (1 : Int32) then (some ((0 : Int32), σ))
    else (if (16 : Int32) < a1 then (some ((0 : Int32), σ))
    else (some ((1 : Int32), σ)))
def f_X8_head (fu : Nat) (a1 : Int32) (a2 : Int32) (a3 : Int32) (σ : ow_S) : Option (Int32 × ow_S) :=
    if a1 < 0 then (some ((-2 : Int32), σ))
    else (if (5 : Int32) < (a1 / (10 : Int32)) then (some ((-2 : Int32), σ))
    else (ow_cl (f_X8_isBits fu a2 σ) <| fun r_13 σ_13 =>
    if r_13 = 0 then (some ((-2 : Int32), σ_13))
    else (ow_cl (f_X8_isNumber fu a3 σ_13) <| fun r_20 σ_20 =>
    if r_20 = 0 then (some ((-2 : Int32), σ_20))
    else (if (σ_20.1 0 12) < (5 : Int32) then (ow_ck (ow_bd (σ_20.1 0 12) 5) <| ow_let (25 + (σ_20.1 0 12).toNatClampNeg) <| fun h_48 =>
    ow_let (ow_sI σ_20 h_48 0 (a1 / (10 : Int32))) <| fun σ_57 =>
    ow_let (ow_sI σ_57 h_48 1 (ow_irem a1 (10 : Int32))) <| fun σ_66 =>
    ow_let (ow_sI σ_66 h_48 2 a2) <| fun σ_72 =>
    ow_let (ow_sI σ_72 h_48 3 a3) <| fun σ_78 =>
    ow_let (ow_sI σ_78 h_48 4 (0 : Int32)) <| fun σ_84 =>
    ow_let (ow_sI σ_84 0 12 ((σ_84.1 0 12) + (1 : Int32))) <| fun σ_94 =>
    some (((σ_94.1 0 12) - (1 : Int32)), σ_94))
    else (some ((-4 : Int32), σ_20))))))
def f_X8_isHead (fu : Nat) (a1 : Int32) (σ : ow_S) : Option (Int32 × ow_S) :=
    if a1 < 0 then (some ((0 : Int32), σ))
    else (if (σ.1 0 12) ≤ a1 then (some ((0 : Int32), σ))
    else (some ((1 : Int32), σ)))
def f_X8_told (fu : Nat) (a1 : Int32) (a2 : Int32) (σ : ow_S) : Option (Int32 × ow_S) :=
    ow_cl (f_X8_isHead fu a1 σ) <| fun r_2 σ_2 =>
    if r_2 = 0 then (some ((-5 : Int32), σ_2))
    else (ow_ck (ow_bd a1 5) <| ow_let (25 + a1.toNatClampNeg) <| fun h_16 =>
    if a2 = (0 : Int32) then (some ((σ_2.1 h_16 0), σ_2))
    else (if a2 = (1 : Int32) then (some ((σ_2.1 h_16 1), σ_2))
    else (if a2 = (2 : Int32) then (some ((σ_2.1 h_16 2), σ_2))
    else (if a2 = (3 : Int32) then (some ((σ_2.1 h_16 3), σ_2))
    else (if a2 = (4 : Int32) then (some ((σ_2.1 h_16 4), σ_2))
    else (some ((-7 : Int32), σ_2)))))))
def L_X8_set_44 (fu : Nat) (x1 : Int32) (x2 : Int32) (x3 : Int32) (σ : ow_S) : Option (Int32 × ow_S) :=
    ow_ck (ow_bd x1 5) <| ow_let (25 + x1.toNatClampNeg) <| fun h_49 =>
    ow_cl (f_X8_told fu x1 (x2 + (2 : Int32)) σ) <| fun r_57 σ_57 =>
    if x2 = 0 then (ow_let (ow_sI σ_57 h_49 2 x3) <| fun σ_69 =>
    some (r_57, σ_69))
    else (if x2 = (1 : Int32) then (ow_let (ow_sI σ_57 h_49 3 x3) <| fun σ_83 =>
    some (r_57, σ_83))
    else (ow_let (ow_sI σ_57 h_49 4 x3) <| fun σ_92 =>
    some (r_57, σ_92)))
def f_X8_set (fu : Nat) (a1 : Int32) (a2 : Int32) (a3 : Int32) (σ : ow_S) : Option (Int32 × ow_S) :=
    ow_cl (f_X8_isHead fu a1 σ) <| fun r_2 σ_2 =>
    if r_2 = 0 then (some ((-5 : Int32), σ_2))
    else (if a2 < 0 then (some ((-7 : Int32), σ_2))
    else (if (2 : Int32) < a2 then (some ((-7 : Int32), σ_2))
    else (if a2 = 0 then (ow_cl (f_X8_isBits fu a3 σ_2) <| fun r_25 σ_25 =>
    if r_25 = 0 then (some ((-7 : Int32), σ_25))
    else (L_X8_set_44 fu a1 a2 a3 σ_25))
    else (ow_cl (f_X8_isNumber fu a3 σ_2) <| fun r_35 σ_35 =>
    if r_35 = 0 then (some ((-7 : Int32), σ_35))
    else (L_X8_set_44 fu a1 a2 a3 σ_35)))))
def f_X8_saysOf (fu : Nat) (a1 : Nat) (a2 : Nat) (σ : ow_S) : Option (Int32 × ow_S) :=
    ow_cl (f_X8_lawText fu σ) <| fun r_7 σ_7 =>
    ow_cl (f_X7_says fu a1 a2 r_7 (σ_7.1 0 11) σ_7) <| fun r_14 σ_14 =>
    some (r_14, σ_14)
def f_X8_say (fu : Nat) (a1 : Int32) (σ : ow_S) : Option (Int32 × ow_S) :=
    ow_cl (f_X8_isHead fu a1 σ) <| fun r_2 σ_2 =>
    if r_2 = 0 then (some ((-1000005 : Int32), σ_2))
    else (ow_ck (ow_bd a1 5) <| ow_let (25 + a1.toNatClampNeg) <| fun h_14 =>
    ow_cl (f_X8_saysOf fu h_14 1 σ_2) <| fun r_19 σ_19 =>
    some (r_19, σ_19))
def L_X8_keep_66 (fu : Nat) : Nat → Int32 → Int32 → Nat → Int32 → ow_S → Option (Int32 × ow_S)
  | 0, _, _, _, _, _ => none
  | fn + 1, x2, x3, r4, x5, σ =>
    ow_cl (f_X0_goings fu r4 σ) <| fun r_70 σ_70 =>
    if r_70 ≤ x5 then (ow_cv (f_X7_goAlong fu r4 1 x2 σ_70) <| fun σ_113 =>
    if x3 = 0 then (some ((σ_113.1 11 0), σ_113))
    else (some ((σ_113.1 11 1), σ_113)))
    else (ow_cv (f_X7_goAlong fu r4 1 (σ_70.1 1 1) σ_70) <| fun σ_93 =>
    ow_let (x5 + (1 : Int32)) <| fun x5_96 =>
    (L_X8_keep_66 fu fn) x2 x3 r4 x5_96 σ_93)
def f_X8_keep (fu : Nat) (a1 : Int32) (a2 : Int32) (a3 : Int32) (σ : ow_S) : Option (Int32 × ow_S) :=
    ow_cl (f_X8_isHead fu a1 σ) <| fun r_2 σ_2 =>
    if r_2 = 0 then (some ((-5 : Int32), σ_2))
    else (if a2 < 0 then (some ((-7 : Int32), σ_2))
    else (if (σ_2.1 1 1) < a2 then (some ((-7 : Int32), σ_2))
    else (if a3 < 0 then (some ((-7 : Int32), σ_2))
    else (if a3 ≤ (1 : Int32) then (ow_ck (ow_bd a1 5) <| ow_let (25 + a1.toNatClampNeg) <| fun h_43 =>
    ow_cl (f_X8_lawText fu σ_2) <| fun r_53 σ_53 =>
    ow_cv (f_X7_setOutAs fu h_43 r_53 (σ_53.1 0 11) σ_53) <| fun σ_60 =>
    L_X8_keep_66 fu fu a2 a3 h_43 (1 : Int32) σ_60)
    else (some ((-7 : Int32), σ_2))))))
def f_X8_saysBut (fu : Nat) (a1 : Int32) (a2 : Int32) (a3 : Nat) (a4 : Nat) (σ : ow_S) : Option (Int32 × ow_S) :=
    ow_cv (f_X4_becomeAllBut fu 3 a1 (σ.1 0 11) a2 σ) <| fun σ_10 =>
    ow_cl (f_X7_says fu a3 3 a4 (σ_10.1 0 11) σ_10) <| fun r_28 σ_28 =>
    some (r_28, σ_28)
def L_X8_right_64 (fu : Nat) (k24 : Int32 → Int32 → Int64 → Int32 → ow_S → Option (Int64 × ow_S)) (x1 : Int32) (x2 : Int32) (x3 : Int64) (x5 : Int32) (σ : ow_S) : Option (Int64 × ow_S) :=
    ow_let (x5 + (1 : Int32)) <| fun x5_64 =>
    k24 x1 x2 x3 x5_64 σ
def L_X8_right_24 (fu : Nat) : Nat → Int32 → Int32 → Int64 → Int32 → ow_S → Option (Int64 × ow_S)
  | 0, _, _, _, _, _ => none
  | fn + 1, x1, x2, x3, x5, σ =>
    if (σ.1 0 11) < x5 then (some (x3, σ))
    else (ow_ck (ow_bd x1 5) <| ow_let (25 + x1.toNatClampNeg) <| fun h_42 =>
    ow_cl (f_X8_lawText fu σ) <| fun r_44 σ_44 =>
    ow_cl (f_X8_saysBut fu x5 x2 h_42 r_44 σ_44) <| fun r_47 σ_47 =>
    if r_47 = x5 then (ow_let (x3 ||| ((1 : Int64) <<< ((x5 - (1 : Int32)).toInt64 &&& 63))) <| fun x3_63 =>
    L_X8_right_64 fu (L_X8_right_24 fu fn) x1 x2 x3_63 x5 σ_47)
    else (L_X8_right_64 fu (L_X8_right_24 fu fn) x1 x2 x3 x5 σ_47))
def f_X8_right (fu : Nat) (a1 : Int32) (a2 : Int32) (σ : ow_S) : Option (Int64 × ow_S) :=
    ow_cl (f_X8_isHead fu a1 σ) <| fun r_2 σ_2 =>
    if r_2 = 0 then (some ((-4611686018427387904 : Int64), σ_2))
    else (ow_cl (f_X8_isWay fu a2 σ_2) <| fun r_9 σ_9 =>
    if r_9 = 0 then (some ((-4611686018427387904 : Int64), σ_9))
    else (ow_let (0 : Int64) <| fun x3_20 =>
    L_X8_right_24 fu fu a1 a2 x3_20 (1 : Int32) σ_9))
def L_X8_isRightOfAll_2 (fu : Nat) : Nat → Nat → Int32 → ow_S → Option (Int32 × ow_S)
  | 0, _, _, _ => none
  | fn + 1, r1, x2, σ =>
    if (σ.1 0 11) < x2 then (some ((1 : Int32), σ))
    else (ow_cl (f_X8_lawText fu σ) <| fun r_15 σ_15 =>
    ow_cl (f_X8_saysBut fu x2 (0 : Int32) r1 r_15 σ_15) <| fun r_18 σ_18 =>
    if r_18 = x2 then (ow_let (x2 + (1 : Int32)) <| fun x2_27 =>
    (L_X8_isRightOfAll_2 fu fn) r1 x2_27 σ_18)
    else (some ((0 : Int32), σ_18)))
def f_X8_isRightOfAll (fu : Nat) (a1 : Nat) (σ : ow_S) : Option (Int32 × ow_S) :=
    L_X8_isRightOfAll_2 fu fu a1 (1 : Int32) σ
def L_X8_least_26 (fu : Nat) : Nat → Int32 → ow_S → Option (Int32 × ow_S)
  | 0, _, _ => none
  | fn + 1, x2, σ =>
    if (16 : Int32) < x2 then (some ((-1 : Int32), σ))
    else (ow_let (ow_sI σ 6 2 x2) <| fun σ_37 =>
    ow_cl (f_X8_isRightOfAll fu 6 σ_37) <| fun r_45 σ_45 =>
    if r_45 = 0 then (ow_let (x2 + (1 : Int32)) <| fun x2_53 =>
    (L_X8_least_26 fu fn) x2_53 σ_45)
    else (some (x2, σ_45)))
def f_X8_least (fu : Nat) (a1 : Int32) (σ : ow_S) : Option (Int32 × ow_S) :=
    ow_cl (f_X8_isHead fu a1 σ) <| fun r_2 σ_2 =>
    if r_2 = 0 then (some ((-5 : Int32), σ_2))
    else (ow_ck (ow_bd a1 5) <| ow_let (25 + a1.toNatClampNeg) <| fun h_20 =>
    ow_cv (f_X0_become fu 6 h_20 σ_2) <| fun σ_21 =>
    L_X8_least_26 fu fu (1 : Int32) σ_21)
def L_X8_countRight_30 (fu : Nat) (k4 : Nat → Int32 → Int32 → ow_S → Option (Int32 × ow_S)) (r1 : Nat) (x2 : Int32) (x3 : Int32) (σ : ow_S) : Option (Int32 × ow_S) :=
    ow_let (x3 + (1 : Int32)) <| fun x3_30 =>
    k4 r1 x2 x3_30 σ
def L_X8_countRight_4 (fu : Nat) : Nat → Nat → Int32 → Int32 → ow_S → Option (Int32 × ow_S)
  | 0, _, _, _, _ => none
  | fn + 1, r1, x2, x3, σ =>
    if (σ.1 0 11) < x3 then (some (x2, σ))
    else (ow_cl (f_X8_lawText fu σ) <| fun r_17 σ_17 =>
    ow_cl (f_X8_saysBut fu x3 (0 : Int32) r1 r_17 σ_17) <| fun r_20 σ_20 =>
    if r_20 = x3 then (ow_let (x2 + (1 : Int32)) <| fun x2_27 =>
    L_X8_countRight_30 fu (L_X8_countRight_4 fu fn) r1 x2_27 x3 σ_20)
    else (L_X8_countRight_30 fu (L_X8_countRight_4 fu fn) r1 x2 x3 σ_20))
def f_X8_countRight (fu : Nat) (a1 : Nat) (σ : ow_S) : Option (Int32 × ow_S) :=
    L_X8_countRight_4 fu fu a1 (0 : Int32) (1 : Int32) σ
def L_X8_begin_103 (fu : Nat) (k44 : Int32 → Int32 → Int32 → Int32 → ow_S → Option (Int32 × ow_S)) (x2 : Int32) (x3 : Int32) (x4 : Int32) (x5 : Int32) (σ : ow_S) : Option (Int32 × ow_S) :=
    ow_let (x5 + (1 : Int32)) <| fun x5_103 =>
    k44 x2 x3 x4 x5_103 σ
def L_X8_begin_71 (fu : Nat) (k44 : Int32 → Int32 → Int32 → Int32 → ow_S → Option (Int32 × ow_S)) (x2 : Int32) (x3 : Int32) (x4 : Int32) (x5 : Int32) (s1 : Int32) (σ : ow_S) : Option (Int32 × ow_S) :=
    ow_let (ow_sI σ 6 3 s1) <| fun σ_71 =>
    ow_cl (f_X8_countRight fu 6 σ_71) <| fun r_79 σ_79 =>
    if r_79 ≤ x4 then (L_X8_begin_103 fu k44 x2 x3 x4 x5 σ_79)
    else (ow_let (σ_79.1 6 3) <| fun x3_102 =>
    L_X8_begin_103 fu k44 x2 x3_102 r_79 x5 σ_79)
def L_X8_begin_44 (fu : Nat) : Nat → Int32 → Int32 → Int32 → Int32 → ow_S → Option (Int32 × ow_S)
  | 0, _, _, _, _, _ => none
  | fn + 1, x2, x3, x4, x5, σ =>
    if (100 : Int32) < x5 then (if x2 = 0 then (some (x3, σ))
    else (some (x4, σ)))
    else (if (100 : Int32) ≤ x5 then (ow_cl (f_X8_packSum fu σ) <| fun r_68 σ_68 =>
    L_X8_begin_71 fu (L_X8_begin_44 fu fn) x2 x3 x4 x5 r_68 σ_68)
    else (L_X8_begin_71 fu (L_X8_begin_44 fu fn) x2 x3 x4 x5 x5 σ))
def f_X8_begin (fu : Nat) (a1 : Int32) (a2 : Int32) (σ : ow_S) : Option (Int32 × ow_S) :=
    ow_cl (f_X8_isHead fu a1 σ) <| fun r_2 σ_2 =>
    if r_2 = 0 then (some ((-5 : Int32), σ_2))
    else (if a2 < 0 then (some ((-7 : Int32), σ_2))
    else (if a2 ≤ (1 : Int32) then (ow_ck (ow_bd a1 5) <| ow_let (25 + a1.toNatClampNeg) <| fun h_32 =>
    ow_cv (f_X0_become fu 6 h_32 σ_2) <| fun σ_33 =>
    L_X8_begin_44 fu fu a2 (0 : Int32) (-1 : Int32) (0 : Int32) σ_33)
    else (some ((-7 : Int32), σ_2))))
def f_X8_same (fu : Nat) (a1 : Int32) (a2 : Int32) (σ : ow_S) : Option (Int32 × ow_S) :=
    ow_cl (f_X8_isHead fu a1 σ) <| fun r_2 σ_2 =>
    if r_2 = 0 then (some ((-5 : Int32), σ_2))
    else (if a2 < 0 then (some ((-7 : Int32), σ_2))
    else (if a2 ≤ (1 : Int32) then (ow_cv (f_X4_become fu 3 1 σ_2) <| fun σ_31 =>
    ow_cv (f_X4_beTurned fu 3 a2 σ_31) <| fun σ_39 =>
    ow_ck (ow_bd a1 5) <| ow_let (25 + a1.toNatClampNeg) <| fun h_48 =>
    ow_cl (f_X8_saysOf fu h_48 1 σ_39) <| fun r_53 σ_53 =>
    ow_ck (ow_bd a1 5) <| ow_let (25 + a1.toNatClampNeg) <| fun h_62 =>
    ow_cl (f_X8_saysOf fu h_62 3 σ_53) <| fun r_67 σ_67 =>
    if r_53 = r_67 then (some ((1 : Int32), σ_67))
    else (some ((0 : Int32), σ_67)))
    else (some ((-7 : Int32), σ_2))))
def f_X8_share (fu : Nat) (a1 : Int32) (a2 : Int32) (σ : ow_S) : Option (Int32 × ow_S) :=
    ow_cl (f_X8_isHead fu a1 σ) <| fun r_2 σ_2 =>
    if r_2 = 0 then (some ((-1000005 : Int32), σ_2))
    else (ow_cl (f_X8_isHead fu a2 σ_2) <| fun r_10 σ_10 =>
    if r_10 = 0 then (some ((-1000005 : Int32), σ_10))
    else (ow_cv (f_X4_becomeEverySecond fu 3 1 (0 : Int32) σ_10) <| fun σ_28 =>
    ow_ck (ow_bd a1 5) <| ow_let (25 + a1.toNatClampNeg) <| fun h_37 =>
    ow_cl (f_X8_saysOf fu h_37 3 σ_28) <| fun r_42 σ_42 =>
    ow_cv (f_X4_becomeEverySecond fu 3 1 (1 : Int32) σ_42) <| fun σ_55 =>
    ow_ck (ow_bd a2 5) <| ow_let (25 + a2.toNatClampNeg) <| fun h_65 =>
    ow_cl (f_X8_saysOf fu h_65 3 σ_55) <| fun r_70 σ_70 =>
    some ((r_42 + r_70), σ_70)))
def L_X8_extendPairs_80 (fu : Nat) (k8 : Nat → Int32 → Int32 → Int32 → Int32 → Int32 → ow_S → Option (Int32 × ow_S)) (r1 : Nat) (x2 : Int32) (x3 : Int32) (x5 : Int32) (x6 : Int32) (x7 : Int32) (σ : ow_S) : Option (Int32 × ow_S) :=
    ow_let (x7 + (1 : Int32)) <| fun x7_80 =>
    k8 r1 x2 x3 x5 x6 x7_80 σ
def L_X8_extendPairs_18 (fu : Nat) (k8 : Nat → Int32 → Int32 → Int32 → Int32 → Int32 → ow_S → Option (Int32 × ow_S)) : Nat → Nat → Int32 → Int32 → Int32 → Int32 → Int32 → Int32 → ow_S → Option (Int32 × ow_S)
  | 0, _, _, _, _, _, _, _, _ => none
  | fn + 1, r1, x2, x3, x5, x6, x7, x8, σ =>
    if x2 < x8 then (L_X8_extendPairs_80 fu k8 r1 x2 x3 x5 x6 x7 σ)
    else (if (259 : Int32) ≤ x6 then (L_X8_extendPairs_80 fu k8 r1 x2 x3 x5 x6 x7 σ)
    else (ow_ck (ow_bd x7 259) <|
    ow_cv (f_X7_keepPair fu (σ.1 14 x7.toNatClampNeg) σ) <| fun σ_43 =>
    ow_cv (f_X7_pass fu r1 x8 x3 σ_43) <| fun σ_54 =>
    ow_cl (f_X7_pair fu σ_54) <| fun r_67 σ_67 =>
    ow_ck (ow_bd x6 259) <|
    ow_let (ow_sI σ_67 14 x6.toNatClampNeg r_67) <| fun σ_70 =>
    ow_let (x6 + (1 : Int32)) <| fun x6_71 =>
    ow_let (x8 + (1 : Int32)) <| fun x8_74 =>
    (L_X8_extendPairs_18 fu k8 fn) r1 x2 x3 x5 x6_71 x7 x8_74 σ_70))
def L_X8_extendPairs_8 (fu : Nat) : Nat → Nat → Int32 → Int32 → Int32 → Int32 → Int32 → ow_S → Option (Int32 × ow_S)
  | 0, _, _, _, _, _, _, _ => none
  | fn + 1, r1, x2, x3, x5, x6, x7, σ =>
    if x5 ≤ x7 then (some (x6, σ))
    else (L_X8_extendPairs_18 fu (L_X8_extendPairs_8 fu fn) fu r1 x2 x3 x5 x6 x7 (1 : Int32) σ)
def f_X8_extendPairs (fu : Nat) (a1 : Nat) (a2 : Int32) (a3 : Int32) (a4 : Int32) (a5 : Int32) (σ : ow_S) : Option (Int32 × ow_S) :=
    L_X8_extendPairs_8 fu fu a1 a2 a3 a5 a5 a4 σ
def L_X8_unlikePairs_63 (fu : Nat) (k4 : Int32 → Int32 → Int32 → ow_S → Option (Int32 × ow_S)) (x1 : Int32) (x2 : Int32) (x3 : Int32) (σ : ow_S) : Option (Int32 × ow_S) :=
    ow_let (x3 + (1 : Int32)) <| fun x3_63 =>
    k4 x1 x2 x3_63 σ
def L_X8_unlikePairs_55 (fu : Nat) (k4 : Int32 → Int32 → Int32 → ow_S → Option (Int32 × ow_S)) (x1 : Int32) (x2 : Int32) (x3 : Int32) (x4 : Int32) (σ : ow_S) : Option (Int32 × ow_S) :=
    if x4 = 0 then (ow_let (x2 + (1 : Int32)) <| fun x2_60 =>
    L_X8_unlikePairs_63 fu k4 x1 x2_60 x3 σ)
    else (L_X8_unlikePairs_63 fu k4 x1 x2 x3 σ)
def L_X8_unlikePairs_47 (fu : Nat) (k4 : Int32 → Int32 → Int32 → ow_S → Option (Int32 × ow_S)) (k15 : Int32 → Int32 → Int32 → Int32 → Int32 → ow_S → Option (Int32 × ow_S)) (x1 : Int32) (x2 : Int32) (x3 : Int32) (x5 : Int32) (s0 : Int32) (σ : ow_S) : Option (Int32 × ow_S) :=
    ow_let (x5 + (1 : Int32)) <| fun x5_49 =>
    k15 x1 x2 x3 s0 x5_49 σ
def L_X8_unlikePairs_15 (fu : Nat) (k4 : Int32 → Int32 → Int32 → ow_S → Option (Int32 × ow_S)) : Nat → Int32 → Int32 → Int32 → Int32 → Int32 → ow_S → Option (Int32 × ow_S)
  | 0, _, _, _, _, _, _ => none
  | fn + 1, x1, x2, x3, x4, x5, σ =>
    if x3 ≤ x5 then (L_X8_unlikePairs_55 fu k4 x1 x2 x3 x4 σ)
    else (if x4 = 0 then (ow_ck (ow_bd x5 259) <|
    ow_ck (ow_bd x3 259) <|
    if (σ.1 14 x5.toNatClampNeg) = (σ.1 14 x3.toNatClampNeg) then (L_X8_unlikePairs_47 fu k4 (L_X8_unlikePairs_15 fu k4 fn) x1 x2 x3 x5 (1 : Int32) σ)
    else (L_X8_unlikePairs_47 fu k4 (L_X8_unlikePairs_15 fu k4 fn) x1 x2 x3 x5 (0 : Int32) σ))
    else (L_X8_unlikePairs_55 fu k4 x1 x2 x3 x4 σ))
def L_X8_unlikePairs_4 (fu : Nat) : Nat → Int32 → Int32 → Int32 → ow_S → Option (Int32 × ow_S)
  | 0, _, _, _, _ => none
  | fn + 1, x1, x2, x3, σ =>
    if x1 ≤ x3 then (some (x2, σ))
    else (L_X8_unlikePairs_15 fu (L_X8_unlikePairs_4 fu fn) fu x1 x2 x3 (0 : Int32) (0 : Int32) σ)
def f_X8_unlikePairs (fu : Nat) (a1 : Int32) (σ : ow_S) : Option (Int32 × ow_S) :=
    L_X8_unlikePairs_4 fu fu a1 (0 : Int32) (0 : Int32) σ
def L_X8_states_85 (fu : Nat) : Nat → Int32 → Int32 → Int32 → Int32 → Int32 → Int32 → ow_S → Option (Int32 × ow_S)
  | 0, _, _, _, _, _, _, _ => none
  | fn + 1, x1, x2, x3, x4, x5, x6, σ =>
    if x3 ≤ x6 then (ow_cl (f_X8_unlikePairs fu x5 σ) <| fun r_127 σ_127 =>
    some (r_127, σ_127))
    else (ow_ck (ow_bd x1 5) <| ow_let (25 + x1.toNatClampNeg) <| fun h_97 =>
    ow_cl (f_X8_extendPairs fu h_97 x2 x6 x4 x5 σ) <| fun r_105 σ_105 =>
    ow_let (x6 + (1 : Int32)) <| fun x6_118 =>
    (L_X8_states_85 fu fn) x1 x2 x3 x5 r_105 x6_118 σ_105)
def f_X8_states (fu : Nat) (a1 : Int32) (a2 : Int32) (a3 : Int32) (σ : ow_S) : Option (Int32 × ow_S) :=
    ow_cl (f_X8_isHead fu a1 σ) <| fun r_2 σ_2 =>
    if r_2 = 0 then (some ((-5 : Int32), σ_2))
    else (if a2 < (1 : Int32) then (some ((-7 : Int32), σ_2))
    else (if (6 : Int32) < a2 then (some ((-7 : Int32), σ_2))
    else (if (σ_2.1 0 11) < a2 then (some ((-7 : Int32), σ_2))
    else (if a3 < 0 then (some ((-7 : Int32), σ_2))
    else (if a3 ≤ (3 : Int32) then (ow_ck (ow_bd a1 5) <| ow_let (25 + a1.toNatClampNeg) <| fun h_51 =>
    ow_cl (f_X8_lawText fu σ_2) <| fun r_53 σ_53 =>
    ow_cv (f_X7_setOutAs fu h_51 r_53 (σ_53.1 0 11) σ_53) <| fun σ_60 =>
    ow_cl (f_X7_pair fu σ_60) <| fun r_72 σ_72 =>
    ow_let (ow_sI σ_72 14 0 r_72) <| fun σ_75 =>
    L_X8_states_85 fu fu a1 a2 a3 (0 : Int32) (1 : Int32) (0 : Int32) σ_75)
    else (some ((-7 : Int32), σ_2)))))))
def L_X8_drop_94 (fu : Nat) (k34 : Int32 → Int32 → Int32 → Int32 → Int32 → ow_S → Option (Int32 × ow_S)) (x1 : Int32) (x2 : Int32) (x3 : Int32) (x4 : Int32) (x5 : Int32) (σ : ow_S) : Option (Int32 × ow_S) :=
    ow_let (x5 + (1 : Int32)) <| fun x5_94 =>
    k34 x1 x2 x3 x4 x5_94 σ
def L_X8_drop_87 (fu : Nat) (k34 : Int32 → Int32 → Int32 → Int32 → Int32 → ow_S → Option (Int32 × ow_S)) (x1 : Int32) (x2 : Int32) (x5 : Int32) (x6 : Int32) (σ : ow_S) : Option (Int32 × ow_S) :=
    L_X8_drop_94 fu k34 x1 x2 x5 x6 x5 σ
def L_X8_drop_34 (fu : Nat) : Nat → Int32 → Int32 → Int32 → Int32 → Int32 → ow_S → Option (Int32 × ow_S)
  | 0, _, _, _, _, _, _ => none
  | fn + 1, x1, x2, x3, x4, x5, σ =>
    if (σ.1 1 1) ≤ x5 then (if x2 = 0 then (some (x3, σ))
    else (some (x4, σ)))
    else (ow_cv (f_X4_becomeWithout fu 3 1 x5 σ) <| fun σ_56 =>
    ow_ck (ow_bd x1 5) <| ow_let (25 + x1.toNatClampNeg) <| fun h_65 =>
    ow_cl (f_X8_saysOf fu h_65 3 σ_56) <| fun r_70 σ_70 =>
    if x3 = (-1 : Int32) then (L_X8_drop_87 fu (L_X8_drop_34 fu fn) x1 x2 x5 r_70 σ_70)
    else (if r_70 ≤ x4 then (L_X8_drop_94 fu (L_X8_drop_34 fu fn) x1 x2 x3 x4 x5 σ_70)
    else (L_X8_drop_87 fu (L_X8_drop_34 fu fn) x1 x2 x5 r_70 σ_70)))
def f_X8_drop (fu : Nat) (a1 : Int32) (a2 : Int32) (σ : ow_S) : Option (Int32 × ow_S) :=
    ow_cl (f_X8_isHead fu a1 σ) <| fun r_2 σ_2 =>
    if r_2 = 0 then (some ((-1000005 : Int32), σ_2))
    else (if a2 < 0 then (some ((-1000007 : Int32), σ_2))
    else (if a2 ≤ (1 : Int32) then (L_X8_drop_34 fu fu a1 a2 (-1 : Int32) (-1000000 : Int32) (0 : Int32) σ_2)
    else (some ((-1000007 : Int32), σ_2))))
def L_X8_often_83 (fu : Nat) (k56 : Int32 → Int32 → Int32 → Int32 → Int32 → ow_S → Option (Int32 × ow_S)) (x1 : Int32) (x2 : Int32) (x3 : Int32) (x4 : Int32) (x5 : Int32) (σ : ow_S) : Option (Int32 × ow_S) :=
    ow_cv (f_X4_beTurned fu 3 (1 : Int32) σ) <| fun σ_88 =>
    ow_let (x5 + (1 : Int32)) <| fun x5_91 =>
    k56 x1 x2 x3 x4 x5_91 σ_88
def L_X8_often_56 (fu : Nat) : Nat → Int32 → Int32 → Int32 → Int32 → Int32 → ow_S → Option (Int32 × ow_S)
  | 0, _, _, _, _, _, _ => none
  | fn + 1, x1, x2, x3, x4, x5, σ =>
    if x2 ≤ x5 then (some (x4, σ))
    else (ow_ck (ow_bd x1 5) <| ow_let (25 + x1.toNatClampNeg) <| fun h_68 =>
    ow_cl (f_X8_saysOf fu h_68 3 σ) <| fun r_73 σ_73 =>
    if r_73 = x3 then (ow_let (x4 + (1 : Int32)) <| fun x4_80 =>
    L_X8_often_83 fu (L_X8_often_56 fu fn) x1 x2 x3 x4_80 x5 σ_73)
    else (L_X8_often_83 fu (L_X8_often_56 fu fn) x1 x2 x3 x4 x5 σ_73))
def f_X8_often (fu : Nat) (a1 : Int32) (a2 : Int32) (a3 : Int32) (σ : ow_S) : Option (Int32 × ow_S) :=
    ow_cl (f_X8_isHead fu a1 σ) <| fun r_2 σ_2 =>
    if r_2 = 0 then (some ((-5 : Int32), σ_2))
    else (if a2 < (1 : Int32) then (some ((-7 : Int32), σ_2))
    else (if (20 : Int32) < a2 then (some ((-7 : Int32), σ_2))
    else (if a3 < (-1000000 : Int32) then (some ((-7 : Int32), σ_2))
    else (if a3 ≤ (1000000 : Int32) then (ow_cv (f_X4_become fu 3 1 σ_2) <| fun σ_47 =>
    L_X8_often_56 fu fu a1 a2 a3 (0 : Int32) (0 : Int32) σ_47)
    else (some ((-7 : Int32), σ_2))))))
def L_X8_who_53 (fu : Nat) (k19 : Int32 → Int32 → Int32 → Int32 → ow_S → Option (Int32 × ow_S)) (x1 : Int32) (x2 : Int32) (x3 : Int32) (x4 : Int32) (σ : ow_S) : Option (Int32 × ow_S) :=
    ow_let (x4 + (1 : Int32)) <| fun x4_53 =>
    k19 x1 x2 x3 x4_53 σ
def L_X8_who_19 (fu : Nat) : Nat → Int32 → Int32 → Int32 → Int32 → ow_S → Option (Int32 × ow_S)
  | 0, _, _, _, _, _ => none
  | fn + 1, x1, x2, x3, x4, σ =>
    if (σ.1 0 12) ≤ x4 then (if x1 = 0 then (some (x2, σ))
    else (some (x3, σ)))
    else (ow_ck (ow_bd x4 5) <| ow_let (25 + x4.toNatClampNeg) <| fun h_35 =>
    ow_cl (f_X8_countRight fu h_35 σ) <| fun r_36 σ_36 =>
    if r_36 ≤ x3 then (L_X8_who_53 fu (L_X8_who_19 fu fn) x1 x2 x3 x4 σ_36)
    else (L_X8_who_53 fu (L_X8_who_19 fu fn) x1 x4 r_36 x4 σ_36))
def f_X8_who (fu : Nat) (a1 : Int32) (σ : ow_S) : Option (Int32 × ow_S) :=
    if a1 < 0 then (some ((-2 : Int32), σ))
    else (if a1 ≤ (1 : Int32) then (L_X8_who_19 fu fu a1 (-1 : Int32) (-1 : Int32) (0 : Int32) σ)
    else (some ((-2 : Int32), σ)))
def f_X8_isSheet (fu : Nat) (a1 : Int32) (σ : ow_S) : Option (Int32 × ow_S) :=
    if a1 < 0 then (some ((0 : Int32), σ))
    else (if (4 : Int32) ≤ a1 then (some ((0 : Int32), σ))
    else (some ((1 : Int32), σ)))
def f_X8_refusalOfSheet (fu : Nat) (a1 : Int32) (σ : ow_S) : Option (Int32 × ow_S) :=
    ow_cl (f_X8_isSheet fu a1 σ) <| fun r_1 σ_1 =>
    if r_1 = 0 then (some ((-2 : Int32), σ_1))
    else (ow_ck (ow_bd a1 4) <| ow_let (48 + 2 * a1.toNatClampNeg) <| fun h_15 =>
    ow_cl (f_X5_isMissing fu h_15 σ_1) <| fun r_16 σ_16 =>
    if r_16 = 0 then (ow_ck (ow_bd a1 4) <| ow_let (48 + 2 * a1.toNatClampNeg) <| fun h_30 =>
    if (σ_16.1 h_30 2) ≤ (σ_16.1 0 11) then (some ((0 : Int32), σ_16))
    else (some ((-2 : Int32), σ_16)))
    else (some ((-11 : Int32), σ_16)))
def f_X8_refusalOfSayings (fu : Nat) (a1 : Int32) (a2 : Int32) (σ : ow_S) : Option (Int32 × ow_S) :=
    ow_cl (f_X8_refusalOfSheet fu a1 σ) <| fun r_2 σ_2 =>
    if r_2 = 0 then (ow_cl (f_X8_isHead fu a2 σ_2) <| fun r_14 σ_14 =>
    if r_14 = 0 then (some ((-5 : Int32), σ_14))
    else (some ((0 : Int32), σ_14)))
    else (some (r_2, σ_2))
def L_X8_firstUnlike_3 (fu : Nat) : Nat → Nat → Nat → Nat → Int32 → ow_S → Option (Int32 × ow_S)
  | 0, _, _, _, _, _ => none
  | fn + 1, r1, r2, r3, x4, σ =>
    if (σ.1 r1 2) ≤ x4 then (some ((-1 : Int32), σ))
    else (ow_cl (f_X8_saysBut fu (x4 + (1 : Int32)) (0 : Int32) r2 r3 σ) <| fun r_20 σ_20 =>
    ow_ck (ow_bd x4 40) <|
    if r_20 = (σ_20.1 (r1 + 1) x4.toNatClampNeg) then (ow_let (x4 + (1 : Int32)) <| fun x4_36 =>
    (L_X8_firstUnlike_3 fu fn) r1 r2 r3 x4_36 σ_20)
    else (some (x4, σ_20)))
def f_X8_firstUnlike (fu : Nat) (a1 : Nat) (a2 : Nat) (a3 : Nat) (σ : ow_S) : Option (Int32 × ow_S) :=
    L_X8_firstUnlike_3 fu fu a1 a2 a3 (0 : Int32) σ
def f_X8_judge (fu : Nat) (a1 : Int32) (a2 : Int32) (σ : ow_S) : Option (Int32 × ow_S) :=
    ow_cl (f_X8_refusalOfSayings fu a1 a2 σ) <| fun r_3 σ_3 =>
    if r_3 = 0 then (ow_ck (ow_bd a1 4) <| ow_let (48 + 2 * a1.toNatClampNeg) <| fun h_21 =>
    ow_ck (ow_bd a2 5) <| ow_let (25 + a2.toNatClampNeg) <| fun h_27 =>
    ow_cl (f_X8_lawText fu σ_3) <| fun r_29 σ_29 =>
    ow_cl (f_X8_firstUnlike fu h_21 h_27 r_29 σ_29) <| fun r_32 σ_32 =>
    some (r_32, σ_32))
    else (some (r_3, σ_3))
def L_X8_kinds_158 (fu : Nat) (k78 : Int32 → Int32 → Int32 → Int32 → Int32 → ow_S → Option (Int32 × ow_S)) (x1 : Int32) (x3 : Int32) (x5 : Int32) (x6 : Int32) (x7 : Int32) (σ : ow_S) : Option (Int32 × ow_S) :=
    ow_let (x7 + (1 : Int32)) <| fun x7_158 =>
    k78 x1 x3 x5 x6 x7_158 σ
def L_X8_kinds_127 (fu : Nat) (k78 : Int32 → Int32 → Int32 → Int32 → Int32 → ow_S → Option (Int32 × ow_S)) (x1 : Int32) (x3 : Int32) (x5 : Int32) (x6 : Int32) (x7 : Int32) (σ : ow_S) : Option (Int32 × ow_S) :=
    ow_ck (ow_bd x1 4) <| ow_let (48 + 2 * x1.toNatClampNeg) <| fun h_133 =>
    ow_cl (f_X8_lawText fu σ) <| fun r_139 σ_139 =>
    ow_cl (f_X8_firstUnlike fu h_133 6 r_139 σ_139) <| fun r_142 σ_142 =>
    if r_142 = (-1 : Int32) then (ow_let (x5 ||| ((1 : Int32) <<< (x7 &&& 31))) <| fun x5_156 =>
    L_X8_kinds_158 fu k78 x1 x3 x5_156 x6 x7 σ_142)
    else (L_X8_kinds_158 fu k78 x1 x3 x5 x6 x7 σ_142)
def L_X8_kinds_78 (fu : Nat) : Nat → Int32 → Int32 → Int32 → Int32 → Int32 → ow_S → Option (Int32 × ow_S)
  | 0, _, _, _, _, _, _ => none
  | fn + 1, x1, x3, x5, x6, x7, σ =>
    if x6 < x7 then (some (x5, σ))
    else (if x3 = 0 then (ow_let (ow_sI σ 6 0 x7) <| fun σ_95 =>
    L_X8_kinds_127 fu (L_X8_kinds_78 fu fn) x1 x3 x5 x6 x7 σ_95)
    else (if x3 = (1 : Int32) then (ow_let (ow_sI σ 6 1 x7) <| fun σ_112 =>
    L_X8_kinds_127 fu (L_X8_kinds_78 fu fn) x1 x3 x5 x6 x7 σ_112)
    else (ow_let (ow_sI σ 6 2 x7) <| fun σ_124 =>
    L_X8_kinds_127 fu (L_X8_kinds_78 fu fn) x1 x3 x5 x6 x7 σ_124)))
def L_X8_kinds_76 (fu : Nat) (x1 : Int32) (x3 : Int32) (x5 : Int32) (x6 : Int32) (s0 : Int32) (σ : ow_S) : Option (Int32 × ow_S) :=
    L_X8_kinds_78 fu fu x1 x3 x5 x6 s0 σ
def L_X8_kinds_64 (fu : Nat) (x1 : Int32) (x3 : Int32) (x5 : Int32) (s0 : Int32) (σ : ow_S) : Option (Int32 × ow_S) :=
    if x3 = (2 : Int32) then (L_X8_kinds_76 fu x1 x3 x5 s0 (1 : Int32) σ)
    else (L_X8_kinds_76 fu x1 x3 x5 s0 (0 : Int32) σ)
def f_X8_kinds (fu : Nat) (a1 : Int32) (a2 : Int32) (a3 : Int32) (σ : ow_S) : Option (Int32 × ow_S) :=
    ow_cl (f_X8_refusalOfSayings fu a1 a2 σ) <| fun r_3 σ_3 =>
    if r_3 = 0 then (if a3 < 0 then (some ((-7 : Int32), σ_3))
    else (if a3 ≤ (2 : Int32) then (ow_ck (ow_bd a2 5) <| ow_let (25 + a2.toNatClampNeg) <| fun h_37 =>
    ow_cv (f_X0_become fu 6 h_37 σ_3) <| fun σ_38 =>
    if a3 = 0 then (L_X8_kinds_64 fu a1 a3 (0 : Int32) (5 : Int32) σ_38)
    else (if a3 = (1 : Int32) then (L_X8_kinds_64 fu a1 a3 (0 : Int32) (9 : Int32) σ_38)
    else (L_X8_kinds_64 fu a1 a3 (0 : Int32) (16 : Int32) σ_38)))
    else (some ((-7 : Int32), σ_3))))
    else (some (r_3, σ_3))
def L_X8_begins_102 (fu : Nat) (k50 : Int32 → Int32 → Int32 → Int32 → Int32 → ow_S → Option (Int32 × ow_S)) (x1 : Int32) (x3 : Int32) (x5 : Int32) (x6 : Int32) (x7 : Int32) (σ : ow_S) : Option (Int32 × ow_S) :=
    ow_let (x7 + (1 : Int32)) <| fun x7_102 =>
    k50 x1 x3 x5 x6 x7_102 σ
def L_X8_begins_50 (fu : Nat) : Nat → Int32 → Int32 → Int32 → Int32 → Int32 → ow_S → Option (Int32 × ow_S)
  | 0, _, _, _, _, _, _ => none
  | fn + 1, x1, x3, x5, x6, x7, σ =>
    if (200 : Int32) < x7 then (if x3 = 0 then (some (x5, σ))
    else (some (x6, σ)))
    else (ow_let (ow_sI σ 6 3 x7) <| fun σ_64 =>
    ow_ck (ow_bd x1 4) <| ow_let (48 + 2 * x1.toNatClampNeg) <| fun h_73 =>
    ow_cl (f_X8_lawText fu σ_64) <| fun r_79 σ_79 =>
    ow_cl (f_X8_firstUnlike fu h_73 6 r_79 σ_79) <| fun r_82 σ_82 =>
    if r_82 = (-1 : Int32) then (ow_let (x5 + (1 : Int32)) <| fun x5_89 =>
    if x6 = (-1 : Int32) then (L_X8_begins_102 fu (L_X8_begins_50 fu fn) x1 x3 x5_89 x7 x7 σ_82)
    else (L_X8_begins_102 fu (L_X8_begins_50 fu fn) x1 x3 x5_89 x6 x7 σ_82))
    else (L_X8_begins_102 fu (L_X8_begins_50 fu fn) x1 x3 x5 x6 x7 σ_82))
def f_X8_begins (fu : Nat) (a1 : Int32) (a2 : Int32) (a3 : Int32) (σ : ow_S) : Option (Int32 × ow_S) :=
    ow_cl (f_X8_refusalOfSayings fu a1 a2 σ) <| fun r_3 σ_3 =>
    if r_3 = 0 then (if a3 < 0 then (some ((-7 : Int32), σ_3))
    else (if a3 ≤ (1 : Int32) then (ow_ck (ow_bd a2 5) <| ow_let (25 + a2.toNatClampNeg) <| fun h_37 =>
    ow_cv (f_X0_become fu 6 h_37 σ_3) <| fun σ_38 =>
    L_X8_begins_50 fu fu a1 a3 (0 : Int32) (-1 : Int32) (0 : Int32) σ_38)
    else (some ((-7 : Int32), σ_3))))
    else (some (r_3, σ_3))
def L_X8_laws_64 (fu : Nat) (k19 : Int32 → Int32 → Int32 → Int32 → ow_S → Option (Int32 × ow_S)) (x1 : Int32) (x2 : Int32) (x4 : Int32) (x5 : Int32) (σ : ow_S) : Option (Int32 × ow_S) :=
    ow_let (x5 + (1 : Int32)) <| fun x5_64 =>
    k19 x1 x2 x4 x5_64 σ
def L_X8_laws_19 (fu : Nat) : Nat → Int32 → Int32 → Int32 → Int32 → ow_S → Option (Int32 × ow_S)
  | 0, _, _, _, _, _ => none
  | fn + 1, x1, x2, x4, x5, σ =>
    if (σ.1 0 13) ≤ x5 then (some (x4, σ))
    else (ow_ck (ow_bd x1 4) <| ow_let (48 + 2 * x1.toNatClampNeg) <| fun h_34 =>
    ow_ck (ow_bd x2 5) <| ow_let (25 + x2.toNatClampNeg) <| fun h_40 =>
    ow_ck (ow_bd x5 6) <| ow_let (30 + 3 * x5.toNatClampNeg) <| fun h_47 =>
    ow_cl (f_X8_firstUnlike fu h_34 h_40 h_47 σ) <| fun r_48 σ_48 =>
    if r_48 = (-1 : Int32) then (ow_let (x4 ||| ((1 : Int32) <<< (x5 &&& 31))) <| fun x4_62 =>
    L_X8_laws_64 fu (L_X8_laws_19 fu fn) x1 x2 x4_62 x5 σ_48)
    else (L_X8_laws_64 fu (L_X8_laws_19 fu fn) x1 x2 x4 x5 σ_48))
def f_X8_laws (fu : Nat) (a1 : Int32) (a2 : Int32) (σ : ow_S) : Option (Int32 × ow_S) :=
    ow_cl (f_X8_refusalOfSayings fu a1 a2 σ) <| fun r_3 σ_3 =>
    if r_3 = 0 then (L_X8_laws_19 fu fu a1 a2 (0 : Int32) (0 : Int32) σ_3)
    else (some (r_3, σ_3))
def L_X8_whose_58 (fu : Nat) (k17 : Int32 → Int32 → Int32 → ow_S → Option (Int32 × ow_S)) (x1 : Int32) (x3 : Int32) (x4 : Int32) (σ : ow_S) : Option (Int32 × ow_S) :=
    ow_let (x4 + (1 : Int32)) <| fun x4_58 =>
    k17 x1 x3 x4_58 σ
def L_X8_whose_17 (fu : Nat) : Nat → Int32 → Int32 → Int32 → ow_S → Option (Int32 × ow_S)
  | 0, _, _, _, _ => none
  | fn + 1, x1, x3, x4, σ =>
    if (σ.1 0 12) ≤ x4 then (some (x3, σ))
    else (ow_ck (ow_bd x1 4) <| ow_let (48 + 2 * x1.toNatClampNeg) <| fun h_32 =>
    ow_ck (ow_bd x4 5) <| ow_let (25 + x4.toNatClampNeg) <| fun h_39 =>
    ow_cl (f_X8_lawText fu σ) <| fun r_41 σ_41 =>
    ow_cl (f_X8_firstUnlike fu h_32 h_39 r_41 σ_41) <| fun r_44 σ_44 =>
    if r_44 = (-1 : Int32) then (ow_let (x3 ||| ((1 : Int32) <<< (x4 &&& 31))) <| fun x3_57 =>
    L_X8_whose_58 fu (L_X8_whose_17 fu fn) x1 x3_57 x4 σ_44)
    else (L_X8_whose_58 fu (L_X8_whose_17 fu fn) x1 x3 x4 σ_44))
def f_X8_whose (fu : Nat) (a1 : Int32) (σ : ow_S) : Option (Int32 × ow_S) :=
    ow_cl (f_X8_refusalOfSheet fu a1 σ) <| fun r_2 σ_2 =>
    if r_2 = 0 then (L_X8_whose_17 fu fu a1 (0 : Int32) (0 : Int32) σ_2)
    else (some (r_2, σ_2))
def L_X8_film_56 (fu : Nat) : Nat → Int32 → Int32 → Int32 → Int32 → ow_S → Option (Int32 × ow_S)
  | 0, _, _, _, _, _ => none
  | fn + 1, x1, x2, x3, x4, σ =>
    if x3 ≤ x4 then (some (x3, σ))
    else (ow_ck (ow_bd x1 4) <| ow_let (48 + 2 * x1.toNatClampNeg) <| fun h_67 =>
    ow_ck (ow_bd x2 5) <| ow_let (25 + x2.toNatClampNeg) <| fun h_81 =>
    ow_cl (f_X8_lawText fu σ) <| fun r_83 σ_83 =>
    ow_cl (f_X8_saysBut fu (x4 + (1 : Int32)) (0 : Int32) h_81 r_83 σ_83) <| fun r_86 σ_86 =>
    ow_cv (f_X5_put fu h_67 x4 r_86 σ_86) <| fun σ_89 =>
    ow_let (x4 + (1 : Int32)) <| fun x4_92 =>
    (L_X8_film_56 fu fn) x1 x2 x3 x4_92 σ_89)
def f_X8_film (fu : Nat) (a1 : Int32) (a2 : Int32) (a3 : Int32) (σ : ow_S) : Option (Int32 × ow_S) :=
    ow_cl (f_X8_isSheet fu a1 σ) <| fun r_1 σ_1 =>
    if r_1 = 0 then (some ((-2 : Int32), σ_1))
    else (ow_cl (f_X8_isHead fu a2 σ_1) <| fun r_12 σ_12 =>
    if r_12 = 0 then (some ((-5 : Int32), σ_12))
    else (if a3 < 0 then (some ((-7 : Int32), σ_12))
    else (if (σ_12.1 0 11) < a3 then (some ((-7 : Int32), σ_12))
    else (if a3 ≤ (40 : Int32) then (ow_ck (ow_bd a1 4) <| ow_let (48 + 2 * a1.toNatClampNeg) <| fun h_47 =>
    ow_cv (f_X5_become fu h_47 (2 : Int32) a3 σ_12) <| fun σ_50 =>
    L_X8_film_56 fu fu a1 a2 a3 (0 : Int32) σ_50)
    else (some ((-7 : Int32), σ_12))))))
def f_X8_isSeed (fu : Nat) (a1 : Int32) (σ : ow_S) : Option (Int32 × ow_S) :=
    if a1 < 0 then (some ((0 : Int32), σ))
    else (if (99999 : Int32) < a1 then (some ((0 : Int32), σ))
    else (some ((1 : Int32), σ)))
def L_X8_drawTrialRow_45 (fu : Nat) : Nat → Int32 → Int32 → ow_S → Option (Int32 × ow_S)
  | 0, _, _, _ => none
  | fn + 1, x2, x3, σ =>
    if x3 < (1 : Int32) then (some (x2, σ))
    else (ow_cl (f_X2_below fu (x3 + (1 : Int32)) σ) <| fun r_62 σ_62 =>
    ow_cv (f_X4_change fu 3 x3 r_62 σ_62) <| fun σ_65 =>
    ow_let (x3 + (-1 : Int32)) <| fun x3_68 =>
    (L_X8_drawTrialRow_45 fu fn) x2 x3_68 σ_65)
def f_X8_drawTrialRow (fu : Nat) (a1 : Int32) (σ : ow_S) : Option (Int32 × ow_S) :=
    ow_cv (f_X2_start fu a1 σ) <| fun σ_5 =>
    ow_cl (f_X2_below fu (σ_5.1 0 11) σ_5) <| fun r_16 σ_16 =>
    ow_let (r_16 + (1 : Int32)) <| fun x2_21 =>
    ow_cv (f_X4_becomeAllBut fu 3 x2_21 (σ_16.1 0 11) (0 : Int32) σ_16) <| fun σ_32 =>
    ow_let ((σ_32.1 3 1) - (1 : Int32)) <| fun x3_44 =>
    L_X8_drawTrialRow_45 fu fu x2_21 x3_44 σ_32
def f_X8_drawn (fu : Nat) (a1 : Int32) (a2 : Int32) (a3 : Int32) (σ : ow_S) : Option (Int32 × ow_S) :=
    ow_cl (f_X8_isHead fu a2 σ) <| fun r_2 σ_2 =>
    if r_2 = 0 then (some ((-1000005 : Int32), σ_2))
    else (ow_cl (f_X8_isSeed fu a1 σ_2) <| fun r_12 σ_12 =>
    if r_12 = 0 then (some ((-1000007 : Int32), σ_12))
    else (if a3 < 0 then (some ((-1000007 : Int32), σ_12))
    else (if a3 ≤ (1 : Int32) then (ow_cl (f_X8_drawTrialRow fu a1 σ_12) <| fun r_33 σ_33 =>
    if a3 = 0 then (some (r_33, σ_33))
    else (ow_ck (ow_bd a2 5) <| ow_let (25 + a2.toNatClampNeg) <| fun h_53 =>
    ow_cl (f_X8_saysOf fu h_53 3 σ_33) <| fun r_58 σ_58 =>
    some (r_58, σ_58)))
    else (some ((-1000007 : Int32), σ_12)))))
def L_X8_commonDivisor_21 (fu : Nat) (k2 : Int32 → Int32 → Int32 → ow_S → Option (Int32 × ow_S)) (x0 : Int32) (x1 : Int32) (x2 : Int32) (σ : ow_S) : Option (Int32 × ow_S) :=
    ow_let (x2 + (-1 : Int32)) <| fun x2_21 =>
    k2 x0 x1 x2_21 σ
def L_X8_commonDivisor_2 (fu : Nat) : Nat → Int32 → Int32 → Int32 → ow_S → Option (Int32 × ow_S)
  | 0, _, _, _, _ => none
  | fn + 1, x0, x1, x2, σ =>
    if x2 ≤ (1 : Int32) then (some ((1 : Int32), σ))
    else (ow_ck (¬ x2 = 0) <|
    if (ow_irem x0 x2) = 0 then (ow_ck (¬ x2 = 0) <|
    if (ow_irem x1 x2) = 0 then (some (x2, σ))
    else (L_X8_commonDivisor_21 fu (L_X8_commonDivisor_2 fu fn) x0 x1 x2 σ))
    else (L_X8_commonDivisor_21 fu (L_X8_commonDivisor_2 fu fn) x0 x1 x2 σ))
def f_X8_commonDivisor (fu : Nat) (a1 : Int32) (a2 : Int32) (σ : ow_S) : Option (Int32 × ow_S) :=
    L_X8_commonDivisor_2 fu fu a1 a2 a2 σ
def L_X8_odds_85 (fu : Nat) (k47 : Int32 → Int32 → Int32 → Int32 → Int32 → Int32 → ow_S → Option (Int64 × ow_S)) (x1 : Int32) (x2 : Int32) (x3 : Int32) (x4 : Int32) (x5 : Int32) (x6 : Int32) (σ : ow_S) : Option (Int64 × ow_S) :=
    ow_let (x6 + (1 : Int32)) <| fun x6_85 =>
    k47 x1 x2 x3 x4 x5 x6_85 σ
def L_X8_odds_47 (fu : Nat) : Nat → Int32 → Int32 → Int32 → Int32 → Int32 → Int32 → ow_S → Option (Int64 × ow_S)
  | 0, _, _, _, _, _, _, _ => none
  | fn + 1, x1, x2, x3, x4, x5, x6, σ =>
    if x2 ≤ x6 then (ow_cl (f_X8_commonDivisor fu x5 x2 σ) <| fun r_94 σ_94 =>
    if x4 = 0 then (ow_ck (¬ r_94 = 0) <|
    some (((x5 / r_94).toInt64), σ_94))
    else (ow_ck (¬ r_94 = 0) <|
    some (((x2 / r_94).toInt64), σ_94)))
    else (ow_cl (f_X8_drawTrialRow fu (x1 + x6) σ) <| fun r_58 σ_58 =>
    ow_ck (ow_bd x3 5) <| ow_let (25 + x3.toNatClampNeg) <| fun h_69 =>
    ow_cl (f_X8_saysOf fu h_69 3 σ_58) <| fun r_74 σ_74 =>
    if r_74 = r_58 then (ow_let (x5 + (1 : Int32)) <| fun x5_82 =>
    L_X8_odds_85 fu (L_X8_odds_47 fu fn) x1 x2 x3 x4 x5_82 x6 σ_74)
    else (L_X8_odds_85 fu (L_X8_odds_47 fu fn) x1 x2 x3 x4 x5 x6 σ_74))
def f_X8_odds (fu : Nat) (a1 : Int32) (a2 : Int32) (a3 : Int32) (a4 : Int32) (σ : ow_S) : Option (Int64 × ow_S) :=
    ow_cl (f_X8_isSeed fu a1 σ) <| fun r_1 σ_1 =>
    if r_1 = 0 then (some ((-4611686018427387904 : Int64), σ_1))
    else (if a2 < (1 : Int32) then (some ((-4611686018427387904 : Int64), σ_1))
    else (if (30 : Int32) < a2 then (some ((-4611686018427387904 : Int64), σ_1))
    else (ow_cl (f_X8_isHead fu a3 σ_1) <| fun r_20 σ_20 =>
    if r_20 = 0 then (some ((-4611686018427387904 : Int64), σ_20))
    else (if a4 < 0 then (some ((-4611686018427387904 : Int64), σ_20))
    else (if a4 ≤ (1 : Int32) then (L_X8_odds_47 fu fu a1 a2 a3 a4 (0 : Int32) (0 : Int32) σ_20)
    else (some ((-4611686018427387904 : Int64), σ_20)))))))
def L_X8_image_57 (fu : Nat) : Nat → Int32 → ow_S → Option (Int32 × ow_S)
  | 0, _, _ => none
  | fn + 1, x1, σ =>
    if (σ.1 0 12) ≤ x1 then (some ((σ.1 0 12), σ))
    else (ow_ck (ow_bd x1 5) <| ow_let (20 + x1.toNatClampNeg) <| fun h_73 =>
    ow_ck (ow_bd x1 5) <| ow_let (25 + x1.toNatClampNeg) <| fun h_79 =>
    ow_cv (f_X0_become fu h_73 h_79 σ) <| fun σ_80 =>
    ow_let (x1 + (1 : Int32)) <| fun x1_83 =>
    (L_X8_image_57 fu fn) x1_83 σ_80)
def f_X8_image (fu : Nat) (σ : ow_S) : Option (Int32 × ow_S) :=
    ow_let (ow_sI σ 16 2 (1 : Int32)) <| fun σ_5 =>
    ow_let (ow_sI σ_5 16 3 (σ_5.1 0 11)) <| fun σ_16 =>
    ow_let (ow_sI σ_16 16 4 (σ_16.1 0 12)) <| fun σ_27 =>
    ow_let (ow_sI σ_27 16 5 (σ_27.1 0 14)) <| fun σ_38 =>
    ow_cv (f_X4_become fu 17 1 σ_38) <| fun σ_52 =>
    L_X8_image_57 fu fu (0 : Int32) σ_52
def L_X8_back_62 (fu : Nat) : Nat → Int32 → ow_S → Option (Int32 × ow_S)
  | 0, _, _ => none
  | fn + 1, x1, σ =>
    if (σ.1 0 12) ≤ x1 then (some ((σ.1 0 12), σ))
    else (ow_ck (ow_bd x1 5) <| ow_let (25 + x1.toNatClampNeg) <| fun h_75 =>
    ow_ck (ow_bd x1 5) <| ow_let (20 + x1.toNatClampNeg) <| fun h_84 =>
    ow_cv (f_X0_become fu h_75 h_84 σ) <| fun σ_85 =>
    ow_let (x1 + (1 : Int32)) <| fun x1_88 =>
    (L_X8_back_62 fu fn) x1_88 σ_85)
def f_X8_back (fu : Nat) (σ : ow_S) : Option (Int32 × ow_S) :=
    if (σ.1 16 2) = 0 then (some ((-3 : Int32), σ))
    else (ow_let (ow_sI σ 0 11 (σ.1 16 3)) <| fun σ_21 =>
    ow_let (ow_sI σ_21 0 12 (σ_21.1 16 4)) <| fun σ_32 =>
    ow_let (ow_sI σ_32 0 14 (σ_32.1 16 5)) <| fun σ_43 =>
    ow_cv (f_X4_become fu 1 17 σ_43) <| fun σ_57 =>
    L_X8_back_62 fu fu (0 : Int32) σ_57)
def L_X8_sheet_60 (fu : Nat) (s0 : Nat) (s1 : Int32) (s2 : Int32) (σ : ow_S) : Option (Int32 × ow_S) :=
    ow_cv (f_X5_become fu s0 s1 s2 σ) <| fun σ_60 =>
    some ((1 : Int32), σ_60)
def L_X8_sheet_43 (fu : Nat) (x1 : Int32) (x2 : Int32) (x3 : Int32) (σ : ow_S) : Option (Int32 × ow_S) :=
    ow_ck (ow_bd x1 4) <| ow_let (48 + 2 * x1.toNatClampNeg) <| fun h_48 =>
    if x2 = (-1 : Int32) then (L_X8_sheet_60 fu h_48 x2 (0 : Int32) σ)
    else (L_X8_sheet_60 fu h_48 x2 x3 σ)
def L_X8_sheet_31 (fu : Nat) (x1 : Int32) (x2 : Int32) (x3 : Int32) (σ : ow_S) : Option (Int32 × ow_S) :=
    if x2 = (-1 : Int32) then (L_X8_sheet_43 fu x1 x2 x3 σ)
    else (if 0 ≤ x3 then (L_X8_sheet_43 fu x1 x2 x3 σ)
    else (some ((-14 : Int32), σ)))
def f_X8_sheet (fu : Nat) (a1 : Int32) (a2 : Int32) (a3 : Int32) (σ : ow_S) : Option (Int32 × ow_S) :=
    ow_cl (f_X8_isSheet fu a1 σ) <| fun r_1 σ_1 =>
    if r_1 = 0 then (some ((-2 : Int32), σ_1))
    else (if a2 < (-1 : Int32) then (some ((-2 : Int32), σ_1))
    else (if (2 : Int32) < a2 then (some ((-2 : Int32), σ_1))
    else (if a2 = (-1 : Int32) then (L_X8_sheet_31 fu a1 a2 a3 σ_1)
    else (if a3 ≤ (40 : Int32) then (L_X8_sheet_31 fu a1 a2 a3 σ_1)
    else (some ((-2 : Int32), σ_1))))))
def f_X8_cell (fu : Nat) (a1 : Int32) (a2 : Int32) (a3 : Int32) (σ : ow_S) : Option (Int32 × ow_S) :=
    ow_cl (f_X8_isSheet fu a1 σ) <| fun r_1 σ_1 =>
    if r_1 = 0 then (some ((-2 : Int32), σ_1))
    else (ow_ck (ow_bd a1 4) <| ow_let (48 + 2 * a1.toNatClampNeg) <| fun h_15 =>
    ow_cl (f_X5_isMissing fu h_15 σ_1) <| fun r_16 σ_16 =>
    if r_16 = 0 then (ow_ck (ow_bd a1 4) <| ow_let (48 + 2 * a1.toNatClampNeg) <| fun h_30 =>
    ow_cl (f_X5_has fu h_30 a2 σ_16) <| fun r_32 σ_32 =>
    if r_32 = 0 then (some ((-12 : Int32), σ_32))
    else (ow_ck (ow_bd a1 4) <| ow_let (48 + 2 * a1.toNatClampNeg) <| fun h_46 =>
    ow_cv (f_X5_put fu h_46 a2 a3 σ_32) <| fun σ_49 =>
    some ((1 : Int32), σ_49)))
    else (some ((-11 : Int32), σ_16)))
def f_X8_copy (fu : Nat) (a1 : Int32) (a2 : Int32) (a3 : Int32) (a4 : Int32) (a5 : Int32) (σ : ow_S) : Option (Int32 × ow_S) :=
    ow_cl (f_X8_isSheet fu a1 σ) <| fun r_1 σ_1 =>
    if r_1 = 0 then (some ((-2 : Int32), σ_1))
    else (ow_cl (f_X8_isSheet fu a3 σ_1) <| fun r_8 σ_8 =>
    if r_8 = 0 then (some ((-2 : Int32), σ_8))
    else (ow_ck (ow_bd a1 4) <| ow_let (48 + 2 * a1.toNatClampNeg) <| fun h_22 =>
    ow_ck (ow_bd a3 4) <| ow_let (48 + 2 * a3.toNatClampNeg) <| fun h_30 =>
    ow_cl (f_X5_isMissing fu h_22 σ_8) <| fun r_35 σ_35 =>
    if r_35 = 0 then (ow_cl (f_X5_isMissing fu h_30 σ_35) <| fun r_43 σ_43 =>
    if r_43 = 0 then (if (σ_43.1 h_22 1) = (σ_43.1 h_30 1) then (ow_cl (f_X5_hasRun fu h_22 a2 a5 σ_43) <| fun r_73 σ_73 =>
    if r_73 = 0 then (some ((-12 : Int32), σ_73))
    else (ow_cl (f_X5_hasRun fu h_30 a4 a5 σ_73) <| fun r_85 σ_85 =>
    if r_85 = 0 then (some ((-12 : Int32), σ_85))
    else (ow_ck (ow_cb a2 a4 a5 40 40) <| ow_let (ow_sA σ_85 (h_30 + 1) (va_cpy (σ_85.1 (h_22 + 1)) (σ_85.1 (h_30 + 1)) a2.toNatClampNeg a4.toNatClampNeg a5.toNatClampNeg)) <| fun σ_109 =>
    some (a5, σ_109))))
    else (some ((-13 : Int32), σ_43)))
    else (some ((-11 : Int32), σ_43)))
    else (some ((-11 : Int32), σ_35))))
def L_X8_cardsBy_118 (fu : Nat) (k68 : Int32 → Int32 → Int32 → Int32 → Int32 → ow_S → Option (Int32 × ow_S)) (x1 : Int32) (x3 : Int32) (x4 : Int32) (x5 : Int32) (x6 : Int32) (σ : ow_S) : Option (Int32 × ow_S) :=
    ow_let (x6 + (1 : Int32)) <| fun x6_118 =>
    k68 x1 x3 x4 x5 x6_118 σ
def L_X8_cardsBy_68 (fu : Nat) : Nat → Int32 → Int32 → Int32 → Int32 → Int32 → ow_S → Option (Int32 × ow_S)
  | 0, _, _, _, _, _, _ => none
  | fn + 1, x1, x3, x4, x5, x6, σ =>
    if x4 ≤ x6 then (some (x5, σ))
    else (ow_ck (ow_bd x1 4) <| ow_let (48 + 2 * x1.toNatClampNeg) <| fun h_80 =>
    ow_cl (f_X5_has fu h_80 (x3 + x6) σ) <| fun r_85 σ_85 =>
    if r_85 = 0 then (some ((-12 : Int32), σ_85))
    else (ow_ck (ow_bd x1 4) <| ow_let (48 + 2 * x1.toNatClampNeg) <| fun h_100 =>
    ow_ck (ow_bd (x3 + x6) 40) <|
    ow_cl (f_X8_card fu (σ_85.1 (h_100 + 1) (x3 + x6).toNatClampNeg) σ_85) <| fun r_109 σ_109 =>
    if r_109 ≤ 0 then (L_X8_cardsBy_118 fu (L_X8_cardsBy_68 fu fn) x1 x3 x4 x5 x6 σ_109)
    else (ow_let (x5 + (1 : Int32)) <| fun x5_115 =>
    L_X8_cardsBy_118 fu (L_X8_cardsBy_68 fu fn) x1 x3 x4 x5_115 x6 σ_109)))
def f_X8_cardsBy (fu : Nat) (a1 : Int32) (a2 : Int32) (a3 : Int32) (a4 : Int32) (σ : ow_S) : Option (Int32 × ow_S) :=
    ow_cl (f_X8_isSheet fu a1 σ) <| fun r_1 σ_1 =>
    if r_1 = 0 then (some ((-2 : Int32), σ_1))
    else (if a2 < 0 then (some ((-2 : Int32), σ_1))
    else (if (2 : Int32) < a2 then (some ((-2 : Int32), σ_1))
    else (if a4 < 0 then (some ((-2 : Int32), σ_1))
    else (if a4 ≤ (40 : Int32) then (ow_ck (ow_bd a1 4) <| ow_let (48 + 2 * a1.toNatClampNeg) <| fun h_36 =>
    ow_cl (f_X5_isMissing fu h_36 σ_1) <| fun r_37 σ_37 =>
    if r_37 = 0 then (ow_ck (ow_bd a1 4) <| ow_let (48 + 2 * a1.toNatClampNeg) <| fun h_51 =>
    if (σ_37.1 h_51 1) = a2 then (L_X8_cardsBy_68 fu fu a1 a3 a4 (0 : Int32) (0 : Int32) σ_37)
    else (some ((-13 : Int32), σ_37)))
    else (some ((-11 : Int32), σ_37)))
    else (some ((-2 : Int32), σ_1))))))
def L_X8_isOfKind_4 (fu : Nat) : Nat → Int32 → Int32 → Int32 → ow_S → Option (Int32 × ow_S)
  | 0, _, _, _, _ => none
  | fn + 1, x1, x2, x3, σ =>
    if (6 : Int32) ≤ x3 then (some ((0 : Int32), σ))
    else (if x2 < 0 then (some ((0 : Int32), σ))
    else (if (6 : Int32) ≤ x2 then (some ((0 : Int32), σ))
    else (if x2 = x1 then (some ((1 : Int32), σ))
    else (ow_ck (ow_bd x2 6) <|
    ow_let (ow_ka x2.toNatClampNeg) <| fun x2_36 =>
    ow_let (x3 + (1 : Int32)) <| fun x3_37 =>
    (L_X8_isOfKind_4 fu fn) x1 x2_36 x3_37 σ))))
def f_X8_isOfKind (fu : Nat) (a1 : Int32) (a2 : Int32) (σ : ow_S) : Option (Int32 × ow_S) :=
    L_X8_isOfKind_4 fu fu a2 a1 (0 : Int32) σ
def f_X8_taken (fu : Nat) (a1 : Int32) (a2 : Int32) (σ : ow_S) : Option (Int32 × ow_S) :=
    if a2 < 0 then (some ((-2 : Int32), σ))
    else (if a2 ≤ (6 : Int32) then (if a1 < 0 then (some ((-12 : Int32), σ))
    else (if a1 < (65 : Int32) then (if (5 : Int32) ≤ a1 then (ow_let (a1 - (5 : Int32)) <| fun x3_68 =>
    ow_cl (f_X4_has fu 1 x3_68 σ) <| fun r_74 σ_74 =>
    if r_74 = 0 then (some ((-11 : Int32), σ_74))
    else (if a2 = (6 : Int32) then (ow_ck (ow_bd x3_68 60) <|
    some ((σ_74.1 2 x3_68.toNatClampNeg), σ_74))
    else (some ((-13 : Int32), σ_74))))
    else (ow_cl (f_X8_isHead fu a1 σ) <| fun r_33 σ_33 =>
    if r_33 = 0 then (some ((-11 : Int32), σ_33))
    else (ow_ck (ow_bd a1 5) <| ow_let (25 + a1.toNatClampNeg) <| fun h_47 =>
    ow_cl (f_X8_isOfKind fu (σ_33.1 h_47 0) a2 σ_33) <| fun r_52 σ_52 =>
    if r_52 = 0 then (some ((-13 : Int32), σ_52))
    else (some (a1, σ_52)))))
    else (some ((-12 : Int32), σ))))
    else (some ((-2 : Int32), σ)))
def f_X9_in (fu : Nat) (a1 : Int32) (a2 : Int32) (a3 : Int32) (σ : ow_S) : Option (Int32 × ow_S) :=
    if a1 < a2 then (some ((0 : Int32), σ))
    else (if a3 < a1 then (some ((0 : Int32), σ))
    else (some ((1 : Int32), σ)))
def f_X9_within (fu : Nat) (a1 : Int32) (a2 : Int32) (a3 : Int32) (σ : ow_S) : Option (Int32 × ow_S) :=
    if a2 ≤ a1 then (if a1 ≤ a3 then (some (a1, σ))
    else (some (a3, σ)))
    else (some (a2, σ))
def f_X9_isCard (fu : Nat) (a1 : Int32) (σ : ow_S) : Option (Int32 × ow_S) :=
    ow_cl (f_X9_in fu a1 (1 : Int32) (σ.1 56 0) σ) <| fun r_6 σ_6 =>
    some (r_6, σ_6)
def f_X9_isHead (fu : Nat) (a1 : Int32) (σ : ow_S) : Option (Int32 × ow_S) :=
    ow_cl (f_X9_in fu a1 (0 : Int32) ((σ.1 56 3) - (1 : Int32)) σ) <| fun r_8 σ_8 =>
    some (r_8, σ_8)
def f_X9_count (fu : Nat) (a1 : Int32) (σ : ow_S) : Option (Int32 × ow_S) :=
    if a1 = (0 : Int32) then (some ((σ.1 56 3), σ))
    else (if a1 = (1 : Int32) then (some ((σ.1 56 0), σ))
    else (if a1 = (2 : Int32) then (some ((σ.1 56 2), σ))
    else (if a1 = (3 : Int32) then (some ((σ.1 56 11), σ))
    else (if a1 = (4 : Int32) then (some ((σ.1 56 12), σ))
    else (if a1 = (5 : Int32) then (some ((σ.1 56 8), σ))
    else (some ((-2 : Int32), σ)))))))
def L_X9_deal_59 (fu : Nat) (k23 : Int32 → Int32 → Int32 → Int32 → ow_S → Option (Int32 × ow_S)) (x1 : Int32) (x2 : Int32) (x3 : Int32) (x4 : Int32) (σ : ow_S) : Option (Int32 × ow_S) :=
    ow_let (x4 + (1 : Int32)) <| fun x4_59 =>
    k23 x1 x2 x3 x4_59 σ
def L_X9_deal_23 (fu : Nat) : Nat → Int32 → Int32 → Int32 → Int32 → ow_S → Option (Int32 × ow_S)
  | 0, _, _, _, _, _ => none
  | fn + 1, x1, x2, x3, x4, σ =>
    if (σ.1 56 2) ≤ x4 then (ow_let (ow_sI σ 56 2 x3) <| fun σ_67 =>
    ow_let (ow_sI σ_67 56 0 x1) <| fun σ_72 =>
    some (x2, σ_72))
    else (ow_ck (ow_bd x4 60) <|
    if x1 < (σ.1 57 x4.toNatClampNeg) then (L_X9_deal_59 fu (L_X9_deal_23 fu fn) x1 x2 x3 x4 σ)
    else (ow_ck (ow_bd x4 60) <|
    ow_ck (ow_bd x3 60) <|
    ow_let (ow_sI σ 57 x3.toNatClampNeg (σ.1 57 x4.toNatClampNeg)) <| fun σ_55 =>
    ow_let (x3 + (1 : Int32)) <| fun x3_56 =>
    L_X9_deal_59 fu (L_X9_deal_23 fu fn) x1 x2 x3_56 x4 σ_55))
def f_X9_deal (fu : Nat) (a1 : Int32) (σ : ow_S) : Option (Int32 × ow_S) :=
    ow_cl (f_X9_in fu a1 (1 : Int32) (52 : Int32) σ) <| fun r_4 σ_4 =>
    if r_4 = 0 then (some ((-2 : Int32), σ_4))
    else (ow_let (σ_4.1 56 0) <| fun x2_17 =>
    L_X9_deal_23 fu fu a1 x2_17 (0 : Int32) (0 : Int32) σ_4)
def f_X9_card (fu : Nat) (a1 : Int32) (σ : ow_S) : Option (Int32 × ow_S) :=
    ow_cl (f_X9_isCard fu a1 σ) <| fun r_2 σ_2 =>
    if r_2 = 0 then (some ((-2 : Int32), σ_2))
    else (if (σ_2.1 56 2) = (60 : Int32) then (some ((-4 : Int32), σ_2))
    else (ow_ck (ow_bd (σ_2.1 56 2) 60) <|
    ow_let (ow_sI σ_2 57 ((σ_2.1 56 2).toNatClampNeg) a1) <| fun σ_32 =>
    ow_let (ow_sI σ_32 56 2 ((σ_32.1 56 2) + (1 : Int32))) <| fun σ_40 =>
    some ((σ_40.1 56 2), σ_40)))
def L_X9_laysBut_60 (fu : Nat) (k7 : Int32 → Int32 → Int32 → ow_S → Option (ow_S)) (x1 : Int32) (x2 : Int32) (x3 : Int32) (σ : ow_S) : Option (ow_S) :=
    ow_let (x3 + (1 : Int32)) <| fun x3_60 =>
    k7 x1 x2 x3_60 σ
def L_X9_laysBut_31 (fu : Nat) (k7 : Int32 → Int32 → Int32 → ow_S → Option (ow_S)) (x1 : Int32) (x2 : Int32) (x3 : Int32) (s0 : Int32) (σ : ow_S) : Option (ow_S) :=
    if s0 = x1 then (L_X9_laysBut_60 fu k7 x1 x2 x3 σ)
    else (ow_ck (ow_bd (σ.1 56 36) 60) <|
    ow_let (ow_sI σ 74 ((σ.1 56 36).toNatClampNeg) s0) <| fun σ_49 =>
    ow_let (ow_sI σ_49 56 36 ((σ_49.1 56 36) + (1 : Int32))) <| fun σ_57 =>
    L_X9_laysBut_60 fu k7 x1 x2 x3 σ_57)
def L_X9_laysBut_7 (fu : Nat) : Nat → Int32 → Int32 → Int32 → ow_S → Option (ow_S)
  | 0, _, _, _, _ => none
  | fn + 1, x1, x2, x3, σ =>
    if (σ.1 56 0) < x3 then (some σ)
    else (if x2 = 0 then (L_X9_laysBut_31 fu (L_X9_laysBut_7 fu fn) x1 x2 x3 x3 σ)
    else (L_X9_laysBut_31 fu (L_X9_laysBut_7 fu fn) x1 x2 x3 (((σ.1 56 0) + (1 : Int32)) - x3) σ))
def f_X9_laysBut (fu : Nat) (a1 : Int32) (a2 : Int32) (σ : ow_S) : Option (ow_S) :=
    ow_let (ow_sI σ 56 36 (0 : Int32)) <| fun σ_2 =>
    L_X9_laysBut_7 fu fu a1 a2 (1 : Int32) σ_2
def L_X9_fill_41 (fu : Nat) : Nat → Int32 → ow_S → Option (Int32 × ow_S)
  | 0, _, _ => none
  | fn + 1, x3, σ =>
    if (σ.1 56 36) ≤ x3 then (some ((σ.1 56 2), σ))
    else (ow_ck (ow_bd x3 60) <|
    ow_ck (ow_bd x3 60) <|
    ow_let (ow_sI σ 57 x3.toNatClampNeg (σ.1 74 x3.toNatClampNeg)) <| fun σ_60 =>
    ow_let (x3 + (1 : Int32)) <| fun x3_61 =>
    (L_X9_fill_41 fu fn) x3_61 σ_60)
def L_X9_fill_13 (fu : Nat) (x1 : Int32) (x2 : Int32) (σ : ow_S) : Option (Int32 × ow_S) :=
    ow_cl (f_X9_in fu x2 (0 : Int32) (1 : Int32) σ) <| fun r_16 σ_16 =>
    if r_16 = 0 then (some ((-2 : Int32), σ_16))
    else (ow_cv (f_X9_laysBut fu x1 x2 σ_16) <| fun σ_28 =>
    ow_let (ow_sI σ_28 56 2 (σ_28.1 56 36)) <| fun σ_36 =>
    L_X9_fill_41 fu fu (0 : Int32) σ_36)
def f_X9_fill (fu : Nat) (a1 : Int32) (a2 : Int32) (σ : ow_S) : Option (Int32 × ow_S) :=
    if a1 = (-1 : Int32) then (L_X9_fill_13 fu a1 a2 σ)
    else (ow_cl (f_X9_isCard fu a1 σ) <| fun r_7 σ_7 =>
    if r_7 = 0 then (some ((-2 : Int32), σ_7))
    else (L_X9_fill_13 fu a1 a2 σ_7))
def f_X9_at (fu : Nat) (a1 : Int32) (σ : ow_S) : Option (Int32 × ow_S) :=
    ow_cl (f_X9_in fu a1 (0 : Int32) ((σ.1 56 2) - (1 : Int32)) σ) <| fun r_8 σ_8 =>
    if r_8 = 0 then (some ((-6 : Int32), σ_8))
    else (ow_ck (ow_bd a1 60) <|
    some ((σ_8.1 57 a1.toNatClampNeg), σ_8))
def L_X9_laysRow_10 (fu : Nat) : Nat → Int32 → ow_S → Option (ow_S)
  | 0, _, _ => none
  | fn + 1, x1, σ =>
    if (σ.1 56 2) ≤ x1 then (some σ)
    else (ow_ck (ow_bd x1 60) <|
    ow_ck (ow_bd x1 60) <|
    ow_let (ow_sI σ 74 x1.toNatClampNeg (σ.1 57 x1.toNatClampNeg)) <| fun σ_29 =>
    ow_let (x1 + (1 : Int32)) <| fun x1_30 =>
    (L_X9_laysRow_10 fu fn) x1_30 σ_29)
def f_X9_laysRow (fu : Nat) (σ : ow_S) : Option (ow_S) :=
    ow_let (ow_sI σ 56 36 (σ.1 56 2)) <| fun σ_5 =>
    L_X9_laysRow_10 fu fu (0 : Int32) σ_5
def L_X9_turnsOver_229 (fu : Nat) (s1 : Int32) (s2 : Int32) (σ : ow_S) : Option (ow_S) :=
    ow_ck (ow_bd s1 60) <|
    ow_let (ow_sI σ 74 s1.toNatClampNeg s2) <| fun σ_229 =>
    some σ_229
def L_X9_turnsOver_208 (fu : Nat) (x1 : Int32) (x3 : Int32) (s1 : Int32) (s2 : Int32) (σ : ow_S) : Option (ow_S) :=
    ow_ck (ow_bd s1 60) <|
    ow_let (ow_sI σ 74 s1.toNatClampNeg s2) <| fun σ_208 =>
    if x1 = (2 : Int32) then (L_X9_turnsOver_229 fu (0 : Int32) x3 σ_208)
    else (L_X9_turnsOver_229 fu (0 : Int32) (σ_208.1 74 0) σ_208)
def L_X9_turnsOver_178 (fu : Nat) (x1 : Int32) (x2 : Int32) (x3 : Int32) (σ : ow_S) : Option (ow_S) :=
    if x1 = (1 : Int32) then (L_X9_turnsOver_208 fu x1 x3 ((σ.1 56 36) - (1 : Int32)) x2 σ)
    else (ow_ck (ow_bd ((σ.1 56 36) - (1 : Int32)) 60) <|
    L_X9_turnsOver_208 fu x1 x3 ((σ.1 56 36) - (1 : Int32)) (σ.1 74 ((σ.1 56 36) - (1 : Int32)).toNatClampNeg) σ)
def L_X9_turnsOver_146 (fu : Nat) : Nat → Int32 → Int32 → Int32 → Int32 → ow_S → Option (ow_S)
  | 0, _, _, _, _, _ => none
  | fn + 1, x1, x2, x3, x4, σ =>
    if x4 ≤ 0 then (L_X9_turnsOver_178 fu x1 x2 x3 σ)
    else (if x1 = (2 : Int32) then (ow_ck (ow_bd (x4 - (1 : Int32)) 60) <|
    ow_ck (ow_bd x4 60) <|
    ow_let (ow_sI σ 74 x4.toNatClampNeg (σ.1 74 (x4 - (1 : Int32)).toNatClampNeg)) <| fun σ_171 =>
    ow_let (x4 + (-1 : Int32)) <| fun x4_172 =>
    (L_X9_turnsOver_146 fu fn) x1 x2 x3 x4_172 σ_171)
    else (L_X9_turnsOver_178 fu x1 x2 x3 σ))
def L_X9_turnsOver_138 (fu : Nat) (x1 : Int32) (x2 : Int32) (x3 : Int32) (σ : ow_S) : Option (ow_S) :=
    ow_let ((σ.1 56 36) - (1 : Int32)) <| fun x4_144 =>
    L_X9_turnsOver_146 fu fu x1 x2 x3 x4_144 σ
def L_X9_turnsOver_100 (fu : Nat) : Nat → Int32 → Int32 → Int32 → Int32 → ow_S → Option (ow_S)
  | 0, _, _, _, _, _ => none
  | fn + 1, x1, x2, x3, x4, σ =>
    if (σ.1 56 36) ≤ (x4 + (1 : Int32)) then (L_X9_turnsOver_138 fu x1 x2 x3 σ)
    else (if x1 = (1 : Int32) then (ow_ck (ow_bd (x4 + (1 : Int32)) 60) <|
    ow_ck (ow_bd x4 60) <|
    ow_let (ow_sI σ 74 x4.toNatClampNeg (σ.1 74 (x4 + (1 : Int32)).toNatClampNeg)) <| fun σ_131 =>
    ow_let (x4 + (1 : Int32)) <| fun x4_132 =>
    (L_X9_turnsOver_100 fu fn) x1 x2 x3 x4_132 σ_131)
    else (L_X9_turnsOver_138 fu x1 x2 x3 σ))
def L_X9_turnsOver_97 (fu : Nat) (x1 : Int32) (x2 : Int32) (x3 : Int32) (σ : ow_S) : Option (ow_S) :=
    L_X9_turnsOver_100 fu fu x1 x2 x3 (0 : Int32) σ
def L_X9_turnsOver_30 (fu : Nat) : Nat → Int32 → Int32 → Int32 → Int32 → ow_S → Option (ow_S)
  | 0, _, _, _, _, _ => none
  | fn + 1, x1, x2, x3, x4, σ =>
    if ((σ.1 56 36) / (2 : Int32)) ≤ x4 then (L_X9_turnsOver_97 fu x1 x2 x3 σ)
    else (if x1 = 0 then (ow_ck (ow_bd x4 60) <|
    ow_let (σ.1 74 x4.toNatClampNeg) <| fun x5_52 =>
    ow_ck (ow_bd (((σ.1 56 36) - (1 : Int32)) - x4) 60) <|
    ow_ck (ow_bd x4 60) <|
    ow_let (ow_sI σ 74 x4.toNatClampNeg (σ.1 74 (((σ.1 56 36) - (1 : Int32)) - x4).toNatClampNeg)) <| fun σ_74 =>
    ow_ck (ow_bd (((σ_74.1 56 36) - (1 : Int32)) - x4) 60) <|
    ow_let (ow_sI σ_74 74 ((((σ_74.1 56 36) - (1 : Int32)) - x4).toNatClampNeg) x5_52) <| fun σ_90 =>
    ow_let (x4 + (1 : Int32)) <| fun x4_91 =>
    (L_X9_turnsOver_30 fu fn) x1 x2 x3 x4_91 σ_90)
    else (L_X9_turnsOver_97 fu x1 x2 x3 σ))
def f_X9_turnsOver (fu : Nat) (a1 : Int32) (σ : ow_S) : Option (ow_S) :=
    if (σ.1 56 36) = 0 then (some σ)
    else (ow_let (σ.1 74 0) <| fun x2_14 =>
    ow_ck (ow_bd ((σ.1 56 36) - (1 : Int32)) 60) <|
    ow_let (σ.1 74 ((σ.1 56 36) - (1 : Int32)).toNatClampNeg) <| fun x3_26 =>
    L_X9_turnsOver_30 fu fu a1 x2_14 x3_26 (0 : Int32) σ)
def L_X9_turn_23 (fu : Nat) : Nat → Int32 → ow_S → Option (Int32 × ow_S)
  | 0, _, _ => none
  | fn + 1, x2, σ =>
    if (σ.1 56 2) ≤ x2 then (if (σ.1 56 2) = 0 then (some ((-1 : Int32), σ))
    else (some ((σ.1 57 0), σ)))
    else (ow_ck (ow_bd x2 60) <|
    ow_ck (ow_bd x2 60) <|
    ow_let (ow_sI σ 57 x2.toNatClampNeg (σ.1 74 x2.toNatClampNeg)) <| fun σ_42 =>
    ow_let (x2 + (1 : Int32)) <| fun x2_43 =>
    (L_X9_turn_23 fu fn) x2_43 σ_42)
def f_X9_turn (fu : Nat) (a1 : Int32) (σ : ow_S) : Option (Int32 × ow_S) :=
    ow_cl (f_X9_in fu a1 (0 : Int32) (2 : Int32) σ) <| fun r_3 σ_3 =>
    if r_3 = 0 then (some ((-2 : Int32), σ_3))
    else (ow_cv (f_X9_laysRow fu σ_3) <| fun σ_13 =>
    ow_cv (f_X9_turnsOver fu a1 σ_13) <| fun σ_18 =>
    L_X9_turn_23 fu fu (0 : Int32) σ_18)
def L_X9_comings_28 (fu : Nat) (k4 : Int32 → Int32 → Int32 → ow_S → Option (Int32 × ow_S)) (x1 : Int32) (x3 : Int32) (s0 : Int32) (s1 : Int32) (σ : ow_S) : Option (Int32 × ow_S) :=
    ow_let (s0 + s1) <| fun x2_29 =>
    ow_let (x3 + (1 : Int32)) <| fun x3_30 =>
    k4 x1 x2_29 x3_30 σ
def L_X9_comings_4 (fu : Nat) : Nat → Int32 → Int32 → Int32 → ow_S → Option (Int32 × ow_S)
  | 0, _, _, _, _ => none
  | fn + 1, x1, x2, x3, σ =>
    if (σ.1 56 2) ≤ x3 then (some (x2, σ))
    else (ow_ck (ow_bd x3 60) <|
    if (σ.1 57 x3.toNatClampNeg) = x1 then (L_X9_comings_28 fu (L_X9_comings_4 fu fn) x1 x3 x2 (1 : Int32) σ)
    else (L_X9_comings_28 fu (L_X9_comings_4 fu fn) x1 x3 x2 (0 : Int32) σ))
def f_X9_comings (fu : Nat) (a1 : Int32) (σ : ow_S) : Option (Int32 × ow_S) :=
    L_X9_comings_4 fu fu a1 (0 : Int32) (0 : Int32) σ
def L_X9_missing_42 (fu : Nat) (k17 : Int32 → Int32 → ow_S → Option (Int32 × ow_S)) (x2 : Int32) (x3 : Int32) (σ : ow_S) : Option (Int32 × ow_S) :=
    ow_let (x3 + (1 : Int32)) <| fun x3_42 =>
    k17 x2 x3_42 σ
def L_X9_missing_17 (fu : Nat) : Nat → Int32 → Int32 → ow_S → Option (Int32 × ow_S)
  | 0, _, _, _ => none
  | fn + 1, x2, x3, σ =>
    if (σ.1 56 0) < x3 then (some ((-1 : Int32), σ))
    else (ow_cl (f_X9_comings fu x3 σ) <| fun r_27 σ_27 =>
    if r_27 = 0 then (if x2 = 0 then (some (x3, σ_27))
    else (ow_let (x2 + (-1 : Int32)) <| fun x2_39 =>
    L_X9_missing_42 fu (L_X9_missing_17 fu fn) x2_39 x3 σ_27))
    else (L_X9_missing_42 fu (L_X9_missing_17 fu fn) x2 x3 σ_27))
def f_X9_missing (fu : Nat) (a1 : Int32) (σ : ow_S) : Option (Int32 × ow_S) :=
    ow_cl (f_X9_in fu a1 (0 : Int32) (51 : Int32) σ) <| fun r_4 σ_4 =>
    if r_4 = 0 then (some ((-2 : Int32), σ_4))
    else (L_X9_missing_17 fu fu a1 (1 : Int32) σ_4)
def L_X9_unlikeMany_26 (fu : Nat) (k4 : Int32 → Int32 → ow_S → Option (Int32 × ow_S)) (x2 : Int32) (s0 : Int32) (s1 : Int32) (σ : ow_S) : Option (Int32 × ow_S) :=
    ow_let (s0 + s1) <| fun x1_27 =>
    ow_let (x2 + (1 : Int32)) <| fun x2_28 =>
    k4 x1_27 x2_28 σ
def L_X9_unlikeMany_4 (fu : Nat) : Nat → Int32 → Int32 → ow_S → Option (Int32 × ow_S)
  | 0, _, _, _ => none
  | fn + 1, x1, x2, σ =>
    if (σ.1 56 0) < x2 then (some (x1, σ))
    else (ow_cl (f_X9_comings fu x2 σ) <| fun r_15 σ_15 =>
    if r_15 ≤ 0 then (L_X9_unlikeMany_26 fu (L_X9_unlikeMany_4 fu fn) x2 x1 (0 : Int32) σ_15)
    else (L_X9_unlikeMany_26 fu (L_X9_unlikeMany_4 fu fn) x2 x1 (1 : Int32) σ_15))
def f_X9_unlikeMany (fu : Nat) (σ : ow_S) : Option (Int32 × ow_S) :=
    L_X9_unlikeMany_4 fu fu (0 : Int32) (1 : Int32) σ
def L_X9_mostComing_45 (fu : Nat) (k6 : Int32 → Int32 → Int32 → ow_S → Option (Int32 × ow_S)) (x1 : Int32) (x3 : Int32) (s0 : Int32) (σ : ow_S) : Option (Int32 × ow_S) :=
    ow_let (x3 + (1 : Int32)) <| fun x3_46 =>
    k6 x1 s0 x3_46 σ
def L_X9_mostComing_32 (fu : Nat) (k6 : Int32 → Int32 → Int32 → ow_S → Option (Int32 × ow_S)) (x2 : Int32) (x3 : Int32) (x4 : Int32) (s0 : Int32) (σ : ow_S) : Option (Int32 × ow_S) :=
    if x4 ≤ x2 then (L_X9_mostComing_45 fu k6 s0 x3 x2 σ)
    else (L_X9_mostComing_45 fu k6 s0 x3 x4 σ)
def L_X9_mostComing_6 (fu : Nat) : Nat → Int32 → Int32 → Int32 → ow_S → Option (Int32 × ow_S)
  | 0, _, _, _, _ => none
  | fn + 1, x1, x2, x3, σ =>
    if (σ.1 56 0) < x3 then (some (x1, σ))
    else (ow_cl (f_X9_comings fu x3 σ) <| fun r_16 σ_16 =>
    if r_16 ≤ x2 then (L_X9_mostComing_32 fu (L_X9_mostComing_6 fu fn) x2 x3 r_16 x1 σ_16)
    else (L_X9_mostComing_32 fu (L_X9_mostComing_6 fu fn) x2 x3 r_16 x3 σ_16))
def f_X9_mostComing (fu : Nat) (σ : ow_S) : Option (Int32 × ow_S) :=
    L_X9_mostComing_6 fu fu (-1 : Int32) (0 : Int32) (1 : Int32) σ
def L_X9_firstAgain_12 (fu : Nat) (k2 : Int32 → ow_S → Option (Int32 × ow_S)) : Nat → Int32 → Int32 → ow_S → Option (Int32 × ow_S)
  | 0, _, _, _ => none
  | fn + 1, x1, x2, σ =>
    if x1 ≤ x2 then (ow_let (x1 + (1 : Int32)) <| fun x1_45 =>
    k2 x1_45 σ)
    else (ow_ck (ow_bd x2 60) <|
    ow_ck (ow_bd x1 60) <|
    if (σ.1 57 x2.toNatClampNeg) = (σ.1 57 x1.toNatClampNeg) then (ow_ck (ow_bd x1 60) <|
    some ((σ.1 57 x1.toNatClampNeg), σ))
    else (ow_let (x2 + (1 : Int32)) <| fun x2_39 =>
    (L_X9_firstAgain_12 fu k2 fn) x1 x2_39 σ))
def L_X9_firstAgain_2 (fu : Nat) : Nat → Int32 → ow_S → Option (Int32 × ow_S)
  | 0, _, _ => none
  | fn + 1, x1, σ =>
    if (σ.1 56 2) ≤ x1 then (some ((-1 : Int32), σ))
    else (L_X9_firstAgain_12 fu (L_X9_firstAgain_2 fu fn) fu x1 (0 : Int32) σ)
def f_X9_firstAgain (fu : Nat) (σ : ow_S) : Option (Int32 × ow_S) :=
    L_X9_firstAgain_2 fu fu (0 : Int32) σ
def L_X9_sumOf_39 (fu : Nat) (k4 : Int32 → Int32 → Int32 → ow_S → Option (Int32 × ow_S)) (x1 : Int32) (x3 : Int32) (s0 : Int32) (s1 : Int32) (σ : ow_S) : Option (Int32 × ow_S) :=
    ow_let (s0 + s1) <| fun x2_40 =>
    ow_let (x3 + (1 : Int32)) <| fun x3_41 =>
    k4 x1 x2_40 x3_41 σ
def L_X9_sumOf_4 (fu : Nat) : Nat → Int32 → Int32 → Int32 → ow_S → Option (Int32 × ow_S)
  | 0, _, _, _, _ => none
  | fn + 1, x1, x2, x3, σ =>
    if (σ.1 56 2) ≤ x3 then (some (x2, σ))
    else (if x1 = 0 then (ow_ck (ow_bd x3 60) <|
    L_X9_sumOf_39 fu (L_X9_sumOf_4 fu fn) x1 x3 x2 (σ.1 57 x3.toNatClampNeg) σ)
    else (ow_ck (ow_bd x3 60) <|
    ow_ck (ow_bd x3 60) <|
    L_X9_sumOf_39 fu (L_X9_sumOf_4 fu fn) x1 x3 x2 ((σ.1 57 x3.toNatClampNeg) * (σ.1 57 x3.toNatClampNeg)) σ))
def f_X9_sumOf (fu : Nat) (a1 : Int32) (σ : ow_S) : Option (Int32 × ow_S) :=
    L_X9_sumOf_4 fu fu a1 (0 : Int32) (0 : Int32) σ
def L_X9_truth_19 (fu : Nat) (x1 : Int32) (x2 : Int32) (s0 : Int32) (σ : ow_S) : Option (Int32 × ow_S) :=
    if x1 = (0 : Int32) then (ow_cl (f_X9_unlikeMany fu σ) <| fun r_73 σ_73 =>
    some (((σ.1 56 0) - r_73), σ_73))
    else (if x1 = (1 : Int32) then (ow_cl (f_X9_unlikeMany fu σ) <| fun r_79 σ_79 =>
    some (r_79, σ_79))
    else (if x1 = (2 : Int32) then (some (x2, σ))
    else (if x1 = (3 : Int32) then (some (s0, σ))
    else (if x1 = (4 : Int32) then (if ((2 : Int32) * s0) ≤ (σ.1 56 2) then (some ((0 : Int32), σ))
    else (some ((1 : Int32), σ)))
    else (if x1 = (5 : Int32) then (ow_cl (f_X9_firstAgain fu σ) <| fun r_104 σ_104 =>
    some (r_104, σ_104))
    else (if x1 = (6 : Int32) then (ow_cl (f_X9_sumOf fu (0 : Int32) σ) <| fun r_110 σ_110 =>
    some (r_110, σ_110))
    else (if x1 = (7 : Int32) then (ow_cl (f_X9_sumOf fu (1 : Int32) σ) <| fun r_116 σ_116 =>
    some (r_116, σ_116))
    else (some ((-2 : Int32), σ)))))))))
def f_X9_truth (fu : Nat) (a1 : Int32) (σ : ow_S) : Option (Int32 × ow_S) :=
    ow_cl (f_X9_mostComing fu σ) <| fun r_1 σ_1 =>
    if r_1 = (-1 : Int32) then (L_X9_truth_19 fu a1 r_1 (0 : Int32) σ_1)
    else (ow_cl (f_X9_comings fu r_1 σ_1) <| fun r_16 σ_16 =>
    L_X9_truth_19 fu a1 r_1 r_16 σ_16)
def f_X9_packSum (fu : Nat) (σ : ow_S) : Option (Int32 × ow_S) :=
    some ((((σ.1 56 0) * ((σ.1 56 0) + (1 : Int32))) / (2 : Int32)), σ)
def L_X9_two_122 (fu : Nat) (k58 : Int32 → Int32 → Int32 → Int32 → ow_S → Option (Int32 × ow_S)) (x1 : Int32) (x2 : Int32) (x3 : Int32) (x4 : Int32) (σ : ow_S) : Option (Int32 × ow_S) :=
    ow_let (x4 + (1 : Int32)) <| fun x4_122 =>
    k58 x1 x2 x3 x4_122 σ
def L_X9_two_58 (fu : Nat) : Nat → Int32 → Int32 → Int32 → Int32 → ow_S → Option (Int32 × ow_S)
  | 0, _, _, _, _, _ => none
  | fn + 1, x1, x2, x3, x4, σ =>
    if (σ.1 56 0) < x4 then (if x1 = 0 then (some ((-1 : Int32), σ))
    else (some ((σ.1 56 0), σ)))
    else (ow_let (x3 - x4) <| fun x5_71 =>
    if x5_71 ≤ x4 then (L_X9_two_122 fu (L_X9_two_58 fu fn) x1 x2 x3 x4 σ)
    else (if (σ.1 56 0) < x5_71 then (L_X9_two_122 fu (L_X9_two_58 fu fn) x1 x2 x3 x4 σ)
    else (if ((x4 * x4) + (x5_71 * x5_71)) = x2 then (if x1 = 0 then (some ((((100 : Int32) * x4) + x5_71), σ))
    else (some (x4, σ)))
    else (L_X9_two_122 fu (L_X9_two_58 fu fn) x1 x2 x3 x4 σ))))
def L_X9_two_16 (fu : Nat) : Nat → Int32 → Int32 → Int32 → ow_S → Option (Int32 × ow_S)
  | 0, _, _, _, _ => none
  | fn + 1, x1, x2, x3, σ =>
    if (σ.1 56 0) < x3 then (ow_cl (f_X9_packSum fu σ) <| fun r_37 σ_37 =>
    ow_cl (f_X9_sumOf fu (0 : Int32) σ_37) <| fun r_42 σ_42 =>
    ow_let (r_37 - r_42) <| fun x3_46 =>
    ow_cl (f_X9_sumOf fu (1 : Int32) σ_42) <| fun r_50 σ_50 =>
    ow_let (x2 - r_50) <| fun x2_54 =>
    L_X9_two_58 fu fu x1 x2_54 x3_46 (1 : Int32) σ_50)
    else (ow_let (x2 + (x3 * x3)) <| fun x2_29 =>
    ow_let (x3 + (1 : Int32)) <| fun x3_30 =>
    (L_X9_two_16 fu fn) x1 x2_29 x3_30 σ)
def f_X9_two (fu : Nat) (a1 : Int32) (σ : ow_S) : Option (Int32 × ow_S) :=
    ow_cl (f_X9_in fu a1 (0 : Int32) (1 : Int32) σ) <| fun r_3 σ_3 =>
    if r_3 = 0 then (some ((-2 : Int32), σ_3))
    else (L_X9_two_16 fu fu a1 (0 : Int32) (1 : Int32) σ_3)
def f_X9_isByte (fu : Nat) (a1 : Int32) (σ : ow_S) : Option (Int32 × ow_S) :=
    ow_cl (f_X9_in fu a1 (0 : Int32) (255 : Int32) σ) <| fun r_5 σ_5 =>
    some (r_5, σ_5)
def L_X9_feed_125 (fu : Nat) (k68 : Int32 → Int32 → Int32 → Int32 → Int32 → Int32 → Int32 → ow_S → Option (Int32 × ow_S)) (x1 : Int32) (x2 : Int32) (x3 : Int32) (x4 : Int32) (x5 : Int32) (x6 : Int32) (x7 : Int32) (s1 : Int32) (s2 : Int32) (σ : ow_S) : Option (Int32 × ow_S) :=
    ow_ck (ow_bd s1 160) <|
    ow_let (ow_sI σ 61 s1.toNatClampNeg s2) <| fun σ_125 =>
    ow_let (ow_sI σ_125 56 8 ((σ_125.1 56 8) + (1 : Int32))) <| fun σ_133 =>
    ow_let (x7 + (1 : Int32)) <| fun x7_136 =>
    k68 x1 x2 x3 x4 x5 x6 x7_136 σ_133
def L_X9_feed_68 (fu : Nat) : Nat → Int32 → Int32 → Int32 → Int32 → Int32 → Int32 → Int32 → ow_S → Option (Int32 × ow_S)
  | 0, _, _, _, _, _, _, _, _ => none
  | fn + 1, x1, x2, x3, x4, x5, x6, x7, σ =>
    if x1 ≤ x7 then (some ((σ.1 56 8), σ))
    else (if x7 = 0 then (L_X9_feed_125 fu (L_X9_feed_68 fu fn) x1 x2 x3 x4 x5 x6 x7 (σ.1 56 8) x2 σ)
    else (if x7 = (1 : Int32) then (L_X9_feed_125 fu (L_X9_feed_68 fu fn) x1 x2 x3 x4 x5 x6 x7 (σ.1 56 8) x3 σ)
    else (if x7 = (2 : Int32) then (L_X9_feed_125 fu (L_X9_feed_68 fu fn) x1 x2 x3 x4 x5 x6 x7 (σ.1 56 8) x4 σ)
    else (if x7 = (3 : Int32) then (L_X9_feed_125 fu (L_X9_feed_68 fu fn) x1 x2 x3 x4 x5 x6 x7 (σ.1 56 8) x5 σ)
    else (L_X9_feed_125 fu (L_X9_feed_68 fu fn) x1 x2 x3 x4 x5 x6 x7 (σ.1 56 8) x6 σ)))))
def f_X9_feed (fu : Nat) (a1 : Int32) (a2 : Int32) (a3 : Int32) (a4 : Int32) (a5 : Int32) (a6 : Int32) (σ : ow_S) : Option (Int32 × ow_S) :=
    ow_cl (f_X9_in fu a1 (1 : Int32) (5 : Int32) σ) <| fun r_3 σ_3 =>
    if r_3 = 0 then (some ((-2 : Int32), σ_3))
    else (ow_cl (f_X9_isByte fu a2 σ_3) <| fun r_10 σ_10 =>
    if r_10 = 0 then (some ((-2 : Int32), σ_10))
    else (ow_cl (f_X9_isByte fu a3 σ_10) <| fun r_17 σ_17 =>
    if r_17 = 0 then (some ((-2 : Int32), σ_17))
    else (ow_cl (f_X9_isByte fu a4 σ_17) <| fun r_25 σ_25 =>
    if r_25 = 0 then (some ((-2 : Int32), σ_25))
    else (ow_cl (f_X9_isByte fu a5 σ_25) <| fun r_33 σ_33 =>
    if r_33 = 0 then (some ((-2 : Int32), σ_33))
    else (ow_cl (f_X9_isByte fu a6 σ_33) <| fun r_41 σ_41 =>
    if r_41 = 0 then (some ((-2 : Int32), σ_41))
    else (if ((σ_41.1 56 8) + a1) ≤ (160 : Int32) then (L_X9_feed_68 fu fu a1 a2 a3 a4 a5 a6 (0 : Int32) σ_41)
    else (some ((-4 : Int32), σ_41))))))))
def L_X9_wordFrom_88 (fu : Nat) (k2 : Int32 → Int32 → Int32 → ow_S → Option (Int32 × ow_S)) (x1 : Int32) (x2 : Int32) (x3 : Int32) (x4 : Int32) (σ : ow_S) : Option (Int32 × ow_S) :=
    if x4 = 0 then (ow_let (x3 + (1 : Int32)) <| fun x3_95 =>
    k2 x1 x2 x3_95 σ)
    else (some (x3, σ))
def L_X9_wordFrom_80 (fu : Nat) (k2 : Int32 → Int32 → Int32 → ow_S → Option (Int32 × ow_S)) (k26 : Int32 → Int32 → Int32 → Int32 → Int32 → ow_S → Option (Int32 × ow_S)) (x1 : Int32) (x2 : Int32) (x3 : Int32) (x5 : Int32) (s0 : Int32) (σ : ow_S) : Option (Int32 × ow_S) :=
    ow_let (x5 + (1 : Int32)) <| fun x5_82 =>
    k26 x1 x2 x3 s0 x5_82 σ
def L_X9_wordFrom_72 (fu : Nat) (k2 : Int32 → Int32 → Int32 → ow_S → Option (Int32 × ow_S)) (k26 : Int32 → Int32 → Int32 → Int32 → Int32 → ow_S → Option (Int32 × ow_S)) (x1 : Int32) (x2 : Int32) (x3 : Int32) (x5 : Int32) (s0 : Int32) (s1 : Int32) (σ : ow_S) : Option (Int32 × ow_S) :=
    if s0 = s1 then (L_X9_wordFrom_80 fu k2 k26 x1 x2 x3 x5 (1 : Int32) σ)
    else (L_X9_wordFrom_80 fu k2 k26 x1 x2 x3 x5 (0 : Int32) σ)
def L_X9_wordFrom_26 (fu : Nat) (k2 : Int32 → Int32 → Int32 → ow_S → Option (Int32 × ow_S)) : Nat → Int32 → Int32 → Int32 → Int32 → Int32 → ow_S → Option (Int32 × ow_S)
  | 0, _, _, _, _, _, _ => none
  | fn + 1, x1, x2, x3, x4, x5, σ =>
    if (8 : Int32) ≤ x5 then (L_X9_wordFrom_88 fu k2 x1 x2 x3 x4 σ)
    else (if x4 = 0 then (L_X9_wordFrom_88 fu k2 x1 x2 x3 x4 σ)
    else (ow_ck (ow_bd (((8 : Int32) * x3) + x5) 96) <|
    if x2 ≤ (x1 + x5) then (L_X9_wordFrom_72 fu k2 (L_X9_wordFrom_26 fu k2 fn) x1 x2 x3 x5 (σ.1 70 (((8 : Int32) * x3) + x5).toNatClampNeg) (32 : Int32) σ)
    else (ow_ck (ow_bd (x1 + x5) 160) <|
    L_X9_wordFrom_72 fu k2 (L_X9_wordFrom_26 fu k2 fn) x1 x2 x3 x5 (σ.1 70 (((8 : Int32) * x3) + x5).toNatClampNeg) (σ.1 61 (x1 + x5).toNatClampNeg) σ)))
def L_X9_wordFrom_21 (fu : Nat) (k2 : Int32 → Int32 → Int32 → ow_S → Option (Int32 × ow_S)) (x1 : Int32) (x2 : Int32) (x3 : Int32) (s0 : Int32) (σ : ow_S) : Option (Int32 × ow_S) :=
    L_X9_wordFrom_26 fu k2 fu x1 x2 x3 s0 (0 : Int32) σ
def L_X9_wordFrom_2 (fu : Nat) : Nat → Int32 → Int32 → Int32 → ow_S → Option (Int32 × ow_S)
  | 0, _, _, _, _ => none
  | fn + 1, x1, x2, x3, σ =>
    if (12 : Int32) ≤ x3 then (some ((12 : Int32), σ))
    else (if (8 : Int32) < (x2 - x1) then (L_X9_wordFrom_21 fu (L_X9_wordFrom_2 fu fn) x1 x2 x3 (0 : Int32) σ)
    else (L_X9_wordFrom_21 fu (L_X9_wordFrom_2 fu fn) x1 x2 x3 (1 : Int32) σ))
def f_X9_wordFrom (fu : Nat) (a1 : Int32) (a2 : Int32) (σ : ow_S) : Option (Int32 × ow_S) :=
    L_X9_wordFrom_2 fu fu a1 a2 (0 : Int32) σ
def L_X9_next_390 (fu : Nat) (s1 : Int32) (σ : ow_S) : Option (ow_S) :=
    ow_let (ow_sI σ 56 26 s1) <| fun σ_390 =>
    ow_let (ow_sI σ_390 56 24 ((σ_390.1 56 24) + (1 : Int32))) <| fun σ_400 =>
    some σ_400
def L_X9_next_379 (fu : Nat) (x1 : Int32) (s0 : Int32) (σ : ow_S) : Option (ow_S) :=
    if s0 = 0 then (L_X9_next_390 fu (-1 : Int32) σ)
    else (L_X9_next_390 fu x1 σ)
def L_X9_next_374 (fu : Nat) (x1 : Int32) (σ : ow_S) : Option (ow_S) :=
    L_X9_next_379 fu x1 (1 : Int32) σ
def L_X9_next_320 (fu : Nat) (s1 : Int32) (σ : ow_S) : Option (ow_S) :=
    ow_let (ow_sI σ 56 26 s1) <| fun σ_320 =>
    some σ_320
def L_X9_next_309 (fu : Nat) (x2 : Int32) (σ : ow_S) : Option (ow_S) :=
    if x2 ≤ (4 : Int32) then (L_X9_next_320 fu (1 : Int32) σ)
    else (L_X9_next_320 fu (-1 : Int32) σ)
def L_X9_next_290 (fu : Nat) (k230 : Int32 → ow_S → Option (ow_S)) (x2 : Int32) (s1 : Int32) (σ : ow_S) : Option (ow_S) :=
    ow_let (ow_sI σ 56 27 s1) <| fun σ_290 =>
    ow_let (x2 + (1 : Int32)) <| fun x2_293 =>
    ow_let (ow_sI σ_290 56 24 ((σ_290.1 56 24) + (1 : Int32))) <| fun σ_303 =>
    k230 x2_293 σ_303
def L_X9_next_230 (fu : Nat) : Nat → Int32 → ow_S → Option (ow_S)
  | 0, _, _ => none
  | fn + 1, x2, σ =>
    if (σ.1 56 8) ≤ (σ.1 56 24) then (L_X9_next_309 fu x2 σ)
    else (ow_ck (ow_bd (σ.1 56 24) 160) <|
    ow_cl (f_X9_in fu (σ.1 61 (σ.1 56 24).toNatClampNeg) (48 : Int32) (57 : Int32) σ) <| fun r_254 σ_254 =>
    if r_254 = 0 then (L_X9_next_309 fu x2 σ_254)
    else (if (4 : Int32) ≤ x2 then (L_X9_next_290 fu (L_X9_next_230 fu fn) x2 (0 : Int32) σ_254)
    else (ow_ck (ow_bd (σ_254.1 56 24) 160) <|
    L_X9_next_290 fu (L_X9_next_230 fu fn) x2 ((((10 : Int32) * (σ_254.1 56 27)) + (σ_254.1 61 (σ_254.1 56 24).toNatClampNeg)) - (48 : Int32)) σ_254)))
def L_X9_next_211 (fu : Nat) (s1 : Int32) (σ : ow_S) : Option (ow_S) :=
    ow_let (ow_sI σ 56 27 s1) <| fun σ_211 =>
    some σ_211
def L_X9_next_195 (fu : Nat) (x2 : Int32) (s1 : Int32) (σ : ow_S) : Option (ow_S) :=
    ow_let (ow_sI σ 56 26 s1) <| fun σ_195 =>
    if (3 : Int32) ≤ x2 then (L_X9_next_211 fu (x2 - (3 : Int32)) σ_195)
    else (L_X9_next_211 fu x2 σ_195)
def L_X9_next_146 (fu : Nat) (σ : ow_S) : Option (ow_S) :=
    ow_cl (f_X9_wordFrom fu (σ.1 56 25) (σ.1 56 24) σ) <| fun r_155 σ_155 =>
    if (3 : Int32) ≤ r_155 then (if (9 : Int32) ≤ r_155 then (if r_155 = (12 : Int32) then (L_X9_next_195 fu r_155 (-1 : Int32) σ_155)
    else (L_X9_next_195 fu r_155 (((4 : Int32) + r_155) - (9 : Int32)) σ_155))
    else (L_X9_next_195 fu r_155 (2 : Int32) σ_155))
    else (L_X9_next_195 fu r_155 (3 : Int32) σ_155)
def L_X9_next_103 (fu : Nat) : Nat → ow_S → Option (ow_S)
  | 0, _ => none
  | fn + 1, σ =>
    if (σ.1 56 8) ≤ (σ.1 56 24) then (L_X9_next_146 fu σ)
    else (ow_ck (ow_bd (σ.1 56 24) 160) <|
    ow_cl (f_X9_in fu (σ.1 61 (σ.1 56 24).toNatClampNeg) (97 : Int32) (122 : Int32) σ) <| fun r_127 σ_127 =>
    if r_127 = 0 then (L_X9_next_146 fu σ_127)
    else (ow_let (ow_sI σ_127 56 24 ((σ_127.1 56 24) + (1 : Int32))) <| fun σ_140 =>
    (L_X9_next_103 fu fn) σ_140))
def L_X9_next_52 (fu : Nat) (σ : ow_S) : Option (ow_S) :=
    ow_let (ow_sI σ 56 25 (σ.1 56 24)) <| fun σ_57 =>
    ow_let (ow_sI σ_57 56 26 (0 : Int32)) <| fun σ_62 =>
    ow_let (ow_sI σ_62 56 27 (0 : Int32)) <| fun σ_67 =>
    if (σ_67.1 56 24) = (σ_67.1 56 8) then (some σ_67)
    else (ow_ck (ow_bd (σ_67.1 56 24) 160) <|
    ow_let (σ_67.1 61 (σ_67.1 56 24).toNatClampNeg) <| fun x1_91 =>
    ow_cl (f_X9_in fu x1_91 (97 : Int32) (122 : Int32) σ_67) <| fun r_97 σ_97 =>
    if r_97 = 0 then (ow_cl (f_X9_in fu x1_91 (48 : Int32) (57 : Int32) σ_97) <| fun r_222 σ_222 =>
    if r_222 = 0 then (if x1_91 = (40 : Int32) then (L_X9_next_374 fu x1_91 σ_222)
    else (if x1_91 = (41 : Int32) then (L_X9_next_374 fu x1_91 σ_222)
    else (if x1_91 = (59 : Int32) then (L_X9_next_374 fu x1_91 σ_222)
    else (if x1_91 = (43 : Int32) then (L_X9_next_374 fu x1_91 σ_222)
    else (if x1_91 = (45 : Int32) then (L_X9_next_374 fu x1_91 σ_222)
    else (if x1_91 = (42 : Int32) then (L_X9_next_374 fu x1_91 σ_222)
    else (if x1_91 = (60 : Int32) then (L_X9_next_374 fu x1_91 σ_222)
    else (if x1_91 = (61 : Int32) then (L_X9_next_374 fu x1_91 σ_222)
    else (L_X9_next_379 fu x1_91 (0 : Int32) σ_222)))))))))
    else (L_X9_next_230 fu fu (0 : Int32) σ_222))
    else (L_X9_next_103 fu fu σ_97))
def L_X9_next_39 (fu : Nat) (k0 : ow_S → Option (ow_S)) (σ : ow_S) : Option (ow_S) :=
    ow_let (ow_sI σ 56 24 ((σ.1 56 24) + (1 : Int32))) <| fun σ_46 =>
    k0 σ_46
def L_X9_next_0 (fu : Nat) : Nat → ow_S → Option (ow_S)
  | 0, _ => none
  | fn + 1, σ =>
    if (σ.1 56 8) ≤ (σ.1 56 24) then (L_X9_next_52 fu σ)
    else (ow_ck (ow_bd (σ.1 56 24) 160) <|
    if (σ.1 61 (σ.1 56 24).toNatClampNeg) = (32 : Int32) then (L_X9_next_39 fu (L_X9_next_0 fu fn) σ)
    else (ow_ck (ow_bd (σ.1 56 24) 160) <|
    if (σ.1 61 (σ.1 56 24).toNatClampNeg) = (10 : Int32) then (L_X9_next_39 fu (L_X9_next_0 fu fn) σ)
    else (L_X9_next_52 fu σ)))
def f_X9_next (fu : Nat) (σ : ow_S) : Option (ow_S) :=
    L_X9_next_0 fu fu σ
def f_X9_rank (fu : Nat) (a1 : Int32) (σ : ow_S) : Option (Int32 × ow_S) :=
    if a1 = 0 then (some ((0 : Int32), σ))
    else (if a1 = (11 : Int32) then (some ((1 : Int32), σ))
    else (if a1 = (12 : Int32) then (some ((2 : Int32), σ))
    else (if a1 = (13 : Int32) then (some ((3 : Int32), σ))
    else (if (15 : Int32) < a1 then (if (17 : Int32) < a1 then (if a1 = (18 : Int32) then (some ((6 : Int32), σ))
    else (some ((7 : Int32), σ)))
    else (some ((5 : Int32), σ)))
    else (some ((4 : Int32), σ))))))
def f_X9_puts (fu : Nat) (a1 : Int32) (σ : ow_S) : Option (ow_S) :=
    ow_ck (ow_bd (((200 : Int32) * (σ.1 56 11)) + (σ.1 56 32)) 1200) <|
    ow_let (ow_sI σ 62 ((((200 : Int32) * (σ.1 56 11)) + (σ.1 56 32)).toNatClampNeg) a1) <| fun σ_18 =>
    ow_let (ow_sI σ_18 56 32 ((σ_18.1 56 32) + (1 : Int32))) <| fun σ_26 =>
    some σ_26
def L_X9_unwinds_67 (fu : Nat) (k0 : Int32 → ow_S → Option (ow_S)) (x1 : Int32) (x2 : Int32) (s1 : Int32) (s2 : Int32) (σ : ow_S) : Option (ow_S) :=
    ow_let (ow_sI σ 56 31 (s1 - s2)) <| fun σ_68 =>
    ow_cv (f_X9_puts fu x2 σ_68) <| fun σ_73 =>
    k0 x1 σ_73
def L_X9_unwinds_62 (fu : Nat) (k0 : Int32 → ow_S → Option (ow_S)) (x1 : Int32) (x2 : Int32) (s1 : Int32) (σ : ow_S) : Option (ow_S) :=
    L_X9_unwinds_67 fu k0 x1 x2 s1 (1 : Int32) σ
def L_X9_unwinds_0 (fu : Nat) : Nat → Int32 → ow_S → Option (ow_S)
  | 0, _, _ => none
  | fn + 1, x1, σ =>
    if (σ.1 56 30) ≤ 0 then (some σ)
    else (ow_ck (ow_bd ((σ.1 56 30) - (1 : Int32)) 200) <|
    ow_cl (f_X9_rank fu (σ.1 71 ((σ.1 56 30) - (1 : Int32)).toNatClampNeg) σ) <| fun r_18 σ_18 =>
    if r_18 < x1 then (some σ_18)
    else (ow_let (ow_sI σ_18 56 30 ((σ_18.1 56 30) - (1 : Int32))) <| fun σ_32 =>
    ow_ck (ow_bd (σ_32.1 56 30) 200) <|
    ow_let (σ_32.1 71 (σ_32.1 56 30).toNatClampNeg) <| fun x2_44 =>
    if x2_44 = (13 : Int32) then (L_X9_unwinds_62 fu (L_X9_unwinds_0 fu fn) x1 x2_44 (σ_32.1 56 31) σ_32)
    else (if x2_44 = (19 : Int32) then (L_X9_unwinds_62 fu (L_X9_unwinds_0 fu fn) x1 x2_44 (σ_32.1 56 31) σ_32)
    else (L_X9_unwinds_67 fu (L_X9_unwinds_0 fu fn) x1 x2_44 (σ_32.1 56 31) (0 : Int32) σ_32))))
def f_X9_unwinds (fu : Nat) (a1 : Int32) (σ : ow_S) : Option (ow_S) :=
    L_X9_unwinds_0 fu fu a1 σ
def f_X9_holds (fu : Nat) (a1 : Int32) (σ : ow_S) : Option (ow_S) :=
    ow_ck (ow_bd (σ.1 56 30) 200) <|
    ow_let (ow_sI σ 71 ((σ.1 56 30).toNatClampNeg) a1) <| fun σ_9 =>
    ow_let (ow_sI σ_9 56 30 ((σ_9.1 56 30) + (1 : Int32))) <| fun σ_17 =>
    some σ_17
def f_X9_opensOne (fu : Nat) (a1 : Int32) (σ : ow_S) : Option (Int32 × ow_S) :=
    if (σ.1 56 31) = (5 : Int32) then (some ((0 : Int32), σ))
    else (ow_let (ow_sI σ 56 31 ((σ.1 56 31) + (1 : Int32))) <| fun σ_17 =>
    ow_cv (f_X9_holds fu a1 σ_17) <| fun σ_22 =>
    some ((1 : Int32), σ_22))
def L_X9_between_55 (fu : Nat) (x1 : Int32) (σ : ow_S) : Option (Int32 × ow_S) :=
    ow_cv (f_X9_holds fu x1 σ) <| fun σ_57 =>
    some ((1 : Int32), σ_57)
def L_X9_between_17 (fu : Nat) (x1 : Int32) (s1 : Int32) (σ : ow_S) : Option (Int32 × ow_S) :=
    ow_cv (f_X9_unwinds fu s1 σ) <| fun σ_17 =>
    ow_cl (f_X9_rank fu x1 σ_17) <| fun r_21 σ_21 =>
    if r_21 = (4 : Int32) then (if (σ_21.1 56 30) ≤ 0 then (L_X9_between_55 fu x1 σ_21)
    else (ow_ck (ow_bd ((σ_21.1 56 30) - (1 : Int32)) 200) <|
    ow_cl (f_X9_rank fu (σ_21.1 71 ((σ_21.1 56 30) - (1 : Int32)).toNatClampNeg) σ_21) <| fun r_46 σ_46 =>
    if r_46 = (4 : Int32) then (some ((0 : Int32), σ_46))
    else (L_X9_between_55 fu x1 σ_46)))
    else (L_X9_between_55 fu x1 σ_21)
def f_X9_between (fu : Nat) (a1 : Int32) (σ : ow_S) : Option (Int32 × ow_S) :=
    ow_cl (f_X9_rank fu a1 σ) <| fun r_2 σ_2 =>
    if r_2 = (4 : Int32) then (L_X9_between_17 fu a1 (5 : Int32) σ_2)
    else (ow_cl (f_X9_rank fu a1 σ_2) <| fun r_14 σ_14 =>
    L_X9_between_17 fu a1 r_14 σ_14)
def f_X9_signOf (fu : Nat) (σ : ow_S) : Option (Int32 × ow_S) :=
    if (σ.1 56 26) = (4 : Int32) then (some ((11 : Int32), σ))
    else (if (σ.1 56 26) = (5 : Int32) then (some ((12 : Int32), σ))
    else (if (σ.1 56 26) = (60 : Int32) then (some ((14 : Int32), σ))
    else (if (σ.1 56 26) = (61 : Int32) then (some ((15 : Int32), σ))
    else (if (σ.1 56 26) = (43 : Int32) then (some ((16 : Int32), σ))
    else (if (σ.1 56 26) = (45 : Int32) then (some ((17 : Int32), σ))
    else (if (σ.1 56 26) = (42 : Int32) then (some ((18 : Int32), σ))
    else (some ((-1 : Int32), σ))))))))
def L_X9_eRead_262 (fu : Nat) (k14 : Int32 → Int32 → ow_S → Option (Int32 × ow_S)) (x1 : Int32) (s0 : Int32) (σ : ow_S) : Option (Int32 × ow_S) :=
    k14 x1 s0 σ
def L_X9_eRead_61 (fu : Nat) (k14 : Int32 → Int32 → ow_S → Option (Int32 × ow_S)) (x2 : Int32) (s1 : Int32) (σ : ow_S) : Option (Int32 × ow_S) :=
    ow_cv (f_X9_puts fu s1 σ) <| fun σ_61 =>
    ow_cv (f_X9_unwinds fu (7 : Int32) σ_61) <| fun σ_67 =>
    k14 (0 : Int32) x2 σ_67
def L_X9_eRead_38 (fu : Nat) (k14 : Int32 → Int32 → ow_S → Option (Int32 × ow_S)) (x2 : Int32) (σ : ow_S) : Option (Int32 × ow_S) :=
    if (σ.1 56 26) = (1 : Int32) then (L_X9_eRead_61 fu k14 x2 ((100000 : Int32) + (σ.1 56 27)) σ)
    else (L_X9_eRead_61 fu k14 x2 (σ.1 56 27) σ)
def L_X9_eRead_99 (fu : Nat) (k14 : Int32 → Int32 → ow_S → Option (Int32 × ow_S)) (x1 : Int32) (σ : ow_S) : Option (Int32 × ow_S) :=
    if (σ.1 56 26) = (45 : Int32) then (ow_cl (f_X9_opensOne fu (19 : Int32) σ) <| fun r_111 σ_111 =>
    if r_111 = 0 then (some ((0 : Int32), σ_111))
    else (k14 x1 (0 : Int32) σ_111))
    else (if (σ.1 56 26) = (40 : Int32) then (ow_cl (f_X9_opensOne fu (0 : Int32) σ) <| fun r_135 σ_135 =>
    if r_135 = 0 then (some ((0 : Int32), σ_135))
    else (k14 x1 (1 : Int32) σ_135))
    else (some ((0 : Int32), σ)))
def L_X9_eRead_14 (fu : Nat) : Nat → Int32 → Int32 → ow_S → Option (Int32 × ow_S)
  | 0, _, _, _ => none
  | fn + 1, x1, x2, σ =>
    ow_cv (f_X9_next fu σ) <| fun σ_15 =>
    if x1 = 0 then (if (σ_15.1 56 26) = (59 : Int32) then (ow_cv (f_X9_unwinds fu (1 : Int32) σ_15) <| fun σ_161 =>
    if (σ_161.1 56 30) = 0 then (some ((1 : Int32), σ_161))
    else (some ((0 : Int32), σ_161)))
    else (if (σ_15.1 56 26) = (41 : Int32) then (ow_cv (f_X9_unwinds fu (1 : Int32) σ_15) <| fun σ_188 =>
    if (σ_188.1 56 30) = 0 then (some ((0 : Int32), σ_188))
    else (ow_let (ow_sI σ_188 56 30 ((σ_188.1 56 30) - (1 : Int32))) <| fun σ_207 =>
    ow_let (ow_sI σ_207 56 31 ((σ_207.1 56 31) - (1 : Int32))) <| fun σ_217 =>
    ow_cv (f_X9_unwinds fu (7 : Int32) σ_217) <| fun σ_223 =>
    (L_X9_eRead_14 fu fn) x1 x2 σ_223))
    else (ow_cl (f_X9_signOf fu σ_15) <| fun r_230 σ_230 =>
    if r_230 = (-1 : Int32) then (some ((0 : Int32), σ_230))
    else (ow_cl (f_X9_between fu r_230 σ_230) <| fun r_241 σ_241 =>
    if r_241 = 0 then (some ((0 : Int32), σ_241))
    else (if (12 : Int32) < r_230 then (L_X9_eRead_262 fu (L_X9_eRead_14 fu fn) (1 : Int32) (0 : Int32) σ_241)
    else (L_X9_eRead_262 fu (L_X9_eRead_14 fu fn) (1 : Int32) (1 : Int32) σ_241))))))
    else (if (σ_15.1 56 26) = (1 : Int32) then (L_X9_eRead_38 fu (L_X9_eRead_14 fu fn) x2 σ_15)
    else (if (σ_15.1 56 26) = (2 : Int32) then (L_X9_eRead_38 fu (L_X9_eRead_14 fu fn) x2 σ_15)
    else (if (σ_15.1 56 26) = (6 : Int32) then (if x2 = 0 then (L_X9_eRead_99 fu (L_X9_eRead_14 fu fn) x1 σ_15)
    else (ow_cl (f_X9_opensOne fu (13 : Int32) σ_15) <| fun r_91 σ_91 =>
    if r_91 = 0 then (some ((0 : Int32), σ_91))
    else ((L_X9_eRead_14 fu fn) x1 x2 σ_91)))
    else (L_X9_eRead_99 fu (L_X9_eRead_14 fu fn) x1 σ_15))))
def f_X9_eRead (fu : Nat) (σ : ow_S) : Option (Int32 × ow_S) :=
    ow_let (ow_sI σ 56 30 (0 : Int32)) <| fun σ_2 =>
    ow_let (ow_sI σ_2 56 31 (0 : Int32)) <| fun σ_7 =>
    L_X9_eRead_14 fu fu (1 : Int32) (1 : Int32) σ_7
def L_X9_text_122 (fu : Nat) (x1 : Int32) (σ : ow_S) : Option (Int32 × ow_S) :=
    ow_ck (ow_bd (((4 : Int32) * (σ.1 56 11)) + (3 : Int32)) 24) <|
    ow_let (ow_sI σ 63 ((((4 : Int32) * (σ.1 56 11)) + (3 : Int32)).toNatClampNeg) (σ.1 56 32)) <| fun σ_138 =>
    ow_let (ow_sI σ_138 56 8 (0 : Int32)) <| fun σ_141 =>
    if x1 = 0 then (some (((-100 : Int32) - (σ_141.1 56 25)), σ_141))
    else (ow_let (ow_sI σ_141 56 11 ((σ_141.1 56 11) + (1 : Int32))) <| fun σ_163 =>
    some (((σ_163.1 56 11) - (1 : Int32)), σ_163))
def L_X9_text_121 (fu : Nat) (s0 : Int32) (σ : ow_S) : Option (Int32 × ow_S) :=
    L_X9_text_122 fu s0 σ
def L_X9_text_101 (fu : Nat) (x1 : Int32) (σ : ow_S) : Option (Int32 × ow_S) :=
    if x1 = 0 then (L_X9_text_122 fu x1 σ)
    else (ow_cv (f_X9_next fu σ) <| fun σ_106 =>
    if (σ_106.1 56 26) = 0 then (L_X9_text_121 fu (1 : Int32) σ_106)
    else (L_X9_text_121 fu (0 : Int32) σ_106))
def L_X9_text_94 (fu : Nat) (k26 : Int32 → Int32 → ow_S → Option (Int32 × ow_S)) (x2 : Int32) (s0 : Int32) (σ : ow_S) : Option (Int32 × ow_S) :=
    ow_let (x2 + (1 : Int32)) <| fun x2_95 =>
    k26 s0 x2_95 σ
def L_X9_text_93 (fu : Nat) (k26 : Int32 → Int32 → ow_S → Option (Int32 × ow_S)) (x2 : Int32) (σ : ow_S) : Option (Int32 × ow_S) :=
    L_X9_text_94 fu k26 x2 (0 : Int32) σ
def L_X9_text_60 (fu : Nat) (k26 : Int32 → Int32 → ow_S → Option (Int32 × ow_S)) (x2 : Int32) (s0 : Int32) (σ : ow_S) : Option (Int32 × ow_S) :=
    ow_ck (ow_bd (((4 : Int32) * (σ.1 56 11)) + x2) 24) <|
    ow_let (ow_sI σ 63 ((((4 : Int32) * (σ.1 56 11)) + x2).toNatClampNeg) (σ.1 56 32)) <| fun σ_77 =>
    if s0 = 0 then (L_X9_text_93 fu k26 x2 σ_77)
    else (ow_cl (f_X9_eRead fu σ_77) <| fun r_83 σ_83 =>
    if r_83 = 0 then (L_X9_text_93 fu k26 x2 σ_83)
    else (L_X9_text_94 fu k26 x2 (1 : Int32) σ_83))
def L_X9_text_59 (fu : Nat) (k26 : Int32 → Int32 → ow_S → Option (Int32 × ow_S)) (x2 : Int32) (σ : ow_S) : Option (Int32 × ow_S) :=
    L_X9_text_60 fu k26 x2 (0 : Int32) σ
def L_X9_text_26 (fu : Nat) : Nat → Int32 → Int32 → ow_S → Option (Int32 × ow_S)
  | 0, _, _, _ => none
  | fn + 1, x1, x2, σ =>
    if (3 : Int32) ≤ x2 then (L_X9_text_101 fu x1 σ)
    else (if x1 = 0 then (L_X9_text_101 fu x1 σ)
    else (ow_cv (f_X9_next fu σ) <| fun σ_36 =>
    if (σ_36.1 56 26) = (3 : Int32) then (if (σ_36.1 56 27) = x2 then (L_X9_text_60 fu (L_X9_text_26 fu fn) x2 (1 : Int32) σ_36)
    else (L_X9_text_59 fu (L_X9_text_26 fu fn) x2 σ_36))
    else (L_X9_text_59 fu (L_X9_text_26 fu fn) x2 σ_36)))
def f_X9_text (fu : Nat) (σ : ow_S) : Option (Int32 × ow_S) :=
    if (σ.1 56 11) = (6 : Int32) then (some ((-4 : Int32), σ))
    else (ow_let (ow_sI σ 56 24 (0 : Int32)) <| fun σ_14 =>
    ow_let (ow_sI σ_14 56 32 (0 : Int32)) <| fun σ_19 =>
    L_X9_text_26 fu fu (1 : Int32) (0 : Int32) σ_19)
def L_X9_two__52 (fu : Nat) (σ : ow_S) : Option (Int32 × ow_S) :=
    some ((1 : Int32), σ)
def L_X9_two__102 (fu : Nat) (x1 : Int32) (x2 : Int32) (σ : ow_S) : Option (Int32 × ow_S) :=
    some ((x1 * x2), σ)
def f_X9_two_ (fu : Nat) (a1 : Int32) (a2 : Int32) (a3 : Int32) (σ : ow_S) : Option (Int32 × ow_S) :=
    if a1 = (11 : Int32) then (if a2 = 0 then (if a3 = 0 then (some ((0 : Int32), σ))
    else (L_X9_two__52 fu σ))
    else (L_X9_two__52 fu σ))
    else (if a1 = (12 : Int32) then (if a2 = 0 then (some ((0 : Int32), σ))
    else (if a3 = 0 then (some ((0 : Int32), σ))
    else (some ((1 : Int32), σ))))
    else (if a1 = (13 : Int32) then (L_X9_two__102 fu a2 a3 σ)
    else (if a1 = (14 : Int32) then (if a3 ≤ a2 then (some ((0 : Int32), σ))
    else (some ((1 : Int32), σ)))
    else (if a1 = (15 : Int32) then (if a2 = a3 then (some ((1 : Int32), σ))
    else (some ((0 : Int32), σ)))
    else (if a1 = (16 : Int32) then (some ((a2 + a3), σ))
    else (if a1 = (17 : Int32) then (some ((a2 - a3), σ))
    else (L_X9_two__102 fu a2 a3 σ)))))))
def L_X9_tellsOf_191 (fu : Nat) (k16 : Int32 → Int32 → Int32 → ow_S → Option (Int32 × ow_S)) (x1 : Int32) (x2 : Int32) (x3 : Int32) (σ : ow_S) : Option (Int32 × ow_S) :=
    ow_let (x3 + (1 : Int32)) <| fun x3_191 =>
    k16 x1 x2 x3_191 σ
def L_X9_tellsOf_93 (fu : Nat) (k16 : Int32 → Int32 → Int32 → ow_S → Option (Int32 × ow_S)) (x1 : Int32) (x2 : Int32) (x3 : Int32) (s1 : Int32) (s2 : Int32) (σ : ow_S) : Option (Int32 × ow_S) :=
    ow_ck (ow_bd s1 200) <|
    ow_let (ow_sI σ 72 s1.toNatClampNeg s2) <| fun σ_93 =>
    ow_let (x2 + (1 : Int32)) <| fun x2_94 =>
    L_X9_tellsOf_191 fu k16 x1 x2_94 x3 σ_93
def L_X9_tellsOf_66 (fu : Nat) (k16 : Int32 → Int32 → Int32 → ow_S → Option (Int32 × ow_S)) (x1 : Int32) (x2 : Int32) (x3 : Int32) (x4 : Int32) (σ : ow_S) : Option (Int32 × ow_S) :=
    if (11 : Int32) ≤ x4 then (L_X9_tellsOf_93 fu k16 x1 x2 x3 x2 (x4 - (100000 : Int32)) σ)
    else (ow_ck (ow_bd x4 6) <|
    L_X9_tellsOf_93 fu k16 x1 x2 x3 x2 (σ.1 73 x4.toNatClampNeg) σ)
def L_X9_tellsOf_130 (fu : Nat) (k16 : Int32 → Int32 → Int32 → ow_S → Option (Int32 × ow_S)) (x1 : Int32) (x2 : Int32) (x3 : Int32) (s1 : Int32) (s2 : Int32) (σ : ow_S) : Option (Int32 × ow_S) :=
    ow_ck (ow_bd s1 200) <|
    ow_let (ow_sI σ 72 s1.toNatClampNeg s2) <| fun σ_130 =>
    L_X9_tellsOf_191 fu k16 x1 x2 x3 σ_130
def L_X9_tellsOf_16 (fu : Nat) : Nat → Int32 → Int32 → Int32 → ow_S → Option (Int32 × ow_S)
  | 0, _, _, _, _ => none
  | fn + 1, x1, x2, x3, σ =>
    ow_ck (ow_bd ((((4 : Int32) * (σ.1 56 12)) + x1) + (1 : Int32)) 24) <|
    if (σ.1 63 ((((4 : Int32) * (σ.1 56 12)) + x1) + (1 : Int32)).toNatClampNeg) ≤ x3 then (some ((σ.1 72 0), σ))
    else (ow_ck (ow_bd (((200 : Int32) * (σ.1 56 12)) + x3) 1200) <|
    ow_let (σ.1 62 (((200 : Int32) * (σ.1 56 12)) + x3).toNatClampNeg) <| fun x4_50 =>
    if (100000 : Int32) ≤ x4_50 then (L_X9_tellsOf_66 fu (L_X9_tellsOf_16 fu fn) x1 x2 x3 x4_50 σ)
    else (if (11 : Int32) ≤ x4_50 then (if x4_50 = (13 : Int32) then (ow_ck (ow_bd (x2 - (1 : Int32)) 200) <|
    if (σ.1 72 (x2 - (1 : Int32)).toNatClampNeg) = 0 then (L_X9_tellsOf_130 fu (L_X9_tellsOf_16 fu fn) x1 x2 x3 (x2 - (1 : Int32)) (1 : Int32) σ)
    else (L_X9_tellsOf_130 fu (L_X9_tellsOf_16 fu fn) x1 x2 x3 (x2 - (1 : Int32)) (0 : Int32) σ))
    else (if x4_50 = (19 : Int32) then (ow_ck (ow_bd (x2 - (1 : Int32)) 200) <|
    ow_ck (ow_bd (x2 - (1 : Int32)) 200) <|
    ow_let (ow_sI σ 72 ((x2 - (1 : Int32)).toNatClampNeg) (-(σ.1 72 (x2 - (1 : Int32)).toNatClampNeg))) <| fun σ_157 =>
    L_X9_tellsOf_191 fu (L_X9_tellsOf_16 fu fn) x1 x2 x3 σ_157)
    else (ow_let (x2 + (-1 : Int32)) <| fun x2_161 =>
    ow_ck (ow_bd (x2_161 - (1 : Int32)) 200) <|
    ow_ck (ow_bd x2_161 200) <|
    ow_cl (f_X9_two_ fu x4_50 (σ.1 72 (x2_161 - (1 : Int32)).toNatClampNeg) (σ.1 72 x2_161.toNatClampNeg) σ) <| fun r_187 σ_187 =>
    ow_ck (ow_bd (x2_161 - (1 : Int32)) 200) <|
    ow_let (ow_sI σ_187 72 ((x2_161 - (1 : Int32)).toNatClampNeg) r_187) <| fun σ_190 =>
    L_X9_tellsOf_191 fu (L_X9_tellsOf_16 fu fn) x1 x2_161 x3 σ_190)))
    else (L_X9_tellsOf_66 fu (L_X9_tellsOf_16 fu fn) x1 x2 x3 x4_50 σ)))
def f_X9_tellsOf (fu : Nat) (a1 : Int32) (σ : ow_S) : Option (Int32 × ow_S) :=
    ow_ck (ow_bd (((4 : Int32) * (σ.1 56 12)) + a1) 24) <|
    ow_let (σ.1 63 (((4 : Int32) * (σ.1 56 12)) + a1).toNatClampNeg) <| fun x3_15 =>
    L_X9_tellsOf_16 fu fu a1 (0 : Int32) x3_15 σ
def f_X9_force (fu : Nat) (a1 : Int32) (σ : ow_S) : Option (Int32 × ow_S) :=
    ow_cl (f_X9_in fu a1 (0 : Int32) ((σ.1 56 11) - (1 : Int32)) σ) <| fun r_8 σ_8 =>
    if r_8 = 0 then (some ((-2 : Int32), σ_8))
    else (ow_let (σ_8.1 56 12) <| fun x2_21 =>
    ow_let (ow_sI σ_8 56 12 a1) <| fun σ_24 =>
    some (x2_21, σ_24))
def f_X9_asksOf (fu : Nat) (a1 : Int32) (a2 : Int32) (a3 : Int32) (a4 : Int32) (a5 : Int32) (a6 : Int32) (σ : ow_S) : Option (Int32 × ow_S) :=
    ow_let (ow_sI σ 73 0 a2) <| fun σ_6 =>
    ow_let (ow_sI σ_6 73 1 a3) <| fun σ_13 =>
    ow_let (ow_sI σ_13 73 2 a4) <| fun σ_21 =>
    ow_let (ow_sI σ_21 73 3 a5) <| fun σ_29 =>
    ow_let (ow_sI σ_29 73 4 (σ_29.1 56 0)) <| fun σ_39 =>
    ow_let (ow_sI σ_39 73 5 a6) <| fun σ_47 =>
    ow_cl (f_X9_tellsOf fu a1 σ_47) <| fun r_50 σ_50 =>
    some (r_50, σ_50)
def L_X9_asks_57 (fu : Nat) (x1 : Int32) (x2 : Int32) (x3 : Int32) (x4 : Int32) (s0 : Int32) (σ : ow_S) : Option (Int32 × ow_S) :=
    if s0 = 0 then (some ((-2 : Int32), σ))
    else (ow_cl (f_X9_asksOf fu x1 x2 x3 (x4 / (1000 : Int32)) (ow_irem (x4 / (10 : Int32)) (100 : Int32)) (ow_irem x4 (10 : Int32)) σ) <| fun r_87 σ_87 =>
    ow_cl (f_X9_within fu r_87 (-1000000 : Int32) (1000000 : Int32) σ_87) <| fun r_94 σ_94 =>
    some (r_94, σ_94))
def L_X9_asks_56 (fu : Nat) (x1 : Int32) (x2 : Int32) (x3 : Int32) (x4 : Int32) (σ : ow_S) : Option (Int32 × ow_S) :=
    L_X9_asks_57 fu x1 x2 x3 x4 (0 : Int32) σ
def f_X9_asks (fu : Nat) (a1 : Int32) (a2 : Int32) (a3 : Int32) (a4 : Int32) (σ : ow_S) : Option (Int32 × ow_S) :=
    ow_cl (f_X9_in fu a1 (0 : Int32) (2 : Int32) σ) <| fun r_3 σ_3 =>
    if r_3 = 0 then (L_X9_asks_56 fu a1 a2 a3 a4 σ_3)
    else (ow_cl (f_X9_in fu a2 (0 : Int32) (65535 : Int32) σ_3) <| fun r_13 σ_13 =>
    if r_13 = 0 then (L_X9_asks_56 fu a1 a2 a3 a4 σ_13)
    else (ow_cl (f_X9_in fu a3 (0 : Int32) (65535 : Int32) σ_13) <| fun r_23 σ_23 =>
    if r_23 = 0 then (L_X9_asks_56 fu a1 a2 a3 a4 σ_23)
    else (ow_cl (f_X9_in fu a4 (0 : Int32) (52599 : Int32) σ_23) <| fun r_34 σ_34 =>
    if r_34 = 0 then (L_X9_asks_56 fu a1 a2 a3 a4 σ_34)
    else (if (600 : Int32) ≤ (ow_irem a4 (1000 : Int32)) then (L_X9_asks_56 fu a1 a2 a3 a4 σ_34)
    else (L_X9_asks_57 fu a1 a2 a3 a4 (1 : Int32) σ_34)))))
def f_X9_head (fu : Nat) (a1 : Int32) (a2 : Int32) (a3 : Int32) (σ : ow_S) : Option (Int32 × ow_S) :=
    ow_cl (f_X9_in fu a1 (0 : Int32) (59 : Int32) σ) <| fun r_4 σ_4 =>
    if r_4 = 0 then (some ((-2 : Int32), σ_4))
    else (ow_cl (f_X9_in fu a2 (1 : Int32) (16 : Int32) σ_4) <| fun r_14 σ_14 =>
    if r_14 = 0 then (some ((-2 : Int32), σ_14))
    else (ow_cl (f_X9_in fu a3 (0 : Int32) (65535 : Int32) σ_14) <| fun r_24 σ_24 =>
    if r_24 = 0 then (some ((-2 : Int32), σ_24))
    else (if (σ_24.1 56 3) = (5 : Int32) then (some ((-4 : Int32), σ_24))
    else (ow_ck (ow_bd (σ_24.1 56 3) 5) <|
    ow_let (ow_sI σ_24 58 ((σ_24.1 56 3).toNatClampNeg) (a1 / (10 : Int32))) <| fun σ_56 =>
    ow_ck (ow_bd (σ_56.1 56 3) 5) <|
    ow_let (ow_sI σ_56 59 ((σ_56.1 56 3).toNatClampNeg) (ow_irem a1 (10 : Int32))) <| fun σ_69 =>
    ow_ck (ow_bd ((3 : Int32) * (σ_69.1 56 3)) 15) <|
    ow_let (ow_sI σ_69 60 (((3 : Int32) * (σ_69.1 56 3)).toNatClampNeg) a2) <| fun σ_81 =>
    ow_ck (ow_bd (((3 : Int32) * (σ_81.1 56 3)) + (1 : Int32)) 15) <|
    ow_let (ow_sI σ_81 60 ((((3 : Int32) * (σ_81.1 56 3)) + (1 : Int32)).toNatClampNeg) a3) <| fun σ_95 =>
    ow_ck (ow_bd (((3 : Int32) * (σ_95.1 56 3)) + (2 : Int32)) 15) <|
    ow_let (ow_sI σ_95 60 ((((3 : Int32) * (σ_95.1 56 3)) + (2 : Int32)).toNatClampNeg) (0 : Int32)) <| fun σ_109 =>
    ow_let (ow_sI σ_109 56 3 ((σ_109.1 56 3) + (1 : Int32))) <| fun σ_117 =>
    some (((σ_117.1 56 3) - (1 : Int32)), σ_117)))))
def L_X9_set_41 (fu : Nat) (x1 : Int32) (x2 : Int32) (x3 : Int32) (s0 : Int32) (s1 : Int32) (s2 : Int32) (σ : ow_S) : Option (Int32 × ow_S) :=
    ow_cl (f_X9_in fu s0 s1 s2 σ) <| fun r_41 σ_41 =>
    if r_41 = 0 then (some ((-7 : Int32), σ_41))
    else (ow_ck (ow_bd (((3 : Int32) * x1) + x2) 15) <|
    ow_let (σ_41.1 60 (((3 : Int32) * x1) + x2).toNatClampNeg) <| fun x4_60 =>
    ow_ck (ow_bd (((3 : Int32) * x1) + x2) 15) <|
    ow_let (ow_sI σ_41 60 ((((3 : Int32) * x1) + x2).toNatClampNeg) x3) <| fun σ_72 =>
    some (x4_60, σ_72))
def L_X9_set_30 (fu : Nat) (x1 : Int32) (x2 : Int32) (x3 : Int32) (s0 : Int32) (s1 : Int32) (σ : ow_S) : Option (Int32 × ow_S) :=
    if x2 = 0 then (L_X9_set_41 fu x1 x2 x3 s0 s1 (16 : Int32) σ)
    else (L_X9_set_41 fu x1 x2 x3 s0 s1 (65535 : Int32) σ)
def f_X9_set (fu : Nat) (a1 : Int32) (a2 : Int32) (a3 : Int32) (σ : ow_S) : Option (Int32 × ow_S) :=
    ow_cl (f_X9_isHead fu a1 σ) <| fun r_2 σ_2 =>
    if r_2 = 0 then (some ((-5 : Int32), σ_2))
    else (ow_cl (f_X9_in fu a2 (0 : Int32) (2 : Int32) σ_2) <| fun r_14 σ_14 =>
    if r_14 = 0 then (some ((-7 : Int32), σ_14))
    else (if a2 = 0 then (L_X9_set_30 fu a1 a2 a3 a3 (1 : Int32) σ_14)
    else (L_X9_set_30 fu a1 a2 a3 a3 (0 : Int32) σ_14)))
def f_X9_told (fu : Nat) (a1 : Int32) (a2 : Int32) (σ : ow_S) : Option (Int32 × ow_S) :=
    ow_cl (f_X9_isHead fu a1 σ) <| fun r_2 σ_2 =>
    if r_2 = 0 then (some ((-5 : Int32), σ_2))
    else (if a2 = 0 then (ow_ck (ow_bd a1 5) <|
    some ((σ_2.1 58 a1.toNatClampNeg), σ_2))
    else (if a2 = (1 : Int32) then (ow_ck (ow_bd a1 5) <|
    some ((σ_2.1 59 a1.toNatClampNeg), σ_2))
    else (ow_cl (f_X9_in fu a2 (2 : Int32) (4 : Int32) σ_2) <| fun r_41 σ_41 =>
    if r_41 = 0 then (some ((-7 : Int32), σ_41))
    else (ow_ck (ow_bd ((((3 : Int32) * a1) + a2) - (2 : Int32)) 15) <|
    some ((σ_41.1 60 ((((3 : Int32) * a1) + a2) - (2 : Int32)).toNatClampNeg), σ_41)))))
def L_X9_sees_67 (fu : Nat) (σ : ow_S) : Option (Int32 × ow_S) :=
    some ((1 : Int32), σ)
def L_X9_sees_50 (fu : Nat) (x1 : Int32) (x2 : Int32) (x3 : Int32) (σ : ow_S) : Option (Int32 × ow_S) :=
    ow_ck (ow_bd x1 5) <|
    if (σ.1 58 x1.toNatClampNeg) = (3 : Int32) then (if x2 < (x3 / (3 : Int32)) then (some ((0 : Int32), σ))
    else (L_X9_sees_67 fu σ))
    else (L_X9_sees_67 fu σ)
def L_X9_sees_32 (fu : Nat) (x1 : Int32) (x2 : Int32) (x3 : Int32) (s0 : Int32) (σ : ow_S) : Option (Int32 × ow_S) :=
    if s0 = 0 then (L_X9_sees_50 fu x1 x2 x3 σ)
    else (ow_ck (¬ (x3 + (2 : Int32)) = 0) <|
    if (ow_irem x2 (x3 + (2 : Int32))) = (x3 + (1 : Int32)) then (some ((0 : Int32), σ))
    else (L_X9_sees_50 fu x1 x2 x3 σ))
def L_X9_sees_27 (fu : Nat) (x1 : Int32) (x2 : Int32) (x3 : Int32) (σ : ow_S) : Option (Int32 × ow_S) :=
    L_X9_sees_32 fu x1 x2 x3 (1 : Int32) σ
def f_X9_sees (fu : Nat) (a1 : Int32) (a2 : Int32) (σ : ow_S) : Option (Int32 × ow_S) :=
    ow_ck (ow_bd a1 5) <|
    ow_let (σ.1 59 a1.toNatClampNeg) <| fun x3_6 =>
    ow_ck (ow_bd a1 5) <|
    if (σ.1 58 a1.toNatClampNeg) = (1 : Int32) then (L_X9_sees_27 fu a1 a2 x3_6 σ)
    else (ow_ck (ow_bd a1 5) <|
    if (σ.1 58 a1.toNatClampNeg) = (3 : Int32) then (L_X9_sees_27 fu a1 a2 x3_6 σ)
    else (L_X9_sees_32 fu a1 a2 x3_6 (0 : Int32) σ))
def L_X9_keepsOf_28 (fu : Nat) (x1 : Int32) (x2 : Int32) (s0 : Int32) (σ : ow_S) : Option (Int32 × ow_S) :=
    ow_ck (ow_bd x1 5) <|
    if (σ.1 58 x1.toNatClampNeg) = (2 : Int32) then (some (s0, σ))
    else (ow_ck (ow_bd x1 5) <|
    if (σ.1 58 x1.toNatClampNeg) = (4 : Int32) then (some ((s0 - (s0 &&& (1 : Int32))), σ))
    else (some (x2, σ)))
def f_X9_keepsOf (fu : Nat) (a1 : Int32) (a2 : Int32) (a3 : Int32) (σ : ow_S) : Option (Int32 × ow_S) :=
    ow_ck (ow_bd a1 5) <|
    ow_let (σ.1 59 a1.toNatClampNeg) <| fun x4_6 =>
    ow_ck (¬ (x4_6 + (3 : Int32)) = 0) <|
    if (ow_irem a3 (x4_6 + (3 : Int32))) = (x4_6 + (2 : Int32)) then (L_X9_keepsOf_28 fu a1 a2 (a2 + (1 : Int32)) σ)
    else (L_X9_keepsOf_28 fu a1 a2 a2 σ)
def f_X9_maskOf (fu : Nat) (a1 : Int32) (σ : ow_S) : Option (Int32 × ow_S) :=
    ow_ck (ow_bd ((3 : Int32) * a1) 15) <|
    some ((((1 : Int32) <<< ((σ.1 60 ((3 : Int32) * a1).toNatClampNeg) &&& 31)) - (1 : Int32)), σ)
def f_X9_beginsOn (fu : Nat) (a1 : Int32) (σ : ow_S) : Option (ow_S) :=
    ow_ck (ow_bd (((3 : Int32) * a1) + (1 : Int32)) 15) <|
    ow_cl (f_X9_maskOf fu a1 σ) <| fun r_13 σ_13 =>
    ow_let (ow_sI σ_13 56 37 ((σ.1 60 (((3 : Int32) * a1) + (1 : Int32)).toNatClampNeg) &&& r_13)) <| fun σ_17 =>
    ow_ck (ow_bd (((3 : Int32) * a1) + (2 : Int32)) 15) <|
    ow_cl (f_X9_maskOf fu a1 σ_17) <| fun r_33 σ_33 =>
    ow_let (ow_sI σ_33 56 38 ((σ_17.1 60 (((3 : Int32) * a1) + (2 : Int32)).toNatClampNeg) &&& r_33)) <| fun σ_37 =>
    some σ_37
def f_X9_comes (fu : Nat) (a1 : Int32) (a2 : Int32) (a3 : Int32) (σ : ow_S) : Option (ow_S) :=
    ow_cl (f_X9_sees fu a1 a3 σ) <| fun r_3 σ_3 =>
    if r_3 = 0 then (some σ_3)
    else (ow_ck (ow_bd a1 5) <|
    ow_cl (f_X9_asksOf fu (0 : Int32) (σ_3.1 56 37) (σ_3.1 56 38) a2 a3 (σ_3.1 59 a1.toNatClampNeg) σ_3) <| fun r_29 σ_29 =>
    ow_cl (f_X9_keepsOf fu a1 r_29 a3 σ_29) <| fun r_33 σ_33 =>
    ow_ck (ow_bd a1 5) <|
    ow_cl (f_X9_asksOf fu (1 : Int32) (σ_33.1 56 37) (σ_33.1 56 38) a2 a3 (σ_33.1 59 a1.toNatClampNeg) σ_33) <| fun r_56 σ_56 =>
    ow_cl (f_X9_maskOf fu a1 σ_56) <| fun r_66 σ_66 =>
    ow_let (ow_sI σ_66 56 37 (r_33 &&& r_66)) <| fun σ_70 =>
    ow_cl (f_X9_maskOf fu a1 σ_70) <| fun r_78 σ_78 =>
    ow_let (ow_sI σ_78 56 38 (r_56 &&& r_78)) <| fun σ_82 =>
    some σ_82)
def f_X9_timesOf (fu : Nat) (a1 : Int32) (σ : ow_S) : Option (Int32 × ow_S) :=
    ow_ck (ow_bd a1 5) <|
    if (σ.1 58 a1.toNatClampNeg) = (5 : Int32) then (ow_ck (ow_bd a1 5) <|
    some (((2 : Int32) + ((σ.1 59 a1.toNatClampNeg) / (5 : Int32))), σ))
    else (some ((1 : Int32), σ))
def L_X9_goesBy_38 (fu : Nat) (k7 : Int32 → Int32 → Int32 → ow_S → Option (ow_S)) (k19 : Int32 → Int32 → Int32 → Int32 → ow_S → Option (ow_S)) (x1 : Int32) (x2 : Int32) (x3 : Int32) (x4 : Int32) (s0 : Int32) (s1 : Int32) (σ : ow_S) : Option (ow_S) :=
    if s1 ≤ s0 then (ow_let (x3 + (1 : Int32)) <| fun x3_61 =>
    k7 x1 x2 x3_61 σ)
    else (ow_ck (ow_bd x4 60) <|
    ow_cv (f_X9_comes fu x1 (σ.1 74 x4.toNatClampNeg) x4 σ) <| fun σ_52 =>
    ow_let (x4 + (1 : Int32)) <| fun x4_55 =>
    k19 x1 x2 x3 x4_55 σ_52)
def L_X9_goesBy_19 (fu : Nat) (k7 : Int32 → Int32 → Int32 → ow_S → Option (ow_S)) : Nat → Int32 → Int32 → Int32 → Int32 → ow_S → Option (ow_S)
  | 0, _, _, _, _, _ => none
  | fn + 1, x1, x2, x3, x4, σ =>
    ow_cl (f_X9_timesOf fu x1 σ) <| fun r_24 σ_24 =>
    if r_24 ≤ x3 then (L_X9_goesBy_38 fu k7 (L_X9_goesBy_19 fu k7 fn) x1 x2 x3 x4 x4 x2 σ_24)
    else (L_X9_goesBy_38 fu k7 (L_X9_goesBy_19 fu k7 fn) x1 x2 x3 x4 x4 (σ_24.1 56 36) σ_24)
def L_X9_goesBy_7 (fu : Nat) : Nat → Int32 → Int32 → Int32 → ow_S → Option (ow_S)
  | 0, _, _, _, _ => none
  | fn + 1, x1, x2, x3, σ =>
    ow_cl (f_X9_timesOf fu x1 σ) <| fun r_10 σ_10 =>
    if r_10 < x3 then (some σ_10)
    else (L_X9_goesBy_19 fu (L_X9_goesBy_7 fu fn) fu x1 x2 x3 (0 : Int32) σ_10)
def f_X9_goesBy (fu : Nat) (a1 : Int32) (a2 : Int32) (σ : ow_S) : Option (ow_S) :=
    ow_cv (f_X9_beginsOn fu a1 σ) <| fun σ_2 =>
    L_X9_goesBy_7 fu fu a1 a2 (1 : Int32) σ_2
def f_X9_saysOf (fu : Nat) (a1 : Int32) (σ : ow_S) : Option (Int32 × ow_S) :=
    ow_cv (f_X9_goesBy fu a1 (σ.1 56 36) σ) <| fun σ_6 =>
    ow_ck (ow_bd a1 5) <|
    ow_cl (f_X9_asksOf fu (2 : Int32) (σ_6.1 56 37) (σ_6.1 56 38) (0 : Int32) (σ_6.1 56 36) (σ_6.1 59 a1.toNatClampNeg) σ_6) <| fun r_30 σ_30 =>
    ow_cl (f_X9_within fu r_30 (-1000000 : Int32) (1000000 : Int32) σ_30) <| fun r_37 σ_37 =>
    some (r_37, σ_37)
def f_X9_say (fu : Nat) (a1 : Int32) (σ : ow_S) : Option (Int32 × ow_S) :=
    ow_cl (f_X9_isHead fu a1 σ) <| fun r_2 σ_2 =>
    if r_2 = 0 then (some ((-1000005 : Int32), σ_2))
    else (ow_cv (f_X9_laysRow fu σ_2) <| fun σ_12 =>
    ow_cl (f_X9_saysOf fu a1 σ_12) <| fun r_17 σ_17 =>
    some (r_17, σ_17))
def f_X9_keep (fu : Nat) (a1 : Int32) (a2 : Int32) (a3 : Int32) (σ : ow_S) : Option (Int32 × ow_S) :=
    ow_cl (f_X9_isHead fu a1 σ) <| fun r_2 σ_2 =>
    if r_2 = 0 then (some ((-5 : Int32), σ_2))
    else (ow_cl (f_X9_in fu a2 (0 : Int32) (σ_2.1 56 2) σ_2) <| fun r_17 σ_17 =>
    if r_17 = 0 then (some ((-7 : Int32), σ_17))
    else (ow_cl (f_X9_in fu a3 (0 : Int32) (1 : Int32) σ_17) <| fun r_26 σ_26 =>
    if r_26 = 0 then (some ((-7 : Int32), σ_26))
    else (ow_cv (f_X9_laysRow fu σ_26) <| fun σ_36 =>
    ow_cv (f_X9_goesBy fu a1 a2 σ_36) <| fun σ_42 =>
    if a3 = 0 then (some ((σ_42.1 56 37), σ_42))
    else (some ((σ_42.1 56 38), σ_42)))))
def L_X9_rightOf_42 (fu : Nat) (k5 : Int32 → Int32 → Int64 → Int32 → ow_S → Option (Int64 × ow_S)) (x1 : Int32) (x2 : Int32) (x5 : Int32) (s0 : Int64) (s1 : Int64) (σ : ow_S) : Option (Int64 × ow_S) :=
    ow_let (s0 ||| s1) <| fun x3_43 =>
    ow_let (x5 + (1 : Int32)) <| fun x5_44 =>
    k5 x1 x2 x3_43 x5_44 σ
def L_X9_rightOf_5 (fu : Nat) : Nat → Int32 → Int32 → Int64 → Int32 → ow_S → Option (Int64 × ow_S)
  | 0, _, _, _, _, _ => none
  | fn + 1, x1, x2, x3, x5, σ =>
    if (σ.1 56 0) < x5 then (some (x3, σ))
    else (ow_cv (f_X9_laysBut fu x5 x2 σ) <| fun σ_18 =>
    ow_cl (f_X9_saysOf fu x1 σ_18) <| fun r_24 σ_24 =>
    if r_24 = x5 then (L_X9_rightOf_42 fu (L_X9_rightOf_5 fu fn) x1 x2 x5 x3 ((1 : Int64) <<< ((x5 - (1 : Int32)).toInt64 &&& 63)) σ_24)
    else (L_X9_rightOf_42 fu (L_X9_rightOf_5 fu fn) x1 x2 x5 x3 (0 : Int64) σ_24))
def f_X9_rightOf (fu : Nat) (a1 : Int32) (a2 : Int32) (σ : ow_S) : Option (Int64 × ow_S) :=
    ow_let (0 : Int64) <| fun x3_1 =>
    L_X9_rightOf_5 fu fu a1 a2 x3_1 (1 : Int32) σ
def L_X9_ones_26 (fu : Nat) (k4 : Int64 → Int32 → Int32 → ow_S → Option (Int32 × ow_S)) (x0 : Int64) (x3 : Int32) (s0 : Int32) (s1 : Int32) (σ : ow_S) : Option (Int32 × ow_S) :=
    ow_let (s0 + s1) <| fun x2_27 =>
    ow_let (x3 + (1 : Int32)) <| fun x3_28 =>
    k4 x0 x2_27 x3_28 σ
def L_X9_ones_4 (fu : Nat) : Nat → Int64 → Int32 → Int32 → ow_S → Option (Int32 × ow_S)
  | 0, _, _, _, _ => none
  | fn + 1, x0, x2, x3, σ =>
    if (52 : Int32) ≤ x3 then (some (x2, σ))
    else (if (lg_cmp ((x0 >>> (x3.toInt64 &&& 63)) &&& (1 : Int64)) (1 : Int64)) = 0 then (L_X9_ones_26 fu (L_X9_ones_4 fu fn) x0 x3 x2 (1 : Int32) σ)
    else (L_X9_ones_26 fu (L_X9_ones_4 fu fn) x0 x3 x2 (0 : Int32) σ))
def f_X9_ones (fu : Nat) (a1 : Int64) (σ : ow_S) : Option (Int32 × ow_S) :=
    L_X9_ones_4 fu fu a1 (0 : Int32) (0 : Int32) σ
def f_X9_right (fu : Nat) (a1 : Int32) (a2 : Int32) (σ : ow_S) : Option (Int64 × ow_S) :=
    ow_cl (f_X9_isHead fu a1 σ) <| fun r_2 σ_2 =>
    if r_2 = 0 then (some ((-4611686018427387904 : Int64), σ_2))
    else (ow_cl (f_X9_in fu a2 (0 : Int32) (1 : Int32) σ_2) <| fun r_11 σ_11 =>
    if r_11 = 0 then (some ((-4611686018427387904 : Int64), σ_11))
    else (ow_cl (f_X9_rightOf fu a1 a2 σ_11) <| fun r_20 σ_20 =>
    some (r_20, σ_20)))
def L_X9_least_64 (fu : Nat) (k26 : Int32 → Int32 → Int32 → Int32 → ow_S → Option (Int32 × ow_S)) (x1 : Int32) (x2 : Int32) (x4 : Int32) (s0 : Int32) (σ : ow_S) : Option (Int32 × ow_S) :=
    ow_let (x4 + (-1 : Int32)) <| fun x4_65 =>
    k26 x1 x2 s0 x4_65 σ
def L_X9_least_26 (fu : Nat) : Nat → Int32 → Int32 → Int32 → Int32 → ow_S → Option (Int32 × ow_S)
  | 0, _, _, _, _, _ => none
  | fn + 1, x1, x2, x3, x4, σ =>
    if x4 < (1 : Int32) then (ow_ck (ow_bd ((3 : Int32) * x1) 15) <|
    ow_let (ow_sI σ 60 (((3 : Int32) * x1).toNatClampNeg) x2) <| fun σ_79 =>
    some (x3, σ_79))
    else (ow_ck (ow_bd ((3 : Int32) * x1) 15) <|
    ow_let (ow_sI σ 60 (((3 : Int32) * x1).toNatClampNeg) x4) <| fun σ_41 =>
    ow_cl (f_X9_rightOf fu x1 (0 : Int32) σ_41) <| fun r_45 σ_45 =>
    ow_cl (f_X9_ones fu r_45 σ_45) <| fun r_48 σ_48 =>
    if r_48 = (σ_48.1 56 0) then (L_X9_least_64 fu (L_X9_least_26 fu fn) x1 x2 x4 x4 σ_48)
    else (L_X9_least_64 fu (L_X9_least_26 fu fn) x1 x2 x4 x3 σ_48))
def f_X9_least (fu : Nat) (a1 : Int32) (σ : ow_S) : Option (Int32 × ow_S) :=
    ow_cl (f_X9_isHead fu a1 σ) <| fun r_2 σ_2 =>
    if r_2 = 0 then (some ((-5 : Int32), σ_2))
    else (ow_ck (ow_bd ((3 : Int32) * a1) 15) <|
    ow_let (σ_2.1 60 ((3 : Int32) * a1).toNatClampNeg) <| fun x2_19 =>
    L_X9_least_26 fu fu a1 x2_19 (-1 : Int32) (16 : Int32) σ_2)
def L_X9_begin_121 (fu : Nat) (k43 : Int32 → Int32 → Int32 → Int32 → Int32 → Int32 → ow_S → Option (Int32 × ow_S)) (x1 : Int32) (x2 : Int32) (x3 : Int32) (x4 : Int32) (x6 : Int32) (s0 : Int32) (σ : ow_S) : Option (Int32 × ow_S) :=
    ow_let (x6 + (1 : Int32)) <| fun x6_123 =>
    k43 x1 x2 x3 x4 s0 x6_123 σ
def L_X9_begin_105 (fu : Nat) (k43 : Int32 → Int32 → Int32 → Int32 → Int32 → Int32 → ow_S → Option (Int32 × ow_S)) (x1 : Int32) (x2 : Int32) (x3 : Int32) (x5 : Int32) (x6 : Int32) (x8 : Int32) (s0 : Int32) (σ : ow_S) : Option (Int32 × ow_S) :=
    if x8 ≤ x5 then (L_X9_begin_121 fu k43 x1 x2 x3 s0 x6 x5 σ)
    else (L_X9_begin_121 fu k43 x1 x2 x3 s0 x6 x8 σ)
def L_X9_begin_66 (fu : Nat) (k43 : Int32 → Int32 → Int32 → Int32 → Int32 → Int32 → ow_S → Option (Int32 × ow_S)) (x1 : Int32) (x2 : Int32) (x3 : Int32) (x4 : Int32) (x5 : Int32) (x6 : Int32) (s0 : Int32) (σ : ow_S) : Option (Int32 × ow_S) :=
    ow_ck (ow_bd (((3 : Int32) * x1) + (1 : Int32)) 15) <|
    ow_let (ow_sI σ 60 ((((3 : Int32) * x1) + (1 : Int32)).toNatClampNeg) s0) <| fun σ_79 =>
    ow_cl (f_X9_rightOf fu x1 (0 : Int32) σ_79) <| fun r_83 σ_83 =>
    ow_cl (f_X9_ones fu r_83 σ_83) <| fun r_86 σ_86 =>
    if r_86 ≤ x5 then (L_X9_begin_105 fu k43 x1 x2 x3 x5 x6 r_86 x4 σ_86)
    else (L_X9_begin_105 fu k43 x1 x2 x3 x5 x6 r_86 s0 σ_86)
def L_X9_begin_43 (fu : Nat) : Nat → Int32 → Int32 → Int32 → Int32 → Int32 → Int32 → ow_S → Option (Int32 × ow_S)
  | 0, _, _, _, _, _, _, _ => none
  | fn + 1, x1, x2, x3, x4, x5, x6, σ =>
    if (100 : Int32) < x6 then (ow_ck (ow_bd (((3 : Int32) * x1) + (1 : Int32)) 15) <|
    ow_let (ow_sI σ 60 ((((3 : Int32) * x1) + (1 : Int32)).toNatClampNeg) x3) <| fun σ_139 =>
    if x2 = 0 then (some (x4, σ_139))
    else (some (x5, σ_139)))
    else (if x6 = (100 : Int32) then (ow_cl (f_X9_packSum fu σ) <| fun r_58 σ_58 =>
    L_X9_begin_66 fu (L_X9_begin_43 fu fn) x1 x2 x3 x4 x5 x6 r_58 σ_58)
    else (L_X9_begin_66 fu (L_X9_begin_43 fu fn) x1 x2 x3 x4 x5 x6 x6 σ))
def f_X9_begin (fu : Nat) (a1 : Int32) (a2 : Int32) (σ : ow_S) : Option (Int32 × ow_S) :=
    ow_cl (f_X9_isHead fu a1 σ) <| fun r_2 σ_2 =>
    if r_2 = 0 then (some ((-5 : Int32), σ_2))
    else (ow_cl (f_X9_in fu a2 (0 : Int32) (1 : Int32) σ_2) <| fun r_14 σ_14 =>
    if r_14 = 0 then (some ((-7 : Int32), σ_14))
    else (ow_ck (ow_bd (((3 : Int32) * a1) + (1 : Int32)) 15) <|
    ow_let (σ_14.1 60 (((3 : Int32) * a1) + (1 : Int32)).toNatClampNeg) <| fun x3_33 =>
    L_X9_begin_43 fu fu a1 a2 x3_33 (-1 : Int32) (-1 : Int32) (0 : Int32) σ_14))
def f_X9_same (fu : Nat) (a1 : Int32) (a2 : Int32) (σ : ow_S) : Option (Int32 × ow_S) :=
    ow_cl (f_X9_isHead fu a1 σ) <| fun r_2 σ_2 =>
    if r_2 = 0 then (some ((-5 : Int32), σ_2))
    else (ow_cl (f_X9_in fu a2 (0 : Int32) (1 : Int32) σ_2) <| fun r_14 σ_14 =>
    if r_14 = 0 then (some ((-7 : Int32), σ_14))
    else (ow_cv (f_X9_laysRow fu σ_14) <| fun σ_24 =>
    ow_cl (f_X9_saysOf fu a1 σ_24) <| fun r_29 σ_29 =>
    ow_cv (f_X9_turnsOver fu a2 σ_29) <| fun σ_35 =>
    ow_cl (f_X9_saysOf fu a1 σ_35) <| fun r_40 σ_40 =>
    if r_40 = r_29 then (some ((1 : Int32), σ_40))
    else (some ((0 : Int32), σ_40))))
def L_X9_laysHalf_7 (fu : Nat) : Nat → Int32 → ow_S → Option (ow_S)
  | 0, _, _ => none
  | fn + 1, x2, σ =>
    if (σ.1 56 2) ≤ x2 then (some σ)
    else (ow_ck (ow_bd x2 60) <|
    ow_ck (ow_bd (σ.1 56 36) 60) <|
    ow_let (ow_sI σ 74 ((σ.1 56 36).toNatClampNeg) (σ.1 57 x2.toNatClampNeg)) <| fun σ_29 =>
    ow_let (ow_sI σ_29 56 36 ((σ_29.1 56 36) + (1 : Int32))) <| fun σ_37 =>
    ow_let (x2 + (2 : Int32)) <| fun x2_40 =>
    (L_X9_laysHalf_7 fu fn) x2_40 σ_37)
def f_X9_laysHalf (fu : Nat) (a1 : Int32) (σ : ow_S) : Option (ow_S) :=
    ow_let (ow_sI σ 56 36 (0 : Int32)) <| fun σ_2 =>
    L_X9_laysHalf_7 fu fu a1 σ_2
def f_X9_share (fu : Nat) (a1 : Int32) (a2 : Int32) (σ : ow_S) : Option (Int32 × ow_S) :=
    ow_cl (f_X9_isHead fu a1 σ) <| fun r_2 σ_2 =>
    if r_2 = 0 then (some ((-1000005 : Int32), σ_2))
    else (ow_cl (f_X9_isHead fu a2 σ_2) <| fun r_10 σ_10 =>
    if r_10 = 0 then (some ((-1000005 : Int32), σ_10))
    else (ow_cv (f_X9_laysHalf fu (0 : Int32) σ_10) <| fun σ_21 =>
    ow_cl (f_X9_saysOf fu a1 σ_21) <| fun r_26 σ_26 =>
    ow_cv (f_X9_laysHalf fu (1 : Int32) σ_26) <| fun σ_32 =>
    ow_cl (f_X9_saysOf fu a2 σ_32) <| fun r_38 σ_38 =>
    some ((r_26 + r_38), σ_38)))
def L_X9_pairsUp_15 (fu : Nat) : Nat → Int32 → Int32 → ow_S → Option (ow_S)
  | 0, _, _, _ => none
  | fn + 1, x1, x2, σ =>
    if (σ.1 56 40) ≤ x2 then (ow_ck (ow_bd (σ.1 56 40) 260) <|
    ow_let (ow_sI σ 75 ((σ.1 56 40).toNatClampNeg) x1) <| fun σ_49 =>
    ow_let (ow_sI σ_49 56 40 ((σ_49.1 56 40) + (1 : Int32))) <| fun σ_57 =>
    some σ_57)
    else (ow_ck (ow_bd x2 260) <|
    if (σ.1 75 x2.toNatClampNeg) = x1 then (some σ)
    else (ow_let (x2 + (1 : Int32)) <| fun x2_34 =>
    (L_X9_pairsUp_15 fu fn) x1 x2_34 σ))
def f_X9_pairsUp (fu : Nat) (σ : ow_S) : Option (ow_S) :=
    ow_let (((σ.1 56 37) <<< ((16 : Int32) &&& 31)) ||| (σ.1 56 38)) <| fun x1_12 =>
    L_X9_pairsUp_15 fu fu x1_12 (0 : Int32) σ
def L_X9_powerOf_5 (fu : Nat) : Nat → Int32 → Int32 → Int32 → Int32 → ow_S → Option (Int32 × ow_S)
  | 0, _, _, _, _, _ => none
  | fn + 1, x1, x2, x3, x4, σ =>
    if x2 ≤ x4 then (some (x3, σ))
    else (ow_let (x3 * x1) <| fun x3_14 =>
    ow_let (x4 + (1 : Int32)) <| fun x4_15 =>
    (L_X9_powerOf_5 fu fn) x1 x2 x3_14 x4_15 σ)
def f_X9_powerOf (fu : Nat) (a1 : Int32) (a2 : Int32) (σ : ow_S) : Option (Int32 × ow_S) :=
    L_X9_powerOf_5 fu fu a1 a2 (1 : Int32) (0 : Int32) σ
def L_X9_states_82 (fu : Nat) (k49 : Int32 → Int32 → Int32 → Int32 → ow_S → Option (Int32 × ow_S)) (k58 : Int32 → Int32 → Int32 → Int32 → Int32 → ow_S → Option (Int32 × ow_S)) : Nat → Int32 → Int32 → Int32 → Int32 → Int32 → Int32 → Int32 → ow_S → Option (Int32 × ow_S)
  | 0, _, _, _, _, _, _, _, _ => none
  | fn + 1, x1, x2, x3, x4, x5, x6, x7, σ =>
    if x4 ≤ x7 then (ow_cv (f_X9_pairsUp fu σ) <| fun σ_115 =>
    ow_let (x5 + (1 : Int32)) <| fun x5_118 =>
    k58 x1 x2 x3 x4 x5_118 σ_115)
    else (ow_ck (¬ x2 = 0) <|
    ow_cv (f_X9_comes fu x1 ((ow_irem x6 x2) + (1 : Int32)) x7 σ) <| fun σ_99 =>
    ow_ck (¬ x2 = 0) <|
    ow_let (x6 / x2) <| fun x6_106 =>
    ow_let (x7 + (1 : Int32)) <| fun x7_108 =>
    (L_X9_states_82 fu k49 k58 fn) x1 x2 x3 x4 x5 x6_106 x7_108 σ_99)
def L_X9_states_58 (fu : Nat) (k49 : Int32 → Int32 → Int32 → Int32 → ow_S → Option (Int32 × ow_S)) : Nat → Int32 → Int32 → Int32 → Int32 → Int32 → ow_S → Option (Int32 × ow_S)
  | 0, _, _, _, _, _, _ => none
  | fn + 1, x1, x2, x3, x4, x5, σ =>
    ow_cl (f_X9_powerOf fu x2 x4 σ) <| fun r_64 σ_64 =>
    if r_64 ≤ x5 then (ow_let (x4 + (1 : Int32)) <| fun x4_124 =>
    k49 x1 x2 x3 x4_124 σ_64)
    else (ow_cv (f_X9_beginsOn fu x1 σ_64) <| fun σ_76 =>
    L_X9_states_82 fu k49 (L_X9_states_58 fu k49 fn) fu x1 x2 x3 x4 x5 x5 (0 : Int32) σ_76)
def L_X9_states_49 (fu : Nat) : Nat → Int32 → Int32 → Int32 → Int32 → ow_S → Option (Int32 × ow_S)
  | 0, _, _, _, _, _ => none
  | fn + 1, x1, x2, x3, x4, σ =>
    if x3 < x4 then (some ((σ.1 56 40), σ))
    else (L_X9_states_58 fu (L_X9_states_49 fu fn) fu x1 x2 x3 x4 (0 : Int32) σ)
def f_X9_states (fu : Nat) (a1 : Int32) (a2 : Int32) (a3 : Int32) (σ : ow_S) : Option (Int32 × ow_S) :=
    ow_cl (f_X9_isHead fu a1 σ) <| fun r_2 σ_2 =>
    if r_2 = 0 then (some ((-5 : Int32), σ_2))
    else (ow_cl (f_X9_in fu a2 (1 : Int32) (6 : Int32) σ_2) <| fun r_15 σ_15 =>
    if r_15 = 0 then (some ((-7 : Int32), σ_15))
    else (if (σ_15.1 56 0) < a2 then (some ((-7 : Int32), σ_15))
    else (ow_cl (f_X9_in fu a3 (0 : Int32) (3 : Int32) σ_15) <| fun r_32 σ_32 =>
    if r_32 = 0 then (some ((-7 : Int32), σ_32))
    else (ow_let (ow_sI σ_32 56 40 (0 : Int32)) <| fun σ_43 =>
    L_X9_states_49 fu fu a1 a2 a3 (0 : Int32) σ_43))))
def L_X9_laysWithout_45 (fu : Nat) (k7 : Int32 → Int32 → ow_S → Option (ow_S)) (x1 : Int32) (x2 : Int32) (σ : ow_S) : Option (ow_S) :=
    ow_let (x2 + (1 : Int32)) <| fun x2_45 =>
    k7 x1 x2_45 σ
def L_X9_laysWithout_7 (fu : Nat) : Nat → Int32 → Int32 → ow_S → Option (ow_S)
  | 0, _, _, _ => none
  | fn + 1, x1, x2, σ =>
    if (σ.1 56 2) ≤ x2 then (some σ)
    else (if x2 = x1 then (L_X9_laysWithout_45 fu (L_X9_laysWithout_7 fu fn) x1 x2 σ)
    else (ow_ck (ow_bd x2 60) <|
    ow_ck (ow_bd (σ.1 56 36) 60) <|
    ow_let (ow_sI σ 74 ((σ.1 56 36).toNatClampNeg) (σ.1 57 x2.toNatClampNeg)) <| fun σ_34 =>
    ow_let (ow_sI σ_34 56 36 ((σ_34.1 56 36) + (1 : Int32))) <| fun σ_42 =>
    L_X9_laysWithout_45 fu (L_X9_laysWithout_7 fu fn) x1 x2 σ_42))
def f_X9_laysWithout (fu : Nat) (a1 : Int32) (σ : ow_S) : Option (ow_S) :=
    ow_let (ow_sI σ 56 36 (0 : Int32)) <| fun σ_2 =>
    L_X9_laysWithout_7 fu fu a1 (0 : Int32) σ_2
def L_X9_drop_98 (fu : Nat) (k33 : Int32 → Int32 → Int32 → Int32 → Int32 → ow_S → Option (Int32 × ow_S)) (x1 : Int32) (x2 : Int32) (x3 : Int32) (x5 : Int32) (s0 : Int32) (σ : ow_S) : Option (Int32 × ow_S) :=
    ow_let (x5 + (1 : Int32)) <| fun x5_100 =>
    k33 x1 x2 x3 s0 x5_100 σ
def L_X9_drop_85 (fu : Nat) (k33 : Int32 → Int32 → Int32 → Int32 → Int32 → ow_S → Option (Int32 × ow_S)) (x1 : Int32) (x2 : Int32) (x4 : Int32) (x5 : Int32) (x6 : Int32) (x7 : Int32) (s0 : Int32) (σ : ow_S) : Option (Int32 × ow_S) :=
    if x7 = 0 then (L_X9_drop_98 fu k33 x1 x2 s0 x5 x4 σ)
    else (L_X9_drop_98 fu k33 x1 x2 s0 x5 x6 σ)
def L_X9_drop_72 (fu : Nat) (k33 : Int32 → Int32 → Int32 → Int32 → Int32 → ow_S → Option (Int32 × ow_S)) (x1 : Int32) (x2 : Int32) (x3 : Int32) (x4 : Int32) (x5 : Int32) (x6 : Int32) (s0 : Int32) (σ : ow_S) : Option (Int32 × ow_S) :=
    if s0 = 0 then (L_X9_drop_85 fu k33 x1 x2 x4 x5 x6 s0 x3 σ)
    else (L_X9_drop_85 fu k33 x1 x2 x4 x5 x6 s0 x5 σ)
def L_X9_drop_67 (fu : Nat) (k33 : Int32 → Int32 → Int32 → Int32 → Int32 → ow_S → Option (Int32 × ow_S)) (x1 : Int32) (x2 : Int32) (x3 : Int32) (x4 : Int32) (x5 : Int32) (x6 : Int32) (σ : ow_S) : Option (Int32 × ow_S) :=
    L_X9_drop_72 fu k33 x1 x2 x3 x4 x5 x6 (1 : Int32) σ
def L_X9_drop_33 (fu : Nat) : Nat → Int32 → Int32 → Int32 → Int32 → Int32 → ow_S → Option (Int32 × ow_S)
  | 0, _, _, _, _, _, _ => none
  | fn + 1, x1, x2, x3, x4, x5, σ =>
    if (σ.1 56 2) ≤ x5 then (if x2 = 0 then (some (x3, σ))
    else (some (x4, σ)))
    else (ow_cv (f_X9_laysWithout fu x5 σ) <| fun σ_45 =>
    ow_cl (f_X9_saysOf fu x1 σ_45) <| fun r_50 σ_50 =>
    if x3 = (-1 : Int32) then (L_X9_drop_67 fu (L_X9_drop_33 fu fn) x1 x2 x3 x4 x5 r_50 σ_50)
    else (if r_50 ≤ x4 then (L_X9_drop_72 fu (L_X9_drop_33 fu fn) x1 x2 x3 x4 x5 r_50 (0 : Int32) σ_50)
    else (L_X9_drop_67 fu (L_X9_drop_33 fu fn) x1 x2 x3 x4 x5 r_50 σ_50)))
def f_X9_drop (fu : Nat) (a1 : Int32) (a2 : Int32) (σ : ow_S) : Option (Int32 × ow_S) :=
    ow_cl (f_X9_isHead fu a1 σ) <| fun r_2 σ_2 =>
    if r_2 = 0 then (some ((-1000005 : Int32), σ_2))
    else (ow_cl (f_X9_in fu a2 (0 : Int32) (1 : Int32) σ_2) <| fun r_14 σ_14 =>
    if r_14 = 0 then (some ((-1000007 : Int32), σ_14))
    else (L_X9_drop_33 fu fu a1 a2 (-1 : Int32) (-1000000 : Int32) (0 : Int32) σ_14))
def L_X9_often_67 (fu : Nat) (k45 : Int32 → Int32 → Int32 → Int32 → Int32 → ow_S → Option (Int32 × ow_S)) (x1 : Int32) (x2 : Int32) (x3 : Int32) (x5 : Int32) (s0 : Int32) (s1 : Int32) (σ : ow_S) : Option (Int32 × ow_S) :=
    ow_let (s0 + s1) <| fun x4_68 =>
    ow_cv (f_X9_turnsOver fu (1 : Int32) σ) <| fun σ_72 =>
    ow_let (x5 + (1 : Int32)) <| fun x5_75 =>
    k45 x1 x2 x3 x4_68 x5_75 σ_72
def L_X9_often_45 (fu : Nat) : Nat → Int32 → Int32 → Int32 → Int32 → Int32 → ow_S → Option (Int32 × ow_S)
  | 0, _, _, _, _, _, _ => none
  | fn + 1, x1, x2, x3, x4, x5, σ =>
    if x2 ≤ x5 then (some (x4, σ))
    else (ow_cl (f_X9_saysOf fu x1 σ) <| fun r_55 σ_55 =>
    if r_55 = x3 then (L_X9_often_67 fu (L_X9_often_45 fu fn) x1 x2 x3 x5 x4 (1 : Int32) σ_55)
    else (L_X9_often_67 fu (L_X9_often_45 fu fn) x1 x2 x3 x5 x4 (0 : Int32) σ_55))
def f_X9_often (fu : Nat) (a1 : Int32) (a2 : Int32) (a3 : Int32) (σ : ow_S) : Option (Int32 × ow_S) :=
    ow_cl (f_X9_isHead fu a1 σ) <| fun r_2 σ_2 =>
    if r_2 = 0 then (some ((-5 : Int32), σ_2))
    else (ow_cl (f_X9_in fu a2 (1 : Int32) (20 : Int32) σ_2) <| fun r_15 σ_15 =>
    if r_15 = 0 then (some ((-7 : Int32), σ_15))
    else (ow_cl (f_X9_in fu a3 (-1000000 : Int32) (1000000 : Int32) σ_15) <| fun r_26 σ_26 =>
    if r_26 = 0 then (some ((-7 : Int32), σ_26))
    else (ow_cv (f_X9_laysRow fu σ_26) <| fun σ_39 =>
    L_X9_often_45 fu fu a1 a2 a3 (0 : Int32) (0 : Int32) σ_39)))
def L_X9_who_65 (fu : Nat) (k19 : Int32 → Int32 → Int32 → Int32 → ow_S → Option (Int32 × ow_S)) (x1 : Int32) (x2 : Int32) (x4 : Int32) (s0 : Int32) (σ : ow_S) : Option (Int32 × ow_S) :=
    ow_let (x4 + (1 : Int32)) <| fun x4_66 =>
    k19 x1 x2 s0 x4_66 σ
def L_X9_who_52 (fu : Nat) (k19 : Int32 → Int32 → Int32 → Int32 → ow_S → Option (Int32 × ow_S)) (x1 : Int32) (x3 : Int32) (x4 : Int32) (x5 : Int32) (s0 : Int32) (σ : ow_S) : Option (Int32 × ow_S) :=
    if x5 ≤ x3 then (L_X9_who_65 fu k19 x1 s0 x4 x3 σ)
    else (L_X9_who_65 fu k19 x1 s0 x4 x5 σ)
def L_X9_who_19 (fu : Nat) : Nat → Int32 → Int32 → Int32 → Int32 → ow_S → Option (Int32 × ow_S)
  | 0, _, _, _, _, _ => none
  | fn + 1, x1, x2, x3, x4, σ =>
    if (σ.1 56 3) ≤ x4 then (if x1 = 0 then (some (x2, σ))
    else (some (x3, σ)))
    else (ow_cl (f_X9_rightOf fu x4 (0 : Int32) σ) <| fun r_32 σ_32 =>
    ow_cl (f_X9_ones fu r_32 σ_32) <| fun r_35 σ_35 =>
    if r_35 ≤ x3 then (L_X9_who_52 fu (L_X9_who_19 fu fn) x1 x3 x4 r_35 x2 σ_35)
    else (L_X9_who_52 fu (L_X9_who_19 fu fn) x1 x3 x4 r_35 x4 σ_35))
def f_X9_who (fu : Nat) (a1 : Int32) (σ : ow_S) : Option (Int32 × ow_S) :=
    ow_cl (f_X9_in fu a1 (0 : Int32) (1 : Int32) σ) <| fun r_3 σ_3 =>
    if r_3 = 0 then (some ((-2 : Int32), σ_3))
    else (L_X9_who_19 fu fu a1 (-1 : Int32) (-1 : Int32) (0 : Int32) σ_3)
def f_X9_sheetWrong (fu : Nat) (a1 : Int32) (σ : ow_S) : Option (Int32 × ow_S) :=
    ow_cl (f_X9_in fu a1 (0 : Int32) (3 : Int32) σ) <| fun r_3 σ_3 =>
    if r_3 = 0 then (some ((-2 : Int32), σ_3))
    else (ow_ck (ow_bd a1 4) <|
    if (σ_3.1 66 a1.toNatClampNeg) = (-1 : Int32) then (some ((-11 : Int32), σ_3))
    else (ow_ck (ow_bd a1 4) <|
    if (σ_3.1 67 a1.toNatClampNeg) ≤ (σ_3.1 56 0) then (some ((0 : Int32), σ_3))
    else (some ((-2 : Int32), σ_3))))
def f_X9_toldWrong (fu : Nat) (a1 : Int32) (a2 : Int32) (σ : ow_S) : Option (Int32 × ow_S) :=
    ow_cl (f_X9_sheetWrong fu a1 σ) <| fun r_2 σ_2 =>
    if r_2 = 0 then (ow_cl (f_X9_isHead fu a2 σ_2) <| fun r_16 σ_16 =>
    if r_16 = 0 then (some ((-5 : Int32), σ_16))
    else (some ((0 : Int32), σ_16)))
    else (some (r_2, σ_2))
def L_X9_unlike_2 (fu : Nat) : Nat → Int32 → Int32 → Int32 → ow_S → Option (Int32 × ow_S)
  | 0, _, _, _, _ => none
  | fn + 1, x1, x2, x3, σ =>
    ow_ck (ow_bd x1 4) <|
    if (σ.1 67 x1.toNatClampNeg) ≤ x3 then (some ((-1 : Int32), σ))
    else (ow_cv (f_X9_laysBut fu (x3 + (1 : Int32)) (0 : Int32) σ) <| fun σ_17 =>
    ow_cl (f_X9_saysOf fu x2 σ_17) <| fun r_22 σ_22 =>
    ow_ck (ow_bd (((40 : Int32) * x1) + x3) 160) <|
    if r_22 = (σ_22.1 68 (((40 : Int32) * x1) + x3).toNatClampNeg) then (ow_let (x3 + (1 : Int32)) <| fun x3_41 =>
    (L_X9_unlike_2 fu fn) x1 x2 x3_41 σ_22)
    else (some (x3, σ_22)))
def f_X9_unlike (fu : Nat) (a1 : Int32) (a2 : Int32) (σ : ow_S) : Option (Int32 × ow_S) :=
    L_X9_unlike_2 fu fu a1 a2 (0 : Int32) σ
def f_X9_judge (fu : Nat) (a1 : Int32) (a2 : Int32) (σ : ow_S) : Option (Int32 × ow_S) :=
    ow_cl (f_X9_toldWrong fu a1 a2 σ) <| fun r_3 σ_3 =>
    if r_3 = 0 then (ow_cl (f_X9_unlike fu a1 a2 σ_3) <| fun r_14 σ_14 =>
    some (r_14, σ_14))
    else (some (r_3, σ_3))
def L_X9_kinds_170 (fu : Nat) (k69 : Int32 → Int32 → Int32 → Int32 → Int32 → Int32 → Int32 → Int32 → ow_S → Option (Int32 × ow_S)) (x1 : Int32) (x2 : Int32) (x3 : Int32) (x5 : Int32) (x6 : Int32) (x7 : Int32) (x9 : Int32) (s0 : Int32) (s1 : Int32) (σ : ow_S) : Option (Int32 × ow_S) :=
    ow_let (s0 ||| s1) <| fun x8_171 =>
    ow_let (x9 + (1 : Int32)) <| fun x9_173 =>
    k69 x1 x2 x3 x5 x6 x7 x8_171 x9_173 σ
def L_X9_kinds_149 (fu : Nat) (k69 : Int32 → Int32 → Int32 → Int32 → Int32 → Int32 → Int32 → Int32 → ow_S → Option (Int32 × ow_S)) (x1 : Int32) (x2 : Int32) (x3 : Int32) (x5 : Int32) (x6 : Int32) (x7 : Int32) (x8 : Int32) (x9 : Int32) (s1 : Int32) (s2 : Int32) (σ : ow_S) : Option (Int32 × ow_S) :=
    ow_ck (ow_bd s1 15) <|
    ow_let (ow_sI σ 60 s1.toNatClampNeg s2) <| fun σ_149 =>
    ow_cl (f_X9_unlike fu x1 x2 σ_149) <| fun r_155 σ_155 =>
    if r_155 = (-1 : Int32) then (L_X9_kinds_170 fu k69 x1 x2 x3 x5 x6 x7 x9 x8 ((1 : Int32) <<< (x9 &&& 31)) σ_155)
    else (L_X9_kinds_170 fu k69 x1 x2 x3 x5 x6 x7 x9 x8 (0 : Int32) σ_155)
def L_X9_kinds_129 (fu : Nat) (k69 : Int32 → Int32 → Int32 → Int32 → Int32 → Int32 → Int32 → Int32 → ow_S → Option (Int32 × ow_S)) (x1 : Int32) (x2 : Int32) (x3 : Int32) (x5 : Int32) (x6 : Int32) (x7 : Int32) (x8 : Int32) (x9 : Int32) (s1 : Int32) (s2 : Int32) (σ : ow_S) : Option (Int32 × ow_S) :=
    ow_ck (ow_bd s1 5) <|
    ow_let (ow_sI σ 59 s1.toNatClampNeg s2) <| fun σ_129 =>
    if x3 = (2 : Int32) then (L_X9_kinds_149 fu k69 x1 x2 x3 x5 x6 x7 x8 x9 ((3 : Int32) * x2) x9 σ_129)
    else (L_X9_kinds_149 fu k69 x1 x2 x3 x5 x6 x7 x8 x9 ((3 : Int32) * x2) x7 σ_129)
def L_X9_kinds_111 (fu : Nat) (k69 : Int32 → Int32 → Int32 → Int32 → Int32 → Int32 → Int32 → Int32 → ow_S → Option (Int32 × ow_S)) (x1 : Int32) (x2 : Int32) (x3 : Int32) (x5 : Int32) (x6 : Int32) (x7 : Int32) (x8 : Int32) (x9 : Int32) (s1 : Int32) (s2 : Int32) (σ : ow_S) : Option (Int32 × ow_S) :=
    ow_ck (ow_bd s1 5) <|
    ow_let (ow_sI σ 58 s1.toNatClampNeg s2) <| fun σ_111 =>
    if x3 = (1 : Int32) then (L_X9_kinds_129 fu k69 x1 x2 x3 x5 x6 x7 x8 x9 x2 x9 σ_111)
    else (L_X9_kinds_129 fu k69 x1 x2 x3 x5 x6 x7 x8 x9 x2 x6 σ_111)
def L_X9_kinds_92 (fu : Nat) (k69 : Int32 → Int32 → Int32 → Int32 → Int32 → Int32 → Int32 → Int32 → ow_S → Option (Int32 × ow_S)) (x1 : Int32) (x2 : Int32) (x3 : Int32) (x5 : Int32) (x6 : Int32) (x7 : Int32) (x8 : Int32) (x9 : Int32) (s0 : Int32) (s1 : Int32) (σ : ow_S) : Option (Int32 × ow_S) :=
    if s1 ≤ s0 then (ow_ck (ow_bd x2 5) <|
    ow_let (ow_sI σ 58 x2.toNatClampNeg x5) <| fun σ_186 =>
    ow_ck (ow_bd x2 5) <|
    ow_let (ow_sI σ_186 59 x2.toNatClampNeg x6) <| fun σ_194 =>
    ow_ck (ow_bd ((3 : Int32) * x2) 15) <|
    ow_let (ow_sI σ_194 60 (((3 : Int32) * x2).toNatClampNeg) x7) <| fun σ_204 =>
    some (x8, σ_204))
    else (if x3 = 0 then (L_X9_kinds_111 fu k69 x1 x2 x3 x5 x6 x7 x8 x9 x2 x9 σ)
    else (L_X9_kinds_111 fu k69 x1 x2 x3 x5 x6 x7 x8 x9 x2 x5 σ))
def L_X9_kinds_69 (fu : Nat) : Nat → Int32 → Int32 → Int32 → Int32 → Int32 → Int32 → Int32 → Int32 → ow_S → Option (Int32 × ow_S)
  | 0, _, _, _, _, _, _, _, _, _ => none
  | fn + 1, x1, x2, x3, x5, x6, x7, x8, x9, σ =>
    if x3 = 0 then (L_X9_kinds_92 fu (L_X9_kinds_69 fu fn) x1 x2 x3 x5 x6 x7 x8 x9 x9 (6 : Int32) σ)
    else (if x3 = (1 : Int32) then (L_X9_kinds_92 fu (L_X9_kinds_69 fu fn) x1 x2 x3 x5 x6 x7 x8 x9 x9 (10 : Int32) σ)
    else (L_X9_kinds_92 fu (L_X9_kinds_69 fu fn) x1 x2 x3 x5 x6 x7 x8 x9 x9 (17 : Int32) σ))
def L_X9_kinds_67 (fu : Nat) (x1 : Int32) (x2 : Int32) (x3 : Int32) (x5 : Int32) (x6 : Int32) (x7 : Int32) (x8 : Int32) (s0 : Int32) (σ : ow_S) : Option (Int32 × ow_S) :=
    L_X9_kinds_69 fu fu x1 x2 x3 x5 x6 x7 x8 s0 σ
def f_X9_kinds (fu : Nat) (a1 : Int32) (a2 : Int32) (a3 : Int32) (σ : ow_S) : Option (Int32 × ow_S) :=
    ow_cl (f_X9_toldWrong fu a1 a2 σ) <| fun r_3 σ_3 =>
    if r_3 = 0 then (ow_cl (f_X9_in fu a3 (0 : Int32) (2 : Int32) σ_3) <| fun r_19 σ_19 =>
    if r_19 = 0 then (some ((-7 : Int32), σ_19))
    else (ow_ck (ow_bd a2 5) <|
    ow_let (σ_19.1 58 a2.toNatClampNeg) <| fun x5_34 =>
    ow_ck (ow_bd a2 5) <|
    ow_let (σ_19.1 59 a2.toNatClampNeg) <| fun x6_42 =>
    ow_ck (ow_bd ((3 : Int32) * a2) 15) <|
    ow_let (σ_19.1 60 ((3 : Int32) * a2).toNatClampNeg) <| fun x7_52 =>
    if a3 = (2 : Int32) then (L_X9_kinds_67 fu a1 a2 a3 x5_34 x6_42 x7_52 (0 : Int32) (1 : Int32) σ_19)
    else (L_X9_kinds_67 fu a1 a2 a3 x5_34 x6_42 x7_52 (0 : Int32) (0 : Int32) σ_19)))
    else (some (r_3, σ_3))
def L_X9_begins_119 (fu : Nat) (k49 : Int32 → Int32 → Int32 → Int32 → Int32 → Int32 → Int32 → ow_S → Option (Int32 × ow_S)) (x1 : Int32) (x2 : Int32) (x3 : Int32) (x5 : Int32) (x6 : Int32) (x8 : Int32) (s0 : Int32) (σ : ow_S) : Option (Int32 × ow_S) :=
    ow_let (x8 + (1 : Int32)) <| fun x8_121 =>
    k49 x1 x2 x3 x5 x6 s0 x8_121 σ
def L_X9_begins_117 (fu : Nat) (k49 : Int32 → Int32 → Int32 → Int32 → Int32 → Int32 → Int32 → ow_S → Option (Int32 × ow_S)) (x1 : Int32) (x2 : Int32) (x3 : Int32) (x5 : Int32) (x6 : Int32) (x7 : Int32) (x8 : Int32) (σ : ow_S) : Option (Int32 × ow_S) :=
    L_X9_begins_119 fu k49 x1 x2 x3 x5 x6 x8 x7 σ
def L_X9_begins_98 (fu : Nat) (k49 : Int32 → Int32 → Int32 → Int32 → Int32 → Int32 → Int32 → ow_S → Option (Int32 × ow_S)) (x1 : Int32) (x2 : Int32) (x3 : Int32) (x5 : Int32) (x7 : Int32) (x8 : Int32) (x9 : Int32) (s0 : Int32) (s1 : Int32) (σ : ow_S) : Option (Int32 × ow_S) :=
    ow_let (s0 + s1) <| fun x6_99 =>
    if x9 = 0 then (L_X9_begins_117 fu k49 x1 x2 x3 x5 x6_99 x7 x8 σ)
    else (if x7 = (-1 : Int32) then (L_X9_begins_119 fu k49 x1 x2 x3 x5 x6_99 x8 x8 σ)
    else (L_X9_begins_117 fu k49 x1 x2 x3 x5 x6_99 x7 x8 σ))
def L_X9_begins_84 (fu : Nat) (k49 : Int32 → Int32 → Int32 → Int32 → Int32 → Int32 → Int32 → ow_S → Option (Int32 × ow_S)) (x1 : Int32) (x2 : Int32) (x3 : Int32) (x5 : Int32) (x6 : Int32) (x7 : Int32) (x8 : Int32) (s0 : Int32) (σ : ow_S) : Option (Int32 × ow_S) :=
    if s0 = 0 then (L_X9_begins_98 fu k49 x1 x2 x3 x5 x7 x8 s0 x6 (0 : Int32) σ)
    else (L_X9_begins_98 fu k49 x1 x2 x3 x5 x7 x8 s0 x6 (1 : Int32) σ)
def L_X9_begins_49 (fu : Nat) : Nat → Int32 → Int32 → Int32 → Int32 → Int32 → Int32 → Int32 → ow_S → Option (Int32 × ow_S)
  | 0, _, _, _, _, _, _, _, _ => none
  | fn + 1, x1, x2, x3, x5, x6, x7, x8, σ =>
    if (200 : Int32) < x8 then (ow_ck (ow_bd (((3 : Int32) * x2) + (1 : Int32)) 15) <|
    ow_let (ow_sI σ 60 ((((3 : Int32) * x2) + (1 : Int32)).toNatClampNeg) x5) <| fun σ_138 =>
    if x3 = 0 then (some (x6, σ_138))
    else (some (x7, σ_138)))
    else (ow_ck (ow_bd (((3 : Int32) * x2) + (1 : Int32)) 15) <|
    ow_let (ow_sI σ 60 ((((3 : Int32) * x2) + (1 : Int32)).toNatClampNeg) x8) <| fun σ_68 =>
    ow_cl (f_X9_unlike fu x1 x2 σ_68) <| fun r_72 σ_72 =>
    if r_72 = (-1 : Int32) then (L_X9_begins_84 fu (L_X9_begins_49 fu fn) x1 x2 x3 x5 x6 x7 x8 (1 : Int32) σ_72)
    else (L_X9_begins_84 fu (L_X9_begins_49 fu fn) x1 x2 x3 x5 x6 x7 x8 (0 : Int32) σ_72))
def f_X9_begins (fu : Nat) (a1 : Int32) (a2 : Int32) (a3 : Int32) (σ : ow_S) : Option (Int32 × ow_S) :=
    ow_cl (f_X9_toldWrong fu a1 a2 σ) <| fun r_3 σ_3 =>
    if r_3 = 0 then (ow_cl (f_X9_in fu a3 (0 : Int32) (1 : Int32) σ_3) <| fun r_19 σ_19 =>
    if r_19 = 0 then (some ((-7 : Int32), σ_19))
    else (ow_ck (ow_bd (((3 : Int32) * a2) + (1 : Int32)) 15) <|
    ow_let (σ_19.1 60 (((3 : Int32) * a2) + (1 : Int32)).toNatClampNeg) <| fun x5_38 =>
    L_X9_begins_49 fu fu a1 a2 a3 x5_38 (0 : Int32) (-1 : Int32) (0 : Int32) σ_19))
    else (some (r_3, σ_3))
def L_X9_laws_60 (fu : Nat) (k25 : Int32 → Int32 → Int32 → Int32 → Int32 → ow_S → Option (Int32 × ow_S)) (x1 : Int32) (x2 : Int32) (x4 : Int32) (x6 : Int32) (s0 : Int32) (s1 : Int32) (σ : ow_S) : Option (Int32 × ow_S) :=
    ow_let (s0 ||| s1) <| fun x5_61 =>
    ow_let (x6 + (1 : Int32)) <| fun x6_63 =>
    k25 x1 x2 x4 x5_61 x6_63 σ
def L_X9_laws_25 (fu : Nat) : Nat → Int32 → Int32 → Int32 → Int32 → Int32 → ow_S → Option (Int32 × ow_S)
  | 0, _, _, _, _, _, _ => none
  | fn + 1, x1, x2, x4, x5, x6, σ =>
    if (σ.1 56 11) ≤ x6 then (ow_let (ow_sI σ 56 12 x4) <| fun σ_72 =>
    some (x5, σ_72))
    else (ow_let (ow_sI σ 56 12 x6) <| fun σ_37 =>
    ow_cl (f_X9_unlike fu x1 x2 σ_37) <| fun r_45 σ_45 =>
    if r_45 = (-1 : Int32) then (L_X9_laws_60 fu (L_X9_laws_25 fu fn) x1 x2 x4 x6 x5 ((1 : Int32) <<< (x6 &&& 31)) σ_45)
    else (L_X9_laws_60 fu (L_X9_laws_25 fu fn) x1 x2 x4 x6 x5 (0 : Int32) σ_45))
def f_X9_laws (fu : Nat) (a1 : Int32) (a2 : Int32) (σ : ow_S) : Option (Int32 × ow_S) :=
    ow_cl (f_X9_toldWrong fu a1 a2 σ) <| fun r_3 σ_3 =>
    if r_3 = 0 then (ow_let (σ_3.1 56 12) <| fun x4_17 =>
    L_X9_laws_25 fu fu a1 a2 x4_17 (0 : Int32) (0 : Int32) σ_3)
    else (some (r_3, σ_3))
def L_X9_whose_46 (fu : Nat) (k17 : Int32 → Int32 → Int32 → ow_S → Option (Int32 × ow_S)) (x1 : Int32) (x4 : Int32) (s0 : Int32) (s1 : Int32) (σ : ow_S) : Option (Int32 × ow_S) :=
    ow_let (s0 ||| s1) <| fun x3_47 =>
    ow_let (x4 + (1 : Int32)) <| fun x4_48 =>
    k17 x1 x3_47 x4_48 σ
def L_X9_whose_17 (fu : Nat) : Nat → Int32 → Int32 → Int32 → ow_S → Option (Int32 × ow_S)
  | 0, _, _, _, _ => none
  | fn + 1, x1, x3, x4, σ =>
    if (σ.1 56 3) ≤ x4 then (some (x3, σ))
    else (ow_cl (f_X9_unlike fu x1 x4 σ) <| fun r_31 σ_31 =>
    if r_31 = (-1 : Int32) then (L_X9_whose_46 fu (L_X9_whose_17 fu fn) x1 x4 x3 ((1 : Int32) <<< (x4 &&& 31)) σ_31)
    else (L_X9_whose_46 fu (L_X9_whose_17 fu fn) x1 x4 x3 (0 : Int32) σ_31))
def f_X9_whose (fu : Nat) (a1 : Int32) (σ : ow_S) : Option (Int32 × ow_S) :=
    ow_cl (f_X9_sheetWrong fu a1 σ) <| fun r_2 σ_2 =>
    if r_2 = 0 then (L_X9_whose_17 fu fu a1 (0 : Int32) (0 : Int32) σ_2)
    else (some (r_2, σ_2))
def L_X9_film_93 (fu : Nat) (k61 : Int32 → Int32 → Int32 → Int32 → ow_S → Option (Int32 × ow_S)) (x1 : Int32) (x2 : Int32) (x3 : Int32) (x4 : Int32) (x5 : Int32) (σ : ow_S) : Option (Int32 × ow_S) :=
    ow_ck (ow_bd (((40 : Int32) * x1) + x4) 160) <|
    ow_let (ow_sI σ 68 ((((40 : Int32) * x1) + x4).toNatClampNeg) x5) <| fun σ_106 =>
    ow_let (x4 + (1 : Int32)) <| fun x4_107 =>
    k61 x1 x2 x3 x4_107 σ_106
def L_X9_film_61 (fu : Nat) : Nat → Int32 → Int32 → Int32 → Int32 → ow_S → Option (Int32 × ow_S)
  | 0, _, _, _, _, _ => none
  | fn + 1, x1, x2, x3, x4, σ =>
    if (40 : Int32) ≤ x4 then (some (x3, σ))
    else (if x3 ≤ x4 then (L_X9_film_93 fu (L_X9_film_61 fu fn) x1 x2 x3 x4 (0 : Int32) σ)
    else (ow_cv (f_X9_laysBut fu (x4 + (1 : Int32)) (0 : Int32) σ) <| fun σ_83 =>
    ow_cl (f_X9_saysOf fu x2 σ_83) <| fun r_88 σ_88 =>
    L_X9_film_93 fu (L_X9_film_61 fu fn) x1 x2 x3 x4 r_88 σ_88))
def f_X9_film (fu : Nat) (a1 : Int32) (a2 : Int32) (a3 : Int32) (σ : ow_S) : Option (Int32 × ow_S) :=
    ow_cl (f_X9_in fu a1 (0 : Int32) (3 : Int32) σ) <| fun r_3 σ_3 =>
    if r_3 = 0 then (some ((-2 : Int32), σ_3))
    else (ow_cl (f_X9_isHead fu a2 σ_3) <| fun r_14 σ_14 =>
    if r_14 = 0 then (some ((-5 : Int32), σ_14))
    else (ow_cl (f_X9_within fu (σ_14.1 56 0) (0 : Int32) (40 : Int32) σ_14) <| fun r_32 σ_32 =>
    ow_cl (f_X9_in fu a3 (0 : Int32) r_32 σ_32) <| fun r_35 σ_35 =>
    if r_35 = 0 then (some ((-7 : Int32), σ_35))
    else (ow_ck (ow_bd a1 4) <|
    ow_let (ow_sI σ_35 66 a1.toNatClampNeg (2 : Int32)) <| fun σ_50 =>
    ow_ck (ow_bd a1 4) <|
    ow_let (ow_sI σ_50 67 a1.toNatClampNeg a3) <| fun σ_57 =>
    L_X9_film_61 fu fu a1 a2 a3 (0 : Int32) σ_57)))
def L_X9_lots_40 (fu : Nat) : Nat → Int64 → Int32 → Int32 → ow_S → Option (Int32 × ow_S)
  | 0, _, _, _, _ => none
  | fn + 1, x2, x4, x5, σ =>
    if x5 ≤ 0 then (some (x4, σ))
    else (ow_let (ow_lrem (x2 * (48271 : Int64)) (2147483647 : Int64)) <| fun x2_54 =>
    ow_ck (¬ ((x5 + (1 : Int32)).toInt64) = 0) <|
    ow_let ((ow_lrem x2_54 ((x5 + (1 : Int32)).toInt64)).toInt32) <| fun x6_63 =>
    ow_ck (ow_bd x5 60) <|
    ow_let (σ.1 74 x5.toNatClampNeg) <| fun x7_72 =>
    ow_ck (ow_bd x6_63 60) <|
    ow_ck (ow_bd x5 60) <|
    ow_let (ow_sI σ 74 x5.toNatClampNeg (σ.1 74 x6_63.toNatClampNeg)) <| fun σ_87 =>
    ow_ck (ow_bd x6_63 60) <|
    ow_let (ow_sI σ_87 74 x6_63.toNatClampNeg x7_72) <| fun σ_96 =>
    ow_let (x5 + (-1 : Int32)) <| fun x5_97 =>
    (L_X9_lots_40 fu fn) x2_54 x4 x5_97 σ_96)
def f_X9_lots (fu : Nat) (a1 : Int32) (σ : ow_S) : Option (Int32 × ow_S) :=
    ow_let (ow_lrem (((a1.toInt64) + (1 : Int64)) * (48271 : Int64)) (2147483647 : Int64)) <| fun x2_12 =>
    ow_ck (¬ ((σ.1 56 0).toInt64) = 0) <|
    ow_let (((ow_lrem x2_12 ((σ.1 56 0).toInt64)).toInt32) + (1 : Int32)) <| fun x4_23 =>
    ow_cv (f_X9_laysBut fu x4_23 (0 : Int32) σ) <| fun σ_29 =>
    ow_let ((σ_29.1 56 36) - (1 : Int32)) <| fun x5_38 =>
    L_X9_lots_40 fu fu x2_12 x4_23 x5_38 σ_29
def f_X9_drawn (fu : Nat) (a1 : Int32) (a2 : Int32) (a3 : Int32) (σ : ow_S) : Option (Int32 × ow_S) :=
    ow_cl (f_X9_isHead fu a2 σ) <| fun r_2 σ_2 =>
    if r_2 = 0 then (some ((-1000005 : Int32), σ_2))
    else (ow_cl (f_X9_in fu a1 (0 : Int32) (99999 : Int32) σ_2) <| fun r_16 σ_16 =>
    if r_16 = 0 then (some ((-1000007 : Int32), σ_16))
    else (ow_cl (f_X9_in fu a3 (0 : Int32) (1 : Int32) σ_16) <| fun r_25 σ_25 =>
    if r_25 = 0 then (some ((-1000007 : Int32), σ_25))
    else (ow_cl (f_X9_lots fu a1 σ_25) <| fun r_37 σ_37 =>
    if a3 = 0 then (some (r_37, σ_37))
    else (ow_cl (f_X9_saysOf fu a2 σ_37) <| fun r_53 σ_53 =>
    some (r_53, σ_53)))))
def L_X9_lowest_16 (fu : Nat) : Nat → Int64 → Int64 → Int32 → Int64 → Int64 → ow_S → Option (Int64 × ow_S)
  | 0, _, _, _, _, _, _ => none
  | fn + 1, x0, x2, x4, x5, x7, σ =>
    if (lg_cmp x7 (0 : Int64)) = 0 then (if x4 = 0 then (ow_ck (¬ x5 = 0) <|
    some ((x0 / x5), σ))
    else (ow_ck (¬ x5 = 0) <|
    some ((x2 / x5), σ)))
    else (ow_ck (¬ x7 = 0) <|
    ow_let (ow_lrem x5 x7) <| fun x9_28 =>
    (L_X9_lowest_16 fu fn) x0 x2 x4 x7 x9_28 σ)
def f_X9_lowest (fu : Nat) (a1 : Int64) (a2 : Int64) (a3 : Int32) (σ : ow_S) : Option (Int64 × ow_S) :=
    if (lg_cmp a1 (0 : Int64)) = 0 then (some ((a3.toInt64), σ))
    else (L_X9_lowest_16 fu fu a1 a2 a3 a1 a2 σ)
def L_X9_odds_82 (fu : Nat) (k49 : Int32 → Int32 → Int32 → Int32 → Int64 → Int32 → ow_S → Option (Int64 × ow_S)) (x1 : Int32) (x2 : Int32) (x3 : Int32) (x4 : Int32) (x7 : Int32) (s0 : Int64) (s1 : Int64) (σ : ow_S) : Option (Int64 × ow_S) :=
    ow_let (s0 + s1) <| fun x5_83 =>
    ow_let (x7 + (1 : Int32)) <| fun x7_85 =>
    k49 x1 x2 x3 x4 x5_83 x7_85 σ
def L_X9_odds_49 (fu : Nat) : Nat → Int32 → Int32 → Int32 → Int32 → Int64 → Int32 → ow_S → Option (Int64 × ow_S)
  | 0, _, _, _, _, _, _, _ => none
  | fn + 1, x1, x2, x3, x4, x5, x7, σ =>
    if x2 ≤ x7 then (ow_cl (f_X9_lowest fu x5 (x2.toInt64) x4 σ) <| fun r_97 σ_97 =>
    some (r_97, σ_97))
    else (ow_cl (f_X9_lots fu (x1 + x7) σ) <| fun r_60 σ_60 =>
    ow_cl (f_X9_saysOf fu x3 σ_60) <| fun r_69 σ_69 =>
    if r_69 = r_60 then (L_X9_odds_82 fu (L_X9_odds_49 fu fn) x1 x2 x3 x4 x7 x5 (1 : Int64) σ_69)
    else (L_X9_odds_82 fu (L_X9_odds_49 fu fn) x1 x2 x3 x4 x7 x5 (0 : Int64) σ_69))
def f_X9_odds (fu : Nat) (a1 : Int32) (a2 : Int32) (a3 : Int32) (a4 : Int32) (σ : ow_S) : Option (Int64 × ow_S) :=
    ow_cl (f_X9_in fu a1 (0 : Int32) (99999 : Int32) σ) <| fun r_5 σ_5 =>
    if r_5 = 0 then (some ((-4611686018427387904 : Int64), σ_5))
    else (ow_cl (f_X9_in fu a2 (1 : Int32) (30 : Int32) σ_5) <| fun r_15 σ_15 =>
    if r_15 = 0 then (some ((-4611686018427387904 : Int64), σ_15))
    else (ow_cl (f_X9_isHead fu a3 σ_15) <| fun r_23 σ_23 =>
    if r_23 = 0 then (some ((-4611686018427387904 : Int64), σ_23))
    else (ow_cl (f_X9_in fu a4 (0 : Int32) (1 : Int32) σ_23) <| fun r_33 σ_33 =>
    if r_33 = 0 then (some ((-4611686018427387904 : Int64), σ_33))
    else (ow_let (0 : Int64) <| fun x5_44 =>
    L_X9_odds_49 fu fu a1 a2 a3 a4 x5_44 (0 : Int32) σ_33))))
def L_X9_image_65 (fu : Nat) : Nat → Int32 → ow_S → Option (Int32 × ow_S)
  | 0, _, _ => none
  | fn + 1, x1, σ =>
    if (15 : Int32) ≤ x1 then (some ((σ.1 56 3), σ))
    else (ow_ck (ow_bd x1 15) <|
    ow_ck (ow_bd x1 15) <|
    ow_let (ow_sI σ 65 x1.toNatClampNeg (σ.1 60 x1.toNatClampNeg)) <| fun σ_82 =>
    ow_let (x1 + (1 : Int32)) <| fun x1_83 =>
    (L_X9_image_65 fu fn) x1_83 σ_82)
def L_X9_image_39 (fu : Nat) : Nat → Int32 → ow_S → Option (Int32 × ow_S)
  | 0, _, _ => none
  | fn + 1, x1, σ =>
    if (60 : Int32) ≤ x1 then (L_X9_image_65 fu fu (0 : Int32) σ)
    else (ow_ck (ow_bd x1 60) <|
    ow_ck (ow_bd x1 60) <|
    ow_let (ow_sI σ 64 x1.toNatClampNeg (σ.1 57 x1.toNatClampNeg)) <| fun σ_56 =>
    ow_let (x1 + (1 : Int32)) <| fun x1_57 =>
    (L_X9_image_39 fu fn) x1_57 σ_56)
def f_X9_image (fu : Nat) (σ : ow_S) : Option (Int32 × ow_S) :=
    ow_let (ow_sI σ 56 13 (1 : Int32)) <| fun σ_2 =>
    ow_let (ow_sI σ_2 56 14 (σ_2.1 56 0)) <| fun σ_10 =>
    ow_let (ow_sI σ_10 56 15 (σ_10.1 56 2)) <| fun σ_18 =>
    ow_let (ow_sI σ_18 56 16 (σ_18.1 56 3)) <| fun σ_26 =>
    ow_let (ow_sI σ_26 56 17 (σ_26.1 56 12)) <| fun σ_34 =>
    L_X9_image_39 fu fu (0 : Int32) σ_34
def L_X9_back_70 (fu : Nat) : Nat → Int32 → ow_S → Option (Int32 × ow_S)
  | 0, _, _ => none
  | fn + 1, x1, σ =>
    if (15 : Int32) ≤ x1 then (some ((σ.1 56 3), σ))
    else (ow_ck (ow_bd x1 15) <|
    ow_ck (ow_bd x1 15) <|
    ow_let (ow_sI σ 60 x1.toNatClampNeg (σ.1 65 x1.toNatClampNeg)) <| fun σ_87 =>
    ow_let (x1 + (1 : Int32)) <| fun x1_88 =>
    (L_X9_back_70 fu fn) x1_88 σ_87)
def L_X9_back_44 (fu : Nat) : Nat → Int32 → ow_S → Option (Int32 × ow_S)
  | 0, _, _ => none
  | fn + 1, x1, σ =>
    if (60 : Int32) ≤ x1 then (L_X9_back_70 fu fu (0 : Int32) σ)
    else (ow_ck (ow_bd x1 60) <|
    ow_ck (ow_bd x1 60) <|
    ow_let (ow_sI σ 57 x1.toNatClampNeg (σ.1 64 x1.toNatClampNeg)) <| fun σ_61 =>
    ow_let (x1 + (1 : Int32)) <| fun x1_62 =>
    (L_X9_back_44 fu fn) x1_62 σ_61)
def f_X9_back (fu : Nat) (σ : ow_S) : Option (Int32 × ow_S) :=
    if (σ.1 56 13) = 0 then (some ((-3 : Int32), σ))
    else (ow_let (ow_sI σ 56 0 (σ.1 56 14)) <| fun σ_15 =>
    ow_let (ow_sI σ_15 56 2 (σ_15.1 56 15)) <| fun σ_23 =>
    ow_let (ow_sI σ_23 56 3 (σ_23.1 56 16)) <| fun σ_31 =>
    ow_let (ow_sI σ_31 56 12 (σ_31.1 56 17)) <| fun σ_39 =>
    L_X9_back_44 fu fu (0 : Int32) σ_39)
def L_X9_sheet_70 (fu : Nat) : Nat → Int32 → Int32 → ow_S → Option (Int32 × ow_S)
  | 0, _, _, _ => none
  | fn + 1, x1, x4, σ =>
    if (40 : Int32) ≤ x4 then (some ((1 : Int32), σ))
    else (ow_ck (ow_bd (((40 : Int32) * x1) + x4) 160) <|
    ow_let (ow_sI σ 68 ((((40 : Int32) * x1) + x4).toNatClampNeg) (0 : Int32)) <| fun σ_89 =>
    ow_let (x4 + (1 : Int32)) <| fun x4_90 =>
    (L_X9_sheet_70 fu fn) x1 x4_90 σ_89)
def L_X9_sheet_66 (fu : Nat) (x1 : Int32) (s1 : Int32) (s2 : Int32) (σ : ow_S) : Option (Int32 × ow_S) :=
    ow_ck (ow_bd s1 4) <|
    ow_let (ow_sI σ 67 s1.toNatClampNeg s2) <| fun σ_66 =>
    L_X9_sheet_70 fu fu x1 (0 : Int32) σ_66
def L_X9_sheet_44 (fu : Nat) (x1 : Int32) (x2 : Int32) (x3 : Int32) (σ : ow_S) : Option (Int32 × ow_S) :=
    ow_ck (ow_bd x1 4) <|
    ow_let (ow_sI σ 66 x1.toNatClampNeg x2) <| fun σ_50 =>
    if x2 = (-1 : Int32) then (L_X9_sheet_66 fu x1 x1 (0 : Int32) σ_50)
    else (L_X9_sheet_66 fu x1 x1 x3 σ_50)
def L_X9_sheet_32 (fu : Nat) (x1 : Int32) (x2 : Int32) (x3 : Int32) (σ : ow_S) : Option (Int32 × ow_S) :=
    if x2 = (-1 : Int32) then (L_X9_sheet_44 fu x1 x2 x3 σ)
    else (if 0 ≤ x3 then (L_X9_sheet_44 fu x1 x2 x3 σ)
    else (some ((-14 : Int32), σ)))
def f_X9_sheet (fu : Nat) (a1 : Int32) (a2 : Int32) (a3 : Int32) (σ : ow_S) : Option (Int32 × ow_S) :=
    ow_cl (f_X9_in fu a1 (0 : Int32) (3 : Int32) σ) <| fun r_3 σ_3 =>
    if r_3 = 0 then (some ((-2 : Int32), σ_3))
    else (ow_cl (f_X9_in fu a2 (-1 : Int32) (2 : Int32) σ_3) <| fun r_12 σ_12 =>
    if r_12 = 0 then (some ((-2 : Int32), σ_12))
    else (if a2 = (-1 : Int32) then (L_X9_sheet_32 fu a1 a2 a3 σ_12)
    else (if a3 ≤ (40 : Int32) then (L_X9_sheet_32 fu a1 a2 a3 σ_12)
    else (some ((-2 : Int32), σ_12)))))
def L_X9_cell_84 (fu : Nat) (s1 : Int32) (s2 : Int32) (σ : ow_S) : Option (Int32 × ow_S) :=
    ow_ck (ow_bd s1 160) <|
    ow_let (ow_sI σ 68 s1.toNatClampNeg s2) <| fun σ_84 =>
    some ((1 : Int32), σ_84)
def f_X9_cell (fu : Nat) (a1 : Int32) (a2 : Int32) (a3 : Int32) (σ : ow_S) : Option (Int32 × ow_S) :=
    ow_cl (f_X9_in fu a1 (0 : Int32) (3 : Int32) σ) <| fun r_3 σ_3 =>
    if r_3 = 0 then (some ((-2 : Int32), σ_3))
    else (ow_ck (ow_bd a1 4) <|
    if (σ_3.1 66 a1.toNatClampNeg) = (-1 : Int32) then (some ((-11 : Int32), σ_3))
    else (ow_ck (ow_bd a1 4) <|
    ow_cl (f_X9_in fu a2 (0 : Int32) ((σ_3.1 67 a1.toNatClampNeg) - (1 : Int32)) σ_3) <| fun r_35 σ_35 =>
    if r_35 = 0 then (some ((-12 : Int32), σ_35))
    else (ow_ck (ow_bd a1 4) <|
    if (σ_35.1 66 a1.toNatClampNeg) = 0 then (L_X9_cell_84 fu (((40 : Int32) * a1) + a2) (a3.toInt8.toInt32) σ_35)
    else (ow_ck (ow_bd a1 4) <|
    if (σ_35.1 66 a1.toNatClampNeg) = (1 : Int32) then (L_X9_cell_84 fu (((40 : Int32) * a1) + a2) (a3.toInt16.toInt32) σ_35)
    else (L_X9_cell_84 fu (((40 : Int32) * a1) + a2) a3 σ_35)))))
def L_X9_copy_173 (fu : Nat) (k147 : Int32 → Int32 → Int32 → Int32 → ow_S → Option (Int32 × ow_S)) (x5 : Int32) (x6 : Int32) (x7 : Int32) (x8 : Int32) (s0 : Int32) (σ : ow_S) : Option (Int32 × ow_S) :=
    ow_ck (ow_bd (x6 + s0) 160) <|
    ow_ck (ow_bd (x7 + s0) 160) <|
    ow_let (ow_sI σ 68 ((x7 + s0).toNatClampNeg) (σ.1 68 (x6 + s0).toNatClampNeg)) <| fun σ_194 =>
    ow_let (x8 + (1 : Int32)) <| fun x8_195 =>
    k147 x5 x6 x7 x8_195 σ_194
def L_X9_copy_147 (fu : Nat) : Nat → Int32 → Int32 → Int32 → Int32 → ow_S → Option (Int32 × ow_S)
  | 0, _, _, _, _, _ => none
  | fn + 1, x5, x6, x7, x8, σ =>
    if x5 ≤ x8 then (some (x5, σ))
    else (if x7 ≤ x6 then (L_X9_copy_173 fu (L_X9_copy_147 fu fn) x5 x6 x7 x8 x8 σ)
    else (L_X9_copy_173 fu (L_X9_copy_147 fu fn) x5 x6 x7 x8 ((x5 - (1 : Int32)) - x8) σ))
def f_X9_copy (fu : Nat) (a1 : Int32) (a2 : Int32) (a3 : Int32) (a4 : Int32) (a5 : Int32) (σ : ow_S) : Option (Int32 × ow_S) :=
    ow_cl (f_X9_in fu a1 (0 : Int32) (3 : Int32) σ) <| fun r_3 σ_3 =>
    if r_3 = 0 then (some ((-2 : Int32), σ_3))
    else (ow_cl (f_X9_in fu a3 (0 : Int32) (3 : Int32) σ_3) <| fun r_12 σ_12 =>
    if r_12 = 0 then (some ((-2 : Int32), σ_12))
    else (ow_ck (ow_bd a1 4) <|
    if (σ_12.1 66 a1.toNatClampNeg) = (-1 : Int32) then (some ((-11 : Int32), σ_12))
    else (ow_ck (ow_bd a3 4) <|
    if (σ_12.1 66 a3.toNatClampNeg) = (-1 : Int32) then (some ((-11 : Int32), σ_12))
    else (ow_ck (ow_bd a1 4) <|
    ow_ck (ow_bd a3 4) <|
    if (σ_12.1 66 a1.toNatClampNeg) = (σ_12.1 66 a3.toNatClampNeg) then (if a5 < 0 then (some ((-12 : Int32), σ_12))
    else (if a2 < 0 then (some ((-12 : Int32), σ_12))
    else (if a4 < 0 then (some ((-12 : Int32), σ_12))
    else (ow_ck (ow_bd a1 4) <|
    if (σ_12.1 67 a1.toNatClampNeg) < a2 then (some ((-12 : Int32), σ_12))
    else (ow_ck (ow_bd a3 4) <|
    if (σ_12.1 67 a3.toNatClampNeg) < a4 then (some ((-12 : Int32), σ_12))
    else (ow_ck (ow_bd a1 4) <|
    if ((σ_12.1 67 a1.toNatClampNeg) - a2) < a5 then (some ((-12 : Int32), σ_12))
    else (ow_ck (ow_bd a3 4) <|
    if a5 ≤ ((σ_12.1 67 a3.toNatClampNeg) - a4) then (ow_let (((40 : Int32) * a1) + a2) <| fun x6_133 =>
    ow_let (((40 : Int32) * a3) + a4) <| fun x7_142 =>
    L_X9_copy_147 fu fu a5 x6_133 x7_142 (0 : Int32) σ_12)
    else (some ((-12 : Int32), σ_12)))))))))
    else (some ((-13 : Int32), σ_12))))))
def L_X9_cardsBy_135 (fu : Nat) (k64 : Int32 → Int32 → Int32 → Int32 → Int32 → ow_S → Option (Int32 × ow_S)) (x1 : Int32) (x3 : Int32) (x4 : Int32) (x6 : Int32) (s0 : Int32) (s1 : Int32) (σ : ow_S) : Option (Int32 × ow_S) :=
    ow_let (s0 + s1) <| fun x5_136 =>
    ow_let (x6 + (1 : Int32)) <| fun x6_138 =>
    k64 x1 x3 x4 x5_136 x6_138 σ
def L_X9_cardsBy_64 (fu : Nat) : Nat → Int32 → Int32 → Int32 → Int32 → Int32 → ow_S → Option (Int32 × ow_S)
  | 0, _, _, _, _, _, _ => none
  | fn + 1, x1, x3, x4, x5, x6, σ =>
    if x4 ≤ x6 then (some (x5, σ))
    else (ow_let (x3 + ((1 : Int32) * x6)) <| fun x7_77 =>
    if x3 < 0 then (some ((-12 : Int32), σ))
    else (if x7_77 < x3 then (some ((-12 : Int32), σ))
    else (ow_ck (ow_bd x1 4) <|
    if x7_77 ≤ ((σ.1 67 x1.toNatClampNeg) - (1 : Int32)) then (ow_let (((40 : Int32) * x1) + x7_77) <| fun x8_112 =>
    ow_ck (ow_bd x8_112 160) <|
    ow_cl (f_X9_card fu (σ.1 68 x8_112.toNatClampNeg) σ) <| fun r_124 σ_124 =>
    if r_124 < 0 then (L_X9_cardsBy_135 fu (L_X9_cardsBy_64 fu fn) x1 x3 x4 x6 x5 (0 : Int32) σ_124)
    else (L_X9_cardsBy_135 fu (L_X9_cardsBy_64 fu fn) x1 x3 x4 x6 x5 (1 : Int32) σ_124))
    else (some ((-12 : Int32), σ)))))
def f_X9_cardsBy (fu : Nat) (a1 : Int32) (a2 : Int32) (a3 : Int32) (a4 : Int32) (σ : ow_S) : Option (Int32 × ow_S) :=
    ow_cl (f_X9_in fu a1 (0 : Int32) (3 : Int32) σ) <| fun r_3 σ_3 =>
    if r_3 = 0 then (some ((-2 : Int32), σ_3))
    else (ow_cl (f_X9_in fu a2 (0 : Int32) (2 : Int32) σ_3) <| fun r_12 σ_12 =>
    if r_12 = 0 then (some ((-2 : Int32), σ_12))
    else (ow_cl (f_X9_in fu a4 (0 : Int32) (40 : Int32) σ_12) <| fun r_23 σ_23 =>
    if r_23 = 0 then (some ((-2 : Int32), σ_23))
    else (ow_ck (ow_bd a1 4) <|
    if (σ_23.1 66 a1.toNatClampNeg) = (-1 : Int32) then (some ((-11 : Int32), σ_23))
    else (ow_ck (ow_bd a1 4) <|
    if (σ_23.1 66 a1.toNatClampNeg) = a2 then (L_X9_cardsBy_64 fu fu a1 a3 a4 (0 : Int32) (0 : Int32) σ_23)
    else (some ((-13 : Int32), σ_23))))))
def L_X9_isUnder_29 (fu : Nat) (σ : ow_S) : Option (Int32 × ow_S) :=
    some ((1 : Int32), σ)
def L_X9_isUnder_19 (fu : Nat) (x0 : Int32) (x1 : Int32) (σ : ow_S) : Option (Int32 × ow_S) :=
    if x1 = (2 : Int32) then (if x0 = (4 : Int32) then (L_X9_isUnder_29 fu σ)
    else (some ((0 : Int32), σ)))
    else (some ((0 : Int32), σ))
def f_X9_isUnder (fu : Nat) (a1 : Int32) (a2 : Int32) (σ : ow_S) : Option (Int32 × ow_S) :=
    if a2 = 0 then (L_X9_isUnder_29 fu σ)
    else (if a1 = a2 then (L_X9_isUnder_29 fu σ)
    else (if a2 = (1 : Int32) then (if a1 = (3 : Int32) then (L_X9_isUnder_29 fu σ)
    else (L_X9_isUnder_19 fu a1 a2 σ))
    else (L_X9_isUnder_19 fu a1 a2 σ)))
def f_X9_taken (fu : Nat) (a1 : Int32) (a2 : Int32) (σ : ow_S) : Option (Int32 × ow_S) :=
    ow_cl (f_X9_in fu a2 (0 : Int32) (6 : Int32) σ) <| fun r_4 σ_4 =>
    if r_4 = 0 then (some ((-2 : Int32), σ_4))
    else (ow_cl (f_X9_in fu a1 (0 : Int32) (64 : Int32) σ_4) <| fun r_17 σ_17 =>
    if r_17 = 0 then (some ((-12 : Int32), σ_17))
    else (if a1 < (5 : Int32) then (if a1 < (σ_17.1 56 3) then (if (6 : Int32) ≤ a2 then (some ((-13 : Int32), σ_17))
    else (ow_ck (ow_bd a1 5) <|
    ow_cl (f_X9_isUnder fu (σ_17.1 58 a1.toNatClampNeg) a2 σ_17) <| fun r_92 σ_92 =>
    if r_92 = 0 then (some ((-13 : Int32), σ_92))
    else (some (a1, σ_92))))
    else (some ((-11 : Int32), σ_17)))
    else (if (a1 - (5 : Int32)) < (σ_17.1 56 2) then (if a2 = (6 : Int32) then (ow_ck (ow_bd (a1 - (5 : Int32)) 60) <|
    some ((σ_17.1 57 (a1 - (5 : Int32)).toNatClampNeg), σ_17))
    else (some ((-13 : Int32), σ_17)))
    else (some ((-11 : Int32), σ_17)))))
