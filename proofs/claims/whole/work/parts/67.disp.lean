/-! the instructions, by their number -/
def xDisp (L : Nat) (σ : St) (ov xv yv zv : Int32) : Option St :=
  if ov.toInt = 0 then ((fMach_setNumber L σ xv zv).bind fun p160 => some p160) else (if ov.toInt = 1 then ((fMach_numberIn L σ yv).bind fun p171 => (fMach_numberIn L p171.2 zv).bind fun p177 => (fMach_setNumber L p177.2 xv (p171.1 + p177.1)).bind fun p181 => some p181) else (if ov.toInt = 2 then ((fMach_doNew L σ xv zv).bind fun p191 => some p191) else (if ov.toInt = 3 then ((fMach_doCopy L σ xv yv).bind fun p201 => some p201) else (if ov.toInt = 4 then ((fRoom_setRef L σ (σ.1 11) xv (-1)).bind fun p220 => some p220) else (if ov.toInt = 5 then ((fMach_doGet L σ xv yv zv).bind fun p232 => some p232) else (if ov.toInt = 6 then ((fMach_doPut L σ xv yv zv).bind fun p244 => some p244) else (if ov.toInt = 7 then ((fMach_doLoad L σ xv yv zv).bind fun p256 => some p256) else (if ov.toInt = 8 then ((fMach_doStore L σ xv yv zv).bind fun p268 => some p268) else (if ov.toInt = 9 then ((fMach_setPlace L σ zv).bind fun p277 => some p277) else (if ov.toInt = 10 then ((fMach_doZero L σ xv zv).bind fun p287 => some p287) else (if ov.toInt = 11 then ((fMach_doVoid L σ xv zv).bind fun p297 => some p297) else (if ov.toInt = 12 then ((fMach_doCall L σ xv yv zv).bind fun p309 => some p309) else (if ov.toInt = 13 then ((fMach_doReturn L σ xv yv).bind fun p319 => some p319) else (if ov.toInt = 14 then ((fMach_numberIn L σ xv).bind fun p328 => (fMach_raise L p328.2 p328.1).bind fun σ1 => some σ1) else (if ov.toInt = 15 then ((fMach_doShow L σ xv).bind fun σ9 => some σ9) else (some σ))))))))))))))))
def mDisp (τ : St) (ov xv yv zv : Int32) : Option St :=
  if ov < 5 then fMod_step_J118 τ ov xv yv zv else (if 8 < ov then fMod_step_J118 τ ov xv yv zv else fMod_access τ ov xv yv zv)
theorem oi0_0 : (nI 0).toInt = 0 := by decide
theorem oe0_0 : nI 0 = 0 := by decide
theorem oi0_1 : ¬ (nI 0).toInt = 1 := by decide
theorem oe0_1 : ¬ nI 0 = 1 := by decide
theorem oi0_2 : ¬ (nI 0).toInt = 2 := by decide
theorem oe0_2 : ¬ nI 0 = 2 := by decide
theorem oi0_3 : ¬ (nI 0).toInt = 3 := by decide
theorem oe0_3 : ¬ nI 0 = 3 := by decide
theorem oi0_4 : ¬ (nI 0).toInt = 4 := by decide
theorem oe0_4 : ¬ nI 0 = 4 := by decide
theorem oi0_5 : ¬ (nI 0).toInt = 5 := by decide
theorem oe0_5 : ¬ nI 0 = 5 := by decide
theorem oi0_6 : ¬ (nI 0).toInt = 6 := by decide
theorem oe0_6 : ¬ nI 0 = 6 := by decide
theorem oi0_7 : ¬ (nI 0).toInt = 7 := by decide
theorem oe0_7 : ¬ nI 0 = 7 := by decide
theorem oi0_8 : ¬ (nI 0).toInt = 8 := by decide
theorem oe0_8 : ¬ nI 0 = 8 := by decide
theorem oi0_9 : ¬ (nI 0).toInt = 9 := by decide
theorem oe0_9 : ¬ nI 0 = 9 := by decide
theorem oi0_10 : ¬ (nI 0).toInt = 10 := by decide
theorem oe0_10 : ¬ nI 0 = 10 := by decide
theorem oi0_11 : ¬ (nI 0).toInt = 11 := by decide
theorem oe0_11 : ¬ nI 0 = 11 := by decide
theorem oi0_12 : ¬ (nI 0).toInt = 12 := by decide
theorem oe0_12 : ¬ nI 0 = 12 := by decide
theorem oi0_13 : ¬ (nI 0).toInt = 13 := by decide
theorem oe0_13 : ¬ nI 0 = 13 := by decide
theorem oi0_14 : ¬ (nI 0).toInt = 14 := by decide
theorem oe0_14 : ¬ nI 0 = 14 := by decide
theorem oi0_15 : ¬ (nI 0).toInt = 15 := by decide
theorem oe0_15 : ¬ nI 0 = 15 := by decide
theorem oi1_0 : ¬ (nI 1).toInt = 0 := by decide
theorem oe1_0 : ¬ nI 1 = 0 := by decide
theorem oi1_1 : (nI 1).toInt = 1 := by decide
theorem oe1_1 : nI 1 = 1 := by decide
theorem oi1_2 : ¬ (nI 1).toInt = 2 := by decide
theorem oe1_2 : ¬ nI 1 = 2 := by decide
theorem oi1_3 : ¬ (nI 1).toInt = 3 := by decide
theorem oe1_3 : ¬ nI 1 = 3 := by decide
theorem oi1_4 : ¬ (nI 1).toInt = 4 := by decide
theorem oe1_4 : ¬ nI 1 = 4 := by decide
theorem oi1_5 : ¬ (nI 1).toInt = 5 := by decide
theorem oe1_5 : ¬ nI 1 = 5 := by decide
theorem oi1_6 : ¬ (nI 1).toInt = 6 := by decide
theorem oe1_6 : ¬ nI 1 = 6 := by decide
theorem oi1_7 : ¬ (nI 1).toInt = 7 := by decide
theorem oe1_7 : ¬ nI 1 = 7 := by decide
theorem oi1_8 : ¬ (nI 1).toInt = 8 := by decide
theorem oe1_8 : ¬ nI 1 = 8 := by decide
theorem oi1_9 : ¬ (nI 1).toInt = 9 := by decide
theorem oe1_9 : ¬ nI 1 = 9 := by decide
theorem oi1_10 : ¬ (nI 1).toInt = 10 := by decide
theorem oe1_10 : ¬ nI 1 = 10 := by decide
theorem oi1_11 : ¬ (nI 1).toInt = 11 := by decide
theorem oe1_11 : ¬ nI 1 = 11 := by decide
theorem oi1_12 : ¬ (nI 1).toInt = 12 := by decide
theorem oe1_12 : ¬ nI 1 = 12 := by decide
theorem oi1_13 : ¬ (nI 1).toInt = 13 := by decide
theorem oe1_13 : ¬ nI 1 = 13 := by decide
theorem oi1_14 : ¬ (nI 1).toInt = 14 := by decide
theorem oe1_14 : ¬ nI 1 = 14 := by decide
theorem oi1_15 : ¬ (nI 1).toInt = 15 := by decide
theorem oe1_15 : ¬ nI 1 = 15 := by decide
theorem oi2_0 : ¬ (nI 2).toInt = 0 := by decide
theorem oe2_0 : ¬ nI 2 = 0 := by decide
theorem oi2_1 : ¬ (nI 2).toInt = 1 := by decide
theorem oe2_1 : ¬ nI 2 = 1 := by decide
theorem oi2_2 : (nI 2).toInt = 2 := by decide
theorem oe2_2 : nI 2 = 2 := by decide
theorem oi2_3 : ¬ (nI 2).toInt = 3 := by decide
theorem oe2_3 : ¬ nI 2 = 3 := by decide
theorem oi2_4 : ¬ (nI 2).toInt = 4 := by decide
theorem oe2_4 : ¬ nI 2 = 4 := by decide
theorem oi2_5 : ¬ (nI 2).toInt = 5 := by decide
theorem oe2_5 : ¬ nI 2 = 5 := by decide
theorem oi2_6 : ¬ (nI 2).toInt = 6 := by decide
theorem oe2_6 : ¬ nI 2 = 6 := by decide
theorem oi2_7 : ¬ (nI 2).toInt = 7 := by decide
theorem oe2_7 : ¬ nI 2 = 7 := by decide
theorem oi2_8 : ¬ (nI 2).toInt = 8 := by decide
theorem oe2_8 : ¬ nI 2 = 8 := by decide
theorem oi2_9 : ¬ (nI 2).toInt = 9 := by decide
theorem oe2_9 : ¬ nI 2 = 9 := by decide
theorem oi2_10 : ¬ (nI 2).toInt = 10 := by decide
theorem oe2_10 : ¬ nI 2 = 10 := by decide
theorem oi2_11 : ¬ (nI 2).toInt = 11 := by decide
theorem oe2_11 : ¬ nI 2 = 11 := by decide
theorem oi2_12 : ¬ (nI 2).toInt = 12 := by decide
theorem oe2_12 : ¬ nI 2 = 12 := by decide
theorem oi2_13 : ¬ (nI 2).toInt = 13 := by decide
theorem oe2_13 : ¬ nI 2 = 13 := by decide
theorem oi2_14 : ¬ (nI 2).toInt = 14 := by decide
theorem oe2_14 : ¬ nI 2 = 14 := by decide
theorem oi2_15 : ¬ (nI 2).toInt = 15 := by decide
theorem oe2_15 : ¬ nI 2 = 15 := by decide
theorem oi3_0 : ¬ (nI 3).toInt = 0 := by decide
theorem oe3_0 : ¬ nI 3 = 0 := by decide
theorem oi3_1 : ¬ (nI 3).toInt = 1 := by decide
theorem oe3_1 : ¬ nI 3 = 1 := by decide
theorem oi3_2 : ¬ (nI 3).toInt = 2 := by decide
theorem oe3_2 : ¬ nI 3 = 2 := by decide
theorem oi3_3 : (nI 3).toInt = 3 := by decide
theorem oe3_3 : nI 3 = 3 := by decide
theorem oi3_4 : ¬ (nI 3).toInt = 4 := by decide
theorem oe3_4 : ¬ nI 3 = 4 := by decide
theorem oi3_5 : ¬ (nI 3).toInt = 5 := by decide
theorem oe3_5 : ¬ nI 3 = 5 := by decide
theorem oi3_6 : ¬ (nI 3).toInt = 6 := by decide
theorem oe3_6 : ¬ nI 3 = 6 := by decide
theorem oi3_7 : ¬ (nI 3).toInt = 7 := by decide
theorem oe3_7 : ¬ nI 3 = 7 := by decide
theorem oi3_8 : ¬ (nI 3).toInt = 8 := by decide
theorem oe3_8 : ¬ nI 3 = 8 := by decide
theorem oi3_9 : ¬ (nI 3).toInt = 9 := by decide
theorem oe3_9 : ¬ nI 3 = 9 := by decide
theorem oi3_10 : ¬ (nI 3).toInt = 10 := by decide
theorem oe3_10 : ¬ nI 3 = 10 := by decide
theorem oi3_11 : ¬ (nI 3).toInt = 11 := by decide
theorem oe3_11 : ¬ nI 3 = 11 := by decide
theorem oi3_12 : ¬ (nI 3).toInt = 12 := by decide
theorem oe3_12 : ¬ nI 3 = 12 := by decide
theorem oi3_13 : ¬ (nI 3).toInt = 13 := by decide
theorem oe3_13 : ¬ nI 3 = 13 := by decide
theorem oi3_14 : ¬ (nI 3).toInt = 14 := by decide
theorem oe3_14 : ¬ nI 3 = 14 := by decide
theorem oi3_15 : ¬ (nI 3).toInt = 15 := by decide
theorem oe3_15 : ¬ nI 3 = 15 := by decide
theorem oi4_0 : ¬ (nI 4).toInt = 0 := by decide
theorem oe4_0 : ¬ nI 4 = 0 := by decide
theorem oi4_1 : ¬ (nI 4).toInt = 1 := by decide
theorem oe4_1 : ¬ nI 4 = 1 := by decide
theorem oi4_2 : ¬ (nI 4).toInt = 2 := by decide
theorem oe4_2 : ¬ nI 4 = 2 := by decide
theorem oi4_3 : ¬ (nI 4).toInt = 3 := by decide
theorem oe4_3 : ¬ nI 4 = 3 := by decide
theorem oi4_4 : (nI 4).toInt = 4 := by decide
theorem oe4_4 : nI 4 = 4 := by decide
theorem oi4_5 : ¬ (nI 4).toInt = 5 := by decide
theorem oe4_5 : ¬ nI 4 = 5 := by decide
theorem oi4_6 : ¬ (nI 4).toInt = 6 := by decide
theorem oe4_6 : ¬ nI 4 = 6 := by decide
theorem oi4_7 : ¬ (nI 4).toInt = 7 := by decide
theorem oe4_7 : ¬ nI 4 = 7 := by decide
theorem oi4_8 : ¬ (nI 4).toInt = 8 := by decide
theorem oe4_8 : ¬ nI 4 = 8 := by decide
theorem oi4_9 : ¬ (nI 4).toInt = 9 := by decide
theorem oe4_9 : ¬ nI 4 = 9 := by decide
theorem oi4_10 : ¬ (nI 4).toInt = 10 := by decide
theorem oe4_10 : ¬ nI 4 = 10 := by decide
theorem oi4_11 : ¬ (nI 4).toInt = 11 := by decide
theorem oe4_11 : ¬ nI 4 = 11 := by decide
theorem oi4_12 : ¬ (nI 4).toInt = 12 := by decide
theorem oe4_12 : ¬ nI 4 = 12 := by decide
theorem oi4_13 : ¬ (nI 4).toInt = 13 := by decide
theorem oe4_13 : ¬ nI 4 = 13 := by decide
theorem oi4_14 : ¬ (nI 4).toInt = 14 := by decide
theorem oe4_14 : ¬ nI 4 = 14 := by decide
theorem oi4_15 : ¬ (nI 4).toInt = 15 := by decide
theorem oe4_15 : ¬ nI 4 = 15 := by decide
theorem oi5_0 : ¬ (nI 5).toInt = 0 := by decide
theorem oe5_0 : ¬ nI 5 = 0 := by decide
theorem oi5_1 : ¬ (nI 5).toInt = 1 := by decide
theorem oe5_1 : ¬ nI 5 = 1 := by decide
theorem oi5_2 : ¬ (nI 5).toInt = 2 := by decide
theorem oe5_2 : ¬ nI 5 = 2 := by decide
theorem oi5_3 : ¬ (nI 5).toInt = 3 := by decide
theorem oe5_3 : ¬ nI 5 = 3 := by decide
theorem oi5_4 : ¬ (nI 5).toInt = 4 := by decide
theorem oe5_4 : ¬ nI 5 = 4 := by decide
theorem oi5_5 : (nI 5).toInt = 5 := by decide
theorem oe5_5 : nI 5 = 5 := by decide
theorem oi5_6 : ¬ (nI 5).toInt = 6 := by decide
theorem oe5_6 : ¬ nI 5 = 6 := by decide
theorem oi5_7 : ¬ (nI 5).toInt = 7 := by decide
theorem oe5_7 : ¬ nI 5 = 7 := by decide
theorem oi5_8 : ¬ (nI 5).toInt = 8 := by decide
theorem oe5_8 : ¬ nI 5 = 8 := by decide
theorem oi5_9 : ¬ (nI 5).toInt = 9 := by decide
theorem oe5_9 : ¬ nI 5 = 9 := by decide
theorem oi5_10 : ¬ (nI 5).toInt = 10 := by decide
theorem oe5_10 : ¬ nI 5 = 10 := by decide
theorem oi5_11 : ¬ (nI 5).toInt = 11 := by decide
theorem oe5_11 : ¬ nI 5 = 11 := by decide
theorem oi5_12 : ¬ (nI 5).toInt = 12 := by decide
theorem oe5_12 : ¬ nI 5 = 12 := by decide
theorem oi5_13 : ¬ (nI 5).toInt = 13 := by decide
theorem oe5_13 : ¬ nI 5 = 13 := by decide
theorem oi5_14 : ¬ (nI 5).toInt = 14 := by decide
theorem oe5_14 : ¬ nI 5 = 14 := by decide
theorem oi5_15 : ¬ (nI 5).toInt = 15 := by decide
theorem oe5_15 : ¬ nI 5 = 15 := by decide
theorem oi6_0 : ¬ (nI 6).toInt = 0 := by decide
theorem oe6_0 : ¬ nI 6 = 0 := by decide
theorem oi6_1 : ¬ (nI 6).toInt = 1 := by decide
theorem oe6_1 : ¬ nI 6 = 1 := by decide
theorem oi6_2 : ¬ (nI 6).toInt = 2 := by decide
theorem oe6_2 : ¬ nI 6 = 2 := by decide
theorem oi6_3 : ¬ (nI 6).toInt = 3 := by decide
theorem oe6_3 : ¬ nI 6 = 3 := by decide
theorem oi6_4 : ¬ (nI 6).toInt = 4 := by decide
theorem oe6_4 : ¬ nI 6 = 4 := by decide
theorem oi6_5 : ¬ (nI 6).toInt = 5 := by decide
theorem oe6_5 : ¬ nI 6 = 5 := by decide
theorem oi6_6 : (nI 6).toInt = 6 := by decide
theorem oe6_6 : nI 6 = 6 := by decide
theorem oi6_7 : ¬ (nI 6).toInt = 7 := by decide
theorem oe6_7 : ¬ nI 6 = 7 := by decide
theorem oi6_8 : ¬ (nI 6).toInt = 8 := by decide
theorem oe6_8 : ¬ nI 6 = 8 := by decide
theorem oi6_9 : ¬ (nI 6).toInt = 9 := by decide
theorem oe6_9 : ¬ nI 6 = 9 := by decide
theorem oi6_10 : ¬ (nI 6).toInt = 10 := by decide
theorem oe6_10 : ¬ nI 6 = 10 := by decide
theorem oi6_11 : ¬ (nI 6).toInt = 11 := by decide
theorem oe6_11 : ¬ nI 6 = 11 := by decide
theorem oi6_12 : ¬ (nI 6).toInt = 12 := by decide
theorem oe6_12 : ¬ nI 6 = 12 := by decide
theorem oi6_13 : ¬ (nI 6).toInt = 13 := by decide
theorem oe6_13 : ¬ nI 6 = 13 := by decide
theorem oi6_14 : ¬ (nI 6).toInt = 14 := by decide
theorem oe6_14 : ¬ nI 6 = 14 := by decide
theorem oi6_15 : ¬ (nI 6).toInt = 15 := by decide
theorem oe6_15 : ¬ nI 6 = 15 := by decide
theorem oi7_0 : ¬ (nI 7).toInt = 0 := by decide
theorem oe7_0 : ¬ nI 7 = 0 := by decide
theorem oi7_1 : ¬ (nI 7).toInt = 1 := by decide
theorem oe7_1 : ¬ nI 7 = 1 := by decide
theorem oi7_2 : ¬ (nI 7).toInt = 2 := by decide
theorem oe7_2 : ¬ nI 7 = 2 := by decide
theorem oi7_3 : ¬ (nI 7).toInt = 3 := by decide
theorem oe7_3 : ¬ nI 7 = 3 := by decide
theorem oi7_4 : ¬ (nI 7).toInt = 4 := by decide
theorem oe7_4 : ¬ nI 7 = 4 := by decide
theorem oi7_5 : ¬ (nI 7).toInt = 5 := by decide
theorem oe7_5 : ¬ nI 7 = 5 := by decide
theorem oi7_6 : ¬ (nI 7).toInt = 6 := by decide
theorem oe7_6 : ¬ nI 7 = 6 := by decide
theorem oi7_7 : (nI 7).toInt = 7 := by decide
theorem oe7_7 : nI 7 = 7 := by decide
theorem oi7_8 : ¬ (nI 7).toInt = 8 := by decide
theorem oe7_8 : ¬ nI 7 = 8 := by decide
theorem oi7_9 : ¬ (nI 7).toInt = 9 := by decide
theorem oe7_9 : ¬ nI 7 = 9 := by decide
theorem oi7_10 : ¬ (nI 7).toInt = 10 := by decide
theorem oe7_10 : ¬ nI 7 = 10 := by decide
theorem oi7_11 : ¬ (nI 7).toInt = 11 := by decide
theorem oe7_11 : ¬ nI 7 = 11 := by decide
theorem oi7_12 : ¬ (nI 7).toInt = 12 := by decide
theorem oe7_12 : ¬ nI 7 = 12 := by decide
theorem oi7_13 : ¬ (nI 7).toInt = 13 := by decide
theorem oe7_13 : ¬ nI 7 = 13 := by decide
theorem oi7_14 : ¬ (nI 7).toInt = 14 := by decide
theorem oe7_14 : ¬ nI 7 = 14 := by decide
theorem oi7_15 : ¬ (nI 7).toInt = 15 := by decide
theorem oe7_15 : ¬ nI 7 = 15 := by decide
theorem oi8_0 : ¬ (nI 8).toInt = 0 := by decide
theorem oe8_0 : ¬ nI 8 = 0 := by decide
theorem oi8_1 : ¬ (nI 8).toInt = 1 := by decide
theorem oe8_1 : ¬ nI 8 = 1 := by decide
theorem oi8_2 : ¬ (nI 8).toInt = 2 := by decide
theorem oe8_2 : ¬ nI 8 = 2 := by decide
theorem oi8_3 : ¬ (nI 8).toInt = 3 := by decide
theorem oe8_3 : ¬ nI 8 = 3 := by decide
theorem oi8_4 : ¬ (nI 8).toInt = 4 := by decide
theorem oe8_4 : ¬ nI 8 = 4 := by decide
theorem oi8_5 : ¬ (nI 8).toInt = 5 := by decide
theorem oe8_5 : ¬ nI 8 = 5 := by decide
theorem oi8_6 : ¬ (nI 8).toInt = 6 := by decide
theorem oe8_6 : ¬ nI 8 = 6 := by decide
theorem oi8_7 : ¬ (nI 8).toInt = 7 := by decide
theorem oe8_7 : ¬ nI 8 = 7 := by decide
theorem oi8_8 : (nI 8).toInt = 8 := by decide
theorem oe8_8 : nI 8 = 8 := by decide
theorem oi8_9 : ¬ (nI 8).toInt = 9 := by decide
theorem oe8_9 : ¬ nI 8 = 9 := by decide
theorem oi8_10 : ¬ (nI 8).toInt = 10 := by decide
theorem oe8_10 : ¬ nI 8 = 10 := by decide
theorem oi8_11 : ¬ (nI 8).toInt = 11 := by decide
theorem oe8_11 : ¬ nI 8 = 11 := by decide
theorem oi8_12 : ¬ (nI 8).toInt = 12 := by decide
theorem oe8_12 : ¬ nI 8 = 12 := by decide
theorem oi8_13 : ¬ (nI 8).toInt = 13 := by decide
theorem oe8_13 : ¬ nI 8 = 13 := by decide
theorem oi8_14 : ¬ (nI 8).toInt = 14 := by decide
theorem oe8_14 : ¬ nI 8 = 14 := by decide
theorem oi8_15 : ¬ (nI 8).toInt = 15 := by decide
theorem oe8_15 : ¬ nI 8 = 15 := by decide
theorem oi9_0 : ¬ (nI 9).toInt = 0 := by decide
theorem oe9_0 : ¬ nI 9 = 0 := by decide
theorem oi9_1 : ¬ (nI 9).toInt = 1 := by decide
theorem oe9_1 : ¬ nI 9 = 1 := by decide
theorem oi9_2 : ¬ (nI 9).toInt = 2 := by decide
theorem oe9_2 : ¬ nI 9 = 2 := by decide
theorem oi9_3 : ¬ (nI 9).toInt = 3 := by decide
theorem oe9_3 : ¬ nI 9 = 3 := by decide
theorem oi9_4 : ¬ (nI 9).toInt = 4 := by decide
theorem oe9_4 : ¬ nI 9 = 4 := by decide
theorem oi9_5 : ¬ (nI 9).toInt = 5 := by decide
theorem oe9_5 : ¬ nI 9 = 5 := by decide
theorem oi9_6 : ¬ (nI 9).toInt = 6 := by decide
theorem oe9_6 : ¬ nI 9 = 6 := by decide
theorem oi9_7 : ¬ (nI 9).toInt = 7 := by decide
theorem oe9_7 : ¬ nI 9 = 7 := by decide
theorem oi9_8 : ¬ (nI 9).toInt = 8 := by decide
theorem oe9_8 : ¬ nI 9 = 8 := by decide
theorem oi9_9 : (nI 9).toInt = 9 := by decide
theorem oe9_9 : nI 9 = 9 := by decide
theorem oi9_10 : ¬ (nI 9).toInt = 10 := by decide
theorem oe9_10 : ¬ nI 9 = 10 := by decide
theorem oi9_11 : ¬ (nI 9).toInt = 11 := by decide
theorem oe9_11 : ¬ nI 9 = 11 := by decide
theorem oi9_12 : ¬ (nI 9).toInt = 12 := by decide
theorem oe9_12 : ¬ nI 9 = 12 := by decide
theorem oi9_13 : ¬ (nI 9).toInt = 13 := by decide
theorem oe9_13 : ¬ nI 9 = 13 := by decide
theorem oi9_14 : ¬ (nI 9).toInt = 14 := by decide
theorem oe9_14 : ¬ nI 9 = 14 := by decide
theorem oi9_15 : ¬ (nI 9).toInt = 15 := by decide
theorem oe9_15 : ¬ nI 9 = 15 := by decide
theorem oi10_0 : ¬ (nI 10).toInt = 0 := by decide
theorem oe10_0 : ¬ nI 10 = 0 := by decide
theorem oi10_1 : ¬ (nI 10).toInt = 1 := by decide
theorem oe10_1 : ¬ nI 10 = 1 := by decide
theorem oi10_2 : ¬ (nI 10).toInt = 2 := by decide
theorem oe10_2 : ¬ nI 10 = 2 := by decide
theorem oi10_3 : ¬ (nI 10).toInt = 3 := by decide
theorem oe10_3 : ¬ nI 10 = 3 := by decide
theorem oi10_4 : ¬ (nI 10).toInt = 4 := by decide
theorem oe10_4 : ¬ nI 10 = 4 := by decide
theorem oi10_5 : ¬ (nI 10).toInt = 5 := by decide
theorem oe10_5 : ¬ nI 10 = 5 := by decide
theorem oi10_6 : ¬ (nI 10).toInt = 6 := by decide
theorem oe10_6 : ¬ nI 10 = 6 := by decide
theorem oi10_7 : ¬ (nI 10).toInt = 7 := by decide
theorem oe10_7 : ¬ nI 10 = 7 := by decide
theorem oi10_8 : ¬ (nI 10).toInt = 8 := by decide
theorem oe10_8 : ¬ nI 10 = 8 := by decide
theorem oi10_9 : ¬ (nI 10).toInt = 9 := by decide
theorem oe10_9 : ¬ nI 10 = 9 := by decide
theorem oi10_10 : (nI 10).toInt = 10 := by decide
theorem oe10_10 : nI 10 = 10 := by decide
theorem oi10_11 : ¬ (nI 10).toInt = 11 := by decide
theorem oe10_11 : ¬ nI 10 = 11 := by decide
theorem oi10_12 : ¬ (nI 10).toInt = 12 := by decide
theorem oe10_12 : ¬ nI 10 = 12 := by decide
theorem oi10_13 : ¬ (nI 10).toInt = 13 := by decide
theorem oe10_13 : ¬ nI 10 = 13 := by decide
theorem oi10_14 : ¬ (nI 10).toInt = 14 := by decide
theorem oe10_14 : ¬ nI 10 = 14 := by decide
theorem oi10_15 : ¬ (nI 10).toInt = 15 := by decide
theorem oe10_15 : ¬ nI 10 = 15 := by decide
theorem oi11_0 : ¬ (nI 11).toInt = 0 := by decide
theorem oe11_0 : ¬ nI 11 = 0 := by decide
theorem oi11_1 : ¬ (nI 11).toInt = 1 := by decide
theorem oe11_1 : ¬ nI 11 = 1 := by decide
theorem oi11_2 : ¬ (nI 11).toInt = 2 := by decide
theorem oe11_2 : ¬ nI 11 = 2 := by decide
theorem oi11_3 : ¬ (nI 11).toInt = 3 := by decide
theorem oe11_3 : ¬ nI 11 = 3 := by decide
theorem oi11_4 : ¬ (nI 11).toInt = 4 := by decide
theorem oe11_4 : ¬ nI 11 = 4 := by decide
theorem oi11_5 : ¬ (nI 11).toInt = 5 := by decide
theorem oe11_5 : ¬ nI 11 = 5 := by decide
theorem oi11_6 : ¬ (nI 11).toInt = 6 := by decide
theorem oe11_6 : ¬ nI 11 = 6 := by decide
theorem oi11_7 : ¬ (nI 11).toInt = 7 := by decide
theorem oe11_7 : ¬ nI 11 = 7 := by decide
theorem oi11_8 : ¬ (nI 11).toInt = 8 := by decide
theorem oe11_8 : ¬ nI 11 = 8 := by decide
theorem oi11_9 : ¬ (nI 11).toInt = 9 := by decide
theorem oe11_9 : ¬ nI 11 = 9 := by decide
theorem oi11_10 : ¬ (nI 11).toInt = 10 := by decide
theorem oe11_10 : ¬ nI 11 = 10 := by decide
theorem oi11_11 : (nI 11).toInt = 11 := by decide
theorem oe11_11 : nI 11 = 11 := by decide
theorem oi11_12 : ¬ (nI 11).toInt = 12 := by decide
theorem oe11_12 : ¬ nI 11 = 12 := by decide
theorem oi11_13 : ¬ (nI 11).toInt = 13 := by decide
theorem oe11_13 : ¬ nI 11 = 13 := by decide
theorem oi11_14 : ¬ (nI 11).toInt = 14 := by decide
theorem oe11_14 : ¬ nI 11 = 14 := by decide
theorem oi11_15 : ¬ (nI 11).toInt = 15 := by decide
theorem oe11_15 : ¬ nI 11 = 15 := by decide
theorem oi12_0 : ¬ (nI 12).toInt = 0 := by decide
theorem oe12_0 : ¬ nI 12 = 0 := by decide
theorem oi12_1 : ¬ (nI 12).toInt = 1 := by decide
theorem oe12_1 : ¬ nI 12 = 1 := by decide
theorem oi12_2 : ¬ (nI 12).toInt = 2 := by decide
theorem oe12_2 : ¬ nI 12 = 2 := by decide
theorem oi12_3 : ¬ (nI 12).toInt = 3 := by decide
theorem oe12_3 : ¬ nI 12 = 3 := by decide
theorem oi12_4 : ¬ (nI 12).toInt = 4 := by decide
theorem oe12_4 : ¬ nI 12 = 4 := by decide
theorem oi12_5 : ¬ (nI 12).toInt = 5 := by decide
theorem oe12_5 : ¬ nI 12 = 5 := by decide
theorem oi12_6 : ¬ (nI 12).toInt = 6 := by decide
theorem oe12_6 : ¬ nI 12 = 6 := by decide
theorem oi12_7 : ¬ (nI 12).toInt = 7 := by decide
theorem oe12_7 : ¬ nI 12 = 7 := by decide
theorem oi12_8 : ¬ (nI 12).toInt = 8 := by decide
theorem oe12_8 : ¬ nI 12 = 8 := by decide
theorem oi12_9 : ¬ (nI 12).toInt = 9 := by decide
theorem oe12_9 : ¬ nI 12 = 9 := by decide
theorem oi12_10 : ¬ (nI 12).toInt = 10 := by decide
theorem oe12_10 : ¬ nI 12 = 10 := by decide
theorem oi12_11 : ¬ (nI 12).toInt = 11 := by decide
theorem oe12_11 : ¬ nI 12 = 11 := by decide
theorem oi12_12 : (nI 12).toInt = 12 := by decide
theorem oe12_12 : nI 12 = 12 := by decide
theorem oi12_13 : ¬ (nI 12).toInt = 13 := by decide
theorem oe12_13 : ¬ nI 12 = 13 := by decide
theorem oi12_14 : ¬ (nI 12).toInt = 14 := by decide
theorem oe12_14 : ¬ nI 12 = 14 := by decide
theorem oi12_15 : ¬ (nI 12).toInt = 15 := by decide
theorem oe12_15 : ¬ nI 12 = 15 := by decide
theorem oi13_0 : ¬ (nI 13).toInt = 0 := by decide
theorem oe13_0 : ¬ nI 13 = 0 := by decide
theorem oi13_1 : ¬ (nI 13).toInt = 1 := by decide
theorem oe13_1 : ¬ nI 13 = 1 := by decide
theorem oi13_2 : ¬ (nI 13).toInt = 2 := by decide
theorem oe13_2 : ¬ nI 13 = 2 := by decide
theorem oi13_3 : ¬ (nI 13).toInt = 3 := by decide
theorem oe13_3 : ¬ nI 13 = 3 := by decide
theorem oi13_4 : ¬ (nI 13).toInt = 4 := by decide
theorem oe13_4 : ¬ nI 13 = 4 := by decide
theorem oi13_5 : ¬ (nI 13).toInt = 5 := by decide
theorem oe13_5 : ¬ nI 13 = 5 := by decide
theorem oi13_6 : ¬ (nI 13).toInt = 6 := by decide
theorem oe13_6 : ¬ nI 13 = 6 := by decide
theorem oi13_7 : ¬ (nI 13).toInt = 7 := by decide
theorem oe13_7 : ¬ nI 13 = 7 := by decide
theorem oi13_8 : ¬ (nI 13).toInt = 8 := by decide
theorem oe13_8 : ¬ nI 13 = 8 := by decide
theorem oi13_9 : ¬ (nI 13).toInt = 9 := by decide
theorem oe13_9 : ¬ nI 13 = 9 := by decide
theorem oi13_10 : ¬ (nI 13).toInt = 10 := by decide
theorem oe13_10 : ¬ nI 13 = 10 := by decide
theorem oi13_11 : ¬ (nI 13).toInt = 11 := by decide
theorem oe13_11 : ¬ nI 13 = 11 := by decide
theorem oi13_12 : ¬ (nI 13).toInt = 12 := by decide
theorem oe13_12 : ¬ nI 13 = 12 := by decide
theorem oi13_13 : (nI 13).toInt = 13 := by decide
theorem oe13_13 : nI 13 = 13 := by decide
theorem oi13_14 : ¬ (nI 13).toInt = 14 := by decide
theorem oe13_14 : ¬ nI 13 = 14 := by decide
theorem oi13_15 : ¬ (nI 13).toInt = 15 := by decide
theorem oe13_15 : ¬ nI 13 = 15 := by decide
theorem oi14_0 : ¬ (nI 14).toInt = 0 := by decide
theorem oe14_0 : ¬ nI 14 = 0 := by decide
theorem oi14_1 : ¬ (nI 14).toInt = 1 := by decide
theorem oe14_1 : ¬ nI 14 = 1 := by decide
theorem oi14_2 : ¬ (nI 14).toInt = 2 := by decide
theorem oe14_2 : ¬ nI 14 = 2 := by decide
theorem oi14_3 : ¬ (nI 14).toInt = 3 := by decide
theorem oe14_3 : ¬ nI 14 = 3 := by decide
theorem oi14_4 : ¬ (nI 14).toInt = 4 := by decide
theorem oe14_4 : ¬ nI 14 = 4 := by decide
theorem oi14_5 : ¬ (nI 14).toInt = 5 := by decide
theorem oe14_5 : ¬ nI 14 = 5 := by decide
theorem oi14_6 : ¬ (nI 14).toInt = 6 := by decide
theorem oe14_6 : ¬ nI 14 = 6 := by decide
theorem oi14_7 : ¬ (nI 14).toInt = 7 := by decide
theorem oe14_7 : ¬ nI 14 = 7 := by decide
theorem oi14_8 : ¬ (nI 14).toInt = 8 := by decide
theorem oe14_8 : ¬ nI 14 = 8 := by decide
theorem oi14_9 : ¬ (nI 14).toInt = 9 := by decide
theorem oe14_9 : ¬ nI 14 = 9 := by decide
theorem oi14_10 : ¬ (nI 14).toInt = 10 := by decide
theorem oe14_10 : ¬ nI 14 = 10 := by decide
theorem oi14_11 : ¬ (nI 14).toInt = 11 := by decide
theorem oe14_11 : ¬ nI 14 = 11 := by decide
theorem oi14_12 : ¬ (nI 14).toInt = 12 := by decide
theorem oe14_12 : ¬ nI 14 = 12 := by decide
theorem oi14_13 : ¬ (nI 14).toInt = 13 := by decide
theorem oe14_13 : ¬ nI 14 = 13 := by decide
theorem oi14_14 : (nI 14).toInt = 14 := by decide
theorem oe14_14 : nI 14 = 14 := by decide
theorem oi14_15 : ¬ (nI 14).toInt = 15 := by decide
theorem oe14_15 : ¬ nI 14 = 15 := by decide
theorem oi15_0 : ¬ (nI 15).toInt = 0 := by decide
theorem oe15_0 : ¬ nI 15 = 0 := by decide
theorem oi15_1 : ¬ (nI 15).toInt = 1 := by decide
theorem oe15_1 : ¬ nI 15 = 1 := by decide
theorem oi15_2 : ¬ (nI 15).toInt = 2 := by decide
theorem oe15_2 : ¬ nI 15 = 2 := by decide
theorem oi15_3 : ¬ (nI 15).toInt = 3 := by decide
theorem oe15_3 : ¬ nI 15 = 3 := by decide
theorem oi15_4 : ¬ (nI 15).toInt = 4 := by decide
theorem oe15_4 : ¬ nI 15 = 4 := by decide
theorem oi15_5 : ¬ (nI 15).toInt = 5 := by decide
theorem oe15_5 : ¬ nI 15 = 5 := by decide
theorem oi15_6 : ¬ (nI 15).toInt = 6 := by decide
theorem oe15_6 : ¬ nI 15 = 6 := by decide
theorem oi15_7 : ¬ (nI 15).toInt = 7 := by decide
theorem oe15_7 : ¬ nI 15 = 7 := by decide
theorem oi15_8 : ¬ (nI 15).toInt = 8 := by decide
theorem oe15_8 : ¬ nI 15 = 8 := by decide
theorem oi15_9 : ¬ (nI 15).toInt = 9 := by decide
theorem oe15_9 : ¬ nI 15 = 9 := by decide
theorem oi15_10 : ¬ (nI 15).toInt = 10 := by decide
theorem oe15_10 : ¬ nI 15 = 10 := by decide
theorem oi15_11 : ¬ (nI 15).toInt = 11 := by decide
theorem oe15_11 : ¬ nI 15 = 11 := by decide
theorem oi15_12 : ¬ (nI 15).toInt = 12 := by decide
theorem oe15_12 : ¬ nI 15 = 12 := by decide
theorem oi15_13 : ¬ (nI 15).toInt = 13 := by decide
theorem oe15_13 : ¬ nI 15 = 13 := by decide
theorem oi15_14 : ¬ (nI 15).toInt = 14 := by decide
theorem oe15_14 : ¬ nI 15 = 14 := by decide
theorem oi15_15 : (nI 15).toInt = 15 := by decide
theorem oe15_15 : nI 15 = 15 := by decide
theorem xd_0 {L : Nat} {σ : St} {xv yv zv : Int32} : xDisp L σ (nI 0) xv yv zv = (fMach_setNumber L σ xv zv) := by
  unfold xDisp
  rw [if_pos oi0_0]
  simp only [bnd]
theorem xd_1 {L : Nat} {σ : St} {xv yv zv : Int32} : xDisp L σ (nI 1) xv yv zv = ((fMach_numberIn L σ yv).bind fun p171 => (fMach_numberIn L p171.2 zv).bind fun p177 => fMach_setNumber L p177.2 xv (p171.1 + p177.1)) := by
  unfold xDisp
  rw [if_neg oi1_0, if_pos oi1_1]
  simp only [bnd]
theorem xd_2 {L : Nat} {σ : St} {xv yv zv : Int32} : xDisp L σ (nI 2) xv yv zv = (fMach_doNew L σ xv zv) := by
  unfold xDisp
  rw [if_neg oi2_0, if_neg oi2_1, if_pos oi2_2]
  simp only [bnd]
theorem xd_3 {L : Nat} {σ : St} {xv yv zv : Int32} : xDisp L σ (nI 3) xv yv zv = (fMach_doCopy L σ xv yv) := by
  unfold xDisp
  rw [if_neg oi3_0, if_neg oi3_1, if_neg oi3_2, if_pos oi3_3]
  simp only [bnd]
theorem xd_4 {L : Nat} {σ : St} {xv yv zv : Int32} : xDisp L σ (nI 4) xv yv zv = (fRoom_setRef L σ (σ.1 11) xv (-1)) := by
  unfold xDisp
  rw [if_neg oi4_0, if_neg oi4_1, if_neg oi4_2, if_neg oi4_3, if_pos oi4_4]
  simp only [bnd]
theorem xd_5 {L : Nat} {σ : St} {xv yv zv : Int32} : xDisp L σ (nI 5) xv yv zv = (fMach_doGet L σ xv yv zv) := by
  unfold xDisp
  rw [if_neg oi5_0, if_neg oi5_1, if_neg oi5_2, if_neg oi5_3, if_neg oi5_4, if_pos oi5_5]
  simp only [bnd]
theorem xd_6 {L : Nat} {σ : St} {xv yv zv : Int32} : xDisp L σ (nI 6) xv yv zv = (fMach_doPut L σ xv yv zv) := by
  unfold xDisp
  rw [if_neg oi6_0, if_neg oi6_1, if_neg oi6_2, if_neg oi6_3, if_neg oi6_4, if_neg oi6_5, if_pos oi6_6]
  simp only [bnd]
theorem xd_7 {L : Nat} {σ : St} {xv yv zv : Int32} : xDisp L σ (nI 7) xv yv zv = (fMach_doLoad L σ xv yv zv) := by
  unfold xDisp
  rw [if_neg oi7_0, if_neg oi7_1, if_neg oi7_2, if_neg oi7_3, if_neg oi7_4, if_neg oi7_5, if_neg oi7_6, if_pos oi7_7]
  simp only [bnd]
theorem xd_8 {L : Nat} {σ : St} {xv yv zv : Int32} : xDisp L σ (nI 8) xv yv zv = (fMach_doStore L σ xv yv zv) := by
  unfold xDisp
  rw [if_neg oi8_0, if_neg oi8_1, if_neg oi8_2, if_neg oi8_3, if_neg oi8_4, if_neg oi8_5, if_neg oi8_6, if_neg oi8_7, if_pos oi8_8]
  simp only [bnd]
theorem xd_9 {L : Nat} {σ : St} {xv yv zv : Int32} : xDisp L σ (nI 9) xv yv zv = (fMach_setPlace L σ zv) := by
  unfold xDisp
  rw [if_neg oi9_0, if_neg oi9_1, if_neg oi9_2, if_neg oi9_3, if_neg oi9_4, if_neg oi9_5, if_neg oi9_6, if_neg oi9_7, if_neg oi9_8, if_pos oi9_9]
  simp only [bnd]
theorem xd_10 {L : Nat} {σ : St} {xv yv zv : Int32} : xDisp L σ (nI 10) xv yv zv = (fMach_doZero L σ xv zv) := by
  unfold xDisp
  rw [if_neg oi10_0, if_neg oi10_1, if_neg oi10_2, if_neg oi10_3, if_neg oi10_4, if_neg oi10_5, if_neg oi10_6, if_neg oi10_7, if_neg oi10_8, if_neg oi10_9, if_pos oi10_10]
  simp only [bnd]
theorem xd_11 {L : Nat} {σ : St} {xv yv zv : Int32} : xDisp L σ (nI 11) xv yv zv = (fMach_doVoid L σ xv zv) := by
  unfold xDisp
  rw [if_neg oi11_0, if_neg oi11_1, if_neg oi11_2, if_neg oi11_3, if_neg oi11_4, if_neg oi11_5, if_neg oi11_6, if_neg oi11_7, if_neg oi11_8, if_neg oi11_9, if_neg oi11_10, if_pos oi11_11]
  simp only [bnd]
theorem xd_12 {L : Nat} {σ : St} {xv yv zv : Int32} : xDisp L σ (nI 12) xv yv zv = (fMach_doCall L σ xv yv zv) := by
  unfold xDisp
  rw [if_neg oi12_0, if_neg oi12_1, if_neg oi12_2, if_neg oi12_3, if_neg oi12_4, if_neg oi12_5, if_neg oi12_6, if_neg oi12_7, if_neg oi12_8, if_neg oi12_9, if_neg oi12_10, if_neg oi12_11, if_pos oi12_12]
  simp only [bnd]
theorem xd_13 {L : Nat} {σ : St} {xv yv zv : Int32} : xDisp L σ (nI 13) xv yv zv = (fMach_doReturn L σ xv yv) := by
  unfold xDisp
  rw [if_neg oi13_0, if_neg oi13_1, if_neg oi13_2, if_neg oi13_3, if_neg oi13_4, if_neg oi13_5, if_neg oi13_6, if_neg oi13_7, if_neg oi13_8, if_neg oi13_9, if_neg oi13_10, if_neg oi13_11, if_neg oi13_12, if_pos oi13_13]
  simp only [bnd]
theorem xd_14 {L : Nat} {σ : St} {xv yv zv : Int32} : xDisp L σ (nI 14) xv yv zv = ((fMach_numberIn L σ xv).bind fun p328 => fMach_raise L p328.2 p328.1) := by
  unfold xDisp
  rw [if_neg oi14_0, if_neg oi14_1, if_neg oi14_2, if_neg oi14_3, if_neg oi14_4, if_neg oi14_5, if_neg oi14_6, if_neg oi14_7, if_neg oi14_8, if_neg oi14_9, if_neg oi14_10, if_neg oi14_11, if_neg oi14_12, if_neg oi14_13, if_pos oi14_14]
  simp only [bnd]
theorem xd_15 {L : Nat} {σ : St} {xv yv zv : Int32} : xDisp L σ (nI 15) xv yv zv = (fMach_doShow L σ xv) := by
  unfold xDisp
  rw [if_neg oi15_0, if_neg oi15_1, if_neg oi15_2, if_neg oi15_3, if_neg oi15_4, if_neg oi15_5, if_neg oi15_6, if_neg oi15_7, if_neg oi15_8, if_neg oi15_9, if_neg oi15_10, if_neg oi15_11, if_neg oi15_12, if_neg oi15_13, if_neg oi15_14, if_pos oi15_15]
  simp only [bnd]
theorem md_0 {τ : St} {xv yv zv : Int32} : mDisp τ (nI 0) xv yv zv = (if ix (((4 : Int32) * τ.1 9) + xv) 960 then some (τ.1, va_up τ.2 10 (upd (τ.2 10) (((4 : Int32) * τ.1 9) + xv).toNatClampNeg zv)) else none) := by
  unfold mDisp
  rw [if_pos (show nI 0 < 5 by decide)]
  simp only [fMod_step_J118, fMod_plain, fMod_plain_J23, fMod_plain_J57, fMod_plain_J89, fMod_plain_J123, fMod_plain_J138, fMod_plain_J162, fMod_plain_J173, fMod_plain_J214, fMod_plain_J233, if_pos oe0_0, if_neg oe0_1, if_neg oe0_2, if_neg oe0_3, if_neg oe0_4, if_neg oe0_5, if_neg oe0_6, if_neg oe0_7, if_neg oe0_8, if_neg oe0_9, if_neg oe0_10, if_neg oe0_11, if_neg oe0_12, if_neg oe0_13, if_neg oe0_14, if_neg oe0_15, bnd, Option.bind_some]
theorem md_1 {τ : St} {xv yv zv : Int32} : mDisp τ (nI 1) xv yv zv = (if ix (((4 : Int32) * τ.1 9) + yv) 960 then (if ix (((4 : Int32) * τ.1 9) + zv) 960 then (if ix (((4 : Int32) * τ.1 9) + xv) 960 then some (τ.1, va_up τ.2 10 (upd (τ.2 10) (((4 : Int32) * τ.1 9) + xv).toNatClampNeg ((τ.2 10 (((4 : Int32) * τ.1 9) + yv).toNatClampNeg) + (τ.2 10 (((4 : Int32) * τ.1 9) + zv).toNatClampNeg)))) else none) else none) else none) := by
  unfold mDisp
  rw [if_pos (show nI 1 < 5 by decide)]
  simp only [fMod_step_J118, fMod_plain, fMod_plain_J23, fMod_plain_J57, fMod_plain_J89, fMod_plain_J123, fMod_plain_J138, fMod_plain_J162, fMod_plain_J173, fMod_plain_J214, fMod_plain_J233, if_neg oe1_0, if_pos oe1_1, if_neg oe1_2, if_neg oe1_3, if_neg oe1_4, if_neg oe1_5, if_neg oe1_6, if_neg oe1_7, if_neg oe1_8, if_neg oe1_9, if_neg oe1_10, if_neg oe1_11, if_neg oe1_12, if_neg oe1_13, if_neg oe1_14, if_neg oe1_15, bnd, Option.bind_some]
theorem md_2 {τ : St} {xv yv zv : Int32} : mDisp τ (nI 2) xv yv zv = ((fMod_make τ zv 0).bind fun p => if p.2.1 12 = 0 then (if ix (((4 : Int32) * τ.1 9) + xv) 960 then some (p.2.1, va_up p.2.2 9 (upd (p.2.2 9) (((4 : Int32) * τ.1 9) + xv).toNatClampNeg p.1)) else none) else some p.2) := by
  unfold mDisp
  rw [if_pos (show nI 2 < 5 by decide)]
  simp only [fMod_step_J118, fMod_plain, fMod_plain_J23, fMod_plain_J57, fMod_plain_J89, fMod_plain_J123, fMod_plain_J138, fMod_plain_J162, fMod_plain_J173, fMod_plain_J214, fMod_plain_J233, if_neg oe2_0, if_neg oe2_1, if_pos oe2_2, if_neg oe2_3, if_neg oe2_4, if_neg oe2_5, if_neg oe2_6, if_neg oe2_7, if_neg oe2_8, if_neg oe2_9, if_neg oe2_10, if_neg oe2_11, if_neg oe2_12, if_neg oe2_13, if_neg oe2_14, if_neg oe2_15, bnd, Option.bind_some]
theorem md_3 {τ : St} {xv yv zv : Int32} : mDisp τ (nI 3) xv yv zv = ((fMod_read τ (((4 : Int32) * τ.1 9) + yv)).bind fun p => if p.1 = 0 then some p.2 else (if ix (((4 : Int32) * τ.1 9) + yv) 960 then (if ix (((4 : Int32) * τ.1 9) + xv) 960 then some (p.2.1, va_up p.2.2 9 (upd (p.2.2 9) (((4 : Int32) * τ.1 9) + xv).toNatClampNeg (p.2.2 9 (((4 : Int32) * τ.1 9) + yv).toNatClampNeg))) else none) else none)) := by
  unfold mDisp
  rw [if_pos (show nI 3 < 5 by decide)]
  simp only [fMod_step_J118, fMod_plain, fMod_plain_J23, fMod_plain_J57, fMod_plain_J89, fMod_plain_J123, fMod_plain_J138, fMod_plain_J162, fMod_plain_J173, fMod_plain_J214, fMod_plain_J233, if_neg oe3_0, if_neg oe3_1, if_neg oe3_2, if_pos oe3_3, if_neg oe3_4, if_neg oe3_5, if_neg oe3_6, if_neg oe3_7, if_neg oe3_8, if_neg oe3_9, if_neg oe3_10, if_neg oe3_11, if_neg oe3_12, if_neg oe3_13, if_neg oe3_14, if_neg oe3_15, bnd, Option.bind_some]
theorem md_4 {τ : St} {xv yv zv : Int32} : mDisp τ (nI 4) xv yv zv = (if ix (((4 : Int32) * τ.1 9) + xv) 960 then some (τ.1, va_up τ.2 9 (upd (τ.2 9) (((4 : Int32) * τ.1 9) + xv).toNatClampNeg (-1))) else none) := by
  unfold mDisp
  rw [if_pos (show nI 4 < 5 by decide)]
  simp only [fMod_step_J118, fMod_plain, fMod_plain_J23, fMod_plain_J57, fMod_plain_J89, fMod_plain_J123, fMod_plain_J138, fMod_plain_J162, fMod_plain_J173, fMod_plain_J214, fMod_plain_J233, if_neg oe4_0, if_neg oe4_1, if_neg oe4_2, if_neg oe4_3, if_pos oe4_4, if_neg oe4_5, if_neg oe4_6, if_neg oe4_7, if_neg oe4_8, if_neg oe4_9, if_neg oe4_10, if_neg oe4_11, if_neg oe4_12, if_neg oe4_13, if_neg oe4_14, if_neg oe4_15, bnd, Option.bind_some]
theorem md_9 {τ : St} {xv yv zv : Int32} : mDisp τ (nI 9) xv yv zv = (if ix (((4 : Int32) * τ.1 9) + 3) 960 then some (τ.1, va_up τ.2 10 (upd (τ.2 10) (((4 : Int32) * τ.1 9) + 3).toNatClampNeg zv)) else none) := by
  unfold mDisp
  rw [if_neg (show ¬ nI 9 < 5 by decide), if_pos (show (8 : Int32) < nI 9 by decide)]
  simp only [fMod_step_J118, fMod_plain, fMod_plain_J23, fMod_plain_J57, fMod_plain_J89, fMod_plain_J123, fMod_plain_J138, fMod_plain_J162, fMod_plain_J173, fMod_plain_J214, fMod_plain_J233, if_neg oe9_0, if_neg oe9_1, if_neg oe9_2, if_neg oe9_3, if_neg oe9_4, if_neg oe9_5, if_neg oe9_6, if_neg oe9_7, if_neg oe9_8, if_pos oe9_9, if_neg oe9_10, if_neg oe9_11, if_neg oe9_12, if_neg oe9_13, if_neg oe9_14, if_neg oe9_15, bnd, Option.bind_some]
theorem md_10 {τ : St} {xv yv zv : Int32} : mDisp τ (nI 10) xv yv zv = (if ix (((4 : Int32) * τ.1 9) + xv) 960 then (if τ.2 10 (((4 : Int32) * τ.1 9) + xv).toNatClampNeg = 0 then (if ix (((4 : Int32) * τ.1 9) + 3) 960 then some (τ.1, va_up τ.2 10 (upd (τ.2 10) (((4 : Int32) * τ.1 9) + 3).toNatClampNeg zv)) else none) else some τ) else none) := by
  unfold mDisp
  rw [if_neg (show ¬ nI 10 < 5 by decide), if_pos (show (8 : Int32) < nI 10 by decide)]
  simp only [fMod_step_J118, fMod_plain, fMod_plain_J23, fMod_plain_J57, fMod_plain_J89, fMod_plain_J123, fMod_plain_J138, fMod_plain_J162, fMod_plain_J173, fMod_plain_J214, fMod_plain_J233, if_neg oe10_0, if_neg oe10_1, if_neg oe10_2, if_neg oe10_3, if_neg oe10_4, if_neg oe10_5, if_neg oe10_6, if_neg oe10_7, if_neg oe10_8, if_neg oe10_9, if_pos oe10_10, if_neg oe10_11, if_neg oe10_12, if_neg oe10_13, if_neg oe10_14, if_neg oe10_15, bnd, Option.bind_some]
theorem md_11 {τ : St} {xv yv zv : Int32} : mDisp τ (nI 11) xv yv zv = ((fMod_read τ (((4 : Int32) * τ.1 9) + xv)).bind fun p => if p.1 = 0 then some p.2 else (if ix (((4 : Int32) * τ.1 9) + xv) 960 then (if p.2.2 9 (((4 : Int32) * τ.1 9) + xv).toNatClampNeg = -1 then (if ix (((4 : Int32) * τ.1 9) + 3) 960 then some (p.2.1, va_up p.2.2 10 (upd (p.2.2 10) (((4 : Int32) * τ.1 9) + 3).toNatClampNeg zv)) else none) else some p.2) else none)) := by
  unfold mDisp
  rw [if_neg (show ¬ nI 11 < 5 by decide), if_pos (show (8 : Int32) < nI 11 by decide)]
  simp only [fMod_step_J118, fMod_plain, fMod_plain_J23, fMod_plain_J57, fMod_plain_J89, fMod_plain_J123, fMod_plain_J138, fMod_plain_J162, fMod_plain_J173, fMod_plain_J214, fMod_plain_J233, if_neg oe11_0, if_neg oe11_1, if_neg oe11_2, if_neg oe11_3, if_neg oe11_4, if_neg oe11_5, if_neg oe11_6, if_neg oe11_7, if_neg oe11_8, if_neg oe11_9, if_neg oe11_10, if_pos oe11_11, if_neg oe11_12, if_neg oe11_13, if_neg oe11_14, if_neg oe11_15, bnd, Option.bind_some]
theorem md_12 {τ : St} {xv yv zv : Int32} : mDisp τ (nI 12) xv yv zv = (fMod_call τ xv yv zv) := by
  unfold mDisp
  rw [if_neg (show ¬ nI 12 < 5 by decide), if_pos (show (8 : Int32) < nI 12 by decide)]
  unfold fMod_step_J118
  simp only [if_pos oe12_12, if_neg oe12_13, bnd]
theorem md_13 {τ : St} {xv yv zv : Int32} : mDisp τ (nI 13) xv yv zv = (fMod_leave τ xv yv) := by
  unfold mDisp
  rw [if_neg (show ¬ nI 13 < 5 by decide), if_pos (show (8 : Int32) < nI 13 by decide)]
  unfold fMod_step_J118
  simp only [if_neg oe13_12, if_pos oe13_13, bnd]
theorem md_14 {τ : St} {xv yv zv : Int32} : mDisp τ (nI 14) xv yv zv = (if ix (((4 : Int32) * τ.1 9) + xv) 960 then fMod_raise τ (τ.2 10 (((4 : Int32) * τ.1 9) + xv).toNatClampNeg) else none) := by
  unfold mDisp
  rw [if_neg (show ¬ nI 14 < 5 by decide), if_pos (show (8 : Int32) < nI 14 by decide)]
  simp only [fMod_step_J118, fMod_plain, fMod_plain_J23, fMod_plain_J57, fMod_plain_J89, fMod_plain_J123, fMod_plain_J138, fMod_plain_J162, fMod_plain_J173, fMod_plain_J214, fMod_plain_J233, if_neg oe14_0, if_neg oe14_1, if_neg oe14_2, if_neg oe14_3, if_neg oe14_4, if_neg oe14_5, if_neg oe14_6, if_neg oe14_7, if_neg oe14_8, if_neg oe14_9, if_neg oe14_10, if_neg oe14_11, if_neg oe14_12, if_neg oe14_13, if_pos oe14_14, if_neg oe14_15, bnd, Option.bind_some]
theorem md_15 {τ : St} {xv yv zv : Int32} : mDisp τ (nI 15) xv yv zv = (if ix (((4 : Int32) * τ.1 9) + xv) 960 then fMod_show τ (τ.2 10 (((4 : Int32) * τ.1 9) + xv).toNatClampNeg) else none) := by
  unfold mDisp
  rw [if_neg (show ¬ nI 15 < 5 by decide), if_pos (show (8 : Int32) < nI 15 by decide)]
  simp only [fMod_step_J118, fMod_plain, fMod_plain_J23, fMod_plain_J57, fMod_plain_J89, fMod_plain_J123, fMod_plain_J138, fMod_plain_J162, fMod_plain_J173, fMod_plain_J214, fMod_plain_J233, if_neg oe15_0, if_neg oe15_1, if_neg oe15_2, if_neg oe15_3, if_neg oe15_4, if_neg oe15_5, if_neg oe15_6, if_neg oe15_7, if_neg oe15_8, if_neg oe15_9, if_neg oe15_10, if_neg oe15_11, if_neg oe15_12, if_neg oe15_13, if_neg oe15_14, if_pos oe15_15, bnd, Option.bind_some]
theorem md_5 {τ : St} {xv yv zv : Int32} : mDisp τ (nI 5) xv yv zv = fMod_access_J30 τ (nI 5) xv yv zv ((4 : Int32) * τ.1 9) (((4 : Int32) * τ.1 9) + yv) := by
  unfold mDisp
  rw [if_neg (show ¬ nI 5 < 5 by decide), if_neg (show ¬ (8 : Int32) < nI 5 by decide)]
  simp only [fMod_access, fMod_access_J19, if_pos oe5_5, if_neg oe5_7]
theorem md_6 {τ : St} {xv yv zv : Int32} : mDisp τ (nI 6) xv yv zv = fMod_access_J30 τ (nI 6) xv yv zv ((4 : Int32) * τ.1 9) (((4 : Int32) * τ.1 9) + xv) := by
  unfold mDisp
  rw [if_neg (show ¬ nI 6 < 5 by decide), if_neg (show ¬ (8 : Int32) < nI 6 by decide)]
  simp only [fMod_access, fMod_access_J19, if_neg oe6_5, if_neg oe6_7]
theorem md_7 {τ : St} {xv yv zv : Int32} : mDisp τ (nI 7) xv yv zv = fMod_access_J30 τ (nI 7) xv yv zv ((4 : Int32) * τ.1 9) (((4 : Int32) * τ.1 9) + yv) := by
  unfold mDisp
  rw [if_neg (show ¬ nI 7 < 5 by decide), if_neg (show ¬ (8 : Int32) < nI 7 by decide)]
  simp only [fMod_access, fMod_access_J19, if_neg oe7_5, if_pos oe7_7]
theorem md_8 {τ : St} {xv yv zv : Int32} : mDisp τ (nI 8) xv yv zv = fMod_access_J30 τ (nI 8) xv yv zv ((4 : Int32) * τ.1 9) (((4 : Int32) * τ.1 9) + xv) := by
  unfold mDisp
  rw [if_neg (show ¬ nI 8 < 5 by decide), if_neg (show ¬ (8 : Int32) < nI 8 by decide)]
  simp only [fMod_access, fMod_access_J19, if_neg oe8_5, if_neg oe8_7]
