def fRoom_headOf (L : Nat) (σ : St) (x0 x1 x2 : Int32) : Option (Int32 × St) :=
  some ((((x0 <<< ((3 : Int32) &&& 31)) ||| x1) <<< ((3 : Int32) &&& 31)) ||| x2, σ)
def fRoom_headOfFrame (L : Nat) (σ : St) (x0 : Int32) : Option (Int32 × St) :=
  (fRoom_headOf L σ ((4 : Int32) + x0) 4 4).bind fun p5 => some (p5.1, p5.2)
def fRoom_methodOfFrame (L : Nat) (σ : St) (x0 : Int32) : Option (Int32 × St) :=
  some (x0 - 4, σ)
def fRoom_refsIn (L : Nat) (σ : St) (x0 : Int32) : Option (Int32 × St) :=
  some ((x0 >>> ((3 : Int32) &&& 31)) &&& 7, σ)
def fRoom_sizeIn (L : Nat) (σ : St) (x0 : Int32) : Option (Int32 × St) :=
  some (((1 : Int32) + ((x0 >>> ((3 : Int32) &&& 31)) &&& 7)) + (x0 &&& 7), σ)
def fRoom_cellsToScan (L : Nat) (σ : St) : Option (Int32 × St) :=
  some ((σ.1 13) - (σ.1 14), σ)
def fRoom_idOf (L : Nat) (σ : St) (x1 : Int32) : Option (Int32 × St) :=
  if ix x1 L then (some (((σ.2 10) x1.toNatClampNeg) >>> ((6 : Int32) &&& 31), σ)) else none
def fRoom_refsOf (L : Nat) (σ : St) (x1 : Int32) : Option (Int32 × St) :=
  if ix x1 L then ((fRoom_refsIn L σ ((σ.2 10) x1.toNatClampNeg)).bind fun p6 => some (p6.1, p6.2)) else none
def fRoom_intsOf (L : Nat) (σ : St) (x1 : Int32) : Option (Int32 × St) :=
  if ix x1 L then (some (((σ.2 10) x1.toNatClampNeg) &&& 7, σ)) else none
def fRoom_intOf (L : Nat) (σ : St) (x1 x2 : Int32) : Option (Int32 × St) :=
  (fRoom_refsOf L σ x1).bind fun p9 => if ix (((x1 + 1) + p9.1) + x2) L then (some ((p9.2.2 10) (((x1 + 1) + p9.1) + x2).toNatClampNeg, p9.2)) else none
def fRoom_setInt (L : Nat) (σ : St) (x1 x2 x3 : Int32) : Option St :=
  (fRoom_refsOf L σ x1).bind fun p9 => if ix (((x1 + 1) + p9.1) + x2) L then (some (p9.2.1, va_up p9.2.2 10 (upd (p9.2.2 10) (((x1 + 1) + p9.1) + x2).toNatClampNeg x3))) else none
def fRoom_setRef (L : Nat) (σ : St) (x1 x2 x3 : Int32) : Option St :=
  if ix ((x1 + 1) + x2) L then (some (σ.1, va_up σ.2 10 (upd (σ.2 10) ((x1 + 1) + x2).toNatClampNeg x3))) else none
def fRoom_noteFound (L : Nat) (σ : St) (x1 x2 : Int32) : Option (Int32 × St) :=
  if x1 = (-1) then (some (x2, σ)) else (if ix x1 L then (if ((σ.2 12) x1.toNatClampNeg) = 1 then (some (x2, σ)) else (if ix x1 L then (if ix x2 L then (some (x2 + 1, (σ.1, va_up (va_up σ.2 12 (upd (σ.2 12) x1.toNatClampNeg 1)) 11 (upd (σ.2 11) x2.toNatClampNeg x1)))) else none) else none)) else none)
def fRoom_freeCells (L : Nat) (σ : St) : Option (Int32 × St) :=
  some ((σ.1 17) - (σ.1 13), σ)
def fRoom_usedCells (L : Nat) (σ : St) : Option (Int32 × St) :=
  (fRoom_freeCells L σ).bind fun p5 => some ((σ.1 9) - p5.1, p5.2)
def fRoom_useSpace (L : Nat) (σ : St) (x1 : Int32) : Option St :=
  some (upd (upd (upd (upd (upd (upd σ.1 12 x1) 13 x1) 14 x1) 15 x1) 16 x1) 17 (x1 + (σ.1 9)), σ.2)
def fRoom_movedTo (L : Nat) (σ : St) (x1 : Int32) : Option (Int32 × St) :=
  if ix x1 L then (some ((-1 : Int32) - ((σ.2 10) x1.toNatClampNeg), σ)) else none
def fRoom_peekRef (L : Nat) (σ : St) (x1 x2 : Int32) : Option (Int32 × St) :=
  if ix ((x1 + 1) + x2) L then (if ((σ.2 10) ((x1 + 1) + x2).toNatClampNeg) = (-1) then (some ((σ.2 10) ((x1 + 1) + x2).toNatClampNeg, σ)) else (if ix ((σ.2 10) ((x1 + 1) + x2).toNatClampNeg) L then (if 0 ≤ ((σ.2 10) ((σ.2 10) ((x1 + 1) + x2).toNatClampNeg).toNatClampNeg) then (some ((σ.2 10) ((x1 + 1) + x2).toNatClampNeg, σ)) else ((fRoom_movedTo L σ ((σ.2 10) ((x1 + 1) + x2).toNatClampNeg)).bind fun p27 => some (p27.1, p27.2))) else none)) else none
def fRoom_countFrames_B7 (L : Nat) (s0 : Int32 × Int32 × St) : Option (Nat × (Int32 × Int32 × St)) :=
  if s0.2.1 = (-1) then (some (0, (s0.1, s0.2.1, s0.2.2))) else (if (nI L) ≤ s0.1 then (some (0, (s0.1, s0.2.1, s0.2.2))) else ((fRoom_peekRef L s0.2.2 s0.2.1 3).bind fun p27 => some (1, ((s0.1 + 1), p27.1, p27.2))))
def fRoom_countFrames (L : Nat) (σ : St) : Option (Int32 × St) :=
  (rbLoop (fRoom_countFrames_B7 L) rbF (0, (σ.1 11), σ)).bind fun q7 => some (q7.2.1, q7.2.2.2)
def fRoom_countReachableCells_B60 (L : Nat) (x1 x3 x4 x5 : Int32) (s0 : Int32 × Int32 × St) : Option (Nat × (Int32 × Int32 × St)) :=
  if x5 ≤ s0.2.1 then (some (0, (s0.1, s0.2.1, s0.2.2))) else ((fRoom_peekRef L s0.2.2 x4 s0.2.1).bind fun p73 => (fRoom_noteFound L p73.2 p73.1 s0.1).bind fun p77 => some (1, (p77.1, (s0.2.1 + 1), p77.2)))
def fRoom_countReachableCells_B14 (L : Nat) (s0 : Int32 × Int32 × Int32 × St) : Option (Nat × (Int32 × Int32 × Int32 × St)) :=
  if s0.2.1 ≤ s0.2.2.1 then (some (0, (s0.1, s0.2.1, s0.2.2.1, s0.2.2.2))) else (if (nI L) ≤ s0.2.2.1 then (some (0, (s0.1, s0.2.1, s0.2.2.1, s0.2.2.2))) else (if ix s0.2.2.1 L then ((fRoom_refsOf L s0.2.2.2 ((s0.2.2.2.2 11) s0.2.2.1.toNatClampNeg)).bind fun p39 => if ix ((s0.2.2.2.2 11) s0.2.2.1.toNatClampNeg) L then ((fRoom_sizeIn L p39.2 ((p39.2.2 10) ((s0.2.2.2.2 11) s0.2.2.1.toNatClampNeg).toNatClampNeg)).bind fun p52 => (rbLoop (fRoom_countReachableCells_B60 L (s0.1 + p52.1) s0.2.2.1 ((s0.2.2.2.2 11) s0.2.2.1.toNatClampNeg) p39.1) rbF (s0.2.1, 0, p52.2)).bind fun q60 => some (1, ((s0.1 + p52.1), q60.2.1, (s0.2.2.1 + 1), q60.2.2.2))) else none) else none))
def fRoom_countReachableCells_B95 (L : Nat) (x1 x2 : Int32) (s0 : Int32 × St) : Option (Nat × (Int32 × St)) :=
  if x2 ≤ s0.1 then (some (0, (s0.1, s0.2))) else (if ix s0.1 L then (if ix ((s0.2.2 11) s0.1.toNatClampNeg) L then (some (1, ((s0.1 + 1), (s0.2.1, va_up s0.2.2 12 (upd (s0.2.2 12) ((s0.2.2 11) s0.1.toNatClampNeg).toNatClampNeg 0))))) else none) else none)
def fRoom_countReachableCells_J93 (L : Nat) (σ : St) (x1 x2 : Int32) : Option (Int32 × St) :=
  (rbLoop (fRoom_countReachableCells_B95 L x1 x2) rbF (0, σ)).bind fun q95 => some (x1, q95.2.2)
def fRoom_countReachableCells (L : Nat) (σ : St) : Option (Int32 × St) :=
  (fRoom_noteFound L σ (σ.1 11) 0).bind fun p8 => (rbLoop (fRoom_countReachableCells_B14 L) rbF (0, p8.1, 0, p8.2)).bind fun q14 => fRoom_countReachableCells_J93 L q14.2.2.2.2 q14.2.1 q14.2.2.1
def fRoom_moveOld (L : Nat) (σ : St) (x1 : Int32) : Option (Int32 × St) :=
  if ix x1 L then ((fRoom_sizeIn L σ ((σ.2 10) x1.toNatClampNeg)).bind fun p6 => (fRoom_freeCells L p6.2).bind fun p12 => if p6.1 ≤ p12.1 then (if cpyOk x1 (p12.2.1 13) p6.1 L then (if ix x1 L then (some (p12.2.1 13, (upd (upd p12.2.1 13 ((p12.2.1 13) + p6.1)) 19 ((p12.2.1 19) + p6.1), va_up (va_up p12.2.2 10 (va_cpy (p12.2.2 10) (p12.2.2 10) x1.toNatClampNeg (p12.2.1 13).toNatClampNeg p6.1.toNatClampNeg)) 10 (upd (va_cpy (p12.2.2 10) (p12.2.2 10) x1.toNatClampNeg (p12.2.1 13).toNatClampNeg p6.1.toNatClampNeg) x1.toNatClampNeg ((-1 : Int32) - (p12.2.1 13)))))) else none) else none) else (some (x1, (upd p12.2.1 20 1, p12.2.2)))) else none
def fRoom_flip_J16 (L : Nat) (σ : St) (s0 : Int32) : Option (St) :=
  (fRoom_useSpace L σ s0).bind fun p16 => (fRoom_moveOld L (upd p16.1 18 ((p16.1 18) + 1), p16.2) (p16.1 11)).bind fun p35 => some (upd p35.2.1 11 p35.1, p35.2.2)
def fRoom_flip (L : Nat) (σ : St) : Option St :=
  if (σ.1 12) = 0 then (fRoom_flip_J16 L σ (σ.1 9)) else (fRoom_flip_J16 L σ 0)
def fRoom_bring_J26 (L : Nat) (σ : St) (x1 s0 : Int32) : Option (Int32 × St) :=
  if x1 = (-1) then (some (x1, σ)) else (if s0 = 0 then (if ix x1 L then (if 0 ≤ ((σ.2 10) x1.toNatClampNeg) then ((fRoom_moveOld L σ x1).bind fun p57 => some (p57.1, p57.2)) else ((fRoom_movedTo L σ x1).bind fun p49 => some (p49.1, p49.2))) else none) else (some (x1, σ)))
def fRoom_bring_J25 (L : Nat) (σ : St) (x1 : Int32) : Option (Int32 × St) :=
  fRoom_bring_J26 L σ x1 0
def fRoom_bring (L : Nat) (σ : St) (x1 : Int32) : Option (Int32 × St) :=
  if x1 < (σ.1 12) then (fRoom_bring_J25 L σ x1) else (if ((σ.1 12) + (σ.1 9)) ≤ x1 then (fRoom_bring_J25 L σ x1) else (fRoom_bring_J26 L σ x1 1))
def fRoom_readRef (L : Nat) (σ : St) (x1 x2 : Int32) : Option (Int32 × St) :=
  if ix ((x1 + 1) + x2) L then ((fRoom_bring L σ ((σ.2 10) ((x1 + 1) + x2).toNatClampNeg)).bind fun p18 => if ix ((x1 + 1) + x2) L then (if ix ((x1 + 1) + x2) L then (some ((upd (p18.2.2 10) ((x1 + 1) + x2).toNatClampNeg p18.1) ((x1 + 1) + x2).toNatClampNeg, (p18.2.1, va_up p18.2.2 10 (upd (p18.2.2 10) ((x1 + 1) + x2).toNatClampNeg p18.1)))) else none) else none) else none
def fRoom_scanCells_B2_J117 (L : Nat) (σ : St) (x1 x2 : Int32) : Option (Nat × (Int32 × St)) :=
  some (1, ((x2 + 1), σ))
def fRoom_scanCells_B2 (L : Nat) (x1 : Int32) (s0 : Int32 × St) : Option (Nat × (Int32 × St)) :=
  if x1 ≤ s0.1 then (some (0, (s0.1, s0.2))) else (if (s0.2.1 13) ≤ (s0.2.1 14) then (some (0, (s0.1, s0.2))) else (if (s0.2.1 20) = 0 then (if (s0.2.1 14) = (s0.2.1 15) then (if ix (s0.2.1 14) L then ((fRoom_refsIn L (upd (upd s0.2.1 14 ((s0.2.1 14) + 1)) 19 ((s0.2.1 19) + 1), s0.2.2) ((s0.2.2 10) (s0.2.1 14).toNatClampNeg)).bind fun p68 => if ix (s0.2.1 14) L then ((fRoom_sizeIn L (upd p68.2.1 16 (((s0.2.1 14) + 1) + p68.1), p68.2.2) ((p68.2.2 10) (s0.2.1 14).toNatClampNeg)).bind fun p83 => fRoom_scanCells_B2_J117 L (upd p83.2.1 15 ((s0.2.1 14) + p83.1), p83.2.2) x1 s0.1) else none) else none) else (if (s0.2.1 16) ≤ (s0.2.1 14) then (fRoom_scanCells_B2_J117 L (upd (upd s0.2.1 14 ((s0.2.1 14) + 1)) 19 ((s0.2.1 19) + 1), s0.2.2) x1 s0.1) else (if ix (s0.2.1 14) L then ((fRoom_bring L (upd (upd s0.2.1 14 ((s0.2.1 14) + 1)) 19 ((s0.2.1 19) + 1), s0.2.2) ((s0.2.2 10) (s0.2.1 14).toNatClampNeg)).bind fun p113 => if ix (s0.2.1 14) L then (fRoom_scanCells_B2_J117 L (p113.2.1, va_up p113.2.2 10 (upd (p113.2.2 10) (s0.2.1 14).toNatClampNeg p113.1)) x1 s0.1) else none) else none))) else (some (0, (s0.1, s0.2)))))
def fRoom_scanCells (L : Nat) (σ : St) (x1 : Int32) : Option St :=
  (rbLoop (fRoom_scanCells_B2 L x1) rbF (0, σ)).bind fun q2 => some q2.2.2
def fRoom_make_B106_J134 (L : Nat) (σ : St) (x2 x3 x4 s0 s1 : Int32) : Option (Nat × (Int32 × St)) :=
  if ix s1 L then (some (1, ((x4 + 1), (σ.1, va_up σ.2 10 (upd (σ.2 10) s1.toNatClampNeg s0))))) else none
def fRoom_make_B106 (L : Nat) (x2 x3 : Int32) (s0 : Int32 × St) : Option (Nat × (Int32 × St)) :=
  if x2 ≤ s0.1 then (some (0, (s0.1, s0.2))) else (if x3 < s0.1 then (fRoom_make_B106_J134 L s0.2 x2 x3 s0.1 0 ((s0.2.1 17) + s0.1)) else (fRoom_make_B106_J134 L s0.2 x2 x3 s0.1 (-1) ((s0.2.1 17) + s0.1)))
def fRoom_make_J66 (L : Nat) (σ : St) (x1 x2 s0 : Int32) : Option (Int32 × St) :=
  if (s0 = 0 ∨ s0 = 1) then (if s0 = 0 then ((fRoom_refsIn L (upd (upd σ.1 20 s0) 17 ((σ.1 17) - x2), σ.2) x1).bind fun p89 => if ix (p89.2.1 17) L then ((rbLoop (fRoom_make_B106 L x2 p89.1) rbF (1, (p89.2.1, va_up p89.2.2 10 (upd (p89.2.2 10) (p89.2.1 17).toNatClampNeg x1)))).bind fun q106 => some (q106.2.2.1 17, q106.2.2)) else none) else (some ((-1), (upd σ.1 20 s0, σ.2)))) else none
def fRoom_make_J61 (L : Nat) (σ : St) (x1 x2 : Int32) : Option (Int32 × St) :=
  fRoom_make_J66 L σ x1 x2 1
def fRoom_make_J45 (L : Nat) (σ : St) (x1 x2 : Int32) : Option (Int32 × St) :=
  if (σ.1 20) = 0 then ((fRoom_freeCells L σ).bind fun p55 => if x2 ≤ p55.1 then (fRoom_make_J66 L p55.2 x1 x2 0) else (fRoom_make_J61 L p55.2 x1 x2)) else (fRoom_make_J61 L σ x1 x2)
def fRoom_make (L : Nat) (σ : St) (x1 : Int32) : Option (Int32 × St) :=
  (fRoom_sizeIn L σ x1).bind fun p1 => (fRoom_scanCells L p1.2 ((p1.2.1 10) * p1.1)).bind fun p12 => if (p12.1 20) = 0 then ((fRoom_freeCells L p12).bind fun p24 => if p1.1 ≤ p24.1 then (fRoom_make_J45 L p24.2 x1 p1.1) else (if (p24.2.1 14) = (p24.2.1 13) then ((fRoom_flip L p24.2).bind fun p42 => fRoom_make_J45 L p42 x1 p1.1) else (fRoom_make_J45 L p24.2 x1 p1.1))) else (fRoom_make_J45 L p12 x1 p1.1)
def fRoom_restart (L : Nat) (σ : St) (x1 : Int32) : Option St :=
  (fRoom_useSpace L σ 0).bind fun p2 => (fRoom_headOfFrame L (upd (upd p2.1 18 0) 20 0, p2.2) x1).bind fun p18 => (fRoom_make L p18.2 p18.1).bind fun p21 => some (upd p21.2.1 11 p21.1, p21.2.2)
def fKinds_has (L : Nat) (σ : St) (x1 : Int32) : Option (Int32 × St) :=
  if x1 < 0 then (some (0, σ)) else (if (σ.1 6) ≤ x1 then (some (0, σ)) else (some (1, σ)))
def fKinds_enter (L : Nat) (σ : St) (x1 x2 x3 : Int32) : Option St :=
  if ix ((x1 * 4) + x2) 16 then (some (σ.1, va_up σ.2 3 (upd (σ.2 3) ((x1 * 4) + x2).toNatClampNeg x3))) else none
def fKinds_entry (L : Nat) (σ : St) (x1 x2 : Int32) : Option (Int32 × St) :=
  (fKinds_has L σ x1).bind fun p2 => if p2.1 = 0 then (some ((-1), p2.2)) else (if ix ((x1 * 4) + x2) 16 then (some ((p2.2.2 3) ((x1 * 4) + x2).toNatClampNeg, p2.2)) else none)
def fKinds_load_B90 (L : Nat) (x1 x2 x3 x6 : Int32) (s0 : Int32 × St) : Option (Nat × (Int32 × St)) :=
  if 4 ≤ s0.1 then (some (0, (s0.1, s0.2))) else ((fKinds_entry L s0.2 x1 s0.1).bind fun p105 => (fKinds_enter L p105.2 x6 s0.1 p105.1).bind fun p108 => some (1, ((s0.1 + 1), p108)))
def fKinds_load_J55 (L : Nat) (σ : St) (x1 x2 x3 x4 s0 : Int32) : Option (Int32 × St) :=
  if x2 < x4 then (some ((-1), σ)) else (if 3 < x2 then (some ((-1), σ)) else (if x3 < s0 then (some ((-1), σ)) else (if x3 ≤ 3 then ((rbLoop (fKinds_load_B90 L x1 x2 x3 (σ.1 6)) rbF (0, σ)).bind fun q90 => if ix (σ.1 6) 4 then (if ix (σ.1 6) 4 then (some (σ.1 6, (upd q90.2.2.1 6 ((q90.2.2.1 6) + 1), va_up (va_up q90.2.2.2 1 (upd (q90.2.2.2 1) (σ.1 6).toNatClampNeg x2)) 2 (upd (q90.2.2.2 2) (σ.1 6).toNatClampNeg x3)))) else none) else none) else (some ((-1), σ)))))
def fKinds_load_J38 (L : Nat) (σ : St) (x1 x2 x3 s0 : Int32) : Option (Int32 × St) :=
  if x1 = (-1) then (fKinds_load_J55 L σ x1 x2 x3 s0 0) else (if ix x1 4 then (fKinds_load_J55 L σ x1 x2 x3 s0 ((σ.2 2) x1.toNatClampNeg)) else none)
def fKinds_load_J23 (L : Nat) (σ : St) (x1 x2 x3 : Int32) : Option (Int32 × St) :=
  if x1 = (-1) then (fKinds_load_J38 L σ x1 x2 x3 0) else (if ix x1 4 then (fKinds_load_J38 L σ x1 x2 x3 ((σ.2 1) x1.toNatClampNeg)) else none)
def fKinds_load (L : Nat) (σ : St) (x1 x2 x3 : Int32) : Option (Int32 × St) :=
  if (σ.1 6) = 4 then (some ((-1), σ)) else (if x1 = (-1) then (fKinds_load_J23 L σ x1 x2 x3) else ((fKinds_has L σ x1).bind fun p15 => if p15.1 = 0 then (some ((-1), p15.2)) else (fKinds_load_J23 L p15.2 x1 x2 x3)))
def fKinds_headOf (L : Nat) (σ : St) (x1 : Int32) : Option (Int32 × St) :=
  if ix x1 4 then (if ix x1 4 then ((fRoom_headOf L σ x1 ((σ.2 1) x1.toNatClampNeg) ((σ.2 2) x1.toNatClampNeg)).bind fun p13 => some (p13.1, p13.2)) else none) else none
def fMeths_isFinished (L : Nat) (σ : St) (x1 : Int32) : Option (Int32 × St) :=
  if x1 < 0 then (some (0, σ)) else (if (σ.1 7) ≤ x1 then (some (0, σ)) else (some (1, σ)))
def fMeths_isOpenOneFull (L : Nat) (σ : St) : Option (Int32 × St) :=
  if ix (σ.1 7) 6 then (if ((σ.2 5) (σ.1 7).toNatClampNeg) = 12 then (some (1, σ)) else (some (0, σ))) else none
def fMeths_find (L : Nat) (σ : St) (x1 x2 : Int32) : Option (Int32 × St) :=
  some ((x1 * 12) + x2, σ)
def fMeths_open (L : Nat) (σ : St) (x1 : Int32) : Option (Int32 × St) :=
  if (σ.1 8) = 0 then (if (σ.1 7) = 6 then (some ((-1), σ)) else (if x1 < (-1) then (some ((-1), σ)) else (if x1 < 12 then (if ix (σ.1 7) 6 then (if ix (σ.1 7) 6 then (some (σ.1 7, (upd σ.1 8 1, va_up (va_up σ.2 4 (upd (σ.2 4) (σ.1 7).toNatClampNeg x1)) 5 (upd (σ.2 5) (σ.1 7).toNatClampNeg 0)))) else none) else none) else (some ((-1), σ))))) else (some ((-1), σ))
def fMeths_add (L : Nat) (σ : St) (x1 x2 x3 x4 : Int32) : Option St :=
  if ix (σ.1 7) 6 then ((fMeths_find L σ (σ.1 7) ((σ.2 5) (σ.1 7).toNatClampNeg)).bind fun p14 => if ix p14.1 72 then (if ix p14.1 72 then (if ix p14.1 72 then (if ix p14.1 72 then (if ix (p14.2.1 7) 6 then (if ix (p14.2.1 7) 6 then (some (p14.2.1, va_up (va_up (va_up (va_up (va_up p14.2.2 6 (upd (p14.2.2 6) p14.1.toNatClampNeg x1)) 7 (upd (p14.2.2 7) p14.1.toNatClampNeg x2)) 8 (upd (p14.2.2 8) p14.1.toNatClampNeg x3)) 9 (upd (p14.2.2 9) p14.1.toNatClampNeg x4)) 5 (upd (p14.2.2 5) (p14.2.1 7).toNatClampNeg (((p14.2.2 5) (p14.2.1 7).toNatClampNeg) + 1)))) else none) else none) else none) else none) else none) else none) else none
def fMeths_giveUp (L : Nat) (σ : St) : Option (Int32 × St) :=
  if (σ.1 8 = 0 ∨ σ.1 8 = 1) then some (σ.1 8, (upd σ.1 8 0, σ.2)) else none
def fMeths_endsWell (L : Nat) (σ : St) : Option (Int32 × St) :=
  if ix (σ.1 7) 6 then (if ((σ.2 5) (σ.1 7).toNatClampNeg) = 0 then (some (0, σ)) else ((fMeths_find L σ (σ.1 7) (((σ.2 5) (σ.1 7).toNatClampNeg) - 1)).bind fun p28 => if ix p28.1 72 then (if ((p28.2.2 6) p28.1.toNatClampNeg) = 9 then (some (1, p28.2)) else (if ((p28.2.2 6) p28.1.toNatClampNeg) = 13 then (some (1, p28.2)) else (if ((p28.2.2 6) p28.1.toNatClampNeg) = 14 then (some (1, p28.2)) else (some (0, p28.2))))) else none)) else none
def fMeths_staysInside_B12_J84 (L : Nat) (σ : St) (x1 x2 : Int32) : Option (Nat × (Int32 × St)) :=
  some (1, ((x2 + 1), σ))
def fMeths_staysInside_B12_J65 (L : Nat) (σ : St) (x1 x2 x3 s0 : Int32) : Option (Nat × (Int32 × St)) :=
  if s0 = 0 then (fMeths_staysInside_B12_J84 L σ x1 x2) else (if ix x3 72 then (if ((σ.2 9) x3.toNatClampNeg) < x1 then (fMeths_staysInside_B12_J84 L σ x1 x2) else (some (2, (x2, σ)))) else none)
def fMeths_staysInside_B12_J60 (L : Nat) (σ : St) (x1 x2 x3 : Int32) : Option (Nat × (Int32 × St)) :=
  fMeths_staysInside_B12_J65 L σ x1 x2 x3 1
def fMeths_staysInside_B12 (L : Nat) (x1 : Int32) (s0 : Int32 × St) : Option (Nat × (Int32 × St)) :=
  if x1 ≤ s0.1 then (some (0, (s0.1, s0.2))) else ((fMeths_find L s0.2 (s0.2.1 7) s0.1).bind fun p23 => if ix p23.1 72 then (if ((p23.2.2 6) p23.1.toNatClampNeg) = 9 then (fMeths_staysInside_B12_J60 L p23.2 x1 s0.1 p23.1) else (if ix p23.1 72 then (if ((p23.2.2 6) p23.1.toNatClampNeg) = 10 then (fMeths_staysInside_B12_J60 L p23.2 x1 s0.1 p23.1) else (if ix p23.1 72 then (if ((p23.2.2 6) p23.1.toNatClampNeg) = 11 then (fMeths_staysInside_B12_J60 L p23.2 x1 s0.1 p23.1) else (fMeths_staysInside_B12_J65 L p23.2 x1 s0.1 p23.1 0)) else none)) else none)) else none)
def fMeths_staysInside (L : Nat) (σ : St) : Option (Int32 × St) :=
  if ix (σ.1 7) 6 then ((rbLoop (fMeths_staysInside_B12 L ((σ.2 5) (σ.1 7).toNatClampNeg)) rbF (0, σ)).bind fun q12 => if q12.1 = 0 then (if ix (q12.2.2.1 7) 6 then (if ((σ.2 5) (σ.1 7).toNatClampNeg) ≤ ((q12.2.2.2 4) (q12.2.2.1 7).toNatClampNeg) then (some (0, q12.2.2)) else (some (1, q12.2.2))) else none) else (some (0, q12.2.2))) else none
def fMeths_finish (L : Nat) (σ : St) : Option (Int32 × St) :=
  if (σ.1 8) = 0 then (some (0, σ)) else ((fMeths_endsWell L σ).bind fun p8 => if p8.1 = 0 then (some (0, p8.2)) else ((fMeths_staysInside L p8.2).bind fun p15 => if p15.1 = 0 then (some (0, p15.2)) else (some (1, (upd (upd p15.2.1 8 0) 7 ((p15.2.1 7) + 1), p15.2.2)))))
def fMach_kind (L : Nat) (σ : St) (x1 x2 x3 : Int32) : Option (Int32 × St) :=
  (fKinds_load L σ x1 x2 x3).bind fun p7 => some (p7.1, p7.2)
def fMach_bind (L : Nat) (σ : St) (x1 x2 x3 : Int32) : Option (Int32 × St) :=
  (fKinds_has L σ x1).bind fun p5 => if p5.1 = 0 then (some (0, p5.2)) else (if x2 < 0 then (some (0, p5.2)) else (if 4 ≤ x2 then (some (0, p5.2)) else ((fMeths_isFinished L p5.2 x3).bind fun p25 => if p25.1 = 0 then (some (0, p25.2)) else ((fKinds_enter L p25.2 x1 x2 x3).bind fun p40 => some (1, p40)))))
def fMach_method (L : Nat) (σ : St) (x1 : Int32) : Option (Int32 × St) :=
  (fMeths_open L σ x1).bind fun p5 => some (p5.1, p5.2)
def fMach_seal (L : Nat) (σ : St) : Option (Int32 × St) :=
  (fMeths_finish L σ).bind fun p4 => if (p4.1 = 0 ∨ p4.1 = 1) then some (p4.1, p4.2) else none
def fMach_drop (L : Nat) (σ : St) : Option (Int32 × St) :=
  (fMeths_giveUp L σ).bind fun p4 => if (p4.1 = 0 ∨ p4.1 = 1) then some (p4.1, p4.2) else none
def fMach_start (L : Nat) (σ : St) (x1 x2 : Int32) : Option (Int32 × St) :=
  (fMeths_isFinished L σ x1).bind fun p5 => if p5.1 = 0 then (some (0, p5.2)) else ((fRoom_restart L p5.2 x1).bind fun p18 => (fRoom_setInt L p18 (p18.1 11) 0 x2).bind fun p34 => some (1, (upd (upd (upd (upd (upd p34.1 1 0) 2 0) 3 0) 0 0) 5 0, p34.2)))
def fMach_state (L : Nat) (σ : St) : Option (Int32 × St) :=
  some (σ.1 1, σ)
def fMach_result (L : Nat) (σ : St) : Option (Int32 × St) :=
  some (σ.1 2, σ)
def fMach_work (L : Nat) (σ : St) : Option (Int32 × St) :=
  some (σ.1 5, σ)
def fMach_used (L : Nat) (σ : St) : Option (Int32 × St) :=
  if (σ.1 1) = 4 then (some (0, σ)) else ((fRoom_usedCells L σ).bind fun p16 => some (p16.1, p16.2))
def fMach_grey (L : Nat) (σ : St) : Option (Int32 × St) :=
  (fRoom_cellsToScan L σ).bind fun p4 => some (p4.1, p4.2)
def fMach_flips (L : Nat) (σ : St) : Option (Int32 × St) :=
  some (σ.1 18, σ)
def fMach_depth (L : Nat) (σ : St) : Option (Int32 × St) :=
  if (σ.1 1) = 4 then (some (0, σ)) else ((fRoom_countFrames L σ).bind fun p16 => some (p16.1, p16.2))
def fMach_live (L : Nat) (σ : St) : Option (Int32 × St) :=
  if (σ.1 1) = 4 then (some (0, σ)) else ((fRoom_countReachableCells L σ).bind fun p16 => some (p16.1, p16.2))
def fMach_number (L : Nat) (σ : St) (x1 : Int32) : Option (Int32 × St) :=
  if (σ.1 1) = 4 then (some (0, σ)) else (if x1 < 0 then (some (0, σ)) else (if x1 ≤ 3 then ((fRoom_intOf L σ (σ.1 11) x1).bind fun p31 => some (p31.1, p31.2)) else (some (0, σ))))
def fMach_isRegister (L : Nat) (σ : St) (x0 : Int32) : Option (Int32 × St) :=
  if x0 < 0 then (some (0, σ)) else (if 3 ≤ x0 then (some (0, σ)) else (some (1, σ)))
def fMach_kindAt_J85 (L : Nat) (σ : St) (x3 : Int32) : Option (Int32 × St) :=
  if x3 = (-1) then (some ((-1), σ)) else ((fRoom_idOf L σ x3).bind fun p99 => some (p99.1, p99.2))
def fMach_kindAt_J84 (L : Nat) (σ : St) (s0 : Int32) : Option (Int32 × St) :=
  fMach_kindAt_J85 L σ s0
def fMach_kindAt_J64 (L : Nat) (σ : St) (x2 x3 s0 : Int32) : Option (Int32 × St) :=
  if s0 = 0 then (fMach_kindAt_J84 L σ (-1)) else ((fRoom_peekRef L σ x3 x2).bind fun p77 => fMach_kindAt_J84 L p77.2 p77.1)
def fMach_kindAt_J63 (L : Nat) (σ : St) (x2 x3 : Int32) : Option (Int32 × St) :=
  fMach_kindAt_J64 L σ x2 x3 0
def fMach_kindAt (L : Nat) (σ : St) (x1 x2 : Int32) : Option (Int32 × St) :=
  if (σ.1 1) = 4 then (some ((-1), σ)) else ((fMach_isRegister L σ x1).bind fun p9 => if p9.1 = 0 then (some ((-1), p9.2)) else ((fRoom_peekRef L p9.2 (p9.2.1 11) x1).bind fun p29 => if p29.1 = (-1) then (fMach_kindAt_J85 L p29.2 p29.1) else (if x2 = (-1) then (fMach_kindAt_J85 L p29.2 p29.1) else (if x2 < 0 then (fMach_kindAt_J63 L p29.2 x2 p29.1) else ((fRoom_refsOf L p29.2 p29.1).bind fun p53 => if p53.1 ≤ x2 then (fMach_kindAt_J63 L p53.2 x2 p29.1) else (fMach_kindAt_J64 L p53.2 x2 p29.1 1))))))
def fMach_slotOfShown (L : Nat) (σ : St) (x0 : Int32) : Option (Int32 × St) :=
  some (x0 &&& 7, σ)
def fMach_shown (L : Nat) (σ : St) (x1 : Int32) : Option (Int32 × St) :=
  if x1 = (-1) then (some (σ.1 0, σ)) else (if x1 < 0 then (some (0, σ)) else (if 8 ≤ x1 then (some (0, σ)) else (if x1 < (σ.1 0) then ((fMach_slotOfShown L σ (((σ.1 0) - 1) - x1)).bind fun p42 => if ix p42.1 8 then (some ((p42.2.2 0) p42.1.toNatClampNeg, p42.2)) else none) else (some (0, σ)))))
def fMach_isAsSaid_J36 (L : Nat) (σ : St) (x1 x4 : Int32) : Option (Int32 × St) :=
  if x1 = 2 then ((fKinds_has L σ x4).bind fun p47 => if (p47.1 = 0 ∨ p47.1 = 1) then some (p47.1, p47.2) else none) else (if ix x1 16 then (if (tX2 x1.toNatClampNeg) = (-1) then (some (1, σ)) else (if x4 < 0 then (some (0, σ)) else (if ix x1 16 then (if (tX2 x1.toNatClampNeg) ≤ x4 then (some (0, σ)) else (some (1, σ))) else none))) else none)
def fMach_isAsSaid_J18 (L : Nat) (σ : St) (x1 x3 x4 : Int32) : Option (Int32 × St) :=
  if ix x1 16 then (if (tX1 x1.toNatClampNeg) = 1 then ((fMach_isRegister L σ x3).bind fun p28 => if p28.1 = 0 then (some (0, p28.2)) else (fMach_isAsSaid_J36 L p28.2 x1 x4)) else (fMach_isAsSaid_J36 L σ x1 x4)) else none
def fMach_isAsSaid (L : Nat) (σ : St) (x1 x2 x3 x4 : Int32) : Option (Int32 × St) :=
  if ix x1 16 then (if (tX0 x1.toNatClampNeg) = 1 then ((fMach_isRegister L σ x2).bind fun p10 => if p10.1 = 0 then (some (0, p10.2)) else (fMach_isAsSaid_J18 L p10.2 x1 x3 x4)) else (fMach_isAsSaid_J18 L σ x1 x3 x4)) else none
def fMach_code (L : Nat) (σ : St) (x1 x2 x3 x4 : Int32) : Option (Int32 × St) :=
  if (σ.1 8) = 0 then (some (1, σ)) else ((fMeths_isOpenOneFull L σ).bind fun p16 => if p16.1 = 0 then (if x1 < 0 then (some (3, p16.2)) else (if x1 < 16 then ((fMach_isAsSaid L p16.2 x1 x2 x3 x4).bind fun p42 => if p42.1 = 0 then (some (4, p42.2)) else ((fMeths_add L p42.2 x1 x2 x3 x4).bind fun p59 => some (0, p59))) else (some (3, p16.2)))) else (some (2, p16.2)))
def fMach_doNew (L : Nat) (σ : St) (x1 x2 : Int32) : Option St :=
  (fKinds_headOf L σ x2).bind fun p9 => (fRoom_make L p9.2 p9.1).bind fun p12 => if (p12.2.1 20) = 0 then ((fRoom_setRef L p12.2 (p12.2.1 11) x1 p12.1).bind fun p39 => some p39) else (some p12.2)
def fMach_doCopy (L : Nat) (σ : St) (x1 x2 : Int32) : Option St :=
  (fRoom_readRef L σ (σ.1 11) x2).bind fun p12 => if (p12.2.1 20) = 0 then ((fRoom_setRef L p12.2 (p12.2.1 11) x1 p12.1).bind fun p39 => some p39) else (some p12.2)
def fMach_raise (L : Nat) (σ : St) (x1 : Int32) : Option St :=
  some (upd (upd σ.1 3 1) 4 x1, σ.2)
def fMach_isThere (L : Nat) (σ : St) (x1 : Int32) : Option (Int32 × St) :=
  if (σ.1 20) = 0 then (if x1 = (-1) then ((fMach_raise L σ 1).bind fun p19 => some (0, p19)) else (some (1, σ))) else (some (0, σ))
def fMach_hasPart (L : Nat) (σ : St) (x1 x2 : Int32) : Option (Int32 × St) :=
  if x1 < x2 then (some (1, σ)) else ((fMach_raise L σ 2).bind fun p7 => some (0, p7))
def fMach_hasRef (L : Nat) (σ : St) (x1 x2 : Int32) : Option (Int32 × St) :=
  (fMach_isThere L σ x1).bind fun p2 => if p2.1 = 0 then (some (0, p2.2)) else ((fRoom_refsOf L p2.2 x1).bind fun p15 => (fMach_hasPart L p15.2 x2 p15.1).bind fun p18 => if p18.1 = 0 then (some (0, p18.2)) else (some (1, p18.2)))
def fMach_doGet (L : Nat) (σ : St) (x1 x2 x3 : Int32) : Option St :=
  (fRoom_readRef L σ (σ.1 11) x2).bind fun p12 => (fMach_hasRef L p12.2 p12.1 x3).bind fun p21 => if p21.1 = 0 then (some p21.2) else ((fRoom_readRef L p21.2 p12.1 x3).bind fun p35 => if (p35.2.1 20) = 0 then ((fRoom_setRef L p35.2 (p35.2.1 11) x1 p35.1).bind fun p64 => some p64) else (some p35.2))
def fMach_doPut (L : Nat) (σ : St) (x1 x2 x3 : Int32) : Option St :=
  (fRoom_readRef L σ (σ.1 11) x1).bind fun p12 => (fMach_hasRef L p12.2 p12.1 x3).bind fun p21 => if p21.1 = 0 then (some p21.2) else ((fRoom_readRef L p21.2 (p21.2.1 11) x2).bind fun p40 => if (p40.2.1 20) = 0 then ((fRoom_setRef L p40.2 p12.1 x3 p40.1).bind fun p64 => some p64) else (some p40.2))
def fMach_hasInt (L : Nat) (σ : St) (x1 x2 : Int32) : Option (Int32 × St) :=
  (fMach_isThere L σ x1).bind fun p2 => if p2.1 = 0 then (some (0, p2.2)) else ((fRoom_intsOf L p2.2 x1).bind fun p15 => (fMach_hasPart L p15.2 x2 p15.1).bind fun p18 => if p18.1 = 0 then (some (0, p18.2)) else (some (1, p18.2)))
def fMach_methodOfCurrent (L : Nat) (σ : St) : Option (Int32 × St) :=
  (fRoom_idOf L σ (σ.1 11)).bind fun p11 => (fRoom_methodOfFrame L p11.2 p11.1).bind fun p14 => some (p14.1, p14.2)
def fMach_numberIn (L : Nat) (σ : St) (x1 : Int32) : Option (Int32 × St) :=
  (fRoom_intOf L σ (σ.1 11) x1).bind fun p12 => some (p12.1, p12.2)
def fMach_doStore (L : Nat) (σ : St) (x1 x2 x3 : Int32) : Option St :=
  (fRoom_readRef L σ (σ.1 11) x1).bind fun p12 => (fMach_hasInt L p12.2 p12.1 x3).bind fun p21 => if p21.1 = 0 then (some p21.2) else ((fMach_numberIn L p21.2 x2).bind fun p36 => (fRoom_setInt L p36.2 p12.1 x3 p36.1).bind fun p39 => some p39)
def fMach_enterFrame (L : Nat) (σ : St) (x1 x2 x3 : Int32) : Option St :=
  (fRoom_setRef L σ x1 0 x2).bind fun p7 => (fRoom_setRef L p7 x1 1 x3).bind fun p17 => (fRoom_setRef L p17 x1 3 (p17.1 11)).bind fun p33 => (fMach_numberIn L p33 0).bind fun p44 => (fRoom_setInt L p44.2 x1 0 p44.1).bind fun p47 => some (upd p47.1 11 x1, p47.2)
def fMach_doCall (L : Nat) (σ : St) (x1 x2 x3 : Int32) : Option St :=
  (fRoom_readRef L σ (σ.1 11) x1).bind fun p12 => (fMach_isThere L p12.2 p12.1).bind fun p20 => if p20.1 = 0 then (some p20.2) else ((fRoom_idOf L p20.2 p12.1).bind fun p37 => (fKinds_entry L p37.2 p37.1 x3).bind fun p41 => if p41.1 = (-1) then ((fMach_raise L p41.2 3).bind fun p54 => some p54) else ((fRoom_headOfFrame L p41.2 p41.1).bind fun p64 => (fRoom_make L p64.2 p64.1).bind fun p67 => if (p67.2.1 20) = 0 then ((fRoom_readRef L p67.2 (p67.2.1 11) x1).bind fun p95 => if (p95.2.1 20) = 0 then ((fRoom_readRef L p95.2 (p95.2.1 11) x2).bind fun p123 => if (p123.2.1 20) = 0 then ((fMach_enterFrame L p123.2 p67.1 p95.1 p123.1).bind fun p146 => some p146) else (some p123.2)) else (some p95.2)) else (some p67.2)))
def fMach_doShow (L : Nat) (σ : St) (x1 : Int32) : Option St :=
  (fMach_slotOfShown L σ (σ.1 0)).bind fun p8 => (fMach_numberIn L p8.2 x1).bind fun p13 => if ix p8.1 8 then (some (upd p13.2.1 0 ((p13.2.1 0) + 1), va_up p13.2.2 0 (upd (p13.2.2 0) p8.1.toNatClampNeg p13.1))) else none
def fMach_setNumber (L : Nat) (σ : St) (x1 x2 : Int32) : Option St :=
  (fRoom_setInt L σ (σ.1 11) x1 x2).bind fun p13 => some p13
def fMach_doLoad (L : Nat) (σ : St) (x1 x2 x3 : Int32) : Option St :=
  (fRoom_readRef L σ (σ.1 11) x2).bind fun p12 => (fMach_hasInt L p12.2 p12.1 x3).bind fun p21 => if p21.1 = 0 then (some p21.2) else ((fRoom_intOf L p21.2 p12.1 x3).bind fun p36 => (fMach_setNumber L p36.2 x1 p36.1).bind fun p39 => some p39)
def fMach_doReturn (L : Nat) (σ : St) (x1 x2 : Int32) : Option St :=
  (fRoom_readRef L σ (σ.1 11) x1).bind fun p12 => if (p12.2.1 20) = 0 then ((fRoom_readRef L p12.2 (p12.2.1 11) 3).bind fun p39 => if (p39.2.1 20) = 0 then ((fMach_numberIn L p39.2 x2).bind fun p57 => if p39.1 = (-1) then (some (upd (upd p57.2.1 1 1) 2 p57.1, p57.2.2)) else ((fRoom_setRef L (upd p57.2.1 11 p39.1, p57.2.2) p39.1 2 p12.1).bind fun p97 => (fMach_setNumber L p97 2 p57.1).bind fun p104 => some p104)) else (some p39.2)) else (some p12.2)
def fMach_setPlace (L : Nat) (σ : St) (x1 : Int32) : Option St :=
  (fRoom_setInt L σ (σ.1 11) 3 x1).bind fun p13 => some p13
def fMach_passException (L : Nat) (σ : St) : Option St :=
  (fMach_methodOfCurrent L σ).bind fun p8 => if ix p8.1 6 then (if ((p8.2.2 4) p8.1.toNatClampNeg) = (-1) then ((fRoom_readRef L p8.2 (p8.2.1 11) 3).bind fun p50 => if (p50.2.1 20) = 0 then (if p50.1 = (-1) then (some (upd (upd p50.2.1 1 2) 2 (p50.2.1 4), p50.2.2)) else (some (upd p50.2.1 11 p50.1, p50.2.2))) else (some p50.2)) else ((fMach_setPlace L p8.2 ((p8.2.2 4) p8.1.toNatClampNeg)).bind fun p20 => (fMach_setNumber L p20 2 (p20.1 4)).bind fun p29 => some (upd p29.1 3 0, p29.2))) else none
def fMach_doZero (L : Nat) (σ : St) (x1 x2 : Int32) : Option St :=
  (fMach_numberIn L σ x1).bind fun p2 => if p2.1 = 0 then ((fMach_setPlace L p2.2 x2).bind fun p10 => some p10) else (some p2.2)
def fMach_doVoid (L : Nat) (σ : St) (x1 x2 : Int32) : Option St :=
  (fRoom_readRef L σ (σ.1 11) x1).bind fun p12 => if p12.1 = (-1) then ((fMach_setPlace L p12.2 x2).bind fun p21 => some p21) else (some p12.2)
def fMach_perform (L : Nat) (σ : St) : Option St :=
  (fRoom_intOf L σ (σ.1 11) 3).bind fun p12 => (fMach_methodOfCurrent L p12.2).bind fun p21 => (fMeths_find L p21.2 p21.1 p12.1).bind fun p25 => (fMach_setPlace L p25.2 (p12.1 + 1)).bind fun p33 => if ix p25.1 72 then (if ix p25.1 72 then (if ix p25.1 72 then (if ix p25.1 72 then (if ((p33.2 6) p25.1.toNatClampNeg).toInt = 0 then ((fMach_setNumber L p33 ((p33.2 7) p25.1.toNatClampNeg) ((p33.2 9) p25.1.toNatClampNeg)).bind fun p160 => some p160) else (if ((p33.2 6) p25.1.toNatClampNeg).toInt = 1 then ((fMach_numberIn L p33 ((p33.2 8) p25.1.toNatClampNeg)).bind fun p171 => (fMach_numberIn L p171.2 ((p33.2 9) p25.1.toNatClampNeg)).bind fun p177 => (fMach_setNumber L p177.2 ((p33.2 7) p25.1.toNatClampNeg) (p171.1 + p177.1)).bind fun p181 => some p181) else (if ((p33.2 6) p25.1.toNatClampNeg).toInt = 2 then ((fMach_doNew L p33 ((p33.2 7) p25.1.toNatClampNeg) ((p33.2 9) p25.1.toNatClampNeg)).bind fun p191 => some p191) else (if ((p33.2 6) p25.1.toNatClampNeg).toInt = 3 then ((fMach_doCopy L p33 ((p33.2 7) p25.1.toNatClampNeg) ((p33.2 8) p25.1.toNatClampNeg)).bind fun p201 => some p201) else (if ((p33.2 6) p25.1.toNatClampNeg).toInt = 4 then ((fRoom_setRef L p33 (p33.1 11) ((p33.2 7) p25.1.toNatClampNeg) (-1)).bind fun p220 => some p220) else (if ((p33.2 6) p25.1.toNatClampNeg).toInt = 5 then ((fMach_doGet L p33 ((p33.2 7) p25.1.toNatClampNeg) ((p33.2 8) p25.1.toNatClampNeg) ((p33.2 9) p25.1.toNatClampNeg)).bind fun p232 => some p232) else (if ((p33.2 6) p25.1.toNatClampNeg).toInt = 6 then ((fMach_doPut L p33 ((p33.2 7) p25.1.toNatClampNeg) ((p33.2 8) p25.1.toNatClampNeg) ((p33.2 9) p25.1.toNatClampNeg)).bind fun p244 => some p244) else (if ((p33.2 6) p25.1.toNatClampNeg).toInt = 7 then ((fMach_doLoad L p33 ((p33.2 7) p25.1.toNatClampNeg) ((p33.2 8) p25.1.toNatClampNeg) ((p33.2 9) p25.1.toNatClampNeg)).bind fun p256 => some p256) else (if ((p33.2 6) p25.1.toNatClampNeg).toInt = 8 then ((fMach_doStore L p33 ((p33.2 7) p25.1.toNatClampNeg) ((p33.2 8) p25.1.toNatClampNeg) ((p33.2 9) p25.1.toNatClampNeg)).bind fun p268 => some p268) else (if ((p33.2 6) p25.1.toNatClampNeg).toInt = 9 then ((fMach_setPlace L p33 ((p33.2 9) p25.1.toNatClampNeg)).bind fun p277 => some p277) else (if ((p33.2 6) p25.1.toNatClampNeg).toInt = 10 then ((fMach_doZero L p33 ((p33.2 7) p25.1.toNatClampNeg) ((p33.2 9) p25.1.toNatClampNeg)).bind fun p287 => some p287) else (if ((p33.2 6) p25.1.toNatClampNeg).toInt = 11 then ((fMach_doVoid L p33 ((p33.2 7) p25.1.toNatClampNeg) ((p33.2 9) p25.1.toNatClampNeg)).bind fun p297 => some p297) else (if ((p33.2 6) p25.1.toNatClampNeg).toInt = 12 then ((fMach_doCall L p33 ((p33.2 7) p25.1.toNatClampNeg) ((p33.2 8) p25.1.toNatClampNeg) ((p33.2 9) p25.1.toNatClampNeg)).bind fun p309 => some p309) else (if ((p33.2 6) p25.1.toNatClampNeg).toInt = 13 then ((fMach_doReturn L p33 ((p33.2 7) p25.1.toNatClampNeg) ((p33.2 8) p25.1.toNatClampNeg)).bind fun p319 => some p319) else (if ((p33.2 6) p25.1.toNatClampNeg).toInt = 14 then ((fMach_numberIn L p33 ((p33.2 7) p25.1.toNatClampNeg)).bind fun p328 => (fMach_raise L p328.2 p328.1).bind fun p331 => some p331) else (if ((p33.2 6) p25.1.toNatClampNeg).toInt = 15 then ((fMach_doShow L p33 ((p33.2 7) p25.1.toNatClampNeg)).bind fun p339 => some p339) else (some p33))))))))))))))))) else none) else none) else none) else none
def fMach_run_B20_J73 (L : Nat) (σ : St) (x1 x2 : Int32) : Option (Nat × (Int32 × St)) :=
  some (1, ((x2 + 1), (upd σ.1 5 (if (σ.1 5) < (σ.1 19) then (σ.1 19) else (σ.1 5)), σ.2)))
def fMach_run_B20_J58 (L : Nat) (σ : St) (x1 x2 : Int32) : Option (Nat × (Int32 × St)) :=
  if (σ.1 20) = 0 then (fMach_run_B20_J73 L σ x1 x2) else (fMach_run_B20_J73 L (upd σ.1 1 3, σ.2) x1 x2)
def fMach_run_B20 (L : Nat) (x1 : Int32) (s0 : Int32 × St) : Option (Nat × (Int32 × St)) :=
  if x1 ≤ s0.1 then (some (0, (s0.1, s0.2))) else (if (s0.2.1 1) = 0 then (if (s0.2.1 3) = 0 then ((fMach_perform L (upd s0.2.1 19 0, s0.2.2)).bind fun p55 => fMach_run_B20_J58 L p55 x1 s0.1) else ((fMach_passException L (upd s0.2.1 19 0, s0.2.2)).bind fun p48 => fMach_run_B20_J58 L p48 x1 s0.1)) else (some (0, (s0.1, s0.2))))
def fMach_run (L : Nat) (σ : St) (x1 : Int32) : Option (Int32 × St) :=
  if x1 < 0 then (some ((-1), σ)) else (if x1 ≤ 200 then ((rbLoop (fMach_run_B20 L x1) rbF (0, (upd σ.1 5 0, σ.2))).bind fun q20 => some (q20.2.1, q20.2.2)) else (some ((-1), σ)))
