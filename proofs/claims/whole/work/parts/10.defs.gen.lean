abbrev rm_X0_fits : Room := { frames := 0, cells := 0, slots := 0, locals := 0 }
def D_X0_fits (x1 : Int64) (x3 : Int32) (M : ch_Mem) : Option (Int32 × ch_Mem) :=
  ch_gd x3 5 ((if (M.1 38 x3.toNatClampNeg) ≤ 0 then some ((0 : Int32), M) else ch_gd x3 5 (ch_g0L ((M.1 38 x3.toNatClampNeg).toInt64) (ch_gd x3 5 ((if (lg_cmp (x1 - x1 / ((M.1 38 x3.toNatClampNeg).toInt64) * ((M.1 38 x3.toNatClampNeg).toInt64)) ((M.1 39 x3.toNatClampNeg).toInt64)) = 0 then some ((1 : Int32), M) else some ((0 : Int32), M)))))))
abbrev rm_X0_haveDivisorWith : Room := { frames := 0, cells := 0, slots := 0, locals := 0 }
def D_X0_haveDivisorWith_b36 (k2 : Int32 → Int32 → ch_Mem → Option (Int32 × ch_Mem)) (k9 : Int32 → Int32 → Int32 → ch_Mem → Option (Int32 × ch_Mem)) (x1 : Int32) (x2 : Int32) (x3 : Int32) (M : ch_Mem) : Option (Int32 × ch_Mem) :=
  k9 x1 x2 (x3 + (1 : Int32)) M
def D_X0_haveDivisorWith_b42 (k2 : Int32 → Int32 → ch_Mem → Option (Int32 × ch_Mem)) (x1 : Int32) (x2 : Int32) (M : ch_Mem) : Option (Int32 × ch_Mem) :=
  k2 x1 (x2 + (1 : Int32)) M
def D_X0_haveDivisorWith_b9 (k2 : Int32 → Int32 → ch_Mem → Option (Int32 × ch_Mem)) (k9 : Int32 → Int32 → Int32 → ch_Mem → Option (Int32 × ch_Mem)) (x1 : Int32) (x2 : Int32) (x3 : Int32) (M : ch_Mem) : Option (Int32 × ch_Mem) :=
  (if (M.1 6 2) ≤ x3 then D_X0_haveDivisorWith_b42 k2 x1 x2 M else ch_g0 x2 ((if (x1 - x1 / x2 * x2) = 0 then ch_gd x3 5 (ch_g0 x2 ((if ((M.1 38 x3.toNatClampNeg) - (M.1 38 x3.toNatClampNeg) / x2 * x2) = 0 then some ((1 : Int32), M) else D_X0_haveDivisorWith_b36 k2 k9 x1 x2 x3 M))) else D_X0_haveDivisorWith_b36 k2 k9 x1 x2 x3 M)))
def D_X0_haveDivisorWith_L9 (k2 : Int32 → Int32 → ch_Mem → Option (Int32 × ch_Mem)) (n : Nat) : Int32 → Int32 → Int32 → ch_Mem → Option (Int32 × ch_Mem) := ch_fix (fun _ _ _ _ => none) (fun k => D_X0_haveDivisorWith_b9 k2 k) n
def D_X0_haveDivisorWith_b2 (k2 : Int32 → Int32 → ch_Mem → Option (Int32 × ch_Mem)) (x1 : Int32) (x2 : Int32) (M : ch_Mem) : Option (Int32 × ch_Mem) :=
  (if x1 < x2 then some ((0 : Int32), M) else D_X0_haveDivisorWith_L9 k2 ch_fu x1 x2 (0 : Int32) M)
def D_X0_haveDivisorWith_L2  (n : Nat) : Int32 → Int32 → ch_Mem → Option (Int32 × ch_Mem) := ch_fix (fun _ _ _ => none) (fun k => D_X0_haveDivisorWith_b2  k) n
def D_X0_haveDivisorWith (x1 : Int32) (M : ch_Mem) : Option (Int32 × ch_Mem) :=
  D_X0_haveDivisorWith_L2 ch_fu x1 (2 : Int32) M
abbrev rm_X0_howManyFit : Room := { frames := 1, cells := 0, slots := 0, locals := 23 }
def D_X0_howManyFit_b25 (k4 : Int32 → Int32 → Int32 → ch_Mem → Option (Int32 × ch_Mem)) (x1 : Int32) (x2 : Int32) (x3 : Int32) (M : ch_Mem) : Option (Int32 × ch_Mem) :=
  k4 x1 x2 (x3 + (1 : Int32)) M
def D_X0_howManyFit_b31 (x2 : Int32) (M : ch_Mem) : Option (Int32 × ch_Mem) :=
  some (x2, M)
def D_X0_howManyFit_b4 (k4 : Int32 → Int32 → Int32 → ch_Mem → Option (Int32 × ch_Mem)) (x1 : Int32) (x2 : Int32) (x3 : Int32) (M : ch_Mem) : Option (Int32 × ch_Mem) :=
  (if (M.1 6 2) ≤ x3 then D_X0_howManyFit_b31 x2 M else ch_bd (D_X0_fits x1.toInt64 x3 M) (fun r1 M2 => (if r1 = 0 then D_X0_howManyFit_b25 k4 x1 x2 x3 M2 else D_X0_howManyFit_b25 k4 x1 (x2 + (1 : Int32)) x3 M2)))
def D_X0_howManyFit_L4  (n : Nat) : Int32 → Int32 → Int32 → ch_Mem → Option (Int32 × ch_Mem) := ch_fix (fun _ _ _ _ => none) (fun k => D_X0_howManyFit_b4  k) n
def D_X0_howManyFit (x1 : Int32) (M : ch_Mem) : Option (Int32 × ch_Mem) :=
  D_X0_howManyFit_L4 ch_fu x1 (0 : Int32) (0 : Int32) M
abbrev rm_X0_keep : Room := { frames := 0, cells := 0, slots := 0, locals := 0 }
def D_X0_keep (x1 : Int32) (x2 : Int32) (M : ch_Mem) : Option (Unit × ch_Mem) :=
  (if (5 : Int32) ≤ (M.1 6 2) then some ((), M) else ch_gd (M.1 6 2) 5 (ch_gd ((ch_wI M 38 (M.1 6 2).toNatClampNeg x1).1 6 2) 5 (some ((), ch_wI (ch_wI (ch_wI M 38 (M.1 6 2).toNatClampNeg x1) 39 ((ch_wI M 38 (M.1 6 2).toNatClampNeg x1).1 6 2).toNatClampNeg x2) 6 2 (((ch_wI (ch_wI M 38 (M.1 6 2).toNatClampNeg x1) 39 ((ch_wI M 38 (M.1 6 2).toNatClampNeg x1).1 6 2).toNatClampNeg x2).1 6 2) + (1 : Int32))))))
abbrev rm_X0_leastFitting : Room := { frames := 1, cells := 0, slots := 0, locals := 23 }
def D_X0_leastFitting_b51 (k7 : Int64 → Int64 → Int32 → ch_Mem → Option (Int64 × ch_Mem)) (x1 : Int64) (x3 : Int64) (x5 : Int32) (M : ch_Mem) : Option (Int64 × ch_Mem) :=
  ch_gd x5 5 (k7 x1 (x3 * ((M.1 38 x5.toNatClampNeg).toInt64)) (x5 + (1 : Int32)) M)
def D_X0_leastFitting_b19 (k7 : Int64 → Int64 → Int32 → ch_Mem → Option (Int64 × ch_Mem)) (k19 : Int64 → Int64 → Int32 → Int32 → ch_Mem → Option (Int64 × ch_Mem)) (x1 : Int64) (x3 : Int64) (x5 : Int32) (x6 : Int32) (M : ch_Mem) : Option (Int64 × ch_Mem) :=
  ch_gd x5 5 ((if (M.1 38 x5.toNatClampNeg) ≤ x6 then D_X0_leastFitting_b51 k7 x1 x3 x5 M else ch_bd (D_X0_fits x1 x5 M) (fun r1 M2 => (if r1 = 0 then k19 (x1 + x3) x3 x5 (x6 + (1 : Int32)) M2 else D_X0_leastFitting_b51 k7 x1 x3 x5 M2))))
def D_X0_leastFitting_L19 (k7 : Int64 → Int64 → Int32 → ch_Mem → Option (Int64 × ch_Mem)) (n : Nat) : Int64 → Int64 → Int32 → Int32 → ch_Mem → Option (Int64 × ch_Mem) := ch_fix (fun _ _ _ _ _ => none) (fun k => D_X0_leastFitting_b19 k7 k) n
def D_X0_leastFitting_b68 (x1 : Int64) (M : ch_Mem) : Option (Int64 × ch_Mem) :=
  some (x1, M)
def D_X0_leastFitting_b7 (k7 : Int64 → Int64 → Int32 → ch_Mem → Option (Int64 × ch_Mem)) (x1 : Int64) (x3 : Int64) (x5 : Int32) (M : ch_Mem) : Option (Int64 × ch_Mem) :=
  (if (M.1 6 2) ≤ x5 then D_X0_leastFitting_b68 x1 M else D_X0_leastFitting_L19 k7 ch_fu x1 x3 x5 (0 : Int32) M)
def D_X0_leastFitting_L7  (n : Nat) : Int64 → Int64 → Int32 → ch_Mem → Option (Int64 × ch_Mem) := ch_fix (fun _ _ _ _ => none) (fun k => D_X0_leastFitting_b7  k) n
def D_X0_leastFitting (M : ch_Mem) : Option (Int64 × ch_Mem) :=
  D_X0_leastFitting_L7 ch_fu (0 : Int64) (1 : Int64) (0 : Int32) M
abbrev rm_X1_keep : Room := { frames := 0, cells := 0, slots := 0, locals := 0 }
def D_X1_keep (x1 : Int32) (x2 : Int32) (x3 : Int32) (M : ch_Mem) : Option (Unit × ch_Mem) :=
  (if (20 : Int32) ≤ (M.1 5 3) then some ((), M) else ch_gd (M.1 5 3) 20 (ch_gd ((ch_wI M 35 (M.1 5 3).toNatClampNeg x1).1 5 3) 20 (ch_gd ((ch_wI (ch_wI M 35 (M.1 5 3).toNatClampNeg x1) 36 ((ch_wI M 35 (M.1 5 3).toNatClampNeg x1).1 5 3).toNatClampNeg x2).1 5 3) 20 (some ((), ch_wI (ch_wI (ch_wI (ch_wI M 35 (M.1 5 3).toNatClampNeg x1) 36 ((ch_wI M 35 (M.1 5 3).toNatClampNeg x1).1 5 3).toNatClampNeg x2) 37 ((ch_wI (ch_wI M 35 (M.1 5 3).toNatClampNeg x1) 36 ((ch_wI M 35 (M.1 5 3).toNatClampNeg x1).1 5 3).toNatClampNeg x2).1 5 3).toNatClampNeg x3) 5 3 (((ch_wI (ch_wI (ch_wI M 35 (M.1 5 3).toNatClampNeg x1) 36 ((ch_wI M 35 (M.1 5 3).toNatClampNeg x1).1 5 3).toNatClampNeg x2) 37 ((ch_wI (ch_wI M 35 (M.1 5 3).toNatClampNeg x1) 36 ((ch_wI M 35 (M.1 5 3).toNatClampNeg x1).1 5 3).toNatClampNeg x2).1 5 3).toNatClampNeg x3).1 5 3) + (1 : Int32)))))))
abbrev rm_X2_hasItem : Room := { frames := 0, cells := 0, slots := 0, locals := 0 }
def D_X2_hasItem (o : Nat) (x1 : Int32) (M : ch_Mem) : Option (Int32 × ch_Mem) :=
  (if (M.1 o 1) = 0 then (if x1 < 0 then some ((0 : Int32), M) else (if (M.1 o 3) ≤ x1 then some ((0 : Int32), M) else some ((1 : Int32), M))) else some ((0 : Int32), M))
abbrev rm_X2_hasSpan : Room := { frames := 0, cells := 0, slots := 0, locals := 0 }
def D_X2_hasSpan (o : Nat) (x1 : Int32) (x2 : Int32) (M : ch_Mem) : Option (Int32 × ch_Mem) :=
  (if x1 < 0 then some ((0 : Int32), M) else (if x2 < 0 then some ((0 : Int32), M) else (if ((M.1 o 3) - x2) < x1 then some ((0 : Int32), M) else some ((1 : Int32), M))))
abbrev rm_X2_itemOrZero : Room := { frames := 1, cells := 0, slots := 0, locals := 21 }
def D_X2_itemOrZero (o : Nat) (x1 : Int32) (M : ch_Mem) : Option (Int32 × ch_Mem) :=
  ch_bd (D_X2_hasItem o x1 M) (fun r1 M2 => (if r1 = 0 then some ((0 : Int32), M2) else ch_gd x1 300 (some ((M2.1 (o + 4) x1.toNatClampNeg), M2))))
abbrev rm_X2_lowestBits : Room := { frames := 0, cells := 0, slots := 0, locals := 0 }
def D_X2_lowestBits (o : Nat) (x1 : Int32) (M : ch_Mem) : Option (Int32 × ch_Mem) :=
  (if (M.1 o 2) = 0 then some (x1.toInt8.toInt32, M) else (if (M.1 o 2) = (1 : Int32) then some (x1.toInt16.toInt32, M) else some (x1, M)))
abbrev rm_X2_keep : Room := { frames := 1, cells := 0, slots := 0, locals := 21 }
def D_X2_keep (o : Nat) (x1 : Int32) (x2 : Int32) (M : ch_Mem) : Option (Unit × ch_Mem) :=
  ch_bd (D_X2_hasItem o x1 M) (fun r1 M2 => (if r1 = 0 then some ((), M2) else ch_bd (D_X2_lowestBits o x2 M2) (fun r3 M4 => ch_gd x1 300 (some ((), ch_wI M4 (o + 4) x1.toNatClampNeg r3)))))
abbrev rm_X2_renew : Room := { frames := 1, cells := 0, slots := 0, locals := 21 }
def D_X2_renew_b27 (o : Nat) (k27 : Int32 → ch_Mem → Option (Unit × ch_Mem)) (x3 : Int32) (M : ch_Mem) : Option (Unit × ch_Mem) :=
  (if (M.1 o 3) ≤ x3 then some ((), M) else ch_gd x3 300 (k27 (x3 + (1 : Int32)) (ch_wI M (o + 4) x3.toNatClampNeg (0 : Int32))))
def D_X2_renew_L27 (o : Nat) (n : Nat) : Int32 → ch_Mem → Option (Unit × ch_Mem) := ch_fix (fun _ _ => none) (fun k => D_X2_renew_b27 o k) n
def D_X2_renew (o : Nat) (x1 : Int32) (x2 : Int32) (M : ch_Mem) : Option (Unit × ch_Mem) :=
  D_X2_renew_L27 o ch_fu (0 : Int32) (ch_wI (ch_wI (ch_wI M o 1 (0 : Int32)) o 2 x1) o 3 (if (0 : Int32) < (if (300 : Int32) < x2 then (300 : Int32) else x2) then (if (300 : Int32) < x2 then (300 : Int32) else x2) else (0 : Int32)))
abbrev rm_X2_troubleAt : Room := { frames := 1, cells := 0, slots := 0, locals := 21 }
def D_X2_troubleAt (o : Nat) (x1 : Int32) (x2 : Int32) (M : ch_Mem) : Option (Int32 × ch_Mem) :=
  (if (M.1 o 1) = 0 then (if (M.1 o 2) = x1 then ch_bd (D_X2_hasItem o x2 M) (fun r1 M2 => (if r1 = 0 then some ((2 : Int32), M2) else some ((0 : Int32), M2))) else some ((3 : Int32), M)) else some ((1 : Int32), M))
abbrev rm_J6_bitCount_0f7a4 : Room := { frames := 0, cells := 0, slots := 0, locals := 0 }
def D_J6_bitCount_0f7a4 (x0 : Int32) (M : ch_Mem) : Option (Int32 × ch_Mem) :=
  ch_nm (x0 - (((x0.toUInt32 >>> ((1 : Int32).toUInt32 &&& Int32.toUInt32 31)).toInt32) &&& (1431655765 : Int32))) (fun u1 => ch_nm ((u1 &&& (858993459 : Int32)) + (((u1.toUInt32 >>> ((2 : Int32).toUInt32 &&& Int32.toUInt32 31)).toInt32) &&& (858993459 : Int32))) (fun u2 => ch_nm ((u2 + ((u2.toUInt32 >>> ((4 : Int32).toUInt32 &&& Int32.toUInt32 31)).toInt32)) &&& (252645135 : Int32)) (fun u3 => ch_nm (u3 + ((u3.toUInt32 >>> ((8 : Int32).toUInt32 &&& Int32.toUInt32 31)).toInt32)) (fun u4 => ch_nm (u4 + ((u4.toUInt32 >>> ((16 : Int32).toUInt32 &&& Int32.toUInt32 31)).toInt32)) (fun u5 => some ((u5 &&& (63 : Int32)), M))))))
abbrev rm_X6_stepped : Room := { frames := 1, cells := 0, slots := 0, locals := 20 }
def D_X6_stepped (x0 : Int32) (x1 : Int32) (x2 : Int32) (M : ch_Mem) : Option (Int32 × ch_Mem) :=
  ch_bd (D_J6_bitCount_0f7a4 (x2 &&& x1) M) (fun r1 M2 => some (((x2 >>> ((1 : Int32) &&& 31)) ||| ((r1 &&& (1 : Int32)) <<< ((x0 - (1 : Int32)) &&& 31))), M2))
abbrev rm_X3_fillByRegister : Room := { frames := 2, cells := 0, slots := 0, locals := 43 }
def D_X3_fillByRegister_b43 (o : Nat) (k15 : Int32 → Int32 → Int32 → Int32 → ch_Mem → Option (Unit × ch_Mem)) (x1 : Int32) (x2 : Int32) (x4 : Int32) (x5 : Int32) (y0 : Int32) (y1 : Int32) (w2 : Nat) (M : ch_Mem) : Option (Unit × ch_Mem) :=
  ch_gd y1 (ch_len w2) (ch_bd (D_X6_stepped x1 x2 x4 (ch_wI M w2 y1.toNatClampNeg y0)) (fun r1 M2 => k15 x1 x2 r1 (x5 + (1 : Int32)) M2))
def D_X3_fillByRegister_b15 (o : Nat) (k15 : Int32 → Int32 → Int32 → Int32 → ch_Mem → Option (Unit × ch_Mem)) (x1 : Int32) (x2 : Int32) (x4 : Int32) (x5 : Int32) (M : ch_Mem) : Option (Unit × ch_Mem) :=
  (if (M.1 o 1) ≤ x5 then some ((), M) else (if (x4 &&& (1 : Int32)) = (1 : Int32) then D_X3_fillByRegister_b43 o k15 x1 x2 x4 x5 (-1 : Int32) x5 (o + 8) M else D_X3_fillByRegister_b43 o k15 x1 x2 x4 x5 (1 : Int32) x5 (o + 8) M))
def D_X3_fillByRegister_L15 (o : Nat) (n : Nat) : Int32 → Int32 → Int32 → Int32 → ch_Mem → Option (Unit × ch_Mem) := ch_fix (fun _ _ _ _ _ => none) (fun k => D_X3_fillByRegister_b15 o k) n
def D_X3_fillByRegister (o : Nat) (x1 : Int32) (x2 : Int32) (x3 : Int32) (M : ch_Mem) : Option (Unit × ch_Mem) :=
  D_X3_fillByRegister_L15 o ch_fu x1 x2 x3 (0 : Int32) (ch_wI M o 1 (((1 : Int32) <<< (x1 &&& 31)) - (1 : Int32)))
abbrev rm_X3_fillBySignsOf : Room := { frames := 1, cells := 0, slots := 0, locals := 21 }
def D_X3_fillBySignsOf_b41 (o : Nat) (v : Nat) (k17 : Int32 → ch_Mem → Option (Unit × ch_Mem)) (x3 : Int32) (y0 : Int32) (y1 : Int32) (w2 : Nat) (M : ch_Mem) : Option (Unit × ch_Mem) :=
  ch_gd y1 (ch_len w2) (k17 (x3 + (1 : Int32)) (ch_wI M w2 y1.toNatClampNeg y0))
def D_X3_fillBySignsOf_b17 (o : Nat) (v : Nat) (k17 : Int32 → ch_Mem → Option (Unit × ch_Mem)) (x3 : Int32) (M : ch_Mem) : Option (Unit × ch_Mem) :=
  (if (M.1 o 1) ≤ x3 then some ((), M) else ch_gd x3 (ch_len v) ((if 0 ≤ (M.1 v x3.toNatClampNeg) then D_X3_fillBySignsOf_b41 o v k17 x3 (1 : Int32) x3 (o + 8) M else D_X3_fillBySignsOf_b41 o v k17 x3 (-1 : Int32) x3 (o + 8) M)))
def D_X3_fillBySignsOf_L17 (o : Nat) (v : Nat) (n : Nat) : Int32 → ch_Mem → Option (Unit × ch_Mem) := ch_fix (fun _ _ => none) (fun k => D_X3_fillBySignsOf_b17 o v k) n
def D_X3_fillBySignsOf (o : Nat) (v : Nat) (x2 : Int32) (M : ch_Mem) : Option (Unit × ch_Mem) :=
  D_X3_fillBySignsOf_L17 o v ch_fu (0 : Int32) (ch_wI M o 1 (if (if (127 : Int32) < (nI (ch_len v)) then (127 : Int32) else (nI (ch_len v))) < x2 then (if (127 : Int32) < (nI (ch_len v)) then (127 : Int32) else (nI (ch_len v))) else x2))
abbrev rm_X3_isNone : Room := { frames := 0, cells := 0, slots := 0, locals := 0 }
def D_X3_isNone (o : Nat) (M : ch_Mem) : Option (Int32 × ch_Mem) :=
  (if (1 : Int32) ≤ (M.1 o 1) then some ((0 : Int32), M) else some ((1 : Int32), M))
abbrev rm_X6_mixed : Room := { frames := 0, cells := 0, slots := 0, locals := 0 }
def D_X6_mixed (x0 : Int64) (x2 : Int64) (M : ch_Mem) : Option (Int64 × ch_Mem) :=
  some ((((31 : Int64) * x0) + x2), M)
abbrev rm_X3_mixedInto : Room := { frames := 1, cells := 0, slots := 0, locals := 23 }
def D_X3_mixedInto_b41 (o : Nat) (x3 : Int64) (M : ch_Mem) : Option (Int64 × ch_Mem) :=
  some (x3, M)
def D_X3_mixedInto_b13 (o : Nat) (k13 : Int64 → Int32 → ch_Mem → Option (Int64 × ch_Mem)) (x3 : Int64) (x5 : Int32) (M : ch_Mem) : Option (Int64 × ch_Mem) :=
  (if (M.1 o 1) ≤ x5 then D_X3_mixedInto_b41 o x3 M else ch_gd x5 127 (ch_bd (D_X6_mixed x3 ((M.1 (o + 8) x5.toNatClampNeg).toInt64) M) (fun r1 M2 => k13 r1 (x5 + (1 : Int32)) M2)))
def D_X3_mixedInto_L13 (o : Nat) (n : Nat) : Int64 → Int32 → ch_Mem → Option (Int64 × ch_Mem) := ch_fix (fun _ _ _ => none) (fun k => D_X3_mixedInto_b13 o k) n
def D_X3_mixedInto (o : Nat) (x1 : Int64) (M : ch_Mem) : Option (Int64 × ch_Mem) :=
  ch_bd (D_X6_mixed x1 ((M.1 o 1).toInt64) M) (fun r1 M2 => D_X3_mixedInto_L13 o ch_fu r1 (0 : Int32) M2)
abbrev rm_J9_floorMod_7cf53 : Room := { frames := 0, cells := 0, slots := 0, locals := 0 }
def D_J9_floorMod_7cf53_b18 (x2 : Int32) (M : ch_Mem) : Option (Int32 × ch_Mem) :=
  some (x2, M)
def D_J9_floorMod_7cf53 (x0 : Int32) (x1 : Int32) (M : ch_Mem) : Option (Int32 × ch_Mem) :=
  ch_g0 x1 ((if 0 ≤ (x0 ^^^ x1) then D_J9_floorMod_7cf53_b18 (x0 - x0 / x1 * x1) M else (if (x0 - x0 / x1 * x1) = 0 then D_J9_floorMod_7cf53_b18 (x0 - x0 / x1 * x1) M else some (((x0 - x0 / x1 * x1) + x1), M))))
abbrev rm_X3_signAt : Room := { frames := 1, cells := 0, slots := 0, locals := 22 }
def D_X3_signAt (o : Nat) (x1 : Int32) (M : ch_Mem) : Option (Int32 × ch_Mem) :=
  (if (1 : Int32) ≤ (M.1 o 1) then ch_bd (D_J9_floorMod_7cf53 x1 (M.1 o 1) M) (fun r1 M2 => ch_gd r1 127 (some ((M2.1 (o + 8) r1.toNatClampNeg), M2))) else some ((0 : Int32), M))
abbrev rm_X3_sumOver : Room := { frames := 1, cells := 0, slots := 0, locals := 22 }
def D_X3_sumOver_b75 (o : Nat) (v : Nat) (k25 : Int32 → Int32 → Int32 → ch_Mem → Option (Int32 × ch_Mem)) (x3 : Int32) (x5 : Int32) (y0 : Int32) (M : ch_Mem) : Option (Int32 × ch_Mem) :=
  k25 x3 y0 (x5 + (1 : Int32)) M
def D_X3_sumOver_b83 (o : Nat) (v : Nat) (x3 : Int32) (M : ch_Mem) : Option (Int32 × ch_Mem) :=
  some (x3, M)
def D_X3_sumOver_b25 (o : Nat) (v : Nat) (k25 : Int32 → Int32 → Int32 → ch_Mem → Option (Int32 × ch_Mem)) (x3 : Int32) (x4 : Int32) (x5 : Int32) (M : ch_Mem) : Option (Int32 × ch_Mem) :=
  (if (M.1 o 1) ≤ x5 then D_X3_sumOver_b83 o v x3 M else (if (nI (ch_len v)) ≤ x5 then D_X3_sumOver_b83 o v x3 M else ch_gd x4 127 (ch_gd x5 (ch_len v) (ch_nm (x3 + ((M.1 (o + 8) x4.toNatClampNeg) * (M.1 v x5.toNatClampNeg))) (fun u1 => (if (M.1 o 1) ≤ (x4 + (1 : Int32)) then D_X3_sumOver_b75 o v k25 u1 x5 (0 : Int32) M else D_X3_sumOver_b75 o v k25 u1 x5 (x4 + (1 : Int32)) M))))))
def D_X3_sumOver_L25 (o : Nat) (v : Nat) (n : Nat) : Int32 → Int32 → Int32 → ch_Mem → Option (Int32 × ch_Mem) := ch_fix (fun _ _ _ _ => none) (fun k => D_X3_sumOver_b25 o v k) n
def D_X3_sumOver (o : Nat) (v : Nat) (x2 : Int32) (M : ch_Mem) : Option (Int32 × ch_Mem) :=
  (if (1 : Int32) ≤ (M.1 o 1) then ch_bd (D_J9_floorMod_7cf53 x2 (M.1 o 1) M) (fun r1 M2 => D_X3_sumOver_L25 o v ch_fu (0 : Int32) r1 (0 : Int32) M2) else some ((0 : Int32), M))
abbrev rm_X3_takeOff : Room := { frames := 2, cells := 0, slots := 0, locals := 43 }
def D_X3_takeOff_b3 (o : Nat) (v : Nat) (k3 : Int32 → Int32 → Int32 → ch_Mem → Option (Unit × ch_Mem)) (x2 : Int32) (x3 : Int32) (x4 : Int32) (M : ch_Mem) : Option (Unit × ch_Mem) :=
  (if (M.1 o 1) ≤ x4 then some ((), M) else (if (nI (ch_len v)) ≤ x4 then some ((), M) else ch_gd x4 (ch_len v) (ch_bd (D_X3_signAt o (x4 + x2) M) (fun r1 M2 => ch_gd x4 (ch_len v) (k3 x2 x3 (x4 + (1 : Int32)) (ch_wI M2 v x4.toNatClampNeg ((M.1 v x4.toNatClampNeg) - (x3 * r1))))))))
def D_X3_takeOff_L3 (o : Nat) (v : Nat) (n : Nat) : Int32 → Int32 → Int32 → ch_Mem → Option (Unit × ch_Mem) := ch_fix (fun _ _ _ _ => none) (fun k => D_X3_takeOff_b3 o v k) n
def D_X3_takeOff (o : Nat) (v : Nat) (x2 : Int32) (x3 : Int32) (M : ch_Mem) : Option (Unit × ch_Mem) :=
  D_X3_takeOff_L3 o v ch_fu x2 x3 (0 : Int32) M
abbrev rm_X4_begin : Room := { frames := 0, cells := 0, slots := 0, locals := 0 }
def D_X4_begin (M : ch_Mem) : Option (Unit × ch_Mem) :=
  some ((), ch_wL (ch_wL M 4 0 (-1 : Int64)) 4 1 (-1 : Int64))
abbrev rm_X4_weigh : Room := { frames := 0, cells := 0, slots := 0, locals := 0 }
def D_X4_weigh (x1 : Int64) (x3 : Int32) (x4 : Int32) (M : ch_Mem) : Option (Unit × ch_Mem) :=
  (if (lg_cmp x1 (M.2 4 0)) ≤ 0 then (if (lg_cmp x1 (M.2 4 1)) ≤ 0 then some ((), M) else some ((), ch_wL M 4 1 x1)) else some ((), ch_wI (ch_wI (ch_wL (ch_wL M 4 1 (M.2 4 0)) 4 0 x1) 4 2 x3) 4 3 x4))
abbrev rm_X5_squaresOfX : Room := { frames := 0, cells := 0, slots := 0, locals := 0 }
def D_X5_squaresOfX_b36 (x1 : Int64) (M : ch_Mem) : Option (Int64 × ch_Mem) :=
  some (x1, M)
def D_X5_squaresOfX_b4 (k4 : Int64 → Int32 → ch_Mem → Option (Int64 × ch_Mem)) (x1 : Int64) (x3 : Int32) (M : ch_Mem) : Option (Int64 × ch_Mem) :=
  (if (M.1 3 4) ≤ x3 then D_X5_squaresOfX_b36 x1 M else ch_gd x3 127 (ch_gd x3 127 (ch_nm (x1 + (((M.1 31 x3.toNatClampNeg).toInt64) * ((M.1 31 x3.toNatClampNeg).toInt64))) (fun u1 => k4 u1 (x3 + (1 : Int32)) M))))
def D_X5_squaresOfX_L4  (n : Nat) : Int64 → Int32 → ch_Mem → Option (Int64 × ch_Mem) := ch_fix (fun _ _ _ => none) (fun k => D_X5_squaresOfX_b4  k) n
def D_X5_squaresOfX (M : ch_Mem) : Option (Int64 × ch_Mem) :=
  D_X5_squaresOfX_L4 ch_fu (0 : Int64) (0 : Int32) M
abbrev rm_X5_turnBack : Room := { frames := 0, cells := 0, slots := 0, locals := 0 }
def D_X5_turnBack_b116 (k2 : Int32 → Int32 → ch_Mem → Option (Unit × ch_Mem)) (x1 : Int32) (x2 : Int32) (y0 : Int32) (y1 : Int32) (M : ch_Mem) : Option (Unit × ch_Mem) :=
  ch_gd y1 127 (k2 x1 (x2 + (1 : Int32)) (ch_wI M 34 y1.toNatClampNeg y0))
def D_X5_turnBack_b108 (k2 : Int32 → Int32 → ch_Mem → Option (Unit × ch_Mem)) (x1 : Int32) (x2 : Int32) (x6 : Int32) (y0 : Int32) (M : ch_Mem) : Option (Unit × ch_Mem) :=
  D_X5_turnBack_b116 k2 x1 x2 (-x6) y0 M
def D_X5_turnBack_b92 (k2 : Int32 → Int32 → ch_Mem → Option (Unit × ch_Mem)) (x1 : Int32) (x2 : Int32) (x3 : Int32) (x6 : Int32) (y0 : Int32) (y1 : Int32) (M : ch_Mem) : Option (Unit × ch_Mem) :=
  ch_gd y1 127 ((if x3 = (1 : Int32) then D_X5_turnBack_b108 k2 x1 x2 x6 x2 (ch_wI M 33 y1.toNatClampNeg y0) else (if x3 = (2 : Int32) then D_X5_turnBack_b108 k2 x1 x2 x6 x2 (ch_wI M 33 y1.toNatClampNeg y0) else D_X5_turnBack_b116 k2 x1 x2 x6 x2 (ch_wI M 33 y1.toNatClampNeg y0))))
def D_X5_turnBack_b72 (k2 : Int32 → Int32 → ch_Mem → Option (Unit × ch_Mem)) (x1 : Int32) (x2 : Int32) (x3 : Int32) (x5 : Int32) (y0 : Int32) (M : ch_Mem) : Option (Unit × ch_Mem) :=
  (if x3 < (2 : Int32) then D_X5_turnBack_b92 k2 x1 x2 x3 y0 x5 x2 M else D_X5_turnBack_b92 k2 x1 x2 x3 y0 (-x5) x2 M)
def D_X5_turnBack_b50 (k2 : Int32 → Int32 → ch_Mem → Option (Unit × ch_Mem)) (x1 : Int32) (x2 : Int32) (x3 : Int32) (x4 : Int32) (y0 : Int32) (M : ch_Mem) : Option (Unit × ch_Mem) :=
  (if x4 = 0 then ch_gd x2 127 (D_X5_turnBack_b72 k2 x1 x2 x3 y0 (M.1 32 x2.toNatClampNeg) M) else ch_gd x2 127 (D_X5_turnBack_b72 k2 x1 x2 x3 y0 (M.1 31 x2.toNatClampNeg) M))
def D_X5_turnBack_b28 (k2 : Int32 → Int32 → ch_Mem → Option (Unit × ch_Mem)) (x1 : Int32) (x2 : Int32) (x3 : Int32) (y0 : Int32) (M : ch_Mem) : Option (Unit × ch_Mem) :=
  (if y0 = 0 then ch_gd x2 127 (D_X5_turnBack_b50 k2 x1 x2 x3 y0 (M.1 31 x2.toNatClampNeg) M) else ch_gd x2 127 (D_X5_turnBack_b50 k2 x1 x2 x3 y0 (M.1 32 x2.toNatClampNeg) M))
def D_X5_turnBack_b2 (k2 : Int32 → Int32 → ch_Mem → Option (Unit × ch_Mem)) (x1 : Int32) (x2 : Int32) (M : ch_Mem) : Option (Unit × ch_Mem) :=
  (if (M.1 3 4) ≤ x2 then some ((), M) else (if (((x1 * x2) &&& (3 : Int32)) &&& (1 : Int32)) = (1 : Int32) then D_X5_turnBack_b28 k2 x1 x2 ((x1 * x2) &&& (3 : Int32)) (1 : Int32) M else D_X5_turnBack_b28 k2 x1 x2 ((x1 * x2) &&& (3 : Int32)) (0 : Int32) M))
def D_X5_turnBack_L2  (n : Nat) : Int32 → Int32 → ch_Mem → Option (Unit × ch_Mem) := ch_fix (fun _ _ _ => none) (fun k => D_X5_turnBack_b2  k) n
def D_X5_turnBack (x1 : Int32) (M : ch_Mem) : Option (Unit × ch_Mem) :=
  D_X5_turnBack_L2 ch_fu x1 (0 : Int32) M
abbrev rm_X6_isRow : Room := { frames := 0, cells := 0, slots := 0, locals := 0 }
def D_X6_isRow (x0 : Int32) (M : ch_Mem) : Option (Int32 × ch_Mem) :=
  (if x0 < 0 then some ((0 : Int32), M) else (if (8 : Int32) ≤ x0 then some ((0 : Int32), M) else some ((1 : Int32), M)))
abbrev rm_X6_isReel : Room := { frames := 0, cells := 0, slots := 0, locals := 0 }
def D_X6_isReel (x0 : Int32) (M : ch_Mem) : Option (Int32 × ch_Mem) :=
  (if x0 < 0 then some ((0 : Int32), M) else (if (4 : Int32) ≤ x0 then some ((0 : Int32), M) else some ((1 : Int32), M)))
abbrev rm_X6_isShift : Room := { frames := 0, cells := 0, slots := 0, locals := 0 }
def D_X6_isShift (x0 : Int32) (M : ch_Mem) : Option (Int32 × ch_Mem) :=
  (if x0 < 0 then some ((0 : Int32), M) else (if (127 : Int32) ≤ x0 then some ((0 : Int32), M) else some ((1 : Int32), M)))
abbrev rm_X6_found : Room := { frames := 0, cells := 0, slots := 0, locals := 0 }
def D_X6_found (x1 : Int32) (M : ch_Mem) : Option (Int32 × ch_Mem) :=
  some (((-10 : Int32) - x1), ch_wI M 0 7 x1)
abbrev rm_X6_add : Room := { frames := 2, cells := 0, slots := 0, locals := 43 }
def D_X6_add_b186 (x6 : Int32) (M : ch_Mem) : Option (Int32 × ch_Mem) :=
  some (x6, M)
def D_X6_add_b125 (k125 : Int32 → Int32 → Int32 → Int32 → Int32 → Int32 → Int32 → ch_Mem → Option (Int32 × ch_Mem)) (x1 : Int32) (x2 : Int32) (x3 : Int32) (x4 : Int32) (x5 : Int32) (x6 : Int32) (x7 : Int32) (M : ch_Mem) : Option (Int32 × ch_Mem) :=
  (if x6 ≤ x7 then D_X6_add_b186 x6 M else ch_gd x1 8 (ch_bd (D_X3_signAt (7 + x1.toNatClampNeg) (x7 + x4) M) (fun r2 M3 => ch_gd x2 4 (ch_gd x2 4 (ch_bd (D_X2_itemOrZero (23 + x2.toNatClampNeg) (x3 + x7) M3) (fun r6 M7 => ch_bd (D_X2_keep (23 + x2.toNatClampNeg) (x3 + x7) (r6 + (x5 * r2)) M7) (fun r8 M9 => k125 x1 x2 x3 x4 x5 x6 (x7 + (1 : Int32)) M9)))))))
def D_X6_add_L125  (n : Nat) : Int32 → Int32 → Int32 → Int32 → Int32 → Int32 → Int32 → ch_Mem → Option (Int32 × ch_Mem) := ch_fix (fun _ _ _ _ _ _ _ _ => none) (fun k => D_X6_add_b125  k) n
def D_X6_add (x1 : Int32) (x2 : Int32) (x3 : Int32) (x4 : Int32) (x5 : Int32) (M : ch_Mem) : Option (Int32 × ch_Mem) :=
  ch_bd (D_X6_isRow x1 M) (fun r1 M2 => (if r1 = 0 then some ((-2 : Int32), M2) else ch_bd (D_X6_isReel x2 M2) (fun r3 M4 => (if r3 = 0 then some ((-2 : Int32), M4) else (if x3 < 0 then some ((-2 : Int32), M4) else ch_bd (D_X6_isShift x4 M4) (fun r5 M6 => (if r5 = 0 then some ((-2 : Int32), M6) else (if x5 < (-1000 : Int32) then some ((-2 : Int32), M6) else (if x5 ≤ (1000 : Int32) then ch_gd x2 4 ((if (M6.1 (23 + x2.toNatClampNeg) 1) = 0 then ch_gd x1 8 (ch_bd (D_X3_isNone (7 + x1.toNatClampNeg) M6) (fun r9 M10 => (if r9 = 0 then ch_gd x2 4 ((if x3 ≤ (M10.1 (23 + x2.toNatClampNeg) 3) then ch_gd x1 8 (ch_gd x2 4 (ch_nm (if ((M10.1 (23 + x2.toNatClampNeg) 3) - x3) < (M10.1 (7 + x1.toNatClampNeg) 1) then ((M10.1 (23 + x2.toNatClampNeg) 3) - x3) else (M10.1 (7 + x1.toNatClampNeg) 1)) (fun u14 => D_X6_add_L125 ch_fu x1 x2 x3 x4 x5 u14 (0 : Int32) M10))) else ch_bd (D_X6_found (2 : Int32) M10) (fun r15 M16 => some (r15, M16)))) else some ((-3 : Int32), M10)))) else ch_bd (D_X6_found (1 : Int32) M6) (fun r17 M18 => some (r17, M18)))) else some ((-2 : Int32), M6))))))))))
abbrev rm_X6_areHops : Room := { frames := 0, cells := 0, slots := 0, locals := 0 }
def D_X6_areHops_b44 (k15 : Int32 → Int32 → Int32 → Int32 → Int32 → Int32 → ch_Mem → Option (Int32 × ch_Mem)) (x0 : Int32) (x1 : Int32) (x2 : Int32) (x5 : Int32) (x6 : Int32) (y0 : Int32) (M : ch_Mem) : Option (Int32 × ch_Mem) :=
  k15 x0 x1 x2 y0 x5 (x6 + (1 : Int32)) M
def D_X6_areHops_b39 (k15 : Int32 → Int32 → Int32 → Int32 → Int32 → Int32 → ch_Mem → Option (Int32 × ch_Mem)) (x0 : Int32) (x1 : Int32) (x2 : Int32) (x5 : Int32) (x6 : Int32) (M : ch_Mem) : Option (Int32 × ch_Mem) :=
  D_X6_areHops_b44 k15 x0 x1 x2 x5 x6 (1 : Int32) M
def D_X6_areHops_b51 (x0 : Int32) (x1 : Int32) (x2 : Int32) (x3 : Int32) (M : ch_Mem) : Option (Int32 × ch_Mem) :=
  (if x3 = 0 then some ((0 : Int32), M) else (if x1 ≤ 0 then some ((0 : Int32), M) else (if x0 ≤ x1 then some ((0 : Int32), M) else (if x2 ≤ 0 then some ((0 : Int32), M) else (if x0 ≤ x2 then some ((0 : Int32), M) else some ((1 : Int32), M))))))
def D_X6_areHops_b15 (k15 : Int32 → Int32 → Int32 → Int32 → Int32 → Int32 → ch_Mem → Option (Int32 × ch_Mem)) (x0 : Int32) (x1 : Int32) (x2 : Int32) (x3 : Int32) (x5 : Int32) (x6 : Int32) (M : ch_Mem) : Option (Int32 × ch_Mem) :=
  (if x5 ≤ x6 then D_X6_areHops_b51 x0 x1 x2 x3 M else ch_gd x6 11 ((if x3 = 0 then (if (ch_pr x6.toNatClampNeg) = x0 then D_X6_areHops_b39 k15 x0 x1 x2 x5 x6 M else D_X6_areHops_b44 k15 x0 x1 x2 x5 x6 (0 : Int32) M) else D_X6_areHops_b39 k15 x0 x1 x2 x5 x6 M)))
def D_X6_areHops_L15  (n : Nat) : Int32 → Int32 → Int32 → Int32 → Int32 → Int32 → ch_Mem → Option (Int32 × ch_Mem) := ch_fix (fun _ _ _ _ _ _ _ => none) (fun k => D_X6_areHops_b15  k) n
def D_X6_areHops (x0 : Int32) (x1 : Int32) (x2 : Int32) (M : ch_Mem) : Option (Int32 × ch_Mem) :=
  D_X6_areHops_L15 ch_fu x0 x1 x2 (0 : Int32) (11 : Int32) (0 : Int32) M
abbrev rm_X6_arePaired : Room := { frames := 1, cells := 0, slots := 0, locals := 20 }
def D_X6_arePaired (x1 : Int32) (x2 : Int32) (M : ch_Mem) : Option (Int32 × ch_Mem) :=
  ch_gd x1 8 (ch_bd (D_X3_isNone (7 + x1.toNatClampNeg) M) (fun r2 M3 => (if r2 = 0 then ch_gd x1 8 (ch_gd x2 8 ((if (M3.1 (7 + x1.toNatClampNeg) 1) = (M3.1 (7 + x2.toNatClampNeg) 1) then some ((1 : Int32), M3) else some ((0 : Int32), M3)))) else some ((0 : Int32), M3))))
abbrev rm_X6_copy : Room := { frames := 1, cells := 0, slots := 0, locals := 26 }
def D_X6_copy_b41 (M : ch_Mem) : Option (Int32 × ch_Mem) :=
  ch_bd (D_X6_found (1 : Int32) M) (fun r1 M2 => some (r1, M2))
def D_X6_copy_b105 (M : ch_Mem) : Option (Int32 × ch_Mem) :=
  ch_bd (D_X6_found (2 : Int32) M) (fun r1 M2 => some (r1, M2))
def D_X6_copy (x1 : Int32) (x2 : Int32) (x3 : Int32) (x4 : Int32) (x5 : Int32) (M : ch_Mem) : Option (Int32 × ch_Mem) :=
  ch_bd (D_X6_isReel x1 M) (fun r1 M2 => (if r1 = 0 then some ((-2 : Int32), M2) else ch_bd (D_X6_isReel x3 M2) (fun r3 M4 => (if r3 = 0 then some ((-2 : Int32), M4) else ch_gd x1 4 ((if (M4.1 (23 + x1.toNatClampNeg) 1) = 0 then ch_gd x3 4 ((if (M4.1 (23 + x3.toNatClampNeg) 1) = 0 then ch_gd x1 4 (ch_gd x3 4 ((if (M4.1 (23 + x1.toNatClampNeg) 2) = (M4.1 (23 + x3.toNatClampNeg) 2) then ch_gd x1 4 (ch_bd (D_X2_hasSpan (23 + x1.toNatClampNeg) x2 x5 M4) (fun r10 M11 => (if r10 = 0 then D_X6_copy_b105 M11 else ch_gd x3 4 (ch_bd (D_X2_hasSpan (23 + x3.toNatClampNeg) x4 x5 M11) (fun r13 M14 => (if r13 = 0 then D_X6_copy_b105 M14 else ch_gd x1 4 (ch_gd x3 4 (ch_cp x2 x4 x5 300 300 (some ((1 : Int32), ch_wA M14 ((23 + x3.toNatClampNeg) + 4) (va_cpy (M14.1 ((23 + x1.toNatClampNeg) + 4)) (M14.1 ((23 + x3.toNatClampNeg) + 4)) x2.toNatClampNeg x4.toNatClampNeg x5.toNatClampNeg))))))))))) else ch_bd (D_X6_found (4 : Int32) M4) (fun r17 M18 => some (r17, M18))))) else D_X6_copy_b41 M4)) else D_X6_copy_b41 M4))))))
abbrev rm_X6_rowsThatAre : Room := { frames := 1, cells := 0, slots := 0, locals := 20 }
def D_X6_rowsThatAre_b25 (k4 : Int32 → Int32 → ch_Mem → Option (Int32 × ch_Mem)) (x1 : Int32) (x2 : Int32) (M : ch_Mem) : Option (Int32 × ch_Mem) :=
  k4 x1 (x2 + (1 : Int32)) M
def D_X6_rowsThatAre_b31 (x1 : Int32) (M : ch_Mem) : Option (Int32 × ch_Mem) :=
  some (x1, M)
def D_X6_rowsThatAre_b4 (k4 : Int32 → Int32 → ch_Mem → Option (Int32 × ch_Mem)) (x1 : Int32) (x2 : Int32) (M : ch_Mem) : Option (Int32 × ch_Mem) :=
  (if (8 : Int32) ≤ x2 then D_X6_rowsThatAre_b31 x1 M else ch_gd x2 8 (ch_bd (D_X3_isNone (7 + x2.toNatClampNeg) M) (fun r2 M3 => (if r2 = 0 then D_X6_rowsThatAre_b25 k4 (x1 + (1 : Int32)) x2 M3 else D_X6_rowsThatAre_b25 k4 x1 x2 M3))))
def D_X6_rowsThatAre_L4  (n : Nat) : Int32 → Int32 → ch_Mem → Option (Int32 × ch_Mem) := ch_fix (fun _ _ _ => none) (fun k => D_X6_rowsThatAre_b4  k) n
def D_X6_rowsThatAre (M : ch_Mem) : Option (Int32 × ch_Mem) :=
  D_X6_rowsThatAre_L4 ch_fu (0 : Int32) (0 : Int32) M
abbrev rm_X6_count : Room := { frames := 2, cells := 0, slots := 0, locals := 42 }
def D_X6_count (x1 : Int32) (M : ch_Mem) : Option (Int32 × ch_Mem) :=
  (if x1 = (0 : Int32) then ch_bd (D_X6_rowsThatAre M) (fun r1 M2 => some (r1, M2)) else (if x1 = (1 : Int32) then some ((M.1 6 2), M) else (if x1 = (2 : Int32) then some ((M.1 0 6), M) else (if x1 = (3 : Int32) then some ((M.1 0 7), M) else (if x1 = (4 : Int32) then some ((M.1 5 3), M) else some ((-2 : Int32), M))))))
abbrev rm_X6_digest : Room := { frames := 2, cells := 0, slots := 0, locals := 49 }
def D_X6_digest_b86 (k52 : Int64 → Int32 → ch_Mem → Option (Int64 × ch_Mem)) (x1 : Int64) (x3 : Int32) (M : ch_Mem) : Option (Int64 × ch_Mem) :=
  k52 x1 (x3 + (1 : Int32)) M
def D_X6_digest_b92 (x1 : Int64) (M : ch_Mem) : Option (Int64 × ch_Mem) :=
  ch_bd (D_X0_leastFitting M) (fun r1 M2 => ch_bd (D_X6_mixed x1 r1 M2) (fun r3 M4 => ch_bd (D_X6_mixed r3 (M4.2 5 4) M4) (fun r5 M6 => some (r5, M6))))
def D_X6_digest_b52 (k52 : Int64 → Int32 → ch_Mem → Option (Int64 × ch_Mem)) (x1 : Int64) (x3 : Int32) (M : ch_Mem) : Option (Int64 × ch_Mem) :=
  (if (8 : Int32) ≤ x3 then D_X6_digest_b92 x1 M else ch_gd x3 8 (ch_bd (D_X3_isNone (7 + x3.toNatClampNeg) M) (fun r2 M3 => (if r2 = 0 then ch_gd x3 8 (ch_bd (D_X6_mixed x1 x3.toInt64 M3) (fun r5 M6 => ch_bd (D_X3_mixedInto (7 + x3.toNatClampNeg) r5 M6) (fun r7 M8 => D_X6_digest_b86 k52 r7 x3 M8))) else D_X6_digest_b86 k52 x1 x3 M3))))
def D_X6_digest_L52  (n : Nat) : Int64 → Int32 → ch_Mem → Option (Int64 × ch_Mem) := ch_fix (fun _ _ _ => none) (fun k => D_X6_digest_b52  k) n
def D_X6_digest (M : ch_Mem) : Option (Int64 × ch_Mem) :=
  ch_bd (D_X6_rowsThatAre M) (fun r1 M2 => ch_bd (D_X6_mixed (17 : Int64) r1.toInt64 M2) (fun r3 M4 => ch_bd (D_X6_mixed r3 ((M4.1 6 2).toInt64) M4) (fun r5 M6 => ch_bd (D_X6_mixed r5 ((M6.1 0 6).toInt64) M6) (fun r7 M8 => ch_bd (D_X6_mixed r7 ((M8.1 5 3).toInt64) M8) (fun r9 M10 => D_X6_digest_L52 ch_fu r9 (0 : Int32) M10)))))
abbrev rm_X6_doubt : Room := { frames := 0, cells := 0, slots := 0, locals := 0 }
def D_X6_doubt (x1 : Int32) (M : ch_Mem) : Option (Int32 × ch_Mem) :=
  (if x1 < 0 then some ((-2 : Int32), M) else (if x1 ≤ (100 : Int32) then some ((M.1 0 6), ch_wI M 0 6 x1) else some ((-2 : Int32), M)))
abbrev rm_X6_drop : Room := { frames := 1, cells := 0, slots := 0, locals := 20 }
def D_X6_drop (x1 : Int32) (M : ch_Mem) : Option (Int32 × ch_Mem) :=
  ch_bd (D_X6_isRow x1 M) (fun r1 M2 => (if r1 = 0 then some ((-2 : Int32), M2) else ch_gd x1 8 (ch_bd (D_X3_isNone (7 + x1.toNatClampNeg) M2) (fun r4 M5 => (if r4 = 0 then ch_gd x1 8 (ch_gd x1 8 (some ((M5.1 (7 + x1.toNatClampNeg) 1), ch_wI M5 (7 + x1.toNatClampNeg) 1 (0 : Int32)))) else some ((-3 : Int32), M5))))))
abbrev rm_X6_isPlace : Room := { frames := 0, cells := 0, slots := 0, locals := 0 }
def D_X6_isPlace (x0 : Int32) (M : ch_Mem) : Option (Int32 × ch_Mem) :=
  (if x0 < 0 then some ((0 : Int32), M) else (if (300 : Int32) < x0 then some ((0 : Int32), M) else some ((1 : Int32), M)))
abbrev rm_X6_quietened : Room := { frames := 0, cells := 0, slots := 0, locals := 0 }
def D_X6_quietened_b14 (M : ch_Mem) : Option (Int32 × ch_Mem) :=
  some ((0 : Int32), M)
def D_X6_quietened (x0 : Int32) (M : ch_Mem) : Option (Int32 × ch_Mem) :=
  (if x0 < (-10000 : Int32) then D_X6_quietened_b14 M else (if x0 ≤ (10000 : Int32) then some (x0, M) else D_X6_quietened_b14 M))
abbrev rm_X6_listen : Room := { frames := 2, cells := 0, slots := 0, locals := 42 }
def D_X6_listen_b10 (k10 : Int32 → Int32 → Int32 → ch_Mem → Option (Unit × ch_Mem)) (x1 : Int32) (x2 : Int32) (x3 : Int32) (M : ch_Mem) : Option (Unit × ch_Mem) :=
  (if x2 ≤ x3 then some ((), M) else ch_gd (0 : Int32) 4 (ch_bd (D_X2_itemOrZero (23 + (0 : Int32).toNatClampNeg) (x1 + x3) M) (fun r2 M3 => ch_bd (D_X6_quietened r2 M3) (fun r4 M5 => ch_gd x3 127 (ch_gd (1 : Int32) 4 (ch_bd (D_X2_itemOrZero (23 + (1 : Int32).toNatClampNeg) (x1 + x3) (ch_wI M5 31 x3.toNatClampNeg r4)) (fun r7 M8 => ch_bd (D_X6_quietened r7 M8) (fun r9 M10 => ch_gd x3 127 (k10 x1 x2 (x3 + (1 : Int32)) (ch_wI M10 32 x3.toNatClampNeg r9))))))))))
def D_X6_listen_L10  (n : Nat) : Int32 → Int32 → Int32 → ch_Mem → Option (Unit × ch_Mem) := ch_fix (fun _ _ _ _ => none) (fun k => D_X6_listen_b10  k) n
def D_X6_listen (x1 : Int32) (x2 : Int32) (M : ch_Mem) : Option (Unit × ch_Mem) :=
  D_X6_listen_L10 ch_fu x1 x2 (0 : Int32) (ch_wI M 3 4 x2)
abbrev rm_X6_loudestNear : Room := { frames := 2, cells := 0, slots := 0, locals := 47 }
def D_X6_loudestNear_b78 (o : Nat) (x2 : Int32) (x3 : Int32) (x5 : Int32) (x6 : Int32) (M : ch_Mem) : Option (Int32 × ch_Mem) :=
  (if x5 < x6 then some ((x2 + (1 : Int32)), M) else some (x3, M))
def D_X6_loudestNear (o : Nat) (x2 : Int32) (M : ch_Mem) : Option (Int32 × ch_Mem) :=
  ch_bd (D_X3_sumOver o 31 x2 M) (fun r1 M2 => ch_bd (D_X3_sumOver o 31 ((x2 + (M.1 o 1)) - (1 : Int32)) M2) (fun r3 M4 => ch_bd (D_X3_sumOver o 31 (x2 + (1 : Int32)) M4) (fun r5 M6 => (if (if 0 ≤ r1 then r1 else 0 - r1) < (if 0 ≤ r3 then r3 else 0 - r3) then D_X6_loudestNear_b78 o x2 ((x2 + (M.1 o 1)) - (1 : Int32)) (if 0 ≤ r3 then r3 else 0 - r3) (if 0 ≤ r5 then r5 else 0 - r5) M6 else (if (if 0 ≤ r1 then r1 else 0 - r1) < (if 0 ≤ r5 then r5 else 0 - r5) then D_X6_loudestNear_b78 o x2 ((x2 + (M.1 o 1)) - (1 : Int32)) (if 0 ≤ r3 then r3 else 0 - r3) (if 0 ≤ r5 then r5 else 0 - r5) M6 else some (x2, M6))))))
abbrev rm_X6_follow : Room := { frames := 3, cells := 0, slots := 0, locals := 73 }
def D_X6_follow_b109 (x6 : Int32) (M : ch_Mem) : Option (Int32 × ch_Mem) :=
  some (x6, M)
def D_X6_follow_b66 (k66 : Int32 → Int32 → Int32 → Int32 → Int32 → Int32 → ch_Mem → Option (Int32 × ch_Mem)) (x1 : Int32) (x2 : Int32) (x4 : Int32) (x5 : Int32) (x6 : Int32) (x7 : Int32) (M : ch_Mem) : Option (Int32 × ch_Mem) :=
  (if x4 ≤ x7 then D_X6_follow_b109 x6 M else ch_bd (D_X6_listen (x2 + (x7 * x5)) x5 M) (fun r1 M2 => ch_gd x1 8 (ch_bd (D_X6_loudestNear (7 + x1.toNatClampNeg) x6 M2) (fun r4 M5 => ch_g0 x5 (k66 x1 x2 x4 x5 (r4 - r4 / x5 * x5) (x7 + (1 : Int32)) M5)))))
def D_X6_follow_L66  (n : Nat) : Int32 → Int32 → Int32 → Int32 → Int32 → Int32 → ch_Mem → Option (Int32 × ch_Mem) := ch_fix (fun _ _ _ _ _ _ _ => none) (fun k => D_X6_follow_b66  k) n
def D_X6_follow (x1 : Int32) (x2 : Int32) (x3 : Int32) (x4 : Int32) (M : ch_Mem) : Option (Int32 × ch_Mem) :=
  ch_bd (D_X6_isRow x1 M) (fun r1 M2 => (if r1 = 0 then some ((-2 : Int32), M2) else ch_bd (D_X6_isPlace x2 M2) (fun r3 M4 => (if r3 = 0 then some ((-2 : Int32), M4) else ch_bd (D_X6_isShift x3 M4) (fun r5 M6 => (if r5 = 0 then some ((-2 : Int32), M6) else (if x4 < (1 : Int32) then some ((-2 : Int32), M6) else (if x4 ≤ (20 : Int32) then ch_gd x1 8 ((if (1 : Int32) ≤ (M6.1 (7 + x1.toNatClampNeg) 1) then ch_g0 (M6.1 (7 + x1.toNatClampNeg) 1) (ch_nm (x3 - x3 / (M6.1 (7 + x1.toNatClampNeg) 1) * (M6.1 (7 + x1.toNatClampNeg) 1)) (fun u8 => D_X6_follow_L66 ch_fu x1 x2 x4 (M6.1 (7 + x1.toNatClampNeg) 1) u8 (0 : Int32) M6)) else some ((-3 : Int32), M6))) else some ((-2 : Int32), M6)))))))))
abbrev rm_X6_isBits : Room := { frames := 0, cells := 0, slots := 0, locals := 0 }
def D_X6_isBits (x0 : Int32) (M : ch_Mem) : Option (Int32 × ch_Mem) :=
  (if x0 < (2 : Int32) then some ((0 : Int32), M) else (if (7 : Int32) < x0 then some ((0 : Int32), M) else some ((1 : Int32), M)))
abbrev rm_X6_stepsToReturn : Room := { frames := 2, cells := 0, slots := 0, locals := 43 }
def D_X6_stepsToReturn_b24 (x4 : Int32) (M : ch_Mem) : Option (Int32 × ch_Mem) :=
  some (x4, M)
def D_X6_stepsToReturn_b5 (k5 : Int32 → Int32 → Int32 → Int32 → Int32 → ch_Mem → Option (Int32 × ch_Mem)) (x0 : Int32) (x1 : Int32) (x2 : Int32) (x3 : Int32) (x4 : Int32) (M : ch_Mem) : Option (Int32 × ch_Mem) :=
  (if (127 : Int32) < x4 then some ((127 : Int32), M) else ch_bd (D_X6_stepped x0 x1 x3 M) (fun r1 M2 => (if r1 = x2 then D_X6_stepsToReturn_b24 x4 M2 else k5 x0 x1 x2 r1 (x4 + (1 : Int32)) M2)))
def D_X6_stepsToReturn_L5  (n : Nat) : Int32 → Int32 → Int32 → Int32 → Int32 → ch_Mem → Option (Int32 × ch_Mem) := ch_fix (fun _ _ _ _ _ _ => none) (fun k => D_X6_stepsToReturn_b5  k) n
def D_X6_stepsToReturn (x0 : Int32) (x1 : Int32) (x2 : Int32) (M : ch_Mem) : Option (Int32 × ch_Mem) :=
  D_X6_stepsToReturn_L5 ch_fu x0 x1 x2 x2 (1 : Int32) M
abbrev rm_X6_full : Room := { frames := 3, cells := 0, slots := 0, locals := 67 }
def D_X6_full_b41 (k21 : Int32 → Int32 → Int32 → Int32 → ch_Mem → Option (Int32 × ch_Mem)) (x1 : Int32) (x2 : Int32) (x3 : Int32) (x4 : Int32) (M : ch_Mem) : Option (Int32 × ch_Mem) :=
  k21 x1 x2 x3 (x4 + (2 : Int32)) M
def D_X6_full_b47 (x3 : Int32) (M : ch_Mem) : Option (Int32 × ch_Mem) :=
  some (x3, M)
def D_X6_full_b21 (k21 : Int32 → Int32 → Int32 → Int32 → ch_Mem → Option (Int32 × ch_Mem)) (x1 : Int32) (x2 : Int32) (x3 : Int32) (x4 : Int32) (M : ch_Mem) : Option (Int32 × ch_Mem) :=
  (if x2 < x4 then D_X6_full_b47 x3 M else ch_bd (D_X6_stepsToReturn x1 x4 (1 : Int32) M) (fun r1 M2 => (if r1 = x2 then D_X6_full_b41 k21 x1 x2 (x3 + (1 : Int32)) x4 M2 else D_X6_full_b41 k21 x1 x2 x3 x4 M2)))
def D_X6_full_L21  (n : Nat) : Int32 → Int32 → Int32 → Int32 → ch_Mem → Option (Int32 × ch_Mem) := ch_fix (fun _ _ _ _ _ => none) (fun k => D_X6_full_b21  k) n
def D_X6_full (x1 : Int32) (M : ch_Mem) : Option (Int32 × ch_Mem) :=
  ch_bd (D_X6_isBits x1 M) (fun r1 M2 => (if r1 = 0 then some ((-2 : Int32), M2) else D_X6_full_L21 ch_fu x1 (((1 : Int32) <<< (x1 &&& 31)) - (1 : Int32)) (0 : Int32) (1 : Int32) M2))
abbrev rm_X6_isForm : Room := { frames := 0, cells := 0, slots := 0, locals := 0 }
def D_X6_isForm (x0 : Int32) (M : ch_Mem) : Option (Int32 × ch_Mem) :=
  (if x0 < 0 then some ((0 : Int32), M) else (if (3 : Int32) ≤ x0 then some ((0 : Int32), M) else some ((1 : Int32), M)))
abbrev rm_X6_get : Room := { frames := 2, cells := 0, slots := 0, locals := 43 }
def D_X6_get (x1 : Int32) (x2 : Int32) (x3 : Int32) (M : ch_Mem) : Option (Int32 × ch_Mem) :=
  ch_bd (D_X6_isReel x1 M) (fun r1 M2 => (if r1 = 0 then some ((-2147483648 : Int32), M2) else ch_bd (D_X6_isForm x2 M2) (fun r3 M4 => (if r3 = 0 then some ((-2147483648 : Int32), M4) else ch_gd x1 4 (ch_bd (D_X2_troubleAt (23 + x1.toNatClampNeg) x2 x3 M4) (fun r6 M7 => (if r6 = 0 then ch_gd x1 4 (ch_bd (D_X2_itemOrZero (23 + x1.toNatClampNeg) x3 M7) (fun r9 M10 => some (r9, M10))) else ch_bd (D_X6_found r6 M7) (fun r11 M12 => some ((-2147483648 : Int32), M12)))))))))
abbrev rm_X6_heard : Room := { frames := 3, cells := 0, slots := 0, locals := 65 }
def D_X6_heard_b109 (x3 : Int32) (w0 : Nat) (w1 : Nat) (M : ch_Mem) : Option (Int32 × ch_Mem) :=
  ch_bd (D_X3_sumOver w1 w0 x3 M) (fun r1 M2 => some (r1, M2))
def D_X6_heard (x1 : Int32) (x2 : Int32) (x3 : Int32) (x4 : Int32) (x5 : Int32) (M : ch_Mem) : Option (Int32 × ch_Mem) :=
  ch_bd (D_X6_isRow x1 M) (fun r1 M2 => (if r1 = 0 then some ((-2147483648 : Int32), M2) else ch_bd (D_X6_isPlace x2 M2) (fun r3 M4 => (if r3 = 0 then some ((-2147483648 : Int32), M4) else ch_bd (D_X6_isShift x3 M4) (fun r5 M6 => (if r5 = 0 then some ((-2147483648 : Int32), M6) else (if x4 < 0 then some ((-2147483648 : Int32), M6) else (if (4 : Int32) ≤ x4 then some ((-2147483648 : Int32), M6) else (if x5 < 0 then some ((-2147483648 : Int32), M6) else (if (1 : Int32) < x5 then some ((-2147483648 : Int32), M6) else ch_gd x1 8 (ch_bd (D_X3_isNone (7 + x1.toNatClampNeg) M6) (fun r8 M9 => (if r8 = 0 then ch_gd x1 8 (ch_bd (D_X6_listen x2 (M9.1 (7 + x1.toNatClampNeg) 1) M9) (fun r11 M12 => ch_bd (D_X5_turnBack x4 M12) (fun r13 M14 => ch_gd x1 8 ((if x5 = 0 then D_X6_heard_b109 x3 33 (7 + x1.toNatClampNeg) M14 else D_X6_heard_b109 x3 34 (7 + x1.toNatClampNeg) M14))))) else some ((-2147483648 : Int32), M9))))))))))))))
abbrev rm_X6_meetings : Room := { frames := 0, cells := 0, slots := 0, locals := 0 }
def D_X6_meetings_b35 (k6 : Int32 → Int32 → Int32 → Int32 → Int32 → Int32 → Int32 → ch_Mem → Option (Int32 × ch_Mem)) (x0 : Int32) (x1 : Int32) (x2 : Int32) (x3 : Int32) (x4 : Int32) (x5 : Int32) (x6 : Int32) (M : ch_Mem) : Option (Int32 × ch_Mem) :=
  k6 x0 x1 x2 x3 x4 x5 (x6 + (1 : Int32)) M
def D_X6_meetings_b41 (x5 : Int32) (M : ch_Mem) : Option (Int32 × ch_Mem) :=
  some (x5, M)
def D_X6_meetings_b6 (k6 : Int32 → Int32 → Int32 → Int32 → Int32 → Int32 → Int32 → ch_Mem → Option (Int32 × ch_Mem)) (x0 : Int32) (x1 : Int32) (x2 : Int32) (x3 : Int32) (x4 : Int32) (x5 : Int32) (x6 : Int32) (M : ch_Mem) : Option (Int32 × ch_Mem) :=
  (if x0 ≤ x6 then D_X6_meetings_b41 x5 M else ch_g0 x0 (ch_g0 x0 ((if ((x1 * x6) - (x1 * x6) / x0 * x0) = (((x2 * (x6 + x3)) + x4) - ((x2 * (x6 + x3)) + x4) / x0 * x0) then D_X6_meetings_b35 k6 x0 x1 x2 x3 x4 (x5 + (1 : Int32)) x6 M else D_X6_meetings_b35 k6 x0 x1 x2 x3 x4 x5 x6 M))))
def D_X6_meetings_L6  (n : Nat) : Int32 → Int32 → Int32 → Int32 → Int32 → Int32 → Int32 → ch_Mem → Option (Int32 × ch_Mem) := ch_fix (fun _ _ _ _ _ _ _ _ => none) (fun k => D_X6_meetings_b6  k) n
def D_X6_meetings (x0 : Int32) (x1 : Int32) (x2 : Int32) (x3 : Int32) (x4 : Int32) (M : ch_Mem) : Option (Int32 × ch_Mem) :=
  D_X6_meetings_L6 ch_fu x0 x1 x2 x3 x4 (0 : Int32) (0 : Int32) M
abbrev rm_X6_hits : Room := { frames := 1, cells := 0, slots := 0, locals := 27 }
def D_X6_hits (x1 : Int32) (x2 : Int32) (x3 : Int32) (x4 : Int32) (x5 : Int32) (M : ch_Mem) : Option (Int32 × ch_Mem) :=
  ch_bd (D_X6_areHops x1 x2 x3 M) (fun r1 M2 => (if r1 = 0 then some ((-2 : Int32), M2) else (if x4 < 0 then some ((-2 : Int32), M2) else (if x1 ≤ x4 then some ((-2 : Int32), M2) else (if x5 < 0 then some ((-2 : Int32), M2) else (if x5 < x1 then ch_bd (D_X6_meetings x1 x2 x3 x4 x5 M2) (fun r3 M4 => some (r3, M4)) else some ((-2 : Int32), M2)))))))
abbrev rm_X6_isRegister : Room := { frames := 1, cells := 0, slots := 0, locals := 20 }
def D_X6_isRegister (x0 : Int32) (x1 : Int32) (x2 : Int32) (M : ch_Mem) : Option (Int32 × ch_Mem) :=
  ch_bd (D_X6_isBits x0 M) (fun r1 M2 => (if r1 = 0 then some ((0 : Int32), M2) else (if x1 ≤ 0 then some ((0 : Int32), M2) else (if ((1 : Int32) <<< (x0 &&& 31)) ≤ x1 then some ((0 : Int32), M2) else (if (x1 &&& (1 : Int32)) = (1 : Int32) then (if x2 ≤ 0 then some ((0 : Int32), M2) else (if ((1 : Int32) <<< (x0 &&& 31)) ≤ x2 then some ((0 : Int32), M2) else some ((1 : Int32), M2))) else some ((0 : Int32), M2))))))
abbrev rm_X6_isSize : Room := { frames := 0, cells := 0, slots := 0, locals := 0 }
def D_X6_isSize (x0 : Int32) (M : ch_Mem) : Option (Int32 × ch_Mem) :=
  (if x0 < (1 : Int32) then some ((0 : Int32), M) else (if (127 : Int32) < x0 then some ((0 : Int32), M) else some ((1 : Int32), M)))
abbrev rm_X6_isSizeOfAnyRow : Room := { frames := 0, cells := 0, slots := 0, locals := 0 }
def D_X6_isSizeOfAnyRow_b2 (k2 : Int32 → Int32 → ch_Mem → Option (Int32 × ch_Mem)) (x1 : Int32) (x2 : Int32) (M : ch_Mem) : Option (Int32 × ch_Mem) :=
  (if (8 : Int32) ≤ x2 then some ((0 : Int32), M) else ch_gd x2 8 ((if (M.1 (7 + x2.toNatClampNeg) 1) = x1 then some ((1 : Int32), M) else k2 x1 (x2 + (1 : Int32)) M)))
def D_X6_isSizeOfAnyRow_L2  (n : Nat) : Int32 → Int32 → ch_Mem → Option (Int32 × ch_Mem) := ch_fix (fun _ _ _ => none) (fun k => D_X6_isSizeOfAnyRow_b2  k) n
def D_X6_isSizeOfAnyRow (x1 : Int32) (M : ch_Mem) : Option (Int32 × ch_Mem) :=
  D_X6_isSizeOfAnyRow_L2 ch_fu x1 (0 : Int32) M
abbrev rm_X6_join : Room := { frames := 2, cells := 0, slots := 0, locals := 44 }
def D_X6_join_b106 (x4 : Int32) (x5 : Int32) (M : ch_Mem) : Option (Int32 × ch_Mem) :=
  ch_gd x4 8 (ch_bd (D_X3_fillBySignsOf (7 + x4.toNatClampNeg) 31 x5 M) (fun r2 M3 => some (x5, M3)))
def D_X6_join_b58 (k58 : Int32 → Int32 → Int32 → Int32 → Int32 → Int32 → ch_Mem → Option (Int32 × ch_Mem)) (x1 : Int32) (x2 : Int32) (x3 : Int32) (x4 : Int32) (x5 : Int32) (x6 : Int32) (M : ch_Mem) : Option (Int32 × ch_Mem) :=
  (if x5 ≤ x6 then D_X6_join_b106 x4 x5 M else ch_gd x1 8 (ch_bd (D_X3_signAt (7 + x1.toNatClampNeg) x6 M) (fun r2 M3 => ch_gd x2 8 (ch_bd (D_X3_signAt (7 + x2.toNatClampNeg) (x6 + x3) M3) (fun r5 M6 => ch_gd x6 127 (k58 x1 x2 x3 x4 x5 (x6 + (1 : Int32)) (ch_wI M6 31 x6.toNatClampNeg (r2 * r5))))))))
def D_X6_join_L58  (n : Nat) : Int32 → Int32 → Int32 → Int32 → Int32 → Int32 → ch_Mem → Option (Int32 × ch_Mem) := ch_fix (fun _ _ _ _ _ _ _ => none) (fun k => D_X6_join_b58  k) n
def D_X6_join (x1 : Int32) (x2 : Int32) (x3 : Int32) (x4 : Int32) (M : ch_Mem) : Option (Int32 × ch_Mem) :=
  ch_bd (D_X6_isRow x1 M) (fun r1 M2 => (if r1 = 0 then some ((-2 : Int32), M2) else ch_bd (D_X6_isRow x2 M2) (fun r3 M4 => (if r3 = 0 then some ((-2 : Int32), M4) else ch_bd (D_X6_isShift x3 M4) (fun r5 M6 => (if r5 = 0 then some ((-2 : Int32), M6) else ch_bd (D_X6_isRow x4 M6) (fun r7 M8 => (if r7 = 0 then some ((-2 : Int32), M8) else ch_bd (D_X6_arePaired x1 x2 M8) (fun r9 M10 => (if r9 = 0 then some ((-3 : Int32), M10) else ch_gd x1 8 (D_X6_join_L58 ch_fu x1 x2 x3 x4 (M10.1 (7 + x1.toNatClampNeg) 1) (0 : Int32) M10)))))))))))
abbrev rm_X6_length : Room := { frames := 1, cells := 0, slots := 0, locals := 23 }
def D_X6_length (x1 : Int32) (x2 : Int32) (M : ch_Mem) : Option (Int32 × ch_Mem) :=
  (if x1 < (2 : Int32) then some ((-2 : Int32), M) else (if (127 : Int32) < x1 then some ((-2 : Int32), M) else (if x2 < 0 then some ((-2 : Int32), M) else (if x1 ≤ x2 then some ((-2 : Int32), M) else ch_bd (D_X0_haveDivisorWith x1 M) (fun r1 M2 => (if r1 = 0 then (if (M2.1 6 2) < (5 : Int32) then ch_bd (D_X0_keep x1 x2 M2) (fun r3 M4 => some ((M4.1 6 2), M4)) else some ((-4 : Int32), M2)) else some ((-2 : Int32), M2)))))))
abbrev rm_X6_like : Room := { frames := 2, cells := 0, slots := 0, locals := 47 }
def D_X6_like (x1 : Int32) (x2 : Int32) (x3 : Int32) (M : ch_Mem) : Option (Int32 × ch_Mem) :=
  ch_bd (D_X6_isRow x1 M) (fun r1 M2 => (if r1 = 0 then some ((-1002 : Int32), M2) else ch_bd (D_X6_isRow x2 M2) (fun r3 M4 => (if r3 = 0 then some ((-1002 : Int32), M4) else ch_bd (D_X6_isShift x3 M4) (fun r5 M6 => (if r5 = 0 then some ((-1002 : Int32), M6) else ch_bd (D_X6_arePaired x1 x2 M6) (fun r7 M8 => (if r7 = 0 then some ((-1003 : Int32), M8) else ch_gd x2 8 (ch_gd x1 8 (ch_bd (D_X3_sumOver (7 + x2.toNatClampNeg) ((7 + x1.toNatClampNeg) + 8) x3 M8) (fun r11 M12 => some (r11, M12))))))))))))
abbrev rm_X6_load : Room := { frames := 2, cells := 0, slots := 0, locals := 44 }
def D_X6_load (x1 : Int32) (x2 : Int32) (x3 : Int32) (M : ch_Mem) : Option (Int32 × ch_Mem) :=
  ch_bd (D_X6_isRow x1 M) (fun r1 M2 => (if r1 = 0 then some ((-2 : Int32), M2) else ch_bd (D_X6_isReel x2 M2) (fun r3 M4 => (if r3 = 0 then some ((-2 : Int32), M4) else ch_bd (D_X6_isSize x3 M4) (fun r5 M6 => (if r5 = 0 then some ((-2 : Int32), M6) else ch_gd x2 4 ((if (M6.1 (23 + x2.toNatClampNeg) 1) = 0 then ch_gd x2 4 ((if x3 ≤ (M6.1 (23 + x2.toNatClampNeg) 3) then ch_gd x1 8 (ch_gd x2 4 (ch_bd (D_X3_fillBySignsOf (7 + x1.toNatClampNeg) ((23 + x2.toNatClampNeg) + 4) x3 M6) (fun r11 M12 => some (x3, M12)))) else ch_bd (D_X6_found (2 : Int32) M6) (fun r13 M14 => some (r13, M14)))) else ch_bd (D_X6_found (1 : Int32) M6) (fun r15 M16 => some (r15, M16))))))))))
abbrev rm_X6_lose : Room := { frames := 1, cells := 0, slots := 0, locals := 21 }
def D_X6_lose (x1 : Int32) (M : ch_Mem) : Option (Int32 × ch_Mem) :=
  ch_bd (D_X6_isReel x1 M) (fun r1 M2 => (if r1 = 0 then some ((-2 : Int32), M2) else ch_gd x1 4 ((if (M2.1 (23 + x1.toNatClampNeg) 1) = 0 then ch_gd x1 4 (ch_gd x1 4 (some (((ch_wI M2 (23 + x1.toNatClampNeg) 1 (1 : Int32)).1 (23 + x1.toNatClampNeg) 3), ch_wI M2 (23 + x1.toNatClampNeg) 1 (1 : Int32)))) else ch_bd (D_X6_found (1 : Int32) M2) (fun r6 M7 => some (r6, M7))))))
abbrev rm_X6_make : Room := { frames := 3, cells := 0, slots := 0, locals := 68 }
def D_X6_make (x1 : Int32) (x2 : Int32) (x3 : Int32) (x4 : Int32) (M : ch_Mem) : Option (Int32 × ch_Mem) :=
  ch_bd (D_X6_isRow x1 M) (fun r1 M2 => (if r1 = 0 then some ((-2 : Int32), M2) else ch_bd (D_X6_isRegister x2 x3 x4 M2) (fun r3 M4 => (if r3 = 0 then some ((-2 : Int32), M4) else ch_gd x1 8 (ch_bd (D_X3_fillByRegister (7 + x1.toNatClampNeg) x2 x3 x4 M4) (fun r6 M7 => ch_gd x1 8 (some ((M7.1 (7 + x1.toNatClampNeg) 1), M7))))))))
abbrev rm_X6_mend : Room := { frames := 2, cells := 0, slots := 0, locals := 46 }
def D_X6_mend_b58 (k29 : Int32 → Int32 → Int32 → Int32 → ch_Mem → Option (Int32 × ch_Mem)) (x1 : Int32) (x2 : Int32) (x3 : Int32) (x4 : Int32) (M : ch_Mem) : Option (Int32 × ch_Mem) :=
  k29 x1 x2 x3 (x4 + (1 : Int32)) M
def D_X6_mend_b64 (x2 : Int32) (x3 : Int32) (M : ch_Mem) : Option (Int32 × ch_Mem) :=
  some ((((10 : Int32) * x2) + x3), M)
def D_X6_mend_b29 (k29 : Int32 → Int32 → Int32 → Int32 → ch_Mem → Option (Int32 × ch_Mem)) (x1 : Int32) (x2 : Int32) (x3 : Int32) (x4 : Int32) (M : ch_Mem) : Option (Int32 × ch_Mem) :=
  (if x1 ≤ x4 then D_X6_mend_b64 x2 x3 M else ch_bd (D_X0_howManyFit x4 M) (fun r1 M2 => (if r1 ≤ x3 then D_X6_mend_b58 k29 x1 x2 x3 x4 M2 else D_X6_mend_b58 k29 x1 x4 r1 x4 M2)))
def D_X6_mend_L29  (n : Nat) : Int32 → Int32 → Int32 → Int32 → ch_Mem → Option (Int32 × ch_Mem) := ch_fix (fun _ _ _ _ _ => none) (fun k => D_X6_mend_b29  k) n
def D_X6_mend (x1 : Int32) (M : ch_Mem) : Option (Int32 × ch_Mem) :=
  (if x1 < (1 : Int32) then some ((-2 : Int32), M) else (if x1 ≤ (20000 : Int32) then ch_bd (D_X0_howManyFit (0 : Int32) M) (fun r1 M2 => D_X6_mend_L29 ch_fu x1 (0 : Int32) r1 (1 : Int32) M2) else some ((-2 : Int32), M)))
abbrev rm_X6_most : Room := { frames := 2, cells := 0, slots := 0, locals := 47 }
def D_X6_most_b91 (x3 : Int32) (M : ch_Mem) : Option (Int32 × ch_Mem) :=
  some (x3, M)
def D_X6_most_b43 (k43 : Int32 → Int32 → Int32 → Int32 → ch_Mem → Option (Int32 × ch_Mem)) (x1 : Int32) (x2 : Int32) (x3 : Int32) (x4 : Int32) (M : ch_Mem) : Option (Int32 × ch_Mem) :=
  ch_gd x1 8 ((if (M.1 (7 + x1.toNatClampNeg) 1) ≤ x4 then D_X6_most_b91 x3 M else ch_gd x2 8 (ch_gd x1 8 (ch_bd (D_X3_sumOver (7 + x2.toNatClampNeg) ((7 + x1.toNatClampNeg) + 8) x4 M) (fun r4 M5 => ch_nm (if x3 < (if 0 ≤ r4 then r4 else 0 - r4) then (if 0 ≤ r4 then r4 else 0 - r4) else x3) (fun u6 => k43 x1 x2 u6 (x4 + (1 : Int32)) M5))))))
def D_X6_most_L43  (n : Nat) : Int32 → Int32 → Int32 → Int32 → ch_Mem → Option (Int32 × ch_Mem) := ch_fix (fun _ _ _ _ _ => none) (fun k => D_X6_most_b43  k) n
def D_X6_most_b41 (x1 : Int32) (x2 : Int32) (x3 : Int32) (y0 : Int32) (M : ch_Mem) : Option (Int32 × ch_Mem) :=
  D_X6_most_L43 ch_fu x1 x2 x3 y0 M
def D_X6_most (x1 : Int32) (x2 : Int32) (M : ch_Mem) : Option (Int32 × ch_Mem) :=
  ch_bd (D_X6_isRow x1 M) (fun r1 M2 => (if r1 = 0 then some ((-2 : Int32), M2) else ch_bd (D_X6_isRow x2 M2) (fun r3 M4 => (if r3 = 0 then some ((-2 : Int32), M4) else ch_bd (D_X6_arePaired x1 x2 M4) (fun r5 M6 => (if r5 = 0 then some ((-3 : Int32), M6) else (if x1 = x2 then D_X6_most_b41 x1 x2 (0 : Int32) (1 : Int32) M6 else D_X6_most_b41 x1 x2 (0 : Int32) (0 : Int32) M6)))))))
abbrev rm_X6_noise : Room := { frames := 0, cells := 0, slots := 0, locals := 0 }
def D_X6_noise (M : ch_Mem) : Option (Int64 × ch_Mem) :=
  some ((M.2 5 4), M)
abbrev rm_J9_floorDiv_7cf53 : Room := { frames := 0, cells := 0, slots := 0, locals := 0 }
def D_J9_floorDiv_7cf53_b21 (x2 : Int32) (M : ch_Mem) : Option (Int32 × ch_Mem) :=
  some (x2, M)
def D_J9_floorDiv_7cf53 (x0 : Int32) (x1 : Int32) (M : ch_Mem) : Option (Int32 × ch_Mem) :=
  ch_g0 x1 ((if 0 ≤ (x0 ^^^ x1) then D_J9_floorDiv_7cf53_b21 (x0 / x1) M else (if ((x0 / x1) * x1) = x0 then D_J9_floorDiv_7cf53_b21 (x0 / x1) M else some (((x0 / x1) - (1 : Int32)), M))))
abbrev rm_X6_roundedRatio : Room := { frames := 1, cells := 0, slots := 0, locals := 22 }
def D_X6_roundedRatio (x0 : Int32) (x1 : Int32) (M : ch_Mem) : Option (Int32 × ch_Mem) :=
  (if (1 : Int32) ≤ x1 then ch_bd (D_J9_floorDiv_7cf53 (((2 : Int32) * x0) + x1) ((2 : Int32) * x1) M) (fun r1 M2 => some (r1, M2)) else some ((0 : Int32), M))
abbrev rm_X6_takeOffLoudest : Room := { frames := 3, cells := 0, slots := 0, locals := 67 }
def D_X6_takeOffLoudest_b86 (k10 : Int32 → Int32 → Int32 → Int32 → Int32 → ch_Mem → Option (Int32 × ch_Mem)) (k37 : Int32 → Int32 → Int32 → Int32 → Int32 → Int32 → ch_Mem → Option (Int32 × ch_Mem)) (x1 : Int32) (x2 : Int32) (x3 : Int32) (x4 : Int32) (x5 : Int32) (x6 : Int32) (M : ch_Mem) : Option (Int32 × ch_Mem) :=
  k37 x1 x2 x3 x4 x5 (x6 + (1 : Int32)) M
def D_X6_takeOffLoudest_b92 (k10 : Int32 → Int32 → Int32 → Int32 → Int32 → ch_Mem → Option (Int32 × ch_Mem)) (x1 : Int32) (x2 : Int32) (x3 : Int32) (x4 : Int32) (x5 : Int32) (M : ch_Mem) : Option (Int32 × ch_Mem) :=
  k10 x1 x2 x3 x4 (x5 + (1 : Int32)) M
def D_X6_takeOffLoudest_b37 (k10 : Int32 → Int32 → Int32 → Int32 → Int32 → ch_Mem → Option (Int32 × ch_Mem)) (k37 : Int32 → Int32 → Int32 → Int32 → Int32 → Int32 → ch_Mem → Option (Int32 × ch_Mem)) (x1 : Int32) (x2 : Int32) (x3 : Int32) (x4 : Int32) (x5 : Int32) (x6 : Int32) (M : ch_Mem) : Option (Int32 × ch_Mem) :=
  (if x1 ≤ x6 then D_X6_takeOffLoudest_b92 k10 x1 x2 x3 x4 x5 M else ch_gd x5 8 (ch_bd (D_X3_sumOver (7 + x5.toNatClampNeg) 31 x6 M) (fun r2 M3 => (if (if 0 ≤ r2 then r2 else 0 - r2) ≤ (if 0 ≤ x2 then x2 else 0 - x2) then D_X6_takeOffLoudest_b86 k10 k37 x1 x2 x3 x4 x5 x6 M3 else D_X6_takeOffLoudest_b86 k10 k37 x1 r2 x5 x6 x5 x6 M3))))
def D_X6_takeOffLoudest_L37 (k10 : Int32 → Int32 → Int32 → Int32 → Int32 → ch_Mem → Option (Int32 × ch_Mem)) (n : Nat) : Int32 → Int32 → Int32 → Int32 → Int32 → Int32 → ch_Mem → Option (Int32 × ch_Mem) := ch_fix (fun _ _ _ _ _ _ _ => none) (fun k => D_X6_takeOffLoudest_b37 k10 k) n
def D_X6_takeOffLoudest_b98 (x1 : Int32) (x2 : Int32) (x3 : Int32) (x4 : Int32) (M : ch_Mem) : Option (Int32 × ch_Mem) :=
  ch_bd (D_X6_roundedRatio x2 x1 M) (fun r1 M2 => (if r1 = 0 then some ((0 : Int32), M2) else ch_gd x3 8 (ch_bd (D_X3_takeOff (7 + x3.toNatClampNeg) 31 x4 r1 M2) (fun r4 M5 => ch_bd (D_X1_keep x3 x4 r1 M5) (fun r6 M7 => some ((1 : Int32), M7))))))
def D_X6_takeOffLoudest_b10 (k10 : Int32 → Int32 → Int32 → Int32 → Int32 → ch_Mem → Option (Int32 × ch_Mem)) (x1 : Int32) (x2 : Int32) (x3 : Int32) (x4 : Int32) (x5 : Int32) (M : ch_Mem) : Option (Int32 × ch_Mem) :=
  (if (8 : Int32) ≤ x5 then D_X6_takeOffLoudest_b98 x1 x2 x3 x4 M else ch_gd x5 8 ((if (M.1 (7 + x5.toNatClampNeg) 1) = x1 then D_X6_takeOffLoudest_L37 k10 ch_fu x1 x2 x3 x4 x5 (0 : Int32) M else D_X6_takeOffLoudest_b92 k10 x1 x2 x3 x4 x5 M)))
def D_X6_takeOffLoudest_L10  (n : Nat) : Int32 → Int32 → Int32 → Int32 → Int32 → ch_Mem → Option (Int32 × ch_Mem) := ch_fix (fun _ _ _ _ _ _ => none) (fun k => D_X6_takeOffLoudest_b10  k) n
def D_X6_takeOffLoudest (x1 : Int32) (M : ch_Mem) : Option (Int32 × ch_Mem) :=
  D_X6_takeOffLoudest_L10 ch_fu x1 (0 : Int32) (0 : Int32) (0 : Int32) (0 : Int32) M
abbrev rm_X6_peel : Room := { frames := 4, cells := 0, slots := 0, locals := 94 }
def D_X6_peel_b67 (M : ch_Mem) : Option (Int32 × ch_Mem) :=
  ch_bd (D_X5_squaresOfX M) (fun r1 M2 => some (((ch_wL M2 5 4 r1).1 5 3), ch_wL M2 5 4 r1))
def D_X6_peel_b58 (M : ch_Mem) : Option (Int32 × ch_Mem) :=
  D_X6_peel_b67 M
def D_X6_peel_b44 (k44 : Int32 → Int32 → ch_Mem → Option (Int32 × ch_Mem)) (x2 : Int32) (x3 : Int32) (M : ch_Mem) : Option (Int32 × ch_Mem) :=
  (if (20 : Int32) ≤ x3 then D_X6_peel_b67 M else ch_bd (D_X6_takeOffLoudest x2 M) (fun r1 M2 => (if r1 = 0 then D_X6_peel_b58 M2 else k44 x2 (x3 + (1 : Int32)) M2)))
def D_X6_peel_L44  (n : Nat) : Int32 → Int32 → ch_Mem → Option (Int32 × ch_Mem) := ch_fix (fun _ _ _ => none) (fun k => D_X6_peel_b44  k) n
def D_X6_peel (x1 : Int32) (x2 : Int32) (M : ch_Mem) : Option (Int32 × ch_Mem) :=
  ch_bd (D_X6_isPlace x1 M) (fun r1 M2 => (if r1 = 0 then some ((-2 : Int32), M2) else ch_bd (D_X6_isSize x2 M2) (fun r3 M4 => (if r3 = 0 then some ((-2 : Int32), M4) else ch_bd (D_X6_isSizeOfAnyRow x2 M4) (fun r5 M6 => (if r5 = 0 then some ((-3 : Int32), M6) else ch_bd (D_X6_listen x1 x2 M6) (fun r7 M8 => D_X6_peel_L44 ch_fu x2 (0 : Int32) (ch_wI M8 5 3 (0 : Int32)))))))))
abbrev rm_X6_peeled : Room := { frames := 0, cells := 0, slots := 0, locals := 0 }
def D_X6_peeled (x1 : Int32) (x2 : Int32) (M : ch_Mem) : Option (Int32 × ch_Mem) :=
  (if x1 < 0 then some ((-1000000 : Int32), M) else (if x1 < (M.1 5 3) then (if x2 = (0 : Int32) then ch_gd x1 20 (some ((M.1 35 x1.toNatClampNeg), M)) else (if x2 = (1 : Int32) then ch_gd x1 20 (some ((M.1 36 x1.toNatClampNeg), M)) else (if x2 = (2 : Int32) then ch_gd x1 20 (some ((M.1 37 x1.toNatClampNeg), M)) else some ((-1000000 : Int32), M)))) else some ((-1000000 : Int32), M)))
abbrev rm_X6_period : Room := { frames := 3, cells := 0, slots := 0, locals := 67 }
def D_X6_period (x1 : Int32) (x2 : Int32) (x3 : Int32) (M : ch_Mem) : Option (Int32 × ch_Mem) :=
  ch_bd (D_X6_isRegister x1 x2 x3 M) (fun r1 M2 => (if r1 = 0 then some ((-2 : Int32), M2) else ch_bd (D_X6_stepsToReturn x1 x2 x3 M2) (fun r3 M4 => some (r3, M4))))
abbrev rm_X6_searchFor : Room := { frames := 3, cells := 0, slots := 0, locals := 65 }
def D_X6_searchFor_b154 (k55 : Int32 → Int32 → ch_Mem → Option (Int32 × ch_Mem)) (x1 : Int32) (x3 : Int32) (M : ch_Mem) : Option (Int32 × ch_Mem) :=
  k55 x1 (x3 + (1 : Int32)) M
def D_X6_searchFor_b71 (k55 : Int32 → Int32 → ch_Mem → Option (Int32 × ch_Mem)) (k71 : Int32 → Int32 → Int32 → ch_Mem → Option (Int32 × ch_Mem)) (x1 : Int32) (x3 : Int32) (x4 : Int32) (M : ch_Mem) : Option (Int32 × ch_Mem) :=
  ch_gd x1 8 ((if (M.1 (7 + x1.toNatClampNeg) 1) ≤ x4 then D_X6_searchFor_b154 k55 x1 x3 M else ch_gd x1 8 (ch_bd (D_X3_sumOver (7 + x1.toNatClampNeg) 33 x4 M) (fun r3 M4 => ch_gd x1 8 (ch_bd (D_X3_sumOver (7 + x1.toNatClampNeg) 34 x4 M4) (fun r6 M7 => ch_bd (D_X4_weigh ((r3.toInt64 * r3.toInt64) + (r6.toInt64 * r6.toInt64)) x3 x4 M7) (fun r8 M9 => k71 x1 x3 (x4 + (1 : Int32)) M9)))))))
def D_X6_searchFor_L71 (k55 : Int32 → Int32 → ch_Mem → Option (Int32 × ch_Mem)) (n : Nat) : Int32 → Int32 → Int32 → ch_Mem → Option (Int32 × ch_Mem) := ch_fix (fun _ _ _ _ => none) (fun k => D_X6_searchFor_b71 k55 k) n
def D_X6_searchFor_b55 (k55 : Int32 → Int32 → ch_Mem → Option (Int32 × ch_Mem)) (x1 : Int32) (x3 : Int32) (M : ch_Mem) : Option (Int32 × ch_Mem) :=
  (if (4 : Int32) ≤ x3 then some ((0 : Int32), M) else ch_bd (D_X5_turnBack x3 M) (fun r1 M2 => D_X6_searchFor_L71 k55 ch_fu x1 x3 (0 : Int32) M2))
def D_X6_searchFor_L55  (n : Nat) : Int32 → Int32 → ch_Mem → Option (Int32 × ch_Mem) := ch_fix (fun _ _ _ => none) (fun k => D_X6_searchFor_b55  k) n
def D_X6_searchFor (x1 : Int32) (x2 : Int32) (M : ch_Mem) : Option (Int32 × ch_Mem) :=
  ch_bd (D_X6_isRow x1 M) (fun r1 M2 => (if r1 = 0 then some ((-2 : Int32), M2) else ch_bd (D_X6_isPlace x2 M2) (fun r3 M4 => (if r3 = 0 then some ((-2 : Int32), M4) else ch_gd x1 8 (ch_bd (D_X3_isNone (7 + x1.toNatClampNeg) M4) (fun r6 M7 => (if r6 = 0 then ch_gd x1 8 (ch_bd (D_X6_listen x2 (M7.1 (7 + x1.toNatClampNeg) 1) M7) (fun r9 M10 => ch_bd (D_X4_begin M10) (fun r11 M12 => D_X6_searchFor_L55 ch_fu x1 (0 : Int32) M12))) else some ((-3 : Int32), M7))))))))
abbrev rm_X6_power : Room := { frames := 4, cells := 0, slots := 0, locals := 93 }
def D_X6_power (x1 : Int32) (x2 : Int32) (M : ch_Mem) : Option (Int64 × ch_Mem) :=
  ch_bd (D_X6_searchFor x1 x2 M) (fun r1 M2 => (if r1 = 0 then some ((M2.2 4 0), M2) else some (((-9223372036854775808 : Int64) - r1.toInt64), M2)))
abbrev rm_X6_put : Room := { frames := 2, cells := 0, slots := 0, locals := 43 }
def D_X6_put (x1 : Int32) (x2 : Int32) (x3 : Int32) (x4 : Int32) (M : ch_Mem) : Option (Int32 × ch_Mem) :=
  ch_bd (D_X6_isReel x1 M) (fun r1 M2 => (if r1 = 0 then some ((-2 : Int32), M2) else ch_bd (D_X6_isForm x2 M2) (fun r3 M4 => (if r3 = 0 then some ((-2 : Int32), M4) else ch_gd x1 4 (ch_bd (D_X2_troubleAt (23 + x1.toNatClampNeg) x2 x3 M4) (fun r6 M7 => (if r6 = 0 then ch_gd x1 4 (ch_bd (D_X2_keep (23 + x1.toNatClampNeg) x3 x4 M7) (fun r9 M10 => some ((1 : Int32), M10))) else ch_bd (D_X6_found r6 M7) (fun r11 M12 => some (r11, M12)))))))))
abbrev rm_X6_range : Room := { frames := 2, cells := 0, slots := 0, locals := 49 }
def D_X6_range (M : ch_Mem) : Option (Int64 × ch_Mem) :=
  ch_bd (D_X0_leastFitting M) (fun r1 M2 => some (r1, M2))
abbrev rm_X6_reel : Room := { frames := 2, cells := 0, slots := 0, locals := 44 }
def D_X6_reel (x1 : Int32) (x2 : Int32) (x3 : Int32) (M : ch_Mem) : Option (Int32 × ch_Mem) :=
  ch_bd (D_X6_isReel x1 M) (fun r1 M2 => (if r1 = 0 then some ((-2 : Int32), M2) else ch_bd (D_X6_isForm x2 M2) (fun r3 M4 => (if r3 = 0 then some ((-2 : Int32), M4) else (if x3 ≤ (300 : Int32) then (if 0 ≤ x3 then ch_gd x1 4 (ch_bd (D_X2_renew (23 + x1.toNatClampNeg) x2 x3 M4) (fun r6 M7 => some (x3, M7))) else ch_bd (D_X6_found (5 : Int32) M4) (fun r8 M9 => some (r8, M9))) else some ((-2 : Int32), M4))))))
abbrev rm_X6_reset : Room := { frames := 0, cells := 0, slots := 0, locals := 0 }
def D_X6_reset (M : ch_Mem) : Option (Int32 × ch_Mem) :=
  some ((M.1 6 2), ch_wI M 6 2 (0 : Int32))
abbrev rm_X6_search : Room := { frames := 4, cells := 0, slots := 0, locals := 93 }
def D_X6_search (x1 : Int32) (x2 : Int32) (M : ch_Mem) : Option (Int32 × ch_Mem) :=
  ch_bd (D_X6_searchFor x1 x2 M) (fun r1 M2 => (if r1 = 0 then some ((((1000 : Int32) * (M2.1 4 2)) + (M2.1 4 3)), M2) else some (r1, M2)))
abbrev rm_X6_sign : Room := { frames := 2, cells := 0, slots := 0, locals := 43 }
def D_X6_sign (x1 : Int32) (x2 : Int32) (M : ch_Mem) : Option (Int32 × ch_Mem) :=
  ch_bd (D_X6_isRow x1 M) (fun r1 M2 => (if r1 = 0 then some ((-2 : Int32), M2) else ch_bd (D_X6_isShift x2 M2) (fun r3 M4 => (if r3 = 0 then some ((-2 : Int32), M4) else ch_gd x1 8 (ch_bd (D_X3_isNone (7 + x1.toNatClampNeg) M4) (fun r6 M7 => (if r6 = 0 then ch_gd x1 8 (ch_bd (D_X3_signAt (7 + x1.toNatClampNeg) x2 M7) (fun r9 M10 => some (r9, M10))) else some ((-3 : Int32), M7))))))))
abbrev rm_X6_sure : Room := { frames := 4, cells := 0, slots := 0, locals := 93 }
def D_X6_sure (x1 : Int32) (x2 : Int32) (M : ch_Mem) : Option (Int32 × ch_Mem) :=
  ch_bd (D_X6_searchFor x1 x2 M) (fun r1 M2 => (if r1 = 0 then (if (lg_cmp (M2.2 4 0) (0 : Int64)) ≤ 0 then some ((0 : Int32), M2) else (if 0 < (lg_cmp ((100 : Int64) * (M2.2 4 1)) (((M2.1 0 6).toInt64) * (M2.2 4 0))) then some ((0 : Int32), M2) else some ((1 : Int32), M2))) else some (r1, M2)))
abbrev rm_X6_worst : Room := { frames := 1, cells := 0, slots := 0, locals := 27 }
def D_X6_worst_b70 (k18 : Int32 → Int32 → Int32 → Int32 → Int32 → ch_Mem → Option (Int32 × ch_Mem)) (x1 : Int32) (x2 : Int32) (x3 : Int32) (x4 : Int32) (x5 : Int32) (M : ch_Mem) : Option (Int32 × ch_Mem) :=
  k18 x1 x2 x3 x4 (x5 + (1 : Int32)) M
def D_X6_worst_b41 (k18 : Int32 → Int32 → Int32 → Int32 → Int32 → ch_Mem → Option (Int32 × ch_Mem)) (k41 : Int32 → Int32 → Int32 → Int32 → Int32 → Int32 → ch_Mem → Option (Int32 × ch_Mem)) (x1 : Int32) (x2 : Int32) (x3 : Int32) (x4 : Int32) (x5 : Int32) (x6 : Int32) (M : ch_Mem) : Option (Int32 × ch_Mem) :=
  (if x1 ≤ x6 then D_X6_worst_b70 k18 x1 x2 x3 x4 x5 M else ch_bd (D_X6_meetings x1 x2 x3 x5 x6 M) (fun r1 M2 => k41 x1 x2 x3 (if x4 < r1 then r1 else x4) x5 (x6 + (1 : Int32)) M2))
def D_X6_worst_L41 (k18 : Int32 → Int32 → Int32 → Int32 → Int32 → ch_Mem → Option (Int32 × ch_Mem)) (n : Nat) : Int32 → Int32 → Int32 → Int32 → Int32 → Int32 → ch_Mem → Option (Int32 × ch_Mem) := ch_fix (fun _ _ _ _ _ _ _ => none) (fun k => D_X6_worst_b41 k18 k) n
def D_X6_worst_b39 (k18 : Int32 → Int32 → Int32 → Int32 → Int32 → ch_Mem → Option (Int32 × ch_Mem)) (x1 : Int32) (x2 : Int32) (x3 : Int32) (x4 : Int32) (x5 : Int32) (y0 : Int32) (M : ch_Mem) : Option (Int32 × ch_Mem) :=
  D_X6_worst_L41 k18 ch_fu x1 x2 x3 x4 x5 y0 M
def D_X6_worst_b38 (k18 : Int32 → Int32 → Int32 → Int32 → Int32 → ch_Mem → Option (Int32 × ch_Mem)) (x1 : Int32) (x2 : Int32) (x3 : Int32) (x4 : Int32) (x5 : Int32) (M : ch_Mem) : Option (Int32 × ch_Mem) :=
  D_X6_worst_b39 k18 x1 x2 x3 x4 x5 (0 : Int32) M
def D_X6_worst_b76 (x4 : Int32) (M : ch_Mem) : Option (Int32 × ch_Mem) :=
  some (x4, M)
def D_X6_worst_b18 (k18 : Int32 → Int32 → Int32 → Int32 → Int32 → ch_Mem → Option (Int32 × ch_Mem)) (x1 : Int32) (x2 : Int32) (x3 : Int32) (x4 : Int32) (x5 : Int32) (M : ch_Mem) : Option (Int32 × ch_Mem) :=
  (if x1 ≤ x5 then D_X6_worst_b76 x4 M else (if x2 = x3 then (if x5 = 0 then D_X6_worst_b39 k18 x1 x2 x3 x4 x5 (1 : Int32) M else D_X6_worst_b38 k18 x1 x2 x3 x4 x5 M) else D_X6_worst_b38 k18 x1 x2 x3 x4 x5 M))
def D_X6_worst_L18  (n : Nat) : Int32 → Int32 → Int32 → Int32 → Int32 → ch_Mem → Option (Int32 × ch_Mem) := ch_fix (fun _ _ _ _ _ _ => none) (fun k => D_X6_worst_b18  k) n
def D_X6_worst (x1 : Int32) (x2 : Int32) (x3 : Int32) (M : ch_Mem) : Option (Int32 × ch_Mem) :=
  ch_bd (D_X6_areHops x1 x2 x3 M) (fun r1 M2 => (if r1 = 0 then some ((-2 : Int32), M2) else D_X6_worst_L18 ch_fu x1 x2 x3 (0 : Int32) (0 : Int32) M2))
abbrev rm_X7_in : Room := { frames := 0, cells := 0, slots := 0, locals := 0 }
def D_X7_in (x0 : Int32) (x1 : Int32) (x2 : Int32) (M : ch_Mem) : Option (Int32 × ch_Mem) :=
  (if x0 < x1 then some ((0 : Int32), M) else (if x2 < x0 then some ((0 : Int32), M) else some ((1 : Int32), M)))
abbrev rm_X7_isRow : Room := { frames := 1, cells := 0, slots := 0, locals := 22 }
def D_X7_isRow (x0 : Int32) (M : ch_Mem) : Option (Int32 × ch_Mem) :=
  ch_bd (D_X7_in x0 (0 : Int32) (7 : Int32) M) (fun r1 M2 => some (r1, M2))
abbrev rm_X7_isReel : Room := { frames := 1, cells := 0, slots := 0, locals := 22 }
def D_X7_isReel (x0 : Int32) (M : ch_Mem) : Option (Int32 × ch_Mem) :=
  ch_bd (D_X7_in x0 (0 : Int32) (3 : Int32) M) (fun r1 M2 => some (r1, M2))
abbrev rm_X7_isShift : Room := { frames := 1, cells := 0, slots := 0, locals := 22 }
def D_X7_isShift (x0 : Int32) (M : ch_Mem) : Option (Int32 × ch_Mem) :=
  ch_bd (D_X7_in x0 (0 : Int32) (126 : Int32) M) (fun r1 M2 => some (r1, M2))
abbrev rm_X7_meets : Room := { frames := 0, cells := 0, slots := 0, locals := 0 }
def D_X7_meets (x1 : Int32) (M : ch_Mem) : Option (Int32 × ch_Mem) :=
  some (((-10 : Int32) - x1), ch_wI M 0 18 x1)
abbrev rm_X7_signOf : Room := { frames := 0, cells := 0, slots := 0, locals := 0 }
def D_X7_signOf (x1 : Int32) (x2 : Int32) (M : ch_Mem) : Option (Int32 × ch_Mem) :=
  ch_gd x1 8 (ch_g0 (M.1 1 x1.toNatClampNeg) (ch_gd (((127 : Int32) * x1) + (x2 - x2 / (M.1 1 x1.toNatClampNeg) * (M.1 1 x1.toNatClampNeg))) 1016 (some ((M.1 2 (((127 : Int32) * x1) + (x2 - x2 / (M.1 1 x1.toNatClampNeg) * (M.1 1 x1.toNatClampNeg))).toNatClampNeg), M))))
abbrev rm_X7_cut : Room := { frames := 0, cells := 0, slots := 0, locals := 0 }
def D_X7_cut (x0 : Int32) (x1 : Int32) (M : ch_Mem) : Option (Int32 × ch_Mem) :=
  (if x0 = 0 then some (x1.toInt8.toInt32, M) else (if x0 = (1 : Int32) then some (x1.toInt16.toInt32, M) else some (x1, M)))
abbrev rm_X7_add : Room := { frames := 2, cells := 0, slots := 0, locals := 42 }
def D_X7_add_b187 (x6 : Int32) (M : ch_Mem) : Option (Int32 × ch_Mem) :=
  some (x6, M)
def D_X7_add_b125 (k125 : Int32 → Int32 → Int32 → Int32 → Int32 → Int32 → Int32 → ch_Mem → Option (Int32 × ch_Mem)) (x1 : Int32) (x2 : Int32) (x3 : Int32) (x4 : Int32) (x5 : Int32) (x6 : Int32) (x7 : Int32) (M : ch_Mem) : Option (Int32 × ch_Mem) :=
  (if x6 ≤ x7 then D_X7_add_b187 x6 M else ch_gd x2 4 (ch_gd ((((300 : Int32) * x2) + x3) + x7) 1200 (ch_bd (D_X7_signOf x1 (x7 + x4) M) (fun r1 M2 => ch_bd (D_X7_cut (M.1 9 x2.toNatClampNeg) ((M.1 11 ((((300 : Int32) * x2) + x3) + x7).toNatClampNeg) + (x5 * r1)) M2) (fun r3 M4 => ch_gd ((((300 : Int32) * x2) + x3) + x7) 1200 (k125 x1 x2 x3 x4 x5 x6 (x7 + (1 : Int32)) (ch_wI M4 11 ((((300 : Int32) * x2) + x3) + x7).toNatClampNeg r3)))))))
def D_X7_add_L125  (n : Nat) : Int32 → Int32 → Int32 → Int32 → Int32 → Int32 → Int32 → ch_Mem → Option (Int32 × ch_Mem) := ch_fix (fun _ _ _ _ _ _ _ _ => none) (fun k => D_X7_add_b125  k) n
def D_X7_add_b120 (x1 : Int32) (x2 : Int32) (x3 : Int32) (x4 : Int32) (x5 : Int32) (y0 : Int32) (M : ch_Mem) : Option (Int32 × ch_Mem) :=
  D_X7_add_L125 ch_fu x1 x2 x3 x4 x5 y0 (0 : Int32) M
def D_X7_add (x1 : Int32) (x2 : Int32) (x3 : Int32) (x4 : Int32) (x5 : Int32) (M : ch_Mem) : Option (Int32 × ch_Mem) :=
  ch_bd (D_X7_isRow x1 M) (fun r1 M2 => (if r1 = 0 then some ((-2 : Int32), M2) else ch_bd (D_X7_isReel x2 M2) (fun r3 M4 => (if r3 = 0 then some ((-2 : Int32), M4) else (if x3 < 0 then some ((-2 : Int32), M4) else ch_bd (D_X7_isShift x4 M4) (fun r5 M6 => (if r5 = 0 then some ((-2 : Int32), M6) else ch_bd (D_X7_in x5 (-1000 : Int32) (1000 : Int32) M6) (fun r7 M8 => (if r7 = 0 then some ((-2 : Int32), M8) else ch_gd x2 4 ((if (M8.1 8 x2.toNatClampNeg) = 0 then ch_bd (D_X7_meets (1 : Int32) M8) (fun r11 M12 => some (r11, M12)) else ch_gd x1 8 ((if (M8.1 1 x1.toNatClampNeg) = 0 then some ((-3 : Int32), M8) else ch_gd x2 4 ((if x3 ≤ (M8.1 10 x2.toNatClampNeg) then ch_gd x1 8 (ch_gd x2 4 ((if ((M8.1 10 x2.toNatClampNeg) - x3) ≤ (M8.1 1 x1.toNatClampNeg) then ch_gd x2 4 (D_X7_add_b120 x1 x2 x3 x4 x5 ((M8.1 10 x2.toNatClampNeg) - x3) M8) else ch_gd x1 8 (D_X7_add_b120 x1 x2 x3 x4 x5 (M8.1 1 x1.toNatClampNeg) M8)))) else ch_bd (D_X7_meets (2 : Int32) M8) (fun r9 M10 => some (r9, M10)))))))))))))))))
abbrev rm_X7_sample : Room := { frames := 1, cells := 0, slots := 0, locals := 22 }
def D_X7_sample_b35 (y0 : Int32) (M : ch_Mem) : Option (Int32 × ch_Mem) :=
  ch_bd (D_X7_in y0 (-10000 : Int32) (10000 : Int32) M) (fun r1 M2 => (if r1 = 0 then some ((0 : Int32), M2) else some (y0, M2)))
def D_X7_sample_b34 (M : ch_Mem) : Option (Int32 × ch_Mem) :=
  D_X7_sample_b35 (0 : Int32) M
def D_X7_sample (x1 : Int32) (x2 : Int32) (M : ch_Mem) : Option (Int32 × ch_Mem) :=
  ch_gd x1 4 ((if (M.1 8 x1.toNatClampNeg) = 0 then D_X7_sample_b34 M else ch_gd x1 4 ((if (M.1 10 x1.toNatClampNeg) ≤ x2 then D_X7_sample_b34 M else ch_gd (((300 : Int32) * x1) + x2) 1200 (D_X7_sample_b35 (M.1 11 (((300 : Int32) * x1) + x2).toNatClampNeg) M)))))
abbrev rm_X7_amount : Room := { frames := 2, cells := 0, slots := 0, locals := 45 }
def D_X7_amount_b47 (x4 : Int32) (M : ch_Mem) : Option (Int32 × ch_Mem) :=
  (if 0 ≤ x4 then some (x4, M) else some ((-x4), M))
def D_X7_amount_b6 (k6 : Int32 → Int32 → Int32 → Int32 → Int32 → ch_Mem → Option (Int32 × ch_Mem)) (x1 : Int32) (x2 : Int32) (x3 : Int32) (x4 : Int32) (x5 : Int32) (M : ch_Mem) : Option (Int32 × ch_Mem) :=
  ch_gd x1 8 ((if (M.1 1 x1.toNatClampNeg) ≤ x5 then D_X7_amount_b47 x4 M else ch_bd (D_X7_signOf x1 (x5 + x3) M) (fun r1 M2 => ch_bd (D_X7_sample (0 : Int32) (x2 + x5) M2) (fun r3 M4 => k6 x1 x2 x3 (x4 + (r1 * r3)) (x5 + (1 : Int32)) M4))))
def D_X7_amount_L6  (n : Nat) : Int32 → Int32 → Int32 → Int32 → Int32 → ch_Mem → Option (Int32 × ch_Mem) := ch_fix (fun _ _ _ _ _ _ => none) (fun k => D_X7_amount_b6  k) n
def D_X7_amount (x1 : Int32) (x2 : Int32) (x3 : Int32) (M : ch_Mem) : Option (Int32 × ch_Mem) :=
  D_X7_amount_L6 ch_fu x1 x2 x3 (0 : Int32) (0 : Int32) M
abbrev rm_X7_arePair : Room := { frames := 0, cells := 0, slots := 0, locals := 0 }
def D_X7_arePair (x1 : Int32) (x2 : Int32) (M : ch_Mem) : Option (Int32 × ch_Mem) :=
  ch_gd x1 8 ((if (M.1 1 x1.toNatClampNeg) ≤ 0 then some ((0 : Int32), M) else ch_gd x1 8 (ch_gd x2 8 ((if (M.1 1 x1.toNatClampNeg) = (M.1 1 x2.toNatClampNeg) then some ((1 : Int32), M) else some ((0 : Int32), M))))))
abbrev rm_X7_copy : Room := { frames := 2, cells := 0, slots := 0, locals := 42 }
def D_X7_copy_b35 (M : ch_Mem) : Option (Int32 × ch_Mem) :=
  ch_bd (D_X7_meets (1 : Int32) M) (fun r1 M2 => some (r1, M2))
def D_X7_copy_b111 (M : ch_Mem) : Option (Int32 × ch_Mem) :=
  ch_bd (D_X7_meets (2 : Int32) M) (fun r1 M2 => some (r1, M2))
def D_X7_copy_b158 (k158 : Int32 → Int32 → Int32 → Int32 → ch_Mem → Option (Int32 × ch_Mem)) (x3 : Int32) (x4 : Int32) (x5 : Int32) (x6 : Int32) (M : ch_Mem) : Option (Int32 × ch_Mem) :=
  (if x5 ≤ x6 then some ((1 : Int32), M) else ch_gd x6 300 (ch_gd ((((300 : Int32) * x3) + x4) + x6) 1200 (k158 x3 x4 x5 (x6 + (1 : Int32)) (ch_wI M 11 ((((300 : Int32) * x3) + x4) + x6).toNatClampNeg (M.1 12 x6.toNatClampNeg)))))
def D_X7_copy_L158  (n : Nat) : Int32 → Int32 → Int32 → Int32 → ch_Mem → Option (Int32 × ch_Mem) := ch_fix (fun _ _ _ _ _ => none) (fun k => D_X7_copy_b158  k) n
def D_X7_copy_b155 (x3 : Int32) (x4 : Int32) (x5 : Int32) (M : ch_Mem) : Option (Int32 × ch_Mem) :=
  D_X7_copy_L158 ch_fu x3 x4 x5 (0 : Int32) M
def D_X7_copy_b120 (k120 : Int32 → Int32 → Int32 → Int32 → Int32 → Int32 → ch_Mem → Option (Int32 × ch_Mem)) (x1 : Int32) (x2 : Int32) (x3 : Int32) (x4 : Int32) (x5 : Int32) (x6 : Int32) (M : ch_Mem) : Option (Int32 × ch_Mem) :=
  (if x5 ≤ x6 then D_X7_copy_b155 x3 x4 x5 M else ch_gd ((((300 : Int32) * x1) + x2) + x6) 1200 (ch_gd x6 300 (k120 x1 x2 x3 x4 x5 (x6 + (1 : Int32)) (ch_wI M 12 x6.toNatClampNeg (M.1 11 ((((300 : Int32) * x1) + x2) + x6).toNatClampNeg)))))
def D_X7_copy_L120  (n : Nat) : Int32 → Int32 → Int32 → Int32 → Int32 → Int32 → ch_Mem → Option (Int32 × ch_Mem) := ch_fix (fun _ _ _ _ _ _ _ => none) (fun k => D_X7_copy_b120  k) n
def D_X7_copy (x1 : Int32) (x2 : Int32) (x3 : Int32) (x4 : Int32) (x5 : Int32) (M : ch_Mem) : Option (Int32 × ch_Mem) :=
  ch_bd (D_X7_isReel x1 M) (fun r1 M2 => (if r1 = 0 then some ((-2 : Int32), M2) else ch_bd (D_X7_isReel x3 M2) (fun r3 M4 => (if r3 = 0 then some ((-2 : Int32), M4) else ch_gd x1 4 ((if (M4.1 8 x1.toNatClampNeg) = 0 then D_X7_copy_b35 M4 else ch_gd x3 4 ((if (M4.1 8 x3.toNatClampNeg) = 0 then D_X7_copy_b35 M4 else ch_gd x1 4 (ch_gd x3 4 ((if (M4.1 9 x1.toNatClampNeg) = (M4.1 9 x3.toNatClampNeg) then (if x2 < 0 then D_X7_copy_b111 M4 else (if x4 < 0 then D_X7_copy_b111 M4 else (if x5 < 0 then D_X7_copy_b111 M4 else ch_gd x1 4 ((if 0 < (lg_cmp (x2.toInt64 + x5.toInt64) ((M4.1 10 x1.toNatClampNeg).toInt64)) then D_X7_copy_b111 M4 else ch_gd x3 4 ((if (lg_cmp (x4.toInt64 + x5.toInt64) ((M4.1 10 x3.toNatClampNeg).toInt64)) ≤ 0 then D_X7_copy_L120 ch_fu x1 x2 x3 x4 x5 (0 : Int32) M4 else D_X7_copy_b111 M4))))))) else ch_bd (D_X7_meets (4 : Int32) M4) (fun r5 M6 => some (r5, M6)))))))))))))
abbrev rm_X7_rowsThere : Room := { frames := 0, cells := 0, slots := 0, locals := 0 }
def D_X7_rowsThere_b25 (k4 : Int32 → Int32 → ch_Mem → Option (Int32 × ch_Mem)) (x2 : Int32) (y0 : Int32) (y1 : Int32) (M : ch_Mem) : Option (Int32 × ch_Mem) :=
  k4 (y1 + y0) (x2 + (1 : Int32)) M
def D_X7_rowsThere_b33 (x1 : Int32) (M : ch_Mem) : Option (Int32 × ch_Mem) :=
  some (x1, M)
def D_X7_rowsThere_b4 (k4 : Int32 → Int32 → ch_Mem → Option (Int32 × ch_Mem)) (x1 : Int32) (x2 : Int32) (M : ch_Mem) : Option (Int32 × ch_Mem) :=
  (if (8 : Int32) ≤ x2 then D_X7_rowsThere_b33 x1 M else ch_gd x2 8 ((if (M.1 1 x2.toNatClampNeg) ≤ 0 then D_X7_rowsThere_b25 k4 x2 (0 : Int32) x1 M else D_X7_rowsThere_b25 k4 x2 (1 : Int32) x1 M)))
def D_X7_rowsThere_L4  (n : Nat) : Int32 → Int32 → ch_Mem → Option (Int32 × ch_Mem) := ch_fix (fun _ _ _ => none) (fun k => D_X7_rowsThere_b4  k) n
def D_X7_rowsThere (M : ch_Mem) : Option (Int32 × ch_Mem) :=
  D_X7_rowsThere_L4 ch_fu (0 : Int32) (0 : Int32) M
abbrev rm_X7_count : Room := { frames := 1, cells := 0, slots := 0, locals := 22 }
def D_X7_count (x1 : Int32) (M : ch_Mem) : Option (Int32 × ch_Mem) :=
  (if x1 = (0 : Int32) then ch_bd (D_X7_rowsThere M) (fun r1 M2 => some (r1, M2)) else (if x1 = (1 : Int32) then some ((M.1 0 10), M) else (if x1 = (2 : Int32) then some ((M.1 0 3), M) else (if x1 = (3 : Int32) then some ((M.1 0 18), M) else (if x1 = (4 : Int32) then some ((M.1 0 6), M) else some ((-2 : Int32), M))))))
abbrev rm_X7_range : Room := { frames := 0, cells := 0, slots := 0, locals := 0 }
def D_X7_range_b45 (k7 : Int64 → Int64 → Int32 → ch_Mem → Option (Int64 × ch_Mem)) (x1 : Int64) (x3 : Int64) (x5 : Int32) (M : ch_Mem) : Option (Int64 × ch_Mem) :=
  ch_gd x5 5 (k7 x1 (x3 * ((M.1 6 x5.toNatClampNeg).toInt64)) (x5 + (1 : Int32)) M)
def D_X7_range_b16 (k7 : Int64 → Int64 → Int32 → ch_Mem → Option (Int64 × ch_Mem)) (k16 : Int64 → Int64 → Int32 → ch_Mem → Option (Int64 × ch_Mem)) (x1 : Int64) (x3 : Int64) (x5 : Int32) (M : ch_Mem) : Option (Int64 × ch_Mem) :=
  ch_gd x5 5 (ch_g0L ((M.1 6 x5.toNatClampNeg).toInt64) (ch_gd x5 5 ((if (lg_cmp (x1 - x1 / ((M.1 6 x5.toNatClampNeg).toInt64) * ((M.1 6 x5.toNatClampNeg).toInt64)) ((M.1 7 x5.toNatClampNeg).toInt64)) = 0 then D_X7_range_b45 k7 x1 x3 x5 M else k16 (x1 + x3) x3 x5 M))))
def D_X7_range_L16 (k7 : Int64 → Int64 → Int32 → ch_Mem → Option (Int64 × ch_Mem)) (n : Nat) : Int64 → Int64 → Int32 → ch_Mem → Option (Int64 × ch_Mem) := ch_fix (fun _ _ _ _ => none) (fun k => D_X7_range_b16 k7 k) n
def D_X7_range_b62 (x1 : Int64) (M : ch_Mem) : Option (Int64 × ch_Mem) :=
  some (x1, M)
def D_X7_range_b7 (k7 : Int64 → Int64 → Int32 → ch_Mem → Option (Int64 × ch_Mem)) (x1 : Int64) (x3 : Int64) (x5 : Int32) (M : ch_Mem) : Option (Int64 × ch_Mem) :=
  (if (M.1 0 10) ≤ x5 then D_X7_range_b62 x1 M else D_X7_range_L16 k7 ch_fu x1 x3 x5 M)
def D_X7_range_L7  (n : Nat) : Int64 → Int64 → Int32 → ch_Mem → Option (Int64 × ch_Mem) := ch_fix (fun _ _ _ _ => none) (fun k => D_X7_range_b7  k) n
def D_X7_range (M : ch_Mem) : Option (Int64 × ch_Mem) :=
  D_X7_range_L7 ch_fu (0 : Int64) (1 : Int64) (0 : Int32) M
abbrev rm_X7_digest : Room := { frames := 2, cells := 0, slots := 0, locals := 43 }
def D_X7_digest_b32 (k6 : Int64 → Int32 → ch_Mem → Option (Int64 × ch_Mem)) (x3 : Int32) (y0 : Int64) (M : ch_Mem) : Option (Int64 × ch_Mem) :=
  k6 y0 (x3 + (1 : Int32)) M
def D_X7_digest_b114 (k41 : Int64 → Int32 → ch_Mem → Option (Int64 × ch_Mem)) (x1 : Int64) (x3 : Int32) (M : ch_Mem) : Option (Int64 × ch_Mem) :=
  k41 x1 (x3 + (1 : Int32)) M
def D_X7_digest_b82 (k41 : Int64 → Int32 → ch_Mem → Option (Int64 × ch_Mem)) (k82 : Int64 → Int32 → Int32 → ch_Mem → Option (Int64 × ch_Mem)) (x1 : Int64) (x3 : Int32) (x4 : Int32) (M : ch_Mem) : Option (Int64 × ch_Mem) :=
  ch_gd x3 8 ((if (M.1 1 x3.toNatClampNeg) ≤ x4 then D_X7_digest_b114 k41 x1 x3 M else ch_bd (D_X7_signOf x3 x4 M) (fun r1 M2 => k82 (((31 : Int64) * x1) + r1.toInt64) x3 (x4 + (1 : Int32)) M2)))
def D_X7_digest_L82 (k41 : Int64 → Int32 → ch_Mem → Option (Int64 × ch_Mem)) (n : Nat) : Int64 → Int32 → Int32 → ch_Mem → Option (Int64 × ch_Mem) := ch_fix (fun _ _ _ _ => none) (fun k => D_X7_digest_b82 k41 k) n
def D_X7_digest_b120 (x1 : Int64) (M : ch_Mem) : Option (Int64 × ch_Mem) :=
  ch_bd (D_X7_range M) (fun r1 M2 => some ((((31 : Int64) * (((31 : Int64) * x1) + r1)) + (M2.2 0 9)), M2))
def D_X7_digest_b41 (k41 : Int64 → Int32 → ch_Mem → Option (Int64 × ch_Mem)) (x1 : Int64) (x3 : Int32) (M : ch_Mem) : Option (Int64 × ch_Mem) :=
  (if (8 : Int32) ≤ x3 then D_X7_digest_b120 x1 M else ch_gd x3 8 ((if (M.1 1 x3.toNatClampNeg) ≤ 0 then D_X7_digest_b114 k41 x1 x3 M else ch_gd x3 8 (ch_nm (((31 : Int64) * (((31 : Int64) * x1) + x3.toInt64)) + ((M.1 1 x3.toNatClampNeg).toInt64)) (fun u1 => D_X7_digest_L82 k41 ch_fu u1 x3 (0 : Int32) M)))))
def D_X7_digest_L41  (n : Nat) : Int64 → Int32 → ch_Mem → Option (Int64 × ch_Mem) := ch_fix (fun _ _ _ => none) (fun k => D_X7_digest_b41  k) n
def D_X7_digest_b39 (x1 : Int64) (M : ch_Mem) : Option (Int64 × ch_Mem) :=
  D_X7_digest_L41 ch_fu x1 (0 : Int32) M
def D_X7_digest_b6 (k6 : Int64 → Int32 → ch_Mem → Option (Int64 × ch_Mem)) (x1 : Int64) (x3 : Int32) (M : ch_Mem) : Option (Int64 × ch_Mem) :=
  (if (5 : Int32) ≤ x3 then D_X7_digest_b39 x1 M else (if x3 = (3 : Int32) then D_X7_digest_b32 k6 x3 x1 M else ch_bd (D_X7_count x3 M) (fun r1 M2 => D_X7_digest_b32 k6 x3 (((31 : Int64) * x1) + r1.toInt64) M2)))
def D_X7_digest_L6  (n : Nat) : Int64 → Int32 → ch_Mem → Option (Int64 × ch_Mem) := ch_fix (fun _ _ _ => none) (fun k => D_X7_digest_b6  k) n
def D_X7_digest (M : ch_Mem) : Option (Int64 × ch_Mem) :=
  D_X7_digest_L6 ch_fu (17 : Int64) (0 : Int32) M
abbrev rm_X7_divisor : Room := { frames := 0, cells := 0, slots := 0, locals := 0 }
def D_X7_divisor_b21 (x2 : Int32) (M : ch_Mem) : Option (Int32 × ch_Mem) :=
  some (x2, M)
def D_X7_divisor_b4 (k4 : Int32 → Int32 → ch_Mem → Option (Int32 × ch_Mem)) (x2 : Int32) (x3 : Int32) (M : ch_Mem) : Option (Int32 × ch_Mem) :=
  (if x3 ≤ 0 then D_X7_divisor_b21 x2 M else ch_g0 x3 (k4 x3 (x2 - x2 / x3 * x3) M))
def D_X7_divisor_L4  (n : Nat) : Int32 → Int32 → ch_Mem → Option (Int32 × ch_Mem) := ch_fix (fun _ _ _ => none) (fun k => D_X7_divisor_b4  k) n
def D_X7_divisor (x0 : Int32) (x1 : Int32) (M : ch_Mem) : Option (Int32 × ch_Mem) :=
  D_X7_divisor_L4 ch_fu x0 x1 M
abbrev rm_X7_doubt : Room := { frames := 1, cells := 0, slots := 0, locals := 22 }
def D_X7_doubt (x1 : Int32) (M : ch_Mem) : Option (Int32 × ch_Mem) :=
  ch_bd (D_X7_in x1 (0 : Int32) (100 : Int32) M) (fun r1 M2 => (if r1 = 0 then some ((-2 : Int32), M2) else some ((M2.1 0 3), ch_wI M2 0 3 x1)))
abbrev rm_X7_drop : Room := { frames := 2, cells := 0, slots := 0, locals := 42 }
def D_X7_drop (x1 : Int32) (M : ch_Mem) : Option (Int32 × ch_Mem) :=
  ch_bd (D_X7_isRow x1 M) (fun r1 M2 => (if r1 = 0 then some ((-2 : Int32), M2) else ch_gd x1 8 ((if (M2.1 1 x1.toNatClampNeg) = 0 then some ((-3 : Int32), M2) else ch_gd x1 8 (ch_gd x1 8 (some ((M2.1 1 x1.toNatClampNeg), ch_wI M2 1 x1.toNatClampNeg (0 : Int32))))))))
abbrev rm_X7_heardOf : Room := { frames := 2, cells := 0, slots := 0, locals := 45 }
def D_X7_heardOf_b147 (k6 : Int32 → Int32 → Int32 → Int32 → Int32 → Int32 → Int32 → ch_Mem → Option (Int32 × ch_Mem)) (x1 : Int32) (x2 : Int32) (x3 : Int32) (x4 : Int32) (x5 : Int32) (x7 : Int32) (y0 : Int32) (y1 : Int32) (y2 : Int32) (M : ch_Mem) : Option (Int32 × ch_Mem) :=
  k6 x1 x2 x3 x4 x5 (y2 + (y1 * y0)) (x7 + (1 : Int32)) M
def D_X7_heardOf_b122 (k6 : Int32 → Int32 → Int32 → Int32 → Int32 → Int32 → Int32 → ch_Mem → Option (Int32 × ch_Mem)) (x1 : Int32) (x2 : Int32) (x3 : Int32) (x4 : Int32) (x5 : Int32) (x6 : Int32) (x7 : Int32) (x11 : Int32) (y0 : Int32) (M : ch_Mem) : Option (Int32 × ch_Mem) :=
  ch_bd (D_X7_signOf x1 (x7 + x3) M) (fun r1 M2 => (if x5 = 0 then D_X7_heardOf_b147 k6 x1 x2 x3 x4 x5 x7 x11 r1 x6 M2 else D_X7_heardOf_b147 k6 x1 x2 x3 x4 x5 x7 y0 r1 x6 M2))
def D_X7_heardOf_b84 (k6 : Int32 → Int32 → Int32 → Int32 → Int32 → Int32 → Int32 → ch_Mem → Option (Int32 × ch_Mem)) (x1 : Int32) (x2 : Int32) (x3 : Int32) (x4 : Int32) (x5 : Int32) (x6 : Int32) (x7 : Int32) (x8 : Int32) (x9 : Int32) (x10 : Int32) (y0 : Int32) (M : ch_Mem) : Option (Int32 × ch_Mem) :=
  (if x10 = 0 then D_X7_heardOf_b122 k6 x1 x2 x3 x4 x5 x6 x7 y0 x9 M else (if x10 = (1 : Int32) then D_X7_heardOf_b122 k6 x1 x2 x3 x4 x5 x6 x7 y0 (-x8) M else (if x10 = (2 : Int32) then D_X7_heardOf_b122 k6 x1 x2 x3 x4 x5 x6 x7 y0 (-x9) M else D_X7_heardOf_b122 k6 x1 x2 x3 x4 x5 x6 x7 y0 x8 M)))
def D_X7_heardOf_b157 (x6 : Int32) (M : ch_Mem) : Option (Int32 × ch_Mem) :=
  some (x6, M)
def D_X7_heardOf_b6 (k6 : Int32 → Int32 → Int32 → Int32 → Int32 → Int32 → Int32 → ch_Mem → Option (Int32 × ch_Mem)) (x1 : Int32) (x2 : Int32) (x3 : Int32) (x4 : Int32) (x5 : Int32) (x6 : Int32) (x7 : Int32) (M : ch_Mem) : Option (Int32 × ch_Mem) :=
  ch_gd x1 8 ((if (M.1 1 x1.toNatClampNeg) ≤ x7 then D_X7_heardOf_b157 x6 M else ch_bd (D_X7_sample (0 : Int32) (x2 + x7) M) (fun r1 M2 => ch_bd (D_X7_sample (1 : Int32) (x2 + x7) M2) (fun r3 M4 => ch_nm ((x4 * x7) - (x4 * x7) / (4 : Int32) * (4 : Int32)) (fun u5 => (if u5 = 0 then D_X7_heardOf_b84 k6 x1 x2 x3 x4 x5 x6 x7 r1 r3 u5 r1 M4 else (if u5 = (1 : Int32) then D_X7_heardOf_b84 k6 x1 x2 x3 x4 x5 x6 x7 r1 r3 u5 r3 M4 else (if u5 = (2 : Int32) then D_X7_heardOf_b84 k6 x1 x2 x3 x4 x5 x6 x7 r1 r3 u5 (-r1) M4 else D_X7_heardOf_b84 k6 x1 x2 x3 x4 x5 x6 x7 r1 r3 u5 (-r3) M4))))))))
def D_X7_heardOf_L6  (n : Nat) : Int32 → Int32 → Int32 → Int32 → Int32 → Int32 → Int32 → ch_Mem → Option (Int32 × ch_Mem) := ch_fix (fun _ _ _ _ _ _ _ _ => none) (fun k => D_X7_heardOf_b6  k) n
def D_X7_heardOf (x1 : Int32) (x2 : Int32) (x3 : Int32) (x4 : Int32) (x5 : Int32) (M : ch_Mem) : Option (Int32 × ch_Mem) :=
  D_X7_heardOf_L6 ch_fu x1 x2 x3 x4 x5 (0 : Int32) (0 : Int32) M
abbrev rm_X7_finds : Room := { frames := 3, cells := 0, slots := 0, locals := 77 }
def D_X7_finds_b133 (k19 : Int32 → Int32 → Int32 → Int32 → ch_Mem → Option (Int32 × ch_Mem)) (k28 : Int32 → Int32 → Int32 → Int32 → Int32 → ch_Mem → Option (Int32 × ch_Mem)) (x1 : Int32) (x2 : Int32) (x3 : Int32) (x4 : Int32) (x5 : Int32) (M : ch_Mem) : Option (Int32 × ch_Mem) :=
  k28 x1 x2 x3 x4 (x5 + (1 : Int32)) M
def D_X7_finds_b139 (k19 : Int32 → Int32 → Int32 → Int32 → ch_Mem → Option (Int32 × ch_Mem)) (x1 : Int32) (x2 : Int32) (x3 : Int32) (x4 : Int32) (M : ch_Mem) : Option (Int32 × ch_Mem) :=
  k19 x1 x2 x3 (x4 + (1 : Int32)) M
def D_X7_finds_b28 (k19 : Int32 → Int32 → Int32 → Int32 → ch_Mem → Option (Int32 × ch_Mem)) (k28 : Int32 → Int32 → Int32 → Int32 → Int32 → ch_Mem → Option (Int32 × ch_Mem)) (x1 : Int32) (x2 : Int32) (x3 : Int32) (x4 : Int32) (x5 : Int32) (M : ch_Mem) : Option (Int32 × ch_Mem) :=
  ch_gd x1 8 ((if (M.1 1 x1.toNatClampNeg) ≤ x5 then D_X7_finds_b139 k19 x1 x2 x3 x4 M else ch_bd (D_X7_heardOf x1 x2 x5 x4 (0 : Int32) M) (fun r1 M2 => ch_bd (D_X7_heardOf x1 x2 x5 x4 (1 : Int32) M2) (fun r3 M4 => ch_nm ((r1.toInt64 * r1.toInt64) + (r3.toInt64 * r3.toInt64)) (fun u5 => (if (lg_cmp u5 (M4.2 0 4)) ≤ 0 then (if (lg_cmp u5 (M4.2 0 5)) ≤ 0 then D_X7_finds_b133 k19 k28 x1 x2 x3 x4 x5 M4 else D_X7_finds_b133 k19 k28 x1 x2 x3 x4 x5 (ch_wL M4 0 5 u5)) else D_X7_finds_b133 k19 k28 x1 x2 (((1000 : Int32) * x4) + x5) x4 x5 (ch_wL (ch_wL M4 0 5 (M4.2 0 4)) 0 4 u5)))))))
def D_X7_finds_L28 (k19 : Int32 → Int32 → Int32 → Int32 → ch_Mem → Option (Int32 × ch_Mem)) (n : Nat) : Int32 → Int32 → Int32 → Int32 → Int32 → ch_Mem → Option (Int32 × ch_Mem) := ch_fix (fun _ _ _ _ _ _ => none) (fun k => D_X7_finds_b28 k19 k) n
def D_X7_finds_b145 (x3 : Int32) (M : ch_Mem) : Option (Int32 × ch_Mem) :=
  some (x3, M)
def D_X7_finds_b19 (k19 : Int32 → Int32 → Int32 → Int32 → ch_Mem → Option (Int32 × ch_Mem)) (x1 : Int32) (x2 : Int32) (x3 : Int32) (x4 : Int32) (M : ch_Mem) : Option (Int32 × ch_Mem) :=
  (if (4 : Int32) ≤ x4 then D_X7_finds_b145 x3 M else D_X7_finds_L28 k19 ch_fu x1 x2 x3 x4 (0 : Int32) M)
def D_X7_finds_L19  (n : Nat) : Int32 → Int32 → Int32 → Int32 → ch_Mem → Option (Int32 × ch_Mem) := ch_fix (fun _ _ _ _ _ => none) (fun k => D_X7_finds_b19  k) n
def D_X7_finds (x1 : Int32) (x2 : Int32) (M : ch_Mem) : Option (Int32 × ch_Mem) :=
  D_X7_finds_L19 ch_fu x1 x2 (-1 : Int32) (0 : Int32) (ch_wL (ch_wL M 0 4 (-1 : Int64)) 0 5 (-1 : Int64))
abbrev rm_X7_follow : Room := { frames := 3, cells := 0, slots := 0, locals := 70 }
def D_X7_follow_b167 (k68 : Int32 → Int32 → Int32 → Int32 → Int32 → Int32 → ch_Mem → Option (Int32 × ch_Mem)) (x1 : Int32) (x2 : Int32) (x4 : Int32) (x5 : Int32) (x7 : Int32) (y0 : Int32) (M : ch_Mem) : Option (Int32 × ch_Mem) :=
  k68 x1 x2 x4 x5 y0 (x7 + (1 : Int32)) M
def D_X7_follow_b137 (k68 : Int32 → Int32 → Int32 → Int32 → Int32 → Int32 → ch_Mem → Option (Int32 × ch_Mem)) (x1 : Int32) (x2 : Int32) (x4 : Int32) (x5 : Int32) (x7 : Int32) (x8 : Int32) (x10 : Int32) (y0 : Int32) (M : ch_Mem) : Option (Int32 × ch_Mem) :=
  ch_bd (D_X7_amount x1 x8 x10 M) (fun r1 M2 => ch_bd (D_X7_amount x1 x8 y0 M2) (fun r3 M4 => (if r1 ≤ r3 then D_X7_follow_b167 k68 x1 x2 x4 x5 x7 y0 M4 else D_X7_follow_b167 k68 x1 x2 x4 x5 x7 x10 M4)))
def D_X7_follow_b179 (x6 : Int32) (M : ch_Mem) : Option (Int32 × ch_Mem) :=
  some (x6, M)
def D_X7_follow_b68 (k68 : Int32 → Int32 → Int32 → Int32 → Int32 → Int32 → ch_Mem → Option (Int32 × ch_Mem)) (x1 : Int32) (x2 : Int32) (x4 : Int32) (x5 : Int32) (x6 : Int32) (x7 : Int32) (M : ch_Mem) : Option (Int32 × ch_Mem) :=
  (if x4 ≤ x7 then D_X7_follow_b179 x6 M else ch_g0 x5 (ch_nm (((x6 + x5) - (1 : Int32)) - ((x6 + x5) - (1 : Int32)) / x5 * x5) (fun u1 => ch_g0 x5 (ch_nm ((x6 + (1 : Int32)) - (x6 + (1 : Int32)) / x5 * x5) (fun u2 => ch_bd (D_X7_amount x1 (x2 + (x7 * x5)) u1 M) (fun r3 M4 => ch_bd (D_X7_amount x1 (x2 + (x7 * x5)) x6 M4) (fun r5 M6 => (if r3 ≤ r5 then D_X7_follow_b137 k68 x1 x2 x4 x5 x7 (x2 + (x7 * x5)) u2 x6 M6 else D_X7_follow_b137 k68 x1 x2 x4 x5 x7 (x2 + (x7 * x5)) u2 u1 M6))))))))
def D_X7_follow_L68  (n : Nat) : Int32 → Int32 → Int32 → Int32 → Int32 → Int32 → ch_Mem → Option (Int32 × ch_Mem) := ch_fix (fun _ _ _ _ _ _ _ => none) (fun k => D_X7_follow_b68  k) n
def D_X7_follow (x1 : Int32) (x2 : Int32) (x3 : Int32) (x4 : Int32) (M : ch_Mem) : Option (Int32 × ch_Mem) :=
  ch_bd (D_X7_isRow x1 M) (fun r1 M2 => (if r1 = 0 then some ((-2 : Int32), M2) else ch_bd (D_X7_in x2 (0 : Int32) (300 : Int32) M2) (fun r3 M4 => (if r3 = 0 then some ((-2 : Int32), M4) else ch_bd (D_X7_isShift x3 M4) (fun r5 M6 => (if r5 = 0 then some ((-2 : Int32), M6) else ch_bd (D_X7_in x4 (1 : Int32) (20 : Int32) M6) (fun r7 M8 => (if r7 = 0 then some ((-2 : Int32), M8) else ch_gd x1 8 ((if (M8.1 1 x1.toNatClampNeg) = 0 then some ((-3 : Int32), M8) else ch_gd x1 8 (ch_g0 (M8.1 1 x1.toNatClampNeg) (ch_nm (x3 - x3 / (M8.1 1 x1.toNatClampNeg) * (M8.1 1 x1.toNatClampNeg)) (fun u9 => D_X7_follow_L68 ch_fu x1 x2 x4 (M8.1 1 x1.toNatClampNeg) u9 (0 : Int32) M8)))))))))))))
abbrev rm_X7_next : Room := { frames := 0, cells := 0, slots := 0, locals := 0 }
def D_X7_next_b28 (x0 : Int32) (x2 : Int32) (x3 : Int32) (M : ch_Mem) : Option (Int32 × ch_Mem) :=
  some (((x2 >>> ((1 : Int32) &&& 31)) ||| (x3 <<< ((x0 - (1 : Int32)) &&& 31))), M)
def D_X7_next_b5 (k5 : Int32 → Int32 → Int32 → Int32 → Int32 → ch_Mem → Option (Int32 × ch_Mem)) (x0 : Int32) (x1 : Int32) (x2 : Int32) (x3 : Int32) (x4 : Int32) (M : ch_Mem) : Option (Int32 × ch_Mem) :=
  (if x0 ≤ x4 then D_X7_next_b28 x0 x2 x3 M else ch_nm (x3 ^^^ (((x2 &&& x1) >>> (x4 &&& 31)) &&& (1 : Int32))) (fun u1 => k5 x0 x1 x2 u1 (x4 + (1 : Int32)) M))
def D_X7_next_L5  (n : Nat) : Int32 → Int32 → Int32 → Int32 → Int32 → ch_Mem → Option (Int32 × ch_Mem) := ch_fix (fun _ _ _ _ _ _ => none) (fun k => D_X7_next_b5  k) n
def D_X7_next (x0 : Int32) (x1 : Int32) (x2 : Int32) (M : ch_Mem) : Option (Int32 × ch_Mem) :=
  D_X7_next_L5 ch_fu x0 x1 x2 (0 : Int32) (0 : Int32) M
abbrev rm_X7_periodOf : Room := { frames := 1, cells := 0, slots := 0, locals := 24 }
def D_X7_periodOf_b28 (x4 : Int32) (M : ch_Mem) : Option (Int32 × ch_Mem) :=
  some (x4, M)
def D_X7_periodOf_b10 (k10 : Int32 → Int32 → Int32 → Int32 → Int32 → ch_Mem → Option (Int32 × ch_Mem)) (x0 : Int32) (x1 : Int32) (x2 : Int32) (x3 : Int32) (x4 : Int32) (M : ch_Mem) : Option (Int32 × ch_Mem) :=
  (if x3 = x2 then D_X7_periodOf_b28 x4 M else ch_bd (D_X7_next x0 x1 x3 M) (fun r1 M2 => k10 x0 x1 x2 r1 (x4 + (1 : Int32)) M2))
def D_X7_periodOf_L10  (n : Nat) : Int32 → Int32 → Int32 → Int32 → Int32 → ch_Mem → Option (Int32 × ch_Mem) := ch_fix (fun _ _ _ _ _ _ => none) (fun k => D_X7_periodOf_b10  k) n
def D_X7_periodOf (x0 : Int32) (x1 : Int32) (x2 : Int32) (M : ch_Mem) : Option (Int32 × ch_Mem) :=
  ch_bd (D_X7_next x0 x1 x2 M) (fun r1 M2 => D_X7_periodOf_L10 ch_fu x0 x1 x2 r1 (1 : Int32) M2)
abbrev rm_X7_full : Room := { frames := 2, cells := 0, slots := 0, locals := 48 }
def D_X7_full_b44 (k17 : Int32 → Int32 → Int32 → ch_Mem → Option (Int32 × ch_Mem)) (x1 : Int32) (x3 : Int32) (y0 : Int32) (y1 : Int32) (M : ch_Mem) : Option (Int32 × ch_Mem) :=
  k17 x1 (y1 + y0) (x3 + (2 : Int32)) M
def D_X7_full_b52 (x2 : Int32) (M : ch_Mem) : Option (Int32 × ch_Mem) :=
  some (x2, M)
def D_X7_full_b17 (k17 : Int32 → Int32 → Int32 → ch_Mem → Option (Int32 × ch_Mem)) (x1 : Int32) (x2 : Int32) (x3 : Int32) (M : ch_Mem) : Option (Int32 × ch_Mem) :=
  (if ((1 : Int32) <<< (x1 &&& 31)) ≤ x3 then D_X7_full_b52 x2 M else ch_bd (D_X7_periodOf x1 x3 (1 : Int32) M) (fun r1 M2 => (if r1 = (((1 : Int32) <<< (x1 &&& 31)) - (1 : Int32)) then D_X7_full_b44 k17 x1 x3 (1 : Int32) x2 M2 else D_X7_full_b44 k17 x1 x3 (0 : Int32) x2 M2)))
def D_X7_full_L17  (n : Nat) : Int32 → Int32 → Int32 → ch_Mem → Option (Int32 × ch_Mem) := ch_fix (fun _ _ _ _ => none) (fun k => D_X7_full_b17  k) n
def D_X7_full (x1 : Int32) (M : ch_Mem) : Option (Int32 × ch_Mem) :=
  ch_bd (D_X7_in x1 (2 : Int32) (7 : Int32) M) (fun r1 M2 => (if r1 = 0 then some ((-2 : Int32), M2) else D_X7_full_L17 ch_fu x1 (0 : Int32) (1 : Int32) M2))
abbrev rm_X7_lacks : Room := { frames := 1, cells := 0, slots := 0, locals := 22 }
def D_X7_lacks (x1 : Int32) (x2 : Int32) (x3 : Int32) (M : ch_Mem) : Option (Int32 × ch_Mem) :=
  ch_gd x1 4 ((if (M.1 8 x1.toNatClampNeg) = 0 then some ((1 : Int32), M) else ch_gd x1 4 ((if (M.1 9 x1.toNatClampNeg) = x2 then ch_gd x1 4 (ch_bd (D_X7_in x3 (0 : Int32) ((M.1 10 x1.toNatClampNeg) - (1 : Int32)) M) (fun r1 M2 => (if r1 = 0 then some ((2 : Int32), M2) else some ((0 : Int32), M2)))) else some ((3 : Int32), M)))))
abbrev rm_X7_get : Room := { frames := 2, cells := 0, slots := 0, locals := 45 }
def D_X7_get (x1 : Int32) (x2 : Int32) (x3 : Int32) (M : ch_Mem) : Option (Int32 × ch_Mem) :=
  ch_bd (D_X7_isReel x1 M) (fun r1 M2 => (if r1 = 0 then some ((-2147483648 : Int32), M2) else ch_bd (D_X7_in x2 (0 : Int32) (2 : Int32) M2) (fun r3 M4 => (if r3 = 0 then some ((-2147483648 : Int32), M4) else ch_bd (D_X7_lacks x1 x2 x3 M4) (fun r5 M6 => (if r5 ≤ 0 then ch_gd (((300 : Int32) * x1) + x3) 1200 (some ((M6.1 11 (((300 : Int32) * x1) + x3).toNatClampNeg), M6)) else some ((-2147483648 : Int32), ch_wI M6 0 18 r5)))))))
abbrev rm_X7_heard : Room := { frames := 3, cells := 0, slots := 0, locals := 77 }
def D_X7_heard (x1 : Int32) (x2 : Int32) (x3 : Int32) (x4 : Int32) (x5 : Int32) (M : ch_Mem) : Option (Int32 × ch_Mem) :=
  ch_bd (D_X7_isRow x1 M) (fun r1 M2 => (if r1 = 0 then some ((-2147483648 : Int32), M2) else ch_bd (D_X7_in x2 (0 : Int32) (300 : Int32) M2) (fun r3 M4 => (if r3 = 0 then some ((-2147483648 : Int32), M4) else ch_bd (D_X7_isShift x3 M4) (fun r5 M6 => (if r5 = 0 then some ((-2147483648 : Int32), M6) else ch_bd (D_X7_in x4 (0 : Int32) (3 : Int32) M6) (fun r7 M8 => (if r7 = 0 then some ((-2147483648 : Int32), M8) else ch_bd (D_X7_in x5 (0 : Int32) (1 : Int32) M8) (fun r9 M10 => (if r9 = 0 then some ((-2147483648 : Int32), M10) else ch_gd x1 8 ((if (M10.1 1 x1.toNatClampNeg) = 0 then some ((-2147483648 : Int32), M10) else ch_bd (D_X7_heardOf x1 x2 x3 x4 x5 M10) (fun r11 M12 => some (r11, M12))))))))))))))
abbrev rm_X7_isPrime : Room := { frames := 1, cells := 0, slots := 0, locals := 22 }
def D_X7_isPrime_b14 (k14 : Int32 → Int32 → ch_Mem → Option (Int32 × ch_Mem)) (x0 : Int32) (x1 : Int32) (M : ch_Mem) : Option (Int32 × ch_Mem) :=
  (if x0 ≤ x1 then some ((1 : Int32), M) else ch_g0 x1 ((if (x0 - x0 / x1 * x1) = 0 then some ((0 : Int32), M) else k14 x0 (x1 + (1 : Int32)) M)))
def D_X7_isPrime_L14  (n : Nat) : Int32 → Int32 → ch_Mem → Option (Int32 × ch_Mem) := ch_fix (fun _ _ _ => none) (fun k => D_X7_isPrime_b14  k) n
def D_X7_isPrime (x0 : Int32) (M : ch_Mem) : Option (Int32 × ch_Mem) :=
  ch_bd (D_X7_in x0 (2 : Int32) (31 : Int32) M) (fun r1 M2 => (if r1 = 0 then some ((0 : Int32), M2) else D_X7_isPrime_L14 ch_fu x0 (2 : Int32) M2))
abbrev rm_X7_isHop : Room := { frames := 2, cells := 0, slots := 0, locals := 43 }
def D_X7_isHop (x0 : Int32) (x1 : Int32) (M : ch_Mem) : Option (Int32 × ch_Mem) :=
  ch_bd (D_X7_isPrime x0 M) (fun r1 M2 => (if r1 = 0 then some ((0 : Int32), M2) else ch_bd (D_X7_in x1 (1 : Int32) (x0 - (1 : Int32)) M2) (fun r3 M4 => (if r3 = 0 then some ((0 : Int32), M4) else some ((1 : Int32), M4)))))
abbrev rm_X7_hitsOf : Room := { frames := 0, cells := 0, slots := 0, locals := 0 }
def D_X7_hitsOf_b39 (k6 : Int32 → Int32 → Int32 → Int32 → Int32 → Int32 → Int32 → ch_Mem → Option (Int32 × ch_Mem)) (x0 : Int32) (x1 : Int32) (x2 : Int32) (x3 : Int32) (x4 : Int32) (x6 : Int32) (y0 : Int32) (y1 : Int32) (M : ch_Mem) : Option (Int32 × ch_Mem) :=
  k6 x0 x1 x2 x3 x4 (y1 + y0) (x6 + (1 : Int32)) M
def D_X7_hitsOf_b48 (x5 : Int32) (M : ch_Mem) : Option (Int32 × ch_Mem) :=
  some (x5, M)
def D_X7_hitsOf_b6 (k6 : Int32 → Int32 → Int32 → Int32 → Int32 → Int32 → Int32 → ch_Mem → Option (Int32 × ch_Mem)) (x0 : Int32) (x1 : Int32) (x2 : Int32) (x3 : Int32) (x4 : Int32) (x5 : Int32) (x6 : Int32) (M : ch_Mem) : Option (Int32 × ch_Mem) :=
  (if x0 ≤ x6 then D_X7_hitsOf_b48 x5 M else ch_g0 x0 (ch_g0 x0 ((if ((x1 * x6) - (x1 * x6) / x0 * x0) = (((x2 * (x6 + x3)) + x4) - ((x2 * (x6 + x3)) + x4) / x0 * x0) then D_X7_hitsOf_b39 k6 x0 x1 x2 x3 x4 x6 (1 : Int32) x5 M else D_X7_hitsOf_b39 k6 x0 x1 x2 x3 x4 x6 (0 : Int32) x5 M))))
def D_X7_hitsOf_L6  (n : Nat) : Int32 → Int32 → Int32 → Int32 → Int32 → Int32 → Int32 → ch_Mem → Option (Int32 × ch_Mem) := ch_fix (fun _ _ _ _ _ _ _ _ => none) (fun k => D_X7_hitsOf_b6  k) n
def D_X7_hitsOf (x0 : Int32) (x1 : Int32) (x2 : Int32) (x3 : Int32) (x4 : Int32) (M : ch_Mem) : Option (Int32 × ch_Mem) :=
  D_X7_hitsOf_L6 ch_fu x0 x1 x2 x3 x4 (0 : Int32) (0 : Int32) M
abbrev rm_X7_hits : Room := { frames := 3, cells := 0, slots := 0, locals := 64 }
def D_X7_hits (x1 : Int32) (x2 : Int32) (x3 : Int32) (x4 : Int32) (x5 : Int32) (M : ch_Mem) : Option (Int32 × ch_Mem) :=
  ch_bd (D_X7_isHop x1 x2 M) (fun r1 M2 => (if r1 = 0 then some ((-2 : Int32), M2) else ch_bd (D_X7_isHop x1 x3 M2) (fun r3 M4 => (if r3 = 0 then some ((-2 : Int32), M4) else ch_bd (D_X7_in x4 (0 : Int32) (x1 - (1 : Int32)) M4) (fun r5 M6 => (if r5 = 0 then some ((-2 : Int32), M6) else ch_bd (D_X7_in x5 (0 : Int32) (x1 - (1 : Int32)) M6) (fun r7 M8 => (if r7 = 0 then some ((-2 : Int32), M8) else ch_bd (D_X7_hitsOf x1 x2 x3 x4 x5 M8) (fun r9 M10 => some (r9, M10))))))))))
abbrev rm_X7_isRegister : Room := { frames := 1, cells := 0, slots := 0, locals := 22 }
def D_X7_isRegister (x0 : Int32) (x1 : Int32) (x2 : Int32) (M : ch_Mem) : Option (Int32 × ch_Mem) :=
  ch_bd (D_X7_in x0 (2 : Int32) (7 : Int32) M) (fun r1 M2 => (if r1 = 0 then some ((0 : Int32), M2) else ch_bd (D_X7_in x1 (1 : Int32) (((1 : Int32) <<< (x0 &&& 31)) - (1 : Int32)) M2) (fun r3 M4 => (if r3 = 0 then some ((0 : Int32), M4) else (if (x1 - x1 / (2 : Int32) * (2 : Int32)) = (1 : Int32) then ch_bd (D_X7_in x2 (1 : Int32) (((1 : Int32) <<< (x0 &&& 31)) - (1 : Int32)) M4) (fun r5 M6 => (if r5 = 0 then some ((0 : Int32), M6) else some ((1 : Int32), M6))) else some ((0 : Int32), M4))))))
abbrev rm_X7_keeps : Room := { frames := 0, cells := 0, slots := 0, locals := 0 }
def D_X7_keeps_b9 (k9 : Int32 → Int32 → Int32 → ch_Mem → Option (Unit × ch_Mem)) (x1 : Int32) (x2 : Int32) (x3 : Int32) (M : ch_Mem) : Option (Unit × ch_Mem) :=
  (if x2 ≤ x3 then some ((), M) else ch_gd x3 127 (ch_gd (((127 : Int32) * x1) + x3) 1016 (k9 x1 x2 (x3 + (1 : Int32)) (ch_wI M 2 (((127 : Int32) * x1) + x3).toNatClampNeg (M.1 3 x3.toNatClampNeg)))))
def D_X7_keeps_L9  (n : Nat) : Int32 → Int32 → Int32 → ch_Mem → Option (Unit × ch_Mem) := ch_fix (fun _ _ _ _ => none) (fun k => D_X7_keeps_b9  k) n
def D_X7_keeps (x1 : Int32) (x2 : Int32) (M : ch_Mem) : Option (Unit × ch_Mem) :=
  ch_gd x1 8 (D_X7_keeps_L9 ch_fu x1 x2 (0 : Int32) (ch_wI M 1 x1.toNatClampNeg x2))
abbrev rm_X7_join : Room := { frames := 2, cells := 0, slots := 0, locals := 42 }
def D_X7_join_b92 (x4 : Int32) (x5 : Int32) (M : ch_Mem) : Option (Int32 × ch_Mem) :=
  ch_bd (D_X7_keeps x4 x5 M) (fun r1 M2 => some (x5, M2))
def D_X7_join_b55 (k55 : Int32 → Int32 → Int32 → Int32 → Int32 → Int32 → ch_Mem → Option (Int32 × ch_Mem)) (x1 : Int32) (x2 : Int32) (x3 : Int32) (x4 : Int32) (x5 : Int32) (x6 : Int32) (M : ch_Mem) : Option (Int32 × ch_Mem) :=
  (if x5 ≤ x6 then D_X7_join_b92 x4 x5 M else ch_bd (D_X7_signOf x1 x6 M) (fun r1 M2 => ch_bd (D_X7_signOf x2 (x6 + x3) M2) (fun r3 M4 => ch_gd x6 127 (k55 x1 x2 x3 x4 x5 (x6 + (1 : Int32)) (ch_wI M4 3 x6.toNatClampNeg (r1 * r3))))))
def D_X7_join_L55  (n : Nat) : Int32 → Int32 → Int32 → Int32 → Int32 → Int32 → ch_Mem → Option (Int32 × ch_Mem) := ch_fix (fun _ _ _ _ _ _ _ => none) (fun k => D_X7_join_b55  k) n
def D_X7_join (x1 : Int32) (x2 : Int32) (x3 : Int32) (x4 : Int32) (M : ch_Mem) : Option (Int32 × ch_Mem) :=
  ch_bd (D_X7_isRow x1 M) (fun r1 M2 => (if r1 = 0 then some ((-2 : Int32), M2) else ch_bd (D_X7_isRow x2 M2) (fun r3 M4 => (if r3 = 0 then some ((-2 : Int32), M4) else ch_bd (D_X7_isShift x3 M4) (fun r5 M6 => (if r5 = 0 then some ((-2 : Int32), M6) else ch_bd (D_X7_isRow x4 M6) (fun r7 M8 => (if r7 = 0 then some ((-2 : Int32), M8) else ch_bd (D_X7_arePair x1 x2 M8) (fun r9 M10 => (if r9 = 0 then some ((-3 : Int32), M10) else ch_gd x1 8 (D_X7_join_L55 ch_fu x1 x2 x3 x4 (M10.1 1 x1.toNatClampNeg) (0 : Int32) M10)))))))))))
abbrev rm_X7_length : Room := { frames := 1, cells := 0, slots := 0, locals := 24 }
def D_X7_length_b57 (x1 : Int32) (x2 : Int32) (M : ch_Mem) : Option (Int32 × ch_Mem) :=
  (if (M.1 0 10) = (5 : Int32) then some ((-4 : Int32), M) else ch_gd (M.1 0 10) 5 (ch_gd ((ch_wI M 6 (M.1 0 10).toNatClampNeg x1).1 0 10) 5 (some (((ch_wI (ch_wI (ch_wI M 6 (M.1 0 10).toNatClampNeg x1) 7 ((ch_wI M 6 (M.1 0 10).toNatClampNeg x1).1 0 10).toNatClampNeg x2) 0 10 (((ch_wI (ch_wI M 6 (M.1 0 10).toNatClampNeg x1) 7 ((ch_wI M 6 (M.1 0 10).toNatClampNeg x1).1 0 10).toNatClampNeg x2).1 0 10) + (1 : Int32))).1 0 10), ch_wI (ch_wI (ch_wI M 6 (M.1 0 10).toNatClampNeg x1) 7 ((ch_wI M 6 (M.1 0 10).toNatClampNeg x1).1 0 10).toNatClampNeg x2) 0 10 (((ch_wI (ch_wI M 6 (M.1 0 10).toNatClampNeg x1) 7 ((ch_wI M 6 (M.1 0 10).toNatClampNeg x1).1 0 10).toNatClampNeg x2).1 0 10) + (1 : Int32))))))
def D_X7_length_b26 (k26 : Int32 → Int32 → Int32 → ch_Mem → Option (Int32 × ch_Mem)) (x1 : Int32) (x2 : Int32) (x3 : Int32) (M : ch_Mem) : Option (Int32 × ch_Mem) :=
  (if (M.1 0 10) ≤ x3 then D_X7_length_b57 x1 x2 M else ch_gd x3 5 (ch_bd (D_X7_divisor x1 (M.1 6 x3.toNatClampNeg) M) (fun r1 M2 => (if r1 ≤ (1 : Int32) then k26 x1 x2 (x3 + (1 : Int32)) M2 else some ((-2 : Int32), M2)))))
def D_X7_length_L26  (n : Nat) : Int32 → Int32 → Int32 → ch_Mem → Option (Int32 × ch_Mem) := ch_fix (fun _ _ _ _ => none) (fun k => D_X7_length_b26  k) n
def D_X7_length (x1 : Int32) (x2 : Int32) (M : ch_Mem) : Option (Int32 × ch_Mem) :=
  ch_bd (D_X7_in x1 (2 : Int32) (127 : Int32) M) (fun r1 M2 => (if r1 = 0 then some ((-2 : Int32), M2) else ch_bd (D_X7_in x2 (0 : Int32) (x1 - (1 : Int32)) M2) (fun r3 M4 => (if r3 = 0 then some ((-2 : Int32), M4) else D_X7_length_L26 ch_fu x1 x2 (0 : Int32) M4))))
abbrev rm_X7_likeness : Room := { frames := 1, cells := 0, slots := 0, locals := 22 }
def D_X7_likeness_b45 (x4 : Int32) (M : ch_Mem) : Option (Int32 × ch_Mem) :=
  some (x4, M)
def D_X7_likeness_b6 (k6 : Int32 → Int32 → Int32 → Int32 → Int32 → ch_Mem → Option (Int32 × ch_Mem)) (x1 : Int32) (x2 : Int32) (x3 : Int32) (x4 : Int32) (x5 : Int32) (M : ch_Mem) : Option (Int32 × ch_Mem) :=
  ch_gd x1 8 ((if (M.1 1 x1.toNatClampNeg) ≤ x5 then D_X7_likeness_b45 x4 M else ch_bd (D_X7_signOf x1 x5 M) (fun r1 M2 => ch_bd (D_X7_signOf x2 (x5 + x3) M2) (fun r3 M4 => k6 x1 x2 x3 (x4 + (r1 * r3)) (x5 + (1 : Int32)) M4))))
def D_X7_likeness_L6  (n : Nat) : Int32 → Int32 → Int32 → Int32 → Int32 → ch_Mem → Option (Int32 × ch_Mem) := ch_fix (fun _ _ _ _ _ _ => none) (fun k => D_X7_likeness_b6  k) n
def D_X7_likeness (x1 : Int32) (x2 : Int32) (x3 : Int32) (M : ch_Mem) : Option (Int32 × ch_Mem) :=
  D_X7_likeness_L6 ch_fu x1 x2 x3 (0 : Int32) (0 : Int32) M
abbrev rm_X7_like : Room := { frames := 2, cells := 0, slots := 0, locals := 47 }
def D_X7_like (x1 : Int32) (x2 : Int32) (x3 : Int32) (M : ch_Mem) : Option (Int32 × ch_Mem) :=
  ch_bd (D_X7_isRow x1 M) (fun r1 M2 => (if r1 = 0 then some ((-1002 : Int32), M2) else ch_bd (D_X7_isRow x2 M2) (fun r3 M4 => (if r3 = 0 then some ((-1002 : Int32), M4) else ch_bd (D_X7_isShift x3 M4) (fun r5 M6 => (if r5 = 0 then some ((-1002 : Int32), M6) else ch_bd (D_X7_arePair x1 x2 M6) (fun r7 M8 => (if r7 = 0 then some ((-1003 : Int32), M8) else ch_bd (D_X7_likeness x1 x2 x3 M8) (fun r9 M10 => some (r9, M10))))))))))
abbrev rm_X7_load : Room := { frames := 2, cells := 0, slots := 0, locals := 42 }
def D_X7_load_b94 (k61 : Int32 → Int32 → Int32 → Int32 → ch_Mem → Option (Int32 × ch_Mem)) (x1 : Int32) (x2 : Int32) (x3 : Int32) (x4 : Int32) (y0 : Int32) (y1 : Int32) (M : ch_Mem) : Option (Int32 × ch_Mem) :=
  ch_gd y1 127 (k61 x1 x2 x3 (x4 + (1 : Int32)) (ch_wI M 3 y1.toNatClampNeg y0))
def D_X7_load_b101 (x1 : Int32) (x3 : Int32) (M : ch_Mem) : Option (Int32 × ch_Mem) :=
  ch_bd (D_X7_keeps x1 x3 M) (fun r1 M2 => some (x3, M2))
def D_X7_load_b61 (k61 : Int32 → Int32 → Int32 → Int32 → ch_Mem → Option (Int32 × ch_Mem)) (x1 : Int32) (x2 : Int32) (x3 : Int32) (x4 : Int32) (M : ch_Mem) : Option (Int32 × ch_Mem) :=
  (if x3 ≤ x4 then D_X7_load_b101 x1 x3 M else ch_gd (((300 : Int32) * x2) + x4) 1200 ((if 0 ≤ (M.1 11 (((300 : Int32) * x2) + x4).toNatClampNeg) then D_X7_load_b94 k61 x1 x2 x3 x4 (1 : Int32) x4 M else D_X7_load_b94 k61 x1 x2 x3 x4 (-1 : Int32) x4 M)))
def D_X7_load_L61  (n : Nat) : Int32 → Int32 → Int32 → Int32 → ch_Mem → Option (Int32 × ch_Mem) := ch_fix (fun _ _ _ _ _ => none) (fun k => D_X7_load_b61  k) n
def D_X7_load (x1 : Int32) (x2 : Int32) (x3 : Int32) (M : ch_Mem) : Option (Int32 × ch_Mem) :=
  ch_bd (D_X7_isRow x1 M) (fun r1 M2 => (if r1 = 0 then some ((-2 : Int32), M2) else ch_bd (D_X7_isReel x2 M2) (fun r3 M4 => (if r3 = 0 then some ((-2 : Int32), M4) else ch_bd (D_X7_in x3 (1 : Int32) (127 : Int32) M4) (fun r5 M6 => (if r5 = 0 then some ((-2 : Int32), M6) else ch_gd x2 4 ((if (M6.1 8 x2.toNatClampNeg) = 0 then ch_bd (D_X7_meets (1 : Int32) M6) (fun r9 M10 => some (r9, M10)) else ch_gd x2 4 ((if x3 ≤ (M6.1 10 x2.toNatClampNeg) then D_X7_load_L61 ch_fu x1 x2 x3 (0 : Int32) M6 else ch_bd (D_X7_meets (2 : Int32) M6) (fun r7 M8 => some (r7, M8))))))))))))
abbrev rm_X7_lose : Room := { frames := 2, cells := 0, slots := 0, locals := 42 }
def D_X7_lose (x1 : Int32) (M : ch_Mem) : Option (Int32 × ch_Mem) :=
  ch_bd (D_X7_isReel x1 M) (fun r1 M2 => (if r1 = 0 then some ((-2 : Int32), M2) else ch_gd x1 4 ((if (M2.1 8 x1.toNatClampNeg) = 0 then ch_bd (D_X7_meets (1 : Int32) M2) (fun r3 M4 => some (r3, M4)) else ch_gd x1 4 (ch_gd x1 4 (some (((ch_wI M2 8 x1.toNatClampNeg (0 : Int32)).1 10 x1.toNatClampNeg), ch_wI M2 8 x1.toNatClampNeg (0 : Int32))))))))
abbrev rm_X7_make : Room := { frames := 2, cells := 0, slots := 0, locals := 44 }
def D_X7_make_b60 (k34 : Int32 → Int32 → Int32 → Int32 → Int32 → Int32 → ch_Mem → Option (Int32 × ch_Mem)) (x1 : Int32) (x2 : Int32) (x3 : Int32) (x5 : Int32) (x6 : Int32) (x7 : Int32) (y0 : Int32) (y1 : Int32) (M : ch_Mem) : Option (Int32 × ch_Mem) :=
  ch_gd y1 127 (ch_bd (D_X7_next x2 x3 x5 (ch_wI M 3 y1.toNatClampNeg y0)) (fun r1 M2 => k34 x1 x2 x3 r1 x6 (x7 + (1 : Int32)) M2))
def D_X7_make_b76 (x1 : Int32) (x6 : Int32) (M : ch_Mem) : Option (Int32 × ch_Mem) :=
  ch_bd (D_X7_keeps x1 x6 M) (fun r1 M2 => some (x6, M2))
def D_X7_make_b34 (k34 : Int32 → Int32 → Int32 → Int32 → Int32 → Int32 → ch_Mem → Option (Int32 × ch_Mem)) (x1 : Int32) (x2 : Int32) (x3 : Int32) (x5 : Int32) (x6 : Int32) (x7 : Int32) (M : ch_Mem) : Option (Int32 × ch_Mem) :=
  (if x6 ≤ x7 then D_X7_make_b76 x1 x6 M else (if (x5 - x5 / (2 : Int32) * (2 : Int32)) = (1 : Int32) then D_X7_make_b60 k34 x1 x2 x3 x5 x6 x7 (-1 : Int32) x7 M else D_X7_make_b60 k34 x1 x2 x3 x5 x6 x7 (1 : Int32) x7 M))
def D_X7_make_L34  (n : Nat) : Int32 → Int32 → Int32 → Int32 → Int32 → Int32 → ch_Mem → Option (Int32 × ch_Mem) := ch_fix (fun _ _ _ _ _ _ _ => none) (fun k => D_X7_make_b34  k) n
def D_X7_make (x1 : Int32) (x2 : Int32) (x3 : Int32) (x4 : Int32) (M : ch_Mem) : Option (Int32 × ch_Mem) :=
  ch_bd (D_X7_isRow x1 M) (fun r1 M2 => (if r1 = 0 then some ((-2 : Int32), M2) else ch_bd (D_X7_isRegister x2 x3 x4 M2) (fun r3 M4 => (if r3 = 0 then some ((-2 : Int32), M4) else D_X7_make_L34 ch_fu x1 x2 x3 x4 (((1 : Int32) <<< (x2 &&& 31)) - (1 : Int32)) (0 : Int32) M4))))
abbrev rm_X7_mend : Room := { frames := 1, cells := 0, slots := 0, locals := 22 }
def D_X7_mend_b69 (k21 : Int32 → Int32 → Int32 → Int32 → ch_Mem → Option (Int32 × ch_Mem)) (k33 : Int32 → Int32 → Int32 → Int32 → Int32 → Int32 → ch_Mem → Option (Int32 × ch_Mem)) (x1 : Int32) (x2 : Int32) (x3 : Int32) (x4 : Int32) (x6 : Int32) (y0 : Int32) (y1 : Int32) (M : ch_Mem) : Option (Int32 × ch_Mem) :=
  k33 x1 x2 x3 x4 (y1 + y0) (x6 + (1 : Int32)) M
def D_X7_mend_b90 (k21 : Int32 → Int32 → Int32 → Int32 → ch_Mem → Option (Int32 × ch_Mem)) (x1 : Int32) (x2 : Int32) (x3 : Int32) (x4 : Int32) (M : ch_Mem) : Option (Int32 × ch_Mem) :=
  k21 x1 x2 x3 (x4 + (1 : Int32)) M
def D_X7_mend_b78 (k21 : Int32 → Int32 → Int32 → Int32 → ch_Mem → Option (Int32 × ch_Mem)) (x1 : Int32) (x2 : Int32) (x3 : Int32) (x4 : Int32) (x5 : Int32) (M : ch_Mem) : Option (Int32 × ch_Mem) :=
  (if x5 ≤ x3 then D_X7_mend_b90 k21 x1 x2 x3 x4 M else D_X7_mend_b90 k21 x1 x4 x5 x4 M)
def D_X7_mend_b33 (k21 : Int32 → Int32 → Int32 → Int32 → ch_Mem → Option (Int32 × ch_Mem)) (k33 : Int32 → Int32 → Int32 → Int32 → Int32 → Int32 → ch_Mem → Option (Int32 × ch_Mem)) (x1 : Int32) (x2 : Int32) (x3 : Int32) (x4 : Int32) (x5 : Int32) (x6 : Int32) (M : ch_Mem) : Option (Int32 × ch_Mem) :=
  (if (M.1 0 10) ≤ x6 then D_X7_mend_b78 k21 x1 x2 x3 x4 x5 M else ch_gd x6 5 (ch_g0 (M.1 6 x6.toNatClampNeg) (ch_gd x6 5 ((if (x4 - x4 / (M.1 6 x6.toNatClampNeg) * (M.1 6 x6.toNatClampNeg)) = (M.1 7 x6.toNatClampNeg) then D_X7_mend_b69 k21 k33 x1 x2 x3 x4 x6 (1 : Int32) x5 M else D_X7_mend_b69 k21 k33 x1 x2 x3 x4 x6 (0 : Int32) x5 M)))))
def D_X7_mend_L33 (k21 : Int32 → Int32 → Int32 → Int32 → ch_Mem → Option (Int32 × ch_Mem)) (n : Nat) : Int32 → Int32 → Int32 → Int32 → Int32 → Int32 → ch_Mem → Option (Int32 × ch_Mem) := ch_fix (fun _ _ _ _ _ _ _ => none) (fun k => D_X7_mend_b33 k21 k) n
def D_X7_mend_b96 (x2 : Int32) (x3 : Int32) (M : ch_Mem) : Option (Int32 × ch_Mem) :=
  some ((((10 : Int32) * x2) + x3), M)
def D_X7_mend_b21 (k21 : Int32 → Int32 → Int32 → Int32 → ch_Mem → Option (Int32 × ch_Mem)) (x1 : Int32) (x2 : Int32) (x3 : Int32) (x4 : Int32) (M : ch_Mem) : Option (Int32 × ch_Mem) :=
  (if x1 ≤ x4 then D_X7_mend_b96 x2 x3 M else D_X7_mend_L33 k21 ch_fu x1 x2 x3 x4 (0 : Int32) (0 : Int32) M)
def D_X7_mend_L21  (n : Nat) : Int32 → Int32 → Int32 → Int32 → ch_Mem → Option (Int32 × ch_Mem) := ch_fix (fun _ _ _ _ _ => none) (fun k => D_X7_mend_b21  k) n
def D_X7_mend (x1 : Int32) (M : ch_Mem) : Option (Int32 × ch_Mem) :=
  ch_bd (D_X7_in x1 (1 : Int32) (20000 : Int32) M) (fun r1 M2 => (if r1 = 0 then some ((-2 : Int32), M2) else D_X7_mend_L21 ch_fu x1 (0 : Int32) (-1 : Int32) (0 : Int32) M2))
abbrev rm_X7_most : Room := { frames := 2, cells := 0, slots := 0, locals := 47 }
def D_X7_most_b91 (k43 : Int32 → Int32 → Int32 → Int32 → ch_Mem → Option (Int32 × ch_Mem)) (x1 : Int32) (x2 : Int32) (x4 : Int32) (y0 : Int32) (M : ch_Mem) : Option (Int32 × ch_Mem) :=
  k43 x1 x2 y0 (x4 + (1 : Int32)) M
def D_X7_most_b77 (k43 : Int32 → Int32 → Int32 → Int32 → ch_Mem → Option (Int32 × ch_Mem)) (x1 : Int32) (x2 : Int32) (x3 : Int32) (x4 : Int32) (y0 : Int32) (M : ch_Mem) : Option (Int32 × ch_Mem) :=
  (if y0 ≤ x3 then D_X7_most_b91 k43 x1 x2 x4 x3 M else D_X7_most_b91 k43 x1 x2 x4 y0 M)
def D_X7_most_b98 (x3 : Int32) (M : ch_Mem) : Option (Int32 × ch_Mem) :=
  some (x3, M)
def D_X7_most_b43 (k43 : Int32 → Int32 → Int32 → Int32 → ch_Mem → Option (Int32 × ch_Mem)) (x1 : Int32) (x2 : Int32) (x3 : Int32) (x4 : Int32) (M : ch_Mem) : Option (Int32 × ch_Mem) :=
  ch_gd x1 8 ((if (M.1 1 x1.toNatClampNeg) ≤ x4 then D_X7_most_b98 x3 M else ch_bd (D_X7_likeness x1 x2 x4 M) (fun r1 M2 => (if 0 ≤ r1 then D_X7_most_b77 k43 x1 x2 x3 x4 r1 M2 else D_X7_most_b77 k43 x1 x2 x3 x4 (-r1) M2))))
def D_X7_most_L43  (n : Nat) : Int32 → Int32 → Int32 → Int32 → ch_Mem → Option (Int32 × ch_Mem) := ch_fix (fun _ _ _ _ _ => none) (fun k => D_X7_most_b43  k) n
def D_X7_most_b41 (x1 : Int32) (x2 : Int32) (x3 : Int32) (y0 : Int32) (M : ch_Mem) : Option (Int32 × ch_Mem) :=
  D_X7_most_L43 ch_fu x1 x2 x3 y0 M
def D_X7_most (x1 : Int32) (x2 : Int32) (M : ch_Mem) : Option (Int32 × ch_Mem) :=
  ch_bd (D_X7_isRow x1 M) (fun r1 M2 => (if r1 = 0 then some ((-2 : Int32), M2) else ch_bd (D_X7_isRow x2 M2) (fun r3 M4 => (if r3 = 0 then some ((-2 : Int32), M4) else ch_bd (D_X7_arePair x1 x2 M4) (fun r5 M6 => (if r5 = 0 then some ((-3 : Int32), M6) else (if x1 = x2 then D_X7_most_b41 x1 x2 (0 : Int32) (1 : Int32) M6 else D_X7_most_b41 x1 x2 (0 : Int32) (0 : Int32) M6)))))))
abbrev rm_X7_noise : Room := { frames := 0, cells := 0, slots := 0, locals := 0 }
def D_X7_noise (M : ch_Mem) : Option (Int64 × ch_Mem) :=
  some ((M.2 0 9), M)
abbrev rm_X7_takesOff : Room := { frames := 1, cells := 0, slots := 0, locals := 22 }
def D_X7_takesOff_b117 (k13 : Int32 → Int32 → Int32 → Int32 → Int32 → Int32 → ch_Mem → Option (Int32 × ch_Mem)) (k23 : Int32 → Int32 → Int32 → Int32 → Int32 → Int32 → Int32 → ch_Mem → Option (Int32 × ch_Mem)) (x1 : Int32) (x2 : Int32) (x3 : Int32) (x4 : Int32) (x5 : Int32) (x6 : Int32) (x7 : Int32) (M : ch_Mem) : Option (Int32 × ch_Mem) :=
  k23 x1 x2 x3 x4 x5 x6 (x7 + (1 : Int32)) M
def D_X7_takesOff_b95 (k13 : Int32 → Int32 → Int32 → Int32 → Int32 → Int32 → ch_Mem → Option (Int32 × ch_Mem)) (k23 : Int32 → Int32 → Int32 → Int32 → Int32 → Int32 → Int32 → ch_Mem → Option (Int32 × ch_Mem)) (x1 : Int32) (x2 : Int32) (x3 : Int32) (x4 : Int32) (x5 : Int32) (x6 : Int32) (x7 : Int32) (x8 : Int32) (y0 : Int32) (M : ch_Mem) : Option (Int32 × ch_Mem) :=
  (if y0 ≤ x2 then D_X7_takesOff_b117 k13 k23 x1 x2 x3 x4 x5 x6 x7 M else D_X7_takesOff_b117 k13 k23 x1 y0 x6 x7 x8 x6 x7 M)
def D_X7_takesOff_b82 (k13 : Int32 → Int32 → Int32 → Int32 → Int32 → Int32 → ch_Mem → Option (Int32 × ch_Mem)) (k23 : Int32 → Int32 → Int32 → Int32 → Int32 → Int32 → Int32 → ch_Mem → Option (Int32 × ch_Mem)) (x1 : Int32) (x2 : Int32) (x3 : Int32) (x4 : Int32) (x5 : Int32) (x6 : Int32) (x7 : Int32) (x8 : Int32) (M : ch_Mem) : Option (Int32 × ch_Mem) :=
  (if 0 ≤ x8 then D_X7_takesOff_b95 k13 k23 x1 x2 x3 x4 x5 x6 x7 x8 x8 M else D_X7_takesOff_b95 k13 k23 x1 x2 x3 x4 x5 x6 x7 x8 (-x8) M)
def D_X7_takesOff_b46 (k13 : Int32 → Int32 → Int32 → Int32 → Int32 → Int32 → ch_Mem → Option (Int32 × ch_Mem)) (k23 : Int32 → Int32 → Int32 → Int32 → Int32 → Int32 → Int32 → ch_Mem → Option (Int32 × ch_Mem)) (k46 : Int32 → Int32 → Int32 → Int32 → Int32 → Int32 → Int32 → Int32 → Int32 → ch_Mem → Option (Int32 × ch_Mem)) (x1 : Int32) (x2 : Int32) (x3 : Int32) (x4 : Int32) (x5 : Int32) (x6 : Int32) (x7 : Int32) (x8 : Int32) (x9 : Int32) (M : ch_Mem) : Option (Int32 × ch_Mem) :=
  (if x1 ≤ x9 then D_X7_takesOff_b82 k13 k23 x1 x2 x3 x4 x5 x6 x7 x8 M else ch_bd (D_X7_signOf x6 (x9 + x7) M) (fun r1 M2 => ch_gd x9 127 (k46 x1 x2 x3 x4 x5 x6 x7 (x8 + (r1 * (M2.1 5 x9.toNatClampNeg))) (x9 + (1 : Int32)) M2)))
def D_X7_takesOff_L46 (k13 : Int32 → Int32 → Int32 → Int32 → Int32 → Int32 → ch_Mem → Option (Int32 × ch_Mem)) (k23 : Int32 → Int32 → Int32 → Int32 → Int32 → Int32 → Int32 → ch_Mem → Option (Int32 × ch_Mem)) (n : Nat) : Int32 → Int32 → Int32 → Int32 → Int32 → Int32 → Int32 → Int32 → Int32 → ch_Mem → Option (Int32 × ch_Mem) := ch_fix (fun _ _ _ _ _ _ _ _ _ _ => none) (fun k => D_X7_takesOff_b46 k13 k23 k) n
def D_X7_takesOff_b123 (k13 : Int32 → Int32 → Int32 → Int32 → Int32 → Int32 → ch_Mem → Option (Int32 × ch_Mem)) (x1 : Int32) (x2 : Int32) (x3 : Int32) (x4 : Int32) (x5 : Int32) (x6 : Int32) (M : ch_Mem) : Option (Int32 × ch_Mem) :=
  k13 x1 x2 x3 x4 x5 (x6 + (1 : Int32)) M
def D_X7_takesOff_b23 (k13 : Int32 → Int32 → Int32 → Int32 → Int32 → Int32 → ch_Mem → Option (Int32 × ch_Mem)) (k23 : Int32 → Int32 → Int32 → Int32 → Int32 → Int32 → Int32 → ch_Mem → Option (Int32 × ch_Mem)) (x1 : Int32) (x2 : Int32) (x3 : Int32) (x4 : Int32) (x5 : Int32) (x6 : Int32) (x7 : Int32) (M : ch_Mem) : Option (Int32 × ch_Mem) :=
  (if x1 ≤ x7 then D_X7_takesOff_b123 k13 x1 x2 x3 x4 x5 x6 M else ch_gd x6 8 ((if (M.1 1 x6.toNatClampNeg) = x1 then D_X7_takesOff_L46 k13 k23 ch_fu x1 x2 x3 x4 x5 x6 x7 (0 : Int32) (0 : Int32) M else D_X7_takesOff_b123 k13 x1 x2 x3 x4 x5 x6 M)))
def D_X7_takesOff_L23 (k13 : Int32 → Int32 → Int32 → Int32 → Int32 → Int32 → ch_Mem → Option (Int32 × ch_Mem)) (n : Nat) : Int32 → Int32 → Int32 → Int32 → Int32 → Int32 → Int32 → ch_Mem → Option (Int32 × ch_Mem) := ch_fix (fun _ _ _ _ _ _ _ _ => none) (fun k => D_X7_takesOff_b23 k13 k) n
def D_X7_takesOff_b205 (x3 : Int32) (x4 : Int32) (x7 : Int32) (M : ch_Mem) : Option (Int32 × ch_Mem) :=
  ch_gd ((3 : Int32) * (M.1 0 6)) 60 (ch_gd (((3 : Int32) * ((ch_wI M 4 ((3 : Int32) * (M.1 0 6)).toNatClampNeg x3).1 0 6)) + (1 : Int32)) 60 (ch_gd (((3 : Int32) * ((ch_wI (ch_wI M 4 ((3 : Int32) * (M.1 0 6)).toNatClampNeg x3) 4 (((3 : Int32) * ((ch_wI M 4 ((3 : Int32) * (M.1 0 6)).toNatClampNeg x3).1 0 6)) + (1 : Int32)).toNatClampNeg x4).1 0 6)) + (2 : Int32)) 60 (some ((1 : Int32), ch_wI (ch_wI (ch_wI M 4 ((3 : Int32) * (M.1 0 6)).toNatClampNeg x3) 4 (((3 : Int32) * ((ch_wI M 4 ((3 : Int32) * (M.1 0 6)).toNatClampNeg x3).1 0 6)) + (1 : Int32)).toNatClampNeg x4) 4 (((3 : Int32) * ((ch_wI (ch_wI M 4 ((3 : Int32) * (M.1 0 6)).toNatClampNeg x3) 4 (((3 : Int32) * ((ch_wI M 4 ((3 : Int32) * (M.1 0 6)).toNatClampNeg x3).1 0 6)) + (1 : Int32)).toNatClampNeg x4).1 0 6)) + (2 : Int32)).toNatClampNeg x7))))
def D_X7_takesOff_b170 (k170 : Int32 → Int32 → Int32 → Int32 → Int32 → ch_Mem → Option (Int32 × ch_Mem)) (x1 : Int32) (x3 : Int32) (x4 : Int32) (x7 : Int32) (x8 : Int32) (M : ch_Mem) : Option (Int32 × ch_Mem) :=
  (if x1 ≤ x8 then D_X7_takesOff_b205 x3 x4 x7 M else ch_gd x8 127 (ch_bd (D_X7_signOf x3 (x8 + x4) M) (fun r1 M2 => ch_gd x8 127 (k170 x1 x3 x4 x7 (x8 + (1 : Int32)) (ch_wI M2 5 x8.toNatClampNeg ((M.1 5 x8.toNatClampNeg) - (x7 * r1)))))))
def D_X7_takesOff_L170  (n : Nat) : Int32 → Int32 → Int32 → Int32 → Int32 → ch_Mem → Option (Int32 × ch_Mem) := ch_fix (fun _ _ _ _ _ _ => none) (fun k => D_X7_takesOff_b170  k) n
def D_X7_takesOff_b157 (x1 : Int32) (x3 : Int32) (x4 : Int32) (y0 : Int32) (y1 : Int32) (M : ch_Mem) : Option (Int32 × ch_Mem) :=
  (if (y1 - y0) = 0 then some ((0 : Int32), M) else D_X7_takesOff_L170 ch_fu x1 x3 x4 (y1 - y0) (0 : Int32) M)
def D_X7_takesOff_b129 (x1 : Int32) (x3 : Int32) (x4 : Int32) (x5 : Int32) (M : ch_Mem) : Option (Int32 × ch_Mem) :=
  ch_g0 ((2 : Int32) * x1) (ch_g0 ((2 : Int32) * x1) ((if 0 ≤ ((((2 : Int32) * x5) + x1) - (((2 : Int32) * x5) + x1) / ((2 : Int32) * x1) * ((2 : Int32) * x1)) then D_X7_takesOff_b157 x1 x3 x4 (0 : Int32) ((((2 : Int32) * x5) + x1) / ((2 : Int32) * x1)) M else D_X7_takesOff_b157 x1 x3 x4 (1 : Int32) ((((2 : Int32) * x5) + x1) / ((2 : Int32) * x1)) M)))
def D_X7_takesOff_b13 (k13 : Int32 → Int32 → Int32 → Int32 → Int32 → Int32 → ch_Mem → Option (Int32 × ch_Mem)) (x1 : Int32) (x2 : Int32) (x3 : Int32) (x4 : Int32) (x5 : Int32) (x6 : Int32) (M : ch_Mem) : Option (Int32 × ch_Mem) :=
  (if (8 : Int32) ≤ x6 then D_X7_takesOff_b129 x1 x3 x4 x5 M else D_X7_takesOff_L23 k13 ch_fu x1 x2 x3 x4 x5 x6 (0 : Int32) M)
def D_X7_takesOff_L13  (n : Nat) : Int32 → Int32 → Int32 → Int32 → Int32 → Int32 → ch_Mem → Option (Int32 × ch_Mem) := ch_fix (fun _ _ _ _ _ _ _ => none) (fun k => D_X7_takesOff_b13  k) n
def D_X7_takesOff (x1 : Int32) (M : ch_Mem) : Option (Int32 × ch_Mem) :=
  D_X7_takesOff_L13 ch_fu x1 (-1 : Int32) (0 : Int32) (0 : Int32) (0 : Int32) (0 : Int32) M
abbrev rm_X7_peel : Room := { frames := 2, cells := 0, slots := 0, locals := 51 }
def D_X7_peel_b53 (k29 : Int32 → Int32 → Int32 → Int32 → ch_Mem → Option (Int32 × ch_Mem)) (x1 : Int32) (x2 : Int32) (x4 : Int32) (y0 : Int32) (y1 : Int32) (M : ch_Mem) : Option (Int32 × ch_Mem) :=
  k29 x1 x2 (y1 ||| y0) (x4 + (1 : Int32)) M
def D_X7_peel_b180 (M : ch_Mem) : Option (Int32 × ch_Mem) :=
  some ((M.1 0 6), M)
def D_X7_peel_b142 (k142 : Int32 → Int32 → ch_Mem → Option (Int32 × ch_Mem)) (x2 : Int32) (x4 : Int32) (M : ch_Mem) : Option (Int32 × ch_Mem) :=
  (if x2 ≤ x4 then D_X7_peel_b180 M else ch_gd x4 127 (ch_gd x4 127 (k142 x2 (x4 + (1 : Int32)) (ch_wL M 0 9 ((M.2 0 9) + (((M.1 5 x4.toNatClampNeg).toInt64) * ((M.1 5 x4.toNatClampNeg).toInt64)))))))
def D_X7_peel_L142  (n : Nat) : Int32 → Int32 → ch_Mem → Option (Int32 × ch_Mem) := ch_fix (fun _ _ _ => none) (fun k => D_X7_peel_b142  k) n
def D_X7_peel_b134 (x2 : Int32) (M : ch_Mem) : Option (Int32 × ch_Mem) :=
  D_X7_peel_L142 ch_fu x2 (0 : Int32) (ch_wL M 0 9 (0 : Int64))
def D_X7_peel_b104 (k104 : Int32 → ch_Mem → Option (Int32 × ch_Mem)) (x2 : Int32) (M : ch_Mem) : Option (Int32 × ch_Mem) :=
  (if (20 : Int32) ≤ (M.1 0 6) then D_X7_peel_b134 x2 M else ch_bd (D_X7_takesOff x2 M) (fun r1 M2 => (if r1 = 0 then D_X7_peel_b134 x2 M2 else k104 x2 (ch_wI M2 0 6 ((M2.1 0 6) + (1 : Int32))))))
def D_X7_peel_L104  (n : Nat) : Int32 → ch_Mem → Option (Int32 × ch_Mem) := ch_fix (fun _ _ => none) (fun k => D_X7_peel_b104  k) n
def D_X7_peel_b99 (x2 : Int32) (M : ch_Mem) : Option (Int32 × ch_Mem) :=
  D_X7_peel_L104 ch_fu x2 (ch_wI M 0 6 (0 : Int32))
def D_X7_peel_b71 (k71 : Int32 → Int32 → Int32 → ch_Mem → Option (Int32 × ch_Mem)) (x1 : Int32) (x2 : Int32) (x4 : Int32) (M : ch_Mem) : Option (Int32 × ch_Mem) :=
  (if x2 ≤ x4 then D_X7_peel_b99 x2 M else ch_bd (D_X7_sample (0 : Int32) (x1 + x4) M) (fun r1 M2 => ch_gd x4 127 (k71 x1 x2 (x4 + (1 : Int32)) (ch_wI M2 5 x4.toNatClampNeg r1))))
def D_X7_peel_L71  (n : Nat) : Int32 → Int32 → Int32 → ch_Mem → Option (Int32 × ch_Mem) := ch_fix (fun _ _ _ _ => none) (fun k => D_X7_peel_b71  k) n
def D_X7_peel_b61 (x1 : Int32) (x2 : Int32) (x3 : Int32) (M : ch_Mem) : Option (Int32 × ch_Mem) :=
  (if x3 = 0 then some ((-3 : Int32), M) else D_X7_peel_L71 ch_fu x1 x2 (0 : Int32) M)
def D_X7_peel_b29 (k29 : Int32 → Int32 → Int32 → Int32 → ch_Mem → Option (Int32 × ch_Mem)) (x1 : Int32) (x2 : Int32) (x3 : Int32) (x4 : Int32) (M : ch_Mem) : Option (Int32 × ch_Mem) :=
  (if (8 : Int32) ≤ x4 then D_X7_peel_b61 x1 x2 x3 M else ch_gd x4 8 ((if (M.1 1 x4.toNatClampNeg) = x2 then D_X7_peel_b53 k29 x1 x2 x4 (1 : Int32) x3 M else D_X7_peel_b53 k29 x1 x2 x4 (0 : Int32) x3 M)))
def D_X7_peel_L29  (n : Nat) : Int32 → Int32 → Int32 → Int32 → ch_Mem → Option (Int32 × ch_Mem) := ch_fix (fun _ _ _ _ _ => none) (fun k => D_X7_peel_b29  k) n
def D_X7_peel (x1 : Int32) (x2 : Int32) (M : ch_Mem) : Option (Int32 × ch_Mem) :=
  ch_bd (D_X7_in x1 (0 : Int32) (300 : Int32) M) (fun r1 M2 => (if r1 = 0 then some ((-2 : Int32), M2) else ch_bd (D_X7_in x2 (1 : Int32) (127 : Int32) M2) (fun r3 M4 => (if r3 = 0 then some ((-2 : Int32), M4) else D_X7_peel_L29 ch_fu x1 x2 (0 : Int32) (0 : Int32) M4))))
abbrev rm_X7_peeled : Room := { frames := 1, cells := 0, slots := 0, locals := 22 }
def D_X7_peeled (x1 : Int32) (x2 : Int32) (M : ch_Mem) : Option (Int32 × ch_Mem) :=
  ch_bd (D_X7_in x1 (0 : Int32) ((M.1 0 6) - (1 : Int32)) M) (fun r1 M2 => (if r1 = 0 then some ((-1000000 : Int32), M2) else ch_bd (D_X7_in x2 (0 : Int32) (2 : Int32) M2) (fun r3 M4 => (if r3 = 0 then some ((-1000000 : Int32), M4) else ch_gd (((3 : Int32) * x1) + x2) 60 (some ((M4.1 4 (((3 : Int32) * x1) + x2).toNatClampNeg), M4))))))
abbrev rm_X7_period : Room := { frames := 2, cells := 0, slots := 0, locals := 48 }
def D_X7_period (x1 : Int32) (x2 : Int32) (x3 : Int32) (M : ch_Mem) : Option (Int32 × ch_Mem) :=
  ch_bd (D_X7_isRegister x1 x2 x3 M) (fun r1 M2 => (if r1 = 0 then some ((-2 : Int32), M2) else ch_bd (D_X7_periodOf x1 x2 x3 M2) (fun r3 M4 => some (r3, M4))))
abbrev rm_X7_refuses : Room := { frames := 2, cells := 0, slots := 0, locals := 42 }
def D_X7_refuses_b18 (M : ch_Mem) : Option (Int32 × ch_Mem) :=
  some ((-2 : Int32), M)
def D_X7_refuses (x1 : Int32) (x2 : Int32) (M : ch_Mem) : Option (Int32 × ch_Mem) :=
  ch_bd (D_X7_isRow x1 M) (fun r1 M2 => (if r1 = 0 then D_X7_refuses_b18 M2 else ch_bd (D_X7_in x2 (0 : Int32) (300 : Int32) M2) (fun r3 M4 => (if r3 = 0 then D_X7_refuses_b18 M4 else ch_gd x1 8 ((if (M4.1 1 x1.toNatClampNeg) = 0 then some ((-3 : Int32), M4) else some ((0 : Int32), M4)))))))
abbrev rm_X7_power : Room := { frames := 4, cells := 0, slots := 0, locals := 108 }
def D_X7_power (x1 : Int32) (x2 : Int32) (M : ch_Mem) : Option (Int64 × ch_Mem) :=
  ch_bd (D_X7_refuses x1 x2 M) (fun r1 M2 => (if r1 = 0 then ch_bd (D_X7_finds x1 x2 M2) (fun r3 M4 => some ((M4.2 0 4), M4)) else some (((-9223372036854775808 : Int64) - r1.toInt64), M2)))
abbrev rm_X7_put : Room := { frames := 2, cells := 0, slots := 0, locals := 45 }
def D_X7_put (x1 : Int32) (x2 : Int32) (x3 : Int32) (x4 : Int32) (M : ch_Mem) : Option (Int32 × ch_Mem) :=
  ch_bd (D_X7_isReel x1 M) (fun r1 M2 => (if r1 = 0 then some ((-2 : Int32), M2) else ch_bd (D_X7_in x2 (0 : Int32) (2 : Int32) M2) (fun r3 M4 => (if r3 = 0 then some ((-2 : Int32), M4) else ch_bd (D_X7_lacks x1 x2 x3 M4) (fun r5 M6 => (if r5 ≤ 0 then ch_bd (D_X7_cut x2 x4 M6) (fun r7 M8 => ch_gd (((300 : Int32) * x1) + x3) 1200 (some ((1 : Int32), ch_wI M8 11 (((300 : Int32) * x1) + x3).toNatClampNeg r7))) else ch_bd (D_X7_meets r5 M6) (fun r9 M10 => some (r9, M10))))))))
abbrev rm_X7_reel : Room := { frames := 2, cells := 0, slots := 0, locals := 42 }
def D_X7_reel_b88 (x3 : Int32) (M : ch_Mem) : Option (Int32 × ch_Mem) :=
  some (x3, M)
def D_X7_reel_b60 (k60 : Int32 → Int32 → Int32 → ch_Mem → Option (Int32 × ch_Mem)) (x1 : Int32) (x3 : Int32) (x4 : Int32) (M : ch_Mem) : Option (Int32 × ch_Mem) :=
  (if (300 : Int32) ≤ x4 then D_X7_reel_b88 x3 M else ch_gd (((300 : Int32) * x1) + x4) 1200 (k60 x1 x3 (x4 + (1 : Int32)) (ch_wI M 11 (((300 : Int32) * x1) + x4).toNatClampNeg (0 : Int32))))
def D_X7_reel_L60  (n : Nat) : Int32 → Int32 → Int32 → ch_Mem → Option (Int32 × ch_Mem) := ch_fix (fun _ _ _ _ => none) (fun k => D_X7_reel_b60  k) n
def D_X7_reel (x1 : Int32) (x2 : Int32) (x3 : Int32) (M : ch_Mem) : Option (Int32 × ch_Mem) :=
  ch_bd (D_X7_isReel x1 M) (fun r1 M2 => (if r1 = 0 then some ((-2 : Int32), M2) else ch_bd (D_X7_in x2 (0 : Int32) (2 : Int32) M2) (fun r3 M4 => (if r3 = 0 then some ((-2 : Int32), M4) else (if x3 ≤ (300 : Int32) then (if 0 ≤ x3 then ch_gd x1 4 (ch_gd x1 4 (ch_gd x1 4 (D_X7_reel_L60 ch_fu x1 x3 (0 : Int32) (ch_wI (ch_wI (ch_wI M4 8 x1.toNatClampNeg (1 : Int32)) 9 x1.toNatClampNeg x2) 10 x1.toNatClampNeg x3)))) else ch_bd (D_X7_meets (5 : Int32) M4) (fun r5 M6 => some (r5, M6))) else some ((-2 : Int32), M4))))))
abbrev rm_X7_reset : Room := { frames := 0, cells := 0, slots := 0, locals := 0 }
def D_X7_reset (M : ch_Mem) : Option (Int32 × ch_Mem) :=
  some ((M.1 0 10), ch_wI M 0 10 (0 : Int32))
abbrev rm_X7_search : Room := { frames := 4, cells := 0, slots := 0, locals := 108 }
def D_X7_search (x1 : Int32) (x2 : Int32) (M : ch_Mem) : Option (Int32 × ch_Mem) :=
  ch_bd (D_X7_refuses x1 x2 M) (fun r1 M2 => (if r1 = 0 then ch_bd (D_X7_finds x1 x2 M2) (fun r3 M4 => some (r3, M4)) else some (r1, M2)))
abbrev rm_X7_sign : Room := { frames := 2, cells := 0, slots := 0, locals := 42 }
def D_X7_sign (x1 : Int32) (x2 : Int32) (M : ch_Mem) : Option (Int32 × ch_Mem) :=
  ch_bd (D_X7_isRow x1 M) (fun r1 M2 => (if r1 = 0 then some ((-2 : Int32), M2) else ch_bd (D_X7_isShift x2 M2) (fun r3 M4 => (if r3 = 0 then some ((-2 : Int32), M4) else ch_gd x1 8 ((if (M4.1 1 x1.toNatClampNeg) = 0 then some ((-3 : Int32), M4) else ch_bd (D_X7_signOf x1 x2 M4) (fun r5 M6 => some (r5, M6))))))))
abbrev rm_X7_sure : Room := { frames := 4, cells := 0, slots := 0, locals := 108 }
def D_X7_sure (x1 : Int32) (x2 : Int32) (M : ch_Mem) : Option (Int32 × ch_Mem) :=
  ch_bd (D_X7_refuses x1 x2 M) (fun r1 M2 => (if r1 = 0 then ch_bd (D_X7_finds x1 x2 M2) (fun r3 M4 => (if (lg_cmp (M4.2 0 4) (0 : Int64)) ≤ 0 then some ((0 : Int32), M4) else (if 0 < (lg_cmp ((100 : Int64) * (M4.2 0 5)) (((M4.1 0 3).toInt64) * (M4.2 0 4))) then some ((0 : Int32), M4) else some ((1 : Int32), M4)))) else some (r1, M2)))
abbrev rm_X7_worst : Room := { frames := 3, cells := 0, slots := 0, locals := 64 }
def D_X7_worst_b85 (k25 : Int32 → Int32 → Int32 → Int32 → Int32 → ch_Mem → Option (Int32 × ch_Mem)) (k34 : Int32 → Int32 → Int32 → Int32 → Int32 → Int32 → ch_Mem → Option (Int32 × ch_Mem)) (x1 : Int32) (x2 : Int32) (x3 : Int32) (x5 : Int32) (x6 : Int32) (y0 : Int32) (M : ch_Mem) : Option (Int32 × ch_Mem) :=
  k34 x1 x2 x3 y0 x5 (x6 + (1 : Int32)) M
def D_X7_worst_b69 (k25 : Int32 → Int32 → Int32 → Int32 → Int32 → ch_Mem → Option (Int32 × ch_Mem)) (k34 : Int32 → Int32 → Int32 → Int32 → Int32 → Int32 → ch_Mem → Option (Int32 × ch_Mem)) (x1 : Int32) (x2 : Int32) (x3 : Int32) (x4 : Int32) (x5 : Int32) (x6 : Int32) (y0 : Int32) (M : ch_Mem) : Option (Int32 × ch_Mem) :=
  (if y0 ≤ x4 then D_X7_worst_b85 k25 k34 x1 x2 x3 x5 x6 x4 M else D_X7_worst_b85 k25 k34 x1 x2 x3 x5 x6 y0 M)
def D_X7_worst_b59 (k25 : Int32 → Int32 → Int32 → Int32 → Int32 → ch_Mem → Option (Int32 × ch_Mem)) (k34 : Int32 → Int32 → Int32 → Int32 → Int32 → Int32 → ch_Mem → Option (Int32 × ch_Mem)) (x1 : Int32) (x2 : Int32) (x3 : Int32) (x4 : Int32) (x5 : Int32) (x6 : Int32) (M : ch_Mem) : Option (Int32 × ch_Mem) :=
  ch_bd (D_X7_hitsOf x1 x2 x3 x5 x6 M) (fun r1 M2 => D_X7_worst_b69 k25 k34 x1 x2 x3 x4 x5 x6 r1 M2)
def D_X7_worst_b93 (k25 : Int32 → Int32 → Int32 → Int32 → Int32 → ch_Mem → Option (Int32 × ch_Mem)) (x1 : Int32) (x2 : Int32) (x3 : Int32) (x4 : Int32) (x5 : Int32) (M : ch_Mem) : Option (Int32 × ch_Mem) :=
  k25 x1 x2 x3 x4 (x5 + (1 : Int32)) M
def D_X7_worst_b34 (k25 : Int32 → Int32 → Int32 → Int32 → Int32 → ch_Mem → Option (Int32 × ch_Mem)) (k34 : Int32 → Int32 → Int32 → Int32 → Int32 → Int32 → ch_Mem → Option (Int32 × ch_Mem)) (x1 : Int32) (x2 : Int32) (x3 : Int32) (x4 : Int32) (x5 : Int32) (x6 : Int32) (M : ch_Mem) : Option (Int32 × ch_Mem) :=
  (if x1 ≤ x6 then D_X7_worst_b93 k25 x1 x2 x3 x4 x5 M else (if x2 = x3 then (if x5 = 0 then (if x6 = 0 then D_X7_worst_b69 k25 k34 x1 x2 x3 x4 x5 x6 (0 : Int32) M else D_X7_worst_b59 k25 k34 x1 x2 x3 x4 x5 x6 M) else D_X7_worst_b59 k25 k34 x1 x2 x3 x4 x5 x6 M) else D_X7_worst_b59 k25 k34 x1 x2 x3 x4 x5 x6 M))
def D_X7_worst_L34 (k25 : Int32 → Int32 → Int32 → Int32 → Int32 → ch_Mem → Option (Int32 × ch_Mem)) (n : Nat) : Int32 → Int32 → Int32 → Int32 → Int32 → Int32 → ch_Mem → Option (Int32 × ch_Mem) := ch_fix (fun _ _ _ _ _ _ _ => none) (fun k => D_X7_worst_b34 k25 k) n
def D_X7_worst_b99 (x4 : Int32) (M : ch_Mem) : Option (Int32 × ch_Mem) :=
  some (x4, M)
def D_X7_worst_b25 (k25 : Int32 → Int32 → Int32 → Int32 → Int32 → ch_Mem → Option (Int32 × ch_Mem)) (x1 : Int32) (x2 : Int32) (x3 : Int32) (x4 : Int32) (x5 : Int32) (M : ch_Mem) : Option (Int32 × ch_Mem) :=
  (if x1 ≤ x5 then D_X7_worst_b99 x4 M else D_X7_worst_L34 k25 ch_fu x1 x2 x3 x4 x5 (0 : Int32) M)
def D_X7_worst_L25  (n : Nat) : Int32 → Int32 → Int32 → Int32 → Int32 → ch_Mem → Option (Int32 × ch_Mem) := ch_fix (fun _ _ _ _ _ _ => none) (fun k => D_X7_worst_b25  k) n
def D_X7_worst (x1 : Int32) (x2 : Int32) (x3 : Int32) (M : ch_Mem) : Option (Int32 × ch_Mem) :=
  ch_bd (D_X7_isHop x1 x2 M) (fun r1 M2 => (if r1 = 0 then some ((-2 : Int32), M2) else ch_bd (D_X7_isHop x1 x3 M2) (fun r3 M4 => (if r3 = 0 then some ((-2 : Int32), M4) else D_X7_worst_L25 ch_fu x1 x2 x3 (0 : Int32) (0 : Int32) M4))))
