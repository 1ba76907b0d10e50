abbrev rm_X0_fits : Room := { frames := 0, cells := 0, slots := 0, locals := 0 }
def D_X0_fits (x1 : Int64) (x3 : Int32) (M : ch_Mem) : Option (Int32 × ch_Mem) :=
  ch_gd x3 5 ((if (M.1 38 x3.toNatClampNeg) ≤ 0 then some ((0 : Int32), M) else ch_gd x3 5 (ch_g0L ((M.1 38 x3.toNatClampNeg).toInt64) (ch_gd x3 5 ((if (lg_cmp (x1 - x1 / ((M.1 38 x3.toNatClampNeg).toInt64) * ((M.1 38 x3.toNatClampNeg).toInt64)) ((M.1 39 x3.toNatClampNeg).toInt64)) = 0 then some ((1 : Int32), M) else some ((0 : Int32), M)))))))
abbrev rm_X0_haveDivisorWith : Room := { frames := 0, cells := 0, slots := 0, locals := 0 }
def D_X0_haveDivisorWith_b36 (k2 : Int32 → Int32 → ch_Mem → Option (Int32 × ch_Mem)) (k9 : Int32 → Int32 → Int32 → ch_Mem → Option (Int32 × ch_Mem)) (x1 : Int32) (x2 : Int32) (x3 : Int32) (M : ch_Mem) : Option (Int32 × ch_Mem) :=
  k9 x1 x2 (x3 + (1 : Int32)) M
def D_X0_haveDivisorWith_b42 (k2 : Int32 → Int32 → ch_Mem → Option (Int32 × ch_Mem)) (x1 : Int32) (x2 : Int32) (M : ch_Mem) : Option (Int32 × ch_Mem) :=
  k2 x1 (x2 + (1 : Int32)) M
def D_X0_haveDivisorWith_b9 (k2 : Int32 → Int32 → ch_Mem → Option (Int32 × ch_Mem)) (k9 : Int32 → Int32 → Int32 → ch_Mem → Option (Int32 × ch_Mem)) (x1 : Int32) (x2 : Int32) (x3 : Int32) (M : ch_Mem) : Option (Int32 × ch_Mem) :=
  (if (M.1 6 2) ≤ x3 then D_X0_haveDivisorWith_b42 k2 x1 x2 M else ch_g0 x2 ((if (x1 - x1 / x2 * x2) = 0 then ch_gd x3 5 (ch_g0 x2 ((if ((M.1 38 x3.toNatClampNeg) - (M.1 38 x3.toNatClampNeg) / x2 * x2) = 0 then some ((1 : Int32), M) else D_X0_haveDivisorWith_b36 k2 k9 x1 x2 x3 M))) else D_X0_haveDivisorWith_b36 k2 k9 x1 x2 x3 M)))
def D_X0_haveDivisorWith_L9 (k2 : Int32 → Int32 → ch_Mem → Option (Int32 × ch_Mem)) (n : Nat) : Int32 → Int32 → Int32 → ch_Mem → Option (Int32 × ch_Mem) := ch_fix (fun _ _ _ _ => none) (fun k => D_X0_haveDivisorWith_b9 k2 k) n
def D_X0_haveDivisorWith_b2 (k2 : Int32 → Int32 → ch_Mem → Option (Int32 × ch_Mem)) (x1 : Int32) (x2 : Int32) (M : ch_Mem) : Option (Int32 × ch_Mem) :=
  (if x1 < x2 then some ((0 : Int32), M) else D_X0_haveDivisorWith_L9 k2 ch_fu x1 x2 (0 : Int32) M)
def D_X0_haveDivisorWith_L2  (n : Nat) : Int32 → Int32 → ch_Mem → Option (Int32 × ch_Mem) := ch_fix (fun _ _ _ => none) (fun k => D_X0_haveDivisorWith_b2  k) n
def D_X0_haveDivisorWith (x1 : Int32) (M : ch_Mem) : Option (Int32 × ch_Mem) :=
  D_X0_haveDivisorWith_L2 ch_fu x1 (2 : Int32) M
abbrev rm_X0_howManyFit : Room := { frames := 1, cells := 0, slots := 0, locals := 23 }
def D_X0_howManyFit_b25 (k4 : Int32 → Int32 → Int32 → ch_Mem → Option (Int32 × ch_Mem)) (x1 : Int32) (x2 : Int32) (x3 : Int32) (M : ch_Mem) : Option (Int32 × ch_Mem) :=
  k4 x1 x2 (x3 + (1 : Int32)) M
def D_X0_howManyFit_b31 (x2 : Int32) (M : ch_Mem) : Option (Int32 × ch_Mem) :=
  some (x2, M)
def D_X0_howManyFit_b4 (k4 : Int32 → Int32 → Int32 → ch_Mem → Option (Int32 × ch_Mem)) (x1 : Int32) (x2 : Int32) (x3 : Int32) (M : ch_Mem) : Option (Int32 × ch_Mem) :=
  (if (M.1 6 2) ≤ x3 then D_X0_howManyFit_b31 x2 M else ch_bd (D_X0_fits x1.toInt64 x3 M) (fun r1 M2 => (if r1 = 0 then D_X0_howManyFit_b25 k4 x1 x2 x3 M2 else D_X0_howManyFit_b25 k4 x1 (x2 + (1 : Int32)) x3 M2)))
def D_X0_howManyFit_L4  (n : Nat) : Int32 → Int32 → Int32 → ch_Mem → Option (Int32 × ch_Mem) := ch_fix (fun _ _ _ _ => none) (fun k => D_X0_howManyFit_b4  k) n
def D_X0_howManyFit (x1 : Int32) (M : ch_Mem) : Option (Int32 × ch_Mem) :=
  D_X0_howManyFit_L4 ch_fu x1 (0 : Int32) (0 : Int32) M
abbrev rm_X0_keep : Room := { frames := 0, cells := 0, slots := 0, locals := 0 }
def D_X0_keep (x1 : Int32) (x2 : Int32) (M : ch_Mem) : Option (Unit × ch_Mem) :=
  (if (5 : Int32) ≤ (M.1 6 2) then some ((), M) else ch_gd (M.1 6 2) 5 (ch_gd ((ch_wI M 38 (M.1 6 2).toNatClampNeg x1).1 6 2) 5 (some ((), ch_wI (ch_wI (ch_wI M 38 (M.1 6 2).toNatClampNeg x1) 39 ((ch_wI M 38 (M.1 6 2).toNatClampNeg x1).1 6 2).toNatClampNeg x2) 6 2 (((ch_wI (ch_wI M 38 (M.1 6 2).toNatClampNeg x1) 39 ((ch_wI M 38 (M.1 6 2).toNatClampNeg x1).1 6 2).toNatClampNeg x2).1 6 2) + (1 : Int32))))))
abbrev rm_X0_leastFitting : Room := { frames := 1, cells := 0, slots := 0, locals := 23 }
def D_X0_leastFitting_b51 (k7 : Int64 → Int64 → Int32 → ch_Mem → Option (Int64 × ch_Mem)) (x1 : Int64) (x3 : Int64) (x5 : Int32) (M : ch_Mem) : Option (Int64 × ch_Mem) :=
  ch_gd x5 5 (k7 x1 (x3 * ((M.1 38 x5.toNatClampNeg).toInt64)) (x5 + (1 : Int32)) M)
def D_X0_leastFitting_b19 (k7 : Int64 → Int64 → Int32 → ch_Mem → Option (Int64 × ch_Mem)) (k19 : Int64 → Int64 → Int32 → Int32 → ch_Mem → Option (Int64 × ch_Mem)) (x1 : Int64) (x3 : Int64) (x5 : Int32) (x6 : Int32) (M : ch_Mem) : Option (Int64 × ch_Mem) :=
  ch_gd x5 5 ((if (M.1 38 x5.toNatClampNeg) ≤ x6 then D_X0_leastFitting_b51 k7 x1 x3 x5 M else ch_bd (D_X0_fits x1 x5 M) (fun r1 M2 => (if r1 = 0 then k19 (x1 + x3) x3 x5 (x6 + (1 : Int32)) M2 else D_X0_leastFitting_b51 k7 x1 x3 x5 M2))))
def D_X0_leastFitting_L19 (k7 : Int64 → Int64 → Int32 → ch_Mem → Option (Int64 × ch_Mem)) (n : Nat) : Int64 → Int64 → Int32 → Int32 → ch_Mem → Option (Int64 × ch_Mem) := ch_fix (fun _ _ _ _ _ => none) (fun k => D_X0_leastFitting_b19 k7 k) n
def D_X0_leastFitting_b68 (x1 : Int64) (M : ch_Mem) : Option (Int64 × ch_Mem) :=
  some (x1, M)
def D_X0_leastFitting_b7 (k7 : Int64 → Int64 → Int32 → ch_Mem → Option (Int64 × ch_Mem)) (x1 : Int64) (x3 : Int64) (x5 : Int32) (M : ch_Mem) : Option (Int64 × ch_Mem) :=
  (if (M.1 6 2) ≤ x5 then D_X0_leastFitting_b68 x1 M else D_X0_leastFitting_L19 k7 ch_fu x1 x3 x5 (0 : Int32) M)
def D_X0_leastFitting_L7  (n : Nat) : Int64 → Int64 → Int32 → ch_Mem → Option (Int64 × ch_Mem) := ch_fix (fun _ _ _ _ => none) (fun k => D_X0_leastFitting_b7  k) n
def D_X0_leastFitting (M : ch_Mem) : Option (Int64 × ch_Mem) :=
  D_X0_leastFitting_L7 ch_fu (0 : Int64) (1 : Int64) (0 : Int32) M
