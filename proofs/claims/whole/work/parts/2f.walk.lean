set_option maxHeartbeats 4000000 in
set_option maxRecDepth 100000 in
theorem t_X6_follow_109 {p : Program} {l : Launch} {e : Env} {s : State} {m : MethodId} {args : Array Value} {below : List Frame} {meth : Method} {c : Code} {Q : State → Prop} {D : va_G} {I : ch_Id} {sh : Nat → Nat} {A : Nat → Prop} {oo : Int32 × ch_Mem}     (S : CallFix p m c cX6_follow 8 s args wsX6_follow RX6) (fin : ch_FinI p l e rm_X6_follow s m args below meth c cX6_follow Q D I 40 (ch_FC I sh) sh A oo)  {x6 : Int32}  {M : ch_Mem} {H : Heap} {locs : List Loc} {ls : Array Slot} (h : D_X6_follow_b109 x6 M = some oo) (hw : ch_Wd D I 40 (ch_FC I sh) sh s A M H locs) (hl : lv_has ls 8 [(6, .int x6)]) : W p l e rm_X6_follow s m args below meth c H locs 0 0 Q (F0 m 109 ls []) := by
  obtain ⟨hx, hb, hml, hown, hts⟩ := id S
  unfold D_X6_follow_b109 at h
  refine lv_iload hx hb dX6_follow_109 (lv_at hl 0 rfl) ?_
  exact fin _ _ _ _ _ _ h hw dX6_follow_111
set_option maxHeartbeats 4000000 in
set_option maxRecDepth 100000 in
theorem t_X6_follow_66 {p : Program} {l : Launch} {e : Env} {s : State} {m : MethodId} {args : Array Value} {below : List Frame} {meth : Method} {c : Code} {Q : State → Prop} {D : va_G} {I : ch_Id} {sh : Nat → Nat} {A : Nat → Prop} {oo : Int32 × ch_Mem}    {k66 : Int32 → Int32 → Int32 → Int32 → Int32 → Int32 → ch_Mem → Option (Int32 × ch_Mem)} (S : CallFix p m c cX6_follow 8 s args wsX6_follow RX6) (fin : ch_FinI p l e rm_X6_follow s m args below meth c cX6_follow Q D I 40 (ch_FC I sh) sh A oo) (hk66 : ∀ (x1 : Int32) (x2 : Int32) (x4 : Int32) (x5 : Int32) (x6 : Int32) (x7 : Int32) (M : ch_Mem) (H : Heap) (locs : List Loc) (ls : Array Slot), k66 x1 x2 x4 x5 x6 x7 M = some oo → ch_Wd D I 40 (ch_FC I sh) sh s A M H locs → lv_has ls 8 [(0, .ref (sh 0)), (1, .int x1), (2, .int x2), (4, .int x4), (5, .int x5), (6, .int x6), (7, .int x7)] → W p l e rm_X6_follow s m args below meth c H locs 0 0 Q (F0 m 66 ls [])) {x1 : Int32} {x2 : Int32} {x4 : Int32} {x5 : Int32} {x6 : Int32} {x7 : Int32}  {M : ch_Mem} {H : Heap} {locs : List Loc} {ls : Array Slot} (h : D_X6_follow_b66 k66 x1 x2 x4 x5 x6 x7 M = some oo) (hw : ch_Wd D I 40 (ch_FC I sh) sh s A M H locs) (hl : lv_has ls 8 [(0, .ref (sh 0)), (1, .int x1), (2, .int x2), (4, .int x4), (5, .int x5), (6, .int x6), (7, .int x7)]) : W p l e rm_X6_follow s m args below meth c H locs 0 0 Q (F0 m 66 ls []) := by
  obtain ⟨hx, hb, hml, hown, hts⟩ := id S
  unfold D_X6_follow_b66 at h
  refine lv_iload hx hb dX6_follow_66 (lv_at hl 6 rfl) ?_
  refine lv_iload hx hb dX6_follow_68 (lv_at hl 3 rfl) ?_
  refine ch_icmp_ge (tgt := 109) hx hb dX6_follow_70 (by decide) h (fun h => ?_) (fun h => ?_)
  · exact t_X6_follow_109 S fin h hw (lv_sub hl [5] rfl)
  · refine lv_aload_n hx hb dX6_follow_73 rfl (lv_at hl 0 rfl) ?_
    refine lv_iload_n hx hb dX6_follow_74 rfl (lv_at hl 2 rfl) ?_
    refine lv_iload hx hb dX6_follow_75 (lv_at hl 6 rfl) ?_
    refine lv_iload hx hb dX6_follow_77 (lv_at hl 4 rfl) ?_
    refine lv_imul hx hb dX6_follow_79 ?_
    refine lv_iadd hx hb dX6_follow_80 ?_
    refine lv_iload hx hb dX6_follow_81 (lv_at hl 4 rfl) ?_
    refine ch_bd_k h (fun r1 M2 hc h => ?_)
    cases r1
    refine ch_cv hw (va_runV (As := [.int (x2 + (x7 * x5)), .int x5]) (rest := []) S (c_X6_listen l D I sh H.size M (x2 + (x7 * x5)) x5 hc) (cwV 2 hts gX6_follow_X6_listen rfl rfl rfl (by decide +kernel) ⟨Nat.le_of_ble_eq_true rfl, Nat.le_of_ble_eq_true rfl⟩) (ch_pV hw (by decide) rfl rfl rfl) rfl rfl hl.1 rfl (lv_room (Nat.le_of_ble_eq_true rfl)) dX6_follow_83 ⟨Nat.le_refl 0, Nat.le_refl 0⟩) (fun H locs hw => ?_)
    refine lv_aload_n hx hb dX6_follow_86 rfl (lv_at hl 0 rfl) ?_
    refine lv_aload_n hx hb dX6_follow_87 rfl (lv_at hl 0 rfl) ?_
    refine ch_get S hw 0 (by decide) rfl rfl (by decide +kernel) 0 (by decide) (hts (.fieldLink RX6 11 "CodeHunt" "rows" "[LCodeHunt$Row;") (by decide +kernel)) rfl dX6_follow_88 ?_
    refine lv_iload_n hx hb dX6_follow_91 rfl (lv_at hl 1 rfl) ?_
    refine ch_gd_k h (fun hin h => ?_)
    have hlt3 := ch_in_lt hin
    refine ch_rows S hw hin dX6_follow_92 ?_
    refine lv_iload hx hb dX6_follow_93 (lv_at hl 5 rfl) ?_
    refine ch_bd_k h (fun r4 M5 hc h => ?_)
    refine ch_ci hw (va_runV (As := [.ref (sh (7 + x1.toNatClampNeg)), .int x6]) (rest := []) S (c_X6_loudestNear l D I sh H.size M2 (7 + x1.toNatClampNeg) (by omega) x6 hc) (cwV 2 hts gX6_follow_X6_loudestNear rfl rfl rfl (by decide +kernel) ⟨Nat.le_of_ble_eq_true rfl, Nat.le_of_ble_eq_true rfl⟩) (ch_pV hw (by decide) rfl rfl rfl) rfl rfl hl.1 rfl (lv_room (Nat.le_of_ble_eq_true rfl)) dX6_follow_95 ⟨Nat.le_refl 0, Nat.le_refl 0⟩) (fun H locs hw => ?_)
    refine lv_iload hx hb dX6_follow_98 (lv_at hl 4 rfl) ?_
    refine ch_g0_k h (fun hne h => ?_)
    refine lv_irem hx hb dX6_follow_100 hne ?_
    refine lv_istore (lv' := [(6, .int (r4 - r4 / x5 * x5)), (0, .ref (sh 0)), (1, .int x1), (2, .int x2), (4, .int x4), (5, .int x5), (7, .int x7)]) hx hb dX6_follow_101 hl (by decide) rfl (fun ls hl => ?_)
    refine lv_iinc (v := x7 + (1 : Int32)) (lv' := [(7, .int (x7 + (1 : Int32))), (6, .int (r4 - r4 / x5 * x5)), (0, .ref (sh 0)), (1, .int x1), (2, .int x2), (4, .int x4), (5, .int x5)]) hx hb dX6_follow_103 hl (k := 6) rfl rfl (by decide) rfl (fun ls hl => ?_)
    refine lv_goto (tgt := 66) hx hb dX6_follow_106 (by decide) ?_
    exact hk66 _ _ _ _ _ _ _ _ _ _  h hw (lv_sub hl [2, 3, 4, 5, 6, 1, 0] rfl)
set_option maxHeartbeats 4000000 in
set_option maxRecDepth 100000 in
theorem tl_X6_follow_66 {p : Program} {l : Launch} {e : Env} {s : State} {m : MethodId} {args : Array Value} {below : List Frame} {meth : Method} {c : Code} {Q : State → Prop} {D : va_G} {I : ch_Id} {sh : Nat → Nat} {A : Nat → Prop} {oo : Int32 × ch_Mem}     (S : CallFix p m c cX6_follow 8 s args wsX6_follow RX6) (fin : ch_FinI p l e rm_X6_follow s m args below meth c cX6_follow Q D I 40 (ch_FC I sh) sh A oo)  (n : Nat) : ∀ (x1 : Int32) (x2 : Int32) (x4 : Int32) (x5 : Int32) (x6 : Int32) (x7 : Int32) (M : ch_Mem) (H : Heap) (locs : List Loc) (ls : Array Slot), D_X6_follow_L66  n x1 x2 x4 x5 x6 x7 M = some oo → ch_Wd D I 40 (ch_FC I sh) sh s A M H locs → lv_has ls 8 [(0, .ref (sh 0)), (1, .int x1), (2, .int x2), (4, .int x4), (5, .int x5), (6, .int x6), (7, .int x7)] → W p l e rm_X6_follow s m args below meth c H locs 0 0 Q (F0 m 66 ls []) := by
  induction n with
  | zero => intro x1 x2 x4 x5 x6 x7 M H locs ls  h; cases h
  | succ n ih =>
    intro x1 x2 x4 x5 x6 x7 M H locs ls  h hw hl
    exact t_X6_follow_66 S fin ih h hw hl
set_option maxHeartbeats 4000000 in
set_option maxRecDepth 100000 in
theorem t_X6_follow_0 {p : Program} {l : Launch} {e : Env} {s : State} {m : MethodId} {args : Array Value} {below : List Frame} {meth : Method} {c : Code} {Q : State → Prop} {D : va_G} {I : ch_Id} {sh : Nat → Nat} {A : Nat → Prop} {oo : Int32 × ch_Mem}     (S : CallFix p m c cX6_follow 8 s args wsX6_follow RX6) (fin : ch_FinI p l e rm_X6_follow s m args below meth c cX6_follow Q D I 40 (ch_FC I sh) sh A oo)  {x1 : Int32} {x2 : Int32} {x3 : Int32} {x4 : Int32}  {M : ch_Mem} {H : Heap} {locs : List Loc} {ls : Array Slot} (h : D_X6_follow x1 x2 x3 x4 M = some oo) (hw : ch_Wd D I 40 (ch_FC I sh) sh s A M H locs) (hl : lv_has ls 8 [(0, .ref (sh 0)), (1, .int x1), (2, .int x2), (3, .int x3), (4, .int x4)]) : W p l e rm_X6_follow s m args below meth c H locs 0 0 Q (F0 m 0 ls []) := by
  obtain ⟨hx, hb, hml, hown, hts⟩ := id S
  unfold D_X6_follow at h
  refine lv_iload_n hx hb dX6_follow_0 rfl (lv_at hl 1 rfl) ?_
  refine ch_bd_k h (fun r1 M2 hc h => ?_)
  refine ch_ci hw (va_runS (As := [.int x1]) (rest := []) S (c_X6_isRow l D I sh H.size M x1 hc) (va_cwS 1 hts gX6_follow_X6_isRow rfl rfl rfl (by decide +kernel) ⟨Nat.le_of_ble_eq_true rfl, Nat.le_of_ble_eq_true rfl⟩) (ch_pS hw) rfl rfl hl.1 rfl (lv_room (Nat.le_of_ble_eq_true rfl)) dX6_follow_1 ⟨Nat.le_refl 0, Nat.le_refl 0⟩) (fun H locs hw => ?_)
  refine ch_if_eq (tgt := 34) hx hb dX6_follow_4 (by decide) h (fun h => ?_) (fun h => ?_)
  · refine lv_bipush (v := (-2 : Int32)) hx hb dX6_follow_34 (by decide) ?_
    exact fin _ _ _ _ _ _ h hw dX6_follow_36
  · refine lv_iload_n hx hb dX6_follow_7 rfl (lv_at hl 2 rfl) ?_
    refine ch_bd_k h (fun r3 M4 hc h => ?_)
    refine ch_ci hw (va_runS (As := [.int x2]) (rest := []) S (c_X6_isPlace l D I sh H.size M2 x2 hc) (va_cwS 1 hts gX6_follow_X6_isPlace rfl rfl rfl (by decide +kernel) ⟨Nat.le_of_ble_eq_true rfl, Nat.le_of_ble_eq_true rfl⟩) (ch_pS hw) rfl rfl hl.1 rfl (lv_room (Nat.le_of_ble_eq_true rfl)) dX6_follow_8 ⟨Nat.le_refl 0, Nat.le_refl 0⟩) (fun H locs hw => ?_)
    refine ch_if_eq (tgt := 34) hx hb dX6_follow_11 (by decide) h (fun h => ?_) (fun h => ?_)
    · refine lv_bipush (v := (-2 : Int32)) hx hb dX6_follow_34 (by decide) ?_
      exact fin _ _ _ _ _ _ h hw dX6_follow_36
    · refine lv_iload_n hx hb dX6_follow_14 rfl (lv_at hl 3 rfl) ?_
      refine ch_bd_k h (fun r5 M6 hc h => ?_)
      refine ch_ci hw (va_runS (As := [.int x3]) (rest := []) S (c_X6_isShift l D I sh H.size M4 x3 hc) (va_cwS 1 hts gX6_follow_X6_isShift rfl rfl rfl (by decide +kernel) ⟨Nat.le_of_ble_eq_true rfl, Nat.le_of_ble_eq_true rfl⟩) (ch_pS hw) rfl rfl hl.1 rfl (lv_room (Nat.le_of_ble_eq_true rfl)) dX6_follow_15 ⟨Nat.le_refl 0, Nat.le_refl 0⟩) (fun H locs hw => ?_)
      refine ch_if_eq (tgt := 34) hx hb dX6_follow_18 (by decide) h (fun h => ?_) (fun h => ?_)
      · refine lv_bipush (v := (-2 : Int32)) hx hb dX6_follow_34 (by decide) ?_
        exact fin _ _ _ _ _ _ h hw dX6_follow_36
      · refine lv_iload hx hb dX6_follow_21 (lv_at hl 4 rfl) ?_
        refine lv_iconst (v := (1 : Int32)) hx hb dX6_follow_23 (by decide) ?_
        refine ch_icmp_lt (tgt := 34) hx hb dX6_follow_24 (by decide) h (fun h => ?_) (fun h => ?_)
        · refine lv_bipush (v := (-2 : Int32)) hx hb dX6_follow_34 (by decide) ?_
          exact fin _ _ _ _ _ _ h hw dX6_follow_36
        · refine lv_iload hx hb dX6_follow_27 (lv_at hl 4 rfl) ?_
          refine lv_bipush (v := (20 : Int32)) hx hb dX6_follow_29 (by decide) ?_
          refine ch_icmp_le (tgt := 37) hx hb dX6_follow_31 (by decide) h (fun h => ?_) (fun h => ?_)
          · refine lv_aload_n hx hb dX6_follow_37 rfl (lv_at hl 0 rfl) ?_
            refine ch_get S hw 0 (by decide) rfl rfl (by decide +kernel) 0 (by decide) (hts (.fieldLink RX6 11 "CodeHunt" "rows" "[LCodeHunt$Row;") (by decide +kernel)) rfl dX6_follow_38 ?_
            refine lv_iload_n hx hb dX6_follow_41 rfl (lv_at hl 1 rfl) ?_
            refine ch_gd_k h (fun hin h => ?_)
            have hlt7 := ch_in_lt hin
            refine ch_rows S hw hin dX6_follow_42 ?_
            refine ch_getN S hw (7 + x1.toNatClampNeg) (by omega) (ch_FC_row (by omega)) rfl (by decide +kernel) 1 (by decide) (ch_nw hw 16 rfl) rfl dX6_follow_43 ?_
            refine lv_istore (lv' := [(5, .int (M6.1 (7 + x1.toNatClampNeg) 1)), (0, .ref (sh 0)), (1, .int x1), (2, .int x2), (3, .int x3), (4, .int x4)]) hx hb dX6_follow_46 hl (by decide) rfl (fun ls hl => ?_)
            refine lv_iload hx hb dX6_follow_48 (lv_at hl 0 rfl) ?_
            refine lv_iconst (v := (1 : Int32)) hx hb dX6_follow_50 (by decide) ?_
            refine ch_icmp_ge (tgt := 57) hx hb dX6_follow_51 (by decide) h (fun h => ?_) (fun h => ?_)
            · refine lv_iload_n hx hb dX6_follow_57 rfl (lv_at hl 4 rfl) ?_
              refine lv_iload hx hb dX6_follow_58 (lv_at hl 0 rfl) ?_
              refine ch_g0_k h (fun hne h => ?_)
              refine lv_irem hx hb dX6_follow_60 hne ?_
              refine ch_topi h (fun u8 h => ?_)
              refine lv_istore (lv' := [(6, .int u8), (5, .int (M6.1 (7 + x1.toNatClampNeg) 1)), (0, .ref (sh 0)), (1, .int x1), (2, .int x2), (3, .int x3), (4, .int x4)]) hx hb dX6_follow_61 hl (by decide) rfl (fun ls hl => ?_)
              refine lv_iconst (v := (0 : Int32)) hx hb dX6_follow_63 (by decide) ?_
              refine lv_istore (lv' := [(7, .int (0 : Int32)), (6, .int u8), (5, .int (M6.1 (7 + x1.toNatClampNeg) 1)), (0, .ref (sh 0)), (1, .int x1), (2, .int x2), (3, .int x3), (4, .int x4)]) hx hb dX6_follow_64 hl (by decide) rfl (fun ls hl => ?_)
              exact tl_X6_follow_66 S fin ch_fu _ _ _ _ _ _ _ _ _ _ h hw (lv_sub hl [3, 4, 5, 7, 2, 1, 0] rfl)
            · refine lv_bipush (v := (-3 : Int32)) hx hb dX6_follow_54 (by decide) ?_
              exact fin _ _ _ _ _ _ h hw dX6_follow_56
          · refine lv_bipush (v := (-2 : Int32)) hx hb dX6_follow_34 (by decide) ?_
            exact fin _ _ _ _ _ _ h hw dX6_follow_36
set_option maxHeartbeats 4000000 in
set_option maxRecDepth 100000 in
theorem c_X6_follow (l : Launch) (D : va_G) (I : ch_Id) (sh : Nat → Nat) (sz : Nat) (M : ch_Mem)  (x1 : Int32) (x2 : Int32) (x3 : Int32) (x4 : Int32) {r : Int32} {M1 : ch_Mem} (h : D_X6_follow x1 x2 x3 x4 M = some (r, M1)) : Met l yX6_follow wsX6_follow rm_X6_follow (va_Pc [.ref (sh 0), .int x1, .int x2, .int x3, .int x4] (ch_Pre D I 40 (ch_FC I sh) sh sz M)) (va_Qi (fun r' (u : ch_Mem) => r' = r ∧ u = M1) (ch_Pos D 40 (ch_FC I sh) sh) (ch_A 40 sh sz)) 0 0 (ch_A 40 sh sz) := by
  refine Met.ofW (cc := cX6_follow) (maxL := 8) (ret := (some .int)) (by decide) rfl ?_
  intro p e s m args below meth c s₁ B hml hv0
  obtain ⟨rfl, hv0⟩ := hv0
  obtain rfl : s.heap.size = sz := hv0.1
  have hw := ch_start hv0
  have S : CallFix p m c cX6_follow 8 s _ wsX6_follow RX6 := ⟨B.exec, B.bytes, hml, findClass_of_methodNamed B.named, atoms_spec (ws := wsX6_follow) B.pre⟩
  have hl := lv_entry ([.ref (sh 0), .int x1, .int x2, .int x3, .int x4]) (n := 8) (Nat.le_of_ble_eq_true rfl)
  rw [lg_entry_eq]
  generalize (lg_sl ([.ref (sh 0), .int x1, .int x2, .int x3, .int x4]) ++ List.replicate (8 - (lg_sl ([.ref (sh 0), .int x1, .int x2, .int x3, .int x4])).length) Slot.unset).toArray = ls at hl ⊢
  exact t_X6_follow_0 S (ch_finI (B := fun _ => True) B.exec B.bytes B.returns B.notSynchronized) h hw (lv_sub hl [0, 1, 2, 3, 4] rfl)
set_option maxHeartbeats 4000000 in
set_option maxRecDepth 100000 in
theorem t_X6_isBits_0 {p : Program} {l : Launch} {e : Env} {s : State} {m : MethodId} {args : Array Value} {below : List Frame} {meth : Method} {c : Code} {Q : State → Prop} {D : va_G} {I : ch_Id} {sh : Nat → Nat} {A : Nat → Prop} {oo : Int32 × ch_Mem}     (S : CallFix p m c cX6_isBits 1 s args wsX6_isBits RX6) (fin : ch_FinZ p l e rm_X6_isBits s m args below meth c cX6_isBits Q D I 40 (ch_FC I sh) sh A oo)  {x0 : Int32}  {M : ch_Mem} {H : Heap} {locs : List Loc} {ls : Array Slot} (h : D_X6_isBits x0 M = some oo) (hw : ch_Wd D I 40 (ch_FC I sh) sh s A M H locs) (hl : lv_has ls 1 [(0, .int x0)]) : W p l e rm_X6_isBits s m args below meth c H locs 0 0 Q (F0 m 0 ls []) := by
  obtain ⟨hx, hb, hml, hown, hts⟩ := id S
  unfold D_X6_isBits at h
  refine lv_iload_n hx hb dX6_isBits_0 rfl (lv_at hl 0 rfl) ?_
  refine lv_iconst (v := (2 : Int32)) hx hb dX6_isBits_1 (by decide) ?_
  refine ch_icmp_lt (tgt := 15) hx hb dX6_isBits_2 (by decide) h (fun h => ?_) (fun h => ?_)
  · refine lv_iconst (v := (0 : Int32)) hx hb dX6_isBits_15 (by decide) ?_
    exact fin _ _ _ _ _ _ rfl h hw dX6_isBits_16
  · refine lv_iload_n hx hb dX6_isBits_5 rfl (lv_at hl 0 rfl) ?_
    refine lv_bipush (v := (7 : Int32)) hx hb dX6_isBits_6 (by decide) ?_
    refine ch_icmp_gt (tgt := 15) hx hb dX6_isBits_8 (by decide) h (fun h => ?_) (fun h => ?_)
    · refine lv_iconst (v := (0 : Int32)) hx hb dX6_isBits_15 (by decide) ?_
      exact fin _ _ _ _ _ _ rfl h hw dX6_isBits_16
    · refine lv_iconst (v := (1 : Int32)) hx hb dX6_isBits_11 (by decide) ?_
      refine lv_goto (tgt := 16) hx hb dX6_isBits_12 (by decide) ?_
      exact fin _ _ _ _ _ _ rfl h hw dX6_isBits_16
set_option maxHeartbeats 4000000 in
set_option maxRecDepth 100000 in
theorem c_X6_isBits (l : Launch) (D : va_G) (I : ch_Id) (sh : Nat → Nat) (sz : Nat) (M : ch_Mem)  (x0 : Int32) {r : Int32} {M1 : ch_Mem} (h : D_X6_isBits x0 M = some (r, M1)) : Met l yX6_isBits wsX6_isBits rm_X6_isBits (va_Pc [.int x0] (ch_Pre D I 40 (ch_FC I sh) sh sz M)) (va_Qi (fun r' (u : ch_Mem) => r' = r ∧ u = M1) (ch_Pos D 40 (ch_FC I sh) sh) (ch_A 40 sh sz)) 0 0 (ch_A 40 sh sz) := by
  refine Met.ofW (cc := cX6_isBits) (maxL := 1) (ret := (some .boolean)) (by decide) rfl ?_
  intro p e s m args below meth c s₁ B hml hv0
  obtain ⟨rfl, hv0⟩ := hv0
  obtain rfl : s.heap.size = sz := hv0.1
  have hw := ch_start hv0
  have S : CallFix p m c cX6_isBits 1 s _ wsX6_isBits RX6 := ⟨B.exec, B.bytes, hml, findClass_of_methodNamed B.named, atoms_spec (ws := wsX6_isBits) B.pre⟩
  have hl := lv_entry ([.int x0]) (n := 1) (Nat.le_of_ble_eq_true rfl)
  rw [lg_entry_eq]
  generalize (lg_sl ([.int x0]) ++ List.replicate (1 - (lg_sl ([.int x0])).length) Slot.unset).toArray = ls at hl ⊢
  exact t_X6_isBits_0 S (ch_finZ B.exec B.bytes B.returns B.notSynchronized) h hw (lv_sub hl [0] rfl)
set_option maxHeartbeats 4000000 in
set_option maxRecDepth 100000 in
theorem t_X6_stepsToReturn_24 {p : Program} {l : Launch} {e : Env} {s : State} {m : MethodId} {args : Array Value} {below : List Frame} {meth : Method} {c : Code} {Q : State → Prop} {D : va_G} {I : ch_Id} {sh : Nat → Nat} {A : Nat → Prop} {oo : Int32 × ch_Mem}     (S : CallFix p m c cX6_stepsToReturn 5 s args wsX6_stepsToReturn RX6) (fin : ch_FinI p l e rm_X6_stepsToReturn s m args below meth c cX6_stepsToReturn Q D I 40 (ch_FC I sh) sh A oo)  {x4 : Int32}  {M : ch_Mem} {H : Heap} {locs : List Loc} {ls : Array Slot} (h : D_X6_stepsToReturn_b24 x4 M = some oo) (hw : ch_Wd D I 40 (ch_FC I sh) sh s A M H locs) (hl : lv_has ls 5 [(4, .int x4)]) : W p l e rm_X6_stepsToReturn s m args below meth c H locs 0 0 Q (F0 m 24 ls []) := by
  obtain ⟨hx, hb, hml, hown, hts⟩ := id S
  unfold D_X6_stepsToReturn_b24 at h
  refine lv_iload hx hb dX6_stepsToReturn_24 (lv_at hl 0 rfl) ?_
  exact fin _ _ _ _ _ _ h hw dX6_stepsToReturn_26
set_option maxHeartbeats 4000000 in
set_option maxRecDepth 100000 in
theorem t_X6_stepsToReturn_5 {p : Program} {l : Launch} {e : Env} {s : State} {m : MethodId} {args : Array Value} {below : List Frame} {meth : Method} {c : Code} {Q : State → Prop} {D : va_G} {I : ch_Id} {sh : Nat → Nat} {A : Nat → Prop} {oo : Int32 × ch_Mem}    {k5 : Int32 → Int32 → Int32 → Int32 → Int32 → ch_Mem → Option (Int32 × ch_Mem)} (S : CallFix p m c cX6_stepsToReturn 5 s args wsX6_stepsToReturn RX6) (fin : ch_FinI p l e rm_X6_stepsToReturn s m args below meth c cX6_stepsToReturn Q D I 40 (ch_FC I sh) sh A oo) (hk5 : ∀ (x0 : Int32) (x1 : Int32) (x2 : Int32) (x3 : Int32) (x4 : Int32) (M : ch_Mem) (H : Heap) (locs : List Loc) (ls : Array Slot), k5 x0 x1 x2 x3 x4 M = some oo → ch_Wd D I 40 (ch_FC I sh) sh s A M H locs → lv_has ls 5 [(0, .int x0), (1, .int x1), (2, .int x2), (3, .int x3), (4, .int x4)] → W p l e rm_X6_stepsToReturn s m args below meth c H locs 0 0 Q (F0 m 5 ls [])) {x0 : Int32} {x1 : Int32} {x2 : Int32} {x3 : Int32} {x4 : Int32}  {M : ch_Mem} {H : Heap} {locs : List Loc} {ls : Array Slot} (h : D_X6_stepsToReturn_b5 k5 x0 x1 x2 x3 x4 M = some oo) (hw : ch_Wd D I 40 (ch_FC I sh) sh s A M H locs) (hl : lv_has ls 5 [(0, .int x0), (1, .int x1), (2, .int x2), (3, .int x3), (4, .int x4)]) : W p l e rm_X6_stepsToReturn s m args below meth c H locs 0 0 Q (F0 m 5 ls []) := by
  obtain ⟨hx, hb, hml, hown, hts⟩ := id S
  unfold D_X6_stepsToReturn_b5 at h
  refine lv_iload hx hb dX6_stepsToReturn_5 (lv_at hl 4 rfl) ?_
  refine lv_bipush (v := (127 : Int32)) hx hb dX6_stepsToReturn_7 (by decide) ?_
  refine ch_icmp_gt (tgt := 33) hx hb dX6_stepsToReturn_9 (by decide) h (fun h => ?_) (fun h => ?_)
  · refine lv_bipush (v := (127 : Int32)) hx hb dX6_stepsToReturn_33 (by decide) ?_
    exact fin _ _ _ _ _ _ h hw dX6_stepsToReturn_35
  · refine lv_iload_n hx hb dX6_stepsToReturn_12 rfl (lv_at hl 0 rfl) ?_
    refine lv_iload_n hx hb dX6_stepsToReturn_13 rfl (lv_at hl 1 rfl) ?_
    refine lv_iload_n hx hb dX6_stepsToReturn_14 rfl (lv_at hl 3 rfl) ?_
    refine ch_bd_k h (fun r1 M2 hc h => ?_)
    refine ch_ci hw (va_runS (As := [.int x0, .int x1, .int x3]) (rest := []) S (c_X6_stepped l D I sh H.size M x0 x1 x3 hc) (va_cwS 3 hts gX6_stepsToReturn_X6_stepped rfl rfl rfl (by decide +kernel) ⟨Nat.le_of_ble_eq_true rfl, Nat.le_of_ble_eq_true rfl⟩) (ch_pS hw) rfl rfl hl.1 rfl (lv_room (Nat.le_of_ble_eq_true rfl)) dX6_stepsToReturn_15 ⟨Nat.le_refl 0, Nat.le_refl 0⟩) (fun H locs hw => ?_)
    refine lv_istore_n (lv' := [(3, .int r1), (0, .int x0), (1, .int x1), (2, .int x2), (4, .int x4)]) hx hb dX6_stepsToReturn_18 rfl hl (by decide) rfl (fun ls hl => ?_)
    refine lv_iload_n hx hb dX6_stepsToReturn_19 rfl (lv_at hl 0 rfl) ?_
    refine lv_iload_n hx hb dX6_stepsToReturn_20 rfl (lv_at hl 3 rfl) ?_
    refine ch_icmp_ne (tgt := 27) hx hb dX6_stepsToReturn_21 (by decide) h (fun h => ?_) (fun h => ?_)
    · refine lv_iinc (v := x4 + (1 : Int32)) (lv' := [(4, .int (x4 + (1 : Int32))), (3, .int r1), (0, .int x0), (1, .int x1), (2, .int x2)]) hx hb dX6_stepsToReturn_27 hl (k := 4) rfl rfl (by decide) rfl (fun ls hl => ?_)
      refine lv_goto (tgt := 5) hx hb dX6_stepsToReturn_30 (by decide) ?_
      exact hk5 _ _ _ _ _ _ _ _ _  h hw (lv_sub hl [2, 3, 4, 1, 0] rfl)
    · exact t_X6_stepsToReturn_24 S fin h hw (lv_sub hl [4] rfl)
set_option maxHeartbeats 4000000 in
set_option maxRecDepth 100000 in
theorem tl_X6_stepsToReturn_5 {p : Program} {l : Launch} {e : Env} {s : State} {m : MethodId} {args : Array Value} {below : List Frame} {meth : Method} {c : Code} {Q : State → Prop} {D : va_G} {I : ch_Id} {sh : Nat → Nat} {A : Nat → Prop} {oo : Int32 × ch_Mem}     (S : CallFix p m c cX6_stepsToReturn 5 s args wsX6_stepsToReturn RX6) (fin : ch_FinI p l e rm_X6_stepsToReturn s m args below meth c cX6_stepsToReturn Q D I 40 (ch_FC I sh) sh A oo)  (n : Nat) : ∀ (x0 : Int32) (x1 : Int32) (x2 : Int32) (x3 : Int32) (x4 : Int32) (M : ch_Mem) (H : Heap) (locs : List Loc) (ls : Array Slot), D_X6_stepsToReturn_L5  n x0 x1 x2 x3 x4 M = some oo → ch_Wd D I 40 (ch_FC I sh) sh s A M H locs → lv_has ls 5 [(0, .int x0), (1, .int x1), (2, .int x2), (3, .int x3), (4, .int x4)] → W p l e rm_X6_stepsToReturn s m args below meth c H locs 0 0 Q (F0 m 5 ls []) := by
  induction n with
  | zero => intro x0 x1 x2 x3 x4 M H locs ls  h; cases h
  | succ n ih =>
    intro x0 x1 x2 x3 x4 M H locs ls  h hw hl
    exact t_X6_stepsToReturn_5 S fin ih h hw hl
set_option maxHeartbeats 4000000 in
set_option maxRecDepth 100000 in
theorem t_X6_stepsToReturn_0 {p : Program} {l : Launch} {e : Env} {s : State} {m : MethodId} {args : Array Value} {below : List Frame} {meth : Method} {c : Code} {Q : State → Prop} {D : va_G} {I : ch_Id} {sh : Nat → Nat} {A : Nat → Prop} {oo : Int32 × ch_Mem}     (S : CallFix p m c cX6_stepsToReturn 5 s args wsX6_stepsToReturn RX6) (fin : ch_FinI p l e rm_X6_stepsToReturn s m args below meth c cX6_stepsToReturn Q D I 40 (ch_FC I sh) sh A oo)  {x0 : Int32} {x1 : Int32} {x2 : Int32}  {M : ch_Mem} {H : Heap} {locs : List Loc} {ls : Array Slot} (h : D_X6_stepsToReturn x0 x1 x2 M = some oo) (hw : ch_Wd D I 40 (ch_FC I sh) sh s A M H locs) (hl : lv_has ls 5 [(0, .int x0), (1, .int x1), (2, .int x2)]) : W p l e rm_X6_stepsToReturn s m args below meth c H locs 0 0 Q (F0 m 0 ls []) := by
  obtain ⟨hx, hb, hml, hown, hts⟩ := id S
  unfold D_X6_stepsToReturn at h
  refine lv_iload_n hx hb dX6_stepsToReturn_0 rfl (lv_at hl 2 rfl) ?_
  refine lv_istore_n (lv' := [(3, .int x2), (0, .int x0), (1, .int x1), (2, .int x2)]) hx hb dX6_stepsToReturn_1 rfl hl (by decide) rfl (fun ls hl => ?_)
  refine lv_iconst (v := (1 : Int32)) hx hb dX6_stepsToReturn_2 (by decide) ?_
  refine lv_istore (lv' := [(4, .int (1 : Int32)), (3, .int x2), (0, .int x0), (1, .int x1), (2, .int x2)]) hx hb dX6_stepsToReturn_3 hl (by decide) rfl (fun ls hl => ?_)
  exact tl_X6_stepsToReturn_5 S fin ch_fu _ _ _ _ _ _ _ _ _ h hw (lv_sub hl [2, 3, 4, 1, 0] rfl)
set_option maxHeartbeats 4000000 in
set_option maxRecDepth 100000 in
theorem c_X6_stepsToReturn (l : Launch) (D : va_G) (I : ch_Id) (sh : Nat → Nat) (sz : Nat) (M : ch_Mem)  (x0 : Int32) (x1 : Int32) (x2 : Int32) {r : Int32} {M1 : ch_Mem} (h : D_X6_stepsToReturn x0 x1 x2 M = some (r, M1)) : Met l yX6_stepsToReturn wsX6_stepsToReturn rm_X6_stepsToReturn (va_Pc [.int x0, .int x1, .int x2] (ch_Pre D I 40 (ch_FC I sh) sh sz M)) (va_Qi (fun r' (u : ch_Mem) => r' = r ∧ u = M1) (ch_Pos D 40 (ch_FC I sh) sh) (ch_A 40 sh sz)) 0 0 (ch_A 40 sh sz) := by
  refine Met.ofW (cc := cX6_stepsToReturn) (maxL := 5) (ret := (some .int)) (by decide) rfl ?_
  intro p e s m args below meth c s₁ B hml hv0
  obtain ⟨rfl, hv0⟩ := hv0
  obtain rfl : s.heap.size = sz := hv0.1
  have hw := ch_start hv0
  have S : CallFix p m c cX6_stepsToReturn 5 s _ wsX6_stepsToReturn RX6 := ⟨B.exec, B.bytes, hml, findClass_of_methodNamed B.named, atoms_spec (ws := wsX6_stepsToReturn) B.pre⟩
  have hl := lv_entry ([.int x0, .int x1, .int x2]) (n := 5) (Nat.le_of_ble_eq_true rfl)
  rw [lg_entry_eq]
  generalize (lg_sl ([.int x0, .int x1, .int x2]) ++ List.replicate (5 - (lg_sl ([.int x0, .int x1, .int x2])).length) Slot.unset).toArray = ls at hl ⊢
  exact t_X6_stepsToReturn_0 S (ch_finI (B := fun _ => True) B.exec B.bytes B.returns B.notSynchronized) h hw (lv_sub hl [0, 1, 2] rfl)
set_option maxHeartbeats 4000000 in
set_option maxRecDepth 100000 in
theorem t_X6_full_41 {p : Program} {l : Launch} {e : Env} {s : State} {m : MethodId} {args : Array Value} {below : List Frame} {meth : Method} {c : Code} {Q : State → Prop} {D : va_G} {I : ch_Id} {sh : Nat → Nat} {A : Nat → Prop} {oo : Int32 × ch_Mem}    {k21 : Int32 → Int32 → Int32 → Int32 → ch_Mem → Option (Int32 × ch_Mem)} (S : CallFix p m c cX6_full 5 s args wsX6_full RX6) (fin : ch_FinI p l e rm_X6_full s m args below meth c cX6_full Q D I 40 (ch_FC I sh) sh A oo) (hk21 : ∀ (x1 : Int32) (x2 : Int32) (x3 : Int32) (x4 : Int32) (M : ch_Mem) (H : Heap) (locs : List Loc) (ls : Array Slot), k21 x1 x2 x3 x4 M = some oo → ch_Wd D I 40 (ch_FC I sh) sh s A M H locs → lv_has ls 5 [(1, .int x1), (2, .int x2), (3, .int x3), (4, .int x4)] → W p l e rm_X6_full s m args below meth c H locs 0 0 Q (F0 m 21 ls [])) {x1 : Int32} {x2 : Int32} {x3 : Int32} {x4 : Int32}  {M : ch_Mem} {H : Heap} {locs : List Loc} {ls : Array Slot} (h : D_X6_full_b41 k21 x1 x2 x3 x4 M = some oo) (hw : ch_Wd D I 40 (ch_FC I sh) sh s A M H locs) (hl : lv_has ls 5 [(1, .int x1), (2, .int x2), (3, .int x3), (4, .int x4)]) : W p l e rm_X6_full s m args below meth c H locs 0 0 Q (F0 m 41 ls []) := by
  obtain ⟨hx, hb, hml, hown, hts⟩ := id S
  unfold D_X6_full_b41 at h
  refine lv_iinc (v := x4 + (2 : Int32)) (lv' := [(4, .int (x4 + (2 : Int32))), (1, .int x1), (2, .int x2), (3, .int x3)]) hx hb dX6_full_41 hl (k := 3) rfl rfl (by decide) rfl (fun ls hl => ?_)
  refine lv_goto (tgt := 21) hx hb dX6_full_44 (by decide) ?_
  exact hk21 _ _ _ _ _ _ _ _  h hw (lv_sub hl [1, 2, 3, 0] rfl)
set_option maxHeartbeats 4000000 in
set_option maxRecDepth 100000 in
theorem t_X6_full_47 {p : Program} {l : Launch} {e : Env} {s : State} {m : MethodId} {args : Array Value} {below : List Frame} {meth : Method} {c : Code} {Q : State → Prop} {D : va_G} {I : ch_Id} {sh : Nat → Nat} {A : Nat → Prop} {oo : Int32 × ch_Mem}     (S : CallFix p m c cX6_full 5 s args wsX6_full RX6) (fin : ch_FinI p l e rm_X6_full s m args below meth c cX6_full Q D I 40 (ch_FC I sh) sh A oo)  {x3 : Int32}  {M : ch_Mem} {H : Heap} {locs : List Loc} {ls : Array Slot} (h : D_X6_full_b47 x3 M = some oo) (hw : ch_Wd D I 40 (ch_FC I sh) sh s A M H locs) (hl : lv_has ls 5 [(3, .int x3)]) : W p l e rm_X6_full s m args below meth c H locs 0 0 Q (F0 m 47 ls []) := by
  obtain ⟨hx, hb, hml, hown, hts⟩ := id S
  unfold D_X6_full_b47 at h
  refine lv_iload_n hx hb dX6_full_47 rfl (lv_at hl 0 rfl) ?_
  exact fin _ _ _ _ _ _ h hw dX6_full_48
set_option maxHeartbeats 4000000 in
set_option maxRecDepth 100000 in
theorem t_X6_full_21 {p : Program} {l : Launch} {e : Env} {s : State} {m : MethodId} {args : Array Value} {below : List Frame} {meth : Method} {c : Code} {Q : State → Prop} {D : va_G} {I : ch_Id} {sh : Nat → Nat} {A : Nat → Prop} {oo : Int32 × ch_Mem}    {k21 : Int32 → Int32 → Int32 → Int32 → ch_Mem → Option (Int32 × ch_Mem)} (S : CallFix p m c cX6_full 5 s args wsX6_full RX6) (fin : ch_FinI p l e rm_X6_full s m args below meth c cX6_full Q D I 40 (ch_FC I sh) sh A oo) (hk21 : ∀ (x1 : Int32) (x2 : Int32) (x3 : Int32) (x4 : Int32) (M : ch_Mem) (H : Heap) (locs : List Loc) (ls : Array Slot), k21 x1 x2 x3 x4 M = some oo → ch_Wd D I 40 (ch_FC I sh) sh s A M H locs → lv_has ls 5 [(1, .int x1), (2, .int x2), (3, .int x3), (4, .int x4)] → W p l e rm_X6_full s m args below meth c H locs 0 0 Q (F0 m 21 ls [])) {x1 : Int32} {x2 : Int32} {x3 : Int32} {x4 : Int32}  {M : ch_Mem} {H : Heap} {locs : List Loc} {ls : Array Slot} (h : D_X6_full_b21 k21 x1 x2 x3 x4 M = some oo) (hw : ch_Wd D I 40 (ch_FC I sh) sh s A M H locs) (hl : lv_has ls 5 [(1, .int x1), (2, .int x2), (3, .int x3), (4, .int x4)]) : W p l e rm_X6_full s m args below meth c H locs 0 0 Q (F0 m 21 ls []) := by
  obtain ⟨hx, hb, hml, hown, hts⟩ := id S
  unfold D_X6_full_b21 at h
  refine lv_iload hx hb dX6_full_21 (lv_at hl 3 rfl) ?_
  refine lv_iload_n hx hb dX6_full_23 rfl (lv_at hl 1 rfl) ?_
  refine ch_icmp_gt (tgt := 47) hx hb dX6_full_24 (by decide) h (fun h => ?_) (fun h => ?_)
  · exact t_X6_full_47 S fin h hw (lv_sub hl [2] rfl)
  · refine lv_iload_n hx hb dX6_full_27 rfl (lv_at hl 0 rfl) ?_
    refine lv_iload hx hb dX6_full_28 (lv_at hl 3 rfl) ?_
    refine lv_iconst (v := (1 : Int32)) hx hb dX6_full_30 (by decide) ?_
    refine ch_bd_k h (fun r1 M2 hc h => ?_)
    refine ch_ci hw (va_runS (As := [.int x1, .int x4, .int (1 : Int32)]) (rest := []) S (c_X6_stepsToReturn l D I sh H.size M x1 x4 (1 : Int32) hc) (va_cwS 3 hts gX6_full_X6_stepsToReturn rfl rfl rfl (by decide +kernel) ⟨Nat.le_of_ble_eq_true rfl, Nat.le_of_ble_eq_true rfl⟩) (ch_pS hw) rfl rfl hl.1 rfl (lv_room (Nat.le_of_ble_eq_true rfl)) dX6_full_31 ⟨Nat.le_refl 0, Nat.le_refl 0⟩) (fun H locs hw => ?_)
    refine lv_iload_n hx hb dX6_full_34 rfl (lv_at hl 1 rfl) ?_
    refine ch_icmp_ne (tgt := 41) hx hb dX6_full_35 (by decide) h (fun h => ?_) (fun h => ?_)
    · exact t_X6_full_41 S fin hk21 h hw (lv_sub hl [0, 1, 2, 3] rfl)
    · refine lv_iinc (v := x3 + (1 : Int32)) (lv' := [(3, .int (x3 + (1 : Int32))), (1, .int x1), (2, .int x2), (4, .int x4)]) hx hb dX6_full_38 hl (k := 2) rfl rfl (by decide) rfl (fun ls hl => ?_)
      exact t_X6_full_41 S fin hk21 h hw (lv_sub hl [1, 2, 0, 3] rfl)
set_option maxHeartbeats 4000000 in
set_option maxRecDepth 100000 in
theorem tl_X6_full_21 {p : Program} {l : Launch} {e : Env} {s : State} {m : MethodId} {args : Array Value} {below : List Frame} {meth : Method} {c : Code} {Q : State → Prop} {D : va_G} {I : ch_Id} {sh : Nat → Nat} {A : Nat → Prop} {oo : Int32 × ch_Mem}     (S : CallFix p m c cX6_full 5 s args wsX6_full RX6) (fin : ch_FinI p l e rm_X6_full s m args below meth c cX6_full Q D I 40 (ch_FC I sh) sh A oo)  (n : Nat) : ∀ (x1 : Int32) (x2 : Int32) (x3 : Int32) (x4 : Int32) (M : ch_Mem) (H : Heap) (locs : List Loc) (ls : Array Slot), D_X6_full_L21  n x1 x2 x3 x4 M = some oo → ch_Wd D I 40 (ch_FC I sh) sh s A M H locs → lv_has ls 5 [(1, .int x1), (2, .int x2), (3, .int x3), (4, .int x4)] → W p l e rm_X6_full s m args below meth c H locs 0 0 Q (F0 m 21 ls []) := by
  induction n with
  | zero => intro x1 x2 x3 x4 M H locs ls  h; cases h
  | succ n ih =>
    intro x1 x2 x3 x4 M H locs ls  h hw hl
    exact t_X6_full_21 S fin ih h hw hl
set_option maxHeartbeats 4000000 in
set_option maxRecDepth 100000 in
theorem t_X6_full_0 {p : Program} {l : Launch} {e : Env} {s : State} {m : MethodId} {args : Array Value} {below : List Frame} {meth : Method} {c : Code} {Q : State → Prop} {D : va_G} {I : ch_Id} {sh : Nat → Nat} {A : Nat → Prop} {oo : Int32 × ch_Mem}     (S : CallFix p m c cX6_full 5 s args wsX6_full RX6) (fin : ch_FinI p l e rm_X6_full s m args below meth c cX6_full Q D I 40 (ch_FC I sh) sh A oo)  {x1 : Int32}  {M : ch_Mem} {H : Heap} {locs : List Loc} {ls : Array Slot} (h : D_X6_full x1 M = some oo) (hw : ch_Wd D I 40 (ch_FC I sh) sh s A M H locs) (hl : lv_has ls 5 [(0, .ref (sh 0)), (1, .int x1)]) : W p l e rm_X6_full s m args below meth c H locs 0 0 Q (F0 m 0 ls []) := by
  obtain ⟨hx, hb, hml, hown, hts⟩ := id S
  unfold D_X6_full at h
  refine lv_iload_n hx hb dX6_full_0 rfl (lv_at hl 1 rfl) ?_
  refine ch_bd_k h (fun r1 M2 hc h => ?_)
  refine ch_ci hw (va_runS (As := [.int x1]) (rest := []) S (c_X6_isBits l D I sh H.size M x1 hc) (va_cwS 1 hts gX6_full_X6_isBits rfl rfl rfl (by decide +kernel) ⟨Nat.le_of_ble_eq_true rfl, Nat.le_of_ble_eq_true rfl⟩) (ch_pS hw) rfl rfl hl.1 rfl (lv_room (Nat.le_of_ble_eq_true rfl)) dX6_full_1 ⟨Nat.le_refl 0, Nat.le_refl 0⟩) (fun H locs hw => ?_)
  refine ch_if_ne (tgt := 10) hx hb dX6_full_4 (by decide) h (fun h => ?_) (fun h => ?_)
  · refine lv_iconst (v := (1 : Int32)) hx hb dX6_full_10 (by decide) ?_
    refine lv_iload_n hx hb dX6_full_11 rfl (lv_at hl 1 rfl) ?_
    refine lv_ishl hx hb dX6_full_12 ?_
    refine lv_iconst (v := (1 : Int32)) hx hb dX6_full_13 (by decide) ?_
    refine lv_isub hx hb dX6_full_14 ?_
    refine lv_istore_n (lv' := [(2, .int (((1 : Int32) <<< (x1 &&& 31)) - (1 : Int32))), (0, .ref (sh 0)), (1, .int x1)]) hx hb dX6_full_15 rfl hl (by decide) rfl (fun ls hl => ?_)
    refine lv_iconst (v := (0 : Int32)) hx hb dX6_full_16 (by decide) ?_
    refine lv_istore_n (lv' := [(3, .int (0 : Int32)), (2, .int (((1 : Int32) <<< (x1 &&& 31)) - (1 : Int32))), (0, .ref (sh 0)), (1, .int x1)]) hx hb dX6_full_17 rfl hl (by decide) rfl (fun ls hl => ?_)
    refine lv_iconst (v := (1 : Int32)) hx hb dX6_full_18 (by decide) ?_
    refine lv_istore (lv' := [(4, .int (1 : Int32)), (3, .int (0 : Int32)), (2, .int (((1 : Int32) <<< (x1 &&& 31)) - (1 : Int32))), (0, .ref (sh 0)), (1, .int x1)]) hx hb dX6_full_19 hl (by decide) rfl (fun ls hl => ?_)
    exact tl_X6_full_21 S fin ch_fu _ _ _ _ _ _ _ _ h hw (lv_sub hl [4, 2, 1, 0] rfl)
  · refine lv_bipush (v := (-2 : Int32)) hx hb dX6_full_7 (by decide) ?_
    exact fin _ _ _ _ _ _ h hw dX6_full_9
set_option maxHeartbeats 4000000 in
set_option maxRecDepth 100000 in
theorem c_X6_full (l : Launch) (D : va_G) (I : ch_Id) (sh : Nat → Nat) (sz : Nat) (M : ch_Mem)  (x1 : Int32) {r : Int32} {M1 : ch_Mem} (h : D_X6_full x1 M = some (r, M1)) : Met l yX6_full wsX6_full rm_X6_full (va_Pc [.ref (sh 0), .int x1] (ch_Pre D I 40 (ch_FC I sh) sh sz M)) (va_Qi (fun r' (u : ch_Mem) => r' = r ∧ u = M1) (ch_Pos D 40 (ch_FC I sh) sh) (ch_A 40 sh sz)) 0 0 (ch_A 40 sh sz) := by
  refine Met.ofW (cc := cX6_full) (maxL := 5) (ret := (some .int)) (by decide) rfl ?_
  intro p e s m args below meth c s₁ B hml hv0
  obtain ⟨rfl, hv0⟩ := hv0
  obtain rfl : s.heap.size = sz := hv0.1
  have hw := ch_start hv0
  have S : CallFix p m c cX6_full 5 s _ wsX6_full RX6 := ⟨B.exec, B.bytes, hml, findClass_of_methodNamed B.named, atoms_spec (ws := wsX6_full) B.pre⟩
  have hl := lv_entry ([.ref (sh 0), .int x1]) (n := 5) (Nat.le_of_ble_eq_true rfl)
  rw [lg_entry_eq]
  generalize (lg_sl ([.ref (sh 0), .int x1]) ++ List.replicate (5 - (lg_sl ([.ref (sh 0), .int x1])).length) Slot.unset).toArray = ls at hl ⊢
  exact t_X6_full_0 S (ch_finI (B := fun _ => True) B.exec B.bytes B.returns B.notSynchronized) h hw (lv_sub hl [0, 1] rfl)
set_option maxHeartbeats 4000000 in
set_option maxRecDepth 100000 in
theorem t_X6_isForm_0 {p : Program} {l : Launch} {e : Env} {s : State} {m : MethodId} {args : Array Value} {below : List Frame} {meth : Method} {c : Code} {Q : State → Prop} {D : va_G} {I : ch_Id} {sh : Nat → Nat} {A : Nat → Prop} {oo : Int32 × ch_Mem}     (S : CallFix p m c cX6_isForm 1 s args wsX6_isForm RX6) (fin : ch_FinZ p l e rm_X6_isForm s m args below meth c cX6_isForm Q D I 40 (ch_FC I sh) sh A oo)  {x0 : Int32}  {M : ch_Mem} {H : Heap} {locs : List Loc} {ls : Array Slot} (h : D_X6_isForm x0 M = some oo) (hw : ch_Wd D I 40 (ch_FC I sh) sh s A M H locs) (hl : lv_has ls 1 [(0, .int x0)]) : W p l e rm_X6_isForm s m args below meth c H locs 0 0 Q (F0 m 0 ls []) := by
  obtain ⟨hx, hb, hml, hown, hts⟩ := id S
  unfold D_X6_isForm at h
  refine lv_iload_n hx hb dX6_isForm_0 rfl (lv_at hl 0 rfl) ?_
  refine ch_if_lt (tgt := 13) hx hb dX6_isForm_1 (by decide) h (fun h => ?_) (fun h => ?_)
  · refine lv_iconst (v := (0 : Int32)) hx hb dX6_isForm_13 (by decide) ?_
    exact fin _ _ _ _ _ _ rfl h hw dX6_isForm_14
  · refine lv_iload_n hx hb dX6_isForm_4 rfl (lv_at hl 0 rfl) ?_
    refine lv_iconst (v := (3 : Int32)) hx hb dX6_isForm_5 (by decide) ?_
    refine ch_icmp_ge (tgt := 13) hx hb dX6_isForm_6 (by decide) h (fun h => ?_) (fun h => ?_)
    · refine lv_iconst (v := (0 : Int32)) hx hb dX6_isForm_13 (by decide) ?_
      exact fin _ _ _ _ _ _ rfl h hw dX6_isForm_14
    · refine lv_iconst (v := (1 : Int32)) hx hb dX6_isForm_9 (by decide) ?_
      refine lv_goto (tgt := 14) hx hb dX6_isForm_10 (by decide) ?_
      exact fin _ _ _ _ _ _ rfl h hw dX6_isForm_14
set_option maxHeartbeats 4000000 in
set_option maxRecDepth 100000 in
theorem c_X6_isForm (l : Launch) (D : va_G) (I : ch_Id) (sh : Nat → Nat) (sz : Nat) (M : ch_Mem)  (x0 : Int32) {r : Int32} {M1 : ch_Mem} (h : D_X6_isForm x0 M = some (r, M1)) : Met l yX6_isForm wsX6_isForm rm_X6_isForm (va_Pc [.int x0] (ch_Pre D I 40 (ch_FC I sh) sh sz M)) (va_Qi (fun r' (u : ch_Mem) => r' = r ∧ u = M1) (ch_Pos D 40 (ch_FC I sh) sh) (ch_A 40 sh sz)) 0 0 (ch_A 40 sh sz) := by
  refine Met.ofW (cc := cX6_isForm) (maxL := 1) (ret := (some .boolean)) (by decide) rfl ?_
  intro p e s m args below meth c s₁ B hml hv0
  obtain ⟨rfl, hv0⟩ := hv0
  obtain rfl : s.heap.size = sz := hv0.1
  have hw := ch_start hv0
  have S : CallFix p m c cX6_isForm 1 s _ wsX6_isForm RX6 := ⟨B.exec, B.bytes, hml, findClass_of_methodNamed B.named, atoms_spec (ws := wsX6_isForm) B.pre⟩
  have hl := lv_entry ([.int x0]) (n := 1) (Nat.le_of_ble_eq_true rfl)
  rw [lg_entry_eq]
  generalize (lg_sl ([.int x0]) ++ List.replicate (1 - (lg_sl ([.int x0])).length) Slot.unset).toArray = ls at hl ⊢
  exact t_X6_isForm_0 S (ch_finZ B.exec B.bytes B.returns B.notSynchronized) h hw (lv_sub hl [0] rfl)
set_option maxHeartbeats 4000000 in
set_option maxRecDepth 100000 in
theorem t_X6_get_0 {p : Program} {l : Launch} {e : Env} {s : State} {m : MethodId} {args : Array Value} {below : List Frame} {meth : Method} {c : Code} {Q : State → Prop} {D : va_G} {I : ch_Id} {sh : Nat → Nat} {A : Nat → Prop} {oo : Int32 × ch_Mem}     (S : CallFix p m c cX6_get 5 s args wsX6_get RX6) (fin : ch_FinI p l e rm_X6_get s m args below meth c cX6_get Q D I 40 (ch_FC I sh) sh A oo)  {x1 : Int32} {x2 : Int32} {x3 : Int32}  {M : ch_Mem} {H : Heap} {locs : List Loc} {ls : Array Slot} (h : D_X6_get x1 x2 x3 M = some oo) (hw : ch_Wd D I 40 (ch_FC I sh) sh s A M H locs) (hl : lv_has ls 5 [(0, .ref (sh 0)), (1, .int x1), (2, .int x2), (3, .int x3)]) : W p l e rm_X6_get s m args below meth c H locs 0 0 Q (F0 m 0 ls []) := by
  obtain ⟨hx, hb, hml, hown, hts⟩ := id S
  unfold D_X6_get at h
  refine lv_iload_n hx hb dX6_get_0 rfl (lv_at hl 1 rfl) ?_
  refine ch_bd_k h (fun r1 M2 hc h => ?_)
  refine ch_ci hw (va_runS (As := [.int x1]) (rest := []) S (c_X6_isReel l D I sh H.size M x1 hc) (va_cwS 1 hts gX6_get_X6_isReel rfl rfl rfl (by decide +kernel) ⟨Nat.le_of_ble_eq_true rfl, Nat.le_of_ble_eq_true rfl⟩) (ch_pS hw) rfl rfl hl.1 rfl (lv_room (Nat.le_of_ble_eq_true rfl)) dX6_get_1 ⟨Nat.le_refl 0, Nat.le_refl 0⟩) (fun H locs hw => ?_)
  refine ch_if_eq (tgt := 14) hx hb dX6_get_4 (by decide) h (fun h => ?_) (fun h => ?_)
  · refine lv_ldc (v := (-2147483648 : Int32)) hx hb hown (hts (.constant RX6 141 (-2147483648)) (by decide +kernel)) dX6_get_14 ?_
    exact fin _ _ _ _ _ _ h hw dX6_get_16
  · refine lv_iload_n hx hb dX6_get_7 rfl (lv_at hl 2 rfl) ?_
    refine ch_bd_k h (fun r3 M4 hc h => ?_)
    refine ch_ci hw (va_runS (As := [.int x2]) (rest := []) S (c_X6_isForm l D I sh H.size M2 x2 hc) (va_cwS 1 hts gX6_get_X6_isForm rfl rfl rfl (by decide +kernel) ⟨Nat.le_of_ble_eq_true rfl, Nat.le_of_ble_eq_true rfl⟩) (ch_pS hw) rfl rfl hl.1 rfl (lv_room (Nat.le_of_ble_eq_true rfl)) dX6_get_8 ⟨Nat.le_refl 0, Nat.le_refl 0⟩) (fun H locs hw => ?_)
    refine ch_if_ne (tgt := 17) hx hb dX6_get_11 (by decide) h (fun h => ?_) (fun h => ?_)
    · refine lv_aload_n hx hb dX6_get_17 rfl (lv_at hl 0 rfl) ?_
      refine ch_get S hw 0 (by decide) rfl rfl (by decide +kernel) 1 (by decide) (hts (.fieldLink RX6 17 "CodeHunt" "reels" "[LCodeHunt$Reel;") (by decide +kernel)) rfl dX6_get_18 ?_
      refine lv_iload_n hx hb dX6_get_21 rfl (lv_at hl 1 rfl) ?_
      refine ch_gd_k h (fun hin h => ?_)
      have hlt5 := ch_in_lt hin
      refine ch_reels S hw hin dX6_get_22 ?_
      refine lv_iload_n hx hb dX6_get_23 rfl (lv_at hl 2 rfl) ?_
      refine lv_iload_n hx hb dX6_get_24 rfl (lv_at hl 3 rfl) ?_
      refine ch_bd_k h (fun r6 M7 hc h => ?_)
      refine ch_ci hw (va_runV (As := [.int x2, .int x3]) (rest := []) S (c_X2_troubleAt l D I sh H.size M4 (23 + x1.toNatClampNeg) (by omega) x2 x3 hc) (cwV 2 hts gX6_get_X2_troubleAt rfl rfl rfl (by decide +kernel) ⟨Nat.le_of_ble_eq_true rfl, Nat.le_of_ble_eq_true rfl⟩) (ch_pV hw (by omega) (ch_FC_reel (by omega)) rfl rfl) rfl rfl hl.1 rfl (lv_room (Nat.le_of_ble_eq_true rfl)) dX6_get_25 ⟨Nat.le_refl 0, Nat.le_refl 0⟩) (fun H locs hw => ?_)
      refine lv_istore (lv' := [(4, .int r6), (0, .ref (sh 0)), (1, .int x1), (2, .int x2), (3, .int x3)]) hx hb dX6_get_28 hl (by decide) rfl (fun ls hl => ?_)
      refine lv_iload hx hb dX6_get_30 (lv_at hl 0 rfl) ?_
      refine ch_if_eq (tgt := 45) hx hb dX6_get_32 (by decide) h (fun h => ?_) (fun h => ?_)
      · refine lv_aload_n hx hb dX6_get_45 rfl (lv_at hl 1 rfl) ?_
        refine ch_get S hw 0 (by decide) rfl rfl (by decide +kernel) 1 (by decide) (hts (.fieldLink RX6 17 "CodeHunt" "reels" "[LCodeHunt$Reel;") (by decide +kernel)) rfl dX6_get_46 ?_
        refine lv_iload_n hx hb dX6_get_49 rfl (lv_at hl 2 rfl) ?_
        refine ch_gd_k h (fun hin h => ?_)
        have hlt8 := ch_in_lt hin
        refine ch_reels S hw hin dX6_get_50 ?_
        refine lv_iload_n hx hb dX6_get_51 rfl (lv_at hl 4 rfl) ?_
        refine ch_bd_k h (fun r9 M10 hc h => ?_)
        refine ch_ci hw (va_runV (As := [.int x3]) (rest := []) S (c_X2_itemOrZero l D I sh H.size M7 (23 + x1.toNatClampNeg) (by omega) x3 hc) (cwV 1 hts gX6_get_X2_itemOrZero rfl rfl rfl (by decide +kernel) ⟨Nat.le_of_ble_eq_true rfl, Nat.le_of_ble_eq_true rfl⟩) (ch_pV hw (by omega) (ch_FC_reel (by omega)) rfl rfl) rfl rfl hl.1 rfl (lv_room (Nat.le_of_ble_eq_true rfl)) dX6_get_52 ⟨Nat.le_refl 0, Nat.le_refl 0⟩) (fun H locs hw => ?_)
        exact fin _ _ _ _ _ _ h hw dX6_get_55
      · refine lv_aload_n hx hb dX6_get_35 rfl (lv_at hl 1 rfl) ?_
        refine lv_iload hx hb dX6_get_36 (lv_at hl 0 rfl) ?_
        refine ch_bd_k h (fun r11 M12 hc h => ?_)
        refine ch_ci hw (va_runV (As := [.int r6]) (rest := []) S (c_X6_found l D I sh H.size M7 r6 hc) (cwV 1 hts gX6_get_X6_found rfl rfl rfl (by decide +kernel) ⟨Nat.le_of_ble_eq_true rfl, Nat.le_of_ble_eq_true rfl⟩) (ch_pV hw (by decide) rfl rfl rfl) rfl rfl hl.1 rfl (lv_room (Nat.le_of_ble_eq_true rfl)) dX6_get_38 ⟨Nat.le_refl 0, Nat.le_refl 0⟩) (fun H locs hw => ?_)
        refine lv_pop hx hb dX6_get_41 rfl ?_
        refine lv_ldc (v := (-2147483648 : Int32)) hx hb hown (hts (.constant RX6 141 (-2147483648)) (by decide +kernel)) dX6_get_42 ?_
        exact fin _ _ _ _ _ _ h hw dX6_get_44
    · refine lv_ldc (v := (-2147483648 : Int32)) hx hb hown (hts (.constant RX6 141 (-2147483648)) (by decide +kernel)) dX6_get_14 ?_
      exact fin _ _ _ _ _ _ h hw dX6_get_16
set_option maxHeartbeats 4000000 in
set_option maxRecDepth 100000 in
theorem c_X6_get (l : Launch) (D : va_G) (I : ch_Id) (sh : Nat → Nat) (sz : Nat) (M : ch_Mem)  (x1 : Int32) (x2 : Int32) (x3 : Int32) {r : Int32} {M1 : ch_Mem} (h : D_X6_get x1 x2 x3 M = some (r, M1)) : Met l yX6_get wsX6_get rm_X6_get (va_Pc [.ref (sh 0), .int x1, .int x2, .int x3] (ch_Pre D I 40 (ch_FC I sh) sh sz M)) (va_Qi (fun r' (u : ch_Mem) => r' = r ∧ u = M1) (ch_Pos D 40 (ch_FC I sh) sh) (ch_A 40 sh sz)) 0 0 (ch_A 40 sh sz) := by
  refine Met.ofW (cc := cX6_get) (maxL := 5) (ret := (some .int)) (by decide) rfl ?_
  intro p e s m args below meth c s₁ B hml hv0
  obtain ⟨rfl, hv0⟩ := hv0
  obtain rfl : s.heap.size = sz := hv0.1
  have hw := ch_start hv0
  have S : CallFix p m c cX6_get 5 s _ wsX6_get RX6 := ⟨B.exec, B.bytes, hml, findClass_of_methodNamed B.named, atoms_spec (ws := wsX6_get) B.pre⟩
  have hl := lv_entry ([.ref (sh 0), .int x1, .int x2, .int x3]) (n := 5) (Nat.le_of_ble_eq_true rfl)
  rw [lg_entry_eq]
  generalize (lg_sl ([.ref (sh 0), .int x1, .int x2, .int x3]) ++ List.replicate (5 - (lg_sl ([.ref (sh 0), .int x1, .int x2, .int x3])).length) Slot.unset).toArray = ls at hl ⊢
  exact t_X6_get_0 S (ch_finI (B := fun _ => True) B.exec B.bytes B.returns B.notSynchronized) h hw (lv_sub hl [0, 1, 2, 3] rfl)
set_option maxHeartbeats 4000000 in
set_option maxRecDepth 100000 in
theorem t_X6_heard_109 {p : Program} {l : Launch} {e : Env} {s : State} {m : MethodId} {args : Array Value} {below : List Frame} {meth : Method} {c : Code} {Q : State → Prop} {D : va_G} {I : ch_Id} {sh : Nat → Nat} {A : Nat → Prop} {oo : Int32 × ch_Mem}     (S : CallFix p m c cX6_heard 6 s args wsX6_heard RX6) (fin : ch_FinI p l e rm_X6_heard s m args below meth c cX6_heard Q D I 40 (ch_FC I sh) sh A oo)  {x3 : Int32} {w0 : Nat} {w1 : Nat} (hw0 : ch_arr w0) (hw1 : (7 ≤ w1 ∧ w1 < 15)) {M : ch_Mem} {H : Heap} {locs : List Loc} {ls : Array Slot} (h : D_X6_heard_b109 x3 w0 w1 M = some oo) (hw : ch_Wd D I 40 (ch_FC I sh) sh s A M H locs) (hl : lv_has ls 6 [(3, .int x3)]) : W p l e rm_X6_heard s m args below meth c H locs 0 0 Q (F0 m 109 ls [.ref (sh w0), .ref (sh w1)]) := by
  obtain ⟨hx, hb, hml, hown, hts⟩ := id S
  unfold D_X6_heard_b109 at h
  refine lv_iload_n hx hb dX6_heard_109 rfl (lv_at hl 0 rfl) ?_
  refine ch_bd_k h (fun r1 M2 hc h => ?_)
  refine ch_ci hw (va_runV (As := [.ref (sh w0), .int x3]) (rest := []) S (c_X3_sumOver l D I sh H.size M w1 (by omega) w0 hw0 x3 hc) (cwV 2 hts gX6_heard_X3_sumOver rfl rfl rfl (by decide +kernel) ⟨Nat.le_of_ble_eq_true rfl, Nat.le_of_ble_eq_true rfl⟩) (ch_pV hw (by omega) (ch_FC_row (by omega)) rfl rfl) rfl rfl hl.1 rfl (lv_room (Nat.le_of_ble_eq_true rfl)) dX6_heard_110 ⟨Nat.le_refl 0, Nat.le_refl 0⟩) (fun H locs hw => ?_)
  exact fin _ _ _ _ _ _ h hw dX6_heard_113
set_option maxHeartbeats 4000000 in
set_option maxRecDepth 100000 in
theorem t_X6_heard_0 {p : Program} {l : Launch} {e : Env} {s : State} {m : MethodId} {args : Array Value} {below : List Frame} {meth : Method} {c : Code} {Q : State → Prop} {D : va_G} {I : ch_Id} {sh : Nat → Nat} {A : Nat → Prop} {oo : Int32 × ch_Mem}     (S : CallFix p m c cX6_heard 6 s args wsX6_heard RX6) (fin : ch_FinI p l e rm_X6_heard s m args below meth c cX6_heard Q D I 40 (ch_FC I sh) sh A oo)  {x1 : Int32} {x2 : Int32} {x3 : Int32} {x4 : Int32} {x5 : Int32}  {M : ch_Mem} {H : Heap} {locs : List Loc} {ls : Array Slot} (h : D_X6_heard x1 x2 x3 x4 x5 M = some oo) (hw : ch_Wd D I 40 (ch_FC I sh) sh s A M H locs) (hl : lv_has ls 6 [(0, .ref (sh 0)), (1, .int x1), (2, .int x2), (3, .int x3), (4, .int x4), (5, .int x5)]) : W p l e rm_X6_heard s m args below meth c H locs 0 0 Q (F0 m 0 ls []) := by
  obtain ⟨hx, hb, hml, hown, hts⟩ := id S
  unfold D_X6_heard at h
  refine lv_iload_n hx hb dX6_heard_0 rfl (lv_at hl 1 rfl) ?_
  refine ch_bd_k h (fun r1 M2 hc h => ?_)
  refine ch_ci hw (va_runS (As := [.int x1]) (rest := []) S (c_X6_isRow l D I sh H.size M x1 hc) (va_cwS 1 hts gX6_heard_X6_isRow rfl rfl rfl (by decide +kernel) ⟨Nat.le_of_ble_eq_true rfl, Nat.le_of_ble_eq_true rfl⟩) (ch_pS hw) rfl rfl hl.1 rfl (lv_room (Nat.le_of_ble_eq_true rfl)) dX6_heard_1 ⟨Nat.le_refl 0, Nat.le_refl 0⟩) (fun H locs hw => ?_)
  refine ch_if_eq (tgt := 55) hx hb dX6_heard_4 (by decide) h (fun h => ?_) (fun h => ?_)
  · refine lv_ldc (v := (-2147483648 : Int32)) hx hb hown (hts (.constant RX6 141 (-2147483648)) (by decide +kernel)) dX6_heard_55 ?_
    exact fin _ _ _ _ _ _ h hw dX6_heard_57
  · refine lv_iload_n hx hb dX6_heard_7 rfl (lv_at hl 2 rfl) ?_
    refine ch_bd_k h (fun r3 M4 hc h => ?_)
    refine ch_ci hw (va_runS (As := [.int x2]) (rest := []) S (c_X6_isPlace l D I sh H.size M2 x2 hc) (va_cwS 1 hts gX6_heard_X6_isPlace rfl rfl rfl (by decide +kernel) ⟨Nat.le_of_ble_eq_true rfl, Nat.le_of_ble_eq_true rfl⟩) (ch_pS hw) rfl rfl hl.1 rfl (lv_room (Nat.le_of_ble_eq_true rfl)) dX6_heard_8 ⟨Nat.le_refl 0, Nat.le_refl 0⟩) (fun H locs hw => ?_)
    refine ch_if_eq (tgt := 55) hx hb dX6_heard_11 (by decide) h (fun h => ?_) (fun h => ?_)
    · refine lv_ldc (v := (-2147483648 : Int32)) hx hb hown (hts (.constant RX6 141 (-2147483648)) (by decide +kernel)) dX6_heard_55 ?_
      exact fin _ _ _ _ _ _ h hw dX6_heard_57
    · refine lv_iload_n hx hb dX6_heard_14 rfl (lv_at hl 3 rfl) ?_
      refine ch_bd_k h (fun r5 M6 hc h => ?_)
      refine ch_ci hw (va_runS (As := [.int x3]) (rest := []) S (c_X6_isShift l D I sh H.size M4 x3 hc) (va_cwS 1 hts gX6_heard_X6_isShift rfl rfl rfl (by decide +kernel) ⟨Nat.le_of_ble_eq_true rfl, Nat.le_of_ble_eq_true rfl⟩) (ch_pS hw) rfl rfl hl.1 rfl (lv_room (Nat.le_of_ble_eq_true rfl)) dX6_heard_15 ⟨Nat.le_refl 0, Nat.le_refl 0⟩) (fun H locs hw => ?_)
      refine ch_if_eq (tgt := 55) hx hb dX6_heard_18 (by decide) h (fun h => ?_) (fun h => ?_)
      · refine lv_ldc (v := (-2147483648 : Int32)) hx hb hown (hts (.constant RX6 141 (-2147483648)) (by decide +kernel)) dX6_heard_55 ?_
        exact fin _ _ _ _ _ _ h hw dX6_heard_57
      · refine lv_iload hx hb dX6_heard_21 (lv_at hl 4 rfl) ?_
        refine ch_if_lt (tgt := 55) hx hb dX6_heard_23 (by decide) h (fun h => ?_) (fun h => ?_)
        · refine lv_ldc (v := (-2147483648 : Int32)) hx hb hown (hts (.constant RX6 141 (-2147483648)) (by decide +kernel)) dX6_heard_55 ?_
          exact fin _ _ _ _ _ _ h hw dX6_heard_57
        · refine lv_iload hx hb dX6_heard_26 (lv_at hl 4 rfl) ?_
          refine lv_iconst (v := (4 : Int32)) hx hb dX6_heard_28 (by decide) ?_
          refine ch_icmp_ge (tgt := 55) hx hb dX6_heard_29 (by decide) h (fun h => ?_) (fun h => ?_)
          · refine lv_ldc (v := (-2147483648 : Int32)) hx hb hown (hts (.constant RX6 141 (-2147483648)) (by decide +kernel)) dX6_heard_55 ?_
            exact fin _ _ _ _ _ _ h hw dX6_heard_57
          · refine lv_iload hx hb dX6_heard_32 (lv_at hl 5 rfl) ?_
            refine ch_if_lt (tgt := 55) hx hb dX6_heard_34 (by decide) h (fun h => ?_) (fun h => ?_)
            · refine lv_ldc (v := (-2147483648 : Int32)) hx hb hown (hts (.constant RX6 141 (-2147483648)) (by decide +kernel)) dX6_heard_55 ?_
              exact fin _ _ _ _ _ _ h hw dX6_heard_57
            · refine lv_iload hx hb dX6_heard_37 (lv_at hl 5 rfl) ?_
              refine lv_iconst (v := (1 : Int32)) hx hb dX6_heard_39 (by decide) ?_
              refine ch_icmp_gt (tgt := 55) hx hb dX6_heard_40 (by decide) h (fun h => ?_) (fun h => ?_)
              · refine lv_ldc (v := (-2147483648 : Int32)) hx hb hown (hts (.constant RX6 141 (-2147483648)) (by decide +kernel)) dX6_heard_55 ?_
                exact fin _ _ _ _ _ _ h hw dX6_heard_57
              · refine lv_aload_n hx hb dX6_heard_43 rfl (lv_at hl 0 rfl) ?_
                refine ch_get S hw 0 (by decide) rfl rfl (by decide +kernel) 0 (by decide) (hts (.fieldLink RX6 11 "CodeHunt" "rows" "[LCodeHunt$Row;") (by decide +kernel)) rfl dX6_heard_44 ?_
                refine lv_iload_n hx hb dX6_heard_47 rfl (lv_at hl 1 rfl) ?_
                refine ch_gd_k h (fun hin h => ?_)
                have hlt7 := ch_in_lt hin
                refine ch_rows S hw hin dX6_heard_48 ?_
                refine ch_bd_k h (fun r8 M9 hc h => ?_)
                refine ch_ci hw (va_runV (As := []) (rest := []) S (c_X3_isNone l D I sh H.size M6 (7 + x1.toNatClampNeg) (by omega) hc) (cwV 0 hts gX6_heard_X3_isNone rfl rfl rfl (by decide +kernel) ⟨Nat.le_of_ble_eq_true rfl, Nat.le_of_ble_eq_true rfl⟩) (ch_pV hw (by omega) (ch_FC_row (by omega)) rfl rfl) rfl rfl hl.1 rfl (lv_room (Nat.le_of_ble_eq_true rfl)) dX6_heard_49 ⟨Nat.le_refl 0, Nat.le_refl 0⟩) (fun H locs hw => ?_)
                refine ch_if_eq (tgt := 58) hx hb dX6_heard_52 (by decide) h (fun h => ?_) (fun h => ?_)
                · refine lv_aload_n hx hb dX6_heard_58 rfl (lv_at hl 0 rfl) ?_
                  refine lv_iload_n hx hb dX6_heard_59 rfl (lv_at hl 2 rfl) ?_
                  refine lv_aload_n hx hb dX6_heard_60 rfl (lv_at hl 0 rfl) ?_
                  refine ch_get S hw 0 (by decide) rfl rfl (by decide +kernel) 0 (by decide) (hts (.fieldLink RX6 11 "CodeHunt" "rows" "[LCodeHunt$Row;") (by decide +kernel)) rfl dX6_heard_61 ?_
                  refine lv_iload_n hx hb dX6_heard_64 rfl (lv_at hl 1 rfl) ?_
                  refine ch_gd_k h (fun hin h => ?_)
                  have hlt10 := ch_in_lt hin
                  refine ch_rows S hw hin dX6_heard_65 ?_
                  refine ch_getN S hw (7 + x1.toNatClampNeg) (by omega) (ch_FC_row (by omega)) rfl (by decide +kernel) 1 (by decide) (ch_nw hw 16 rfl) rfl dX6_heard_66 ?_
                  refine ch_bd_k h (fun r11 M12 hc h => ?_)
                  cases r11
                  refine ch_cv hw (va_runV (As := [.int x2, .int (M9.1 (7 + x1.toNatClampNeg) 1)]) (rest := []) S (c_X6_listen l D I sh H.size M9 x2 (M9.1 (7 + x1.toNatClampNeg) 1) hc) (cwV 2 hts gX6_heard_X6_listen rfl rfl rfl (by decide +kernel) ⟨Nat.le_of_ble_eq_true rfl, Nat.le_of_ble_eq_true rfl⟩) (ch_pV hw (by decide) rfl rfl rfl) rfl rfl hl.1 rfl (lv_room (Nat.le_of_ble_eq_true rfl)) dX6_heard_69 ⟨Nat.le_refl 0, Nat.le_refl 0⟩) (fun H locs hw => ?_)
                  refine lv_aload_n hx hb dX6_heard_72 rfl (lv_at hl 0 rfl) ?_
                  refine ch_get S hw 0 (by decide) rfl rfl (by decide +kernel) 2 (by decide) (hts (.fieldLink RX6 24 "CodeHunt" "window" "LCodeHunt$Window;") (by decide +kernel)) rfl dX6_heard_73 ?_
                  refine lv_iload hx hb dX6_heard_76 (lv_at hl 4 rfl) ?_
                  refine ch_bd_k h (fun r13 M14 hc h => ?_)
                  cases r13
                  refine ch_cv hw (va_runV (As := [.int x4]) (rest := []) S (c_X5_turnBack l D I sh H.size M12 x4 hc) (cwV 1 hts gX6_heard_X5_turnBack rfl rfl rfl (by decide +kernel) ⟨Nat.le_of_ble_eq_true rfl, Nat.le_of_ble_eq_true rfl⟩) (ch_pV hw (by decide) rfl rfl rfl) rfl rfl hl.1 rfl (lv_room (Nat.le_of_ble_eq_true rfl)) dX6_heard_78 ⟨Nat.le_refl 0, Nat.le_refl 0⟩) (fun H locs hw => ?_)
                  refine lv_aload_n hx hb dX6_heard_81 rfl (lv_at hl 0 rfl) ?_
                  refine ch_get S hw 0 (by decide) rfl rfl (by decide +kernel) 0 (by decide) (hts (.fieldLink RX6 11 "CodeHunt" "rows" "[LCodeHunt$Row;") (by decide +kernel)) rfl dX6_heard_82 ?_
                  refine lv_iload_n hx hb dX6_heard_85 rfl (lv_at hl 1 rfl) ?_
                  refine ch_gd_k h (fun hin h => ?_)
                  have hlt15 := ch_in_lt hin
                  refine ch_rows S hw hin dX6_heard_86 ?_
                  refine lv_iload hx hb dX6_heard_87 (lv_at hl 5 rfl) ?_
                  refine ch_if_ne (tgt := 102) hx hb dX6_heard_89 (by decide) h (fun h => ?_) (fun h => ?_)
                  · refine lv_aload_n hx hb dX6_heard_102 rfl (lv_at hl 0 rfl) ?_
                    refine ch_get S hw 0 (by decide) rfl rfl (by decide +kernel) 2 (by decide) (hts (.fieldLink RX6 24 "CodeHunt" "window" "LCodeHunt$Window;") (by decide +kernel)) rfl dX6_heard_103 ?_
                    refine ch_getN S hw 3 (by decide) rfl rfl (by decide +kernel) 3 (by decide) (ch_nw hw 3 rfl) rfl dX6_heard_106 ?_
                    exact t_X6_heard_109 S fin (by unfold ch_arr; omega) (by omega) h hw (lv_sub hl [3] rfl)
                  · refine lv_aload_n hx hb dX6_heard_92 rfl (lv_at hl 0 rfl) ?_
                    refine ch_get S hw 0 (by decide) rfl rfl (by decide +kernel) 2 (by decide) (hts (.fieldLink RX6 24 "CodeHunt" "window" "LCodeHunt$Window;") (by decide +kernel)) rfl dX6_heard_93 ?_
                    refine ch_getN S hw 3 (by decide) rfl rfl (by decide +kernel) 2 (by decide) (ch_nw hw 2 rfl) rfl dX6_heard_96 ?_
                    refine lv_goto (tgt := 109) hx hb dX6_heard_99 (by decide) ?_
                    exact t_X6_heard_109 S fin (by unfold ch_arr; omega) (by omega) h hw (lv_sub hl [3] rfl)
                · refine lv_ldc (v := (-2147483648 : Int32)) hx hb hown (hts (.constant RX6 141 (-2147483648)) (by decide +kernel)) dX6_heard_55 ?_
                  exact fin _ _ _ _ _ _ h hw dX6_heard_57
set_option maxHeartbeats 4000000 in
set_option maxRecDepth 100000 in
theorem c_X6_heard (l : Launch) (D : va_G) (I : ch_Id) (sh : Nat → Nat) (sz : Nat) (M : ch_Mem)  (x1 : Int32) (x2 : Int32) (x3 : Int32) (x4 : Int32) (x5 : Int32) {r : Int32} {M1 : ch_Mem} (h : D_X6_heard x1 x2 x3 x4 x5 M = some (r, M1)) : Met l yX6_heard wsX6_heard rm_X6_heard (va_Pc [.ref (sh 0), .int x1, .int x2, .int x3, .int x4, .int x5] (ch_Pre D I 40 (ch_FC I sh) sh sz M)) (va_Qi (fun r' (u : ch_Mem) => r' = r ∧ u = M1) (ch_Pos D 40 (ch_FC I sh) sh) (ch_A 40 sh sz)) 0 0 (ch_A 40 sh sz) := by
  refine Met.ofW (cc := cX6_heard) (maxL := 6) (ret := (some .int)) (by decide) rfl ?_
  intro p e s m args below meth c s₁ B hml hv0
  obtain ⟨rfl, hv0⟩ := hv0
  obtain rfl : s.heap.size = sz := hv0.1
  have hw := ch_start hv0
  have S : CallFix p m c cX6_heard 6 s _ wsX6_heard RX6 := ⟨B.exec, B.bytes, hml, findClass_of_methodNamed B.named, atoms_spec (ws := wsX6_heard) B.pre⟩
  have hl := lv_entry ([.ref (sh 0), .int x1, .int x2, .int x3, .int x4, .int x5]) (n := 6) (Nat.le_of_ble_eq_true rfl)
  rw [lg_entry_eq]
  generalize (lg_sl ([.ref (sh 0), .int x1, .int x2, .int x3, .int x4, .int x5]) ++ List.replicate (6 - (lg_sl ([.ref (sh 0), .int x1, .int x2, .int x3, .int x4, .int x5])).length) Slot.unset).toArray = ls at hl ⊢
  exact t_X6_heard_0 S (ch_finI (B := fun _ => True) B.exec B.bytes B.returns B.notSynchronized) h hw (lv_sub hl [0, 1, 2, 3, 4, 5] rfl)
set_option maxHeartbeats 4000000 in
set_option maxRecDepth 100000 in
theorem t_X6_meetings_35 {p : Program} {l : Launch} {e : Env} {s : State} {m : MethodId} {args : Array Value} {below : List Frame} {meth : Method} {c : Code} {Q : State → Prop} {D : va_G} {I : ch_Id} {sh : Nat → Nat} {A : Nat → Prop} {oo : Int32 × ch_Mem}    {k6 : Int32 → Int32 → Int32 → Int32 → Int32 → Int32 → Int32 → ch_Mem → Option (Int32 × ch_Mem)} (S : CallFix p m c cX6_meetings 7 s args wsX6_meetings RX6) (fin : ch_FinI p l e rm_X6_meetings s m args below meth c cX6_meetings Q D I 40 (ch_FC I sh) sh A oo) (hk6 : ∀ (x0 : Int32) (x1 : Int32) (x2 : Int32) (x3 : Int32) (x4 : Int32) (x5 : Int32) (x6 : Int32) (M : ch_Mem) (H : Heap) (locs : List Loc) (ls : Array Slot), k6 x0 x1 x2 x3 x4 x5 x6 M = some oo → ch_Wd D I 40 (ch_FC I sh) sh s A M H locs → lv_has ls 7 [(0, .int x0), (1, .int x1), (2, .int x2), (3, .int x3), (4, .int x4), (5, .int x5), (6, .int x6)] → W p l e rm_X6_meetings s m args below meth c H locs 0 0 Q (F0 m 6 ls [])) {x0 : Int32} {x1 : Int32} {x2 : Int32} {x3 : Int32} {x4 : Int32} {x5 : Int32} {x6 : Int32}  {M : ch_Mem} {H : Heap} {locs : List Loc} {ls : Array Slot} (h : D_X6_meetings_b35 k6 x0 x1 x2 x3 x4 x5 x6 M = some oo) (hw : ch_Wd D I 40 (ch_FC I sh) sh s A M H locs) (hl : lv_has ls 7 [(0, .int x0), (1, .int x1), (2, .int x2), (3, .int x3), (4, .int x4), (5, .int x5), (6, .int x6)]) : W p l e rm_X6_meetings s m args below meth c H locs 0 0 Q (F0 m 35 ls []) := by
  obtain ⟨hx, hb, hml, hown, hts⟩ := id S
  unfold D_X6_meetings_b35 at h
  refine lv_iinc (v := x6 + (1 : Int32)) (lv' := [(6, .int (x6 + (1 : Int32))), (0, .int x0), (1, .int x1), (2, .int x2), (3, .int x3), (4, .int x4), (5, .int x5)]) hx hb dX6_meetings_35 hl (k := 6) rfl rfl (by decide) rfl (fun ls hl => ?_)
  refine lv_goto (tgt := 6) hx hb dX6_meetings_38 (by decide) ?_
  exact hk6 _ _ _ _ _ _ _ _ _ _ _  h hw (lv_sub hl [1, 2, 3, 4, 5, 6, 0] rfl)
set_option maxHeartbeats 4000000 in
set_option maxRecDepth 100000 in
theorem t_X6_meetings_41 {p : Program} {l : Launch} {e : Env} {s : State} {m : MethodId} {args : Array Value} {below : List Frame} {meth : Method} {c : Code} {Q : State → Prop} {D : va_G} {I : ch_Id} {sh : Nat → Nat} {A : Nat → Prop} {oo : Int32 × ch_Mem}     (S : CallFix p m c cX6_meetings 7 s args wsX6_meetings RX6) (fin : ch_FinI p l e rm_X6_meetings s m args below meth c cX6_meetings Q D I 40 (ch_FC I sh) sh A oo)  {x5 : Int32}  {M : ch_Mem} {H : Heap} {locs : List Loc} {ls : Array Slot} (h : D_X6_meetings_b41 x5 M = some oo) (hw : ch_Wd D I 40 (ch_FC I sh) sh s A M H locs) (hl : lv_has ls 7 [(5, .int x5)]) : W p l e rm_X6_meetings s m args below meth c H locs 0 0 Q (F0 m 41 ls []) := by
  obtain ⟨hx, hb, hml, hown, hts⟩ := id S
  unfold D_X6_meetings_b41 at h
  refine lv_iload hx hb dX6_meetings_41 (lv_at hl 0 rfl) ?_
  exact fin _ _ _ _ _ _ h hw dX6_meetings_43
set_option maxHeartbeats 4000000 in
set_option maxRecDepth 100000 in
theorem t_X6_meetings_6 {p : Program} {l : Launch} {e : Env} {s : State} {m : MethodId} {args : Array Value} {below : List Frame} {meth : Method} {c : Code} {Q : State → Prop} {D : va_G} {I : ch_Id} {sh : Nat → Nat} {A : Nat → Prop} {oo : Int32 × ch_Mem}    {k6 : Int32 → Int32 → Int32 → Int32 → Int32 → Int32 → Int32 → ch_Mem → Option (Int32 × ch_Mem)} (S : CallFix p m c cX6_meetings 7 s args wsX6_meetings RX6) (fin : ch_FinI p l e rm_X6_meetings s m args below meth c cX6_meetings Q D I 40 (ch_FC I sh) sh A oo) (hk6 : ∀ (x0 : Int32) (x1 : Int32) (x2 : Int32) (x3 : Int32) (x4 : Int32) (x5 : Int32) (x6 : Int32) (M : ch_Mem) (H : Heap) (locs : List Loc) (ls : Array Slot), k6 x0 x1 x2 x3 x4 x5 x6 M = some oo → ch_Wd D I 40 (ch_FC I sh) sh s A M H locs → lv_has ls 7 [(0, .int x0), (1, .int x1), (2, .int x2), (3, .int x3), (4, .int x4), (5, .int x5), (6, .int x6)] → W p l e rm_X6_meetings s m args below meth c H locs 0 0 Q (F0 m 6 ls [])) {x0 : Int32} {x1 : Int32} {x2 : Int32} {x3 : Int32} {x4 : Int32} {x5 : Int32} {x6 : Int32}  {M : ch_Mem} {H : Heap} {locs : List Loc} {ls : Array Slot} (h : D_X6_meetings_b6 k6 x0 x1 x2 x3 x4 x5 x6 M = some oo) (hw : ch_Wd D I 40 (ch_FC I sh) sh s A M H locs) (hl : lv_has ls 7 [(0, .int x0), (1, .int x1), (2, .int x2), (3, .int x3), (4, .int x4), (5, .int x5), (6, .int x6)]) : W p l e rm_X6_meetings s m args below meth c H locs 0 0 Q (F0 m 6 ls []) := by
  obtain ⟨hx, hb, hml, hown, hts⟩ := id S
  unfold D_X6_meetings_b6 at h
  refine lv_iload hx hb dX6_meetings_6 (lv_at hl 6 rfl) ?_
  refine lv_iload_n hx hb dX6_meetings_8 rfl (lv_at hl 0 rfl) ?_
  refine ch_icmp_ge (tgt := 41) hx hb dX6_meetings_9 (by decide) h (fun h => ?_) (fun h => ?_)
  · exact t_X6_meetings_41 S fin h hw (lv_sub hl [5] rfl)
  · refine lv_iload_n hx hb dX6_meetings_12 rfl (lv_at hl 1 rfl) ?_
    refine lv_iload hx hb dX6_meetings_13 (lv_at hl 6 rfl) ?_
    refine lv_imul hx hb dX6_meetings_15 ?_
    refine lv_iload_n hx hb dX6_meetings_16 rfl (lv_at hl 0 rfl) ?_
    refine ch_g0_k h (fun hne h => ?_)
    refine lv_irem hx hb dX6_meetings_17 hne ?_
    refine lv_iload_n hx hb dX6_meetings_18 rfl (lv_at hl 2 rfl) ?_
    refine lv_iload hx hb dX6_meetings_19 (lv_at hl 6 rfl) ?_
    refine lv_iload_n hx hb dX6_meetings_21 rfl (lv_at hl 3 rfl) ?_
    refine lv_iadd hx hb dX6_meetings_22 ?_
    refine lv_imul hx hb dX6_meetings_23 ?_
    refine lv_iload hx hb dX6_meetings_24 (lv_at hl 4 rfl) ?_
    refine lv_iadd hx hb dX6_meetings_26 ?_
    refine lv_iload_n hx hb dX6_meetings_27 rfl (lv_at hl 0 rfl) ?_
    refine ch_g0_k h (fun hne h => ?_)
    refine lv_irem hx hb dX6_meetings_28 hne ?_
    refine ch_icmp_ne (tgt := 35) hx hb dX6_meetings_29 (by decide) h (fun h => ?_) (fun h => ?_)
    · exact t_X6_meetings_35 S fin hk6 h hw (lv_sub hl [0, 1, 2, 3, 4, 5, 6] rfl)
    · refine lv_iinc (v := x5 + (1 : Int32)) (lv' := [(5, .int (x5 + (1 : Int32))), (0, .int x0), (1, .int x1), (2, .int x2), (3, .int x3), (4, .int x4), (6, .int x6)]) hx hb dX6_meetings_32 hl (k := 5) rfl rfl (by decide) rfl (fun ls hl => ?_)
      exact t_X6_meetings_35 S fin hk6 h hw (lv_sub hl [1, 2, 3, 4, 5, 0, 6] rfl)
set_option maxHeartbeats 4000000 in
set_option maxRecDepth 100000 in
theorem tl_X6_meetings_6 {p : Program} {l : Launch} {e : Env} {s : State} {m : MethodId} {args : Array Value} {below : List Frame} {meth : Method} {c : Code} {Q : State → Prop} {D : va_G} {I : ch_Id} {sh : Nat → Nat} {A : Nat → Prop} {oo : Int32 × ch_Mem}     (S : CallFix p m c cX6_meetings 7 s args wsX6_meetings RX6) (fin : ch_FinI p l e rm_X6_meetings s m args below meth c cX6_meetings Q D I 40 (ch_FC I sh) sh A oo)  (n : Nat) : ∀ (x0 : Int32) (x1 : Int32) (x2 : Int32) (x3 : Int32) (x4 : Int32) (x5 : Int32) (x6 : Int32) (M : ch_Mem) (H : Heap) (locs : List Loc) (ls : Array Slot), D_X6_meetings_L6  n x0 x1 x2 x3 x4 x5 x6 M = some oo → ch_Wd D I 40 (ch_FC I sh) sh s A M H locs → lv_has ls 7 [(0, .int x0), (1, .int x1), (2, .int x2), (3, .int x3), (4, .int x4), (5, .int x5), (6, .int x6)] → W p l e rm_X6_meetings s m args below meth c H locs 0 0 Q (F0 m 6 ls []) := by
  induction n with
  | zero => intro x0 x1 x2 x3 x4 x5 x6 M H locs ls  h; cases h
  | succ n ih =>
    intro x0 x1 x2 x3 x4 x5 x6 M H locs ls  h hw hl
    exact t_X6_meetings_6 S fin ih h hw hl
set_option maxHeartbeats 4000000 in
set_option maxRecDepth 100000 in
theorem t_X6_meetings_0 {p : Program} {l : Launch} {e : Env} {s : State} {m : MethodId} {args : Array Value} {below : List Frame} {meth : Method} {c : Code} {Q : State → Prop} {D : va_G} {I : ch_Id} {sh : Nat → Nat} {A : Nat → Prop} {oo : Int32 × ch_Mem}     (S : CallFix p m c cX6_meetings 7 s args wsX6_meetings RX6) (fin : ch_FinI p l e rm_X6_meetings s m args below meth c cX6_meetings Q D I 40 (ch_FC I sh) sh A oo)  {x0 : Int32} {x1 : Int32} {x2 : Int32} {x3 : Int32} {x4 : Int32}  {M : ch_Mem} {H : Heap} {locs : List Loc} {ls : Array Slot} (h : D_X6_meetings x0 x1 x2 x3 x4 M = some oo) (hw : ch_Wd D I 40 (ch_FC I sh) sh s A M H locs) (hl : lv_has ls 7 [(0, .int x0), (1, .int x1), (2, .int x2), (3, .int x3), (4, .int x4)]) : W p l e rm_X6_meetings s m args below meth c H locs 0 0 Q (F0 m 0 ls []) := by
  obtain ⟨hx, hb, hml, hown, hts⟩ := id S
  unfold D_X6_meetings at h
  refine lv_iconst (v := (0 : Int32)) hx hb dX6_meetings_0 (by decide) ?_
  refine lv_istore (lv' := [(5, .int (0 : Int32)), (0, .int x0), (1, .int x1), (2, .int x2), (3, .int x3), (4, .int x4)]) hx hb dX6_meetings_1 hl (by decide) rfl (fun ls hl => ?_)
  refine lv_iconst (v := (0 : Int32)) hx hb dX6_meetings_3 (by decide) ?_
  refine lv_istore (lv' := [(6, .int (0 : Int32)), (5, .int (0 : Int32)), (0, .int x0), (1, .int x1), (2, .int x2), (3, .int x3), (4, .int x4)]) hx hb dX6_meetings_4 hl (by decide) rfl (fun ls hl => ?_)
  exact tl_X6_meetings_6 S fin ch_fu _ _ _ _ _ _ _ _ _ _ _ h hw (lv_sub hl [2, 3, 4, 5, 6, 1, 0] rfl)
set_option maxHeartbeats 4000000 in
set_option maxRecDepth 100000 in
theorem c_X6_meetings (l : Launch) (D : va_G) (I : ch_Id) (sh : Nat → Nat) (sz : Nat) (M : ch_Mem)  (x0 : Int32) (x1 : Int32) (x2 : Int32) (x3 : Int32) (x4 : Int32) {r : Int32} {M1 : ch_Mem} (h : D_X6_meetings x0 x1 x2 x3 x4 M = some (r, M1)) : Met l yX6_meetings wsX6_meetings rm_X6_meetings (va_Pc [.int x0, .int x1, .int x2, .int x3, .int x4] (ch_Pre D I 40 (ch_FC I sh) sh sz M)) (va_Qi (fun r' (u : ch_Mem) => r' = r ∧ u = M1) (ch_Pos D 40 (ch_FC I sh) sh) (ch_A 40 sh sz)) 0 0 (ch_A 40 sh sz) := by
  refine Met.ofW (cc := cX6_meetings) (maxL := 7) (ret := (some .int)) (by decide) rfl ?_
  intro p e s m args below meth c s₁ B hml hv0
  obtain ⟨rfl, hv0⟩ := hv0
  obtain rfl : s.heap.size = sz := hv0.1
  have hw := ch_start hv0
  have S : CallFix p m c cX6_meetings 7 s _ wsX6_meetings RX6 := ⟨B.exec, B.bytes, hml, findClass_of_methodNamed B.named, atoms_spec (ws := wsX6_meetings) B.pre⟩
  have hl := lv_entry ([.int x0, .int x1, .int x2, .int x3, .int x4]) (n := 7) (Nat.le_of_ble_eq_true rfl)
  rw [lg_entry_eq]
  generalize (lg_sl ([.int x0, .int x1, .int x2, .int x3, .int x4]) ++ List.replicate (7 - (lg_sl ([.int x0, .int x1, .int x2, .int x3, .int x4])).length) Slot.unset).toArray = ls at hl ⊢
  exact t_X6_meetings_0 S (ch_finI (B := fun _ => True) B.exec B.bytes B.returns B.notSynchronized) h hw (lv_sub hl [0, 1, 2, 3, 4] rfl)
