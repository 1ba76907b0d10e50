set_option maxHeartbeats 4000000 in
set_option maxRecDepth 100000 in
theorem t_X6_reset_0 {p : Program} {l : Launch} {e : Env} {s : State} {m : MethodId} {args : Array Value} {below : List Frame} {meth : Method} {c : Code} {Q : State → Prop} {D : va_G} {I : ch_Id} {sh : Nat → Nat} {A : Nat → Prop} {oo : Int32 × ch_Mem}     (S : CallFix p m c cX6_reset 2 s args wsX6_reset RX6) (fin : ch_FinI p l e rm_X6_reset s m args below meth c cX6_reset Q D I 40 (ch_FC I sh) sh A oo)    {M : ch_Mem} {H : Heap} {locs : List Loc} {ls : Array Slot} (h : D_X6_reset  M = some oo) (hw : ch_Wd D I 40 (ch_FC I sh) sh s A M H locs) (hl : lv_has ls 2 [(0, .ref (sh 0))]) : W p l e rm_X6_reset s m args below meth c H locs 0 0 Q (F0 m 0 ls []) := by
  obtain ⟨hx, hb, hml, hown, hts⟩ := id S
  unfold D_X6_reset at h
  refine lv_aload_n hx hb dX6_reset_0 rfl (lv_at hl 0 rfl) ?_
  refine ch_get S hw 0 (by decide) rfl rfl (by decide +kernel) 5 (by decide) (hts (.fieldLink RX6 45 "CodeHunt" "lengths" "LCodeHunt$Lengths;") (by decide +kernel)) rfl dX6_reset_1 ?_
  refine ch_getN S hw 6 (by decide) rfl rfl (by decide +kernel) 2 (by decide) (ch_nw hw 14 rfl) rfl dX6_reset_4 ?_
  refine lv_istore_n (lv' := [(1, .int (M.1 6 2)), (0, .ref (sh 0))]) hx hb dX6_reset_7 rfl hl (by decide) rfl (fun ls hl => ?_)
  refine lv_aload_n hx hb dX6_reset_8 rfl (lv_at hl 1 rfl) ?_
  refine ch_get S hw 0 (by decide) rfl rfl (by decide +kernel) 5 (by decide) (hts (.fieldLink RX6 45 "CodeHunt" "lengths" "LCodeHunt$Lengths;") (by decide +kernel)) rfl dX6_reset_9 ?_
  refine lv_iconst (v := (0 : Int32)) hx hb dX6_reset_12 (by decide) ?_
  refine ch_putN (M1 := ch_wI M 6 2 (0 : Int32)) (ty := .int) S hw 6 (by decide) rfl rfl (by decide +kernel) tyX0 tyX0_ok nmX0 2 (by decide) (ch_nw hw 14 rfl) rfl (by decide +kernel) rfl rfl (Nat.le_of_ble_eq_true rfl) (ch_cf_wI (j := 2) (v := (0 : Int32)) rfl) dX6_reset_13 (fun H locs hw => ?_)
  refine lv_iload_n hx hb dX6_reset_16 rfl (lv_at hl 0 rfl) ?_
  exact fin _ _ _ _ _ _ h hw dX6_reset_17
set_option maxHeartbeats 4000000 in
set_option maxRecDepth 100000 in
theorem c_X6_reset (l : Launch) (D : va_G) (I : ch_Id) (sh : Nat → Nat) (sz : Nat) (M : ch_Mem)   {r : Int32} {M1 : ch_Mem} (h : D_X6_reset  M = some (r, M1)) : Met l yX6_reset wsX6_reset rm_X6_reset (va_Pc [.ref (sh 0)] (ch_Pre D I 40 (ch_FC I sh) sh sz M)) (va_Qi (fun r' (u : ch_Mem) => r' = r ∧ u = M1) (ch_Pos D 40 (ch_FC I sh) sh) (ch_A 40 sh sz)) 0 0 (ch_A 40 sh sz) := by
  refine Met.ofW (cc := cX6_reset) (maxL := 2) (ret := (some .int)) (by decide) rfl ?_
  intro p e s m args below meth c s₁ B hml hv0
  obtain ⟨rfl, hv0⟩ := hv0
  obtain rfl : s.heap.size = sz := hv0.1
  have hw := ch_start hv0
  have S : CallFix p m c cX6_reset 2 s _ wsX6_reset RX6 := ⟨B.exec, B.bytes, hml, findClass_of_methodNamed B.named, atoms_spec (ws := wsX6_reset) B.pre⟩
  have hl := lv_entry ([.ref (sh 0)]) (n := 2) (Nat.le_of_ble_eq_true rfl)
  rw [lg_entry_eq]
  generalize (lg_sl ([.ref (sh 0)]) ++ List.replicate (2 - (lg_sl ([.ref (sh 0)])).length) Slot.unset).toArray = ls at hl ⊢
  exact t_X6_reset_0 S (ch_finI (B := fun _ => True) B.exec B.bytes B.returns B.notSynchronized) h hw (lv_sub hl [0] rfl)
set_option maxHeartbeats 4000000 in
set_option maxRecDepth 100000 in
theorem t_X6_search_0 {p : Program} {l : Launch} {e : Env} {s : State} {m : MethodId} {args : Array Value} {below : List Frame} {meth : Method} {c : Code} {Q : State → Prop} {D : va_G} {I : ch_Id} {sh : Nat → Nat} {A : Nat → Prop} {oo : Int32 × ch_Mem}     (S : CallFix p m c cX6_search 4 s args wsX6_search RX6) (fin : ch_FinI p l e rm_X6_search s m args below meth c cX6_search Q D I 40 (ch_FC I sh) sh A oo)  {x1 : Int32} {x2 : Int32}  {M : ch_Mem} {H : Heap} {locs : List Loc} {ls : Array Slot} (h : D_X6_search x1 x2 M = some oo) (hw : ch_Wd D I 40 (ch_FC I sh) sh s A M H locs) (hl : lv_has ls 4 [(0, .ref (sh 0)), (1, .int x1), (2, .int x2)]) : W p l e rm_X6_search s m args below meth c H locs 0 0 Q (F0 m 0 ls []) := by
  obtain ⟨hx, hb, hml, hown, hts⟩ := id S
  unfold D_X6_search at h
  refine lv_aload_n hx hb dX6_search_0 rfl (lv_at hl 0 rfl) ?_
  refine lv_iload_n hx hb dX6_search_1 rfl (lv_at hl 1 rfl) ?_
  refine lv_iload_n hx hb dX6_search_2 rfl (lv_at hl 2 rfl) ?_
  refine ch_bd_k h (fun r1 M2 hc h => ?_)
  refine ch_ci hw (va_runV (As := [.int x1, .int x2]) (rest := []) S (c_X6_searchFor l D I sh H.size M x1 x2 hc) (cwV 2 hts gX6_search_X6_searchFor rfl rfl rfl (by decide +kernel) ⟨Nat.le_of_ble_eq_true rfl, Nat.le_of_ble_eq_true rfl⟩) (ch_pV hw (by decide) rfl rfl rfl) rfl rfl hl.1 rfl (lv_room (Nat.le_of_ble_eq_true rfl)) dX6_search_3 ⟨Nat.le_refl 0, Nat.le_refl 0⟩) (fun H locs hw => ?_)
  refine lv_istore_n (lv' := [(3, .int r1), (0, .ref (sh 0)), (1, .int x1), (2, .int x2)]) hx hb dX6_search_6 rfl hl (by decide) rfl (fun ls hl => ?_)
  refine lv_iload_n hx hb dX6_search_7 rfl (lv_at hl 0 rfl) ?_
  refine ch_if_ne (tgt := 33) hx hb dX6_search_8 (by decide) h (fun h => ?_) (fun h => ?_)
  · refine lv_iload_n hx hb dX6_search_33 rfl (lv_at hl 0 rfl) ?_
    exact fin _ _ _ _ _ _ h hw dX6_search_34
  · refine lv_sipush (v := (1000 : Int32)) hx hb dX6_search_11 (by decide) ?_
    refine lv_aload_n hx hb dX6_search_14 rfl (lv_at hl 1 rfl) ?_
    refine ch_get S hw 0 (by decide) rfl rfl (by decide +kernel) 3 (by decide) (hts (.fieldLink RX6 31 "CodeHunt" "search" "LCodeHunt$Search;") (by decide +kernel)) rfl dX6_search_15 ?_
    refine ch_getN S hw 4 (by decide) rfl rfl (by decide +kernel) 2 (by decide) (ch_nw hw 7 rfl) rfl dX6_search_18 ?_
    refine lv_imul hx hb dX6_search_21 ?_
    refine lv_aload_n hx hb dX6_search_22 rfl (lv_at hl 1 rfl) ?_
    refine ch_get S hw 0 (by decide) rfl rfl (by decide +kernel) 3 (by decide) (hts (.fieldLink RX6 31 "CodeHunt" "search" "LCodeHunt$Search;") (by decide +kernel)) rfl dX6_search_23 ?_
    refine ch_getN S hw 4 (by decide) rfl rfl (by decide +kernel) 3 (by decide) (ch_nw hw 8 rfl) rfl dX6_search_26 ?_
    refine lv_iadd hx hb dX6_search_29 ?_
    refine lv_goto (tgt := 34) hx hb dX6_search_30 (by decide) ?_
    exact fin _ _ _ _ _ _ h hw dX6_search_34
set_option maxHeartbeats 4000000 in
set_option maxRecDepth 100000 in
theorem c_X6_search (l : Launch) (D : va_G) (I : ch_Id) (sh : Nat → Nat) (sz : Nat) (M : ch_Mem)  (x1 : Int32) (x2 : Int32) {r : Int32} {M1 : ch_Mem} (h : D_X6_search x1 x2 M = some (r, M1)) : Met l yX6_search wsX6_search rm_X6_search (va_Pc [.ref (sh 0), .int x1, .int x2] (ch_Pre D I 40 (ch_FC I sh) sh sz M)) (va_Qi (fun r' (u : ch_Mem) => r' = r ∧ u = M1) (ch_Pos D 40 (ch_FC I sh) sh) (ch_A 40 sh sz)) 0 0 (ch_A 40 sh sz) := by
  refine Met.ofW (cc := cX6_search) (maxL := 4) (ret := (some .int)) (by decide) rfl ?_
  intro p e s m args below meth c s₁ B hml hv0
  obtain ⟨rfl, hv0⟩ := hv0
  obtain rfl : s.heap.size = sz := hv0.1
  have hw := ch_start hv0
  have S : CallFix p m c cX6_search 4 s _ wsX6_search RX6 := ⟨B.exec, B.bytes, hml, findClass_of_methodNamed B.named, atoms_spec (ws := wsX6_search) B.pre⟩
  have hl := lv_entry ([.ref (sh 0), .int x1, .int x2]) (n := 4) (Nat.le_of_ble_eq_true rfl)
  rw [lg_entry_eq]
  generalize (lg_sl ([.ref (sh 0), .int x1, .int x2]) ++ List.replicate (4 - (lg_sl ([.ref (sh 0), .int x1, .int x2])).length) Slot.unset).toArray = ls at hl ⊢
  exact t_X6_search_0 S (ch_finI (B := fun _ => True) B.exec B.bytes B.returns B.notSynchronized) h hw (lv_sub hl [0, 1, 2] rfl)
set_option maxHeartbeats 4000000 in
set_option maxRecDepth 100000 in
theorem t_X6_sign_0 {p : Program} {l : Launch} {e : Env} {s : State} {m : MethodId} {args : Array Value} {below : List Frame} {meth : Method} {c : Code} {Q : State → Prop} {D : va_G} {I : ch_Id} {sh : Nat → Nat} {A : Nat → Prop} {oo : Int32 × ch_Mem}     (S : CallFix p m c cX6_sign 3 s args wsX6_sign RX6) (fin : ch_FinI p l e rm_X6_sign s m args below meth c cX6_sign Q D I 40 (ch_FC I sh) sh A oo)  {x1 : Int32} {x2 : Int32}  {M : ch_Mem} {H : Heap} {locs : List Loc} {ls : Array Slot} (h : D_X6_sign x1 x2 M = some oo) (hw : ch_Wd D I 40 (ch_FC I sh) sh s A M H locs) (hl : lv_has ls 3 [(0, .ref (sh 0)), (1, .int x1), (2, .int x2)]) : W p l e rm_X6_sign s m args below meth c H locs 0 0 Q (F0 m 0 ls []) := by
  obtain ⟨hx, hb, hml, hown, hts⟩ := id S
  unfold D_X6_sign at h
  refine lv_iload_n hx hb dX6_sign_0 rfl (lv_at hl 1 rfl) ?_
  refine ch_bd_k h (fun r1 M2 hc h => ?_)
  refine ch_ci hw (va_runS (As := [.int x1]) (rest := []) S (c_X6_isRow l D I sh H.size M x1 hc) (va_cwS 1 hts gX6_sign_X6_isRow rfl rfl rfl (by decide +kernel) ⟨Nat.le_of_ble_eq_true rfl, Nat.le_of_ble_eq_true rfl⟩) (ch_pS hw) rfl rfl hl.1 rfl (lv_room (Nat.le_of_ble_eq_true rfl)) dX6_sign_1 ⟨Nat.le_refl 0, Nat.le_refl 0⟩) (fun H locs hw => ?_)
  refine ch_if_eq (tgt := 14) hx hb dX6_sign_4 (by decide) h (fun h => ?_) (fun h => ?_)
  · refine lv_bipush (v := (-2 : Int32)) hx hb dX6_sign_14 (by decide) ?_
    exact fin _ _ _ _ _ _ h hw dX6_sign_16
  · refine lv_iload_n hx hb dX6_sign_7 rfl (lv_at hl 2 rfl) ?_
    refine ch_bd_k h (fun r3 M4 hc h => ?_)
    refine ch_ci hw (va_runS (As := [.int x2]) (rest := []) S (c_X6_isShift l D I sh H.size M2 x2 hc) (va_cwS 1 hts gX6_sign_X6_isShift rfl rfl rfl (by decide +kernel) ⟨Nat.le_of_ble_eq_true rfl, Nat.le_of_ble_eq_true rfl⟩) (ch_pS hw) rfl rfl hl.1 rfl (lv_room (Nat.le_of_ble_eq_true rfl)) dX6_sign_8 ⟨Nat.le_refl 0, Nat.le_refl 0⟩) (fun H locs hw => ?_)
    refine ch_if_ne (tgt := 17) hx hb dX6_sign_11 (by decide) h (fun h => ?_) (fun h => ?_)
    · refine lv_aload_n hx hb dX6_sign_17 rfl (lv_at hl 0 rfl) ?_
      refine ch_get S hw 0 (by decide) rfl rfl (by decide +kernel) 0 (by decide) (hts (.fieldLink RX6 11 "CodeHunt" "rows" "[LCodeHunt$Row;") (by decide +kernel)) rfl dX6_sign_18 ?_
      refine lv_iload_n hx hb dX6_sign_21 rfl (lv_at hl 1 rfl) ?_
      refine ch_gd_k h (fun hin h => ?_)
      have hlt5 := ch_in_lt hin
      refine ch_rows S hw hin dX6_sign_22 ?_
      refine ch_bd_k h (fun r6 M7 hc h => ?_)
      refine ch_ci hw (va_runV (As := []) (rest := []) S (c_X3_isNone l D I sh H.size M4 (7 + x1.toNatClampNeg) (by omega) hc) (cwV 0 hts gX6_sign_X3_isNone rfl rfl rfl (by decide +kernel) ⟨Nat.le_of_ble_eq_true rfl, Nat.le_of_ble_eq_true rfl⟩) (ch_pV hw (by omega) (ch_FC_row (by omega)) rfl rfl) rfl rfl hl.1 rfl (lv_room (Nat.le_of_ble_eq_true rfl)) dX6_sign_23 ⟨Nat.le_refl 0, Nat.le_refl 0⟩) (fun H locs hw => ?_)
      refine ch_if_eq (tgt := 34) hx hb dX6_sign_26 (by decide) h (fun h => ?_) (fun h => ?_)
      · refine lv_aload_n hx hb dX6_sign_34 rfl (lv_at hl 0 rfl) ?_
        refine ch_get S hw 0 (by decide) rfl rfl (by decide +kernel) 0 (by decide) (hts (.fieldLink RX6 11 "CodeHunt" "rows" "[LCodeHunt$Row;") (by decide +kernel)) rfl dX6_sign_35 ?_
        refine lv_iload_n hx hb dX6_sign_38 rfl (lv_at hl 1 rfl) ?_
        refine ch_gd_k h (fun hin h => ?_)
        have hlt8 := ch_in_lt hin
        refine ch_rows S hw hin dX6_sign_39 ?_
        refine lv_iload_n hx hb dX6_sign_40 rfl (lv_at hl 2 rfl) ?_
        refine ch_bd_k h (fun r9 M10 hc h => ?_)
        refine ch_ci hw (va_runV (As := [.int x2]) (rest := []) S (c_X3_signAt l D I sh H.size M7 (7 + x1.toNatClampNeg) (by omega) x2 hc) (cwV 1 hts gX6_sign_X3_signAt rfl rfl rfl (by decide +kernel) ⟨Nat.le_of_ble_eq_true rfl, Nat.le_of_ble_eq_true rfl⟩) (ch_pV hw (by omega) (ch_FC_row (by omega)) rfl rfl) rfl rfl hl.1 rfl (lv_room (Nat.le_of_ble_eq_true rfl)) dX6_sign_41 ⟨Nat.le_refl 0, Nat.le_refl 0⟩) (fun H locs hw => ?_)
        exact fin _ _ _ _ _ _ h hw dX6_sign_44
      · refine lv_bipush (v := (-3 : Int32)) hx hb dX6_sign_29 (by decide) ?_
        refine lv_goto (tgt := 44) hx hb dX6_sign_31 (by decide) ?_
        exact fin _ _ _ _ _ _ h hw dX6_sign_44
    · refine lv_bipush (v := (-2 : Int32)) hx hb dX6_sign_14 (by decide) ?_
      exact fin _ _ _ _ _ _ h hw dX6_sign_16
set_option maxHeartbeats 4000000 in
set_option maxRecDepth 100000 in
theorem c_X6_sign (l : Launch) (D : va_G) (I : ch_Id) (sh : Nat → Nat) (sz : Nat) (M : ch_Mem)  (x1 : Int32) (x2 : Int32) {r : Int32} {M1 : ch_Mem} (h : D_X6_sign x1 x2 M = some (r, M1)) : Met l yX6_sign wsX6_sign rm_X6_sign (va_Pc [.ref (sh 0), .int x1, .int x2] (ch_Pre D I 40 (ch_FC I sh) sh sz M)) (va_Qi (fun r' (u : ch_Mem) => r' = r ∧ u = M1) (ch_Pos D 40 (ch_FC I sh) sh) (ch_A 40 sh sz)) 0 0 (ch_A 40 sh sz) := by
  refine Met.ofW (cc := cX6_sign) (maxL := 3) (ret := (some .int)) (by decide) rfl ?_
  intro p e s m args below meth c s₁ B hml hv0
  obtain ⟨rfl, hv0⟩ := hv0
  obtain rfl : s.heap.size = sz := hv0.1
  have hw := ch_start hv0
  have S : CallFix p m c cX6_sign 3 s _ wsX6_sign RX6 := ⟨B.exec, B.bytes, hml, findClass_of_methodNamed B.named, atoms_spec (ws := wsX6_sign) B.pre⟩
  have hl := lv_entry ([.ref (sh 0), .int x1, .int x2]) (n := 3) (Nat.le_of_ble_eq_true rfl)
  rw [lg_entry_eq]
  generalize (lg_sl ([.ref (sh 0), .int x1, .int x2]) ++ List.replicate (3 - (lg_sl ([.ref (sh 0), .int x1, .int x2])).length) Slot.unset).toArray = ls at hl ⊢
  exact t_X6_sign_0 S (ch_finI (B := fun _ => True) B.exec B.bytes B.returns B.notSynchronized) h hw (lv_sub hl [0, 1, 2] rfl)
set_option maxHeartbeats 4000000 in
set_option maxRecDepth 100000 in
theorem t_X6_sure_0 {p : Program} {l : Launch} {e : Env} {s : State} {m : MethodId} {args : Array Value} {below : List Frame} {meth : Method} {c : Code} {Q : State → Prop} {D : va_G} {I : ch_Id} {sh : Nat → Nat} {A : Nat → Prop} {oo : Int32 × ch_Mem}     (S : CallFix p m c cX6_sure 4 s args wsX6_sure RX6) (fin : ch_FinI p l e rm_X6_sure s m args below meth c cX6_sure Q D I 40 (ch_FC I sh) sh A oo)  {x1 : Int32} {x2 : Int32}  {M : ch_Mem} {H : Heap} {locs : List Loc} {ls : Array Slot} (h : D_X6_sure x1 x2 M = some oo) (hw : ch_Wd D I 40 (ch_FC I sh) sh s A M H locs) (hl : lv_has ls 4 [(0, .ref (sh 0)), (1, .int x1), (2, .int x2)]) : W p l e rm_X6_sure s m args below meth c H locs 0 0 Q (F0 m 0 ls []) := by
  obtain ⟨hx, hb, hml, hown, hts⟩ := id S
  unfold D_X6_sure at h
  refine lv_aload_n hx hb dX6_sure_0 rfl (lv_at hl 0 rfl) ?_
  refine lv_iload_n hx hb dX6_sure_1 rfl (lv_at hl 1 rfl) ?_
  refine lv_iload_n hx hb dX6_sure_2 rfl (lv_at hl 2 rfl) ?_
  refine ch_bd_k h (fun r1 M2 hc h => ?_)
  refine ch_ci hw (va_runV (As := [.int x1, .int x2]) (rest := []) S (c_X6_searchFor l D I sh H.size M x1 x2 hc) (cwV 2 hts gX6_sure_X6_searchFor rfl rfl rfl (by decide +kernel) ⟨Nat.le_of_ble_eq_true rfl, Nat.le_of_ble_eq_true rfl⟩) (ch_pV hw (by decide) rfl rfl rfl) rfl rfl hl.1 rfl (lv_room (Nat.le_of_ble_eq_true rfl)) dX6_sure_3 ⟨Nat.le_refl 0, Nat.le_refl 0⟩) (fun H locs hw => ?_)
  refine lv_istore_n (lv' := [(3, .int r1), (0, .ref (sh 0)), (1, .int x1), (2, .int x2)]) hx hb dX6_sure_6 rfl hl (by decide) rfl (fun ls hl => ?_)
  refine lv_iload_n hx hb dX6_sure_7 rfl (lv_at hl 0 rfl) ?_
  refine ch_if_eq (tgt := 13) hx hb dX6_sure_8 (by decide) h (fun h => ?_) (fun h => ?_)
  · refine lv_aload_n hx hb dX6_sure_13 rfl (lv_at hl 1 rfl) ?_
    refine ch_get S hw 0 (by decide) rfl rfl (by decide +kernel) 3 (by decide) (hts (.fieldLink RX6 31 "CodeHunt" "search" "LCodeHunt$Search;") (by decide +kernel)) rfl dX6_sure_14 ?_
    refine ch_getN S hw 4 (by decide) rfl rfl (by decide +kernel) 0 (by decide) (ch_nw hw 5 rfl) rfl dX6_sure_17 ?_
    refine lv_lconst (v := (0 : Int64)) hx hb dX6_sure_20 (by decide) ?_
    refine W.lcmp hx hb dX6_sure_21 ?_
    refine ch_if_le (tgt := 57) hx hb dX6_sure_22 (by decide) h (fun h => ?_) (fun h => ?_)
    · refine lv_iconst (v := (0 : Int32)) hx hb dX6_sure_57 (by decide) ?_
      exact fin _ _ _ _ _ _ h hw dX6_sure_58
    · refine lv_ldc2 (v := (100 : Int64)) hx hb hown (hts (.constantLong RX6 169 (100)) (by decide +kernel)) dX6_sure_25 ?_
      refine lv_aload_n hx hb dX6_sure_28 rfl (lv_at hl 1 rfl) ?_
      refine ch_get S hw 0 (by decide) rfl rfl (by decide +kernel) 3 (by decide) (hts (.fieldLink RX6 31 "CodeHunt" "search" "LCodeHunt$Search;") (by decide +kernel)) rfl dX6_sure_29 ?_
      refine ch_getN S hw 4 (by decide) rfl rfl (by decide +kernel) 1 (by decide) (ch_nw hw 6 rfl) rfl dX6_sure_32 ?_
      refine lv_lmul hx hb dX6_sure_35 ?_
      refine lv_aload_n hx hb dX6_sure_36 rfl (lv_at hl 1 rfl) ?_
      refine ch_get S hw 0 (by decide) rfl rfl (by decide +kernel) 6 (by decide) (hts (.fieldLink RX6 49 "CodeHunt" "doubt" "I") (by decide +kernel)) rfl dX6_sure_37 ?_
      refine lv_i2l hx hb dX6_sure_40 rfl ?_
      refine lv_aload_n hx hb dX6_sure_41 rfl (lv_at hl 1 rfl) ?_
      refine ch_get S hw 0 (by decide) rfl rfl (by decide +kernel) 3 (by decide) (hts (.fieldLink RX6 31 "CodeHunt" "search" "LCodeHunt$Search;") (by decide +kernel)) rfl dX6_sure_42 ?_
      refine ch_getN S hw 4 (by decide) rfl rfl (by decide +kernel) 0 (by decide) (ch_nw hw 5 rfl) rfl dX6_sure_45 ?_
      refine lv_lmul hx hb dX6_sure_48 ?_
      refine W.lcmp hx hb dX6_sure_49 ?_
      refine ch_if_gt (tgt := 57) hx hb dX6_sure_50 (by decide) h (fun h => ?_) (fun h => ?_)
      · refine lv_iconst (v := (0 : Int32)) hx hb dX6_sure_57 (by decide) ?_
        exact fin _ _ _ _ _ _ h hw dX6_sure_58
      · refine lv_iconst (v := (1 : Int32)) hx hb dX6_sure_53 (by decide) ?_
        refine lv_goto (tgt := 58) hx hb dX6_sure_54 (by decide) ?_
        exact fin _ _ _ _ _ _ h hw dX6_sure_58
  · refine lv_iload_n hx hb dX6_sure_11 rfl (lv_at hl 0 rfl) ?_
    exact fin _ _ _ _ _ _ h hw dX6_sure_12
set_option maxHeartbeats 4000000 in
set_option maxRecDepth 100000 in
theorem c_X6_sure (l : Launch) (D : va_G) (I : ch_Id) (sh : Nat → Nat) (sz : Nat) (M : ch_Mem)  (x1 : Int32) (x2 : Int32) {r : Int32} {M1 : ch_Mem} (h : D_X6_sure x1 x2 M = some (r, M1)) : Met l yX6_sure wsX6_sure rm_X6_sure (va_Pc [.ref (sh 0), .int x1, .int x2] (ch_Pre D I 40 (ch_FC I sh) sh sz M)) (va_Qi (fun r' (u : ch_Mem) => r' = r ∧ u = M1) (ch_Pos D 40 (ch_FC I sh) sh) (ch_A 40 sh sz)) 0 0 (ch_A 40 sh sz) := by
  refine Met.ofW (cc := cX6_sure) (maxL := 4) (ret := (some .int)) (by decide) rfl ?_
  intro p e s m args below meth c s₁ B hml hv0
  obtain ⟨rfl, hv0⟩ := hv0
  obtain rfl : s.heap.size = sz := hv0.1
  have hw := ch_start hv0
  have S : CallFix p m c cX6_sure 4 s _ wsX6_sure RX6 := ⟨B.exec, B.bytes, hml, findClass_of_methodNamed B.named, atoms_spec (ws := wsX6_sure) B.pre⟩
  have hl := lv_entry ([.ref (sh 0), .int x1, .int x2]) (n := 4) (Nat.le_of_ble_eq_true rfl)
  rw [lg_entry_eq]
  generalize (lg_sl ([.ref (sh 0), .int x1, .int x2]) ++ List.replicate (4 - (lg_sl ([.ref (sh 0), .int x1, .int x2])).length) Slot.unset).toArray = ls at hl ⊢
  exact t_X6_sure_0 S (ch_finI (B := fun _ => True) B.exec B.bytes B.returns B.notSynchronized) h hw (lv_sub hl [0, 1, 2] rfl)
set_option maxHeartbeats 4000000 in
set_option maxRecDepth 100000 in
theorem t_X6_worst_70 {p : Program} {l : Launch} {e : Env} {s : State} {m : MethodId} {args : Array Value} {below : List Frame} {meth : Method} {c : Code} {Q : State → Prop} {D : va_G} {I : ch_Id} {sh : Nat → Nat} {A : Nat → Prop} {oo : Int32 × ch_Mem}    {k18 : Int32 → Int32 → Int32 → Int32 → Int32 → ch_Mem → Option (Int32 × ch_Mem)} (S : CallFix p m c cX6_worst 7 s args wsX6_worst RX6) (fin : ch_FinI p l e rm_X6_worst s m args below meth c cX6_worst Q D I 40 (ch_FC I sh) sh A oo) (hk18 : ∀ (x1 : Int32) (x2 : Int32) (x3 : Int32) (x4 : Int32) (x5 : Int32) (M : ch_Mem) (H : Heap) (locs : List Loc) (ls : Array Slot), k18 x1 x2 x3 x4 x5 M = some oo → ch_Wd D I 40 (ch_FC I sh) sh s A M H locs → lv_has ls 7 [(1, .int x1), (2, .int x2), (3, .int x3), (4, .int x4), (5, .int x5)] → W p l e rm_X6_worst s m args below meth c H locs 0 0 Q (F0 m 18 ls [])) {x1 : Int32} {x2 : Int32} {x3 : Int32} {x4 : Int32} {x5 : Int32}  {M : ch_Mem} {H : Heap} {locs : List Loc} {ls : Array Slot} (h : D_X6_worst_b70 k18 x1 x2 x3 x4 x5 M = some oo) (hw : ch_Wd D I 40 (ch_FC I sh) sh s A M H locs) (hl : lv_has ls 7 [(1, .int x1), (2, .int x2), (3, .int x3), (4, .int x4), (5, .int x5)]) : W p l e rm_X6_worst s m args below meth c H locs 0 0 Q (F0 m 70 ls []) := by
  obtain ⟨hx, hb, hml, hown, hts⟩ := id S
  unfold D_X6_worst_b70 at h
  refine lv_iinc (v := x5 + (1 : Int32)) (lv' := [(5, .int (x5 + (1 : Int32))), (1, .int x1), (2, .int x2), (3, .int x3), (4, .int x4)]) hx hb dX6_worst_70 hl (k := 4) rfl rfl (by decide) rfl (fun ls hl => ?_)
  refine lv_goto (tgt := 18) hx hb dX6_worst_73 (by decide) ?_
  exact hk18 _ _ _ _ _ _ _ _ _  h hw (lv_sub hl [1, 2, 3, 4, 0] rfl)
set_option maxHeartbeats 4000000 in
set_option maxRecDepth 100000 in
theorem t_X6_worst_41 {p : Program} {l : Launch} {e : Env} {s : State} {m : MethodId} {args : Array Value} {below : List Frame} {meth : Method} {c : Code} {Q : State → Prop} {D : va_G} {I : ch_Id} {sh : Nat → Nat} {A : Nat → Prop} {oo : Int32 × ch_Mem}    {k18 : Int32 → Int32 → Int32 → Int32 → Int32 → ch_Mem → Option (Int32 × ch_Mem)} {k41 : Int32 → Int32 → Int32 → Int32 → Int32 → Int32 → ch_Mem → Option (Int32 × ch_Mem)} (S : CallFix p m c cX6_worst 7 s args wsX6_worst RX6) (fin : ch_FinI p l e rm_X6_worst s m args below meth c cX6_worst Q D I 40 (ch_FC I sh) sh A oo) (hk18 : ∀ (x1 : Int32) (x2 : Int32) (x3 : Int32) (x4 : Int32) (x5 : Int32) (M : ch_Mem) (H : Heap) (locs : List Loc) (ls : Array Slot), k18 x1 x2 x3 x4 x5 M = some oo → ch_Wd D I 40 (ch_FC I sh) sh s A M H locs → lv_has ls 7 [(1, .int x1), (2, .int x2), (3, .int x3), (4, .int x4), (5, .int x5)] → W p l e rm_X6_worst s m args below meth c H locs 0 0 Q (F0 m 18 ls [])) (hk41 : ∀ (x1 : Int32) (x2 : Int32) (x3 : Int32) (x4 : Int32) (x5 : Int32) (x6 : Int32) (M : ch_Mem) (H : Heap) (locs : List Loc) (ls : Array Slot), k41 x1 x2 x3 x4 x5 x6 M = some oo → ch_Wd D I 40 (ch_FC I sh) sh s A M H locs → lv_has ls 7 [(1, .int x1), (2, .int x2), (3, .int x3), (4, .int x4), (5, .int x5), (6, .int x6)] → W p l e rm_X6_worst s m args below meth c H locs 0 0 Q (F0 m 41 ls [])) {x1 : Int32} {x2 : Int32} {x3 : Int32} {x4 : Int32} {x5 : Int32} {x6 : Int32}  {M : ch_Mem} {H : Heap} {locs : List Loc} {ls : Array Slot} (h : D_X6_worst_b41 k18 k41 x1 x2 x3 x4 x5 x6 M = some oo) (hw : ch_Wd D I 40 (ch_FC I sh) sh s A M H locs) (hl : lv_has ls 7 [(1, .int x1), (2, .int x2), (3, .int x3), (4, .int x4), (5, .int x5), (6, .int x6)]) : W p l e rm_X6_worst s m args below meth c H locs 0 0 Q (F0 m 41 ls []) := by
  obtain ⟨hx, hb, hml, hown, hts⟩ := id S
  unfold D_X6_worst_b41 at h
  refine lv_iload hx hb dX6_worst_41 (lv_at hl 5 rfl) ?_
  refine lv_iload_n hx hb dX6_worst_43 rfl (lv_at hl 0 rfl) ?_
  refine ch_icmp_ge (tgt := 70) hx hb dX6_worst_44 (by decide) h (fun h => ?_) (fun h => ?_)
  · exact t_X6_worst_70 S fin hk18 h hw (lv_sub hl [0, 1, 2, 3, 4] rfl)
  · refine lv_iload hx hb dX6_worst_47 (lv_at hl 3 rfl) ?_
    refine lv_iload_n hx hb dX6_worst_49 rfl (lv_at hl 0 rfl) ?_
    refine lv_iload_n hx hb dX6_worst_50 rfl (lv_at hl 1 rfl) ?_
    refine lv_iload_n hx hb dX6_worst_51 rfl (lv_at hl 2 rfl) ?_
    refine lv_iload hx hb dX6_worst_52 (lv_at hl 4 rfl) ?_
    refine lv_iload hx hb dX6_worst_54 (lv_at hl 5 rfl) ?_
    refine ch_bd_k h (fun r1 M2 hc h => ?_)
    refine ch_ci hw (va_runS (As := [.int x1, .int x2, .int x3, .int x5, .int x6]) (rest := [.int x4]) S (c_X6_meetings l D I sh H.size M x1 x2 x3 x5 x6 hc) (va_cwS 5 hts gX6_worst_X6_meetings rfl rfl rfl (by decide +kernel) ⟨Nat.le_of_ble_eq_true rfl, Nat.le_of_ble_eq_true rfl⟩) (ch_pS hw) rfl rfl hl.1 rfl (lv_room (Nat.le_of_ble_eq_true rfl)) dX6_worst_56 ⟨Nat.le_refl 0, Nat.le_refl 0⟩) (fun H locs hw => ?_)
    refine va_mmax hx hb (S.2.2.1.trans hl.1.symm) hown (hts (.methodLink RX6 132 Lib.Math.max.name) (by decide +kernel)) (hts (.static Lib.Math.max.name) (by decide +kernel)) (hts (.initialized "java/lang/Math") (by decide +kernel)) (hts (.code Lib.Math.max.name Lib.Math.max.code 2 (some .int)) (by decide +kernel)) (Nat.le_of_ble_eq_true rfl) (Nat.le_of_ble_eq_true rfl) (Nat.le_refl 0) (Nat.le_refl 0) dX6_worst_59 ?_
    refine lv_istore (lv' := [(4, .int (if x4 < r1 then r1 else x4)), (1, .int x1), (2, .int x2), (3, .int x3), (5, .int x5), (6, .int x6)]) hx hb dX6_worst_62 hl (by decide) rfl (fun ls hl => ?_)
    refine lv_iinc (v := x6 + (1 : Int32)) (lv' := [(6, .int (x6 + (1 : Int32))), (4, .int (if x4 < r1 then r1 else x4)), (1, .int x1), (2, .int x2), (3, .int x3), (5, .int x5)]) hx hb dX6_worst_64 hl (k := 5) rfl rfl (by decide) rfl (fun ls hl => ?_)
    refine lv_goto (tgt := 41) hx hb dX6_worst_67 (by decide) ?_
    exact hk41 _ _ _ _ _ _ _ _ _ _  h hw (lv_sub hl [2, 3, 4, 1, 5, 0] rfl)
set_option maxHeartbeats 4000000 in
set_option maxRecDepth 100000 in
theorem tl_X6_worst_41 {p : Program} {l : Launch} {e : Env} {s : State} {m : MethodId} {args : Array Value} {below : List Frame} {meth : Method} {c : Code} {Q : State → Prop} {D : va_G} {I : ch_Id} {sh : Nat → Nat} {A : Nat → Prop} {oo : Int32 × ch_Mem}    {k18 : Int32 → Int32 → Int32 → Int32 → Int32 → ch_Mem → Option (Int32 × ch_Mem)} (S : CallFix p m c cX6_worst 7 s args wsX6_worst RX6) (fin : ch_FinI p l e rm_X6_worst s m args below meth c cX6_worst Q D I 40 (ch_FC I sh) sh A oo) (hk18 : ∀ (x1 : Int32) (x2 : Int32) (x3 : Int32) (x4 : Int32) (x5 : Int32) (M : ch_Mem) (H : Heap) (locs : List Loc) (ls : Array Slot), k18 x1 x2 x3 x4 x5 M = some oo → ch_Wd D I 40 (ch_FC I sh) sh s A M H locs → lv_has ls 7 [(1, .int x1), (2, .int x2), (3, .int x3), (4, .int x4), (5, .int x5)] → W p l e rm_X6_worst s m args below meth c H locs 0 0 Q (F0 m 18 ls [])) (n : Nat) : ∀ (x1 : Int32) (x2 : Int32) (x3 : Int32) (x4 : Int32) (x5 : Int32) (x6 : Int32) (M : ch_Mem) (H : Heap) (locs : List Loc) (ls : Array Slot), D_X6_worst_L41 k18 n x1 x2 x3 x4 x5 x6 M = some oo → ch_Wd D I 40 (ch_FC I sh) sh s A M H locs → lv_has ls 7 [(1, .int x1), (2, .int x2), (3, .int x3), (4, .int x4), (5, .int x5), (6, .int x6)] → W p l e rm_X6_worst s m args below meth c H locs 0 0 Q (F0 m 41 ls []) := by
  induction n with
  | zero => intro x1 x2 x3 x4 x5 x6 M H locs ls  h; cases h
  | succ n ih =>
    intro x1 x2 x3 x4 x5 x6 M H locs ls  h hw hl
    exact t_X6_worst_41 S fin hk18 ih h hw hl
set_option maxHeartbeats 4000000 in
set_option maxRecDepth 100000 in
theorem t_X6_worst_39 {p : Program} {l : Launch} {e : Env} {s : State} {m : MethodId} {args : Array Value} {below : List Frame} {meth : Method} {c : Code} {Q : State → Prop} {D : va_G} {I : ch_Id} {sh : Nat → Nat} {A : Nat → Prop} {oo : Int32 × ch_Mem}    {k18 : Int32 → Int32 → Int32 → Int32 → Int32 → ch_Mem → Option (Int32 × ch_Mem)} (S : CallFix p m c cX6_worst 7 s args wsX6_worst RX6) (fin : ch_FinI p l e rm_X6_worst s m args below meth c cX6_worst Q D I 40 (ch_FC I sh) sh A oo) (hk18 : ∀ (x1 : Int32) (x2 : Int32) (x3 : Int32) (x4 : Int32) (x5 : Int32) (M : ch_Mem) (H : Heap) (locs : List Loc) (ls : Array Slot), k18 x1 x2 x3 x4 x5 M = some oo → ch_Wd D I 40 (ch_FC I sh) sh s A M H locs → lv_has ls 7 [(1, .int x1), (2, .int x2), (3, .int x3), (4, .int x4), (5, .int x5)] → W p l e rm_X6_worst s m args below meth c H locs 0 0 Q (F0 m 18 ls [])) {x1 : Int32} {x2 : Int32} {x3 : Int32} {x4 : Int32} {x5 : Int32} {y0 : Int32}  {M : ch_Mem} {H : Heap} {locs : List Loc} {ls : Array Slot} (h : D_X6_worst_b39 k18 x1 x2 x3 x4 x5 y0 M = some oo) (hw : ch_Wd D I 40 (ch_FC I sh) sh s A M H locs) (hl : lv_has ls 7 [(1, .int x1), (2, .int x2), (3, .int x3), (4, .int x4), (5, .int x5)]) : W p l e rm_X6_worst s m args below meth c H locs 0 0 Q (F0 m 39 ls [.int y0]) := by
  obtain ⟨hx, hb, hml, hown, hts⟩ := id S
  unfold D_X6_worst_b39 at h
  refine lv_istore (lv' := [(6, .int y0), (1, .int x1), (2, .int x2), (3, .int x3), (4, .int x4), (5, .int x5)]) hx hb dX6_worst_39 hl (by decide) rfl (fun ls hl => ?_)
  exact tl_X6_worst_41 S fin hk18 ch_fu _ _ _ _ _ _ _ _ _ _ h hw (lv_sub hl [1, 2, 3, 4, 5, 0] rfl)
set_option maxHeartbeats 4000000 in
set_option maxRecDepth 100000 in
theorem t_X6_worst_38 {p : Program} {l : Launch} {e : Env} {s : State} {m : MethodId} {args : Array Value} {below : List Frame} {meth : Method} {c : Code} {Q : State → Prop} {D : va_G} {I : ch_Id} {sh : Nat → Nat} {A : Nat → Prop} {oo : Int32 × ch_Mem}    {k18 : Int32 → Int32 → Int32 → Int32 → Int32 → ch_Mem → Option (Int32 × ch_Mem)} (S : CallFix p m c cX6_worst 7 s args wsX6_worst RX6) (fin : ch_FinI p l e rm_X6_worst s m args below meth c cX6_worst Q D I 40 (ch_FC I sh) sh A oo) (hk18 : ∀ (x1 : Int32) (x2 : Int32) (x3 : Int32) (x4 : Int32) (x5 : Int32) (M : ch_Mem) (H : Heap) (locs : List Loc) (ls : Array Slot), k18 x1 x2 x3 x4 x5 M = some oo → ch_Wd D I 40 (ch_FC I sh) sh s A M H locs → lv_has ls 7 [(1, .int x1), (2, .int x2), (3, .int x3), (4, .int x4), (5, .int x5)] → W p l e rm_X6_worst s m args below meth c H locs 0 0 Q (F0 m 18 ls [])) {x1 : Int32} {x2 : Int32} {x3 : Int32} {x4 : Int32} {x5 : Int32}  {M : ch_Mem} {H : Heap} {locs : List Loc} {ls : Array Slot} (h : D_X6_worst_b38 k18 x1 x2 x3 x4 x5 M = some oo) (hw : ch_Wd D I 40 (ch_FC I sh) sh s A M H locs) (hl : lv_has ls 7 [(1, .int x1), (2, .int x2), (3, .int x3), (4, .int x4), (5, .int x5)]) : W p l e rm_X6_worst s m args below meth c H locs 0 0 Q (F0 m 38 ls []) := by
  obtain ⟨hx, hb, hml, hown, hts⟩ := id S
  unfold D_X6_worst_b38 at h
  refine lv_iconst (v := (0 : Int32)) hx hb dX6_worst_38 (by decide) ?_
  exact t_X6_worst_39 S fin hk18 h hw (lv_sub hl [0, 1, 2, 3, 4] rfl)
set_option maxHeartbeats 4000000 in
set_option maxRecDepth 100000 in
theorem t_X6_worst_76 {p : Program} {l : Launch} {e : Env} {s : State} {m : MethodId} {args : Array Value} {below : List Frame} {meth : Method} {c : Code} {Q : State → Prop} {D : va_G} {I : ch_Id} {sh : Nat → Nat} {A : Nat → Prop} {oo : Int32 × ch_Mem}     (S : CallFix p m c cX6_worst 7 s args wsX6_worst RX6) (fin : ch_FinI p l e rm_X6_worst s m args below meth c cX6_worst Q D I 40 (ch_FC I sh) sh A oo)  {x4 : Int32}  {M : ch_Mem} {H : Heap} {locs : List Loc} {ls : Array Slot} (h : D_X6_worst_b76 x4 M = some oo) (hw : ch_Wd D I 40 (ch_FC I sh) sh s A M H locs) (hl : lv_has ls 7 [(4, .int x4)]) : W p l e rm_X6_worst s m args below meth c H locs 0 0 Q (F0 m 76 ls []) := by
  obtain ⟨hx, hb, hml, hown, hts⟩ := id S
  unfold D_X6_worst_b76 at h
  refine lv_iload hx hb dX6_worst_76 (lv_at hl 0 rfl) ?_
  exact fin _ _ _ _ _ _ h hw dX6_worst_78
set_option maxHeartbeats 4000000 in
set_option maxRecDepth 100000 in
theorem t_X6_worst_18 {p : Program} {l : Launch} {e : Env} {s : State} {m : MethodId} {args : Array Value} {below : List Frame} {meth : Method} {c : Code} {Q : State → Prop} {D : va_G} {I : ch_Id} {sh : Nat → Nat} {A : Nat → Prop} {oo : Int32 × ch_Mem}    {k18 : Int32 → Int32 → Int32 → Int32 → Int32 → ch_Mem → Option (Int32 × ch_Mem)} (S : CallFix p m c cX6_worst 7 s args wsX6_worst RX6) (fin : ch_FinI p l e rm_X6_worst s m args below meth c cX6_worst Q D I 40 (ch_FC I sh) sh A oo) (hk18 : ∀ (x1 : Int32) (x2 : Int32) (x3 : Int32) (x4 : Int32) (x5 : Int32) (M : ch_Mem) (H : Heap) (locs : List Loc) (ls : Array Slot), k18 x1 x2 x3 x4 x5 M = some oo → ch_Wd D I 40 (ch_FC I sh) sh s A M H locs → lv_has ls 7 [(1, .int x1), (2, .int x2), (3, .int x3), (4, .int x4), (5, .int x5)] → W p l e rm_X6_worst s m args below meth c H locs 0 0 Q (F0 m 18 ls [])) {x1 : Int32} {x2 : Int32} {x3 : Int32} {x4 : Int32} {x5 : Int32}  {M : ch_Mem} {H : Heap} {locs : List Loc} {ls : Array Slot} (h : D_X6_worst_b18 k18 x1 x2 x3 x4 x5 M = some oo) (hw : ch_Wd D I 40 (ch_FC I sh) sh s A M H locs) (hl : lv_has ls 7 [(1, .int x1), (2, .int x2), (3, .int x3), (4, .int x4), (5, .int x5)]) : W p l e rm_X6_worst s m args below meth c H locs 0 0 Q (F0 m 18 ls []) := by
  obtain ⟨hx, hb, hml, hown, hts⟩ := id S
  unfold D_X6_worst_b18 at h
  refine lv_iload hx hb dX6_worst_18 (lv_at hl 4 rfl) ?_
  refine lv_iload_n hx hb dX6_worst_20 rfl (lv_at hl 0 rfl) ?_
  refine ch_icmp_ge (tgt := 76) hx hb dX6_worst_21 (by decide) h (fun h => ?_) (fun h => ?_)
  · exact t_X6_worst_76 S fin h hw (lv_sub hl [3] rfl)
  · refine lv_iload_n hx hb dX6_worst_24 rfl (lv_at hl 1 rfl) ?_
    refine lv_iload_n hx hb dX6_worst_25 rfl (lv_at hl 2 rfl) ?_
    refine ch_icmp_ne (tgt := 38) hx hb dX6_worst_26 (by decide) h (fun h => ?_) (fun h => ?_)
    · exact t_X6_worst_38 S fin hk18 h hw (lv_sub hl [0, 1, 2, 3, 4] rfl)
    · refine lv_iload hx hb dX6_worst_29 (lv_at hl 4 rfl) ?_
      refine ch_if_ne (tgt := 38) hx hb dX6_worst_31 (by decide) h (fun h => ?_) (fun h => ?_)
      · exact t_X6_worst_38 S fin hk18 h hw (lv_sub hl [0, 1, 2, 3, 4] rfl)
      · refine lv_iconst (v := (1 : Int32)) hx hb dX6_worst_34 (by decide) ?_
        refine lv_goto (tgt := 39) hx hb dX6_worst_35 (by decide) ?_
        exact t_X6_worst_39 S fin hk18 h hw (lv_sub hl [0, 1, 2, 3, 4] rfl)
set_option maxHeartbeats 4000000 in
set_option maxRecDepth 100000 in
theorem tl_X6_worst_18 {p : Program} {l : Launch} {e : Env} {s : State} {m : MethodId} {args : Array Value} {below : List Frame} {meth : Method} {c : Code} {Q : State → Prop} {D : va_G} {I : ch_Id} {sh : Nat → Nat} {A : Nat → Prop} {oo : Int32 × ch_Mem}     (S : CallFix p m c cX6_worst 7 s args wsX6_worst RX6) (fin : ch_FinI p l e rm_X6_worst s m args below meth c cX6_worst Q D I 40 (ch_FC I sh) sh A oo)  (n : Nat) : ∀ (x1 : Int32) (x2 : Int32) (x3 : Int32) (x4 : Int32) (x5 : Int32) (M : ch_Mem) (H : Heap) (locs : List Loc) (ls : Array Slot), D_X6_worst_L18  n x1 x2 x3 x4 x5 M = some oo → ch_Wd D I 40 (ch_FC I sh) sh s A M H locs → lv_has ls 7 [(1, .int x1), (2, .int x2), (3, .int x3), (4, .int x4), (5, .int x5)] → W p l e rm_X6_worst s m args below meth c H locs 0 0 Q (F0 m 18 ls []) := by
  induction n with
  | zero => intro x1 x2 x3 x4 x5 M H locs ls  h; cases h
  | succ n ih =>
    intro x1 x2 x3 x4 x5 M H locs ls  h hw hl
    exact t_X6_worst_18 S fin ih h hw hl
set_option maxHeartbeats 4000000 in
set_option maxRecDepth 100000 in
theorem t_X6_worst_0 {p : Program} {l : Launch} {e : Env} {s : State} {m : MethodId} {args : Array Value} {below : List Frame} {meth : Method} {c : Code} {Q : State → Prop} {D : va_G} {I : ch_Id} {sh : Nat → Nat} {A : Nat → Prop} {oo : Int32 × ch_Mem}     (S : CallFix p m c cX6_worst 7 s args wsX6_worst RX6) (fin : ch_FinI p l e rm_X6_worst s m args below meth c cX6_worst Q D I 40 (ch_FC I sh) sh A oo)  {x1 : Int32} {x2 : Int32} {x3 : Int32}  {M : ch_Mem} {H : Heap} {locs : List Loc} {ls : Array Slot} (h : D_X6_worst x1 x2 x3 M = some oo) (hw : ch_Wd D I 40 (ch_FC I sh) sh s A M H locs) (hl : lv_has ls 7 [(0, .ref (sh 0)), (1, .int x1), (2, .int x2), (3, .int x3)]) : W p l e rm_X6_worst s m args below meth c H locs 0 0 Q (F0 m 0 ls []) := by
  obtain ⟨hx, hb, hml, hown, hts⟩ := id S
  unfold D_X6_worst at h
  refine lv_iload_n hx hb dX6_worst_0 rfl (lv_at hl 1 rfl) ?_
  refine lv_iload_n hx hb dX6_worst_1 rfl (lv_at hl 2 rfl) ?_
  refine lv_iload_n hx hb dX6_worst_2 rfl (lv_at hl 3 rfl) ?_
  refine ch_bd_k h (fun r1 M2 hc h => ?_)
  refine ch_ci hw (va_runS (As := [.int x1, .int x2, .int x3]) (rest := []) S (c_X6_areHops l D I sh H.size M x1 x2 x3 hc) (va_cwS 3 hts gX6_worst_X6_areHops rfl rfl rfl (by decide +kernel) ⟨Nat.le_of_ble_eq_true rfl, Nat.le_of_ble_eq_true rfl⟩) (ch_pS hw) rfl rfl hl.1 rfl (lv_room (Nat.le_of_ble_eq_true rfl)) dX6_worst_3 ⟨Nat.le_refl 0, Nat.le_refl 0⟩) (fun H locs hw => ?_)
  refine ch_if_ne (tgt := 12) hx hb dX6_worst_6 (by decide) h (fun h => ?_) (fun h => ?_)
  · refine lv_iconst (v := (0 : Int32)) hx hb dX6_worst_12 (by decide) ?_
    refine lv_istore (lv' := [(4, .int (0 : Int32)), (0, .ref (sh 0)), (1, .int x1), (2, .int x2), (3, .int x3)]) hx hb dX6_worst_13 hl (by decide) rfl (fun ls hl => ?_)
    refine lv_iconst (v := (0 : Int32)) hx hb dX6_worst_15 (by decide) ?_
    refine lv_istore (lv' := [(5, .int (0 : Int32)), (4, .int (0 : Int32)), (0, .ref (sh 0)), (1, .int x1), (2, .int x2), (3, .int x3)]) hx hb dX6_worst_16 hl (by decide) rfl (fun ls hl => ?_)
    exact tl_X6_worst_18 S fin ch_fu _ _ _ _ _ _ _ _ _ h hw (lv_sub hl [3, 4, 5, 1, 0] rfl)
  · refine lv_bipush (v := (-2 : Int32)) hx hb dX6_worst_9 (by decide) ?_
    exact fin _ _ _ _ _ _ h hw dX6_worst_11
set_option maxHeartbeats 4000000 in
set_option maxRecDepth 100000 in
theorem c_X6_worst (l : Launch) (D : va_G) (I : ch_Id) (sh : Nat → Nat) (sz : Nat) (M : ch_Mem)  (x1 : Int32) (x2 : Int32) (x3 : Int32) {r : Int32} {M1 : ch_Mem} (h : D_X6_worst x1 x2 x3 M = some (r, M1)) : Met l yX6_worst wsX6_worst rm_X6_worst (va_Pc [.ref (sh 0), .int x1, .int x2, .int x3] (ch_Pre D I 40 (ch_FC I sh) sh sz M)) (va_Qi (fun r' (u : ch_Mem) => r' = r ∧ u = M1) (ch_Pos D 40 (ch_FC I sh) sh) (ch_A 40 sh sz)) 0 0 (ch_A 40 sh sz) := by
  refine Met.ofW (cc := cX6_worst) (maxL := 7) (ret := (some .int)) (by decide) rfl ?_
  intro p e s m args below meth c s₁ B hml hv0
  obtain ⟨rfl, hv0⟩ := hv0
  obtain rfl : s.heap.size = sz := hv0.1
  have hw := ch_start hv0
  have S : CallFix p m c cX6_worst 7 s _ wsX6_worst RX6 := ⟨B.exec, B.bytes, hml, findClass_of_methodNamed B.named, atoms_spec (ws := wsX6_worst) B.pre⟩
  have hl := lv_entry ([.ref (sh 0), .int x1, .int x2, .int x3]) (n := 7) (Nat.le_of_ble_eq_true rfl)
  rw [lg_entry_eq]
  generalize (lg_sl ([.ref (sh 0), .int x1, .int x2, .int x3]) ++ List.replicate (7 - (lg_sl ([.ref (sh 0), .int x1, .int x2, .int x3])).length) Slot.unset).toArray = ls at hl ⊢
  exact t_X6_worst_0 S (ch_finI (B := fun _ => True) B.exec B.bytes B.returns B.notSynchronized) h hw (lv_sub hl [0, 1, 2, 3] rfl)
set_option maxHeartbeats 4000000 in
set_option maxRecDepth 100000 in
theorem t_X7_in_0 {p : Program} {l : Launch} {e : Env} {s : State} {m : MethodId} {args : Array Value} {below : List Frame} {meth : Method} {c : Code} {Q : State → Prop} {D : va_G} {I : ch_Id} {sh : Nat → Nat} {A : Nat → Prop} {oo : Int32 × ch_Mem}     (S : CallFix p m c cX7_in 3 s args wsX7_in RX7) (fin : ch_FinZ p l e rm_X7_in s m args below meth c cX7_in Q D I 13 (ch_FM I sh) sh A oo)  {x0 : Int32} {x1 : Int32} {x2 : Int32}  {M : ch_Mem} {H : Heap} {locs : List Loc} {ls : Array Slot} (h : D_X7_in x0 x1 x2 M = some oo) (hw : ch_Wd D I 13 (ch_FM I sh) sh s A M H locs) (hl : lv_has ls 3 [(0, .int x0), (1, .int x1), (2, .int x2)]) : W p l e rm_X7_in s m args below meth c H locs 0 0 Q (F0 m 0 ls []) := by
  obtain ⟨hx, hb, hml, hown, hts⟩ := id S
  unfold D_X7_in at h
  refine lv_iload_n hx hb dX7_in_0 rfl (lv_at hl 0 rfl) ?_
  refine lv_iload_n hx hb dX7_in_1 rfl (lv_at hl 1 rfl) ?_
  refine ch_icmp_lt (tgt := 14) hx hb dX7_in_2 (by decide) h (fun h => ?_) (fun h => ?_)
  · refine lv_iconst (v := (0 : Int32)) hx hb dX7_in_14 (by decide) ?_
    exact fin _ _ _ _ _ _ rfl h hw dX7_in_15
  · refine lv_iload_n hx hb dX7_in_5 rfl (lv_at hl 0 rfl) ?_
    refine lv_iload_n hx hb dX7_in_6 rfl (lv_at hl 2 rfl) ?_
    refine ch_icmp_gt (tgt := 14) hx hb dX7_in_7 (by decide) h (fun h => ?_) (fun h => ?_)
    · refine lv_iconst (v := (0 : Int32)) hx hb dX7_in_14 (by decide) ?_
      exact fin _ _ _ _ _ _ rfl h hw dX7_in_15
    · refine lv_iconst (v := (1 : Int32)) hx hb dX7_in_10 (by decide) ?_
      refine lv_goto (tgt := 15) hx hb dX7_in_11 (by decide) ?_
      exact fin _ _ _ _ _ _ rfl h hw dX7_in_15
set_option maxHeartbeats 4000000 in
set_option maxRecDepth 100000 in
theorem c_X7_in (l : Launch) (D : va_G) (I : ch_Id) (sh : Nat → Nat) (sz : Nat) (M : ch_Mem)  (x0 : Int32) (x1 : Int32) (x2 : Int32) {r : Int32} {M1 : ch_Mem} (h : D_X7_in x0 x1 x2 M = some (r, M1)) : Met l yX7_in wsX7_in rm_X7_in (va_Pc [.int x0, .int x1, .int x2] (ch_Pre D I 13 (ch_FM I sh) sh sz M)) (va_Qi (fun r' (u : ch_Mem) => r' = r ∧ u = M1) (ch_Pos D 13 (ch_FM I sh) sh) (ch_A 13 sh sz)) 0 0 (ch_A 13 sh sz) := by
  refine Met.ofW (cc := cX7_in) (maxL := 3) (ret := (some .boolean)) (by decide) rfl ?_
  intro p e s m args below meth c s₁ B hml hv0
  obtain ⟨rfl, hv0⟩ := hv0
  obtain rfl : s.heap.size = sz := hv0.1
  have hw := ch_start hv0
  have S : CallFix p m c cX7_in 3 s _ wsX7_in RX7 := ⟨B.exec, B.bytes, hml, findClass_of_methodNamed B.named, atoms_spec (ws := wsX7_in) B.pre⟩
  have hl := lv_entry ([.int x0, .int x1, .int x2]) (n := 3) (Nat.le_of_ble_eq_true rfl)
  rw [lg_entry_eq]
  generalize (lg_sl ([.int x0, .int x1, .int x2]) ++ List.replicate (3 - (lg_sl ([.int x0, .int x1, .int x2])).length) Slot.unset).toArray = ls at hl ⊢
  exact t_X7_in_0 S (ch_finZ B.exec B.bytes B.returns B.notSynchronized) h hw (lv_sub hl [0, 1, 2] rfl)
set_option maxHeartbeats 4000000 in
set_option maxRecDepth 100000 in
theorem t_X7_isRow_0 {p : Program} {l : Launch} {e : Env} {s : State} {m : MethodId} {args : Array Value} {below : List Frame} {meth : Method} {c : Code} {Q : State → Prop} {D : va_G} {I : ch_Id} {sh : Nat → Nat} {A : Nat → Prop} {oo : Int32 × ch_Mem}     (S : CallFix p m c cX7_isRow 1 s args wsX7_isRow RX7) (fin : ch_FinZ p l e rm_X7_isRow s m args below meth c cX7_isRow Q D I 13 (ch_FM I sh) sh A oo)  {x0 : Int32}  {M : ch_Mem} {H : Heap} {locs : List Loc} {ls : Array Slot} (h : D_X7_isRow x0 M = some oo) (hw : ch_Wd D I 13 (ch_FM I sh) sh s A M H locs) (hl : lv_has ls 1 [(0, .int x0)]) : W p l e rm_X7_isRow s m args below meth c H locs 0 0 Q (F0 m 0 ls []) := by
  obtain ⟨hx, hb, hml, hown, hts⟩ := id S
  unfold D_X7_isRow at h
  refine lv_iload_n hx hb dX7_isRow_0 rfl (lv_at hl 0 rfl) ?_
  refine lv_iconst (v := (0 : Int32)) hx hb dX7_isRow_1 (by decide) ?_
  refine lv_bipush (v := (7 : Int32)) hx hb dX7_isRow_2 (by decide) ?_
  refine ch_bd_k h (fun r1 M2 hc h => ?_)
  refine ch_ci hw (va_runS (As := [.int x0, .int (0 : Int32), .int (7 : Int32)]) (rest := []) S (c_X7_in l D I sh H.size M x0 (0 : Int32) (7 : Int32) hc) (va_cwS 3 hts gX7_isRow_X7_in rfl rfl rfl (by decide +kernel) ⟨Nat.le_of_ble_eq_true rfl, Nat.le_of_ble_eq_true rfl⟩) (ch_pS hw) rfl rfl hl.1 rfl (lv_room (Nat.le_of_ble_eq_true rfl)) dX7_isRow_4 ⟨Nat.le_refl 0, Nat.le_refl 0⟩) (fun H locs hw => ?_)
  exact fin _ _ _ _ _ _ (ch_b_X7_in hc) h hw dX7_isRow_7
set_option maxHeartbeats 4000000 in
set_option maxRecDepth 100000 in
theorem c_X7_isRow (l : Launch) (D : va_G) (I : ch_Id) (sh : Nat → Nat) (sz : Nat) (M : ch_Mem)  (x0 : Int32) {r : Int32} {M1 : ch_Mem} (h : D_X7_isRow x0 M = some (r, M1)) : Met l yX7_isRow wsX7_isRow rm_X7_isRow (va_Pc [.int x0] (ch_Pre D I 13 (ch_FM I sh) sh sz M)) (va_Qi (fun r' (u : ch_Mem) => r' = r ∧ u = M1) (ch_Pos D 13 (ch_FM I sh) sh) (ch_A 13 sh sz)) 0 0 (ch_A 13 sh sz) := by
  refine Met.ofW (cc := cX7_isRow) (maxL := 1) (ret := (some .boolean)) (by decide) rfl ?_
  intro p e s m args below meth c s₁ B hml hv0
  obtain ⟨rfl, hv0⟩ := hv0
  obtain rfl : s.heap.size = sz := hv0.1
  have hw := ch_start hv0
  have S : CallFix p m c cX7_isRow 1 s _ wsX7_isRow RX7 := ⟨B.exec, B.bytes, hml, findClass_of_methodNamed B.named, atoms_spec (ws := wsX7_isRow) B.pre⟩
  have hl := lv_entry ([.int x0]) (n := 1) (Nat.le_of_ble_eq_true rfl)
  rw [lg_entry_eq]
  generalize (lg_sl ([.int x0]) ++ List.replicate (1 - (lg_sl ([.int x0])).length) Slot.unset).toArray = ls at hl ⊢
  exact t_X7_isRow_0 S (ch_finZ B.exec B.bytes B.returns B.notSynchronized) h hw (lv_sub hl [0] rfl)
set_option maxHeartbeats 4000000 in
set_option maxRecDepth 100000 in
theorem t_X7_isReel_0 {p : Program} {l : Launch} {e : Env} {s : State} {m : MethodId} {args : Array Value} {below : List Frame} {meth : Method} {c : Code} {Q : State → Prop} {D : va_G} {I : ch_Id} {sh : Nat → Nat} {A : Nat → Prop} {oo : Int32 × ch_Mem}     (S : CallFix p m c cX7_isReel 1 s args wsX7_isReel RX7) (fin : ch_FinZ p l e rm_X7_isReel s m args below meth c cX7_isReel Q D I 13 (ch_FM I sh) sh A oo)  {x0 : Int32}  {M : ch_Mem} {H : Heap} {locs : List Loc} {ls : Array Slot} (h : D_X7_isReel x0 M = some oo) (hw : ch_Wd D I 13 (ch_FM I sh) sh s A M H locs) (hl : lv_has ls 1 [(0, .int x0)]) : W p l e rm_X7_isReel s m args below meth c H locs 0 0 Q (F0 m 0 ls []) := by
  obtain ⟨hx, hb, hml, hown, hts⟩ := id S
  unfold D_X7_isReel at h
  refine lv_iload_n hx hb dX7_isReel_0 rfl (lv_at hl 0 rfl) ?_
  refine lv_iconst (v := (0 : Int32)) hx hb dX7_isReel_1 (by decide) ?_
  refine lv_iconst (v := (3 : Int32)) hx hb dX7_isReel_2 (by decide) ?_
  refine ch_bd_k h (fun r1 M2 hc h => ?_)
  refine ch_ci hw (va_runS (As := [.int x0, .int (0 : Int32), .int (3 : Int32)]) (rest := []) S (c_X7_in l D I sh H.size M x0 (0 : Int32) (3 : Int32) hc) (va_cwS 3 hts gX7_isReel_X7_in rfl rfl rfl (by decide +kernel) ⟨Nat.le_of_ble_eq_true rfl, Nat.le_of_ble_eq_true rfl⟩) (ch_pS hw) rfl rfl hl.1 rfl (lv_room (Nat.le_of_ble_eq_true rfl)) dX7_isReel_3 ⟨Nat.le_refl 0, Nat.le_refl 0⟩) (fun H locs hw => ?_)
  exact fin _ _ _ _ _ _ (ch_b_X7_in hc) h hw dX7_isReel_6
set_option maxHeartbeats 4000000 in
set_option maxRecDepth 100000 in
theorem c_X7_isReel (l : Launch) (D : va_G) (I : ch_Id) (sh : Nat → Nat) (sz : Nat) (M : ch_Mem)  (x0 : Int32) {r : Int32} {M1 : ch_Mem} (h : D_X7_isReel x0 M = some (r, M1)) : Met l yX7_isReel wsX7_isReel rm_X7_isReel (va_Pc [.int x0] (ch_Pre D I 13 (ch_FM I sh) sh sz M)) (va_Qi (fun r' (u : ch_Mem) => r' = r ∧ u = M1) (ch_Pos D 13 (ch_FM I sh) sh) (ch_A 13 sh sz)) 0 0 (ch_A 13 sh sz) := by
  refine Met.ofW (cc := cX7_isReel) (maxL := 1) (ret := (some .boolean)) (by decide) rfl ?_
  intro p e s m args below meth c s₁ B hml hv0
  obtain ⟨rfl, hv0⟩ := hv0
  obtain rfl : s.heap.size = sz := hv0.1
  have hw := ch_start hv0
  have S : CallFix p m c cX7_isReel 1 s _ wsX7_isReel RX7 := ⟨B.exec, B.bytes, hml, findClass_of_methodNamed B.named, atoms_spec (ws := wsX7_isReel) B.pre⟩
  have hl := lv_entry ([.int x0]) (n := 1) (Nat.le_of_ble_eq_true rfl)
  rw [lg_entry_eq]
  generalize (lg_sl ([.int x0]) ++ List.replicate (1 - (lg_sl ([.int x0])).length) Slot.unset).toArray = ls at hl ⊢
  exact t_X7_isReel_0 S (ch_finZ B.exec B.bytes B.returns B.notSynchronized) h hw (lv_sub hl [0] rfl)
set_option maxHeartbeats 4000000 in
set_option maxRecDepth 100000 in
theorem t_X7_isShift_0 {p : Program} {l : Launch} {e : Env} {s : State} {m : MethodId} {args : Array Value} {below : List Frame} {meth : Method} {c : Code} {Q : State → Prop} {D : va_G} {I : ch_Id} {sh : Nat → Nat} {A : Nat → Prop} {oo : Int32 × ch_Mem}     (S : CallFix p m c cX7_isShift 1 s args wsX7_isShift RX7) (fin : ch_FinZ p l e rm_X7_isShift s m args below meth c cX7_isShift Q D I 13 (ch_FM I sh) sh A oo)  {x0 : Int32}  {M : ch_Mem} {H : Heap} {locs : List Loc} {ls : Array Slot} (h : D_X7_isShift x0 M = some oo) (hw : ch_Wd D I 13 (ch_FM I sh) sh s A M H locs) (hl : lv_has ls 1 [(0, .int x0)]) : W p l e rm_X7_isShift s m args below meth c H locs 0 0 Q (F0 m 0 ls []) := by
  obtain ⟨hx, hb, hml, hown, hts⟩ := id S
  unfold D_X7_isShift at h
  refine lv_iload_n hx hb dX7_isShift_0 rfl (lv_at hl 0 rfl) ?_
  refine lv_iconst (v := (0 : Int32)) hx hb dX7_isShift_1 (by decide) ?_
  refine lv_bipush (v := (126 : Int32)) hx hb dX7_isShift_2 (by decide) ?_
  refine ch_bd_k h (fun r1 M2 hc h => ?_)
  refine ch_ci hw (va_runS (As := [.int x0, .int (0 : Int32), .int (126 : Int32)]) (rest := []) S (c_X7_in l D I sh H.size M x0 (0 : Int32) (126 : Int32) hc) (va_cwS 3 hts gX7_isShift_X7_in rfl rfl rfl (by decide +kernel) ⟨Nat.le_of_ble_eq_true rfl, Nat.le_of_ble_eq_true rfl⟩) (ch_pS hw) rfl rfl hl.1 rfl (lv_room (Nat.le_of_ble_eq_true rfl)) dX7_isShift_4 ⟨Nat.le_refl 0, Nat.le_refl 0⟩) (fun H locs hw => ?_)
  exact fin _ _ _ _ _ _ (ch_b_X7_in hc) h hw dX7_isShift_7
set_option maxHeartbeats 4000000 in
set_option maxRecDepth 100000 in
theorem c_X7_isShift (l : Launch) (D : va_G) (I : ch_Id) (sh : Nat → Nat) (sz : Nat) (M : ch_Mem)  (x0 : Int32) {r : Int32} {M1 : ch_Mem} (h : D_X7_isShift x0 M = some (r, M1)) : Met l yX7_isShift wsX7_isShift rm_X7_isShift (va_Pc [.int x0] (ch_Pre D I 13 (ch_FM I sh) sh sz M)) (va_Qi (fun r' (u : ch_Mem) => r' = r ∧ u = M1) (ch_Pos D 13 (ch_FM I sh) sh) (ch_A 13 sh sz)) 0 0 (ch_A 13 sh sz) := by
  refine Met.ofW (cc := cX7_isShift) (maxL := 1) (ret := (some .boolean)) (by decide) rfl ?_
  intro p e s m args below meth c s₁ B hml hv0
  obtain ⟨rfl, hv0⟩ := hv0
  obtain rfl : s.heap.size = sz := hv0.1
  have hw := ch_start hv0
  have S : CallFix p m c cX7_isShift 1 s _ wsX7_isShift RX7 := ⟨B.exec, B.bytes, hml, findClass_of_methodNamed B.named, atoms_spec (ws := wsX7_isShift) B.pre⟩
  have hl := lv_entry ([.int x0]) (n := 1) (Nat.le_of_ble_eq_true rfl)
  rw [lg_entry_eq]
  generalize (lg_sl ([.int x0]) ++ List.replicate (1 - (lg_sl ([.int x0])).length) Slot.unset).toArray = ls at hl ⊢
  exact t_X7_isShift_0 S (ch_finZ B.exec B.bytes B.returns B.notSynchronized) h hw (lv_sub hl [0] rfl)
set_option maxHeartbeats 4000000 in
set_option maxRecDepth 100000 in
theorem t_X7_meets_0 {p : Program} {l : Launch} {e : Env} {s : State} {m : MethodId} {args : Array Value} {below : List Frame} {meth : Method} {c : Code} {Q : State → Prop} {D : va_G} {I : ch_Id} {sh : Nat → Nat} {A : Nat → Prop} {oo : Int32 × ch_Mem}     (S : CallFix p m c cX7_meets 2 s args wsX7_meets RX7) (fin : ch_FinI p l e rm_X7_meets s m args below meth c cX7_meets Q D I 13 (ch_FM I sh) sh A oo)  {x1 : Int32}  {M : ch_Mem} {H : Heap} {locs : List Loc} {ls : Array Slot} (h : D_X7_meets x1 M = some oo) (hw : ch_Wd D I 13 (ch_FM I sh) sh s A M H locs) (hl : lv_has ls 2 [(0, .ref (sh 0)), (1, .int x1)]) : W p l e rm_X7_meets s m args below meth c H locs 0 0 Q (F0 m 0 ls []) := by
  obtain ⟨hx, hb, hml, hown, hts⟩ := id S
  unfold D_X7_meets at h
  refine lv_aload_n hx hb dX7_meets_0 rfl (lv_at hl 0 rfl) ?_
  refine lv_iload_n hx hb dX7_meets_1 rfl (lv_at hl 1 rfl) ?_
  refine ch_put (M1 := ch_wI M 0 18 x1) (ty := .int) S hw 0 (by decide) rfl rfl (by decide +kernel) tyX7 tyX7_ok nmX7 18 (by decide) (hts (.fieldLink RX7 149 "CodeHuntModel" "finding" "I") (by decide +kernel)) rfl (by decide +kernel) rfl rfl (Nat.le_of_ble_eq_true rfl) (ch_cf_wI (j := 18) (v := x1) rfl) dX7_meets_2 (fun H locs hw => ?_)
  refine lv_bipush (v := (-10 : Int32)) hx hb dX7_meets_5 (by decide) ?_
  refine lv_iload_n hx hb dX7_meets_7 rfl (lv_at hl 1 rfl) ?_
  refine lv_isub hx hb dX7_meets_8 ?_
  exact fin _ _ _ _ _ _ h hw dX7_meets_9
set_option maxHeartbeats 4000000 in
set_option maxRecDepth 100000 in
theorem c_X7_meets (l : Launch) (D : va_G) (I : ch_Id) (sh : Nat → Nat) (sz : Nat) (M : ch_Mem)  (x1 : Int32) {r : Int32} {M1 : ch_Mem} (h : D_X7_meets x1 M = some (r, M1)) : Met l yX7_meets wsX7_meets rm_X7_meets (va_Pc [.ref (sh 0), .int x1] (ch_Pre D I 13 (ch_FM I sh) sh sz M)) (va_Qi (fun r' (u : ch_Mem) => r' = r ∧ u = M1) (ch_Pos D 13 (ch_FM I sh) sh) (ch_A 13 sh sz)) 0 0 (ch_A 13 sh sz) := by
  refine Met.ofW (cc := cX7_meets) (maxL := 2) (ret := (some .int)) (by decide) rfl ?_
  intro p e s m args below meth c s₁ B hml hv0
  obtain ⟨rfl, hv0⟩ := hv0
  obtain rfl : s.heap.size = sz := hv0.1
  have hw := ch_start hv0
  have S : CallFix p m c cX7_meets 2 s _ wsX7_meets RX7 := ⟨B.exec, B.bytes, hml, findClass_of_methodNamed B.named, atoms_spec (ws := wsX7_meets) B.pre⟩
  have hl := lv_entry ([.ref (sh 0), .int x1]) (n := 2) (Nat.le_of_ble_eq_true rfl)
  rw [lg_entry_eq]
  generalize (lg_sl ([.ref (sh 0), .int x1]) ++ List.replicate (2 - (lg_sl ([.ref (sh 0), .int x1])).length) Slot.unset).toArray = ls at hl ⊢
  exact t_X7_meets_0 S (ch_finI (B := fun _ => True) B.exec B.bytes B.returns B.notSynchronized) h hw (lv_sub hl [0, 1] rfl)
set_option maxHeartbeats 4000000 in
set_option maxRecDepth 100000 in
theorem t_X7_signOf_0 {p : Program} {l : Launch} {e : Env} {s : State} {m : MethodId} {args : Array Value} {below : List Frame} {meth : Method} {c : Code} {Q : State → Prop} {D : va_G} {I : ch_Id} {sh : Nat → Nat} {A : Nat → Prop} {oo : Int32 × ch_Mem}     (S : CallFix p m c cX7_signOf 3 s args wsX7_signOf RX7) (fin : ch_FinI p l e rm_X7_signOf s m args below meth c cX7_signOf Q D I 13 (ch_FM I sh) sh A oo)  {x1 : Int32} {x2 : Int32}  {M : ch_Mem} {H : Heap} {locs : List Loc} {ls : Array Slot} (h : D_X7_signOf x1 x2 M = some oo) (hw : ch_Wd D I 13 (ch_FM I sh) sh s A M H locs) (hl : lv_has ls 3 [(0, .ref (sh 0)), (1, .int x1), (2, .int x2)]) : W p l e rm_X7_signOf s m args below meth c H locs 0 0 Q (F0 m 0 ls []) := by
  obtain ⟨hx, hb, hml, hown, hts⟩ := id S
  unfold D_X7_signOf at h
  refine lv_aload_n hx hb dX7_signOf_0 rfl (lv_at hl 0 rfl) ?_
  refine ch_get S hw 0 (by decide) rfl rfl (by decide +kernel) 1 (by decide) (hts (.fieldLink RX7 13 "CodeHuntModel" "signs" "[I") (by decide +kernel)) rfl dX7_signOf_1 ?_
  refine lv_bipush (v := (127 : Int32)) hx hb dX7_signOf_4 (by decide) ?_
  refine lv_iload_n hx hb dX7_signOf_6 rfl (lv_at hl 1 rfl) ?_
  refine lv_imul hx hb dX7_signOf_7 ?_
  refine lv_iload_n hx hb dX7_signOf_8 rfl (lv_at hl 2 rfl) ?_
  refine lv_aload_n hx hb dX7_signOf_9 rfl (lv_at hl 0 rfl) ?_
  refine ch_get S hw 0 (by decide) rfl rfl (by decide +kernel) 0 (by decide) (hts (.fieldLink RX7 7 "CodeHuntModel" "sizesOf" "[I") (by decide +kernel)) rfl dX7_signOf_10 ?_
  refine lv_iload_n hx hb dX7_signOf_13 rfl (lv_at hl 1 rfl) ?_
  refine ch_gd_k h (fun hin h => ?_)
  refine ch_iald S hw 1 (by decide) rfl hin dX7_signOf_14 ?_
  refine ch_g0_k h (fun hne h => ?_)
  refine lv_irem hx hb dX7_signOf_15 hne ?_
  refine lv_iadd hx hb dX7_signOf_16 ?_
  refine ch_gd_k h (fun hin h => ?_)
  refine ch_iald S hw 2 (by decide) rfl hin dX7_signOf_17 ?_
  exact fin _ _ _ _ _ _ h hw dX7_signOf_18
set_option maxHeartbeats 4000000 in
set_option maxRecDepth 100000 in
theorem c_X7_signOf (l : Launch) (D : va_G) (I : ch_Id) (sh : Nat → Nat) (sz : Nat) (M : ch_Mem)  (x1 : Int32) (x2 : Int32) {r : Int32} {M1 : ch_Mem} (h : D_X7_signOf x1 x2 M = some (r, M1)) : Met l yX7_signOf wsX7_signOf rm_X7_signOf (va_Pc [.ref (sh 0), .int x1, .int x2] (ch_Pre D I 13 (ch_FM I sh) sh sz M)) (va_Qi (fun r' (u : ch_Mem) => r' = r ∧ u = M1) (ch_Pos D 13 (ch_FM I sh) sh) (ch_A 13 sh sz)) 0 0 (ch_A 13 sh sz) := by
  refine Met.ofW (cc := cX7_signOf) (maxL := 3) (ret := (some .int)) (by decide) rfl ?_
  intro p e s m args below meth c s₁ B hml hv0
  obtain ⟨rfl, hv0⟩ := hv0
  obtain rfl : s.heap.size = sz := hv0.1
  have hw := ch_start hv0
  have S : CallFix p m c cX7_signOf 3 s _ wsX7_signOf RX7 := ⟨B.exec, B.bytes, hml, findClass_of_methodNamed B.named, atoms_spec (ws := wsX7_signOf) B.pre⟩
  have hl := lv_entry ([.ref (sh 0), .int x1, .int x2]) (n := 3) (Nat.le_of_ble_eq_true rfl)
  rw [lg_entry_eq]
  generalize (lg_sl ([.ref (sh 0), .int x1, .int x2]) ++ List.replicate (3 - (lg_sl ([.ref (sh 0), .int x1, .int x2])).length) Slot.unset).toArray = ls at hl ⊢
  exact t_X7_signOf_0 S (ch_finI (B := fun _ => True) B.exec B.bytes B.returns B.notSynchronized) h hw (lv_sub hl [0, 1, 2] rfl)
set_option maxHeartbeats 4000000 in
set_option maxRecDepth 100000 in
theorem t_X7_cut_0 {p : Program} {l : Launch} {e : Env} {s : State} {m : MethodId} {args : Array Value} {below : List Frame} {meth : Method} {c : Code} {Q : State → Prop} {D : va_G} {I : ch_Id} {sh : Nat → Nat} {A : Nat → Prop} {oo : Int32 × ch_Mem}     (S : CallFix p m c cX7_cut 2 s args wsX7_cut RX7) (fin : ch_FinI p l e rm_X7_cut s m args below meth c cX7_cut Q D I 13 (ch_FM I sh) sh A oo)  {x0 : Int32} {x1 : Int32}  {M : ch_Mem} {H : Heap} {locs : List Loc} {ls : Array Slot} (h : D_X7_cut x0 x1 M = some oo) (hw : ch_Wd D I 13 (ch_FM I sh) sh s A M H locs) (hl : lv_has ls 2 [(0, .int x0), (1, .int x1)]) : W p l e rm_X7_cut s m args below meth c H locs 0 0 Q (F0 m 0 ls []) := by
  obtain ⟨hx, hb, hml, hown, hts⟩ := id S
  unfold D_X7_cut at h
  refine lv_iload_n hx hb dX7_cut_0 rfl (lv_at hl 0 rfl) ?_
  refine ch_if_ne (tgt := 9) hx hb dX7_cut_1 (by decide) h (fun h => ?_) (fun h => ?_)
  · refine lv_iload_n hx hb dX7_cut_9 rfl (lv_at hl 0 rfl) ?_
    refine lv_iconst (v := (1 : Int32)) hx hb dX7_cut_10 (by decide) ?_
    refine ch_icmp_ne (tgt := 19) hx hb dX7_cut_11 (by decide) h (fun h => ?_) (fun h => ?_)
    · refine lv_iload_n hx hb dX7_cut_19 rfl (lv_at hl 1 rfl) ?_
      exact fin _ _ _ _ _ _ h hw dX7_cut_20
    · refine lv_iload_n hx hb dX7_cut_14 rfl (lv_at hl 1 rfl) ?_
      refine lv_i2s hx hb dX7_cut_15 rfl ?_
      refine lv_goto (tgt := 20) hx hb dX7_cut_16 (by decide) ?_
      exact fin _ _ _ _ _ _ h hw dX7_cut_20
  · refine lv_iload_n hx hb dX7_cut_4 rfl (lv_at hl 1 rfl) ?_
    refine lv_i2b hx hb dX7_cut_5 rfl ?_
    refine lv_goto (tgt := 20) hx hb dX7_cut_6 (by decide) ?_
    exact fin _ _ _ _ _ _ h hw dX7_cut_20
set_option maxHeartbeats 4000000 in
set_option maxRecDepth 100000 in
theorem c_X7_cut (l : Launch) (D : va_G) (I : ch_Id) (sh : Nat → Nat) (sz : Nat) (M : ch_Mem)  (x0 : Int32) (x1 : Int32) {r : Int32} {M1 : ch_Mem} (h : D_X7_cut x0 x1 M = some (r, M1)) : Met l yX7_cut wsX7_cut rm_X7_cut (va_Pc [.int x0, .int x1] (ch_Pre D I 13 (ch_FM I sh) sh sz M)) (va_Qi (fun r' (u : ch_Mem) => r' = r ∧ u = M1) (ch_Pos D 13 (ch_FM I sh) sh) (ch_A 13 sh sz)) 0 0 (ch_A 13 sh sz) := by
  refine Met.ofW (cc := cX7_cut) (maxL := 2) (ret := (some .int)) (by decide) rfl ?_
  intro p e s m args below meth c s₁ B hml hv0
  obtain ⟨rfl, hv0⟩ := hv0
  obtain rfl : s.heap.size = sz := hv0.1
  have hw := ch_start hv0
  have S : CallFix p m c cX7_cut 2 s _ wsX7_cut RX7 := ⟨B.exec, B.bytes, hml, findClass_of_methodNamed B.named, atoms_spec (ws := wsX7_cut) B.pre⟩
  have hl := lv_entry ([.int x0, .int x1]) (n := 2) (Nat.le_of_ble_eq_true rfl)
  rw [lg_entry_eq]
  generalize (lg_sl ([.int x0, .int x1]) ++ List.replicate (2 - (lg_sl ([.int x0, .int x1])).length) Slot.unset).toArray = ls at hl ⊢
  exact t_X7_cut_0 S (ch_finI (B := fun _ => True) B.exec B.bytes B.returns B.notSynchronized) h hw (lv_sub hl [0, 1] rfl)
set_option maxHeartbeats 4000000 in
set_option maxRecDepth 100000 in
theorem t_X7_add_187 {p : Program} {l : Launch} {e : Env} {s : State} {m : MethodId} {args : Array Value} {below : List Frame} {meth : Method} {c : Code} {Q : State → Prop} {D : va_G} {I : ch_Id} {sh : Nat → Nat} {A : Nat → Prop} {oo : Int32 × ch_Mem}     (S : CallFix p m c cX7_add 9 s args wsX7_add RX7) (fin : ch_FinI p l e rm_X7_add s m args below meth c cX7_add Q D I 13 (ch_FM I sh) sh A oo)  {x6 : Int32}  {M : ch_Mem} {H : Heap} {locs : List Loc} {ls : Array Slot} (h : D_X7_add_b187 x6 M = some oo) (hw : ch_Wd D I 13 (ch_FM I sh) sh s A M H locs) (hl : lv_has ls 9 [(6, .int x6)]) : W p l e rm_X7_add s m args below meth c H locs 0 0 Q (F0 m 187 ls []) := by
  obtain ⟨hx, hb, hml, hown, hts⟩ := id S
  unfold D_X7_add_b187 at h
  refine lv_iload hx hb dX7_add_187 (lv_at hl 0 rfl) ?_
  exact fin _ _ _ _ _ _ h hw dX7_add_189
set_option maxHeartbeats 4000000 in
set_option maxRecDepth 100000 in
theorem t_X7_add_125 {p : Program} {l : Launch} {e : Env} {s : State} {m : MethodId} {args : Array Value} {below : List Frame} {meth : Method} {c : Code} {Q : State → Prop} {D : va_G} {I : ch_Id} {sh : Nat → Nat} {A : Nat → Prop} {oo : Int32 × ch_Mem}    {k125 : Int32 → Int32 → Int32 → Int32 → Int32 → Int32 → Int32 → ch_Mem → Option (Int32 × ch_Mem)} (S : CallFix p m c cX7_add 9 s args wsX7_add RX7) (fin : ch_FinI p l e rm_X7_add s m args below meth c cX7_add Q D I 13 (ch_FM I sh) sh A oo) (hk125 : ∀ (x1 : Int32) (x2 : Int32) (x3 : Int32) (x4 : Int32) (x5 : Int32) (x6 : Int32) (x7 : Int32) (M : ch_Mem) (H : Heap) (locs : List Loc) (ls : Array Slot), k125 x1 x2 x3 x4 x5 x6 x7 M = some oo → ch_Wd D I 13 (ch_FM I sh) sh s A M H locs → lv_has ls 9 [(0, .ref (sh 0)), (1, .int x1), (2, .int x2), (3, .int x3), (4, .int x4), (5, .int x5), (6, .int x6), (7, .int x7)] → W p l e rm_X7_add s m args below meth c H locs 0 0 Q (F0 m 125 ls [])) {x1 : Int32} {x2 : Int32} {x3 : Int32} {x4 : Int32} {x5 : Int32} {x6 : Int32} {x7 : Int32}  {M : ch_Mem} {H : Heap} {locs : List Loc} {ls : Array Slot} (h : D_X7_add_b125 k125 x1 x2 x3 x4 x5 x6 x7 M = some oo) (hw : ch_Wd D I 13 (ch_FM I sh) sh s A M H locs) (hl : lv_has ls 9 [(0, .ref (sh 0)), (1, .int x1), (2, .int x2), (3, .int x3), (4, .int x4), (5, .int x5), (6, .int x6), (7, .int x7)]) : W p l e rm_X7_add s m args below meth c H locs 0 0 Q (F0 m 125 ls []) := by
  obtain ⟨hx, hb, hml, hown, hts⟩ := id S
  unfold D_X7_add_b125 at h
  refine lv_iload hx hb dX7_add_125 (lv_at hl 7 rfl) ?_
  refine lv_iload hx hb dX7_add_127 (lv_at hl 6 rfl) ?_
  refine ch_icmp_ge (tgt := 187) hx hb dX7_add_129 (by decide) h (fun h => ?_) (fun h => ?_)
  · exact t_X7_add_187 S fin h hw (lv_sub hl [6] rfl)
  · refine lv_sipush (v := (300 : Int32)) hx hb dX7_add_132 (by decide) ?_
    refine lv_iload_n hx hb dX7_add_135 rfl (lv_at hl 2 rfl) ?_
    refine lv_imul hx hb dX7_add_136 ?_
    refine lv_iload_n hx hb dX7_add_137 rfl (lv_at hl 3 rfl) ?_
    refine lv_iadd hx hb dX7_add_138 ?_
    refine lv_iload hx hb dX7_add_139 (lv_at hl 7 rfl) ?_
    refine lv_iadd hx hb dX7_add_141 ?_
    refine lv_istore (lv' := [(8, .int ((((300 : Int32) * x2) + x3) + x7)), (0, .ref (sh 0)), (1, .int x1), (2, .int x2), (3, .int x3), (4, .int x4), (5, .int x5), (6, .int x6), (7, .int x7)]) hx hb dX7_add_142 hl (by decide) rfl (fun ls hl => ?_)
    refine lv_aload_n hx hb dX7_add_144 rfl (lv_at hl 1 rfl) ?_
    refine ch_get S hw 0 (by decide) rfl rfl (by decide +kernel) 16 (by decide) (hts (.fieldLink RX7 45 "CodeHuntModel" "items" "[I") (by decide +kernel)) rfl dX7_add_145 ?_
    refine lv_iload hx hb dX7_add_148 (lv_at hl 0 rfl) ?_
    refine lv_aload_n hx hb dX7_add_150 rfl (lv_at hl 1 rfl) ?_
    refine ch_get S hw 0 (by decide) rfl rfl (by decide +kernel) 14 (by decide) (hts (.fieldLink RX7 39 "CodeHuntModel" "forms" "[I") (by decide +kernel)) rfl dX7_add_151 ?_
    refine lv_iload_n hx hb dX7_add_154 rfl (lv_at hl 3 rfl) ?_
    refine ch_gd_k h (fun hin h => ?_)
    refine ch_iald S hw 9 (by decide) rfl hin dX7_add_155 ?_
    refine lv_aload_n hx hb dX7_add_156 rfl (lv_at hl 1 rfl) ?_
    refine ch_get S hw 0 (by decide) rfl rfl (by decide +kernel) 16 (by decide) (hts (.fieldLink RX7 45 "CodeHuntModel" "items" "[I") (by decide +kernel)) rfl dX7_add_157 ?_
    refine lv_iload hx hb dX7_add_160 (lv_at hl 0 rfl) ?_
    refine ch_gd_k h (fun hin h => ?_)
    refine ch_iald S hw 11 (by decide) rfl hin dX7_add_162 ?_
    refine lv_iload hx hb dX7_add_163 (lv_at hl 6 rfl) ?_
    refine lv_aload_n hx hb dX7_add_165 rfl (lv_at hl 1 rfl) ?_
    refine lv_iload_n hx hb dX7_add_166 rfl (lv_at hl 2 rfl) ?_
    refine lv_iload hx hb dX7_add_167 (lv_at hl 8 rfl) ?_
    refine lv_iload hx hb dX7_add_169 (lv_at hl 5 rfl) ?_
    refine lv_iadd hx hb dX7_add_171 ?_
    refine ch_bd_k h (fun r1 M2 hc h => ?_)
    refine ch_ci hw (va_runV (As := [.int x1, .int (x7 + x4)]) (rest := [.int x5, .int (M.1 11 ((((300 : Int32) * x2) + x3) + x7).toNatClampNeg), .int (M.1 9 x2.toNatClampNeg), .int ((((300 : Int32) * x2) + x3) + x7), .ref (sh 11)]) S (c_X7_signOf l D I sh H.size M x1 (x7 + x4) hc) (cwV 2 hts gX7_add_X7_signOf rfl rfl rfl (by decide +kernel) ⟨Nat.le_of_ble_eq_true rfl, Nat.le_of_ble_eq_true rfl⟩) (ch_pV hw (by decide) rfl rfl rfl) rfl rfl hl.1 rfl (lv_room (Nat.le_of_ble_eq_true rfl)) dX7_add_172 ⟨Nat.le_refl 0, Nat.le_refl 0⟩) (fun H locs hw => ?_)
    refine lv_imul hx hb dX7_add_175 ?_
    refine lv_iadd hx hb dX7_add_176 ?_
    refine ch_bd_k h (fun r3 M4 hc h => ?_)
    refine ch_ci hw (va_runS (As := [.int (M.1 9 x2.toNatClampNeg), .int ((M.1 11 ((((300 : Int32) * x2) + x3) + x7).toNatClampNeg) + (x5 * r1))]) (rest := [.int ((((300 : Int32) * x2) + x3) + x7), .ref (sh 11)]) S (c_X7_cut l D I sh H.size M2 (M.1 9 x2.toNatClampNeg) ((M.1 11 ((((300 : Int32) * x2) + x3) + x7).toNatClampNeg) + (x5 * r1)) hc) (va_cwS 2 hts gX7_add_X7_cut rfl rfl rfl (by decide +kernel) ⟨Nat.le_of_ble_eq_true rfl, Nat.le_of_ble_eq_true rfl⟩) (ch_pS hw) rfl rfl hl.1 rfl (lv_room (Nat.le_of_ble_eq_true rfl)) dX7_add_177 ⟨Nat.le_refl 0, Nat.le_refl 0⟩) (fun H locs hw => ?_)
    refine ch_gd_k h (fun hin h => ?_)
    refine ch_iast S hw 11 (by decide) (fun _ => rfl) hin dX7_add_180 (fun H locs hw => ?_)
    refine lv_iinc (v := x7 + (1 : Int32)) (lv' := [(7, .int (x7 + (1 : Int32))), (8, .int ((((300 : Int32) * x2) + x3) + x7)), (0, .ref (sh 0)), (1, .int x1), (2, .int x2), (3, .int x3), (4, .int x4), (5, .int x5), (6, .int x6)]) hx hb dX7_add_181 hl (k := 8) rfl rfl (by decide) rfl (fun ls hl => ?_)
    refine lv_goto (tgt := 125) hx hb dX7_add_184 (by decide) ?_
    exact hk125 _ _ _ _ _ _ _ _ _ _ _  h hw (lv_sub hl [2, 3, 4, 5, 6, 7, 8, 0] rfl)
set_option maxHeartbeats 4000000 in
set_option maxRecDepth 100000 in
theorem tl_X7_add_125 {p : Program} {l : Launch} {e : Env} {s : State} {m : MethodId} {args : Array Value} {below : List Frame} {meth : Method} {c : Code} {Q : State → Prop} {D : va_G} {I : ch_Id} {sh : Nat → Nat} {A : Nat → Prop} {oo : Int32 × ch_Mem}     (S : CallFix p m c cX7_add 9 s args wsX7_add RX7) (fin : ch_FinI p l e rm_X7_add s m args below meth c cX7_add Q D I 13 (ch_FM I sh) sh A oo)  (n : Nat) : ∀ (x1 : Int32) (x2 : Int32) (x3 : Int32) (x4 : Int32) (x5 : Int32) (x6 : Int32) (x7 : Int32) (M : ch_Mem) (H : Heap) (locs : List Loc) (ls : Array Slot), D_X7_add_L125  n x1 x2 x3 x4 x5 x6 x7 M = some oo → ch_Wd D I 13 (ch_FM I sh) sh s A M H locs → lv_has ls 9 [(0, .ref (sh 0)), (1, .int x1), (2, .int x2), (3, .int x3), (4, .int x4), (5, .int x5), (6, .int x6), (7, .int x7)] → W p l e rm_X7_add s m args below meth c H locs 0 0 Q (F0 m 125 ls []) := by
  induction n with
  | zero => intro x1 x2 x3 x4 x5 x6 x7 M H locs ls  h; cases h
  | succ n ih =>
    intro x1 x2 x3 x4 x5 x6 x7 M H locs ls  h hw hl
    exact t_X7_add_125 S fin ih h hw hl
set_option maxHeartbeats 4000000 in
set_option maxRecDepth 100000 in
theorem t_X7_add_120 {p : Program} {l : Launch} {e : Env} {s : State} {m : MethodId} {args : Array Value} {below : List Frame} {meth : Method} {c : Code} {Q : State → Prop} {D : va_G} {I : ch_Id} {sh : Nat → Nat} {A : Nat → Prop} {oo : Int32 × ch_Mem}     (S : CallFix p m c cX7_add 9 s args wsX7_add RX7) (fin : ch_FinI p l e rm_X7_add s m args below meth c cX7_add Q D I 13 (ch_FM I sh) sh A oo)  {x1 : Int32} {x2 : Int32} {x3 : Int32} {x4 : Int32} {x5 : Int32} {y0 : Int32}  {M : ch_Mem} {H : Heap} {locs : List Loc} {ls : Array Slot} (h : D_X7_add_b120 x1 x2 x3 x4 x5 y0 M = some oo) (hw : ch_Wd D I 13 (ch_FM I sh) sh s A M H locs) (hl : lv_has ls 9 [(0, .ref (sh 0)), (1, .int x1), (2, .int x2), (3, .int x3), (4, .int x4), (5, .int x5)]) : W p l e rm_X7_add s m args below meth c H locs 0 0 Q (F0 m 120 ls [.int y0]) := by
  obtain ⟨hx, hb, hml, hown, hts⟩ := id S
  unfold D_X7_add_b120 at h
  refine lv_istore (lv' := [(6, .int y0), (0, .ref (sh 0)), (1, .int x1), (2, .int x2), (3, .int x3), (4, .int x4), (5, .int x5)]) hx hb dX7_add_120 hl (by decide) rfl (fun ls hl => ?_)
  refine lv_iconst (v := (0 : Int32)) hx hb dX7_add_122 (by decide) ?_
  refine lv_istore (lv' := [(7, .int (0 : Int32)), (6, .int y0), (0, .ref (sh 0)), (1, .int x1), (2, .int x2), (3, .int x3), (4, .int x4), (5, .int x5)]) hx hb dX7_add_123 hl (by decide) rfl (fun ls hl => ?_)
  exact tl_X7_add_125 S fin ch_fu _ _ _ _ _ _ _ _ _ _ _ h hw (lv_sub hl [2, 3, 4, 5, 6, 7, 1, 0] rfl)
set_option maxHeartbeats 4000000 in
set_option maxRecDepth 100000 in
theorem t_X7_add_0 {p : Program} {l : Launch} {e : Env} {s : State} {m : MethodId} {args : Array Value} {below : List Frame} {meth : Method} {c : Code} {Q : State → Prop} {D : va_G} {I : ch_Id} {sh : Nat → Nat} {A : Nat → Prop} {oo : Int32 × ch_Mem}     (S : CallFix p m c cX7_add 9 s args wsX7_add RX7) (fin : ch_FinI p l e rm_X7_add s m args below meth c cX7_add Q D I 13 (ch_FM I sh) sh A oo)  {x1 : Int32} {x2 : Int32} {x3 : Int32} {x4 : Int32} {x5 : Int32}  {M : ch_Mem} {H : Heap} {locs : List Loc} {ls : Array Slot} (h : D_X7_add x1 x2 x3 x4 x5 M = some oo) (hw : ch_Wd D I 13 (ch_FM I sh) sh s A M H locs) (hl : lv_has ls 9 [(0, .ref (sh 0)), (1, .int x1), (2, .int x2), (3, .int x3), (4, .int x4), (5, .int x5)]) : W p l e rm_X7_add s m args below meth c H locs 0 0 Q (F0 m 0 ls []) := by
  obtain ⟨hx, hb, hml, hown, hts⟩ := id S
  unfold D_X7_add at h
  refine lv_iload_n hx hb dX7_add_0 rfl (lv_at hl 1 rfl) ?_
  refine ch_bd_k h (fun r1 M2 hc h => ?_)
  refine ch_ci hw (va_runS (As := [.int x1]) (rest := []) S (c_X7_isRow l D I sh H.size M x1 hc) (va_cwS 1 hts gX7_add_X7_isRow rfl rfl rfl (by decide +kernel) ⟨Nat.le_of_ble_eq_true rfl, Nat.le_of_ble_eq_true rfl⟩) (ch_pS hw) rfl rfl hl.1 rfl (lv_room (Nat.le_of_ble_eq_true rfl)) dX7_add_1 ⟨Nat.le_refl 0, Nat.le_refl 0⟩) (fun H locs hw => ?_)
  refine ch_if_eq (tgt := 40) hx hb dX7_add_4 (by decide) h (fun h => ?_) (fun h => ?_)
  · refine lv_bipush (v := (-2 : Int32)) hx hb dX7_add_40 (by decide) ?_
    exact fin _ _ _ _ _ _ h hw dX7_add_42
  · refine lv_iload_n hx hb dX7_add_7 rfl (lv_at hl 2 rfl) ?_
    refine ch_bd_k h (fun r3 M4 hc h => ?_)
    refine ch_ci hw (va_runS (As := [.int x2]) (rest := []) S (c_X7_isReel l D I sh H.size M2 x2 hc) (va_cwS 1 hts gX7_add_X7_isReel rfl rfl rfl (by decide +kernel) ⟨Nat.le_of_ble_eq_true rfl, Nat.le_of_ble_eq_true rfl⟩) (ch_pS hw) rfl rfl hl.1 rfl (lv_room (Nat.le_of_ble_eq_true rfl)) dX7_add_8 ⟨Nat.le_refl 0, Nat.le_refl 0⟩) (fun H locs hw => ?_)
    refine ch_if_eq (tgt := 40) hx hb dX7_add_11 (by decide) h (fun h => ?_) (fun h => ?_)
    · refine lv_bipush (v := (-2 : Int32)) hx hb dX7_add_40 (by decide) ?_
      exact fin _ _ _ _ _ _ h hw dX7_add_42
    · refine lv_iload_n hx hb dX7_add_14 rfl (lv_at hl 3 rfl) ?_
      refine ch_if_lt (tgt := 40) hx hb dX7_add_15 (by decide) h (fun h => ?_) (fun h => ?_)
      · refine lv_bipush (v := (-2 : Int32)) hx hb dX7_add_40 (by decide) ?_
        exact fin _ _ _ _ _ _ h hw dX7_add_42
      · refine lv_iload hx hb dX7_add_18 (lv_at hl 4 rfl) ?_
        refine ch_bd_k h (fun r5 M6 hc h => ?_)
        refine ch_ci hw (va_runS (As := [.int x4]) (rest := []) S (c_X7_isShift l D I sh H.size M4 x4 hc) (va_cwS 1 hts gX7_add_X7_isShift rfl rfl rfl (by decide +kernel) ⟨Nat.le_of_ble_eq_true rfl, Nat.le_of_ble_eq_true rfl⟩) (ch_pS hw) rfl rfl hl.1 rfl (lv_room (Nat.le_of_ble_eq_true rfl)) dX7_add_20 ⟨Nat.le_refl 0, Nat.le_refl 0⟩) (fun H locs hw => ?_)
        refine ch_if_eq (tgt := 40) hx hb dX7_add_23 (by decide) h (fun h => ?_) (fun h => ?_)
        · refine lv_bipush (v := (-2 : Int32)) hx hb dX7_add_40 (by decide) ?_
          exact fin _ _ _ _ _ _ h hw dX7_add_42
        · refine lv_iload hx hb dX7_add_26 (lv_at hl 5 rfl) ?_
          refine lv_sipush (v := (-1000 : Int32)) hx hb dX7_add_28 (by decide) ?_
          refine lv_sipush (v := (1000 : Int32)) hx hb dX7_add_31 (by decide) ?_
          refine ch_bd_k h (fun r7 M8 hc h => ?_)
          refine ch_ci hw (va_runS (As := [.int x5, .int (-1000 : Int32), .int (1000 : Int32)]) (rest := []) S (c_X7_in l D I sh H.size M6 x5 (-1000 : Int32) (1000 : Int32) hc) (va_cwS 3 hts gX7_add_X7_in rfl rfl rfl (by decide +kernel) ⟨Nat.le_of_ble_eq_true rfl, Nat.le_of_ble_eq_true rfl⟩) (ch_pS hw) rfl rfl hl.1 rfl (lv_room (Nat.le_of_ble_eq_true rfl)) dX7_add_34 ⟨Nat.le_refl 0, Nat.le_refl 0⟩) (fun H locs hw => ?_)
          refine ch_if_ne (tgt := 43) hx hb dX7_add_37 (by decide) h (fun h => ?_) (fun h => ?_)
          · refine lv_aload_n hx hb dX7_add_43 rfl (lv_at hl 0 rfl) ?_
            refine ch_get S hw 0 (by decide) rfl rfl (by decide +kernel) 13 (by decide) (hts (.fieldLink RX7 35 "CodeHuntModel" "isThere" "[Z") (by decide +kernel)) rfl dX7_add_44 ?_
            refine lv_iload_n hx hb dX7_add_47 rfl (lv_at hl 2 rfl) ?_
            refine ch_gd_k h (fun hin h => ?_)
            refine ch_zald S hw 8 (by decide) rfl hin dX7_add_48 ?_
            refine ch_if_ne (tgt := 58) hx hb dX7_add_49 (by decide) h (fun h => ?_) (fun h => ?_)
            · refine lv_aload_n hx hb dX7_add_58 rfl (lv_at hl 0 rfl) ?_
              refine ch_get S hw 0 (by decide) rfl rfl (by decide +kernel) 0 (by decide) (hts (.fieldLink RX7 7 "CodeHuntModel" "sizesOf" "[I") (by decide +kernel)) rfl dX7_add_59 ?_
              refine lv_iload_n hx hb dX7_add_62 rfl (lv_at hl 1 rfl) ?_
              refine ch_gd_k h (fun hin h => ?_)
              refine ch_iald S hw 1 (by decide) rfl hin dX7_add_63 ?_
              refine ch_if_ne (tgt := 70) hx hb dX7_add_64 (by decide) h (fun h => ?_) (fun h => ?_)
              · refine lv_iload_n hx hb dX7_add_70 rfl (lv_at hl 3 rfl) ?_
                refine lv_aload_n hx hb dX7_add_71 rfl (lv_at hl 0 rfl) ?_
                refine ch_get S hw 0 (by decide) rfl rfl (by decide +kernel) 15 (by decide) (hts (.fieldLink RX7 42 "CodeHuntModel" "sizes" "[I") (by decide +kernel)) rfl dX7_add_72 ?_
                refine lv_iload_n hx hb dX7_add_75 rfl (lv_at hl 2 rfl) ?_
                refine ch_gd_k h (fun hin h => ?_)
                refine ch_iald S hw 10 (by decide) rfl hin dX7_add_76 ?_
                refine ch_icmp_le (tgt := 86) hx hb dX7_add_77 (by decide) h (fun h => ?_) (fun h => ?_)
                · refine lv_aload_n hx hb dX7_add_86 rfl (lv_at hl 0 rfl) ?_
                  refine ch_get S hw 0 (by decide) rfl rfl (by decide +kernel) 0 (by decide) (hts (.fieldLink RX7 7 "CodeHuntModel" "sizesOf" "[I") (by decide +kernel)) rfl dX7_add_87 ?_
                  refine lv_iload_n hx hb dX7_add_90 rfl (lv_at hl 1 rfl) ?_
                  refine ch_gd_k h (fun hin h => ?_)
                  refine ch_iald S hw 1 (by decide) rfl hin dX7_add_91 ?_
                  refine lv_aload_n hx hb dX7_add_92 rfl (lv_at hl 0 rfl) ?_
                  refine ch_get S hw 0 (by decide) rfl rfl (by decide +kernel) 15 (by decide) (hts (.fieldLink RX7 42 "CodeHuntModel" "sizes" "[I") (by decide +kernel)) rfl dX7_add_93 ?_
                  refine lv_iload_n hx hb dX7_add_96 rfl (lv_at hl 2 rfl) ?_
                  refine ch_gd_k h (fun hin h => ?_)
                  refine ch_iald S hw 10 (by decide) rfl hin dX7_add_97 ?_
                  refine lv_iload_n hx hb dX7_add_98 rfl (lv_at hl 3 rfl) ?_
                  refine lv_isub hx hb dX7_add_99 ?_
                  refine ch_icmp_ge (tgt := 112) hx hb dX7_add_100 (by decide) h (fun h => ?_) (fun h => ?_)
                  · refine lv_aload_n hx hb dX7_add_112 rfl (lv_at hl 0 rfl) ?_
                    refine ch_get S hw 0 (by decide) rfl rfl (by decide +kernel) 15 (by decide) (hts (.fieldLink RX7 42 "CodeHuntModel" "sizes" "[I") (by decide +kernel)) rfl dX7_add_113 ?_
                    refine lv_iload_n hx hb dX7_add_116 rfl (lv_at hl 2 rfl) ?_
                    refine ch_gd_k h (fun hin h => ?_)
                    refine ch_iald S hw 10 (by decide) rfl hin dX7_add_117 ?_
                    refine lv_iload_n hx hb dX7_add_118 rfl (lv_at hl 3 rfl) ?_
                    refine lv_isub hx hb dX7_add_119 ?_
                    exact t_X7_add_120 S fin h hw (lv_sub hl [0, 1, 2, 3, 4, 5] rfl)
                  · refine lv_aload_n hx hb dX7_add_103 rfl (lv_at hl 0 rfl) ?_
                    refine ch_get S hw 0 (by decide) rfl rfl (by decide +kernel) 0 (by decide) (hts (.fieldLink RX7 7 "CodeHuntModel" "sizesOf" "[I") (by decide +kernel)) rfl dX7_add_104 ?_
                    refine lv_iload_n hx hb dX7_add_107 rfl (lv_at hl 1 rfl) ?_
                    refine ch_gd_k h (fun hin h => ?_)
                    refine ch_iald S hw 1 (by decide) rfl hin dX7_add_108 ?_
                    refine lv_goto (tgt := 120) hx hb dX7_add_109 (by decide) ?_
                    exact t_X7_add_120 S fin h hw (lv_sub hl [0, 1, 2, 3, 4, 5] rfl)
                · refine lv_aload_n hx hb dX7_add_80 rfl (lv_at hl 0 rfl) ?_
                  refine lv_iconst (v := (2 : Int32)) hx hb dX7_add_81 (by decide) ?_
                  refine ch_bd_k h (fun r9 M10 hc h => ?_)
                  refine ch_ci hw (va_runV (As := [.int (2 : Int32)]) (rest := []) S (c_X7_meets l D I sh H.size M8 (2 : Int32) hc) (cwV 1 hts gX7_add_X7_meets rfl rfl rfl (by decide +kernel) ⟨Nat.le_of_ble_eq_true rfl, Nat.le_of_ble_eq_true rfl⟩) (ch_pV hw (by decide) rfl rfl rfl) rfl rfl hl.1 rfl (lv_room (Nat.le_of_ble_eq_true rfl)) dX7_add_82 ⟨Nat.le_refl 0, Nat.le_refl 0⟩) (fun H locs hw => ?_)
                  exact fin _ _ _ _ _ _ h hw dX7_add_85
              · refine lv_bipush (v := (-3 : Int32)) hx hb dX7_add_67 (by decide) ?_
                exact fin _ _ _ _ _ _ h hw dX7_add_69
            · refine lv_aload_n hx hb dX7_add_52 rfl (lv_at hl 0 rfl) ?_
              refine lv_iconst (v := (1 : Int32)) hx hb dX7_add_53 (by decide) ?_
              refine ch_bd_k h (fun r11 M12 hc h => ?_)
              refine ch_ci hw (va_runV (As := [.int (1 : Int32)]) (rest := []) S (c_X7_meets l D I sh H.size M8 (1 : Int32) hc) (cwV 1 hts gX7_add_X7_meets rfl rfl rfl (by decide +kernel) ⟨Nat.le_of_ble_eq_true rfl, Nat.le_of_ble_eq_true rfl⟩) (ch_pV hw (by decide) rfl rfl rfl) rfl rfl hl.1 rfl (lv_room (Nat.le_of_ble_eq_true rfl)) dX7_add_54 ⟨Nat.le_refl 0, Nat.le_refl 0⟩) (fun H locs hw => ?_)
              exact fin _ _ _ _ _ _ h hw dX7_add_57
          · refine lv_bipush (v := (-2 : Int32)) hx hb dX7_add_40 (by decide) ?_
            exact fin _ _ _ _ _ _ h hw dX7_add_42
set_option maxHeartbeats 4000000 in
set_option maxRecDepth 100000 in
theorem c_X7_add (l : Launch) (D : va_G) (I : ch_Id) (sh : Nat → Nat) (sz : Nat) (M : ch_Mem)  (x1 : Int32) (x2 : Int32) (x3 : Int32) (x4 : Int32) (x5 : Int32) {r : Int32} {M1 : ch_Mem} (h : D_X7_add x1 x2 x3 x4 x5 M = some (r, M1)) : Met l yX7_add wsX7_add rm_X7_add (va_Pc [.ref (sh 0), .int x1, .int x2, .int x3, .int x4, .int x5] (ch_Pre D I 13 (ch_FM I sh) sh sz M)) (va_Qi (fun r' (u : ch_Mem) => r' = r ∧ u = M1) (ch_Pos D 13 (ch_FM I sh) sh) (ch_A 13 sh sz)) 0 0 (ch_A 13 sh sz) := by
  refine Met.ofW (cc := cX7_add) (maxL := 9) (ret := (some .int)) (by decide) rfl ?_
  intro p e s m args below meth c s₁ B hml hv0
  obtain ⟨rfl, hv0⟩ := hv0
  obtain rfl : s.heap.size = sz := hv0.1
  have hw := ch_start hv0
  have S : CallFix p m c cX7_add 9 s _ wsX7_add RX7 := ⟨B.exec, B.bytes, hml, findClass_of_methodNamed B.named, atoms_spec (ws := wsX7_add) B.pre⟩
  have hl := lv_entry ([.ref (sh 0), .int x1, .int x2, .int x3, .int x4, .int x5]) (n := 9) (Nat.le_of_ble_eq_true rfl)
  rw [lg_entry_eq]
  generalize (lg_sl ([.ref (sh 0), .int x1, .int x2, .int x3, .int x4, .int x5]) ++ List.replicate (9 - (lg_sl ([.ref (sh 0), .int x1, .int x2, .int x3, .int x4, .int x5])).length) Slot.unset).toArray = ls at hl ⊢
  exact t_X7_add_0 S (ch_finI (B := fun _ => True) B.exec B.bytes B.returns B.notSynchronized) h hw (lv_sub hl [0, 1, 2, 3, 4, 5] rfl)
