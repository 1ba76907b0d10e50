set_option maxHeartbeats 4000000 in
set_option maxRecDepth 100000 in
theorem t_X7_reset_0 {p : Program} {l : Launch} {e : Env} {s : State} {m : MethodId} {args : Array Value} {below : List Frame} {meth : Method} {c : Code} {Q : State → Prop} {D : va_G} {I : ch_Id} {sh : Nat → Nat} {A : Nat → Prop} {oo : Int32 × ch_Mem}     (S : CallFix p m c cX7_reset 2 s args wsX7_reset RX7) (fin : ch_FinI p l e rm_X7_reset s m args below meth c cX7_reset Q D I 13 (ch_FM I sh) sh A oo)    {M : ch_Mem} {H : Heap} {locs : List Loc} {ls : Array Slot} (h : D_X7_reset  M = some oo) (hw : ch_Wd D I 13 (ch_FM I sh) sh s A M H locs) (hl : lv_has ls 2 [(0, .ref (sh 0))]) : W p l e rm_X7_reset s m args below meth c H locs 0 0 Q (F0 m 0 ls []) := by
  obtain ⟨hx, hb, hml, hown, hts⟩ := id S
  unfold D_X7_reset at h
  refine lv_aload_n hx hb dX7_reset_0 rfl (lv_at hl 0 rfl) ?_
  refine ch_get S hw 0 (by decide) rfl rfl (by decide +kernel) 10 (by decide) (hts (.fieldLink RX7 134 "CodeHuntModel" "lengths" "I") (by decide +kernel)) rfl dX7_reset_1 ?_
  refine lv_istore_n (lv' := [(1, .int (M.1 0 10)), (0, .ref (sh 0))]) hx hb dX7_reset_4 rfl hl (by decide) rfl (fun ls hl => ?_)
  refine lv_aload_n hx hb dX7_reset_5 rfl (lv_at hl 1 rfl) ?_
  refine lv_iconst (v := (0 : Int32)) hx hb dX7_reset_6 (by decide) ?_
  refine ch_put (M1 := ch_wI M 0 10 (0 : Int32)) (ty := .int) S hw 0 (by decide) rfl rfl (by decide +kernel) tyX7 tyX7_ok nmX7 10 (by decide) (hts (.fieldLink RX7 134 "CodeHuntModel" "lengths" "I") (by decide +kernel)) rfl (by decide +kernel) rfl rfl (Nat.le_of_ble_eq_true rfl) (ch_cf_wI (j := 10) (v := (0 : Int32)) rfl) dX7_reset_7 (fun H locs hw => ?_)
  refine lv_iload_n hx hb dX7_reset_10 rfl (lv_at hl 0 rfl) ?_
  exact fin _ _ _ _ _ _ h hw dX7_reset_11
set_option maxHeartbeats 4000000 in
set_option maxRecDepth 100000 in
theorem c_X7_reset (l : Launch) (D : va_G) (I : ch_Id) (sh : Nat → Nat) (sz : Nat) (M : ch_Mem)   {r : Int32} {M1 : ch_Mem} (h : D_X7_reset  M = some (r, M1)) : Met l yX7_reset wsX7_reset rm_X7_reset (va_Pc [.ref (sh 0)] (ch_Pre D I 13 (ch_FM I sh) sh sz M)) (va_Qi (fun r' (u : ch_Mem) => r' = r ∧ u = M1) (ch_Pos D 13 (ch_FM I sh) sh) (ch_A 13 sh sz)) 0 0 (ch_A 13 sh sz) := by
  refine Met.ofW (cc := cX7_reset) (maxL := 2) (ret := (some .int)) (by decide) rfl ?_
  intro p e s m args below meth c s₁ B hml hv0
  obtain ⟨rfl, hv0⟩ := hv0
  obtain rfl : s.heap.size = sz := hv0.1
  have hw := ch_start hv0
  have S : CallFix p m c cX7_reset 2 s _ wsX7_reset RX7 := ⟨B.exec, B.bytes, hml, findClass_of_methodNamed B.named, atoms_spec (ws := wsX7_reset) B.pre⟩
  have hl := lv_entry ([.ref (sh 0)]) (n := 2) (Nat.le_of_ble_eq_true rfl)
  rw [lg_entry_eq]
  generalize (lg_sl ([.ref (sh 0)]) ++ List.replicate (2 - (lg_sl ([.ref (sh 0)])).length) Slot.unset).toArray = ls at hl ⊢
  exact t_X7_reset_0 S (ch_finI (B := fun _ => True) B.exec B.bytes B.returns B.notSynchronized) h hw (lv_sub hl [0] rfl)
set_option maxHeartbeats 4000000 in
set_option maxRecDepth 100000 in
theorem t_X7_search_0 {p : Program} {l : Launch} {e : Env} {s : State} {m : MethodId} {args : Array Value} {below : List Frame} {meth : Method} {c : Code} {Q : State → Prop} {D : va_G} {I : ch_Id} {sh : Nat → Nat} {A : Nat → Prop} {oo : Int32 × ch_Mem}     (S : CallFix p m c cX7_search 4 s args wsX7_search RX7) (fin : ch_FinI p l e rm_X7_search s m args below meth c cX7_search Q D I 13 (ch_FM I sh) sh A oo)  {x1 : Int32} {x2 : Int32}  {M : ch_Mem} {H : Heap} {locs : List Loc} {ls : Array Slot} (h : D_X7_search x1 x2 M = some oo) (hw : ch_Wd D I 13 (ch_FM I sh) sh s A M H locs) (hl : lv_has ls 4 [(0, .ref (sh 0)), (1, .int x1), (2, .int x2)]) : W p l e rm_X7_search s m args below meth c H locs 0 0 Q (F0 m 0 ls []) := by
  obtain ⟨hx, hb, hml, hown, hts⟩ := id S
  unfold D_X7_search at h
  refine lv_aload_n hx hb dX7_search_0 rfl (lv_at hl 0 rfl) ?_
  refine lv_iload_n hx hb dX7_search_1 rfl (lv_at hl 1 rfl) ?_
  refine lv_iload_n hx hb dX7_search_2 rfl (lv_at hl 2 rfl) ?_
  refine ch_bd_k h (fun r1 M2 hc h => ?_)
  refine ch_ci hw (va_runV (As := [.int x1, .int x2]) (rest := []) S (c_X7_refuses l D I sh H.size M x1 x2 hc) (cwV 2 hts gX7_search_X7_refuses rfl rfl rfl (by decide +kernel) ⟨Nat.le_of_ble_eq_true rfl, Nat.le_of_ble_eq_true rfl⟩) (ch_pV hw (by decide) rfl rfl rfl) rfl rfl hl.1 rfl (lv_room (Nat.le_of_ble_eq_true rfl)) dX7_search_3 ⟨Nat.le_refl 0, Nat.le_refl 0⟩) (fun H locs hw => ?_)
  refine lv_istore_n (lv' := [(3, .int r1), (0, .ref (sh 0)), (1, .int x1), (2, .int x2)]) hx hb dX7_search_6 rfl hl (by decide) rfl (fun ls hl => ?_)
  refine lv_iload_n hx hb dX7_search_7 rfl (lv_at hl 0 rfl) ?_
  refine ch_if_eq (tgt := 15) hx hb dX7_search_8 (by decide) h (fun h => ?_) (fun h => ?_)
  · refine lv_aload_n hx hb dX7_search_15 rfl (lv_at hl 1 rfl) ?_
    refine lv_iload_n hx hb dX7_search_16 rfl (lv_at hl 2 rfl) ?_
    refine lv_iload_n hx hb dX7_search_17 rfl (lv_at hl 3 rfl) ?_
    refine ch_bd_k h (fun r3 M4 hc h => ?_)
    refine ch_ci hw (va_runV (As := [.int x1, .int x2]) (rest := []) S (c_X7_finds l D I sh H.size M2 x1 x2 hc) (cwV 2 hts gX7_search_X7_finds rfl rfl rfl (by decide +kernel) ⟨Nat.le_of_ble_eq_true rfl, Nat.le_of_ble_eq_true rfl⟩) (ch_pV hw (by decide) rfl rfl rfl) rfl rfl hl.1 rfl (lv_room (Nat.le_of_ble_eq_true rfl)) dX7_search_18 ⟨Nat.le_refl 0, Nat.le_refl 0⟩) (fun H locs hw => ?_)
    exact fin _ _ _ _ _ _ h hw dX7_search_21
  · refine lv_iload_n hx hb dX7_search_11 rfl (lv_at hl 0 rfl) ?_
    refine lv_goto (tgt := 21) hx hb dX7_search_12 (by decide) ?_
    exact fin _ _ _ _ _ _ h hw dX7_search_21
set_option maxHeartbeats 4000000 in
set_option maxRecDepth 100000 in
theorem c_X7_search (l : Launch) (D : va_G) (I : ch_Id) (sh : Nat → Nat) (sz : Nat) (M : ch_Mem)  (x1 : Int32) (x2 : Int32) {r : Int32} {M1 : ch_Mem} (h : D_X7_search x1 x2 M = some (r, M1)) : Met l yX7_search wsX7_search rm_X7_search (va_Pc [.ref (sh 0), .int x1, .int x2] (ch_Pre D I 13 (ch_FM I sh) sh sz M)) (va_Qi (fun r' (u : ch_Mem) => r' = r ∧ u = M1) (ch_Pos D 13 (ch_FM I sh) sh) (ch_A 13 sh sz)) 0 0 (ch_A 13 sh sz) := by
  refine Met.ofW (cc := cX7_search) (maxL := 4) (ret := (some .int)) (by decide) rfl ?_
  intro p e s m args below meth c s₁ B hml hv0
  obtain ⟨rfl, hv0⟩ := hv0
  obtain rfl : s.heap.size = sz := hv0.1
  have hw := ch_start hv0
  have S : CallFix p m c cX7_search 4 s _ wsX7_search RX7 := ⟨B.exec, B.bytes, hml, findClass_of_methodNamed B.named, atoms_spec (ws := wsX7_search) B.pre⟩
  have hl := lv_entry ([.ref (sh 0), .int x1, .int x2]) (n := 4) (Nat.le_of_ble_eq_true rfl)
  rw [lg_entry_eq]
  generalize (lg_sl ([.ref (sh 0), .int x1, .int x2]) ++ List.replicate (4 - (lg_sl ([.ref (sh 0), .int x1, .int x2])).length) Slot.unset).toArray = ls at hl ⊢
  exact t_X7_search_0 S (ch_finI (B := fun _ => True) B.exec B.bytes B.returns B.notSynchronized) h hw (lv_sub hl [0, 1, 2] rfl)
set_option maxHeartbeats 4000000 in
set_option maxRecDepth 100000 in
theorem t_X7_sign_0 {p : Program} {l : Launch} {e : Env} {s : State} {m : MethodId} {args : Array Value} {below : List Frame} {meth : Method} {c : Code} {Q : State → Prop} {D : va_G} {I : ch_Id} {sh : Nat → Nat} {A : Nat → Prop} {oo : Int32 × ch_Mem}     (S : CallFix p m c cX7_sign 3 s args wsX7_sign RX7) (fin : ch_FinI p l e rm_X7_sign s m args below meth c cX7_sign Q D I 13 (ch_FM I sh) sh A oo)  {x1 : Int32} {x2 : Int32}  {M : ch_Mem} {H : Heap} {locs : List Loc} {ls : Array Slot} (h : D_X7_sign x1 x2 M = some oo) (hw : ch_Wd D I 13 (ch_FM I sh) sh s A M H locs) (hl : lv_has ls 3 [(0, .ref (sh 0)), (1, .int x1), (2, .int x2)]) : W p l e rm_X7_sign s m args below meth c H locs 0 0 Q (F0 m 0 ls []) := by
  obtain ⟨hx, hb, hml, hown, hts⟩ := id S
  unfold D_X7_sign at h
  refine lv_iload_n hx hb dX7_sign_0 rfl (lv_at hl 1 rfl) ?_
  refine ch_bd_k h (fun r1 M2 hc h => ?_)
  refine ch_ci hw (va_runS (As := [.int x1]) (rest := []) S (c_X7_isRow l D I sh H.size M x1 hc) (va_cwS 1 hts gX7_sign_X7_isRow rfl rfl rfl (by decide +kernel) ⟨Nat.le_of_ble_eq_true rfl, Nat.le_of_ble_eq_true rfl⟩) (ch_pS hw) rfl rfl hl.1 rfl (lv_room (Nat.le_of_ble_eq_true rfl)) dX7_sign_1 ⟨Nat.le_refl 0, Nat.le_refl 0⟩) (fun H locs hw => ?_)
  refine ch_if_eq (tgt := 14) hx hb dX7_sign_4 (by decide) h (fun h => ?_) (fun h => ?_)
  · refine lv_bipush (v := (-2 : Int32)) hx hb dX7_sign_14 (by decide) ?_
    exact fin _ _ _ _ _ _ h hw dX7_sign_16
  · refine lv_iload_n hx hb dX7_sign_7 rfl (lv_at hl 2 rfl) ?_
    refine ch_bd_k h (fun r3 M4 hc h => ?_)
    refine ch_ci hw (va_runS (As := [.int x2]) (rest := []) S (c_X7_isShift l D I sh H.size M2 x2 hc) (va_cwS 1 hts gX7_sign_X7_isShift rfl rfl rfl (by decide +kernel) ⟨Nat.le_of_ble_eq_true rfl, Nat.le_of_ble_eq_true rfl⟩) (ch_pS hw) rfl rfl hl.1 rfl (lv_room (Nat.le_of_ble_eq_true rfl)) dX7_sign_8 ⟨Nat.le_refl 0, Nat.le_refl 0⟩) (fun H locs hw => ?_)
    refine ch_if_ne (tgt := 17) hx hb dX7_sign_11 (by decide) h (fun h => ?_) (fun h => ?_)
    · refine lv_aload_n hx hb dX7_sign_17 rfl (lv_at hl 0 rfl) ?_
      refine ch_get S hw 0 (by decide) rfl rfl (by decide +kernel) 0 (by decide) (hts (.fieldLink RX7 7 "CodeHuntModel" "sizesOf" "[I") (by decide +kernel)) rfl dX7_sign_18 ?_
      refine lv_iload_n hx hb dX7_sign_21 rfl (lv_at hl 1 rfl) ?_
      refine ch_gd_k h (fun hin h => ?_)
      refine ch_iald S hw 1 (by decide) rfl hin dX7_sign_22 ?_
      refine ch_if_ne (tgt := 31) hx hb dX7_sign_23 (by decide) h (fun h => ?_) (fun h => ?_)
      · refine lv_aload_n hx hb dX7_sign_31 rfl (lv_at hl 0 rfl) ?_
        refine lv_iload_n hx hb dX7_sign_32 rfl (lv_at hl 1 rfl) ?_
        refine lv_iload_n hx hb dX7_sign_33 rfl (lv_at hl 2 rfl) ?_
        refine ch_bd_k h (fun r5 M6 hc h => ?_)
        refine ch_ci hw (va_runV (As := [.int x1, .int x2]) (rest := []) S (c_X7_signOf l D I sh H.size M4 x1 x2 hc) (cwV 2 hts gX7_sign_X7_signOf rfl rfl rfl (by decide +kernel) ⟨Nat.le_of_ble_eq_true rfl, Nat.le_of_ble_eq_true rfl⟩) (ch_pV hw (by decide) rfl rfl rfl) rfl rfl hl.1 rfl (lv_room (Nat.le_of_ble_eq_true rfl)) dX7_sign_34 ⟨Nat.le_refl 0, Nat.le_refl 0⟩) (fun H locs hw => ?_)
        exact fin _ _ _ _ _ _ h hw dX7_sign_37
      · refine lv_bipush (v := (-3 : Int32)) hx hb dX7_sign_26 (by decide) ?_
        refine lv_goto (tgt := 37) hx hb dX7_sign_28 (by decide) ?_
        exact fin _ _ _ _ _ _ h hw dX7_sign_37
    · refine lv_bipush (v := (-2 : Int32)) hx hb dX7_sign_14 (by decide) ?_
      exact fin _ _ _ _ _ _ h hw dX7_sign_16
set_option maxHeartbeats 4000000 in
set_option maxRecDepth 100000 in
theorem c_X7_sign (l : Launch) (D : va_G) (I : ch_Id) (sh : Nat → Nat) (sz : Nat) (M : ch_Mem)  (x1 : Int32) (x2 : Int32) {r : Int32} {M1 : ch_Mem} (h : D_X7_sign x1 x2 M = some (r, M1)) : Met l yX7_sign wsX7_sign rm_X7_sign (va_Pc [.ref (sh 0), .int x1, .int x2] (ch_Pre D I 13 (ch_FM I sh) sh sz M)) (va_Qi (fun r' (u : ch_Mem) => r' = r ∧ u = M1) (ch_Pos D 13 (ch_FM I sh) sh) (ch_A 13 sh sz)) 0 0 (ch_A 13 sh sz) := by
  refine Met.ofW (cc := cX7_sign) (maxL := 3) (ret := (some .int)) (by decide) rfl ?_
  intro p e s m args below meth c s₁ B hml hv0
  obtain ⟨rfl, hv0⟩ := hv0
  obtain rfl : s.heap.size = sz := hv0.1
  have hw := ch_start hv0
  have S : CallFix p m c cX7_sign 3 s _ wsX7_sign RX7 := ⟨B.exec, B.bytes, hml, findClass_of_methodNamed B.named, atoms_spec (ws := wsX7_sign) B.pre⟩
  have hl := lv_entry ([.ref (sh 0), .int x1, .int x2]) (n := 3) (Nat.le_of_ble_eq_true rfl)
  rw [lg_entry_eq]
  generalize (lg_sl ([.ref (sh 0), .int x1, .int x2]) ++ List.replicate (3 - (lg_sl ([.ref (sh 0), .int x1, .int x2])).length) Slot.unset).toArray = ls at hl ⊢
  exact t_X7_sign_0 S (ch_finI (B := fun _ => True) B.exec B.bytes B.returns B.notSynchronized) h hw (lv_sub hl [0, 1, 2] rfl)
set_option maxHeartbeats 4000000 in
set_option maxRecDepth 100000 in
theorem t_X7_sure_0 {p : Program} {l : Launch} {e : Env} {s : State} {m : MethodId} {args : Array Value} {below : List Frame} {meth : Method} {c : Code} {Q : State → Prop} {D : va_G} {I : ch_Id} {sh : Nat → Nat} {A : Nat → Prop} {oo : Int32 × ch_Mem}     (S : CallFix p m c cX7_sure 5 s args wsX7_sure RX7) (fin : ch_FinI p l e rm_X7_sure s m args below meth c cX7_sure Q D I 13 (ch_FM I sh) sh A oo)  {x1 : Int32} {x2 : Int32}  {M : ch_Mem} {H : Heap} {locs : List Loc} {ls : Array Slot} (h : D_X7_sure x1 x2 M = some oo) (hw : ch_Wd D I 13 (ch_FM I sh) sh s A M H locs) (hl : lv_has ls 5 [(0, .ref (sh 0)), (1, .int x1), (2, .int x2)]) : W p l e rm_X7_sure s m args below meth c H locs 0 0 Q (F0 m 0 ls []) := by
  obtain ⟨hx, hb, hml, hown, hts⟩ := id S
  unfold D_X7_sure at h
  refine lv_aload_n hx hb dX7_sure_0 rfl (lv_at hl 0 rfl) ?_
  refine lv_iload_n hx hb dX7_sure_1 rfl (lv_at hl 1 rfl) ?_
  refine lv_iload_n hx hb dX7_sure_2 rfl (lv_at hl 2 rfl) ?_
  refine ch_bd_k h (fun r1 M2 hc h => ?_)
  refine ch_ci hw (va_runV (As := [.int x1, .int x2]) (rest := []) S (c_X7_refuses l D I sh H.size M x1 x2 hc) (cwV 2 hts gX7_sure_X7_refuses rfl rfl rfl (by decide +kernel) ⟨Nat.le_of_ble_eq_true rfl, Nat.le_of_ble_eq_true rfl⟩) (ch_pV hw (by decide) rfl rfl rfl) rfl rfl hl.1 rfl (lv_room (Nat.le_of_ble_eq_true rfl)) dX7_sure_3 ⟨Nat.le_refl 0, Nat.le_refl 0⟩) (fun H locs hw => ?_)
  refine lv_istore_n (lv' := [(3, .int r1), (0, .ref (sh 0)), (1, .int x1), (2, .int x2)]) hx hb dX7_sure_6 rfl hl (by decide) rfl (fun ls hl => ?_)
  refine lv_iload_n hx hb dX7_sure_7 rfl (lv_at hl 0 rfl) ?_
  refine ch_if_eq (tgt := 13) hx hb dX7_sure_8 (by decide) h (fun h => ?_) (fun h => ?_)
  · refine lv_aload_n hx hb dX7_sure_13 rfl (lv_at hl 1 rfl) ?_
    refine lv_iload_n hx hb dX7_sure_14 rfl (lv_at hl 2 rfl) ?_
    refine lv_iload_n hx hb dX7_sure_15 rfl (lv_at hl 3 rfl) ?_
    refine ch_bd_k h (fun r3 M4 hc h => ?_)
    refine ch_ci hw (va_runV (As := [.int x1, .int x2]) (rest := []) S (c_X7_finds l D I sh H.size M2 x1 x2 hc) (cwV 2 hts gX7_sure_X7_finds rfl rfl rfl (by decide +kernel) ⟨Nat.le_of_ble_eq_true rfl, Nat.le_of_ble_eq_true rfl⟩) (ch_pV hw (by decide) rfl rfl rfl) rfl rfl hl.1 rfl (lv_room (Nat.le_of_ble_eq_true rfl)) dX7_sure_16 ⟨Nat.le_refl 0, Nat.le_refl 0⟩) (fun H locs hw => ?_)
    refine lv_istore (lv' := [(4, .int r3), (3, .int r1), (0, .ref (sh 0)), (1, .int x1), (2, .int x2)]) hx hb dX7_sure_19 hl (by decide) rfl (fun ls hl => ?_)
    refine lv_aload_n hx hb dX7_sure_21 rfl (lv_at hl 2 rfl) ?_
    refine ch_get S hw 0 (by decide) rfl rfl (by decide +kernel) 4 (by decide) (hts (.fieldLink RX7 104 "CodeHuntModel" "greatest" "J") (by decide +kernel)) rfl dX7_sure_22 ?_
    refine lv_lconst (v := (0 : Int64)) hx hb dX7_sure_25 (by decide) ?_
    refine W.lcmp hx hb dX7_sure_26 ?_
    refine ch_if_le (tgt := 56) hx hb dX7_sure_27 (by decide) h (fun h => ?_) (fun h => ?_)
    · refine lv_iconst (v := (0 : Int32)) hx hb dX7_sure_56 (by decide) ?_
      exact fin _ _ _ _ _ _ h hw dX7_sure_57
    · refine lv_ldc2 (v := (100 : Int64)) hx hb hown (hts (.constantLong RX7 117 (100)) (by decide +kernel)) dX7_sure_30 ?_
      refine lv_aload_n hx hb dX7_sure_33 rfl (lv_at hl 2 rfl) ?_
      refine ch_get S hw 0 (by decide) rfl rfl (by decide +kernel) 5 (by decide) (hts (.fieldLink RX7 108 "CodeHuntModel" "other" "J") (by decide +kernel)) rfl dX7_sure_34 ?_
      refine lv_lmul hx hb dX7_sure_37 ?_
      refine lv_aload_n hx hb dX7_sure_38 rfl (lv_at hl 2 rfl) ?_
      refine ch_get S hw 0 (by decide) rfl rfl (by decide +kernel) 3 (by decide) (hts (.fieldLink RX7 19 "CodeHuntModel" "doubt" "I") (by decide +kernel)) rfl dX7_sure_39 ?_
      refine lv_i2l hx hb dX7_sure_42 rfl ?_
      refine lv_aload_n hx hb dX7_sure_43 rfl (lv_at hl 2 rfl) ?_
      refine ch_get S hw 0 (by decide) rfl rfl (by decide +kernel) 4 (by decide) (hts (.fieldLink RX7 104 "CodeHuntModel" "greatest" "J") (by decide +kernel)) rfl dX7_sure_44 ?_
      refine lv_lmul hx hb dX7_sure_47 ?_
      refine W.lcmp hx hb dX7_sure_48 ?_
      refine ch_if_gt (tgt := 56) hx hb dX7_sure_49 (by decide) h (fun h => ?_) (fun h => ?_)
      · refine lv_iconst (v := (0 : Int32)) hx hb dX7_sure_56 (by decide) ?_
        exact fin _ _ _ _ _ _ h hw dX7_sure_57
      · refine lv_iconst (v := (1 : Int32)) hx hb dX7_sure_52 (by decide) ?_
        refine lv_goto (tgt := 57) hx hb dX7_sure_53 (by decide) ?_
        exact fin _ _ _ _ _ _ h hw dX7_sure_57
  · refine lv_iload_n hx hb dX7_sure_11 rfl (lv_at hl 0 rfl) ?_
    exact fin _ _ _ _ _ _ h hw dX7_sure_12
set_option maxHeartbeats 4000000 in
set_option maxRecDepth 100000 in
theorem c_X7_sure (l : Launch) (D : va_G) (I : ch_Id) (sh : Nat → Nat) (sz : Nat) (M : ch_Mem)  (x1 : Int32) (x2 : Int32) {r : Int32} {M1 : ch_Mem} (h : D_X7_sure x1 x2 M = some (r, M1)) : Met l yX7_sure wsX7_sure rm_X7_sure (va_Pc [.ref (sh 0), .int x1, .int x2] (ch_Pre D I 13 (ch_FM I sh) sh sz M)) (va_Qi (fun r' (u : ch_Mem) => r' = r ∧ u = M1) (ch_Pos D 13 (ch_FM I sh) sh) (ch_A 13 sh sz)) 0 0 (ch_A 13 sh sz) := by
  refine Met.ofW (cc := cX7_sure) (maxL := 5) (ret := (some .int)) (by decide) rfl ?_
  intro p e s m args below meth c s₁ B hml hv0
  obtain ⟨rfl, hv0⟩ := hv0
  obtain rfl : s.heap.size = sz := hv0.1
  have hw := ch_start hv0
  have S : CallFix p m c cX7_sure 5 s _ wsX7_sure RX7 := ⟨B.exec, B.bytes, hml, findClass_of_methodNamed B.named, atoms_spec (ws := wsX7_sure) B.pre⟩
  have hl := lv_entry ([.ref (sh 0), .int x1, .int x2]) (n := 5) (Nat.le_of_ble_eq_true rfl)
  rw [lg_entry_eq]
  generalize (lg_sl ([.ref (sh 0), .int x1, .int x2]) ++ List.replicate (5 - (lg_sl ([.ref (sh 0), .int x1, .int x2])).length) Slot.unset).toArray = ls at hl ⊢
  exact t_X7_sure_0 S (ch_finI (B := fun _ => True) B.exec B.bytes B.returns B.notSynchronized) h hw (lv_sub hl [0, 1, 2] rfl)
set_option maxHeartbeats 4000000 in
set_option maxRecDepth 100000 in
theorem t_X7_worst_85 {p : Program} {l : Launch} {e : Env} {s : State} {m : MethodId} {args : Array Value} {below : List Frame} {meth : Method} {c : Code} {Q : State → Prop} {D : va_G} {I : ch_Id} {sh : Nat → Nat} {A : Nat → Prop} {oo : Int32 × ch_Mem}    {k25 : Int32 → Int32 → Int32 → Int32 → Int32 → ch_Mem → Option (Int32 × ch_Mem)} {k34 : Int32 → Int32 → Int32 → Int32 → Int32 → Int32 → ch_Mem → Option (Int32 × ch_Mem)} (S : CallFix p m c cX7_worst 8 s args wsX7_worst RX7) (fin : ch_FinI p l e rm_X7_worst s m args below meth c cX7_worst Q D I 13 (ch_FM I sh) sh A oo) (hk25 : ∀ (x1 : Int32) (x2 : Int32) (x3 : Int32) (x4 : Int32) (x5 : Int32) (M : ch_Mem) (H : Heap) (locs : List Loc) (ls : Array Slot), k25 x1 x2 x3 x4 x5 M = some oo → ch_Wd D I 13 (ch_FM I sh) sh s A M H locs → lv_has ls 8 [(1, .int x1), (2, .int x2), (3, .int x3), (4, .int x4), (5, .int x5)] → W p l e rm_X7_worst s m args below meth c H locs 0 0 Q (F0 m 25 ls [])) (hk34 : ∀ (x1 : Int32) (x2 : Int32) (x3 : Int32) (x4 : Int32) (x5 : Int32) (x6 : Int32) (M : ch_Mem) (H : Heap) (locs : List Loc) (ls : Array Slot), k34 x1 x2 x3 x4 x5 x6 M = some oo → ch_Wd D I 13 (ch_FM I sh) sh s A M H locs → lv_has ls 8 [(1, .int x1), (2, .int x2), (3, .int x3), (4, .int x4), (5, .int x5), (6, .int x6)] → W p l e rm_X7_worst s m args below meth c H locs 0 0 Q (F0 m 34 ls [])) {x1 : Int32} {x2 : Int32} {x3 : Int32} {x5 : Int32} {x6 : Int32} {y0 : Int32}  {M : ch_Mem} {H : Heap} {locs : List Loc} {ls : Array Slot} (h : D_X7_worst_b85 k25 k34 x1 x2 x3 x5 x6 y0 M = some oo) (hw : ch_Wd D I 13 (ch_FM I sh) sh s A M H locs) (hl : lv_has ls 8 [(1, .int x1), (2, .int x2), (3, .int x3), (5, .int x5), (6, .int x6)]) : W p l e rm_X7_worst s m args below meth c H locs 0 0 Q (F0 m 85 ls [.int y0]) := by
  obtain ⟨hx, hb, hml, hown, hts⟩ := id S
  unfold D_X7_worst_b85 at h
  refine lv_istore (lv' := [(4, .int y0), (1, .int x1), (2, .int x2), (3, .int x3), (5, .int x5), (6, .int x6)]) hx hb dX7_worst_85 hl (by decide) rfl (fun ls hl => ?_)
  refine lv_iinc (v := x6 + (1 : Int32)) (lv' := [(6, .int (x6 + (1 : Int32))), (4, .int y0), (1, .int x1), (2, .int x2), (3, .int x3), (5, .int x5)]) hx hb dX7_worst_87 hl (k := 5) rfl rfl (by decide) rfl (fun ls hl => ?_)
  refine lv_goto (tgt := 34) hx hb dX7_worst_90 (by decide) ?_
  exact hk34 _ _ _ _ _ _ _ _ _ _  h hw (lv_sub hl [2, 3, 4, 1, 5, 0] rfl)
set_option maxHeartbeats 4000000 in
set_option maxRecDepth 100000 in
theorem t_X7_worst_69 {p : Program} {l : Launch} {e : Env} {s : State} {m : MethodId} {args : Array Value} {below : List Frame} {meth : Method} {c : Code} {Q : State → Prop} {D : va_G} {I : ch_Id} {sh : Nat → Nat} {A : Nat → Prop} {oo : Int32 × ch_Mem}    {k25 : Int32 → Int32 → Int32 → Int32 → Int32 → ch_Mem → Option (Int32 × ch_Mem)} {k34 : Int32 → Int32 → Int32 → Int32 → Int32 → Int32 → ch_Mem → Option (Int32 × ch_Mem)} (S : CallFix p m c cX7_worst 8 s args wsX7_worst RX7) (fin : ch_FinI p l e rm_X7_worst s m args below meth c cX7_worst Q D I 13 (ch_FM I sh) sh A oo) (hk25 : ∀ (x1 : Int32) (x2 : Int32) (x3 : Int32) (x4 : Int32) (x5 : Int32) (M : ch_Mem) (H : Heap) (locs : List Loc) (ls : Array Slot), k25 x1 x2 x3 x4 x5 M = some oo → ch_Wd D I 13 (ch_FM I sh) sh s A M H locs → lv_has ls 8 [(1, .int x1), (2, .int x2), (3, .int x3), (4, .int x4), (5, .int x5)] → W p l e rm_X7_worst s m args below meth c H locs 0 0 Q (F0 m 25 ls [])) (hk34 : ∀ (x1 : Int32) (x2 : Int32) (x3 : Int32) (x4 : Int32) (x5 : Int32) (x6 : Int32) (M : ch_Mem) (H : Heap) (locs : List Loc) (ls : Array Slot), k34 x1 x2 x3 x4 x5 x6 M = some oo → ch_Wd D I 13 (ch_FM I sh) sh s A M H locs → lv_has ls 8 [(1, .int x1), (2, .int x2), (3, .int x3), (4, .int x4), (5, .int x5), (6, .int x6)] → W p l e rm_X7_worst s m args below meth c H locs 0 0 Q (F0 m 34 ls [])) {x1 : Int32} {x2 : Int32} {x3 : Int32} {x4 : Int32} {x5 : Int32} {x6 : Int32} {y0 : Int32}  {M : ch_Mem} {H : Heap} {locs : List Loc} {ls : Array Slot} (h : D_X7_worst_b69 k25 k34 x1 x2 x3 x4 x5 x6 y0 M = some oo) (hw : ch_Wd D I 13 (ch_FM I sh) sh s A M H locs) (hl : lv_has ls 8 [(1, .int x1), (2, .int x2), (3, .int x3), (4, .int x4), (5, .int x5), (6, .int x6)]) : W p l e rm_X7_worst s m args below meth c H locs 0 0 Q (F0 m 69 ls [.int y0]) := by
  obtain ⟨hx, hb, hml, hown, hts⟩ := id S
  unfold D_X7_worst_b69 at h
  refine lv_istore (lv' := [(7, .int y0), (1, .int x1), (2, .int x2), (3, .int x3), (4, .int x4), (5, .int x5), (6, .int x6)]) hx hb dX7_worst_69 hl (by decide) rfl (fun ls hl => ?_)
  refine lv_iload hx hb dX7_worst_71 (lv_at hl 0 rfl) ?_
  refine lv_iload hx hb dX7_worst_73 (lv_at hl 4 rfl) ?_
  refine ch_icmp_le (tgt := 83) hx hb dX7_worst_75 (by decide) h (fun h => ?_) (fun h => ?_)
  · refine lv_iload hx hb dX7_worst_83 (lv_at hl 4 rfl) ?_
    exact t_X7_worst_85 S fin hk25 hk34 h hw (lv_sub hl [1, 2, 3, 5, 6] rfl)
  · refine lv_iload hx hb dX7_worst_78 (lv_at hl 0 rfl) ?_
    refine lv_goto (tgt := 85) hx hb dX7_worst_80 (by decide) ?_
    exact t_X7_worst_85 S fin hk25 hk34 h hw (lv_sub hl [1, 2, 3, 5, 6] rfl)
set_option maxHeartbeats 4000000 in
set_option maxRecDepth 100000 in
theorem t_X7_worst_59 {p : Program} {l : Launch} {e : Env} {s : State} {m : MethodId} {args : Array Value} {below : List Frame} {meth : Method} {c : Code} {Q : State → Prop} {D : va_G} {I : ch_Id} {sh : Nat → Nat} {A : Nat → Prop} {oo : Int32 × ch_Mem}    {k25 : Int32 → Int32 → Int32 → Int32 → Int32 → ch_Mem → Option (Int32 × ch_Mem)} {k34 : Int32 → Int32 → Int32 → Int32 → Int32 → Int32 → ch_Mem → Option (Int32 × ch_Mem)} (S : CallFix p m c cX7_worst 8 s args wsX7_worst RX7) (fin : ch_FinI p l e rm_X7_worst s m args below meth c cX7_worst Q D I 13 (ch_FM I sh) sh A oo) (hk25 : ∀ (x1 : Int32) (x2 : Int32) (x3 : Int32) (x4 : Int32) (x5 : Int32) (M : ch_Mem) (H : Heap) (locs : List Loc) (ls : Array Slot), k25 x1 x2 x3 x4 x5 M = some oo → ch_Wd D I 13 (ch_FM I sh) sh s A M H locs → lv_has ls 8 [(1, .int x1), (2, .int x2), (3, .int x3), (4, .int x4), (5, .int x5)] → W p l e rm_X7_worst s m args below meth c H locs 0 0 Q (F0 m 25 ls [])) (hk34 : ∀ (x1 : Int32) (x2 : Int32) (x3 : Int32) (x4 : Int32) (x5 : Int32) (x6 : Int32) (M : ch_Mem) (H : Heap) (locs : List Loc) (ls : Array Slot), k34 x1 x2 x3 x4 x5 x6 M = some oo → ch_Wd D I 13 (ch_FM I sh) sh s A M H locs → lv_has ls 8 [(1, .int x1), (2, .int x2), (3, .int x3), (4, .int x4), (5, .int x5), (6, .int x6)] → W p l e rm_X7_worst s m args below meth c H locs 0 0 Q (F0 m 34 ls [])) {x1 : Int32} {x2 : Int32} {x3 : Int32} {x4 : Int32} {x5 : Int32} {x6 : Int32}  {M : ch_Mem} {H : Heap} {locs : List Loc} {ls : Array Slot} (h : D_X7_worst_b59 k25 k34 x1 x2 x3 x4 x5 x6 M = some oo) (hw : ch_Wd D I 13 (ch_FM I sh) sh s A M H locs) (hl : lv_has ls 8 [(1, .int x1), (2, .int x2), (3, .int x3), (4, .int x4), (5, .int x5), (6, .int x6)]) : W p l e rm_X7_worst s m args below meth c H locs 0 0 Q (F0 m 59 ls []) := by
  obtain ⟨hx, hb, hml, hown, hts⟩ := id S
  unfold D_X7_worst_b59 at h
  refine lv_iload_n hx hb dX7_worst_59 rfl (lv_at hl 0 rfl) ?_
  refine lv_iload_n hx hb dX7_worst_60 rfl (lv_at hl 1 rfl) ?_
  refine lv_iload_n hx hb dX7_worst_61 rfl (lv_at hl 2 rfl) ?_
  refine lv_iload hx hb dX7_worst_62 (lv_at hl 4 rfl) ?_
  refine lv_iload hx hb dX7_worst_64 (lv_at hl 5 rfl) ?_
  refine ch_bd_k h (fun r1 M2 hc h => ?_)
  refine ch_ci hw (va_runS (As := [.int x1, .int x2, .int x3, .int x5, .int x6]) (rest := []) S (c_X7_hitsOf l D I sh H.size M x1 x2 x3 x5 x6 hc) (va_cwS 5 hts gX7_worst_X7_hitsOf rfl rfl rfl (by decide +kernel) ⟨Nat.le_of_ble_eq_true rfl, Nat.le_of_ble_eq_true rfl⟩) (ch_pS hw) rfl rfl hl.1 rfl (lv_room (Nat.le_of_ble_eq_true rfl)) dX7_worst_66 ⟨Nat.le_refl 0, Nat.le_refl 0⟩) (fun H locs hw => ?_)
  exact t_X7_worst_69 S fin hk25 hk34 h hw (lv_sub hl [0, 1, 2, 3, 4, 5] rfl)
set_option maxHeartbeats 4000000 in
set_option maxRecDepth 100000 in
theorem t_X7_worst_93 {p : Program} {l : Launch} {e : Env} {s : State} {m : MethodId} {args : Array Value} {below : List Frame} {meth : Method} {c : Code} {Q : State → Prop} {D : va_G} {I : ch_Id} {sh : Nat → Nat} {A : Nat → Prop} {oo : Int32 × ch_Mem}    {k25 : Int32 → Int32 → Int32 → Int32 → Int32 → ch_Mem → Option (Int32 × ch_Mem)} (S : CallFix p m c cX7_worst 8 s args wsX7_worst RX7) (fin : ch_FinI p l e rm_X7_worst s m args below meth c cX7_worst Q D I 13 (ch_FM I sh) sh A oo) (hk25 : ∀ (x1 : Int32) (x2 : Int32) (x3 : Int32) (x4 : Int32) (x5 : Int32) (M : ch_Mem) (H : Heap) (locs : List Loc) (ls : Array Slot), k25 x1 x2 x3 x4 x5 M = some oo → ch_Wd D I 13 (ch_FM I sh) sh s A M H locs → lv_has ls 8 [(1, .int x1), (2, .int x2), (3, .int x3), (4, .int x4), (5, .int x5)] → W p l e rm_X7_worst s m args below meth c H locs 0 0 Q (F0 m 25 ls [])) {x1 : Int32} {x2 : Int32} {x3 : Int32} {x4 : Int32} {x5 : Int32}  {M : ch_Mem} {H : Heap} {locs : List Loc} {ls : Array Slot} (h : D_X7_worst_b93 k25 x1 x2 x3 x4 x5 M = some oo) (hw : ch_Wd D I 13 (ch_FM I sh) sh s A M H locs) (hl : lv_has ls 8 [(1, .int x1), (2, .int x2), (3, .int x3), (4, .int x4), (5, .int x5)]) : W p l e rm_X7_worst s m args below meth c H locs 0 0 Q (F0 m 93 ls []) := by
  obtain ⟨hx, hb, hml, hown, hts⟩ := id S
  unfold D_X7_worst_b93 at h
  refine lv_iinc (v := x5 + (1 : Int32)) (lv' := [(5, .int (x5 + (1 : Int32))), (1, .int x1), (2, .int x2), (3, .int x3), (4, .int x4)]) hx hb dX7_worst_93 hl (k := 4) rfl rfl (by decide) rfl (fun ls hl => ?_)
  refine lv_goto (tgt := 25) hx hb dX7_worst_96 (by decide) ?_
  exact hk25 _ _ _ _ _ _ _ _ _  h hw (lv_sub hl [1, 2, 3, 4, 0] rfl)
set_option maxHeartbeats 4000000 in
set_option maxRecDepth 100000 in
theorem t_X7_worst_34 {p : Program} {l : Launch} {e : Env} {s : State} {m : MethodId} {args : Array Value} {below : List Frame} {meth : Method} {c : Code} {Q : State → Prop} {D : va_G} {I : ch_Id} {sh : Nat → Nat} {A : Nat → Prop} {oo : Int32 × ch_Mem}    {k25 : Int32 → Int32 → Int32 → Int32 → Int32 → ch_Mem → Option (Int32 × ch_Mem)} {k34 : Int32 → Int32 → Int32 → Int32 → Int32 → Int32 → ch_Mem → Option (Int32 × ch_Mem)} (S : CallFix p m c cX7_worst 8 s args wsX7_worst RX7) (fin : ch_FinI p l e rm_X7_worst s m args below meth c cX7_worst Q D I 13 (ch_FM I sh) sh A oo) (hk25 : ∀ (x1 : Int32) (x2 : Int32) (x3 : Int32) (x4 : Int32) (x5 : Int32) (M : ch_Mem) (H : Heap) (locs : List Loc) (ls : Array Slot), k25 x1 x2 x3 x4 x5 M = some oo → ch_Wd D I 13 (ch_FM I sh) sh s A M H locs → lv_has ls 8 [(1, .int x1), (2, .int x2), (3, .int x3), (4, .int x4), (5, .int x5)] → W p l e rm_X7_worst s m args below meth c H locs 0 0 Q (F0 m 25 ls [])) (hk34 : ∀ (x1 : Int32) (x2 : Int32) (x3 : Int32) (x4 : Int32) (x5 : Int32) (x6 : Int32) (M : ch_Mem) (H : Heap) (locs : List Loc) (ls : Array Slot), k34 x1 x2 x3 x4 x5 x6 M = some oo → ch_Wd D I 13 (ch_FM I sh) sh s A M H locs → lv_has ls 8 [(1, .int x1), (2, .int x2), (3, .int x3), (4, .int x4), (5, .int x5), (6, .int x6)] → W p l e rm_X7_worst s m args below meth c H locs 0 0 Q (F0 m 34 ls [])) {x1 : Int32} {x2 : Int32} {x3 : Int32} {x4 : Int32} {x5 : Int32} {x6 : Int32}  {M : ch_Mem} {H : Heap} {locs : List Loc} {ls : Array Slot} (h : D_X7_worst_b34 k25 k34 x1 x2 x3 x4 x5 x6 M = some oo) (hw : ch_Wd D I 13 (ch_FM I sh) sh s A M H locs) (hl : lv_has ls 8 [(1, .int x1), (2, .int x2), (3, .int x3), (4, .int x4), (5, .int x5), (6, .int x6)]) : W p l e rm_X7_worst s m args below meth c H locs 0 0 Q (F0 m 34 ls []) := by
  obtain ⟨hx, hb, hml, hown, hts⟩ := id S
  unfold D_X7_worst_b34 at h
  refine lv_iload hx hb dX7_worst_34 (lv_at hl 5 rfl) ?_
  refine lv_iload_n hx hb dX7_worst_36 rfl (lv_at hl 0 rfl) ?_
  refine ch_icmp_ge (tgt := 93) hx hb dX7_worst_37 (by decide) h (fun h => ?_) (fun h => ?_)
  · exact t_X7_worst_93 S fin hk25 h hw (lv_sub hl [0, 1, 2, 3, 4] rfl)
  · refine lv_iload_n hx hb dX7_worst_40 rfl (lv_at hl 1 rfl) ?_
    refine lv_iload_n hx hb dX7_worst_41 rfl (lv_at hl 2 rfl) ?_
    refine ch_icmp_ne (tgt := 59) hx hb dX7_worst_42 (by decide) h (fun h => ?_) (fun h => ?_)
    · exact t_X7_worst_59 S fin hk25 hk34 h hw (lv_sub hl [0, 1, 2, 3, 4, 5] rfl)
    · refine lv_iload hx hb dX7_worst_45 (lv_at hl 4 rfl) ?_
      refine ch_if_ne (tgt := 59) hx hb dX7_worst_47 (by decide) h (fun h => ?_) (fun h => ?_)
      · exact t_X7_worst_59 S fin hk25 hk34 h hw (lv_sub hl [0, 1, 2, 3, 4, 5] rfl)
      · refine lv_iload hx hb dX7_worst_50 (lv_at hl 5 rfl) ?_
        refine ch_if_ne (tgt := 59) hx hb dX7_worst_52 (by decide) h (fun h => ?_) (fun h => ?_)
        · exact t_X7_worst_59 S fin hk25 hk34 h hw (lv_sub hl [0, 1, 2, 3, 4, 5] rfl)
        · refine lv_iconst (v := (0 : Int32)) hx hb dX7_worst_55 (by decide) ?_
          refine lv_goto (tgt := 69) hx hb dX7_worst_56 (by decide) ?_
          exact t_X7_worst_69 S fin hk25 hk34 h hw (lv_sub hl [0, 1, 2, 3, 4, 5] rfl)
set_option maxHeartbeats 4000000 in
set_option maxRecDepth 100000 in
theorem tl_X7_worst_34 {p : Program} {l : Launch} {e : Env} {s : State} {m : MethodId} {args : Array Value} {below : List Frame} {meth : Method} {c : Code} {Q : State → Prop} {D : va_G} {I : ch_Id} {sh : Nat → Nat} {A : Nat → Prop} {oo : Int32 × ch_Mem}    {k25 : Int32 → Int32 → Int32 → Int32 → Int32 → ch_Mem → Option (Int32 × ch_Mem)} (S : CallFix p m c cX7_worst 8 s args wsX7_worst RX7) (fin : ch_FinI p l e rm_X7_worst s m args below meth c cX7_worst Q D I 13 (ch_FM I sh) sh A oo) (hk25 : ∀ (x1 : Int32) (x2 : Int32) (x3 : Int32) (x4 : Int32) (x5 : Int32) (M : ch_Mem) (H : Heap) (locs : List Loc) (ls : Array Slot), k25 x1 x2 x3 x4 x5 M = some oo → ch_Wd D I 13 (ch_FM I sh) sh s A M H locs → lv_has ls 8 [(1, .int x1), (2, .int x2), (3, .int x3), (4, .int x4), (5, .int x5)] → W p l e rm_X7_worst s m args below meth c H locs 0 0 Q (F0 m 25 ls [])) (n : Nat) : ∀ (x1 : Int32) (x2 : Int32) (x3 : Int32) (x4 : Int32) (x5 : Int32) (x6 : Int32) (M : ch_Mem) (H : Heap) (locs : List Loc) (ls : Array Slot), D_X7_worst_L34 k25 n x1 x2 x3 x4 x5 x6 M = some oo → ch_Wd D I 13 (ch_FM I sh) sh s A M H locs → lv_has ls 8 [(1, .int x1), (2, .int x2), (3, .int x3), (4, .int x4), (5, .int x5), (6, .int x6)] → W p l e rm_X7_worst s m args below meth c H locs 0 0 Q (F0 m 34 ls []) := by
  induction n with
  | zero => intro x1 x2 x3 x4 x5 x6 M H locs ls  h; cases h
  | succ n ih =>
    intro x1 x2 x3 x4 x5 x6 M H locs ls  h hw hl
    exact t_X7_worst_34 S fin hk25 ih h hw hl
set_option maxHeartbeats 4000000 in
set_option maxRecDepth 100000 in
theorem t_X7_worst_99 {p : Program} {l : Launch} {e : Env} {s : State} {m : MethodId} {args : Array Value} {below : List Frame} {meth : Method} {c : Code} {Q : State → Prop} {D : va_G} {I : ch_Id} {sh : Nat → Nat} {A : Nat → Prop} {oo : Int32 × ch_Mem}     (S : CallFix p m c cX7_worst 8 s args wsX7_worst RX7) (fin : ch_FinI p l e rm_X7_worst s m args below meth c cX7_worst Q D I 13 (ch_FM I sh) sh A oo)  {x4 : Int32}  {M : ch_Mem} {H : Heap} {locs : List Loc} {ls : Array Slot} (h : D_X7_worst_b99 x4 M = some oo) (hw : ch_Wd D I 13 (ch_FM I sh) sh s A M H locs) (hl : lv_has ls 8 [(4, .int x4)]) : W p l e rm_X7_worst s m args below meth c H locs 0 0 Q (F0 m 99 ls []) := by
  obtain ⟨hx, hb, hml, hown, hts⟩ := id S
  unfold D_X7_worst_b99 at h
  refine lv_iload hx hb dX7_worst_99 (lv_at hl 0 rfl) ?_
  exact fin _ _ _ _ _ _ h hw dX7_worst_101
set_option maxHeartbeats 4000000 in
set_option maxRecDepth 100000 in
theorem t_X7_worst_25 {p : Program} {l : Launch} {e : Env} {s : State} {m : MethodId} {args : Array Value} {below : List Frame} {meth : Method} {c : Code} {Q : State → Prop} {D : va_G} {I : ch_Id} {sh : Nat → Nat} {A : Nat → Prop} {oo : Int32 × ch_Mem}    {k25 : Int32 → Int32 → Int32 → Int32 → Int32 → ch_Mem → Option (Int32 × ch_Mem)} (S : CallFix p m c cX7_worst 8 s args wsX7_worst RX7) (fin : ch_FinI p l e rm_X7_worst s m args below meth c cX7_worst Q D I 13 (ch_FM I sh) sh A oo) (hk25 : ∀ (x1 : Int32) (x2 : Int32) (x3 : Int32) (x4 : Int32) (x5 : Int32) (M : ch_Mem) (H : Heap) (locs : List Loc) (ls : Array Slot), k25 x1 x2 x3 x4 x5 M = some oo → ch_Wd D I 13 (ch_FM I sh) sh s A M H locs → lv_has ls 8 [(1, .int x1), (2, .int x2), (3, .int x3), (4, .int x4), (5, .int x5)] → W p l e rm_X7_worst s m args below meth c H locs 0 0 Q (F0 m 25 ls [])) {x1 : Int32} {x2 : Int32} {x3 : Int32} {x4 : Int32} {x5 : Int32}  {M : ch_Mem} {H : Heap} {locs : List Loc} {ls : Array Slot} (h : D_X7_worst_b25 k25 x1 x2 x3 x4 x5 M = some oo) (hw : ch_Wd D I 13 (ch_FM I sh) sh s A M H locs) (hl : lv_has ls 8 [(1, .int x1), (2, .int x2), (3, .int x3), (4, .int x4), (5, .int x5)]) : W p l e rm_X7_worst s m args below meth c H locs 0 0 Q (F0 m 25 ls []) := by
  obtain ⟨hx, hb, hml, hown, hts⟩ := id S
  unfold D_X7_worst_b25 at h
  refine lv_iload hx hb dX7_worst_25 (lv_at hl 4 rfl) ?_
  refine lv_iload_n hx hb dX7_worst_27 rfl (lv_at hl 0 rfl) ?_
  refine ch_icmp_ge (tgt := 99) hx hb dX7_worst_28 (by decide) h (fun h => ?_) (fun h => ?_)
  · exact t_X7_worst_99 S fin h hw (lv_sub hl [3] rfl)
  · refine lv_iconst (v := (0 : Int32)) hx hb dX7_worst_31 (by decide) ?_
    refine lv_istore (lv' := [(6, .int (0 : Int32)), (1, .int x1), (2, .int x2), (3, .int x3), (4, .int x4), (5, .int x5)]) hx hb dX7_worst_32 hl (by decide) rfl (fun ls hl => ?_)
    exact tl_X7_worst_34 S fin hk25 ch_fu _ _ _ _ _ _ _ _ _ _ h hw (lv_sub hl [1, 2, 3, 4, 5, 0] rfl)
set_option maxHeartbeats 4000000 in
set_option maxRecDepth 100000 in
theorem tl_X7_worst_25 {p : Program} {l : Launch} {e : Env} {s : State} {m : MethodId} {args : Array Value} {below : List Frame} {meth : Method} {c : Code} {Q : State → Prop} {D : va_G} {I : ch_Id} {sh : Nat → Nat} {A : Nat → Prop} {oo : Int32 × ch_Mem}     (S : CallFix p m c cX7_worst 8 s args wsX7_worst RX7) (fin : ch_FinI p l e rm_X7_worst s m args below meth c cX7_worst Q D I 13 (ch_FM I sh) sh A oo)  (n : Nat) : ∀ (x1 : Int32) (x2 : Int32) (x3 : Int32) (x4 : Int32) (x5 : Int32) (M : ch_Mem) (H : Heap) (locs : List Loc) (ls : Array Slot), D_X7_worst_L25  n x1 x2 x3 x4 x5 M = some oo → ch_Wd D I 13 (ch_FM I sh) sh s A M H locs → lv_has ls 8 [(1, .int x1), (2, .int x2), (3, .int x3), (4, .int x4), (5, .int x5)] → W p l e rm_X7_worst s m args below meth c H locs 0 0 Q (F0 m 25 ls []) := by
  induction n with
  | zero => intro x1 x2 x3 x4 x5 M H locs ls  h; cases h
  | succ n ih =>
    intro x1 x2 x3 x4 x5 M H locs ls  h hw hl
    exact t_X7_worst_25 S fin ih h hw hl
set_option maxHeartbeats 4000000 in
set_option maxRecDepth 100000 in
theorem t_X7_worst_0 {p : Program} {l : Launch} {e : Env} {s : State} {m : MethodId} {args : Array Value} {below : List Frame} {meth : Method} {c : Code} {Q : State → Prop} {D : va_G} {I : ch_Id} {sh : Nat → Nat} {A : Nat → Prop} {oo : Int32 × ch_Mem}     (S : CallFix p m c cX7_worst 8 s args wsX7_worst RX7) (fin : ch_FinI p l e rm_X7_worst s m args below meth c cX7_worst Q D I 13 (ch_FM I sh) sh A oo)  {x1 : Int32} {x2 : Int32} {x3 : Int32}  {M : ch_Mem} {H : Heap} {locs : List Loc} {ls : Array Slot} (h : D_X7_worst x1 x2 x3 M = some oo) (hw : ch_Wd D I 13 (ch_FM I sh) sh s A M H locs) (hl : lv_has ls 8 [(0, .ref (sh 0)), (1, .int x1), (2, .int x2), (3, .int x3)]) : W p l e rm_X7_worst s m args below meth c H locs 0 0 Q (F0 m 0 ls []) := by
  obtain ⟨hx, hb, hml, hown, hts⟩ := id S
  unfold D_X7_worst at h
  refine lv_iload_n hx hb dX7_worst_0 rfl (lv_at hl 1 rfl) ?_
  refine lv_iload_n hx hb dX7_worst_1 rfl (lv_at hl 2 rfl) ?_
  refine ch_bd_k h (fun r1 M2 hc h => ?_)
  refine ch_ci hw (va_runS (As := [.int x1, .int x2]) (rest := []) S (c_X7_isHop l D I sh H.size M x1 x2 hc) (va_cwS 2 hts gX7_worst_X7_isHop rfl rfl rfl (by decide +kernel) ⟨Nat.le_of_ble_eq_true rfl, Nat.le_of_ble_eq_true rfl⟩) (ch_pS hw) rfl rfl hl.1 rfl (lv_room (Nat.le_of_ble_eq_true rfl)) dX7_worst_2 ⟨Nat.le_refl 0, Nat.le_refl 0⟩) (fun H locs hw => ?_)
  refine ch_if_eq (tgt := 16) hx hb dX7_worst_5 (by decide) h (fun h => ?_) (fun h => ?_)
  · refine lv_bipush (v := (-2 : Int32)) hx hb dX7_worst_16 (by decide) ?_
    exact fin _ _ _ _ _ _ h hw dX7_worst_18
  · refine lv_iload_n hx hb dX7_worst_8 rfl (lv_at hl 1 rfl) ?_
    refine lv_iload_n hx hb dX7_worst_9 rfl (lv_at hl 3 rfl) ?_
    refine ch_bd_k h (fun r3 M4 hc h => ?_)
    refine ch_ci hw (va_runS (As := [.int x1, .int x3]) (rest := []) S (c_X7_isHop l D I sh H.size M2 x1 x3 hc) (va_cwS 2 hts gX7_worst_X7_isHop rfl rfl rfl (by decide +kernel) ⟨Nat.le_of_ble_eq_true rfl, Nat.le_of_ble_eq_true rfl⟩) (ch_pS hw) rfl rfl hl.1 rfl (lv_room (Nat.le_of_ble_eq_true rfl)) dX7_worst_10 ⟨Nat.le_refl 0, Nat.le_refl 0⟩) (fun H locs hw => ?_)
    refine ch_if_ne (tgt := 19) hx hb dX7_worst_13 (by decide) h (fun h => ?_) (fun h => ?_)
    · refine lv_iconst (v := (0 : Int32)) hx hb dX7_worst_19 (by decide) ?_
      refine lv_istore (lv' := [(4, .int (0 : Int32)), (0, .ref (sh 0)), (1, .int x1), (2, .int x2), (3, .int x3)]) hx hb dX7_worst_20 hl (by decide) rfl (fun ls hl => ?_)
      refine lv_iconst (v := (0 : Int32)) hx hb dX7_worst_22 (by decide) ?_
      refine lv_istore (lv' := [(5, .int (0 : Int32)), (4, .int (0 : Int32)), (0, .ref (sh 0)), (1, .int x1), (2, .int x2), (3, .int x3)]) hx hb dX7_worst_23 hl (by decide) rfl (fun ls hl => ?_)
      exact tl_X7_worst_25 S fin ch_fu _ _ _ _ _ _ _ _ _ h hw (lv_sub hl [3, 4, 5, 1, 0] rfl)
    · refine lv_bipush (v := (-2 : Int32)) hx hb dX7_worst_16 (by decide) ?_
      exact fin _ _ _ _ _ _ h hw dX7_worst_18
set_option maxHeartbeats 4000000 in
set_option maxRecDepth 100000 in
theorem c_X7_worst (l : Launch) (D : va_G) (I : ch_Id) (sh : Nat → Nat) (sz : Nat) (M : ch_Mem)  (x1 : Int32) (x2 : Int32) (x3 : Int32) {r : Int32} {M1 : ch_Mem} (h : D_X7_worst x1 x2 x3 M = some (r, M1)) : Met l yX7_worst wsX7_worst rm_X7_worst (va_Pc [.ref (sh 0), .int x1, .int x2, .int x3] (ch_Pre D I 13 (ch_FM I sh) sh sz M)) (va_Qi (fun r' (u : ch_Mem) => r' = r ∧ u = M1) (ch_Pos D 13 (ch_FM I sh) sh) (ch_A 13 sh sz)) 0 0 (ch_A 13 sh sz) := by
  refine Met.ofW (cc := cX7_worst) (maxL := 8) (ret := (some .int)) (by decide) rfl ?_
  intro p e s m args below meth c s₁ B hml hv0
  obtain ⟨rfl, hv0⟩ := hv0
  obtain rfl : s.heap.size = sz := hv0.1
  have hw := ch_start hv0
  have S : CallFix p m c cX7_worst 8 s _ wsX7_worst RX7 := ⟨B.exec, B.bytes, hml, findClass_of_methodNamed B.named, atoms_spec (ws := wsX7_worst) B.pre⟩
  have hl := lv_entry ([.ref (sh 0), .int x1, .int x2, .int x3]) (n := 8) (Nat.le_of_ble_eq_true rfl)
  rw [lg_entry_eq]
  generalize (lg_sl ([.ref (sh 0), .int x1, .int x2, .int x3]) ++ List.replicate (8 - (lg_sl ([.ref (sh 0), .int x1, .int x2, .int x3])).length) Slot.unset).toArray = ls at hl ⊢
  exact t_X7_worst_0 S (ch_finI (B := fun _ => True) B.exec B.bytes B.returns B.notSynchronized) h hw (lv_sub hl [0, 1, 2, 3] rfl)
