set_option maxHeartbeats 4000000 in
set_option maxRecDepth 100000 in
theorem t_X7_likeness_45 {p : Program} {l : Launch} {e : Env} {s : State} {m : MethodId} {args : Array Value} {below : List Frame} {meth : Method} {c : Code} {Q : State → Prop} {D : va_G} {I : ch_Id} {sh : Nat → Nat} {A : Nat → Prop} {oo : Int32 × ch_Mem}     (S : CallFix p m c cX7_likeness 6 s args wsX7_likeness RX7) (fin : ch_FinI p l e rm_X7_likeness s m args below meth c cX7_likeness Q D I 13 (ch_FM I sh) sh A oo)  {x4 : Int32}  {M : ch_Mem} {H : Heap} {locs : List Loc} {ls : Array Slot} (h : D_X7_likeness_b45 x4 M = some oo) (hw : ch_Wd D I 13 (ch_FM I sh) sh s A M H locs) (hl : lv_has ls 6 [(4, .int x4)]) : W p l e rm_X7_likeness s m args below meth c H locs 0 0 Q (F0 m 45 ls []) := by
  obtain ⟨hx, hb, hml, hown, hts⟩ := id S
  unfold D_X7_likeness_b45 at h
  refine lv_iload hx hb dX7_likeness_45 (lv_at hl 0 rfl) ?_
  exact fin _ _ _ _ _ _ h hw dX7_likeness_47
set_option maxHeartbeats 4000000 in
set_option maxRecDepth 100000 in
theorem t_X7_likeness_6 {p : Program} {l : Launch} {e : Env} {s : State} {m : MethodId} {args : Array Value} {below : List Frame} {meth : Method} {c : Code} {Q : State → Prop} {D : va_G} {I : ch_Id} {sh : Nat → Nat} {A : Nat → Prop} {oo : Int32 × ch_Mem}    {k6 : Int32 → Int32 → Int32 → Int32 → Int32 → ch_Mem → Option (Int32 × ch_Mem)} (S : CallFix p m c cX7_likeness 6 s args wsX7_likeness RX7) (fin : ch_FinI p l e rm_X7_likeness s m args below meth c cX7_likeness Q D I 13 (ch_FM I sh) sh A oo) (hk6 : ∀ (x1 : Int32) (x2 : Int32) (x3 : Int32) (x4 : Int32) (x5 : Int32) (M : ch_Mem) (H : Heap) (locs : List Loc) (ls : Array Slot), k6 x1 x2 x3 x4 x5 M = some oo → ch_Wd D I 13 (ch_FM I sh) sh s A M H locs → lv_has ls 6 [(0, .ref (sh 0)), (1, .int x1), (2, .int x2), (3, .int x3), (4, .int x4), (5, .int x5)] → W p l e rm_X7_likeness s m args below meth c H locs 0 0 Q (F0 m 6 ls [])) {x1 : Int32} {x2 : Int32} {x3 : Int32} {x4 : Int32} {x5 : Int32}  {M : ch_Mem} {H : Heap} {locs : List Loc} {ls : Array Slot} (h : D_X7_likeness_b6 k6 x1 x2 x3 x4 x5 M = some oo) (hw : ch_Wd D I 13 (ch_FM I sh) sh s A M H locs) (hl : lv_has ls 6 [(0, .ref (sh 0)), (1, .int x1), (2, .int x2), (3, .int x3), (4, .int x4), (5, .int x5)]) : W p l e rm_X7_likeness s m args below meth c H locs 0 0 Q (F0 m 6 ls []) := by
  obtain ⟨hx, hb, hml, hown, hts⟩ := id S
  unfold D_X7_likeness_b6 at h
  refine lv_iload hx hb dX7_likeness_6 (lv_at hl 5 rfl) ?_
  refine lv_aload_n hx hb dX7_likeness_8 rfl (lv_at hl 0 rfl) ?_
  refine ch_get S hw 0 (by decide) rfl rfl (by decide +kernel) 0 (by decide) (hts (.fieldLink RX7 7 "CodeHuntModel" "sizesOf" "[I") (by decide +kernel)) rfl dX7_likeness_9 ?_
  refine lv_iload_n hx hb dX7_likeness_12 rfl (lv_at hl 1 rfl) ?_
  refine ch_gd_k h (fun hin h => ?_)
  refine ch_iald S hw 1 (by decide) rfl hin dX7_likeness_13 ?_
  refine ch_icmp_ge (tgt := 45) hx hb dX7_likeness_14 (by decide) h (fun h => ?_) (fun h => ?_)
  · exact t_X7_likeness_45 S fin h hw (lv_sub hl [4] rfl)
  · refine lv_iload hx hb dX7_likeness_17 (lv_at hl 4 rfl) ?_
    refine lv_aload_n hx hb dX7_likeness_19 rfl (lv_at hl 0 rfl) ?_
    refine lv_iload_n hx hb dX7_likeness_20 rfl (lv_at hl 1 rfl) ?_
    refine lv_iload hx hb dX7_likeness_21 (lv_at hl 5 rfl) ?_
    refine ch_bd_k h (fun r1 M2 hc h => ?_)
    refine ch_ci hw (va_runV (As := [.int x1, .int x5]) (rest := [.int x4]) S (c_X7_signOf l D I sh H.size M x1 x5 hc) (cwV 2 hts gX7_likeness_X7_signOf rfl rfl rfl (by decide +kernel) ⟨Nat.le_of_ble_eq_true rfl, Nat.le_of_ble_eq_true rfl⟩) (ch_pV hw (by decide) rfl rfl rfl) rfl rfl hl.1 rfl (lv_room (Nat.le_of_ble_eq_true rfl)) dX7_likeness_23 ⟨Nat.le_refl 0, Nat.le_refl 0⟩) (fun H locs hw => ?_)
    refine lv_aload_n hx hb dX7_likeness_26 rfl (lv_at hl 0 rfl) ?_
    refine lv_iload_n hx hb dX7_likeness_27 rfl (lv_at hl 2 rfl) ?_
    refine lv_iload hx hb dX7_likeness_28 (lv_at hl 5 rfl) ?_
    refine lv_iload_n hx hb dX7_likeness_30 rfl (lv_at hl 3 rfl) ?_
    refine lv_iadd hx hb dX7_likeness_31 ?_
    refine ch_bd_k h (fun r3 M4 hc h => ?_)
    refine ch_ci hw (va_runV (As := [.int x2, .int (x5 + x3)]) (rest := [.int r1, .int x4]) S (c_X7_signOf l D I sh H.size M2 x2 (x5 + x3) hc) (cwV 2 hts gX7_likeness_X7_signOf rfl rfl rfl (by decide +kernel) ⟨Nat.le_of_ble_eq_true rfl, Nat.le_of_ble_eq_true rfl⟩) (ch_pV hw (by decide) rfl rfl rfl) rfl rfl hl.1 rfl (lv_room (Nat.le_of_ble_eq_true rfl)) dX7_likeness_32 ⟨Nat.le_refl 0, Nat.le_refl 0⟩) (fun H locs hw => ?_)
    refine lv_imul hx hb dX7_likeness_35 ?_
    refine lv_iadd hx hb dX7_likeness_36 ?_
    refine lv_istore (lv' := [(4, .int (x4 + (r1 * r3))), (0, .ref (sh 0)), (1, .int x1), (2, .int x2), (3, .int x3), (5, .int x5)]) hx hb dX7_likeness_37 hl (by decide) rfl (fun ls hl => ?_)
    refine lv_iinc (v := x5 + (1 : Int32)) (lv' := [(5, .int (x5 + (1 : Int32))), (4, .int (x4 + (r1 * r3))), (0, .ref (sh 0)), (1, .int x1), (2, .int x2), (3, .int x3)]) hx hb dX7_likeness_39 hl (k := 5) rfl rfl (by decide) rfl (fun ls hl => ?_)
    refine lv_goto (tgt := 6) hx hb dX7_likeness_42 (by decide) ?_
    exact hk6 _ _ _ _ _ _ _ _ _  h hw (lv_sub hl [2, 3, 4, 5, 1, 0] rfl)
set_option maxHeartbeats 4000000 in
set_option maxRecDepth 100000 in
theorem tl_X7_likeness_6 {p : Program} {l : Launch} {e : Env} {s : State} {m : MethodId} {args : Array Value} {below : List Frame} {meth : Method} {c : Code} {Q : State → Prop} {D : va_G} {I : ch_Id} {sh : Nat → Nat} {A : Nat → Prop} {oo : Int32 × ch_Mem}     (S : CallFix p m c cX7_likeness 6 s args wsX7_likeness RX7) (fin : ch_FinI p l e rm_X7_likeness s m args below meth c cX7_likeness Q D I 13 (ch_FM I sh) sh A oo)  (n : Nat) : ∀ (x1 : Int32) (x2 : Int32) (x3 : Int32) (x4 : Int32) (x5 : Int32) (M : ch_Mem) (H : Heap) (locs : List Loc) (ls : Array Slot), D_X7_likeness_L6  n x1 x2 x3 x4 x5 M = some oo → ch_Wd D I 13 (ch_FM I sh) sh s A M H locs → lv_has ls 6 [(0, .ref (sh 0)), (1, .int x1), (2, .int x2), (3, .int x3), (4, .int x4), (5, .int x5)] → W p l e rm_X7_likeness s m args below meth c H locs 0 0 Q (F0 m 6 ls []) := by
  induction n with
  | zero => intro x1 x2 x3 x4 x5 M H locs ls  h; cases h
  | succ n ih =>
    intro x1 x2 x3 x4 x5 M H locs ls  h hw hl
    exact t_X7_likeness_6 S fin ih h hw hl
set_option maxHeartbeats 4000000 in
set_option maxRecDepth 100000 in
theorem t_X7_likeness_0 {p : Program} {l : Launch} {e : Env} {s : State} {m : MethodId} {args : Array Value} {below : List Frame} {meth : Method} {c : Code} {Q : State → Prop} {D : va_G} {I : ch_Id} {sh : Nat → Nat} {A : Nat → Prop} {oo : Int32 × ch_Mem}     (S : CallFix p m c cX7_likeness 6 s args wsX7_likeness RX7) (fin : ch_FinI p l e rm_X7_likeness s m args below meth c cX7_likeness Q D I 13 (ch_FM I sh) sh A oo)  {x1 : Int32} {x2 : Int32} {x3 : Int32}  {M : ch_Mem} {H : Heap} {locs : List Loc} {ls : Array Slot} (h : D_X7_likeness x1 x2 x3 M = some oo) (hw : ch_Wd D I 13 (ch_FM I sh) sh s A M H locs) (hl : lv_has ls 6 [(0, .ref (sh 0)), (1, .int x1), (2, .int x2), (3, .int x3)]) : W p l e rm_X7_likeness s m args below meth c H locs 0 0 Q (F0 m 0 ls []) := by
  obtain ⟨hx, hb, hml, hown, hts⟩ := id S
  unfold D_X7_likeness at h
  refine lv_iconst (v := (0 : Int32)) hx hb dX7_likeness_0 (by decide) ?_
  refine lv_istore (lv' := [(4, .int (0 : Int32)), (0, .ref (sh 0)), (1, .int x1), (2, .int x2), (3, .int x3)]) hx hb dX7_likeness_1 hl (by decide) rfl (fun ls hl => ?_)
  refine lv_iconst (v := (0 : Int32)) hx hb dX7_likeness_3 (by decide) ?_
  refine lv_istore (lv' := [(5, .int (0 : Int32)), (4, .int (0 : Int32)), (0, .ref (sh 0)), (1, .int x1), (2, .int x2), (3, .int x3)]) hx hb dX7_likeness_4 hl (by decide) rfl (fun ls hl => ?_)
  exact tl_X7_likeness_6 S fin ch_fu _ _ _ _ _ _ _ _ _ h hw (lv_sub hl [2, 3, 4, 5, 1, 0] rfl)
set_option maxHeartbeats 4000000 in
set_option maxRecDepth 100000 in
theorem c_X7_likeness (l : Launch) (D : va_G) (I : ch_Id) (sh : Nat → Nat) (sz : Nat) (M : ch_Mem)  (x1 : Int32) (x2 : Int32) (x3 : Int32) {r : Int32} {M1 : ch_Mem} (h : D_X7_likeness x1 x2 x3 M = some (r, M1)) : Met l yX7_likeness wsX7_likeness rm_X7_likeness (va_Pc [.ref (sh 0), .int x1, .int x2, .int x3] (ch_Pre D I 13 (ch_FM I sh) sh sz M)) (va_Qi (fun r' (u : ch_Mem) => r' = r ∧ u = M1) (ch_Pos D 13 (ch_FM I sh) sh) (ch_A 13 sh sz)) 0 0 (ch_A 13 sh sz) := by
  refine Met.ofW (cc := cX7_likeness) (maxL := 6) (ret := (some .int)) (by decide) rfl ?_
  intro p e s m args below meth c s₁ B hml hv0
  obtain ⟨rfl, hv0⟩ := hv0
  obtain rfl : s.heap.size = sz := hv0.1
  have hw := ch_start hv0
  have S : CallFix p m c cX7_likeness 6 s _ wsX7_likeness RX7 := ⟨B.exec, B.bytes, hml, findClass_of_methodNamed B.named, atoms_spec (ws := wsX7_likeness) B.pre⟩
  have hl := lv_entry ([.ref (sh 0), .int x1, .int x2, .int x3]) (n := 6) (Nat.le_of_ble_eq_true rfl)
  rw [lg_entry_eq]
  generalize (lg_sl ([.ref (sh 0), .int x1, .int x2, .int x3]) ++ List.replicate (6 - (lg_sl ([.ref (sh 0), .int x1, .int x2, .int x3])).length) Slot.unset).toArray = ls at hl ⊢
  exact t_X7_likeness_0 S (ch_finI (B := fun _ => True) B.exec B.bytes B.returns B.notSynchronized) h hw (lv_sub hl [0, 1, 2, 3] rfl)
set_option maxHeartbeats 4000000 in
set_option maxRecDepth 100000 in
theorem t_X7_like_0 {p : Program} {l : Launch} {e : Env} {s : State} {m : MethodId} {args : Array Value} {below : List Frame} {meth : Method} {c : Code} {Q : State → Prop} {D : va_G} {I : ch_Id} {sh : Nat → Nat} {A : Nat → Prop} {oo : Int32 × ch_Mem}     (S : CallFix p m c cX7_like 4 s args wsX7_like RX7) (fin : ch_FinI p l e rm_X7_like s m args below meth c cX7_like Q D I 13 (ch_FM I sh) sh A oo)  {x1 : Int32} {x2 : Int32} {x3 : Int32}  {M : ch_Mem} {H : Heap} {locs : List Loc} {ls : Array Slot} (h : D_X7_like x1 x2 x3 M = some oo) (hw : ch_Wd D I 13 (ch_FM I sh) sh s A M H locs) (hl : lv_has ls 4 [(0, .ref (sh 0)), (1, .int x1), (2, .int x2), (3, .int x3)]) : W p l e rm_X7_like s m args below meth c H locs 0 0 Q (F0 m 0 ls []) := by
  obtain ⟨hx, hb, hml, hown, hts⟩ := id S
  unfold D_X7_like at h
  refine lv_iload_n hx hb dX7_like_0 rfl (lv_at hl 1 rfl) ?_
  refine ch_bd_k h (fun r1 M2 hc h => ?_)
  refine ch_ci hw (va_runS (As := [.int x1]) (rest := []) S (c_X7_isRow l D I sh H.size M x1 hc) (va_cwS 1 hts gX7_like_X7_isRow rfl rfl rfl (by decide +kernel) ⟨Nat.le_of_ble_eq_true rfl, Nat.le_of_ble_eq_true rfl⟩) (ch_pS hw) rfl rfl hl.1 rfl (lv_room (Nat.le_of_ble_eq_true rfl)) dX7_like_1 ⟨Nat.le_refl 0, Nat.le_refl 0⟩) (fun H locs hw => ?_)
  refine ch_if_eq (tgt := 21) hx hb dX7_like_4 (by decide) h (fun h => ?_) (fun h => ?_)
  · refine lv_sipush (v := (-1002 : Int32)) hx hb dX7_like_21 (by decide) ?_
    exact fin _ _ _ _ _ _ h hw dX7_like_24
  · refine lv_iload_n hx hb dX7_like_7 rfl (lv_at hl 2 rfl) ?_
    refine ch_bd_k h (fun r3 M4 hc h => ?_)
    refine ch_ci hw (va_runS (As := [.int x2]) (rest := []) S (c_X7_isRow l D I sh H.size M2 x2 hc) (va_cwS 1 hts gX7_like_X7_isRow rfl rfl rfl (by decide +kernel) ⟨Nat.le_of_ble_eq_true rfl, Nat.le_of_ble_eq_true rfl⟩) (ch_pS hw) rfl rfl hl.1 rfl (lv_room (Nat.le_of_ble_eq_true rfl)) dX7_like_8 ⟨Nat.le_refl 0, Nat.le_refl 0⟩) (fun H locs hw => ?_)
    refine ch_if_eq (tgt := 21) hx hb dX7_like_11 (by decide) h (fun h => ?_) (fun h => ?_)
    · refine lv_sipush (v := (-1002 : Int32)) hx hb dX7_like_21 (by decide) ?_
      exact fin _ _ _ _ _ _ h hw dX7_like_24
    · refine lv_iload_n hx hb dX7_like_14 rfl (lv_at hl 3 rfl) ?_
      refine ch_bd_k h (fun r5 M6 hc h => ?_)
      refine ch_ci hw (va_runS (As := [.int x3]) (rest := []) S (c_X7_isShift l D I sh H.size M4 x3 hc) (va_cwS 1 hts gX7_like_X7_isShift rfl rfl rfl (by decide +kernel) ⟨Nat.le_of_ble_eq_true rfl, Nat.le_of_ble_eq_true rfl⟩) (ch_pS hw) rfl rfl hl.1 rfl (lv_room (Nat.le_of_ble_eq_true rfl)) dX7_like_15 ⟨Nat.le_refl 0, Nat.le_refl 0⟩) (fun H locs hw => ?_)
      refine ch_if_ne (tgt := 25) hx hb dX7_like_18 (by decide) h (fun h => ?_) (fun h => ?_)
      · refine lv_aload_n hx hb dX7_like_25 rfl (lv_at hl 0 rfl) ?_
        refine lv_iload_n hx hb dX7_like_26 rfl (lv_at hl 1 rfl) ?_
        refine lv_iload_n hx hb dX7_like_27 rfl (lv_at hl 2 rfl) ?_
        refine ch_bd_k h (fun r7 M8 hc h => ?_)
        refine ch_ci hw (va_runV (As := [.int x1, .int x2]) (rest := []) S (c_X7_arePair l D I sh H.size M6 x1 x2 hc) (cwV 2 hts gX7_like_X7_arePair rfl rfl rfl (by decide +kernel) ⟨Nat.le_of_ble_eq_true rfl, Nat.le_of_ble_eq_true rfl⟩) (ch_pV hw (by decide) rfl rfl rfl) rfl rfl hl.1 rfl (lv_room (Nat.le_of_ble_eq_true rfl)) dX7_like_28 ⟨Nat.le_refl 0, Nat.le_refl 0⟩) (fun H locs hw => ?_)
        refine ch_if_eq (tgt := 44) hx hb dX7_like_31 (by decide) h (fun h => ?_) (fun h => ?_)
        · refine lv_sipush (v := (-1003 : Int32)) hx hb dX7_like_44 (by decide) ?_
          exact fin _ _ _ _ _ _ h hw dX7_like_47
        · refine lv_aload_n hx hb dX7_like_34 rfl (lv_at hl 0 rfl) ?_
          refine lv_iload_n hx hb dX7_like_35 rfl (lv_at hl 1 rfl) ?_
          refine lv_iload_n hx hb dX7_like_36 rfl (lv_at hl 2 rfl) ?_
          refine lv_iload_n hx hb dX7_like_37 rfl (lv_at hl 3 rfl) ?_
          refine ch_bd_k h (fun r9 M10 hc h => ?_)
          refine ch_ci hw (va_runV (As := [.int x1, .int x2, .int x3]) (rest := []) S (c_X7_likeness l D I sh H.size M8 x1 x2 x3 hc) (cwV 3 hts gX7_like_X7_likeness rfl rfl rfl (by decide +kernel) ⟨Nat.le_of_ble_eq_true rfl, Nat.le_of_ble_eq_true rfl⟩) (ch_pV hw (by decide) rfl rfl rfl) rfl rfl hl.1 rfl (lv_room (Nat.le_of_ble_eq_true rfl)) dX7_like_38 ⟨Nat.le_refl 0, Nat.le_refl 0⟩) (fun H locs hw => ?_)
          refine lv_goto (tgt := 47) hx hb dX7_like_41 (by decide) ?_
          exact fin _ _ _ _ _ _ h hw dX7_like_47
      · refine lv_sipush (v := (-1002 : Int32)) hx hb dX7_like_21 (by decide) ?_
        exact fin _ _ _ _ _ _ h hw dX7_like_24
set_option maxHeartbeats 4000000 in
set_option maxRecDepth 100000 in
theorem c_X7_like (l : Launch) (D : va_G) (I : ch_Id) (sh : Nat → Nat) (sz : Nat) (M : ch_Mem)  (x1 : Int32) (x2 : Int32) (x3 : Int32) {r : Int32} {M1 : ch_Mem} (h : D_X7_like x1 x2 x3 M = some (r, M1)) : Met l yX7_like wsX7_like rm_X7_like (va_Pc [.ref (sh 0), .int x1, .int x2, .int x3] (ch_Pre D I 13 (ch_FM I sh) sh sz M)) (va_Qi (fun r' (u : ch_Mem) => r' = r ∧ u = M1) (ch_Pos D 13 (ch_FM I sh) sh) (ch_A 13 sh sz)) 0 0 (ch_A 13 sh sz) := by
  refine Met.ofW (cc := cX7_like) (maxL := 4) (ret := (some .int)) (by decide) rfl ?_
  intro p e s m args below meth c s₁ B hml hv0
  obtain ⟨rfl, hv0⟩ := hv0
  obtain rfl : s.heap.size = sz := hv0.1
  have hw := ch_start hv0
  have S : CallFix p m c cX7_like 4 s _ wsX7_like RX7 := ⟨B.exec, B.bytes, hml, findClass_of_methodNamed B.named, atoms_spec (ws := wsX7_like) B.pre⟩
  have hl := lv_entry ([.ref (sh 0), .int x1, .int x2, .int x3]) (n := 4) (Nat.le_of_ble_eq_true rfl)
  rw [lg_entry_eq]
  generalize (lg_sl ([.ref (sh 0), .int x1, .int x2, .int x3]) ++ List.replicate (4 - (lg_sl ([.ref (sh 0), .int x1, .int x2, .int x3])).length) Slot.unset).toArray = ls at hl ⊢
  exact t_X7_like_0 S (ch_finI (B := fun _ => True) B.exec B.bytes B.returns B.notSynchronized) h hw (lv_sub hl [0, 1, 2, 3] rfl)
set_option maxHeartbeats 4000000 in
set_option maxRecDepth 100000 in
theorem t_X7_load_94 {p : Program} {l : Launch} {e : Env} {s : State} {m : MethodId} {args : Array Value} {below : List Frame} {meth : Method} {c : Code} {Q : State → Prop} {D : va_G} {I : ch_Id} {sh : Nat → Nat} {A : Nat → Prop} {oo : Int32 × ch_Mem}    {k61 : Int32 → Int32 → Int32 → Int32 → ch_Mem → Option (Int32 × ch_Mem)} (S : CallFix p m c cX7_load 5 s args wsX7_load RX7) (fin : ch_FinI p l e rm_X7_load s m args below meth c cX7_load Q D I 13 (ch_FM I sh) sh A oo) (hk61 : ∀ (x1 : Int32) (x2 : Int32) (x3 : Int32) (x4 : Int32) (M : ch_Mem) (H : Heap) (locs : List Loc) (ls : Array Slot), k61 x1 x2 x3 x4 M = some oo → ch_Wd D I 13 (ch_FM I sh) sh s A M H locs → lv_has ls 5 [(0, .ref (sh 0)), (1, .int x1), (2, .int x2), (3, .int x3), (4, .int x4)] → W p l e rm_X7_load s m args below meth c H locs 0 0 Q (F0 m 61 ls [])) {x1 : Int32} {x2 : Int32} {x3 : Int32} {x4 : Int32} {y0 : Int32} {y1 : Int32}  {M : ch_Mem} {H : Heap} {locs : List Loc} {ls : Array Slot} (h : D_X7_load_b94 k61 x1 x2 x3 x4 y0 y1 M = some oo) (hw : ch_Wd D I 13 (ch_FM I sh) sh s A M H locs) (hl : lv_has ls 5 [(0, .ref (sh 0)), (1, .int x1), (2, .int x2), (3, .int x3), (4, .int x4)]) : W p l e rm_X7_load s m args below meth c H locs 0 0 Q (F0 m 94 ls [.int y0, .int y1, .ref (sh 3)]) := by
  obtain ⟨hx, hb, hml, hown, hts⟩ := id S
  unfold D_X7_load_b94 at h
  refine ch_gd_k h (fun hin h => ?_)
  refine ch_iast S hw 3 (by decide) (fun _ => rfl) hin dX7_load_94 (fun H locs hw => ?_)
  refine lv_iinc (v := x4 + (1 : Int32)) (lv' := [(4, .int (x4 + (1 : Int32))), (0, .ref (sh 0)), (1, .int x1), (2, .int x2), (3, .int x3)]) hx hb dX7_load_95 hl (k := 4) rfl rfl (by decide) rfl (fun ls hl => ?_)
  refine lv_goto (tgt := 61) hx hb dX7_load_98 (by decide) ?_
  exact hk61 _ _ _ _ _ _ _ _  h hw (lv_sub hl [1, 2, 3, 4, 0] rfl)
set_option maxHeartbeats 4000000 in
set_option maxRecDepth 100000 in
theorem t_X7_load_101 {p : Program} {l : Launch} {e : Env} {s : State} {m : MethodId} {args : Array Value} {below : List Frame} {meth : Method} {c : Code} {Q : State → Prop} {D : va_G} {I : ch_Id} {sh : Nat → Nat} {A : Nat → Prop} {oo : Int32 × ch_Mem}     (S : CallFix p m c cX7_load 5 s args wsX7_load RX7) (fin : ch_FinI p l e rm_X7_load s m args below meth c cX7_load Q D I 13 (ch_FM I sh) sh A oo)  {x1 : Int32} {x3 : Int32}  {M : ch_Mem} {H : Heap} {locs : List Loc} {ls : Array Slot} (h : D_X7_load_b101 x1 x3 M = some oo) (hw : ch_Wd D I 13 (ch_FM I sh) sh s A M H locs) (hl : lv_has ls 5 [(0, .ref (sh 0)), (1, .int x1), (3, .int x3)]) : W p l e rm_X7_load s m args below meth c H locs 0 0 Q (F0 m 101 ls []) := by
  obtain ⟨hx, hb, hml, hown, hts⟩ := id S
  unfold D_X7_load_b101 at h
  refine lv_aload_n hx hb dX7_load_101 rfl (lv_at hl 0 rfl) ?_
  refine lv_iload_n hx hb dX7_load_102 rfl (lv_at hl 1 rfl) ?_
  refine lv_iload_n hx hb dX7_load_103 rfl (lv_at hl 2 rfl) ?_
  refine ch_bd_k h (fun r1 M2 hc h => ?_)
  cases r1
  refine ch_cv hw (va_runV (As := [.int x1, .int x3]) (rest := []) S (c_X7_keeps l D I sh H.size M x1 x3 hc) (cwV 2 hts gX7_load_X7_keeps rfl rfl rfl (by decide +kernel) ⟨Nat.le_of_ble_eq_true rfl, Nat.le_of_ble_eq_true rfl⟩) (ch_pV hw (by decide) rfl rfl rfl) rfl rfl hl.1 rfl (lv_room (Nat.le_of_ble_eq_true rfl)) dX7_load_104 ⟨Nat.le_refl 0, Nat.le_refl 0⟩) (fun H locs hw => ?_)
  refine lv_iload_n hx hb dX7_load_107 rfl (lv_at hl 2 rfl) ?_
  exact fin _ _ _ _ _ _ h hw dX7_load_108
set_option maxHeartbeats 4000000 in
set_option maxRecDepth 100000 in
theorem t_X7_load_61 {p : Program} {l : Launch} {e : Env} {s : State} {m : MethodId} {args : Array Value} {below : List Frame} {meth : Method} {c : Code} {Q : State → Prop} {D : va_G} {I : ch_Id} {sh : Nat → Nat} {A : Nat → Prop} {oo : Int32 × ch_Mem}    {k61 : Int32 → Int32 → Int32 → Int32 → ch_Mem → Option (Int32 × ch_Mem)} (S : CallFix p m c cX7_load 5 s args wsX7_load RX7) (fin : ch_FinI p l e rm_X7_load s m args below meth c cX7_load Q D I 13 (ch_FM I sh) sh A oo) (hk61 : ∀ (x1 : Int32) (x2 : Int32) (x3 : Int32) (x4 : Int32) (M : ch_Mem) (H : Heap) (locs : List Loc) (ls : Array Slot), k61 x1 x2 x3 x4 M = some oo → ch_Wd D I 13 (ch_FM I sh) sh s A M H locs → lv_has ls 5 [(0, .ref (sh 0)), (1, .int x1), (2, .int x2), (3, .int x3), (4, .int x4)] → W p l e rm_X7_load s m args below meth c H locs 0 0 Q (F0 m 61 ls [])) {x1 : Int32} {x2 : Int32} {x3 : Int32} {x4 : Int32}  {M : ch_Mem} {H : Heap} {locs : List Loc} {ls : Array Slot} (h : D_X7_load_b61 k61 x1 x2 x3 x4 M = some oo) (hw : ch_Wd D I 13 (ch_FM I sh) sh s A M H locs) (hl : lv_has ls 5 [(0, .ref (sh 0)), (1, .int x1), (2, .int x2), (3, .int x3), (4, .int x4)]) : W p l e rm_X7_load s m args below meth c H locs 0 0 Q (F0 m 61 ls []) := by
  obtain ⟨hx, hb, hml, hown, hts⟩ := id S
  unfold D_X7_load_b61 at h
  refine lv_iload hx hb dX7_load_61 (lv_at hl 4 rfl) ?_
  refine lv_iload_n hx hb dX7_load_63 rfl (lv_at hl 3 rfl) ?_
  refine ch_icmp_ge (tgt := 101) hx hb dX7_load_64 (by decide) h (fun h => ?_) (fun h => ?_)
  · exact t_X7_load_101 S fin h hw (lv_sub hl [0, 1, 3] rfl)
  · refine lv_aload_n hx hb dX7_load_67 rfl (lv_at hl 0 rfl) ?_
    refine ch_get S hw 0 (by decide) rfl rfl (by decide +kernel) 2 (by decide) (hts (.fieldLink RX7 16 "CodeHuntModel" "made" "[I") (by decide +kernel)) rfl dX7_load_68 ?_
    refine lv_iload hx hb dX7_load_71 (lv_at hl 4 rfl) ?_
    refine lv_aload_n hx hb dX7_load_73 rfl (lv_at hl 0 rfl) ?_
    refine ch_get S hw 0 (by decide) rfl rfl (by decide +kernel) 16 (by decide) (hts (.fieldLink RX7 45 "CodeHuntModel" "items" "[I") (by decide +kernel)) rfl dX7_load_74 ?_
    refine lv_sipush (v := (300 : Int32)) hx hb dX7_load_77 (by decide) ?_
    refine lv_iload_n hx hb dX7_load_80 rfl (lv_at hl 2 rfl) ?_
    refine lv_imul hx hb dX7_load_81 ?_
    refine lv_iload hx hb dX7_load_82 (lv_at hl 4 rfl) ?_
    refine lv_iadd hx hb dX7_load_84 ?_
    refine ch_gd_k h (fun hin h => ?_)
    refine ch_iald S hw 11 (by decide) rfl hin dX7_load_85 ?_
    refine ch_if_ge (tgt := 93) hx hb dX7_load_86 (by decide) h (fun h => ?_) (fun h => ?_)
    · refine lv_iconst (v := (1 : Int32)) hx hb dX7_load_93 (by decide) ?_
      exact t_X7_load_94 S fin hk61 h hw (lv_sub hl [0, 1, 2, 3, 4] rfl)
    · refine lv_iconst (v := (-1 : Int32)) hx hb dX7_load_89 (by decide) ?_
      refine lv_goto (tgt := 94) hx hb dX7_load_90 (by decide) ?_
      exact t_X7_load_94 S fin hk61 h hw (lv_sub hl [0, 1, 2, 3, 4] rfl)
set_option maxHeartbeats 4000000 in
set_option maxRecDepth 100000 in
theorem tl_X7_load_61 {p : Program} {l : Launch} {e : Env} {s : State} {m : MethodId} {args : Array Value} {below : List Frame} {meth : Method} {c : Code} {Q : State → Prop} {D : va_G} {I : ch_Id} {sh : Nat → Nat} {A : Nat → Prop} {oo : Int32 × ch_Mem}     (S : CallFix p m c cX7_load 5 s args wsX7_load RX7) (fin : ch_FinI p l e rm_X7_load s m args below meth c cX7_load Q D I 13 (ch_FM I sh) sh A oo)  (n : Nat) : ∀ (x1 : Int32) (x2 : Int32) (x3 : Int32) (x4 : Int32) (M : ch_Mem) (H : Heap) (locs : List Loc) (ls : Array Slot), D_X7_load_L61  n x1 x2 x3 x4 M = some oo → ch_Wd D I 13 (ch_FM I sh) sh s A M H locs → lv_has ls 5 [(0, .ref (sh 0)), (1, .int x1), (2, .int x2), (3, .int x3), (4, .int x4)] → W p l e rm_X7_load s m args below meth c H locs 0 0 Q (F0 m 61 ls []) := by
  induction n with
  | zero => intro x1 x2 x3 x4 M H locs ls  h; cases h
  | succ n ih =>
    intro x1 x2 x3 x4 M H locs ls  h hw hl
    exact t_X7_load_61 S fin ih h hw hl
set_option maxHeartbeats 4000000 in
set_option maxRecDepth 100000 in
theorem t_X7_load_0 {p : Program} {l : Launch} {e : Env} {s : State} {m : MethodId} {args : Array Value} {below : List Frame} {meth : Method} {c : Code} {Q : State → Prop} {D : va_G} {I : ch_Id} {sh : Nat → Nat} {A : Nat → Prop} {oo : Int32 × ch_Mem}     (S : CallFix p m c cX7_load 5 s args wsX7_load RX7) (fin : ch_FinI p l e rm_X7_load s m args below meth c cX7_load Q D I 13 (ch_FM I sh) sh A oo)  {x1 : Int32} {x2 : Int32} {x3 : Int32}  {M : ch_Mem} {H : Heap} {locs : List Loc} {ls : Array Slot} (h : D_X7_load x1 x2 x3 M = some oo) (hw : ch_Wd D I 13 (ch_FM I sh) sh s A M H locs) (hl : lv_has ls 5 [(0, .ref (sh 0)), (1, .int x1), (2, .int x2), (3, .int x3)]) : W p l e rm_X7_load s m args below meth c H locs 0 0 Q (F0 m 0 ls []) := by
  obtain ⟨hx, hb, hml, hown, hts⟩ := id S
  unfold D_X7_load at h
  refine lv_iload_n hx hb dX7_load_0 rfl (lv_at hl 1 rfl) ?_
  refine ch_bd_k h (fun r1 M2 hc h => ?_)
  refine ch_ci hw (va_runS (As := [.int x1]) (rest := []) S (c_X7_isRow l D I sh H.size M x1 hc) (va_cwS 1 hts gX7_load_X7_isRow rfl rfl rfl (by decide +kernel) ⟨Nat.le_of_ble_eq_true rfl, Nat.le_of_ble_eq_true rfl⟩) (ch_pS hw) rfl rfl hl.1 rfl (lv_room (Nat.le_of_ble_eq_true rfl)) dX7_load_1 ⟨Nat.le_refl 0, Nat.le_refl 0⟩) (fun H locs hw => ?_)
  refine ch_if_eq (tgt := 24) hx hb dX7_load_4 (by decide) h (fun h => ?_) (fun h => ?_)
  · refine lv_bipush (v := (-2 : Int32)) hx hb dX7_load_24 (by decide) ?_
    exact fin _ _ _ _ _ _ h hw dX7_load_26
  · refine lv_iload_n hx hb dX7_load_7 rfl (lv_at hl 2 rfl) ?_
    refine ch_bd_k h (fun r3 M4 hc h => ?_)
    refine ch_ci hw (va_runS (As := [.int x2]) (rest := []) S (c_X7_isReel l D I sh H.size M2 x2 hc) (va_cwS 1 hts gX7_load_X7_isReel rfl rfl rfl (by decide +kernel) ⟨Nat.le_of_ble_eq_true rfl, Nat.le_of_ble_eq_true rfl⟩) (ch_pS hw) rfl rfl hl.1 rfl (lv_room (Nat.le_of_ble_eq_true rfl)) dX7_load_8 ⟨Nat.le_refl 0, Nat.le_refl 0⟩) (fun H locs hw => ?_)
    refine ch_if_eq (tgt := 24) hx hb dX7_load_11 (by decide) h (fun h => ?_) (fun h => ?_)
    · refine lv_bipush (v := (-2 : Int32)) hx hb dX7_load_24 (by decide) ?_
      exact fin _ _ _ _ _ _ h hw dX7_load_26
    · refine lv_iload_n hx hb dX7_load_14 rfl (lv_at hl 3 rfl) ?_
      refine lv_iconst (v := (1 : Int32)) hx hb dX7_load_15 (by decide) ?_
      refine lv_bipush (v := (127 : Int32)) hx hb dX7_load_16 (by decide) ?_
      refine ch_bd_k h (fun r5 M6 hc h => ?_)
      refine ch_ci hw (va_runS (As := [.int x3, .int (1 : Int32), .int (127 : Int32)]) (rest := []) S (c_X7_in l D I sh H.size M4 x3 (1 : Int32) (127 : Int32) hc) (va_cwS 3 hts gX7_load_X7_in rfl rfl rfl (by decide +kernel) ⟨Nat.le_of_ble_eq_true rfl, Nat.le_of_ble_eq_true rfl⟩) (ch_pS hw) rfl rfl hl.1 rfl (lv_room (Nat.le_of_ble_eq_true rfl)) dX7_load_18 ⟨Nat.le_refl 0, Nat.le_refl 0⟩) (fun H locs hw => ?_)
      refine ch_if_ne (tgt := 27) hx hb dX7_load_21 (by decide) h (fun h => ?_) (fun h => ?_)
      · refine lv_aload_n hx hb dX7_load_27 rfl (lv_at hl 0 rfl) ?_
        refine ch_get S hw 0 (by decide) rfl rfl (by decide +kernel) 13 (by decide) (hts (.fieldLink RX7 35 "CodeHuntModel" "isThere" "[Z") (by decide +kernel)) rfl dX7_load_28 ?_
        refine lv_iload_n hx hb dX7_load_31 rfl (lv_at hl 2 rfl) ?_
        refine ch_gd_k h (fun hin h => ?_)
        refine ch_zald S hw 8 (by decide) rfl hin dX7_load_32 ?_
        refine ch_if_ne (tgt := 42) hx hb dX7_load_33 (by decide) h (fun h => ?_) (fun h => ?_)
        · refine lv_aload_n hx hb dX7_load_42 rfl (lv_at hl 0 rfl) ?_
          refine ch_get S hw 0 (by decide) rfl rfl (by decide +kernel) 15 (by decide) (hts (.fieldLink RX7 42 "CodeHuntModel" "sizes" "[I") (by decide +kernel)) rfl dX7_load_43 ?_
          refine lv_iload_n hx hb dX7_load_46 rfl (lv_at hl 2 rfl) ?_
          refine ch_gd_k h (fun hin h => ?_)
          refine ch_iald S hw 10 (by decide) rfl hin dX7_load_47 ?_
          refine lv_iload_n hx hb dX7_load_48 rfl (lv_at hl 3 rfl) ?_
          refine ch_icmp_ge (tgt := 58) hx hb dX7_load_49 (by decide) h (fun h => ?_) (fun h => ?_)
          · refine lv_iconst (v := (0 : Int32)) hx hb dX7_load_58 (by decide) ?_
            refine lv_istore (lv' := [(4, .int (0 : Int32)), (0, .ref (sh 0)), (1, .int x1), (2, .int x2), (3, .int x3)]) hx hb dX7_load_59 hl (by decide) rfl (fun ls hl => ?_)
            exact tl_X7_load_61 S fin ch_fu _ _ _ _ _ _ _ _ h hw (lv_sub hl [1, 2, 3, 4, 0] rfl)
          · refine lv_aload_n hx hb dX7_load_52 rfl (lv_at hl 0 rfl) ?_
            refine lv_iconst (v := (2 : Int32)) hx hb dX7_load_53 (by decide) ?_
            refine ch_bd_k h (fun r7 M8 hc h => ?_)
            refine ch_ci hw (va_runV (As := [.int (2 : Int32)]) (rest := []) S (c_X7_meets l D I sh H.size M6 (2 : Int32) hc) (cwV 1 hts gX7_load_X7_meets rfl rfl rfl (by decide +kernel) ⟨Nat.le_of_ble_eq_true rfl, Nat.le_of_ble_eq_true rfl⟩) (ch_pV hw (by decide) rfl rfl rfl) rfl rfl hl.1 rfl (lv_room (Nat.le_of_ble_eq_true rfl)) dX7_load_54 ⟨Nat.le_refl 0, Nat.le_refl 0⟩) (fun H locs hw => ?_)
            exact fin _ _ _ _ _ _ h hw dX7_load_57
        · refine lv_aload_n hx hb dX7_load_36 rfl (lv_at hl 0 rfl) ?_
          refine lv_iconst (v := (1 : Int32)) hx hb dX7_load_37 (by decide) ?_
          refine ch_bd_k h (fun r9 M10 hc h => ?_)
          refine ch_ci hw (va_runV (As := [.int (1 : Int32)]) (rest := []) S (c_X7_meets l D I sh H.size M6 (1 : Int32) hc) (cwV 1 hts gX7_load_X7_meets rfl rfl rfl (by decide +kernel) ⟨Nat.le_of_ble_eq_true rfl, Nat.le_of_ble_eq_true rfl⟩) (ch_pV hw (by decide) rfl rfl rfl) rfl rfl hl.1 rfl (lv_room (Nat.le_of_ble_eq_true rfl)) dX7_load_38 ⟨Nat.le_refl 0, Nat.le_refl 0⟩) (fun H locs hw => ?_)
          exact fin _ _ _ _ _ _ h hw dX7_load_41
      · refine lv_bipush (v := (-2 : Int32)) hx hb dX7_load_24 (by decide) ?_
        exact fin _ _ _ _ _ _ h hw dX7_load_26
set_option maxHeartbeats 4000000 in
set_option maxRecDepth 100000 in
theorem c_X7_load (l : Launch) (D : va_G) (I : ch_Id) (sh : Nat → Nat) (sz : Nat) (M : ch_Mem)  (x1 : Int32) (x2 : Int32) (x3 : Int32) {r : Int32} {M1 : ch_Mem} (h : D_X7_load x1 x2 x3 M = some (r, M1)) : Met l yX7_load wsX7_load rm_X7_load (va_Pc [.ref (sh 0), .int x1, .int x2, .int x3] (ch_Pre D I 13 (ch_FM I sh) sh sz M)) (va_Qi (fun r' (u : ch_Mem) => r' = r ∧ u = M1) (ch_Pos D 13 (ch_FM I sh) sh) (ch_A 13 sh sz)) 0 0 (ch_A 13 sh sz) := by
  refine Met.ofW (cc := cX7_load) (maxL := 5) (ret := (some .int)) (by decide) rfl ?_
  intro p e s m args below meth c s₁ B hml hv0
  obtain ⟨rfl, hv0⟩ := hv0
  obtain rfl : s.heap.size = sz := hv0.1
  have hw := ch_start hv0
  have S : CallFix p m c cX7_load 5 s _ wsX7_load RX7 := ⟨B.exec, B.bytes, hml, findClass_of_methodNamed B.named, atoms_spec (ws := wsX7_load) B.pre⟩
  have hl := lv_entry ([.ref (sh 0), .int x1, .int x2, .int x3]) (n := 5) (Nat.le_of_ble_eq_true rfl)
  rw [lg_entry_eq]
  generalize (lg_sl ([.ref (sh 0), .int x1, .int x2, .int x3]) ++ List.replicate (5 - (lg_sl ([.ref (sh 0), .int x1, .int x2, .int x3])).length) Slot.unset).toArray = ls at hl ⊢
  exact t_X7_load_0 S (ch_finI (B := fun _ => True) B.exec B.bytes B.returns B.notSynchronized) h hw (lv_sub hl [0, 1, 2, 3] rfl)
set_option maxHeartbeats 4000000 in
set_option maxRecDepth 100000 in
theorem t_X7_lose_0 {p : Program} {l : Launch} {e : Env} {s : State} {m : MethodId} {args : Array Value} {below : List Frame} {meth : Method} {c : Code} {Q : State → Prop} {D : va_G} {I : ch_Id} {sh : Nat → Nat} {A : Nat → Prop} {oo : Int32 × ch_Mem}     (S : CallFix p m c cX7_lose 2 s args wsX7_lose RX7) (fin : ch_FinI p l e rm_X7_lose s m args below meth c cX7_lose Q D I 13 (ch_FM I sh) sh A oo)  {x1 : Int32}  {M : ch_Mem} {H : Heap} {locs : List Loc} {ls : Array Slot} (h : D_X7_lose x1 M = some oo) (hw : ch_Wd D I 13 (ch_FM I sh) sh s A M H locs) (hl : lv_has ls 2 [(0, .ref (sh 0)), (1, .int x1)]) : W p l e rm_X7_lose s m args below meth c H locs 0 0 Q (F0 m 0 ls []) := by
  obtain ⟨hx, hb, hml, hown, hts⟩ := id S
  unfold D_X7_lose at h
  refine lv_iload_n hx hb dX7_lose_0 rfl (lv_at hl 1 rfl) ?_
  refine ch_bd_k h (fun r1 M2 hc h => ?_)
  refine ch_ci hw (va_runS (As := [.int x1]) (rest := []) S (c_X7_isReel l D I sh H.size M x1 hc) (va_cwS 1 hts gX7_lose_X7_isReel rfl rfl rfl (by decide +kernel) ⟨Nat.le_of_ble_eq_true rfl, Nat.le_of_ble_eq_true rfl⟩) (ch_pS hw) rfl rfl hl.1 rfl (lv_room (Nat.le_of_ble_eq_true rfl)) dX7_lose_1 ⟨Nat.le_refl 0, Nat.le_refl 0⟩) (fun H locs hw => ?_)
  refine ch_if_ne (tgt := 10) hx hb dX7_lose_4 (by decide) h (fun h => ?_) (fun h => ?_)
  · refine lv_aload_n hx hb dX7_lose_10 rfl (lv_at hl 0 rfl) ?_
    refine ch_get S hw 0 (by decide) rfl rfl (by decide +kernel) 13 (by decide) (hts (.fieldLink RX7 35 "CodeHuntModel" "isThere" "[Z") (by decide +kernel)) rfl dX7_lose_11 ?_
    refine lv_iload_n hx hb dX7_lose_14 rfl (lv_at hl 1 rfl) ?_
    refine ch_gd_k h (fun hin h => ?_)
    refine ch_zald S hw 8 (by decide) rfl hin dX7_lose_15 ?_
    refine ch_if_ne (tgt := 25) hx hb dX7_lose_16 (by decide) h (fun h => ?_) (fun h => ?_)
    · refine lv_aload_n hx hb dX7_lose_25 rfl (lv_at hl 0 rfl) ?_
      refine ch_get S hw 0 (by decide) rfl rfl (by decide +kernel) 13 (by decide) (hts (.fieldLink RX7 35 "CodeHuntModel" "isThere" "[Z") (by decide +kernel)) rfl dX7_lose_26 ?_
      refine lv_iload_n hx hb dX7_lose_29 rfl (lv_at hl 1 rfl) ?_
      refine lv_iconst (v := (0 : Int32)) hx hb dX7_lose_30 (by decide) ?_
      refine ch_gd_k h (fun hin h => ?_)
      refine ch_zast S hw 8 (by decide) (fun _ => rfl) rfl hin dX7_lose_31 (fun H locs hw => ?_)
      refine lv_aload_n hx hb dX7_lose_32 rfl (lv_at hl 0 rfl) ?_
      refine ch_get S hw 0 (by decide) rfl rfl (by decide +kernel) 15 (by decide) (hts (.fieldLink RX7 42 "CodeHuntModel" "sizes" "[I") (by decide +kernel)) rfl dX7_lose_33 ?_
      refine lv_iload_n hx hb dX7_lose_36 rfl (lv_at hl 1 rfl) ?_
      refine ch_gd_k h (fun hin h => ?_)
      refine ch_iald S hw 10 (by decide) rfl hin dX7_lose_37 ?_
      exact fin _ _ _ _ _ _ h hw dX7_lose_38
    · refine lv_aload_n hx hb dX7_lose_19 rfl (lv_at hl 0 rfl) ?_
      refine lv_iconst (v := (1 : Int32)) hx hb dX7_lose_20 (by decide) ?_
      refine ch_bd_k h (fun r3 M4 hc h => ?_)
      refine ch_ci hw (va_runV (As := [.int (1 : Int32)]) (rest := []) S (c_X7_meets l D I sh H.size M2 (1 : Int32) hc) (cwV 1 hts gX7_lose_X7_meets rfl rfl rfl (by decide +kernel) ⟨Nat.le_of_ble_eq_true rfl, Nat.le_of_ble_eq_true rfl⟩) (ch_pV hw (by decide) rfl rfl rfl) rfl rfl hl.1 rfl (lv_room (Nat.le_of_ble_eq_true rfl)) dX7_lose_21 ⟨Nat.le_refl 0, Nat.le_refl 0⟩) (fun H locs hw => ?_)
      exact fin _ _ _ _ _ _ h hw dX7_lose_24
  · refine lv_bipush (v := (-2 : Int32)) hx hb dX7_lose_7 (by decide) ?_
    exact fin _ _ _ _ _ _ h hw dX7_lose_9
set_option maxHeartbeats 4000000 in
set_option maxRecDepth 100000 in
theorem c_X7_lose (l : Launch) (D : va_G) (I : ch_Id) (sh : Nat → Nat) (sz : Nat) (M : ch_Mem)  (x1 : Int32) {r : Int32} {M1 : ch_Mem} (h : D_X7_lose x1 M = some (r, M1)) : Met l yX7_lose wsX7_lose rm_X7_lose (va_Pc [.ref (sh 0), .int x1] (ch_Pre D I 13 (ch_FM I sh) sh sz M)) (va_Qi (fun r' (u : ch_Mem) => r' = r ∧ u = M1) (ch_Pos D 13 (ch_FM I sh) sh) (ch_A 13 sh sz)) 0 0 (ch_A 13 sh sz) := by
  refine Met.ofW (cc := cX7_lose) (maxL := 2) (ret := (some .int)) (by decide) rfl ?_
  intro p e s m args below meth c s₁ B hml hv0
  obtain ⟨rfl, hv0⟩ := hv0
  obtain rfl : s.heap.size = sz := hv0.1
  have hw := ch_start hv0
  have S : CallFix p m c cX7_lose 2 s _ wsX7_lose RX7 := ⟨B.exec, B.bytes, hml, findClass_of_methodNamed B.named, atoms_spec (ws := wsX7_lose) B.pre⟩
  have hl := lv_entry ([.ref (sh 0), .int x1]) (n := 2) (Nat.le_of_ble_eq_true rfl)
  rw [lg_entry_eq]
  generalize (lg_sl ([.ref (sh 0), .int x1]) ++ List.replicate (2 - (lg_sl ([.ref (sh 0), .int x1])).length) Slot.unset).toArray = ls at hl ⊢
  exact t_X7_lose_0 S (ch_finI (B := fun _ => True) B.exec B.bytes B.returns B.notSynchronized) h hw (lv_sub hl [0, 1] rfl)
set_option maxHeartbeats 4000000 in
set_option maxRecDepth 100000 in
theorem t_X7_make_60 {p : Program} {l : Launch} {e : Env} {s : State} {m : MethodId} {args : Array Value} {below : List Frame} {meth : Method} {c : Code} {Q : State → Prop} {D : va_G} {I : ch_Id} {sh : Nat → Nat} {A : Nat → Prop} {oo : Int32 × ch_Mem}    {k34 : Int32 → Int32 → Int32 → Int32 → Int32 → Int32 → ch_Mem → Option (Int32 × ch_Mem)} (S : CallFix p m c cX7_make 8 s args wsX7_make RX7) (fin : ch_FinI p l e rm_X7_make s m args below meth c cX7_make Q D I 13 (ch_FM I sh) sh A oo) (hk34 : ∀ (x1 : Int32) (x2 : Int32) (x3 : Int32) (x5 : Int32) (x6 : Int32) (x7 : Int32) (M : ch_Mem) (H : Heap) (locs : List Loc) (ls : Array Slot), k34 x1 x2 x3 x5 x6 x7 M = some oo → ch_Wd D I 13 (ch_FM I sh) sh s A M H locs → lv_has ls 8 [(0, .ref (sh 0)), (1, .int x1), (2, .int x2), (3, .int x3), (5, .int x5), (6, .int x6), (7, .int x7)] → W p l e rm_X7_make s m args below meth c H locs 0 0 Q (F0 m 34 ls [])) {x1 : Int32} {x2 : Int32} {x3 : Int32} {x5 : Int32} {x6 : Int32} {x7 : Int32} {y0 : Int32} {y1 : Int32}  {M : ch_Mem} {H : Heap} {locs : List Loc} {ls : Array Slot} (h : D_X7_make_b60 k34 x1 x2 x3 x5 x6 x7 y0 y1 M = some oo) (hw : ch_Wd D I 13 (ch_FM I sh) sh s A M H locs) (hl : lv_has ls 8 [(0, .ref (sh 0)), (1, .int x1), (2, .int x2), (3, .int x3), (5, .int x5), (6, .int x6), (7, .int x7)]) : W p l e rm_X7_make s m args below meth c H locs 0 0 Q (F0 m 60 ls [.int y0, .int y1, .ref (sh 3)]) := by
  obtain ⟨hx, hb, hml, hown, hts⟩ := id S
  unfold D_X7_make_b60 at h
  refine ch_gd_k h (fun hin h => ?_)
  refine ch_iast S hw 3 (by decide) (fun _ => rfl) hin dX7_make_60 (fun H locs hw => ?_)
  refine lv_iload_n hx hb dX7_make_61 rfl (lv_at hl 2 rfl) ?_
  refine lv_iload_n hx hb dX7_make_62 rfl (lv_at hl 3 rfl) ?_
  refine lv_iload hx hb dX7_make_63 (lv_at hl 4 rfl) ?_
  refine ch_bd_k h (fun r1 M2 hc h => ?_)
  refine ch_ci hw (va_runS (As := [.int x2, .int x3, .int x5]) (rest := []) S (c_X7_next l D I sh H.size (ch_wI M 3 y1.toNatClampNeg y0) x2 x3 x5 hc) (va_cwS 3 hts gX7_make_X7_next rfl rfl rfl (by decide +kernel) ⟨Nat.le_of_ble_eq_true rfl, Nat.le_of_ble_eq_true rfl⟩) (ch_pS hw) rfl rfl hl.1 rfl (lv_room (Nat.le_of_ble_eq_true rfl)) dX7_make_65 ⟨Nat.le_refl 0, Nat.le_refl 0⟩) (fun H locs hw => ?_)
  refine lv_istore (lv' := [(5, .int r1), (0, .ref (sh 0)), (1, .int x1), (2, .int x2), (3, .int x3), (6, .int x6), (7, .int x7)]) hx hb dX7_make_68 hl (by decide) rfl (fun ls hl => ?_)
  refine lv_iinc (v := x7 + (1 : Int32)) (lv' := [(7, .int (x7 + (1 : Int32))), (5, .int r1), (0, .ref (sh 0)), (1, .int x1), (2, .int x2), (3, .int x3), (6, .int x6)]) hx hb dX7_make_70 hl (k := 6) rfl rfl (by decide) rfl (fun ls hl => ?_)
  refine lv_goto (tgt := 34) hx hb dX7_make_73 (by decide) ?_
  exact hk34 _ _ _ _ _ _ _ _ _ _  h hw (lv_sub hl [2, 3, 4, 5, 1, 6, 0] rfl)
set_option maxHeartbeats 4000000 in
set_option maxRecDepth 100000 in
theorem t_X7_make_76 {p : Program} {l : Launch} {e : Env} {s : State} {m : MethodId} {args : Array Value} {below : List Frame} {meth : Method} {c : Code} {Q : State → Prop} {D : va_G} {I : ch_Id} {sh : Nat → Nat} {A : Nat → Prop} {oo : Int32 × ch_Mem}     (S : CallFix p m c cX7_make 8 s args wsX7_make RX7) (fin : ch_FinI p l e rm_X7_make s m args below meth c cX7_make Q D I 13 (ch_FM I sh) sh A oo)  {x1 : Int32} {x6 : Int32}  {M : ch_Mem} {H : Heap} {locs : List Loc} {ls : Array Slot} (h : D_X7_make_b76 x1 x6 M = some oo) (hw : ch_Wd D I 13 (ch_FM I sh) sh s A M H locs) (hl : lv_has ls 8 [(0, .ref (sh 0)), (1, .int x1), (6, .int x6)]) : W p l e rm_X7_make s m args below meth c H locs 0 0 Q (F0 m 76 ls []) := by
  obtain ⟨hx, hb, hml, hown, hts⟩ := id S
  unfold D_X7_make_b76 at h
  refine lv_aload_n hx hb dX7_make_76 rfl (lv_at hl 0 rfl) ?_
  refine lv_iload_n hx hb dX7_make_77 rfl (lv_at hl 1 rfl) ?_
  refine lv_iload hx hb dX7_make_78 (lv_at hl 2 rfl) ?_
  refine ch_bd_k h (fun r1 M2 hc h => ?_)
  cases r1
  refine ch_cv hw (va_runV (As := [.int x1, .int x6]) (rest := []) S (c_X7_keeps l D I sh H.size M x1 x6 hc) (cwV 2 hts gX7_make_X7_keeps rfl rfl rfl (by decide +kernel) ⟨Nat.le_of_ble_eq_true rfl, Nat.le_of_ble_eq_true rfl⟩) (ch_pV hw (by decide) rfl rfl rfl) rfl rfl hl.1 rfl (lv_room (Nat.le_of_ble_eq_true rfl)) dX7_make_80 ⟨Nat.le_refl 0, Nat.le_refl 0⟩) (fun H locs hw => ?_)
  refine lv_iload hx hb dX7_make_83 (lv_at hl 2 rfl) ?_
  exact fin _ _ _ _ _ _ h hw dX7_make_85
set_option maxHeartbeats 4000000 in
set_option maxRecDepth 100000 in
theorem t_X7_make_34 {p : Program} {l : Launch} {e : Env} {s : State} {m : MethodId} {args : Array Value} {below : List Frame} {meth : Method} {c : Code} {Q : State → Prop} {D : va_G} {I : ch_Id} {sh : Nat → Nat} {A : Nat → Prop} {oo : Int32 × ch_Mem}    {k34 : Int32 → Int32 → Int32 → Int32 → Int32 → Int32 → ch_Mem → Option (Int32 × ch_Mem)} (S : CallFix p m c cX7_make 8 s args wsX7_make RX7) (fin : ch_FinI p l e rm_X7_make s m args below meth c cX7_make Q D I 13 (ch_FM I sh) sh A oo) (hk34 : ∀ (x1 : Int32) (x2 : Int32) (x3 : Int32) (x5 : Int32) (x6 : Int32) (x7 : Int32) (M : ch_Mem) (H : Heap) (locs : List Loc) (ls : Array Slot), k34 x1 x2 x3 x5 x6 x7 M = some oo → ch_Wd D I 13 (ch_FM I sh) sh s A M H locs → lv_has ls 8 [(0, .ref (sh 0)), (1, .int x1), (2, .int x2), (3, .int x3), (5, .int x5), (6, .int x6), (7, .int x7)] → W p l e rm_X7_make s m args below meth c H locs 0 0 Q (F0 m 34 ls [])) {x1 : Int32} {x2 : Int32} {x3 : Int32} {x5 : Int32} {x6 : Int32} {x7 : Int32}  {M : ch_Mem} {H : Heap} {locs : List Loc} {ls : Array Slot} (h : D_X7_make_b34 k34 x1 x2 x3 x5 x6 x7 M = some oo) (hw : ch_Wd D I 13 (ch_FM I sh) sh s A M H locs) (hl : lv_has ls 8 [(0, .ref (sh 0)), (1, .int x1), (2, .int x2), (3, .int x3), (5, .int x5), (6, .int x6), (7, .int x7)]) : W p l e rm_X7_make s m args below meth c H locs 0 0 Q (F0 m 34 ls []) := by
  obtain ⟨hx, hb, hml, hown, hts⟩ := id S
  unfold D_X7_make_b34 at h
  refine lv_iload hx hb dX7_make_34 (lv_at hl 6 rfl) ?_
  refine lv_iload hx hb dX7_make_36 (lv_at hl 5 rfl) ?_
  refine ch_icmp_ge (tgt := 76) hx hb dX7_make_38 (by decide) h (fun h => ?_) (fun h => ?_)
  · exact t_X7_make_76 S fin h hw (lv_sub hl [0, 1, 5] rfl)
  · refine lv_aload_n hx hb dX7_make_41 rfl (lv_at hl 0 rfl) ?_
    refine ch_get S hw 0 (by decide) rfl rfl (by decide +kernel) 2 (by decide) (hts (.fieldLink RX7 16 "CodeHuntModel" "made" "[I") (by decide +kernel)) rfl dX7_make_42 ?_
    refine lv_iload hx hb dX7_make_45 (lv_at hl 6 rfl) ?_
    refine lv_iload hx hb dX7_make_47 (lv_at hl 4 rfl) ?_
    refine lv_iconst (v := (2 : Int32)) hx hb dX7_make_49 (by decide) ?_
    refine lv_irem hx hb dX7_make_50 (by decide) ?_
    refine lv_iconst (v := (1 : Int32)) hx hb dX7_make_51 (by decide) ?_
    refine ch_icmp_ne (tgt := 59) hx hb dX7_make_52 (by decide) h (fun h => ?_) (fun h => ?_)
    · refine lv_iconst (v := (1 : Int32)) hx hb dX7_make_59 (by decide) ?_
      exact t_X7_make_60 S fin hk34 h hw (lv_sub hl [0, 1, 2, 3, 4, 5, 6] rfl)
    · refine lv_iconst (v := (-1 : Int32)) hx hb dX7_make_55 (by decide) ?_
      refine lv_goto (tgt := 60) hx hb dX7_make_56 (by decide) ?_
      exact t_X7_make_60 S fin hk34 h hw (lv_sub hl [0, 1, 2, 3, 4, 5, 6] rfl)
set_option maxHeartbeats 4000000 in
set_option maxRecDepth 100000 in
theorem tl_X7_make_34 {p : Program} {l : Launch} {e : Env} {s : State} {m : MethodId} {args : Array Value} {below : List Frame} {meth : Method} {c : Code} {Q : State → Prop} {D : va_G} {I : ch_Id} {sh : Nat → Nat} {A : Nat → Prop} {oo : Int32 × ch_Mem}     (S : CallFix p m c cX7_make 8 s args wsX7_make RX7) (fin : ch_FinI p l e rm_X7_make s m args below meth c cX7_make Q D I 13 (ch_FM I sh) sh A oo)  (n : Nat) : ∀ (x1 : Int32) (x2 : Int32) (x3 : Int32) (x5 : Int32) (x6 : Int32) (x7 : Int32) (M : ch_Mem) (H : Heap) (locs : List Loc) (ls : Array Slot), D_X7_make_L34  n x1 x2 x3 x5 x6 x7 M = some oo → ch_Wd D I 13 (ch_FM I sh) sh s A M H locs → lv_has ls 8 [(0, .ref (sh 0)), (1, .int x1), (2, .int x2), (3, .int x3), (5, .int x5), (6, .int x6), (7, .int x7)] → W p l e rm_X7_make s m args below meth c H locs 0 0 Q (F0 m 34 ls []) := by
  induction n with
  | zero => intro x1 x2 x3 x5 x6 x7 M H locs ls  h; cases h
  | succ n ih =>
    intro x1 x2 x3 x5 x6 x7 M H locs ls  h hw hl
    exact t_X7_make_34 S fin ih h hw hl
set_option maxHeartbeats 4000000 in
set_option maxRecDepth 100000 in
theorem t_X7_make_0 {p : Program} {l : Launch} {e : Env} {s : State} {m : MethodId} {args : Array Value} {below : List Frame} {meth : Method} {c : Code} {Q : State → Prop} {D : va_G} {I : ch_Id} {sh : Nat → Nat} {A : Nat → Prop} {oo : Int32 × ch_Mem}     (S : CallFix p m c cX7_make 8 s args wsX7_make RX7) (fin : ch_FinI p l e rm_X7_make s m args below meth c cX7_make Q D I 13 (ch_FM I sh) sh A oo)  {x1 : Int32} {x2 : Int32} {x3 : Int32} {x4 : Int32}  {M : ch_Mem} {H : Heap} {locs : List Loc} {ls : Array Slot} (h : D_X7_make x1 x2 x3 x4 M = some oo) (hw : ch_Wd D I 13 (ch_FM I sh) sh s A M H locs) (hl : lv_has ls 8 [(0, .ref (sh 0)), (1, .int x1), (2, .int x2), (3, .int x3), (4, .int x4)]) : W p l e rm_X7_make s m args below meth c H locs 0 0 Q (F0 m 0 ls []) := by
  obtain ⟨hx, hb, hml, hown, hts⟩ := id S
  unfold D_X7_make at h
  refine lv_iload_n hx hb dX7_make_0 rfl (lv_at hl 1 rfl) ?_
  refine ch_bd_k h (fun r1 M2 hc h => ?_)
  refine ch_ci hw (va_runS (As := [.int x1]) (rest := []) S (c_X7_isRow l D I sh H.size M x1 hc) (va_cwS 1 hts gX7_make_X7_isRow rfl rfl rfl (by decide +kernel) ⟨Nat.le_of_ble_eq_true rfl, Nat.le_of_ble_eq_true rfl⟩) (ch_pS hw) rfl rfl hl.1 rfl (lv_room (Nat.le_of_ble_eq_true rfl)) dX7_make_1 ⟨Nat.le_refl 0, Nat.le_refl 0⟩) (fun H locs hw => ?_)
  refine ch_if_eq (tgt := 17) hx hb dX7_make_4 (by decide) h (fun h => ?_) (fun h => ?_)
  · refine lv_bipush (v := (-2 : Int32)) hx hb dX7_make_17 (by decide) ?_
    exact fin _ _ _ _ _ _ h hw dX7_make_19
  · refine lv_iload_n hx hb dX7_make_7 rfl (lv_at hl 2 rfl) ?_
    refine lv_iload_n hx hb dX7_make_8 rfl (lv_at hl 3 rfl) ?_
    refine lv_iload hx hb dX7_make_9 (lv_at hl 4 rfl) ?_
    refine ch_bd_k h (fun r3 M4 hc h => ?_)
    refine ch_ci hw (va_runS (As := [.int x2, .int x3, .int x4]) (rest := []) S (c_X7_isRegister l D I sh H.size M2 x2 x3 x4 hc) (va_cwS 3 hts gX7_make_X7_isRegister rfl rfl rfl (by decide +kernel) ⟨Nat.le_of_ble_eq_true rfl, Nat.le_of_ble_eq_true rfl⟩) (ch_pS hw) rfl rfl hl.1 rfl (lv_room (Nat.le_of_ble_eq_true rfl)) dX7_make_11 ⟨Nat.le_refl 0, Nat.le_refl 0⟩) (fun H locs hw => ?_)
    refine ch_if_ne (tgt := 20) hx hb dX7_make_14 (by decide) h (fun h => ?_) (fun h => ?_)
    · refine lv_iload hx hb dX7_make_20 (lv_at hl 4 rfl) ?_
      refine lv_istore (lv' := [(5, .int x4), (0, .ref (sh 0)), (1, .int x1), (2, .int x2), (3, .int x3), (4, .int x4)]) hx hb dX7_make_22 hl (by decide) rfl (fun ls hl => ?_)
      refine lv_iconst (v := (1 : Int32)) hx hb dX7_make_24 (by decide) ?_
      refine lv_iload_n hx hb dX7_make_25 rfl (lv_at hl 3 rfl) ?_
      refine lv_ishl hx hb dX7_make_26 ?_
      refine lv_iconst (v := (1 : Int32)) hx hb dX7_make_27 (by decide) ?_
      refine lv_isub hx hb dX7_make_28 ?_
      refine lv_istore (lv' := [(6, .int (((1 : Int32) <<< (x2 &&& 31)) - (1 : Int32))), (5, .int x4), (0, .ref (sh 0)), (1, .int x1), (2, .int x2), (3, .int x3), (4, .int x4)]) hx hb dX7_make_29 hl (by decide) rfl (fun ls hl => ?_)
      refine lv_iconst (v := (0 : Int32)) hx hb dX7_make_31 (by decide) ?_
      refine lv_istore (lv' := [(7, .int (0 : Int32)), (6, .int (((1 : Int32) <<< (x2 &&& 31)) - (1 : Int32))), (5, .int x4), (0, .ref (sh 0)), (1, .int x1), (2, .int x2), (3, .int x3), (4, .int x4)]) hx hb dX7_make_32 hl (by decide) rfl (fun ls hl => ?_)
      exact tl_X7_make_34 S fin ch_fu _ _ _ _ _ _ _ _ _ _ h hw (lv_sub hl [3, 4, 5, 6, 2, 1, 0] rfl)
    · refine lv_bipush (v := (-2 : Int32)) hx hb dX7_make_17 (by decide) ?_
      exact fin _ _ _ _ _ _ h hw dX7_make_19
set_option maxHeartbeats 4000000 in
set_option maxRecDepth 100000 in
theorem c_X7_make (l : Launch) (D : va_G) (I : ch_Id) (sh : Nat → Nat) (sz : Nat) (M : ch_Mem)  (x1 : Int32) (x2 : Int32) (x3 : Int32) (x4 : Int32) {r : Int32} {M1 : ch_Mem} (h : D_X7_make x1 x2 x3 x4 M = some (r, M1)) : Met l yX7_make wsX7_make rm_X7_make (va_Pc [.ref (sh 0), .int x1, .int x2, .int x3, .int x4] (ch_Pre D I 13 (ch_FM I sh) sh sz M)) (va_Qi (fun r' (u : ch_Mem) => r' = r ∧ u = M1) (ch_Pos D 13 (ch_FM I sh) sh) (ch_A 13 sh sz)) 0 0 (ch_A 13 sh sz) := by
  refine Met.ofW (cc := cX7_make) (maxL := 8) (ret := (some .int)) (by decide) rfl ?_
  intro p e s m args below meth c s₁ B hml hv0
  obtain ⟨rfl, hv0⟩ := hv0
  obtain rfl : s.heap.size = sz := hv0.1
  have hw := ch_start hv0
  have S : CallFix p m c cX7_make 8 s _ wsX7_make RX7 := ⟨B.exec, B.bytes, hml, findClass_of_methodNamed B.named, atoms_spec (ws := wsX7_make) B.pre⟩
  have hl := lv_entry ([.ref (sh 0), .int x1, .int x2, .int x3, .int x4]) (n := 8) (Nat.le_of_ble_eq_true rfl)
  rw [lg_entry_eq]
  generalize (lg_sl ([.ref (sh 0), .int x1, .int x2, .int x3, .int x4]) ++ List.replicate (8 - (lg_sl ([.ref (sh 0), .int x1, .int x2, .int x3, .int x4])).length) Slot.unset).toArray = ls at hl ⊢
  exact t_X7_make_0 S (ch_finI (B := fun _ => True) B.exec B.bytes B.returns B.notSynchronized) h hw (lv_sub hl [0, 1, 2, 3, 4] rfl)
set_option maxHeartbeats 4000000 in
set_option maxRecDepth 100000 in
theorem t_X7_mend_69 {p : Program} {l : Launch} {e : Env} {s : State} {m : MethodId} {args : Array Value} {below : List Frame} {meth : Method} {c : Code} {Q : State → Prop} {D : va_G} {I : ch_Id} {sh : Nat → Nat} {A : Nat → Prop} {oo : Int32 × ch_Mem}    {k21 : Int32 → Int32 → Int32 → Int32 → ch_Mem → Option (Int32 × ch_Mem)} {k33 : Int32 → Int32 → Int32 → Int32 → Int32 → Int32 → ch_Mem → Option (Int32 × ch_Mem)} (S : CallFix p m c cX7_mend 7 s args wsX7_mend RX7) (fin : ch_FinI p l e rm_X7_mend s m args below meth c cX7_mend Q D I 13 (ch_FM I sh) sh A oo) (hk21 : ∀ (x1 : Int32) (x2 : Int32) (x3 : Int32) (x4 : Int32) (M : ch_Mem) (H : Heap) (locs : List Loc) (ls : Array Slot), k21 x1 x2 x3 x4 M = some oo → ch_Wd D I 13 (ch_FM I sh) sh s A M H locs → lv_has ls 7 [(0, .ref (sh 0)), (1, .int x1), (2, .int x2), (3, .int x3), (4, .int x4)] → W p l e rm_X7_mend s m args below meth c H locs 0 0 Q (F0 m 21 ls [])) (hk33 : ∀ (x1 : Int32) (x2 : Int32) (x3 : Int32) (x4 : Int32) (x5 : Int32) (x6 : Int32) (M : ch_Mem) (H : Heap) (locs : List Loc) (ls : Array Slot), k33 x1 x2 x3 x4 x5 x6 M = some oo → ch_Wd D I 13 (ch_FM I sh) sh s A M H locs → lv_has ls 7 [(0, .ref (sh 0)), (1, .int x1), (2, .int x2), (3, .int x3), (4, .int x4), (5, .int x5), (6, .int x6)] → W p l e rm_X7_mend s m args below meth c H locs 0 0 Q (F0 m 33 ls [])) {x1 : Int32} {x2 : Int32} {x3 : Int32} {x4 : Int32} {x6 : Int32} {y0 : Int32} {y1 : Int32}  {M : ch_Mem} {H : Heap} {locs : List Loc} {ls : Array Slot} (h : D_X7_mend_b69 k21 k33 x1 x2 x3 x4 x6 y0 y1 M = some oo) (hw : ch_Wd D I 13 (ch_FM I sh) sh s A M H locs) (hl : lv_has ls 7 [(0, .ref (sh 0)), (1, .int x1), (2, .int x2), (3, .int x3), (4, .int x4), (6, .int x6)]) : W p l e rm_X7_mend s m args below meth c H locs 0 0 Q (F0 m 69 ls [.int y0, .int y1]) := by
  obtain ⟨hx, hb, hml, hown, hts⟩ := id S
  unfold D_X7_mend_b69 at h
  refine lv_iadd hx hb dX7_mend_69 ?_
  refine lv_istore (lv' := [(5, .int (y1 + y0)), (0, .ref (sh 0)), (1, .int x1), (2, .int x2), (3, .int x3), (4, .int x4), (6, .int x6)]) hx hb dX7_mend_70 hl (by decide) rfl (fun ls hl => ?_)
  refine lv_iinc (v := x6 + (1 : Int32)) (lv' := [(6, .int (x6 + (1 : Int32))), (5, .int (y1 + y0)), (0, .ref (sh 0)), (1, .int x1), (2, .int x2), (3, .int x3), (4, .int x4)]) hx hb dX7_mend_72 hl (k := 6) rfl rfl (by decide) rfl (fun ls hl => ?_)
  refine lv_goto (tgt := 33) hx hb dX7_mend_75 (by decide) ?_
  exact hk33 _ _ _ _ _ _ _ _ _ _  h hw (lv_sub hl [2, 3, 4, 5, 6, 1, 0] rfl)
set_option maxHeartbeats 4000000 in
set_option maxRecDepth 100000 in
theorem t_X7_mend_90 {p : Program} {l : Launch} {e : Env} {s : State} {m : MethodId} {args : Array Value} {below : List Frame} {meth : Method} {c : Code} {Q : State → Prop} {D : va_G} {I : ch_Id} {sh : Nat → Nat} {A : Nat → Prop} {oo : Int32 × ch_Mem}    {k21 : Int32 → Int32 → Int32 → Int32 → ch_Mem → Option (Int32 × ch_Mem)} (S : CallFix p m c cX7_mend 7 s args wsX7_mend RX7) (fin : ch_FinI p l e rm_X7_mend s m args below meth c cX7_mend Q D I 13 (ch_FM I sh) sh A oo) (hk21 : ∀ (x1 : Int32) (x2 : Int32) (x3 : Int32) (x4 : Int32) (M : ch_Mem) (H : Heap) (locs : List Loc) (ls : Array Slot), k21 x1 x2 x3 x4 M = some oo → ch_Wd D I 13 (ch_FM I sh) sh s A M H locs → lv_has ls 7 [(0, .ref (sh 0)), (1, .int x1), (2, .int x2), (3, .int x3), (4, .int x4)] → W p l e rm_X7_mend s m args below meth c H locs 0 0 Q (F0 m 21 ls [])) {x1 : Int32} {x2 : Int32} {x3 : Int32} {x4 : Int32}  {M : ch_Mem} {H : Heap} {locs : List Loc} {ls : Array Slot} (h : D_X7_mend_b90 k21 x1 x2 x3 x4 M = some oo) (hw : ch_Wd D I 13 (ch_FM I sh) sh s A M H locs) (hl : lv_has ls 7 [(0, .ref (sh 0)), (1, .int x1), (2, .int x2), (3, .int x3), (4, .int x4)]) : W p l e rm_X7_mend s m args below meth c H locs 0 0 Q (F0 m 90 ls []) := by
  obtain ⟨hx, hb, hml, hown, hts⟩ := id S
  unfold D_X7_mend_b90 at h
  refine lv_iinc (v := x4 + (1 : Int32)) (lv' := [(4, .int (x4 + (1 : Int32))), (0, .ref (sh 0)), (1, .int x1), (2, .int x2), (3, .int x3)]) hx hb dX7_mend_90 hl (k := 4) rfl rfl (by decide) rfl (fun ls hl => ?_)
  refine lv_goto (tgt := 21) hx hb dX7_mend_93 (by decide) ?_
  exact hk21 _ _ _ _ _ _ _ _  h hw (lv_sub hl [1, 2, 3, 4, 0] rfl)
set_option maxHeartbeats 4000000 in
set_option maxRecDepth 100000 in
theorem t_X7_mend_78 {p : Program} {l : Launch} {e : Env} {s : State} {m : MethodId} {args : Array Value} {below : List Frame} {meth : Method} {c : Code} {Q : State → Prop} {D : va_G} {I : ch_Id} {sh : Nat → Nat} {A : Nat → Prop} {oo : Int32 × ch_Mem}    {k21 : Int32 → Int32 → Int32 → Int32 → ch_Mem → Option (Int32 × ch_Mem)} (S : CallFix p m c cX7_mend 7 s args wsX7_mend RX7) (fin : ch_FinI p l e rm_X7_mend s m args below meth c cX7_mend Q D I 13 (ch_FM I sh) sh A oo) (hk21 : ∀ (x1 : Int32) (x2 : Int32) (x3 : Int32) (x4 : Int32) (M : ch_Mem) (H : Heap) (locs : List Loc) (ls : Array Slot), k21 x1 x2 x3 x4 M = some oo → ch_Wd D I 13 (ch_FM I sh) sh s A M H locs → lv_has ls 7 [(0, .ref (sh 0)), (1, .int x1), (2, .int x2), (3, .int x3), (4, .int x4)] → W p l e rm_X7_mend s m args below meth c H locs 0 0 Q (F0 m 21 ls [])) {x1 : Int32} {x2 : Int32} {x3 : Int32} {x4 : Int32} {x5 : Int32}  {M : ch_Mem} {H : Heap} {locs : List Loc} {ls : Array Slot} (h : D_X7_mend_b78 k21 x1 x2 x3 x4 x5 M = some oo) (hw : ch_Wd D I 13 (ch_FM I sh) sh s A M H locs) (hl : lv_has ls 7 [(0, .ref (sh 0)), (1, .int x1), (2, .int x2), (3, .int x3), (4, .int x4), (5, .int x5)]) : W p l e rm_X7_mend s m args below meth c H locs 0 0 Q (F0 m 78 ls []) := by
  obtain ⟨hx, hb, hml, hown, hts⟩ := id S
  unfold D_X7_mend_b78 at h
  refine lv_iload hx hb dX7_mend_78 (lv_at hl 5 rfl) ?_
  refine lv_iload_n hx hb dX7_mend_80 rfl (lv_at hl 3 rfl) ?_
  refine ch_icmp_le (tgt := 90) hx hb dX7_mend_81 (by decide) h (fun h => ?_) (fun h => ?_)
  · exact t_X7_mend_90 S fin hk21 h hw (lv_sub hl [0, 1, 2, 3, 4] rfl)
  · refine lv_iload hx hb dX7_mend_84 (lv_at hl 5 rfl) ?_
    refine lv_istore_n (lv' := [(3, .int x5), (0, .ref (sh 0)), (1, .int x1), (2, .int x2), (4, .int x4), (5, .int x5)]) hx hb dX7_mend_86 rfl hl (by decide) rfl (fun ls hl => ?_)
    refine lv_iload hx hb dX7_mend_87 (lv_at hl 4 rfl) ?_
    refine lv_istore_n (lv' := [(2, .int x4), (3, .int x5), (0, .ref (sh 0)), (1, .int x1), (4, .int x4), (5, .int x5)]) hx hb dX7_mend_89 rfl hl (by decide) rfl (fun ls hl => ?_)
    exact t_X7_mend_90 S fin hk21 h hw (lv_sub hl [2, 3, 0, 1, 4] rfl)
set_option maxHeartbeats 4000000 in
set_option maxRecDepth 100000 in
theorem t_X7_mend_33 {p : Program} {l : Launch} {e : Env} {s : State} {m : MethodId} {args : Array Value} {below : List Frame} {meth : Method} {c : Code} {Q : State → Prop} {D : va_G} {I : ch_Id} {sh : Nat → Nat} {A : Nat → Prop} {oo : Int32 × ch_Mem}    {k21 : Int32 → Int32 → Int32 → Int32 → ch_Mem → Option (Int32 × ch_Mem)} {k33 : Int32 → Int32 → Int32 → Int32 → Int32 → Int32 → ch_Mem → Option (Int32 × ch_Mem)} (S : CallFix p m c cX7_mend 7 s args wsX7_mend RX7) (fin : ch_FinI p l e rm_X7_mend s m args below meth c cX7_mend Q D I 13 (ch_FM I sh) sh A oo) (hk21 : ∀ (x1 : Int32) (x2 : Int32) (x3 : Int32) (x4 : Int32) (M : ch_Mem) (H : Heap) (locs : List Loc) (ls : Array Slot), k21 x1 x2 x3 x4 M = some oo → ch_Wd D I 13 (ch_FM I sh) sh s A M H locs → lv_has ls 7 [(0, .ref (sh 0)), (1, .int x1), (2, .int x2), (3, .int x3), (4, .int x4)] → W p l e rm_X7_mend s m args below meth c H locs 0 0 Q (F0 m 21 ls [])) (hk33 : ∀ (x1 : Int32) (x2 : Int32) (x3 : Int32) (x4 : Int32) (x5 : Int32) (x6 : Int32) (M : ch_Mem) (H : Heap) (locs : List Loc) (ls : Array Slot), k33 x1 x2 x3 x4 x5 x6 M = some oo → ch_Wd D I 13 (ch_FM I sh) sh s A M H locs → lv_has ls 7 [(0, .ref (sh 0)), (1, .int x1), (2, .int x2), (3, .int x3), (4, .int x4), (5, .int x5), (6, .int x6)] → W p l e rm_X7_mend s m args below meth c H locs 0 0 Q (F0 m 33 ls [])) {x1 : Int32} {x2 : Int32} {x3 : Int32} {x4 : Int32} {x5 : Int32} {x6 : Int32}  {M : ch_Mem} {H : Heap} {locs : List Loc} {ls : Array Slot} (h : D_X7_mend_b33 k21 k33 x1 x2 x3 x4 x5 x6 M = some oo) (hw : ch_Wd D I 13 (ch_FM I sh) sh s A M H locs) (hl : lv_has ls 7 [(0, .ref (sh 0)), (1, .int x1), (2, .int x2), (3, .int x3), (4, .int x4), (5, .int x5), (6, .int x6)]) : W p l e rm_X7_mend s m args below meth c H locs 0 0 Q (F0 m 33 ls []) := by
  obtain ⟨hx, hb, hml, hown, hts⟩ := id S
  unfold D_X7_mend_b33 at h
  refine lv_iload hx hb dX7_mend_33 (lv_at hl 6 rfl) ?_
  refine lv_aload_n hx hb dX7_mend_35 rfl (lv_at hl 0 rfl) ?_
  refine ch_get S hw 0 (by decide) rfl rfl (by decide +kernel) 10 (by decide) (hts (.fieldLink RX7 134 "CodeHuntModel" "lengths" "I") (by decide +kernel)) rfl dX7_mend_36 ?_
  refine ch_icmp_ge (tgt := 78) hx hb dX7_mend_39 (by decide) h (fun h => ?_) (fun h => ?_)
  · exact t_X7_mend_78 S fin hk21 h hw (lv_sub hl [0, 1, 2, 3, 4, 5] rfl)
  · refine lv_iload hx hb dX7_mend_42 (lv_at hl 5 rfl) ?_
    refine lv_iload hx hb dX7_mend_44 (lv_at hl 4 rfl) ?_
    refine lv_aload_n hx hb dX7_mend_46 rfl (lv_at hl 0 rfl) ?_
    refine ch_get S hw 0 (by decide) rfl rfl (by decide +kernel) 11 (by decide) (hts (.fieldLink RX7 29 "CodeHuntModel" "lengthOf" "[I") (by decide +kernel)) rfl dX7_mend_47 ?_
    refine lv_iload hx hb dX7_mend_50 (lv_at hl 6 rfl) ?_
    refine ch_gd_k h (fun hin h => ?_)
    refine ch_iald S hw 6 (by decide) rfl hin dX7_mend_52 ?_
    refine ch_g0_k h (fun hne h => ?_)
    refine lv_irem hx hb dX7_mend_53 hne ?_
    refine lv_aload_n hx hb dX7_mend_54 rfl (lv_at hl 0 rfl) ?_
    refine ch_get S hw 0 (by decide) rfl rfl (by decide +kernel) 12 (by decide) (hts (.fieldLink RX7 32 "CodeHuntModel" "shiftOf" "[I") (by decide +kernel)) rfl dX7_mend_55 ?_
    refine lv_iload hx hb dX7_mend_58 (lv_at hl 6 rfl) ?_
    refine ch_gd_k h (fun hin h => ?_)
    refine ch_iald S hw 7 (by decide) rfl hin dX7_mend_60 ?_
    refine ch_icmp_ne (tgt := 68) hx hb dX7_mend_61 (by decide) h (fun h => ?_) (fun h => ?_)
    · refine lv_iconst (v := (0 : Int32)) hx hb dX7_mend_68 (by decide) ?_
      exact t_X7_mend_69 S fin hk21 hk33 h hw (lv_sub hl [0, 1, 2, 3, 4, 6] rfl)
    · refine lv_iconst (v := (1 : Int32)) hx hb dX7_mend_64 (by decide) ?_
      refine lv_goto (tgt := 69) hx hb dX7_mend_65 (by decide) ?_
      exact t_X7_mend_69 S fin hk21 hk33 h hw (lv_sub hl [0, 1, 2, 3, 4, 6] rfl)
set_option maxHeartbeats 4000000 in
set_option maxRecDepth 100000 in
theorem tl_X7_mend_33 {p : Program} {l : Launch} {e : Env} {s : State} {m : MethodId} {args : Array Value} {below : List Frame} {meth : Method} {c : Code} {Q : State → Prop} {D : va_G} {I : ch_Id} {sh : Nat → Nat} {A : Nat → Prop} {oo : Int32 × ch_Mem}    {k21 : Int32 → Int32 → Int32 → Int32 → ch_Mem → Option (Int32 × ch_Mem)} (S : CallFix p m c cX7_mend 7 s args wsX7_mend RX7) (fin : ch_FinI p l e rm_X7_mend s m args below meth c cX7_mend Q D I 13 (ch_FM I sh) sh A oo) (hk21 : ∀ (x1 : Int32) (x2 : Int32) (x3 : Int32) (x4 : Int32) (M : ch_Mem) (H : Heap) (locs : List Loc) (ls : Array Slot), k21 x1 x2 x3 x4 M = some oo → ch_Wd D I 13 (ch_FM I sh) sh s A M H locs → lv_has ls 7 [(0, .ref (sh 0)), (1, .int x1), (2, .int x2), (3, .int x3), (4, .int x4)] → W p l e rm_X7_mend s m args below meth c H locs 0 0 Q (F0 m 21 ls [])) (n : Nat) : ∀ (x1 : Int32) (x2 : Int32) (x3 : Int32) (x4 : Int32) (x5 : Int32) (x6 : Int32) (M : ch_Mem) (H : Heap) (locs : List Loc) (ls : Array Slot), D_X7_mend_L33 k21 n x1 x2 x3 x4 x5 x6 M = some oo → ch_Wd D I 13 (ch_FM I sh) sh s A M H locs → lv_has ls 7 [(0, .ref (sh 0)), (1, .int x1), (2, .int x2), (3, .int x3), (4, .int x4), (5, .int x5), (6, .int x6)] → W p l e rm_X7_mend s m args below meth c H locs 0 0 Q (F0 m 33 ls []) := by
  induction n with
  | zero => intro x1 x2 x3 x4 x5 x6 M H locs ls  h; cases h
  | succ n ih =>
    intro x1 x2 x3 x4 x5 x6 M H locs ls  h hw hl
    exact t_X7_mend_33 S fin hk21 ih h hw hl
set_option maxHeartbeats 4000000 in
set_option maxRecDepth 100000 in
theorem t_X7_mend_96 {p : Program} {l : Launch} {e : Env} {s : State} {m : MethodId} {args : Array Value} {below : List Frame} {meth : Method} {c : Code} {Q : State → Prop} {D : va_G} {I : ch_Id} {sh : Nat → Nat} {A : Nat → Prop} {oo : Int32 × ch_Mem}     (S : CallFix p m c cX7_mend 7 s args wsX7_mend RX7) (fin : ch_FinI p l e rm_X7_mend s m args below meth c cX7_mend Q D I 13 (ch_FM I sh) sh A oo)  {x2 : Int32} {x3 : Int32}  {M : ch_Mem} {H : Heap} {locs : List Loc} {ls : Array Slot} (h : D_X7_mend_b96 x2 x3 M = some oo) (hw : ch_Wd D I 13 (ch_FM I sh) sh s A M H locs) (hl : lv_has ls 7 [(2, .int x2), (3, .int x3)]) : W p l e rm_X7_mend s m args below meth c H locs 0 0 Q (F0 m 96 ls []) := by
  obtain ⟨hx, hb, hml, hown, hts⟩ := id S
  unfold D_X7_mend_b96 at h
  refine lv_bipush (v := (10 : Int32)) hx hb dX7_mend_96 (by decide) ?_
  refine lv_iload_n hx hb dX7_mend_98 rfl (lv_at hl 0 rfl) ?_
  refine lv_imul hx hb dX7_mend_99 ?_
  refine lv_iload_n hx hb dX7_mend_100 rfl (lv_at hl 1 rfl) ?_
  refine lv_iadd hx hb dX7_mend_101 ?_
  exact fin _ _ _ _ _ _ h hw dX7_mend_102
set_option maxHeartbeats 4000000 in
set_option maxRecDepth 100000 in
theorem t_X7_mend_21 {p : Program} {l : Launch} {e : Env} {s : State} {m : MethodId} {args : Array Value} {below : List Frame} {meth : Method} {c : Code} {Q : State → Prop} {D : va_G} {I : ch_Id} {sh : Nat → Nat} {A : Nat → Prop} {oo : Int32 × ch_Mem}    {k21 : Int32 → Int32 → Int32 → Int32 → ch_Mem → Option (Int32 × ch_Mem)} (S : CallFix p m c cX7_mend 7 s args wsX7_mend RX7) (fin : ch_FinI p l e rm_X7_mend s m args below meth c cX7_mend Q D I 13 (ch_FM I sh) sh A oo) (hk21 : ∀ (x1 : Int32) (x2 : Int32) (x3 : Int32) (x4 : Int32) (M : ch_Mem) (H : Heap) (locs : List Loc) (ls : Array Slot), k21 x1 x2 x3 x4 M = some oo → ch_Wd D I 13 (ch_FM I sh) sh s A M H locs → lv_has ls 7 [(0, .ref (sh 0)), (1, .int x1), (2, .int x2), (3, .int x3), (4, .int x4)] → W p l e rm_X7_mend s m args below meth c H locs 0 0 Q (F0 m 21 ls [])) {x1 : Int32} {x2 : Int32} {x3 : Int32} {x4 : Int32}  {M : ch_Mem} {H : Heap} {locs : List Loc} {ls : Array Slot} (h : D_X7_mend_b21 k21 x1 x2 x3 x4 M = some oo) (hw : ch_Wd D I 13 (ch_FM I sh) sh s A M H locs) (hl : lv_has ls 7 [(0, .ref (sh 0)), (1, .int x1), (2, .int x2), (3, .int x3), (4, .int x4)]) : W p l e rm_X7_mend s m args below meth c H locs 0 0 Q (F0 m 21 ls []) := by
  obtain ⟨hx, hb, hml, hown, hts⟩ := id S
  unfold D_X7_mend_b21 at h
  refine lv_iload hx hb dX7_mend_21 (lv_at hl 4 rfl) ?_
  refine lv_iload_n hx hb dX7_mend_23 rfl (lv_at hl 1 rfl) ?_
  refine ch_icmp_ge (tgt := 96) hx hb dX7_mend_24 (by decide) h (fun h => ?_) (fun h => ?_)
  · exact t_X7_mend_96 S fin h hw (lv_sub hl [2, 3] rfl)
  · refine lv_iconst (v := (0 : Int32)) hx hb dX7_mend_27 (by decide) ?_
    refine lv_istore (lv' := [(5, .int (0 : Int32)), (0, .ref (sh 0)), (1, .int x1), (2, .int x2), (3, .int x3), (4, .int x4)]) hx hb dX7_mend_28 hl (by decide) rfl (fun ls hl => ?_)
    refine lv_iconst (v := (0 : Int32)) hx hb dX7_mend_30 (by decide) ?_
    refine lv_istore (lv' := [(6, .int (0 : Int32)), (5, .int (0 : Int32)), (0, .ref (sh 0)), (1, .int x1), (2, .int x2), (3, .int x3), (4, .int x4)]) hx hb dX7_mend_31 hl (by decide) rfl (fun ls hl => ?_)
    exact tl_X7_mend_33 S fin hk21 ch_fu _ _ _ _ _ _ _ _ _ _ h hw (lv_sub hl [2, 3, 4, 5, 6, 1, 0] rfl)
set_option maxHeartbeats 4000000 in
set_option maxRecDepth 100000 in
theorem tl_X7_mend_21 {p : Program} {l : Launch} {e : Env} {s : State} {m : MethodId} {args : Array Value} {below : List Frame} {meth : Method} {c : Code} {Q : State → Prop} {D : va_G} {I : ch_Id} {sh : Nat → Nat} {A : Nat → Prop} {oo : Int32 × ch_Mem}     (S : CallFix p m c cX7_mend 7 s args wsX7_mend RX7) (fin : ch_FinI p l e rm_X7_mend s m args below meth c cX7_mend Q D I 13 (ch_FM I sh) sh A oo)  (n : Nat) : ∀ (x1 : Int32) (x2 : Int32) (x3 : Int32) (x4 : Int32) (M : ch_Mem) (H : Heap) (locs : List Loc) (ls : Array Slot), D_X7_mend_L21  n x1 x2 x3 x4 M = some oo → ch_Wd D I 13 (ch_FM I sh) sh s A M H locs → lv_has ls 7 [(0, .ref (sh 0)), (1, .int x1), (2, .int x2), (3, .int x3), (4, .int x4)] → W p l e rm_X7_mend s m args below meth c H locs 0 0 Q (F0 m 21 ls []) := by
  induction n with
  | zero => intro x1 x2 x3 x4 M H locs ls  h; cases h
  | succ n ih =>
    intro x1 x2 x3 x4 M H locs ls  h hw hl
    exact t_X7_mend_21 S fin ih h hw hl
set_option maxHeartbeats 4000000 in
set_option maxRecDepth 100000 in
theorem t_X7_mend_0 {p : Program} {l : Launch} {e : Env} {s : State} {m : MethodId} {args : Array Value} {below : List Frame} {meth : Method} {c : Code} {Q : State → Prop} {D : va_G} {I : ch_Id} {sh : Nat → Nat} {A : Nat → Prop} {oo : Int32 × ch_Mem}     (S : CallFix p m c cX7_mend 7 s args wsX7_mend RX7) (fin : ch_FinI p l e rm_X7_mend s m args below meth c cX7_mend Q D I 13 (ch_FM I sh) sh A oo)  {x1 : Int32}  {M : ch_Mem} {H : Heap} {locs : List Loc} {ls : Array Slot} (h : D_X7_mend x1 M = some oo) (hw : ch_Wd D I 13 (ch_FM I sh) sh s A M H locs) (hl : lv_has ls 7 [(0, .ref (sh 0)), (1, .int x1)]) : W p l e rm_X7_mend s m args below meth c H locs 0 0 Q (F0 m 0 ls []) := by
  obtain ⟨hx, hb, hml, hown, hts⟩ := id S
  unfold D_X7_mend at h
  refine lv_iload_n hx hb dX7_mend_0 rfl (lv_at hl 1 rfl) ?_
  refine lv_iconst (v := (1 : Int32)) hx hb dX7_mend_1 (by decide) ?_
  refine lv_sipush (v := (20000 : Int32)) hx hb dX7_mend_2 (by decide) ?_
  refine ch_bd_k h (fun r1 M2 hc h => ?_)
  refine ch_ci hw (va_runS (As := [.int x1, .int (1 : Int32), .int (20000 : Int32)]) (rest := []) S (c_X7_in l D I sh H.size M x1 (1 : Int32) (20000 : Int32) hc) (va_cwS 3 hts gX7_mend_X7_in rfl rfl rfl (by decide +kernel) ⟨Nat.le_of_ble_eq_true rfl, Nat.le_of_ble_eq_true rfl⟩) (ch_pS hw) rfl rfl hl.1 rfl (lv_room (Nat.le_of_ble_eq_true rfl)) dX7_mend_5 ⟨Nat.le_refl 0, Nat.le_refl 0⟩) (fun H locs hw => ?_)
  refine ch_if_ne (tgt := 14) hx hb dX7_mend_8 (by decide) h (fun h => ?_) (fun h => ?_)
  · refine lv_iconst (v := (0 : Int32)) hx hb dX7_mend_14 (by decide) ?_
    refine lv_istore_n (lv' := [(2, .int (0 : Int32)), (0, .ref (sh 0)), (1, .int x1)]) hx hb dX7_mend_15 rfl hl (by decide) rfl (fun ls hl => ?_)
    refine lv_iconst (v := (-1 : Int32)) hx hb dX7_mend_16 (by decide) ?_
    refine lv_istore_n (lv' := [(3, .int (-1 : Int32)), (2, .int (0 : Int32)), (0, .ref (sh 0)), (1, .int x1)]) hx hb dX7_mend_17 rfl hl (by decide) rfl (fun ls hl => ?_)
    refine lv_iconst (v := (0 : Int32)) hx hb dX7_mend_18 (by decide) ?_
    refine lv_istore (lv' := [(4, .int (0 : Int32)), (3, .int (-1 : Int32)), (2, .int (0 : Int32)), (0, .ref (sh 0)), (1, .int x1)]) hx hb dX7_mend_19 hl (by decide) rfl (fun ls hl => ?_)
    exact tl_X7_mend_21 S fin ch_fu _ _ _ _ _ _ _ _ h hw (lv_sub hl [3, 4, 2, 1, 0] rfl)
  · refine lv_bipush (v := (-2 : Int32)) hx hb dX7_mend_11 (by decide) ?_
    exact fin _ _ _ _ _ _ h hw dX7_mend_13
set_option maxHeartbeats 4000000 in
set_option maxRecDepth 100000 in
theorem c_X7_mend (l : Launch) (D : va_G) (I : ch_Id) (sh : Nat → Nat) (sz : Nat) (M : ch_Mem)  (x1 : Int32) {r : Int32} {M1 : ch_Mem} (h : D_X7_mend x1 M = some (r, M1)) : Met l yX7_mend wsX7_mend rm_X7_mend (va_Pc [.ref (sh 0), .int x1] (ch_Pre D I 13 (ch_FM I sh) sh sz M)) (va_Qi (fun r' (u : ch_Mem) => r' = r ∧ u = M1) (ch_Pos D 13 (ch_FM I sh) sh) (ch_A 13 sh sz)) 0 0 (ch_A 13 sh sz) := by
  refine Met.ofW (cc := cX7_mend) (maxL := 7) (ret := (some .int)) (by decide) rfl ?_
  intro p e s m args below meth c s₁ B hml hv0
  obtain ⟨rfl, hv0⟩ := hv0
  obtain rfl : s.heap.size = sz := hv0.1
  have hw := ch_start hv0
  have S : CallFix p m c cX7_mend 7 s _ wsX7_mend RX7 := ⟨B.exec, B.bytes, hml, findClass_of_methodNamed B.named, atoms_spec (ws := wsX7_mend) B.pre⟩
  have hl := lv_entry ([.ref (sh 0), .int x1]) (n := 7) (Nat.le_of_ble_eq_true rfl)
  rw [lg_entry_eq]
  generalize (lg_sl ([.ref (sh 0), .int x1]) ++ List.replicate (7 - (lg_sl ([.ref (sh 0), .int x1])).length) Slot.unset).toArray = ls at hl ⊢
  exact t_X7_mend_0 S (ch_finI (B := fun _ => True) B.exec B.bytes B.returns B.notSynchronized) h hw (lv_sub hl [0, 1] rfl)
