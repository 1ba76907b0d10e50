set_option maxHeartbeats 4000000 in
set_option maxRecDepth 100000 in
theorem t_X7_sample_35 {p : Program} {l : Launch} {e : Env} {s : State} {m : MethodId} {args : Array Value} {below : List Frame} {meth : Method} {c : Code} {Q : State → Prop} {D : va_G} {I : ch_Id} {sh : Nat → Nat} {A : Nat → Prop} {oo : Int32 × ch_Mem}     (S : CallFix p m c cX7_sample 4 s args wsX7_sample RX7) (fin : ch_FinI p l e rm_X7_sample s m args below meth c cX7_sample Q D I 13 (ch_FM I sh) sh A oo)  {y0 : Int32}  {M : ch_Mem} {H : Heap} {locs : List Loc} {ls : Array Slot} (h : D_X7_sample_b35 y0 M = some oo) (hw : ch_Wd D I 13 (ch_FM I sh) sh s A M H locs) (hl : lv_has ls 4 []) : W p l e rm_X7_sample s m args below meth c H locs 0 0 Q (F0 m 35 ls [.int y0]) := by
  obtain ⟨hx, hb, hml, hown, hts⟩ := id S
  unfold D_X7_sample_b35 at h
  refine lv_istore_n (lv' := [(3, .int y0)]) hx hb dX7_sample_35 rfl hl (by decide) rfl (fun ls hl => ?_)
  refine lv_iload_n hx hb dX7_sample_36 rfl (lv_at hl 0 rfl) ?_
  refine lv_sipush (v := (-10000 : Int32)) hx hb dX7_sample_37 (by decide) ?_
  refine lv_sipush (v := (10000 : Int32)) hx hb dX7_sample_40 (by decide) ?_
  refine ch_bd_k h (fun r1 M2 hc h => ?_)
  refine ch_ci hw (va_runS (As := [.int y0, .int (-10000 : Int32), .int (10000 : Int32)]) (rest := []) S (c_X7_in l D I sh H.size M y0 (-10000 : Int32) (10000 : Int32) hc) (va_cwS 3 hts gX7_sample_X7_in rfl rfl rfl (by decide +kernel) ⟨Nat.le_of_ble_eq_true rfl, Nat.le_of_ble_eq_true rfl⟩) (ch_pS hw) rfl rfl hl.1 rfl (lv_room (Nat.le_of_ble_eq_true rfl)) dX7_sample_43 ⟨Nat.le_refl 0, Nat.le_refl 0⟩) (fun H locs hw => ?_)
  refine ch_if_eq (tgt := 53) hx hb dX7_sample_46 (by decide) h (fun h => ?_) (fun h => ?_)
  · refine lv_iconst (v := (0 : Int32)) hx hb dX7_sample_53 (by decide) ?_
    exact fin _ _ _ _ _ _ h hw dX7_sample_54
  · refine lv_iload_n hx hb dX7_sample_49 rfl (lv_at hl 0 rfl) ?_
    refine lv_goto (tgt := 54) hx hb dX7_sample_50 (by decide) ?_
    exact fin _ _ _ _ _ _ h hw dX7_sample_54
set_option maxHeartbeats 4000000 in
set_option maxRecDepth 100000 in
theorem t_X7_sample_34 {p : Program} {l : Launch} {e : Env} {s : State} {m : MethodId} {args : Array Value} {below : List Frame} {meth : Method} {c : Code} {Q : State → Prop} {D : va_G} {I : ch_Id} {sh : Nat → Nat} {A : Nat → Prop} {oo : Int32 × ch_Mem}     (S : CallFix p m c cX7_sample 4 s args wsX7_sample RX7) (fin : ch_FinI p l e rm_X7_sample s m args below meth c cX7_sample Q D I 13 (ch_FM I sh) sh A oo)    {M : ch_Mem} {H : Heap} {locs : List Loc} {ls : Array Slot} (h : D_X7_sample_b34  M = some oo) (hw : ch_Wd D I 13 (ch_FM I sh) sh s A M H locs) (hl : lv_has ls 4 []) : W p l e rm_X7_sample s m args below meth c H locs 0 0 Q (F0 m 34 ls []) := by
  obtain ⟨hx, hb, hml, hown, hts⟩ := id S
  unfold D_X7_sample_b34 at h
  refine lv_iconst (v := (0 : Int32)) hx hb dX7_sample_34 (by decide) ?_
  exact t_X7_sample_35 S fin h hw (lv_sub hl [] rfl)
set_option maxHeartbeats 4000000 in
set_option maxRecDepth 100000 in
theorem t_X7_sample_0 {p : Program} {l : Launch} {e : Env} {s : State} {m : MethodId} {args : Array Value} {below : List Frame} {meth : Method} {c : Code} {Q : State → Prop} {D : va_G} {I : ch_Id} {sh : Nat → Nat} {A : Nat → Prop} {oo : Int32 × ch_Mem}     (S : CallFix p m c cX7_sample 4 s args wsX7_sample RX7) (fin : ch_FinI p l e rm_X7_sample s m args below meth c cX7_sample Q D I 13 (ch_FM I sh) sh A oo)  {x1 : Int32} {x2 : Int32}  {M : ch_Mem} {H : Heap} {locs : List Loc} {ls : Array Slot} (h : D_X7_sample x1 x2 M = some oo) (hw : ch_Wd D I 13 (ch_FM I sh) sh s A M H locs) (hl : lv_has ls 4 [(0, .ref (sh 0)), (1, .int x1), (2, .int x2)]) : W p l e rm_X7_sample s m args below meth c H locs 0 0 Q (F0 m 0 ls []) := by
  obtain ⟨hx, hb, hml, hown, hts⟩ := id S
  unfold D_X7_sample at h
  refine lv_aload_n hx hb dX7_sample_0 rfl (lv_at hl 0 rfl) ?_
  refine ch_get S hw 0 (by decide) rfl rfl (by decide +kernel) 13 (by decide) (hts (.fieldLink RX7 35 "CodeHuntModel" "isThere" "[Z") (by decide +kernel)) rfl dX7_sample_1 ?_
  refine lv_iload_n hx hb dX7_sample_4 rfl (lv_at hl 1 rfl) ?_
  refine ch_gd_k h (fun hin h => ?_)
  refine ch_zald S hw 8 (by decide) rfl hin dX7_sample_5 ?_
  refine ch_if_eq (tgt := 34) hx hb dX7_sample_6 (by decide) h (fun h => ?_) (fun h => ?_)
  · exact t_X7_sample_34 S fin h hw (lv_sub hl [] rfl)
  · refine lv_iload_n hx hb dX7_sample_9 rfl (lv_at hl 2 rfl) ?_
    refine lv_aload_n hx hb dX7_sample_10 rfl (lv_at hl 0 rfl) ?_
    refine ch_get S hw 0 (by decide) rfl rfl (by decide +kernel) 15 (by decide) (hts (.fieldLink RX7 42 "CodeHuntModel" "sizes" "[I") (by decide +kernel)) rfl dX7_sample_11 ?_
    refine lv_iload_n hx hb dX7_sample_14 rfl (lv_at hl 1 rfl) ?_
    refine ch_gd_k h (fun hin h => ?_)
    refine ch_iald S hw 10 (by decide) rfl hin dX7_sample_15 ?_
    refine ch_icmp_ge (tgt := 34) hx hb dX7_sample_16 (by decide) h (fun h => ?_) (fun h => ?_)
    · exact t_X7_sample_34 S fin h hw (lv_sub hl [] rfl)
    · refine lv_aload_n hx hb dX7_sample_19 rfl (lv_at hl 0 rfl) ?_
      refine ch_get S hw 0 (by decide) rfl rfl (by decide +kernel) 16 (by decide) (hts (.fieldLink RX7 45 "CodeHuntModel" "items" "[I") (by decide +kernel)) rfl dX7_sample_20 ?_
      refine lv_sipush (v := (300 : Int32)) hx hb dX7_sample_23 (by decide) ?_
      refine lv_iload_n hx hb dX7_sample_26 rfl (lv_at hl 1 rfl) ?_
      refine lv_imul hx hb dX7_sample_27 ?_
      refine lv_iload_n hx hb dX7_sample_28 rfl (lv_at hl 2 rfl) ?_
      refine lv_iadd hx hb dX7_sample_29 ?_
      refine ch_gd_k h (fun hin h => ?_)
      refine ch_iald S hw 11 (by decide) rfl hin dX7_sample_30 ?_
      refine lv_goto (tgt := 35) hx hb dX7_sample_31 (by decide) ?_
      exact t_X7_sample_35 S fin h hw (lv_sub hl [] rfl)
set_option maxHeartbeats 4000000 in
set_option maxRecDepth 100000 in
theorem c_X7_sample (l : Launch) (D : va_G) (I : ch_Id) (sh : Nat → Nat) (sz : Nat) (M : ch_Mem)  (x1 : Int32) (x2 : Int32) {r : Int32} {M1 : ch_Mem} (h : D_X7_sample x1 x2 M = some (r, M1)) : Met l yX7_sample wsX7_sample rm_X7_sample (va_Pc [.ref (sh 0), .int x1, .int x2] (ch_Pre D I 13 (ch_FM I sh) sh sz M)) (va_Qi (fun r' (u : ch_Mem) => r' = r ∧ u = M1) (ch_Pos D 13 (ch_FM I sh) sh) (ch_A 13 sh sz)) 0 0 (ch_A 13 sh sz) := by
  refine Met.ofW (cc := cX7_sample) (maxL := 4) (ret := (some .int)) (by decide) rfl ?_
  intro p e s m args below meth c s₁ B hml hv0
  obtain ⟨rfl, hv0⟩ := hv0
  obtain rfl : s.heap.size = sz := hv0.1
  have hw := ch_start hv0
  have S : CallFix p m c cX7_sample 4 s _ wsX7_sample RX7 := ⟨B.exec, B.bytes, hml, findClass_of_methodNamed B.named, atoms_spec (ws := wsX7_sample) B.pre⟩
  have hl := lv_entry ([.ref (sh 0), .int x1, .int x2]) (n := 4) (Nat.le_of_ble_eq_true rfl)
  rw [lg_entry_eq]
  generalize (lg_sl ([.ref (sh 0), .int x1, .int x2]) ++ List.replicate (4 - (lg_sl ([.ref (sh 0), .int x1, .int x2])).length) Slot.unset).toArray = ls at hl ⊢
  exact t_X7_sample_0 S (ch_finI (B := fun _ => True) B.exec B.bytes B.returns B.notSynchronized) h hw (lv_sub hl [0, 1, 2] rfl)
set_option maxHeartbeats 4000000 in
set_option maxRecDepth 100000 in
theorem t_X7_amount_47 {p : Program} {l : Launch} {e : Env} {s : State} {m : MethodId} {args : Array Value} {below : List Frame} {meth : Method} {c : Code} {Q : State → Prop} {D : va_G} {I : ch_Id} {sh : Nat → Nat} {A : Nat → Prop} {oo : Int32 × ch_Mem}     (S : CallFix p m c cX7_amount 6 s args wsX7_amount RX7) (fin : ch_FinI p l e rm_X7_amount s m args below meth c cX7_amount Q D I 13 (ch_FM I sh) sh A oo)  {x4 : Int32}  {M : ch_Mem} {H : Heap} {locs : List Loc} {ls : Array Slot} (h : D_X7_amount_b47 x4 M = some oo) (hw : ch_Wd D I 13 (ch_FM I sh) sh s A M H locs) (hl : lv_has ls 6 [(4, .int x4)]) : W p l e rm_X7_amount s m args below meth c H locs 0 0 Q (F0 m 47 ls []) := by
  obtain ⟨hx, hb, hml, hown, hts⟩ := id S
  unfold D_X7_amount_b47 at h
  refine lv_iload hx hb dX7_amount_47 (lv_at hl 0 rfl) ?_
  refine ch_if_ge (tgt := 58) hx hb dX7_amount_49 (by decide) h (fun h => ?_) (fun h => ?_)
  · refine lv_iload hx hb dX7_amount_58 (lv_at hl 0 rfl) ?_
    exact fin _ _ _ _ _ _ h hw dX7_amount_60
  · refine lv_iload hx hb dX7_amount_52 (lv_at hl 0 rfl) ?_
    refine lv_ineg hx hb dX7_amount_54 ?_
    refine lv_goto (tgt := 60) hx hb dX7_amount_55 (by decide) ?_
    exact fin _ _ _ _ _ _ h hw dX7_amount_60
set_option maxHeartbeats 4000000 in
set_option maxRecDepth 100000 in
theorem t_X7_amount_6 {p : Program} {l : Launch} {e : Env} {s : State} {m : MethodId} {args : Array Value} {below : List Frame} {meth : Method} {c : Code} {Q : State → Prop} {D : va_G} {I : ch_Id} {sh : Nat → Nat} {A : Nat → Prop} {oo : Int32 × ch_Mem}    {k6 : Int32 → Int32 → Int32 → Int32 → Int32 → ch_Mem → Option (Int32 × ch_Mem)} (S : CallFix p m c cX7_amount 6 s args wsX7_amount RX7) (fin : ch_FinI p l e rm_X7_amount s m args below meth c cX7_amount Q D I 13 (ch_FM I sh) sh A oo) (hk6 : ∀ (x1 : Int32) (x2 : Int32) (x3 : Int32) (x4 : Int32) (x5 : Int32) (M : ch_Mem) (H : Heap) (locs : List Loc) (ls : Array Slot), k6 x1 x2 x3 x4 x5 M = some oo → ch_Wd D I 13 (ch_FM I sh) sh s A M H locs → lv_has ls 6 [(0, .ref (sh 0)), (1, .int x1), (2, .int x2), (3, .int x3), (4, .int x4), (5, .int x5)] → W p l e rm_X7_amount s m args below meth c H locs 0 0 Q (F0 m 6 ls [])) {x1 : Int32} {x2 : Int32} {x3 : Int32} {x4 : Int32} {x5 : Int32}  {M : ch_Mem} {H : Heap} {locs : List Loc} {ls : Array Slot} (h : D_X7_amount_b6 k6 x1 x2 x3 x4 x5 M = some oo) (hw : ch_Wd D I 13 (ch_FM I sh) sh s A M H locs) (hl : lv_has ls 6 [(0, .ref (sh 0)), (1, .int x1), (2, .int x2), (3, .int x3), (4, .int x4), (5, .int x5)]) : W p l e rm_X7_amount s m args below meth c H locs 0 0 Q (F0 m 6 ls []) := by
  obtain ⟨hx, hb, hml, hown, hts⟩ := id S
  unfold D_X7_amount_b6 at h
  refine lv_iload hx hb dX7_amount_6 (lv_at hl 5 rfl) ?_
  refine lv_aload_n hx hb dX7_amount_8 rfl (lv_at hl 0 rfl) ?_
  refine ch_get S hw 0 (by decide) rfl rfl (by decide +kernel) 0 (by decide) (hts (.fieldLink RX7 7 "CodeHuntModel" "sizesOf" "[I") (by decide +kernel)) rfl dX7_amount_9 ?_
  refine lv_iload_n hx hb dX7_amount_12 rfl (lv_at hl 1 rfl) ?_
  refine ch_gd_k h (fun hin h => ?_)
  refine ch_iald S hw 1 (by decide) rfl hin dX7_amount_13 ?_
  refine ch_icmp_ge (tgt := 47) hx hb dX7_amount_14 (by decide) h (fun h => ?_) (fun h => ?_)
  · exact t_X7_amount_47 S fin h hw (lv_sub hl [4] rfl)
  · refine lv_iload hx hb dX7_amount_17 (lv_at hl 4 rfl) ?_
    refine lv_aload_n hx hb dX7_amount_19 rfl (lv_at hl 0 rfl) ?_
    refine lv_iload_n hx hb dX7_amount_20 rfl (lv_at hl 1 rfl) ?_
    refine lv_iload hx hb dX7_amount_21 (lv_at hl 5 rfl) ?_
    refine lv_iload_n hx hb dX7_amount_23 rfl (lv_at hl 3 rfl) ?_
    refine lv_iadd hx hb dX7_amount_24 ?_
    refine ch_bd_k h (fun r1 M2 hc h => ?_)
    refine ch_ci hw (va_runV (As := [.int x1, .int (x5 + x3)]) (rest := [.int x4]) S (c_X7_signOf l D I sh H.size M x1 (x5 + x3) hc) (cwV 2 hts gX7_amount_X7_signOf rfl rfl rfl (by decide +kernel) ⟨Nat.le_of_ble_eq_true rfl, Nat.le_of_ble_eq_true rfl⟩) (ch_pV hw (by decide) rfl rfl rfl) rfl rfl hl.1 rfl (lv_room (Nat.le_of_ble_eq_true rfl)) dX7_amount_25 ⟨Nat.le_refl 0, Nat.le_refl 0⟩) (fun H locs hw => ?_)
    refine lv_aload_n hx hb dX7_amount_28 rfl (lv_at hl 0 rfl) ?_
    refine lv_iconst (v := (0 : Int32)) hx hb dX7_amount_29 (by decide) ?_
    refine lv_iload_n hx hb dX7_amount_30 rfl (lv_at hl 2 rfl) ?_
    refine lv_iload hx hb dX7_amount_31 (lv_at hl 5 rfl) ?_
    refine lv_iadd hx hb dX7_amount_33 ?_
    refine ch_bd_k h (fun r3 M4 hc h => ?_)
    refine ch_ci hw (va_runV (As := [.int (0 : Int32), .int (x2 + x5)]) (rest := [.int r1, .int x4]) S (c_X7_sample l D I sh H.size M2 (0 : Int32) (x2 + x5) hc) (cwV 2 hts gX7_amount_X7_sample rfl rfl rfl (by decide +kernel) ⟨Nat.le_of_ble_eq_true rfl, Nat.le_of_ble_eq_true rfl⟩) (ch_pV hw (by decide) rfl rfl rfl) rfl rfl hl.1 rfl (lv_room (Nat.le_of_ble_eq_true rfl)) dX7_amount_34 ⟨Nat.le_refl 0, Nat.le_refl 0⟩) (fun H locs hw => ?_)
    refine lv_imul hx hb dX7_amount_37 ?_
    refine lv_iadd hx hb dX7_amount_38 ?_
    refine lv_istore (lv' := [(4, .int (x4 + (r1 * r3))), (0, .ref (sh 0)), (1, .int x1), (2, .int x2), (3, .int x3), (5, .int x5)]) hx hb dX7_amount_39 hl (by decide) rfl (fun ls hl => ?_)
    refine lv_iinc (v := x5 + (1 : Int32)) (lv' := [(5, .int (x5 + (1 : Int32))), (4, .int (x4 + (r1 * r3))), (0, .ref (sh 0)), (1, .int x1), (2, .int x2), (3, .int x3)]) hx hb dX7_amount_41 hl (k := 5) rfl rfl (by decide) rfl (fun ls hl => ?_)
    refine lv_goto (tgt := 6) hx hb dX7_amount_44 (by decide) ?_
    exact hk6 _ _ _ _ _ _ _ _ _  h hw (lv_sub hl [2, 3, 4, 5, 1, 0] rfl)
set_option maxHeartbeats 4000000 in
set_option maxRecDepth 100000 in
theorem tl_X7_amount_6 {p : Program} {l : Launch} {e : Env} {s : State} {m : MethodId} {args : Array Value} {below : List Frame} {meth : Method} {c : Code} {Q : State → Prop} {D : va_G} {I : ch_Id} {sh : Nat → Nat} {A : Nat → Prop} {oo : Int32 × ch_Mem}     (S : CallFix p m c cX7_amount 6 s args wsX7_amount RX7) (fin : ch_FinI p l e rm_X7_amount s m args below meth c cX7_amount Q D I 13 (ch_FM I sh) sh A oo)  (n : Nat) : ∀ (x1 : Int32) (x2 : Int32) (x3 : Int32) (x4 : Int32) (x5 : Int32) (M : ch_Mem) (H : Heap) (locs : List Loc) (ls : Array Slot), D_X7_amount_L6  n x1 x2 x3 x4 x5 M = some oo → ch_Wd D I 13 (ch_FM I sh) sh s A M H locs → lv_has ls 6 [(0, .ref (sh 0)), (1, .int x1), (2, .int x2), (3, .int x3), (4, .int x4), (5, .int x5)] → W p l e rm_X7_amount s m args below meth c H locs 0 0 Q (F0 m 6 ls []) := by
  induction n with
  | zero => intro x1 x2 x3 x4 x5 M H locs ls  h; cases h
  | succ n ih =>
    intro x1 x2 x3 x4 x5 M H locs ls  h hw hl
    exact t_X7_amount_6 S fin ih h hw hl
set_option maxHeartbeats 4000000 in
set_option maxRecDepth 100000 in
theorem t_X7_amount_0 {p : Program} {l : Launch} {e : Env} {s : State} {m : MethodId} {args : Array Value} {below : List Frame} {meth : Method} {c : Code} {Q : State → Prop} {D : va_G} {I : ch_Id} {sh : Nat → Nat} {A : Nat → Prop} {oo : Int32 × ch_Mem}     (S : CallFix p m c cX7_amount 6 s args wsX7_amount RX7) (fin : ch_FinI p l e rm_X7_amount s m args below meth c cX7_amount Q D I 13 (ch_FM I sh) sh A oo)  {x1 : Int32} {x2 : Int32} {x3 : Int32}  {M : ch_Mem} {H : Heap} {locs : List Loc} {ls : Array Slot} (h : D_X7_amount x1 x2 x3 M = some oo) (hw : ch_Wd D I 13 (ch_FM I sh) sh s A M H locs) (hl : lv_has ls 6 [(0, .ref (sh 0)), (1, .int x1), (2, .int x2), (3, .int x3)]) : W p l e rm_X7_amount s m args below meth c H locs 0 0 Q (F0 m 0 ls []) := by
  obtain ⟨hx, hb, hml, hown, hts⟩ := id S
  unfold D_X7_amount at h
  refine lv_iconst (v := (0 : Int32)) hx hb dX7_amount_0 (by decide) ?_
  refine lv_istore (lv' := [(4, .int (0 : Int32)), (0, .ref (sh 0)), (1, .int x1), (2, .int x2), (3, .int x3)]) hx hb dX7_amount_1 hl (by decide) rfl (fun ls hl => ?_)
  refine lv_iconst (v := (0 : Int32)) hx hb dX7_amount_3 (by decide) ?_
  refine lv_istore (lv' := [(5, .int (0 : Int32)), (4, .int (0 : Int32)), (0, .ref (sh 0)), (1, .int x1), (2, .int x2), (3, .int x3)]) hx hb dX7_amount_4 hl (by decide) rfl (fun ls hl => ?_)
  exact tl_X7_amount_6 S fin ch_fu _ _ _ _ _ _ _ _ _ h hw (lv_sub hl [2, 3, 4, 5, 1, 0] rfl)
set_option maxHeartbeats 4000000 in
set_option maxRecDepth 100000 in
theorem c_X7_amount (l : Launch) (D : va_G) (I : ch_Id) (sh : Nat → Nat) (sz : Nat) (M : ch_Mem)  (x1 : Int32) (x2 : Int32) (x3 : Int32) {r : Int32} {M1 : ch_Mem} (h : D_X7_amount x1 x2 x3 M = some (r, M1)) : Met l yX7_amount wsX7_amount rm_X7_amount (va_Pc [.ref (sh 0), .int x1, .int x2, .int x3] (ch_Pre D I 13 (ch_FM I sh) sh sz M)) (va_Qi (fun r' (u : ch_Mem) => r' = r ∧ u = M1) (ch_Pos D 13 (ch_FM I sh) sh) (ch_A 13 sh sz)) 0 0 (ch_A 13 sh sz) := by
  refine Met.ofW (cc := cX7_amount) (maxL := 6) (ret := (some .int)) (by decide) rfl ?_
  intro p e s m args below meth c s₁ B hml hv0
  obtain ⟨rfl, hv0⟩ := hv0
  obtain rfl : s.heap.size = sz := hv0.1
  have hw := ch_start hv0
  have S : CallFix p m c cX7_amount 6 s _ wsX7_amount RX7 := ⟨B.exec, B.bytes, hml, findClass_of_methodNamed B.named, atoms_spec (ws := wsX7_amount) B.pre⟩
  have hl := lv_entry ([.ref (sh 0), .int x1, .int x2, .int x3]) (n := 6) (Nat.le_of_ble_eq_true rfl)
  rw [lg_entry_eq]
  generalize (lg_sl ([.ref (sh 0), .int x1, .int x2, .int x3]) ++ List.replicate (6 - (lg_sl ([.ref (sh 0), .int x1, .int x2, .int x3])).length) Slot.unset).toArray = ls at hl ⊢
  exact t_X7_amount_0 S (ch_finI (B := fun _ => True) B.exec B.bytes B.returns B.notSynchronized) h hw (lv_sub hl [0, 1, 2, 3] rfl)
set_option maxHeartbeats 4000000 in
set_option maxRecDepth 100000 in
theorem t_X7_arePair_0 {p : Program} {l : Launch} {e : Env} {s : State} {m : MethodId} {args : Array Value} {below : List Frame} {meth : Method} {c : Code} {Q : State → Prop} {D : va_G} {I : ch_Id} {sh : Nat → Nat} {A : Nat → Prop} {oo : Int32 × ch_Mem}     (S : CallFix p m c cX7_arePair 3 s args wsX7_arePair RX7) (fin : ch_FinZ p l e rm_X7_arePair s m args below meth c cX7_arePair Q D I 13 (ch_FM I sh) sh A oo)  {x1 : Int32} {x2 : Int32}  {M : ch_Mem} {H : Heap} {locs : List Loc} {ls : Array Slot} (h : D_X7_arePair x1 x2 M = some oo) (hw : ch_Wd D I 13 (ch_FM I sh) sh s A M H locs) (hl : lv_has ls 3 [(0, .ref (sh 0)), (1, .int x1), (2, .int x2)]) : W p l e rm_X7_arePair s m args below meth c H locs 0 0 Q (F0 m 0 ls []) := by
  obtain ⟨hx, hb, hml, hown, hts⟩ := id S
  unfold D_X7_arePair at h
  refine lv_aload_n hx hb dX7_arePair_0 rfl (lv_at hl 0 rfl) ?_
  refine ch_get S hw 0 (by decide) rfl rfl (by decide +kernel) 0 (by decide) (hts (.fieldLink RX7 7 "CodeHuntModel" "sizesOf" "[I") (by decide +kernel)) rfl dX7_arePair_1 ?_
  refine lv_iload_n hx hb dX7_arePair_4 rfl (lv_at hl 1 rfl) ?_
  refine ch_gd_k h (fun hin h => ?_)
  refine ch_iald S hw 1 (by decide) rfl hin dX7_arePair_5 ?_
  refine ch_if_le (tgt := 28) hx hb dX7_arePair_6 (by decide) h (fun h => ?_) (fun h => ?_)
  · refine lv_iconst (v := (0 : Int32)) hx hb dX7_arePair_28 (by decide) ?_
    exact fin _ _ _ _ _ _ rfl h hw dX7_arePair_29
  · refine lv_aload_n hx hb dX7_arePair_9 rfl (lv_at hl 0 rfl) ?_
    refine ch_get S hw 0 (by decide) rfl rfl (by decide +kernel) 0 (by decide) (hts (.fieldLink RX7 7 "CodeHuntModel" "sizesOf" "[I") (by decide +kernel)) rfl dX7_arePair_10 ?_
    refine lv_iload_n hx hb dX7_arePair_13 rfl (lv_at hl 1 rfl) ?_
    refine ch_gd_k h (fun hin h => ?_)
    refine ch_iald S hw 1 (by decide) rfl hin dX7_arePair_14 ?_
    refine lv_aload_n hx hb dX7_arePair_15 rfl (lv_at hl 0 rfl) ?_
    refine ch_get S hw 0 (by decide) rfl rfl (by decide +kernel) 0 (by decide) (hts (.fieldLink RX7 7 "CodeHuntModel" "sizesOf" "[I") (by decide +kernel)) rfl dX7_arePair_16 ?_
    refine lv_iload_n hx hb dX7_arePair_19 rfl (lv_at hl 2 rfl) ?_
    refine ch_gd_k h (fun hin h => ?_)
    refine ch_iald S hw 1 (by decide) rfl hin dX7_arePair_20 ?_
    refine ch_icmp_ne (tgt := 28) hx hb dX7_arePair_21 (by decide) h (fun h => ?_) (fun h => ?_)
    · refine lv_iconst (v := (0 : Int32)) hx hb dX7_arePair_28 (by decide) ?_
      exact fin _ _ _ _ _ _ rfl h hw dX7_arePair_29
    · refine lv_iconst (v := (1 : Int32)) hx hb dX7_arePair_24 (by decide) ?_
      refine lv_goto (tgt := 29) hx hb dX7_arePair_25 (by decide) ?_
      exact fin _ _ _ _ _ _ rfl h hw dX7_arePair_29
set_option maxHeartbeats 4000000 in
set_option maxRecDepth 100000 in
theorem c_X7_arePair (l : Launch) (D : va_G) (I : ch_Id) (sh : Nat → Nat) (sz : Nat) (M : ch_Mem)  (x1 : Int32) (x2 : Int32) {r : Int32} {M1 : ch_Mem} (h : D_X7_arePair x1 x2 M = some (r, M1)) : Met l yX7_arePair wsX7_arePair rm_X7_arePair (va_Pc [.ref (sh 0), .int x1, .int x2] (ch_Pre D I 13 (ch_FM I sh) sh sz M)) (va_Qi (fun r' (u : ch_Mem) => r' = r ∧ u = M1) (ch_Pos D 13 (ch_FM I sh) sh) (ch_A 13 sh sz)) 0 0 (ch_A 13 sh sz) := by
  refine Met.ofW (cc := cX7_arePair) (maxL := 3) (ret := (some .boolean)) (by decide) rfl ?_
  intro p e s m args below meth c s₁ B hml hv0
  obtain ⟨rfl, hv0⟩ := hv0
  obtain rfl : s.heap.size = sz := hv0.1
  have hw := ch_start hv0
  have S : CallFix p m c cX7_arePair 3 s _ wsX7_arePair RX7 := ⟨B.exec, B.bytes, hml, findClass_of_methodNamed B.named, atoms_spec (ws := wsX7_arePair) B.pre⟩
  have hl := lv_entry ([.ref (sh 0), .int x1, .int x2]) (n := 3) (Nat.le_of_ble_eq_true rfl)
  rw [lg_entry_eq]
  generalize (lg_sl ([.ref (sh 0), .int x1, .int x2]) ++ List.replicate (3 - (lg_sl ([.ref (sh 0), .int x1, .int x2])).length) Slot.unset).toArray = ls at hl ⊢
  exact t_X7_arePair_0 S (ch_finZ B.exec B.bytes B.returns B.notSynchronized) h hw (lv_sub hl [0, 1, 2] rfl)
set_option maxHeartbeats 4000000 in
set_option maxRecDepth 100000 in
theorem t_X7_copy_35 {p : Program} {l : Launch} {e : Env} {s : State} {m : MethodId} {args : Array Value} {below : List Frame} {meth : Method} {c : Code} {Q : State → Prop} {D : va_G} {I : ch_Id} {sh : Nat → Nat} {A : Nat → Prop} {oo : Int32 × ch_Mem}     (S : CallFix p m c cX7_copy 7 s args wsX7_copy RX7) (fin : ch_FinI p l e rm_X7_copy s m args below meth c cX7_copy Q D I 13 (ch_FM I sh) sh A oo)    {M : ch_Mem} {H : Heap} {locs : List Loc} {ls : Array Slot} (h : D_X7_copy_b35  M = some oo) (hw : ch_Wd D I 13 (ch_FM I sh) sh s A M H locs) (hl : lv_has ls 7 [(0, .ref (sh 0))]) : W p l e rm_X7_copy s m args below meth c H locs 0 0 Q (F0 m 35 ls []) := by
  obtain ⟨hx, hb, hml, hown, hts⟩ := id S
  unfold D_X7_copy_b35 at h
  refine lv_aload_n hx hb dX7_copy_35 rfl (lv_at hl 0 rfl) ?_
  refine lv_iconst (v := (1 : Int32)) hx hb dX7_copy_36 (by decide) ?_
  refine ch_bd_k h (fun r1 M2 hc h => ?_)
  refine ch_ci hw (va_runV (As := [.int (1 : Int32)]) (rest := []) S (c_X7_meets l D I sh H.size M (1 : Int32) hc) (cwV 1 hts gX7_copy_X7_meets rfl rfl rfl (by decide +kernel) ⟨Nat.le_of_ble_eq_true rfl, Nat.le_of_ble_eq_true rfl⟩) (ch_pV hw (by decide) rfl rfl rfl) rfl rfl hl.1 rfl (lv_room (Nat.le_of_ble_eq_true rfl)) dX7_copy_37 ⟨Nat.le_refl 0, Nat.le_refl 0⟩) (fun H locs hw => ?_)
  exact fin _ _ _ _ _ _ h hw dX7_copy_40
set_option maxHeartbeats 4000000 in
set_option maxRecDepth 100000 in
theorem t_X7_copy_111 {p : Program} {l : Launch} {e : Env} {s : State} {m : MethodId} {args : Array Value} {below : List Frame} {meth : Method} {c : Code} {Q : State → Prop} {D : va_G} {I : ch_Id} {sh : Nat → Nat} {A : Nat → Prop} {oo : Int32 × ch_Mem}     (S : CallFix p m c cX7_copy 7 s args wsX7_copy RX7) (fin : ch_FinI p l e rm_X7_copy s m args below meth c cX7_copy Q D I 13 (ch_FM I sh) sh A oo)    {M : ch_Mem} {H : Heap} {locs : List Loc} {ls : Array Slot} (h : D_X7_copy_b111  M = some oo) (hw : ch_Wd D I 13 (ch_FM I sh) sh s A M H locs) (hl : lv_has ls 7 [(0, .ref (sh 0))]) : W p l e rm_X7_copy s m args below meth c H locs 0 0 Q (F0 m 111 ls []) := by
  obtain ⟨hx, hb, hml, hown, hts⟩ := id S
  unfold D_X7_copy_b111 at h
  refine lv_aload_n hx hb dX7_copy_111 rfl (lv_at hl 0 rfl) ?_
  refine lv_iconst (v := (2 : Int32)) hx hb dX7_copy_112 (by decide) ?_
  refine ch_bd_k h (fun r1 M2 hc h => ?_)
  refine ch_ci hw (va_runV (As := [.int (2 : Int32)]) (rest := []) S (c_X7_meets l D I sh H.size M (2 : Int32) hc) (cwV 1 hts gX7_copy_X7_meets rfl rfl rfl (by decide +kernel) ⟨Nat.le_of_ble_eq_true rfl, Nat.le_of_ble_eq_true rfl⟩) (ch_pV hw (by decide) rfl rfl rfl) rfl rfl hl.1 rfl (lv_room (Nat.le_of_ble_eq_true rfl)) dX7_copy_113 ⟨Nat.le_refl 0, Nat.le_refl 0⟩) (fun H locs hw => ?_)
  exact fin _ _ _ _ _ _ h hw dX7_copy_116
set_option maxHeartbeats 4000000 in
set_option maxRecDepth 100000 in
theorem t_X7_copy_158 {p : Program} {l : Launch} {e : Env} {s : State} {m : MethodId} {args : Array Value} {below : List Frame} {meth : Method} {c : Code} {Q : State → Prop} {D : va_G} {I : ch_Id} {sh : Nat → Nat} {A : Nat → Prop} {oo : Int32 × ch_Mem}    {k158 : Int32 → Int32 → Int32 → Int32 → ch_Mem → Option (Int32 × ch_Mem)} (S : CallFix p m c cX7_copy 7 s args wsX7_copy RX7) (fin : ch_FinI p l e rm_X7_copy s m args below meth c cX7_copy Q D I 13 (ch_FM I sh) sh A oo) (hk158 : ∀ (x3 : Int32) (x4 : Int32) (x5 : Int32) (x6 : Int32) (M : ch_Mem) (H : Heap) (locs : List Loc) (ls : Array Slot), k158 x3 x4 x5 x6 M = some oo → ch_Wd D I 13 (ch_FM I sh) sh s A M H locs → lv_has ls 7 [(0, .ref (sh 0)), (3, .int x3), (4, .int x4), (5, .int x5), (6, .int x6)] → W p l e rm_X7_copy s m args below meth c H locs 0 0 Q (F0 m 158 ls [])) {x3 : Int32} {x4 : Int32} {x5 : Int32} {x6 : Int32}  {M : ch_Mem} {H : Heap} {locs : List Loc} {ls : Array Slot} (h : D_X7_copy_b158 k158 x3 x4 x5 x6 M = some oo) (hw : ch_Wd D I 13 (ch_FM I sh) sh s A M H locs) (hl : lv_has ls 7 [(0, .ref (sh 0)), (3, .int x3), (4, .int x4), (5, .int x5), (6, .int x6)]) : W p l e rm_X7_copy s m args below meth c H locs 0 0 Q (F0 m 158 ls []) := by
  obtain ⟨hx, hb, hml, hown, hts⟩ := id S
  unfold D_X7_copy_b158 at h
  refine lv_iload hx hb dX7_copy_158 (lv_at hl 4 rfl) ?_
  refine lv_iload hx hb dX7_copy_160 (lv_at hl 3 rfl) ?_
  refine ch_icmp_ge (tgt := 194) hx hb dX7_copy_162 (by decide) h (fun h => ?_) (fun h => ?_)
  · refine lv_iconst (v := (1 : Int32)) hx hb dX7_copy_194 (by decide) ?_
    exact fin _ _ _ _ _ _ h hw dX7_copy_195
  · refine lv_aload_n hx hb dX7_copy_165 rfl (lv_at hl 0 rfl) ?_
    refine ch_get S hw 0 (by decide) rfl rfl (by decide +kernel) 16 (by decide) (hts (.fieldLink RX7 45 "CodeHuntModel" "items" "[I") (by decide +kernel)) rfl dX7_copy_166 ?_
    refine lv_sipush (v := (300 : Int32)) hx hb dX7_copy_169 (by decide) ?_
    refine lv_iload_n hx hb dX7_copy_172 rfl (lv_at hl 1 rfl) ?_
    refine lv_imul hx hb dX7_copy_173 ?_
    refine lv_iload hx hb dX7_copy_174 (lv_at hl 2 rfl) ?_
    refine lv_iadd hx hb dX7_copy_176 ?_
    refine lv_iload hx hb dX7_copy_177 (lv_at hl 4 rfl) ?_
    refine lv_iadd hx hb dX7_copy_179 ?_
    refine lv_aload_n hx hb dX7_copy_180 rfl (lv_at hl 0 rfl) ?_
    refine ch_get S hw 0 (by decide) rfl rfl (by decide +kernel) 17 (by decide) (hts (.fieldLink RX7 48 "CodeHuntModel" "moved" "[I") (by decide +kernel)) rfl dX7_copy_181 ?_
    refine lv_iload hx hb dX7_copy_184 (lv_at hl 4 rfl) ?_
    refine ch_gd_k h (fun hin h => ?_)
    refine ch_iald S hw 12 (by decide) rfl hin dX7_copy_186 ?_
    refine ch_gd_k h (fun hin h => ?_)
    refine ch_iast S hw 11 (by decide) (fun _ => rfl) hin dX7_copy_187 (fun H locs hw => ?_)
    refine lv_iinc (v := x6 + (1 : Int32)) (lv' := [(6, .int (x6 + (1 : Int32))), (0, .ref (sh 0)), (3, .int x3), (4, .int x4), (5, .int x5)]) hx hb dX7_copy_188 hl (k := 4) rfl rfl (by decide) rfl (fun ls hl => ?_)
    refine lv_goto (tgt := 158) hx hb dX7_copy_191 (by decide) ?_
    exact hk158 _ _ _ _ _ _ _ _  h hw (lv_sub hl [1, 2, 3, 4, 0] rfl)
set_option maxHeartbeats 4000000 in
set_option maxRecDepth 100000 in
theorem tl_X7_copy_158 {p : Program} {l : Launch} {e : Env} {s : State} {m : MethodId} {args : Array Value} {below : List Frame} {meth : Method} {c : Code} {Q : State → Prop} {D : va_G} {I : ch_Id} {sh : Nat → Nat} {A : Nat → Prop} {oo : Int32 × ch_Mem}     (S : CallFix p m c cX7_copy 7 s args wsX7_copy RX7) (fin : ch_FinI p l e rm_X7_copy s m args below meth c cX7_copy Q D I 13 (ch_FM I sh) sh A oo)  (n : Nat) : ∀ (x3 : Int32) (x4 : Int32) (x5 : Int32) (x6 : Int32) (M : ch_Mem) (H : Heap) (locs : List Loc) (ls : Array Slot), D_X7_copy_L158  n x3 x4 x5 x6 M = some oo → ch_Wd D I 13 (ch_FM I sh) sh s A M H locs → lv_has ls 7 [(0, .ref (sh 0)), (3, .int x3), (4, .int x4), (5, .int x5), (6, .int x6)] → W p l e rm_X7_copy s m args below meth c H locs 0 0 Q (F0 m 158 ls []) := by
  induction n with
  | zero => intro x3 x4 x5 x6 M H locs ls  h; cases h
  | succ n ih =>
    intro x3 x4 x5 x6 M H locs ls  h hw hl
    exact t_X7_copy_158 S fin ih h hw hl
set_option maxHeartbeats 4000000 in
set_option maxRecDepth 100000 in
theorem t_X7_copy_155 {p : Program} {l : Launch} {e : Env} {s : State} {m : MethodId} {args : Array Value} {below : List Frame} {meth : Method} {c : Code} {Q : State → Prop} {D : va_G} {I : ch_Id} {sh : Nat → Nat} {A : Nat → Prop} {oo : Int32 × ch_Mem}     (S : CallFix p m c cX7_copy 7 s args wsX7_copy RX7) (fin : ch_FinI p l e rm_X7_copy s m args below meth c cX7_copy Q D I 13 (ch_FM I sh) sh A oo)  {x3 : Int32} {x4 : Int32} {x5 : Int32}  {M : ch_Mem} {H : Heap} {locs : List Loc} {ls : Array Slot} (h : D_X7_copy_b155 x3 x4 x5 M = some oo) (hw : ch_Wd D I 13 (ch_FM I sh) sh s A M H locs) (hl : lv_has ls 7 [(0, .ref (sh 0)), (3, .int x3), (4, .int x4), (5, .int x5)]) : W p l e rm_X7_copy s m args below meth c H locs 0 0 Q (F0 m 155 ls []) := by
  obtain ⟨hx, hb, hml, hown, hts⟩ := id S
  unfold D_X7_copy_b155 at h
  refine lv_iconst (v := (0 : Int32)) hx hb dX7_copy_155 (by decide) ?_
  refine lv_istore (lv' := [(6, .int (0 : Int32)), (0, .ref (sh 0)), (3, .int x3), (4, .int x4), (5, .int x5)]) hx hb dX7_copy_156 hl (by decide) rfl (fun ls hl => ?_)
  exact tl_X7_copy_158 S fin ch_fu _ _ _ _ _ _ _ _ h hw (lv_sub hl [1, 2, 3, 4, 0] rfl)
set_option maxHeartbeats 4000000 in
set_option maxRecDepth 100000 in
theorem t_X7_copy_120 {p : Program} {l : Launch} {e : Env} {s : State} {m : MethodId} {args : Array Value} {below : List Frame} {meth : Method} {c : Code} {Q : State → Prop} {D : va_G} {I : ch_Id} {sh : Nat → Nat} {A : Nat → Prop} {oo : Int32 × ch_Mem}    {k120 : Int32 → Int32 → Int32 → Int32 → Int32 → Int32 → ch_Mem → Option (Int32 × ch_Mem)} (S : CallFix p m c cX7_copy 7 s args wsX7_copy RX7) (fin : ch_FinI p l e rm_X7_copy s m args below meth c cX7_copy Q D I 13 (ch_FM I sh) sh A oo) (hk120 : ∀ (x1 : Int32) (x2 : Int32) (x3 : Int32) (x4 : Int32) (x5 : Int32) (x6 : Int32) (M : ch_Mem) (H : Heap) (locs : List Loc) (ls : Array Slot), k120 x1 x2 x3 x4 x5 x6 M = some oo → ch_Wd D I 13 (ch_FM I sh) sh s A M H locs → lv_has ls 7 [(0, .ref (sh 0)), (1, .int x1), (2, .int x2), (3, .int x3), (4, .int x4), (5, .int x5), (6, .int x6)] → W p l e rm_X7_copy s m args below meth c H locs 0 0 Q (F0 m 120 ls [])) {x1 : Int32} {x2 : Int32} {x3 : Int32} {x4 : Int32} {x5 : Int32} {x6 : Int32}  {M : ch_Mem} {H : Heap} {locs : List Loc} {ls : Array Slot} (h : D_X7_copy_b120 k120 x1 x2 x3 x4 x5 x6 M = some oo) (hw : ch_Wd D I 13 (ch_FM I sh) sh s A M H locs) (hl : lv_has ls 7 [(0, .ref (sh 0)), (1, .int x1), (2, .int x2), (3, .int x3), (4, .int x4), (5, .int x5), (6, .int x6)]) : W p l e rm_X7_copy s m args below meth c H locs 0 0 Q (F0 m 120 ls []) := by
  obtain ⟨hx, hb, hml, hown, hts⟩ := id S
  unfold D_X7_copy_b120 at h
  refine lv_iload hx hb dX7_copy_120 (lv_at hl 6 rfl) ?_
  refine lv_iload hx hb dX7_copy_122 (lv_at hl 5 rfl) ?_
  refine ch_icmp_ge (tgt := 155) hx hb dX7_copy_124 (by decide) h (fun h => ?_) (fun h => ?_)
  · exact t_X7_copy_155 S fin h hw (lv_sub hl [0, 3, 4, 5] rfl)
  · refine lv_aload_n hx hb dX7_copy_127 rfl (lv_at hl 0 rfl) ?_
    refine ch_get S hw 0 (by decide) rfl rfl (by decide +kernel) 17 (by decide) (hts (.fieldLink RX7 48 "CodeHuntModel" "moved" "[I") (by decide +kernel)) rfl dX7_copy_128 ?_
    refine lv_iload hx hb dX7_copy_131 (lv_at hl 6 rfl) ?_
    refine lv_aload_n hx hb dX7_copy_133 rfl (lv_at hl 0 rfl) ?_
    refine ch_get S hw 0 (by decide) rfl rfl (by decide +kernel) 16 (by decide) (hts (.fieldLink RX7 45 "CodeHuntModel" "items" "[I") (by decide +kernel)) rfl dX7_copy_134 ?_
    refine lv_sipush (v := (300 : Int32)) hx hb dX7_copy_137 (by decide) ?_
    refine lv_iload_n hx hb dX7_copy_140 rfl (lv_at hl 1 rfl) ?_
    refine lv_imul hx hb dX7_copy_141 ?_
    refine lv_iload_n hx hb dX7_copy_142 rfl (lv_at hl 2 rfl) ?_
    refine lv_iadd hx hb dX7_copy_143 ?_
    refine lv_iload hx hb dX7_copy_144 (lv_at hl 6 rfl) ?_
    refine lv_iadd hx hb dX7_copy_146 ?_
    refine ch_gd_k h (fun hin h => ?_)
    refine ch_iald S hw 11 (by decide) rfl hin dX7_copy_147 ?_
    refine ch_gd_k h (fun hin h => ?_)
    refine ch_iast S hw 12 (by decide) (fun _ => rfl) hin dX7_copy_148 (fun H locs hw => ?_)
    refine lv_iinc (v := x6 + (1 : Int32)) (lv' := [(6, .int (x6 + (1 : Int32))), (0, .ref (sh 0)), (1, .int x1), (2, .int x2), (3, .int x3), (4, .int x4), (5, .int x5)]) hx hb dX7_copy_149 hl (k := 6) rfl rfl (by decide) rfl (fun ls hl => ?_)
    refine lv_goto (tgt := 120) hx hb dX7_copy_152 (by decide) ?_
    exact hk120 _ _ _ _ _ _ _ _ _ _  h hw (lv_sub hl [1, 2, 3, 4, 5, 6, 0] rfl)
set_option maxHeartbeats 4000000 in
set_option maxRecDepth 100000 in
theorem tl_X7_copy_120 {p : Program} {l : Launch} {e : Env} {s : State} {m : MethodId} {args : Array Value} {below : List Frame} {meth : Method} {c : Code} {Q : State → Prop} {D : va_G} {I : ch_Id} {sh : Nat → Nat} {A : Nat → Prop} {oo : Int32 × ch_Mem}     (S : CallFix p m c cX7_copy 7 s args wsX7_copy RX7) (fin : ch_FinI p l e rm_X7_copy s m args below meth c cX7_copy Q D I 13 (ch_FM I sh) sh A oo)  (n : Nat) : ∀ (x1 : Int32) (x2 : Int32) (x3 : Int32) (x4 : Int32) (x5 : Int32) (x6 : Int32) (M : ch_Mem) (H : Heap) (locs : List Loc) (ls : Array Slot), D_X7_copy_L120  n x1 x2 x3 x4 x5 x6 M = some oo → ch_Wd D I 13 (ch_FM I sh) sh s A M H locs → lv_has ls 7 [(0, .ref (sh 0)), (1, .int x1), (2, .int x2), (3, .int x3), (4, .int x4), (5, .int x5), (6, .int x6)] → W p l e rm_X7_copy s m args below meth c H locs 0 0 Q (F0 m 120 ls []) := by
  induction n with
  | zero => intro x1 x2 x3 x4 x5 x6 M H locs ls  h; cases h
  | succ n ih =>
    intro x1 x2 x3 x4 x5 x6 M H locs ls  h hw hl
    exact t_X7_copy_120 S fin ih h hw hl
set_option maxHeartbeats 4000000 in
set_option maxRecDepth 100000 in
theorem t_X7_copy_0 {p : Program} {l : Launch} {e : Env} {s : State} {m : MethodId} {args : Array Value} {below : List Frame} {meth : Method} {c : Code} {Q : State → Prop} {D : va_G} {I : ch_Id} {sh : Nat → Nat} {A : Nat → Prop} {oo : Int32 × ch_Mem}     (S : CallFix p m c cX7_copy 7 s args wsX7_copy RX7) (fin : ch_FinI p l e rm_X7_copy s m args below meth c cX7_copy Q D I 13 (ch_FM I sh) sh A oo)  {x1 : Int32} {x2 : Int32} {x3 : Int32} {x4 : Int32} {x5 : Int32}  {M : ch_Mem} {H : Heap} {locs : List Loc} {ls : Array Slot} (h : D_X7_copy x1 x2 x3 x4 x5 M = some oo) (hw : ch_Wd D I 13 (ch_FM I sh) sh s A M H locs) (hl : lv_has ls 7 [(0, .ref (sh 0)), (1, .int x1), (2, .int x2), (3, .int x3), (4, .int x4), (5, .int x5)]) : W p l e rm_X7_copy s m args below meth c H locs 0 0 Q (F0 m 0 ls []) := by
  obtain ⟨hx, hb, hml, hown, hts⟩ := id S
  unfold D_X7_copy at h
  refine lv_iload_n hx hb dX7_copy_0 rfl (lv_at hl 1 rfl) ?_
  refine ch_bd_k h (fun r1 M2 hc h => ?_)
  refine ch_ci hw (va_runS (As := [.int x1]) (rest := []) S (c_X7_isReel l D I sh H.size M x1 hc) (va_cwS 1 hts gX7_copy_X7_isReel rfl rfl rfl (by decide +kernel) ⟨Nat.le_of_ble_eq_true rfl, Nat.le_of_ble_eq_true rfl⟩) (ch_pS hw) rfl rfl hl.1 rfl (lv_room (Nat.le_of_ble_eq_true rfl)) dX7_copy_1 ⟨Nat.le_refl 0, Nat.le_refl 0⟩) (fun H locs hw => ?_)
  refine ch_if_eq (tgt := 14) hx hb dX7_copy_4 (by decide) h (fun h => ?_) (fun h => ?_)
  · refine lv_bipush (v := (-2 : Int32)) hx hb dX7_copy_14 (by decide) ?_
    exact fin _ _ _ _ _ _ h hw dX7_copy_16
  · refine lv_iload_n hx hb dX7_copy_7 rfl (lv_at hl 3 rfl) ?_
    refine ch_bd_k h (fun r3 M4 hc h => ?_)
    refine ch_ci hw (va_runS (As := [.int x3]) (rest := []) S (c_X7_isReel l D I sh H.size M2 x3 hc) (va_cwS 1 hts gX7_copy_X7_isReel rfl rfl rfl (by decide +kernel) ⟨Nat.le_of_ble_eq_true rfl, Nat.le_of_ble_eq_true rfl⟩) (ch_pS hw) rfl rfl hl.1 rfl (lv_room (Nat.le_of_ble_eq_true rfl)) dX7_copy_8 ⟨Nat.le_refl 0, Nat.le_refl 0⟩) (fun H locs hw => ?_)
    refine ch_if_ne (tgt := 17) hx hb dX7_copy_11 (by decide) h (fun h => ?_) (fun h => ?_)
    · refine lv_aload_n hx hb dX7_copy_17 rfl (lv_at hl 0 rfl) ?_
      refine ch_get S hw 0 (by decide) rfl rfl (by decide +kernel) 13 (by decide) (hts (.fieldLink RX7 35 "CodeHuntModel" "isThere" "[Z") (by decide +kernel)) rfl dX7_copy_18 ?_
      refine lv_iload_n hx hb dX7_copy_21 rfl (lv_at hl 1 rfl) ?_
      refine ch_gd_k h (fun hin h => ?_)
      refine ch_zald S hw 8 (by decide) rfl hin dX7_copy_22 ?_
      refine ch_if_eq (tgt := 35) hx hb dX7_copy_23 (by decide) h (fun h => ?_) (fun h => ?_)
      · exact t_X7_copy_35 S fin h hw (lv_sub hl [0] rfl)
      · refine lv_aload_n hx hb dX7_copy_26 rfl (lv_at hl 0 rfl) ?_
        refine ch_get S hw 0 (by decide) rfl rfl (by decide +kernel) 13 (by decide) (hts (.fieldLink RX7 35 "CodeHuntModel" "isThere" "[Z") (by decide +kernel)) rfl dX7_copy_27 ?_
        refine lv_iload_n hx hb dX7_copy_30 rfl (lv_at hl 3 rfl) ?_
        refine ch_gd_k h (fun hin h => ?_)
        refine ch_zald S hw 8 (by decide) rfl hin dX7_copy_31 ?_
        refine ch_if_ne (tgt := 41) hx hb dX7_copy_32 (by decide) h (fun h => ?_) (fun h => ?_)
        · refine lv_aload_n hx hb dX7_copy_41 rfl (lv_at hl 0 rfl) ?_
          refine ch_get S hw 0 (by decide) rfl rfl (by decide +kernel) 14 (by decide) (hts (.fieldLink RX7 39 "CodeHuntModel" "forms" "[I") (by decide +kernel)) rfl dX7_copy_42 ?_
          refine lv_iload_n hx hb dX7_copy_45 rfl (lv_at hl 1 rfl) ?_
          refine ch_gd_k h (fun hin h => ?_)
          refine ch_iald S hw 9 (by decide) rfl hin dX7_copy_46 ?_
          refine lv_aload_n hx hb dX7_copy_47 rfl (lv_at hl 0 rfl) ?_
          refine ch_get S hw 0 (by decide) rfl rfl (by decide +kernel) 14 (by decide) (hts (.fieldLink RX7 39 "CodeHuntModel" "forms" "[I") (by decide +kernel)) rfl dX7_copy_48 ?_
          refine lv_iload_n hx hb dX7_copy_51 rfl (lv_at hl 3 rfl) ?_
          refine ch_gd_k h (fun hin h => ?_)
          refine ch_iald S hw 9 (by decide) rfl hin dX7_copy_52 ?_
          refine ch_icmp_eq (tgt := 62) hx hb dX7_copy_53 (by decide) h (fun h => ?_) (fun h => ?_)
          · refine lv_iload_n hx hb dX7_copy_62 rfl (lv_at hl 2 rfl) ?_
            refine ch_if_lt (tgt := 111) hx hb dX7_copy_63 (by decide) h (fun h => ?_) (fun h => ?_)
            · exact t_X7_copy_111 S fin h hw (lv_sub hl [0] rfl)
            · refine lv_iload hx hb dX7_copy_66 (lv_at hl 4 rfl) ?_
              refine ch_if_lt (tgt := 111) hx hb dX7_copy_68 (by decide) h (fun h => ?_) (fun h => ?_)
              · exact t_X7_copy_111 S fin h hw (lv_sub hl [0] rfl)
              · refine lv_iload hx hb dX7_copy_71 (lv_at hl 5 rfl) ?_
                refine ch_if_lt (tgt := 111) hx hb dX7_copy_73 (by decide) h (fun h => ?_) (fun h => ?_)
                · exact t_X7_copy_111 S fin h hw (lv_sub hl [0] rfl)
                · refine lv_iload_n hx hb dX7_copy_76 rfl (lv_at hl 2 rfl) ?_
                  refine lv_i2l hx hb dX7_copy_77 rfl ?_
                  refine lv_iload hx hb dX7_copy_78 (lv_at hl 5 rfl) ?_
                  refine lv_i2l hx hb dX7_copy_80 rfl ?_
                  refine lv_ladd hx hb dX7_copy_81 ?_
                  refine lv_aload_n hx hb dX7_copy_82 rfl (lv_at hl 0 rfl) ?_
                  refine ch_get S hw 0 (by decide) rfl rfl (by decide +kernel) 15 (by decide) (hts (.fieldLink RX7 42 "CodeHuntModel" "sizes" "[I") (by decide +kernel)) rfl dX7_copy_83 ?_
                  refine lv_iload_n hx hb dX7_copy_86 rfl (lv_at hl 1 rfl) ?_
                  refine ch_gd_k h (fun hin h => ?_)
                  refine ch_iald S hw 10 (by decide) rfl hin dX7_copy_87 ?_
                  refine lv_i2l hx hb dX7_copy_88 rfl ?_
                  refine W.lcmp hx hb dX7_copy_89 ?_
                  refine ch_if_gt (tgt := 111) hx hb dX7_copy_90 (by decide) h (fun h => ?_) (fun h => ?_)
                  · exact t_X7_copy_111 S fin h hw (lv_sub hl [0] rfl)
                  · refine lv_iload hx hb dX7_copy_93 (lv_at hl 4 rfl) ?_
                    refine lv_i2l hx hb dX7_copy_95 rfl ?_
                    refine lv_iload hx hb dX7_copy_96 (lv_at hl 5 rfl) ?_
                    refine lv_i2l hx hb dX7_copy_98 rfl ?_
                    refine lv_ladd hx hb dX7_copy_99 ?_
                    refine lv_aload_n hx hb dX7_copy_100 rfl (lv_at hl 0 rfl) ?_
                    refine ch_get S hw 0 (by decide) rfl rfl (by decide +kernel) 15 (by decide) (hts (.fieldLink RX7 42 "CodeHuntModel" "sizes" "[I") (by decide +kernel)) rfl dX7_copy_101 ?_
                    refine lv_iload_n hx hb dX7_copy_104 rfl (lv_at hl 3 rfl) ?_
                    refine ch_gd_k h (fun hin h => ?_)
                    refine ch_iald S hw 10 (by decide) rfl hin dX7_copy_105 ?_
                    refine lv_i2l hx hb dX7_copy_106 rfl ?_
                    refine W.lcmp hx hb dX7_copy_107 ?_
                    refine ch_if_le (tgt := 117) hx hb dX7_copy_108 (by decide) h (fun h => ?_) (fun h => ?_)
                    · refine lv_iconst (v := (0 : Int32)) hx hb dX7_copy_117 (by decide) ?_
                      refine lv_istore (lv' := [(6, .int (0 : Int32)), (0, .ref (sh 0)), (1, .int x1), (2, .int x2), (3, .int x3), (4, .int x4), (5, .int x5)]) hx hb dX7_copy_118 hl (by decide) rfl (fun ls hl => ?_)
                      exact tl_X7_copy_120 S fin ch_fu _ _ _ _ _ _ _ _ _ _ h hw (lv_sub hl [1, 2, 3, 4, 5, 6, 0] rfl)
                    · exact t_X7_copy_111 S fin h hw (lv_sub hl [0] rfl)
          · refine lv_aload_n hx hb dX7_copy_56 rfl (lv_at hl 0 rfl) ?_
            refine lv_iconst (v := (4 : Int32)) hx hb dX7_copy_57 (by decide) ?_
            refine ch_bd_k h (fun r5 M6 hc h => ?_)
            refine ch_ci hw (va_runV (As := [.int (4 : Int32)]) (rest := []) S (c_X7_meets l D I sh H.size M4 (4 : Int32) hc) (cwV 1 hts gX7_copy_X7_meets rfl rfl rfl (by decide +kernel) ⟨Nat.le_of_ble_eq_true rfl, Nat.le_of_ble_eq_true rfl⟩) (ch_pV hw (by decide) rfl rfl rfl) rfl rfl hl.1 rfl (lv_room (Nat.le_of_ble_eq_true rfl)) dX7_copy_58 ⟨Nat.le_refl 0, Nat.le_refl 0⟩) (fun H locs hw => ?_)
            exact fin _ _ _ _ _ _ h hw dX7_copy_61
        · exact t_X7_copy_35 S fin h hw (lv_sub hl [0] rfl)
    · refine lv_bipush (v := (-2 : Int32)) hx hb dX7_copy_14 (by decide) ?_
      exact fin _ _ _ _ _ _ h hw dX7_copy_16
set_option maxHeartbeats 4000000 in
set_option maxRecDepth 100000 in
theorem c_X7_copy (l : Launch) (D : va_G) (I : ch_Id) (sh : Nat → Nat) (sz : Nat) (M : ch_Mem)  (x1 : Int32) (x2 : Int32) (x3 : Int32) (x4 : Int32) (x5 : Int32) {r : Int32} {M1 : ch_Mem} (h : D_X7_copy x1 x2 x3 x4 x5 M = some (r, M1)) : Met l yX7_copy wsX7_copy rm_X7_copy (va_Pc [.ref (sh 0), .int x1, .int x2, .int x3, .int x4, .int x5] (ch_Pre D I 13 (ch_FM I sh) sh sz M)) (va_Qi (fun r' (u : ch_Mem) => r' = r ∧ u = M1) (ch_Pos D 13 (ch_FM I sh) sh) (ch_A 13 sh sz)) 0 0 (ch_A 13 sh sz) := by
  refine Met.ofW (cc := cX7_copy) (maxL := 7) (ret := (some .int)) (by decide) rfl ?_
  intro p e s m args below meth c s₁ B hml hv0
  obtain ⟨rfl, hv0⟩ := hv0
  obtain rfl : s.heap.size = sz := hv0.1
  have hw := ch_start hv0
  have S : CallFix p m c cX7_copy 7 s _ wsX7_copy RX7 := ⟨B.exec, B.bytes, hml, findClass_of_methodNamed B.named, atoms_spec (ws := wsX7_copy) B.pre⟩
  have hl := lv_entry ([.ref (sh 0), .int x1, .int x2, .int x3, .int x4, .int x5]) (n := 7) (Nat.le_of_ble_eq_true rfl)
  rw [lg_entry_eq]
  generalize (lg_sl ([.ref (sh 0), .int x1, .int x2, .int x3, .int x4, .int x5]) ++ List.replicate (7 - (lg_sl ([.ref (sh 0), .int x1, .int x2, .int x3, .int x4, .int x5])).length) Slot.unset).toArray = ls at hl ⊢
  exact t_X7_copy_0 S (ch_finI (B := fun _ => True) B.exec B.bytes B.returns B.notSynchronized) h hw (lv_sub hl [0, 1, 2, 3, 4, 5] rfl)
set_option maxHeartbeats 4000000 in
set_option maxRecDepth 100000 in
theorem t_X7_rowsThere_25 {p : Program} {l : Launch} {e : Env} {s : State} {m : MethodId} {args : Array Value} {below : List Frame} {meth : Method} {c : Code} {Q : State → Prop} {D : va_G} {I : ch_Id} {sh : Nat → Nat} {A : Nat → Prop} {oo : Int32 × ch_Mem}    {k4 : Int32 → Int32 → ch_Mem → Option (Int32 × ch_Mem)} (S : CallFix p m c cX7_rowsThere 3 s args wsX7_rowsThere RX7) (fin : ch_FinI p l e rm_X7_rowsThere s m args below meth c cX7_rowsThere Q D I 13 (ch_FM I sh) sh A oo) (hk4 : ∀ (x1 : Int32) (x2 : Int32) (M : ch_Mem) (H : Heap) (locs : List Loc) (ls : Array Slot), k4 x1 x2 M = some oo → ch_Wd D I 13 (ch_FM I sh) sh s A M H locs → lv_has ls 3 [(0, .ref (sh 0)), (1, .int x1), (2, .int x2)] → W p l e rm_X7_rowsThere s m args below meth c H locs 0 0 Q (F0 m 4 ls [])) {x2 : Int32} {y0 : Int32} {y1 : Int32}  {M : ch_Mem} {H : Heap} {locs : List Loc} {ls : Array Slot} (h : D_X7_rowsThere_b25 k4 x2 y0 y1 M = some oo) (hw : ch_Wd D I 13 (ch_FM I sh) sh s A M H locs) (hl : lv_has ls 3 [(0, .ref (sh 0)), (2, .int x2)]) : W p l e rm_X7_rowsThere s m args below meth c H locs 0 0 Q (F0 m 25 ls [.int y0, .int y1]) := by
  obtain ⟨hx, hb, hml, hown, hts⟩ := id S
  unfold D_X7_rowsThere_b25 at h
  refine lv_iadd hx hb dX7_rowsThere_25 ?_
  refine lv_istore_n (lv' := [(1, .int (y1 + y0)), (0, .ref (sh 0)), (2, .int x2)]) hx hb dX7_rowsThere_26 rfl hl (by decide) rfl (fun ls hl => ?_)
  refine lv_iinc (v := x2 + (1 : Int32)) (lv' := [(2, .int (x2 + (1 : Int32))), (1, .int (y1 + y0)), (0, .ref (sh 0))]) hx hb dX7_rowsThere_27 hl (k := 2) rfl rfl (by decide) rfl (fun ls hl => ?_)
  refine lv_goto (tgt := 4) hx hb dX7_rowsThere_30 (by decide) ?_
  exact hk4 _ _ _ _ _ _  h hw (lv_sub hl [2, 1, 0] rfl)
set_option maxHeartbeats 4000000 in
set_option maxRecDepth 100000 in
theorem t_X7_rowsThere_33 {p : Program} {l : Launch} {e : Env} {s : State} {m : MethodId} {args : Array Value} {below : List Frame} {meth : Method} {c : Code} {Q : State → Prop} {D : va_G} {I : ch_Id} {sh : Nat → Nat} {A : Nat → Prop} {oo : Int32 × ch_Mem}     (S : CallFix p m c cX7_rowsThere 3 s args wsX7_rowsThere RX7) (fin : ch_FinI p l e rm_X7_rowsThere s m args below meth c cX7_rowsThere Q D I 13 (ch_FM I sh) sh A oo)  {x1 : Int32}  {M : ch_Mem} {H : Heap} {locs : List Loc} {ls : Array Slot} (h : D_X7_rowsThere_b33 x1 M = some oo) (hw : ch_Wd D I 13 (ch_FM I sh) sh s A M H locs) (hl : lv_has ls 3 [(1, .int x1)]) : W p l e rm_X7_rowsThere s m args below meth c H locs 0 0 Q (F0 m 33 ls []) := by
  obtain ⟨hx, hb, hml, hown, hts⟩ := id S
  unfold D_X7_rowsThere_b33 at h
  refine lv_iload_n hx hb dX7_rowsThere_33 rfl (lv_at hl 0 rfl) ?_
  exact fin _ _ _ _ _ _ h hw dX7_rowsThere_34
set_option maxHeartbeats 4000000 in
set_option maxRecDepth 100000 in
theorem t_X7_rowsThere_4 {p : Program} {l : Launch} {e : Env} {s : State} {m : MethodId} {args : Array Value} {below : List Frame} {meth : Method} {c : Code} {Q : State → Prop} {D : va_G} {I : ch_Id} {sh : Nat → Nat} {A : Nat → Prop} {oo : Int32 × ch_Mem}    {k4 : Int32 → Int32 → ch_Mem → Option (Int32 × ch_Mem)} (S : CallFix p m c cX7_rowsThere 3 s args wsX7_rowsThere RX7) (fin : ch_FinI p l e rm_X7_rowsThere s m args below meth c cX7_rowsThere Q D I 13 (ch_FM I sh) sh A oo) (hk4 : ∀ (x1 : Int32) (x2 : Int32) (M : ch_Mem) (H : Heap) (locs : List Loc) (ls : Array Slot), k4 x1 x2 M = some oo → ch_Wd D I 13 (ch_FM I sh) sh s A M H locs → lv_has ls 3 [(0, .ref (sh 0)), (1, .int x1), (2, .int x2)] → W p l e rm_X7_rowsThere s m args below meth c H locs 0 0 Q (F0 m 4 ls [])) {x1 : Int32} {x2 : Int32}  {M : ch_Mem} {H : Heap} {locs : List Loc} {ls : Array Slot} (h : D_X7_rowsThere_b4 k4 x1 x2 M = some oo) (hw : ch_Wd D I 13 (ch_FM I sh) sh s A M H locs) (hl : lv_has ls 3 [(0, .ref (sh 0)), (1, .int x1), (2, .int x2)]) : W p l e rm_X7_rowsThere s m args below meth c H locs 0 0 Q (F0 m 4 ls []) := by
  obtain ⟨hx, hb, hml, hown, hts⟩ := id S
  unfold D_X7_rowsThere_b4 at h
  refine lv_iload_n hx hb dX7_rowsThere_4 rfl (lv_at hl 2 rfl) ?_
  refine lv_bipush (v := (8 : Int32)) hx hb dX7_rowsThere_5 (by decide) ?_
  refine ch_icmp_ge (tgt := 33) hx hb dX7_rowsThere_7 (by decide) h (fun h => ?_) (fun h => ?_)
  · exact t_X7_rowsThere_33 S fin h hw (lv_sub hl [1] rfl)
  · refine lv_iload_n hx hb dX7_rowsThere_10 rfl (lv_at hl 1 rfl) ?_
    refine lv_aload_n hx hb dX7_rowsThere_11 rfl (lv_at hl 0 rfl) ?_
    refine ch_get S hw 0 (by decide) rfl rfl (by decide +kernel) 0 (by decide) (hts (.fieldLink RX7 7 "CodeHuntModel" "sizesOf" "[I") (by decide +kernel)) rfl dX7_rowsThere_12 ?_
    refine lv_iload_n hx hb dX7_rowsThere_15 rfl (lv_at hl 2 rfl) ?_
    refine ch_gd_k h (fun hin h => ?_)
    refine ch_iald S hw 1 (by decide) rfl hin dX7_rowsThere_16 ?_
    refine ch_if_le (tgt := 24) hx hb dX7_rowsThere_17 (by decide) h (fun h => ?_) (fun h => ?_)
    · refine lv_iconst (v := (0 : Int32)) hx hb dX7_rowsThere_24 (by decide) ?_
      exact t_X7_rowsThere_25 S fin hk4 h hw (lv_sub hl [0, 2] rfl)
    · refine lv_iconst (v := (1 : Int32)) hx hb dX7_rowsThere_20 (by decide) ?_
      refine lv_goto (tgt := 25) hx hb dX7_rowsThere_21 (by decide) ?_
      exact t_X7_rowsThere_25 S fin hk4 h hw (lv_sub hl [0, 2] rfl)
set_option maxHeartbeats 4000000 in
set_option maxRecDepth 100000 in
theorem tl_X7_rowsThere_4 {p : Program} {l : Launch} {e : Env} {s : State} {m : MethodId} {args : Array Value} {below : List Frame} {meth : Method} {c : Code} {Q : State → Prop} {D : va_G} {I : ch_Id} {sh : Nat → Nat} {A : Nat → Prop} {oo : Int32 × ch_Mem}     (S : CallFix p m c cX7_rowsThere 3 s args wsX7_rowsThere RX7) (fin : ch_FinI p l e rm_X7_rowsThere s m args below meth c cX7_rowsThere Q D I 13 (ch_FM I sh) sh A oo)  (n : Nat) : ∀ (x1 : Int32) (x2 : Int32) (M : ch_Mem) (H : Heap) (locs : List Loc) (ls : Array Slot), D_X7_rowsThere_L4  n x1 x2 M = some oo → ch_Wd D I 13 (ch_FM I sh) sh s A M H locs → lv_has ls 3 [(0, .ref (sh 0)), (1, .int x1), (2, .int x2)] → W p l e rm_X7_rowsThere s m args below meth c H locs 0 0 Q (F0 m 4 ls []) := by
  induction n with
  | zero => intro x1 x2 M H locs ls  h; cases h
  | succ n ih =>
    intro x1 x2 M H locs ls  h hw hl
    exact t_X7_rowsThere_4 S fin ih h hw hl
set_option maxHeartbeats 4000000 in
set_option maxRecDepth 100000 in
theorem t_X7_rowsThere_0 {p : Program} {l : Launch} {e : Env} {s : State} {m : MethodId} {args : Array Value} {below : List Frame} {meth : Method} {c : Code} {Q : State → Prop} {D : va_G} {I : ch_Id} {sh : Nat → Nat} {A : Nat → Prop} {oo : Int32 × ch_Mem}     (S : CallFix p m c cX7_rowsThere 3 s args wsX7_rowsThere RX7) (fin : ch_FinI p l e rm_X7_rowsThere s m args below meth c cX7_rowsThere Q D I 13 (ch_FM I sh) sh A oo)    {M : ch_Mem} {H : Heap} {locs : List Loc} {ls : Array Slot} (h : D_X7_rowsThere  M = some oo) (hw : ch_Wd D I 13 (ch_FM I sh) sh s A M H locs) (hl : lv_has ls 3 [(0, .ref (sh 0))]) : W p l e rm_X7_rowsThere s m args below meth c H locs 0 0 Q (F0 m 0 ls []) := by
  obtain ⟨hx, hb, hml, hown, hts⟩ := id S
  unfold D_X7_rowsThere at h
  refine lv_iconst (v := (0 : Int32)) hx hb dX7_rowsThere_0 (by decide) ?_
  refine lv_istore_n (lv' := [(1, .int (0 : Int32)), (0, .ref (sh 0))]) hx hb dX7_rowsThere_1 rfl hl (by decide) rfl (fun ls hl => ?_)
  refine lv_iconst (v := (0 : Int32)) hx hb dX7_rowsThere_2 (by decide) ?_
  refine lv_istore_n (lv' := [(2, .int (0 : Int32)), (1, .int (0 : Int32)), (0, .ref (sh 0))]) hx hb dX7_rowsThere_3 rfl hl (by decide) rfl (fun ls hl => ?_)
  exact tl_X7_rowsThere_4 S fin ch_fu _ _ _ _ _ _ h hw (lv_sub hl [2, 1, 0] rfl)
set_option maxHeartbeats 4000000 in
set_option maxRecDepth 100000 in
theorem c_X7_rowsThere (l : Launch) (D : va_G) (I : ch_Id) (sh : Nat → Nat) (sz : Nat) (M : ch_Mem)   {r : Int32} {M1 : ch_Mem} (h : D_X7_rowsThere  M = some (r, M1)) : Met l yX7_rowsThere wsX7_rowsThere rm_X7_rowsThere (va_Pc [.ref (sh 0)] (ch_Pre D I 13 (ch_FM I sh) sh sz M)) (va_Qi (fun r' (u : ch_Mem) => r' = r ∧ u = M1) (ch_Pos D 13 (ch_FM I sh) sh) (ch_A 13 sh sz)) 0 0 (ch_A 13 sh sz) := by
  refine Met.ofW (cc := cX7_rowsThere) (maxL := 3) (ret := (some .int)) (by decide) rfl ?_
  intro p e s m args below meth c s₁ B hml hv0
  obtain ⟨rfl, hv0⟩ := hv0
  obtain rfl : s.heap.size = sz := hv0.1
  have hw := ch_start hv0
  have S : CallFix p m c cX7_rowsThere 3 s _ wsX7_rowsThere RX7 := ⟨B.exec, B.bytes, hml, findClass_of_methodNamed B.named, atoms_spec (ws := wsX7_rowsThere) B.pre⟩
  have hl := lv_entry ([.ref (sh 0)]) (n := 3) (Nat.le_of_ble_eq_true rfl)
  rw [lg_entry_eq]
  generalize (lg_sl ([.ref (sh 0)]) ++ List.replicate (3 - (lg_sl ([.ref (sh 0)])).length) Slot.unset).toArray = ls at hl ⊢
  exact t_X7_rowsThere_0 S (ch_finI (B := fun _ => True) B.exec B.bytes B.returns B.notSynchronized) h hw (lv_sub hl [0] rfl)
set_option maxHeartbeats 4000000 in
set_option maxRecDepth 100000 in
theorem t_X7_count_0 {p : Program} {l : Launch} {e : Env} {s : State} {m : MethodId} {args : Array Value} {below : List Frame} {meth : Method} {c : Code} {Q : State → Prop} {D : va_G} {I : ch_Id} {sh : Nat → Nat} {A : Nat → Prop} {oo : Int32 × ch_Mem}     (S : CallFix p m c cX7_count 2 s args wsX7_count RX7) (fin : ch_FinI p l e rm_X7_count s m args below meth c cX7_count Q D I 13 (ch_FM I sh) sh A oo)  {x1 : Int32}  {M : ch_Mem} {H : Heap} {locs : List Loc} {ls : Array Slot} (h : D_X7_count x1 M = some oo) (hw : ch_Wd D I 13 (ch_FM I sh) sh s A M H locs) (hl : lv_has ls 2 [(0, .ref (sh 0)), (1, .int x1)]) : W p l e rm_X7_count s m args below meth c H locs 0 0 Q (F0 m 0 ls []) := by
  obtain ⟨hx, hb, hml, hown, hts⟩ := id S
  unfold D_X7_count at h
  refine lv_iload_n hx hb dX7_count_0 rfl (lv_at hl 1 rfl) ?_
  refine ch_if_k h (fun hq0 h => ?_) (fun hq0 h => ?_)
  · refine lv_tableIn (off := 35) (tgt := 36) hx hb dX7_count_1 (by rw [hq0]; decide) (by rw [hq0]; decide) (by rw [hq0]; rfl) (by decide) ?_
    refine lv_aload_n hx hb dX7_count_36 rfl (lv_at hl 0 rfl) ?_
    refine ch_bd_k h (fun r1 M2 hc h => ?_)
    refine ch_ci hw (va_runV (As := []) (rest := []) S (c_X7_rowsThere l D I sh H.size M  hc) (cwV 0 hts gX7_count_X7_rowsThere rfl rfl rfl (by decide +kernel) ⟨Nat.le_of_ble_eq_true rfl, Nat.le_of_ble_eq_true rfl⟩) (ch_pV hw (by decide) rfl rfl rfl) rfl rfl hl.1 rfl (lv_room (Nat.le_of_ble_eq_true rfl)) dX7_count_37 ⟨Nat.le_refl 0, Nat.le_refl 0⟩) (fun H locs hw => ?_)
    exact fin _ _ _ _ _ _ h hw dX7_count_40
  · skip
    refine ch_if_k h (fun hq1 h => ?_) (fun hq1 h => ?_)
    · refine lv_tableIn (off := 40) (tgt := 41) hx hb dX7_count_1 (by rw [hq1]; decide) (by rw [hq1]; decide) (by rw [hq1]; rfl) (by decide) ?_
      refine lv_aload_n hx hb dX7_count_41 rfl (lv_at hl 0 rfl) ?_
      refine ch_get S hw 0 (by decide) rfl rfl (by decide +kernel) 10 (by decide) (hts (.fieldLink RX7 134 "CodeHuntModel" "lengths" "I") (by decide +kernel)) rfl dX7_count_42 ?_
      exact fin _ _ _ _ _ _ h hw dX7_count_45
    · skip
      refine ch_if_k h (fun hq2 h => ?_) (fun hq2 h => ?_)
      · refine lv_tableIn (off := 45) (tgt := 46) hx hb dX7_count_1 (by rw [hq2]; decide) (by rw [hq2]; decide) (by rw [hq2]; rfl) (by decide) ?_
        refine lv_aload_n hx hb dX7_count_46 rfl (lv_at hl 0 rfl) ?_
        refine ch_get S hw 0 (by decide) rfl rfl (by decide +kernel) 3 (by decide) (hts (.fieldLink RX7 19 "CodeHuntModel" "doubt" "I") (by decide +kernel)) rfl dX7_count_47 ?_
        exact fin _ _ _ _ _ _ h hw dX7_count_50
      · skip
        refine ch_if_k h (fun hq3 h => ?_) (fun hq3 h => ?_)
        · refine lv_tableIn (off := 50) (tgt := 51) hx hb dX7_count_1 (by rw [hq3]; decide) (by rw [hq3]; decide) (by rw [hq3]; rfl) (by decide) ?_
          refine lv_aload_n hx hb dX7_count_51 rfl (lv_at hl 0 rfl) ?_
          refine ch_get S hw 0 (by decide) rfl rfl (by decide +kernel) 18 (by decide) (hts (.fieldLink RX7 149 "CodeHuntModel" "finding" "I") (by decide +kernel)) rfl dX7_count_52 ?_
          exact fin _ _ _ _ _ _ h hw dX7_count_55
        · skip
          refine ch_if_k h (fun hq4 h => ?_) (fun hq4 h => ?_)
          · refine lv_tableIn (off := 55) (tgt := 56) hx hb dX7_count_1 (by rw [hq4]; decide) (by rw [hq4]; decide) (by rw [hq4]; rfl) (by decide) ?_
            refine lv_aload_n hx hb dX7_count_56 rfl (lv_at hl 0 rfl) ?_
            refine ch_get S hw 0 (by decide) rfl rfl (by decide +kernel) 6 (by decide) (hts (.fieldLink RX7 121 "CodeHuntModel" "times" "I") (by decide +kernel)) rfl dX7_count_57 ?_
            exact fin _ _ _ _ _ _ h hw dX7_count_60
          · skip
            have hn0 : ¬ x1.toInt = 0 := lv_neT hq0 (by decide)
            have hn1 : ¬ x1.toInt = 1 := lv_neT hq1 (by decide)
            have hn2 : ¬ x1.toInt = 2 := lv_neT hq2 (by decide)
            have hn3 : ¬ x1.toInt = 3 := lv_neT hq3 (by decide)
            have hn4 : ¬ x1.toInt = 4 := lv_neT hq4 (by decide)
            refine lv_tableOut (tgt := 61) hx hb dX7_count_1 (by omega) (by decide) ?_
            refine lv_bipush (v := (-2 : Int32)) hx hb dX7_count_61 (by decide) ?_
            exact fin _ _ _ _ _ _ h hw dX7_count_63
set_option maxHeartbeats 4000000 in
set_option maxRecDepth 100000 in
theorem c_X7_count (l : Launch) (D : va_G) (I : ch_Id) (sh : Nat → Nat) (sz : Nat) (M : ch_Mem)  (x1 : Int32) {r : Int32} {M1 : ch_Mem} (h : D_X7_count x1 M = some (r, M1)) : Met l yX7_count wsX7_count rm_X7_count (va_Pc [.ref (sh 0), .int x1] (ch_Pre D I 13 (ch_FM I sh) sh sz M)) (va_Qi (fun r' (u : ch_Mem) => r' = r ∧ u = M1) (ch_Pos D 13 (ch_FM I sh) sh) (ch_A 13 sh sz)) 0 0 (ch_A 13 sh sz) := by
  refine Met.ofW (cc := cX7_count) (maxL := 2) (ret := (some .int)) (by decide) rfl ?_
  intro p e s m args below meth c s₁ B hml hv0
  obtain ⟨rfl, hv0⟩ := hv0
  obtain rfl : s.heap.size = sz := hv0.1
  have hw := ch_start hv0
  have S : CallFix p m c cX7_count 2 s _ wsX7_count RX7 := ⟨B.exec, B.bytes, hml, findClass_of_methodNamed B.named, atoms_spec (ws := wsX7_count) B.pre⟩
  have hl := lv_entry ([.ref (sh 0), .int x1]) (n := 2) (Nat.le_of_ble_eq_true rfl)
  rw [lg_entry_eq]
  generalize (lg_sl ([.ref (sh 0), .int x1]) ++ List.replicate (2 - (lg_sl ([.ref (sh 0), .int x1])).length) Slot.unset).toArray = ls at hl ⊢
  exact t_X7_count_0 S (ch_finI (B := fun _ => True) B.exec B.bytes B.returns B.notSynchronized) h hw (lv_sub hl [0, 1] rfl)
set_option maxHeartbeats 4000000 in
set_option maxRecDepth 100000 in
theorem t_X7_range_45 {p : Program} {l : Launch} {e : Env} {s : State} {m : MethodId} {args : Array Value} {below : List Frame} {meth : Method} {c : Code} {Q : State → Prop} {D : va_G} {I : ch_Id} {sh : Nat → Nat} {A : Nat → Prop} {oo : Int64 × ch_Mem}    {k7 : Int64 → Int64 → Int32 → ch_Mem → Option (Int64 × ch_Mem)} (S : CallFix p m c cX7_range 6 s args wsX7_range RX7) (fin : ch_FinL p l e rm_X7_range s m args below meth c cX7_range Q D I 13 (ch_FM I sh) sh A oo) (hk7 : ∀ (x1 : Int64) (x3 : Int64) (x5 : Int32) (M : ch_Mem) (H : Heap) (locs : List Loc) (ls : Array Slot), k7 x1 x3 x5 M = some oo → ch_Wd D I 13 (ch_FM I sh) sh s A M H locs → lv_has ls 6 [(0, .ref (sh 0)), (1, .long x1), (3, .long x3), (5, .int x5)] → W p l e rm_X7_range s m args below meth c H locs 0 0 Q (F0 m 7 ls [])) {x1 : Int64} {x3 : Int64} {x5 : Int32}  {M : ch_Mem} {H : Heap} {locs : List Loc} {ls : Array Slot} (h : D_X7_range_b45 k7 x1 x3 x5 M = some oo) (hw : ch_Wd D I 13 (ch_FM I sh) sh s A M H locs) (hl : lv_has ls 6 [(0, .ref (sh 0)), (1, .long x1), (3, .long x3), (5, .int x5)]) : W p l e rm_X7_range s m args below meth c H locs 0 0 Q (F0 m 45 ls []) := by
  obtain ⟨hx, hb, hml, hown, hts⟩ := id S
  unfold D_X7_range_b45 at h
  refine lv_lload_n hx hb dX7_range_45 rfl (lv_at hl 2 rfl) ?_
  refine lv_aload_n hx hb dX7_range_46 rfl (lv_at hl 0 rfl) ?_
  refine ch_get S hw 0 (by decide) rfl rfl (by decide +kernel) 11 (by decide) (hts (.fieldLink RX7 29 "CodeHuntModel" "lengthOf" "[I") (by decide +kernel)) rfl dX7_range_47 ?_
  refine lv_iload hx hb dX7_range_50 (lv_at hl 3 rfl) ?_
  refine ch_gd_k h (fun hin h => ?_)
  refine ch_iald S hw 6 (by decide) rfl hin dX7_range_52 ?_
  refine lv_i2l hx hb dX7_range_53 rfl ?_
  refine lv_lmul hx hb dX7_range_54 ?_
  refine lv_lstore_n (lv' := [(3, .long (x3 * ((M.1 6 x5.toNatClampNeg).toInt64))), (0, .ref (sh 0)), (1, .long x1), (5, .int x5)]) hx hb dX7_range_55 rfl hl (by decide) rfl (fun ls hl => ?_)
  refine lv_iinc (v := x5 + (1 : Int32)) (lv' := [(5, .int (x5 + (1 : Int32))), (3, .long (x3 * ((M.1 6 x5.toNatClampNeg).toInt64))), (0, .ref (sh 0)), (1, .long x1)]) hx hb dX7_range_56 hl (k := 3) rfl rfl (by decide) rfl (fun ls hl => ?_)
  refine lv_goto (tgt := 7) hx hb dX7_range_59 (by decide) ?_
  exact hk7 _ _ _ _ _ _ _  h hw (lv_sub hl [2, 3, 1, 0] rfl)
set_option maxHeartbeats 4000000 in
set_option maxRecDepth 100000 in
theorem t_X7_range_16 {p : Program} {l : Launch} {e : Env} {s : State} {m : MethodId} {args : Array Value} {below : List Frame} {meth : Method} {c : Code} {Q : State → Prop} {D : va_G} {I : ch_Id} {sh : Nat → Nat} {A : Nat → Prop} {oo : Int64 × ch_Mem}    {k7 : Int64 → Int64 → Int32 → ch_Mem → Option (Int64 × ch_Mem)} {k16 : Int64 → Int64 → Int32 → ch_Mem → Option (Int64 × ch_Mem)} (S : CallFix p m c cX7_range 6 s args wsX7_range RX7) (fin : ch_FinL p l e rm_X7_range s m args below meth c cX7_range Q D I 13 (ch_FM I sh) sh A oo) (hk7 : ∀ (x1 : Int64) (x3 : Int64) (x5 : Int32) (M : ch_Mem) (H : Heap) (locs : List Loc) (ls : Array Slot), k7 x1 x3 x5 M = some oo → ch_Wd D I 13 (ch_FM I sh) sh s A M H locs → lv_has ls 6 [(0, .ref (sh 0)), (1, .long x1), (3, .long x3), (5, .int x5)] → W p l e rm_X7_range s m args below meth c H locs 0 0 Q (F0 m 7 ls [])) (hk16 : ∀ (x1 : Int64) (x3 : Int64) (x5 : Int32) (M : ch_Mem) (H : Heap) (locs : List Loc) (ls : Array Slot), k16 x1 x3 x5 M = some oo → ch_Wd D I 13 (ch_FM I sh) sh s A M H locs → lv_has ls 6 [(0, .ref (sh 0)), (1, .long x1), (3, .long x3), (5, .int x5)] → W p l e rm_X7_range s m args below meth c H locs 0 0 Q (F0 m 16 ls [])) {x1 : Int64} {x3 : Int64} {x5 : Int32}  {M : ch_Mem} {H : Heap} {locs : List Loc} {ls : Array Slot} (h : D_X7_range_b16 k7 k16 x1 x3 x5 M = some oo) (hw : ch_Wd D I 13 (ch_FM I sh) sh s A M H locs) (hl : lv_has ls 6 [(0, .ref (sh 0)), (1, .long x1), (3, .long x3), (5, .int x5)]) : W p l e rm_X7_range s m args below meth c H locs 0 0 Q (F0 m 16 ls []) := by
  obtain ⟨hx, hb, hml, hown, hts⟩ := id S
  unfold D_X7_range_b16 at h
  refine lv_lload_n hx hb dX7_range_16 rfl (lv_at hl 1 rfl) ?_
  refine lv_aload_n hx hb dX7_range_17 rfl (lv_at hl 0 rfl) ?_
  refine ch_get S hw 0 (by decide) rfl rfl (by decide +kernel) 11 (by decide) (hts (.fieldLink RX7 29 "CodeHuntModel" "lengthOf" "[I") (by decide +kernel)) rfl dX7_range_18 ?_
  refine lv_iload hx hb dX7_range_21 (lv_at hl 3 rfl) ?_
  refine ch_gd_k h (fun hin h => ?_)
  refine ch_iald S hw 6 (by decide) rfl hin dX7_range_23 ?_
  refine lv_i2l hx hb dX7_range_24 rfl ?_
  refine ch_g0L_k h (fun hne h => ?_)
  refine lv_lrem hx hb dX7_range_25 hne ?_
  refine lv_aload_n hx hb dX7_range_26 rfl (lv_at hl 0 rfl) ?_
  refine ch_get S hw 0 (by decide) rfl rfl (by decide +kernel) 12 (by decide) (hts (.fieldLink RX7 32 "CodeHuntModel" "shiftOf" "[I") (by decide +kernel)) rfl dX7_range_27 ?_
  refine lv_iload hx hb dX7_range_30 (lv_at hl 3 rfl) ?_
  refine ch_gd_k h (fun hin h => ?_)
  refine ch_iald S hw 7 (by decide) rfl hin dX7_range_32 ?_
  refine lv_i2l hx hb dX7_range_33 rfl ?_
  refine W.lcmp hx hb dX7_range_34 ?_
  refine ch_if_eq (tgt := 45) hx hb dX7_range_35 (by decide) h (fun h => ?_) (fun h => ?_)
  · exact t_X7_range_45 S fin hk7 h hw (lv_sub hl [0, 1, 2, 3] rfl)
  · refine lv_lload_n hx hb dX7_range_38 rfl (lv_at hl 1 rfl) ?_
    refine lv_lload_n hx hb dX7_range_39 rfl (lv_at hl 2 rfl) ?_
    refine lv_ladd hx hb dX7_range_40 ?_
    refine lv_lstore_n (lv' := [(1, .long (x1 + x3)), (0, .ref (sh 0)), (3, .long x3), (5, .int x5)]) hx hb dX7_range_41 rfl hl (by decide) rfl (fun ls hl => ?_)
    refine lv_goto (tgt := 16) hx hb dX7_range_42 (by decide) ?_
    exact hk16 _ _ _ _ _ _ _  h hw (lv_sub hl [1, 0, 2, 3] rfl)
set_option maxHeartbeats 4000000 in
set_option maxRecDepth 100000 in
theorem tl_X7_range_16 {p : Program} {l : Launch} {e : Env} {s : State} {m : MethodId} {args : Array Value} {below : List Frame} {meth : Method} {c : Code} {Q : State → Prop} {D : va_G} {I : ch_Id} {sh : Nat → Nat} {A : Nat → Prop} {oo : Int64 × ch_Mem}    {k7 : Int64 → Int64 → Int32 → ch_Mem → Option (Int64 × ch_Mem)} (S : CallFix p m c cX7_range 6 s args wsX7_range RX7) (fin : ch_FinL p l e rm_X7_range s m args below meth c cX7_range Q D I 13 (ch_FM I sh) sh A oo) (hk7 : ∀ (x1 : Int64) (x3 : Int64) (x5 : Int32) (M : ch_Mem) (H : Heap) (locs : List Loc) (ls : Array Slot), k7 x1 x3 x5 M = some oo → ch_Wd D I 13 (ch_FM I sh) sh s A M H locs → lv_has ls 6 [(0, .ref (sh 0)), (1, .long x1), (3, .long x3), (5, .int x5)] → W p l e rm_X7_range s m args below meth c H locs 0 0 Q (F0 m 7 ls [])) (n : Nat) : ∀ (x1 : Int64) (x3 : Int64) (x5 : Int32) (M : ch_Mem) (H : Heap) (locs : List Loc) (ls : Array Slot), D_X7_range_L16 k7 n x1 x3 x5 M = some oo → ch_Wd D I 13 (ch_FM I sh) sh s A M H locs → lv_has ls 6 [(0, .ref (sh 0)), (1, .long x1), (3, .long x3), (5, .int x5)] → W p l e rm_X7_range s m args below meth c H locs 0 0 Q (F0 m 16 ls []) := by
  induction n with
  | zero => intro x1 x3 x5 M H locs ls  h; cases h
  | succ n ih =>
    intro x1 x3 x5 M H locs ls  h hw hl
    exact t_X7_range_16 S fin hk7 ih h hw hl
set_option maxHeartbeats 4000000 in
set_option maxRecDepth 100000 in
theorem t_X7_range_62 {p : Program} {l : Launch} {e : Env} {s : State} {m : MethodId} {args : Array Value} {below : List Frame} {meth : Method} {c : Code} {Q : State → Prop} {D : va_G} {I : ch_Id} {sh : Nat → Nat} {A : Nat → Prop} {oo : Int64 × ch_Mem}     (S : CallFix p m c cX7_range 6 s args wsX7_range RX7) (fin : ch_FinL p l e rm_X7_range s m args below meth c cX7_range Q D I 13 (ch_FM I sh) sh A oo)  {x1 : Int64}  {M : ch_Mem} {H : Heap} {locs : List Loc} {ls : Array Slot} (h : D_X7_range_b62 x1 M = some oo) (hw : ch_Wd D I 13 (ch_FM I sh) sh s A M H locs) (hl : lv_has ls 6 [(1, .long x1)]) : W p l e rm_X7_range s m args below meth c H locs 0 0 Q (F0 m 62 ls []) := by
  obtain ⟨hx, hb, hml, hown, hts⟩ := id S
  unfold D_X7_range_b62 at h
  refine lv_lload_n hx hb dX7_range_62 rfl (lv_at hl 0 rfl) ?_
  exact fin _ _ _ _ _ _ h hw dX7_range_63
set_option maxHeartbeats 4000000 in
set_option maxRecDepth 100000 in
theorem t_X7_range_7 {p : Program} {l : Launch} {e : Env} {s : State} {m : MethodId} {args : Array Value} {below : List Frame} {meth : Method} {c : Code} {Q : State → Prop} {D : va_G} {I : ch_Id} {sh : Nat → Nat} {A : Nat → Prop} {oo : Int64 × ch_Mem}    {k7 : Int64 → Int64 → Int32 → ch_Mem → Option (Int64 × ch_Mem)} (S : CallFix p m c cX7_range 6 s args wsX7_range RX7) (fin : ch_FinL p l e rm_X7_range s m args below meth c cX7_range Q D I 13 (ch_FM I sh) sh A oo) (hk7 : ∀ (x1 : Int64) (x3 : Int64) (x5 : Int32) (M : ch_Mem) (H : Heap) (locs : List Loc) (ls : Array Slot), k7 x1 x3 x5 M = some oo → ch_Wd D I 13 (ch_FM I sh) sh s A M H locs → lv_has ls 6 [(0, .ref (sh 0)), (1, .long x1), (3, .long x3), (5, .int x5)] → W p l e rm_X7_range s m args below meth c H locs 0 0 Q (F0 m 7 ls [])) {x1 : Int64} {x3 : Int64} {x5 : Int32}  {M : ch_Mem} {H : Heap} {locs : List Loc} {ls : Array Slot} (h : D_X7_range_b7 k7 x1 x3 x5 M = some oo) (hw : ch_Wd D I 13 (ch_FM I sh) sh s A M H locs) (hl : lv_has ls 6 [(0, .ref (sh 0)), (1, .long x1), (3, .long x3), (5, .int x5)]) : W p l e rm_X7_range s m args below meth c H locs 0 0 Q (F0 m 7 ls []) := by
  obtain ⟨hx, hb, hml, hown, hts⟩ := id S
  unfold D_X7_range_b7 at h
  refine lv_iload hx hb dX7_range_7 (lv_at hl 3 rfl) ?_
  refine lv_aload_n hx hb dX7_range_9 rfl (lv_at hl 0 rfl) ?_
  refine ch_get S hw 0 (by decide) rfl rfl (by decide +kernel) 10 (by decide) (hts (.fieldLink RX7 134 "CodeHuntModel" "lengths" "I") (by decide +kernel)) rfl dX7_range_10 ?_
  refine ch_icmp_ge (tgt := 62) hx hb dX7_range_13 (by decide) h (fun h => ?_) (fun h => ?_)
  · exact t_X7_range_62 S fin h hw (lv_sub hl [1] rfl)
  · exact tl_X7_range_16 S fin hk7 ch_fu _ _ _ _ _ _ _ h hw (lv_sub hl [0, 1, 2, 3] rfl)
set_option maxHeartbeats 4000000 in
set_option maxRecDepth 100000 in
theorem tl_X7_range_7 {p : Program} {l : Launch} {e : Env} {s : State} {m : MethodId} {args : Array Value} {below : List Frame} {meth : Method} {c : Code} {Q : State → Prop} {D : va_G} {I : ch_Id} {sh : Nat → Nat} {A : Nat → Prop} {oo : Int64 × ch_Mem}     (S : CallFix p m c cX7_range 6 s args wsX7_range RX7) (fin : ch_FinL p l e rm_X7_range s m args below meth c cX7_range Q D I 13 (ch_FM I sh) sh A oo)  (n : Nat) : ∀ (x1 : Int64) (x3 : Int64) (x5 : Int32) (M : ch_Mem) (H : Heap) (locs : List Loc) (ls : Array Slot), D_X7_range_L7  n x1 x3 x5 M = some oo → ch_Wd D I 13 (ch_FM I sh) sh s A M H locs → lv_has ls 6 [(0, .ref (sh 0)), (1, .long x1), (3, .long x3), (5, .int x5)] → W p l e rm_X7_range s m args below meth c H locs 0 0 Q (F0 m 7 ls []) := by
  induction n with
  | zero => intro x1 x3 x5 M H locs ls  h; cases h
  | succ n ih =>
    intro x1 x3 x5 M H locs ls  h hw hl
    exact t_X7_range_7 S fin ih h hw hl
set_option maxHeartbeats 4000000 in
set_option maxRecDepth 100000 in
theorem t_X7_range_0 {p : Program} {l : Launch} {e : Env} {s : State} {m : MethodId} {args : Array Value} {below : List Frame} {meth : Method} {c : Code} {Q : State → Prop} {D : va_G} {I : ch_Id} {sh : Nat → Nat} {A : Nat → Prop} {oo : Int64 × ch_Mem}     (S : CallFix p m c cX7_range 6 s args wsX7_range RX7) (fin : ch_FinL p l e rm_X7_range s m args below meth c cX7_range Q D I 13 (ch_FM I sh) sh A oo)    {M : ch_Mem} {H : Heap} {locs : List Loc} {ls : Array Slot} (h : D_X7_range  M = some oo) (hw : ch_Wd D I 13 (ch_FM I sh) sh s A M H locs) (hl : lv_has ls 6 [(0, .ref (sh 0))]) : W p l e rm_X7_range s m args below meth c H locs 0 0 Q (F0 m 0 ls []) := by
  obtain ⟨hx, hb, hml, hown, hts⟩ := id S
  unfold D_X7_range at h
  refine lv_lconst (v := (0 : Int64)) hx hb dX7_range_0 (by decide) ?_
  refine lv_lstore_n (lv' := [(1, .long (0 : Int64)), (0, .ref (sh 0))]) hx hb dX7_range_1 rfl hl (by decide) rfl (fun ls hl => ?_)
  refine lv_lconst (v := (1 : Int64)) hx hb dX7_range_2 (by decide) ?_
  refine lv_lstore_n (lv' := [(3, .long (1 : Int64)), (1, .long (0 : Int64)), (0, .ref (sh 0))]) hx hb dX7_range_3 rfl hl (by decide) rfl (fun ls hl => ?_)
  refine lv_iconst (v := (0 : Int32)) hx hb dX7_range_4 (by decide) ?_
  refine lv_istore (lv' := [(5, .int (0 : Int32)), (3, .long (1 : Int64)), (1, .long (0 : Int64)), (0, .ref (sh 0))]) hx hb dX7_range_5 hl (by decide) rfl (fun ls hl => ?_)
  exact tl_X7_range_7 S fin ch_fu _ _ _ _ _ _ _ h hw (lv_sub hl [3, 2, 1, 0] rfl)
set_option maxHeartbeats 4000000 in
set_option maxRecDepth 100000 in
theorem c_X7_range (l : Launch) (D : va_G) (I : ch_Id) (sh : Nat → Nat) (sz : Nat) (M : ch_Mem)   {r : Int64} {M1 : ch_Mem} (h : D_X7_range  M = some (r, M1)) : Met l yX7_range wsX7_range rm_X7_range (va_Pc [.ref (sh 0)] (ch_Pre D I 13 (ch_FM I sh) sh sz M)) (va_Ql (fun r' (u : ch_Mem) => r' = r ∧ u = M1) (ch_Pos D 13 (ch_FM I sh) sh) (ch_A 13 sh sz)) 0 0 (ch_A 13 sh sz) := by
  refine Met.ofW (cc := cX7_range) (maxL := 6) (ret := (some .long)) (by decide) rfl ?_
  intro p e s m args below meth c s₁ B hml hv0
  obtain ⟨rfl, hv0⟩ := hv0
  obtain rfl : s.heap.size = sz := hv0.1
  have hw := ch_start hv0
  have S : CallFix p m c cX7_range 6 s _ wsX7_range RX7 := ⟨B.exec, B.bytes, hml, findClass_of_methodNamed B.named, atoms_spec (ws := wsX7_range) B.pre⟩
  have hl := lv_entry ([.ref (sh 0)]) (n := 6) (Nat.le_of_ble_eq_true rfl)
  rw [lg_entry_eq]
  generalize (lg_sl ([.ref (sh 0)]) ++ List.replicate (6 - (lg_sl ([.ref (sh 0)])).length) Slot.unset).toArray = ls at hl ⊢
  exact t_X7_range_0 S (ch_finL B.exec B.bytes B.returns B.notSynchronized) h hw (lv_sub hl [0] rfl)
