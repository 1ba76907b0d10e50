set_option maxHeartbeats 4000000 in
set_option maxRecDepth 100000 in
theorem t_X7_most_91 {p : Program} {l : Launch} {e : Env} {s : State} {m : MethodId} {args : Array Value} {below : List Frame} {meth : Method} {c : Code} {Q : State → Prop} {D : va_G} {I : ch_Id} {sh : Nat → Nat} {A : Nat → Prop} {oo : Int32 × ch_Mem}    {k43 : Int32 → Int32 → Int32 → Int32 → ch_Mem → Option (Int32 × ch_Mem)} (S : CallFix p m c cX7_most 6 s args wsX7_most RX7) (fin : ch_FinI p l e rm_X7_most s m args below meth c cX7_most Q D I 13 (ch_FM I sh) sh A oo) (hk43 : ∀ (x1 : Int32) (x2 : Int32) (x3 : Int32) (x4 : Int32) (M : ch_Mem) (H : Heap) (locs : List Loc) (ls : Array Slot), k43 x1 x2 x3 x4 M = some oo → ch_Wd D I 13 (ch_FM I sh) sh s A M H locs → lv_has ls 6 [(0, .ref (sh 0)), (1, .int x1), (2, .int x2), (3, .int x3), (4, .int x4)] → W p l e rm_X7_most s m args below meth c H locs 0 0 Q (F0 m 43 ls [])) {x1 : Int32} {x2 : Int32} {x4 : Int32} {y0 : Int32}  {M : ch_Mem} {H : Heap} {locs : List Loc} {ls : Array Slot} (h : D_X7_most_b91 k43 x1 x2 x4 y0 M = some oo) (hw : ch_Wd D I 13 (ch_FM I sh) sh s A M H locs) (hl : lv_has ls 6 [(0, .ref (sh 0)), (1, .int x1), (2, .int x2), (4, .int x4)]) : W p l e rm_X7_most s m args below meth c H locs 0 0 Q (F0 m 91 ls [.int y0]) := by
  obtain ⟨hx, hb, hml, hown, hts⟩ := id S
  unfold D_X7_most_b91 at h
  refine lv_istore_n (lv' := [(3, .int y0), (0, .ref (sh 0)), (1, .int x1), (2, .int x2), (4, .int x4)]) hx hb dX7_most_91 rfl hl (by decide) rfl (fun ls hl => ?_)
  refine lv_iinc (v := x4 + (1 : Int32)) (lv' := [(4, .int (x4 + (1 : Int32))), (3, .int y0), (0, .ref (sh 0)), (1, .int x1), (2, .int x2)]) hx hb dX7_most_92 hl (k := 4) rfl rfl (by decide) rfl (fun ls hl => ?_)
  refine lv_goto (tgt := 43) hx hb dX7_most_95 (by decide) ?_
  exact hk43 _ _ _ _ _ _ _ _  h hw (lv_sub hl [2, 3, 4, 1, 0] rfl)
set_option maxHeartbeats 4000000 in
set_option maxRecDepth 100000 in
theorem t_X7_most_77 {p : Program} {l : Launch} {e : Env} {s : State} {m : MethodId} {args : Array Value} {below : List Frame} {meth : Method} {c : Code} {Q : State → Prop} {D : va_G} {I : ch_Id} {sh : Nat → Nat} {A : Nat → Prop} {oo : Int32 × ch_Mem}    {k43 : Int32 → Int32 → Int32 → Int32 → ch_Mem → Option (Int32 × ch_Mem)} (S : CallFix p m c cX7_most 6 s args wsX7_most RX7) (fin : ch_FinI p l e rm_X7_most s m args below meth c cX7_most Q D I 13 (ch_FM I sh) sh A oo) (hk43 : ∀ (x1 : Int32) (x2 : Int32) (x3 : Int32) (x4 : Int32) (M : ch_Mem) (H : Heap) (locs : List Loc) (ls : Array Slot), k43 x1 x2 x3 x4 M = some oo → ch_Wd D I 13 (ch_FM I sh) sh s A M H locs → lv_has ls 6 [(0, .ref (sh 0)), (1, .int x1), (2, .int x2), (3, .int x3), (4, .int x4)] → W p l e rm_X7_most s m args below meth c H locs 0 0 Q (F0 m 43 ls [])) {x1 : Int32} {x2 : Int32} {x3 : Int32} {x4 : Int32} {y0 : Int32}  {M : ch_Mem} {H : Heap} {locs : List Loc} {ls : Array Slot} (h : D_X7_most_b77 k43 x1 x2 x3 x4 y0 M = some oo) (hw : ch_Wd D I 13 (ch_FM I sh) sh s A M H locs) (hl : lv_has ls 6 [(0, .ref (sh 0)), (1, .int x1), (2, .int x2), (3, .int x3), (4, .int x4)]) : W p l e rm_X7_most s m args below meth c H locs 0 0 Q (F0 m 77 ls [.int y0]) := by
  obtain ⟨hx, hb, hml, hown, hts⟩ := id S
  unfold D_X7_most_b77 at h
  refine lv_istore (lv' := [(5, .int y0), (0, .ref (sh 0)), (1, .int x1), (2, .int x2), (3, .int x3), (4, .int x4)]) hx hb dX7_most_77 hl (by decide) rfl (fun ls hl => ?_)
  refine lv_iload hx hb dX7_most_79 (lv_at hl 0 rfl) ?_
  refine lv_iload_n hx hb dX7_most_81 rfl (lv_at hl 4 rfl) ?_
  refine ch_icmp_le (tgt := 90) hx hb dX7_most_82 (by decide) h (fun h => ?_) (fun h => ?_)
  · refine lv_iload_n hx hb dX7_most_90 rfl (lv_at hl 4 rfl) ?_
    exact t_X7_most_91 S fin hk43 h hw (lv_sub hl [1, 2, 3, 5] rfl)
  · refine lv_iload hx hb dX7_most_85 (lv_at hl 0 rfl) ?_
    refine lv_goto (tgt := 91) hx hb dX7_most_87 (by decide) ?_
    exact t_X7_most_91 S fin hk43 h hw (lv_sub hl [1, 2, 3, 5] rfl)
set_option maxHeartbeats 4000000 in
set_option maxRecDepth 100000 in
theorem t_X7_most_98 {p : Program} {l : Launch} {e : Env} {s : State} {m : MethodId} {args : Array Value} {below : List Frame} {meth : Method} {c : Code} {Q : State → Prop} {D : va_G} {I : ch_Id} {sh : Nat → Nat} {A : Nat → Prop} {oo : Int32 × ch_Mem}     (S : CallFix p m c cX7_most 6 s args wsX7_most RX7) (fin : ch_FinI p l e rm_X7_most s m args below meth c cX7_most Q D I 13 (ch_FM I sh) sh A oo)  {x3 : Int32}  {M : ch_Mem} {H : Heap} {locs : List Loc} {ls : Array Slot} (h : D_X7_most_b98 x3 M = some oo) (hw : ch_Wd D I 13 (ch_FM I sh) sh s A M H locs) (hl : lv_has ls 6 [(3, .int x3)]) : W p l e rm_X7_most s m args below meth c H locs 0 0 Q (F0 m 98 ls []) := by
  obtain ⟨hx, hb, hml, hown, hts⟩ := id S
  unfold D_X7_most_b98 at h
  refine lv_iload_n hx hb dX7_most_98 rfl (lv_at hl 0 rfl) ?_
  exact fin _ _ _ _ _ _ h hw dX7_most_99
set_option maxHeartbeats 4000000 in
set_option maxRecDepth 100000 in
theorem t_X7_most_43 {p : Program} {l : Launch} {e : Env} {s : State} {m : MethodId} {args : Array Value} {below : List Frame} {meth : Method} {c : Code} {Q : State → Prop} {D : va_G} {I : ch_Id} {sh : Nat → Nat} {A : Nat → Prop} {oo : Int32 × ch_Mem}    {k43 : Int32 → Int32 → Int32 → Int32 → ch_Mem → Option (Int32 × ch_Mem)} (S : CallFix p m c cX7_most 6 s args wsX7_most RX7) (fin : ch_FinI p l e rm_X7_most s m args below meth c cX7_most Q D I 13 (ch_FM I sh) sh A oo) (hk43 : ∀ (x1 : Int32) (x2 : Int32) (x3 : Int32) (x4 : Int32) (M : ch_Mem) (H : Heap) (locs : List Loc) (ls : Array Slot), k43 x1 x2 x3 x4 M = some oo → ch_Wd D I 13 (ch_FM I sh) sh s A M H locs → lv_has ls 6 [(0, .ref (sh 0)), (1, .int x1), (2, .int x2), (3, .int x3), (4, .int x4)] → W p l e rm_X7_most s m args below meth c H locs 0 0 Q (F0 m 43 ls [])) {x1 : Int32} {x2 : Int32} {x3 : Int32} {x4 : Int32}  {M : ch_Mem} {H : Heap} {locs : List Loc} {ls : Array Slot} (h : D_X7_most_b43 k43 x1 x2 x3 x4 M = some oo) (hw : ch_Wd D I 13 (ch_FM I sh) sh s A M H locs) (hl : lv_has ls 6 [(0, .ref (sh 0)), (1, .int x1), (2, .int x2), (3, .int x3), (4, .int x4)]) : W p l e rm_X7_most s m args below meth c H locs 0 0 Q (F0 m 43 ls []) := by
  obtain ⟨hx, hb, hml, hown, hts⟩ := id S
  unfold D_X7_most_b43 at h
  refine lv_iload hx hb dX7_most_43 (lv_at hl 4 rfl) ?_
  refine lv_aload_n hx hb dX7_most_45 rfl (lv_at hl 0 rfl) ?_
  refine ch_get S hw 0 (by decide) rfl rfl (by decide +kernel) 0 (by decide) (hts (.fieldLink RX7 7 "CodeHuntModel" "sizesOf" "[I") (by decide +kernel)) rfl dX7_most_46 ?_
  refine lv_iload_n hx hb dX7_most_49 rfl (lv_at hl 1 rfl) ?_
  refine ch_gd_k h (fun hin h => ?_)
  refine ch_iald S hw 1 (by decide) rfl hin dX7_most_50 ?_
  refine ch_icmp_ge (tgt := 98) hx hb dX7_most_51 (by decide) h (fun h => ?_) (fun h => ?_)
  · exact t_X7_most_98 S fin h hw (lv_sub hl [3] rfl)
  · refine lv_aload_n hx hb dX7_most_54 rfl (lv_at hl 0 rfl) ?_
    refine lv_iload_n hx hb dX7_most_55 rfl (lv_at hl 1 rfl) ?_
    refine lv_iload_n hx hb dX7_most_56 rfl (lv_at hl 2 rfl) ?_
    refine lv_iload hx hb dX7_most_57 (lv_at hl 4 rfl) ?_
    refine ch_bd_k h (fun r1 M2 hc h => ?_)
    refine ch_ci hw (va_runV (As := [.int x1, .int x2, .int x4]) (rest := []) S (c_X7_likeness l D I sh H.size M x1 x2 x4 hc) (cwV 3 hts gX7_most_X7_likeness rfl rfl rfl (by decide +kernel) ⟨Nat.le_of_ble_eq_true rfl, Nat.le_of_ble_eq_true rfl⟩) (ch_pV hw (by decide) rfl rfl rfl) rfl rfl hl.1 rfl (lv_room (Nat.le_of_ble_eq_true rfl)) dX7_most_59 ⟨Nat.le_refl 0, Nat.le_refl 0⟩) (fun H locs hw => ?_)
    refine lv_istore (lv' := [(5, .int r1), (0, .ref (sh 0)), (1, .int x1), (2, .int x2), (3, .int x3), (4, .int x4)]) hx hb dX7_most_62 hl (by decide) rfl (fun ls hl => ?_)
    refine lv_iload hx hb dX7_most_64 (lv_at hl 0 rfl) ?_
    refine ch_if_ge (tgt := 75) hx hb dX7_most_66 (by decide) h (fun h => ?_) (fun h => ?_)
    · refine lv_iload hx hb dX7_most_75 (lv_at hl 0 rfl) ?_
      exact t_X7_most_77 S fin hk43 h hw (lv_sub hl [1, 2, 3, 4, 5] rfl)
    · refine lv_iload hx hb dX7_most_69 (lv_at hl 0 rfl) ?_
      refine lv_ineg hx hb dX7_most_71 ?_
      refine lv_goto (tgt := 77) hx hb dX7_most_72 (by decide) ?_
      exact t_X7_most_77 S fin hk43 h hw (lv_sub hl [1, 2, 3, 4, 5] rfl)
set_option maxHeartbeats 4000000 in
set_option maxRecDepth 100000 in
theorem tl_X7_most_43 {p : Program} {l : Launch} {e : Env} {s : State} {m : MethodId} {args : Array Value} {below : List Frame} {meth : Method} {c : Code} {Q : State → Prop} {D : va_G} {I : ch_Id} {sh : Nat → Nat} {A : Nat → Prop} {oo : Int32 × ch_Mem}     (S : CallFix p m c cX7_most 6 s args wsX7_most RX7) (fin : ch_FinI p l e rm_X7_most s m args below meth c cX7_most Q D I 13 (ch_FM I sh) sh A oo)  (n : Nat) : ∀ (x1 : Int32) (x2 : Int32) (x3 : Int32) (x4 : Int32) (M : ch_Mem) (H : Heap) (locs : List Loc) (ls : Array Slot), D_X7_most_L43  n x1 x2 x3 x4 M = some oo → ch_Wd D I 13 (ch_FM I sh) sh s A M H locs → lv_has ls 6 [(0, .ref (sh 0)), (1, .int x1), (2, .int x2), (3, .int x3), (4, .int x4)] → W p l e rm_X7_most s m args below meth c H locs 0 0 Q (F0 m 43 ls []) := by
  induction n with
  | zero => intro x1 x2 x3 x4 M H locs ls  h; cases h
  | succ n ih =>
    intro x1 x2 x3 x4 M H locs ls  h hw hl
    exact t_X7_most_43 S fin ih h hw hl
set_option maxHeartbeats 4000000 in
set_option maxRecDepth 100000 in
theorem t_X7_most_41 {p : Program} {l : Launch} {e : Env} {s : State} {m : MethodId} {args : Array Value} {below : List Frame} {meth : Method} {c : Code} {Q : State → Prop} {D : va_G} {I : ch_Id} {sh : Nat → Nat} {A : Nat → Prop} {oo : Int32 × ch_Mem}     (S : CallFix p m c cX7_most 6 s args wsX7_most RX7) (fin : ch_FinI p l e rm_X7_most s m args below meth c cX7_most Q D I 13 (ch_FM I sh) sh A oo)  {x1 : Int32} {x2 : Int32} {x3 : Int32} {y0 : Int32}  {M : ch_Mem} {H : Heap} {locs : List Loc} {ls : Array Slot} (h : D_X7_most_b41 x1 x2 x3 y0 M = some oo) (hw : ch_Wd D I 13 (ch_FM I sh) sh s A M H locs) (hl : lv_has ls 6 [(0, .ref (sh 0)), (1, .int x1), (2, .int x2), (3, .int x3)]) : W p l e rm_X7_most s m args below meth c H locs 0 0 Q (F0 m 41 ls [.int y0]) := by
  obtain ⟨hx, hb, hml, hown, hts⟩ := id S
  unfold D_X7_most_b41 at h
  refine lv_istore (lv' := [(4, .int y0), (0, .ref (sh 0)), (1, .int x1), (2, .int x2), (3, .int x3)]) hx hb dX7_most_41 hl (by decide) rfl (fun ls hl => ?_)
  exact tl_X7_most_43 S fin ch_fu _ _ _ _ _ _ _ _ h hw (lv_sub hl [1, 2, 3, 4, 0] rfl)
set_option maxHeartbeats 4000000 in
set_option maxRecDepth 100000 in
theorem t_X7_most_0 {p : Program} {l : Launch} {e : Env} {s : State} {m : MethodId} {args : Array Value} {below : List Frame} {meth : Method} {c : Code} {Q : State → Prop} {D : va_G} {I : ch_Id} {sh : Nat → Nat} {A : Nat → Prop} {oo : Int32 × ch_Mem}     (S : CallFix p m c cX7_most 6 s args wsX7_most RX7) (fin : ch_FinI p l e rm_X7_most s m args below meth c cX7_most Q D I 13 (ch_FM I sh) sh A oo)  {x1 : Int32} {x2 : Int32}  {M : ch_Mem} {H : Heap} {locs : List Loc} {ls : Array Slot} (h : D_X7_most x1 x2 M = some oo) (hw : ch_Wd D I 13 (ch_FM I sh) sh s A M H locs) (hl : lv_has ls 6 [(0, .ref (sh 0)), (1, .int x1), (2, .int x2)]) : W p l e rm_X7_most s m args below meth c H locs 0 0 Q (F0 m 0 ls []) := by
  obtain ⟨hx, hb, hml, hown, hts⟩ := id S
  unfold D_X7_most at h
  refine lv_iload_n hx hb dX7_most_0 rfl (lv_at hl 1 rfl) ?_
  refine ch_bd_k h (fun r1 M2 hc h => ?_)
  refine ch_ci hw (va_runS (As := [.int x1]) (rest := []) S (c_X7_isRow l D I sh H.size M x1 hc) (va_cwS 1 hts gX7_most_X7_isRow rfl rfl rfl (by decide +kernel) ⟨Nat.le_of_ble_eq_true rfl, Nat.le_of_ble_eq_true rfl⟩) (ch_pS hw) rfl rfl hl.1 rfl (lv_room (Nat.le_of_ble_eq_true rfl)) dX7_most_1 ⟨Nat.le_refl 0, Nat.le_refl 0⟩) (fun H locs hw => ?_)
  refine ch_if_eq (tgt := 14) hx hb dX7_most_4 (by decide) h (fun h => ?_) (fun h => ?_)
  · refine lv_bipush (v := (-2 : Int32)) hx hb dX7_most_14 (by decide) ?_
    exact fin _ _ _ _ _ _ h hw dX7_most_16
  · refine lv_iload_n hx hb dX7_most_7 rfl (lv_at hl 2 rfl) ?_
    refine ch_bd_k h (fun r3 M4 hc h => ?_)
    refine ch_ci hw (va_runS (As := [.int x2]) (rest := []) S (c_X7_isRow l D I sh H.size M2 x2 hc) (va_cwS 1 hts gX7_most_X7_isRow rfl rfl rfl (by decide +kernel) ⟨Nat.le_of_ble_eq_true rfl, Nat.le_of_ble_eq_true rfl⟩) (ch_pS hw) rfl rfl hl.1 rfl (lv_room (Nat.le_of_ble_eq_true rfl)) dX7_most_8 ⟨Nat.le_refl 0, Nat.le_refl 0⟩) (fun H locs hw => ?_)
    refine ch_if_ne (tgt := 17) hx hb dX7_most_11 (by decide) h (fun h => ?_) (fun h => ?_)
    · refine lv_aload_n hx hb dX7_most_17 rfl (lv_at hl 0 rfl) ?_
      refine lv_iload_n hx hb dX7_most_18 rfl (lv_at hl 1 rfl) ?_
      refine lv_iload_n hx hb dX7_most_19 rfl (lv_at hl 2 rfl) ?_
      refine ch_bd_k h (fun r5 M6 hc h => ?_)
      refine ch_ci hw (va_runV (As := [.int x1, .int x2]) (rest := []) S (c_X7_arePair l D I sh H.size M4 x1 x2 hc) (cwV 2 hts gX7_most_X7_arePair rfl rfl rfl (by decide +kernel) ⟨Nat.le_of_ble_eq_true rfl, Nat.le_of_ble_eq_true rfl⟩) (ch_pV hw (by decide) rfl rfl rfl) rfl rfl hl.1 rfl (lv_room (Nat.le_of_ble_eq_true rfl)) dX7_most_20 ⟨Nat.le_refl 0, Nat.le_refl 0⟩) (fun H locs hw => ?_)
      refine ch_if_ne (tgt := 29) hx hb dX7_most_23 (by decide) h (fun h => ?_) (fun h => ?_)
      · refine lv_iconst (v := (0 : Int32)) hx hb dX7_most_29 (by decide) ?_
        refine lv_istore_n (lv' := [(3, .int (0 : Int32)), (0, .ref (sh 0)), (1, .int x1), (2, .int x2)]) hx hb dX7_most_30 rfl hl (by decide) rfl (fun ls hl => ?_)
        refine lv_iload_n hx hb dX7_most_31 rfl (lv_at hl 2 rfl) ?_
        refine lv_iload_n hx hb dX7_most_32 rfl (lv_at hl 3 rfl) ?_
        refine ch_icmp_ne (tgt := 40) hx hb dX7_most_33 (by decide) h (fun h => ?_) (fun h => ?_)
        · refine lv_iconst (v := (0 : Int32)) hx hb dX7_most_40 (by decide) ?_
          exact t_X7_most_41 S fin h hw (lv_sub hl [1, 2, 3, 0] rfl)
        · refine lv_iconst (v := (1 : Int32)) hx hb dX7_most_36 (by decide) ?_
          refine lv_goto (tgt := 41) hx hb dX7_most_37 (by decide) ?_
          exact t_X7_most_41 S fin h hw (lv_sub hl [1, 2, 3, 0] rfl)
      · refine lv_bipush (v := (-3 : Int32)) hx hb dX7_most_26 (by decide) ?_
        exact fin _ _ _ _ _ _ h hw dX7_most_28
    · refine lv_bipush (v := (-2 : Int32)) hx hb dX7_most_14 (by decide) ?_
      exact fin _ _ _ _ _ _ h hw dX7_most_16
set_option maxHeartbeats 4000000 in
set_option maxRecDepth 100000 in
theorem c_X7_most (l : Launch) (D : va_G) (I : ch_Id) (sh : Nat → Nat) (sz : Nat) (M : ch_Mem)  (x1 : Int32) (x2 : Int32) {r : Int32} {M1 : ch_Mem} (h : D_X7_most x1 x2 M = some (r, M1)) : Met l yX7_most wsX7_most rm_X7_most (va_Pc [.ref (sh 0), .int x1, .int x2] (ch_Pre D I 13 (ch_FM I sh) sh sz M)) (va_Qi (fun r' (u : ch_Mem) => r' = r ∧ u = M1) (ch_Pos D 13 (ch_FM I sh) sh) (ch_A 13 sh sz)) 0 0 (ch_A 13 sh sz) := by
  refine Met.ofW (cc := cX7_most) (maxL := 6) (ret := (some .int)) (by decide) rfl ?_
  intro p e s m args below meth c s₁ B hml hv0
  obtain ⟨rfl, hv0⟩ := hv0
  obtain rfl : s.heap.size = sz := hv0.1
  have hw := ch_start hv0
  have S : CallFix p m c cX7_most 6 s _ wsX7_most RX7 := ⟨B.exec, B.bytes, hml, findClass_of_methodNamed B.named, atoms_spec (ws := wsX7_most) B.pre⟩
  have hl := lv_entry ([.ref (sh 0), .int x1, .int x2]) (n := 6) (Nat.le_of_ble_eq_true rfl)
  rw [lg_entry_eq]
  generalize (lg_sl ([.ref (sh 0), .int x1, .int x2]) ++ List.replicate (6 - (lg_sl ([.ref (sh 0), .int x1, .int x2])).length) Slot.unset).toArray = ls at hl ⊢
  exact t_X7_most_0 S (ch_finI (B := fun _ => True) B.exec B.bytes B.returns B.notSynchronized) h hw (lv_sub hl [0, 1, 2] rfl)
set_option maxHeartbeats 4000000 in
set_option maxRecDepth 100000 in
theorem t_X7_noise_0 {p : Program} {l : Launch} {e : Env} {s : State} {m : MethodId} {args : Array Value} {below : List Frame} {meth : Method} {c : Code} {Q : State → Prop} {D : va_G} {I : ch_Id} {sh : Nat → Nat} {A : Nat → Prop} {oo : Int64 × ch_Mem}     (S : CallFix p m c cX7_noise 1 s args wsX7_noise RX7) (fin : ch_FinL p l e rm_X7_noise s m args below meth c cX7_noise Q D I 13 (ch_FM I sh) sh A oo)    {M : ch_Mem} {H : Heap} {locs : List Loc} {ls : Array Slot} (h : D_X7_noise  M = some oo) (hw : ch_Wd D I 13 (ch_FM I sh) sh s A M H locs) (hl : lv_has ls 1 [(0, .ref (sh 0))]) : W p l e rm_X7_noise s m args below meth c H locs 0 0 Q (F0 m 0 ls []) := by
  obtain ⟨hx, hb, hml, hown, hts⟩ := id S
  unfold D_X7_noise at h
  refine lv_aload_n hx hb dX7_noise_0 rfl (lv_at hl 0 rfl) ?_
  refine ch_get S hw 0 (by decide) rfl rfl (by decide +kernel) 9 (by decide) (hts (.fieldLink RX7 127 "CodeHuntModel" "noise" "J") (by decide +kernel)) rfl dX7_noise_1 ?_
  exact fin _ _ _ _ _ _ h hw dX7_noise_4
set_option maxHeartbeats 4000000 in
set_option maxRecDepth 100000 in
theorem c_X7_noise (l : Launch) (D : va_G) (I : ch_Id) (sh : Nat → Nat) (sz : Nat) (M : ch_Mem)   {r : Int64} {M1 : ch_Mem} (h : D_X7_noise  M = some (r, M1)) : Met l yX7_noise wsX7_noise rm_X7_noise (va_Pc [.ref (sh 0)] (ch_Pre D I 13 (ch_FM I sh) sh sz M)) (va_Ql (fun r' (u : ch_Mem) => r' = r ∧ u = M1) (ch_Pos D 13 (ch_FM I sh) sh) (ch_A 13 sh sz)) 0 0 (ch_A 13 sh sz) := by
  refine Met.ofW (cc := cX7_noise) (maxL := 1) (ret := (some .long)) (by decide) rfl ?_
  intro p e s m args below meth c s₁ B hml hv0
  obtain ⟨rfl, hv0⟩ := hv0
  obtain rfl : s.heap.size = sz := hv0.1
  have hw := ch_start hv0
  have S : CallFix p m c cX7_noise 1 s _ wsX7_noise RX7 := ⟨B.exec, B.bytes, hml, findClass_of_methodNamed B.named, atoms_spec (ws := wsX7_noise) B.pre⟩
  have hl := lv_entry ([.ref (sh 0)]) (n := 1) (Nat.le_of_ble_eq_true rfl)
  rw [lg_entry_eq]
  generalize (lg_sl ([.ref (sh 0)]) ++ List.replicate (1 - (lg_sl ([.ref (sh 0)])).length) Slot.unset).toArray = ls at hl ⊢
  exact t_X7_noise_0 S (ch_finL B.exec B.bytes B.returns B.notSynchronized) h hw (lv_sub hl [0] rfl)
set_option maxHeartbeats 4000000 in
set_option maxRecDepth 100000 in
theorem t_X7_takesOff_117 {p : Program} {l : Launch} {e : Env} {s : State} {m : MethodId} {args : Array Value} {below : List Frame} {meth : Method} {c : Code} {Q : State → Prop} {D : va_G} {I : ch_Id} {sh : Nat → Nat} {A : Nat → Prop} {oo : Int32 × ch_Mem}    {k13 : Int32 → Int32 → Int32 → Int32 → Int32 → Int32 → ch_Mem → Option (Int32 × ch_Mem)} {k23 : Int32 → Int32 → Int32 → Int32 → Int32 → Int32 → Int32 → ch_Mem → Option (Int32 × ch_Mem)} (S : CallFix p m c cX7_takesOff 10 s args wsX7_takesOff RX7) (fin : ch_FinZ p l e rm_X7_takesOff s m args below meth c cX7_takesOff Q D I 13 (ch_FM I sh) sh A oo) (hk13 : ∀ (x1 : Int32) (x2 : Int32) (x3 : Int32) (x4 : Int32) (x5 : Int32) (x6 : Int32) (M : ch_Mem) (H : Heap) (locs : List Loc) (ls : Array Slot), k13 x1 x2 x3 x4 x5 x6 M = some oo → ch_Wd D I 13 (ch_FM I sh) sh s A M H locs → lv_has ls 10 [(0, .ref (sh 0)), (1, .int x1), (2, .int x2), (3, .int x3), (4, .int x4), (5, .int x5), (6, .int x6)] → W p l e rm_X7_takesOff s m args below meth c H locs 0 0 Q (F0 m 13 ls [])) (hk23 : ∀ (x1 : Int32) (x2 : Int32) (x3 : Int32) (x4 : Int32) (x5 : Int32) (x6 : Int32) (x7 : Int32) (M : ch_Mem) (H : Heap) (locs : List Loc) (ls : Array Slot), k23 x1 x2 x3 x4 x5 x6 x7 M = some oo → ch_Wd D I 13 (ch_FM I sh) sh s A M H locs → lv_has ls 10 [(0, .ref (sh 0)), (1, .int x1), (2, .int x2), (3, .int x3), (4, .int x4), (5, .int x5), (6, .int x6), (7, .int x7)] → W p l e rm_X7_takesOff s m args below meth c H locs 0 0 Q (F0 m 23 ls [])) {x1 : Int32} {x2 : Int32} {x3 : Int32} {x4 : Int32} {x5 : Int32} {x6 : Int32} {x7 : Int32}  {M : ch_Mem} {H : Heap} {locs : List Loc} {ls : Array Slot} (h : D_X7_takesOff_b117 k13 k23 x1 x2 x3 x4 x5 x6 x7 M = some oo) (hw : ch_Wd D I 13 (ch_FM I sh) sh s A M H locs) (hl : lv_has ls 10 [(0, .ref (sh 0)), (1, .int x1), (2, .int x2), (3, .int x3), (4, .int x4), (5, .int x5), (6, .int x6), (7, .int x7)]) : W p l e rm_X7_takesOff s m args below meth c H locs 0 0 Q (F0 m 117 ls []) := by
  obtain ⟨hx, hb, hml, hown, hts⟩ := id S
  unfold D_X7_takesOff_b117 at h
  refine lv_iinc (v := x7 + (1 : Int32)) (lv' := [(7, .int (x7 + (1 : Int32))), (0, .ref (sh 0)), (1, .int x1), (2, .int x2), (3, .int x3), (4, .int x4), (5, .int x5), (6, .int x6)]) hx hb dX7_takesOff_117 hl (k := 7) rfl rfl (by decide) rfl (fun ls hl => ?_)
  refine lv_goto (tgt := 23) hx hb dX7_takesOff_120 (by decide) ?_
  exact hk23 _ _ _ _ _ _ _ _ _ _ _  h hw (lv_sub hl [1, 2, 3, 4, 5, 6, 7, 0] rfl)
set_option maxHeartbeats 4000000 in
set_option maxRecDepth 100000 in
theorem t_X7_takesOff_95 {p : Program} {l : Launch} {e : Env} {s : State} {m : MethodId} {args : Array Value} {below : List Frame} {meth : Method} {c : Code} {Q : State → Prop} {D : va_G} {I : ch_Id} {sh : Nat → Nat} {A : Nat → Prop} {oo : Int32 × ch_Mem}    {k13 : Int32 → Int32 → Int32 → Int32 → Int32 → Int32 → ch_Mem → Option (Int32 × ch_Mem)} {k23 : Int32 → Int32 → Int32 → Int32 → Int32 → Int32 → Int32 → ch_Mem → Option (Int32 × ch_Mem)} (S : CallFix p m c cX7_takesOff 10 s args wsX7_takesOff RX7) (fin : ch_FinZ p l e rm_X7_takesOff s m args below meth c cX7_takesOff Q D I 13 (ch_FM I sh) sh A oo) (hk13 : ∀ (x1 : Int32) (x2 : Int32) (x3 : Int32) (x4 : Int32) (x5 : Int32) (x6 : Int32) (M : ch_Mem) (H : Heap) (locs : List Loc) (ls : Array Slot), k13 x1 x2 x3 x4 x5 x6 M = some oo → ch_Wd D I 13 (ch_FM I sh) sh s A M H locs → lv_has ls 10 [(0, .ref (sh 0)), (1, .int x1), (2, .int x2), (3, .int x3), (4, .int x4), (5, .int x5), (6, .int x6)] → W p l e rm_X7_takesOff s m args below meth c H locs 0 0 Q (F0 m 13 ls [])) (hk23 : ∀ (x1 : Int32) (x2 : Int32) (x3 : Int32) (x4 : Int32) (x5 : Int32) (x6 : Int32) (x7 : Int32) (M : ch_Mem) (H : Heap) (locs : List Loc) (ls : Array Slot), k23 x1 x2 x3 x4 x5 x6 x7 M = some oo → ch_Wd D I 13 (ch_FM I sh) sh s A M H locs → lv_has ls 10 [(0, .ref (sh 0)), (1, .int x1), (2, .int x2), (3, .int x3), (4, .int x4), (5, .int x5), (6, .int x6), (7, .int x7)] → W p l e rm_X7_takesOff s m args below meth c H locs 0 0 Q (F0 m 23 ls [])) {x1 : Int32} {x2 : Int32} {x3 : Int32} {x4 : Int32} {x5 : Int32} {x6 : Int32} {x7 : Int32} {x8 : Int32} {y0 : Int32}  {M : ch_Mem} {H : Heap} {locs : List Loc} {ls : Array Slot} (h : D_X7_takesOff_b95 k13 k23 x1 x2 x3 x4 x5 x6 x7 x8 y0 M = some oo) (hw : ch_Wd D I 13 (ch_FM I sh) sh s A M H locs) (hl : lv_has ls 10 [(0, .ref (sh 0)), (1, .int x1), (2, .int x2), (3, .int x3), (4, .int x4), (5, .int x5), (6, .int x6), (7, .int x7), (8, .int x8)]) : W p l e rm_X7_takesOff s m args below meth c H locs 0 0 Q (F0 m 95 ls [.int y0]) := by
  obtain ⟨hx, hb, hml, hown, hts⟩ := id S
  unfold D_X7_takesOff_b95 at h
  refine lv_istore (lv' := [(9, .int y0), (0, .ref (sh 0)), (1, .int x1), (2, .int x2), (3, .int x3), (4, .int x4), (5, .int x5), (6, .int x6), (7, .int x7), (8, .int x8)]) hx hb dX7_takesOff_95 hl (by decide) rfl (fun ls hl => ?_)
  refine lv_iload hx hb dX7_takesOff_97 (lv_at hl 0 rfl) ?_
  refine lv_iload_n hx hb dX7_takesOff_99 rfl (lv_at hl 3 rfl) ?_
  refine ch_icmp_le (tgt := 117) hx hb dX7_takesOff_100 (by decide) h (fun h => ?_) (fun h => ?_)
  · exact t_X7_takesOff_117 S fin hk13 hk23 h hw (lv_sub hl [1, 2, 3, 4, 5, 6, 7, 8] rfl)
  · refine lv_iload hx hb dX7_takesOff_103 (lv_at hl 0 rfl) ?_
    refine lv_istore_n (lv' := [(2, .int y0), (9, .int y0), (0, .ref (sh 0)), (1, .int x1), (3, .int x3), (4, .int x4), (5, .int x5), (6, .int x6), (7, .int x7), (8, .int x8)]) hx hb dX7_takesOff_105 rfl hl (by decide) rfl (fun ls hl => ?_)
    refine lv_iload hx hb dX7_takesOff_106 (lv_at hl 7 rfl) ?_
    refine lv_istore_n (lv' := [(3, .int x6), (2, .int y0), (9, .int y0), (0, .ref (sh 0)), (1, .int x1), (4, .int x4), (5, .int x5), (6, .int x6), (7, .int x7), (8, .int x8)]) hx hb dX7_takesOff_108 rfl hl (by decide) rfl (fun ls hl => ?_)
    refine lv_iload hx hb dX7_takesOff_109 (lv_at hl 8 rfl) ?_
    refine lv_istore (lv' := [(4, .int x7), (3, .int x6), (2, .int y0), (9, .int y0), (0, .ref (sh 0)), (1, .int x1), (5, .int x5), (6, .int x6), (7, .int x7), (8, .int x8)]) hx hb dX7_takesOff_111 hl (by decide) rfl (fun ls hl => ?_)
    refine lv_iload hx hb dX7_takesOff_113 (lv_at hl 9 rfl) ?_
    refine lv_istore (lv' := [(5, .int x8), (4, .int x7), (3, .int x6), (2, .int y0), (9, .int y0), (0, .ref (sh 0)), (1, .int x1), (6, .int x6), (7, .int x7), (8, .int x8)]) hx hb dX7_takesOff_115 hl (by decide) rfl (fun ls hl => ?_)
    exact t_X7_takesOff_117 S fin hk13 hk23 h hw (lv_sub hl [5, 6, 3, 2, 1, 0, 7, 8] rfl)
set_option maxHeartbeats 4000000 in
set_option maxRecDepth 100000 in
theorem t_X7_takesOff_82 {p : Program} {l : Launch} {e : Env} {s : State} {m : MethodId} {args : Array Value} {below : List Frame} {meth : Method} {c : Code} {Q : State → Prop} {D : va_G} {I : ch_Id} {sh : Nat → Nat} {A : Nat → Prop} {oo : Int32 × ch_Mem}    {k13 : Int32 → Int32 → Int32 → Int32 → Int32 → Int32 → ch_Mem → Option (Int32 × ch_Mem)} {k23 : Int32 → Int32 → Int32 → Int32 → Int32 → Int32 → Int32 → ch_Mem → Option (Int32 × ch_Mem)} (S : CallFix p m c cX7_takesOff 10 s args wsX7_takesOff RX7) (fin : ch_FinZ p l e rm_X7_takesOff s m args below meth c cX7_takesOff Q D I 13 (ch_FM I sh) sh A oo) (hk13 : ∀ (x1 : Int32) (x2 : Int32) (x3 : Int32) (x4 : Int32) (x5 : Int32) (x6 : Int32) (M : ch_Mem) (H : Heap) (locs : List Loc) (ls : Array Slot), k13 x1 x2 x3 x4 x5 x6 M = some oo → ch_Wd D I 13 (ch_FM I sh) sh s A M H locs → lv_has ls 10 [(0, .ref (sh 0)), (1, .int x1), (2, .int x2), (3, .int x3), (4, .int x4), (5, .int x5), (6, .int x6)] → W p l e rm_X7_takesOff s m args below meth c H locs 0 0 Q (F0 m 13 ls [])) (hk23 : ∀ (x1 : Int32) (x2 : Int32) (x3 : Int32) (x4 : Int32) (x5 : Int32) (x6 : Int32) (x7 : Int32) (M : ch_Mem) (H : Heap) (locs : List Loc) (ls : Array Slot), k23 x1 x2 x3 x4 x5 x6 x7 M = some oo → ch_Wd D I 13 (ch_FM I sh) sh s A M H locs → lv_has ls 10 [(0, .ref (sh 0)), (1, .int x1), (2, .int x2), (3, .int x3), (4, .int x4), (5, .int x5), (6, .int x6), (7, .int x7)] → W p l e rm_X7_takesOff s m args below meth c H locs 0 0 Q (F0 m 23 ls [])) {x1 : Int32} {x2 : Int32} {x3 : Int32} {x4 : Int32} {x5 : Int32} {x6 : Int32} {x7 : Int32} {x8 : Int32}  {M : ch_Mem} {H : Heap} {locs : List Loc} {ls : Array Slot} (h : D_X7_takesOff_b82 k13 k23 x1 x2 x3 x4 x5 x6 x7 x8 M = some oo) (hw : ch_Wd D I 13 (ch_FM I sh) sh s A M H locs) (hl : lv_has ls 10 [(0, .ref (sh 0)), (1, .int x1), (2, .int x2), (3, .int x3), (4, .int x4), (5, .int x5), (6, .int x6), (7, .int x7), (8, .int x8)]) : W p l e rm_X7_takesOff s m args below meth c H locs 0 0 Q (F0 m 82 ls []) := by
  obtain ⟨hx, hb, hml, hown, hts⟩ := id S
  unfold D_X7_takesOff_b82 at h
  refine lv_iload hx hb dX7_takesOff_82 (lv_at hl 8 rfl) ?_
  refine ch_if_ge (tgt := 93) hx hb dX7_takesOff_84 (by decide) h (fun h => ?_) (fun h => ?_)
  · refine lv_iload hx hb dX7_takesOff_93 (lv_at hl 8 rfl) ?_
    exact t_X7_takesOff_95 S fin hk13 hk23 h hw (lv_sub hl [0, 1, 2, 3, 4, 5, 6, 7, 8] rfl)
  · refine lv_iload hx hb dX7_takesOff_87 (lv_at hl 8 rfl) ?_
    refine lv_ineg hx hb dX7_takesOff_89 ?_
    refine lv_goto (tgt := 95) hx hb dX7_takesOff_90 (by decide) ?_
    exact t_X7_takesOff_95 S fin hk13 hk23 h hw (lv_sub hl [0, 1, 2, 3, 4, 5, 6, 7, 8] rfl)
set_option maxHeartbeats 4000000 in
set_option maxRecDepth 100000 in
theorem t_X7_takesOff_46 {p : Program} {l : Launch} {e : Env} {s : State} {m : MethodId} {args : Array Value} {below : List Frame} {meth : Method} {c : Code} {Q : State → Prop} {D : va_G} {I : ch_Id} {sh : Nat → Nat} {A : Nat → Prop} {oo : Int32 × ch_Mem}    {k13 : Int32 → Int32 → Int32 → Int32 → Int32 → Int32 → ch_Mem → Option (Int32 × ch_Mem)} {k23 : Int32 → Int32 → Int32 → Int32 → Int32 → Int32 → Int32 → ch_Mem → Option (Int32 × ch_Mem)} {k46 : Int32 → Int32 → Int32 → Int32 → Int32 → Int32 → Int32 → Int32 → Int32 → ch_Mem → Option (Int32 × ch_Mem)} (S : CallFix p m c cX7_takesOff 10 s args wsX7_takesOff RX7) (fin : ch_FinZ p l e rm_X7_takesOff s m args below meth c cX7_takesOff Q D I 13 (ch_FM I sh) sh A oo) (hk13 : ∀ (x1 : Int32) (x2 : Int32) (x3 : Int32) (x4 : Int32) (x5 : Int32) (x6 : Int32) (M : ch_Mem) (H : Heap) (locs : List Loc) (ls : Array Slot), k13 x1 x2 x3 x4 x5 x6 M = some oo → ch_Wd D I 13 (ch_FM I sh) sh s A M H locs → lv_has ls 10 [(0, .ref (sh 0)), (1, .int x1), (2, .int x2), (3, .int x3), (4, .int x4), (5, .int x5), (6, .int x6)] → W p l e rm_X7_takesOff s m args below meth c H locs 0 0 Q (F0 m 13 ls [])) (hk23 : ∀ (x1 : Int32) (x2 : Int32) (x3 : Int32) (x4 : Int32) (x5 : Int32) (x6 : Int32) (x7 : Int32) (M : ch_Mem) (H : Heap) (locs : List Loc) (ls : Array Slot), k23 x1 x2 x3 x4 x5 x6 x7 M = some oo → ch_Wd D I 13 (ch_FM I sh) sh s A M H locs → lv_has ls 10 [(0, .ref (sh 0)), (1, .int x1), (2, .int x2), (3, .int x3), (4, .int x4), (5, .int x5), (6, .int x6), (7, .int x7)] → W p l e rm_X7_takesOff s m args below meth c H locs 0 0 Q (F0 m 23 ls [])) (hk46 : ∀ (x1 : Int32) (x2 : Int32) (x3 : Int32) (x4 : Int32) (x5 : Int32) (x6 : Int32) (x7 : Int32) (x8 : Int32) (x9 : Int32) (M : ch_Mem) (H : Heap) (locs : List Loc) (ls : Array Slot), k46 x1 x2 x3 x4 x5 x6 x7 x8 x9 M = some oo → ch_Wd D I 13 (ch_FM I sh) sh s A M H locs → lv_has ls 10 [(0, .ref (sh 0)), (1, .int x1), (2, .int x2), (3, .int x3), (4, .int x4), (5, .int x5), (6, .int x6), (7, .int x7), (8, .int x8), (9, .int x9)] → W p l e rm_X7_takesOff s m args below meth c H locs 0 0 Q (F0 m 46 ls [])) {x1 : Int32} {x2 : Int32} {x3 : Int32} {x4 : Int32} {x5 : Int32} {x6 : Int32} {x7 : Int32} {x8 : Int32} {x9 : Int32}  {M : ch_Mem} {H : Heap} {locs : List Loc} {ls : Array Slot} (h : D_X7_takesOff_b46 k13 k23 k46 x1 x2 x3 x4 x5 x6 x7 x8 x9 M = some oo) (hw : ch_Wd D I 13 (ch_FM I sh) sh s A M H locs) (hl : lv_has ls 10 [(0, .ref (sh 0)), (1, .int x1), (2, .int x2), (3, .int x3), (4, .int x4), (5, .int x5), (6, .int x6), (7, .int x7), (8, .int x8), (9, .int x9)]) : W p l e rm_X7_takesOff s m args below meth c H locs 0 0 Q (F0 m 46 ls []) := by
  obtain ⟨hx, hb, hml, hown, hts⟩ := id S
  unfold D_X7_takesOff_b46 at h
  refine lv_iload hx hb dX7_takesOff_46 (lv_at hl 9 rfl) ?_
  refine lv_iload_n hx hb dX7_takesOff_48 rfl (lv_at hl 1 rfl) ?_
  refine ch_icmp_ge (tgt := 82) hx hb dX7_takesOff_49 (by decide) h (fun h => ?_) (fun h => ?_)
  · exact t_X7_takesOff_82 S fin hk13 hk23 h hw (lv_sub hl [0, 1, 2, 3, 4, 5, 6, 7, 8] rfl)
  · refine lv_iload hx hb dX7_takesOff_52 (lv_at hl 8 rfl) ?_
    refine lv_aload_n hx hb dX7_takesOff_54 rfl (lv_at hl 0 rfl) ?_
    refine lv_iload hx hb dX7_takesOff_55 (lv_at hl 6 rfl) ?_
    refine lv_iload hx hb dX7_takesOff_57 (lv_at hl 9 rfl) ?_
    refine lv_iload hx hb dX7_takesOff_59 (lv_at hl 7 rfl) ?_
    refine lv_iadd hx hb dX7_takesOff_61 ?_
    refine ch_bd_k h (fun r1 M2 hc h => ?_)
    refine ch_ci hw (va_runV (As := [.int x6, .int (x9 + x7)]) (rest := [.int x8]) S (c_X7_signOf l D I sh H.size M x6 (x9 + x7) hc) (cwV 2 hts gX7_takesOff_X7_signOf rfl rfl rfl (by decide +kernel) ⟨Nat.le_of_ble_eq_true rfl, Nat.le_of_ble_eq_true rfl⟩) (ch_pV hw (by decide) rfl rfl rfl) rfl rfl hl.1 rfl (lv_room (Nat.le_of_ble_eq_true rfl)) dX7_takesOff_62 ⟨Nat.le_refl 0, Nat.le_refl 0⟩) (fun H locs hw => ?_)
    refine lv_aload_n hx hb dX7_takesOff_65 rfl (lv_at hl 0 rfl) ?_
    refine ch_get S hw 0 (by decide) rfl rfl (by decide +kernel) 8 (by decide) (hts (.fieldLink RX7 26 "CodeHuntModel" "left" "[I") (by decide +kernel)) rfl dX7_takesOff_66 ?_
    refine lv_iload hx hb dX7_takesOff_69 (lv_at hl 9 rfl) ?_
    refine ch_gd_k h (fun hin h => ?_)
    refine ch_iald S hw 5 (by decide) rfl hin dX7_takesOff_71 ?_
    refine lv_imul hx hb dX7_takesOff_72 ?_
    refine lv_iadd hx hb dX7_takesOff_73 ?_
    refine lv_istore (lv' := [(8, .int (x8 + (r1 * (M2.1 5 x9.toNatClampNeg)))), (0, .ref (sh 0)), (1, .int x1), (2, .int x2), (3, .int x3), (4, .int x4), (5, .int x5), (6, .int x6), (7, .int x7), (9, .int x9)]) hx hb dX7_takesOff_74 hl (by decide) rfl (fun ls hl => ?_)
    refine lv_iinc (v := x9 + (1 : Int32)) (lv' := [(9, .int (x9 + (1 : Int32))), (8, .int (x8 + (r1 * (M2.1 5 x9.toNatClampNeg)))), (0, .ref (sh 0)), (1, .int x1), (2, .int x2), (3, .int x3), (4, .int x4), (5, .int x5), (6, .int x6), (7, .int x7)]) hx hb dX7_takesOff_76 hl (k := 9) rfl rfl (by decide) rfl (fun ls hl => ?_)
    refine lv_goto (tgt := 46) hx hb dX7_takesOff_79 (by decide) ?_
    exact hk46 _ _ _ _ _ _ _ _ _ _ _ _ _  h hw (lv_sub hl [2, 3, 4, 5, 6, 7, 8, 9, 1, 0] rfl)
set_option maxHeartbeats 4000000 in
set_option maxRecDepth 100000 in
theorem tl_X7_takesOff_46 {p : Program} {l : Launch} {e : Env} {s : State} {m : MethodId} {args : Array Value} {below : List Frame} {meth : Method} {c : Code} {Q : State → Prop} {D : va_G} {I : ch_Id} {sh : Nat → Nat} {A : Nat → Prop} {oo : Int32 × ch_Mem}    {k13 : Int32 → Int32 → Int32 → Int32 → Int32 → Int32 → ch_Mem → Option (Int32 × ch_Mem)} {k23 : Int32 → Int32 → Int32 → Int32 → Int32 → Int32 → Int32 → ch_Mem → Option (Int32 × ch_Mem)} (S : CallFix p m c cX7_takesOff 10 s args wsX7_takesOff RX7) (fin : ch_FinZ p l e rm_X7_takesOff s m args below meth c cX7_takesOff Q D I 13 (ch_FM I sh) sh A oo) (hk13 : ∀ (x1 : Int32) (x2 : Int32) (x3 : Int32) (x4 : Int32) (x5 : Int32) (x6 : Int32) (M : ch_Mem) (H : Heap) (locs : List Loc) (ls : Array Slot), k13 x1 x2 x3 x4 x5 x6 M = some oo → ch_Wd D I 13 (ch_FM I sh) sh s A M H locs → lv_has ls 10 [(0, .ref (sh 0)), (1, .int x1), (2, .int x2), (3, .int x3), (4, .int x4), (5, .int x5), (6, .int x6)] → W p l e rm_X7_takesOff s m args below meth c H locs 0 0 Q (F0 m 13 ls [])) (hk23 : ∀ (x1 : Int32) (x2 : Int32) (x3 : Int32) (x4 : Int32) (x5 : Int32) (x6 : Int32) (x7 : Int32) (M : ch_Mem) (H : Heap) (locs : List Loc) (ls : Array Slot), k23 x1 x2 x3 x4 x5 x6 x7 M = some oo → ch_Wd D I 13 (ch_FM I sh) sh s A M H locs → lv_has ls 10 [(0, .ref (sh 0)), (1, .int x1), (2, .int x2), (3, .int x3), (4, .int x4), (5, .int x5), (6, .int x6), (7, .int x7)] → W p l e rm_X7_takesOff s m args below meth c H locs 0 0 Q (F0 m 23 ls [])) (n : Nat) : ∀ (x1 : Int32) (x2 : Int32) (x3 : Int32) (x4 : Int32) (x5 : Int32) (x6 : Int32) (x7 : Int32) (x8 : Int32) (x9 : Int32) (M : ch_Mem) (H : Heap) (locs : List Loc) (ls : Array Slot), D_X7_takesOff_L46 k13 k23 n x1 x2 x3 x4 x5 x6 x7 x8 x9 M = some oo → ch_Wd D I 13 (ch_FM I sh) sh s A M H locs → lv_has ls 10 [(0, .ref (sh 0)), (1, .int x1), (2, .int x2), (3, .int x3), (4, .int x4), (5, .int x5), (6, .int x6), (7, .int x7), (8, .int x8), (9, .int x9)] → W p l e rm_X7_takesOff s m args below meth c H locs 0 0 Q (F0 m 46 ls []) := by
  induction n with
  | zero => intro x1 x2 x3 x4 x5 x6 x7 x8 x9 M H locs ls  h; cases h
  | succ n ih =>
    intro x1 x2 x3 x4 x5 x6 x7 x8 x9 M H locs ls  h hw hl
    exact t_X7_takesOff_46 S fin hk13 hk23 ih h hw hl
set_option maxHeartbeats 4000000 in
set_option maxRecDepth 100000 in
theorem t_X7_takesOff_123 {p : Program} {l : Launch} {e : Env} {s : State} {m : MethodId} {args : Array Value} {below : List Frame} {meth : Method} {c : Code} {Q : State → Prop} {D : va_G} {I : ch_Id} {sh : Nat → Nat} {A : Nat → Prop} {oo : Int32 × ch_Mem}    {k13 : Int32 → Int32 → Int32 → Int32 → Int32 → Int32 → ch_Mem → Option (Int32 × ch_Mem)} (S : CallFix p m c cX7_takesOff 10 s args wsX7_takesOff RX7) (fin : ch_FinZ p l e rm_X7_takesOff s m args below meth c cX7_takesOff Q D I 13 (ch_FM I sh) sh A oo) (hk13 : ∀ (x1 : Int32) (x2 : Int32) (x3 : Int32) (x4 : Int32) (x5 : Int32) (x6 : Int32) (M : ch_Mem) (H : Heap) (locs : List Loc) (ls : Array Slot), k13 x1 x2 x3 x4 x5 x6 M = some oo → ch_Wd D I 13 (ch_FM I sh) sh s A M H locs → lv_has ls 10 [(0, .ref (sh 0)), (1, .int x1), (2, .int x2), (3, .int x3), (4, .int x4), (5, .int x5), (6, .int x6)] → W p l e rm_X7_takesOff s m args below meth c H locs 0 0 Q (F0 m 13 ls [])) {x1 : Int32} {x2 : Int32} {x3 : Int32} {x4 : Int32} {x5 : Int32} {x6 : Int32}  {M : ch_Mem} {H : Heap} {locs : List Loc} {ls : Array Slot} (h : D_X7_takesOff_b123 k13 x1 x2 x3 x4 x5 x6 M = some oo) (hw : ch_Wd D I 13 (ch_FM I sh) sh s A M H locs) (hl : lv_has ls 10 [(0, .ref (sh 0)), (1, .int x1), (2, .int x2), (3, .int x3), (4, .int x4), (5, .int x5), (6, .int x6)]) : W p l e rm_X7_takesOff s m args below meth c H locs 0 0 Q (F0 m 123 ls []) := by
  obtain ⟨hx, hb, hml, hown, hts⟩ := id S
  unfold D_X7_takesOff_b123 at h
  refine lv_iinc (v := x6 + (1 : Int32)) (lv' := [(6, .int (x6 + (1 : Int32))), (0, .ref (sh 0)), (1, .int x1), (2, .int x2), (3, .int x3), (4, .int x4), (5, .int x5)]) hx hb dX7_takesOff_123 hl (k := 6) rfl rfl (by decide) rfl (fun ls hl => ?_)
  refine lv_goto (tgt := 13) hx hb dX7_takesOff_126 (by decide) ?_
  exact hk13 _ _ _ _ _ _ _ _ _ _  h hw (lv_sub hl [1, 2, 3, 4, 5, 6, 0] rfl)
set_option maxHeartbeats 4000000 in
set_option maxRecDepth 100000 in
theorem t_X7_takesOff_23 {p : Program} {l : Launch} {e : Env} {s : State} {m : MethodId} {args : Array Value} {below : List Frame} {meth : Method} {c : Code} {Q : State → Prop} {D : va_G} {I : ch_Id} {sh : Nat → Nat} {A : Nat → Prop} {oo : Int32 × ch_Mem}    {k13 : Int32 → Int32 → Int32 → Int32 → Int32 → Int32 → ch_Mem → Option (Int32 × ch_Mem)} {k23 : Int32 → Int32 → Int32 → Int32 → Int32 → Int32 → Int32 → ch_Mem → Option (Int32 × ch_Mem)} (S : CallFix p m c cX7_takesOff 10 s args wsX7_takesOff RX7) (fin : ch_FinZ p l e rm_X7_takesOff s m args below meth c cX7_takesOff Q D I 13 (ch_FM I sh) sh A oo) (hk13 : ∀ (x1 : Int32) (x2 : Int32) (x3 : Int32) (x4 : Int32) (x5 : Int32) (x6 : Int32) (M : ch_Mem) (H : Heap) (locs : List Loc) (ls : Array Slot), k13 x1 x2 x3 x4 x5 x6 M = some oo → ch_Wd D I 13 (ch_FM I sh) sh s A M H locs → lv_has ls 10 [(0, .ref (sh 0)), (1, .int x1), (2, .int x2), (3, .int x3), (4, .int x4), (5, .int x5), (6, .int x6)] → W p l e rm_X7_takesOff s m args below meth c H locs 0 0 Q (F0 m 13 ls [])) (hk23 : ∀ (x1 : Int32) (x2 : Int32) (x3 : Int32) (x4 : Int32) (x5 : Int32) (x6 : Int32) (x7 : Int32) (M : ch_Mem) (H : Heap) (locs : List Loc) (ls : Array Slot), k23 x1 x2 x3 x4 x5 x6 x7 M = some oo → ch_Wd D I 13 (ch_FM I sh) sh s A M H locs → lv_has ls 10 [(0, .ref (sh 0)), (1, .int x1), (2, .int x2), (3, .int x3), (4, .int x4), (5, .int x5), (6, .int x6), (7, .int x7)] → W p l e rm_X7_takesOff s m args below meth c H locs 0 0 Q (F0 m 23 ls [])) {x1 : Int32} {x2 : Int32} {x3 : Int32} {x4 : Int32} {x5 : Int32} {x6 : Int32} {x7 : Int32}  {M : ch_Mem} {H : Heap} {locs : List Loc} {ls : Array Slot} (h : D_X7_takesOff_b23 k13 k23 x1 x2 x3 x4 x5 x6 x7 M = some oo) (hw : ch_Wd D I 13 (ch_FM I sh) sh s A M H locs) (hl : lv_has ls 10 [(0, .ref (sh 0)), (1, .int x1), (2, .int x2), (3, .int x3), (4, .int x4), (5, .int x5), (6, .int x6), (7, .int x7)]) : W p l e rm_X7_takesOff s m args below meth c H locs 0 0 Q (F0 m 23 ls []) := by
  obtain ⟨hx, hb, hml, hown, hts⟩ := id S
  unfold D_X7_takesOff_b23 at h
  refine lv_iload hx hb dX7_takesOff_23 (lv_at hl 7 rfl) ?_
  refine lv_iload_n hx hb dX7_takesOff_25 rfl (lv_at hl 1 rfl) ?_
  refine ch_icmp_ge (tgt := 123) hx hb dX7_takesOff_26 (by decide) h (fun h => ?_) (fun h => ?_)
  · exact t_X7_takesOff_123 S fin hk13 h hw (lv_sub hl [0, 1, 2, 3, 4, 5, 6] rfl)
  · refine lv_aload_n hx hb dX7_takesOff_29 rfl (lv_at hl 0 rfl) ?_
    refine ch_get S hw 0 (by decide) rfl rfl (by decide +kernel) 0 (by decide) (hts (.fieldLink RX7 7 "CodeHuntModel" "sizesOf" "[I") (by decide +kernel)) rfl dX7_takesOff_30 ?_
    refine lv_iload hx hb dX7_takesOff_33 (lv_at hl 6 rfl) ?_
    refine ch_gd_k h (fun hin h => ?_)
    refine ch_iald S hw 1 (by decide) rfl hin dX7_takesOff_35 ?_
    refine lv_iload_n hx hb dX7_takesOff_36 rfl (lv_at hl 1 rfl) ?_
    refine ch_icmp_ne (tgt := 123) hx hb dX7_takesOff_37 (by decide) h (fun h => ?_) (fun h => ?_)
    · exact t_X7_takesOff_123 S fin hk13 h hw (lv_sub hl [0, 1, 2, 3, 4, 5, 6] rfl)
    · refine lv_iconst (v := (0 : Int32)) hx hb dX7_takesOff_40 (by decide) ?_
      refine lv_istore (lv' := [(8, .int (0 : Int32)), (0, .ref (sh 0)), (1, .int x1), (2, .int x2), (3, .int x3), (4, .int x4), (5, .int x5), (6, .int x6), (7, .int x7)]) hx hb dX7_takesOff_41 hl (by decide) rfl (fun ls hl => ?_)
      refine lv_iconst (v := (0 : Int32)) hx hb dX7_takesOff_43 (by decide) ?_
      refine lv_istore (lv' := [(9, .int (0 : Int32)), (8, .int (0 : Int32)), (0, .ref (sh 0)), (1, .int x1), (2, .int x2), (3, .int x3), (4, .int x4), (5, .int x5), (6, .int x6), (7, .int x7)]) hx hb dX7_takesOff_44 hl (by decide) rfl (fun ls hl => ?_)
      exact tl_X7_takesOff_46 S fin hk13 hk23 ch_fu _ _ _ _ _ _ _ _ _ _ _ _ _ h hw (lv_sub hl [2, 3, 4, 5, 6, 7, 8, 9, 1, 0] rfl)
set_option maxHeartbeats 4000000 in
set_option maxRecDepth 100000 in
theorem tl_X7_takesOff_23 {p : Program} {l : Launch} {e : Env} {s : State} {m : MethodId} {args : Array Value} {below : List Frame} {meth : Method} {c : Code} {Q : State → Prop} {D : va_G} {I : ch_Id} {sh : Nat → Nat} {A : Nat → Prop} {oo : Int32 × ch_Mem}    {k13 : Int32 → Int32 → Int32 → Int32 → Int32 → Int32 → ch_Mem → Option (Int32 × ch_Mem)} (S : CallFix p m c cX7_takesOff 10 s args wsX7_takesOff RX7) (fin : ch_FinZ p l e rm_X7_takesOff s m args below meth c cX7_takesOff Q D I 13 (ch_FM I sh) sh A oo) (hk13 : ∀ (x1 : Int32) (x2 : Int32) (x3 : Int32) (x4 : Int32) (x5 : Int32) (x6 : Int32) (M : ch_Mem) (H : Heap) (locs : List Loc) (ls : Array Slot), k13 x1 x2 x3 x4 x5 x6 M = some oo → ch_Wd D I 13 (ch_FM I sh) sh s A M H locs → lv_has ls 10 [(0, .ref (sh 0)), (1, .int x1), (2, .int x2), (3, .int x3), (4, .int x4), (5, .int x5), (6, .int x6)] → W p l e rm_X7_takesOff s m args below meth c H locs 0 0 Q (F0 m 13 ls [])) (n : Nat) : ∀ (x1 : Int32) (x2 : Int32) (x3 : Int32) (x4 : Int32) (x5 : Int32) (x6 : Int32) (x7 : Int32) (M : ch_Mem) (H : Heap) (locs : List Loc) (ls : Array Slot), D_X7_takesOff_L23 k13 n x1 x2 x3 x4 x5 x6 x7 M = some oo → ch_Wd D I 13 (ch_FM I sh) sh s A M H locs → lv_has ls 10 [(0, .ref (sh 0)), (1, .int x1), (2, .int x2), (3, .int x3), (4, .int x4), (5, .int x5), (6, .int x6), (7, .int x7)] → W p l e rm_X7_takesOff s m args below meth c H locs 0 0 Q (F0 m 23 ls []) := by
  induction n with
  | zero => intro x1 x2 x3 x4 x5 x6 x7 M H locs ls  h; cases h
  | succ n ih =>
    intro x1 x2 x3 x4 x5 x6 x7 M H locs ls  h hw hl
    exact t_X7_takesOff_23 S fin hk13 ih h hw hl
set_option maxHeartbeats 4000000 in
set_option maxRecDepth 100000 in
theorem t_X7_takesOff_205 {p : Program} {l : Launch} {e : Env} {s : State} {m : MethodId} {args : Array Value} {below : List Frame} {meth : Method} {c : Code} {Q : State → Prop} {D : va_G} {I : ch_Id} {sh : Nat → Nat} {A : Nat → Prop} {oo : Int32 × ch_Mem}     (S : CallFix p m c cX7_takesOff 10 s args wsX7_takesOff RX7) (fin : ch_FinZ p l e rm_X7_takesOff s m args below meth c cX7_takesOff Q D I 13 (ch_FM I sh) sh A oo)  {x3 : Int32} {x4 : Int32} {x7 : Int32}  {M : ch_Mem} {H : Heap} {locs : List Loc} {ls : Array Slot} (h : D_X7_takesOff_b205 x3 x4 x7 M = some oo) (hw : ch_Wd D I 13 (ch_FM I sh) sh s A M H locs) (hl : lv_has ls 10 [(0, .ref (sh 0)), (3, .int x3), (4, .int x4), (7, .int x7)]) : W p l e rm_X7_takesOff s m args below meth c H locs 0 0 Q (F0 m 205 ls []) := by
  obtain ⟨hx, hb, hml, hown, hts⟩ := id S
  unfold D_X7_takesOff_b205 at h
  refine lv_aload_n hx hb dX7_takesOff_205 rfl (lv_at hl 0 rfl) ?_
  refine ch_get S hw 0 (by decide) rfl rfl (by decide +kernel) 7 (by decide) (hts (.fieldLink RX7 23 "CodeHuntModel" "peeled" "[I") (by decide +kernel)) rfl dX7_takesOff_206 ?_
  refine lv_iconst (v := (3 : Int32)) hx hb dX7_takesOff_209 (by decide) ?_
  refine lv_aload_n hx hb dX7_takesOff_210 rfl (lv_at hl 0 rfl) ?_
  refine ch_get S hw 0 (by decide) rfl rfl (by decide +kernel) 6 (by decide) (hts (.fieldLink RX7 121 "CodeHuntModel" "times" "I") (by decide +kernel)) rfl dX7_takesOff_211 ?_
  refine lv_imul hx hb dX7_takesOff_214 ?_
  refine lv_iload_n hx hb dX7_takesOff_215 rfl (lv_at hl 1 rfl) ?_
  refine ch_gd_k h (fun hin h => ?_)
  refine ch_iast S hw 4 (by decide) (fun _ => rfl) hin dX7_takesOff_216 (fun H locs hw => ?_)
  refine lv_aload_n hx hb dX7_takesOff_217 rfl (lv_at hl 0 rfl) ?_
  refine ch_get S hw 0 (by decide) rfl rfl (by decide +kernel) 7 (by decide) (hts (.fieldLink RX7 23 "CodeHuntModel" "peeled" "[I") (by decide +kernel)) rfl dX7_takesOff_218 ?_
  refine lv_iconst (v := (3 : Int32)) hx hb dX7_takesOff_221 (by decide) ?_
  refine lv_aload_n hx hb dX7_takesOff_222 rfl (lv_at hl 0 rfl) ?_
  refine ch_get S hw 0 (by decide) rfl rfl (by decide +kernel) 6 (by decide) (hts (.fieldLink RX7 121 "CodeHuntModel" "times" "I") (by decide +kernel)) rfl dX7_takesOff_223 ?_
  refine lv_imul hx hb dX7_takesOff_226 ?_
  refine lv_iconst (v := (1 : Int32)) hx hb dX7_takesOff_227 (by decide) ?_
  refine lv_iadd hx hb dX7_takesOff_228 ?_
  refine lv_iload hx hb dX7_takesOff_229 (lv_at hl 2 rfl) ?_
  refine ch_gd_k h (fun hin h => ?_)
  refine ch_iast S hw 4 (by decide) (fun _ => rfl) hin dX7_takesOff_231 (fun H locs hw => ?_)
  refine lv_aload_n hx hb dX7_takesOff_232 rfl (lv_at hl 0 rfl) ?_
  refine ch_get S hw 0 (by decide) rfl rfl (by decide +kernel) 7 (by decide) (hts (.fieldLink RX7 23 "CodeHuntModel" "peeled" "[I") (by decide +kernel)) rfl dX7_takesOff_233 ?_
  refine lv_iconst (v := (3 : Int32)) hx hb dX7_takesOff_236 (by decide) ?_
  refine lv_aload_n hx hb dX7_takesOff_237 rfl (lv_at hl 0 rfl) ?_
  refine ch_get S hw 0 (by decide) rfl rfl (by decide +kernel) 6 (by decide) (hts (.fieldLink RX7 121 "CodeHuntModel" "times" "I") (by decide +kernel)) rfl dX7_takesOff_238 ?_
  refine lv_imul hx hb dX7_takesOff_241 ?_
  refine lv_iconst (v := (2 : Int32)) hx hb dX7_takesOff_242 (by decide) ?_
  refine lv_iadd hx hb dX7_takesOff_243 ?_
  refine lv_iload hx hb dX7_takesOff_244 (lv_at hl 3 rfl) ?_
  refine ch_gd_k h (fun hin h => ?_)
  refine ch_iast S hw 4 (by decide) (fun _ => rfl) hin dX7_takesOff_246 (fun H locs hw => ?_)
  refine lv_iconst (v := (1 : Int32)) hx hb dX7_takesOff_247 (by decide) ?_
  exact fin _ _ _ _ _ _ rfl h hw dX7_takesOff_248
set_option maxHeartbeats 4000000 in
set_option maxRecDepth 100000 in
theorem t_X7_takesOff_170 {p : Program} {l : Launch} {e : Env} {s : State} {m : MethodId} {args : Array Value} {below : List Frame} {meth : Method} {c : Code} {Q : State → Prop} {D : va_G} {I : ch_Id} {sh : Nat → Nat} {A : Nat → Prop} {oo : Int32 × ch_Mem}    {k170 : Int32 → Int32 → Int32 → Int32 → Int32 → ch_Mem → Option (Int32 × ch_Mem)} (S : CallFix p m c cX7_takesOff 10 s args wsX7_takesOff RX7) (fin : ch_FinZ p l e rm_X7_takesOff s m args below meth c cX7_takesOff Q D I 13 (ch_FM I sh) sh A oo) (hk170 : ∀ (x1 : Int32) (x3 : Int32) (x4 : Int32) (x7 : Int32) (x8 : Int32) (M : ch_Mem) (H : Heap) (locs : List Loc) (ls : Array Slot), k170 x1 x3 x4 x7 x8 M = some oo → ch_Wd D I 13 (ch_FM I sh) sh s A M H locs → lv_has ls 10 [(0, .ref (sh 0)), (1, .int x1), (3, .int x3), (4, .int x4), (7, .int x7), (8, .int x8)] → W p l e rm_X7_takesOff s m args below meth c H locs 0 0 Q (F0 m 170 ls [])) {x1 : Int32} {x3 : Int32} {x4 : Int32} {x7 : Int32} {x8 : Int32}  {M : ch_Mem} {H : Heap} {locs : List Loc} {ls : Array Slot} (h : D_X7_takesOff_b170 k170 x1 x3 x4 x7 x8 M = some oo) (hw : ch_Wd D I 13 (ch_FM I sh) sh s A M H locs) (hl : lv_has ls 10 [(0, .ref (sh 0)), (1, .int x1), (3, .int x3), (4, .int x4), (7, .int x7), (8, .int x8)]) : W p l e rm_X7_takesOff s m args below meth c H locs 0 0 Q (F0 m 170 ls []) := by
  obtain ⟨hx, hb, hml, hown, hts⟩ := id S
  unfold D_X7_takesOff_b170 at h
  refine lv_iload hx hb dX7_takesOff_170 (lv_at hl 5 rfl) ?_
  refine lv_iload_n hx hb dX7_takesOff_172 rfl (lv_at hl 1 rfl) ?_
  refine ch_icmp_ge (tgt := 205) hx hb dX7_takesOff_173 (by decide) h (fun h => ?_) (fun h => ?_)
  · exact t_X7_takesOff_205 S fin h hw (lv_sub hl [0, 2, 3, 4] rfl)
  · refine lv_aload_n hx hb dX7_takesOff_176 rfl (lv_at hl 0 rfl) ?_
    refine ch_get S hw 0 (by decide) rfl rfl (by decide +kernel) 8 (by decide) (hts (.fieldLink RX7 26 "CodeHuntModel" "left" "[I") (by decide +kernel)) rfl dX7_takesOff_177 ?_
    refine lv_iload hx hb dX7_takesOff_180 (lv_at hl 5 rfl) ?_
    refine lv_dup2_11 hx hb dX7_takesOff_182 rfl rfl ?_
    refine ch_gd_k h (fun hin h => ?_)
    refine ch_iald S hw 5 (by decide) rfl hin dX7_takesOff_183 ?_
    refine lv_iload hx hb dX7_takesOff_184 (lv_at hl 4 rfl) ?_
    refine lv_aload_n hx hb dX7_takesOff_186 rfl (lv_at hl 0 rfl) ?_
    refine lv_iload_n hx hb dX7_takesOff_187 rfl (lv_at hl 2 rfl) ?_
    refine lv_iload hx hb dX7_takesOff_188 (lv_at hl 5 rfl) ?_
    refine lv_iload hx hb dX7_takesOff_190 (lv_at hl 3 rfl) ?_
    refine lv_iadd hx hb dX7_takesOff_192 ?_
    refine ch_bd_k h (fun r1 M2 hc h => ?_)
    refine ch_ci hw (va_runV (As := [.int x3, .int (x8 + x4)]) (rest := [.int x7, .int (M.1 5 x8.toNatClampNeg), .int x8, .ref (sh 5)]) S (c_X7_signOf l D I sh H.size M x3 (x8 + x4) hc) (cwV 2 hts gX7_takesOff_X7_signOf rfl rfl rfl (by decide +kernel) ⟨Nat.le_of_ble_eq_true rfl, Nat.le_of_ble_eq_true rfl⟩) (ch_pV hw (by decide) rfl rfl rfl) rfl rfl hl.1 rfl (lv_room (Nat.le_of_ble_eq_true rfl)) dX7_takesOff_193 ⟨Nat.le_refl 0, Nat.le_refl 0⟩) (fun H locs hw => ?_)
    refine lv_imul hx hb dX7_takesOff_196 ?_
    refine lv_isub hx hb dX7_takesOff_197 ?_
    refine ch_gd_k h (fun hin h => ?_)
    refine ch_iast S hw 5 (by decide) (fun _ => rfl) hin dX7_takesOff_198 (fun H locs hw => ?_)
    refine lv_iinc (v := x8 + (1 : Int32)) (lv' := [(8, .int (x8 + (1 : Int32))), (0, .ref (sh 0)), (1, .int x1), (3, .int x3), (4, .int x4), (7, .int x7)]) hx hb dX7_takesOff_199 hl (k := 5) rfl rfl (by decide) rfl (fun ls hl => ?_)
    refine lv_goto (tgt := 170) hx hb dX7_takesOff_202 (by decide) ?_
    exact hk170 _ _ _ _ _ _ _ _ _  h hw (lv_sub hl [1, 2, 3, 4, 5, 0] rfl)
set_option maxHeartbeats 4000000 in
set_option maxRecDepth 100000 in
theorem tl_X7_takesOff_170 {p : Program} {l : Launch} {e : Env} {s : State} {m : MethodId} {args : Array Value} {below : List Frame} {meth : Method} {c : Code} {Q : State → Prop} {D : va_G} {I : ch_Id} {sh : Nat → Nat} {A : Nat → Prop} {oo : Int32 × ch_Mem}     (S : CallFix p m c cX7_takesOff 10 s args wsX7_takesOff RX7) (fin : ch_FinZ p l e rm_X7_takesOff s m args below meth c cX7_takesOff Q D I 13 (ch_FM I sh) sh A oo)  (n : Nat) : ∀ (x1 : Int32) (x3 : Int32) (x4 : Int32) (x7 : Int32) (x8 : Int32) (M : ch_Mem) (H : Heap) (locs : List Loc) (ls : Array Slot), D_X7_takesOff_L170  n x1 x3 x4 x7 x8 M = some oo → ch_Wd D I 13 (ch_FM I sh) sh s A M H locs → lv_has ls 10 [(0, .ref (sh 0)), (1, .int x1), (3, .int x3), (4, .int x4), (7, .int x7), (8, .int x8)] → W p l e rm_X7_takesOff s m args below meth c H locs 0 0 Q (F0 m 170 ls []) := by
  induction n with
  | zero => intro x1 x3 x4 x7 x8 M H locs ls  h; cases h
  | succ n ih =>
    intro x1 x3 x4 x7 x8 M H locs ls  h hw hl
    exact t_X7_takesOff_170 S fin ih h hw hl
set_option maxHeartbeats 4000000 in
set_option maxRecDepth 100000 in
theorem t_X7_takesOff_157 {p : Program} {l : Launch} {e : Env} {s : State} {m : MethodId} {args : Array Value} {below : List Frame} {meth : Method} {c : Code} {Q : State → Prop} {D : va_G} {I : ch_Id} {sh : Nat → Nat} {A : Nat → Prop} {oo : Int32 × ch_Mem}     (S : CallFix p m c cX7_takesOff 10 s args wsX7_takesOff RX7) (fin : ch_FinZ p l e rm_X7_takesOff s m args below meth c cX7_takesOff Q D I 13 (ch_FM I sh) sh A oo)  {x1 : Int32} {x3 : Int32} {x4 : Int32} {y0 : Int32} {y1 : Int32}  {M : ch_Mem} {H : Heap} {locs : List Loc} {ls : Array Slot} (h : D_X7_takesOff_b157 x1 x3 x4 y0 y1 M = some oo) (hw : ch_Wd D I 13 (ch_FM I sh) sh s A M H locs) (hl : lv_has ls 10 [(0, .ref (sh 0)), (1, .int x1), (3, .int x3), (4, .int x4)]) : W p l e rm_X7_takesOff s m args below meth c H locs 0 0 Q (F0 m 157 ls [.int y0, .int y1]) := by
  obtain ⟨hx, hb, hml, hown, hts⟩ := id S
  unfold D_X7_takesOff_b157 at h
  refine lv_isub hx hb dX7_takesOff_157 ?_
  refine lv_istore (lv' := [(7, .int (y1 - y0)), (0, .ref (sh 0)), (1, .int x1), (3, .int x3), (4, .int x4)]) hx hb dX7_takesOff_158 hl (by decide) rfl (fun ls hl => ?_)
  refine lv_iload hx hb dX7_takesOff_160 (lv_at hl 0 rfl) ?_
  refine ch_if_ne (tgt := 167) hx hb dX7_takesOff_162 (by decide) h (fun h => ?_) (fun h => ?_)
  · refine lv_iconst (v := (0 : Int32)) hx hb dX7_takesOff_167 (by decide) ?_
    refine lv_istore (lv' := [(8, .int (0 : Int32)), (7, .int (y1 - y0)), (0, .ref (sh 0)), (1, .int x1), (3, .int x3), (4, .int x4)]) hx hb dX7_takesOff_168 hl (by decide) rfl (fun ls hl => ?_)
    exact tl_X7_takesOff_170 S fin ch_fu _ _ _ _ _ _ _ _ _ h hw (lv_sub hl [2, 3, 4, 5, 1, 0] rfl)
  · refine lv_iconst (v := (0 : Int32)) hx hb dX7_takesOff_165 (by decide) ?_
    exact fin _ _ _ _ _ _ rfl h hw dX7_takesOff_166
set_option maxHeartbeats 4000000 in
set_option maxRecDepth 100000 in
theorem t_X7_takesOff_129 {p : Program} {l : Launch} {e : Env} {s : State} {m : MethodId} {args : Array Value} {below : List Frame} {meth : Method} {c : Code} {Q : State → Prop} {D : va_G} {I : ch_Id} {sh : Nat → Nat} {A : Nat → Prop} {oo : Int32 × ch_Mem}     (S : CallFix p m c cX7_takesOff 10 s args wsX7_takesOff RX7) (fin : ch_FinZ p l e rm_X7_takesOff s m args below meth c cX7_takesOff Q D I 13 (ch_FM I sh) sh A oo)  {x1 : Int32} {x3 : Int32} {x4 : Int32} {x5 : Int32}  {M : ch_Mem} {H : Heap} {locs : List Loc} {ls : Array Slot} (h : D_X7_takesOff_b129 x1 x3 x4 x5 M = some oo) (hw : ch_Wd D I 13 (ch_FM I sh) sh s A M H locs) (hl : lv_has ls 10 [(0, .ref (sh 0)), (1, .int x1), (3, .int x3), (4, .int x4), (5, .int x5)]) : W p l e rm_X7_takesOff s m args below meth c H locs 0 0 Q (F0 m 129 ls []) := by
  obtain ⟨hx, hb, hml, hown, hts⟩ := id S
  unfold D_X7_takesOff_b129 at h
  refine lv_iconst (v := (2 : Int32)) hx hb dX7_takesOff_129 (by decide) ?_
  refine lv_iload hx hb dX7_takesOff_130 (lv_at hl 4 rfl) ?_
  refine lv_imul hx hb dX7_takesOff_132 ?_
  refine lv_iload_n hx hb dX7_takesOff_133 rfl (lv_at hl 1 rfl) ?_
  refine lv_iadd hx hb dX7_takesOff_134 ?_
  refine lv_istore (lv' := [(6, .int (((2 : Int32) * x5) + x1)), (0, .ref (sh 0)), (1, .int x1), (3, .int x3), (4, .int x4), (5, .int x5)]) hx hb dX7_takesOff_135 hl (by decide) rfl (fun ls hl => ?_)
  refine lv_iload hx hb dX7_takesOff_137 (lv_at hl 0 rfl) ?_
  refine lv_iconst (v := (2 : Int32)) hx hb dX7_takesOff_139 (by decide) ?_
  refine lv_iload_n hx hb dX7_takesOff_140 rfl (lv_at hl 2 rfl) ?_
  refine lv_imul hx hb dX7_takesOff_141 ?_
  refine ch_g0_k h (fun hne h => ?_)
  refine lv_idiv hx hb dX7_takesOff_142 hne ?_
  refine lv_iload hx hb dX7_takesOff_143 (lv_at hl 0 rfl) ?_
  refine lv_iconst (v := (2 : Int32)) hx hb dX7_takesOff_145 (by decide) ?_
  refine lv_iload_n hx hb dX7_takesOff_146 rfl (lv_at hl 2 rfl) ?_
  refine lv_imul hx hb dX7_takesOff_147 ?_
  refine ch_g0_k h (fun hne h => ?_)
  refine lv_irem hx hb dX7_takesOff_148 hne ?_
  refine ch_if_ge (tgt := 156) hx hb dX7_takesOff_149 (by decide) h (fun h => ?_) (fun h => ?_)
  · refine lv_iconst (v := (0 : Int32)) hx hb dX7_takesOff_156 (by decide) ?_
    exact t_X7_takesOff_157 S fin h hw (lv_sub hl [1, 2, 3, 4] rfl)
  · refine lv_iconst (v := (1 : Int32)) hx hb dX7_takesOff_152 (by decide) ?_
    refine lv_goto (tgt := 157) hx hb dX7_takesOff_153 (by decide) ?_
    exact t_X7_takesOff_157 S fin h hw (lv_sub hl [1, 2, 3, 4] rfl)
set_option maxHeartbeats 4000000 in
set_option maxRecDepth 100000 in
theorem t_X7_takesOff_13 {p : Program} {l : Launch} {e : Env} {s : State} {m : MethodId} {args : Array Value} {below : List Frame} {meth : Method} {c : Code} {Q : State → Prop} {D : va_G} {I : ch_Id} {sh : Nat → Nat} {A : Nat → Prop} {oo : Int32 × ch_Mem}    {k13 : Int32 → Int32 → Int32 → Int32 → Int32 → Int32 → ch_Mem → Option (Int32 × ch_Mem)} (S : CallFix p m c cX7_takesOff 10 s args wsX7_takesOff RX7) (fin : ch_FinZ p l e rm_X7_takesOff s m args below meth c cX7_takesOff Q D I 13 (ch_FM I sh) sh A oo) (hk13 : ∀ (x1 : Int32) (x2 : Int32) (x3 : Int32) (x4 : Int32) (x5 : Int32) (x6 : Int32) (M : ch_Mem) (H : Heap) (locs : List Loc) (ls : Array Slot), k13 x1 x2 x3 x4 x5 x6 M = some oo → ch_Wd D I 13 (ch_FM I sh) sh s A M H locs → lv_has ls 10 [(0, .ref (sh 0)), (1, .int x1), (2, .int x2), (3, .int x3), (4, .int x4), (5, .int x5), (6, .int x6)] → W p l e rm_X7_takesOff s m args below meth c H locs 0 0 Q (F0 m 13 ls [])) {x1 : Int32} {x2 : Int32} {x3 : Int32} {x4 : Int32} {x5 : Int32} {x6 : Int32}  {M : ch_Mem} {H : Heap} {locs : List Loc} {ls : Array Slot} (h : D_X7_takesOff_b13 k13 x1 x2 x3 x4 x5 x6 M = some oo) (hw : ch_Wd D I 13 (ch_FM I sh) sh s A M H locs) (hl : lv_has ls 10 [(0, .ref (sh 0)), (1, .int x1), (2, .int x2), (3, .int x3), (4, .int x4), (5, .int x5), (6, .int x6)]) : W p l e rm_X7_takesOff s m args below meth c H locs 0 0 Q (F0 m 13 ls []) := by
  obtain ⟨hx, hb, hml, hown, hts⟩ := id S
  unfold D_X7_takesOff_b13 at h
  refine lv_iload hx hb dX7_takesOff_13 (lv_at hl 6 rfl) ?_
  refine lv_bipush (v := (8 : Int32)) hx hb dX7_takesOff_15 (by decide) ?_
  refine ch_icmp_ge (tgt := 129) hx hb dX7_takesOff_17 (by decide) h (fun h => ?_) (fun h => ?_)
  · exact t_X7_takesOff_129 S fin h hw (lv_sub hl [0, 1, 3, 4, 5] rfl)
  · refine lv_iconst (v := (0 : Int32)) hx hb dX7_takesOff_20 (by decide) ?_
    refine lv_istore (lv' := [(7, .int (0 : Int32)), (0, .ref (sh 0)), (1, .int x1), (2, .int x2), (3, .int x3), (4, .int x4), (5, .int x5), (6, .int x6)]) hx hb dX7_takesOff_21 hl (by decide) rfl (fun ls hl => ?_)
    exact tl_X7_takesOff_23 S fin hk13 ch_fu _ _ _ _ _ _ _ _ _ _ _ h hw (lv_sub hl [1, 2, 3, 4, 5, 6, 7, 0] rfl)
set_option maxHeartbeats 4000000 in
set_option maxRecDepth 100000 in
theorem tl_X7_takesOff_13 {p : Program} {l : Launch} {e : Env} {s : State} {m : MethodId} {args : Array Value} {below : List Frame} {meth : Method} {c : Code} {Q : State → Prop} {D : va_G} {I : ch_Id} {sh : Nat → Nat} {A : Nat → Prop} {oo : Int32 × ch_Mem}     (S : CallFix p m c cX7_takesOff 10 s args wsX7_takesOff RX7) (fin : ch_FinZ p l e rm_X7_takesOff s m args below meth c cX7_takesOff Q D I 13 (ch_FM I sh) sh A oo)  (n : Nat) : ∀ (x1 : Int32) (x2 : Int32) (x3 : Int32) (x4 : Int32) (x5 : Int32) (x6 : Int32) (M : ch_Mem) (H : Heap) (locs : List Loc) (ls : Array Slot), D_X7_takesOff_L13  n x1 x2 x3 x4 x5 x6 M = some oo → ch_Wd D I 13 (ch_FM I sh) sh s A M H locs → lv_has ls 10 [(0, .ref (sh 0)), (1, .int x1), (2, .int x2), (3, .int x3), (4, .int x4), (5, .int x5), (6, .int x6)] → W p l e rm_X7_takesOff s m args below meth c H locs 0 0 Q (F0 m 13 ls []) := by
  induction n with
  | zero => intro x1 x2 x3 x4 x5 x6 M H locs ls  h; cases h
  | succ n ih =>
    intro x1 x2 x3 x4 x5 x6 M H locs ls  h hw hl
    exact t_X7_takesOff_13 S fin ih h hw hl
set_option maxHeartbeats 4000000 in
set_option maxRecDepth 100000 in
theorem t_X7_takesOff_0 {p : Program} {l : Launch} {e : Env} {s : State} {m : MethodId} {args : Array Value} {below : List Frame} {meth : Method} {c : Code} {Q : State → Prop} {D : va_G} {I : ch_Id} {sh : Nat → Nat} {A : Nat → Prop} {oo : Int32 × ch_Mem}     (S : CallFix p m c cX7_takesOff 10 s args wsX7_takesOff RX7) (fin : ch_FinZ p l e rm_X7_takesOff s m args below meth c cX7_takesOff Q D I 13 (ch_FM I sh) sh A oo)  {x1 : Int32}  {M : ch_Mem} {H : Heap} {locs : List Loc} {ls : Array Slot} (h : D_X7_takesOff x1 M = some oo) (hw : ch_Wd D I 13 (ch_FM I sh) sh s A M H locs) (hl : lv_has ls 10 [(0, .ref (sh 0)), (1, .int x1)]) : W p l e rm_X7_takesOff s m args below meth c H locs 0 0 Q (F0 m 0 ls []) := by
  obtain ⟨hx, hb, hml, hown, hts⟩ := id S
  unfold D_X7_takesOff at h
  refine lv_iconst (v := (-1 : Int32)) hx hb dX7_takesOff_0 (by decide) ?_
  refine lv_istore_n (lv' := [(2, .int (-1 : Int32)), (0, .ref (sh 0)), (1, .int x1)]) hx hb dX7_takesOff_1 rfl hl (by decide) rfl (fun ls hl => ?_)
  refine lv_iconst (v := (0 : Int32)) hx hb dX7_takesOff_2 (by decide) ?_
  refine lv_istore_n (lv' := [(3, .int (0 : Int32)), (2, .int (-1 : Int32)), (0, .ref (sh 0)), (1, .int x1)]) hx hb dX7_takesOff_3 rfl hl (by decide) rfl (fun ls hl => ?_)
  refine lv_iconst (v := (0 : Int32)) hx hb dX7_takesOff_4 (by decide) ?_
  refine lv_istore (lv' := [(4, .int (0 : Int32)), (3, .int (0 : Int32)), (2, .int (-1 : Int32)), (0, .ref (sh 0)), (1, .int x1)]) hx hb dX7_takesOff_5 hl (by decide) rfl (fun ls hl => ?_)
  refine lv_iconst (v := (0 : Int32)) hx hb dX7_takesOff_7 (by decide) ?_
  refine lv_istore (lv' := [(5, .int (0 : Int32)), (4, .int (0 : Int32)), (3, .int (0 : Int32)), (2, .int (-1 : Int32)), (0, .ref (sh 0)), (1, .int x1)]) hx hb dX7_takesOff_8 hl (by decide) rfl (fun ls hl => ?_)
  refine lv_iconst (v := (0 : Int32)) hx hb dX7_takesOff_10 (by decide) ?_
  refine lv_istore (lv' := [(6, .int (0 : Int32)), (5, .int (0 : Int32)), (4, .int (0 : Int32)), (3, .int (0 : Int32)), (2, .int (-1 : Int32)), (0, .ref (sh 0)), (1, .int x1)]) hx hb dX7_takesOff_11 hl (by decide) rfl (fun ls hl => ?_)
  exact tl_X7_takesOff_13 S fin ch_fu _ _ _ _ _ _ _ _ _ _ h hw (lv_sub hl [5, 6, 4, 3, 2, 1, 0] rfl)
set_option maxHeartbeats 4000000 in
set_option maxRecDepth 100000 in
theorem c_X7_takesOff (l : Launch) (D : va_G) (I : ch_Id) (sh : Nat → Nat) (sz : Nat) (M : ch_Mem)  (x1 : Int32) {r : Int32} {M1 : ch_Mem} (h : D_X7_takesOff x1 M = some (r, M1)) : Met l yX7_takesOff wsX7_takesOff rm_X7_takesOff (va_Pc [.ref (sh 0), .int x1] (ch_Pre D I 13 (ch_FM I sh) sh sz M)) (va_Qi (fun r' (u : ch_Mem) => r' = r ∧ u = M1) (ch_Pos D 13 (ch_FM I sh) sh) (ch_A 13 sh sz)) 0 0 (ch_A 13 sh sz) := by
  refine Met.ofW (cc := cX7_takesOff) (maxL := 10) (ret := (some .boolean)) (by decide) rfl ?_
  intro p e s m args below meth c s₁ B hml hv0
  obtain ⟨rfl, hv0⟩ := hv0
  obtain rfl : s.heap.size = sz := hv0.1
  have hw := ch_start hv0
  have S : CallFix p m c cX7_takesOff 10 s _ wsX7_takesOff RX7 := ⟨B.exec, B.bytes, hml, findClass_of_methodNamed B.named, atoms_spec (ws := wsX7_takesOff) B.pre⟩
  have hl := lv_entry ([.ref (sh 0), .int x1]) (n := 10) (Nat.le_of_ble_eq_true rfl)
  rw [lg_entry_eq]
  generalize (lg_sl ([.ref (sh 0), .int x1]) ++ List.replicate (10 - (lg_sl ([.ref (sh 0), .int x1])).length) Slot.unset).toArray = ls at hl ⊢
  exact t_X7_takesOff_0 S (ch_finZ B.exec B.bytes B.returns B.notSynchronized) h hw (lv_sub hl [0, 1] rfl)
