set_option maxHeartbeats 4000000 in
set_option maxRecDepth 100000 in
theorem t_X7_peel_53 {p : Program} {l : Launch} {e : Env} {s : State} {m : MethodId} {args : Array Value} {below : List Frame} {meth : Method} {c : Code} {Q : State → Prop} {D : va_G} {I : ch_Id} {sh : Nat → Nat} {A : Nat → Prop} {oo : Int32 × ch_Mem}    {k29 : Int32 → Int32 → Int32 → Int32 → ch_Mem → Option (Int32 × ch_Mem)} (S : CallFix p m c cX7_peel 5 s args wsX7_peel RX7) (fin : ch_FinI p l e rm_X7_peel s m args below meth c cX7_peel Q D I 13 (ch_FM I sh) sh A oo) (hk29 : ∀ (x1 : Int32) (x2 : Int32) (x3 : Int32) (x4 : Int32) (M : ch_Mem) (H : Heap) (locs : List Loc) (ls : Array Slot), k29 x1 x2 x3 x4 M = some oo → ch_Wd D I 13 (ch_FM I sh) sh s A M H locs → lv_has ls 5 [(0, .ref (sh 0)), (1, .int x1), (2, .int x2), (3, .int x3), (4, .int x4)] → W p l e rm_X7_peel s m args below meth c H locs 0 0 Q (F0 m 29 ls [])) {x1 : Int32} {x2 : Int32} {x4 : Int32} {y0 : Int32} {y1 : Int32}  {M : ch_Mem} {H : Heap} {locs : List Loc} {ls : Array Slot} (h : D_X7_peel_b53 k29 x1 x2 x4 y0 y1 M = some oo) (hw : ch_Wd D I 13 (ch_FM I sh) sh s A M H locs) (hl : lv_has ls 5 [(0, .ref (sh 0)), (1, .int x1), (2, .int x2), (4, .int x4)]) : W p l e rm_X7_peel s m args below meth c H locs 0 0 Q (F0 m 53 ls [.int y0, .int y1]) := by
  obtain ⟨hx, hb, hml, hown, hts⟩ := id S
  unfold D_X7_peel_b53 at h
  refine lv_ior hx hb dX7_peel_53 ?_
  refine lv_istore_n (lv' := [(3, .int (y1 ||| y0)), (0, .ref (sh 0)), (1, .int x1), (2, .int x2), (4, .int x4)]) hx hb dX7_peel_54 rfl hl (by decide) rfl (fun ls hl => ?_)
  refine lv_iinc (v := x4 + (1 : Int32)) (lv' := [(4, .int (x4 + (1 : Int32))), (3, .int (y1 ||| y0)), (0, .ref (sh 0)), (1, .int x1), (2, .int x2)]) hx hb dX7_peel_55 hl (k := 4) rfl rfl (by decide) rfl (fun ls hl => ?_)
  refine lv_goto (tgt := 29) hx hb dX7_peel_58 (by decide) ?_
  exact hk29 _ _ _ _ _ _ _ _  h hw (lv_sub hl [2, 3, 4, 1, 0] rfl)
set_option maxHeartbeats 4000000 in
set_option maxRecDepth 100000 in
theorem t_X7_peel_180 {p : Program} {l : Launch} {e : Env} {s : State} {m : MethodId} {args : Array Value} {below : List Frame} {meth : Method} {c : Code} {Q : State → Prop} {D : va_G} {I : ch_Id} {sh : Nat → Nat} {A : Nat → Prop} {oo : Int32 × ch_Mem}     (S : CallFix p m c cX7_peel 5 s args wsX7_peel RX7) (fin : ch_FinI p l e rm_X7_peel s m args below meth c cX7_peel Q D I 13 (ch_FM I sh) sh A oo)    {M : ch_Mem} {H : Heap} {locs : List Loc} {ls : Array Slot} (h : D_X7_peel_b180  M = some oo) (hw : ch_Wd D I 13 (ch_FM I sh) sh s A M H locs) (hl : lv_has ls 5 [(0, .ref (sh 0))]) : W p l e rm_X7_peel s m args below meth c H locs 0 0 Q (F0 m 180 ls []) := by
  obtain ⟨hx, hb, hml, hown, hts⟩ := id S
  unfold D_X7_peel_b180 at h
  refine lv_aload_n hx hb dX7_peel_180 rfl (lv_at hl 0 rfl) ?_
  refine ch_get S hw 0 (by decide) rfl rfl (by decide +kernel) 6 (by decide) (hts (.fieldLink RX7 121 "CodeHuntModel" "times" "I") (by decide +kernel)) rfl dX7_peel_181 ?_
  exact fin _ _ _ _ _ _ h hw dX7_peel_184
set_option maxHeartbeats 4000000 in
set_option maxRecDepth 100000 in
theorem t_X7_peel_142 {p : Program} {l : Launch} {e : Env} {s : State} {m : MethodId} {args : Array Value} {below : List Frame} {meth : Method} {c : Code} {Q : State → Prop} {D : va_G} {I : ch_Id} {sh : Nat → Nat} {A : Nat → Prop} {oo : Int32 × ch_Mem}    {k142 : Int32 → Int32 → ch_Mem → Option (Int32 × ch_Mem)} (S : CallFix p m c cX7_peel 5 s args wsX7_peel RX7) (fin : ch_FinI p l e rm_X7_peel s m args below meth c cX7_peel Q D I 13 (ch_FM I sh) sh A oo) (hk142 : ∀ (x2 : Int32) (x4 : Int32) (M : ch_Mem) (H : Heap) (locs : List Loc) (ls : Array Slot), k142 x2 x4 M = some oo → ch_Wd D I 13 (ch_FM I sh) sh s A M H locs → lv_has ls 5 [(0, .ref (sh 0)), (2, .int x2), (4, .int x4)] → W p l e rm_X7_peel s m args below meth c H locs 0 0 Q (F0 m 142 ls [])) {x2 : Int32} {x4 : Int32}  {M : ch_Mem} {H : Heap} {locs : List Loc} {ls : Array Slot} (h : D_X7_peel_b142 k142 x2 x4 M = some oo) (hw : ch_Wd D I 13 (ch_FM I sh) sh s A M H locs) (hl : lv_has ls 5 [(0, .ref (sh 0)), (2, .int x2), (4, .int x4)]) : W p l e rm_X7_peel s m args below meth c H locs 0 0 Q (F0 m 142 ls []) := by
  obtain ⟨hx, hb, hml, hown, hts⟩ := id S
  unfold D_X7_peel_b142 at h
  refine lv_iload hx hb dX7_peel_142 (lv_at hl 2 rfl) ?_
  refine lv_iload_n hx hb dX7_peel_144 rfl (lv_at hl 1 rfl) ?_
  refine ch_icmp_ge (tgt := 180) hx hb dX7_peel_145 (by decide) h (fun h => ?_) (fun h => ?_)
  · exact t_X7_peel_180 S fin h hw (lv_sub hl [0] rfl)
  · refine lv_aload_n hx hb dX7_peel_148 rfl (lv_at hl 0 rfl) ?_
    refine lv_dup hx hb dX7_peel_149 rfl ?_
    refine ch_get S hw 0 (by decide) rfl rfl (by decide +kernel) 9 (by decide) (hts (.fieldLink RX7 127 "CodeHuntModel" "noise" "J") (by decide +kernel)) rfl dX7_peel_150 ?_
    refine lv_aload_n hx hb dX7_peel_153 rfl (lv_at hl 0 rfl) ?_
    refine ch_get S hw 0 (by decide) rfl rfl (by decide +kernel) 8 (by decide) (hts (.fieldLink RX7 26 "CodeHuntModel" "left" "[I") (by decide +kernel)) rfl dX7_peel_154 ?_
    refine lv_iload hx hb dX7_peel_157 (lv_at hl 2 rfl) ?_
    refine ch_gd_k h (fun hin h => ?_)
    refine ch_iald S hw 5 (by decide) rfl hin dX7_peel_159 ?_
    refine lv_i2l hx hb dX7_peel_160 rfl ?_
    refine lv_aload_n hx hb dX7_peel_161 rfl (lv_at hl 0 rfl) ?_
    refine ch_get S hw 0 (by decide) rfl rfl (by decide +kernel) 8 (by decide) (hts (.fieldLink RX7 26 "CodeHuntModel" "left" "[I") (by decide +kernel)) rfl dX7_peel_162 ?_
    refine lv_iload hx hb dX7_peel_165 (lv_at hl 2 rfl) ?_
    refine ch_gd_k h (fun hin h => ?_)
    refine ch_iald S hw 5 (by decide) rfl hin dX7_peel_167 ?_
    refine lv_i2l hx hb dX7_peel_168 rfl ?_
    refine lv_lmul hx hb dX7_peel_169 ?_
    refine lv_ladd hx hb dX7_peel_170 ?_
    refine ch_put (M1 := ch_wL M 0 9 ((M.2 0 9) + (((M.1 5 x4.toNatClampNeg).toInt64) * ((M.1 5 x4.toNatClampNeg).toInt64)))) (ty := .long) S hw 0 (by decide) rfl rfl (by decide +kernel) tyX7 tyX7_ok nmX7 9 (by decide) (hts (.fieldLink RX7 127 "CodeHuntModel" "noise" "J") (by decide +kernel)) rfl (by decide +kernel) rfl rfl (Nat.le_of_ble_eq_true rfl) (ch_cf_wL (j := 9) (v := ((M.2 0 9) + (((M.1 5 x4.toNatClampNeg).toInt64) * ((M.1 5 x4.toNatClampNeg).toInt64)))) rfl) dX7_peel_171 (fun H locs hw => ?_)
    refine lv_iinc (v := x4 + (1 : Int32)) (lv' := [(4, .int (x4 + (1 : Int32))), (0, .ref (sh 0)), (2, .int x2)]) hx hb dX7_peel_174 hl (k := 2) rfl rfl (by decide) rfl (fun ls hl => ?_)
    refine lv_goto (tgt := 142) hx hb dX7_peel_177 (by decide) ?_
    exact hk142 _ _ _ _ _ _  h hw (lv_sub hl [1, 2, 0] rfl)
set_option maxHeartbeats 4000000 in
set_option maxRecDepth 100000 in
theorem tl_X7_peel_142 {p : Program} {l : Launch} {e : Env} {s : State} {m : MethodId} {args : Array Value} {below : List Frame} {meth : Method} {c : Code} {Q : State → Prop} {D : va_G} {I : ch_Id} {sh : Nat → Nat} {A : Nat → Prop} {oo : Int32 × ch_Mem}     (S : CallFix p m c cX7_peel 5 s args wsX7_peel RX7) (fin : ch_FinI p l e rm_X7_peel s m args below meth c cX7_peel Q D I 13 (ch_FM I sh) sh A oo)  (n : Nat) : ∀ (x2 : Int32) (x4 : Int32) (M : ch_Mem) (H : Heap) (locs : List Loc) (ls : Array Slot), D_X7_peel_L142  n x2 x4 M = some oo → ch_Wd D I 13 (ch_FM I sh) sh s A M H locs → lv_has ls 5 [(0, .ref (sh 0)), (2, .int x2), (4, .int x4)] → W p l e rm_X7_peel s m args below meth c H locs 0 0 Q (F0 m 142 ls []) := by
  induction n with
  | zero => intro x2 x4 M H locs ls  h; cases h
  | succ n ih =>
    intro x2 x4 M H locs ls  h hw hl
    exact t_X7_peel_142 S fin ih h hw hl
set_option maxHeartbeats 4000000 in
set_option maxRecDepth 100000 in
theorem t_X7_peel_134 {p : Program} {l : Launch} {e : Env} {s : State} {m : MethodId} {args : Array Value} {below : List Frame} {meth : Method} {c : Code} {Q : State → Prop} {D : va_G} {I : ch_Id} {sh : Nat → Nat} {A : Nat → Prop} {oo : Int32 × ch_Mem}     (S : CallFix p m c cX7_peel 5 s args wsX7_peel RX7) (fin : ch_FinI p l e rm_X7_peel s m args below meth c cX7_peel Q D I 13 (ch_FM I sh) sh A oo)  {x2 : Int32}  {M : ch_Mem} {H : Heap} {locs : List Loc} {ls : Array Slot} (h : D_X7_peel_b134 x2 M = some oo) (hw : ch_Wd D I 13 (ch_FM I sh) sh s A M H locs) (hl : lv_has ls 5 [(0, .ref (sh 0)), (2, .int x2)]) : W p l e rm_X7_peel s m args below meth c H locs 0 0 Q (F0 m 134 ls []) := by
  obtain ⟨hx, hb, hml, hown, hts⟩ := id S
  unfold D_X7_peel_b134 at h
  refine lv_aload_n hx hb dX7_peel_134 rfl (lv_at hl 0 rfl) ?_
  refine lv_lconst (v := (0 : Int64)) hx hb dX7_peel_135 (by decide) ?_
  refine ch_put (M1 := ch_wL M 0 9 (0 : Int64)) (ty := .long) S hw 0 (by decide) rfl rfl (by decide +kernel) tyX7 tyX7_ok nmX7 9 (by decide) (hts (.fieldLink RX7 127 "CodeHuntModel" "noise" "J") (by decide +kernel)) rfl (by decide +kernel) rfl rfl (Nat.le_of_ble_eq_true rfl) (ch_cf_wL (j := 9) (v := (0 : Int64)) rfl) dX7_peel_136 (fun H locs hw => ?_)
  refine lv_iconst (v := (0 : Int32)) hx hb dX7_peel_139 (by decide) ?_
  refine lv_istore (lv' := [(4, .int (0 : Int32)), (0, .ref (sh 0)), (2, .int x2)]) hx hb dX7_peel_140 hl (by decide) rfl (fun ls hl => ?_)
  exact tl_X7_peel_142 S fin ch_fu _ _ _ _ _ _ h hw (lv_sub hl [1, 2, 0] rfl)
set_option maxHeartbeats 4000000 in
set_option maxRecDepth 100000 in
theorem t_X7_peel_104 {p : Program} {l : Launch} {e : Env} {s : State} {m : MethodId} {args : Array Value} {below : List Frame} {meth : Method} {c : Code} {Q : State → Prop} {D : va_G} {I : ch_Id} {sh : Nat → Nat} {A : Nat → Prop} {oo : Int32 × ch_Mem}    {k104 : Int32 → ch_Mem → Option (Int32 × ch_Mem)} (S : CallFix p m c cX7_peel 5 s args wsX7_peel RX7) (fin : ch_FinI p l e rm_X7_peel s m args below meth c cX7_peel Q D I 13 (ch_FM I sh) sh A oo) (hk104 : ∀ (x2 : Int32) (M : ch_Mem) (H : Heap) (locs : List Loc) (ls : Array Slot), k104 x2 M = some oo → ch_Wd D I 13 (ch_FM I sh) sh s A M H locs → lv_has ls 5 [(0, .ref (sh 0)), (2, .int x2)] → W p l e rm_X7_peel s m args below meth c H locs 0 0 Q (F0 m 104 ls [])) {x2 : Int32}  {M : ch_Mem} {H : Heap} {locs : List Loc} {ls : Array Slot} (h : D_X7_peel_b104 k104 x2 M = some oo) (hw : ch_Wd D I 13 (ch_FM I sh) sh s A M H locs) (hl : lv_has ls 5 [(0, .ref (sh 0)), (2, .int x2)]) : W p l e rm_X7_peel s m args below meth c H locs 0 0 Q (F0 m 104 ls []) := by
  obtain ⟨hx, hb, hml, hown, hts⟩ := id S
  unfold D_X7_peel_b104 at h
  refine lv_aload_n hx hb dX7_peel_104 rfl (lv_at hl 0 rfl) ?_
  refine ch_get S hw 0 (by decide) rfl rfl (by decide +kernel) 6 (by decide) (hts (.fieldLink RX7 121 "CodeHuntModel" "times" "I") (by decide +kernel)) rfl dX7_peel_105 ?_
  refine lv_bipush (v := (20 : Int32)) hx hb dX7_peel_108 (by decide) ?_
  refine ch_icmp_ge (tgt := 134) hx hb dX7_peel_110 (by decide) h (fun h => ?_) (fun h => ?_)
  · exact t_X7_peel_134 S fin h hw (lv_sub hl [0, 1] rfl)
  · refine lv_aload_n hx hb dX7_peel_113 rfl (lv_at hl 0 rfl) ?_
    refine lv_iload_n hx hb dX7_peel_114 rfl (lv_at hl 1 rfl) ?_
    refine ch_bd_k h (fun r1 M2 hc h => ?_)
    refine ch_ci hw (va_runV (As := [.int x2]) (rest := []) S (c_X7_takesOff l D I sh H.size M x2 hc) (cwV 1 hts gX7_peel_X7_takesOff rfl rfl rfl (by decide +kernel) ⟨Nat.le_of_ble_eq_true rfl, Nat.le_of_ble_eq_true rfl⟩) (ch_pV hw (by decide) rfl rfl rfl) rfl rfl hl.1 rfl (lv_room (Nat.le_of_ble_eq_true rfl)) dX7_peel_115 ⟨Nat.le_refl 0, Nat.le_refl 0⟩) (fun H locs hw => ?_)
    refine ch_if_eq (tgt := 134) hx hb dX7_peel_118 (by decide) h (fun h => ?_) (fun h => ?_)
    · exact t_X7_peel_134 S fin h hw (lv_sub hl [0, 1] rfl)
    · refine lv_aload_n hx hb dX7_peel_121 rfl (lv_at hl 0 rfl) ?_
      refine lv_dup hx hb dX7_peel_122 rfl ?_
      refine ch_get S hw 0 (by decide) rfl rfl (by decide +kernel) 6 (by decide) (hts (.fieldLink RX7 121 "CodeHuntModel" "times" "I") (by decide +kernel)) rfl dX7_peel_123 ?_
      refine lv_iconst (v := (1 : Int32)) hx hb dX7_peel_126 (by decide) ?_
      refine lv_iadd hx hb dX7_peel_127 ?_
      refine ch_put (M1 := ch_wI M2 0 6 ((M2.1 0 6) + (1 : Int32))) (ty := .int) S hw 0 (by decide) rfl rfl (by decide +kernel) tyX7 tyX7_ok nmX7 6 (by decide) (hts (.fieldLink RX7 121 "CodeHuntModel" "times" "I") (by decide +kernel)) rfl (by decide +kernel) rfl rfl (Nat.le_of_ble_eq_true rfl) (ch_cf_wI (j := 6) (v := ((M2.1 0 6) + (1 : Int32))) rfl) dX7_peel_128 (fun H locs hw => ?_)
      refine lv_goto (tgt := 104) hx hb dX7_peel_131 (by decide) ?_
      exact hk104 _ _ _ _ _  h hw (lv_sub hl [0, 1] rfl)
set_option maxHeartbeats 4000000 in
set_option maxRecDepth 100000 in
theorem tl_X7_peel_104 {p : Program} {l : Launch} {e : Env} {s : State} {m : MethodId} {args : Array Value} {below : List Frame} {meth : Method} {c : Code} {Q : State → Prop} {D : va_G} {I : ch_Id} {sh : Nat → Nat} {A : Nat → Prop} {oo : Int32 × ch_Mem}     (S : CallFix p m c cX7_peel 5 s args wsX7_peel RX7) (fin : ch_FinI p l e rm_X7_peel s m args below meth c cX7_peel Q D I 13 (ch_FM I sh) sh A oo)  (n : Nat) : ∀ (x2 : Int32) (M : ch_Mem) (H : Heap) (locs : List Loc) (ls : Array Slot), D_X7_peel_L104  n x2 M = some oo → ch_Wd D I 13 (ch_FM I sh) sh s A M H locs → lv_has ls 5 [(0, .ref (sh 0)), (2, .int x2)] → W p l e rm_X7_peel s m args below meth c H locs 0 0 Q (F0 m 104 ls []) := by
  induction n with
  | zero => intro x2 M H locs ls  h; cases h
  | succ n ih =>
    intro x2 M H locs ls  h hw hl
    exact t_X7_peel_104 S fin ih h hw hl
set_option maxHeartbeats 4000000 in
set_option maxRecDepth 100000 in
theorem t_X7_peel_99 {p : Program} {l : Launch} {e : Env} {s : State} {m : MethodId} {args : Array Value} {below : List Frame} {meth : Method} {c : Code} {Q : State → Prop} {D : va_G} {I : ch_Id} {sh : Nat → Nat} {A : Nat → Prop} {oo : Int32 × ch_Mem}     (S : CallFix p m c cX7_peel 5 s args wsX7_peel RX7) (fin : ch_FinI p l e rm_X7_peel s m args below meth c cX7_peel Q D I 13 (ch_FM I sh) sh A oo)  {x2 : Int32}  {M : ch_Mem} {H : Heap} {locs : List Loc} {ls : Array Slot} (h : D_X7_peel_b99 x2 M = some oo) (hw : ch_Wd D I 13 (ch_FM I sh) sh s A M H locs) (hl : lv_has ls 5 [(0, .ref (sh 0)), (2, .int x2)]) : W p l e rm_X7_peel s m args below meth c H locs 0 0 Q (F0 m 99 ls []) := by
  obtain ⟨hx, hb, hml, hown, hts⟩ := id S
  unfold D_X7_peel_b99 at h
  refine lv_aload_n hx hb dX7_peel_99 rfl (lv_at hl 0 rfl) ?_
  refine lv_iconst (v := (0 : Int32)) hx hb dX7_peel_100 (by decide) ?_
  refine ch_put (M1 := ch_wI M 0 6 (0 : Int32)) (ty := .int) S hw 0 (by decide) rfl rfl (by decide +kernel) tyX7 tyX7_ok nmX7 6 (by decide) (hts (.fieldLink RX7 121 "CodeHuntModel" "times" "I") (by decide +kernel)) rfl (by decide +kernel) rfl rfl (Nat.le_of_ble_eq_true rfl) (ch_cf_wI (j := 6) (v := (0 : Int32)) rfl) dX7_peel_101 (fun H locs hw => ?_)
  exact tl_X7_peel_104 S fin ch_fu _ _ _ _ _ h hw (lv_sub hl [0, 1] rfl)
set_option maxHeartbeats 4000000 in
set_option maxRecDepth 100000 in
theorem t_X7_peel_71 {p : Program} {l : Launch} {e : Env} {s : State} {m : MethodId} {args : Array Value} {below : List Frame} {meth : Method} {c : Code} {Q : State → Prop} {D : va_G} {I : ch_Id} {sh : Nat → Nat} {A : Nat → Prop} {oo : Int32 × ch_Mem}    {k71 : Int32 → Int32 → Int32 → ch_Mem → Option (Int32 × ch_Mem)} (S : CallFix p m c cX7_peel 5 s args wsX7_peel RX7) (fin : ch_FinI p l e rm_X7_peel s m args below meth c cX7_peel Q D I 13 (ch_FM I sh) sh A oo) (hk71 : ∀ (x1 : Int32) (x2 : Int32) (x4 : Int32) (M : ch_Mem) (H : Heap) (locs : List Loc) (ls : Array Slot), k71 x1 x2 x4 M = some oo → ch_Wd D I 13 (ch_FM I sh) sh s A M H locs → lv_has ls 5 [(0, .ref (sh 0)), (1, .int x1), (2, .int x2), (4, .int x4)] → W p l e rm_X7_peel s m args below meth c H locs 0 0 Q (F0 m 71 ls [])) {x1 : Int32} {x2 : Int32} {x4 : Int32}  {M : ch_Mem} {H : Heap} {locs : List Loc} {ls : Array Slot} (h : D_X7_peel_b71 k71 x1 x2 x4 M = some oo) (hw : ch_Wd D I 13 (ch_FM I sh) sh s A M H locs) (hl : lv_has ls 5 [(0, .ref (sh 0)), (1, .int x1), (2, .int x2), (4, .int x4)]) : W p l e rm_X7_peel s m args below meth c H locs 0 0 Q (F0 m 71 ls []) := by
  obtain ⟨hx, hb, hml, hown, hts⟩ := id S
  unfold D_X7_peel_b71 at h
  refine lv_iload hx hb dX7_peel_71 (lv_at hl 3 rfl) ?_
  refine lv_iload_n hx hb dX7_peel_73 rfl (lv_at hl 2 rfl) ?_
  refine ch_icmp_ge (tgt := 99) hx hb dX7_peel_74 (by decide) h (fun h => ?_) (fun h => ?_)
  · exact t_X7_peel_99 S fin h hw (lv_sub hl [0, 2] rfl)
  · refine lv_aload_n hx hb dX7_peel_77 rfl (lv_at hl 0 rfl) ?_
    refine ch_get S hw 0 (by decide) rfl rfl (by decide +kernel) 8 (by decide) (hts (.fieldLink RX7 26 "CodeHuntModel" "left" "[I") (by decide +kernel)) rfl dX7_peel_78 ?_
    refine lv_iload hx hb dX7_peel_81 (lv_at hl 3 rfl) ?_
    refine lv_aload_n hx hb dX7_peel_83 rfl (lv_at hl 0 rfl) ?_
    refine lv_iconst (v := (0 : Int32)) hx hb dX7_peel_84 (by decide) ?_
    refine lv_iload_n hx hb dX7_peel_85 rfl (lv_at hl 1 rfl) ?_
    refine lv_iload hx hb dX7_peel_86 (lv_at hl 3 rfl) ?_
    refine lv_iadd hx hb dX7_peel_88 ?_
    refine ch_bd_k h (fun r1 M2 hc h => ?_)
    refine ch_ci hw (va_runV (As := [.int (0 : Int32), .int (x1 + x4)]) (rest := [.int x4, .ref (sh 5)]) S (c_X7_sample l D I sh H.size M (0 : Int32) (x1 + x4) hc) (cwV 2 hts gX7_peel_X7_sample rfl rfl rfl (by decide +kernel) ⟨Nat.le_of_ble_eq_true rfl, Nat.le_of_ble_eq_true rfl⟩) (ch_pV hw (by decide) rfl rfl rfl) rfl rfl hl.1 rfl (lv_room (Nat.le_of_ble_eq_true rfl)) dX7_peel_89 ⟨Nat.le_refl 0, Nat.le_refl 0⟩) (fun H locs hw => ?_)
    refine ch_gd_k h (fun hin h => ?_)
    refine ch_iast S hw 5 (by decide) (fun _ => rfl) hin dX7_peel_92 (fun H locs hw => ?_)
    refine lv_iinc (v := x4 + (1 : Int32)) (lv' := [(4, .int (x4 + (1 : Int32))), (0, .ref (sh 0)), (1, .int x1), (2, .int x2)]) hx hb dX7_peel_93 hl (k := 3) rfl rfl (by decide) rfl (fun ls hl => ?_)
    refine lv_goto (tgt := 71) hx hb dX7_peel_96 (by decide) ?_
    exact hk71 _ _ _ _ _ _ _  h hw (lv_sub hl [1, 2, 3, 0] rfl)
set_option maxHeartbeats 4000000 in
set_option maxRecDepth 100000 in
theorem tl_X7_peel_71 {p : Program} {l : Launch} {e : Env} {s : State} {m : MethodId} {args : Array Value} {below : List Frame} {meth : Method} {c : Code} {Q : State → Prop} {D : va_G} {I : ch_Id} {sh : Nat → Nat} {A : Nat → Prop} {oo : Int32 × ch_Mem}     (S : CallFix p m c cX7_peel 5 s args wsX7_peel RX7) (fin : ch_FinI p l e rm_X7_peel s m args below meth c cX7_peel Q D I 13 (ch_FM I sh) sh A oo)  (n : Nat) : ∀ (x1 : Int32) (x2 : Int32) (x4 : Int32) (M : ch_Mem) (H : Heap) (locs : List Loc) (ls : Array Slot), D_X7_peel_L71  n x1 x2 x4 M = some oo → ch_Wd D I 13 (ch_FM I sh) sh s A M H locs → lv_has ls 5 [(0, .ref (sh 0)), (1, .int x1), (2, .int x2), (4, .int x4)] → W p l e rm_X7_peel s m args below meth c H locs 0 0 Q (F0 m 71 ls []) := by
  induction n with
  | zero => intro x1 x2 x4 M H locs ls  h; cases h
  | succ n ih =>
    intro x1 x2 x4 M H locs ls  h hw hl
    exact t_X7_peel_71 S fin ih h hw hl
set_option maxHeartbeats 4000000 in
set_option maxRecDepth 100000 in
theorem t_X7_peel_61 {p : Program} {l : Launch} {e : Env} {s : State} {m : MethodId} {args : Array Value} {below : List Frame} {meth : Method} {c : Code} {Q : State → Prop} {D : va_G} {I : ch_Id} {sh : Nat → Nat} {A : Nat → Prop} {oo : Int32 × ch_Mem}     (S : CallFix p m c cX7_peel 5 s args wsX7_peel RX7) (fin : ch_FinI p l e rm_X7_peel s m args below meth c cX7_peel Q D I 13 (ch_FM I sh) sh A oo)  {x1 : Int32} {x2 : Int32} {x3 : Int32}  {M : ch_Mem} {H : Heap} {locs : List Loc} {ls : Array Slot} (h : D_X7_peel_b61 x1 x2 x3 M = some oo) (hw : ch_Wd D I 13 (ch_FM I sh) sh s A M H locs) (hl : lv_has ls 5 [(0, .ref (sh 0)), (1, .int x1), (2, .int x2), (3, .int x3)]) : W p l e rm_X7_peel s m args below meth c H locs 0 0 Q (F0 m 61 ls []) := by
  obtain ⟨hx, hb, hml, hown, hts⟩ := id S
  unfold D_X7_peel_b61 at h
  refine lv_iload_n hx hb dX7_peel_61 rfl (lv_at hl 3 rfl) ?_
  refine ch_if_ne (tgt := 68) hx hb dX7_peel_62 (by decide) h (fun h => ?_) (fun h => ?_)
  · refine lv_iconst (v := (0 : Int32)) hx hb dX7_peel_68 (by decide) ?_
    refine lv_istore (lv' := [(4, .int (0 : Int32)), (0, .ref (sh 0)), (1, .int x1), (2, .int x2), (3, .int x3)]) hx hb dX7_peel_69 hl (by decide) rfl (fun ls hl => ?_)
    exact tl_X7_peel_71 S fin ch_fu _ _ _ _ _ _ _ h hw (lv_sub hl [1, 2, 3, 0] rfl)
  · refine lv_bipush (v := (-3 : Int32)) hx hb dX7_peel_65 (by decide) ?_
    exact fin _ _ _ _ _ _ h hw dX7_peel_67
set_option maxHeartbeats 4000000 in
set_option maxRecDepth 100000 in
theorem t_X7_peel_29 {p : Program} {l : Launch} {e : Env} {s : State} {m : MethodId} {args : Array Value} {below : List Frame} {meth : Method} {c : Code} {Q : State → Prop} {D : va_G} {I : ch_Id} {sh : Nat → Nat} {A : Nat → Prop} {oo : Int32 × ch_Mem}    {k29 : Int32 → Int32 → Int32 → Int32 → ch_Mem → Option (Int32 × ch_Mem)} (S : CallFix p m c cX7_peel 5 s args wsX7_peel RX7) (fin : ch_FinI p l e rm_X7_peel s m args below meth c cX7_peel Q D I 13 (ch_FM I sh) sh A oo) (hk29 : ∀ (x1 : Int32) (x2 : Int32) (x3 : Int32) (x4 : Int32) (M : ch_Mem) (H : Heap) (locs : List Loc) (ls : Array Slot), k29 x1 x2 x3 x4 M = some oo → ch_Wd D I 13 (ch_FM I sh) sh s A M H locs → lv_has ls 5 [(0, .ref (sh 0)), (1, .int x1), (2, .int x2), (3, .int x3), (4, .int x4)] → W p l e rm_X7_peel s m args below meth c H locs 0 0 Q (F0 m 29 ls [])) {x1 : Int32} {x2 : Int32} {x3 : Int32} {x4 : Int32}  {M : ch_Mem} {H : Heap} {locs : List Loc} {ls : Array Slot} (h : D_X7_peel_b29 k29 x1 x2 x3 x4 M = some oo) (hw : ch_Wd D I 13 (ch_FM I sh) sh s A M H locs) (hl : lv_has ls 5 [(0, .ref (sh 0)), (1, .int x1), (2, .int x2), (3, .int x3), (4, .int x4)]) : W p l e rm_X7_peel s m args below meth c H locs 0 0 Q (F0 m 29 ls []) := by
  obtain ⟨hx, hb, hml, hown, hts⟩ := id S
  unfold D_X7_peel_b29 at h
  refine lv_iload hx hb dX7_peel_29 (lv_at hl 4 rfl) ?_
  refine lv_bipush (v := (8 : Int32)) hx hb dX7_peel_31 (by decide) ?_
  refine ch_icmp_ge (tgt := 61) hx hb dX7_peel_33 (by decide) h (fun h => ?_) (fun h => ?_)
  · exact t_X7_peel_61 S fin h hw (lv_sub hl [0, 1, 2, 3] rfl)
  · refine lv_iload_n hx hb dX7_peel_36 rfl (lv_at hl 3 rfl) ?_
    refine lv_aload_n hx hb dX7_peel_37 rfl (lv_at hl 0 rfl) ?_
    refine ch_get S hw 0 (by decide) rfl rfl (by decide +kernel) 0 (by decide) (hts (.fieldLink RX7 7 "CodeHuntModel" "sizesOf" "[I") (by decide +kernel)) rfl dX7_peel_38 ?_
    refine lv_iload hx hb dX7_peel_41 (lv_at hl 4 rfl) ?_
    refine ch_gd_k h (fun hin h => ?_)
    refine ch_iald S hw 1 (by decide) rfl hin dX7_peel_43 ?_
    refine lv_iload_n hx hb dX7_peel_44 rfl (lv_at hl 2 rfl) ?_
    refine ch_icmp_ne (tgt := 52) hx hb dX7_peel_45 (by decide) h (fun h => ?_) (fun h => ?_)
    · refine lv_iconst (v := (0 : Int32)) hx hb dX7_peel_52 (by decide) ?_
      exact t_X7_peel_53 S fin hk29 h hw (lv_sub hl [0, 1, 2, 4] rfl)
    · refine lv_iconst (v := (1 : Int32)) hx hb dX7_peel_48 (by decide) ?_
      refine lv_goto (tgt := 53) hx hb dX7_peel_49 (by decide) ?_
      exact t_X7_peel_53 S fin hk29 h hw (lv_sub hl [0, 1, 2, 4] rfl)
set_option maxHeartbeats 4000000 in
set_option maxRecDepth 100000 in
theorem tl_X7_peel_29 {p : Program} {l : Launch} {e : Env} {s : State} {m : MethodId} {args : Array Value} {below : List Frame} {meth : Method} {c : Code} {Q : State → Prop} {D : va_G} {I : ch_Id} {sh : Nat → Nat} {A : Nat → Prop} {oo : Int32 × ch_Mem}     (S : CallFix p m c cX7_peel 5 s args wsX7_peel RX7) (fin : ch_FinI p l e rm_X7_peel s m args below meth c cX7_peel Q D I 13 (ch_FM I sh) sh A oo)  (n : Nat) : ∀ (x1 : Int32) (x2 : Int32) (x3 : Int32) (x4 : Int32) (M : ch_Mem) (H : Heap) (locs : List Loc) (ls : Array Slot), D_X7_peel_L29  n x1 x2 x3 x4 M = some oo → ch_Wd D I 13 (ch_FM I sh) sh s A M H locs → lv_has ls 5 [(0, .ref (sh 0)), (1, .int x1), (2, .int x2), (3, .int x3), (4, .int x4)] → W p l e rm_X7_peel s m args below meth c H locs 0 0 Q (F0 m 29 ls []) := by
  induction n with
  | zero => intro x1 x2 x3 x4 M H locs ls  h; cases h
  | succ n ih =>
    intro x1 x2 x3 x4 M H locs ls  h hw hl
    exact t_X7_peel_29 S fin ih h hw hl
set_option maxHeartbeats 4000000 in
set_option maxRecDepth 100000 in
theorem t_X7_peel_0 {p : Program} {l : Launch} {e : Env} {s : State} {m : MethodId} {args : Array Value} {below : List Frame} {meth : Method} {c : Code} {Q : State → Prop} {D : va_G} {I : ch_Id} {sh : Nat → Nat} {A : Nat → Prop} {oo : Int32 × ch_Mem}     (S : CallFix p m c cX7_peel 5 s args wsX7_peel RX7) (fin : ch_FinI p l e rm_X7_peel s m args below meth c cX7_peel Q D I 13 (ch_FM I sh) sh A oo)  {x1 : Int32} {x2 : Int32}  {M : ch_Mem} {H : Heap} {locs : List Loc} {ls : Array Slot} (h : D_X7_peel x1 x2 M = some oo) (hw : ch_Wd D I 13 (ch_FM I sh) sh s A M H locs) (hl : lv_has ls 5 [(0, .ref (sh 0)), (1, .int x1), (2, .int x2)]) : W p l e rm_X7_peel s m args below meth c H locs 0 0 Q (F0 m 0 ls []) := by
  obtain ⟨hx, hb, hml, hown, hts⟩ := id S
  unfold D_X7_peel at h
  refine lv_iload_n hx hb dX7_peel_0 rfl (lv_at hl 1 rfl) ?_
  refine lv_iconst (v := (0 : Int32)) hx hb dX7_peel_1 (by decide) ?_
  refine lv_sipush (v := (300 : Int32)) hx hb dX7_peel_2 (by decide) ?_
  refine ch_bd_k h (fun r1 M2 hc h => ?_)
  refine ch_ci hw (va_runS (As := [.int x1, .int (0 : Int32), .int (300 : Int32)]) (rest := []) S (c_X7_in l D I sh H.size M x1 (0 : Int32) (300 : Int32) hc) (va_cwS 3 hts gX7_peel_X7_in rfl rfl rfl (by decide +kernel) ⟨Nat.le_of_ble_eq_true rfl, Nat.le_of_ble_eq_true rfl⟩) (ch_pS hw) rfl rfl hl.1 rfl (lv_room (Nat.le_of_ble_eq_true rfl)) dX7_peel_5 ⟨Nat.le_refl 0, Nat.le_refl 0⟩) (fun H locs hw => ?_)
  refine ch_if_eq (tgt := 21) hx hb dX7_peel_8 (by decide) h (fun h => ?_) (fun h => ?_)
  · refine lv_bipush (v := (-2 : Int32)) hx hb dX7_peel_21 (by decide) ?_
    exact fin _ _ _ _ _ _ h hw dX7_peel_23
  · refine lv_iload_n hx hb dX7_peel_11 rfl (lv_at hl 2 rfl) ?_
    refine lv_iconst (v := (1 : Int32)) hx hb dX7_peel_12 (by decide) ?_
    refine lv_bipush (v := (127 : Int32)) hx hb dX7_peel_13 (by decide) ?_
    refine ch_bd_k h (fun r3 M4 hc h => ?_)
    refine ch_ci hw (va_runS (As := [.int x2, .int (1 : Int32), .int (127 : Int32)]) (rest := []) S (c_X7_in l D I sh H.size M2 x2 (1 : Int32) (127 : Int32) hc) (va_cwS 3 hts gX7_peel_X7_in rfl rfl rfl (by decide +kernel) ⟨Nat.le_of_ble_eq_true rfl, Nat.le_of_ble_eq_true rfl⟩) (ch_pS hw) rfl rfl hl.1 rfl (lv_room (Nat.le_of_ble_eq_true rfl)) dX7_peel_15 ⟨Nat.le_refl 0, Nat.le_refl 0⟩) (fun H locs hw => ?_)
    refine ch_if_ne (tgt := 24) hx hb dX7_peel_18 (by decide) h (fun h => ?_) (fun h => ?_)
    · refine lv_iconst (v := (0 : Int32)) hx hb dX7_peel_24 (by decide) ?_
      refine lv_istore_n (lv' := [(3, .int (0 : Int32)), (0, .ref (sh 0)), (1, .int x1), (2, .int x2)]) hx hb dX7_peel_25 rfl hl (by decide) rfl (fun ls hl => ?_)
      refine lv_iconst (v := (0 : Int32)) hx hb dX7_peel_26 (by decide) ?_
      refine lv_istore (lv' := [(4, .int (0 : Int32)), (3, .int (0 : Int32)), (0, .ref (sh 0)), (1, .int x1), (2, .int x2)]) hx hb dX7_peel_27 hl (by decide) rfl (fun ls hl => ?_)
      exact tl_X7_peel_29 S fin ch_fu _ _ _ _ _ _ _ _ h hw (lv_sub hl [2, 3, 4, 1, 0] rfl)
    · refine lv_bipush (v := (-2 : Int32)) hx hb dX7_peel_21 (by decide) ?_
      exact fin _ _ _ _ _ _ h hw dX7_peel_23
set_option maxHeartbeats 4000000 in
set_option maxRecDepth 100000 in
theorem c_X7_peel (l : Launch) (D : va_G) (I : ch_Id) (sh : Nat → Nat) (sz : Nat) (M : ch_Mem)  (x1 : Int32) (x2 : Int32) {r : Int32} {M1 : ch_Mem} (h : D_X7_peel x1 x2 M = some (r, M1)) : Met l yX7_peel wsX7_peel rm_X7_peel (va_Pc [.ref (sh 0), .int x1, .int x2] (ch_Pre D I 13 (ch_FM I sh) sh sz M)) (va_Qi (fun r' (u : ch_Mem) => r' = r ∧ u = M1) (ch_Pos D 13 (ch_FM I sh) sh) (ch_A 13 sh sz)) 0 0 (ch_A 13 sh sz) := by
  refine Met.ofW (cc := cX7_peel) (maxL := 5) (ret := (some .int)) (by decide) rfl ?_
  intro p e s m args below meth c s₁ B hml hv0
  obtain ⟨rfl, hv0⟩ := hv0
  obtain rfl : s.heap.size = sz := hv0.1
  have hw := ch_start hv0
  have S : CallFix p m c cX7_peel 5 s _ wsX7_peel RX7 := ⟨B.exec, B.bytes, hml, findClass_of_methodNamed B.named, atoms_spec (ws := wsX7_peel) B.pre⟩
  have hl := lv_entry ([.ref (sh 0), .int x1, .int x2]) (n := 5) (Nat.le_of_ble_eq_true rfl)
  rw [lg_entry_eq]
  generalize (lg_sl ([.ref (sh 0), .int x1, .int x2]) ++ List.replicate (5 - (lg_sl ([.ref (sh 0), .int x1, .int x2])).length) Slot.unset).toArray = ls at hl ⊢
  exact t_X7_peel_0 S (ch_finI (B := fun _ => True) B.exec B.bytes B.returns B.notSynchronized) h hw (lv_sub hl [0, 1, 2] rfl)
set_option maxHeartbeats 4000000 in
set_option maxRecDepth 100000 in
theorem t_X7_peeled_0 {p : Program} {l : Launch} {e : Env} {s : State} {m : MethodId} {args : Array Value} {below : List Frame} {meth : Method} {c : Code} {Q : State → Prop} {D : va_G} {I : ch_Id} {sh : Nat → Nat} {A : Nat → Prop} {oo : Int32 × ch_Mem}     (S : CallFix p m c cX7_peeled 3 s args wsX7_peeled RX7) (fin : ch_FinI p l e rm_X7_peeled s m args below meth c cX7_peeled Q D I 13 (ch_FM I sh) sh A oo)  {x1 : Int32} {x2 : Int32}  {M : ch_Mem} {H : Heap} {locs : List Loc} {ls : Array Slot} (h : D_X7_peeled x1 x2 M = some oo) (hw : ch_Wd D I 13 (ch_FM I sh) sh s A M H locs) (hl : lv_has ls 3 [(0, .ref (sh 0)), (1, .int x1), (2, .int x2)]) : W p l e rm_X7_peeled s m args below meth c H locs 0 0 Q (F0 m 0 ls []) := by
  obtain ⟨hx, hb, hml, hown, hts⟩ := id S
  unfold D_X7_peeled at h
  refine lv_iload_n hx hb dX7_peeled_0 rfl (lv_at hl 1 rfl) ?_
  refine lv_iconst (v := (0 : Int32)) hx hb dX7_peeled_1 (by decide) ?_
  refine lv_aload_n hx hb dX7_peeled_2 rfl (lv_at hl 0 rfl) ?_
  refine ch_get S hw 0 (by decide) rfl rfl (by decide +kernel) 6 (by decide) (hts (.fieldLink RX7 121 "CodeHuntModel" "times" "I") (by decide +kernel)) rfl dX7_peeled_3 ?_
  refine lv_iconst (v := (1 : Int32)) hx hb dX7_peeled_6 (by decide) ?_
  refine lv_isub hx hb dX7_peeled_7 ?_
  refine ch_bd_k h (fun r1 M2 hc h => ?_)
  refine ch_ci hw (va_runS (As := [.int x1, .int (0 : Int32), .int ((M.1 0 6) - (1 : Int32))]) (rest := []) S (c_X7_in l D I sh H.size M x1 (0 : Int32) ((M.1 0 6) - (1 : Int32)) hc) (va_cwS 3 hts gX7_peeled_X7_in rfl rfl rfl (by decide +kernel) ⟨Nat.le_of_ble_eq_true rfl, Nat.le_of_ble_eq_true rfl⟩) (ch_pS hw) rfl rfl hl.1 rfl (lv_room (Nat.le_of_ble_eq_true rfl)) dX7_peeled_8 ⟨Nat.le_refl 0, Nat.le_refl 0⟩) (fun H locs hw => ?_)
  refine ch_if_eq (tgt := 36) hx hb dX7_peeled_11 (by decide) h (fun h => ?_) (fun h => ?_)
  · refine lv_ldc (v := (-1000000 : Int32)) hx hb hown (hts (.constant RX7 130 (-1000000)) (by decide +kernel)) dX7_peeled_36 ?_
    exact fin _ _ _ _ _ _ h hw dX7_peeled_38
  · refine lv_iload_n hx hb dX7_peeled_14 rfl (lv_at hl 2 rfl) ?_
    refine lv_iconst (v := (0 : Int32)) hx hb dX7_peeled_15 (by decide) ?_
    refine lv_iconst (v := (2 : Int32)) hx hb dX7_peeled_16 (by decide) ?_
    refine ch_bd_k h (fun r3 M4 hc h => ?_)
    refine ch_ci hw (va_runS (As := [.int x2, .int (0 : Int32), .int (2 : Int32)]) (rest := []) S (c_X7_in l D I sh H.size M2 x2 (0 : Int32) (2 : Int32) hc) (va_cwS 3 hts gX7_peeled_X7_in rfl rfl rfl (by decide +kernel) ⟨Nat.le_of_ble_eq_true rfl, Nat.le_of_ble_eq_true rfl⟩) (ch_pS hw) rfl rfl hl.1 rfl (lv_room (Nat.le_of_ble_eq_true rfl)) dX7_peeled_17 ⟨Nat.le_refl 0, Nat.le_refl 0⟩) (fun H locs hw => ?_)
    refine ch_if_eq (tgt := 36) hx hb dX7_peeled_20 (by decide) h (fun h => ?_) (fun h => ?_)
    · refine lv_ldc (v := (-1000000 : Int32)) hx hb hown (hts (.constant RX7 130 (-1000000)) (by decide +kernel)) dX7_peeled_36 ?_
      exact fin _ _ _ _ _ _ h hw dX7_peeled_38
    · refine lv_aload_n hx hb dX7_peeled_23 rfl (lv_at hl 0 rfl) ?_
      refine ch_get S hw 0 (by decide) rfl rfl (by decide +kernel) 7 (by decide) (hts (.fieldLink RX7 23 "CodeHuntModel" "peeled" "[I") (by decide +kernel)) rfl dX7_peeled_24 ?_
      refine lv_iconst (v := (3 : Int32)) hx hb dX7_peeled_27 (by decide) ?_
      refine lv_iload_n hx hb dX7_peeled_28 rfl (lv_at hl 1 rfl) ?_
      refine lv_imul hx hb dX7_peeled_29 ?_
      refine lv_iload_n hx hb dX7_peeled_30 rfl (lv_at hl 2 rfl) ?_
      refine lv_iadd hx hb dX7_peeled_31 ?_
      refine ch_gd_k h (fun hin h => ?_)
      refine ch_iald S hw 4 (by decide) rfl hin dX7_peeled_32 ?_
      refine lv_goto (tgt := 38) hx hb dX7_peeled_33 (by decide) ?_
      exact fin _ _ _ _ _ _ h hw dX7_peeled_38
set_option maxHeartbeats 4000000 in
set_option maxRecDepth 100000 in
theorem c_X7_peeled (l : Launch) (D : va_G) (I : ch_Id) (sh : Nat → Nat) (sz : Nat) (M : ch_Mem)  (x1 : Int32) (x2 : Int32) {r : Int32} {M1 : ch_Mem} (h : D_X7_peeled x1 x2 M = some (r, M1)) : Met l yX7_peeled wsX7_peeled rm_X7_peeled (va_Pc [.ref (sh 0), .int x1, .int x2] (ch_Pre D I 13 (ch_FM I sh) sh sz M)) (va_Qi (fun r' (u : ch_Mem) => r' = r ∧ u = M1) (ch_Pos D 13 (ch_FM I sh) sh) (ch_A 13 sh sz)) 0 0 (ch_A 13 sh sz) := by
  refine Met.ofW (cc := cX7_peeled) (maxL := 3) (ret := (some .int)) (by decide) rfl ?_
  intro p e s m args below meth c s₁ B hml hv0
  obtain ⟨rfl, hv0⟩ := hv0
  obtain rfl : s.heap.size = sz := hv0.1
  have hw := ch_start hv0
  have S : CallFix p m c cX7_peeled 3 s _ wsX7_peeled RX7 := ⟨B.exec, B.bytes, hml, findClass_of_methodNamed B.named, atoms_spec (ws := wsX7_peeled) B.pre⟩
  have hl := lv_entry ([.ref (sh 0), .int x1, .int x2]) (n := 3) (Nat.le_of_ble_eq_true rfl)
  rw [lg_entry_eq]
  generalize (lg_sl ([.ref (sh 0), .int x1, .int x2]) ++ List.replicate (3 - (lg_sl ([.ref (sh 0), .int x1, .int x2])).length) Slot.unset).toArray = ls at hl ⊢
  exact t_X7_peeled_0 S (ch_finI (B := fun _ => True) B.exec B.bytes B.returns B.notSynchronized) h hw (lv_sub hl [0, 1, 2] rfl)
set_option maxHeartbeats 4000000 in
set_option maxRecDepth 100000 in
theorem t_X7_period_0 {p : Program} {l : Launch} {e : Env} {s : State} {m : MethodId} {args : Array Value} {below : List Frame} {meth : Method} {c : Code} {Q : State → Prop} {D : va_G} {I : ch_Id} {sh : Nat → Nat} {A : Nat → Prop} {oo : Int32 × ch_Mem}     (S : CallFix p m c cX7_period 4 s args wsX7_period RX7) (fin : ch_FinI p l e rm_X7_period s m args below meth c cX7_period Q D I 13 (ch_FM I sh) sh A oo)  {x1 : Int32} {x2 : Int32} {x3 : Int32}  {M : ch_Mem} {H : Heap} {locs : List Loc} {ls : Array Slot} (h : D_X7_period x1 x2 x3 M = some oo) (hw : ch_Wd D I 13 (ch_FM I sh) sh s A M H locs) (hl : lv_has ls 4 [(0, .ref (sh 0)), (1, .int x1), (2, .int x2), (3, .int x3)]) : W p l e rm_X7_period s m args below meth c H locs 0 0 Q (F0 m 0 ls []) := by
  obtain ⟨hx, hb, hml, hown, hts⟩ := id S
  unfold D_X7_period at h
  refine lv_iload_n hx hb dX7_period_0 rfl (lv_at hl 1 rfl) ?_
  refine lv_iload_n hx hb dX7_period_1 rfl (lv_at hl 2 rfl) ?_
  refine lv_iload_n hx hb dX7_period_2 rfl (lv_at hl 3 rfl) ?_
  refine ch_bd_k h (fun r1 M2 hc h => ?_)
  refine ch_ci hw (va_runS (As := [.int x1, .int x2, .int x3]) (rest := []) S (c_X7_isRegister l D I sh H.size M x1 x2 x3 hc) (va_cwS 3 hts gX7_period_X7_isRegister rfl rfl rfl (by decide +kernel) ⟨Nat.le_of_ble_eq_true rfl, Nat.le_of_ble_eq_true rfl⟩) (ch_pS hw) rfl rfl hl.1 rfl (lv_room (Nat.le_of_ble_eq_true rfl)) dX7_period_3 ⟨Nat.le_refl 0, Nat.le_refl 0⟩) (fun H locs hw => ?_)
  refine ch_if_eq (tgt := 18) hx hb dX7_period_6 (by decide) h (fun h => ?_) (fun h => ?_)
  · refine lv_bipush (v := (-2 : Int32)) hx hb dX7_period_18 (by decide) ?_
    exact fin _ _ _ _ _ _ h hw dX7_period_20
  · refine lv_iload_n hx hb dX7_period_9 rfl (lv_at hl 1 rfl) ?_
    refine lv_iload_n hx hb dX7_period_10 rfl (lv_at hl 2 rfl) ?_
    refine lv_iload_n hx hb dX7_period_11 rfl (lv_at hl 3 rfl) ?_
    refine ch_bd_k h (fun r3 M4 hc h => ?_)
    refine ch_ci hw (va_runS (As := [.int x1, .int x2, .int x3]) (rest := []) S (c_X7_periodOf l D I sh H.size M2 x1 x2 x3 hc) (va_cwS 3 hts gX7_period_X7_periodOf rfl rfl rfl (by decide +kernel) ⟨Nat.le_of_ble_eq_true rfl, Nat.le_of_ble_eq_true rfl⟩) (ch_pS hw) rfl rfl hl.1 rfl (lv_room (Nat.le_of_ble_eq_true rfl)) dX7_period_12 ⟨Nat.le_refl 0, Nat.le_refl 0⟩) (fun H locs hw => ?_)
    refine lv_goto (tgt := 20) hx hb dX7_period_15 (by decide) ?_
    exact fin _ _ _ _ _ _ h hw dX7_period_20
set_option maxHeartbeats 4000000 in
set_option maxRecDepth 100000 in
theorem c_X7_period (l : Launch) (D : va_G) (I : ch_Id) (sh : Nat → Nat) (sz : Nat) (M : ch_Mem)  (x1 : Int32) (x2 : Int32) (x3 : Int32) {r : Int32} {M1 : ch_Mem} (h : D_X7_period x1 x2 x3 M = some (r, M1)) : Met l yX7_period wsX7_period rm_X7_period (va_Pc [.ref (sh 0), .int x1, .int x2, .int x3] (ch_Pre D I 13 (ch_FM I sh) sh sz M)) (va_Qi (fun r' (u : ch_Mem) => r' = r ∧ u = M1) (ch_Pos D 13 (ch_FM I sh) sh) (ch_A 13 sh sz)) 0 0 (ch_A 13 sh sz) := by
  refine Met.ofW (cc := cX7_period) (maxL := 4) (ret := (some .int)) (by decide) rfl ?_
  intro p e s m args below meth c s₁ B hml hv0
  obtain ⟨rfl, hv0⟩ := hv0
  obtain rfl : s.heap.size = sz := hv0.1
  have hw := ch_start hv0
  have S : CallFix p m c cX7_period 4 s _ wsX7_period RX7 := ⟨B.exec, B.bytes, hml, findClass_of_methodNamed B.named, atoms_spec (ws := wsX7_period) B.pre⟩
  have hl := lv_entry ([.ref (sh 0), .int x1, .int x2, .int x3]) (n := 4) (Nat.le_of_ble_eq_true rfl)
  rw [lg_entry_eq]
  generalize (lg_sl ([.ref (sh 0), .int x1, .int x2, .int x3]) ++ List.replicate (4 - (lg_sl ([.ref (sh 0), .int x1, .int x2, .int x3])).length) Slot.unset).toArray = ls at hl ⊢
  exact t_X7_period_0 S (ch_finI (B := fun _ => True) B.exec B.bytes B.returns B.notSynchronized) h hw (lv_sub hl [0, 1, 2, 3] rfl)
set_option maxHeartbeats 4000000 in
set_option maxRecDepth 100000 in
theorem t_X7_refuses_18 {p : Program} {l : Launch} {e : Env} {s : State} {m : MethodId} {args : Array Value} {below : List Frame} {meth : Method} {c : Code} {Q : State → Prop} {D : va_G} {I : ch_Id} {sh : Nat → Nat} {A : Nat → Prop} {oo : Int32 × ch_Mem}     (S : CallFix p m c cX7_refuses 3 s args wsX7_refuses RX7) (fin : ch_FinI p l e rm_X7_refuses s m args below meth c cX7_refuses Q D I 13 (ch_FM I sh) sh A oo)    {M : ch_Mem} {H : Heap} {locs : List Loc} {ls : Array Slot} (h : D_X7_refuses_b18  M = some oo) (hw : ch_Wd D I 13 (ch_FM I sh) sh s A M H locs) (hl : lv_has ls 3 []) : W p l e rm_X7_refuses s m args below meth c H locs 0 0 Q (F0 m 18 ls []) := by
  obtain ⟨hx, hb, hml, hown, hts⟩ := id S
  unfold D_X7_refuses_b18 at h
  refine lv_bipush (v := (-2 : Int32)) hx hb dX7_refuses_18 (by decide) ?_
  refine lv_goto (tgt := 38) hx hb dX7_refuses_20 (by decide) ?_
  exact fin _ _ _ _ _ _ h hw dX7_refuses_38
set_option maxHeartbeats 4000000 in
set_option maxRecDepth 100000 in
theorem t_X7_refuses_0 {p : Program} {l : Launch} {e : Env} {s : State} {m : MethodId} {args : Array Value} {below : List Frame} {meth : Method} {c : Code} {Q : State → Prop} {D : va_G} {I : ch_Id} {sh : Nat → Nat} {A : Nat → Prop} {oo : Int32 × ch_Mem}     (S : CallFix p m c cX7_refuses 3 s args wsX7_refuses RX7) (fin : ch_FinI p l e rm_X7_refuses s m args below meth c cX7_refuses Q D I 13 (ch_FM I sh) sh A oo)  {x1 : Int32} {x2 : Int32}  {M : ch_Mem} {H : Heap} {locs : List Loc} {ls : Array Slot} (h : D_X7_refuses x1 x2 M = some oo) (hw : ch_Wd D I 13 (ch_FM I sh) sh s A M H locs) (hl : lv_has ls 3 [(0, .ref (sh 0)), (1, .int x1), (2, .int x2)]) : W p l e rm_X7_refuses s m args below meth c H locs 0 0 Q (F0 m 0 ls []) := by
  obtain ⟨hx, hb, hml, hown, hts⟩ := id S
  unfold D_X7_refuses at h
  refine lv_iload_n hx hb dX7_refuses_0 rfl (lv_at hl 1 rfl) ?_
  refine ch_bd_k h (fun r1 M2 hc h => ?_)
  refine ch_ci hw (va_runS (As := [.int x1]) (rest := []) S (c_X7_isRow l D I sh H.size M x1 hc) (va_cwS 1 hts gX7_refuses_X7_isRow rfl rfl rfl (by decide +kernel) ⟨Nat.le_of_ble_eq_true rfl, Nat.le_of_ble_eq_true rfl⟩) (ch_pS hw) rfl rfl hl.1 rfl (lv_room (Nat.le_of_ble_eq_true rfl)) dX7_refuses_1 ⟨Nat.le_refl 0, Nat.le_refl 0⟩) (fun H locs hw => ?_)
  refine ch_if_eq (tgt := 18) hx hb dX7_refuses_4 (by decide) h (fun h => ?_) (fun h => ?_)
  · exact t_X7_refuses_18 S fin h hw (lv_sub hl [] rfl)
  · refine lv_iload_n hx hb dX7_refuses_7 rfl (lv_at hl 2 rfl) ?_
    refine lv_iconst (v := (0 : Int32)) hx hb dX7_refuses_8 (by decide) ?_
    refine lv_sipush (v := (300 : Int32)) hx hb dX7_refuses_9 (by decide) ?_
    refine ch_bd_k h (fun r3 M4 hc h => ?_)
    refine ch_ci hw (va_runS (As := [.int x2, .int (0 : Int32), .int (300 : Int32)]) (rest := []) S (c_X7_in l D I sh H.size M2 x2 (0 : Int32) (300 : Int32) hc) (va_cwS 3 hts gX7_refuses_X7_in rfl rfl rfl (by decide +kernel) ⟨Nat.le_of_ble_eq_true rfl, Nat.le_of_ble_eq_true rfl⟩) (ch_pS hw) rfl rfl hl.1 rfl (lv_room (Nat.le_of_ble_eq_true rfl)) dX7_refuses_12 ⟨Nat.le_refl 0, Nat.le_refl 0⟩) (fun H locs hw => ?_)
    refine ch_if_ne (tgt := 23) hx hb dX7_refuses_15 (by decide) h (fun h => ?_) (fun h => ?_)
    · refine lv_aload_n hx hb dX7_refuses_23 rfl (lv_at hl 0 rfl) ?_
      refine ch_get S hw 0 (by decide) rfl rfl (by decide +kernel) 0 (by decide) (hts (.fieldLink RX7 7 "CodeHuntModel" "sizesOf" "[I") (by decide +kernel)) rfl dX7_refuses_24 ?_
      refine lv_iload_n hx hb dX7_refuses_27 rfl (lv_at hl 1 rfl) ?_
      refine ch_gd_k h (fun hin h => ?_)
      refine ch_iald S hw 1 (by decide) rfl hin dX7_refuses_28 ?_
      refine ch_if_ne (tgt := 37) hx hb dX7_refuses_29 (by decide) h (fun h => ?_) (fun h => ?_)
      · refine lv_iconst (v := (0 : Int32)) hx hb dX7_refuses_37 (by decide) ?_
        exact fin _ _ _ _ _ _ h hw dX7_refuses_38
      · refine lv_bipush (v := (-3 : Int32)) hx hb dX7_refuses_32 (by decide) ?_
        refine lv_goto (tgt := 38) hx hb dX7_refuses_34 (by decide) ?_
        exact fin _ _ _ _ _ _ h hw dX7_refuses_38
    · exact t_X7_refuses_18 S fin h hw (lv_sub hl [] rfl)
set_option maxHeartbeats 4000000 in
set_option maxRecDepth 100000 in
theorem c_X7_refuses (l : Launch) (D : va_G) (I : ch_Id) (sh : Nat → Nat) (sz : Nat) (M : ch_Mem)  (x1 : Int32) (x2 : Int32) {r : Int32} {M1 : ch_Mem} (h : D_X7_refuses x1 x2 M = some (r, M1)) : Met l yX7_refuses wsX7_refuses rm_X7_refuses (va_Pc [.ref (sh 0), .int x1, .int x2] (ch_Pre D I 13 (ch_FM I sh) sh sz M)) (va_Qi (fun r' (u : ch_Mem) => r' = r ∧ u = M1) (ch_Pos D 13 (ch_FM I sh) sh) (ch_A 13 sh sz)) 0 0 (ch_A 13 sh sz) := by
  refine Met.ofW (cc := cX7_refuses) (maxL := 3) (ret := (some .int)) (by decide) rfl ?_
  intro p e s m args below meth c s₁ B hml hv0
  obtain ⟨rfl, hv0⟩ := hv0
  obtain rfl : s.heap.size = sz := hv0.1
  have hw := ch_start hv0
  have S : CallFix p m c cX7_refuses 3 s _ wsX7_refuses RX7 := ⟨B.exec, B.bytes, hml, findClass_of_methodNamed B.named, atoms_spec (ws := wsX7_refuses) B.pre⟩
  have hl := lv_entry ([.ref (sh 0), .int x1, .int x2]) (n := 3) (Nat.le_of_ble_eq_true rfl)
  rw [lg_entry_eq]
  generalize (lg_sl ([.ref (sh 0), .int x1, .int x2]) ++ List.replicate (3 - (lg_sl ([.ref (sh 0), .int x1, .int x2])).length) Slot.unset).toArray = ls at hl ⊢
  exact t_X7_refuses_0 S (ch_finI (B := fun _ => True) B.exec B.bytes B.returns B.notSynchronized) h hw (lv_sub hl [0, 1, 2] rfl)
set_option maxHeartbeats 4000000 in
set_option maxRecDepth 100000 in
theorem t_X7_power_0 {p : Program} {l : Launch} {e : Env} {s : State} {m : MethodId} {args : Array Value} {below : List Frame} {meth : Method} {c : Code} {Q : State → Prop} {D : va_G} {I : ch_Id} {sh : Nat → Nat} {A : Nat → Prop} {oo : Int64 × ch_Mem}     (S : CallFix p m c cX7_power 5 s args wsX7_power RX7) (fin : ch_FinL p l e rm_X7_power s m args below meth c cX7_power Q D I 13 (ch_FM I sh) sh A oo)  {x1 : Int32} {x2 : Int32}  {M : ch_Mem} {H : Heap} {locs : List Loc} {ls : Array Slot} (h : D_X7_power x1 x2 M = some oo) (hw : ch_Wd D I 13 (ch_FM I sh) sh s A M H locs) (hl : lv_has ls 5 [(0, .ref (sh 0)), (1, .int x1), (2, .int x2)]) : W p l e rm_X7_power s m args below meth c H locs 0 0 Q (F0 m 0 ls []) := by
  obtain ⟨hx, hb, hml, hown, hts⟩ := id S
  unfold D_X7_power at h
  refine lv_aload_n hx hb dX7_power_0 rfl (lv_at hl 0 rfl) ?_
  refine lv_iload_n hx hb dX7_power_1 rfl (lv_at hl 1 rfl) ?_
  refine lv_iload_n hx hb dX7_power_2 rfl (lv_at hl 2 rfl) ?_
  refine ch_bd_k h (fun r1 M2 hc h => ?_)
  refine ch_ci hw (va_runV (As := [.int x1, .int x2]) (rest := []) S (c_X7_refuses l D I sh H.size M x1 x2 hc) (cwV 2 hts gX7_power_X7_refuses rfl rfl rfl (by decide +kernel) ⟨Nat.le_of_ble_eq_true rfl, Nat.le_of_ble_eq_true rfl⟩) (ch_pV hw (by decide) rfl rfl rfl) rfl rfl hl.1 rfl (lv_room (Nat.le_of_ble_eq_true rfl)) dX7_power_3 ⟨Nat.le_refl 0, Nat.le_refl 0⟩) (fun H locs hw => ?_)
  refine lv_istore_n (lv' := [(3, .int r1), (0, .ref (sh 0)), (1, .int x1), (2, .int x2)]) hx hb dX7_power_6 rfl hl (by decide) rfl (fun ls hl => ?_)
  refine lv_iload_n hx hb dX7_power_7 rfl (lv_at hl 0 rfl) ?_
  refine ch_if_eq (tgt := 18) hx hb dX7_power_8 (by decide) h (fun h => ?_) (fun h => ?_)
  · refine lv_aload_n hx hb dX7_power_18 rfl (lv_at hl 1 rfl) ?_
    refine lv_iload_n hx hb dX7_power_19 rfl (lv_at hl 2 rfl) ?_
    refine lv_iload_n hx hb dX7_power_20 rfl (lv_at hl 3 rfl) ?_
    refine ch_bd_k h (fun r3 M4 hc h => ?_)
    refine ch_ci hw (va_runV (As := [.int x1, .int x2]) (rest := []) S (c_X7_finds l D I sh H.size M2 x1 x2 hc) (cwV 2 hts gX7_power_X7_finds rfl rfl rfl (by decide +kernel) ⟨Nat.le_of_ble_eq_true rfl, Nat.le_of_ble_eq_true rfl⟩) (ch_pV hw (by decide) rfl rfl rfl) rfl rfl hl.1 rfl (lv_room (Nat.le_of_ble_eq_true rfl)) dX7_power_21 ⟨Nat.le_refl 0, Nat.le_refl 0⟩) (fun H locs hw => ?_)
    refine lv_istore (lv' := [(4, .int r3), (3, .int r1), (0, .ref (sh 0)), (1, .int x1), (2, .int x2)]) hx hb dX7_power_24 hl (by decide) rfl (fun ls hl => ?_)
    refine lv_aload_n hx hb dX7_power_26 rfl (lv_at hl 2 rfl) ?_
    refine ch_get S hw 0 (by decide) rfl rfl (by decide +kernel) 4 (by decide) (hts (.fieldLink RX7 104 "CodeHuntModel" "greatest" "J") (by decide +kernel)) rfl dX7_power_27 ?_
    exact fin _ _ _ _ _ _ h hw dX7_power_30
  · refine lv_ldc2 (v := (-9223372036854775808 : Int64)) hx hb hown (hts (.constantLong RX7 119 (-9223372036854775808)) (by decide +kernel)) dX7_power_11 ?_
    refine lv_iload_n hx hb dX7_power_14 rfl (lv_at hl 0 rfl) ?_
    refine lv_i2l hx hb dX7_power_15 rfl ?_
    refine lv_lsub hx hb dX7_power_16 ?_
    exact fin _ _ _ _ _ _ h hw dX7_power_17
set_option maxHeartbeats 4000000 in
set_option maxRecDepth 100000 in
theorem c_X7_power (l : Launch) (D : va_G) (I : ch_Id) (sh : Nat → Nat) (sz : Nat) (M : ch_Mem)  (x1 : Int32) (x2 : Int32) {r : Int64} {M1 : ch_Mem} (h : D_X7_power x1 x2 M = some (r, M1)) : Met l yX7_power wsX7_power rm_X7_power (va_Pc [.ref (sh 0), .int x1, .int x2] (ch_Pre D I 13 (ch_FM I sh) sh sz M)) (va_Ql (fun r' (u : ch_Mem) => r' = r ∧ u = M1) (ch_Pos D 13 (ch_FM I sh) sh) (ch_A 13 sh sz)) 0 0 (ch_A 13 sh sz) := by
  refine Met.ofW (cc := cX7_power) (maxL := 5) (ret := (some .long)) (by decide) rfl ?_
  intro p e s m args below meth c s₁ B hml hv0
  obtain ⟨rfl, hv0⟩ := hv0
  obtain rfl : s.heap.size = sz := hv0.1
  have hw := ch_start hv0
  have S : CallFix p m c cX7_power 5 s _ wsX7_power RX7 := ⟨B.exec, B.bytes, hml, findClass_of_methodNamed B.named, atoms_spec (ws := wsX7_power) B.pre⟩
  have hl := lv_entry ([.ref (sh 0), .int x1, .int x2]) (n := 5) (Nat.le_of_ble_eq_true rfl)
  rw [lg_entry_eq]
  generalize (lg_sl ([.ref (sh 0), .int x1, .int x2]) ++ List.replicate (5 - (lg_sl ([.ref (sh 0), .int x1, .int x2])).length) Slot.unset).toArray = ls at hl ⊢
  exact t_X7_power_0 S (ch_finL B.exec B.bytes B.returns B.notSynchronized) h hw (lv_sub hl [0, 1, 2] rfl)
set_option maxHeartbeats 4000000 in
set_option maxRecDepth 100000 in
theorem t_X7_put_0 {p : Program} {l : Launch} {e : Env} {s : State} {m : MethodId} {args : Array Value} {below : List Frame} {meth : Method} {c : Code} {Q : State → Prop} {D : va_G} {I : ch_Id} {sh : Nat → Nat} {A : Nat → Prop} {oo : Int32 × ch_Mem}     (S : CallFix p m c cX7_put 6 s args wsX7_put RX7) (fin : ch_FinI p l e rm_X7_put s m args below meth c cX7_put Q D I 13 (ch_FM I sh) sh A oo)  {x1 : Int32} {x2 : Int32} {x3 : Int32} {x4 : Int32}  {M : ch_Mem} {H : Heap} {locs : List Loc} {ls : Array Slot} (h : D_X7_put x1 x2 x3 x4 M = some oo) (hw : ch_Wd D I 13 (ch_FM I sh) sh s A M H locs) (hl : lv_has ls 6 [(0, .ref (sh 0)), (1, .int x1), (2, .int x2), (3, .int x3), (4, .int x4)]) : W p l e rm_X7_put s m args below meth c H locs 0 0 Q (F0 m 0 ls []) := by
  obtain ⟨hx, hb, hml, hown, hts⟩ := id S
  unfold D_X7_put at h
  refine lv_iload_n hx hb dX7_put_0 rfl (lv_at hl 1 rfl) ?_
  refine ch_bd_k h (fun r1 M2 hc h => ?_)
  refine ch_ci hw (va_runS (As := [.int x1]) (rest := []) S (c_X7_isReel l D I sh H.size M x1 hc) (va_cwS 1 hts gX7_put_X7_isReel rfl rfl rfl (by decide +kernel) ⟨Nat.le_of_ble_eq_true rfl, Nat.le_of_ble_eq_true rfl⟩) (ch_pS hw) rfl rfl hl.1 rfl (lv_room (Nat.le_of_ble_eq_true rfl)) dX7_put_1 ⟨Nat.le_refl 0, Nat.le_refl 0⟩) (fun H locs hw => ?_)
  refine ch_if_eq (tgt := 16) hx hb dX7_put_4 (by decide) h (fun h => ?_) (fun h => ?_)
  · refine lv_bipush (v := (-2 : Int32)) hx hb dX7_put_16 (by decide) ?_
    exact fin _ _ _ _ _ _ h hw dX7_put_18
  · refine lv_iload_n hx hb dX7_put_7 rfl (lv_at hl 2 rfl) ?_
    refine lv_iconst (v := (0 : Int32)) hx hb dX7_put_8 (by decide) ?_
    refine lv_iconst (v := (2 : Int32)) hx hb dX7_put_9 (by decide) ?_
    refine ch_bd_k h (fun r3 M4 hc h => ?_)
    refine ch_ci hw (va_runS (As := [.int x2, .int (0 : Int32), .int (2 : Int32)]) (rest := []) S (c_X7_in l D I sh H.size M2 x2 (0 : Int32) (2 : Int32) hc) (va_cwS 3 hts gX7_put_X7_in rfl rfl rfl (by decide +kernel) ⟨Nat.le_of_ble_eq_true rfl, Nat.le_of_ble_eq_true rfl⟩) (ch_pS hw) rfl rfl hl.1 rfl (lv_room (Nat.le_of_ble_eq_true rfl)) dX7_put_10 ⟨Nat.le_refl 0, Nat.le_refl 0⟩) (fun H locs hw => ?_)
    refine ch_if_ne (tgt := 19) hx hb dX7_put_13 (by decide) h (fun h => ?_) (fun h => ?_)
    · refine lv_aload_n hx hb dX7_put_19 rfl (lv_at hl 0 rfl) ?_
      refine lv_iload_n hx hb dX7_put_20 rfl (lv_at hl 1 rfl) ?_
      refine lv_iload_n hx hb dX7_put_21 rfl (lv_at hl 2 rfl) ?_
      refine lv_iload_n hx hb dX7_put_22 rfl (lv_at hl 3 rfl) ?_
      refine ch_bd_k h (fun r5 M6 hc h => ?_)
      refine ch_ci hw (va_runV (As := [.int x1, .int x2, .int x3]) (rest := []) S (c_X7_lacks l D I sh H.size M4 x1 x2 x3 hc) (cwV 3 hts gX7_put_X7_lacks rfl rfl rfl (by decide +kernel) ⟨Nat.le_of_ble_eq_true rfl, Nat.le_of_ble_eq_true rfl⟩) (ch_pV hw (by decide) rfl rfl rfl) rfl rfl hl.1 rfl (lv_room (Nat.le_of_ble_eq_true rfl)) dX7_put_23 ⟨Nat.le_refl 0, Nat.le_refl 0⟩) (fun H locs hw => ?_)
      refine lv_istore (lv' := [(5, .int r5), (0, .ref (sh 0)), (1, .int x1), (2, .int x2), (3, .int x3), (4, .int x4)]) hx hb dX7_put_26 hl (by decide) rfl (fun ls hl => ?_)
      refine lv_iload hx hb dX7_put_28 (lv_at hl 0 rfl) ?_
      refine ch_if_le (tgt := 40) hx hb dX7_put_30 (by decide) h (fun h => ?_) (fun h => ?_)
      · refine lv_aload_n hx hb dX7_put_40 rfl (lv_at hl 1 rfl) ?_
        refine ch_get S hw 0 (by decide) rfl rfl (by decide +kernel) 16 (by decide) (hts (.fieldLink RX7 45 "CodeHuntModel" "items" "[I") (by decide +kernel)) rfl dX7_put_41 ?_
        refine lv_sipush (v := (300 : Int32)) hx hb dX7_put_44 (by decide) ?_
        refine lv_iload_n hx hb dX7_put_47 rfl (lv_at hl 2 rfl) ?_
        refine lv_imul hx hb dX7_put_48 ?_
        refine lv_iload_n hx hb dX7_put_49 rfl (lv_at hl 4 rfl) ?_
        refine lv_iadd hx hb dX7_put_50 ?_
        refine lv_iload_n hx hb dX7_put_51 rfl (lv_at hl 3 rfl) ?_
        refine lv_iload hx hb dX7_put_52 (lv_at hl 5 rfl) ?_
        refine ch_bd_k h (fun r7 M8 hc h => ?_)
        refine ch_ci hw (va_runS (As := [.int x2, .int x4]) (rest := [.int (((300 : Int32) * x1) + x3), .ref (sh 11)]) S (c_X7_cut l D I sh H.size M6 x2 x4 hc) (va_cwS 2 hts gX7_put_X7_cut rfl rfl rfl (by decide +kernel) ⟨Nat.le_of_ble_eq_true rfl, Nat.le_of_ble_eq_true rfl⟩) (ch_pS hw) rfl rfl hl.1 rfl (lv_room (Nat.le_of_ble_eq_true rfl)) dX7_put_54 ⟨Nat.le_refl 0, Nat.le_refl 0⟩) (fun H locs hw => ?_)
        refine ch_gd_k h (fun hin h => ?_)
        refine ch_iast S hw 11 (by decide) (fun _ => rfl) hin dX7_put_57 (fun H locs hw => ?_)
        refine lv_iconst (v := (1 : Int32)) hx hb dX7_put_58 (by decide) ?_
        exact fin _ _ _ _ _ _ h hw dX7_put_59
      · refine lv_aload_n hx hb dX7_put_33 rfl (lv_at hl 1 rfl) ?_
        refine lv_iload hx hb dX7_put_34 (lv_at hl 0 rfl) ?_
        refine ch_bd_k h (fun r9 M10 hc h => ?_)
        refine ch_ci hw (va_runV (As := [.int r5]) (rest := []) S (c_X7_meets l D I sh H.size M6 r5 hc) (cwV 1 hts gX7_put_X7_meets rfl rfl rfl (by decide +kernel) ⟨Nat.le_of_ble_eq_true rfl, Nat.le_of_ble_eq_true rfl⟩) (ch_pV hw (by decide) rfl rfl rfl) rfl rfl hl.1 rfl (lv_room (Nat.le_of_ble_eq_true rfl)) dX7_put_36 ⟨Nat.le_refl 0, Nat.le_refl 0⟩) (fun H locs hw => ?_)
        exact fin _ _ _ _ _ _ h hw dX7_put_39
    · refine lv_bipush (v := (-2 : Int32)) hx hb dX7_put_16 (by decide) ?_
      exact fin _ _ _ _ _ _ h hw dX7_put_18
set_option maxHeartbeats 4000000 in
set_option maxRecDepth 100000 in
theorem c_X7_put (l : Launch) (D : va_G) (I : ch_Id) (sh : Nat → Nat) (sz : Nat) (M : ch_Mem)  (x1 : Int32) (x2 : Int32) (x3 : Int32) (x4 : Int32) {r : Int32} {M1 : ch_Mem} (h : D_X7_put x1 x2 x3 x4 M = some (r, M1)) : Met l yX7_put wsX7_put rm_X7_put (va_Pc [.ref (sh 0), .int x1, .int x2, .int x3, .int x4] (ch_Pre D I 13 (ch_FM I sh) sh sz M)) (va_Qi (fun r' (u : ch_Mem) => r' = r ∧ u = M1) (ch_Pos D 13 (ch_FM I sh) sh) (ch_A 13 sh sz)) 0 0 (ch_A 13 sh sz) := by
  refine Met.ofW (cc := cX7_put) (maxL := 6) (ret := (some .int)) (by decide) rfl ?_
  intro p e s m args below meth c s₁ B hml hv0
  obtain ⟨rfl, hv0⟩ := hv0
  obtain rfl : s.heap.size = sz := hv0.1
  have hw := ch_start hv0
  have S : CallFix p m c cX7_put 6 s _ wsX7_put RX7 := ⟨B.exec, B.bytes, hml, findClass_of_methodNamed B.named, atoms_spec (ws := wsX7_put) B.pre⟩
  have hl := lv_entry ([.ref (sh 0), .int x1, .int x2, .int x3, .int x4]) (n := 6) (Nat.le_of_ble_eq_true rfl)
  rw [lg_entry_eq]
  generalize (lg_sl ([.ref (sh 0), .int x1, .int x2, .int x3, .int x4]) ++ List.replicate (6 - (lg_sl ([.ref (sh 0), .int x1, .int x2, .int x3, .int x4])).length) Slot.unset).toArray = ls at hl ⊢
  exact t_X7_put_0 S (ch_finI (B := fun _ => True) B.exec B.bytes B.returns B.notSynchronized) h hw (lv_sub hl [0, 1, 2, 3, 4] rfl)
set_option maxHeartbeats 4000000 in
set_option maxRecDepth 100000 in
theorem t_X7_reel_88 {p : Program} {l : Launch} {e : Env} {s : State} {m : MethodId} {args : Array Value} {below : List Frame} {meth : Method} {c : Code} {Q : State → Prop} {D : va_G} {I : ch_Id} {sh : Nat → Nat} {A : Nat → Prop} {oo : Int32 × ch_Mem}     (S : CallFix p m c cX7_reel 5 s args wsX7_reel RX7) (fin : ch_FinI p l e rm_X7_reel s m args below meth c cX7_reel Q D I 13 (ch_FM I sh) sh A oo)  {x3 : Int32}  {M : ch_Mem} {H : Heap} {locs : List Loc} {ls : Array Slot} (h : D_X7_reel_b88 x3 M = some oo) (hw : ch_Wd D I 13 (ch_FM I sh) sh s A M H locs) (hl : lv_has ls 5 [(3, .int x3)]) : W p l e rm_X7_reel s m args below meth c H locs 0 0 Q (F0 m 88 ls []) := by
  obtain ⟨hx, hb, hml, hown, hts⟩ := id S
  unfold D_X7_reel_b88 at h
  refine lv_iload_n hx hb dX7_reel_88 rfl (lv_at hl 0 rfl) ?_
  exact fin _ _ _ _ _ _ h hw dX7_reel_89
set_option maxHeartbeats 4000000 in
set_option maxRecDepth 100000 in
theorem t_X7_reel_60 {p : Program} {l : Launch} {e : Env} {s : State} {m : MethodId} {args : Array Value} {below : List Frame} {meth : Method} {c : Code} {Q : State → Prop} {D : va_G} {I : ch_Id} {sh : Nat → Nat} {A : Nat → Prop} {oo : Int32 × ch_Mem}    {k60 : Int32 → Int32 → Int32 → ch_Mem → Option (Int32 × ch_Mem)} (S : CallFix p m c cX7_reel 5 s args wsX7_reel RX7) (fin : ch_FinI p l e rm_X7_reel s m args below meth c cX7_reel Q D I 13 (ch_FM I sh) sh A oo) (hk60 : ∀ (x1 : Int32) (x3 : Int32) (x4 : Int32) (M : ch_Mem) (H : Heap) (locs : List Loc) (ls : Array Slot), k60 x1 x3 x4 M = some oo → ch_Wd D I 13 (ch_FM I sh) sh s A M H locs → lv_has ls 5 [(0, .ref (sh 0)), (1, .int x1), (3, .int x3), (4, .int x4)] → W p l e rm_X7_reel s m args below meth c H locs 0 0 Q (F0 m 60 ls [])) {x1 : Int32} {x3 : Int32} {x4 : Int32}  {M : ch_Mem} {H : Heap} {locs : List Loc} {ls : Array Slot} (h : D_X7_reel_b60 k60 x1 x3 x4 M = some oo) (hw : ch_Wd D I 13 (ch_FM I sh) sh s A M H locs) (hl : lv_has ls 5 [(0, .ref (sh 0)), (1, .int x1), (3, .int x3), (4, .int x4)]) : W p l e rm_X7_reel s m args below meth c H locs 0 0 Q (F0 m 60 ls []) := by
  obtain ⟨hx, hb, hml, hown, hts⟩ := id S
  unfold D_X7_reel_b60 at h
  refine lv_iload hx hb dX7_reel_60 (lv_at hl 3 rfl) ?_
  refine lv_sipush (v := (300 : Int32)) hx hb dX7_reel_62 (by decide) ?_
  refine ch_icmp_ge (tgt := 88) hx hb dX7_reel_65 (by decide) h (fun h => ?_) (fun h => ?_)
  · exact t_X7_reel_88 S fin h hw (lv_sub hl [2] rfl)
  · refine lv_aload_n hx hb dX7_reel_68 rfl (lv_at hl 0 rfl) ?_
    refine ch_get S hw 0 (by decide) rfl rfl (by decide +kernel) 16 (by decide) (hts (.fieldLink RX7 45 "CodeHuntModel" "items" "[I") (by decide +kernel)) rfl dX7_reel_69 ?_
    refine lv_sipush (v := (300 : Int32)) hx hb dX7_reel_72 (by decide) ?_
    refine lv_iload_n hx hb dX7_reel_75 rfl (lv_at hl 1 rfl) ?_
    refine lv_imul hx hb dX7_reel_76 ?_
    refine lv_iload hx hb dX7_reel_77 (lv_at hl 3 rfl) ?_
    refine lv_iadd hx hb dX7_reel_79 ?_
    refine lv_iconst (v := (0 : Int32)) hx hb dX7_reel_80 (by decide) ?_
    refine ch_gd_k h (fun hin h => ?_)
    refine ch_iast S hw 11 (by decide) (fun _ => rfl) hin dX7_reel_81 (fun H locs hw => ?_)
    refine lv_iinc (v := x4 + (1 : Int32)) (lv' := [(4, .int (x4 + (1 : Int32))), (0, .ref (sh 0)), (1, .int x1), (3, .int x3)]) hx hb dX7_reel_82 hl (k := 3) rfl rfl (by decide) rfl (fun ls hl => ?_)
    refine lv_goto (tgt := 60) hx hb dX7_reel_85 (by decide) ?_
    exact hk60 _ _ _ _ _ _ _  h hw (lv_sub hl [1, 2, 3, 0] rfl)
set_option maxHeartbeats 4000000 in
set_option maxRecDepth 100000 in
theorem tl_X7_reel_60 {p : Program} {l : Launch} {e : Env} {s : State} {m : MethodId} {args : Array Value} {below : List Frame} {meth : Method} {c : Code} {Q : State → Prop} {D : va_G} {I : ch_Id} {sh : Nat → Nat} {A : Nat → Prop} {oo : Int32 × ch_Mem}     (S : CallFix p m c cX7_reel 5 s args wsX7_reel RX7) (fin : ch_FinI p l e rm_X7_reel s m args below meth c cX7_reel Q D I 13 (ch_FM I sh) sh A oo)  (n : Nat) : ∀ (x1 : Int32) (x3 : Int32) (x4 : Int32) (M : ch_Mem) (H : Heap) (locs : List Loc) (ls : Array Slot), D_X7_reel_L60  n x1 x3 x4 M = some oo → ch_Wd D I 13 (ch_FM I sh) sh s A M H locs → lv_has ls 5 [(0, .ref (sh 0)), (1, .int x1), (3, .int x3), (4, .int x4)] → W p l e rm_X7_reel s m args below meth c H locs 0 0 Q (F0 m 60 ls []) := by
  induction n with
  | zero => intro x1 x3 x4 M H locs ls  h; cases h
  | succ n ih =>
    intro x1 x3 x4 M H locs ls  h hw hl
    exact t_X7_reel_60 S fin ih h hw hl
set_option maxHeartbeats 4000000 in
set_option maxRecDepth 100000 in
theorem t_X7_reel_0 {p : Program} {l : Launch} {e : Env} {s : State} {m : MethodId} {args : Array Value} {below : List Frame} {meth : Method} {c : Code} {Q : State → Prop} {D : va_G} {I : ch_Id} {sh : Nat → Nat} {A : Nat → Prop} {oo : Int32 × ch_Mem}     (S : CallFix p m c cX7_reel 5 s args wsX7_reel RX7) (fin : ch_FinI p l e rm_X7_reel s m args below meth c cX7_reel Q D I 13 (ch_FM I sh) sh A oo)  {x1 : Int32} {x2 : Int32} {x3 : Int32}  {M : ch_Mem} {H : Heap} {locs : List Loc} {ls : Array Slot} (h : D_X7_reel x1 x2 x3 M = some oo) (hw : ch_Wd D I 13 (ch_FM I sh) sh s A M H locs) (hl : lv_has ls 5 [(0, .ref (sh 0)), (1, .int x1), (2, .int x2), (3, .int x3)]) : W p l e rm_X7_reel s m args below meth c H locs 0 0 Q (F0 m 0 ls []) := by
  obtain ⟨hx, hb, hml, hown, hts⟩ := id S
  unfold D_X7_reel at h
  refine lv_iload_n hx hb dX7_reel_0 rfl (lv_at hl 1 rfl) ?_
  refine ch_bd_k h (fun r1 M2 hc h => ?_)
  refine ch_ci hw (va_runS (As := [.int x1]) (rest := []) S (c_X7_isReel l D I sh H.size M x1 hc) (va_cwS 1 hts gX7_reel_X7_isReel rfl rfl rfl (by decide +kernel) ⟨Nat.le_of_ble_eq_true rfl, Nat.le_of_ble_eq_true rfl⟩) (ch_pS hw) rfl rfl hl.1 rfl (lv_room (Nat.le_of_ble_eq_true rfl)) dX7_reel_1 ⟨Nat.le_refl 0, Nat.le_refl 0⟩) (fun H locs hw => ?_)
  refine ch_if_eq (tgt := 23) hx hb dX7_reel_4 (by decide) h (fun h => ?_) (fun h => ?_)
  · refine lv_bipush (v := (-2 : Int32)) hx hb dX7_reel_23 (by decide) ?_
    exact fin _ _ _ _ _ _ h hw dX7_reel_25
  · refine lv_iload_n hx hb dX7_reel_7 rfl (lv_at hl 2 rfl) ?_
    refine lv_iconst (v := (0 : Int32)) hx hb dX7_reel_8 (by decide) ?_
    refine lv_iconst (v := (2 : Int32)) hx hb dX7_reel_9 (by decide) ?_
    refine ch_bd_k h (fun r3 M4 hc h => ?_)
    refine ch_ci hw (va_runS (As := [.int x2, .int (0 : Int32), .int (2 : Int32)]) (rest := []) S (c_X7_in l D I sh H.size M2 x2 (0 : Int32) (2 : Int32) hc) (va_cwS 3 hts gX7_reel_X7_in rfl rfl rfl (by decide +kernel) ⟨Nat.le_of_ble_eq_true rfl, Nat.le_of_ble_eq_true rfl⟩) (ch_pS hw) rfl rfl hl.1 rfl (lv_room (Nat.le_of_ble_eq_true rfl)) dX7_reel_10 ⟨Nat.le_refl 0, Nat.le_refl 0⟩) (fun H locs hw => ?_)
    refine ch_if_eq (tgt := 23) hx hb dX7_reel_13 (by decide) h (fun h => ?_) (fun h => ?_)
    · refine lv_bipush (v := (-2 : Int32)) hx hb dX7_reel_23 (by decide) ?_
      exact fin _ _ _ _ _ _ h hw dX7_reel_25
    · refine lv_iload_n hx hb dX7_reel_16 rfl (lv_at hl 3 rfl) ?_
      refine lv_sipush (v := (300 : Int32)) hx hb dX7_reel_17 (by decide) ?_
      refine ch_icmp_le (tgt := 26) hx hb dX7_reel_20 (by decide) h (fun h => ?_) (fun h => ?_)
      · refine lv_iload_n hx hb dX7_reel_26 rfl (lv_at hl 3 rfl) ?_
        refine ch_if_ge (tgt := 36) hx hb dX7_reel_27 (by decide) h (fun h => ?_) (fun h => ?_)
        · refine lv_aload_n hx hb dX7_reel_36 rfl (lv_at hl 0 rfl) ?_
          refine ch_get S hw 0 (by decide) rfl rfl (by decide +kernel) 13 (by decide) (hts (.fieldLink RX7 35 "CodeHuntModel" "isThere" "[Z") (by decide +kernel)) rfl dX7_reel_37 ?_
          refine lv_iload_n hx hb dX7_reel_40 rfl (lv_at hl 1 rfl) ?_
          refine lv_iconst (v := (1 : Int32)) hx hb dX7_reel_41 (by decide) ?_
          refine ch_gd_k h (fun hin h => ?_)
          refine ch_zast S hw 8 (by decide) (fun _ => rfl) rfl hin dX7_reel_42 (fun H locs hw => ?_)
          refine lv_aload_n hx hb dX7_reel_43 rfl (lv_at hl 0 rfl) ?_
          refine ch_get S hw 0 (by decide) rfl rfl (by decide +kernel) 14 (by decide) (hts (.fieldLink RX7 39 "CodeHuntModel" "forms" "[I") (by decide +kernel)) rfl dX7_reel_44 ?_
          refine lv_iload_n hx hb dX7_reel_47 rfl (lv_at hl 1 rfl) ?_
          refine lv_iload_n hx hb dX7_reel_48 rfl (lv_at hl 2 rfl) ?_
          refine ch_gd_k h (fun hin h => ?_)
          refine ch_iast S hw 9 (by decide) (fun _ => rfl) hin dX7_reel_49 (fun H locs hw => ?_)
          refine lv_aload_n hx hb dX7_reel_50 rfl (lv_at hl 0 rfl) ?_
          refine ch_get S hw 0 (by decide) rfl rfl (by decide +kernel) 15 (by decide) (hts (.fieldLink RX7 42 "CodeHuntModel" "sizes" "[I") (by decide +kernel)) rfl dX7_reel_51 ?_
          refine lv_iload_n hx hb dX7_reel_54 rfl (lv_at hl 1 rfl) ?_
          refine lv_iload_n hx hb dX7_reel_55 rfl (lv_at hl 3 rfl) ?_
          refine ch_gd_k h (fun hin h => ?_)
          refine ch_iast S hw 10 (by decide) (fun _ => rfl) hin dX7_reel_56 (fun H locs hw => ?_)
          refine lv_iconst (v := (0 : Int32)) hx hb dX7_reel_57 (by decide) ?_
          refine lv_istore (lv' := [(4, .int (0 : Int32)), (0, .ref (sh 0)), (1, .int x1), (2, .int x2), (3, .int x3)]) hx hb dX7_reel_58 hl (by decide) rfl (fun ls hl => ?_)
          exact tl_X7_reel_60 S fin ch_fu _ _ _ _ _ _ _ h hw (lv_sub hl [1, 2, 4, 0] rfl)
        · refine lv_aload_n hx hb dX7_reel_30 rfl (lv_at hl 0 rfl) ?_
          refine lv_iconst (v := (5 : Int32)) hx hb dX7_reel_31 (by decide) ?_
          refine ch_bd_k h (fun r5 M6 hc h => ?_)
          refine ch_ci hw (va_runV (As := [.int (5 : Int32)]) (rest := []) S (c_X7_meets l D I sh H.size M4 (5 : Int32) hc) (cwV 1 hts gX7_reel_X7_meets rfl rfl rfl (by decide +kernel) ⟨Nat.le_of_ble_eq_true rfl, Nat.le_of_ble_eq_true rfl⟩) (ch_pV hw (by decide) rfl rfl rfl) rfl rfl hl.1 rfl (lv_room (Nat.le_of_ble_eq_true rfl)) dX7_reel_32 ⟨Nat.le_refl 0, Nat.le_refl 0⟩) (fun H locs hw => ?_)
          exact fin _ _ _ _ _ _ h hw dX7_reel_35
      · refine lv_bipush (v := (-2 : Int32)) hx hb dX7_reel_23 (by decide) ?_
        exact fin _ _ _ _ _ _ h hw dX7_reel_25
set_option maxHeartbeats 4000000 in
set_option maxRecDepth 100000 in
theorem c_X7_reel (l : Launch) (D : va_G) (I : ch_Id) (sh : Nat → Nat) (sz : Nat) (M : ch_Mem)  (x1 : Int32) (x2 : Int32) (x3 : Int32) {r : Int32} {M1 : ch_Mem} (h : D_X7_reel x1 x2 x3 M = some (r, M1)) : Met l yX7_reel wsX7_reel rm_X7_reel (va_Pc [.ref (sh 0), .int x1, .int x2, .int x3] (ch_Pre D I 13 (ch_FM I sh) sh sz M)) (va_Qi (fun r' (u : ch_Mem) => r' = r ∧ u = M1) (ch_Pos D 13 (ch_FM I sh) sh) (ch_A 13 sh sz)) 0 0 (ch_A 13 sh sz) := by
  refine Met.ofW (cc := cX7_reel) (maxL := 5) (ret := (some .int)) (by decide) rfl ?_
  intro p e s m args below meth c s₁ B hml hv0
  obtain ⟨rfl, hv0⟩ := hv0
  obtain rfl : s.heap.size = sz := hv0.1
  have hw := ch_start hv0
  have S : CallFix p m c cX7_reel 5 s _ wsX7_reel RX7 := ⟨B.exec, B.bytes, hml, findClass_of_methodNamed B.named, atoms_spec (ws := wsX7_reel) B.pre⟩
  have hl := lv_entry ([.ref (sh 0), .int x1, .int x2, .int x3]) (n := 5) (Nat.le_of_ble_eq_true rfl)
  rw [lg_entry_eq]
  generalize (lg_sl ([.ref (sh 0), .int x1, .int x2, .int x3]) ++ List.replicate (5 - (lg_sl ([.ref (sh 0), .int x1, .int x2, .int x3])).length) Slot.unset).toArray = ls at hl ⊢
  exact t_X7_reel_0 S (ch_finI (B := fun _ => True) B.exec B.bytes B.returns B.notSynchronized) h hw (lv_sub hl [0, 1, 2, 3] rfl)
