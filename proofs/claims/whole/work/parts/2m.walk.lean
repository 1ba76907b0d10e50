set_option maxHeartbeats 4000000 in
set_option maxRecDepth 100000 in
theorem t_X7_follow_167 {p : Program} {l : Launch} {e : Env} {s : State} {m : MethodId} {args : Array Value} {below : List Frame} {meth : Method} {c : Code} {Q : State → Prop} {D : va_G} {I : ch_Id} {sh : Nat → Nat} {A : Nat → Prop} {oo : Int32 × ch_Mem}    {k68 : Int32 → Int32 → Int32 → Int32 → Int32 → Int32 → ch_Mem → Option (Int32 × ch_Mem)} (S : CallFix p m c cX7_follow 12 s args wsX7_follow RX7) (fin : ch_FinI p l e rm_X7_follow s m args below meth c cX7_follow Q D I 13 (ch_FM I sh) sh A oo) (hk68 : ∀ (x1 : Int32) (x2 : Int32) (x4 : Int32) (x5 : Int32) (x6 : Int32) (x7 : Int32) (M : ch_Mem) (H : Heap) (locs : List Loc) (ls : Array Slot), k68 x1 x2 x4 x5 x6 x7 M = some oo → ch_Wd D I 13 (ch_FM I sh) sh s A M H locs → lv_has ls 12 [(0, .ref (sh 0)), (1, .int x1), (2, .int x2), (4, .int x4), (5, .int x5), (6, .int x6), (7, .int x7)] → W p l e rm_X7_follow s m args below meth c H locs 0 0 Q (F0 m 68 ls [])) {x1 : Int32} {x2 : Int32} {x4 : Int32} {x5 : Int32} {x7 : Int32} {y0 : Int32}  {M : ch_Mem} {H : Heap} {locs : List Loc} {ls : Array Slot} (h : D_X7_follow_b167 k68 x1 x2 x4 x5 x7 y0 M = some oo) (hw : ch_Wd D I 13 (ch_FM I sh) sh s A M H locs) (hl : lv_has ls 12 [(0, .ref (sh 0)), (1, .int x1), (2, .int x2), (4, .int x4), (5, .int x5), (7, .int x7)]) : W p l e rm_X7_follow s m args below meth c H locs 0 0 Q (F0 m 167 ls [.int y0]) := by
  obtain ⟨hx, hb, hml, hown, hts⟩ := id S
  unfold D_X7_follow_b167 at h
  refine lv_istore (lv' := [(11, .int y0), (0, .ref (sh 0)), (1, .int x1), (2, .int x2), (4, .int x4), (5, .int x5), (7, .int x7)]) hx hb dX7_follow_167 hl (by decide) rfl (fun ls hl => ?_)
  refine lv_iload hx hb dX7_follow_169 (lv_at hl 0 rfl) ?_
  refine lv_istore (lv' := [(6, .int y0), (11, .int y0), (0, .ref (sh 0)), (1, .int x1), (2, .int x2), (4, .int x4), (5, .int x5), (7, .int x7)]) hx hb dX7_follow_171 hl (by decide) rfl (fun ls hl => ?_)
  refine lv_iinc (v := x7 + (1 : Int32)) (lv' := [(7, .int (x7 + (1 : Int32))), (6, .int y0), (11, .int y0), (0, .ref (sh 0)), (1, .int x1), (2, .int x2), (4, .int x4), (5, .int x5)]) hx hb dX7_follow_173 hl (k := 7) rfl rfl (by decide) rfl (fun ls hl => ?_)
  refine lv_goto (tgt := 68) hx hb dX7_follow_176 (by decide) ?_
  exact hk68 _ _ _ _ _ _ _ _ _ _  h hw (lv_sub hl [3, 4, 5, 6, 7, 1, 0] rfl)
set_option maxHeartbeats 4000000 in
set_option maxRecDepth 100000 in
theorem t_X7_follow_137 {p : Program} {l : Launch} {e : Env} {s : State} {m : MethodId} {args : Array Value} {below : List Frame} {meth : Method} {c : Code} {Q : State → Prop} {D : va_G} {I : ch_Id} {sh : Nat → Nat} {A : Nat → Prop} {oo : Int32 × ch_Mem}    {k68 : Int32 → Int32 → Int32 → Int32 → Int32 → Int32 → ch_Mem → Option (Int32 × ch_Mem)} (S : CallFix p m c cX7_follow 12 s args wsX7_follow RX7) (fin : ch_FinI p l e rm_X7_follow s m args below meth c cX7_follow Q D I 13 (ch_FM I sh) sh A oo) (hk68 : ∀ (x1 : Int32) (x2 : Int32) (x4 : Int32) (x5 : Int32) (x6 : Int32) (x7 : Int32) (M : ch_Mem) (H : Heap) (locs : List Loc) (ls : Array Slot), k68 x1 x2 x4 x5 x6 x7 M = some oo → ch_Wd D I 13 (ch_FM I sh) sh s A M H locs → lv_has ls 12 [(0, .ref (sh 0)), (1, .int x1), (2, .int x2), (4, .int x4), (5, .int x5), (6, .int x6), (7, .int x7)] → W p l e rm_X7_follow s m args below meth c H locs 0 0 Q (F0 m 68 ls [])) {x1 : Int32} {x2 : Int32} {x4 : Int32} {x5 : Int32} {x7 : Int32} {x8 : Int32} {x10 : Int32} {y0 : Int32}  {M : ch_Mem} {H : Heap} {locs : List Loc} {ls : Array Slot} (h : D_X7_follow_b137 k68 x1 x2 x4 x5 x7 x8 x10 y0 M = some oo) (hw : ch_Wd D I 13 (ch_FM I sh) sh s A M H locs) (hl : lv_has ls 12 [(0, .ref (sh 0)), (1, .int x1), (2, .int x2), (4, .int x4), (5, .int x5), (7, .int x7), (8, .int x8), (10, .int x10)]) : W p l e rm_X7_follow s m args below meth c H locs 0 0 Q (F0 m 137 ls [.int y0]) := by
  obtain ⟨hx, hb, hml, hown, hts⟩ := id S
  unfold D_X7_follow_b137 at h
  refine lv_istore (lv' := [(11, .int y0), (0, .ref (sh 0)), (1, .int x1), (2, .int x2), (4, .int x4), (5, .int x5), (7, .int x7), (8, .int x8), (10, .int x10)]) hx hb dX7_follow_137 hl (by decide) rfl (fun ls hl => ?_)
  refine lv_aload_n hx hb dX7_follow_139 rfl (lv_at hl 1 rfl) ?_
  refine lv_iload_n hx hb dX7_follow_140 rfl (lv_at hl 2 rfl) ?_
  refine lv_iload hx hb dX7_follow_141 (lv_at hl 7 rfl) ?_
  refine lv_iload hx hb dX7_follow_143 (lv_at hl 8 rfl) ?_
  refine ch_bd_k h (fun r1 M2 hc h => ?_)
  refine ch_ci hw (va_runV (As := [.int x1, .int x8, .int x10]) (rest := []) S (c_X7_amount l D I sh H.size M x1 x8 x10 hc) (cwV 3 hts gX7_follow_X7_amount rfl rfl rfl (by decide +kernel) ⟨Nat.le_of_ble_eq_true rfl, Nat.le_of_ble_eq_true rfl⟩) (ch_pV hw (by decide) rfl rfl rfl) rfl rfl hl.1 rfl (lv_room (Nat.le_of_ble_eq_true rfl)) dX7_follow_145 ⟨Nat.le_refl 0, Nat.le_refl 0⟩) (fun H locs hw => ?_)
  refine lv_aload_n hx hb dX7_follow_148 rfl (lv_at hl 1 rfl) ?_
  refine lv_iload_n hx hb dX7_follow_149 rfl (lv_at hl 2 rfl) ?_
  refine lv_iload hx hb dX7_follow_150 (lv_at hl 7 rfl) ?_
  refine lv_iload hx hb dX7_follow_152 (lv_at hl 0 rfl) ?_
  refine ch_bd_k h (fun r3 M4 hc h => ?_)
  refine ch_ci hw (va_runV (As := [.int x1, .int x8, .int y0]) (rest := [.int r1]) S (c_X7_amount l D I sh H.size M2 x1 x8 y0 hc) (cwV 3 hts gX7_follow_X7_amount rfl rfl rfl (by decide +kernel) ⟨Nat.le_of_ble_eq_true rfl, Nat.le_of_ble_eq_true rfl⟩) (ch_pV hw (by decide) rfl rfl rfl) rfl rfl hl.1 rfl (lv_room (Nat.le_of_ble_eq_true rfl)) dX7_follow_154 ⟨Nat.le_refl 0, Nat.le_refl 0⟩) (fun H locs hw => ?_)
  refine ch_icmp_le (tgt := 165) hx hb dX7_follow_157 (by decide) h (fun h => ?_) (fun h => ?_)
  · refine lv_iload hx hb dX7_follow_165 (lv_at hl 0 rfl) ?_
    exact t_X7_follow_167 S fin hk68 h hw (lv_sub hl [1, 2, 3, 4, 5, 6] rfl)
  · refine lv_iload hx hb dX7_follow_160 (lv_at hl 8 rfl) ?_
    refine lv_goto (tgt := 167) hx hb dX7_follow_162 (by decide) ?_
    exact t_X7_follow_167 S fin hk68 h hw (lv_sub hl [1, 2, 3, 4, 5, 6] rfl)
set_option maxHeartbeats 4000000 in
set_option maxRecDepth 100000 in
theorem t_X7_follow_179 {p : Program} {l : Launch} {e : Env} {s : State} {m : MethodId} {args : Array Value} {below : List Frame} {meth : Method} {c : Code} {Q : State → Prop} {D : va_G} {I : ch_Id} {sh : Nat → Nat} {A : Nat → Prop} {oo : Int32 × ch_Mem}     (S : CallFix p m c cX7_follow 12 s args wsX7_follow RX7) (fin : ch_FinI p l e rm_X7_follow s m args below meth c cX7_follow Q D I 13 (ch_FM I sh) sh A oo)  {x6 : Int32}  {M : ch_Mem} {H : Heap} {locs : List Loc} {ls : Array Slot} (h : D_X7_follow_b179 x6 M = some oo) (hw : ch_Wd D I 13 (ch_FM I sh) sh s A M H locs) (hl : lv_has ls 12 [(6, .int x6)]) : W p l e rm_X7_follow s m args below meth c H locs 0 0 Q (F0 m 179 ls []) := by
  obtain ⟨hx, hb, hml, hown, hts⟩ := id S
  unfold D_X7_follow_b179 at h
  refine lv_iload hx hb dX7_follow_179 (lv_at hl 0 rfl) ?_
  exact fin _ _ _ _ _ _ h hw dX7_follow_181
set_option maxHeartbeats 4000000 in
set_option maxRecDepth 100000 in
theorem t_X7_follow_68 {p : Program} {l : Launch} {e : Env} {s : State} {m : MethodId} {args : Array Value} {below : List Frame} {meth : Method} {c : Code} {Q : State → Prop} {D : va_G} {I : ch_Id} {sh : Nat → Nat} {A : Nat → Prop} {oo : Int32 × ch_Mem}    {k68 : Int32 → Int32 → Int32 → Int32 → Int32 → Int32 → ch_Mem → Option (Int32 × ch_Mem)} (S : CallFix p m c cX7_follow 12 s args wsX7_follow RX7) (fin : ch_FinI p l e rm_X7_follow s m args below meth c cX7_follow Q D I 13 (ch_FM I sh) sh A oo) (hk68 : ∀ (x1 : Int32) (x2 : Int32) (x4 : Int32) (x5 : Int32) (x6 : Int32) (x7 : Int32) (M : ch_Mem) (H : Heap) (locs : List Loc) (ls : Array Slot), k68 x1 x2 x4 x5 x6 x7 M = some oo → ch_Wd D I 13 (ch_FM I sh) sh s A M H locs → lv_has ls 12 [(0, .ref (sh 0)), (1, .int x1), (2, .int x2), (4, .int x4), (5, .int x5), (6, .int x6), (7, .int x7)] → W p l e rm_X7_follow s m args below meth c H locs 0 0 Q (F0 m 68 ls [])) {x1 : Int32} {x2 : Int32} {x4 : Int32} {x5 : Int32} {x6 : Int32} {x7 : Int32}  {M : ch_Mem} {H : Heap} {locs : List Loc} {ls : Array Slot} (h : D_X7_follow_b68 k68 x1 x2 x4 x5 x6 x7 M = some oo) (hw : ch_Wd D I 13 (ch_FM I sh) sh s A M H locs) (hl : lv_has ls 12 [(0, .ref (sh 0)), (1, .int x1), (2, .int x2), (4, .int x4), (5, .int x5), (6, .int x6), (7, .int x7)]) : W p l e rm_X7_follow s m args below meth c H locs 0 0 Q (F0 m 68 ls []) := by
  obtain ⟨hx, hb, hml, hown, hts⟩ := id S
  unfold D_X7_follow_b68 at h
  refine lv_iload hx hb dX7_follow_68 (lv_at hl 6 rfl) ?_
  refine lv_iload hx hb dX7_follow_70 (lv_at hl 3 rfl) ?_
  refine ch_icmp_ge (tgt := 179) hx hb dX7_follow_72 (by decide) h (fun h => ?_) (fun h => ?_)
  · exact t_X7_follow_179 S fin h hw (lv_sub hl [5] rfl)
  · refine lv_iload_n hx hb dX7_follow_75 rfl (lv_at hl 2 rfl) ?_
    refine lv_iload hx hb dX7_follow_76 (lv_at hl 6 rfl) ?_
    refine lv_iload hx hb dX7_follow_78 (lv_at hl 4 rfl) ?_
    refine lv_imul hx hb dX7_follow_80 ?_
    refine lv_iadd hx hb dX7_follow_81 ?_
    refine lv_istore (lv' := [(8, .int (x2 + (x7 * x5))), (0, .ref (sh 0)), (1, .int x1), (2, .int x2), (4, .int x4), (5, .int x5), (6, .int x6), (7, .int x7)]) hx hb dX7_follow_82 hl (by decide) rfl (fun ls hl => ?_)
    refine lv_iload hx hb dX7_follow_84 (lv_at hl 6 rfl) ?_
    refine lv_iload hx hb dX7_follow_86 (lv_at hl 5 rfl) ?_
    refine lv_iadd hx hb dX7_follow_88 ?_
    refine lv_iconst (v := (1 : Int32)) hx hb dX7_follow_89 (by decide) ?_
    refine lv_isub hx hb dX7_follow_90 ?_
    refine lv_iload hx hb dX7_follow_91 (lv_at hl 5 rfl) ?_
    refine ch_g0_k h (fun hne h => ?_)
    refine lv_irem hx hb dX7_follow_93 hne ?_
    refine ch_topi h (fun u1 h => ?_)
    refine lv_istore (lv' := [(9, .int u1), (8, .int (x2 + (x7 * x5))), (0, .ref (sh 0)), (1, .int x1), (2, .int x2), (4, .int x4), (5, .int x5), (6, .int x6), (7, .int x7)]) hx hb dX7_follow_94 hl (by decide) rfl (fun ls hl => ?_)
    refine lv_iload hx hb dX7_follow_96 (lv_at hl 7 rfl) ?_
    refine lv_iconst (v := (1 : Int32)) hx hb dX7_follow_98 (by decide) ?_
    refine lv_iadd hx hb dX7_follow_99 ?_
    refine lv_iload hx hb dX7_follow_100 (lv_at hl 6 rfl) ?_
    refine ch_g0_k h (fun hne h => ?_)
    refine lv_irem hx hb dX7_follow_102 hne ?_
    refine ch_topi h (fun u2 h => ?_)
    refine lv_istore (lv' := [(10, .int u2), (9, .int u1), (8, .int (x2 + (x7 * x5))), (0, .ref (sh 0)), (1, .int x1), (2, .int x2), (4, .int x4), (5, .int x5), (6, .int x6), (7, .int x7)]) hx hb dX7_follow_103 hl (by decide) rfl (fun ls hl => ?_)
    refine lv_iload hx hb dX7_follow_105 (lv_at hl 8 rfl) ?_
    refine lv_istore (lv' := [(11, .int x6), (10, .int u2), (9, .int u1), (8, .int (x2 + (x7 * x5))), (0, .ref (sh 0)), (1, .int x1), (2, .int x2), (4, .int x4), (5, .int x5), (6, .int x6), (7, .int x7)]) hx hb dX7_follow_107 hl (by decide) rfl (fun ls hl => ?_)
    refine lv_aload_n hx hb dX7_follow_109 rfl (lv_at hl 4 rfl) ?_
    refine lv_iload_n hx hb dX7_follow_110 rfl (lv_at hl 5 rfl) ?_
    refine lv_iload hx hb dX7_follow_111 (lv_at hl 3 rfl) ?_
    refine lv_iload hx hb dX7_follow_113 (lv_at hl 2 rfl) ?_
    refine ch_bd_k h (fun r3 M4 hc h => ?_)
    refine ch_ci hw (va_runV (As := [.int x1, .int (x2 + (x7 * x5)), .int u1]) (rest := []) S (c_X7_amount l D I sh H.size M x1 (x2 + (x7 * x5)) u1 hc) (cwV 3 hts gX7_follow_X7_amount rfl rfl rfl (by decide +kernel) ⟨Nat.le_of_ble_eq_true rfl, Nat.le_of_ble_eq_true rfl⟩) (ch_pV hw (by decide) rfl rfl rfl) rfl rfl hl.1 rfl (lv_room (Nat.le_of_ble_eq_true rfl)) dX7_follow_115 ⟨Nat.le_refl 0, Nat.le_refl 0⟩) (fun H locs hw => ?_)
    refine lv_aload_n hx hb dX7_follow_118 rfl (lv_at hl 4 rfl) ?_
    refine lv_iload_n hx hb dX7_follow_119 rfl (lv_at hl 5 rfl) ?_
    refine lv_iload hx hb dX7_follow_120 (lv_at hl 3 rfl) ?_
    refine lv_iload hx hb dX7_follow_122 (lv_at hl 0 rfl) ?_
    refine ch_bd_k h (fun r5 M6 hc h => ?_)
    refine ch_ci hw (va_runV (As := [.int x1, .int (x2 + (x7 * x5)), .int x6]) (rest := [.int r3]) S (c_X7_amount l D I sh H.size M4 x1 (x2 + (x7 * x5)) x6 hc) (cwV 3 hts gX7_follow_X7_amount rfl rfl rfl (by decide +kernel) ⟨Nat.le_of_ble_eq_true rfl, Nat.le_of_ble_eq_true rfl⟩) (ch_pV hw (by decide) rfl rfl rfl) rfl rfl hl.1 rfl (lv_room (Nat.le_of_ble_eq_true rfl)) dX7_follow_124 ⟨Nat.le_refl 0, Nat.le_refl 0⟩) (fun H locs hw => ?_)
    refine ch_icmp_le (tgt := 135) hx hb dX7_follow_127 (by decide) h (fun h => ?_) (fun h => ?_)
    · refine lv_iload hx hb dX7_follow_135 (lv_at hl 0 rfl) ?_
      exact t_X7_follow_137 S fin hk68 h hw (lv_sub hl [4, 5, 6, 7, 8, 10, 3, 1] rfl)
    · refine lv_iload hx hb dX7_follow_130 (lv_at hl 2 rfl) ?_
      refine lv_goto (tgt := 137) hx hb dX7_follow_132 (by decide) ?_
      exact t_X7_follow_137 S fin hk68 h hw (lv_sub hl [4, 5, 6, 7, 8, 10, 3, 1] rfl)
set_option maxHeartbeats 4000000 in
set_option maxRecDepth 100000 in
theorem tl_X7_follow_68 {p : Program} {l : Launch} {e : Env} {s : State} {m : MethodId} {args : Array Value} {below : List Frame} {meth : Method} {c : Code} {Q : State → Prop} {D : va_G} {I : ch_Id} {sh : Nat → Nat} {A : Nat → Prop} {oo : Int32 × ch_Mem}     (S : CallFix p m c cX7_follow 12 s args wsX7_follow RX7) (fin : ch_FinI p l e rm_X7_follow s m args below meth c cX7_follow Q D I 13 (ch_FM I sh) sh A oo)  (n : Nat) : ∀ (x1 : Int32) (x2 : Int32) (x4 : Int32) (x5 : Int32) (x6 : Int32) (x7 : Int32) (M : ch_Mem) (H : Heap) (locs : List Loc) (ls : Array Slot), D_X7_follow_L68  n x1 x2 x4 x5 x6 x7 M = some oo → ch_Wd D I 13 (ch_FM I sh) sh s A M H locs → lv_has ls 12 [(0, .ref (sh 0)), (1, .int x1), (2, .int x2), (4, .int x4), (5, .int x5), (6, .int x6), (7, .int x7)] → W p l e rm_X7_follow s m args below meth c H locs 0 0 Q (F0 m 68 ls []) := by
  induction n with
  | zero => intro x1 x2 x4 x5 x6 x7 M H locs ls  h; cases h
  | succ n ih =>
    intro x1 x2 x4 x5 x6 x7 M H locs ls  h hw hl
    exact t_X7_follow_68 S fin ih h hw hl
set_option maxHeartbeats 4000000 in
set_option maxRecDepth 100000 in
theorem t_X7_follow_0 {p : Program} {l : Launch} {e : Env} {s : State} {m : MethodId} {args : Array Value} {below : List Frame} {meth : Method} {c : Code} {Q : State → Prop} {D : va_G} {I : ch_Id} {sh : Nat → Nat} {A : Nat → Prop} {oo : Int32 × ch_Mem}     (S : CallFix p m c cX7_follow 12 s args wsX7_follow RX7) (fin : ch_FinI p l e rm_X7_follow s m args below meth c cX7_follow Q D I 13 (ch_FM I sh) sh A oo)  {x1 : Int32} {x2 : Int32} {x3 : Int32} {x4 : Int32}  {M : ch_Mem} {H : Heap} {locs : List Loc} {ls : Array Slot} (h : D_X7_follow x1 x2 x3 x4 M = some oo) (hw : ch_Wd D I 13 (ch_FM I sh) sh s A M H locs) (hl : lv_has ls 12 [(0, .ref (sh 0)), (1, .int x1), (2, .int x2), (3, .int x3), (4, .int x4)]) : W p l e rm_X7_follow s m args below meth c H locs 0 0 Q (F0 m 0 ls []) := by
  obtain ⟨hx, hb, hml, hown, hts⟩ := id S
  unfold D_X7_follow at h
  refine lv_iload_n hx hb dX7_follow_0 rfl (lv_at hl 1 rfl) ?_
  refine ch_bd_k h (fun r1 M2 hc h => ?_)
  refine ch_ci hw (va_runS (As := [.int x1]) (rest := []) S (c_X7_isRow l D I sh H.size M x1 hc) (va_cwS 1 hts gX7_follow_X7_isRow rfl rfl rfl (by decide +kernel) ⟨Nat.le_of_ble_eq_true rfl, Nat.le_of_ble_eq_true rfl⟩) (ch_pS hw) rfl rfl hl.1 rfl (lv_room (Nat.le_of_ble_eq_true rfl)) dX7_follow_1 ⟨Nat.le_refl 0, Nat.le_refl 0⟩) (fun H locs hw => ?_)
  refine ch_if_eq (tgt := 36) hx hb dX7_follow_4 (by decide) h (fun h => ?_) (fun h => ?_)
  · refine lv_bipush (v := (-2 : Int32)) hx hb dX7_follow_36 (by decide) ?_
    exact fin _ _ _ _ _ _ h hw dX7_follow_38
  · refine lv_iload_n hx hb dX7_follow_7 rfl (lv_at hl 2 rfl) ?_
    refine lv_iconst (v := (0 : Int32)) hx hb dX7_follow_8 (by decide) ?_
    refine lv_sipush (v := (300 : Int32)) hx hb dX7_follow_9 (by decide) ?_
    refine ch_bd_k h (fun r3 M4 hc h => ?_)
    refine ch_ci hw (va_runS (As := [.int x2, .int (0 : Int32), .int (300 : Int32)]) (rest := []) S (c_X7_in l D I sh H.size M2 x2 (0 : Int32) (300 : Int32) hc) (va_cwS 3 hts gX7_follow_X7_in rfl rfl rfl (by decide +kernel) ⟨Nat.le_of_ble_eq_true rfl, Nat.le_of_ble_eq_true rfl⟩) (ch_pS hw) rfl rfl hl.1 rfl (lv_room (Nat.le_of_ble_eq_true rfl)) dX7_follow_12 ⟨Nat.le_refl 0, Nat.le_refl 0⟩) (fun H locs hw => ?_)
    refine ch_if_eq (tgt := 36) hx hb dX7_follow_15 (by decide) h (fun h => ?_) (fun h => ?_)
    · refine lv_bipush (v := (-2 : Int32)) hx hb dX7_follow_36 (by decide) ?_
      exact fin _ _ _ _ _ _ h hw dX7_follow_38
    · refine lv_iload_n hx hb dX7_follow_18 rfl (lv_at hl 3 rfl) ?_
      refine ch_bd_k h (fun r5 M6 hc h => ?_)
      refine ch_ci hw (va_runS (As := [.int x3]) (rest := []) S (c_X7_isShift l D I sh H.size M4 x3 hc) (va_cwS 1 hts gX7_follow_X7_isShift rfl rfl rfl (by decide +kernel) ⟨Nat.le_of_ble_eq_true rfl, Nat.le_of_ble_eq_true rfl⟩) (ch_pS hw) rfl rfl hl.1 rfl (lv_room (Nat.le_of_ble_eq_true rfl)) dX7_follow_19 ⟨Nat.le_refl 0, Nat.le_refl 0⟩) (fun H locs hw => ?_)
      refine ch_if_eq (tgt := 36) hx hb dX7_follow_22 (by decide) h (fun h => ?_) (fun h => ?_)
      · refine lv_bipush (v := (-2 : Int32)) hx hb dX7_follow_36 (by decide) ?_
        exact fin _ _ _ _ _ _ h hw dX7_follow_38
      · refine lv_iload hx hb dX7_follow_25 (lv_at hl 4 rfl) ?_
        refine lv_iconst (v := (1 : Int32)) hx hb dX7_follow_27 (by decide) ?_
        refine lv_bipush (v := (20 : Int32)) hx hb dX7_follow_28 (by decide) ?_
        refine ch_bd_k h (fun r7 M8 hc h => ?_)
        refine ch_ci hw (va_runS (As := [.int x4, .int (1 : Int32), .int (20 : Int32)]) (rest := []) S (c_X7_in l D I sh H.size M6 x4 (1 : Int32) (20 : Int32) hc) (va_cwS 3 hts gX7_follow_X7_in rfl rfl rfl (by decide +kernel) ⟨Nat.le_of_ble_eq_true rfl, Nat.le_of_ble_eq_true rfl⟩) (ch_pS hw) rfl rfl hl.1 rfl (lv_room (Nat.le_of_ble_eq_true rfl)) dX7_follow_30 ⟨Nat.le_refl 0, Nat.le_refl 0⟩) (fun H locs hw => ?_)
        refine ch_if_ne (tgt := 39) hx hb dX7_follow_33 (by decide) h (fun h => ?_) (fun h => ?_)
        · refine lv_aload_n hx hb dX7_follow_39 rfl (lv_at hl 0 rfl) ?_
          refine ch_get S hw 0 (by decide) rfl rfl (by decide +kernel) 0 (by decide) (hts (.fieldLink RX7 7 "CodeHuntModel" "sizesOf" "[I") (by decide +kernel)) rfl dX7_follow_40 ?_
          refine lv_iload_n hx hb dX7_follow_43 rfl (lv_at hl 1 rfl) ?_
          refine ch_gd_k h (fun hin h => ?_)
          refine ch_iald S hw 1 (by decide) rfl hin dX7_follow_44 ?_
          refine ch_if_ne (tgt := 51) hx hb dX7_follow_45 (by decide) h (fun h => ?_) (fun h => ?_)
          · refine lv_aload_n hx hb dX7_follow_51 rfl (lv_at hl 0 rfl) ?_
            refine ch_get S hw 0 (by decide) rfl rfl (by decide +kernel) 0 (by decide) (hts (.fieldLink RX7 7 "CodeHuntModel" "sizesOf" "[I") (by decide +kernel)) rfl dX7_follow_52 ?_
            refine lv_iload_n hx hb dX7_follow_55 rfl (lv_at hl 1 rfl) ?_
            refine ch_gd_k h (fun hin h => ?_)
            refine ch_iald S hw 1 (by decide) rfl hin dX7_follow_56 ?_
            refine lv_istore (lv' := [(5, .int (M8.1 1 x1.toNatClampNeg)), (0, .ref (sh 0)), (1, .int x1), (2, .int x2), (3, .int x3), (4, .int x4)]) hx hb dX7_follow_57 hl (by decide) rfl (fun ls hl => ?_)
            refine lv_iload_n hx hb dX7_follow_59 rfl (lv_at hl 4 rfl) ?_
            refine lv_iload hx hb dX7_follow_60 (lv_at hl 0 rfl) ?_
            refine ch_g0_k h (fun hne h => ?_)
            refine lv_irem hx hb dX7_follow_62 hne ?_
            refine ch_topi h (fun u9 h => ?_)
            refine lv_istore (lv' := [(6, .int u9), (5, .int (M8.1 1 x1.toNatClampNeg)), (0, .ref (sh 0)), (1, .int x1), (2, .int x2), (3, .int x3), (4, .int x4)]) hx hb dX7_follow_63 hl (by decide) rfl (fun ls hl => ?_)
            refine lv_iconst (v := (0 : Int32)) hx hb dX7_follow_65 (by decide) ?_
            refine lv_istore (lv' := [(7, .int (0 : Int32)), (6, .int u9), (5, .int (M8.1 1 x1.toNatClampNeg)), (0, .ref (sh 0)), (1, .int x1), (2, .int x2), (3, .int x3), (4, .int x4)]) hx hb dX7_follow_66 hl (by decide) rfl (fun ls hl => ?_)
            exact tl_X7_follow_68 S fin ch_fu _ _ _ _ _ _ _ _ _ _ h hw (lv_sub hl [3, 4, 5, 7, 2, 1, 0] rfl)
          · refine lv_bipush (v := (-3 : Int32)) hx hb dX7_follow_48 (by decide) ?_
            exact fin _ _ _ _ _ _ h hw dX7_follow_50
        · refine lv_bipush (v := (-2 : Int32)) hx hb dX7_follow_36 (by decide) ?_
          exact fin _ _ _ _ _ _ h hw dX7_follow_38
set_option maxHeartbeats 4000000 in
set_option maxRecDepth 100000 in
theorem c_X7_follow (l : Launch) (D : va_G) (I : ch_Id) (sh : Nat → Nat) (sz : Nat) (M : ch_Mem)  (x1 : Int32) (x2 : Int32) (x3 : Int32) (x4 : Int32) {r : Int32} {M1 : ch_Mem} (h : D_X7_follow x1 x2 x3 x4 M = some (r, M1)) : Met l yX7_follow wsX7_follow rm_X7_follow (va_Pc [.ref (sh 0), .int x1, .int x2, .int x3, .int x4] (ch_Pre D I 13 (ch_FM I sh) sh sz M)) (va_Qi (fun r' (u : ch_Mem) => r' = r ∧ u = M1) (ch_Pos D 13 (ch_FM I sh) sh) (ch_A 13 sh sz)) 0 0 (ch_A 13 sh sz) := by
  refine Met.ofW (cc := cX7_follow) (maxL := 12) (ret := (some .int)) (by decide) rfl ?_
  intro p e s m args below meth c s₁ B hml hv0
  obtain ⟨rfl, hv0⟩ := hv0
  obtain rfl : s.heap.size = sz := hv0.1
  have hw := ch_start hv0
  have S : CallFix p m c cX7_follow 12 s _ wsX7_follow RX7 := ⟨B.exec, B.bytes, hml, findClass_of_methodNamed B.named, atoms_spec (ws := wsX7_follow) B.pre⟩
  have hl := lv_entry ([.ref (sh 0), .int x1, .int x2, .int x3, .int x4]) (n := 12) (Nat.le_of_ble_eq_true rfl)
  rw [lg_entry_eq]
  generalize (lg_sl ([.ref (sh 0), .int x1, .int x2, .int x3, .int x4]) ++ List.replicate (12 - (lg_sl ([.ref (sh 0), .int x1, .int x2, .int x3, .int x4])).length) Slot.unset).toArray = ls at hl ⊢
  exact t_X7_follow_0 S (ch_finI (B := fun _ => True) B.exec B.bytes B.returns B.notSynchronized) h hw (lv_sub hl [0, 1, 2, 3, 4] rfl)
set_option maxHeartbeats 4000000 in
set_option maxRecDepth 100000 in
theorem t_X7_next_28 {p : Program} {l : Launch} {e : Env} {s : State} {m : MethodId} {args : Array Value} {below : List Frame} {meth : Method} {c : Code} {Q : State → Prop} {D : va_G} {I : ch_Id} {sh : Nat → Nat} {A : Nat → Prop} {oo : Int32 × ch_Mem}     (S : CallFix p m c cX7_next 5 s args wsX7_next RX7) (fin : ch_FinI p l e rm_X7_next s m args below meth c cX7_next Q D I 13 (ch_FM I sh) sh A oo)  {x0 : Int32} {x2 : Int32} {x3 : Int32}  {M : ch_Mem} {H : Heap} {locs : List Loc} {ls : Array Slot} (h : D_X7_next_b28 x0 x2 x3 M = some oo) (hw : ch_Wd D I 13 (ch_FM I sh) sh s A M H locs) (hl : lv_has ls 5 [(0, .int x0), (2, .int x2), (3, .int x3)]) : W p l e rm_X7_next s m args below meth c H locs 0 0 Q (F0 m 28 ls []) := by
  obtain ⟨hx, hb, hml, hown, hts⟩ := id S
  unfold D_X7_next_b28 at h
  refine lv_iload_n hx hb dX7_next_28 rfl (lv_at hl 1 rfl) ?_
  refine lv_iconst (v := (1 : Int32)) hx hb dX7_next_29 (by decide) ?_
  refine lv_ishr hx hb dX7_next_30 ?_
  refine lv_iload_n hx hb dX7_next_31 rfl (lv_at hl 2 rfl) ?_
  refine lv_iload_n hx hb dX7_next_32 rfl (lv_at hl 0 rfl) ?_
  refine lv_iconst (v := (1 : Int32)) hx hb dX7_next_33 (by decide) ?_
  refine lv_isub hx hb dX7_next_34 ?_
  refine lv_ishl hx hb dX7_next_35 ?_
  refine lv_ior hx hb dX7_next_36 ?_
  exact fin _ _ _ _ _ _ h hw dX7_next_37
set_option maxHeartbeats 4000000 in
set_option maxRecDepth 100000 in
theorem t_X7_next_5 {p : Program} {l : Launch} {e : Env} {s : State} {m : MethodId} {args : Array Value} {below : List Frame} {meth : Method} {c : Code} {Q : State → Prop} {D : va_G} {I : ch_Id} {sh : Nat → Nat} {A : Nat → Prop} {oo : Int32 × ch_Mem}    {k5 : Int32 → Int32 → Int32 → Int32 → Int32 → ch_Mem → Option (Int32 × ch_Mem)} (S : CallFix p m c cX7_next 5 s args wsX7_next RX7) (fin : ch_FinI p l e rm_X7_next s m args below meth c cX7_next Q D I 13 (ch_FM I sh) sh A oo) (hk5 : ∀ (x0 : Int32) (x1 : Int32) (x2 : Int32) (x3 : Int32) (x4 : Int32) (M : ch_Mem) (H : Heap) (locs : List Loc) (ls : Array Slot), k5 x0 x1 x2 x3 x4 M = some oo → ch_Wd D I 13 (ch_FM I sh) sh s A M H locs → lv_has ls 5 [(0, .int x0), (1, .int x1), (2, .int x2), (3, .int x3), (4, .int x4)] → W p l e rm_X7_next s m args below meth c H locs 0 0 Q (F0 m 5 ls [])) {x0 : Int32} {x1 : Int32} {x2 : Int32} {x3 : Int32} {x4 : Int32}  {M : ch_Mem} {H : Heap} {locs : List Loc} {ls : Array Slot} (h : D_X7_next_b5 k5 x0 x1 x2 x3 x4 M = some oo) (hw : ch_Wd D I 13 (ch_FM I sh) sh s A M H locs) (hl : lv_has ls 5 [(0, .int x0), (1, .int x1), (2, .int x2), (3, .int x3), (4, .int x4)]) : W p l e rm_X7_next s m args below meth c H locs 0 0 Q (F0 m 5 ls []) := by
  obtain ⟨hx, hb, hml, hown, hts⟩ := id S
  unfold D_X7_next_b5 at h
  refine lv_iload hx hb dX7_next_5 (lv_at hl 4 rfl) ?_
  refine lv_iload_n hx hb dX7_next_7 rfl (lv_at hl 0 rfl) ?_
  refine ch_icmp_ge (tgt := 28) hx hb dX7_next_8 (by decide) h (fun h => ?_) (fun h => ?_)
  · exact t_X7_next_28 S fin h hw (lv_sub hl [0, 2, 3] rfl)
  · refine lv_iload_n hx hb dX7_next_11 rfl (lv_at hl 3 rfl) ?_
    refine lv_iload_n hx hb dX7_next_12 rfl (lv_at hl 2 rfl) ?_
    refine lv_iload_n hx hb dX7_next_13 rfl (lv_at hl 1 rfl) ?_
    refine lv_iand hx hb dX7_next_14 ?_
    refine lv_iload hx hb dX7_next_15 (lv_at hl 4 rfl) ?_
    refine lv_ishr hx hb dX7_next_17 ?_
    refine lv_iconst (v := (1 : Int32)) hx hb dX7_next_18 (by decide) ?_
    refine lv_iand hx hb dX7_next_19 ?_
    refine lv_ixor hx hb dX7_next_20 ?_
    refine ch_topi h (fun u1 h => ?_)
    refine lv_istore_n (lv' := [(3, .int u1), (0, .int x0), (1, .int x1), (2, .int x2), (4, .int x4)]) hx hb dX7_next_21 rfl hl (by decide) rfl (fun ls hl => ?_)
    refine lv_iinc (v := x4 + (1 : Int32)) (lv' := [(4, .int (x4 + (1 : Int32))), (3, .int u1), (0, .int x0), (1, .int x1), (2, .int x2)]) hx hb dX7_next_22 hl (k := 4) rfl rfl (by decide) rfl (fun ls hl => ?_)
    refine lv_goto (tgt := 5) hx hb dX7_next_25 (by decide) ?_
    exact hk5 _ _ _ _ _ _ _ _ _  h hw (lv_sub hl [2, 3, 4, 1, 0] rfl)
set_option maxHeartbeats 4000000 in
set_option maxRecDepth 100000 in
theorem tl_X7_next_5 {p : Program} {l : Launch} {e : Env} {s : State} {m : MethodId} {args : Array Value} {below : List Frame} {meth : Method} {c : Code} {Q : State → Prop} {D : va_G} {I : ch_Id} {sh : Nat → Nat} {A : Nat → Prop} {oo : Int32 × ch_Mem}     (S : CallFix p m c cX7_next 5 s args wsX7_next RX7) (fin : ch_FinI p l e rm_X7_next s m args below meth c cX7_next Q D I 13 (ch_FM I sh) sh A oo)  (n : Nat) : ∀ (x0 : Int32) (x1 : Int32) (x2 : Int32) (x3 : Int32) (x4 : Int32) (M : ch_Mem) (H : Heap) (locs : List Loc) (ls : Array Slot), D_X7_next_L5  n x0 x1 x2 x3 x4 M = some oo → ch_Wd D I 13 (ch_FM I sh) sh s A M H locs → lv_has ls 5 [(0, .int x0), (1, .int x1), (2, .int x2), (3, .int x3), (4, .int x4)] → W p l e rm_X7_next s m args below meth c H locs 0 0 Q (F0 m 5 ls []) := by
  induction n with
  | zero => intro x0 x1 x2 x3 x4 M H locs ls  h; cases h
  | succ n ih =>
    intro x0 x1 x2 x3 x4 M H locs ls  h hw hl
    exact t_X7_next_5 S fin ih h hw hl
set_option maxHeartbeats 4000000 in
set_option maxRecDepth 100000 in
theorem t_X7_next_0 {p : Program} {l : Launch} {e : Env} {s : State} {m : MethodId} {args : Array Value} {below : List Frame} {meth : Method} {c : Code} {Q : State → Prop} {D : va_G} {I : ch_Id} {sh : Nat → Nat} {A : Nat → Prop} {oo : Int32 × ch_Mem}     (S : CallFix p m c cX7_next 5 s args wsX7_next RX7) (fin : ch_FinI p l e rm_X7_next s m args below meth c cX7_next Q D I 13 (ch_FM I sh) sh A oo)  {x0 : Int32} {x1 : Int32} {x2 : Int32}  {M : ch_Mem} {H : Heap} {locs : List Loc} {ls : Array Slot} (h : D_X7_next x0 x1 x2 M = some oo) (hw : ch_Wd D I 13 (ch_FM I sh) sh s A M H locs) (hl : lv_has ls 5 [(0, .int x0), (1, .int x1), (2, .int x2)]) : W p l e rm_X7_next s m args below meth c H locs 0 0 Q (F0 m 0 ls []) := by
  obtain ⟨hx, hb, hml, hown, hts⟩ := id S
  unfold D_X7_next at h
  refine lv_iconst (v := (0 : Int32)) hx hb dX7_next_0 (by decide) ?_
  refine lv_istore_n (lv' := [(3, .int (0 : Int32)), (0, .int x0), (1, .int x1), (2, .int x2)]) hx hb dX7_next_1 rfl hl (by decide) rfl (fun ls hl => ?_)
  refine lv_iconst (v := (0 : Int32)) hx hb dX7_next_2 (by decide) ?_
  refine lv_istore (lv' := [(4, .int (0 : Int32)), (3, .int (0 : Int32)), (0, .int x0), (1, .int x1), (2, .int x2)]) hx hb dX7_next_3 hl (by decide) rfl (fun ls hl => ?_)
  exact tl_X7_next_5 S fin ch_fu _ _ _ _ _ _ _ _ _ h hw (lv_sub hl [2, 3, 4, 1, 0] rfl)
set_option maxHeartbeats 4000000 in
set_option maxRecDepth 100000 in
theorem c_X7_next (l : Launch) (D : va_G) (I : ch_Id) (sh : Nat → Nat) (sz : Nat) (M : ch_Mem)  (x0 : Int32) (x1 : Int32) (x2 : Int32) {r : Int32} {M1 : ch_Mem} (h : D_X7_next x0 x1 x2 M = some (r, M1)) : Met l yX7_next wsX7_next rm_X7_next (va_Pc [.int x0, .int x1, .int x2] (ch_Pre D I 13 (ch_FM I sh) sh sz M)) (va_Qi (fun r' (u : ch_Mem) => r' = r ∧ u = M1) (ch_Pos D 13 (ch_FM I sh) sh) (ch_A 13 sh sz)) 0 0 (ch_A 13 sh sz) := by
  refine Met.ofW (cc := cX7_next) (maxL := 5) (ret := (some .int)) (by decide) rfl ?_
  intro p e s m args below meth c s₁ B hml hv0
  obtain ⟨rfl, hv0⟩ := hv0
  obtain rfl : s.heap.size = sz := hv0.1
  have hw := ch_start hv0
  have S : CallFix p m c cX7_next 5 s _ wsX7_next RX7 := ⟨B.exec, B.bytes, hml, findClass_of_methodNamed B.named, atoms_spec (ws := wsX7_next) B.pre⟩
  have hl := lv_entry ([.int x0, .int x1, .int x2]) (n := 5) (Nat.le_of_ble_eq_true rfl)
  rw [lg_entry_eq]
  generalize (lg_sl ([.int x0, .int x1, .int x2]) ++ List.replicate (5 - (lg_sl ([.int x0, .int x1, .int x2])).length) Slot.unset).toArray = ls at hl ⊢
  exact t_X7_next_0 S (ch_finI (B := fun _ => True) B.exec B.bytes B.returns B.notSynchronized) h hw (lv_sub hl [0, 1, 2] rfl)
set_option maxHeartbeats 4000000 in
set_option maxRecDepth 100000 in
theorem t_X7_periodOf_28 {p : Program} {l : Launch} {e : Env} {s : State} {m : MethodId} {args : Array Value} {below : List Frame} {meth : Method} {c : Code} {Q : State → Prop} {D : va_G} {I : ch_Id} {sh : Nat → Nat} {A : Nat → Prop} {oo : Int32 × ch_Mem}     (S : CallFix p m c cX7_periodOf 5 s args wsX7_periodOf RX7) (fin : ch_FinI p l e rm_X7_periodOf s m args below meth c cX7_periodOf Q D I 13 (ch_FM I sh) sh A oo)  {x4 : Int32}  {M : ch_Mem} {H : Heap} {locs : List Loc} {ls : Array Slot} (h : D_X7_periodOf_b28 x4 M = some oo) (hw : ch_Wd D I 13 (ch_FM I sh) sh s A M H locs) (hl : lv_has ls 5 [(4, .int x4)]) : W p l e rm_X7_periodOf s m args below meth c H locs 0 0 Q (F0 m 28 ls []) := by
  obtain ⟨hx, hb, hml, hown, hts⟩ := id S
  unfold D_X7_periodOf_b28 at h
  refine lv_iload hx hb dX7_periodOf_28 (lv_at hl 0 rfl) ?_
  exact fin _ _ _ _ _ _ h hw dX7_periodOf_30
set_option maxHeartbeats 4000000 in
set_option maxRecDepth 100000 in
theorem t_X7_periodOf_10 {p : Program} {l : Launch} {e : Env} {s : State} {m : MethodId} {args : Array Value} {below : List Frame} {meth : Method} {c : Code} {Q : State → Prop} {D : va_G} {I : ch_Id} {sh : Nat → Nat} {A : Nat → Prop} {oo : Int32 × ch_Mem}    {k10 : Int32 → Int32 → Int32 → Int32 → Int32 → ch_Mem → Option (Int32 × ch_Mem)} (S : CallFix p m c cX7_periodOf 5 s args wsX7_periodOf RX7) (fin : ch_FinI p l e rm_X7_periodOf s m args below meth c cX7_periodOf Q D I 13 (ch_FM I sh) sh A oo) (hk10 : ∀ (x0 : Int32) (x1 : Int32) (x2 : Int32) (x3 : Int32) (x4 : Int32) (M : ch_Mem) (H : Heap) (locs : List Loc) (ls : Array Slot), k10 x0 x1 x2 x3 x4 M = some oo → ch_Wd D I 13 (ch_FM I sh) sh s A M H locs → lv_has ls 5 [(0, .int x0), (1, .int x1), (2, .int x2), (3, .int x3), (4, .int x4)] → W p l e rm_X7_periodOf s m args below meth c H locs 0 0 Q (F0 m 10 ls [])) {x0 : Int32} {x1 : Int32} {x2 : Int32} {x3 : Int32} {x4 : Int32}  {M : ch_Mem} {H : Heap} {locs : List Loc} {ls : Array Slot} (h : D_X7_periodOf_b10 k10 x0 x1 x2 x3 x4 M = some oo) (hw : ch_Wd D I 13 (ch_FM I sh) sh s A M H locs) (hl : lv_has ls 5 [(0, .int x0), (1, .int x1), (2, .int x2), (3, .int x3), (4, .int x4)]) : W p l e rm_X7_periodOf s m args below meth c H locs 0 0 Q (F0 m 10 ls []) := by
  obtain ⟨hx, hb, hml, hown, hts⟩ := id S
  unfold D_X7_periodOf_b10 at h
  refine lv_iload_n hx hb dX7_periodOf_10 rfl (lv_at hl 3 rfl) ?_
  refine lv_iload_n hx hb dX7_periodOf_11 rfl (lv_at hl 2 rfl) ?_
  refine ch_icmp_eq (tgt := 28) hx hb dX7_periodOf_12 (by decide) h (fun h => ?_) (fun h => ?_)
  · exact t_X7_periodOf_28 S fin h hw (lv_sub hl [4] rfl)
  · refine lv_iload_n hx hb dX7_periodOf_15 rfl (lv_at hl 0 rfl) ?_
    refine lv_iload_n hx hb dX7_periodOf_16 rfl (lv_at hl 1 rfl) ?_
    refine lv_iload_n hx hb dX7_periodOf_17 rfl (lv_at hl 3 rfl) ?_
    refine ch_bd_k h (fun r1 M2 hc h => ?_)
    refine ch_ci hw (va_runS (As := [.int x0, .int x1, .int x3]) (rest := []) S (c_X7_next l D I sh H.size M x0 x1 x3 hc) (va_cwS 3 hts gX7_periodOf_X7_next rfl rfl rfl (by decide +kernel) ⟨Nat.le_of_ble_eq_true rfl, Nat.le_of_ble_eq_true rfl⟩) (ch_pS hw) rfl rfl hl.1 rfl (lv_room (Nat.le_of_ble_eq_true rfl)) dX7_periodOf_18 ⟨Nat.le_refl 0, Nat.le_refl 0⟩) (fun H locs hw => ?_)
    refine lv_istore_n (lv' := [(3, .int r1), (0, .int x0), (1, .int x1), (2, .int x2), (4, .int x4)]) hx hb dX7_periodOf_21 rfl hl (by decide) rfl (fun ls hl => ?_)
    refine lv_iinc (v := x4 + (1 : Int32)) (lv' := [(4, .int (x4 + (1 : Int32))), (3, .int r1), (0, .int x0), (1, .int x1), (2, .int x2)]) hx hb dX7_periodOf_22 hl (k := 4) rfl rfl (by decide) rfl (fun ls hl => ?_)
    refine lv_goto (tgt := 10) hx hb dX7_periodOf_25 (by decide) ?_
    exact hk10 _ _ _ _ _ _ _ _ _  h hw (lv_sub hl [2, 3, 4, 1, 0] rfl)
set_option maxHeartbeats 4000000 in
set_option maxRecDepth 100000 in
theorem tl_X7_periodOf_10 {p : Program} {l : Launch} {e : Env} {s : State} {m : MethodId} {args : Array Value} {below : List Frame} {meth : Method} {c : Code} {Q : State → Prop} {D : va_G} {I : ch_Id} {sh : Nat → Nat} {A : Nat → Prop} {oo : Int32 × ch_Mem}     (S : CallFix p m c cX7_periodOf 5 s args wsX7_periodOf RX7) (fin : ch_FinI p l e rm_X7_periodOf s m args below meth c cX7_periodOf Q D I 13 (ch_FM I sh) sh A oo)  (n : Nat) : ∀ (x0 : Int32) (x1 : Int32) (x2 : Int32) (x3 : Int32) (x4 : Int32) (M : ch_Mem) (H : Heap) (locs : List Loc) (ls : Array Slot), D_X7_periodOf_L10  n x0 x1 x2 x3 x4 M = some oo → ch_Wd D I 13 (ch_FM I sh) sh s A M H locs → lv_has ls 5 [(0, .int x0), (1, .int x1), (2, .int x2), (3, .int x3), (4, .int x4)] → W p l e rm_X7_periodOf s m args below meth c H locs 0 0 Q (F0 m 10 ls []) := by
  induction n with
  | zero => intro x0 x1 x2 x3 x4 M H locs ls  h; cases h
  | succ n ih =>
    intro x0 x1 x2 x3 x4 M H locs ls  h hw hl
    exact t_X7_periodOf_10 S fin ih h hw hl
set_option maxHeartbeats 4000000 in
set_option maxRecDepth 100000 in
theorem t_X7_periodOf_0 {p : Program} {l : Launch} {e : Env} {s : State} {m : MethodId} {args : Array Value} {below : List Frame} {meth : Method} {c : Code} {Q : State → Prop} {D : va_G} {I : ch_Id} {sh : Nat → Nat} {A : Nat → Prop} {oo : Int32 × ch_Mem}     (S : CallFix p m c cX7_periodOf 5 s args wsX7_periodOf RX7) (fin : ch_FinI p l e rm_X7_periodOf s m args below meth c cX7_periodOf Q D I 13 (ch_FM I sh) sh A oo)  {x0 : Int32} {x1 : Int32} {x2 : Int32}  {M : ch_Mem} {H : Heap} {locs : List Loc} {ls : Array Slot} (h : D_X7_periodOf x0 x1 x2 M = some oo) (hw : ch_Wd D I 13 (ch_FM I sh) sh s A M H locs) (hl : lv_has ls 5 [(0, .int x0), (1, .int x1), (2, .int x2)]) : W p l e rm_X7_periodOf s m args below meth c H locs 0 0 Q (F0 m 0 ls []) := by
  obtain ⟨hx, hb, hml, hown, hts⟩ := id S
  unfold D_X7_periodOf at h
  refine lv_iload_n hx hb dX7_periodOf_0 rfl (lv_at hl 0 rfl) ?_
  refine lv_iload_n hx hb dX7_periodOf_1 rfl (lv_at hl 1 rfl) ?_
  refine lv_iload_n hx hb dX7_periodOf_2 rfl (lv_at hl 2 rfl) ?_
  refine ch_bd_k h (fun r1 M2 hc h => ?_)
  refine ch_ci hw (va_runS (As := [.int x0, .int x1, .int x2]) (rest := []) S (c_X7_next l D I sh H.size M x0 x1 x2 hc) (va_cwS 3 hts gX7_periodOf_X7_next rfl rfl rfl (by decide +kernel) ⟨Nat.le_of_ble_eq_true rfl, Nat.le_of_ble_eq_true rfl⟩) (ch_pS hw) rfl rfl hl.1 rfl (lv_room (Nat.le_of_ble_eq_true rfl)) dX7_periodOf_3 ⟨Nat.le_refl 0, Nat.le_refl 0⟩) (fun H locs hw => ?_)
  refine lv_istore_n (lv' := [(3, .int r1), (0, .int x0), (1, .int x1), (2, .int x2)]) hx hb dX7_periodOf_6 rfl hl (by decide) rfl (fun ls hl => ?_)
  refine lv_iconst (v := (1 : Int32)) hx hb dX7_periodOf_7 (by decide) ?_
  refine lv_istore (lv' := [(4, .int (1 : Int32)), (3, .int r1), (0, .int x0), (1, .int x1), (2, .int x2)]) hx hb dX7_periodOf_8 hl (by decide) rfl (fun ls hl => ?_)
  exact tl_X7_periodOf_10 S fin ch_fu _ _ _ _ _ _ _ _ _ h hw (lv_sub hl [2, 3, 4, 1, 0] rfl)
set_option maxHeartbeats 4000000 in
set_option maxRecDepth 100000 in
theorem c_X7_periodOf (l : Launch) (D : va_G) (I : ch_Id) (sh : Nat → Nat) (sz : Nat) (M : ch_Mem)  (x0 : Int32) (x1 : Int32) (x2 : Int32) {r : Int32} {M1 : ch_Mem} (h : D_X7_periodOf x0 x1 x2 M = some (r, M1)) : Met l yX7_periodOf wsX7_periodOf rm_X7_periodOf (va_Pc [.int x0, .int x1, .int x2] (ch_Pre D I 13 (ch_FM I sh) sh sz M)) (va_Qi (fun r' (u : ch_Mem) => r' = r ∧ u = M1) (ch_Pos D 13 (ch_FM I sh) sh) (ch_A 13 sh sz)) 0 0 (ch_A 13 sh sz) := by
  refine Met.ofW (cc := cX7_periodOf) (maxL := 5) (ret := (some .int)) (by decide) rfl ?_
  intro p e s m args below meth c s₁ B hml hv0
  obtain ⟨rfl, hv0⟩ := hv0
  obtain rfl : s.heap.size = sz := hv0.1
  have hw := ch_start hv0
  have S : CallFix p m c cX7_periodOf 5 s _ wsX7_periodOf RX7 := ⟨B.exec, B.bytes, hml, findClass_of_methodNamed B.named, atoms_spec (ws := wsX7_periodOf) B.pre⟩
  have hl := lv_entry ([.int x0, .int x1, .int x2]) (n := 5) (Nat.le_of_ble_eq_true rfl)
  rw [lg_entry_eq]
  generalize (lg_sl ([.int x0, .int x1, .int x2]) ++ List.replicate (5 - (lg_sl ([.int x0, .int x1, .int x2])).length) Slot.unset).toArray = ls at hl ⊢
  exact t_X7_periodOf_0 S (ch_finI (B := fun _ => True) B.exec B.bytes B.returns B.notSynchronized) h hw (lv_sub hl [0, 1, 2] rfl)
set_option maxHeartbeats 4000000 in
set_option maxRecDepth 100000 in
theorem t_X7_full_44 {p : Program} {l : Launch} {e : Env} {s : State} {m : MethodId} {args : Array Value} {below : List Frame} {meth : Method} {c : Code} {Q : State → Prop} {D : va_G} {I : ch_Id} {sh : Nat → Nat} {A : Nat → Prop} {oo : Int32 × ch_Mem}    {k17 : Int32 → Int32 → Int32 → ch_Mem → Option (Int32 × ch_Mem)} (S : CallFix p m c cX7_full 4 s args wsX7_full RX7) (fin : ch_FinI p l e rm_X7_full s m args below meth c cX7_full Q D I 13 (ch_FM I sh) sh A oo) (hk17 : ∀ (x1 : Int32) (x2 : Int32) (x3 : Int32) (M : ch_Mem) (H : Heap) (locs : List Loc) (ls : Array Slot), k17 x1 x2 x3 M = some oo → ch_Wd D I 13 (ch_FM I sh) sh s A M H locs → lv_has ls 4 [(1, .int x1), (2, .int x2), (3, .int x3)] → W p l e rm_X7_full s m args below meth c H locs 0 0 Q (F0 m 17 ls [])) {x1 : Int32} {x3 : Int32} {y0 : Int32} {y1 : Int32}  {M : ch_Mem} {H : Heap} {locs : List Loc} {ls : Array Slot} (h : D_X7_full_b44 k17 x1 x3 y0 y1 M = some oo) (hw : ch_Wd D I 13 (ch_FM I sh) sh s A M H locs) (hl : lv_has ls 4 [(1, .int x1), (3, .int x3)]) : W p l e rm_X7_full s m args below meth c H locs 0 0 Q (F0 m 44 ls [.int y0, .int y1]) := by
  obtain ⟨hx, hb, hml, hown, hts⟩ := id S
  unfold D_X7_full_b44 at h
  refine lv_iadd hx hb dX7_full_44 ?_
  refine lv_istore_n (lv' := [(2, .int (y1 + y0)), (1, .int x1), (3, .int x3)]) hx hb dX7_full_45 rfl hl (by decide) rfl (fun ls hl => ?_)
  refine lv_iinc (v := x3 + (2 : Int32)) (lv' := [(3, .int (x3 + (2 : Int32))), (2, .int (y1 + y0)), (1, .int x1)]) hx hb dX7_full_46 hl (k := 2) rfl rfl (by decide) rfl (fun ls hl => ?_)
  refine lv_goto (tgt := 17) hx hb dX7_full_49 (by decide) ?_
  exact hk17 _ _ _ _ _ _ _  h hw (lv_sub hl [2, 1, 0] rfl)
set_option maxHeartbeats 4000000 in
set_option maxRecDepth 100000 in
theorem t_X7_full_52 {p : Program} {l : Launch} {e : Env} {s : State} {m : MethodId} {args : Array Value} {below : List Frame} {meth : Method} {c : Code} {Q : State → Prop} {D : va_G} {I : ch_Id} {sh : Nat → Nat} {A : Nat → Prop} {oo : Int32 × ch_Mem}     (S : CallFix p m c cX7_full 4 s args wsX7_full RX7) (fin : ch_FinI p l e rm_X7_full s m args below meth c cX7_full Q D I 13 (ch_FM I sh) sh A oo)  {x2 : Int32}  {M : ch_Mem} {H : Heap} {locs : List Loc} {ls : Array Slot} (h : D_X7_full_b52 x2 M = some oo) (hw : ch_Wd D I 13 (ch_FM I sh) sh s A M H locs) (hl : lv_has ls 4 [(2, .int x2)]) : W p l e rm_X7_full s m args below meth c H locs 0 0 Q (F0 m 52 ls []) := by
  obtain ⟨hx, hb, hml, hown, hts⟩ := id S
  unfold D_X7_full_b52 at h
  refine lv_iload_n hx hb dX7_full_52 rfl (lv_at hl 0 rfl) ?_
  exact fin _ _ _ _ _ _ h hw dX7_full_53
set_option maxHeartbeats 4000000 in
set_option maxRecDepth 100000 in
theorem t_X7_full_17 {p : Program} {l : Launch} {e : Env} {s : State} {m : MethodId} {args : Array Value} {below : List Frame} {meth : Method} {c : Code} {Q : State → Prop} {D : va_G} {I : ch_Id} {sh : Nat → Nat} {A : Nat → Prop} {oo : Int32 × ch_Mem}    {k17 : Int32 → Int32 → Int32 → ch_Mem → Option (Int32 × ch_Mem)} (S : CallFix p m c cX7_full 4 s args wsX7_full RX7) (fin : ch_FinI p l e rm_X7_full s m args below meth c cX7_full Q D I 13 (ch_FM I sh) sh A oo) (hk17 : ∀ (x1 : Int32) (x2 : Int32) (x3 : Int32) (M : ch_Mem) (H : Heap) (locs : List Loc) (ls : Array Slot), k17 x1 x2 x3 M = some oo → ch_Wd D I 13 (ch_FM I sh) sh s A M H locs → lv_has ls 4 [(1, .int x1), (2, .int x2), (3, .int x3)] → W p l e rm_X7_full s m args below meth c H locs 0 0 Q (F0 m 17 ls [])) {x1 : Int32} {x2 : Int32} {x3 : Int32}  {M : ch_Mem} {H : Heap} {locs : List Loc} {ls : Array Slot} (h : D_X7_full_b17 k17 x1 x2 x3 M = some oo) (hw : ch_Wd D I 13 (ch_FM I sh) sh s A M H locs) (hl : lv_has ls 4 [(1, .int x1), (2, .int x2), (3, .int x3)]) : W p l e rm_X7_full s m args below meth c H locs 0 0 Q (F0 m 17 ls []) := by
  obtain ⟨hx, hb, hml, hown, hts⟩ := id S
  unfold D_X7_full_b17 at h
  refine lv_iload_n hx hb dX7_full_17 rfl (lv_at hl 2 rfl) ?_
  refine lv_iconst (v := (1 : Int32)) hx hb dX7_full_18 (by decide) ?_
  refine lv_iload_n hx hb dX7_full_19 rfl (lv_at hl 0 rfl) ?_
  refine lv_ishl hx hb dX7_full_20 ?_
  refine ch_icmp_ge (tgt := 52) hx hb dX7_full_21 (by decide) h (fun h => ?_) (fun h => ?_)
  · exact t_X7_full_52 S fin h hw (lv_sub hl [1] rfl)
  · refine lv_iload_n hx hb dX7_full_24 rfl (lv_at hl 1 rfl) ?_
    refine lv_iload_n hx hb dX7_full_25 rfl (lv_at hl 0 rfl) ?_
    refine lv_iload_n hx hb dX7_full_26 rfl (lv_at hl 2 rfl) ?_
    refine lv_iconst (v := (1 : Int32)) hx hb dX7_full_27 (by decide) ?_
    refine ch_bd_k h (fun r1 M2 hc h => ?_)
    refine ch_ci hw (va_runS (As := [.int x1, .int x3, .int (1 : Int32)]) (rest := [.int x2]) S (c_X7_periodOf l D I sh H.size M x1 x3 (1 : Int32) hc) (va_cwS 3 hts gX7_full_X7_periodOf rfl rfl rfl (by decide +kernel) ⟨Nat.le_of_ble_eq_true rfl, Nat.le_of_ble_eq_true rfl⟩) (ch_pS hw) rfl rfl hl.1 rfl (lv_room (Nat.le_of_ble_eq_true rfl)) dX7_full_28 ⟨Nat.le_refl 0, Nat.le_refl 0⟩) (fun H locs hw => ?_)
    refine lv_iconst (v := (1 : Int32)) hx hb dX7_full_31 (by decide) ?_
    refine lv_iload_n hx hb dX7_full_32 rfl (lv_at hl 0 rfl) ?_
    refine lv_ishl hx hb dX7_full_33 ?_
    refine lv_iconst (v := (1 : Int32)) hx hb dX7_full_34 (by decide) ?_
    refine lv_isub hx hb dX7_full_35 ?_
    refine ch_icmp_ne (tgt := 43) hx hb dX7_full_36 (by decide) h (fun h => ?_) (fun h => ?_)
    · refine lv_iconst (v := (0 : Int32)) hx hb dX7_full_43 (by decide) ?_
      exact t_X7_full_44 S fin hk17 h hw (lv_sub hl [0, 2] rfl)
    · refine lv_iconst (v := (1 : Int32)) hx hb dX7_full_39 (by decide) ?_
      refine lv_goto (tgt := 44) hx hb dX7_full_40 (by decide) ?_
      exact t_X7_full_44 S fin hk17 h hw (lv_sub hl [0, 2] rfl)
set_option maxHeartbeats 4000000 in
set_option maxRecDepth 100000 in
theorem tl_X7_full_17 {p : Program} {l : Launch} {e : Env} {s : State} {m : MethodId} {args : Array Value} {below : List Frame} {meth : Method} {c : Code} {Q : State → Prop} {D : va_G} {I : ch_Id} {sh : Nat → Nat} {A : Nat → Prop} {oo : Int32 × ch_Mem}     (S : CallFix p m c cX7_full 4 s args wsX7_full RX7) (fin : ch_FinI p l e rm_X7_full s m args below meth c cX7_full Q D I 13 (ch_FM I sh) sh A oo)  (n : Nat) : ∀ (x1 : Int32) (x2 : Int32) (x3 : Int32) (M : ch_Mem) (H : Heap) (locs : List Loc) (ls : Array Slot), D_X7_full_L17  n x1 x2 x3 M = some oo → ch_Wd D I 13 (ch_FM I sh) sh s A M H locs → lv_has ls 4 [(1, .int x1), (2, .int x2), (3, .int x3)] → W p l e rm_X7_full s m args below meth c H locs 0 0 Q (F0 m 17 ls []) := by
  induction n with
  | zero => intro x1 x2 x3 M H locs ls  h; cases h
  | succ n ih =>
    intro x1 x2 x3 M H locs ls  h hw hl
    exact t_X7_full_17 S fin ih h hw hl
set_option maxHeartbeats 4000000 in
set_option maxRecDepth 100000 in
theorem t_X7_full_0 {p : Program} {l : Launch} {e : Env} {s : State} {m : MethodId} {args : Array Value} {below : List Frame} {meth : Method} {c : Code} {Q : State → Prop} {D : va_G} {I : ch_Id} {sh : Nat → Nat} {A : Nat → Prop} {oo : Int32 × ch_Mem}     (S : CallFix p m c cX7_full 4 s args wsX7_full RX7) (fin : ch_FinI p l e rm_X7_full s m args below meth c cX7_full Q D I 13 (ch_FM I sh) sh A oo)  {x1 : Int32}  {M : ch_Mem} {H : Heap} {locs : List Loc} {ls : Array Slot} (h : D_X7_full x1 M = some oo) (hw : ch_Wd D I 13 (ch_FM I sh) sh s A M H locs) (hl : lv_has ls 4 [(0, .ref (sh 0)), (1, .int x1)]) : W p l e rm_X7_full s m args below meth c H locs 0 0 Q (F0 m 0 ls []) := by
  obtain ⟨hx, hb, hml, hown, hts⟩ := id S
  unfold D_X7_full at h
  refine lv_iload_n hx hb dX7_full_0 rfl (lv_at hl 1 rfl) ?_
  refine lv_iconst (v := (2 : Int32)) hx hb dX7_full_1 (by decide) ?_
  refine lv_bipush (v := (7 : Int32)) hx hb dX7_full_2 (by decide) ?_
  refine ch_bd_k h (fun r1 M2 hc h => ?_)
  refine ch_ci hw (va_runS (As := [.int x1, .int (2 : Int32), .int (7 : Int32)]) (rest := []) S (c_X7_in l D I sh H.size M x1 (2 : Int32) (7 : Int32) hc) (va_cwS 3 hts gX7_full_X7_in rfl rfl rfl (by decide +kernel) ⟨Nat.le_of_ble_eq_true rfl, Nat.le_of_ble_eq_true rfl⟩) (ch_pS hw) rfl rfl hl.1 rfl (lv_room (Nat.le_of_ble_eq_true rfl)) dX7_full_4 ⟨Nat.le_refl 0, Nat.le_refl 0⟩) (fun H locs hw => ?_)
  refine ch_if_ne (tgt := 13) hx hb dX7_full_7 (by decide) h (fun h => ?_) (fun h => ?_)
  · refine lv_iconst (v := (0 : Int32)) hx hb dX7_full_13 (by decide) ?_
    refine lv_istore_n (lv' := [(2, .int (0 : Int32)), (0, .ref (sh 0)), (1, .int x1)]) hx hb dX7_full_14 rfl hl (by decide) rfl (fun ls hl => ?_)
    refine lv_iconst (v := (1 : Int32)) hx hb dX7_full_15 (by decide) ?_
    refine lv_istore_n (lv' := [(3, .int (1 : Int32)), (2, .int (0 : Int32)), (0, .ref (sh 0)), (1, .int x1)]) hx hb dX7_full_16 rfl hl (by decide) rfl (fun ls hl => ?_)
    exact tl_X7_full_17 S fin ch_fu _ _ _ _ _ _ _ h hw (lv_sub hl [3, 1, 0] rfl)
  · refine lv_bipush (v := (-2 : Int32)) hx hb dX7_full_10 (by decide) ?_
    exact fin _ _ _ _ _ _ h hw dX7_full_12
set_option maxHeartbeats 4000000 in
set_option maxRecDepth 100000 in
theorem c_X7_full (l : Launch) (D : va_G) (I : ch_Id) (sh : Nat → Nat) (sz : Nat) (M : ch_Mem)  (x1 : Int32) {r : Int32} {M1 : ch_Mem} (h : D_X7_full x1 M = some (r, M1)) : Met l yX7_full wsX7_full rm_X7_full (va_Pc [.ref (sh 0), .int x1] (ch_Pre D I 13 (ch_FM I sh) sh sz M)) (va_Qi (fun r' (u : ch_Mem) => r' = r ∧ u = M1) (ch_Pos D 13 (ch_FM I sh) sh) (ch_A 13 sh sz)) 0 0 (ch_A 13 sh sz) := by
  refine Met.ofW (cc := cX7_full) (maxL := 4) (ret := (some .int)) (by decide) rfl ?_
  intro p e s m args below meth c s₁ B hml hv0
  obtain ⟨rfl, hv0⟩ := hv0
  obtain rfl : s.heap.size = sz := hv0.1
  have hw := ch_start hv0
  have S : CallFix p m c cX7_full 4 s _ wsX7_full RX7 := ⟨B.exec, B.bytes, hml, findClass_of_methodNamed B.named, atoms_spec (ws := wsX7_full) B.pre⟩
  have hl := lv_entry ([.ref (sh 0), .int x1]) (n := 4) (Nat.le_of_ble_eq_true rfl)
  rw [lg_entry_eq]
  generalize (lg_sl ([.ref (sh 0), .int x1]) ++ List.replicate (4 - (lg_sl ([.ref (sh 0), .int x1])).length) Slot.unset).toArray = ls at hl ⊢
  exact t_X7_full_0 S (ch_finI (B := fun _ => True) B.exec B.bytes B.returns B.notSynchronized) h hw (lv_sub hl [0, 1] rfl)
set_option maxHeartbeats 4000000 in
set_option maxRecDepth 100000 in
theorem t_X7_lacks_0 {p : Program} {l : Launch} {e : Env} {s : State} {m : MethodId} {args : Array Value} {below : List Frame} {meth : Method} {c : Code} {Q : State → Prop} {D : va_G} {I : ch_Id} {sh : Nat → Nat} {A : Nat → Prop} {oo : Int32 × ch_Mem}     (S : CallFix p m c cX7_lacks 4 s args wsX7_lacks RX7) (fin : ch_FinI p l e rm_X7_lacks s m args below meth c cX7_lacks Q D I 13 (ch_FM I sh) sh A oo)  {x1 : Int32} {x2 : Int32} {x3 : Int32}  {M : ch_Mem} {H : Heap} {locs : List Loc} {ls : Array Slot} (h : D_X7_lacks x1 x2 x3 M = some oo) (hw : ch_Wd D I 13 (ch_FM I sh) sh s A M H locs) (hl : lv_has ls 4 [(0, .ref (sh 0)), (1, .int x1), (2, .int x2), (3, .int x3)]) : W p l e rm_X7_lacks s m args below meth c H locs 0 0 Q (F0 m 0 ls []) := by
  obtain ⟨hx, hb, hml, hown, hts⟩ := id S
  unfold D_X7_lacks at h
  refine lv_aload_n hx hb dX7_lacks_0 rfl (lv_at hl 0 rfl) ?_
  refine ch_get S hw 0 (by decide) rfl rfl (by decide +kernel) 13 (by decide) (hts (.fieldLink RX7 35 "CodeHuntModel" "isThere" "[Z") (by decide +kernel)) rfl dX7_lacks_1 ?_
  refine lv_iload_n hx hb dX7_lacks_4 rfl (lv_at hl 1 rfl) ?_
  refine ch_gd_k h (fun hin h => ?_)
  refine ch_zald S hw 8 (by decide) rfl hin dX7_lacks_5 ?_
  refine ch_if_ne (tgt := 13) hx hb dX7_lacks_6 (by decide) h (fun h => ?_) (fun h => ?_)
  · refine lv_aload_n hx hb dX7_lacks_13 rfl (lv_at hl 0 rfl) ?_
    refine ch_get S hw 0 (by decide) rfl rfl (by decide +kernel) 14 (by decide) (hts (.fieldLink RX7 39 "CodeHuntModel" "forms" "[I") (by decide +kernel)) rfl dX7_lacks_14 ?_
    refine lv_iload_n hx hb dX7_lacks_17 rfl (lv_at hl 1 rfl) ?_
    refine ch_gd_k h (fun hin h => ?_)
    refine ch_iald S hw 9 (by decide) rfl hin dX7_lacks_18 ?_
    refine lv_iload_n hx hb dX7_lacks_19 rfl (lv_at hl 2 rfl) ?_
    refine ch_icmp_eq (tgt := 27) hx hb dX7_lacks_20 (by decide) h (fun h => ?_) (fun h => ?_)
    · refine lv_iload_n hx hb dX7_lacks_27 rfl (lv_at hl 3 rfl) ?_
      refine lv_iconst (v := (0 : Int32)) hx hb dX7_lacks_28 (by decide) ?_
      refine lv_aload_n hx hb dX7_lacks_29 rfl (lv_at hl 0 rfl) ?_
      refine ch_get S hw 0 (by decide) rfl rfl (by decide +kernel) 15 (by decide) (hts (.fieldLink RX7 42 "CodeHuntModel" "sizes" "[I") (by decide +kernel)) rfl dX7_lacks_30 ?_
      refine lv_iload_n hx hb dX7_lacks_33 rfl (lv_at hl 1 rfl) ?_
      refine ch_gd_k h (fun hin h => ?_)
      refine ch_iald S hw 10 (by decide) rfl hin dX7_lacks_34 ?_
      refine lv_iconst (v := (1 : Int32)) hx hb dX7_lacks_35 (by decide) ?_
      refine lv_isub hx hb dX7_lacks_36 ?_
      refine ch_bd_k h (fun r1 M2 hc h => ?_)
      refine ch_ci hw (va_runS (As := [.int x3, .int (0 : Int32), .int ((M.1 10 x1.toNatClampNeg) - (1 : Int32))]) (rest := []) S (c_X7_in l D I sh H.size M x3 (0 : Int32) ((M.1 10 x1.toNatClampNeg) - (1 : Int32)) hc) (va_cwS 3 hts gX7_lacks_X7_in rfl rfl rfl (by decide +kernel) ⟨Nat.le_of_ble_eq_true rfl, Nat.le_of_ble_eq_true rfl⟩) (ch_pS hw) rfl rfl hl.1 rfl (lv_room (Nat.le_of_ble_eq_true rfl)) dX7_lacks_37 ⟨Nat.le_refl 0, Nat.le_refl 0⟩) (fun H locs hw => ?_)
      refine ch_if_eq (tgt := 47) hx hb dX7_lacks_40 (by decide) h (fun h => ?_) (fun h => ?_)
      · refine lv_iconst (v := (2 : Int32)) hx hb dX7_lacks_47 (by decide) ?_
        exact fin _ _ _ _ _ _ h hw dX7_lacks_48
      · refine lv_iconst (v := (0 : Int32)) hx hb dX7_lacks_43 (by decide) ?_
        refine lv_goto (tgt := 48) hx hb dX7_lacks_44 (by decide) ?_
        exact fin _ _ _ _ _ _ h hw dX7_lacks_48
    · refine lv_iconst (v := (3 : Int32)) hx hb dX7_lacks_23 (by decide) ?_
      refine lv_goto (tgt := 48) hx hb dX7_lacks_24 (by decide) ?_
      exact fin _ _ _ _ _ _ h hw dX7_lacks_48
  · refine lv_iconst (v := (1 : Int32)) hx hb dX7_lacks_9 (by decide) ?_
    refine lv_goto (tgt := 48) hx hb dX7_lacks_10 (by decide) ?_
    exact fin _ _ _ _ _ _ h hw dX7_lacks_48
set_option maxHeartbeats 4000000 in
set_option maxRecDepth 100000 in
theorem c_X7_lacks (l : Launch) (D : va_G) (I : ch_Id) (sh : Nat → Nat) (sz : Nat) (M : ch_Mem)  (x1 : Int32) (x2 : Int32) (x3 : Int32) {r : Int32} {M1 : ch_Mem} (h : D_X7_lacks x1 x2 x3 M = some (r, M1)) : Met l yX7_lacks wsX7_lacks rm_X7_lacks (va_Pc [.ref (sh 0), .int x1, .int x2, .int x3] (ch_Pre D I 13 (ch_FM I sh) sh sz M)) (va_Qi (fun r' (u : ch_Mem) => r' = r ∧ u = M1) (ch_Pos D 13 (ch_FM I sh) sh) (ch_A 13 sh sz)) 0 0 (ch_A 13 sh sz) := by
  refine Met.ofW (cc := cX7_lacks) (maxL := 4) (ret := (some .int)) (by decide) rfl ?_
  intro p e s m args below meth c s₁ B hml hv0
  obtain ⟨rfl, hv0⟩ := hv0
  obtain rfl : s.heap.size = sz := hv0.1
  have hw := ch_start hv0
  have S : CallFix p m c cX7_lacks 4 s _ wsX7_lacks RX7 := ⟨B.exec, B.bytes, hml, findClass_of_methodNamed B.named, atoms_spec (ws := wsX7_lacks) B.pre⟩
  have hl := lv_entry ([.ref (sh 0), .int x1, .int x2, .int x3]) (n := 4) (Nat.le_of_ble_eq_true rfl)
  rw [lg_entry_eq]
  generalize (lg_sl ([.ref (sh 0), .int x1, .int x2, .int x3]) ++ List.replicate (4 - (lg_sl ([.ref (sh 0), .int x1, .int x2, .int x3])).length) Slot.unset).toArray = ls at hl ⊢
  exact t_X7_lacks_0 S (ch_finI (B := fun _ => True) B.exec B.bytes B.returns B.notSynchronized) h hw (lv_sub hl [0, 1, 2, 3] rfl)
set_option maxHeartbeats 4000000 in
set_option maxRecDepth 100000 in
theorem t_X7_get_0 {p : Program} {l : Launch} {e : Env} {s : State} {m : MethodId} {args : Array Value} {below : List Frame} {meth : Method} {c : Code} {Q : State → Prop} {D : va_G} {I : ch_Id} {sh : Nat → Nat} {A : Nat → Prop} {oo : Int32 × ch_Mem}     (S : CallFix p m c cX7_get 5 s args wsX7_get RX7) (fin : ch_FinI p l e rm_X7_get s m args below meth c cX7_get Q D I 13 (ch_FM I sh) sh A oo)  {x1 : Int32} {x2 : Int32} {x3 : Int32}  {M : ch_Mem} {H : Heap} {locs : List Loc} {ls : Array Slot} (h : D_X7_get x1 x2 x3 M = some oo) (hw : ch_Wd D I 13 (ch_FM I sh) sh s A M H locs) (hl : lv_has ls 5 [(0, .ref (sh 0)), (1, .int x1), (2, .int x2), (3, .int x3)]) : W p l e rm_X7_get s m args below meth c H locs 0 0 Q (F0 m 0 ls []) := by
  obtain ⟨hx, hb, hml, hown, hts⟩ := id S
  unfold D_X7_get at h
  refine lv_iload_n hx hb dX7_get_0 rfl (lv_at hl 1 rfl) ?_
  refine ch_bd_k h (fun r1 M2 hc h => ?_)
  refine ch_ci hw (va_runS (As := [.int x1]) (rest := []) S (c_X7_isReel l D I sh H.size M x1 hc) (va_cwS 1 hts gX7_get_X7_isReel rfl rfl rfl (by decide +kernel) ⟨Nat.le_of_ble_eq_true rfl, Nat.le_of_ble_eq_true rfl⟩) (ch_pS hw) rfl rfl hl.1 rfl (lv_room (Nat.le_of_ble_eq_true rfl)) dX7_get_1 ⟨Nat.le_refl 0, Nat.le_refl 0⟩) (fun H locs hw => ?_)
  refine ch_if_eq (tgt := 16) hx hb dX7_get_4 (by decide) h (fun h => ?_) (fun h => ?_)
  · refine lv_ldc (v := (-2147483648 : Int32)) hx hb hown (hts (.constant RX7 97 (-2147483648)) (by decide +kernel)) dX7_get_16 ?_
    exact fin _ _ _ _ _ _ h hw dX7_get_18
  · refine lv_iload_n hx hb dX7_get_7 rfl (lv_at hl 2 rfl) ?_
    refine lv_iconst (v := (0 : Int32)) hx hb dX7_get_8 (by decide) ?_
    refine lv_iconst (v := (2 : Int32)) hx hb dX7_get_9 (by decide) ?_
    refine ch_bd_k h (fun r3 M4 hc h => ?_)
    refine ch_ci hw (va_runS (As := [.int x2, .int (0 : Int32), .int (2 : Int32)]) (rest := []) S (c_X7_in l D I sh H.size M2 x2 (0 : Int32) (2 : Int32) hc) (va_cwS 3 hts gX7_get_X7_in rfl rfl rfl (by decide +kernel) ⟨Nat.le_of_ble_eq_true rfl, Nat.le_of_ble_eq_true rfl⟩) (ch_pS hw) rfl rfl hl.1 rfl (lv_room (Nat.le_of_ble_eq_true rfl)) dX7_get_10 ⟨Nat.le_refl 0, Nat.le_refl 0⟩) (fun H locs hw => ?_)
    refine ch_if_ne (tgt := 19) hx hb dX7_get_13 (by decide) h (fun h => ?_) (fun h => ?_)
    · refine lv_aload_n hx hb dX7_get_19 rfl (lv_at hl 0 rfl) ?_
      refine lv_iload_n hx hb dX7_get_20 rfl (lv_at hl 1 rfl) ?_
      refine lv_iload_n hx hb dX7_get_21 rfl (lv_at hl 2 rfl) ?_
      refine lv_iload_n hx hb dX7_get_22 rfl (lv_at hl 3 rfl) ?_
      refine ch_bd_k h (fun r5 M6 hc h => ?_)
      refine ch_ci hw (va_runV (As := [.int x1, .int x2, .int x3]) (rest := []) S (c_X7_lacks l D I sh H.size M4 x1 x2 x3 hc) (cwV 3 hts gX7_get_X7_lacks rfl rfl rfl (by decide +kernel) ⟨Nat.le_of_ble_eq_true rfl, Nat.le_of_ble_eq_true rfl⟩) (ch_pV hw (by decide) rfl rfl rfl) rfl rfl hl.1 rfl (lv_room (Nat.le_of_ble_eq_true rfl)) dX7_get_23 ⟨Nat.le_refl 0, Nat.le_refl 0⟩) (fun H locs hw => ?_)
      refine lv_istore (lv' := [(4, .int r5), (0, .ref (sh 0)), (1, .int x1), (2, .int x2), (3, .int x3)]) hx hb dX7_get_26 hl (by decide) rfl (fun ls hl => ?_)
      refine lv_iload hx hb dX7_get_28 (lv_at hl 0 rfl) ?_
      refine ch_if_le (tgt := 42) hx hb dX7_get_30 (by decide) h (fun h => ?_) (fun h => ?_)
      · refine lv_aload_n hx hb dX7_get_42 rfl (lv_at hl 1 rfl) ?_
        refine ch_get S hw 0 (by decide) rfl rfl (by decide +kernel) 16 (by decide) (hts (.fieldLink RX7 45 "CodeHuntModel" "items" "[I") (by decide +kernel)) rfl dX7_get_43 ?_
        refine lv_sipush (v := (300 : Int32)) hx hb dX7_get_46 (by decide) ?_
        refine lv_iload_n hx hb dX7_get_49 rfl (lv_at hl 2 rfl) ?_
        refine lv_imul hx hb dX7_get_50 ?_
        refine lv_iload_n hx hb dX7_get_51 rfl (lv_at hl 4 rfl) ?_
        refine lv_iadd hx hb dX7_get_52 ?_
        refine ch_gd_k h (fun hin h => ?_)
        refine ch_iald S hw 11 (by decide) rfl hin dX7_get_53 ?_
        exact fin _ _ _ _ _ _ h hw dX7_get_54
      · refine lv_aload_n hx hb dX7_get_33 rfl (lv_at hl 1 rfl) ?_
        refine lv_iload hx hb dX7_get_34 (lv_at hl 0 rfl) ?_
        refine ch_put (M1 := ch_wI M6 0 18 r5) (ty := .int) S hw 0 (by decide) rfl rfl (by decide +kernel) tyX7 tyX7_ok nmX7 18 (by decide) (hts (.fieldLink RX7 149 "CodeHuntModel" "finding" "I") (by decide +kernel)) rfl (by decide +kernel) rfl rfl (Nat.le_of_ble_eq_true rfl) (ch_cf_wI (j := 18) (v := r5) rfl) dX7_get_36 (fun H locs hw => ?_)
        refine lv_ldc (v := (-2147483648 : Int32)) hx hb hown (hts (.constant RX7 97 (-2147483648)) (by decide +kernel)) dX7_get_39 ?_
        exact fin _ _ _ _ _ _ h hw dX7_get_41
    · refine lv_ldc (v := (-2147483648 : Int32)) hx hb hown (hts (.constant RX7 97 (-2147483648)) (by decide +kernel)) dX7_get_16 ?_
      exact fin _ _ _ _ _ _ h hw dX7_get_18
set_option maxHeartbeats 4000000 in
set_option maxRecDepth 100000 in
theorem c_X7_get (l : Launch) (D : va_G) (I : ch_Id) (sh : Nat → Nat) (sz : Nat) (M : ch_Mem)  (x1 : Int32) (x2 : Int32) (x3 : Int32) {r : Int32} {M1 : ch_Mem} (h : D_X7_get x1 x2 x3 M = some (r, M1)) : Met l yX7_get wsX7_get rm_X7_get (va_Pc [.ref (sh 0), .int x1, .int x2, .int x3] (ch_Pre D I 13 (ch_FM I sh) sh sz M)) (va_Qi (fun r' (u : ch_Mem) => r' = r ∧ u = M1) (ch_Pos D 13 (ch_FM I sh) sh) (ch_A 13 sh sz)) 0 0 (ch_A 13 sh sz) := by
  refine Met.ofW (cc := cX7_get) (maxL := 5) (ret := (some .int)) (by decide) rfl ?_
  intro p e s m args below meth c s₁ B hml hv0
  obtain ⟨rfl, hv0⟩ := hv0
  obtain rfl : s.heap.size = sz := hv0.1
  have hw := ch_start hv0
  have S : CallFix p m c cX7_get 5 s _ wsX7_get RX7 := ⟨B.exec, B.bytes, hml, findClass_of_methodNamed B.named, atoms_spec (ws := wsX7_get) B.pre⟩
  have hl := lv_entry ([.ref (sh 0), .int x1, .int x2, .int x3]) (n := 5) (Nat.le_of_ble_eq_true rfl)
  rw [lg_entry_eq]
  generalize (lg_sl ([.ref (sh 0), .int x1, .int x2, .int x3]) ++ List.replicate (5 - (lg_sl ([.ref (sh 0), .int x1, .int x2, .int x3])).length) Slot.unset).toArray = ls at hl ⊢
  exact t_X7_get_0 S (ch_finI (B := fun _ => True) B.exec B.bytes B.returns B.notSynchronized) h hw (lv_sub hl [0, 1, 2, 3] rfl)
set_option maxHeartbeats 4000000 in
set_option maxRecDepth 100000 in
theorem t_X7_heard_0 {p : Program} {l : Launch} {e : Env} {s : State} {m : MethodId} {args : Array Value} {below : List Frame} {meth : Method} {c : Code} {Q : State → Prop} {D : va_G} {I : ch_Id} {sh : Nat → Nat} {A : Nat → Prop} {oo : Int32 × ch_Mem}     (S : CallFix p m c cX7_heard 6 s args wsX7_heard RX7) (fin : ch_FinI p l e rm_X7_heard s m args below meth c cX7_heard Q D I 13 (ch_FM I sh) sh A oo)  {x1 : Int32} {x2 : Int32} {x3 : Int32} {x4 : Int32} {x5 : Int32}  {M : ch_Mem} {H : Heap} {locs : List Loc} {ls : Array Slot} (h : D_X7_heard x1 x2 x3 x4 x5 M = some oo) (hw : ch_Wd D I 13 (ch_FM I sh) sh s A M H locs) (hl : lv_has ls 6 [(0, .ref (sh 0)), (1, .int x1), (2, .int x2), (3, .int x3), (4, .int x4), (5, .int x5)]) : W p l e rm_X7_heard s m args below meth c H locs 0 0 Q (F0 m 0 ls []) := by
  obtain ⟨hx, hb, hml, hown, hts⟩ := id S
  unfold D_X7_heard at h
  refine lv_iload_n hx hb dX7_heard_0 rfl (lv_at hl 1 rfl) ?_
  refine ch_bd_k h (fun r1 M2 hc h => ?_)
  refine ch_ci hw (va_runS (As := [.int x1]) (rest := []) S (c_X7_isRow l D I sh H.size M x1 hc) (va_cwS 1 hts gX7_heard_X7_isRow rfl rfl rfl (by decide +kernel) ⟨Nat.le_of_ble_eq_true rfl, Nat.le_of_ble_eq_true rfl⟩) (ch_pS hw) rfl rfl hl.1 rfl (lv_room (Nat.le_of_ble_eq_true rfl)) dX7_heard_1 ⟨Nat.le_refl 0, Nat.le_refl 0⟩) (fun H locs hw => ?_)
  refine ch_if_eq (tgt := 54) hx hb dX7_heard_4 (by decide) h (fun h => ?_) (fun h => ?_)
  · refine lv_ldc (v := (-2147483648 : Int32)) hx hb hown (hts (.constant RX7 97 (-2147483648)) (by decide +kernel)) dX7_heard_54 ?_
    exact fin _ _ _ _ _ _ h hw dX7_heard_56
  · refine lv_iload_n hx hb dX7_heard_7 rfl (lv_at hl 2 rfl) ?_
    refine lv_iconst (v := (0 : Int32)) hx hb dX7_heard_8 (by decide) ?_
    refine lv_sipush (v := (300 : Int32)) hx hb dX7_heard_9 (by decide) ?_
    refine ch_bd_k h (fun r3 M4 hc h => ?_)
    refine ch_ci hw (va_runS (As := [.int x2, .int (0 : Int32), .int (300 : Int32)]) (rest := []) S (c_X7_in l D I sh H.size M2 x2 (0 : Int32) (300 : Int32) hc) (va_cwS 3 hts gX7_heard_X7_in rfl rfl rfl (by decide +kernel) ⟨Nat.le_of_ble_eq_true rfl, Nat.le_of_ble_eq_true rfl⟩) (ch_pS hw) rfl rfl hl.1 rfl (lv_room (Nat.le_of_ble_eq_true rfl)) dX7_heard_12 ⟨Nat.le_refl 0, Nat.le_refl 0⟩) (fun H locs hw => ?_)
    refine ch_if_eq (tgt := 54) hx hb dX7_heard_15 (by decide) h (fun h => ?_) (fun h => ?_)
    · refine lv_ldc (v := (-2147483648 : Int32)) hx hb hown (hts (.constant RX7 97 (-2147483648)) (by decide +kernel)) dX7_heard_54 ?_
      exact fin _ _ _ _ _ _ h hw dX7_heard_56
    · refine lv_iload_n hx hb dX7_heard_18 rfl (lv_at hl 3 rfl) ?_
      refine ch_bd_k h (fun r5 M6 hc h => ?_)
      refine ch_ci hw (va_runS (As := [.int x3]) (rest := []) S (c_X7_isShift l D I sh H.size M4 x3 hc) (va_cwS 1 hts gX7_heard_X7_isShift rfl rfl rfl (by decide +kernel) ⟨Nat.le_of_ble_eq_true rfl, Nat.le_of_ble_eq_true rfl⟩) (ch_pS hw) rfl rfl hl.1 rfl (lv_room (Nat.le_of_ble_eq_true rfl)) dX7_heard_19 ⟨Nat.le_refl 0, Nat.le_refl 0⟩) (fun H locs hw => ?_)
      refine ch_if_eq (tgt := 54) hx hb dX7_heard_22 (by decide) h (fun h => ?_) (fun h => ?_)
      · refine lv_ldc (v := (-2147483648 : Int32)) hx hb hown (hts (.constant RX7 97 (-2147483648)) (by decide +kernel)) dX7_heard_54 ?_
        exact fin _ _ _ _ _ _ h hw dX7_heard_56
      · refine lv_iload hx hb dX7_heard_25 (lv_at hl 4 rfl) ?_
        refine lv_iconst (v := (0 : Int32)) hx hb dX7_heard_27 (by decide) ?_
        refine lv_iconst (v := (3 : Int32)) hx hb dX7_heard_28 (by decide) ?_
        refine ch_bd_k h (fun r7 M8 hc h => ?_)
        refine ch_ci hw (va_runS (As := [.int x4, .int (0 : Int32), .int (3 : Int32)]) (rest := []) S (c_X7_in l D I sh H.size M6 x4 (0 : Int32) (3 : Int32) hc) (va_cwS 3 hts gX7_heard_X7_in rfl rfl rfl (by decide +kernel) ⟨Nat.le_of_ble_eq_true rfl, Nat.le_of_ble_eq_true rfl⟩) (ch_pS hw) rfl rfl hl.1 rfl (lv_room (Nat.le_of_ble_eq_true rfl)) dX7_heard_29 ⟨Nat.le_refl 0, Nat.le_refl 0⟩) (fun H locs hw => ?_)
        refine ch_if_eq (tgt := 54) hx hb dX7_heard_32 (by decide) h (fun h => ?_) (fun h => ?_)
        · refine lv_ldc (v := (-2147483648 : Int32)) hx hb hown (hts (.constant RX7 97 (-2147483648)) (by decide +kernel)) dX7_heard_54 ?_
          exact fin _ _ _ _ _ _ h hw dX7_heard_56
        · refine lv_iload hx hb dX7_heard_35 (lv_at hl 5 rfl) ?_
          refine lv_iconst (v := (0 : Int32)) hx hb dX7_heard_37 (by decide) ?_
          refine lv_iconst (v := (1 : Int32)) hx hb dX7_heard_38 (by decide) ?_
          refine ch_bd_k h (fun r9 M10 hc h => ?_)
          refine ch_ci hw (va_runS (As := [.int x5, .int (0 : Int32), .int (1 : Int32)]) (rest := []) S (c_X7_in l D I sh H.size M8 x5 (0 : Int32) (1 : Int32) hc) (va_cwS 3 hts gX7_heard_X7_in rfl rfl rfl (by decide +kernel) ⟨Nat.le_of_ble_eq_true rfl, Nat.le_of_ble_eq_true rfl⟩) (ch_pS hw) rfl rfl hl.1 rfl (lv_room (Nat.le_of_ble_eq_true rfl)) dX7_heard_39 ⟨Nat.le_refl 0, Nat.le_refl 0⟩) (fun H locs hw => ?_)
          refine ch_if_eq (tgt := 54) hx hb dX7_heard_42 (by decide) h (fun h => ?_) (fun h => ?_)
          · refine lv_ldc (v := (-2147483648 : Int32)) hx hb hown (hts (.constant RX7 97 (-2147483648)) (by decide +kernel)) dX7_heard_54 ?_
            exact fin _ _ _ _ _ _ h hw dX7_heard_56
          · refine lv_aload_n hx hb dX7_heard_45 rfl (lv_at hl 0 rfl) ?_
            refine ch_get S hw 0 (by decide) rfl rfl (by decide +kernel) 0 (by decide) (hts (.fieldLink RX7 7 "CodeHuntModel" "sizesOf" "[I") (by decide +kernel)) rfl dX7_heard_46 ?_
            refine lv_iload_n hx hb dX7_heard_49 rfl (lv_at hl 1 rfl) ?_
            refine ch_gd_k h (fun hin h => ?_)
            refine ch_iald S hw 1 (by decide) rfl hin dX7_heard_50 ?_
            refine ch_if_ne (tgt := 57) hx hb dX7_heard_51 (by decide) h (fun h => ?_) (fun h => ?_)
            · refine lv_aload_n hx hb dX7_heard_57 rfl (lv_at hl 0 rfl) ?_
              refine lv_iload_n hx hb dX7_heard_58 rfl (lv_at hl 1 rfl) ?_
              refine lv_iload_n hx hb dX7_heard_59 rfl (lv_at hl 2 rfl) ?_
              refine lv_iload_n hx hb dX7_heard_60 rfl (lv_at hl 3 rfl) ?_
              refine lv_iload hx hb dX7_heard_61 (lv_at hl 4 rfl) ?_
              refine lv_iload hx hb dX7_heard_63 (lv_at hl 5 rfl) ?_
              refine ch_bd_k h (fun r11 M12 hc h => ?_)
              refine ch_ci hw (va_runV (As := [.int x1, .int x2, .int x3, .int x4, .int x5]) (rest := []) S (c_X7_heardOf l D I sh H.size M10 x1 x2 x3 x4 x5 hc) (cwV 5 hts gX7_heard_X7_heardOf rfl rfl rfl (by decide +kernel) ⟨Nat.le_of_ble_eq_true rfl, Nat.le_of_ble_eq_true rfl⟩) (ch_pV hw (by decide) rfl rfl rfl) rfl rfl hl.1 rfl (lv_room (Nat.le_of_ble_eq_true rfl)) dX7_heard_65 ⟨Nat.le_refl 0, Nat.le_refl 0⟩) (fun H locs hw => ?_)
              exact fin _ _ _ _ _ _ h hw dX7_heard_68
            · refine lv_ldc (v := (-2147483648 : Int32)) hx hb hown (hts (.constant RX7 97 (-2147483648)) (by decide +kernel)) dX7_heard_54 ?_
              exact fin _ _ _ _ _ _ h hw dX7_heard_56
set_option maxHeartbeats 4000000 in
set_option maxRecDepth 100000 in
theorem c_X7_heard (l : Launch) (D : va_G) (I : ch_Id) (sh : Nat → Nat) (sz : Nat) (M : ch_Mem)  (x1 : Int32) (x2 : Int32) (x3 : Int32) (x4 : Int32) (x5 : Int32) {r : Int32} {M1 : ch_Mem} (h : D_X7_heard x1 x2 x3 x4 x5 M = some (r, M1)) : Met l yX7_heard wsX7_heard rm_X7_heard (va_Pc [.ref (sh 0), .int x1, .int x2, .int x3, .int x4, .int x5] (ch_Pre D I 13 (ch_FM I sh) sh sz M)) (va_Qi (fun r' (u : ch_Mem) => r' = r ∧ u = M1) (ch_Pos D 13 (ch_FM I sh) sh) (ch_A 13 sh sz)) 0 0 (ch_A 13 sh sz) := by
  refine Met.ofW (cc := cX7_heard) (maxL := 6) (ret := (some .int)) (by decide) rfl ?_
  intro p e s m args below meth c s₁ B hml hv0
  obtain ⟨rfl, hv0⟩ := hv0
  obtain rfl : s.heap.size = sz := hv0.1
  have hw := ch_start hv0
  have S : CallFix p m c cX7_heard 6 s _ wsX7_heard RX7 := ⟨B.exec, B.bytes, hml, findClass_of_methodNamed B.named, atoms_spec (ws := wsX7_heard) B.pre⟩
  have hl := lv_entry ([.ref (sh 0), .int x1, .int x2, .int x3, .int x4, .int x5]) (n := 6) (Nat.le_of_ble_eq_true rfl)
  rw [lg_entry_eq]
  generalize (lg_sl ([.ref (sh 0), .int x1, .int x2, .int x3, .int x4, .int x5]) ++ List.replicate (6 - (lg_sl ([.ref (sh 0), .int x1, .int x2, .int x3, .int x4, .int x5])).length) Slot.unset).toArray = ls at hl ⊢
  exact t_X7_heard_0 S (ch_finI (B := fun _ => True) B.exec B.bytes B.returns B.notSynchronized) h hw (lv_sub hl [0, 1, 2, 3, 4, 5] rfl)
