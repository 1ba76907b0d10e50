set_option maxHeartbeats 4000000 in
set_option maxRecDepth 100000 in
theorem t_X7_digest_32 {p : Program} {l : Launch} {e : Env} {s : State} {m : MethodId} {args : Array Value} {below : List Frame} {meth : Method} {c : Code} {Q : State → Prop} {D : va_G} {I : ch_Id} {sh : Nat → Nat} {A : Nat → Prop} {oo : Int64 × ch_Mem}    {k6 : Int64 → Int32 → ch_Mem → Option (Int64 × ch_Mem)} (S : CallFix p m c cX7_digest 5 s args wsX7_digest RX7) (fin : ch_FinL p l e rm_X7_digest s m args below meth c cX7_digest Q D I 13 (ch_FM I sh) sh A oo) (hk6 : ∀ (x1 : Int64) (x3 : Int32) (M : ch_Mem) (H : Heap) (locs : List Loc) (ls : Array Slot), k6 x1 x3 M = some oo → ch_Wd D I 13 (ch_FM I sh) sh s A M H locs → lv_has ls 5 [(0, .ref (sh 0)), (1, .long x1), (3, .int x3)] → W p l e rm_X7_digest s m args below meth c H locs 0 0 Q (F0 m 6 ls [])) {x3 : Int32} {y0 : Int64}  {M : ch_Mem} {H : Heap} {locs : List Loc} {ls : Array Slot} (h : D_X7_digest_b32 k6 x3 y0 M = some oo) (hw : ch_Wd D I 13 (ch_FM I sh) sh s A M H locs) (hl : lv_has ls 5 [(0, .ref (sh 0)), (3, .int x3)]) : W p l e rm_X7_digest s m args below meth c H locs 0 0 Q (F0 m 32 ls [.long y0]) := by
  obtain ⟨hx, hb, hml, hown, hts⟩ := id S
  unfold D_X7_digest_b32 at h
  refine lv_lstore_n (lv' := [(1, .long y0), (0, .ref (sh 0)), (3, .int x3)]) hx hb dX7_digest_32 rfl hl (by decide) rfl (fun ls hl => ?_)
  refine lv_iinc (v := x3 + (1 : Int32)) (lv' := [(3, .int (x3 + (1 : Int32))), (1, .long y0), (0, .ref (sh 0))]) hx hb dX7_digest_33 hl (k := 2) rfl rfl (by decide) rfl (fun ls hl => ?_)
  refine lv_goto (tgt := 6) hx hb dX7_digest_36 (by decide) ?_
  exact hk6 _ _ _ _ _ _  h hw (lv_sub hl [2, 1, 0] rfl)
set_option maxHeartbeats 4000000 in
set_option maxRecDepth 100000 in
theorem t_X7_digest_114 {p : Program} {l : Launch} {e : Env} {s : State} {m : MethodId} {args : Array Value} {below : List Frame} {meth : Method} {c : Code} {Q : State → Prop} {D : va_G} {I : ch_Id} {sh : Nat → Nat} {A : Nat → Prop} {oo : Int64 × ch_Mem}    {k41 : Int64 → Int32 → ch_Mem → Option (Int64 × ch_Mem)} (S : CallFix p m c cX7_digest 5 s args wsX7_digest RX7) (fin : ch_FinL p l e rm_X7_digest s m args below meth c cX7_digest Q D I 13 (ch_FM I sh) sh A oo) (hk41 : ∀ (x1 : Int64) (x3 : Int32) (M : ch_Mem) (H : Heap) (locs : List Loc) (ls : Array Slot), k41 x1 x3 M = some oo → ch_Wd D I 13 (ch_FM I sh) sh s A M H locs → lv_has ls 5 [(0, .ref (sh 0)), (1, .long x1), (3, .int x3)] → W p l e rm_X7_digest s m args below meth c H locs 0 0 Q (F0 m 41 ls [])) {x1 : Int64} {x3 : Int32}  {M : ch_Mem} {H : Heap} {locs : List Loc} {ls : Array Slot} (h : D_X7_digest_b114 k41 x1 x3 M = some oo) (hw : ch_Wd D I 13 (ch_FM I sh) sh s A M H locs) (hl : lv_has ls 5 [(0, .ref (sh 0)), (1, .long x1), (3, .int x3)]) : W p l e rm_X7_digest s m args below meth c H locs 0 0 Q (F0 m 114 ls []) := by
  obtain ⟨hx, hb, hml, hown, hts⟩ := id S
  unfold D_X7_digest_b114 at h
  refine lv_iinc (v := x3 + (1 : Int32)) (lv' := [(3, .int (x3 + (1 : Int32))), (0, .ref (sh 0)), (1, .long x1)]) hx hb dX7_digest_114 hl (k := 2) rfl rfl (by decide) rfl (fun ls hl => ?_)
  refine lv_goto (tgt := 41) hx hb dX7_digest_117 (by decide) ?_
  exact hk41 _ _ _ _ _ _  h hw (lv_sub hl [1, 2, 0] rfl)
set_option maxHeartbeats 4000000 in
set_option maxRecDepth 100000 in
theorem t_X7_digest_82 {p : Program} {l : Launch} {e : Env} {s : State} {m : MethodId} {args : Array Value} {below : List Frame} {meth : Method} {c : Code} {Q : State → Prop} {D : va_G} {I : ch_Id} {sh : Nat → Nat} {A : Nat → Prop} {oo : Int64 × ch_Mem}    {k41 : Int64 → Int32 → ch_Mem → Option (Int64 × ch_Mem)} {k82 : Int64 → Int32 → Int32 → ch_Mem → Option (Int64 × ch_Mem)} (S : CallFix p m c cX7_digest 5 s args wsX7_digest RX7) (fin : ch_FinL p l e rm_X7_digest s m args below meth c cX7_digest Q D I 13 (ch_FM I sh) sh A oo) (hk41 : ∀ (x1 : Int64) (x3 : Int32) (M : ch_Mem) (H : Heap) (locs : List Loc) (ls : Array Slot), k41 x1 x3 M = some oo → ch_Wd D I 13 (ch_FM I sh) sh s A M H locs → lv_has ls 5 [(0, .ref (sh 0)), (1, .long x1), (3, .int x3)] → W p l e rm_X7_digest s m args below meth c H locs 0 0 Q (F0 m 41 ls [])) (hk82 : ∀ (x1 : Int64) (x3 : Int32) (x4 : Int32) (M : ch_Mem) (H : Heap) (locs : List Loc) (ls : Array Slot), k82 x1 x3 x4 M = some oo → ch_Wd D I 13 (ch_FM I sh) sh s A M H locs → lv_has ls 5 [(0, .ref (sh 0)), (1, .long x1), (3, .int x3), (4, .int x4)] → W p l e rm_X7_digest s m args below meth c H locs 0 0 Q (F0 m 82 ls [])) {x1 : Int64} {x3 : Int32} {x4 : Int32}  {M : ch_Mem} {H : Heap} {locs : List Loc} {ls : Array Slot} (h : D_X7_digest_b82 k41 k82 x1 x3 x4 M = some oo) (hw : ch_Wd D I 13 (ch_FM I sh) sh s A M H locs) (hl : lv_has ls 5 [(0, .ref (sh 0)), (1, .long x1), (3, .int x3), (4, .int x4)]) : W p l e rm_X7_digest s m args below meth c H locs 0 0 Q (F0 m 82 ls []) := by
  obtain ⟨hx, hb, hml, hown, hts⟩ := id S
  unfold D_X7_digest_b82 at h
  refine lv_iload hx hb dX7_digest_82 (lv_at hl 3 rfl) ?_
  refine lv_aload_n hx hb dX7_digest_84 rfl (lv_at hl 0 rfl) ?_
  refine ch_get S hw 0 (by decide) rfl rfl (by decide +kernel) 0 (by decide) (hts (.fieldLink RX7 7 "CodeHuntModel" "sizesOf" "[I") (by decide +kernel)) rfl dX7_digest_85 ?_
  refine lv_iload_n hx hb dX7_digest_88 rfl (lv_at hl 2 rfl) ?_
  refine ch_gd_k h (fun hin h => ?_)
  refine ch_iald S hw 1 (by decide) rfl hin dX7_digest_89 ?_
  refine ch_icmp_ge (tgt := 114) hx hb dX7_digest_90 (by decide) h (fun h => ?_) (fun h => ?_)
  · exact t_X7_digest_114 S fin hk41 h hw (lv_sub hl [0, 1, 2] rfl)
  · refine lv_ldc2 (v := (31 : Int64)) hx hb hown (hts (.constantLong RX7 164 (31)) (by decide +kernel)) dX7_digest_93 ?_
    refine lv_lload_n hx hb dX7_digest_96 rfl (lv_at hl 1 rfl) ?_
    refine lv_lmul hx hb dX7_digest_97 ?_
    refine lv_aload_n hx hb dX7_digest_98 rfl (lv_at hl 0 rfl) ?_
    refine lv_iload_n hx hb dX7_digest_99 rfl (lv_at hl 2 rfl) ?_
    refine lv_iload hx hb dX7_digest_100 (lv_at hl 3 rfl) ?_
    refine ch_bd_k h (fun r1 M2 hc h => ?_)
    refine ch_ci hw (va_runV (As := [.int x3, .int x4]) (rest := [.long ((31 : Int64) * x1)]) S (c_X7_signOf l D I sh H.size M x3 x4 hc) (cwV 2 hts gX7_digest_X7_signOf rfl rfl rfl (by decide +kernel) ⟨Nat.le_of_ble_eq_true rfl, Nat.le_of_ble_eq_true rfl⟩) (ch_pV hw (by decide) rfl rfl rfl) rfl rfl hl.1 rfl (lv_room (Nat.le_of_ble_eq_true rfl)) dX7_digest_102 ⟨Nat.le_refl 0, Nat.le_refl 0⟩) (fun H locs hw => ?_)
    refine lv_i2l hx hb dX7_digest_105 rfl ?_
    refine lv_ladd hx hb dX7_digest_106 ?_
    refine lv_lstore_n (lv' := [(1, .long (((31 : Int64) * x1) + r1.toInt64)), (0, .ref (sh 0)), (3, .int x3), (4, .int x4)]) hx hb dX7_digest_107 rfl hl (by decide) rfl (fun ls hl => ?_)
    refine lv_iinc (v := x4 + (1 : Int32)) (lv' := [(4, .int (x4 + (1 : Int32))), (1, .long (((31 : Int64) * x1) + r1.toInt64)), (0, .ref (sh 0)), (3, .int x3)]) hx hb dX7_digest_108 hl (k := 3) rfl rfl (by decide) rfl (fun ls hl => ?_)
    refine lv_goto (tgt := 82) hx hb dX7_digest_111 (by decide) ?_
    exact hk82 _ _ _ _ _ _ _  h hw (lv_sub hl [2, 1, 3, 0] rfl)
set_option maxHeartbeats 4000000 in
set_option maxRecDepth 100000 in
theorem tl_X7_digest_82 {p : Program} {l : Launch} {e : Env} {s : State} {m : MethodId} {args : Array Value} {below : List Frame} {meth : Method} {c : Code} {Q : State → Prop} {D : va_G} {I : ch_Id} {sh : Nat → Nat} {A : Nat → Prop} {oo : Int64 × ch_Mem}    {k41 : Int64 → Int32 → ch_Mem → Option (Int64 × ch_Mem)} (S : CallFix p m c cX7_digest 5 s args wsX7_digest RX7) (fin : ch_FinL p l e rm_X7_digest s m args below meth c cX7_digest Q D I 13 (ch_FM I sh) sh A oo) (hk41 : ∀ (x1 : Int64) (x3 : Int32) (M : ch_Mem) (H : Heap) (locs : List Loc) (ls : Array Slot), k41 x1 x3 M = some oo → ch_Wd D I 13 (ch_FM I sh) sh s A M H locs → lv_has ls 5 [(0, .ref (sh 0)), (1, .long x1), (3, .int x3)] → W p l e rm_X7_digest s m args below meth c H locs 0 0 Q (F0 m 41 ls [])) (n : Nat) : ∀ (x1 : Int64) (x3 : Int32) (x4 : Int32) (M : ch_Mem) (H : Heap) (locs : List Loc) (ls : Array Slot), D_X7_digest_L82 k41 n x1 x3 x4 M = some oo → ch_Wd D I 13 (ch_FM I sh) sh s A M H locs → lv_has ls 5 [(0, .ref (sh 0)), (1, .long x1), (3, .int x3), (4, .int x4)] → W p l e rm_X7_digest s m args below meth c H locs 0 0 Q (F0 m 82 ls []) := by
  induction n with
  | zero => intro x1 x3 x4 M H locs ls  h; cases h
  | succ n ih =>
    intro x1 x3 x4 M H locs ls  h hw hl
    exact t_X7_digest_82 S fin hk41 ih h hw hl
set_option maxHeartbeats 4000000 in
set_option maxRecDepth 100000 in
theorem t_X7_digest_120 {p : Program} {l : Launch} {e : Env} {s : State} {m : MethodId} {args : Array Value} {below : List Frame} {meth : Method} {c : Code} {Q : State → Prop} {D : va_G} {I : ch_Id} {sh : Nat → Nat} {A : Nat → Prop} {oo : Int64 × ch_Mem}     (S : CallFix p m c cX7_digest 5 s args wsX7_digest RX7) (fin : ch_FinL p l e rm_X7_digest s m args below meth c cX7_digest Q D I 13 (ch_FM I sh) sh A oo)  {x1 : Int64}  {M : ch_Mem} {H : Heap} {locs : List Loc} {ls : Array Slot} (h : D_X7_digest_b120 x1 M = some oo) (hw : ch_Wd D I 13 (ch_FM I sh) sh s A M H locs) (hl : lv_has ls 5 [(0, .ref (sh 0)), (1, .long x1)]) : W p l e rm_X7_digest s m args below meth c H locs 0 0 Q (F0 m 120 ls []) := by
  obtain ⟨hx, hb, hml, hown, hts⟩ := id S
  unfold D_X7_digest_b120 at h
  refine lv_ldc2 (v := (31 : Int64)) hx hb hown (hts (.constantLong RX7 164 (31)) (by decide +kernel)) dX7_digest_120 ?_
  refine lv_lload_n hx hb dX7_digest_123 rfl (lv_at hl 1 rfl) ?_
  refine lv_lmul hx hb dX7_digest_124 ?_
  refine lv_aload_n hx hb dX7_digest_125 rfl (lv_at hl 0 rfl) ?_
  refine ch_bd_k h (fun r1 M2 hc h => ?_)
  refine ch_cl hw (va_runV (As := []) (rest := [.long ((31 : Int64) * x1)]) S (c_X7_range l D I sh H.size M  hc) (cwV 0 hts gX7_digest_X7_range rfl rfl rfl (by decide +kernel) ⟨Nat.le_of_ble_eq_true rfl, Nat.le_of_ble_eq_true rfl⟩) (ch_pV hw (by decide) rfl rfl rfl) rfl rfl hl.1 rfl (lv_room (Nat.le_of_ble_eq_true rfl)) dX7_digest_126 ⟨Nat.le_refl 0, Nat.le_refl 0⟩) (fun H locs hw => ?_)
  refine lv_ladd hx hb dX7_digest_129 ?_
  refine lv_lstore_n (lv' := [(1, .long (((31 : Int64) * x1) + r1)), (0, .ref (sh 0))]) hx hb dX7_digest_130 rfl hl (by decide) rfl (fun ls hl => ?_)
  refine lv_ldc2 (v := (31 : Int64)) hx hb hown (hts (.constantLong RX7 164 (31)) (by decide +kernel)) dX7_digest_131 ?_
  refine lv_lload_n hx hb dX7_digest_134 rfl (lv_at hl 0 rfl) ?_
  refine lv_lmul hx hb dX7_digest_135 ?_
  refine lv_aload_n hx hb dX7_digest_136 rfl (lv_at hl 1 rfl) ?_
  refine ch_get S hw 0 (by decide) rfl rfl (by decide +kernel) 9 (by decide) (hts (.fieldLink RX7 127 "CodeHuntModel" "noise" "J") (by decide +kernel)) rfl dX7_digest_137 ?_
  refine lv_ladd hx hb dX7_digest_140 ?_
  exact fin _ _ _ _ _ _ h hw dX7_digest_141
set_option maxHeartbeats 4000000 in
set_option maxRecDepth 100000 in
theorem t_X7_digest_41 {p : Program} {l : Launch} {e : Env} {s : State} {m : MethodId} {args : Array Value} {below : List Frame} {meth : Method} {c : Code} {Q : State → Prop} {D : va_G} {I : ch_Id} {sh : Nat → Nat} {A : Nat → Prop} {oo : Int64 × ch_Mem}    {k41 : Int64 → Int32 → ch_Mem → Option (Int64 × ch_Mem)} (S : CallFix p m c cX7_digest 5 s args wsX7_digest RX7) (fin : ch_FinL p l e rm_X7_digest s m args below meth c cX7_digest Q D I 13 (ch_FM I sh) sh A oo) (hk41 : ∀ (x1 : Int64) (x3 : Int32) (M : ch_Mem) (H : Heap) (locs : List Loc) (ls : Array Slot), k41 x1 x3 M = some oo → ch_Wd D I 13 (ch_FM I sh) sh s A M H locs → lv_has ls 5 [(0, .ref (sh 0)), (1, .long x1), (3, .int x3)] → W p l e rm_X7_digest s m args below meth c H locs 0 0 Q (F0 m 41 ls [])) {x1 : Int64} {x3 : Int32}  {M : ch_Mem} {H : Heap} {locs : List Loc} {ls : Array Slot} (h : D_X7_digest_b41 k41 x1 x3 M = some oo) (hw : ch_Wd D I 13 (ch_FM I sh) sh s A M H locs) (hl : lv_has ls 5 [(0, .ref (sh 0)), (1, .long x1), (3, .int x3)]) : W p l e rm_X7_digest s m args below meth c H locs 0 0 Q (F0 m 41 ls []) := by
  obtain ⟨hx, hb, hml, hown, hts⟩ := id S
  unfold D_X7_digest_b41 at h
  refine lv_iload_n hx hb dX7_digest_41 rfl (lv_at hl 2 rfl) ?_
  refine lv_bipush (v := (8 : Int32)) hx hb dX7_digest_42 (by decide) ?_
  refine ch_icmp_ge (tgt := 120) hx hb dX7_digest_44 (by decide) h (fun h => ?_) (fun h => ?_)
  · exact t_X7_digest_120 S fin h hw (lv_sub hl [0, 1] rfl)
  · refine lv_aload_n hx hb dX7_digest_47 rfl (lv_at hl 0 rfl) ?_
    refine ch_get S hw 0 (by decide) rfl rfl (by decide +kernel) 0 (by decide) (hts (.fieldLink RX7 7 "CodeHuntModel" "sizesOf" "[I") (by decide +kernel)) rfl dX7_digest_48 ?_
    refine lv_iload_n hx hb dX7_digest_51 rfl (lv_at hl 2 rfl) ?_
    refine ch_gd_k h (fun hin h => ?_)
    refine ch_iald S hw 1 (by decide) rfl hin dX7_digest_52 ?_
    refine ch_if_le (tgt := 114) hx hb dX7_digest_53 (by decide) h (fun h => ?_) (fun h => ?_)
    · exact t_X7_digest_114 S fin hk41 h hw (lv_sub hl [0, 1, 2] rfl)
    · refine lv_ldc2 (v := (31 : Int64)) hx hb hown (hts (.constantLong RX7 164 (31)) (by decide +kernel)) dX7_digest_56 ?_
      refine lv_lload_n hx hb dX7_digest_59 rfl (lv_at hl 1 rfl) ?_
      refine lv_lmul hx hb dX7_digest_60 ?_
      refine lv_iload_n hx hb dX7_digest_61 rfl (lv_at hl 2 rfl) ?_
      refine lv_i2l hx hb dX7_digest_62 rfl ?_
      refine lv_ladd hx hb dX7_digest_63 ?_
      refine lv_lstore_n (lv' := [(1, .long (((31 : Int64) * x1) + x3.toInt64)), (0, .ref (sh 0)), (3, .int x3)]) hx hb dX7_digest_64 rfl hl (by decide) rfl (fun ls hl => ?_)
      refine lv_ldc2 (v := (31 : Int64)) hx hb hown (hts (.constantLong RX7 164 (31)) (by decide +kernel)) dX7_digest_65 ?_
      refine lv_lload_n hx hb dX7_digest_68 rfl (lv_at hl 0 rfl) ?_
      refine lv_lmul hx hb dX7_digest_69 ?_
      refine lv_aload_n hx hb dX7_digest_70 rfl (lv_at hl 1 rfl) ?_
      refine ch_get S hw 0 (by decide) rfl rfl (by decide +kernel) 0 (by decide) (hts (.fieldLink RX7 7 "CodeHuntModel" "sizesOf" "[I") (by decide +kernel)) rfl dX7_digest_71 ?_
      refine lv_iload_n hx hb dX7_digest_74 rfl (lv_at hl 2 rfl) ?_
      refine ch_gd_k h (fun hin h => ?_)
      refine ch_iald S hw 1 (by decide) rfl hin dX7_digest_75 ?_
      refine lv_i2l hx hb dX7_digest_76 rfl ?_
      refine lv_ladd hx hb dX7_digest_77 ?_
      refine ch_topl h (fun u1 h => ?_)
      refine lv_lstore_n (lv' := [(1, .long u1), (0, .ref (sh 0)), (3, .int x3)]) hx hb dX7_digest_78 rfl hl (by decide) rfl (fun ls hl => ?_)
      refine lv_iconst (v := (0 : Int32)) hx hb dX7_digest_79 (by decide) ?_
      refine lv_istore (lv' := [(4, .int (0 : Int32)), (1, .long u1), (0, .ref (sh 0)), (3, .int x3)]) hx hb dX7_digest_80 hl (by decide) rfl (fun ls hl => ?_)
      exact tl_X7_digest_82 S fin hk41 ch_fu _ _ _ _ _ _ _ h hw (lv_sub hl [2, 1, 3, 0] rfl)
set_option maxHeartbeats 4000000 in
set_option maxRecDepth 100000 in
theorem tl_X7_digest_41 {p : Program} {l : Launch} {e : Env} {s : State} {m : MethodId} {args : Array Value} {below : List Frame} {meth : Method} {c : Code} {Q : State → Prop} {D : va_G} {I : ch_Id} {sh : Nat → Nat} {A : Nat → Prop} {oo : Int64 × ch_Mem}     (S : CallFix p m c cX7_digest 5 s args wsX7_digest RX7) (fin : ch_FinL p l e rm_X7_digest s m args below meth c cX7_digest Q D I 13 (ch_FM I sh) sh A oo)  (n : Nat) : ∀ (x1 : Int64) (x3 : Int32) (M : ch_Mem) (H : Heap) (locs : List Loc) (ls : Array Slot), D_X7_digest_L41  n x1 x3 M = some oo → ch_Wd D I 13 (ch_FM I sh) sh s A M H locs → lv_has ls 5 [(0, .ref (sh 0)), (1, .long x1), (3, .int x3)] → W p l e rm_X7_digest s m args below meth c H locs 0 0 Q (F0 m 41 ls []) := by
  induction n with
  | zero => intro x1 x3 M H locs ls  h; cases h
  | succ n ih =>
    intro x1 x3 M H locs ls  h hw hl
    exact t_X7_digest_41 S fin ih h hw hl
set_option maxHeartbeats 4000000 in
set_option maxRecDepth 100000 in
theorem t_X7_digest_39 {p : Program} {l : Launch} {e : Env} {s : State} {m : MethodId} {args : Array Value} {below : List Frame} {meth : Method} {c : Code} {Q : State → Prop} {D : va_G} {I : ch_Id} {sh : Nat → Nat} {A : Nat → Prop} {oo : Int64 × ch_Mem}     (S : CallFix p m c cX7_digest 5 s args wsX7_digest RX7) (fin : ch_FinL p l e rm_X7_digest s m args below meth c cX7_digest Q D I 13 (ch_FM I sh) sh A oo)  {x1 : Int64}  {M : ch_Mem} {H : Heap} {locs : List Loc} {ls : Array Slot} (h : D_X7_digest_b39 x1 M = some oo) (hw : ch_Wd D I 13 (ch_FM I sh) sh s A M H locs) (hl : lv_has ls 5 [(0, .ref (sh 0)), (1, .long x1)]) : W p l e rm_X7_digest s m args below meth c H locs 0 0 Q (F0 m 39 ls []) := by
  obtain ⟨hx, hb, hml, hown, hts⟩ := id S
  unfold D_X7_digest_b39 at h
  refine lv_iconst (v := (0 : Int32)) hx hb dX7_digest_39 (by decide) ?_
  refine lv_istore_n (lv' := [(3, .int (0 : Int32)), (0, .ref (sh 0)), (1, .long x1)]) hx hb dX7_digest_40 rfl hl (by decide) rfl (fun ls hl => ?_)
  exact tl_X7_digest_41 S fin ch_fu _ _ _ _ _ _ h hw (lv_sub hl [1, 2, 0] rfl)
set_option maxHeartbeats 4000000 in
set_option maxRecDepth 100000 in
theorem t_X7_digest_6 {p : Program} {l : Launch} {e : Env} {s : State} {m : MethodId} {args : Array Value} {below : List Frame} {meth : Method} {c : Code} {Q : State → Prop} {D : va_G} {I : ch_Id} {sh : Nat → Nat} {A : Nat → Prop} {oo : Int64 × ch_Mem}    {k6 : Int64 → Int32 → ch_Mem → Option (Int64 × ch_Mem)} (S : CallFix p m c cX7_digest 5 s args wsX7_digest RX7) (fin : ch_FinL p l e rm_X7_digest s m args below meth c cX7_digest Q D I 13 (ch_FM I sh) sh A oo) (hk6 : ∀ (x1 : Int64) (x3 : Int32) (M : ch_Mem) (H : Heap) (locs : List Loc) (ls : Array Slot), k6 x1 x3 M = some oo → ch_Wd D I 13 (ch_FM I sh) sh s A M H locs → lv_has ls 5 [(0, .ref (sh 0)), (1, .long x1), (3, .int x3)] → W p l e rm_X7_digest s m args below meth c H locs 0 0 Q (F0 m 6 ls [])) {x1 : Int64} {x3 : Int32}  {M : ch_Mem} {H : Heap} {locs : List Loc} {ls : Array Slot} (h : D_X7_digest_b6 k6 x1 x3 M = some oo) (hw : ch_Wd D I 13 (ch_FM I sh) sh s A M H locs) (hl : lv_has ls 5 [(0, .ref (sh 0)), (1, .long x1), (3, .int x3)]) : W p l e rm_X7_digest s m args below meth c H locs 0 0 Q (F0 m 6 ls []) := by
  obtain ⟨hx, hb, hml, hown, hts⟩ := id S
  unfold D_X7_digest_b6 at h
  refine lv_iload_n hx hb dX7_digest_6 rfl (lv_at hl 2 rfl) ?_
  refine lv_iconst (v := (5 : Int32)) hx hb dX7_digest_7 (by decide) ?_
  refine ch_icmp_ge (tgt := 39) hx hb dX7_digest_8 (by decide) h (fun h => ?_) (fun h => ?_)
  · exact t_X7_digest_39 S fin h hw (lv_sub hl [0, 1] rfl)
  · refine lv_iload_n hx hb dX7_digest_11 rfl (lv_at hl 2 rfl) ?_
    refine lv_iconst (v := (3 : Int32)) hx hb dX7_digest_12 (by decide) ?_
    refine ch_icmp_ne (tgt := 20) hx hb dX7_digest_13 (by decide) h (fun h => ?_) (fun h => ?_)
    · refine lv_ldc2 (v := (31 : Int64)) hx hb hown (hts (.constantLong RX7 164 (31)) (by decide +kernel)) dX7_digest_20 ?_
      refine lv_lload_n hx hb dX7_digest_23 rfl (lv_at hl 1 rfl) ?_
      refine lv_lmul hx hb dX7_digest_24 ?_
      refine lv_aload_n hx hb dX7_digest_25 rfl (lv_at hl 0 rfl) ?_
      refine lv_iload_n hx hb dX7_digest_26 rfl (lv_at hl 2 rfl) ?_
      refine ch_bd_k h (fun r1 M2 hc h => ?_)
      refine ch_ci hw (va_runV (As := [.int x3]) (rest := [.long ((31 : Int64) * x1)]) S (c_X7_count l D I sh H.size M x3 hc) (cwV 1 hts gX7_digest_X7_count rfl rfl rfl (by decide +kernel) ⟨Nat.le_of_ble_eq_true rfl, Nat.le_of_ble_eq_true rfl⟩) (ch_pV hw (by decide) rfl rfl rfl) rfl rfl hl.1 rfl (lv_room (Nat.le_of_ble_eq_true rfl)) dX7_digest_27 ⟨Nat.le_refl 0, Nat.le_refl 0⟩) (fun H locs hw => ?_)
      refine lv_i2l hx hb dX7_digest_30 rfl ?_
      refine lv_ladd hx hb dX7_digest_31 ?_
      exact t_X7_digest_32 S fin hk6 h hw (lv_sub hl [0, 2] rfl)
    · refine lv_lload_n hx hb dX7_digest_16 rfl (lv_at hl 1 rfl) ?_
      refine lv_goto (tgt := 32) hx hb dX7_digest_17 (by decide) ?_
      exact t_X7_digest_32 S fin hk6 h hw (lv_sub hl [0, 2] rfl)
set_option maxHeartbeats 4000000 in
set_option maxRecDepth 100000 in
theorem tl_X7_digest_6 {p : Program} {l : Launch} {e : Env} {s : State} {m : MethodId} {args : Array Value} {below : List Frame} {meth : Method} {c : Code} {Q : State → Prop} {D : va_G} {I : ch_Id} {sh : Nat → Nat} {A : Nat → Prop} {oo : Int64 × ch_Mem}     (S : CallFix p m c cX7_digest 5 s args wsX7_digest RX7) (fin : ch_FinL p l e rm_X7_digest s m args below meth c cX7_digest Q D I 13 (ch_FM I sh) sh A oo)  (n : Nat) : ∀ (x1 : Int64) (x3 : Int32) (M : ch_Mem) (H : Heap) (locs : List Loc) (ls : Array Slot), D_X7_digest_L6  n x1 x3 M = some oo → ch_Wd D I 13 (ch_FM I sh) sh s A M H locs → lv_has ls 5 [(0, .ref (sh 0)), (1, .long x1), (3, .int x3)] → W p l e rm_X7_digest s m args below meth c H locs 0 0 Q (F0 m 6 ls []) := by
  induction n with
  | zero => intro x1 x3 M H locs ls  h; cases h
  | succ n ih =>
    intro x1 x3 M H locs ls  h hw hl
    exact t_X7_digest_6 S fin ih h hw hl
set_option maxHeartbeats 4000000 in
set_option maxRecDepth 100000 in
theorem t_X7_digest_0 {p : Program} {l : Launch} {e : Env} {s : State} {m : MethodId} {args : Array Value} {below : List Frame} {meth : Method} {c : Code} {Q : State → Prop} {D : va_G} {I : ch_Id} {sh : Nat → Nat} {A : Nat → Prop} {oo : Int64 × ch_Mem}     (S : CallFix p m c cX7_digest 5 s args wsX7_digest RX7) (fin : ch_FinL p l e rm_X7_digest s m args below meth c cX7_digest Q D I 13 (ch_FM I sh) sh A oo)    {M : ch_Mem} {H : Heap} {locs : List Loc} {ls : Array Slot} (h : D_X7_digest  M = some oo) (hw : ch_Wd D I 13 (ch_FM I sh) sh s A M H locs) (hl : lv_has ls 5 [(0, .ref (sh 0))]) : W p l e rm_X7_digest s m args below meth c H locs 0 0 Q (F0 m 0 ls []) := by
  obtain ⟨hx, hb, hml, hown, hts⟩ := id S
  unfold D_X7_digest at h
  refine lv_ldc2 (v := (17 : Int64)) hx hb hown (hts (.constantLong RX7 162 (17)) (by decide +kernel)) dX7_digest_0 ?_
  refine lv_lstore_n (lv' := [(1, .long (17 : Int64)), (0, .ref (sh 0))]) hx hb dX7_digest_3 rfl hl (by decide) rfl (fun ls hl => ?_)
  refine lv_iconst (v := (0 : Int32)) hx hb dX7_digest_4 (by decide) ?_
  refine lv_istore_n (lv' := [(3, .int (0 : Int32)), (1, .long (17 : Int64)), (0, .ref (sh 0))]) hx hb dX7_digest_5 rfl hl (by decide) rfl (fun ls hl => ?_)
  exact tl_X7_digest_6 S fin ch_fu _ _ _ _ _ _ h hw (lv_sub hl [2, 1, 0] rfl)
set_option maxHeartbeats 4000000 in
set_option maxRecDepth 100000 in
theorem c_X7_digest (l : Launch) (D : va_G) (I : ch_Id) (sh : Nat → Nat) (sz : Nat) (M : ch_Mem)   {r : Int64} {M1 : ch_Mem} (h : D_X7_digest  M = some (r, M1)) : Met l yX7_digest wsX7_digest rm_X7_digest (va_Pc [.ref (sh 0)] (ch_Pre D I 13 (ch_FM I sh) sh sz M)) (va_Ql (fun r' (u : ch_Mem) => r' = r ∧ u = M1) (ch_Pos D 13 (ch_FM I sh) sh) (ch_A 13 sh sz)) 0 0 (ch_A 13 sh sz) := by
  refine Met.ofW (cc := cX7_digest) (maxL := 5) (ret := (some .long)) (by decide) rfl ?_
  intro p e s m args below meth c s₁ B hml hv0
  obtain ⟨rfl, hv0⟩ := hv0
  obtain rfl : s.heap.size = sz := hv0.1
  have hw := ch_start hv0
  have S : CallFix p m c cX7_digest 5 s _ wsX7_digest RX7 := ⟨B.exec, B.bytes, hml, findClass_of_methodNamed B.named, atoms_spec (ws := wsX7_digest) B.pre⟩
  have hl := lv_entry ([.ref (sh 0)]) (n := 5) (Nat.le_of_ble_eq_true rfl)
  rw [lg_entry_eq]
  generalize (lg_sl ([.ref (sh 0)]) ++ List.replicate (5 - (lg_sl ([.ref (sh 0)])).length) Slot.unset).toArray = ls at hl ⊢
  exact t_X7_digest_0 S (ch_finL B.exec B.bytes B.returns B.notSynchronized) h hw (lv_sub hl [0] rfl)
set_option maxHeartbeats 4000000 in
set_option maxRecDepth 100000 in
theorem t_X7_divisor_21 {p : Program} {l : Launch} {e : Env} {s : State} {m : MethodId} {args : Array Value} {below : List Frame} {meth : Method} {c : Code} {Q : State → Prop} {D : va_G} {I : ch_Id} {sh : Nat → Nat} {A : Nat → Prop} {oo : Int32 × ch_Mem}     (S : CallFix p m c cX7_divisor 5 s args wsX7_divisor RX7) (fin : ch_FinI p l e rm_X7_divisor s m args below meth c cX7_divisor Q D I 13 (ch_FM I sh) sh A oo)  {x2 : Int32}  {M : ch_Mem} {H : Heap} {locs : List Loc} {ls : Array Slot} (h : D_X7_divisor_b21 x2 M = some oo) (hw : ch_Wd D I 13 (ch_FM I sh) sh s A M H locs) (hl : lv_has ls 5 [(2, .int x2)]) : W p l e rm_X7_divisor s m args below meth c H locs 0 0 Q (F0 m 21 ls []) := by
  obtain ⟨hx, hb, hml, hown, hts⟩ := id S
  unfold D_X7_divisor_b21 at h
  refine lv_iload_n hx hb dX7_divisor_21 rfl (lv_at hl 0 rfl) ?_
  exact fin _ _ _ _ _ _ h hw dX7_divisor_22
set_option maxHeartbeats 4000000 in
set_option maxRecDepth 100000 in
theorem t_X7_divisor_4 {p : Program} {l : Launch} {e : Env} {s : State} {m : MethodId} {args : Array Value} {below : List Frame} {meth : Method} {c : Code} {Q : State → Prop} {D : va_G} {I : ch_Id} {sh : Nat → Nat} {A : Nat → Prop} {oo : Int32 × ch_Mem}    {k4 : Int32 → Int32 → ch_Mem → Option (Int32 × ch_Mem)} (S : CallFix p m c cX7_divisor 5 s args wsX7_divisor RX7) (fin : ch_FinI p l e rm_X7_divisor s m args below meth c cX7_divisor Q D I 13 (ch_FM I sh) sh A oo) (hk4 : ∀ (x2 : Int32) (x3 : Int32) (M : ch_Mem) (H : Heap) (locs : List Loc) (ls : Array Slot), k4 x2 x3 M = some oo → ch_Wd D I 13 (ch_FM I sh) sh s A M H locs → lv_has ls 5 [(2, .int x2), (3, .int x3)] → W p l e rm_X7_divisor s m args below meth c H locs 0 0 Q (F0 m 4 ls [])) {x2 : Int32} {x3 : Int32}  {M : ch_Mem} {H : Heap} {locs : List Loc} {ls : Array Slot} (h : D_X7_divisor_b4 k4 x2 x3 M = some oo) (hw : ch_Wd D I 13 (ch_FM I sh) sh s A M H locs) (hl : lv_has ls 5 [(2, .int x2), (3, .int x3)]) : W p l e rm_X7_divisor s m args below meth c H locs 0 0 Q (F0 m 4 ls []) := by
  obtain ⟨hx, hb, hml, hown, hts⟩ := id S
  unfold D_X7_divisor_b4 at h
  refine lv_iload_n hx hb dX7_divisor_4 rfl (lv_at hl 1 rfl) ?_
  refine ch_if_le (tgt := 21) hx hb dX7_divisor_5 (by decide) h (fun h => ?_) (fun h => ?_)
  · exact t_X7_divisor_21 S fin h hw (lv_sub hl [0] rfl)
  · refine lv_iload_n hx hb dX7_divisor_8 rfl (lv_at hl 0 rfl) ?_
    refine lv_iload_n hx hb dX7_divisor_9 rfl (lv_at hl 1 rfl) ?_
    refine ch_g0_k h (fun hne h => ?_)
    refine lv_irem hx hb dX7_divisor_10 hne ?_
    refine lv_istore (lv' := [(4, .int (x2 - x2 / x3 * x3)), (2, .int x2), (3, .int x3)]) hx hb dX7_divisor_11 hl (by decide) rfl (fun ls hl => ?_)
    refine lv_iload_n hx hb dX7_divisor_13 rfl (lv_at hl 2 rfl) ?_
    refine lv_istore_n (lv' := [(2, .int x3), (4, .int (x2 - x2 / x3 * x3)), (3, .int x3)]) hx hb dX7_divisor_14 rfl hl (by decide) rfl (fun ls hl => ?_)
    refine lv_iload hx hb dX7_divisor_15 (lv_at hl 1 rfl) ?_
    refine lv_istore_n (lv' := [(3, .int (x2 - x2 / x3 * x3)), (2, .int x3), (4, .int (x2 - x2 / x3 * x3))]) hx hb dX7_divisor_17 rfl hl (by decide) rfl (fun ls hl => ?_)
    refine lv_goto (tgt := 4) hx hb dX7_divisor_18 (by decide) ?_
    exact hk4 _ _ _ _ _ _  h hw (lv_sub hl [1, 0] rfl)
set_option maxHeartbeats 4000000 in
set_option maxRecDepth 100000 in
theorem tl_X7_divisor_4 {p : Program} {l : Launch} {e : Env} {s : State} {m : MethodId} {args : Array Value} {below : List Frame} {meth : Method} {c : Code} {Q : State → Prop} {D : va_G} {I : ch_Id} {sh : Nat → Nat} {A : Nat → Prop} {oo : Int32 × ch_Mem}     (S : CallFix p m c cX7_divisor 5 s args wsX7_divisor RX7) (fin : ch_FinI p l e rm_X7_divisor s m args below meth c cX7_divisor Q D I 13 (ch_FM I sh) sh A oo)  (n : Nat) : ∀ (x2 : Int32) (x3 : Int32) (M : ch_Mem) (H : Heap) (locs : List Loc) (ls : Array Slot), D_X7_divisor_L4  n x2 x3 M = some oo → ch_Wd D I 13 (ch_FM I sh) sh s A M H locs → lv_has ls 5 [(2, .int x2), (3, .int x3)] → W p l e rm_X7_divisor s m args below meth c H locs 0 0 Q (F0 m 4 ls []) := by
  induction n with
  | zero => intro x2 x3 M H locs ls  h; cases h
  | succ n ih =>
    intro x2 x3 M H locs ls  h hw hl
    exact t_X7_divisor_4 S fin ih h hw hl
set_option maxHeartbeats 4000000 in
set_option maxRecDepth 100000 in
theorem t_X7_divisor_0 {p : Program} {l : Launch} {e : Env} {s : State} {m : MethodId} {args : Array Value} {below : List Frame} {meth : Method} {c : Code} {Q : State → Prop} {D : va_G} {I : ch_Id} {sh : Nat → Nat} {A : Nat → Prop} {oo : Int32 × ch_Mem}     (S : CallFix p m c cX7_divisor 5 s args wsX7_divisor RX7) (fin : ch_FinI p l e rm_X7_divisor s m args below meth c cX7_divisor Q D I 13 (ch_FM I sh) sh A oo)  {x0 : Int32} {x1 : Int32}  {M : ch_Mem} {H : Heap} {locs : List Loc} {ls : Array Slot} (h : D_X7_divisor x0 x1 M = some oo) (hw : ch_Wd D I 13 (ch_FM I sh) sh s A M H locs) (hl : lv_has ls 5 [(0, .int x0), (1, .int x1)]) : W p l e rm_X7_divisor s m args below meth c H locs 0 0 Q (F0 m 0 ls []) := by
  obtain ⟨hx, hb, hml, hown, hts⟩ := id S
  unfold D_X7_divisor at h
  refine lv_iload_n hx hb dX7_divisor_0 rfl (lv_at hl 0 rfl) ?_
  refine lv_istore_n (lv' := [(2, .int x0), (0, .int x0), (1, .int x1)]) hx hb dX7_divisor_1 rfl hl (by decide) rfl (fun ls hl => ?_)
  refine lv_iload_n hx hb dX7_divisor_2 rfl (lv_at hl 2 rfl) ?_
  refine lv_istore_n (lv' := [(3, .int x1), (2, .int x0), (0, .int x0), (1, .int x1)]) hx hb dX7_divisor_3 rfl hl (by decide) rfl (fun ls hl => ?_)
  exact tl_X7_divisor_4 S fin ch_fu _ _ _ _ _ _ h hw (lv_sub hl [1, 0] rfl)
set_option maxHeartbeats 4000000 in
set_option maxRecDepth 100000 in
theorem c_X7_divisor (l : Launch) (D : va_G) (I : ch_Id) (sh : Nat → Nat) (sz : Nat) (M : ch_Mem)  (x0 : Int32) (x1 : Int32) {r : Int32} {M1 : ch_Mem} (h : D_X7_divisor x0 x1 M = some (r, M1)) : Met l yX7_divisor wsX7_divisor rm_X7_divisor (va_Pc [.int x0, .int x1] (ch_Pre D I 13 (ch_FM I sh) sh sz M)) (va_Qi (fun r' (u : ch_Mem) => r' = r ∧ u = M1) (ch_Pos D 13 (ch_FM I sh) sh) (ch_A 13 sh sz)) 0 0 (ch_A 13 sh sz) := by
  refine Met.ofW (cc := cX7_divisor) (maxL := 5) (ret := (some .int)) (by decide) rfl ?_
  intro p e s m args below meth c s₁ B hml hv0
  obtain ⟨rfl, hv0⟩ := hv0
  obtain rfl : s.heap.size = sz := hv0.1
  have hw := ch_start hv0
  have S : CallFix p m c cX7_divisor 5 s _ wsX7_divisor RX7 := ⟨B.exec, B.bytes, hml, findClass_of_methodNamed B.named, atoms_spec (ws := wsX7_divisor) B.pre⟩
  have hl := lv_entry ([.int x0, .int x1]) (n := 5) (Nat.le_of_ble_eq_true rfl)
  rw [lg_entry_eq]
  generalize (lg_sl ([.int x0, .int x1]) ++ List.replicate (5 - (lg_sl ([.int x0, .int x1])).length) Slot.unset).toArray = ls at hl ⊢
  exact t_X7_divisor_0 S (ch_finI (B := fun _ => True) B.exec B.bytes B.returns B.notSynchronized) h hw (lv_sub hl [0, 1] rfl)
set_option maxHeartbeats 4000000 in
set_option maxRecDepth 100000 in
theorem t_X7_doubt_0 {p : Program} {l : Launch} {e : Env} {s : State} {m : MethodId} {args : Array Value} {below : List Frame} {meth : Method} {c : Code} {Q : State → Prop} {D : va_G} {I : ch_Id} {sh : Nat → Nat} {A : Nat → Prop} {oo : Int32 × ch_Mem}     (S : CallFix p m c cX7_doubt 3 s args wsX7_doubt RX7) (fin : ch_FinI p l e rm_X7_doubt s m args below meth c cX7_doubt Q D I 13 (ch_FM I sh) sh A oo)  {x1 : Int32}  {M : ch_Mem} {H : Heap} {locs : List Loc} {ls : Array Slot} (h : D_X7_doubt x1 M = some oo) (hw : ch_Wd D I 13 (ch_FM I sh) sh s A M H locs) (hl : lv_has ls 3 [(0, .ref (sh 0)), (1, .int x1)]) : W p l e rm_X7_doubt s m args below meth c H locs 0 0 Q (F0 m 0 ls []) := by
  obtain ⟨hx, hb, hml, hown, hts⟩ := id S
  unfold D_X7_doubt at h
  refine lv_iload_n hx hb dX7_doubt_0 rfl (lv_at hl 1 rfl) ?_
  refine lv_iconst (v := (0 : Int32)) hx hb dX7_doubt_1 (by decide) ?_
  refine lv_bipush (v := (100 : Int32)) hx hb dX7_doubt_2 (by decide) ?_
  refine ch_bd_k h (fun r1 M2 hc h => ?_)
  refine ch_ci hw (va_runS (As := [.int x1, .int (0 : Int32), .int (100 : Int32)]) (rest := []) S (c_X7_in l D I sh H.size M x1 (0 : Int32) (100 : Int32) hc) (va_cwS 3 hts gX7_doubt_X7_in rfl rfl rfl (by decide +kernel) ⟨Nat.le_of_ble_eq_true rfl, Nat.le_of_ble_eq_true rfl⟩) (ch_pS hw) rfl rfl hl.1 rfl (lv_room (Nat.le_of_ble_eq_true rfl)) dX7_doubt_4 ⟨Nat.le_refl 0, Nat.le_refl 0⟩) (fun H locs hw => ?_)
  refine ch_if_ne (tgt := 13) hx hb dX7_doubt_7 (by decide) h (fun h => ?_) (fun h => ?_)
  · refine lv_aload_n hx hb dX7_doubt_13 rfl (lv_at hl 0 rfl) ?_
    refine ch_get S hw 0 (by decide) rfl rfl (by decide +kernel) 3 (by decide) (hts (.fieldLink RX7 19 "CodeHuntModel" "doubt" "I") (by decide +kernel)) rfl dX7_doubt_14 ?_
    refine lv_istore_n (lv' := [(2, .int (M2.1 0 3)), (0, .ref (sh 0)), (1, .int x1)]) hx hb dX7_doubt_17 rfl hl (by decide) rfl (fun ls hl => ?_)
    refine lv_aload_n hx hb dX7_doubt_18 rfl (lv_at hl 1 rfl) ?_
    refine lv_iload_n hx hb dX7_doubt_19 rfl (lv_at hl 2 rfl) ?_
    refine ch_put (M1 := ch_wI M2 0 3 x1) (ty := .int) S hw 0 (by decide) rfl rfl (by decide +kernel) tyX7 tyX7_ok nmX7 3 (by decide) (hts (.fieldLink RX7 19 "CodeHuntModel" "doubt" "I") (by decide +kernel)) rfl (by decide +kernel) rfl rfl (Nat.le_of_ble_eq_true rfl) (ch_cf_wI (j := 3) (v := x1) rfl) dX7_doubt_20 (fun H locs hw => ?_)
    refine lv_iload_n hx hb dX7_doubt_23 rfl (lv_at hl 0 rfl) ?_
    exact fin _ _ _ _ _ _ h hw dX7_doubt_24
  · refine lv_bipush (v := (-2 : Int32)) hx hb dX7_doubt_10 (by decide) ?_
    exact fin _ _ _ _ _ _ h hw dX7_doubt_12
set_option maxHeartbeats 4000000 in
set_option maxRecDepth 100000 in
theorem c_X7_doubt (l : Launch) (D : va_G) (I : ch_Id) (sh : Nat → Nat) (sz : Nat) (M : ch_Mem)  (x1 : Int32) {r : Int32} {M1 : ch_Mem} (h : D_X7_doubt x1 M = some (r, M1)) : Met l yX7_doubt wsX7_doubt rm_X7_doubt (va_Pc [.ref (sh 0), .int x1] (ch_Pre D I 13 (ch_FM I sh) sh sz M)) (va_Qi (fun r' (u : ch_Mem) => r' = r ∧ u = M1) (ch_Pos D 13 (ch_FM I sh) sh) (ch_A 13 sh sz)) 0 0 (ch_A 13 sh sz) := by
  refine Met.ofW (cc := cX7_doubt) (maxL := 3) (ret := (some .int)) (by decide) rfl ?_
  intro p e s m args below meth c s₁ B hml hv0
  obtain ⟨rfl, hv0⟩ := hv0
  obtain rfl : s.heap.size = sz := hv0.1
  have hw := ch_start hv0
  have S : CallFix p m c cX7_doubt 3 s _ wsX7_doubt RX7 := ⟨B.exec, B.bytes, hml, findClass_of_methodNamed B.named, atoms_spec (ws := wsX7_doubt) B.pre⟩
  have hl := lv_entry ([.ref (sh 0), .int x1]) (n := 3) (Nat.le_of_ble_eq_true rfl)
  rw [lg_entry_eq]
  generalize (lg_sl ([.ref (sh 0), .int x1]) ++ List.replicate (3 - (lg_sl ([.ref (sh 0), .int x1])).length) Slot.unset).toArray = ls at hl ⊢
  exact t_X7_doubt_0 S (ch_finI (B := fun _ => True) B.exec B.bytes B.returns B.notSynchronized) h hw (lv_sub hl [0, 1] rfl)
set_option maxHeartbeats 4000000 in
set_option maxRecDepth 100000 in
theorem t_X7_drop_0 {p : Program} {l : Launch} {e : Env} {s : State} {m : MethodId} {args : Array Value} {below : List Frame} {meth : Method} {c : Code} {Q : State → Prop} {D : va_G} {I : ch_Id} {sh : Nat → Nat} {A : Nat → Prop} {oo : Int32 × ch_Mem}     (S : CallFix p m c cX7_drop 3 s args wsX7_drop RX7) (fin : ch_FinI p l e rm_X7_drop s m args below meth c cX7_drop Q D I 13 (ch_FM I sh) sh A oo)  {x1 : Int32}  {M : ch_Mem} {H : Heap} {locs : List Loc} {ls : Array Slot} (h : D_X7_drop x1 M = some oo) (hw : ch_Wd D I 13 (ch_FM I sh) sh s A M H locs) (hl : lv_has ls 3 [(0, .ref (sh 0)), (1, .int x1)]) : W p l e rm_X7_drop s m args below meth c H locs 0 0 Q (F0 m 0 ls []) := by
  obtain ⟨hx, hb, hml, hown, hts⟩ := id S
  unfold D_X7_drop at h
  refine lv_iload_n hx hb dX7_drop_0 rfl (lv_at hl 1 rfl) ?_
  refine ch_bd_k h (fun r1 M2 hc h => ?_)
  refine ch_ci hw (va_runS (As := [.int x1]) (rest := []) S (c_X7_isRow l D I sh H.size M x1 hc) (va_cwS 1 hts gX7_drop_X7_isRow rfl rfl rfl (by decide +kernel) ⟨Nat.le_of_ble_eq_true rfl, Nat.le_of_ble_eq_true rfl⟩) (ch_pS hw) rfl rfl hl.1 rfl (lv_room (Nat.le_of_ble_eq_true rfl)) dX7_drop_1 ⟨Nat.le_refl 0, Nat.le_refl 0⟩) (fun H locs hw => ?_)
  refine ch_if_ne (tgt := 10) hx hb dX7_drop_4 (by decide) h (fun h => ?_) (fun h => ?_)
  · refine lv_aload_n hx hb dX7_drop_10 rfl (lv_at hl 0 rfl) ?_
    refine ch_get S hw 0 (by decide) rfl rfl (by decide +kernel) 0 (by decide) (hts (.fieldLink RX7 7 "CodeHuntModel" "sizesOf" "[I") (by decide +kernel)) rfl dX7_drop_11 ?_
    refine lv_iload_n hx hb dX7_drop_14 rfl (lv_at hl 1 rfl) ?_
    refine ch_gd_k h (fun hin h => ?_)
    refine ch_iald S hw 1 (by decide) rfl hin dX7_drop_15 ?_
    refine ch_if_ne (tgt := 22) hx hb dX7_drop_16 (by decide) h (fun h => ?_) (fun h => ?_)
    · refine lv_aload_n hx hb dX7_drop_22 rfl (lv_at hl 0 rfl) ?_
      refine ch_get S hw 0 (by decide) rfl rfl (by decide +kernel) 0 (by decide) (hts (.fieldLink RX7 7 "CodeHuntModel" "sizesOf" "[I") (by decide +kernel)) rfl dX7_drop_23 ?_
      refine lv_iload_n hx hb dX7_drop_26 rfl (lv_at hl 1 rfl) ?_
      refine ch_gd_k h (fun hin h => ?_)
      refine ch_iald S hw 1 (by decide) rfl hin dX7_drop_27 ?_
      refine lv_istore_n (lv' := [(2, .int (M2.1 1 x1.toNatClampNeg)), (0, .ref (sh 0)), (1, .int x1)]) hx hb dX7_drop_28 rfl hl (by decide) rfl (fun ls hl => ?_)
      refine lv_aload_n hx hb dX7_drop_29 rfl (lv_at hl 1 rfl) ?_
      refine ch_get S hw 0 (by decide) rfl rfl (by decide +kernel) 0 (by decide) (hts (.fieldLink RX7 7 "CodeHuntModel" "sizesOf" "[I") (by decide +kernel)) rfl dX7_drop_30 ?_
      refine lv_iload_n hx hb dX7_drop_33 rfl (lv_at hl 2 rfl) ?_
      refine lv_iconst (v := (0 : Int32)) hx hb dX7_drop_34 (by decide) ?_
      refine ch_gd_k h (fun hin h => ?_)
      refine ch_iast S hw 1 (by decide) (fun _ => rfl) hin dX7_drop_35 (fun H locs hw => ?_)
      refine lv_iload_n hx hb dX7_drop_36 rfl (lv_at hl 0 rfl) ?_
      exact fin _ _ _ _ _ _ h hw dX7_drop_37
    · refine lv_bipush (v := (-3 : Int32)) hx hb dX7_drop_19 (by decide) ?_
      exact fin _ _ _ _ _ _ h hw dX7_drop_21
  · refine lv_bipush (v := (-2 : Int32)) hx hb dX7_drop_7 (by decide) ?_
    exact fin _ _ _ _ _ _ h hw dX7_drop_9
set_option maxHeartbeats 4000000 in
set_option maxRecDepth 100000 in
theorem c_X7_drop (l : Launch) (D : va_G) (I : ch_Id) (sh : Nat → Nat) (sz : Nat) (M : ch_Mem)  (x1 : Int32) {r : Int32} {M1 : ch_Mem} (h : D_X7_drop x1 M = some (r, M1)) : Met l yX7_drop wsX7_drop rm_X7_drop (va_Pc [.ref (sh 0), .int x1] (ch_Pre D I 13 (ch_FM I sh) sh sz M)) (va_Qi (fun r' (u : ch_Mem) => r' = r ∧ u = M1) (ch_Pos D 13 (ch_FM I sh) sh) (ch_A 13 sh sz)) 0 0 (ch_A 13 sh sz) := by
  refine Met.ofW (cc := cX7_drop) (maxL := 3) (ret := (some .int)) (by decide) rfl ?_
  intro p e s m args below meth c s₁ B hml hv0
  obtain ⟨rfl, hv0⟩ := hv0
  obtain rfl : s.heap.size = sz := hv0.1
  have hw := ch_start hv0
  have S : CallFix p m c cX7_drop 3 s _ wsX7_drop RX7 := ⟨B.exec, B.bytes, hml, findClass_of_methodNamed B.named, atoms_spec (ws := wsX7_drop) B.pre⟩
  have hl := lv_entry ([.ref (sh 0), .int x1]) (n := 3) (Nat.le_of_ble_eq_true rfl)
  rw [lg_entry_eq]
  generalize (lg_sl ([.ref (sh 0), .int x1]) ++ List.replicate (3 - (lg_sl ([.ref (sh 0), .int x1])).length) Slot.unset).toArray = ls at hl ⊢
  exact t_X7_drop_0 S (ch_finI (B := fun _ => True) B.exec B.bytes B.returns B.notSynchronized) h hw (lv_sub hl [0, 1] rfl)
set_option maxHeartbeats 4000000 in
set_option maxRecDepth 100000 in
theorem t_X7_heardOf_147 {p : Program} {l : Launch} {e : Env} {s : State} {m : MethodId} {args : Array Value} {below : List Frame} {meth : Method} {c : Code} {Q : State → Prop} {D : va_G} {I : ch_Id} {sh : Nat → Nat} {A : Nat → Prop} {oo : Int32 × ch_Mem}    {k6 : Int32 → Int32 → Int32 → Int32 → Int32 → Int32 → Int32 → ch_Mem → Option (Int32 × ch_Mem)} (S : CallFix p m c cX7_heardOf 13 s args wsX7_heardOf RX7) (fin : ch_FinI p l e rm_X7_heardOf s m args below meth c cX7_heardOf Q D I 13 (ch_FM I sh) sh A oo) (hk6 : ∀ (x1 : Int32) (x2 : Int32) (x3 : Int32) (x4 : Int32) (x5 : Int32) (x6 : Int32) (x7 : Int32) (M : ch_Mem) (H : Heap) (locs : List Loc) (ls : Array Slot), k6 x1 x2 x3 x4 x5 x6 x7 M = some oo → ch_Wd D I 13 (ch_FM I sh) sh s A M H locs → lv_has ls 13 [(0, .ref (sh 0)), (1, .int x1), (2, .int x2), (3, .int x3), (4, .int x4), (5, .int x5), (6, .int x6), (7, .int x7)] → W p l e rm_X7_heardOf s m args below meth c H locs 0 0 Q (F0 m 6 ls [])) {x1 : Int32} {x2 : Int32} {x3 : Int32} {x4 : Int32} {x5 : Int32} {x7 : Int32} {y0 : Int32} {y1 : Int32} {y2 : Int32}  {M : ch_Mem} {H : Heap} {locs : List Loc} {ls : Array Slot} (h : D_X7_heardOf_b147 k6 x1 x2 x3 x4 x5 x7 y0 y1 y2 M = some oo) (hw : ch_Wd D I 13 (ch_FM I sh) sh s A M H locs) (hl : lv_has ls 13 [(0, .ref (sh 0)), (1, .int x1), (2, .int x2), (3, .int x3), (4, .int x4), (5, .int x5), (7, .int x7)]) : W p l e rm_X7_heardOf s m args below meth c H locs 0 0 Q (F0 m 147 ls [.int y0, .int y1, .int y2]) := by
  obtain ⟨hx, hb, hml, hown, hts⟩ := id S
  unfold D_X7_heardOf_b147 at h
  refine lv_imul hx hb dX7_heardOf_147 ?_
  refine lv_iadd hx hb dX7_heardOf_148 ?_
  refine lv_istore (lv' := [(6, .int (y2 + (y1 * y0))), (0, .ref (sh 0)), (1, .int x1), (2, .int x2), (3, .int x3), (4, .int x4), (5, .int x5), (7, .int x7)]) hx hb dX7_heardOf_149 hl (by decide) rfl (fun ls hl => ?_)
  refine lv_iinc (v := x7 + (1 : Int32)) (lv' := [(7, .int (x7 + (1 : Int32))), (6, .int (y2 + (y1 * y0))), (0, .ref (sh 0)), (1, .int x1), (2, .int x2), (3, .int x3), (4, .int x4), (5, .int x5)]) hx hb dX7_heardOf_151 hl (k := 7) rfl rfl (by decide) rfl (fun ls hl => ?_)
  refine lv_goto (tgt := 6) hx hb dX7_heardOf_154 (by decide) ?_
  exact hk6 _ _ _ _ _ _ _ _ _ _ _  h hw (lv_sub hl [2, 3, 4, 5, 6, 7, 1, 0] rfl)
set_option maxHeartbeats 4000000 in
set_option maxRecDepth 100000 in
theorem t_X7_heardOf_122 {p : Program} {l : Launch} {e : Env} {s : State} {m : MethodId} {args : Array Value} {below : List Frame} {meth : Method} {c : Code} {Q : State → Prop} {D : va_G} {I : ch_Id} {sh : Nat → Nat} {A : Nat → Prop} {oo : Int32 × ch_Mem}    {k6 : Int32 → Int32 → Int32 → Int32 → Int32 → Int32 → Int32 → ch_Mem → Option (Int32 × ch_Mem)} (S : CallFix p m c cX7_heardOf 13 s args wsX7_heardOf RX7) (fin : ch_FinI p l e rm_X7_heardOf s m args below meth c cX7_heardOf Q D I 13 (ch_FM I sh) sh A oo) (hk6 : ∀ (x1 : Int32) (x2 : Int32) (x3 : Int32) (x4 : Int32) (x5 : Int32) (x6 : Int32) (x7 : Int32) (M : ch_Mem) (H : Heap) (locs : List Loc) (ls : Array Slot), k6 x1 x2 x3 x4 x5 x6 x7 M = some oo → ch_Wd D I 13 (ch_FM I sh) sh s A M H locs → lv_has ls 13 [(0, .ref (sh 0)), (1, .int x1), (2, .int x2), (3, .int x3), (4, .int x4), (5, .int x5), (6, .int x6), (7, .int x7)] → W p l e rm_X7_heardOf s m args below meth c H locs 0 0 Q (F0 m 6 ls [])) {x1 : Int32} {x2 : Int32} {x3 : Int32} {x4 : Int32} {x5 : Int32} {x6 : Int32} {x7 : Int32} {x11 : Int32} {y0 : Int32}  {M : ch_Mem} {H : Heap} {locs : List Loc} {ls : Array Slot} (h : D_X7_heardOf_b122 k6 x1 x2 x3 x4 x5 x6 x7 x11 y0 M = some oo) (hw : ch_Wd D I 13 (ch_FM I sh) sh s A M H locs) (hl : lv_has ls 13 [(0, .ref (sh 0)), (1, .int x1), (2, .int x2), (3, .int x3), (4, .int x4), (5, .int x5), (6, .int x6), (7, .int x7), (11, .int x11)]) : W p l e rm_X7_heardOf s m args below meth c H locs 0 0 Q (F0 m 122 ls [.int y0]) := by
  obtain ⟨hx, hb, hml, hown, hts⟩ := id S
  unfold D_X7_heardOf_b122 at h
  refine lv_istore (lv' := [(12, .int y0), (0, .ref (sh 0)), (1, .int x1), (2, .int x2), (3, .int x3), (4, .int x4), (5, .int x5), (6, .int x6), (7, .int x7), (11, .int x11)]) hx hb dX7_heardOf_122 hl (by decide) rfl (fun ls hl => ?_)
  refine lv_iload hx hb dX7_heardOf_124 (lv_at hl 7 rfl) ?_
  refine lv_aload_n hx hb dX7_heardOf_126 rfl (lv_at hl 1 rfl) ?_
  refine lv_iload_n hx hb dX7_heardOf_127 rfl (lv_at hl 2 rfl) ?_
  refine lv_iload hx hb dX7_heardOf_128 (lv_at hl 8 rfl) ?_
  refine lv_iload_n hx hb dX7_heardOf_130 rfl (lv_at hl 4 rfl) ?_
  refine lv_iadd hx hb dX7_heardOf_131 ?_
  refine ch_bd_k h (fun r1 M2 hc h => ?_)
  refine ch_ci hw (va_runV (As := [.int x1, .int (x7 + x3)]) (rest := [.int x6]) S (c_X7_signOf l D I sh H.size M x1 (x7 + x3) hc) (cwV 2 hts gX7_heardOf_X7_signOf rfl rfl rfl (by decide +kernel) ⟨Nat.le_of_ble_eq_true rfl, Nat.le_of_ble_eq_true rfl⟩) (ch_pV hw (by decide) rfl rfl rfl) rfl rfl hl.1 rfl (lv_room (Nat.le_of_ble_eq_true rfl)) dX7_heardOf_132 ⟨Nat.le_refl 0, Nat.le_refl 0⟩) (fun H locs hw => ?_)
  refine lv_iload hx hb dX7_heardOf_135 (lv_at hl 6 rfl) ?_
  refine ch_if_ne (tgt := 145) hx hb dX7_heardOf_137 (by decide) h (fun h => ?_) (fun h => ?_)
  · refine lv_iload hx hb dX7_heardOf_145 (lv_at hl 0 rfl) ?_
    exact t_X7_heardOf_147 S fin hk6 h hw (lv_sub hl [1, 2, 3, 4, 5, 6, 8] rfl)
  · refine lv_iload hx hb dX7_heardOf_140 (lv_at hl 9 rfl) ?_
    refine lv_goto (tgt := 147) hx hb dX7_heardOf_142 (by decide) ?_
    exact t_X7_heardOf_147 S fin hk6 h hw (lv_sub hl [1, 2, 3, 4, 5, 6, 8] rfl)
set_option maxHeartbeats 4000000 in
set_option maxRecDepth 100000 in
theorem t_X7_heardOf_84 {p : Program} {l : Launch} {e : Env} {s : State} {m : MethodId} {args : Array Value} {below : List Frame} {meth : Method} {c : Code} {Q : State → Prop} {D : va_G} {I : ch_Id} {sh : Nat → Nat} {A : Nat → Prop} {oo : Int32 × ch_Mem}    {k6 : Int32 → Int32 → Int32 → Int32 → Int32 → Int32 → Int32 → ch_Mem → Option (Int32 × ch_Mem)} (S : CallFix p m c cX7_heardOf 13 s args wsX7_heardOf RX7) (fin : ch_FinI p l e rm_X7_heardOf s m args below meth c cX7_heardOf Q D I 13 (ch_FM I sh) sh A oo) (hk6 : ∀ (x1 : Int32) (x2 : Int32) (x3 : Int32) (x4 : Int32) (x5 : Int32) (x6 : Int32) (x7 : Int32) (M : ch_Mem) (H : Heap) (locs : List Loc) (ls : Array Slot), k6 x1 x2 x3 x4 x5 x6 x7 M = some oo → ch_Wd D I 13 (ch_FM I sh) sh s A M H locs → lv_has ls 13 [(0, .ref (sh 0)), (1, .int x1), (2, .int x2), (3, .int x3), (4, .int x4), (5, .int x5), (6, .int x6), (7, .int x7)] → W p l e rm_X7_heardOf s m args below meth c H locs 0 0 Q (F0 m 6 ls [])) {x1 : Int32} {x2 : Int32} {x3 : Int32} {x4 : Int32} {x5 : Int32} {x6 : Int32} {x7 : Int32} {x8 : Int32} {x9 : Int32} {x10 : Int32} {y0 : Int32}  {M : ch_Mem} {H : Heap} {locs : List Loc} {ls : Array Slot} (h : D_X7_heardOf_b84 k6 x1 x2 x3 x4 x5 x6 x7 x8 x9 x10 y0 M = some oo) (hw : ch_Wd D I 13 (ch_FM I sh) sh s A M H locs) (hl : lv_has ls 13 [(0, .ref (sh 0)), (1, .int x1), (2, .int x2), (3, .int x3), (4, .int x4), (5, .int x5), (6, .int x6), (7, .int x7), (8, .int x8), (9, .int x9), (10, .int x10)]) : W p l e rm_X7_heardOf s m args below meth c H locs 0 0 Q (F0 m 84 ls [.int y0]) := by
  obtain ⟨hx, hb, hml, hown, hts⟩ := id S
  unfold D_X7_heardOf_b84 at h
  refine lv_istore (lv' := [(11, .int y0), (0, .ref (sh 0)), (1, .int x1), (2, .int x2), (3, .int x3), (4, .int x4), (5, .int x5), (6, .int x6), (7, .int x7), (8, .int x8), (9, .int x9), (10, .int x10)]) hx hb dX7_heardOf_84 hl (by decide) rfl (fun ls hl => ?_)
  refine lv_iload hx hb dX7_heardOf_86 (lv_at hl 11 rfl) ?_
  refine ch_if_ne (tgt := 96) hx hb dX7_heardOf_88 (by decide) h (fun h => ?_) (fun h => ?_)
  · refine lv_iload hx hb dX7_heardOf_96 (lv_at hl 11 rfl) ?_
    refine lv_iconst (v := (1 : Int32)) hx hb dX7_heardOf_98 (by decide) ?_
    refine ch_icmp_ne (tgt := 108) hx hb dX7_heardOf_99 (by decide) h (fun h => ?_) (fun h => ?_)
    · refine lv_iload hx hb dX7_heardOf_108 (lv_at hl 11 rfl) ?_
      refine lv_iconst (v := (2 : Int32)) hx hb dX7_heardOf_110 (by decide) ?_
      refine ch_icmp_ne (tgt := 120) hx hb dX7_heardOf_111 (by decide) h (fun h => ?_) (fun h => ?_)
      · refine lv_iload hx hb dX7_heardOf_120 (lv_at hl 9 rfl) ?_
        exact t_X7_heardOf_122 S fin hk6 h hw (lv_sub hl [1, 2, 3, 4, 5, 6, 7, 8, 0] rfl)
      · refine lv_iload hx hb dX7_heardOf_114 (lv_at hl 10 rfl) ?_
        refine lv_ineg hx hb dX7_heardOf_116 ?_
        refine lv_goto (tgt := 122) hx hb dX7_heardOf_117 (by decide) ?_
        exact t_X7_heardOf_122 S fin hk6 h hw (lv_sub hl [1, 2, 3, 4, 5, 6, 7, 8, 0] rfl)
    · refine lv_iload hx hb dX7_heardOf_102 (lv_at hl 9 rfl) ?_
      refine lv_ineg hx hb dX7_heardOf_104 ?_
      refine lv_goto (tgt := 122) hx hb dX7_heardOf_105 (by decide) ?_
      exact t_X7_heardOf_122 S fin hk6 h hw (lv_sub hl [1, 2, 3, 4, 5, 6, 7, 8, 0] rfl)
  · refine lv_iload hx hb dX7_heardOf_91 (lv_at hl 10 rfl) ?_
    refine lv_goto (tgt := 122) hx hb dX7_heardOf_93 (by decide) ?_
    exact t_X7_heardOf_122 S fin hk6 h hw (lv_sub hl [1, 2, 3, 4, 5, 6, 7, 8, 0] rfl)
set_option maxHeartbeats 4000000 in
set_option maxRecDepth 100000 in
theorem t_X7_heardOf_157 {p : Program} {l : Launch} {e : Env} {s : State} {m : MethodId} {args : Array Value} {below : List Frame} {meth : Method} {c : Code} {Q : State → Prop} {D : va_G} {I : ch_Id} {sh : Nat → Nat} {A : Nat → Prop} {oo : Int32 × ch_Mem}     (S : CallFix p m c cX7_heardOf 13 s args wsX7_heardOf RX7) (fin : ch_FinI p l e rm_X7_heardOf s m args below meth c cX7_heardOf Q D I 13 (ch_FM I sh) sh A oo)  {x6 : Int32}  {M : ch_Mem} {H : Heap} {locs : List Loc} {ls : Array Slot} (h : D_X7_heardOf_b157 x6 M = some oo) (hw : ch_Wd D I 13 (ch_FM I sh) sh s A M H locs) (hl : lv_has ls 13 [(6, .int x6)]) : W p l e rm_X7_heardOf s m args below meth c H locs 0 0 Q (F0 m 157 ls []) := by
  obtain ⟨hx, hb, hml, hown, hts⟩ := id S
  unfold D_X7_heardOf_b157 at h
  refine lv_iload hx hb dX7_heardOf_157 (lv_at hl 0 rfl) ?_
  exact fin _ _ _ _ _ _ h hw dX7_heardOf_159
set_option maxHeartbeats 4000000 in
set_option maxRecDepth 100000 in
theorem t_X7_heardOf_6 {p : Program} {l : Launch} {e : Env} {s : State} {m : MethodId} {args : Array Value} {below : List Frame} {meth : Method} {c : Code} {Q : State → Prop} {D : va_G} {I : ch_Id} {sh : Nat → Nat} {A : Nat → Prop} {oo : Int32 × ch_Mem}    {k6 : Int32 → Int32 → Int32 → Int32 → Int32 → Int32 → Int32 → ch_Mem → Option (Int32 × ch_Mem)} (S : CallFix p m c cX7_heardOf 13 s args wsX7_heardOf RX7) (fin : ch_FinI p l e rm_X7_heardOf s m args below meth c cX7_heardOf Q D I 13 (ch_FM I sh) sh A oo) (hk6 : ∀ (x1 : Int32) (x2 : Int32) (x3 : Int32) (x4 : Int32) (x5 : Int32) (x6 : Int32) (x7 : Int32) (M : ch_Mem) (H : Heap) (locs : List Loc) (ls : Array Slot), k6 x1 x2 x3 x4 x5 x6 x7 M = some oo → ch_Wd D I 13 (ch_FM I sh) sh s A M H locs → lv_has ls 13 [(0, .ref (sh 0)), (1, .int x1), (2, .int x2), (3, .int x3), (4, .int x4), (5, .int x5), (6, .int x6), (7, .int x7)] → W p l e rm_X7_heardOf s m args below meth c H locs 0 0 Q (F0 m 6 ls [])) {x1 : Int32} {x2 : Int32} {x3 : Int32} {x4 : Int32} {x5 : Int32} {x6 : Int32} {x7 : Int32}  {M : ch_Mem} {H : Heap} {locs : List Loc} {ls : Array Slot} (h : D_X7_heardOf_b6 k6 x1 x2 x3 x4 x5 x6 x7 M = some oo) (hw : ch_Wd D I 13 (ch_FM I sh) sh s A M H locs) (hl : lv_has ls 13 [(0, .ref (sh 0)), (1, .int x1), (2, .int x2), (3, .int x3), (4, .int x4), (5, .int x5), (6, .int x6), (7, .int x7)]) : W p l e rm_X7_heardOf s m args below meth c H locs 0 0 Q (F0 m 6 ls []) := by
  obtain ⟨hx, hb, hml, hown, hts⟩ := id S
  unfold D_X7_heardOf_b6 at h
  refine lv_iload hx hb dX7_heardOf_6 (lv_at hl 7 rfl) ?_
  refine lv_aload_n hx hb dX7_heardOf_8 rfl (lv_at hl 0 rfl) ?_
  refine ch_get S hw 0 (by decide) rfl rfl (by decide +kernel) 0 (by decide) (hts (.fieldLink RX7 7 "CodeHuntModel" "sizesOf" "[I") (by decide +kernel)) rfl dX7_heardOf_9 ?_
  refine lv_iload_n hx hb dX7_heardOf_12 rfl (lv_at hl 1 rfl) ?_
  refine ch_gd_k h (fun hin h => ?_)
  refine ch_iald S hw 1 (by decide) rfl hin dX7_heardOf_13 ?_
  refine ch_icmp_ge (tgt := 157) hx hb dX7_heardOf_14 (by decide) h (fun h => ?_) (fun h => ?_)
  · exact t_X7_heardOf_157 S fin h hw (lv_sub hl [6] rfl)
  · refine lv_aload_n hx hb dX7_heardOf_17 rfl (lv_at hl 0 rfl) ?_
    refine lv_iconst (v := (0 : Int32)) hx hb dX7_heardOf_18 (by decide) ?_
    refine lv_iload_n hx hb dX7_heardOf_19 rfl (lv_at hl 2 rfl) ?_
    refine lv_iload hx hb dX7_heardOf_20 (lv_at hl 7 rfl) ?_
    refine lv_iadd hx hb dX7_heardOf_22 ?_
    refine ch_bd_k h (fun r1 M2 hc h => ?_)
    refine ch_ci hw (va_runV (As := [.int (0 : Int32), .int (x2 + x7)]) (rest := []) S (c_X7_sample l D I sh H.size M (0 : Int32) (x2 + x7) hc) (cwV 2 hts gX7_heardOf_X7_sample rfl rfl rfl (by decide +kernel) ⟨Nat.le_of_ble_eq_true rfl, Nat.le_of_ble_eq_true rfl⟩) (ch_pV hw (by decide) rfl rfl rfl) rfl rfl hl.1 rfl (lv_room (Nat.le_of_ble_eq_true rfl)) dX7_heardOf_23 ⟨Nat.le_refl 0, Nat.le_refl 0⟩) (fun H locs hw => ?_)
    refine lv_istore (lv' := [(8, .int r1), (0, .ref (sh 0)), (1, .int x1), (2, .int x2), (3, .int x3), (4, .int x4), (5, .int x5), (6, .int x6), (7, .int x7)]) hx hb dX7_heardOf_26 hl (by decide) rfl (fun ls hl => ?_)
    refine lv_aload_n hx hb dX7_heardOf_28 rfl (lv_at hl 1 rfl) ?_
    refine lv_iconst (v := (1 : Int32)) hx hb dX7_heardOf_29 (by decide) ?_
    refine lv_iload_n hx hb dX7_heardOf_30 rfl (lv_at hl 3 rfl) ?_
    refine lv_iload hx hb dX7_heardOf_31 (lv_at hl 8 rfl) ?_
    refine lv_iadd hx hb dX7_heardOf_33 ?_
    refine ch_bd_k h (fun r3 M4 hc h => ?_)
    refine ch_ci hw (va_runV (As := [.int (1 : Int32), .int (x2 + x7)]) (rest := []) S (c_X7_sample l D I sh H.size M2 (1 : Int32) (x2 + x7) hc) (cwV 2 hts gX7_heardOf_X7_sample rfl rfl rfl (by decide +kernel) ⟨Nat.le_of_ble_eq_true rfl, Nat.le_of_ble_eq_true rfl⟩) (ch_pV hw (by decide) rfl rfl rfl) rfl rfl hl.1 rfl (lv_room (Nat.le_of_ble_eq_true rfl)) dX7_heardOf_34 ⟨Nat.le_refl 0, Nat.le_refl 0⟩) (fun H locs hw => ?_)
    refine lv_istore (lv' := [(9, .int r3), (8, .int r1), (0, .ref (sh 0)), (1, .int x1), (2, .int x2), (3, .int x3), (4, .int x4), (5, .int x5), (6, .int x6), (7, .int x7)]) hx hb dX7_heardOf_37 hl (by decide) rfl (fun ls hl => ?_)
    refine lv_iload hx hb dX7_heardOf_39 (lv_at hl 6 rfl) ?_
    refine lv_iload hx hb dX7_heardOf_41 (lv_at hl 9 rfl) ?_
    refine lv_imul hx hb dX7_heardOf_43 ?_
    refine lv_iconst (v := (4 : Int32)) hx hb dX7_heardOf_44 (by decide) ?_
    refine lv_irem hx hb dX7_heardOf_45 (by decide) ?_
    refine ch_topi h (fun u5 h => ?_)
    refine lv_istore (lv' := [(10, .int u5), (9, .int r3), (8, .int r1), (0, .ref (sh 0)), (1, .int x1), (2, .int x2), (3, .int x3), (4, .int x4), (5, .int x5), (6, .int x6), (7, .int x7)]) hx hb dX7_heardOf_46 hl (by decide) rfl (fun ls hl => ?_)
    refine lv_iload hx hb dX7_heardOf_48 (lv_at hl 0 rfl) ?_
    refine ch_if_ne (tgt := 58) hx hb dX7_heardOf_50 (by decide) h (fun h => ?_) (fun h => ?_)
    · refine lv_iload hx hb dX7_heardOf_58 (lv_at hl 0 rfl) ?_
      refine lv_iconst (v := (1 : Int32)) hx hb dX7_heardOf_60 (by decide) ?_
      refine ch_icmp_ne (tgt := 69) hx hb dX7_heardOf_61 (by decide) h (fun h => ?_) (fun h => ?_)
      · refine lv_iload hx hb dX7_heardOf_69 (lv_at hl 0 rfl) ?_
        refine lv_iconst (v := (2 : Int32)) hx hb dX7_heardOf_71 (by decide) ?_
        refine ch_icmp_ne (tgt := 81) hx hb dX7_heardOf_72 (by decide) h (fun h => ?_) (fun h => ?_)
        · refine lv_iload hx hb dX7_heardOf_81 (lv_at hl 1 rfl) ?_
          refine lv_ineg hx hb dX7_heardOf_83 ?_
          exact t_X7_heardOf_84 S fin hk6 h hw (lv_sub hl [3, 4, 5, 6, 7, 8, 9, 10, 2, 1, 0] rfl)
        · refine lv_iload hx hb dX7_heardOf_75 (lv_at hl 2 rfl) ?_
          refine lv_ineg hx hb dX7_heardOf_77 ?_
          refine lv_goto (tgt := 84) hx hb dX7_heardOf_78 (by decide) ?_
          exact t_X7_heardOf_84 S fin hk6 h hw (lv_sub hl [3, 4, 5, 6, 7, 8, 9, 10, 2, 1, 0] rfl)
      · refine lv_iload hx hb dX7_heardOf_64 (lv_at hl 1 rfl) ?_
        refine lv_goto (tgt := 84) hx hb dX7_heardOf_66 (by decide) ?_
        exact t_X7_heardOf_84 S fin hk6 h hw (lv_sub hl [3, 4, 5, 6, 7, 8, 9, 10, 2, 1, 0] rfl)
    · refine lv_iload hx hb dX7_heardOf_53 (lv_at hl 2 rfl) ?_
      refine lv_goto (tgt := 84) hx hb dX7_heardOf_55 (by decide) ?_
      exact t_X7_heardOf_84 S fin hk6 h hw (lv_sub hl [3, 4, 5, 6, 7, 8, 9, 10, 2, 1, 0] rfl)
set_option maxHeartbeats 4000000 in
set_option maxRecDepth 100000 in
theorem tl_X7_heardOf_6 {p : Program} {l : Launch} {e : Env} {s : State} {m : MethodId} {args : Array Value} {below : List Frame} {meth : Method} {c : Code} {Q : State → Prop} {D : va_G} {I : ch_Id} {sh : Nat → Nat} {A : Nat → Prop} {oo : Int32 × ch_Mem}     (S : CallFix p m c cX7_heardOf 13 s args wsX7_heardOf RX7) (fin : ch_FinI p l e rm_X7_heardOf s m args below meth c cX7_heardOf Q D I 13 (ch_FM I sh) sh A oo)  (n : Nat) : ∀ (x1 : Int32) (x2 : Int32) (x3 : Int32) (x4 : Int32) (x5 : Int32) (x6 : Int32) (x7 : Int32) (M : ch_Mem) (H : Heap) (locs : List Loc) (ls : Array Slot), D_X7_heardOf_L6  n x1 x2 x3 x4 x5 x6 x7 M = some oo → ch_Wd D I 13 (ch_FM I sh) sh s A M H locs → lv_has ls 13 [(0, .ref (sh 0)), (1, .int x1), (2, .int x2), (3, .int x3), (4, .int x4), (5, .int x5), (6, .int x6), (7, .int x7)] → W p l e rm_X7_heardOf s m args below meth c H locs 0 0 Q (F0 m 6 ls []) := by
  induction n with
  | zero => intro x1 x2 x3 x4 x5 x6 x7 M H locs ls  h; cases h
  | succ n ih =>
    intro x1 x2 x3 x4 x5 x6 x7 M H locs ls  h hw hl
    exact t_X7_heardOf_6 S fin ih h hw hl
set_option maxHeartbeats 4000000 in
set_option maxRecDepth 100000 in
theorem t_X7_heardOf_0 {p : Program} {l : Launch} {e : Env} {s : State} {m : MethodId} {args : Array Value} {below : List Frame} {meth : Method} {c : Code} {Q : State → Prop} {D : va_G} {I : ch_Id} {sh : Nat → Nat} {A : Nat → Prop} {oo : Int32 × ch_Mem}     (S : CallFix p m c cX7_heardOf 13 s args wsX7_heardOf RX7) (fin : ch_FinI p l e rm_X7_heardOf s m args below meth c cX7_heardOf Q D I 13 (ch_FM I sh) sh A oo)  {x1 : Int32} {x2 : Int32} {x3 : Int32} {x4 : Int32} {x5 : Int32}  {M : ch_Mem} {H : Heap} {locs : List Loc} {ls : Array Slot} (h : D_X7_heardOf x1 x2 x3 x4 x5 M = some oo) (hw : ch_Wd D I 13 (ch_FM I sh) sh s A M H locs) (hl : lv_has ls 13 [(0, .ref (sh 0)), (1, .int x1), (2, .int x2), (3, .int x3), (4, .int x4), (5, .int x5)]) : W p l e rm_X7_heardOf s m args below meth c H locs 0 0 Q (F0 m 0 ls []) := by
  obtain ⟨hx, hb, hml, hown, hts⟩ := id S
  unfold D_X7_heardOf at h
  refine lv_iconst (v := (0 : Int32)) hx hb dX7_heardOf_0 (by decide) ?_
  refine lv_istore (lv' := [(6, .int (0 : Int32)), (0, .ref (sh 0)), (1, .int x1), (2, .int x2), (3, .int x3), (4, .int x4), (5, .int x5)]) hx hb dX7_heardOf_1 hl (by decide) rfl (fun ls hl => ?_)
  refine lv_iconst (v := (0 : Int32)) hx hb dX7_heardOf_3 (by decide) ?_
  refine lv_istore (lv' := [(7, .int (0 : Int32)), (6, .int (0 : Int32)), (0, .ref (sh 0)), (1, .int x1), (2, .int x2), (3, .int x3), (4, .int x4), (5, .int x5)]) hx hb dX7_heardOf_4 hl (by decide) rfl (fun ls hl => ?_)
  exact tl_X7_heardOf_6 S fin ch_fu _ _ _ _ _ _ _ _ _ _ _ h hw (lv_sub hl [2, 3, 4, 5, 6, 7, 1, 0] rfl)
set_option maxHeartbeats 4000000 in
set_option maxRecDepth 100000 in
theorem c_X7_heardOf (l : Launch) (D : va_G) (I : ch_Id) (sh : Nat → Nat) (sz : Nat) (M : ch_Mem)  (x1 : Int32) (x2 : Int32) (x3 : Int32) (x4 : Int32) (x5 : Int32) {r : Int32} {M1 : ch_Mem} (h : D_X7_heardOf x1 x2 x3 x4 x5 M = some (r, M1)) : Met l yX7_heardOf wsX7_heardOf rm_X7_heardOf (va_Pc [.ref (sh 0), .int x1, .int x2, .int x3, .int x4, .int x5] (ch_Pre D I 13 (ch_FM I sh) sh sz M)) (va_Qi (fun r' (u : ch_Mem) => r' = r ∧ u = M1) (ch_Pos D 13 (ch_FM I sh) sh) (ch_A 13 sh sz)) 0 0 (ch_A 13 sh sz) := by
  refine Met.ofW (cc := cX7_heardOf) (maxL := 13) (ret := (some .int)) (by decide) rfl ?_
  intro p e s m args below meth c s₁ B hml hv0
  obtain ⟨rfl, hv0⟩ := hv0
  obtain rfl : s.heap.size = sz := hv0.1
  have hw := ch_start hv0
  have S : CallFix p m c cX7_heardOf 13 s _ wsX7_heardOf RX7 := ⟨B.exec, B.bytes, hml, findClass_of_methodNamed B.named, atoms_spec (ws := wsX7_heardOf) B.pre⟩
  have hl := lv_entry ([.ref (sh 0), .int x1, .int x2, .int x3, .int x4, .int x5]) (n := 13) (Nat.le_of_ble_eq_true rfl)
  rw [lg_entry_eq]
  generalize (lg_sl ([.ref (sh 0), .int x1, .int x2, .int x3, .int x4, .int x5]) ++ List.replicate (13 - (lg_sl ([.ref (sh 0), .int x1, .int x2, .int x3, .int x4, .int x5])).length) Slot.unset).toArray = ls at hl ⊢
  exact t_X7_heardOf_0 S (ch_finI (B := fun _ => True) B.exec B.bytes B.returns B.notSynchronized) h hw (lv_sub hl [0, 1, 2, 3, 4, 5] rfl)
set_option maxHeartbeats 4000000 in
set_option maxRecDepth 100000 in
theorem t_X7_finds_133 {p : Program} {l : Launch} {e : Env} {s : State} {m : MethodId} {args : Array Value} {below : List Frame} {meth : Method} {c : Code} {Q : State → Prop} {D : va_G} {I : ch_Id} {sh : Nat → Nat} {A : Nat → Prop} {oo : Int32 × ch_Mem}    {k19 : Int32 → Int32 → Int32 → Int32 → ch_Mem → Option (Int32 × ch_Mem)} {k28 : Int32 → Int32 → Int32 → Int32 → Int32 → ch_Mem → Option (Int32 × ch_Mem)} (S : CallFix p m c cX7_finds 12 s args wsX7_finds RX7) (fin : ch_FinI p l e rm_X7_finds s m args below meth c cX7_finds Q D I 13 (ch_FM I sh) sh A oo) (hk19 : ∀ (x1 : Int32) (x2 : Int32) (x3 : Int32) (x4 : Int32) (M : ch_Mem) (H : Heap) (locs : List Loc) (ls : Array Slot), k19 x1 x2 x3 x4 M = some oo → ch_Wd D I 13 (ch_FM I sh) sh s A M H locs → lv_has ls 12 [(0, .ref (sh 0)), (1, .int x1), (2, .int x2), (3, .int x3), (4, .int x4)] → W p l e rm_X7_finds s m args below meth c H locs 0 0 Q (F0 m 19 ls [])) (hk28 : ∀ (x1 : Int32) (x2 : Int32) (x3 : Int32) (x4 : Int32) (x5 : Int32) (M : ch_Mem) (H : Heap) (locs : List Loc) (ls : Array Slot), k28 x1 x2 x3 x4 x5 M = some oo → ch_Wd D I 13 (ch_FM I sh) sh s A M H locs → lv_has ls 12 [(0, .ref (sh 0)), (1, .int x1), (2, .int x2), (3, .int x3), (4, .int x4), (5, .int x5)] → W p l e rm_X7_finds s m args below meth c H locs 0 0 Q (F0 m 28 ls [])) {x1 : Int32} {x2 : Int32} {x3 : Int32} {x4 : Int32} {x5 : Int32}  {M : ch_Mem} {H : Heap} {locs : List Loc} {ls : Array Slot} (h : D_X7_finds_b133 k19 k28 x1 x2 x3 x4 x5 M = some oo) (hw : ch_Wd D I 13 (ch_FM I sh) sh s A M H locs) (hl : lv_has ls 12 [(0, .ref (sh 0)), (1, .int x1), (2, .int x2), (3, .int x3), (4, .int x4), (5, .int x5)]) : W p l e rm_X7_finds s m args below meth c H locs 0 0 Q (F0 m 133 ls []) := by
  obtain ⟨hx, hb, hml, hown, hts⟩ := id S
  unfold D_X7_finds_b133 at h
  refine lv_iinc (v := x5 + (1 : Int32)) (lv' := [(5, .int (x5 + (1 : Int32))), (0, .ref (sh 0)), (1, .int x1), (2, .int x2), (3, .int x3), (4, .int x4)]) hx hb dX7_finds_133 hl (k := 5) rfl rfl (by decide) rfl (fun ls hl => ?_)
  refine lv_goto (tgt := 28) hx hb dX7_finds_136 (by decide) ?_
  exact hk28 _ _ _ _ _ _ _ _ _  h hw (lv_sub hl [1, 2, 3, 4, 5, 0] rfl)
set_option maxHeartbeats 4000000 in
set_option maxRecDepth 100000 in
theorem t_X7_finds_139 {p : Program} {l : Launch} {e : Env} {s : State} {m : MethodId} {args : Array Value} {below : List Frame} {meth : Method} {c : Code} {Q : State → Prop} {D : va_G} {I : ch_Id} {sh : Nat → Nat} {A : Nat → Prop} {oo : Int32 × ch_Mem}    {k19 : Int32 → Int32 → Int32 → Int32 → ch_Mem → Option (Int32 × ch_Mem)} (S : CallFix p m c cX7_finds 12 s args wsX7_finds RX7) (fin : ch_FinI p l e rm_X7_finds s m args below meth c cX7_finds Q D I 13 (ch_FM I sh) sh A oo) (hk19 : ∀ (x1 : Int32) (x2 : Int32) (x3 : Int32) (x4 : Int32) (M : ch_Mem) (H : Heap) (locs : List Loc) (ls : Array Slot), k19 x1 x2 x3 x4 M = some oo → ch_Wd D I 13 (ch_FM I sh) sh s A M H locs → lv_has ls 12 [(0, .ref (sh 0)), (1, .int x1), (2, .int x2), (3, .int x3), (4, .int x4)] → W p l e rm_X7_finds s m args below meth c H locs 0 0 Q (F0 m 19 ls [])) {x1 : Int32} {x2 : Int32} {x3 : Int32} {x4 : Int32}  {M : ch_Mem} {H : Heap} {locs : List Loc} {ls : Array Slot} (h : D_X7_finds_b139 k19 x1 x2 x3 x4 M = some oo) (hw : ch_Wd D I 13 (ch_FM I sh) sh s A M H locs) (hl : lv_has ls 12 [(0, .ref (sh 0)), (1, .int x1), (2, .int x2), (3, .int x3), (4, .int x4)]) : W p l e rm_X7_finds s m args below meth c H locs 0 0 Q (F0 m 139 ls []) := by
  obtain ⟨hx, hb, hml, hown, hts⟩ := id S
  unfold D_X7_finds_b139 at h
  refine lv_iinc (v := x4 + (1 : Int32)) (lv' := [(4, .int (x4 + (1 : Int32))), (0, .ref (sh 0)), (1, .int x1), (2, .int x2), (3, .int x3)]) hx hb dX7_finds_139 hl (k := 4) rfl rfl (by decide) rfl (fun ls hl => ?_)
  refine lv_goto (tgt := 19) hx hb dX7_finds_142 (by decide) ?_
  exact hk19 _ _ _ _ _ _ _ _  h hw (lv_sub hl [1, 2, 3, 4, 0] rfl)
set_option maxHeartbeats 4000000 in
set_option maxRecDepth 100000 in
theorem t_X7_finds_28 {p : Program} {l : Launch} {e : Env} {s : State} {m : MethodId} {args : Array Value} {below : List Frame} {meth : Method} {c : Code} {Q : State → Prop} {D : va_G} {I : ch_Id} {sh : Nat → Nat} {A : Nat → Prop} {oo : Int32 × ch_Mem}    {k19 : Int32 → Int32 → Int32 → Int32 → ch_Mem → Option (Int32 × ch_Mem)} {k28 : Int32 → Int32 → Int32 → Int32 → Int32 → ch_Mem → Option (Int32 × ch_Mem)} (S : CallFix p m c cX7_finds 12 s args wsX7_finds RX7) (fin : ch_FinI p l e rm_X7_finds s m args below meth c cX7_finds Q D I 13 (ch_FM I sh) sh A oo) (hk19 : ∀ (x1 : Int32) (x2 : Int32) (x3 : Int32) (x4 : Int32) (M : ch_Mem) (H : Heap) (locs : List Loc) (ls : Array Slot), k19 x1 x2 x3 x4 M = some oo → ch_Wd D I 13 (ch_FM I sh) sh s A M H locs → lv_has ls 12 [(0, .ref (sh 0)), (1, .int x1), (2, .int x2), (3, .int x3), (4, .int x4)] → W p l e rm_X7_finds s m args below meth c H locs 0 0 Q (F0 m 19 ls [])) (hk28 : ∀ (x1 : Int32) (x2 : Int32) (x3 : Int32) (x4 : Int32) (x5 : Int32) (M : ch_Mem) (H : Heap) (locs : List Loc) (ls : Array Slot), k28 x1 x2 x3 x4 x5 M = some oo → ch_Wd D I 13 (ch_FM I sh) sh s A M H locs → lv_has ls 12 [(0, .ref (sh 0)), (1, .int x1), (2, .int x2), (3, .int x3), (4, .int x4), (5, .int x5)] → W p l e rm_X7_finds s m args below meth c H locs 0 0 Q (F0 m 28 ls [])) {x1 : Int32} {x2 : Int32} {x3 : Int32} {x4 : Int32} {x5 : Int32}  {M : ch_Mem} {H : Heap} {locs : List Loc} {ls : Array Slot} (h : D_X7_finds_b28 k19 k28 x1 x2 x3 x4 x5 M = some oo) (hw : ch_Wd D I 13 (ch_FM I sh) sh s A M H locs) (hl : lv_has ls 12 [(0, .ref (sh 0)), (1, .int x1), (2, .int x2), (3, .int x3), (4, .int x4), (5, .int x5)]) : W p l e rm_X7_finds s m args below meth c H locs 0 0 Q (F0 m 28 ls []) := by
  obtain ⟨hx, hb, hml, hown, hts⟩ := id S
  unfold D_X7_finds_b28 at h
  refine lv_iload hx hb dX7_finds_28 (lv_at hl 5 rfl) ?_
  refine lv_aload_n hx hb dX7_finds_30 rfl (lv_at hl 0 rfl) ?_
  refine ch_get S hw 0 (by decide) rfl rfl (by decide +kernel) 0 (by decide) (hts (.fieldLink RX7 7 "CodeHuntModel" "sizesOf" "[I") (by decide +kernel)) rfl dX7_finds_31 ?_
  refine lv_iload_n hx hb dX7_finds_34 rfl (lv_at hl 1 rfl) ?_
  refine ch_gd_k h (fun hin h => ?_)
  refine ch_iald S hw 1 (by decide) rfl hin dX7_finds_35 ?_
  refine ch_icmp_ge (tgt := 139) hx hb dX7_finds_36 (by decide) h (fun h => ?_) (fun h => ?_)
  · exact t_X7_finds_139 S fin hk19 h hw (lv_sub hl [0, 1, 2, 3, 4] rfl)
  · refine lv_aload_n hx hb dX7_finds_39 rfl (lv_at hl 0 rfl) ?_
    refine lv_iload_n hx hb dX7_finds_40 rfl (lv_at hl 1 rfl) ?_
    refine lv_iload_n hx hb dX7_finds_41 rfl (lv_at hl 2 rfl) ?_
    refine lv_iload hx hb dX7_finds_42 (lv_at hl 5 rfl) ?_
    refine lv_iload hx hb dX7_finds_44 (lv_at hl 4 rfl) ?_
    refine lv_iconst (v := (0 : Int32)) hx hb dX7_finds_46 (by decide) ?_
    refine ch_bd_k h (fun r1 M2 hc h => ?_)
    refine ch_ci hw (va_runV (As := [.int x1, .int x2, .int x5, .int x4, .int (0 : Int32)]) (rest := []) S (c_X7_heardOf l D I sh H.size M x1 x2 x5 x4 (0 : Int32) hc) (cwV 5 hts gX7_finds_X7_heardOf rfl rfl rfl (by decide +kernel) ⟨Nat.le_of_ble_eq_true rfl, Nat.le_of_ble_eq_true rfl⟩) (ch_pV hw (by decide) rfl rfl rfl) rfl rfl hl.1 rfl (lv_room (Nat.le_of_ble_eq_true rfl)) dX7_finds_47 ⟨Nat.le_refl 0, Nat.le_refl 0⟩) (fun H locs hw => ?_)
    refine lv_i2l hx hb dX7_finds_50 rfl ?_
    refine lv_lstore (lv' := [(6, .long r1.toInt64), (0, .ref (sh 0)), (1, .int x1), (2, .int x2), (3, .int x3), (4, .int x4), (5, .int x5)]) hx hb dX7_finds_51 hl (by decide) rfl (fun ls hl => ?_)
    refine lv_aload_n hx hb dX7_finds_53 rfl (lv_at hl 1 rfl) ?_
    refine lv_iload_n hx hb dX7_finds_54 rfl (lv_at hl 2 rfl) ?_
    refine lv_iload_n hx hb dX7_finds_55 rfl (lv_at hl 3 rfl) ?_
    refine lv_iload hx hb dX7_finds_56 (lv_at hl 6 rfl) ?_
    refine lv_iload hx hb dX7_finds_58 (lv_at hl 5 rfl) ?_
    refine lv_iconst (v := (1 : Int32)) hx hb dX7_finds_60 (by decide) ?_
    refine ch_bd_k h (fun r3 M4 hc h => ?_)
    refine ch_ci hw (va_runV (As := [.int x1, .int x2, .int x5, .int x4, .int (1 : Int32)]) (rest := []) S (c_X7_heardOf l D I sh H.size M2 x1 x2 x5 x4 (1 : Int32) hc) (cwV 5 hts gX7_finds_X7_heardOf rfl rfl rfl (by decide +kernel) ⟨Nat.le_of_ble_eq_true rfl, Nat.le_of_ble_eq_true rfl⟩) (ch_pV hw (by decide) rfl rfl rfl) rfl rfl hl.1 rfl (lv_room (Nat.le_of_ble_eq_true rfl)) dX7_finds_61 ⟨Nat.le_refl 0, Nat.le_refl 0⟩) (fun H locs hw => ?_)
    refine lv_i2l hx hb dX7_finds_64 rfl ?_
    refine lv_lstore (lv' := [(8, .long r3.toInt64), (6, .long r1.toInt64), (0, .ref (sh 0)), (1, .int x1), (2, .int x2), (3, .int x3), (4, .int x4), (5, .int x5)]) hx hb dX7_finds_65 hl (by decide) rfl (fun ls hl => ?_)
    refine lv_lload hx hb dX7_finds_67 (lv_at hl 1 rfl) ?_
    refine lv_lload hx hb dX7_finds_69 (lv_at hl 1 rfl) ?_
    refine lv_lmul hx hb dX7_finds_71 ?_
    refine lv_lload hx hb dX7_finds_72 (lv_at hl 0 rfl) ?_
    refine lv_lload hx hb dX7_finds_74 (lv_at hl 0 rfl) ?_
    refine lv_lmul hx hb dX7_finds_76 ?_
    refine lv_ladd hx hb dX7_finds_77 ?_
    refine ch_topl h (fun u5 h => ?_)
    refine lv_lstore (lv' := [(10, .long u5), (8, .long r3.toInt64), (6, .long r1.toInt64), (0, .ref (sh 0)), (1, .int x1), (2, .int x2), (3, .int x3), (4, .int x4), (5, .int x5)]) hx hb dX7_finds_78 hl (by decide) rfl (fun ls hl => ?_)
    refine lv_lload hx hb dX7_finds_80 (lv_at hl 0 rfl) ?_
    refine lv_aload_n hx hb dX7_finds_82 rfl (lv_at hl 3 rfl) ?_
    refine ch_get S hw 0 (by decide) rfl rfl (by decide +kernel) 4 (by decide) (hts (.fieldLink RX7 104 "CodeHuntModel" "greatest" "J") (by decide +kernel)) rfl dX7_finds_83 ?_
    refine W.lcmp hx hb dX7_finds_86 ?_
    refine ch_if_le (tgt := 117) hx hb dX7_finds_87 (by decide) h (fun h => ?_) (fun h => ?_)
    · refine lv_lload hx hb dX7_finds_117 (lv_at hl 0 rfl) ?_
      refine lv_aload_n hx hb dX7_finds_119 rfl (lv_at hl 3 rfl) ?_
      refine ch_get S hw 0 (by decide) rfl rfl (by decide +kernel) 5 (by decide) (hts (.fieldLink RX7 108 "CodeHuntModel" "other" "J") (by decide +kernel)) rfl dX7_finds_120 ?_
      refine W.lcmp hx hb dX7_finds_123 ?_
      refine ch_if_le (tgt := 133) hx hb dX7_finds_124 (by decide) h (fun h => ?_) (fun h => ?_)
      · exact t_X7_finds_133 S fin hk19 hk28 h hw (lv_sub hl [3, 4, 5, 6, 7, 8] rfl)
      · refine lv_aload_n hx hb dX7_finds_127 rfl (lv_at hl 3 rfl) ?_
        refine lv_lload hx hb dX7_finds_128 (lv_at hl 0 rfl) ?_
        refine ch_put (M1 := ch_wL M4 0 5 u5) (ty := .long) S hw 0 (by decide) rfl rfl (by decide +kernel) tyX7 tyX7_ok nmX7 5 (by decide) (hts (.fieldLink RX7 108 "CodeHuntModel" "other" "J") (by decide +kernel)) rfl (by decide +kernel) rfl rfl (Nat.le_of_ble_eq_true rfl) (ch_cf_wL (j := 5) (v := u5) rfl) dX7_finds_130 (fun H locs hw => ?_)
        exact t_X7_finds_133 S fin hk19 hk28 h hw (lv_sub hl [3, 4, 5, 6, 7, 8] rfl)
    · refine lv_aload_n hx hb dX7_finds_90 rfl (lv_at hl 3 rfl) ?_
      refine lv_aload_n hx hb dX7_finds_91 rfl (lv_at hl 3 rfl) ?_
      refine ch_get S hw 0 (by decide) rfl rfl (by decide +kernel) 4 (by decide) (hts (.fieldLink RX7 104 "CodeHuntModel" "greatest" "J") (by decide +kernel)) rfl dX7_finds_92 ?_
      refine ch_put (M1 := ch_wL M4 0 5 (M4.2 0 4)) (ty := .long) S hw 0 (by decide) rfl rfl (by decide +kernel) tyX7 tyX7_ok nmX7 5 (by decide) (hts (.fieldLink RX7 108 "CodeHuntModel" "other" "J") (by decide +kernel)) rfl (by decide +kernel) rfl rfl (Nat.le_of_ble_eq_true rfl) (ch_cf_wL (j := 5) (v := (M4.2 0 4)) rfl) dX7_finds_95 (fun H locs hw => ?_)
      refine lv_aload_n hx hb dX7_finds_98 rfl (lv_at hl 3 rfl) ?_
      refine lv_lload hx hb dX7_finds_99 (lv_at hl 0 rfl) ?_
      refine ch_put (M1 := ch_wL (ch_wL M4 0 5 (M4.2 0 4)) 0 4 u5) (ty := .long) S hw 0 (by decide) rfl rfl (by decide +kernel) tyX7 tyX7_ok nmX7 4 (by decide) (hts (.fieldLink RX7 104 "CodeHuntModel" "greatest" "J") (by decide +kernel)) rfl (by decide +kernel) rfl rfl (Nat.le_of_ble_eq_true rfl) (ch_cf_wL (j := 4) (v := u5) rfl) dX7_finds_101 (fun H locs hw => ?_)
      refine lv_sipush (v := (1000 : Int32)) hx hb dX7_finds_104 (by decide) ?_
      refine lv_iload hx hb dX7_finds_107 (lv_at hl 7 rfl) ?_
      refine lv_imul hx hb dX7_finds_109 ?_
      refine lv_iload hx hb dX7_finds_110 (lv_at hl 8 rfl) ?_
      refine lv_iadd hx hb dX7_finds_112 ?_
      refine lv_istore_n (lv' := [(3, .int (((1000 : Int32) * x4) + x5)), (10, .long u5), (8, .long r3.toInt64), (6, .long r1.toInt64), (0, .ref (sh 0)), (1, .int x1), (2, .int x2), (4, .int x4), (5, .int x5)]) hx hb dX7_finds_113 rfl hl (by decide) rfl (fun ls hl => ?_)
      refine lv_goto (tgt := 133) hx hb dX7_finds_114 (by decide) ?_
      exact t_X7_finds_133 S fin hk19 hk28 h hw (lv_sub hl [4, 5, 6, 0, 7, 8] rfl)
set_option maxHeartbeats 4000000 in
set_option maxRecDepth 100000 in
theorem tl_X7_finds_28 {p : Program} {l : Launch} {e : Env} {s : State} {m : MethodId} {args : Array Value} {below : List Frame} {meth : Method} {c : Code} {Q : State → Prop} {D : va_G} {I : ch_Id} {sh : Nat → Nat} {A : Nat → Prop} {oo : Int32 × ch_Mem}    {k19 : Int32 → Int32 → Int32 → Int32 → ch_Mem → Option (Int32 × ch_Mem)} (S : CallFix p m c cX7_finds 12 s args wsX7_finds RX7) (fin : ch_FinI p l e rm_X7_finds s m args below meth c cX7_finds Q D I 13 (ch_FM I sh) sh A oo) (hk19 : ∀ (x1 : Int32) (x2 : Int32) (x3 : Int32) (x4 : Int32) (M : ch_Mem) (H : Heap) (locs : List Loc) (ls : Array Slot), k19 x1 x2 x3 x4 M = some oo → ch_Wd D I 13 (ch_FM I sh) sh s A M H locs → lv_has ls 12 [(0, .ref (sh 0)), (1, .int x1), (2, .int x2), (3, .int x3), (4, .int x4)] → W p l e rm_X7_finds s m args below meth c H locs 0 0 Q (F0 m 19 ls [])) (n : Nat) : ∀ (x1 : Int32) (x2 : Int32) (x3 : Int32) (x4 : Int32) (x5 : Int32) (M : ch_Mem) (H : Heap) (locs : List Loc) (ls : Array Slot), D_X7_finds_L28 k19 n x1 x2 x3 x4 x5 M = some oo → ch_Wd D I 13 (ch_FM I sh) sh s A M H locs → lv_has ls 12 [(0, .ref (sh 0)), (1, .int x1), (2, .int x2), (3, .int x3), (4, .int x4), (5, .int x5)] → W p l e rm_X7_finds s m args below meth c H locs 0 0 Q (F0 m 28 ls []) := by
  induction n with
  | zero => intro x1 x2 x3 x4 x5 M H locs ls  h; cases h
  | succ n ih =>
    intro x1 x2 x3 x4 x5 M H locs ls  h hw hl
    exact t_X7_finds_28 S fin hk19 ih h hw hl
set_option maxHeartbeats 4000000 in
set_option maxRecDepth 100000 in
theorem t_X7_finds_145 {p : Program} {l : Launch} {e : Env} {s : State} {m : MethodId} {args : Array Value} {below : List Frame} {meth : Method} {c : Code} {Q : State → Prop} {D : va_G} {I : ch_Id} {sh : Nat → Nat} {A : Nat → Prop} {oo : Int32 × ch_Mem}     (S : CallFix p m c cX7_finds 12 s args wsX7_finds RX7) (fin : ch_FinI p l e rm_X7_finds s m args below meth c cX7_finds Q D I 13 (ch_FM I sh) sh A oo)  {x3 : Int32}  {M : ch_Mem} {H : Heap} {locs : List Loc} {ls : Array Slot} (h : D_X7_finds_b145 x3 M = some oo) (hw : ch_Wd D I 13 (ch_FM I sh) sh s A M H locs) (hl : lv_has ls 12 [(3, .int x3)]) : W p l e rm_X7_finds s m args below meth c H locs 0 0 Q (F0 m 145 ls []) := by
  obtain ⟨hx, hb, hml, hown, hts⟩ := id S
  unfold D_X7_finds_b145 at h
  refine lv_iload_n hx hb dX7_finds_145 rfl (lv_at hl 0 rfl) ?_
  exact fin _ _ _ _ _ _ h hw dX7_finds_146
set_option maxHeartbeats 4000000 in
set_option maxRecDepth 100000 in
theorem t_X7_finds_19 {p : Program} {l : Launch} {e : Env} {s : State} {m : MethodId} {args : Array Value} {below : List Frame} {meth : Method} {c : Code} {Q : State → Prop} {D : va_G} {I : ch_Id} {sh : Nat → Nat} {A : Nat → Prop} {oo : Int32 × ch_Mem}    {k19 : Int32 → Int32 → Int32 → Int32 → ch_Mem → Option (Int32 × ch_Mem)} (S : CallFix p m c cX7_finds 12 s args wsX7_finds RX7) (fin : ch_FinI p l e rm_X7_finds s m args below meth c cX7_finds Q D I 13 (ch_FM I sh) sh A oo) (hk19 : ∀ (x1 : Int32) (x2 : Int32) (x3 : Int32) (x4 : Int32) (M : ch_Mem) (H : Heap) (locs : List Loc) (ls : Array Slot), k19 x1 x2 x3 x4 M = some oo → ch_Wd D I 13 (ch_FM I sh) sh s A M H locs → lv_has ls 12 [(0, .ref (sh 0)), (1, .int x1), (2, .int x2), (3, .int x3), (4, .int x4)] → W p l e rm_X7_finds s m args below meth c H locs 0 0 Q (F0 m 19 ls [])) {x1 : Int32} {x2 : Int32} {x3 : Int32} {x4 : Int32}  {M : ch_Mem} {H : Heap} {locs : List Loc} {ls : Array Slot} (h : D_X7_finds_b19 k19 x1 x2 x3 x4 M = some oo) (hw : ch_Wd D I 13 (ch_FM I sh) sh s A M H locs) (hl : lv_has ls 12 [(0, .ref (sh 0)), (1, .int x1), (2, .int x2), (3, .int x3), (4, .int x4)]) : W p l e rm_X7_finds s m args below meth c H locs 0 0 Q (F0 m 19 ls []) := by
  obtain ⟨hx, hb, hml, hown, hts⟩ := id S
  unfold D_X7_finds_b19 at h
  refine lv_iload hx hb dX7_finds_19 (lv_at hl 4 rfl) ?_
  refine lv_iconst (v := (4 : Int32)) hx hb dX7_finds_21 (by decide) ?_
  refine ch_icmp_ge (tgt := 145) hx hb dX7_finds_22 (by decide) h (fun h => ?_) (fun h => ?_)
  · exact t_X7_finds_145 S fin h hw (lv_sub hl [3] rfl)
  · refine lv_iconst (v := (0 : Int32)) hx hb dX7_finds_25 (by decide) ?_
    refine lv_istore (lv' := [(5, .int (0 : Int32)), (0, .ref (sh 0)), (1, .int x1), (2, .int x2), (3, .int x3), (4, .int x4)]) hx hb dX7_finds_26 hl (by decide) rfl (fun ls hl => ?_)
    exact tl_X7_finds_28 S fin hk19 ch_fu _ _ _ _ _ _ _ _ _ h hw (lv_sub hl [1, 2, 3, 4, 5, 0] rfl)
set_option maxHeartbeats 4000000 in
set_option maxRecDepth 100000 in
theorem tl_X7_finds_19 {p : Program} {l : Launch} {e : Env} {s : State} {m : MethodId} {args : Array Value} {below : List Frame} {meth : Method} {c : Code} {Q : State → Prop} {D : va_G} {I : ch_Id} {sh : Nat → Nat} {A : Nat → Prop} {oo : Int32 × ch_Mem}     (S : CallFix p m c cX7_finds 12 s args wsX7_finds RX7) (fin : ch_FinI p l e rm_X7_finds s m args below meth c cX7_finds Q D I 13 (ch_FM I sh) sh A oo)  (n : Nat) : ∀ (x1 : Int32) (x2 : Int32) (x3 : Int32) (x4 : Int32) (M : ch_Mem) (H : Heap) (locs : List Loc) (ls : Array Slot), D_X7_finds_L19  n x1 x2 x3 x4 M = some oo → ch_Wd D I 13 (ch_FM I sh) sh s A M H locs → lv_has ls 12 [(0, .ref (sh 0)), (1, .int x1), (2, .int x2), (3, .int x3), (4, .int x4)] → W p l e rm_X7_finds s m args below meth c H locs 0 0 Q (F0 m 19 ls []) := by
  induction n with
  | zero => intro x1 x2 x3 x4 M H locs ls  h; cases h
  | succ n ih =>
    intro x1 x2 x3 x4 M H locs ls  h hw hl
    exact t_X7_finds_19 S fin ih h hw hl
set_option maxHeartbeats 4000000 in
set_option maxRecDepth 100000 in
theorem t_X7_finds_0 {p : Program} {l : Launch} {e : Env} {s : State} {m : MethodId} {args : Array Value} {below : List Frame} {meth : Method} {c : Code} {Q : State → Prop} {D : va_G} {I : ch_Id} {sh : Nat → Nat} {A : Nat → Prop} {oo : Int32 × ch_Mem}     (S : CallFix p m c cX7_finds 12 s args wsX7_finds RX7) (fin : ch_FinI p l e rm_X7_finds s m args below meth c cX7_finds Q D I 13 (ch_FM I sh) sh A oo)  {x1 : Int32} {x2 : Int32}  {M : ch_Mem} {H : Heap} {locs : List Loc} {ls : Array Slot} (h : D_X7_finds x1 x2 M = some oo) (hw : ch_Wd D I 13 (ch_FM I sh) sh s A M H locs) (hl : lv_has ls 12 [(0, .ref (sh 0)), (1, .int x1), (2, .int x2)]) : W p l e rm_X7_finds s m args below meth c H locs 0 0 Q (F0 m 0 ls []) := by
  obtain ⟨hx, hb, hml, hown, hts⟩ := id S
  unfold D_X7_finds at h
  refine lv_iconst (v := (-1 : Int32)) hx hb dX7_finds_0 (by decide) ?_
  refine lv_istore_n (lv' := [(3, .int (-1 : Int32)), (0, .ref (sh 0)), (1, .int x1), (2, .int x2)]) hx hb dX7_finds_1 rfl hl (by decide) rfl (fun ls hl => ?_)
  refine lv_aload_n hx hb dX7_finds_2 rfl (lv_at hl 1 rfl) ?_
  refine lv_ldc2 (v := (-1 : Int64)) hx hb hown (hts (.constantLong RX7 102 (-1)) (by decide +kernel)) dX7_finds_3 ?_
  refine ch_put (M1 := ch_wL M 0 4 (-1 : Int64)) (ty := .long) S hw 0 (by decide) rfl rfl (by decide +kernel) tyX7 tyX7_ok nmX7 4 (by decide) (hts (.fieldLink RX7 104 "CodeHuntModel" "greatest" "J") (by decide +kernel)) rfl (by decide +kernel) rfl rfl (Nat.le_of_ble_eq_true rfl) (ch_cf_wL (j := 4) (v := (-1 : Int64)) rfl) dX7_finds_6 (fun H locs hw => ?_)
  refine lv_aload_n hx hb dX7_finds_9 rfl (lv_at hl 1 rfl) ?_
  refine lv_ldc2 (v := (-1 : Int64)) hx hb hown (hts (.constantLong RX7 102 (-1)) (by decide +kernel)) dX7_finds_10 ?_
  refine ch_put (M1 := ch_wL (ch_wL M 0 4 (-1 : Int64)) 0 5 (-1 : Int64)) (ty := .long) S hw 0 (by decide) rfl rfl (by decide +kernel) tyX7 tyX7_ok nmX7 5 (by decide) (hts (.fieldLink RX7 108 "CodeHuntModel" "other" "J") (by decide +kernel)) rfl (by decide +kernel) rfl rfl (Nat.le_of_ble_eq_true rfl) (ch_cf_wL (j := 5) (v := (-1 : Int64)) rfl) dX7_finds_13 (fun H locs hw => ?_)
  refine lv_iconst (v := (0 : Int32)) hx hb dX7_finds_16 (by decide) ?_
  refine lv_istore (lv' := [(4, .int (0 : Int32)), (3, .int (-1 : Int32)), (0, .ref (sh 0)), (1, .int x1), (2, .int x2)]) hx hb dX7_finds_17 hl (by decide) rfl (fun ls hl => ?_)
  exact tl_X7_finds_19 S fin ch_fu _ _ _ _ _ _ _ _ h hw (lv_sub hl [2, 3, 4, 1, 0] rfl)
set_option maxHeartbeats 4000000 in
set_option maxRecDepth 100000 in
theorem c_X7_finds (l : Launch) (D : va_G) (I : ch_Id) (sh : Nat → Nat) (sz : Nat) (M : ch_Mem)  (x1 : Int32) (x2 : Int32) {r : Int32} {M1 : ch_Mem} (h : D_X7_finds x1 x2 M = some (r, M1)) : Met l yX7_finds wsX7_finds rm_X7_finds (va_Pc [.ref (sh 0), .int x1, .int x2] (ch_Pre D I 13 (ch_FM I sh) sh sz M)) (va_Qi (fun r' (u : ch_Mem) => r' = r ∧ u = M1) (ch_Pos D 13 (ch_FM I sh) sh) (ch_A 13 sh sz)) 0 0 (ch_A 13 sh sz) := by
  refine Met.ofW (cc := cX7_finds) (maxL := 12) (ret := (some .int)) (by decide) rfl ?_
  intro p e s m args below meth c s₁ B hml hv0
  obtain ⟨rfl, hv0⟩ := hv0
  obtain rfl : s.heap.size = sz := hv0.1
  have hw := ch_start hv0
  have S : CallFix p m c cX7_finds 12 s _ wsX7_finds RX7 := ⟨B.exec, B.bytes, hml, findClass_of_methodNamed B.named, atoms_spec (ws := wsX7_finds) B.pre⟩
  have hl := lv_entry ([.ref (sh 0), .int x1, .int x2]) (n := 12) (Nat.le_of_ble_eq_true rfl)
  rw [lg_entry_eq]
  generalize (lg_sl ([.ref (sh 0), .int x1, .int x2]) ++ List.replicate (12 - (lg_sl ([.ref (sh 0), .int x1, .int x2])).length) Slot.unset).toArray = ls at hl ⊢
  exact t_X7_finds_0 S (ch_finI (B := fun _ => True) B.exec B.bytes B.returns B.notSynchronized) h hw (lv_sub hl [0, 1, 2] rfl)
