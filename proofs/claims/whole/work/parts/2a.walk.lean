set_option maxHeartbeats 4000000 in
set_option maxRecDepth 100000 in
theorem t_X0_fits_0 {p : Program} {l : Launch} {e : Env} {s : State} {m : MethodId} {args : Array Value} {below : List Frame} {meth : Method} {c : Code} {Q : State → Prop} {D : va_G} {I : ch_Id} {sh : Nat → Nat} {A : Nat → Prop} {oo : Int32 × ch_Mem}     (S : CallFix p m c cX0_fits 4 s args wsX0_fits RX0) (fin : ch_FinZ p l e rm_X0_fits s m args below meth c cX0_fits Q D I 40 (ch_FC I sh) sh A oo)  {x1 : Int64} {x3 : Int32}  {M : ch_Mem} {H : Heap} {locs : List Loc} {ls : Array Slot} (h : D_X0_fits x1 x3 M = some oo) (hw : ch_Wd D I 40 (ch_FC I sh) sh s A M H locs) (hl : lv_has ls 4 [(0, .ref (sh 6)), (1, .long x1), (3, .int x3)]) : W p l e rm_X0_fits s m args below meth c H locs 0 0 Q (F0 m 0 ls []) := by
  obtain ⟨hx, hb, hml, hown, hts⟩ := id S
  unfold D_X0_fits at h
  refine lv_aload_n hx hb dX0_fits_0 rfl (lv_at hl 0 rfl) ?_
  refine ch_get S hw 6 (by decide) rfl rfl (by decide +kernel) 0 (by decide) (hts (.fieldLink RX0 9 "CodeHunt$Lengths" "lengthOf" "[I") (by decide +kernel)) rfl dX0_fits_1 ?_
  refine lv_iload_n hx hb dX0_fits_4 rfl (lv_at hl 2 rfl) ?_
  refine ch_gd_k h (fun hin h => ?_)
  refine ch_iald S hw 38 (by decide) rfl hin dX0_fits_5 ?_
  refine ch_if_le (tgt := 33) hx hb dX0_fits_6 (by decide) h (fun h => ?_) (fun h => ?_)
  · refine lv_iconst (v := (0 : Int32)) hx hb dX0_fits_33 (by decide) ?_
    exact fin _ _ _ _ _ _ rfl h hw dX0_fits_34
  · refine lv_lload_n hx hb dX0_fits_9 rfl (lv_at hl 1 rfl) ?_
    refine lv_aload_n hx hb dX0_fits_10 rfl (lv_at hl 0 rfl) ?_
    refine ch_get S hw 6 (by decide) rfl rfl (by decide +kernel) 0 (by decide) (hts (.fieldLink RX0 9 "CodeHunt$Lengths" "lengthOf" "[I") (by decide +kernel)) rfl dX0_fits_11 ?_
    refine lv_iload_n hx hb dX0_fits_14 rfl (lv_at hl 2 rfl) ?_
    refine ch_gd_k h (fun hin h => ?_)
    refine ch_iald S hw 38 (by decide) rfl hin dX0_fits_15 ?_
    refine lv_i2l hx hb dX0_fits_16 rfl ?_
    refine ch_g0L_k h (fun hne h => ?_)
    refine lv_lrem hx hb dX0_fits_17 hne ?_
    refine lv_aload_n hx hb dX0_fits_18 rfl (lv_at hl 0 rfl) ?_
    refine ch_get S hw 6 (by decide) rfl rfl (by decide +kernel) 1 (by decide) (hts (.fieldLink RX0 15 "CodeHunt$Lengths" "shiftOf" "[I") (by decide +kernel)) rfl dX0_fits_19 ?_
    refine lv_iload_n hx hb dX0_fits_22 rfl (lv_at hl 2 rfl) ?_
    refine ch_gd_k h (fun hin h => ?_)
    refine ch_iald S hw 39 (by decide) rfl hin dX0_fits_23 ?_
    refine lv_i2l hx hb dX0_fits_24 rfl ?_
    refine W.lcmp hx hb dX0_fits_25 ?_
    refine ch_if_ne (tgt := 33) hx hb dX0_fits_26 (by decide) h (fun h => ?_) (fun h => ?_)
    · refine lv_iconst (v := (0 : Int32)) hx hb dX0_fits_33 (by decide) ?_
      exact fin _ _ _ _ _ _ rfl h hw dX0_fits_34
    · refine lv_iconst (v := (1 : Int32)) hx hb dX0_fits_29 (by decide) ?_
      refine lv_goto (tgt := 34) hx hb dX0_fits_30 (by decide) ?_
      exact fin _ _ _ _ _ _ rfl h hw dX0_fits_34
set_option maxHeartbeats 4000000 in
set_option maxRecDepth 100000 in
theorem c_X0_fits (l : Launch) (D : va_G) (I : ch_Id) (sh : Nat → Nat) (sz : Nat) (M : ch_Mem)  (x1 : Int64) (x3 : Int32) {r : Int32} {M1 : ch_Mem} (h : D_X0_fits x1 x3 M = some (r, M1)) : Met l yX0_fits wsX0_fits rm_X0_fits (va_Pc [.ref (sh 6), .long x1, .int x3] (ch_Pre D I 40 (ch_FC I sh) sh sz M)) (va_Qi (fun r' (u : ch_Mem) => r' = r ∧ u = M1) (ch_Pos D 40 (ch_FC I sh) sh) (ch_A 40 sh sz)) 0 0 (ch_A 40 sh sz) := by
  refine Met.ofW (cc := cX0_fits) (maxL := 4) (ret := (some .boolean)) (by decide) rfl ?_
  intro p e s m args below meth c s₁ B hml hv0
  obtain ⟨rfl, hv0⟩ := hv0
  obtain rfl : s.heap.size = sz := hv0.1
  have hw := ch_start hv0
  have S : CallFix p m c cX0_fits 4 s _ wsX0_fits RX0 := ⟨B.exec, B.bytes, hml, findClass_of_methodNamed B.named, atoms_spec (ws := wsX0_fits) B.pre⟩
  have hl := lv_entry ([.ref (sh 6), .long x1, .int x3]) (n := 4) (Nat.le_of_ble_eq_true rfl)
  rw [lg_entry_eq]
  generalize (lg_sl ([.ref (sh 6), .long x1, .int x3]) ++ List.replicate (4 - (lg_sl ([.ref (sh 6), .long x1, .int x3])).length) Slot.unset).toArray = ls at hl ⊢
  exact t_X0_fits_0 S (ch_finZ B.exec B.bytes B.returns B.notSynchronized) h hw (lv_sub hl [0, 1, 2] rfl)
set_option maxHeartbeats 4000000 in
set_option maxRecDepth 100000 in
theorem t_X0_haveDivisorWith_36 {p : Program} {l : Launch} {e : Env} {s : State} {m : MethodId} {args : Array Value} {below : List Frame} {meth : Method} {c : Code} {Q : State → Prop} {D : va_G} {I : ch_Id} {sh : Nat → Nat} {A : Nat → Prop} {oo : Int32 × ch_Mem}    {k2 : Int32 → Int32 → ch_Mem → Option (Int32 × ch_Mem)} {k9 : Int32 → Int32 → Int32 → ch_Mem → Option (Int32 × ch_Mem)} (S : CallFix p m c cX0_haveDivisorWith 4 s args wsX0_haveDivisorWith RX0) (fin : ch_FinZ p l e rm_X0_haveDivisorWith s m args below meth c cX0_haveDivisorWith Q D I 40 (ch_FC I sh) sh A oo) (hk2 : ∀ (x1 : Int32) (x2 : Int32) (M : ch_Mem) (H : Heap) (locs : List Loc) (ls : Array Slot), k2 x1 x2 M = some oo → ch_Wd D I 40 (ch_FC I sh) sh s A M H locs → lv_has ls 4 [(0, .ref (sh 6)), (1, .int x1), (2, .int x2)] → W p l e rm_X0_haveDivisorWith s m args below meth c H locs 0 0 Q (F0 m 2 ls [])) (hk9 : ∀ (x1 : Int32) (x2 : Int32) (x3 : Int32) (M : ch_Mem) (H : Heap) (locs : List Loc) (ls : Array Slot), k9 x1 x2 x3 M = some oo → ch_Wd D I 40 (ch_FC I sh) sh s A M H locs → lv_has ls 4 [(0, .ref (sh 6)), (1, .int x1), (2, .int x2), (3, .int x3)] → W p l e rm_X0_haveDivisorWith s m args below meth c H locs 0 0 Q (F0 m 9 ls [])) {x1 : Int32} {x2 : Int32} {x3 : Int32}  {M : ch_Mem} {H : Heap} {locs : List Loc} {ls : Array Slot} (h : D_X0_haveDivisorWith_b36 k2 k9 x1 x2 x3 M = some oo) (hw : ch_Wd D I 40 (ch_FC I sh) sh s A M H locs) (hl : lv_has ls 4 [(0, .ref (sh 6)), (1, .int x1), (2, .int x2), (3, .int x3)]) : W p l e rm_X0_haveDivisorWith s m args below meth c H locs 0 0 Q (F0 m 36 ls []) := by
  obtain ⟨hx, hb, hml, hown, hts⟩ := id S
  unfold D_X0_haveDivisorWith_b36 at h
  refine lv_iinc (v := x3 + (1 : Int32)) (lv' := [(3, .int (x3 + (1 : Int32))), (0, .ref (sh 6)), (1, .int x1), (2, .int x2)]) hx hb dX0_haveDivisorWith_36 hl (k := 3) rfl rfl (by decide) rfl (fun ls hl => ?_)
  refine lv_goto (tgt := 9) hx hb dX0_haveDivisorWith_39 (by decide) ?_
  exact hk9 _ _ _ _ _ _ _  h hw (lv_sub hl [1, 2, 3, 0] rfl)
set_option maxHeartbeats 4000000 in
set_option maxRecDepth 100000 in
theorem t_X0_haveDivisorWith_42 {p : Program} {l : Launch} {e : Env} {s : State} {m : MethodId} {args : Array Value} {below : List Frame} {meth : Method} {c : Code} {Q : State → Prop} {D : va_G} {I : ch_Id} {sh : Nat → Nat} {A : Nat → Prop} {oo : Int32 × ch_Mem}    {k2 : Int32 → Int32 → ch_Mem → Option (Int32 × ch_Mem)} (S : CallFix p m c cX0_haveDivisorWith 4 s args wsX0_haveDivisorWith RX0) (fin : ch_FinZ p l e rm_X0_haveDivisorWith s m args below meth c cX0_haveDivisorWith Q D I 40 (ch_FC I sh) sh A oo) (hk2 : ∀ (x1 : Int32) (x2 : Int32) (M : ch_Mem) (H : Heap) (locs : List Loc) (ls : Array Slot), k2 x1 x2 M = some oo → ch_Wd D I 40 (ch_FC I sh) sh s A M H locs → lv_has ls 4 [(0, .ref (sh 6)), (1, .int x1), (2, .int x2)] → W p l e rm_X0_haveDivisorWith s m args below meth c H locs 0 0 Q (F0 m 2 ls [])) {x1 : Int32} {x2 : Int32}  {M : ch_Mem} {H : Heap} {locs : List Loc} {ls : Array Slot} (h : D_X0_haveDivisorWith_b42 k2 x1 x2 M = some oo) (hw : ch_Wd D I 40 (ch_FC I sh) sh s A M H locs) (hl : lv_has ls 4 [(0, .ref (sh 6)), (1, .int x1), (2, .int x2)]) : W p l e rm_X0_haveDivisorWith s m args below meth c H locs 0 0 Q (F0 m 42 ls []) := by
  obtain ⟨hx, hb, hml, hown, hts⟩ := id S
  unfold D_X0_haveDivisorWith_b42 at h
  refine lv_iinc (v := x2 + (1 : Int32)) (lv' := [(2, .int (x2 + (1 : Int32))), (0, .ref (sh 6)), (1, .int x1)]) hx hb dX0_haveDivisorWith_42 hl (k := 2) rfl rfl (by decide) rfl (fun ls hl => ?_)
  refine lv_goto (tgt := 2) hx hb dX0_haveDivisorWith_45 (by decide) ?_
  exact hk2 _ _ _ _ _ _  h hw (lv_sub hl [1, 2, 0] rfl)
set_option maxHeartbeats 4000000 in
set_option maxRecDepth 100000 in
theorem t_X0_haveDivisorWith_9 {p : Program} {l : Launch} {e : Env} {s : State} {m : MethodId} {args : Array Value} {below : List Frame} {meth : Method} {c : Code} {Q : State → Prop} {D : va_G} {I : ch_Id} {sh : Nat → Nat} {A : Nat → Prop} {oo : Int32 × ch_Mem}    {k2 : Int32 → Int32 → ch_Mem → Option (Int32 × ch_Mem)} {k9 : Int32 → Int32 → Int32 → ch_Mem → Option (Int32 × ch_Mem)} (S : CallFix p m c cX0_haveDivisorWith 4 s args wsX0_haveDivisorWith RX0) (fin : ch_FinZ p l e rm_X0_haveDivisorWith s m args below meth c cX0_haveDivisorWith Q D I 40 (ch_FC I sh) sh A oo) (hk2 : ∀ (x1 : Int32) (x2 : Int32) (M : ch_Mem) (H : Heap) (locs : List Loc) (ls : Array Slot), k2 x1 x2 M = some oo → ch_Wd D I 40 (ch_FC I sh) sh s A M H locs → lv_has ls 4 [(0, .ref (sh 6)), (1, .int x1), (2, .int x2)] → W p l e rm_X0_haveDivisorWith s m args below meth c H locs 0 0 Q (F0 m 2 ls [])) (hk9 : ∀ (x1 : Int32) (x2 : Int32) (x3 : Int32) (M : ch_Mem) (H : Heap) (locs : List Loc) (ls : Array Slot), k9 x1 x2 x3 M = some oo → ch_Wd D I 40 (ch_FC I sh) sh s A M H locs → lv_has ls 4 [(0, .ref (sh 6)), (1, .int x1), (2, .int x2), (3, .int x3)] → W p l e rm_X0_haveDivisorWith s m args below meth c H locs 0 0 Q (F0 m 9 ls [])) {x1 : Int32} {x2 : Int32} {x3 : Int32}  {M : ch_Mem} {H : Heap} {locs : List Loc} {ls : Array Slot} (h : D_X0_haveDivisorWith_b9 k2 k9 x1 x2 x3 M = some oo) (hw : ch_Wd D I 40 (ch_FC I sh) sh s A M H locs) (hl : lv_has ls 4 [(0, .ref (sh 6)), (1, .int x1), (2, .int x2), (3, .int x3)]) : W p l e rm_X0_haveDivisorWith s m args below meth c H locs 0 0 Q (F0 m 9 ls []) := by
  obtain ⟨hx, hb, hml, hown, hts⟩ := id S
  unfold D_X0_haveDivisorWith_b9 at h
  refine lv_iload_n hx hb dX0_haveDivisorWith_9 rfl (lv_at hl 3 rfl) ?_
  refine lv_aload_n hx hb dX0_haveDivisorWith_10 rfl (lv_at hl 0 rfl) ?_
  refine ch_get S hw 6 (by decide) rfl rfl (by decide +kernel) 2 (by decide) (hts (.fieldLink RX0 18 "CodeHunt$Lengths" "size" "I") (by decide +kernel)) rfl dX0_haveDivisorWith_11 ?_
  refine ch_icmp_ge (tgt := 42) hx hb dX0_haveDivisorWith_14 (by decide) h (fun h => ?_) (fun h => ?_)
  · exact t_X0_haveDivisorWith_42 S fin hk2 h hw (lv_sub hl [0, 1, 2] rfl)
  · refine lv_iload_n hx hb dX0_haveDivisorWith_17 rfl (lv_at hl 1 rfl) ?_
    refine lv_iload_n hx hb dX0_haveDivisorWith_18 rfl (lv_at hl 2 rfl) ?_
    refine ch_g0_k h (fun hne h => ?_)
    refine lv_irem hx hb dX0_haveDivisorWith_19 hne ?_
    refine ch_if_ne (tgt := 36) hx hb dX0_haveDivisorWith_20 (by decide) h (fun h => ?_) (fun h => ?_)
    · exact t_X0_haveDivisorWith_36 S fin hk2 hk9 h hw (lv_sub hl [0, 1, 2, 3] rfl)
    · refine lv_aload_n hx hb dX0_haveDivisorWith_23 rfl (lv_at hl 0 rfl) ?_
      refine ch_get S hw 6 (by decide) rfl rfl (by decide +kernel) 0 (by decide) (hts (.fieldLink RX0 9 "CodeHunt$Lengths" "lengthOf" "[I") (by decide +kernel)) rfl dX0_haveDivisorWith_24 ?_
      refine lv_iload_n hx hb dX0_haveDivisorWith_27 rfl (lv_at hl 3 rfl) ?_
      refine ch_gd_k h (fun hin h => ?_)
      refine ch_iald S hw 38 (by decide) rfl hin dX0_haveDivisorWith_28 ?_
      refine lv_iload_n hx hb dX0_haveDivisorWith_29 rfl (lv_at hl 2 rfl) ?_
      refine ch_g0_k h (fun hne h => ?_)
      refine lv_irem hx hb dX0_haveDivisorWith_30 hne ?_
      refine ch_if_ne (tgt := 36) hx hb dX0_haveDivisorWith_31 (by decide) h (fun h => ?_) (fun h => ?_)
      · exact t_X0_haveDivisorWith_36 S fin hk2 hk9 h hw (lv_sub hl [0, 1, 2, 3] rfl)
      · refine lv_iconst (v := (1 : Int32)) hx hb dX0_haveDivisorWith_34 (by decide) ?_
        exact fin _ _ _ _ _ _ rfl h hw dX0_haveDivisorWith_35
set_option maxHeartbeats 4000000 in
set_option maxRecDepth 100000 in
theorem tl_X0_haveDivisorWith_9 {p : Program} {l : Launch} {e : Env} {s : State} {m : MethodId} {args : Array Value} {below : List Frame} {meth : Method} {c : Code} {Q : State → Prop} {D : va_G} {I : ch_Id} {sh : Nat → Nat} {A : Nat → Prop} {oo : Int32 × ch_Mem}    {k2 : Int32 → Int32 → ch_Mem → Option (Int32 × ch_Mem)} (S : CallFix p m c cX0_haveDivisorWith 4 s args wsX0_haveDivisorWith RX0) (fin : ch_FinZ p l e rm_X0_haveDivisorWith s m args below meth c cX0_haveDivisorWith Q D I 40 (ch_FC I sh) sh A oo) (hk2 : ∀ (x1 : Int32) (x2 : Int32) (M : ch_Mem) (H : Heap) (locs : List Loc) (ls : Array Slot), k2 x1 x2 M = some oo → ch_Wd D I 40 (ch_FC I sh) sh s A M H locs → lv_has ls 4 [(0, .ref (sh 6)), (1, .int x1), (2, .int x2)] → W p l e rm_X0_haveDivisorWith s m args below meth c H locs 0 0 Q (F0 m 2 ls [])) (n : Nat) : ∀ (x1 : Int32) (x2 : Int32) (x3 : Int32) (M : ch_Mem) (H : Heap) (locs : List Loc) (ls : Array Slot), D_X0_haveDivisorWith_L9 k2 n x1 x2 x3 M = some oo → ch_Wd D I 40 (ch_FC I sh) sh s A M H locs → lv_has ls 4 [(0, .ref (sh 6)), (1, .int x1), (2, .int x2), (3, .int x3)] → W p l e rm_X0_haveDivisorWith s m args below meth c H locs 0 0 Q (F0 m 9 ls []) := by
  induction n with
  | zero => intro x1 x2 x3 M H locs ls  h; cases h
  | succ n ih =>
    intro x1 x2 x3 M H locs ls  h hw hl
    exact t_X0_haveDivisorWith_9 S fin hk2 ih h hw hl
set_option maxHeartbeats 4000000 in
set_option maxRecDepth 100000 in
theorem t_X0_haveDivisorWith_2 {p : Program} {l : Launch} {e : Env} {s : State} {m : MethodId} {args : Array Value} {below : List Frame} {meth : Method} {c : Code} {Q : State → Prop} {D : va_G} {I : ch_Id} {sh : Nat → Nat} {A : Nat → Prop} {oo : Int32 × ch_Mem}    {k2 : Int32 → Int32 → ch_Mem → Option (Int32 × ch_Mem)} (S : CallFix p m c cX0_haveDivisorWith 4 s args wsX0_haveDivisorWith RX0) (fin : ch_FinZ p l e rm_X0_haveDivisorWith s m args below meth c cX0_haveDivisorWith Q D I 40 (ch_FC I sh) sh A oo) (hk2 : ∀ (x1 : Int32) (x2 : Int32) (M : ch_Mem) (H : Heap) (locs : List Loc) (ls : Array Slot), k2 x1 x2 M = some oo → ch_Wd D I 40 (ch_FC I sh) sh s A M H locs → lv_has ls 4 [(0, .ref (sh 6)), (1, .int x1), (2, .int x2)] → W p l e rm_X0_haveDivisorWith s m args below meth c H locs 0 0 Q (F0 m 2 ls [])) {x1 : Int32} {x2 : Int32}  {M : ch_Mem} {H : Heap} {locs : List Loc} {ls : Array Slot} (h : D_X0_haveDivisorWith_b2 k2 x1 x2 M = some oo) (hw : ch_Wd D I 40 (ch_FC I sh) sh s A M H locs) (hl : lv_has ls 4 [(0, .ref (sh 6)), (1, .int x1), (2, .int x2)]) : W p l e rm_X0_haveDivisorWith s m args below meth c H locs 0 0 Q (F0 m 2 ls []) := by
  obtain ⟨hx, hb, hml, hown, hts⟩ := id S
  unfold D_X0_haveDivisorWith_b2 at h
  refine lv_iload_n hx hb dX0_haveDivisorWith_2 rfl (lv_at hl 2 rfl) ?_
  refine lv_iload_n hx hb dX0_haveDivisorWith_3 rfl (lv_at hl 1 rfl) ?_
  refine ch_icmp_gt (tgt := 48) hx hb dX0_haveDivisorWith_4 (by decide) h (fun h => ?_) (fun h => ?_)
  · refine lv_iconst (v := (0 : Int32)) hx hb dX0_haveDivisorWith_48 (by decide) ?_
    exact fin _ _ _ _ _ _ rfl h hw dX0_haveDivisorWith_49
  · refine lv_iconst (v := (0 : Int32)) hx hb dX0_haveDivisorWith_7 (by decide) ?_
    refine lv_istore_n (lv' := [(3, .int (0 : Int32)), (0, .ref (sh 6)), (1, .int x1), (2, .int x2)]) hx hb dX0_haveDivisorWith_8 rfl hl (by decide) rfl (fun ls hl => ?_)
    exact tl_X0_haveDivisorWith_9 S fin hk2 ch_fu _ _ _ _ _ _ _ h hw (lv_sub hl [1, 2, 3, 0] rfl)
set_option maxHeartbeats 4000000 in
set_option maxRecDepth 100000 in
theorem tl_X0_haveDivisorWith_2 {p : Program} {l : Launch} {e : Env} {s : State} {m : MethodId} {args : Array Value} {below : List Frame} {meth : Method} {c : Code} {Q : State → Prop} {D : va_G} {I : ch_Id} {sh : Nat → Nat} {A : Nat → Prop} {oo : Int32 × ch_Mem}     (S : CallFix p m c cX0_haveDivisorWith 4 s args wsX0_haveDivisorWith RX0) (fin : ch_FinZ p l e rm_X0_haveDivisorWith s m args below meth c cX0_haveDivisorWith Q D I 40 (ch_FC I sh) sh A oo)  (n : Nat) : ∀ (x1 : Int32) (x2 : Int32) (M : ch_Mem) (H : Heap) (locs : List Loc) (ls : Array Slot), D_X0_haveDivisorWith_L2  n x1 x2 M = some oo → ch_Wd D I 40 (ch_FC I sh) sh s A M H locs → lv_has ls 4 [(0, .ref (sh 6)), (1, .int x1), (2, .int x2)] → W p l e rm_X0_haveDivisorWith s m args below meth c H locs 0 0 Q (F0 m 2 ls []) := by
  induction n with
  | zero => intro x1 x2 M H locs ls  h; cases h
  | succ n ih =>
    intro x1 x2 M H locs ls  h hw hl
    exact t_X0_haveDivisorWith_2 S fin ih h hw hl
set_option maxHeartbeats 4000000 in
set_option maxRecDepth 100000 in
theorem t_X0_haveDivisorWith_0 {p : Program} {l : Launch} {e : Env} {s : State} {m : MethodId} {args : Array Value} {below : List Frame} {meth : Method} {c : Code} {Q : State → Prop} {D : va_G} {I : ch_Id} {sh : Nat → Nat} {A : Nat → Prop} {oo : Int32 × ch_Mem}     (S : CallFix p m c cX0_haveDivisorWith 4 s args wsX0_haveDivisorWith RX0) (fin : ch_FinZ p l e rm_X0_haveDivisorWith s m args below meth c cX0_haveDivisorWith Q D I 40 (ch_FC I sh) sh A oo)  {x1 : Int32}  {M : ch_Mem} {H : Heap} {locs : List Loc} {ls : Array Slot} (h : D_X0_haveDivisorWith x1 M = some oo) (hw : ch_Wd D I 40 (ch_FC I sh) sh s A M H locs) (hl : lv_has ls 4 [(0, .ref (sh 6)), (1, .int x1)]) : W p l e rm_X0_haveDivisorWith s m args below meth c H locs 0 0 Q (F0 m 0 ls []) := by
  obtain ⟨hx, hb, hml, hown, hts⟩ := id S
  unfold D_X0_haveDivisorWith at h
  refine lv_iconst (v := (2 : Int32)) hx hb dX0_haveDivisorWith_0 (by decide) ?_
  refine lv_istore_n (lv' := [(2, .int (2 : Int32)), (0, .ref (sh 6)), (1, .int x1)]) hx hb dX0_haveDivisorWith_1 rfl hl (by decide) rfl (fun ls hl => ?_)
  exact tl_X0_haveDivisorWith_2 S fin ch_fu _ _ _ _ _ _ h hw (lv_sub hl [1, 2, 0] rfl)
set_option maxHeartbeats 4000000 in
set_option maxRecDepth 100000 in
theorem c_X0_haveDivisorWith (l : Launch) (D : va_G) (I : ch_Id) (sh : Nat → Nat) (sz : Nat) (M : ch_Mem)  (x1 : Int32) {r : Int32} {M1 : ch_Mem} (h : D_X0_haveDivisorWith x1 M = some (r, M1)) : Met l yX0_haveDivisorWith wsX0_haveDivisorWith rm_X0_haveDivisorWith (va_Pc [.ref (sh 6), .int x1] (ch_Pre D I 40 (ch_FC I sh) sh sz M)) (va_Qi (fun r' (u : ch_Mem) => r' = r ∧ u = M1) (ch_Pos D 40 (ch_FC I sh) sh) (ch_A 40 sh sz)) 0 0 (ch_A 40 sh sz) := by
  refine Met.ofW (cc := cX0_haveDivisorWith) (maxL := 4) (ret := (some .boolean)) (by decide) rfl ?_
  intro p e s m args below meth c s₁ B hml hv0
  obtain ⟨rfl, hv0⟩ := hv0
  obtain rfl : s.heap.size = sz := hv0.1
  have hw := ch_start hv0
  have S : CallFix p m c cX0_haveDivisorWith 4 s _ wsX0_haveDivisorWith RX0 := ⟨B.exec, B.bytes, hml, findClass_of_methodNamed B.named, atoms_spec (ws := wsX0_haveDivisorWith) B.pre⟩
  have hl := lv_entry ([.ref (sh 6), .int x1]) (n := 4) (Nat.le_of_ble_eq_true rfl)
  rw [lg_entry_eq]
  generalize (lg_sl ([.ref (sh 6), .int x1]) ++ List.replicate (4 - (lg_sl ([.ref (sh 6), .int x1])).length) Slot.unset).toArray = ls at hl ⊢
  exact t_X0_haveDivisorWith_0 S (ch_finZ B.exec B.bytes B.returns B.notSynchronized) h hw (lv_sub hl [0, 1] rfl)
set_option maxHeartbeats 4000000 in
set_option maxRecDepth 100000 in
theorem t_X0_howManyFit_25 {p : Program} {l : Launch} {e : Env} {s : State} {m : MethodId} {args : Array Value} {below : List Frame} {meth : Method} {c : Code} {Q : State → Prop} {D : va_G} {I : ch_Id} {sh : Nat → Nat} {A : Nat → Prop} {oo : Int32 × ch_Mem}    {k4 : Int32 → Int32 → Int32 → ch_Mem → Option (Int32 × ch_Mem)} (S : CallFix p m c cX0_howManyFit 4 s args wsX0_howManyFit RX0) (fin : ch_FinI p l e rm_X0_howManyFit s m args below meth c cX0_howManyFit Q D I 40 (ch_FC I sh) sh A oo) (hk4 : ∀ (x1 : Int32) (x2 : Int32) (x3 : Int32) (M : ch_Mem) (H : Heap) (locs : List Loc) (ls : Array Slot), k4 x1 x2 x3 M = some oo → ch_Wd D I 40 (ch_FC I sh) sh s A M H locs → lv_has ls 4 [(0, .ref (sh 6)), (1, .int x1), (2, .int x2), (3, .int x3)] → W p l e rm_X0_howManyFit s m args below meth c H locs 0 0 Q (F0 m 4 ls [])) {x1 : Int32} {x2 : Int32} {x3 : Int32}  {M : ch_Mem} {H : Heap} {locs : List Loc} {ls : Array Slot} (h : D_X0_howManyFit_b25 k4 x1 x2 x3 M = some oo) (hw : ch_Wd D I 40 (ch_FC I sh) sh s A M H locs) (hl : lv_has ls 4 [(0, .ref (sh 6)), (1, .int x1), (2, .int x2), (3, .int x3)]) : W p l e rm_X0_howManyFit s m args below meth c H locs 0 0 Q (F0 m 25 ls []) := by
  obtain ⟨hx, hb, hml, hown, hts⟩ := id S
  unfold D_X0_howManyFit_b25 at h
  refine lv_iinc (v := x3 + (1 : Int32)) (lv' := [(3, .int (x3 + (1 : Int32))), (0, .ref (sh 6)), (1, .int x1), (2, .int x2)]) hx hb dX0_howManyFit_25 hl (k := 3) rfl rfl (by decide) rfl (fun ls hl => ?_)
  refine lv_goto (tgt := 4) hx hb dX0_howManyFit_28 (by decide) ?_
  exact hk4 _ _ _ _ _ _ _  h hw (lv_sub hl [1, 2, 3, 0] rfl)
set_option maxHeartbeats 4000000 in
set_option maxRecDepth 100000 in
theorem t_X0_howManyFit_31 {p : Program} {l : Launch} {e : Env} {s : State} {m : MethodId} {args : Array Value} {below : List Frame} {meth : Method} {c : Code} {Q : State → Prop} {D : va_G} {I : ch_Id} {sh : Nat → Nat} {A : Nat → Prop} {oo : Int32 × ch_Mem}     (S : CallFix p m c cX0_howManyFit 4 s args wsX0_howManyFit RX0) (fin : ch_FinI p l e rm_X0_howManyFit s m args below meth c cX0_howManyFit Q D I 40 (ch_FC I sh) sh A oo)  {x2 : Int32}  {M : ch_Mem} {H : Heap} {locs : List Loc} {ls : Array Slot} (h : D_X0_howManyFit_b31 x2 M = some oo) (hw : ch_Wd D I 40 (ch_FC I sh) sh s A M H locs) (hl : lv_has ls 4 [(2, .int x2)]) : W p l e rm_X0_howManyFit s m args below meth c H locs 0 0 Q (F0 m 31 ls []) := by
  obtain ⟨hx, hb, hml, hown, hts⟩ := id S
  unfold D_X0_howManyFit_b31 at h
  refine lv_iload_n hx hb dX0_howManyFit_31 rfl (lv_at hl 0 rfl) ?_
  exact fin _ _ _ _ _ _ h hw dX0_howManyFit_32
set_option maxHeartbeats 4000000 in
set_option maxRecDepth 100000 in
theorem t_X0_howManyFit_4 {p : Program} {l : Launch} {e : Env} {s : State} {m : MethodId} {args : Array Value} {below : List Frame} {meth : Method} {c : Code} {Q : State → Prop} {D : va_G} {I : ch_Id} {sh : Nat → Nat} {A : Nat → Prop} {oo : Int32 × ch_Mem}    {k4 : Int32 → Int32 → Int32 → ch_Mem → Option (Int32 × ch_Mem)} (S : CallFix p m c cX0_howManyFit 4 s args wsX0_howManyFit RX0) (fin : ch_FinI p l e rm_X0_howManyFit s m args below meth c cX0_howManyFit Q D I 40 (ch_FC I sh) sh A oo) (hk4 : ∀ (x1 : Int32) (x2 : Int32) (x3 : Int32) (M : ch_Mem) (H : Heap) (locs : List Loc) (ls : Array Slot), k4 x1 x2 x3 M = some oo → ch_Wd D I 40 (ch_FC I sh) sh s A M H locs → lv_has ls 4 [(0, .ref (sh 6)), (1, .int x1), (2, .int x2), (3, .int x3)] → W p l e rm_X0_howManyFit s m args below meth c H locs 0 0 Q (F0 m 4 ls [])) {x1 : Int32} {x2 : Int32} {x3 : Int32}  {M : ch_Mem} {H : Heap} {locs : List Loc} {ls : Array Slot} (h : D_X0_howManyFit_b4 k4 x1 x2 x3 M = some oo) (hw : ch_Wd D I 40 (ch_FC I sh) sh s A M H locs) (hl : lv_has ls 4 [(0, .ref (sh 6)), (1, .int x1), (2, .int x2), (3, .int x3)]) : W p l e rm_X0_howManyFit s m args below meth c H locs 0 0 Q (F0 m 4 ls []) := by
  obtain ⟨hx, hb, hml, hown, hts⟩ := id S
  unfold D_X0_howManyFit_b4 at h
  refine lv_iload_n hx hb dX0_howManyFit_4 rfl (lv_at hl 3 rfl) ?_
  refine lv_aload_n hx hb dX0_howManyFit_5 rfl (lv_at hl 0 rfl) ?_
  refine ch_get S hw 6 (by decide) rfl rfl (by decide +kernel) 2 (by decide) (hts (.fieldLink RX0 18 "CodeHunt$Lengths" "size" "I") (by decide +kernel)) rfl dX0_howManyFit_6 ?_
  refine ch_icmp_ge (tgt := 31) hx hb dX0_howManyFit_9 (by decide) h (fun h => ?_) (fun h => ?_)
  · exact t_X0_howManyFit_31 S fin h hw (lv_sub hl [2] rfl)
  · refine lv_aload_n hx hb dX0_howManyFit_12 rfl (lv_at hl 0 rfl) ?_
    refine lv_iload_n hx hb dX0_howManyFit_13 rfl (lv_at hl 1 rfl) ?_
    refine lv_i2l hx hb dX0_howManyFit_14 rfl ?_
    refine lv_iload_n hx hb dX0_howManyFit_15 rfl (lv_at hl 3 rfl) ?_
    refine ch_bd_k h (fun r1 M2 hc h => ?_)
    refine ch_ci hw (va_runV (As := [.long x1.toInt64, .int x3]) (rest := []) S (c_X0_fits l D I sh H.size M x1.toInt64 x3 hc) (cwV 2 hts gX0_howManyFit_X0_fits rfl rfl rfl (by decide +kernel) ⟨Nat.le_of_ble_eq_true rfl, Nat.le_of_ble_eq_true rfl⟩) (ch_pV hw (by decide) rfl rfl rfl) rfl rfl hl.1 rfl (lv_room (Nat.le_of_ble_eq_true rfl)) dX0_howManyFit_16 ⟨Nat.le_refl 0, Nat.le_refl 0⟩) (fun H locs hw => ?_)
    refine ch_if_eq (tgt := 25) hx hb dX0_howManyFit_19 (by decide) h (fun h => ?_) (fun h => ?_)
    · exact t_X0_howManyFit_25 S fin hk4 h hw (lv_sub hl [0, 1, 2, 3] rfl)
    · refine lv_iinc (v := x2 + (1 : Int32)) (lv' := [(2, .int (x2 + (1 : Int32))), (0, .ref (sh 6)), (1, .int x1), (3, .int x3)]) hx hb dX0_howManyFit_22 hl (k := 2) rfl rfl (by decide) rfl (fun ls hl => ?_)
      exact t_X0_howManyFit_25 S fin hk4 h hw (lv_sub hl [1, 2, 0, 3] rfl)
set_option maxHeartbeats 4000000 in
set_option maxRecDepth 100000 in
theorem tl_X0_howManyFit_4 {p : Program} {l : Launch} {e : Env} {s : State} {m : MethodId} {args : Array Value} {below : List Frame} {meth : Method} {c : Code} {Q : State → Prop} {D : va_G} {I : ch_Id} {sh : Nat → Nat} {A : Nat → Prop} {oo : Int32 × ch_Mem}     (S : CallFix p m c cX0_howManyFit 4 s args wsX0_howManyFit RX0) (fin : ch_FinI p l e rm_X0_howManyFit s m args below meth c cX0_howManyFit Q D I 40 (ch_FC I sh) sh A oo)  (n : Nat) : ∀ (x1 : Int32) (x2 : Int32) (x3 : Int32) (M : ch_Mem) (H : Heap) (locs : List Loc) (ls : Array Slot), D_X0_howManyFit_L4  n x1 x2 x3 M = some oo → ch_Wd D I 40 (ch_FC I sh) sh s A M H locs → lv_has ls 4 [(0, .ref (sh 6)), (1, .int x1), (2, .int x2), (3, .int x3)] → W p l e rm_X0_howManyFit s m args below meth c H locs 0 0 Q (F0 m 4 ls []) := by
  induction n with
  | zero => intro x1 x2 x3 M H locs ls  h; cases h
  | succ n ih =>
    intro x1 x2 x3 M H locs ls  h hw hl
    exact t_X0_howManyFit_4 S fin ih h hw hl
set_option maxHeartbeats 4000000 in
set_option maxRecDepth 100000 in
theorem t_X0_howManyFit_0 {p : Program} {l : Launch} {e : Env} {s : State} {m : MethodId} {args : Array Value} {below : List Frame} {meth : Method} {c : Code} {Q : State → Prop} {D : va_G} {I : ch_Id} {sh : Nat → Nat} {A : Nat → Prop} {oo : Int32 × ch_Mem}     (S : CallFix p m c cX0_howManyFit 4 s args wsX0_howManyFit RX0) (fin : ch_FinI p l e rm_X0_howManyFit s m args below meth c cX0_howManyFit Q D I 40 (ch_FC I sh) sh A oo)  {x1 : Int32}  {M : ch_Mem} {H : Heap} {locs : List Loc} {ls : Array Slot} (h : D_X0_howManyFit x1 M = some oo) (hw : ch_Wd D I 40 (ch_FC I sh) sh s A M H locs) (hl : lv_has ls 4 [(0, .ref (sh 6)), (1, .int x1)]) : W p l e rm_X0_howManyFit s m args below meth c H locs 0 0 Q (F0 m 0 ls []) := by
  obtain ⟨hx, hb, hml, hown, hts⟩ := id S
  unfold D_X0_howManyFit at h
  refine lv_iconst (v := (0 : Int32)) hx hb dX0_howManyFit_0 (by decide) ?_
  refine lv_istore_n (lv' := [(2, .int (0 : Int32)), (0, .ref (sh 6)), (1, .int x1)]) hx hb dX0_howManyFit_1 rfl hl (by decide) rfl (fun ls hl => ?_)
  refine lv_iconst (v := (0 : Int32)) hx hb dX0_howManyFit_2 (by decide) ?_
  refine lv_istore_n (lv' := [(3, .int (0 : Int32)), (2, .int (0 : Int32)), (0, .ref (sh 6)), (1, .int x1)]) hx hb dX0_howManyFit_3 rfl hl (by decide) rfl (fun ls hl => ?_)
  exact tl_X0_howManyFit_4 S fin ch_fu _ _ _ _ _ _ _ h hw (lv_sub hl [2, 3, 1, 0] rfl)
set_option maxHeartbeats 4000000 in
set_option maxRecDepth 100000 in
theorem c_X0_howManyFit (l : Launch) (D : va_G) (I : ch_Id) (sh : Nat → Nat) (sz : Nat) (M : ch_Mem)  (x1 : Int32) {r : Int32} {M1 : ch_Mem} (h : D_X0_howManyFit x1 M = some (r, M1)) : Met l yX0_howManyFit wsX0_howManyFit rm_X0_howManyFit (va_Pc [.ref (sh 6), .int x1] (ch_Pre D I 40 (ch_FC I sh) sh sz M)) (va_Qi (fun r' (u : ch_Mem) => r' = r ∧ u = M1) (ch_Pos D 40 (ch_FC I sh) sh) (ch_A 40 sh sz)) 0 0 (ch_A 40 sh sz) := by
  refine Met.ofW (cc := cX0_howManyFit) (maxL := 4) (ret := (some .int)) (by decide) rfl ?_
  intro p e s m args below meth c s₁ B hml hv0
  obtain ⟨rfl, hv0⟩ := hv0
  obtain rfl : s.heap.size = sz := hv0.1
  have hw := ch_start hv0
  have S : CallFix p m c cX0_howManyFit 4 s _ wsX0_howManyFit RX0 := ⟨B.exec, B.bytes, hml, findClass_of_methodNamed B.named, atoms_spec (ws := wsX0_howManyFit) B.pre⟩
  have hl := lv_entry ([.ref (sh 6), .int x1]) (n := 4) (Nat.le_of_ble_eq_true rfl)
  rw [lg_entry_eq]
  generalize (lg_sl ([.ref (sh 6), .int x1]) ++ List.replicate (4 - (lg_sl ([.ref (sh 6), .int x1])).length) Slot.unset).toArray = ls at hl ⊢
  exact t_X0_howManyFit_0 S (ch_finI (B := fun _ => True) B.exec B.bytes B.returns B.notSynchronized) h hw (lv_sub hl [0, 1] rfl)
set_option maxHeartbeats 4000000 in
set_option maxRecDepth 100000 in
theorem t_X0_keep_0 {p : Program} {l : Launch} {e : Env} {s : State} {m : MethodId} {args : Array Value} {below : List Frame} {meth : Method} {c : Code} {Q : State → Prop} {D : va_G} {I : ch_Id} {sh : Nat → Nat} {A : Nat → Prop} {oo : Unit × ch_Mem}     (S : CallFix p m c cX0_keep 3 s args wsX0_keep RX0) (fin : ch_FinV p l e rm_X0_keep s m args below meth c cX0_keep Q D I 40 (ch_FC I sh) sh A oo)  {x1 : Int32} {x2 : Int32}  {M : ch_Mem} {H : Heap} {locs : List Loc} {ls : Array Slot} (h : D_X0_keep x1 x2 M = some oo) (hw : ch_Wd D I 40 (ch_FC I sh) sh s A M H locs) (hl : lv_has ls 3 [(0, .ref (sh 6)), (1, .int x1), (2, .int x2)]) : W p l e rm_X0_keep s m args below meth c H locs 0 0 Q (F0 m 0 ls []) := by
  obtain ⟨hx, hb, hml, hown, hts⟩ := id S
  unfold D_X0_keep at h
  refine lv_aload_n hx hb dX0_keep_0 rfl (lv_at hl 0 rfl) ?_
  refine ch_get S hw 6 (by decide) rfl rfl (by decide +kernel) 2 (by decide) (hts (.fieldLink RX0 18 "CodeHunt$Lengths" "size" "I") (by decide +kernel)) rfl dX0_keep_1 ?_
  refine lv_iconst (v := (5 : Int32)) hx hb dX0_keep_4 (by decide) ?_
  refine ch_icmp_ge (tgt := 38) hx hb dX0_keep_5 (by decide) h (fun h => ?_) (fun h => ?_)
  · exact fin _ _ _ _ _ h hw dX0_keep_38
  · refine lv_aload_n hx hb dX0_keep_8 rfl (lv_at hl 0 rfl) ?_
    refine ch_get S hw 6 (by decide) rfl rfl (by decide +kernel) 0 (by decide) (hts (.fieldLink RX0 9 "CodeHunt$Lengths" "lengthOf" "[I") (by decide +kernel)) rfl dX0_keep_9 ?_
    refine lv_aload_n hx hb dX0_keep_12 rfl (lv_at hl 0 rfl) ?_
    refine ch_get S hw 6 (by decide) rfl rfl (by decide +kernel) 2 (by decide) (hts (.fieldLink RX0 18 "CodeHunt$Lengths" "size" "I") (by decide +kernel)) rfl dX0_keep_13 ?_
    refine lv_iload_n hx hb dX0_keep_16 rfl (lv_at hl 1 rfl) ?_
    refine ch_gd_k h (fun hin h => ?_)
    refine ch_iast S hw 38 (by decide) (fun _ => rfl) hin dX0_keep_17 (fun H locs hw => ?_)
    refine lv_aload_n hx hb dX0_keep_18 rfl (lv_at hl 0 rfl) ?_
    refine ch_get S hw 6 (by decide) rfl rfl (by decide +kernel) 1 (by decide) (hts (.fieldLink RX0 15 "CodeHunt$Lengths" "shiftOf" "[I") (by decide +kernel)) rfl dX0_keep_19 ?_
    refine lv_aload_n hx hb dX0_keep_22 rfl (lv_at hl 0 rfl) ?_
    refine ch_get S hw 6 (by decide) rfl rfl (by decide +kernel) 2 (by decide) (hts (.fieldLink RX0 18 "CodeHunt$Lengths" "size" "I") (by decide +kernel)) rfl dX0_keep_23 ?_
    refine lv_iload_n hx hb dX0_keep_26 rfl (lv_at hl 2 rfl) ?_
    refine ch_gd_k h (fun hin h => ?_)
    refine ch_iast S hw 39 (by decide) (fun _ => rfl) hin dX0_keep_27 (fun H locs hw => ?_)
    refine lv_aload_n hx hb dX0_keep_28 rfl (lv_at hl 0 rfl) ?_
    refine lv_dup hx hb dX0_keep_29 rfl ?_
    refine ch_get S hw 6 (by decide) rfl rfl (by decide +kernel) 2 (by decide) (hts (.fieldLink RX0 18 "CodeHunt$Lengths" "size" "I") (by decide +kernel)) rfl dX0_keep_30 ?_
    refine lv_iconst (v := (1 : Int32)) hx hb dX0_keep_33 (by decide) ?_
    refine lv_iadd hx hb dX0_keep_34 ?_
    refine ch_put (M1 := ch_wI (ch_wI (ch_wI M 38 (M.1 6 2).toNatClampNeg x1) 39 ((ch_wI M 38 (M.1 6 2).toNatClampNeg x1).1 6 2).toNatClampNeg x2) 6 2 (((ch_wI (ch_wI M 38 (M.1 6 2).toNatClampNeg x1) 39 ((ch_wI M 38 (M.1 6 2).toNatClampNeg x1).1 6 2).toNatClampNeg x2).1 6 2) + (1 : Int32))) (ty := .int) S hw 6 (by decide) rfl rfl (by decide +kernel) tyX0 tyX0_ok nmX0 2 (by decide) (hts (.fieldLink RX0 18 "CodeHunt$Lengths" "size" "I") (by decide +kernel)) rfl (by decide +kernel) rfl rfl (Nat.le_of_ble_eq_true rfl) (ch_cf_wI (j := 2) (v := (((ch_wI (ch_wI M 38 (M.1 6 2).toNatClampNeg x1) 39 ((ch_wI M 38 (M.1 6 2).toNatClampNeg x1).1 6 2).toNatClampNeg x2).1 6 2) + (1 : Int32))) rfl) dX0_keep_35 (fun H locs hw => ?_)
    exact fin _ _ _ _ _ h hw dX0_keep_38
set_option maxHeartbeats 4000000 in
set_option maxRecDepth 100000 in
theorem c_X0_keep (l : Launch) (D : va_G) (I : ch_Id) (sh : Nat → Nat) (sz : Nat) (M : ch_Mem)  (x1 : Int32) (x2 : Int32) {M1 : ch_Mem} (h : D_X0_keep x1 x2 M = some ((), M1)) : Met l yX0_keep wsX0_keep rm_X0_keep (va_Pc [.ref (sh 6), .int x1, .int x2] (ch_Pre D I 40 (ch_FC I sh) sh sz M)) (va_Qv (fun (u : ch_Mem) => u = M1) (ch_Pos D 40 (ch_FC I sh) sh) (ch_A 40 sh sz)) 0 0 (ch_A 40 sh sz) := by
  refine Met.ofW (cc := cX0_keep) (maxL := 3) (ret := none) (by decide) rfl ?_
  intro p e s m args below meth c s₁ B hml hv0
  obtain ⟨rfl, hv0⟩ := hv0
  obtain rfl : s.heap.size = sz := hv0.1
  have hw := ch_start hv0
  have S : CallFix p m c cX0_keep 3 s _ wsX0_keep RX0 := ⟨B.exec, B.bytes, hml, findClass_of_methodNamed B.named, atoms_spec (ws := wsX0_keep) B.pre⟩
  have hl := lv_entry ([.ref (sh 6), .int x1, .int x2]) (n := 3) (Nat.le_of_ble_eq_true rfl)
  rw [lg_entry_eq]
  generalize (lg_sl ([.ref (sh 6), .int x1, .int x2]) ++ List.replicate (3 - (lg_sl ([.ref (sh 6), .int x1, .int x2])).length) Slot.unset).toArray = ls at hl ⊢
  exact t_X0_keep_0 S (ch_finV B.exec B.bytes B.returns B.notSynchronized) h hw (lv_sub hl [0, 1, 2] rfl)
set_option maxHeartbeats 4000000 in
set_option maxRecDepth 100000 in
theorem t_X0_leastFitting_51 {p : Program} {l : Launch} {e : Env} {s : State} {m : MethodId} {args : Array Value} {below : List Frame} {meth : Method} {c : Code} {Q : State → Prop} {D : va_G} {I : ch_Id} {sh : Nat → Nat} {A : Nat → Prop} {oo : Int64 × ch_Mem}    {k7 : Int64 → Int64 → Int32 → ch_Mem → Option (Int64 × ch_Mem)} (S : CallFix p m c cX0_leastFitting 7 s args wsX0_leastFitting RX0) (fin : ch_FinL p l e rm_X0_leastFitting s m args below meth c cX0_leastFitting Q D I 40 (ch_FC I sh) sh A oo) (hk7 : ∀ (x1 : Int64) (x3 : Int64) (x5 : Int32) (M : ch_Mem) (H : Heap) (locs : List Loc) (ls : Array Slot), k7 x1 x3 x5 M = some oo → ch_Wd D I 40 (ch_FC I sh) sh s A M H locs → lv_has ls 7 [(0, .ref (sh 6)), (1, .long x1), (3, .long x3), (5, .int x5)] → W p l e rm_X0_leastFitting s m args below meth c H locs 0 0 Q (F0 m 7 ls [])) {x1 : Int64} {x3 : Int64} {x5 : Int32}  {M : ch_Mem} {H : Heap} {locs : List Loc} {ls : Array Slot} (h : D_X0_leastFitting_b51 k7 x1 x3 x5 M = some oo) (hw : ch_Wd D I 40 (ch_FC I sh) sh s A M H locs) (hl : lv_has ls 7 [(0, .ref (sh 6)), (1, .long x1), (3, .long x3), (5, .int x5)]) : W p l e rm_X0_leastFitting s m args below meth c H locs 0 0 Q (F0 m 51 ls []) := by
  obtain ⟨hx, hb, hml, hown, hts⟩ := id S
  unfold D_X0_leastFitting_b51 at h
  refine lv_lload_n hx hb dX0_leastFitting_51 rfl (lv_at hl 2 rfl) ?_
  refine lv_aload_n hx hb dX0_leastFitting_52 rfl (lv_at hl 0 rfl) ?_
  refine ch_get S hw 6 (by decide) rfl rfl (by decide +kernel) 0 (by decide) (hts (.fieldLink RX0 9 "CodeHunt$Lengths" "lengthOf" "[I") (by decide +kernel)) rfl dX0_leastFitting_53 ?_
  refine lv_iload hx hb dX0_leastFitting_56 (lv_at hl 3 rfl) ?_
  refine ch_gd_k h (fun hin h => ?_)
  refine ch_iald S hw 38 (by decide) rfl hin dX0_leastFitting_58 ?_
  refine lv_i2l hx hb dX0_leastFitting_59 rfl ?_
  refine lv_lmul hx hb dX0_leastFitting_60 ?_
  refine lv_lstore_n (lv' := [(3, .long (x3 * ((M.1 38 x5.toNatClampNeg).toInt64))), (0, .ref (sh 6)), (1, .long x1), (5, .int x5)]) hx hb dX0_leastFitting_61 rfl hl (by decide) rfl (fun ls hl => ?_)
  refine lv_iinc (v := x5 + (1 : Int32)) (lv' := [(5, .int (x5 + (1 : Int32))), (3, .long (x3 * ((M.1 38 x5.toNatClampNeg).toInt64))), (0, .ref (sh 6)), (1, .long x1)]) hx hb dX0_leastFitting_62 hl (k := 3) rfl rfl (by decide) rfl (fun ls hl => ?_)
  refine lv_goto (tgt := 7) hx hb dX0_leastFitting_65 (by decide) ?_
  exact hk7 _ _ _ _ _ _ _  h hw (lv_sub hl [2, 3, 1, 0] rfl)
set_option maxHeartbeats 4000000 in
set_option maxRecDepth 100000 in
theorem t_X0_leastFitting_19 {p : Program} {l : Launch} {e : Env} {s : State} {m : MethodId} {args : Array Value} {below : List Frame} {meth : Method} {c : Code} {Q : State → Prop} {D : va_G} {I : ch_Id} {sh : Nat → Nat} {A : Nat → Prop} {oo : Int64 × ch_Mem}    {k7 : Int64 → Int64 → Int32 → ch_Mem → Option (Int64 × ch_Mem)} {k19 : Int64 → Int64 → Int32 → Int32 → ch_Mem → Option (Int64 × ch_Mem)} (S : CallFix p m c cX0_leastFitting 7 s args wsX0_leastFitting RX0) (fin : ch_FinL p l e rm_X0_leastFitting s m args below meth c cX0_leastFitting Q D I 40 (ch_FC I sh) sh A oo) (hk7 : ∀ (x1 : Int64) (x3 : Int64) (x5 : Int32) (M : ch_Mem) (H : Heap) (locs : List Loc) (ls : Array Slot), k7 x1 x3 x5 M = some oo → ch_Wd D I 40 (ch_FC I sh) sh s A M H locs → lv_has ls 7 [(0, .ref (sh 6)), (1, .long x1), (3, .long x3), (5, .int x5)] → W p l e rm_X0_leastFitting s m args below meth c H locs 0 0 Q (F0 m 7 ls [])) (hk19 : ∀ (x1 : Int64) (x3 : Int64) (x5 : Int32) (x6 : Int32) (M : ch_Mem) (H : Heap) (locs : List Loc) (ls : Array Slot), k19 x1 x3 x5 x6 M = some oo → ch_Wd D I 40 (ch_FC I sh) sh s A M H locs → lv_has ls 7 [(0, .ref (sh 6)), (1, .long x1), (3, .long x3), (5, .int x5), (6, .int x6)] → W p l e rm_X0_leastFitting s m args below meth c H locs 0 0 Q (F0 m 19 ls [])) {x1 : Int64} {x3 : Int64} {x5 : Int32} {x6 : Int32}  {M : ch_Mem} {H : Heap} {locs : List Loc} {ls : Array Slot} (h : D_X0_leastFitting_b19 k7 k19 x1 x3 x5 x6 M = some oo) (hw : ch_Wd D I 40 (ch_FC I sh) sh s A M H locs) (hl : lv_has ls 7 [(0, .ref (sh 6)), (1, .long x1), (3, .long x3), (5, .int x5), (6, .int x6)]) : W p l e rm_X0_leastFitting s m args below meth c H locs 0 0 Q (F0 m 19 ls []) := by
  obtain ⟨hx, hb, hml, hown, hts⟩ := id S
  unfold D_X0_leastFitting_b19 at h
  refine lv_iload hx hb dX0_leastFitting_19 (lv_at hl 4 rfl) ?_
  refine lv_aload_n hx hb dX0_leastFitting_21 rfl (lv_at hl 0 rfl) ?_
  refine ch_get S hw 6 (by decide) rfl rfl (by decide +kernel) 0 (by decide) (hts (.fieldLink RX0 9 "CodeHunt$Lengths" "lengthOf" "[I") (by decide +kernel)) rfl dX0_leastFitting_22 ?_
  refine lv_iload hx hb dX0_leastFitting_25 (lv_at hl 3 rfl) ?_
  refine ch_gd_k h (fun hin h => ?_)
  refine ch_iald S hw 38 (by decide) rfl hin dX0_leastFitting_27 ?_
  refine ch_icmp_ge (tgt := 51) hx hb dX0_leastFitting_28 (by decide) h (fun h => ?_) (fun h => ?_)
  · exact t_X0_leastFitting_51 S fin hk7 h hw (lv_sub hl [0, 1, 2, 3] rfl)
  · refine lv_aload_n hx hb dX0_leastFitting_31 rfl (lv_at hl 0 rfl) ?_
    refine lv_lload_n hx hb dX0_leastFitting_32 rfl (lv_at hl 1 rfl) ?_
    refine lv_iload hx hb dX0_leastFitting_33 (lv_at hl 3 rfl) ?_
    refine ch_bd_k h (fun r1 M2 hc h => ?_)
    refine ch_ci hw (va_runV (As := [.long x1, .int x5]) (rest := []) S (c_X0_fits l D I sh H.size M x1 x5 hc) (cwV 2 hts gX0_leastFitting_X0_fits rfl rfl rfl (by decide +kernel) ⟨Nat.le_of_ble_eq_true rfl, Nat.le_of_ble_eq_true rfl⟩) (ch_pV hw (by decide) rfl rfl rfl) rfl rfl hl.1 rfl (lv_room (Nat.le_of_ble_eq_true rfl)) dX0_leastFitting_35 ⟨Nat.le_refl 0, Nat.le_refl 0⟩) (fun H locs hw => ?_)
    refine ch_if_ne (tgt := 51) hx hb dX0_leastFitting_38 (by decide) h (fun h => ?_) (fun h => ?_)
    · exact t_X0_leastFitting_51 S fin hk7 h hw (lv_sub hl [0, 1, 2, 3] rfl)
    · refine lv_lload_n hx hb dX0_leastFitting_41 rfl (lv_at hl 1 rfl) ?_
      refine lv_lload_n hx hb dX0_leastFitting_42 rfl (lv_at hl 2 rfl) ?_
      refine lv_ladd hx hb dX0_leastFitting_43 ?_
      refine lv_lstore_n (lv' := [(1, .long (x1 + x3)), (0, .ref (sh 6)), (3, .long x3), (5, .int x5), (6, .int x6)]) hx hb dX0_leastFitting_44 rfl hl (by decide) rfl (fun ls hl => ?_)
      refine lv_iinc (v := x6 + (1 : Int32)) (lv' := [(6, .int (x6 + (1 : Int32))), (1, .long (x1 + x3)), (0, .ref (sh 6)), (3, .long x3), (5, .int x5)]) hx hb dX0_leastFitting_45 hl (k := 4) rfl rfl (by decide) rfl (fun ls hl => ?_)
      refine lv_goto (tgt := 19) hx hb dX0_leastFitting_48 (by decide) ?_
      exact hk19 _ _ _ _ _ _ _ _  h hw (lv_sub hl [2, 1, 3, 4, 0] rfl)
set_option maxHeartbeats 4000000 in
set_option maxRecDepth 100000 in
theorem tl_X0_leastFitting_19 {p : Program} {l : Launch} {e : Env} {s : State} {m : MethodId} {args : Array Value} {below : List Frame} {meth : Method} {c : Code} {Q : State → Prop} {D : va_G} {I : ch_Id} {sh : Nat → Nat} {A : Nat → Prop} {oo : Int64 × ch_Mem}    {k7 : Int64 → Int64 → Int32 → ch_Mem → Option (Int64 × ch_Mem)} (S : CallFix p m c cX0_leastFitting 7 s args wsX0_leastFitting RX0) (fin : ch_FinL p l e rm_X0_leastFitting s m args below meth c cX0_leastFitting Q D I 40 (ch_FC I sh) sh A oo) (hk7 : ∀ (x1 : Int64) (x3 : Int64) (x5 : Int32) (M : ch_Mem) (H : Heap) (locs : List Loc) (ls : Array Slot), k7 x1 x3 x5 M = some oo → ch_Wd D I 40 (ch_FC I sh) sh s A M H locs → lv_has ls 7 [(0, .ref (sh 6)), (1, .long x1), (3, .long x3), (5, .int x5)] → W p l e rm_X0_leastFitting s m args below meth c H locs 0 0 Q (F0 m 7 ls [])) (n : Nat) : ∀ (x1 : Int64) (x3 : Int64) (x5 : Int32) (x6 : Int32) (M : ch_Mem) (H : Heap) (locs : List Loc) (ls : Array Slot), D_X0_leastFitting_L19 k7 n x1 x3 x5 x6 M = some oo → ch_Wd D I 40 (ch_FC I sh) sh s A M H locs → lv_has ls 7 [(0, .ref (sh 6)), (1, .long x1), (3, .long x3), (5, .int x5), (6, .int x6)] → W p l e rm_X0_leastFitting s m args below meth c H locs 0 0 Q (F0 m 19 ls []) := by
  induction n with
  | zero => intro x1 x3 x5 x6 M H locs ls  h; cases h
  | succ n ih =>
    intro x1 x3 x5 x6 M H locs ls  h hw hl
    exact t_X0_leastFitting_19 S fin hk7 ih h hw hl
set_option maxHeartbeats 4000000 in
set_option maxRecDepth 100000 in
theorem t_X0_leastFitting_68 {p : Program} {l : Launch} {e : Env} {s : State} {m : MethodId} {args : Array Value} {below : List Frame} {meth : Method} {c : Code} {Q : State → Prop} {D : va_G} {I : ch_Id} {sh : Nat → Nat} {A : Nat → Prop} {oo : Int64 × ch_Mem}     (S : CallFix p m c cX0_leastFitting 7 s args wsX0_leastFitting RX0) (fin : ch_FinL p l e rm_X0_leastFitting s m args below meth c cX0_leastFitting Q D I 40 (ch_FC I sh) sh A oo)  {x1 : Int64}  {M : ch_Mem} {H : Heap} {locs : List Loc} {ls : Array Slot} (h : D_X0_leastFitting_b68 x1 M = some oo) (hw : ch_Wd D I 40 (ch_FC I sh) sh s A M H locs) (hl : lv_has ls 7 [(1, .long x1)]) : W p l e rm_X0_leastFitting s m args below meth c H locs 0 0 Q (F0 m 68 ls []) := by
  obtain ⟨hx, hb, hml, hown, hts⟩ := id S
  unfold D_X0_leastFitting_b68 at h
  refine lv_lload_n hx hb dX0_leastFitting_68 rfl (lv_at hl 0 rfl) ?_
  exact fin _ _ _ _ _ _ h hw dX0_leastFitting_69
set_option maxHeartbeats 4000000 in
set_option maxRecDepth 100000 in
theorem t_X0_leastFitting_7 {p : Program} {l : Launch} {e : Env} {s : State} {m : MethodId} {args : Array Value} {below : List Frame} {meth : Method} {c : Code} {Q : State → Prop} {D : va_G} {I : ch_Id} {sh : Nat → Nat} {A : Nat → Prop} {oo : Int64 × ch_Mem}    {k7 : Int64 → Int64 → Int32 → ch_Mem → Option (Int64 × ch_Mem)} (S : CallFix p m c cX0_leastFitting 7 s args wsX0_leastFitting RX0) (fin : ch_FinL p l e rm_X0_leastFitting s m args below meth c cX0_leastFitting Q D I 40 (ch_FC I sh) sh A oo) (hk7 : ∀ (x1 : Int64) (x3 : Int64) (x5 : Int32) (M : ch_Mem) (H : Heap) (locs : List Loc) (ls : Array Slot), k7 x1 x3 x5 M = some oo → ch_Wd D I 40 (ch_FC I sh) sh s A M H locs → lv_has ls 7 [(0, .ref (sh 6)), (1, .long x1), (3, .long x3), (5, .int x5)] → W p l e rm_X0_leastFitting s m args below meth c H locs 0 0 Q (F0 m 7 ls [])) {x1 : Int64} {x3 : Int64} {x5 : Int32}  {M : ch_Mem} {H : Heap} {locs : List Loc} {ls : Array Slot} (h : D_X0_leastFitting_b7 k7 x1 x3 x5 M = some oo) (hw : ch_Wd D I 40 (ch_FC I sh) sh s A M H locs) (hl : lv_has ls 7 [(0, .ref (sh 6)), (1, .long x1), (3, .long x3), (5, .int x5)]) : W p l e rm_X0_leastFitting s m args below meth c H locs 0 0 Q (F0 m 7 ls []) := by
  obtain ⟨hx, hb, hml, hown, hts⟩ := id S
  unfold D_X0_leastFitting_b7 at h
  refine lv_iload hx hb dX0_leastFitting_7 (lv_at hl 3 rfl) ?_
  refine lv_aload_n hx hb dX0_leastFitting_9 rfl (lv_at hl 0 rfl) ?_
  refine ch_get S hw 6 (by decide) rfl rfl (by decide +kernel) 2 (by decide) (hts (.fieldLink RX0 18 "CodeHunt$Lengths" "size" "I") (by decide +kernel)) rfl dX0_leastFitting_10 ?_
  refine ch_icmp_ge (tgt := 68) hx hb dX0_leastFitting_13 (by decide) h (fun h => ?_) (fun h => ?_)
  · exact t_X0_leastFitting_68 S fin h hw (lv_sub hl [1] rfl)
  · refine lv_iconst (v := (0 : Int32)) hx hb dX0_leastFitting_16 (by decide) ?_
    refine lv_istore (lv' := [(6, .int (0 : Int32)), (0, .ref (sh 6)), (1, .long x1), (3, .long x3), (5, .int x5)]) hx hb dX0_leastFitting_17 hl (by decide) rfl (fun ls hl => ?_)
    exact tl_X0_leastFitting_19 S fin hk7 ch_fu _ _ _ _ _ _ _ _ h hw (lv_sub hl [1, 2, 3, 4, 0] rfl)
set_option maxHeartbeats 4000000 in
set_option maxRecDepth 100000 in
theorem tl_X0_leastFitting_7 {p : Program} {l : Launch} {e : Env} {s : State} {m : MethodId} {args : Array Value} {below : List Frame} {meth : Method} {c : Code} {Q : State → Prop} {D : va_G} {I : ch_Id} {sh : Nat → Nat} {A : Nat → Prop} {oo : Int64 × ch_Mem}     (S : CallFix p m c cX0_leastFitting 7 s args wsX0_leastFitting RX0) (fin : ch_FinL p l e rm_X0_leastFitting s m args below meth c cX0_leastFitting Q D I 40 (ch_FC I sh) sh A oo)  (n : Nat) : ∀ (x1 : Int64) (x3 : Int64) (x5 : Int32) (M : ch_Mem) (H : Heap) (locs : List Loc) (ls : Array Slot), D_X0_leastFitting_L7  n x1 x3 x5 M = some oo → ch_Wd D I 40 (ch_FC I sh) sh s A M H locs → lv_has ls 7 [(0, .ref (sh 6)), (1, .long x1), (3, .long x3), (5, .int x5)] → W p l e rm_X0_leastFitting s m args below meth c H locs 0 0 Q (F0 m 7 ls []) := by
  induction n with
  | zero => intro x1 x3 x5 M H locs ls  h; cases h
  | succ n ih =>
    intro x1 x3 x5 M H locs ls  h hw hl
    exact t_X0_leastFitting_7 S fin ih h hw hl
set_option maxHeartbeats 4000000 in
set_option maxRecDepth 100000 in
theorem t_X0_leastFitting_0 {p : Program} {l : Launch} {e : Env} {s : State} {m : MethodId} {args : Array Value} {below : List Frame} {meth : Method} {c : Code} {Q : State → Prop} {D : va_G} {I : ch_Id} {sh : Nat → Nat} {A : Nat → Prop} {oo : Int64 × ch_Mem}     (S : CallFix p m c cX0_leastFitting 7 s args wsX0_leastFitting RX0) (fin : ch_FinL p l e rm_X0_leastFitting s m args below meth c cX0_leastFitting Q D I 40 (ch_FC I sh) sh A oo)    {M : ch_Mem} {H : Heap} {locs : List Loc} {ls : Array Slot} (h : D_X0_leastFitting  M = some oo) (hw : ch_Wd D I 40 (ch_FC I sh) sh s A M H locs) (hl : lv_has ls 7 [(0, .ref (sh 6))]) : W p l e rm_X0_leastFitting s m args below meth c H locs 0 0 Q (F0 m 0 ls []) := by
  obtain ⟨hx, hb, hml, hown, hts⟩ := id S
  unfold D_X0_leastFitting at h
  refine lv_lconst (v := (0 : Int64)) hx hb dX0_leastFitting_0 (by decide) ?_
  refine lv_lstore_n (lv' := [(1, .long (0 : Int64)), (0, .ref (sh 6))]) hx hb dX0_leastFitting_1 rfl hl (by decide) rfl (fun ls hl => ?_)
  refine lv_lconst (v := (1 : Int64)) hx hb dX0_leastFitting_2 (by decide) ?_
  refine lv_lstore_n (lv' := [(3, .long (1 : Int64)), (1, .long (0 : Int64)), (0, .ref (sh 6))]) hx hb dX0_leastFitting_3 rfl hl (by decide) rfl (fun ls hl => ?_)
  refine lv_iconst (v := (0 : Int32)) hx hb dX0_leastFitting_4 (by decide) ?_
  refine lv_istore (lv' := [(5, .int (0 : Int32)), (3, .long (1 : Int64)), (1, .long (0 : Int64)), (0, .ref (sh 6))]) hx hb dX0_leastFitting_5 hl (by decide) rfl (fun ls hl => ?_)
  exact tl_X0_leastFitting_7 S fin ch_fu _ _ _ _ _ _ _ h hw (lv_sub hl [3, 2, 1, 0] rfl)
set_option maxHeartbeats 4000000 in
set_option maxRecDepth 100000 in
theorem c_X0_leastFitting (l : Launch) (D : va_G) (I : ch_Id) (sh : Nat → Nat) (sz : Nat) (M : ch_Mem)   {r : Int64} {M1 : ch_Mem} (h : D_X0_leastFitting  M = some (r, M1)) : Met l yX0_leastFitting wsX0_leastFitting rm_X0_leastFitting (va_Pc [.ref (sh 6)] (ch_Pre D I 40 (ch_FC I sh) sh sz M)) (va_Ql (fun r' (u : ch_Mem) => r' = r ∧ u = M1) (ch_Pos D 40 (ch_FC I sh) sh) (ch_A 40 sh sz)) 0 0 (ch_A 40 sh sz) := by
  refine Met.ofW (cc := cX0_leastFitting) (maxL := 7) (ret := (some .long)) (by decide) rfl ?_
  intro p e s m args below meth c s₁ B hml hv0
  obtain ⟨rfl, hv0⟩ := hv0
  obtain rfl : s.heap.size = sz := hv0.1
  have hw := ch_start hv0
  have S : CallFix p m c cX0_leastFitting 7 s _ wsX0_leastFitting RX0 := ⟨B.exec, B.bytes, hml, findClass_of_methodNamed B.named, atoms_spec (ws := wsX0_leastFitting) B.pre⟩
  have hl := lv_entry ([.ref (sh 6)]) (n := 7) (Nat.le_of_ble_eq_true rfl)
  rw [lg_entry_eq]
  generalize (lg_sl ([.ref (sh 6)]) ++ List.replicate (7 - (lg_sl ([.ref (sh 6)])).length) Slot.unset).toArray = ls at hl ⊢
  exact t_X0_leastFitting_0 S (ch_finL B.exec B.bytes B.returns B.notSynchronized) h hw (lv_sub hl [0] rfl)
set_option maxHeartbeats 4000000 in
set_option maxRecDepth 100000 in
theorem t_X1_keep_0 {p : Program} {l : Launch} {e : Env} {s : State} {m : MethodId} {args : Array Value} {below : List Frame} {meth : Method} {c : Code} {Q : State → Prop} {D : va_G} {I : ch_Id} {sh : Nat → Nat} {A : Nat → Prop} {oo : Unit × ch_Mem}     (S : CallFix p m c cX1_keep 4 s args wsX1_keep RX1) (fin : ch_FinV p l e rm_X1_keep s m args below meth c cX1_keep Q D I 40 (ch_FC I sh) sh A oo)  {x1 : Int32} {x2 : Int32} {x3 : Int32}  {M : ch_Mem} {H : Heap} {locs : List Loc} {ls : Array Slot} (h : D_X1_keep x1 x2 x3 M = some oo) (hw : ch_Wd D I 40 (ch_FC I sh) sh s A M H locs) (hl : lv_has ls 4 [(0, .ref (sh 5)), (1, .int x1), (2, .int x2), (3, .int x3)]) : W p l e rm_X1_keep s m args below meth c H locs 0 0 Q (F0 m 0 ls []) := by
  obtain ⟨hx, hb, hml, hown, hts⟩ := id S
  unfold D_X1_keep at h
  refine lv_aload_n hx hb dX1_keep_0 rfl (lv_at hl 0 rfl) ?_
  refine ch_get S hw 5 (by decide) rfl rfl (by decide +kernel) 3 (by decide) (hts (.fieldLink RX1 21 "CodeHunt$Peeling" "times" "I") (by decide +kernel)) rfl dX1_keep_1 ?_
  refine lv_bipush (v := (20 : Int32)) hx hb dX1_keep_4 (by decide) ?_
  refine ch_icmp_ge (tgt := 49) hx hb dX1_keep_6 (by decide) h (fun h => ?_) (fun h => ?_)
  · exact fin _ _ _ _ _ h hw dX1_keep_49
  · refine lv_aload_n hx hb dX1_keep_9 rfl (lv_at hl 0 rfl) ?_
    refine ch_get S hw 5 (by decide) rfl rfl (by decide +kernel) 0 (by decide) (hts (.fieldLink RX1 9 "CodeHunt$Peeling" "rowOf" "[I") (by decide +kernel)) rfl dX1_keep_10 ?_
    refine lv_aload_n hx hb dX1_keep_13 rfl (lv_at hl 0 rfl) ?_
    refine ch_get S hw 5 (by decide) rfl rfl (by decide +kernel) 3 (by decide) (hts (.fieldLink RX1 21 "CodeHunt$Peeling" "times" "I") (by decide +kernel)) rfl dX1_keep_14 ?_
    refine lv_iload_n hx hb dX1_keep_17 rfl (lv_at hl 1 rfl) ?_
    refine ch_gd_k h (fun hin h => ?_)
    refine ch_iast S hw 35 (by decide) (fun _ => rfl) hin dX1_keep_18 (fun H locs hw => ?_)
    refine lv_aload_n hx hb dX1_keep_19 rfl (lv_at hl 0 rfl) ?_
    refine ch_get S hw 5 (by decide) rfl rfl (by decide +kernel) 1 (by decide) (hts (.fieldLink RX1 15 "CodeHunt$Peeling" "shiftOf" "[I") (by decide +kernel)) rfl dX1_keep_20 ?_
    refine lv_aload_n hx hb dX1_keep_23 rfl (lv_at hl 0 rfl) ?_
    refine ch_get S hw 5 (by decide) rfl rfl (by decide +kernel) 3 (by decide) (hts (.fieldLink RX1 21 "CodeHunt$Peeling" "times" "I") (by decide +kernel)) rfl dX1_keep_24 ?_
    refine lv_iload_n hx hb dX1_keep_27 rfl (lv_at hl 2 rfl) ?_
    refine ch_gd_k h (fun hin h => ?_)
    refine ch_iast S hw 36 (by decide) (fun _ => rfl) hin dX1_keep_28 (fun H locs hw => ?_)
    refine lv_aload_n hx hb dX1_keep_29 rfl (lv_at hl 0 rfl) ?_
    refine ch_get S hw 5 (by decide) rfl rfl (by decide +kernel) 2 (by decide) (hts (.fieldLink RX1 18 "CodeHunt$Peeling" "strengthOf" "[I") (by decide +kernel)) rfl dX1_keep_30 ?_
    refine lv_aload_n hx hb dX1_keep_33 rfl (lv_at hl 0 rfl) ?_
    refine ch_get S hw 5 (by decide) rfl rfl (by decide +kernel) 3 (by decide) (hts (.fieldLink RX1 21 "CodeHunt$Peeling" "times" "I") (by decide +kernel)) rfl dX1_keep_34 ?_
    refine lv_iload_n hx hb dX1_keep_37 rfl (lv_at hl 3 rfl) ?_
    refine ch_gd_k h (fun hin h => ?_)
    refine ch_iast S hw 37 (by decide) (fun _ => rfl) hin dX1_keep_38 (fun H locs hw => ?_)
    refine lv_aload_n hx hb dX1_keep_39 rfl (lv_at hl 0 rfl) ?_
    refine lv_dup hx hb dX1_keep_40 rfl ?_
    refine ch_get S hw 5 (by decide) rfl rfl (by decide +kernel) 3 (by decide) (hts (.fieldLink RX1 21 "CodeHunt$Peeling" "times" "I") (by decide +kernel)) rfl dX1_keep_41 ?_
    refine lv_iconst (v := (1 : Int32)) hx hb dX1_keep_44 (by decide) ?_
    refine lv_iadd hx hb dX1_keep_45 ?_
    refine ch_put (M1 := ch_wI (ch_wI (ch_wI (ch_wI M 35 (M.1 5 3).toNatClampNeg x1) 36 ((ch_wI M 35 (M.1 5 3).toNatClampNeg x1).1 5 3).toNatClampNeg x2) 37 ((ch_wI (ch_wI M 35 (M.1 5 3).toNatClampNeg x1) 36 ((ch_wI M 35 (M.1 5 3).toNatClampNeg x1).1 5 3).toNatClampNeg x2).1 5 3).toNatClampNeg x3) 5 3 (((ch_wI (ch_wI (ch_wI M 35 (M.1 5 3).toNatClampNeg x1) 36 ((ch_wI M 35 (M.1 5 3).toNatClampNeg x1).1 5 3).toNatClampNeg x2) 37 ((ch_wI (ch_wI M 35 (M.1 5 3).toNatClampNeg x1) 36 ((ch_wI M 35 (M.1 5 3).toNatClampNeg x1).1 5 3).toNatClampNeg x2).1 5 3).toNatClampNeg x3).1 5 3) + (1 : Int32))) (ty := .int) S hw 5 (by decide) rfl rfl (by decide +kernel) tyX1 tyX1_ok nmX1 3 (by decide) (hts (.fieldLink RX1 21 "CodeHunt$Peeling" "times" "I") (by decide +kernel)) rfl (by decide +kernel) rfl rfl (Nat.le_of_ble_eq_true rfl) (ch_cf_wI (j := 3) (v := (((ch_wI (ch_wI (ch_wI M 35 (M.1 5 3).toNatClampNeg x1) 36 ((ch_wI M 35 (M.1 5 3).toNatClampNeg x1).1 5 3).toNatClampNeg x2) 37 ((ch_wI (ch_wI M 35 (M.1 5 3).toNatClampNeg x1) 36 ((ch_wI M 35 (M.1 5 3).toNatClampNeg x1).1 5 3).toNatClampNeg x2).1 5 3).toNatClampNeg x3).1 5 3) + (1 : Int32))) rfl) dX1_keep_46 (fun H locs hw => ?_)
    exact fin _ _ _ _ _ h hw dX1_keep_49
set_option maxHeartbeats 4000000 in
set_option maxRecDepth 100000 in
theorem c_X1_keep (l : Launch) (D : va_G) (I : ch_Id) (sh : Nat → Nat) (sz : Nat) (M : ch_Mem)  (x1 : Int32) (x2 : Int32) (x3 : Int32) {M1 : ch_Mem} (h : D_X1_keep x1 x2 x3 M = some ((), M1)) : Met l yX1_keep wsX1_keep rm_X1_keep (va_Pc [.ref (sh 5), .int x1, .int x2, .int x3] (ch_Pre D I 40 (ch_FC I sh) sh sz M)) (va_Qv (fun (u : ch_Mem) => u = M1) (ch_Pos D 40 (ch_FC I sh) sh) (ch_A 40 sh sz)) 0 0 (ch_A 40 sh sz) := by
  refine Met.ofW (cc := cX1_keep) (maxL := 4) (ret := none) (by decide) rfl ?_
  intro p e s m args below meth c s₁ B hml hv0
  obtain ⟨rfl, hv0⟩ := hv0
  obtain rfl : s.heap.size = sz := hv0.1
  have hw := ch_start hv0
  have S : CallFix p m c cX1_keep 4 s _ wsX1_keep RX1 := ⟨B.exec, B.bytes, hml, findClass_of_methodNamed B.named, atoms_spec (ws := wsX1_keep) B.pre⟩
  have hl := lv_entry ([.ref (sh 5), .int x1, .int x2, .int x3]) (n := 4) (Nat.le_of_ble_eq_true rfl)
  rw [lg_entry_eq]
  generalize (lg_sl ([.ref (sh 5), .int x1, .int x2, .int x3]) ++ List.replicate (4 - (lg_sl ([.ref (sh 5), .int x1, .int x2, .int x3])).length) Slot.unset).toArray = ls at hl ⊢
  exact t_X1_keep_0 S (ch_finV B.exec B.bytes B.returns B.notSynchronized) h hw (lv_sub hl [0, 1, 2, 3] rfl)
set_option maxHeartbeats 4000000 in
set_option maxRecDepth 100000 in
theorem t_X2_hasItem_0 {p : Program} {l : Launch} {e : Env} {s : State} {m : MethodId} {args : Array Value} {below : List Frame} {meth : Method} {c : Code} {Q : State → Prop} {D : va_G} {I : ch_Id} {sh : Nat → Nat} {A : Nat → Prop} {oo : Int32 × ch_Mem} {o : Nat} (ho : 23 ≤ o ∧ o < 27)   (S : CallFix p m c cX2_hasItem 2 s args wsX2_hasItem RX2) (fin : ch_FinZ p l e rm_X2_hasItem s m args below meth c cX2_hasItem Q D I 40 (ch_FC I sh) sh A oo)  {x1 : Int32}  {M : ch_Mem} {H : Heap} {locs : List Loc} {ls : Array Slot} (h : D_X2_hasItem o x1 M = some oo) (hw : ch_Wd D I 40 (ch_FC I sh) sh s A M H locs) (hl : lv_has ls 2 [(0, .ref (sh o)), (1, .int x1)]) : W p l e rm_X2_hasItem s m args below meth c H locs 0 0 Q (F0 m 0 ls []) := by
  obtain ⟨hx, hb, hml, hown, hts⟩ := id S
  unfold D_X2_hasItem at h
  refine lv_aload_n hx hb dX2_hasItem_0 rfl (lv_at hl 0 rfl) ?_
  refine ch_get S hw o (by omega) (ch_FC_reel (by omega)) rfl (by decide +kernel) 1 (by decide) (hts (.fieldLink RX2 15 "CodeHunt$Reel" "lost" "Z") (by decide +kernel)) rfl dX2_hasItem_1 ?_
  refine ch_if_ne (tgt := 23) hx hb dX2_hasItem_4 (by decide) h (fun h => ?_) (fun h => ?_)
  · refine lv_iconst (v := (0 : Int32)) hx hb dX2_hasItem_23 (by decide) ?_
    exact fin _ _ _ _ _ _ rfl h hw dX2_hasItem_24
  · refine lv_iload_n hx hb dX2_hasItem_7 rfl (lv_at hl 1 rfl) ?_
    refine ch_if_lt (tgt := 23) hx hb dX2_hasItem_8 (by decide) h (fun h => ?_) (fun h => ?_)
    · refine lv_iconst (v := (0 : Int32)) hx hb dX2_hasItem_23 (by decide) ?_
      exact fin _ _ _ _ _ _ rfl h hw dX2_hasItem_24
    · refine lv_iload_n hx hb dX2_hasItem_11 rfl (lv_at hl 1 rfl) ?_
      refine lv_aload_n hx hb dX2_hasItem_12 rfl (lv_at hl 0 rfl) ?_
      refine ch_get S hw o (by omega) (ch_FC_reel (by omega)) rfl (by decide +kernel) 3 (by decide) (hts (.fieldLink RX2 23 "CodeHunt$Reel" "size" "I") (by decide +kernel)) rfl dX2_hasItem_13 ?_
      refine ch_icmp_ge (tgt := 23) hx hb dX2_hasItem_16 (by decide) h (fun h => ?_) (fun h => ?_)
      · refine lv_iconst (v := (0 : Int32)) hx hb dX2_hasItem_23 (by decide) ?_
        exact fin _ _ _ _ _ _ rfl h hw dX2_hasItem_24
      · refine lv_iconst (v := (1 : Int32)) hx hb dX2_hasItem_19 (by decide) ?_
        refine lv_goto (tgt := 24) hx hb dX2_hasItem_20 (by decide) ?_
        exact fin _ _ _ _ _ _ rfl h hw dX2_hasItem_24
set_option maxHeartbeats 4000000 in
set_option maxRecDepth 100000 in
theorem c_X2_hasItem (l : Launch) (D : va_G) (I : ch_Id) (sh : Nat → Nat) (sz : Nat) (M : ch_Mem) (o : Nat) (ho : 23 ≤ o ∧ o < 27) (x1 : Int32) {r : Int32} {M1 : ch_Mem} (h : D_X2_hasItem o x1 M = some (r, M1)) : Met l yX2_hasItem wsX2_hasItem rm_X2_hasItem (va_Pc [.ref (sh o), .int x1] (ch_Pre D I 40 (ch_FC I sh) sh sz M)) (va_Qi (fun r' (u : ch_Mem) => r' = r ∧ u = M1) (ch_Pos D 40 (ch_FC I sh) sh) (ch_A 40 sh sz)) 0 0 (ch_A 40 sh sz) := by
  refine Met.ofW (cc := cX2_hasItem) (maxL := 2) (ret := (some .boolean)) (by decide) rfl ?_
  intro p e s m args below meth c s₁ B hml hv0
  obtain ⟨rfl, hv0⟩ := hv0
  obtain rfl : s.heap.size = sz := hv0.1
  have hw := ch_start hv0
  have S : CallFix p m c cX2_hasItem 2 s _ wsX2_hasItem RX2 := ⟨B.exec, B.bytes, hml, findClass_of_methodNamed B.named, atoms_spec (ws := wsX2_hasItem) B.pre⟩
  have hl := lv_entry ([.ref (sh o), .int x1]) (n := 2) (Nat.le_of_ble_eq_true rfl)
  rw [lg_entry_eq]
  generalize (lg_sl ([.ref (sh o), .int x1]) ++ List.replicate (2 - (lg_sl ([.ref (sh o), .int x1])).length) Slot.unset).toArray = ls at hl ⊢
  exact t_X2_hasItem_0 ho S (ch_finZ B.exec B.bytes B.returns B.notSynchronized) h hw (lv_sub hl [0, 1] rfl)
set_option maxHeartbeats 4000000 in
set_option maxRecDepth 100000 in
theorem t_X2_hasSpan_0 {p : Program} {l : Launch} {e : Env} {s : State} {m : MethodId} {args : Array Value} {below : List Frame} {meth : Method} {c : Code} {Q : State → Prop} {D : va_G} {I : ch_Id} {sh : Nat → Nat} {A : Nat → Prop} {oo : Int32 × ch_Mem} {o : Nat} (ho : 23 ≤ o ∧ o < 27)   (S : CallFix p m c cX2_hasSpan 3 s args wsX2_hasSpan RX2) (fin : ch_FinZ p l e rm_X2_hasSpan s m args below meth c cX2_hasSpan Q D I 40 (ch_FC I sh) sh A oo)  {x1 : Int32} {x2 : Int32}  {M : ch_Mem} {H : Heap} {locs : List Loc} {ls : Array Slot} (h : D_X2_hasSpan o x1 x2 M = some oo) (hw : ch_Wd D I 40 (ch_FC I sh) sh s A M H locs) (hl : lv_has ls 3 [(0, .ref (sh o)), (1, .int x1), (2, .int x2)]) : W p l e rm_X2_hasSpan s m args below meth c H locs 0 0 Q (F0 m 0 ls []) := by
  obtain ⟨hx, hb, hml, hown, hts⟩ := id S
  unfold D_X2_hasSpan at h
  refine lv_iload_n hx hb dX2_hasSpan_0 rfl (lv_at hl 1 rfl) ?_
  refine ch_if_lt (tgt := 22) hx hb dX2_hasSpan_1 (by decide) h (fun h => ?_) (fun h => ?_)
  · refine lv_iconst (v := (0 : Int32)) hx hb dX2_hasSpan_22 (by decide) ?_
    exact fin _ _ _ _ _ _ rfl h hw dX2_hasSpan_23
  · refine lv_iload_n hx hb dX2_hasSpan_4 rfl (lv_at hl 2 rfl) ?_
    refine ch_if_lt (tgt := 22) hx hb dX2_hasSpan_5 (by decide) h (fun h => ?_) (fun h => ?_)
    · refine lv_iconst (v := (0 : Int32)) hx hb dX2_hasSpan_22 (by decide) ?_
      exact fin _ _ _ _ _ _ rfl h hw dX2_hasSpan_23
    · refine lv_iload_n hx hb dX2_hasSpan_8 rfl (lv_at hl 1 rfl) ?_
      refine lv_aload_n hx hb dX2_hasSpan_9 rfl (lv_at hl 0 rfl) ?_
      refine ch_get S hw o (by omega) (ch_FC_reel (by omega)) rfl (by decide +kernel) 3 (by decide) (hts (.fieldLink RX2 23 "CodeHunt$Reel" "size" "I") (by decide +kernel)) rfl dX2_hasSpan_10 ?_
      refine lv_iload_n hx hb dX2_hasSpan_13 rfl (lv_at hl 2 rfl) ?_
      refine lv_isub hx hb dX2_hasSpan_14 ?_
      refine ch_icmp_gt (tgt := 22) hx hb dX2_hasSpan_15 (by decide) h (fun h => ?_) (fun h => ?_)
      · refine lv_iconst (v := (0 : Int32)) hx hb dX2_hasSpan_22 (by decide) ?_
        exact fin _ _ _ _ _ _ rfl h hw dX2_hasSpan_23
      · refine lv_iconst (v := (1 : Int32)) hx hb dX2_hasSpan_18 (by decide) ?_
        refine lv_goto (tgt := 23) hx hb dX2_hasSpan_19 (by decide) ?_
        exact fin _ _ _ _ _ _ rfl h hw dX2_hasSpan_23
set_option maxHeartbeats 4000000 in
set_option maxRecDepth 100000 in
theorem c_X2_hasSpan (l : Launch) (D : va_G) (I : ch_Id) (sh : Nat → Nat) (sz : Nat) (M : ch_Mem) (o : Nat) (ho : 23 ≤ o ∧ o < 27) (x1 : Int32) (x2 : Int32) {r : Int32} {M1 : ch_Mem} (h : D_X2_hasSpan o x1 x2 M = some (r, M1)) : Met l yX2_hasSpan wsX2_hasSpan rm_X2_hasSpan (va_Pc [.ref (sh o), .int x1, .int x2] (ch_Pre D I 40 (ch_FC I sh) sh sz M)) (va_Qi (fun r' (u : ch_Mem) => r' = r ∧ u = M1) (ch_Pos D 40 (ch_FC I sh) sh) (ch_A 40 sh sz)) 0 0 (ch_A 40 sh sz) := by
  refine Met.ofW (cc := cX2_hasSpan) (maxL := 3) (ret := (some .boolean)) (by decide) rfl ?_
  intro p e s m args below meth c s₁ B hml hv0
  obtain ⟨rfl, hv0⟩ := hv0
  obtain rfl : s.heap.size = sz := hv0.1
  have hw := ch_start hv0
  have S : CallFix p m c cX2_hasSpan 3 s _ wsX2_hasSpan RX2 := ⟨B.exec, B.bytes, hml, findClass_of_methodNamed B.named, atoms_spec (ws := wsX2_hasSpan) B.pre⟩
  have hl := lv_entry ([.ref (sh o), .int x1, .int x2]) (n := 3) (Nat.le_of_ble_eq_true rfl)
  rw [lg_entry_eq]
  generalize (lg_sl ([.ref (sh o), .int x1, .int x2]) ++ List.replicate (3 - (lg_sl ([.ref (sh o), .int x1, .int x2])).length) Slot.unset).toArray = ls at hl ⊢
  exact t_X2_hasSpan_0 ho S (ch_finZ B.exec B.bytes B.returns B.notSynchronized) h hw (lv_sub hl [0, 1, 2] rfl)
