set_option maxHeartbeats 4000000 in
set_option maxRecDepth 100000 in
theorem t_X6_isRow_0 {p : Program} {l : Launch} {e : Env} {s : State} {m : MethodId} {args : Array Value} {below : List Frame} {meth : Method} {c : Code} {Q : State → Prop} {D : va_G} {I : ch_Id} {sh : Nat → Nat} {A : Nat → Prop} {oo : Int32 × ch_Mem}     (S : CallFix p m c cX6_isRow 1 s args wsX6_isRow RX6) (fin : ch_FinZ p l e rm_X6_isRow s m args below meth c cX6_isRow Q D I 40 (ch_FC I sh) sh A oo)  {x0 : Int32}  {M : ch_Mem} {H : Heap} {locs : List Loc} {ls : Array Slot} (h : D_X6_isRow x0 M = some oo) (hw : ch_Wd D I 40 (ch_FC I sh) sh s A M H locs) (hl : lv_has ls 1 [(0, .int x0)]) : W p l e rm_X6_isRow s m args below meth c H locs 0 0 Q (F0 m 0 ls []) := by
  obtain ⟨hx, hb, hml, hown, hts⟩ := id S
  unfold D_X6_isRow at h
  refine lv_iload_n hx hb dX6_isRow_0 rfl (lv_at hl 0 rfl) ?_
  refine ch_if_lt (tgt := 14) hx hb dX6_isRow_1 (by decide) h (fun h => ?_) (fun h => ?_)
  · refine lv_iconst (v := (0 : Int32)) hx hb dX6_isRow_14 (by decide) ?_
    exact fin _ _ _ _ _ _ rfl h hw dX6_isRow_15
  · refine lv_iload_n hx hb dX6_isRow_4 rfl (lv_at hl 0 rfl) ?_
    refine lv_bipush (v := (8 : Int32)) hx hb dX6_isRow_5 (by decide) ?_
    refine ch_icmp_ge (tgt := 14) hx hb dX6_isRow_7 (by decide) h (fun h => ?_) (fun h => ?_)
    · refine lv_iconst (v := (0 : Int32)) hx hb dX6_isRow_14 (by decide) ?_
      exact fin _ _ _ _ _ _ rfl h hw dX6_isRow_15
    · refine lv_iconst (v := (1 : Int32)) hx hb dX6_isRow_10 (by decide) ?_
      refine lv_goto (tgt := 15) hx hb dX6_isRow_11 (by decide) ?_
      exact fin _ _ _ _ _ _ rfl h hw dX6_isRow_15
set_option maxHeartbeats 4000000 in
set_option maxRecDepth 100000 in
theorem c_X6_isRow (l : Launch) (D : va_G) (I : ch_Id) (sh : Nat → Nat) (sz : Nat) (M : ch_Mem)  (x0 : Int32) {r : Int32} {M1 : ch_Mem} (h : D_X6_isRow x0 M = some (r, M1)) : Met l yX6_isRow wsX6_isRow rm_X6_isRow (va_Pc [.int x0] (ch_Pre D I 40 (ch_FC I sh) sh sz M)) (va_Qi (fun r' (u : ch_Mem) => r' = r ∧ u = M1) (ch_Pos D 40 (ch_FC I sh) sh) (ch_A 40 sh sz)) 0 0 (ch_A 40 sh sz) := by
  refine Met.ofW (cc := cX6_isRow) (maxL := 1) (ret := (some .boolean)) (by decide) rfl ?_
  intro p e s m args below meth c s₁ B hml hv0
  obtain ⟨rfl, hv0⟩ := hv0
  obtain rfl : s.heap.size = sz := hv0.1
  have hw := ch_start hv0
  have S : CallFix p m c cX6_isRow 1 s _ wsX6_isRow RX6 := ⟨B.exec, B.bytes, hml, findClass_of_methodNamed B.named, atoms_spec (ws := wsX6_isRow) B.pre⟩
  have hl := lv_entry ([.int x0]) (n := 1) (Nat.le_of_ble_eq_true rfl)
  rw [lg_entry_eq]
  generalize (lg_sl ([.int x0]) ++ List.replicate (1 - (lg_sl ([.int x0])).length) Slot.unset).toArray = ls at hl ⊢
  exact t_X6_isRow_0 S (ch_finZ B.exec B.bytes B.returns B.notSynchronized) h hw (lv_sub hl [0] rfl)
set_option maxHeartbeats 4000000 in
set_option maxRecDepth 100000 in
theorem t_X6_isReel_0 {p : Program} {l : Launch} {e : Env} {s : State} {m : MethodId} {args : Array Value} {below : List Frame} {meth : Method} {c : Code} {Q : State → Prop} {D : va_G} {I : ch_Id} {sh : Nat → Nat} {A : Nat → Prop} {oo : Int32 × ch_Mem}     (S : CallFix p m c cX6_isReel 1 s args wsX6_isReel RX6) (fin : ch_FinZ p l e rm_X6_isReel s m args below meth c cX6_isReel Q D I 40 (ch_FC I sh) sh A oo)  {x0 : Int32}  {M : ch_Mem} {H : Heap} {locs : List Loc} {ls : Array Slot} (h : D_X6_isReel x0 M = some oo) (hw : ch_Wd D I 40 (ch_FC I sh) sh s A M H locs) (hl : lv_has ls 1 [(0, .int x0)]) : W p l e rm_X6_isReel s m args below meth c H locs 0 0 Q (F0 m 0 ls []) := by
  obtain ⟨hx, hb, hml, hown, hts⟩ := id S
  unfold D_X6_isReel at h
  refine lv_iload_n hx hb dX6_isReel_0 rfl (lv_at hl 0 rfl) ?_
  refine ch_if_lt (tgt := 13) hx hb dX6_isReel_1 (by decide) h (fun h => ?_) (fun h => ?_)
  · refine lv_iconst (v := (0 : Int32)) hx hb dX6_isReel_13 (by decide) ?_
    exact fin _ _ _ _ _ _ rfl h hw dX6_isReel_14
  · refine lv_iload_n hx hb dX6_isReel_4 rfl (lv_at hl 0 rfl) ?_
    refine lv_iconst (v := (4 : Int32)) hx hb dX6_isReel_5 (by decide) ?_
    refine ch_icmp_ge (tgt := 13) hx hb dX6_isReel_6 (by decide) h (fun h => ?_) (fun h => ?_)
    · refine lv_iconst (v := (0 : Int32)) hx hb dX6_isReel_13 (by decide) ?_
      exact fin _ _ _ _ _ _ rfl h hw dX6_isReel_14
    · refine lv_iconst (v := (1 : Int32)) hx hb dX6_isReel_9 (by decide) ?_
      refine lv_goto (tgt := 14) hx hb dX6_isReel_10 (by decide) ?_
      exact fin _ _ _ _ _ _ rfl h hw dX6_isReel_14
set_option maxHeartbeats 4000000 in
set_option maxRecDepth 100000 in
theorem c_X6_isReel (l : Launch) (D : va_G) (I : ch_Id) (sh : Nat → Nat) (sz : Nat) (M : ch_Mem)  (x0 : Int32) {r : Int32} {M1 : ch_Mem} (h : D_X6_isReel x0 M = some (r, M1)) : Met l yX6_isReel wsX6_isReel rm_X6_isReel (va_Pc [.int x0] (ch_Pre D I 40 (ch_FC I sh) sh sz M)) (va_Qi (fun r' (u : ch_Mem) => r' = r ∧ u = M1) (ch_Pos D 40 (ch_FC I sh) sh) (ch_A 40 sh sz)) 0 0 (ch_A 40 sh sz) := by
  refine Met.ofW (cc := cX6_isReel) (maxL := 1) (ret := (some .boolean)) (by decide) rfl ?_
  intro p e s m args below meth c s₁ B hml hv0
  obtain ⟨rfl, hv0⟩ := hv0
  obtain rfl : s.heap.size = sz := hv0.1
  have hw := ch_start hv0
  have S : CallFix p m c cX6_isReel 1 s _ wsX6_isReel RX6 := ⟨B.exec, B.bytes, hml, findClass_of_methodNamed B.named, atoms_spec (ws := wsX6_isReel) B.pre⟩
  have hl := lv_entry ([.int x0]) (n := 1) (Nat.le_of_ble_eq_true rfl)
  rw [lg_entry_eq]
  generalize (lg_sl ([.int x0]) ++ List.replicate (1 - (lg_sl ([.int x0])).length) Slot.unset).toArray = ls at hl ⊢
  exact t_X6_isReel_0 S (ch_finZ B.exec B.bytes B.returns B.notSynchronized) h hw (lv_sub hl [0] rfl)
set_option maxHeartbeats 4000000 in
set_option maxRecDepth 100000 in
theorem t_X6_isShift_0 {p : Program} {l : Launch} {e : Env} {s : State} {m : MethodId} {args : Array Value} {below : List Frame} {meth : Method} {c : Code} {Q : State → Prop} {D : va_G} {I : ch_Id} {sh : Nat → Nat} {A : Nat → Prop} {oo : Int32 × ch_Mem}     (S : CallFix p m c cX6_isShift 1 s args wsX6_isShift RX6) (fin : ch_FinZ p l e rm_X6_isShift s m args below meth c cX6_isShift Q D I 40 (ch_FC I sh) sh A oo)  {x0 : Int32}  {M : ch_Mem} {H : Heap} {locs : List Loc} {ls : Array Slot} (h : D_X6_isShift x0 M = some oo) (hw : ch_Wd D I 40 (ch_FC I sh) sh s A M H locs) (hl : lv_has ls 1 [(0, .int x0)]) : W p l e rm_X6_isShift s m args below meth c H locs 0 0 Q (F0 m 0 ls []) := by
  obtain ⟨hx, hb, hml, hown, hts⟩ := id S
  unfold D_X6_isShift at h
  refine lv_iload_n hx hb dX6_isShift_0 rfl (lv_at hl 0 rfl) ?_
  refine ch_if_lt (tgt := 14) hx hb dX6_isShift_1 (by decide) h (fun h => ?_) (fun h => ?_)
  · refine lv_iconst (v := (0 : Int32)) hx hb dX6_isShift_14 (by decide) ?_
    exact fin _ _ _ _ _ _ rfl h hw dX6_isShift_15
  · refine lv_iload_n hx hb dX6_isShift_4 rfl (lv_at hl 0 rfl) ?_
    refine lv_bipush (v := (127 : Int32)) hx hb dX6_isShift_5 (by decide) ?_
    refine ch_icmp_ge (tgt := 14) hx hb dX6_isShift_7 (by decide) h (fun h => ?_) (fun h => ?_)
    · refine lv_iconst (v := (0 : Int32)) hx hb dX6_isShift_14 (by decide) ?_
      exact fin _ _ _ _ _ _ rfl h hw dX6_isShift_15
    · refine lv_iconst (v := (1 : Int32)) hx hb dX6_isShift_10 (by decide) ?_
      refine lv_goto (tgt := 15) hx hb dX6_isShift_11 (by decide) ?_
      exact fin _ _ _ _ _ _ rfl h hw dX6_isShift_15
set_option maxHeartbeats 4000000 in
set_option maxRecDepth 100000 in
theorem c_X6_isShift (l : Launch) (D : va_G) (I : ch_Id) (sh : Nat → Nat) (sz : Nat) (M : ch_Mem)  (x0 : Int32) {r : Int32} {M1 : ch_Mem} (h : D_X6_isShift x0 M = some (r, M1)) : Met l yX6_isShift wsX6_isShift rm_X6_isShift (va_Pc [.int x0] (ch_Pre D I 40 (ch_FC I sh) sh sz M)) (va_Qi (fun r' (u : ch_Mem) => r' = r ∧ u = M1) (ch_Pos D 40 (ch_FC I sh) sh) (ch_A 40 sh sz)) 0 0 (ch_A 40 sh sz) := by
  refine Met.ofW (cc := cX6_isShift) (maxL := 1) (ret := (some .boolean)) (by decide) rfl ?_
  intro p e s m args below meth c s₁ B hml hv0
  obtain ⟨rfl, hv0⟩ := hv0
  obtain rfl : s.heap.size = sz := hv0.1
  have hw := ch_start hv0
  have S : CallFix p m c cX6_isShift 1 s _ wsX6_isShift RX6 := ⟨B.exec, B.bytes, hml, findClass_of_methodNamed B.named, atoms_spec (ws := wsX6_isShift) B.pre⟩
  have hl := lv_entry ([.int x0]) (n := 1) (Nat.le_of_ble_eq_true rfl)
  rw [lg_entry_eq]
  generalize (lg_sl ([.int x0]) ++ List.replicate (1 - (lg_sl ([.int x0])).length) Slot.unset).toArray = ls at hl ⊢
  exact t_X6_isShift_0 S (ch_finZ B.exec B.bytes B.returns B.notSynchronized) h hw (lv_sub hl [0] rfl)
set_option maxHeartbeats 4000000 in
set_option maxRecDepth 100000 in
theorem t_X6_found_0 {p : Program} {l : Launch} {e : Env} {s : State} {m : MethodId} {args : Array Value} {below : List Frame} {meth : Method} {c : Code} {Q : State → Prop} {D : va_G} {I : ch_Id} {sh : Nat → Nat} {A : Nat → Prop} {oo : Int32 × ch_Mem}     (S : CallFix p m c cX6_found 2 s args wsX6_found RX6) (fin : ch_FinI p l e rm_X6_found s m args below meth c cX6_found Q D I 40 (ch_FC I sh) sh A oo)  {x1 : Int32}  {M : ch_Mem} {H : Heap} {locs : List Loc} {ls : Array Slot} (h : D_X6_found x1 M = some oo) (hw : ch_Wd D I 40 (ch_FC I sh) sh s A M H locs) (hl : lv_has ls 2 [(0, .ref (sh 0)), (1, .int x1)]) : W p l e rm_X6_found s m args below meth c H locs 0 0 Q (F0 m 0 ls []) := by
  obtain ⟨hx, hb, hml, hown, hts⟩ := id S
  unfold D_X6_found at h
  refine lv_aload_n hx hb dX6_found_0 rfl (lv_at hl 0 rfl) ?_
  refine lv_iload_n hx hb dX6_found_1 rfl (lv_at hl 1 rfl) ?_
  refine ch_put (M1 := ch_wI M 0 7 x1) (ty := .int) S hw 0 (by decide) rfl rfl (by decide +kernel) tyX6 tyX6_ok nmX6 7 (by decide) (hts (.fieldLink RX6 53 "CodeHunt" "finding" "I") (by decide +kernel)) rfl (by decide +kernel) rfl rfl (Nat.le_of_ble_eq_true rfl) (ch_cf_wI (j := 7) (v := x1) rfl) dX6_found_2 (fun H locs hw => ?_)
  refine lv_bipush (v := (-10 : Int32)) hx hb dX6_found_5 (by decide) ?_
  refine lv_iload_n hx hb dX6_found_7 rfl (lv_at hl 1 rfl) ?_
  refine lv_isub hx hb dX6_found_8 ?_
  exact fin _ _ _ _ _ _ h hw dX6_found_9
set_option maxHeartbeats 4000000 in
set_option maxRecDepth 100000 in
theorem c_X6_found (l : Launch) (D : va_G) (I : ch_Id) (sh : Nat → Nat) (sz : Nat) (M : ch_Mem)  (x1 : Int32) {r : Int32} {M1 : ch_Mem} (h : D_X6_found x1 M = some (r, M1)) : Met l yX6_found wsX6_found rm_X6_found (va_Pc [.ref (sh 0), .int x1] (ch_Pre D I 40 (ch_FC I sh) sh sz M)) (va_Qi (fun r' (u : ch_Mem) => r' = r ∧ u = M1) (ch_Pos D 40 (ch_FC I sh) sh) (ch_A 40 sh sz)) 0 0 (ch_A 40 sh sz) := by
  refine Met.ofW (cc := cX6_found) (maxL := 2) (ret := (some .int)) (by decide) rfl ?_
  intro p e s m args below meth c s₁ B hml hv0
  obtain ⟨rfl, hv0⟩ := hv0
  obtain rfl : s.heap.size = sz := hv0.1
  have hw := ch_start hv0
  have S : CallFix p m c cX6_found 2 s _ wsX6_found RX6 := ⟨B.exec, B.bytes, hml, findClass_of_methodNamed B.named, atoms_spec (ws := wsX6_found) B.pre⟩
  have hl := lv_entry ([.ref (sh 0), .int x1]) (n := 2) (Nat.le_of_ble_eq_true rfl)
  rw [lg_entry_eq]
  generalize (lg_sl ([.ref (sh 0), .int x1]) ++ List.replicate (2 - (lg_sl ([.ref (sh 0), .int x1])).length) Slot.unset).toArray = ls at hl ⊢
  exact t_X6_found_0 S (ch_finI (B := fun _ => True) B.exec B.bytes B.returns B.notSynchronized) h hw (lv_sub hl [0, 1] rfl)
set_option maxHeartbeats 4000000 in
set_option maxRecDepth 100000 in
theorem t_X6_add_186 {p : Program} {l : Launch} {e : Env} {s : State} {m : MethodId} {args : Array Value} {below : List Frame} {meth : Method} {c : Code} {Q : State → Prop} {D : va_G} {I : ch_Id} {sh : Nat → Nat} {A : Nat → Prop} {oo : Int32 × ch_Mem}     (S : CallFix p m c cX6_add 9 s args wsX6_add RX6) (fin : ch_FinI p l e rm_X6_add s m args below meth c cX6_add Q D I 40 (ch_FC I sh) sh A oo)  {x6 : Int32}  {M : ch_Mem} {H : Heap} {locs : List Loc} {ls : Array Slot} (h : D_X6_add_b186 x6 M = some oo) (hw : ch_Wd D I 40 (ch_FC I sh) sh s A M H locs) (hl : lv_has ls 9 [(6, .int x6)]) : W p l e rm_X6_add s m args below meth c H locs 0 0 Q (F0 m 186 ls []) := by
  obtain ⟨hx, hb, hml, hown, hts⟩ := id S
  unfold D_X6_add_b186 at h
  refine lv_iload hx hb dX6_add_186 (lv_at hl 0 rfl) ?_
  exact fin _ _ _ _ _ _ h hw dX6_add_188
set_option maxHeartbeats 4000000 in
set_option maxRecDepth 100000 in
theorem t_X6_add_125 {p : Program} {l : Launch} {e : Env} {s : State} {m : MethodId} {args : Array Value} {below : List Frame} {meth : Method} {c : Code} {Q : State → Prop} {D : va_G} {I : ch_Id} {sh : Nat → Nat} {A : Nat → Prop} {oo : Int32 × ch_Mem}    {k125 : Int32 → Int32 → Int32 → Int32 → Int32 → Int32 → Int32 → ch_Mem → Option (Int32 × ch_Mem)} (S : CallFix p m c cX6_add 9 s args wsX6_add RX6) (fin : ch_FinI p l e rm_X6_add s m args below meth c cX6_add Q D I 40 (ch_FC I sh) sh A oo) (hk125 : ∀ (x1 : Int32) (x2 : Int32) (x3 : Int32) (x4 : Int32) (x5 : Int32) (x6 : Int32) (x7 : Int32) (M : ch_Mem) (H : Heap) (locs : List Loc) (ls : Array Slot), k125 x1 x2 x3 x4 x5 x6 x7 M = some oo → ch_Wd D I 40 (ch_FC I sh) sh s A M H locs → lv_has ls 9 [(0, .ref (sh 0)), (1, .int x1), (2, .int x2), (3, .int x3), (4, .int x4), (5, .int x5), (6, .int x6), (7, .int x7)] → W p l e rm_X6_add s m args below meth c H locs 0 0 Q (F0 m 125 ls [])) {x1 : Int32} {x2 : Int32} {x3 : Int32} {x4 : Int32} {x5 : Int32} {x6 : Int32} {x7 : Int32}  {M : ch_Mem} {H : Heap} {locs : List Loc} {ls : Array Slot} (h : D_X6_add_b125 k125 x1 x2 x3 x4 x5 x6 x7 M = some oo) (hw : ch_Wd D I 40 (ch_FC I sh) sh s A M H locs) (hl : lv_has ls 9 [(0, .ref (sh 0)), (1, .int x1), (2, .int x2), (3, .int x3), (4, .int x4), (5, .int x5), (6, .int x6), (7, .int x7)]) : W p l e rm_X6_add s m args below meth c H locs 0 0 Q (F0 m 125 ls []) := by
  obtain ⟨hx, hb, hml, hown, hts⟩ := id S
  unfold D_X6_add_b125 at h
  refine lv_iload hx hb dX6_add_125 (lv_at hl 7 rfl) ?_
  refine lv_iload hx hb dX6_add_127 (lv_at hl 6 rfl) ?_
  refine ch_icmp_ge (tgt := 186) hx hb dX6_add_129 (by decide) h (fun h => ?_) (fun h => ?_)
  · exact t_X6_add_186 S fin h hw (lv_sub hl [6] rfl)
  · refine lv_iload hx hb dX6_add_132 (lv_at hl 5 rfl) ?_
    refine lv_aload_n hx hb dX6_add_134 rfl (lv_at hl 0 rfl) ?_
    refine ch_get S hw 0 (by decide) rfl rfl (by decide +kernel) 0 (by decide) (hts (.fieldLink RX6 11 "CodeHunt" "rows" "[LCodeHunt$Row;") (by decide +kernel)) rfl dX6_add_135 ?_
    refine lv_iload_n hx hb dX6_add_138 rfl (lv_at hl 1 rfl) ?_
    refine ch_gd_k h (fun hin h => ?_)
    have hlt1 := ch_in_lt hin
    refine ch_rows S hw hin dX6_add_139 ?_
    refine lv_iload hx hb dX6_add_140 (lv_at hl 7 rfl) ?_
    refine lv_iload hx hb dX6_add_142 (lv_at hl 4 rfl) ?_
    refine lv_iadd hx hb dX6_add_144 ?_
    refine ch_bd_k h (fun r2 M3 hc h => ?_)
    refine ch_ci hw (va_runV (As := [.int (x7 + x4)]) (rest := [.int x5]) S (c_X3_signAt l D I sh H.size M (7 + x1.toNatClampNeg) (by omega) (x7 + x4) hc) (cwV 1 hts gX6_add_X3_signAt rfl rfl rfl (by decide +kernel) ⟨Nat.le_of_ble_eq_true rfl, Nat.le_of_ble_eq_true rfl⟩) (ch_pV hw (by omega) (ch_FC_row (by omega)) rfl rfl) rfl rfl hl.1 rfl (lv_room (Nat.le_of_ble_eq_true rfl)) dX6_add_145 ⟨Nat.le_refl 0, Nat.le_refl 0⟩) (fun H locs hw => ?_)
    refine lv_imul hx hb dX6_add_148 ?_
    refine lv_istore (lv' := [(8, .int (x5 * r2)), (0, .ref (sh 0)), (1, .int x1), (2, .int x2), (3, .int x3), (4, .int x4), (5, .int x5), (6, .int x6), (7, .int x7)]) hx hb dX6_add_149 hl (by decide) rfl (fun ls hl => ?_)
    refine lv_aload_n hx hb dX6_add_151 rfl (lv_at hl 1 rfl) ?_
    refine ch_get S hw 0 (by decide) rfl rfl (by decide +kernel) 1 (by decide) (hts (.fieldLink RX6 17 "CodeHunt" "reels" "[LCodeHunt$Reel;") (by decide +kernel)) rfl dX6_add_152 ?_
    refine lv_iload_n hx hb dX6_add_155 rfl (lv_at hl 3 rfl) ?_
    refine ch_gd_k h (fun hin h => ?_)
    have hlt4 := ch_in_lt hin
    refine ch_reels S hw hin dX6_add_156 ?_
    refine lv_iload_n hx hb dX6_add_157 rfl (lv_at hl 4 rfl) ?_
    refine lv_iload hx hb dX6_add_158 (lv_at hl 8 rfl) ?_
    refine lv_iadd hx hb dX6_add_160 ?_
    refine lv_aload_n hx hb dX6_add_161 rfl (lv_at hl 1 rfl) ?_
    refine ch_get S hw 0 (by decide) rfl rfl (by decide +kernel) 1 (by decide) (hts (.fieldLink RX6 17 "CodeHunt" "reels" "[LCodeHunt$Reel;") (by decide +kernel)) rfl dX6_add_162 ?_
    refine lv_iload_n hx hb dX6_add_165 rfl (lv_at hl 3 rfl) ?_
    refine ch_gd_k h (fun hin h => ?_)
    have hlt5 := ch_in_lt hin
    refine ch_reels S hw hin dX6_add_166 ?_
    refine lv_iload_n hx hb dX6_add_167 rfl (lv_at hl 4 rfl) ?_
    refine lv_iload hx hb dX6_add_168 (lv_at hl 8 rfl) ?_
    refine lv_iadd hx hb dX6_add_170 ?_
    refine ch_bd_k h (fun r6 M7 hc h => ?_)
    refine ch_ci hw (va_runV (As := [.int (x3 + x7)]) (rest := [.int (x3 + x7), .ref (sh (23 + x2.toNatClampNeg))]) S (c_X2_itemOrZero l D I sh H.size M3 (23 + x2.toNatClampNeg) (by omega) (x3 + x7) hc) (cwV 1 hts gX6_add_X2_itemOrZero rfl rfl rfl (by decide +kernel) ⟨Nat.le_of_ble_eq_true rfl, Nat.le_of_ble_eq_true rfl⟩) (ch_pV hw (by omega) (ch_FC_reel (by omega)) rfl rfl) rfl rfl hl.1 rfl (lv_room (Nat.le_of_ble_eq_true rfl)) dX6_add_171 ⟨Nat.le_refl 0, Nat.le_refl 0⟩) (fun H locs hw => ?_)
    refine lv_iload hx hb dX6_add_174 (lv_at hl 0 rfl) ?_
    refine lv_iadd hx hb dX6_add_176 ?_
    refine ch_bd_k h (fun r8 M9 hc h => ?_)
    cases r8
    refine ch_cv hw (va_runV (As := [.int (x3 + x7), .int (r6 + (x5 * r2))]) (rest := []) S (c_X2_keep l D I sh H.size M7 (23 + x2.toNatClampNeg) (by omega) (x3 + x7) (r6 + (x5 * r2)) hc) (cwV 2 hts gX6_add_X2_keep rfl rfl rfl (by decide +kernel) ⟨Nat.le_of_ble_eq_true rfl, Nat.le_of_ble_eq_true rfl⟩) (ch_pV hw (by omega) (ch_FC_reel (by omega)) rfl rfl) rfl rfl hl.1 rfl (lv_room (Nat.le_of_ble_eq_true rfl)) dX6_add_177 ⟨Nat.le_refl 0, Nat.le_refl 0⟩) (fun H locs hw => ?_)
    refine lv_iinc (v := x7 + (1 : Int32)) (lv' := [(7, .int (x7 + (1 : Int32))), (8, .int (x5 * r2)), (0, .ref (sh 0)), (1, .int x1), (2, .int x2), (3, .int x3), (4, .int x4), (5, .int x5), (6, .int x6)]) hx hb dX6_add_180 hl (k := 8) rfl rfl (by decide) rfl (fun ls hl => ?_)
    refine lv_goto (tgt := 125) hx hb dX6_add_183 (by decide) ?_
    exact hk125 _ _ _ _ _ _ _ _ _ _ _  h hw (lv_sub hl [2, 3, 4, 5, 6, 7, 8, 0] rfl)
set_option maxHeartbeats 4000000 in
set_option maxRecDepth 100000 in
theorem tl_X6_add_125 {p : Program} {l : Launch} {e : Env} {s : State} {m : MethodId} {args : Array Value} {below : List Frame} {meth : Method} {c : Code} {Q : State → Prop} {D : va_G} {I : ch_Id} {sh : Nat → Nat} {A : Nat → Prop} {oo : Int32 × ch_Mem}     (S : CallFix p m c cX6_add 9 s args wsX6_add RX6) (fin : ch_FinI p l e rm_X6_add s m args below meth c cX6_add Q D I 40 (ch_FC I sh) sh A oo)  (n : Nat) : ∀ (x1 : Int32) (x2 : Int32) (x3 : Int32) (x4 : Int32) (x5 : Int32) (x6 : Int32) (x7 : Int32) (M : ch_Mem) (H : Heap) (locs : List Loc) (ls : Array Slot), D_X6_add_L125  n x1 x2 x3 x4 x5 x6 x7 M = some oo → ch_Wd D I 40 (ch_FC I sh) sh s A M H locs → lv_has ls 9 [(0, .ref (sh 0)), (1, .int x1), (2, .int x2), (3, .int x3), (4, .int x4), (5, .int x5), (6, .int x6), (7, .int x7)] → W p l e rm_X6_add s m args below meth c H locs 0 0 Q (F0 m 125 ls []) := by
  induction n with
  | zero => intro x1 x2 x3 x4 x5 x6 x7 M H locs ls  h; cases h
  | succ n ih =>
    intro x1 x2 x3 x4 x5 x6 x7 M H locs ls  h hw hl
    exact t_X6_add_125 S fin ih h hw hl
set_option maxHeartbeats 4000000 in
set_option maxRecDepth 100000 in
theorem t_X6_add_0 {p : Program} {l : Launch} {e : Env} {s : State} {m : MethodId} {args : Array Value} {below : List Frame} {meth : Method} {c : Code} {Q : State → Prop} {D : va_G} {I : ch_Id} {sh : Nat → Nat} {A : Nat → Prop} {oo : Int32 × ch_Mem}     (S : CallFix p m c cX6_add 9 s args wsX6_add RX6) (fin : ch_FinI p l e rm_X6_add s m args below meth c cX6_add Q D I 40 (ch_FC I sh) sh A oo)  {x1 : Int32} {x2 : Int32} {x3 : Int32} {x4 : Int32} {x5 : Int32}  {M : ch_Mem} {H : Heap} {locs : List Loc} {ls : Array Slot} (h : D_X6_add x1 x2 x3 x4 x5 M = some oo) (hw : ch_Wd D I 40 (ch_FC I sh) sh s A M H locs) (hl : lv_has ls 9 [(0, .ref (sh 0)), (1, .int x1), (2, .int x2), (3, .int x3), (4, .int x4), (5, .int x5)]) : W p l e rm_X6_add s m args below meth c H locs 0 0 Q (F0 m 0 ls []) := by
  obtain ⟨hx, hb, hml, hown, hts⟩ := id S
  unfold D_X6_add at h
  refine lv_iload_n hx hb dX6_add_0 rfl (lv_at hl 1 rfl) ?_
  refine ch_bd_k h (fun r1 M2 hc h => ?_)
  refine ch_ci hw (va_runS (As := [.int x1]) (rest := []) S (c_X6_isRow l D I sh H.size M x1 hc) (va_cwS 1 hts gX6_add_X6_isRow rfl rfl rfl (by decide +kernel) ⟨Nat.le_of_ble_eq_true rfl, Nat.le_of_ble_eq_true rfl⟩) (ch_pS hw) rfl rfl hl.1 rfl (lv_room (Nat.le_of_ble_eq_true rfl)) dX6_add_1 ⟨Nat.le_refl 0, Nat.le_refl 0⟩) (fun H locs hw => ?_)
  refine ch_if_eq (tgt := 42) hx hb dX6_add_4 (by decide) h (fun h => ?_) (fun h => ?_)
  · refine lv_bipush (v := (-2 : Int32)) hx hb dX6_add_42 (by decide) ?_
    exact fin _ _ _ _ _ _ h hw dX6_add_44
  · refine lv_iload_n hx hb dX6_add_7 rfl (lv_at hl 2 rfl) ?_
    refine ch_bd_k h (fun r3 M4 hc h => ?_)
    refine ch_ci hw (va_runS (As := [.int x2]) (rest := []) S (c_X6_isReel l D I sh H.size M2 x2 hc) (va_cwS 1 hts gX6_add_X6_isReel rfl rfl rfl (by decide +kernel) ⟨Nat.le_of_ble_eq_true rfl, Nat.le_of_ble_eq_true rfl⟩) (ch_pS hw) rfl rfl hl.1 rfl (lv_room (Nat.le_of_ble_eq_true rfl)) dX6_add_8 ⟨Nat.le_refl 0, Nat.le_refl 0⟩) (fun H locs hw => ?_)
    refine ch_if_eq (tgt := 42) hx hb dX6_add_11 (by decide) h (fun h => ?_) (fun h => ?_)
    · refine lv_bipush (v := (-2 : Int32)) hx hb dX6_add_42 (by decide) ?_
      exact fin _ _ _ _ _ _ h hw dX6_add_44
    · refine lv_iload_n hx hb dX6_add_14 rfl (lv_at hl 3 rfl) ?_
      refine ch_if_lt (tgt := 42) hx hb dX6_add_15 (by decide) h (fun h => ?_) (fun h => ?_)
      · refine lv_bipush (v := (-2 : Int32)) hx hb dX6_add_42 (by decide) ?_
        exact fin _ _ _ _ _ _ h hw dX6_add_44
      · refine lv_iload hx hb dX6_add_18 (lv_at hl 4 rfl) ?_
        refine ch_bd_k h (fun r5 M6 hc h => ?_)
        refine ch_ci hw (va_runS (As := [.int x4]) (rest := []) S (c_X6_isShift l D I sh H.size M4 x4 hc) (va_cwS 1 hts gX6_add_X6_isShift rfl rfl rfl (by decide +kernel) ⟨Nat.le_of_ble_eq_true rfl, Nat.le_of_ble_eq_true rfl⟩) (ch_pS hw) rfl rfl hl.1 rfl (lv_room (Nat.le_of_ble_eq_true rfl)) dX6_add_20 ⟨Nat.le_refl 0, Nat.le_refl 0⟩) (fun H locs hw => ?_)
        refine ch_if_eq (tgt := 42) hx hb dX6_add_23 (by decide) h (fun h => ?_) (fun h => ?_)
        · refine lv_bipush (v := (-2 : Int32)) hx hb dX6_add_42 (by decide) ?_
          exact fin _ _ _ _ _ _ h hw dX6_add_44
        · refine lv_iload hx hb dX6_add_26 (lv_at hl 5 rfl) ?_
          refine lv_sipush (v := (-1000 : Int32)) hx hb dX6_add_28 (by decide) ?_
          refine ch_icmp_lt (tgt := 42) hx hb dX6_add_31 (by decide) h (fun h => ?_) (fun h => ?_)
          · refine lv_bipush (v := (-2 : Int32)) hx hb dX6_add_42 (by decide) ?_
            exact fin _ _ _ _ _ _ h hw dX6_add_44
          · refine lv_iload hx hb dX6_add_34 (lv_at hl 5 rfl) ?_
            refine lv_sipush (v := (1000 : Int32)) hx hb dX6_add_36 (by decide) ?_
            refine ch_icmp_le (tgt := 45) hx hb dX6_add_39 (by decide) h (fun h => ?_) (fun h => ?_)
            · refine lv_aload_n hx hb dX6_add_45 rfl (lv_at hl 0 rfl) ?_
              refine ch_get S hw 0 (by decide) rfl rfl (by decide +kernel) 1 (by decide) (hts (.fieldLink RX6 17 "CodeHunt" "reels" "[LCodeHunt$Reel;") (by decide +kernel)) rfl dX6_add_46 ?_
              refine lv_iload_n hx hb dX6_add_49 rfl (lv_at hl 2 rfl) ?_
              refine ch_gd_k h (fun hin h => ?_)
              have hlt7 := ch_in_lt hin
              refine ch_reels S hw hin dX6_add_50 ?_
              refine ch_getN S hw (23 + x2.toNatClampNeg) (by omega) (ch_FC_reel (by omega)) rfl (by decide +kernel) 1 (by decide) (ch_nw hw 18 rfl) rfl dX6_add_51 ?_
              refine ch_if_eq (tgt := 63) hx hb dX6_add_54 (by decide) h (fun h => ?_) (fun h => ?_)
              · refine lv_aload_n hx hb dX6_add_63 rfl (lv_at hl 0 rfl) ?_
                refine ch_get S hw 0 (by decide) rfl rfl (by decide +kernel) 0 (by decide) (hts (.fieldLink RX6 11 "CodeHunt" "rows" "[LCodeHunt$Row;") (by decide +kernel)) rfl dX6_add_64 ?_
                refine lv_iload_n hx hb dX6_add_67 rfl (lv_at hl 1 rfl) ?_
                refine ch_gd_k h (fun hin h => ?_)
                have hlt8 := ch_in_lt hin
                refine ch_rows S hw hin dX6_add_68 ?_
                refine ch_bd_k h (fun r9 M10 hc h => ?_)
                refine ch_ci hw (va_runV (As := []) (rest := []) S (c_X3_isNone l D I sh H.size M6 (7 + x1.toNatClampNeg) (by omega) hc) (cwV 0 hts gX6_add_X3_isNone rfl rfl rfl (by decide +kernel) ⟨Nat.le_of_ble_eq_true rfl, Nat.le_of_ble_eq_true rfl⟩) (ch_pV hw (by omega) (ch_FC_row (by omega)) rfl rfl) rfl rfl hl.1 rfl (lv_room (Nat.le_of_ble_eq_true rfl)) dX6_add_69 ⟨Nat.le_refl 0, Nat.le_refl 0⟩) (fun H locs hw => ?_)
                refine ch_if_eq (tgt := 78) hx hb dX6_add_72 (by decide) h (fun h => ?_) (fun h => ?_)
                · refine lv_iload_n hx hb dX6_add_78 rfl (lv_at hl 3 rfl) ?_
                  refine lv_aload_n hx hb dX6_add_79 rfl (lv_at hl 0 rfl) ?_
                  refine ch_get S hw 0 (by decide) rfl rfl (by decide +kernel) 1 (by decide) (hts (.fieldLink RX6 17 "CodeHunt" "reels" "[LCodeHunt$Reel;") (by decide +kernel)) rfl dX6_add_80 ?_
                  refine lv_iload_n hx hb dX6_add_83 rfl (lv_at hl 2 rfl) ?_
                  refine ch_gd_k h (fun hin h => ?_)
                  have hlt11 := ch_in_lt hin
                  refine ch_reels S hw hin dX6_add_84 ?_
                  refine ch_getN S hw (23 + x2.toNatClampNeg) (by omega) (ch_FC_reel (by omega)) rfl (by decide +kernel) 3 (by decide) (ch_nw hw 20 rfl) rfl dX6_add_85 ?_
                  refine ch_icmp_le (tgt := 97) hx hb dX6_add_88 (by decide) h (fun h => ?_) (fun h => ?_)
                  · refine lv_aload_n hx hb dX6_add_97 rfl (lv_at hl 0 rfl) ?_
                    refine ch_get S hw 0 (by decide) rfl rfl (by decide +kernel) 0 (by decide) (hts (.fieldLink RX6 11 "CodeHunt" "rows" "[LCodeHunt$Row;") (by decide +kernel)) rfl dX6_add_98 ?_
                    refine lv_iload_n hx hb dX6_add_101 rfl (lv_at hl 1 rfl) ?_
                    refine ch_gd_k h (fun hin h => ?_)
                    have hlt12 := ch_in_lt hin
                    refine ch_rows S hw hin dX6_add_102 ?_
                    refine ch_getN S hw (7 + x1.toNatClampNeg) (by omega) (ch_FC_row (by omega)) rfl (by decide +kernel) 1 (by decide) (ch_nw hw 16 rfl) rfl dX6_add_103 ?_
                    refine lv_aload_n hx hb dX6_add_106 rfl (lv_at hl 0 rfl) ?_
                    refine ch_get S hw 0 (by decide) rfl rfl (by decide +kernel) 1 (by decide) (hts (.fieldLink RX6 17 "CodeHunt" "reels" "[LCodeHunt$Reel;") (by decide +kernel)) rfl dX6_add_107 ?_
                    refine lv_iload_n hx hb dX6_add_110 rfl (lv_at hl 2 rfl) ?_
                    refine ch_gd_k h (fun hin h => ?_)
                    have hlt13 := ch_in_lt hin
                    refine ch_reels S hw hin dX6_add_111 ?_
                    refine ch_getN S hw (23 + x2.toNatClampNeg) (by omega) (ch_FC_reel (by omega)) rfl (by decide +kernel) 3 (by decide) (ch_nw hw 20 rfl) rfl dX6_add_112 ?_
                    refine lv_iload_n hx hb dX6_add_115 rfl (lv_at hl 3 rfl) ?_
                    refine lv_isub hx hb dX6_add_116 ?_
                    refine va_mmin hx hb (S.2.2.1.trans hl.1.symm) hown (hts (.methodLink RX6 253 Lib.Math.min.name) (by decide +kernel)) (hts (.static Lib.Math.min.name) (by decide +kernel)) (hts (.initialized "java/lang/Math") (by decide +kernel)) (hts (.code Lib.Math.min.name Lib.Math.min.code 2 (some .int)) (by decide +kernel)) (Nat.le_of_ble_eq_true rfl) (Nat.le_of_ble_eq_true rfl) (Nat.le_refl 0) (Nat.le_refl 0) dX6_add_117 ?_
                    refine ch_topi h (fun u14 h => ?_)
                    refine lv_istore (lv' := [(6, .int u14), (0, .ref (sh 0)), (1, .int x1), (2, .int x2), (3, .int x3), (4, .int x4), (5, .int x5)]) hx hb dX6_add_120 hl (by decide) rfl (fun ls hl => ?_)
                    refine lv_iconst (v := (0 : Int32)) hx hb dX6_add_122 (by decide) ?_
                    refine lv_istore (lv' := [(7, .int (0 : Int32)), (6, .int u14), (0, .ref (sh 0)), (1, .int x1), (2, .int x2), (3, .int x3), (4, .int x4), (5, .int x5)]) hx hb dX6_add_123 hl (by decide) rfl (fun ls hl => ?_)
                    exact tl_X6_add_125 S fin ch_fu _ _ _ _ _ _ _ _ _ _ _ h hw (lv_sub hl [2, 3, 4, 5, 6, 7, 1, 0] rfl)
                  · refine lv_aload_n hx hb dX6_add_91 rfl (lv_at hl 0 rfl) ?_
                    refine lv_iconst (v := (2 : Int32)) hx hb dX6_add_92 (by decide) ?_
                    refine ch_bd_k h (fun r15 M16 hc h => ?_)
                    refine ch_ci hw (va_runV (As := [.int (2 : Int32)]) (rest := []) S (c_X6_found l D I sh H.size M10 (2 : Int32) hc) (cwV 1 hts gX6_add_X6_found rfl rfl rfl (by decide +kernel) ⟨Nat.le_of_ble_eq_true rfl, Nat.le_of_ble_eq_true rfl⟩) (ch_pV hw (by decide) rfl rfl rfl) rfl rfl hl.1 rfl (lv_room (Nat.le_of_ble_eq_true rfl)) dX6_add_93 ⟨Nat.le_refl 0, Nat.le_refl 0⟩) (fun H locs hw => ?_)
                    exact fin _ _ _ _ _ _ h hw dX6_add_96
                · refine lv_bipush (v := (-3 : Int32)) hx hb dX6_add_75 (by decide) ?_
                  exact fin _ _ _ _ _ _ h hw dX6_add_77
              · refine lv_aload_n hx hb dX6_add_57 rfl (lv_at hl 0 rfl) ?_
                refine lv_iconst (v := (1 : Int32)) hx hb dX6_add_58 (by decide) ?_
                refine ch_bd_k h (fun r17 M18 hc h => ?_)
                refine ch_ci hw (va_runV (As := [.int (1 : Int32)]) (rest := []) S (c_X6_found l D I sh H.size M6 (1 : Int32) hc) (cwV 1 hts gX6_add_X6_found rfl rfl rfl (by decide +kernel) ⟨Nat.le_of_ble_eq_true rfl, Nat.le_of_ble_eq_true rfl⟩) (ch_pV hw (by decide) rfl rfl rfl) rfl rfl hl.1 rfl (lv_room (Nat.le_of_ble_eq_true rfl)) dX6_add_59 ⟨Nat.le_refl 0, Nat.le_refl 0⟩) (fun H locs hw => ?_)
                exact fin _ _ _ _ _ _ h hw dX6_add_62
            · refine lv_bipush (v := (-2 : Int32)) hx hb dX6_add_42 (by decide) ?_
              exact fin _ _ _ _ _ _ h hw dX6_add_44
set_option maxHeartbeats 4000000 in
set_option maxRecDepth 100000 in
theorem c_X6_add (l : Launch) (D : va_G) (I : ch_Id) (sh : Nat → Nat) (sz : Nat) (M : ch_Mem)  (x1 : Int32) (x2 : Int32) (x3 : Int32) (x4 : Int32) (x5 : Int32) {r : Int32} {M1 : ch_Mem} (h : D_X6_add x1 x2 x3 x4 x5 M = some (r, M1)) : Met l yX6_add wsX6_add rm_X6_add (va_Pc [.ref (sh 0), .int x1, .int x2, .int x3, .int x4, .int x5] (ch_Pre D I 40 (ch_FC I sh) sh sz M)) (va_Qi (fun r' (u : ch_Mem) => r' = r ∧ u = M1) (ch_Pos D 40 (ch_FC I sh) sh) (ch_A 40 sh sz)) 0 0 (ch_A 40 sh sz) := by
  refine Met.ofW (cc := cX6_add) (maxL := 9) (ret := (some .int)) (by decide) rfl ?_
  intro p e s m args below meth c s₁ B hml hv0
  obtain ⟨rfl, hv0⟩ := hv0
  obtain rfl : s.heap.size = sz := hv0.1
  have hw := ch_start hv0
  have S : CallFix p m c cX6_add 9 s _ wsX6_add RX6 := ⟨B.exec, B.bytes, hml, findClass_of_methodNamed B.named, atoms_spec (ws := wsX6_add) B.pre⟩
  have hl := lv_entry ([.ref (sh 0), .int x1, .int x2, .int x3, .int x4, .int x5]) (n := 9) (Nat.le_of_ble_eq_true rfl)
  rw [lg_entry_eq]
  generalize (lg_sl ([.ref (sh 0), .int x1, .int x2, .int x3, .int x4, .int x5]) ++ List.replicate (9 - (lg_sl ([.ref (sh 0), .int x1, .int x2, .int x3, .int x4, .int x5])).length) Slot.unset).toArray = ls at hl ⊢
  exact t_X6_add_0 S (ch_finI (B := fun _ => True) B.exec B.bytes B.returns B.notSynchronized) h hw (lv_sub hl [0, 1, 2, 3, 4, 5] rfl)
set_option maxHeartbeats 4000000 in
set_option maxRecDepth 100000 in
theorem t_X6_areHops_44 {p : Program} {l : Launch} {e : Env} {s : State} {m : MethodId} {args : Array Value} {below : List Frame} {meth : Method} {c : Code} {Q : State → Prop} {D : va_G} {I : ch_Id} {sh : Nat → Nat} {A : Nat → Prop} {oo : Int32 × ch_Mem}   {t : Nat} (hT : va_T .int t 11 (fun j => .int (ch_pr j)) A s s.heap) {k15 : Int32 → Int32 → Int32 → Int32 → Int32 → Int32 → ch_Mem → Option (Int32 × ch_Mem)} (S : CallFix p m c cX6_areHops 8 s args wsX6_areHops RX6) (fin : ch_FinZ p l e rm_X6_areHops s m args below meth c cX6_areHops Q D I 40 (ch_FC I sh) sh A oo) (hk15 : ∀ (x0 : Int32) (x1 : Int32) (x2 : Int32) (x3 : Int32) (x5 : Int32) (x6 : Int32) (M : ch_Mem) (H : Heap) (locs : List Loc) (ls : Array Slot), k15 x0 x1 x2 x3 x5 x6 M = some oo → ch_Wd D I 40 (ch_FC I sh) sh s A M H locs → lv_has ls 8 [(0, .int x0), (1, .int x1), (2, .int x2), (3, .int x3), (4, .ref t), (5, .int x5), (6, .int x6)] → W p l e rm_X6_areHops s m args below meth c H locs 0 0 Q (F0 m 15 ls [])) {x0 : Int32} {x1 : Int32} {x2 : Int32} {x5 : Int32} {x6 : Int32} {y0 : Int32}  {M : ch_Mem} {H : Heap} {locs : List Loc} {ls : Array Slot} (h : D_X6_areHops_b44 k15 x0 x1 x2 x5 x6 y0 M = some oo) (hw : ch_Wd D I 40 (ch_FC I sh) sh s A M H locs) (hl : lv_has ls 8 [(0, .int x0), (1, .int x1), (2, .int x2), (4, .ref t), (5, .int x5), (6, .int x6)]) : W p l e rm_X6_areHops s m args below meth c H locs 0 0 Q (F0 m 44 ls [.int y0]) := by
  obtain ⟨hx, hb, hml, hown, hts⟩ := id S
  unfold D_X6_areHops_b44 at h
  refine lv_istore_n (lv' := [(3, .int y0), (0, .int x0), (1, .int x1), (2, .int x2), (4, .ref t), (5, .int x5), (6, .int x6)]) hx hb dX6_areHops_44 rfl hl (by decide) rfl (fun ls hl => ?_)
  refine lv_iinc (v := x6 + (1 : Int32)) (lv' := [(6, .int (x6 + (1 : Int32))), (3, .int y0), (0, .int x0), (1, .int x1), (2, .int x2), (4, .ref t), (5, .int x5)]) hx hb dX6_areHops_45 hl (k := 6) rfl rfl (by decide) rfl (fun ls hl => ?_)
  refine lv_goto (tgt := 15) hx hb dX6_areHops_48 (by decide) ?_
  exact hk15 _ _ _ _ _ _ _ _ _ _  h hw (lv_sub hl [2, 3, 4, 1, 5, 6, 0] rfl)
set_option maxHeartbeats 4000000 in
set_option maxRecDepth 100000 in
theorem t_X6_areHops_39 {p : Program} {l : Launch} {e : Env} {s : State} {m : MethodId} {args : Array Value} {below : List Frame} {meth : Method} {c : Code} {Q : State → Prop} {D : va_G} {I : ch_Id} {sh : Nat → Nat} {A : Nat → Prop} {oo : Int32 × ch_Mem}   {t : Nat} (hT : va_T .int t 11 (fun j => .int (ch_pr j)) A s s.heap) {k15 : Int32 → Int32 → Int32 → Int32 → Int32 → Int32 → ch_Mem → Option (Int32 × ch_Mem)} (S : CallFix p m c cX6_areHops 8 s args wsX6_areHops RX6) (fin : ch_FinZ p l e rm_X6_areHops s m args below meth c cX6_areHops Q D I 40 (ch_FC I sh) sh A oo) (hk15 : ∀ (x0 : Int32) (x1 : Int32) (x2 : Int32) (x3 : Int32) (x5 : Int32) (x6 : Int32) (M : ch_Mem) (H : Heap) (locs : List Loc) (ls : Array Slot), k15 x0 x1 x2 x3 x5 x6 M = some oo → ch_Wd D I 40 (ch_FC I sh) sh s A M H locs → lv_has ls 8 [(0, .int x0), (1, .int x1), (2, .int x2), (3, .int x3), (4, .ref t), (5, .int x5), (6, .int x6)] → W p l e rm_X6_areHops s m args below meth c H locs 0 0 Q (F0 m 15 ls [])) {x0 : Int32} {x1 : Int32} {x2 : Int32} {x5 : Int32} {x6 : Int32}  {M : ch_Mem} {H : Heap} {locs : List Loc} {ls : Array Slot} (h : D_X6_areHops_b39 k15 x0 x1 x2 x5 x6 M = some oo) (hw : ch_Wd D I 40 (ch_FC I sh) sh s A M H locs) (hl : lv_has ls 8 [(0, .int x0), (1, .int x1), (2, .int x2), (4, .ref t), (5, .int x5), (6, .int x6)]) : W p l e rm_X6_areHops s m args below meth c H locs 0 0 Q (F0 m 39 ls []) := by
  obtain ⟨hx, hb, hml, hown, hts⟩ := id S
  unfold D_X6_areHops_b39 at h
  refine lv_iconst (v := (1 : Int32)) hx hb dX6_areHops_39 (by decide) ?_
  refine lv_goto (tgt := 44) hx hb dX6_areHops_40 (by decide) ?_
  exact t_X6_areHops_44 hT S fin hk15 h hw (lv_sub hl [0, 1, 2, 3, 4, 5] rfl)
set_option maxHeartbeats 4000000 in
set_option maxRecDepth 100000 in
theorem t_X6_areHops_51 {p : Program} {l : Launch} {e : Env} {s : State} {m : MethodId} {args : Array Value} {below : List Frame} {meth : Method} {c : Code} {Q : State → Prop} {D : va_G} {I : ch_Id} {sh : Nat → Nat} {A : Nat → Prop} {oo : Int32 × ch_Mem}     (S : CallFix p m c cX6_areHops 8 s args wsX6_areHops RX6) (fin : ch_FinZ p l e rm_X6_areHops s m args below meth c cX6_areHops Q D I 40 (ch_FC I sh) sh A oo)  {x0 : Int32} {x1 : Int32} {x2 : Int32} {x3 : Int32}  {M : ch_Mem} {H : Heap} {locs : List Loc} {ls : Array Slot} (h : D_X6_areHops_b51 x0 x1 x2 x3 M = some oo) (hw : ch_Wd D I 40 (ch_FC I sh) sh s A M H locs) (hl : lv_has ls 8 [(0, .int x0), (1, .int x1), (2, .int x2), (3, .int x3)]) : W p l e rm_X6_areHops s m args below meth c H locs 0 0 Q (F0 m 51 ls []) := by
  obtain ⟨hx, hb, hml, hown, hts⟩ := id S
  unfold D_X6_areHops_b51 at h
  refine lv_iload_n hx hb dX6_areHops_51 rfl (lv_at hl 3 rfl) ?_
  refine ch_if_eq (tgt := 77) hx hb dX6_areHops_52 (by decide) h (fun h => ?_) (fun h => ?_)
  · refine lv_iconst (v := (0 : Int32)) hx hb dX6_areHops_77 (by decide) ?_
    exact fin _ _ _ _ _ _ rfl h hw dX6_areHops_78
  · refine lv_iload_n hx hb dX6_areHops_55 rfl (lv_at hl 1 rfl) ?_
    refine ch_if_le (tgt := 77) hx hb dX6_areHops_56 (by decide) h (fun h => ?_) (fun h => ?_)
    · refine lv_iconst (v := (0 : Int32)) hx hb dX6_areHops_77 (by decide) ?_
      exact fin _ _ _ _ _ _ rfl h hw dX6_areHops_78
    · refine lv_iload_n hx hb dX6_areHops_59 rfl (lv_at hl 1 rfl) ?_
      refine lv_iload_n hx hb dX6_areHops_60 rfl (lv_at hl 0 rfl) ?_
      refine ch_icmp_ge (tgt := 77) hx hb dX6_areHops_61 (by decide) h (fun h => ?_) (fun h => ?_)
      · refine lv_iconst (v := (0 : Int32)) hx hb dX6_areHops_77 (by decide) ?_
        exact fin _ _ _ _ _ _ rfl h hw dX6_areHops_78
      · refine lv_iload_n hx hb dX6_areHops_64 rfl (lv_at hl 2 rfl) ?_
        refine ch_if_le (tgt := 77) hx hb dX6_areHops_65 (by decide) h (fun h => ?_) (fun h => ?_)
        · refine lv_iconst (v := (0 : Int32)) hx hb dX6_areHops_77 (by decide) ?_
          exact fin _ _ _ _ _ _ rfl h hw dX6_areHops_78
        · refine lv_iload_n hx hb dX6_areHops_68 rfl (lv_at hl 2 rfl) ?_
          refine lv_iload_n hx hb dX6_areHops_69 rfl (lv_at hl 0 rfl) ?_
          refine ch_icmp_ge (tgt := 77) hx hb dX6_areHops_70 (by decide) h (fun h => ?_) (fun h => ?_)
          · refine lv_iconst (v := (0 : Int32)) hx hb dX6_areHops_77 (by decide) ?_
            exact fin _ _ _ _ _ _ rfl h hw dX6_areHops_78
          · refine lv_iconst (v := (1 : Int32)) hx hb dX6_areHops_73 (by decide) ?_
            refine lv_goto (tgt := 78) hx hb dX6_areHops_74 (by decide) ?_
            exact fin _ _ _ _ _ _ rfl h hw dX6_areHops_78
set_option maxHeartbeats 4000000 in
set_option maxRecDepth 100000 in
theorem t_X6_areHops_15 {p : Program} {l : Launch} {e : Env} {s : State} {m : MethodId} {args : Array Value} {below : List Frame} {meth : Method} {c : Code} {Q : State → Prop} {D : va_G} {I : ch_Id} {sh : Nat → Nat} {A : Nat → Prop} {oo : Int32 × ch_Mem}   {t : Nat} (hT : va_T .int t 11 (fun j => .int (ch_pr j)) A s s.heap) {k15 : Int32 → Int32 → Int32 → Int32 → Int32 → Int32 → ch_Mem → Option (Int32 × ch_Mem)} (S : CallFix p m c cX6_areHops 8 s args wsX6_areHops RX6) (fin : ch_FinZ p l e rm_X6_areHops s m args below meth c cX6_areHops Q D I 40 (ch_FC I sh) sh A oo) (hk15 : ∀ (x0 : Int32) (x1 : Int32) (x2 : Int32) (x3 : Int32) (x5 : Int32) (x6 : Int32) (M : ch_Mem) (H : Heap) (locs : List Loc) (ls : Array Slot), k15 x0 x1 x2 x3 x5 x6 M = some oo → ch_Wd D I 40 (ch_FC I sh) sh s A M H locs → lv_has ls 8 [(0, .int x0), (1, .int x1), (2, .int x2), (3, .int x3), (4, .ref t), (5, .int x5), (6, .int x6)] → W p l e rm_X6_areHops s m args below meth c H locs 0 0 Q (F0 m 15 ls [])) {x0 : Int32} {x1 : Int32} {x2 : Int32} {x3 : Int32} {x5 : Int32} {x6 : Int32}  {M : ch_Mem} {H : Heap} {locs : List Loc} {ls : Array Slot} (h : D_X6_areHops_b15 k15 x0 x1 x2 x3 x5 x6 M = some oo) (hw : ch_Wd D I 40 (ch_FC I sh) sh s A M H locs) (hl : lv_has ls 8 [(0, .int x0), (1, .int x1), (2, .int x2), (3, .int x3), (4, .ref t), (5, .int x5), (6, .int x6)]) : W p l e rm_X6_areHops s m args below meth c H locs 0 0 Q (F0 m 15 ls []) := by
  obtain ⟨hx, hb, hml, hown, hts⟩ := id S
  unfold D_X6_areHops_b15 at h
  refine lv_iload hx hb dX6_areHops_15 (lv_at hl 6 rfl) ?_
  refine lv_iload hx hb dX6_areHops_17 (lv_at hl 5 rfl) ?_
  refine ch_icmp_ge (tgt := 51) hx hb dX6_areHops_19 (by decide) h (fun h => ?_) (fun h => ?_)
  · exact t_X6_areHops_51 S fin h hw (lv_sub hl [0, 1, 2, 3] rfl)
  · refine lv_aload hx hb dX6_areHops_22 (lv_at hl 4 rfl) ?_
    refine lv_iload hx hb dX6_areHops_24 (lv_at hl 6 rfl) ?_
    refine ch_gd_k h (fun hin h => ?_)
    refine va_ti hx hb hT hw.2.2.2.1 hin rfl dX6_areHops_26 ?_
    refine lv_istore (lv' := [(7, .int (ch_pr x6.toNatClampNeg)), (0, .int x0), (1, .int x1), (2, .int x2), (3, .int x3), (4, .ref t), (5, .int x5), (6, .int x6)]) hx hb dX6_areHops_27 hl (by decide) rfl (fun ls hl => ?_)
    refine lv_iload_n hx hb dX6_areHops_29 rfl (lv_at hl 4 rfl) ?_
    refine ch_if_ne (tgt := 39) hx hb dX6_areHops_30 (by decide) h (fun h => ?_) (fun h => ?_)
    · exact t_X6_areHops_39 hT S fin hk15 h hw (lv_sub hl [1, 2, 3, 5, 6, 7] rfl)
    · refine lv_iload hx hb dX6_areHops_33 (lv_at hl 0 rfl) ?_
      refine lv_iload_n hx hb dX6_areHops_35 rfl (lv_at hl 1 rfl) ?_
      refine ch_icmp_ne (tgt := 43) hx hb dX6_areHops_36 (by decide) h (fun h => ?_) (fun h => ?_)
      · refine lv_iconst (v := (0 : Int32)) hx hb dX6_areHops_43 (by decide) ?_
        exact t_X6_areHops_44 hT S fin hk15 h hw (lv_sub hl [1, 2, 3, 5, 6, 7] rfl)
      · exact t_X6_areHops_39 hT S fin hk15 h hw (lv_sub hl [1, 2, 3, 5, 6, 7] rfl)
set_option maxHeartbeats 4000000 in
set_option maxRecDepth 100000 in
theorem tl_X6_areHops_15 {p : Program} {l : Launch} {e : Env} {s : State} {m : MethodId} {args : Array Value} {below : List Frame} {meth : Method} {c : Code} {Q : State → Prop} {D : va_G} {I : ch_Id} {sh : Nat → Nat} {A : Nat → Prop} {oo : Int32 × ch_Mem}   {t : Nat} (hT : va_T .int t 11 (fun j => .int (ch_pr j)) A s s.heap)  (S : CallFix p m c cX6_areHops 8 s args wsX6_areHops RX6) (fin : ch_FinZ p l e rm_X6_areHops s m args below meth c cX6_areHops Q D I 40 (ch_FC I sh) sh A oo)  (n : Nat) : ∀ (x0 : Int32) (x1 : Int32) (x2 : Int32) (x3 : Int32) (x5 : Int32) (x6 : Int32) (M : ch_Mem) (H : Heap) (locs : List Loc) (ls : Array Slot), D_X6_areHops_L15  n x0 x1 x2 x3 x5 x6 M = some oo → ch_Wd D I 40 (ch_FC I sh) sh s A M H locs → lv_has ls 8 [(0, .int x0), (1, .int x1), (2, .int x2), (3, .int x3), (4, .ref t), (5, .int x5), (6, .int x6)] → W p l e rm_X6_areHops s m args below meth c H locs 0 0 Q (F0 m 15 ls []) := by
  induction n with
  | zero => intro x0 x1 x2 x3 x5 x6 M H locs ls  h; cases h
  | succ n ih =>
    intro x0 x1 x2 x3 x5 x6 M H locs ls  h hw hl
    exact t_X6_areHops_15 hT S fin ih h hw hl
set_option maxHeartbeats 4000000 in
set_option maxRecDepth 100000 in
theorem t_X6_areHops_0 {p : Program} {l : Launch} {e : Env} {s : State} {m : MethodId} {args : Array Value} {below : List Frame} {meth : Method} {c : Code} {Q : State → Prop} {D : va_G} {I : ch_Id} {sh : Nat → Nat} {A : Nat → Prop} {oo : Int32 × ch_Mem}     (S : CallFix p m c cX6_areHops 8 s args wsX6_areHops RX6) (fin : ch_FinZ p l e rm_X6_areHops s m args below meth c cX6_areHops Q D I 40 (ch_FC I sh) sh A oo)  {x0 : Int32} {x1 : Int32} {x2 : Int32}  {M : ch_Mem} {H : Heap} {locs : List Loc} {ls : Array Slot} (h : D_X6_areHops x0 x1 x2 M = some oo) (hw : ch_Wd D I 40 (ch_FC I sh) sh s A M H locs) (hl : lv_has ls 8 [(0, .int x0), (1, .int x1), (2, .int x2)]) : W p l e rm_X6_areHops s m args below meth c H locs 0 0 Q (F0 m 0 ls []) := by
  obtain ⟨hx, hb, hml, hown, hts⟩ := id S
  unfold D_X6_areHops at h
  refine lv_iconst (v := (0 : Int32)) hx hb dX6_areHops_0 (by decide) ?_
  refine lv_istore_n (lv' := [(3, .int (0 : Int32)), (0, .int x0), (1, .int x1), (2, .int x2)]) hx hb dX6_areHops_1 rfl hl (by decide) rfl (fun ls hl => ?_)
  obtain ⟨t, hz, hT⟩ := hw.2.2.2.2.2.2
  refine va_gets hx hb hz hw.2.2.2.1 hown (hts (.fieldLink RX6 270 "CodeHunt" "PRIMES" "[I") (by decide +kernel)) (fun _ h => h) dX6_areHops_2 ?_
  refine lv_astore (lv' := [(4, .ref t), (3, .int (0 : Int32)), (0, .int x0), (1, .int x1), (2, .int x2)]) hx hb dX6_areHops_5 hl (by decide) rfl (fun ls hl => ?_)
  refine lv_aload hx hb dX6_areHops_7 (lv_at hl 0 rfl) ?_
  refine va_tlen (v := (11 : Int32)) hx hb hT hw.2.2.2.1 rfl dX6_areHops_9 ?_
  refine lv_istore (lv' := [(5, .int (11 : Int32)), (4, .ref t), (3, .int (0 : Int32)), (0, .int x0), (1, .int x1), (2, .int x2)]) hx hb dX6_areHops_10 hl (by decide) rfl (fun ls hl => ?_)
  refine lv_iconst (v := (0 : Int32)) hx hb dX6_areHops_12 (by decide) ?_
  refine lv_istore (lv' := [(6, .int (0 : Int32)), (5, .int (11 : Int32)), (4, .ref t), (3, .int (0 : Int32)), (0, .int x0), (1, .int x1), (2, .int x2)]) hx hb dX6_areHops_13 hl (by decide) rfl (fun ls hl => ?_)
  exact tl_X6_areHops_15 hT S fin ch_fu _ _ _ _ _ _ _ _ _ _ h hw (lv_sub hl [4, 5, 6, 3, 2, 1, 0] rfl)
set_option maxHeartbeats 4000000 in
set_option maxRecDepth 100000 in
theorem c_X6_areHops (l : Launch) (D : va_G) (I : ch_Id) (sh : Nat → Nat) (sz : Nat) (M : ch_Mem)  (x0 : Int32) (x1 : Int32) (x2 : Int32) {r : Int32} {M1 : ch_Mem} (h : D_X6_areHops x0 x1 x2 M = some (r, M1)) : Met l yX6_areHops wsX6_areHops rm_X6_areHops (va_Pc [.int x0, .int x1, .int x2] (ch_Pre D I 40 (ch_FC I sh) sh sz M)) (va_Qi (fun r' (u : ch_Mem) => r' = r ∧ u = M1) (ch_Pos D 40 (ch_FC I sh) sh) (ch_A 40 sh sz)) 0 0 (ch_A 40 sh sz) := by
  refine Met.ofW (cc := cX6_areHops) (maxL := 8) (ret := (some .boolean)) (by decide) rfl ?_
  intro p e s m args below meth c s₁ B hml hv0
  obtain ⟨rfl, hv0⟩ := hv0
  obtain rfl : s.heap.size = sz := hv0.1
  have hw := ch_start hv0
  have S : CallFix p m c cX6_areHops 8 s _ wsX6_areHops RX6 := ⟨B.exec, B.bytes, hml, findClass_of_methodNamed B.named, atoms_spec (ws := wsX6_areHops) B.pre⟩
  have hl := lv_entry ([.int x0, .int x1, .int x2]) (n := 8) (Nat.le_of_ble_eq_true rfl)
  rw [lg_entry_eq]
  generalize (lg_sl ([.int x0, .int x1, .int x2]) ++ List.replicate (8 - (lg_sl ([.int x0, .int x1, .int x2])).length) Slot.unset).toArray = ls at hl ⊢
  exact t_X6_areHops_0 S (ch_finZ B.exec B.bytes B.returns B.notSynchronized) h hw (lv_sub hl [0, 1, 2] rfl)
set_option maxHeartbeats 4000000 in
set_option maxRecDepth 100000 in
theorem t_X6_arePaired_0 {p : Program} {l : Launch} {e : Env} {s : State} {m : MethodId} {args : Array Value} {below : List Frame} {meth : Method} {c : Code} {Q : State → Prop} {D : va_G} {I : ch_Id} {sh : Nat → Nat} {A : Nat → Prop} {oo : Int32 × ch_Mem}     (S : CallFix p m c cX6_arePaired 3 s args wsX6_arePaired RX6) (fin : ch_FinZ p l e rm_X6_arePaired s m args below meth c cX6_arePaired Q D I 40 (ch_FC I sh) sh A oo)  {x1 : Int32} {x2 : Int32}  {M : ch_Mem} {H : Heap} {locs : List Loc} {ls : Array Slot} (h : D_X6_arePaired x1 x2 M = some oo) (hw : ch_Wd D I 40 (ch_FC I sh) sh s A M H locs) (hl : lv_has ls 3 [(0, .ref (sh 0)), (1, .int x1), (2, .int x2)]) : W p l e rm_X6_arePaired s m args below meth c H locs 0 0 Q (F0 m 0 ls []) := by
  obtain ⟨hx, hb, hml, hown, hts⟩ := id S
  unfold D_X6_arePaired at h
  refine lv_aload_n hx hb dX6_arePaired_0 rfl (lv_at hl 0 rfl) ?_
  refine ch_get S hw 0 (by decide) rfl rfl (by decide +kernel) 0 (by decide) (hts (.fieldLink RX6 11 "CodeHunt" "rows" "[LCodeHunt$Row;") (by decide +kernel)) rfl dX6_arePaired_1 ?_
  refine lv_iload_n hx hb dX6_arePaired_4 rfl (lv_at hl 1 rfl) ?_
  refine ch_gd_k h (fun hin h => ?_)
  have hlt1 := ch_in_lt hin
  refine ch_rows S hw hin dX6_arePaired_5 ?_
  refine ch_bd_k h (fun r2 M3 hc h => ?_)
  refine ch_ci hw (va_runV (As := []) (rest := []) S (c_X3_isNone l D I sh H.size M (7 + x1.toNatClampNeg) (by omega) hc) (cwV 0 hts gX6_arePaired_X3_isNone rfl rfl rfl (by decide +kernel) ⟨Nat.le_of_ble_eq_true rfl, Nat.le_of_ble_eq_true rfl⟩) (ch_pV hw (by omega) (ch_FC_row (by omega)) rfl rfl) rfl rfl hl.1 rfl (lv_room (Nat.le_of_ble_eq_true rfl)) dX6_arePaired_6 ⟨Nat.le_refl 0, Nat.le_refl 0⟩) (fun H locs hw => ?_)
  refine ch_if_ne (tgt := 37) hx hb dX6_arePaired_9 (by decide) h (fun h => ?_) (fun h => ?_)
  · refine lv_iconst (v := (0 : Int32)) hx hb dX6_arePaired_37 (by decide) ?_
    exact fin _ _ _ _ _ _ rfl h hw dX6_arePaired_38
  · refine lv_aload_n hx hb dX6_arePaired_12 rfl (lv_at hl 0 rfl) ?_
    refine ch_get S hw 0 (by decide) rfl rfl (by decide +kernel) 0 (by decide) (hts (.fieldLink RX6 11 "CodeHunt" "rows" "[LCodeHunt$Row;") (by decide +kernel)) rfl dX6_arePaired_13 ?_
    refine lv_iload_n hx hb dX6_arePaired_16 rfl (lv_at hl 1 rfl) ?_
    refine ch_gd_k h (fun hin h => ?_)
    have hlt4 := ch_in_lt hin
    refine ch_rows S hw hin dX6_arePaired_17 ?_
    refine ch_getN S hw (7 + x1.toNatClampNeg) (by omega) (ch_FC_row (by omega)) rfl (by decide +kernel) 1 (by decide) (ch_nw hw 16 rfl) rfl dX6_arePaired_18 ?_
    refine lv_aload_n hx hb dX6_arePaired_21 rfl (lv_at hl 0 rfl) ?_
    refine ch_get S hw 0 (by decide) rfl rfl (by decide +kernel) 0 (by decide) (hts (.fieldLink RX6 11 "CodeHunt" "rows" "[LCodeHunt$Row;") (by decide +kernel)) rfl dX6_arePaired_22 ?_
    refine lv_iload_n hx hb dX6_arePaired_25 rfl (lv_at hl 2 rfl) ?_
    refine ch_gd_k h (fun hin h => ?_)
    have hlt5 := ch_in_lt hin
    refine ch_rows S hw hin dX6_arePaired_26 ?_
    refine ch_getN S hw (7 + x2.toNatClampNeg) (by omega) (ch_FC_row (by omega)) rfl (by decide +kernel) 1 (by decide) (ch_nw hw 16 rfl) rfl dX6_arePaired_27 ?_
    refine ch_icmp_ne (tgt := 37) hx hb dX6_arePaired_30 (by decide) h (fun h => ?_) (fun h => ?_)
    · refine lv_iconst (v := (0 : Int32)) hx hb dX6_arePaired_37 (by decide) ?_
      exact fin _ _ _ _ _ _ rfl h hw dX6_arePaired_38
    · refine lv_iconst (v := (1 : Int32)) hx hb dX6_arePaired_33 (by decide) ?_
      refine lv_goto (tgt := 38) hx hb dX6_arePaired_34 (by decide) ?_
      exact fin _ _ _ _ _ _ rfl h hw dX6_arePaired_38
set_option maxHeartbeats 4000000 in
set_option maxRecDepth 100000 in
theorem c_X6_arePaired (l : Launch) (D : va_G) (I : ch_Id) (sh : Nat → Nat) (sz : Nat) (M : ch_Mem)  (x1 : Int32) (x2 : Int32) {r : Int32} {M1 : ch_Mem} (h : D_X6_arePaired x1 x2 M = some (r, M1)) : Met l yX6_arePaired wsX6_arePaired rm_X6_arePaired (va_Pc [.ref (sh 0), .int x1, .int x2] (ch_Pre D I 40 (ch_FC I sh) sh sz M)) (va_Qi (fun r' (u : ch_Mem) => r' = r ∧ u = M1) (ch_Pos D 40 (ch_FC I sh) sh) (ch_A 40 sh sz)) 0 0 (ch_A 40 sh sz) := by
  refine Met.ofW (cc := cX6_arePaired) (maxL := 3) (ret := (some .boolean)) (by decide) rfl ?_
  intro p e s m args below meth c s₁ B hml hv0
  obtain ⟨rfl, hv0⟩ := hv0
  obtain rfl : s.heap.size = sz := hv0.1
  have hw := ch_start hv0
  have S : CallFix p m c cX6_arePaired 3 s _ wsX6_arePaired RX6 := ⟨B.exec, B.bytes, hml, findClass_of_methodNamed B.named, atoms_spec (ws := wsX6_arePaired) B.pre⟩
  have hl := lv_entry ([.ref (sh 0), .int x1, .int x2]) (n := 3) (Nat.le_of_ble_eq_true rfl)
  rw [lg_entry_eq]
  generalize (lg_sl ([.ref (sh 0), .int x1, .int x2]) ++ List.replicate (3 - (lg_sl ([.ref (sh 0), .int x1, .int x2])).length) Slot.unset).toArray = ls at hl ⊢
  exact t_X6_arePaired_0 S (ch_finZ B.exec B.bytes B.returns B.notSynchronized) h hw (lv_sub hl [0, 1, 2] rfl)
set_option maxHeartbeats 4000000 in
set_option maxRecDepth 100000 in
theorem t_X6_copy_41 {p : Program} {l : Launch} {e : Env} {s : State} {m : MethodId} {args : Array Value} {below : List Frame} {meth : Method} {c : Code} {Q : State → Prop} {D : va_G} {I : ch_Id} {sh : Nat → Nat} {A : Nat → Prop} {oo : Int32 × ch_Mem}     (S : CallFix p m c cX6_copy 6 s args wsX6_copy RX6) (fin : ch_FinI p l e rm_X6_copy s m args below meth c cX6_copy Q D I 40 (ch_FC I sh) sh A oo)    {M : ch_Mem} {H : Heap} {locs : List Loc} {ls : Array Slot} (h : D_X6_copy_b41  M = some oo) (hw : ch_Wd D I 40 (ch_FC I sh) sh s A M H locs) (hl : lv_has ls 6 [(0, .ref (sh 0))]) : W p l e rm_X6_copy s m args below meth c H locs 0 0 Q (F0 m 41 ls []) := by
  obtain ⟨hx, hb, hml, hown, hts⟩ := id S
  unfold D_X6_copy_b41 at h
  refine lv_aload_n hx hb dX6_copy_41 rfl (lv_at hl 0 rfl) ?_
  refine lv_iconst (v := (1 : Int32)) hx hb dX6_copy_42 (by decide) ?_
  refine ch_bd_k h (fun r1 M2 hc h => ?_)
  refine ch_ci hw (va_runV (As := [.int (1 : Int32)]) (rest := []) S (c_X6_found l D I sh H.size M (1 : Int32) hc) (cwV 1 hts gX6_copy_X6_found rfl rfl rfl (by decide +kernel) ⟨Nat.le_of_ble_eq_true rfl, Nat.le_of_ble_eq_true rfl⟩) (ch_pV hw (by decide) rfl rfl rfl) rfl rfl hl.1 rfl (lv_room (Nat.le_of_ble_eq_true rfl)) dX6_copy_43 ⟨Nat.le_refl 0, Nat.le_refl 0⟩) (fun H locs hw => ?_)
  exact fin _ _ _ _ _ _ h hw dX6_copy_46
set_option maxHeartbeats 4000000 in
set_option maxRecDepth 100000 in
theorem t_X6_copy_105 {p : Program} {l : Launch} {e : Env} {s : State} {m : MethodId} {args : Array Value} {below : List Frame} {meth : Method} {c : Code} {Q : State → Prop} {D : va_G} {I : ch_Id} {sh : Nat → Nat} {A : Nat → Prop} {oo : Int32 × ch_Mem}     (S : CallFix p m c cX6_copy 6 s args wsX6_copy RX6) (fin : ch_FinI p l e rm_X6_copy s m args below meth c cX6_copy Q D I 40 (ch_FC I sh) sh A oo)    {M : ch_Mem} {H : Heap} {locs : List Loc} {ls : Array Slot} (h : D_X6_copy_b105  M = some oo) (hw : ch_Wd D I 40 (ch_FC I sh) sh s A M H locs) (hl : lv_has ls 6 [(0, .ref (sh 0))]) : W p l e rm_X6_copy s m args below meth c H locs 0 0 Q (F0 m 105 ls []) := by
  obtain ⟨hx, hb, hml, hown, hts⟩ := id S
  unfold D_X6_copy_b105 at h
  refine lv_aload_n hx hb dX6_copy_105 rfl (lv_at hl 0 rfl) ?_
  refine lv_iconst (v := (2 : Int32)) hx hb dX6_copy_106 (by decide) ?_
  refine ch_bd_k h (fun r1 M2 hc h => ?_)
  refine ch_ci hw (va_runV (As := [.int (2 : Int32)]) (rest := []) S (c_X6_found l D I sh H.size M (2 : Int32) hc) (cwV 1 hts gX6_copy_X6_found rfl rfl rfl (by decide +kernel) ⟨Nat.le_of_ble_eq_true rfl, Nat.le_of_ble_eq_true rfl⟩) (ch_pV hw (by decide) rfl rfl rfl) rfl rfl hl.1 rfl (lv_room (Nat.le_of_ble_eq_true rfl)) dX6_copy_107 ⟨Nat.le_refl 0, Nat.le_refl 0⟩) (fun H locs hw => ?_)
  exact fin _ _ _ _ _ _ h hw dX6_copy_110
set_option maxHeartbeats 4000000 in
set_option maxRecDepth 100000 in
theorem t_X6_copy_0 {p : Program} {l : Launch} {e : Env} {s : State} {m : MethodId} {args : Array Value} {below : List Frame} {meth : Method} {c : Code} {Q : State → Prop} {D : va_G} {I : ch_Id} {sh : Nat → Nat} {A : Nat → Prop} {oo : Int32 × ch_Mem}     (S : CallFix p m c cX6_copy 6 s args wsX6_copy RX6) (fin : ch_FinI p l e rm_X6_copy s m args below meth c cX6_copy Q D I 40 (ch_FC I sh) sh A oo)  {x1 : Int32} {x2 : Int32} {x3 : Int32} {x4 : Int32} {x5 : Int32}  {M : ch_Mem} {H : Heap} {locs : List Loc} {ls : Array Slot} (h : D_X6_copy x1 x2 x3 x4 x5 M = some oo) (hw : ch_Wd D I 40 (ch_FC I sh) sh s A M H locs) (hl : lv_has ls 6 [(0, .ref (sh 0)), (1, .int x1), (2, .int x2), (3, .int x3), (4, .int x4), (5, .int x5)]) : W p l e rm_X6_copy s m args below meth c H locs 0 0 Q (F0 m 0 ls []) := by
  obtain ⟨hx, hb, hml, hown, hts⟩ := id S
  unfold D_X6_copy at h
  refine lv_iload_n hx hb dX6_copy_0 rfl (lv_at hl 1 rfl) ?_
  refine ch_bd_k h (fun r1 M2 hc h => ?_)
  refine ch_ci hw (va_runS (As := [.int x1]) (rest := []) S (c_X6_isReel l D I sh H.size M x1 hc) (va_cwS 1 hts gX6_copy_X6_isReel rfl rfl rfl (by decide +kernel) ⟨Nat.le_of_ble_eq_true rfl, Nat.le_of_ble_eq_true rfl⟩) (ch_pS hw) rfl rfl hl.1 rfl (lv_room (Nat.le_of_ble_eq_true rfl)) dX6_copy_1 ⟨Nat.le_refl 0, Nat.le_refl 0⟩) (fun H locs hw => ?_)
  refine ch_if_eq (tgt := 14) hx hb dX6_copy_4 (by decide) h (fun h => ?_) (fun h => ?_)
  · refine lv_bipush (v := (-2 : Int32)) hx hb dX6_copy_14 (by decide) ?_
    exact fin _ _ _ _ _ _ h hw dX6_copy_16
  · refine lv_iload_n hx hb dX6_copy_7 rfl (lv_at hl 3 rfl) ?_
    refine ch_bd_k h (fun r3 M4 hc h => ?_)
    refine ch_ci hw (va_runS (As := [.int x3]) (rest := []) S (c_X6_isReel l D I sh H.size M2 x3 hc) (va_cwS 1 hts gX6_copy_X6_isReel rfl rfl rfl (by decide +kernel) ⟨Nat.le_of_ble_eq_true rfl, Nat.le_of_ble_eq_true rfl⟩) (ch_pS hw) rfl rfl hl.1 rfl (lv_room (Nat.le_of_ble_eq_true rfl)) dX6_copy_8 ⟨Nat.le_refl 0, Nat.le_refl 0⟩) (fun H locs hw => ?_)
    refine ch_if_ne (tgt := 17) hx hb dX6_copy_11 (by decide) h (fun h => ?_) (fun h => ?_)
    · refine lv_aload_n hx hb dX6_copy_17 rfl (lv_at hl 0 rfl) ?_
      refine ch_get S hw 0 (by decide) rfl rfl (by decide +kernel) 1 (by decide) (hts (.fieldLink RX6 17 "CodeHunt" "reels" "[LCodeHunt$Reel;") (by decide +kernel)) rfl dX6_copy_18 ?_
      refine lv_iload_n hx hb dX6_copy_21 rfl (lv_at hl 1 rfl) ?_
      refine ch_gd_k h (fun hin h => ?_)
      have hlt5 := ch_in_lt hin
      refine ch_reels S hw hin dX6_copy_22 ?_
      refine ch_getN S hw (23 + x1.toNatClampNeg) (by omega) (ch_FC_reel (by omega)) rfl (by decide +kernel) 1 (by decide) (ch_nw hw 18 rfl) rfl dX6_copy_23 ?_
      refine ch_if_ne (tgt := 41) hx hb dX6_copy_26 (by decide) h (fun h => ?_) (fun h => ?_)
      · exact t_X6_copy_41 S fin h hw (lv_sub hl [0] rfl)
      · refine lv_aload_n hx hb dX6_copy_29 rfl (lv_at hl 0 rfl) ?_
        refine ch_get S hw 0 (by decide) rfl rfl (by decide +kernel) 1 (by decide) (hts (.fieldLink RX6 17 "CodeHunt" "reels" "[LCodeHunt$Reel;") (by decide +kernel)) rfl dX6_copy_30 ?_
        refine lv_iload_n hx hb dX6_copy_33 rfl (lv_at hl 3 rfl) ?_
        refine ch_gd_k h (fun hin h => ?_)
        have hlt6 := ch_in_lt hin
        refine ch_reels S hw hin dX6_copy_34 ?_
        refine ch_getN S hw (23 + x3.toNatClampNeg) (by omega) (ch_FC_reel (by omega)) rfl (by decide +kernel) 1 (by decide) (ch_nw hw 18 rfl) rfl dX6_copy_35 ?_
        refine ch_if_eq (tgt := 47) hx hb dX6_copy_38 (by decide) h (fun h => ?_) (fun h => ?_)
        · refine lv_aload_n hx hb dX6_copy_47 rfl (lv_at hl 0 rfl) ?_
          refine ch_get S hw 0 (by decide) rfl rfl (by decide +kernel) 1 (by decide) (hts (.fieldLink RX6 17 "CodeHunt" "reels" "[LCodeHunt$Reel;") (by decide +kernel)) rfl dX6_copy_48 ?_
          refine lv_iload_n hx hb dX6_copy_51 rfl (lv_at hl 1 rfl) ?_
          refine ch_gd_k h (fun hin h => ?_)
          have hlt7 := ch_in_lt hin
          refine ch_reels S hw hin dX6_copy_52 ?_
          refine ch_getN S hw (23 + x1.toNatClampNeg) (by omega) (ch_FC_reel (by omega)) rfl (by decide +kernel) 2 (by decide) (ch_nw hw 19 rfl) rfl dX6_copy_53 ?_
          refine lv_aload_n hx hb dX6_copy_56 rfl (lv_at hl 0 rfl) ?_
          refine ch_get S hw 0 (by decide) rfl rfl (by decide +kernel) 1 (by decide) (hts (.fieldLink RX6 17 "CodeHunt" "reels" "[LCodeHunt$Reel;") (by decide +kernel)) rfl dX6_copy_57 ?_
          refine lv_iload_n hx hb dX6_copy_60 rfl (lv_at hl 3 rfl) ?_
          refine ch_gd_k h (fun hin h => ?_)
          have hlt8 := ch_in_lt hin
          refine ch_reels S hw hin dX6_copy_61 ?_
          refine ch_getN S hw (23 + x3.toNatClampNeg) (by omega) (ch_FC_reel (by omega)) rfl (by decide +kernel) 2 (by decide) (ch_nw hw 19 rfl) rfl dX6_copy_62 ?_
          refine ch_icmp_eq (tgt := 74) hx hb dX6_copy_65 (by decide) h (fun h => ?_) (fun h => ?_)
          · refine lv_aload_n hx hb dX6_copy_74 rfl (lv_at hl 0 rfl) ?_
            refine ch_get S hw 0 (by decide) rfl rfl (by decide +kernel) 1 (by decide) (hts (.fieldLink RX6 17 "CodeHunt" "reels" "[LCodeHunt$Reel;") (by decide +kernel)) rfl dX6_copy_75 ?_
            refine lv_iload_n hx hb dX6_copy_78 rfl (lv_at hl 1 rfl) ?_
            refine ch_gd_k h (fun hin h => ?_)
            have hlt9 := ch_in_lt hin
            refine ch_reels S hw hin dX6_copy_79 ?_
            refine lv_iload_n hx hb dX6_copy_80 rfl (lv_at hl 2 rfl) ?_
            refine lv_iload hx hb dX6_copy_81 (lv_at hl 5 rfl) ?_
            refine ch_bd_k h (fun r10 M11 hc h => ?_)
            refine ch_ci hw (va_runV (As := [.int x2, .int x5]) (rest := []) S (c_X2_hasSpan l D I sh H.size M4 (23 + x1.toNatClampNeg) (by omega) x2 x5 hc) (cwV 2 hts gX6_copy_X2_hasSpan rfl rfl rfl (by decide +kernel) ⟨Nat.le_of_ble_eq_true rfl, Nat.le_of_ble_eq_true rfl⟩) (ch_pV hw (by omega) (ch_FC_reel (by omega)) rfl rfl) rfl rfl hl.1 rfl (lv_room (Nat.le_of_ble_eq_true rfl)) dX6_copy_83 ⟨Nat.le_refl 0, Nat.le_refl 0⟩) (fun H locs hw => ?_)
            refine ch_if_eq (tgt := 105) hx hb dX6_copy_86 (by decide) h (fun h => ?_) (fun h => ?_)
            · exact t_X6_copy_105 S fin h hw (lv_sub hl [0] rfl)
            · refine lv_aload_n hx hb dX6_copy_89 rfl (lv_at hl 0 rfl) ?_
              refine ch_get S hw 0 (by decide) rfl rfl (by decide +kernel) 1 (by decide) (hts (.fieldLink RX6 17 "CodeHunt" "reels" "[LCodeHunt$Reel;") (by decide +kernel)) rfl dX6_copy_90 ?_
              refine lv_iload_n hx hb dX6_copy_93 rfl (lv_at hl 3 rfl) ?_
              refine ch_gd_k h (fun hin h => ?_)
              have hlt12 := ch_in_lt hin
              refine ch_reels S hw hin dX6_copy_94 ?_
              refine lv_iload hx hb dX6_copy_95 (lv_at hl 4 rfl) ?_
              refine lv_iload hx hb dX6_copy_97 (lv_at hl 5 rfl) ?_
              refine ch_bd_k h (fun r13 M14 hc h => ?_)
              refine ch_ci hw (va_runV (As := [.int x4, .int x5]) (rest := []) S (c_X2_hasSpan l D I sh H.size M11 (23 + x3.toNatClampNeg) (by omega) x4 x5 hc) (cwV 2 hts gX6_copy_X2_hasSpan rfl rfl rfl (by decide +kernel) ⟨Nat.le_of_ble_eq_true rfl, Nat.le_of_ble_eq_true rfl⟩) (ch_pV hw (by omega) (ch_FC_reel (by omega)) rfl rfl) rfl rfl hl.1 rfl (lv_room (Nat.le_of_ble_eq_true rfl)) dX6_copy_99 ⟨Nat.le_refl 0, Nat.le_refl 0⟩) (fun H locs hw => ?_)
              refine ch_if_ne (tgt := 111) hx hb dX6_copy_102 (by decide) h (fun h => ?_) (fun h => ?_)
              · refine lv_aload_n hx hb dX6_copy_111 rfl (lv_at hl 0 rfl) ?_
                refine ch_get S hw 0 (by decide) rfl rfl (by decide +kernel) 1 (by decide) (hts (.fieldLink RX6 17 "CodeHunt" "reels" "[LCodeHunt$Reel;") (by decide +kernel)) rfl dX6_copy_112 ?_
                refine lv_iload_n hx hb dX6_copy_115 rfl (lv_at hl 1 rfl) ?_
                refine ch_gd_k h (fun hin h => ?_)
                have hlt15 := ch_in_lt hin
                refine ch_reels S hw hin dX6_copy_116 ?_
                refine ch_getN S hw (23 + x1.toNatClampNeg) (by omega) (ch_FC_reel (by omega)) rfl (by decide +kernel) 0 (by decide) (ch_nw hw 17 rfl) rfl dX6_copy_117 ?_
                refine lv_iload_n hx hb dX6_copy_120 rfl (lv_at hl 2 rfl) ?_
                refine lv_aload_n hx hb dX6_copy_121 rfl (lv_at hl 0 rfl) ?_
                refine ch_get S hw 0 (by decide) rfl rfl (by decide +kernel) 1 (by decide) (hts (.fieldLink RX6 17 "CodeHunt" "reels" "[LCodeHunt$Reel;") (by decide +kernel)) rfl dX6_copy_122 ?_
                refine lv_iload_n hx hb dX6_copy_125 rfl (lv_at hl 3 rfl) ?_
                refine ch_gd_k h (fun hin h => ?_)
                have hlt16 := ch_in_lt hin
                refine ch_reels S hw hin dX6_copy_126 ?_
                refine ch_getN S hw (23 + x3.toNatClampNeg) (by omega) (ch_FC_reel (by omega)) rfl (by decide +kernel) 0 (by decide) (ch_nw hw 17 rfl) rfl dX6_copy_127 ?_
                refine lv_iload hx hb dX6_copy_130 (lv_at hl 4 rfl) ?_
                refine lv_iload hx hb dX6_copy_132 (lv_at hl 5 rfl) ?_
                refine ch_cp_k h (fun h1 h2 h3 h4 h5 h => ?_)
                refine ch_copy S hl.1 (hts (.methodLink RX6 247 arraycopyName) (by decide +kernel)) (hts (.native arraycopyName) (by decide +kernel)) (hts (.static arraycopyName) (by decide +kernel)) (hts (.initialized "java/lang/System") (by decide +kernel)) hw ((23 + x1.toNatClampNeg) + 4) ((23 + x3.toNatClampNeg) + 4) (by omega) (by omega) (ch_FC_itm (by omega) _) (fun f => ch_FC_itm (by omega) f) h1 h2 h3 h4 h5 (Nat.le_of_ble_eq_true rfl) (Nat.le_of_ble_eq_true rfl) dX6_copy_134 (fun H locs hw => ?_)
                refine lv_iconst (v := (1 : Int32)) hx hb dX6_copy_137 (by decide) ?_
                exact fin _ _ _ _ _ _ h hw dX6_copy_138
              · exact t_X6_copy_105 S fin h hw (lv_sub hl [0] rfl)
          · refine lv_aload_n hx hb dX6_copy_68 rfl (lv_at hl 0 rfl) ?_
            refine lv_iconst (v := (4 : Int32)) hx hb dX6_copy_69 (by decide) ?_
            refine ch_bd_k h (fun r17 M18 hc h => ?_)
            refine ch_ci hw (va_runV (As := [.int (4 : Int32)]) (rest := []) S (c_X6_found l D I sh H.size M4 (4 : Int32) hc) (cwV 1 hts gX6_copy_X6_found rfl rfl rfl (by decide +kernel) ⟨Nat.le_of_ble_eq_true rfl, Nat.le_of_ble_eq_true rfl⟩) (ch_pV hw (by decide) rfl rfl rfl) rfl rfl hl.1 rfl (lv_room (Nat.le_of_ble_eq_true rfl)) dX6_copy_70 ⟨Nat.le_refl 0, Nat.le_refl 0⟩) (fun H locs hw => ?_)
            exact fin _ _ _ _ _ _ h hw dX6_copy_73
        · exact t_X6_copy_41 S fin h hw (lv_sub hl [0] rfl)
    · refine lv_bipush (v := (-2 : Int32)) hx hb dX6_copy_14 (by decide) ?_
      exact fin _ _ _ _ _ _ h hw dX6_copy_16
set_option maxHeartbeats 4000000 in
set_option maxRecDepth 100000 in
theorem c_X6_copy (l : Launch) (D : va_G) (I : ch_Id) (sh : Nat → Nat) (sz : Nat) (M : ch_Mem)  (x1 : Int32) (x2 : Int32) (x3 : Int32) (x4 : Int32) (x5 : Int32) {r : Int32} {M1 : ch_Mem} (h : D_X6_copy x1 x2 x3 x4 x5 M = some (r, M1)) : Met l yX6_copy wsX6_copy rm_X6_copy (va_Pc [.ref (sh 0), .int x1, .int x2, .int x3, .int x4, .int x5] (ch_Pre D I 40 (ch_FC I sh) sh sz M)) (va_Qi (fun r' (u : ch_Mem) => r' = r ∧ u = M1) (ch_Pos D 40 (ch_FC I sh) sh) (ch_A 40 sh sz)) 0 0 (ch_A 40 sh sz) := by
  refine Met.ofW (cc := cX6_copy) (maxL := 6) (ret := (some .int)) (by decide) rfl ?_
  intro p e s m args below meth c s₁ B hml hv0
  obtain ⟨rfl, hv0⟩ := hv0
  obtain rfl : s.heap.size = sz := hv0.1
  have hw := ch_start hv0
  have S : CallFix p m c cX6_copy 6 s _ wsX6_copy RX6 := ⟨B.exec, B.bytes, hml, findClass_of_methodNamed B.named, atoms_spec (ws := wsX6_copy) B.pre⟩
  have hl := lv_entry ([.ref (sh 0), .int x1, .int x2, .int x3, .int x4, .int x5]) (n := 6) (Nat.le_of_ble_eq_true rfl)
  rw [lg_entry_eq]
  generalize (lg_sl ([.ref (sh 0), .int x1, .int x2, .int x3, .int x4, .int x5]) ++ List.replicate (6 - (lg_sl ([.ref (sh 0), .int x1, .int x2, .int x3, .int x4, .int x5])).length) Slot.unset).toArray = ls at hl ⊢
  exact t_X6_copy_0 S (ch_finI (B := fun _ => True) B.exec B.bytes B.returns B.notSynchronized) h hw (lv_sub hl [0, 1, 2, 3, 4, 5] rfl)
