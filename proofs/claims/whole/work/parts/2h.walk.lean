set_option maxHeartbeats 4000000 in
set_option maxRecDepth 100000 in
theorem t_X6_make_0 {p : Program} {l : Launch} {e : Env} {s : State} {m : MethodId} {args : Array Value} {below : List Frame} {meth : Method} {c : Code} {Q : State → Prop} {D : va_G} {I : ch_Id} {sh : Nat → Nat} {A : Nat → Prop} {oo : Int32 × ch_Mem}     (S : CallFix p m c cX6_make 5 s args wsX6_make RX6) (fin : ch_FinI p l e rm_X6_make s m args below meth c cX6_make Q D I 40 (ch_FC I sh) sh A oo)  {x1 : Int32} {x2 : Int32} {x3 : Int32} {x4 : Int32}  {M : ch_Mem} {H : Heap} {locs : List Loc} {ls : Array Slot} (h : D_X6_make x1 x2 x3 x4 M = some oo) (hw : ch_Wd D I 40 (ch_FC I sh) sh s A M H locs) (hl : lv_has ls 5 [(0, .ref (sh 0)), (1, .int x1), (2, .int x2), (3, .int x3), (4, .int x4)]) : W p l e rm_X6_make s m args below meth c H locs 0 0 Q (F0 m 0 ls []) := by
  obtain ⟨hx, hb, hml, hown, hts⟩ := id S
  unfold D_X6_make at h
  refine lv_iload_n hx hb dX6_make_0 rfl (lv_at hl 1 rfl) ?_
  refine ch_bd_k h (fun r1 M2 hc h => ?_)
  refine ch_ci hw (va_runS (As := [.int x1]) (rest := []) S (c_X6_isRow l D I sh H.size M x1 hc) (va_cwS 1 hts gX6_make_X6_isRow rfl rfl rfl (by decide +kernel) ⟨Nat.le_of_ble_eq_true rfl, Nat.le_of_ble_eq_true rfl⟩) (ch_pS hw) rfl rfl hl.1 rfl (lv_room (Nat.le_of_ble_eq_true rfl)) dX6_make_1 ⟨Nat.le_refl 0, Nat.le_refl 0⟩) (fun H locs hw => ?_)
  refine ch_if_eq (tgt := 17) hx hb dX6_make_4 (by decide) h (fun h => ?_) (fun h => ?_)
  · refine lv_bipush (v := (-2 : Int32)) hx hb dX6_make_17 (by decide) ?_
    exact fin _ _ _ _ _ _ h hw dX6_make_19
  · refine lv_iload_n hx hb dX6_make_7 rfl (lv_at hl 2 rfl) ?_
    refine lv_iload_n hx hb dX6_make_8 rfl (lv_at hl 3 rfl) ?_
    refine lv_iload hx hb dX6_make_9 (lv_at hl 4 rfl) ?_
    refine ch_bd_k h (fun r3 M4 hc h => ?_)
    refine ch_ci hw (va_runS (As := [.int x2, .int x3, .int x4]) (rest := []) S (c_X6_isRegister l D I sh H.size M2 x2 x3 x4 hc) (va_cwS 3 hts gX6_make_X6_isRegister rfl rfl rfl (by decide +kernel) ⟨Nat.le_of_ble_eq_true rfl, Nat.le_of_ble_eq_true rfl⟩) (ch_pS hw) rfl rfl hl.1 rfl (lv_room (Nat.le_of_ble_eq_true rfl)) dX6_make_11 ⟨Nat.le_refl 0, Nat.le_refl 0⟩) (fun H locs hw => ?_)
    refine ch_if_ne (tgt := 20) hx hb dX6_make_14 (by decide) h (fun h => ?_) (fun h => ?_)
    · refine lv_aload_n hx hb dX6_make_20 rfl (lv_at hl 0 rfl) ?_
      refine ch_get S hw 0 (by decide) rfl rfl (by decide +kernel) 0 (by decide) (hts (.fieldLink RX6 11 "CodeHunt" "rows" "[LCodeHunt$Row;") (by decide +kernel)) rfl dX6_make_21 ?_
      refine lv_iload_n hx hb dX6_make_24 rfl (lv_at hl 1 rfl) ?_
      refine ch_gd_k h (fun hin h => ?_)
      have hlt5 := ch_in_lt hin
      refine ch_rows S hw hin dX6_make_25 ?_
      refine lv_iload_n hx hb dX6_make_26 rfl (lv_at hl 2 rfl) ?_
      refine lv_iload_n hx hb dX6_make_27 rfl (lv_at hl 3 rfl) ?_
      refine lv_iload hx hb dX6_make_28 (lv_at hl 4 rfl) ?_
      refine ch_bd_k h (fun r6 M7 hc h => ?_)
      cases r6
      refine ch_cv hw (va_runV (As := [.int x2, .int x3, .int x4]) (rest := []) S (c_X3_fillByRegister l D I sh H.size M4 (7 + x1.toNatClampNeg) (by omega) x2 x3 x4 hc) (cwV 3 hts gX6_make_X3_fillByRegister rfl rfl rfl (by decide +kernel) ⟨Nat.le_of_ble_eq_true rfl, Nat.le_of_ble_eq_true rfl⟩) (ch_pV hw (by omega) (ch_FC_row (by omega)) rfl rfl) rfl rfl hl.1 rfl (lv_room (Nat.le_of_ble_eq_true rfl)) dX6_make_30 ⟨Nat.le_refl 0, Nat.le_refl 0⟩) (fun H locs hw => ?_)
      refine lv_aload_n hx hb dX6_make_33 rfl (lv_at hl 0 rfl) ?_
      refine ch_get S hw 0 (by decide) rfl rfl (by decide +kernel) 0 (by decide) (hts (.fieldLink RX6 11 "CodeHunt" "rows" "[LCodeHunt$Row;") (by decide +kernel)) rfl dX6_make_34 ?_
      refine lv_iload_n hx hb dX6_make_37 rfl (lv_at hl 1 rfl) ?_
      refine ch_gd_k h (fun hin h => ?_)
      have hlt8 := ch_in_lt hin
      refine ch_rows S hw hin dX6_make_38 ?_
      refine ch_getN S hw (7 + x1.toNatClampNeg) (by omega) (ch_FC_row (by omega)) rfl (by decide +kernel) 1 (by decide) (ch_nw hw 16 rfl) rfl dX6_make_39 ?_
      exact fin _ _ _ _ _ _ h hw dX6_make_42
    · refine lv_bipush (v := (-2 : Int32)) hx hb dX6_make_17 (by decide) ?_
      exact fin _ _ _ _ _ _ h hw dX6_make_19
set_option maxHeartbeats 4000000 in
set_option maxRecDepth 100000 in
theorem c_X6_make (l : Launch) (D : va_G) (I : ch_Id) (sh : Nat → Nat) (sz : Nat) (M : ch_Mem)  (x1 : Int32) (x2 : Int32) (x3 : Int32) (x4 : Int32) {r : Int32} {M1 : ch_Mem} (h : D_X6_make x1 x2 x3 x4 M = some (r, M1)) : Met l yX6_make wsX6_make rm_X6_make (va_Pc [.ref (sh 0), .int x1, .int x2, .int x3, .int x4] (ch_Pre D I 40 (ch_FC I sh) sh sz M)) (va_Qi (fun r' (u : ch_Mem) => r' = r ∧ u = M1) (ch_Pos D 40 (ch_FC I sh) sh) (ch_A 40 sh sz)) 0 0 (ch_A 40 sh sz) := by
  refine Met.ofW (cc := cX6_make) (maxL := 5) (ret := (some .int)) (by decide) rfl ?_
  intro p e s m args below meth c s₁ B hml hv0
  obtain ⟨rfl, hv0⟩ := hv0
  obtain rfl : s.heap.size = sz := hv0.1
  have hw := ch_start hv0
  have S : CallFix p m c cX6_make 5 s _ wsX6_make RX6 := ⟨B.exec, B.bytes, hml, findClass_of_methodNamed B.named, atoms_spec (ws := wsX6_make) B.pre⟩
  have hl := lv_entry ([.ref (sh 0), .int x1, .int x2, .int x3, .int x4]) (n := 5) (Nat.le_of_ble_eq_true rfl)
  rw [lg_entry_eq]
  generalize (lg_sl ([.ref (sh 0), .int x1, .int x2, .int x3, .int x4]) ++ List.replicate (5 - (lg_sl ([.ref (sh 0), .int x1, .int x2, .int x3, .int x4])).length) Slot.unset).toArray = ls at hl ⊢
  exact t_X6_make_0 S (ch_finI (B := fun _ => True) B.exec B.bytes B.returns B.notSynchronized) h hw (lv_sub hl [0, 1, 2, 3, 4] rfl)
set_option maxHeartbeats 4000000 in
set_option maxRecDepth 100000 in
theorem t_X6_mend_58 {p : Program} {l : Launch} {e : Env} {s : State} {m : MethodId} {args : Array Value} {below : List Frame} {meth : Method} {c : Code} {Q : State → Prop} {D : va_G} {I : ch_Id} {sh : Nat → Nat} {A : Nat → Prop} {oo : Int32 × ch_Mem}    {k29 : Int32 → Int32 → Int32 → Int32 → ch_Mem → Option (Int32 × ch_Mem)} (S : CallFix p m c cX6_mend 6 s args wsX6_mend RX6) (fin : ch_FinI p l e rm_X6_mend s m args below meth c cX6_mend Q D I 40 (ch_FC I sh) sh A oo) (hk29 : ∀ (x1 : Int32) (x2 : Int32) (x3 : Int32) (x4 : Int32) (M : ch_Mem) (H : Heap) (locs : List Loc) (ls : Array Slot), k29 x1 x2 x3 x4 M = some oo → ch_Wd D I 40 (ch_FC I sh) sh s A M H locs → lv_has ls 6 [(0, .ref (sh 0)), (1, .int x1), (2, .int x2), (3, .int x3), (4, .int x4)] → W p l e rm_X6_mend s m args below meth c H locs 0 0 Q (F0 m 29 ls [])) {x1 : Int32} {x2 : Int32} {x3 : Int32} {x4 : Int32}  {M : ch_Mem} {H : Heap} {locs : List Loc} {ls : Array Slot} (h : D_X6_mend_b58 k29 x1 x2 x3 x4 M = some oo) (hw : ch_Wd D I 40 (ch_FC I sh) sh s A M H locs) (hl : lv_has ls 6 [(0, .ref (sh 0)), (1, .int x1), (2, .int x2), (3, .int x3), (4, .int x4)]) : W p l e rm_X6_mend s m args below meth c H locs 0 0 Q (F0 m 58 ls []) := by
  obtain ⟨hx, hb, hml, hown, hts⟩ := id S
  unfold D_X6_mend_b58 at h
  refine lv_iinc (v := x4 + (1 : Int32)) (lv' := [(4, .int (x4 + (1 : Int32))), (0, .ref (sh 0)), (1, .int x1), (2, .int x2), (3, .int x3)]) hx hb dX6_mend_58 hl (k := 4) rfl rfl (by decide) rfl (fun ls hl => ?_)
  refine lv_goto (tgt := 29) hx hb dX6_mend_61 (by decide) ?_
  exact hk29 _ _ _ _ _ _ _ _  h hw (lv_sub hl [1, 2, 3, 4, 0] rfl)
set_option maxHeartbeats 4000000 in
set_option maxRecDepth 100000 in
theorem t_X6_mend_64 {p : Program} {l : Launch} {e : Env} {s : State} {m : MethodId} {args : Array Value} {below : List Frame} {meth : Method} {c : Code} {Q : State → Prop} {D : va_G} {I : ch_Id} {sh : Nat → Nat} {A : Nat → Prop} {oo : Int32 × ch_Mem}     (S : CallFix p m c cX6_mend 6 s args wsX6_mend RX6) (fin : ch_FinI p l e rm_X6_mend s m args below meth c cX6_mend Q D I 40 (ch_FC I sh) sh A oo)  {x2 : Int32} {x3 : Int32}  {M : ch_Mem} {H : Heap} {locs : List Loc} {ls : Array Slot} (h : D_X6_mend_b64 x2 x3 M = some oo) (hw : ch_Wd D I 40 (ch_FC I sh) sh s A M H locs) (hl : lv_has ls 6 [(2, .int x2), (3, .int x3)]) : W p l e rm_X6_mend s m args below meth c H locs 0 0 Q (F0 m 64 ls []) := by
  obtain ⟨hx, hb, hml, hown, hts⟩ := id S
  unfold D_X6_mend_b64 at h
  refine lv_bipush (v := (10 : Int32)) hx hb dX6_mend_64 (by decide) ?_
  refine lv_iload_n hx hb dX6_mend_66 rfl (lv_at hl 0 rfl) ?_
  refine lv_imul hx hb dX6_mend_67 ?_
  refine lv_iload_n hx hb dX6_mend_68 rfl (lv_at hl 1 rfl) ?_
  refine lv_iadd hx hb dX6_mend_69 ?_
  exact fin _ _ _ _ _ _ h hw dX6_mend_70
set_option maxHeartbeats 4000000 in
set_option maxRecDepth 100000 in
theorem t_X6_mend_29 {p : Program} {l : Launch} {e : Env} {s : State} {m : MethodId} {args : Array Value} {below : List Frame} {meth : Method} {c : Code} {Q : State → Prop} {D : va_G} {I : ch_Id} {sh : Nat → Nat} {A : Nat → Prop} {oo : Int32 × ch_Mem}    {k29 : Int32 → Int32 → Int32 → Int32 → ch_Mem → Option (Int32 × ch_Mem)} (S : CallFix p m c cX6_mend 6 s args wsX6_mend RX6) (fin : ch_FinI p l e rm_X6_mend s m args below meth c cX6_mend Q D I 40 (ch_FC I sh) sh A oo) (hk29 : ∀ (x1 : Int32) (x2 : Int32) (x3 : Int32) (x4 : Int32) (M : ch_Mem) (H : Heap) (locs : List Loc) (ls : Array Slot), k29 x1 x2 x3 x4 M = some oo → ch_Wd D I 40 (ch_FC I sh) sh s A M H locs → lv_has ls 6 [(0, .ref (sh 0)), (1, .int x1), (2, .int x2), (3, .int x3), (4, .int x4)] → W p l e rm_X6_mend s m args below meth c H locs 0 0 Q (F0 m 29 ls [])) {x1 : Int32} {x2 : Int32} {x3 : Int32} {x4 : Int32}  {M : ch_Mem} {H : Heap} {locs : List Loc} {ls : Array Slot} (h : D_X6_mend_b29 k29 x1 x2 x3 x4 M = some oo) (hw : ch_Wd D I 40 (ch_FC I sh) sh s A M H locs) (hl : lv_has ls 6 [(0, .ref (sh 0)), (1, .int x1), (2, .int x2), (3, .int x3), (4, .int x4)]) : W p l e rm_X6_mend s m args below meth c H locs 0 0 Q (F0 m 29 ls []) := by
  obtain ⟨hx, hb, hml, hown, hts⟩ := id S
  unfold D_X6_mend_b29 at h
  refine lv_iload hx hb dX6_mend_29 (lv_at hl 4 rfl) ?_
  refine lv_iload_n hx hb dX6_mend_31 rfl (lv_at hl 1 rfl) ?_
  refine ch_icmp_ge (tgt := 64) hx hb dX6_mend_32 (by decide) h (fun h => ?_) (fun h => ?_)
  · exact t_X6_mend_64 S fin h hw (lv_sub hl [2, 3] rfl)
  · refine lv_aload_n hx hb dX6_mend_35 rfl (lv_at hl 0 rfl) ?_
    refine ch_get S hw 0 (by decide) rfl rfl (by decide +kernel) 5 (by decide) (hts (.fieldLink RX6 45 "CodeHunt" "lengths" "LCodeHunt$Lengths;") (by decide +kernel)) rfl dX6_mend_36 ?_
    refine lv_iload hx hb dX6_mend_39 (lv_at hl 4 rfl) ?_
    refine ch_bd_k h (fun r1 M2 hc h => ?_)
    refine ch_ci hw (va_runV (As := [.int x4]) (rest := []) S (c_X0_howManyFit l D I sh H.size M x4 hc) (cwV 1 hts gX6_mend_X0_howManyFit rfl rfl rfl (by decide +kernel) ⟨Nat.le_of_ble_eq_true rfl, Nat.le_of_ble_eq_true rfl⟩) (ch_pV hw (by decide) rfl rfl rfl) rfl rfl hl.1 rfl (lv_room (Nat.le_of_ble_eq_true rfl)) dX6_mend_41 ⟨Nat.le_refl 0, Nat.le_refl 0⟩) (fun H locs hw => ?_)
    refine lv_istore (lv' := [(5, .int r1), (0, .ref (sh 0)), (1, .int x1), (2, .int x2), (3, .int x3), (4, .int x4)]) hx hb dX6_mend_44 hl (by decide) rfl (fun ls hl => ?_)
    refine lv_iload hx hb dX6_mend_46 (lv_at hl 0 rfl) ?_
    refine lv_iload_n hx hb dX6_mend_48 rfl (lv_at hl 4 rfl) ?_
    refine ch_icmp_le (tgt := 58) hx hb dX6_mend_49 (by decide) h (fun h => ?_) (fun h => ?_)
    · exact t_X6_mend_58 S fin hk29 h hw (lv_sub hl [1, 2, 3, 4, 5] rfl)
    · refine lv_iload hx hb dX6_mend_52 (lv_at hl 0 rfl) ?_
      refine lv_istore_n (lv' := [(3, .int r1), (5, .int r1), (0, .ref (sh 0)), (1, .int x1), (2, .int x2), (4, .int x4)]) hx hb dX6_mend_54 rfl hl (by decide) rfl (fun ls hl => ?_)
      refine lv_iload hx hb dX6_mend_55 (lv_at hl 5 rfl) ?_
      refine lv_istore_n (lv' := [(2, .int x4), (3, .int r1), (5, .int r1), (0, .ref (sh 0)), (1, .int x1), (4, .int x4)]) hx hb dX6_mend_57 rfl hl (by decide) rfl (fun ls hl => ?_)
      exact t_X6_mend_58 S fin hk29 h hw (lv_sub hl [3, 4, 0, 1, 5] rfl)
set_option maxHeartbeats 4000000 in
set_option maxRecDepth 100000 in
theorem tl_X6_mend_29 {p : Program} {l : Launch} {e : Env} {s : State} {m : MethodId} {args : Array Value} {below : List Frame} {meth : Method} {c : Code} {Q : State → Prop} {D : va_G} {I : ch_Id} {sh : Nat → Nat} {A : Nat → Prop} {oo : Int32 × ch_Mem}     (S : CallFix p m c cX6_mend 6 s args wsX6_mend RX6) (fin : ch_FinI p l e rm_X6_mend s m args below meth c cX6_mend Q D I 40 (ch_FC I sh) sh A oo)  (n : Nat) : ∀ (x1 : Int32) (x2 : Int32) (x3 : Int32) (x4 : Int32) (M : ch_Mem) (H : Heap) (locs : List Loc) (ls : Array Slot), D_X6_mend_L29  n x1 x2 x3 x4 M = some oo → ch_Wd D I 40 (ch_FC I sh) sh s A M H locs → lv_has ls 6 [(0, .ref (sh 0)), (1, .int x1), (2, .int x2), (3, .int x3), (4, .int x4)] → W p l e rm_X6_mend s m args below meth c H locs 0 0 Q (F0 m 29 ls []) := by
  induction n with
  | zero => intro x1 x2 x3 x4 M H locs ls  h; cases h
  | succ n ih =>
    intro x1 x2 x3 x4 M H locs ls  h hw hl
    exact t_X6_mend_29 S fin ih h hw hl
set_option maxHeartbeats 4000000 in
set_option maxRecDepth 100000 in
theorem t_X6_mend_0 {p : Program} {l : Launch} {e : Env} {s : State} {m : MethodId} {args : Array Value} {below : List Frame} {meth : Method} {c : Code} {Q : State → Prop} {D : va_G} {I : ch_Id} {sh : Nat → Nat} {A : Nat → Prop} {oo : Int32 × ch_Mem}     (S : CallFix p m c cX6_mend 6 s args wsX6_mend RX6) (fin : ch_FinI p l e rm_X6_mend s m args below meth c cX6_mend Q D I 40 (ch_FC I sh) sh A oo)  {x1 : Int32}  {M : ch_Mem} {H : Heap} {locs : List Loc} {ls : Array Slot} (h : D_X6_mend x1 M = some oo) (hw : ch_Wd D I 40 (ch_FC I sh) sh s A M H locs) (hl : lv_has ls 6 [(0, .ref (sh 0)), (1, .int x1)]) : W p l e rm_X6_mend s m args below meth c H locs 0 0 Q (F0 m 0 ls []) := by
  obtain ⟨hx, hb, hml, hown, hts⟩ := id S
  unfold D_X6_mend at h
  refine lv_iload_n hx hb dX6_mend_0 rfl (lv_at hl 1 rfl) ?_
  refine lv_iconst (v := (1 : Int32)) hx hb dX6_mend_1 (by decide) ?_
  refine ch_icmp_lt (tgt := 12) hx hb dX6_mend_2 (by decide) h (fun h => ?_) (fun h => ?_)
  · refine lv_bipush (v := (-2 : Int32)) hx hb dX6_mend_12 (by decide) ?_
    exact fin _ _ _ _ _ _ h hw dX6_mend_14
  · refine lv_iload_n hx hb dX6_mend_5 rfl (lv_at hl 1 rfl) ?_
    refine lv_sipush (v := (20000 : Int32)) hx hb dX6_mend_6 (by decide) ?_
    refine ch_icmp_le (tgt := 15) hx hb dX6_mend_9 (by decide) h (fun h => ?_) (fun h => ?_)
    · refine lv_iconst (v := (0 : Int32)) hx hb dX6_mend_15 (by decide) ?_
      refine lv_istore_n (lv' := [(2, .int (0 : Int32)), (0, .ref (sh 0)), (1, .int x1)]) hx hb dX6_mend_16 rfl hl (by decide) rfl (fun ls hl => ?_)
      refine lv_aload_n hx hb dX6_mend_17 rfl (lv_at hl 1 rfl) ?_
      refine ch_get S hw 0 (by decide) rfl rfl (by decide +kernel) 5 (by decide) (hts (.fieldLink RX6 45 "CodeHunt" "lengths" "LCodeHunt$Lengths;") (by decide +kernel)) rfl dX6_mend_18 ?_
      refine lv_iconst (v := (0 : Int32)) hx hb dX6_mend_21 (by decide) ?_
      refine ch_bd_k h (fun r1 M2 hc h => ?_)
      refine ch_ci hw (va_runV (As := [.int (0 : Int32)]) (rest := []) S (c_X0_howManyFit l D I sh H.size M (0 : Int32) hc) (cwV 1 hts gX6_mend_X0_howManyFit rfl rfl rfl (by decide +kernel) ⟨Nat.le_of_ble_eq_true rfl, Nat.le_of_ble_eq_true rfl⟩) (ch_pV hw (by decide) rfl rfl rfl) rfl rfl hl.1 rfl (lv_room (Nat.le_of_ble_eq_true rfl)) dX6_mend_22 ⟨Nat.le_refl 0, Nat.le_refl 0⟩) (fun H locs hw => ?_)
      refine lv_istore_n (lv' := [(3, .int r1), (2, .int (0 : Int32)), (0, .ref (sh 0)), (1, .int x1)]) hx hb dX6_mend_25 rfl hl (by decide) rfl (fun ls hl => ?_)
      refine lv_iconst (v := (1 : Int32)) hx hb dX6_mend_26 (by decide) ?_
      refine lv_istore (lv' := [(4, .int (1 : Int32)), (3, .int r1), (2, .int (0 : Int32)), (0, .ref (sh 0)), (1, .int x1)]) hx hb dX6_mend_27 hl (by decide) rfl (fun ls hl => ?_)
      exact tl_X6_mend_29 S fin ch_fu _ _ _ _ _ _ _ _ h hw (lv_sub hl [3, 4, 2, 1, 0] rfl)
    · refine lv_bipush (v := (-2 : Int32)) hx hb dX6_mend_12 (by decide) ?_
      exact fin _ _ _ _ _ _ h hw dX6_mend_14
set_option maxHeartbeats 4000000 in
set_option maxRecDepth 100000 in
theorem c_X6_mend (l : Launch) (D : va_G) (I : ch_Id) (sh : Nat → Nat) (sz : Nat) (M : ch_Mem)  (x1 : Int32) {r : Int32} {M1 : ch_Mem} (h : D_X6_mend x1 M = some (r, M1)) : Met l yX6_mend wsX6_mend rm_X6_mend (va_Pc [.ref (sh 0), .int x1] (ch_Pre D I 40 (ch_FC I sh) sh sz M)) (va_Qi (fun r' (u : ch_Mem) => r' = r ∧ u = M1) (ch_Pos D 40 (ch_FC I sh) sh) (ch_A 40 sh sz)) 0 0 (ch_A 40 sh sz) := by
  refine Met.ofW (cc := cX6_mend) (maxL := 6) (ret := (some .int)) (by decide) rfl ?_
  intro p e s m args below meth c s₁ B hml hv0
  obtain ⟨rfl, hv0⟩ := hv0
  obtain rfl : s.heap.size = sz := hv0.1
  have hw := ch_start hv0
  have S : CallFix p m c cX6_mend 6 s _ wsX6_mend RX6 := ⟨B.exec, B.bytes, hml, findClass_of_methodNamed B.named, atoms_spec (ws := wsX6_mend) B.pre⟩
  have hl := lv_entry ([.ref (sh 0), .int x1]) (n := 6) (Nat.le_of_ble_eq_true rfl)
  rw [lg_entry_eq]
  generalize (lg_sl ([.ref (sh 0), .int x1]) ++ List.replicate (6 - (lg_sl ([.ref (sh 0), .int x1])).length) Slot.unset).toArray = ls at hl ⊢
  exact t_X6_mend_0 S (ch_finI (B := fun _ => True) B.exec B.bytes B.returns B.notSynchronized) h hw (lv_sub hl [0, 1] rfl)
set_option maxHeartbeats 4000000 in
set_option maxRecDepth 100000 in
theorem t_X6_most_91 {p : Program} {l : Launch} {e : Env} {s : State} {m : MethodId} {args : Array Value} {below : List Frame} {meth : Method} {c : Code} {Q : State → Prop} {D : va_G} {I : ch_Id} {sh : Nat → Nat} {A : Nat → Prop} {oo : Int32 × ch_Mem}     (S : CallFix p m c cX6_most 5 s args wsX6_most RX6) (fin : ch_FinI p l e rm_X6_most s m args below meth c cX6_most Q D I 40 (ch_FC I sh) sh A oo)  {x3 : Int32}  {M : ch_Mem} {H : Heap} {locs : List Loc} {ls : Array Slot} (h : D_X6_most_b91 x3 M = some oo) (hw : ch_Wd D I 40 (ch_FC I sh) sh s A M H locs) (hl : lv_has ls 5 [(3, .int x3)]) : W p l e rm_X6_most s m args below meth c H locs 0 0 Q (F0 m 91 ls []) := by
  obtain ⟨hx, hb, hml, hown, hts⟩ := id S
  unfold D_X6_most_b91 at h
  refine lv_iload_n hx hb dX6_most_91 rfl (lv_at hl 0 rfl) ?_
  exact fin _ _ _ _ _ _ h hw dX6_most_92
set_option maxHeartbeats 4000000 in
set_option maxRecDepth 100000 in
theorem t_X6_most_43 {p : Program} {l : Launch} {e : Env} {s : State} {m : MethodId} {args : Array Value} {below : List Frame} {meth : Method} {c : Code} {Q : State → Prop} {D : va_G} {I : ch_Id} {sh : Nat → Nat} {A : Nat → Prop} {oo : Int32 × ch_Mem}    {k43 : Int32 → Int32 → Int32 → Int32 → ch_Mem → Option (Int32 × ch_Mem)} (S : CallFix p m c cX6_most 5 s args wsX6_most RX6) (fin : ch_FinI p l e rm_X6_most s m args below meth c cX6_most Q D I 40 (ch_FC I sh) sh A oo) (hk43 : ∀ (x1 : Int32) (x2 : Int32) (x3 : Int32) (x4 : Int32) (M : ch_Mem) (H : Heap) (locs : List Loc) (ls : Array Slot), k43 x1 x2 x3 x4 M = some oo → ch_Wd D I 40 (ch_FC I sh) sh s A M H locs → lv_has ls 5 [(0, .ref (sh 0)), (1, .int x1), (2, .int x2), (3, .int x3), (4, .int x4)] → W p l e rm_X6_most s m args below meth c H locs 0 0 Q (F0 m 43 ls [])) {x1 : Int32} {x2 : Int32} {x3 : Int32} {x4 : Int32}  {M : ch_Mem} {H : Heap} {locs : List Loc} {ls : Array Slot} (h : D_X6_most_b43 k43 x1 x2 x3 x4 M = some oo) (hw : ch_Wd D I 40 (ch_FC I sh) sh s A M H locs) (hl : lv_has ls 5 [(0, .ref (sh 0)), (1, .int x1), (2, .int x2), (3, .int x3), (4, .int x4)]) : W p l e rm_X6_most s m args below meth c H locs 0 0 Q (F0 m 43 ls []) := by
  obtain ⟨hx, hb, hml, hown, hts⟩ := id S
  unfold D_X6_most_b43 at h
  refine lv_iload hx hb dX6_most_43 (lv_at hl 4 rfl) ?_
  refine lv_aload_n hx hb dX6_most_45 rfl (lv_at hl 0 rfl) ?_
  refine ch_get S hw 0 (by decide) rfl rfl (by decide +kernel) 0 (by decide) (hts (.fieldLink RX6 11 "CodeHunt" "rows" "[LCodeHunt$Row;") (by decide +kernel)) rfl dX6_most_46 ?_
  refine lv_iload_n hx hb dX6_most_49 rfl (lv_at hl 1 rfl) ?_
  refine ch_gd_k h (fun hin h => ?_)
  have hlt1 := ch_in_lt hin
  refine ch_rows S hw hin dX6_most_50 ?_
  refine ch_getN S hw (7 + x1.toNatClampNeg) (by omega) (ch_FC_row (by omega)) rfl (by decide +kernel) 1 (by decide) (ch_nw hw 16 rfl) rfl dX6_most_51 ?_
  refine ch_icmp_ge (tgt := 91) hx hb dX6_most_54 (by decide) h (fun h => ?_) (fun h => ?_)
  · exact t_X6_most_91 S fin h hw (lv_sub hl [3] rfl)
  · refine lv_iload_n hx hb dX6_most_57 rfl (lv_at hl 3 rfl) ?_
    refine lv_aload_n hx hb dX6_most_58 rfl (lv_at hl 0 rfl) ?_
    refine ch_get S hw 0 (by decide) rfl rfl (by decide +kernel) 0 (by decide) (hts (.fieldLink RX6 11 "CodeHunt" "rows" "[LCodeHunt$Row;") (by decide +kernel)) rfl dX6_most_59 ?_
    refine lv_iload_n hx hb dX6_most_62 rfl (lv_at hl 2 rfl) ?_
    refine ch_gd_k h (fun hin h => ?_)
    have hlt2 := ch_in_lt hin
    refine ch_rows S hw hin dX6_most_63 ?_
    refine lv_aload_n hx hb dX6_most_64 rfl (lv_at hl 0 rfl) ?_
    refine ch_get S hw 0 (by decide) rfl rfl (by decide +kernel) 0 (by decide) (hts (.fieldLink RX6 11 "CodeHunt" "rows" "[LCodeHunt$Row;") (by decide +kernel)) rfl dX6_most_65 ?_
    refine lv_iload_n hx hb dX6_most_68 rfl (lv_at hl 1 rfl) ?_
    refine ch_gd_k h (fun hin h => ?_)
    have hlt3 := ch_in_lt hin
    refine ch_rows S hw hin dX6_most_69 ?_
    refine ch_getN S hw (7 + x1.toNatClampNeg) (by omega) (ch_FC_row (by omega)) rfl (by decide +kernel) 0 (by decide) (ch_nw hw 15 rfl) rfl dX6_most_70 ?_
    refine lv_iload hx hb dX6_most_73 (lv_at hl 4 rfl) ?_
    refine ch_bd_k h (fun r4 M5 hc h => ?_)
    refine ch_ci hw (va_runV (As := [.ref (sh ((7 + x1.toNatClampNeg) + 8)), .int x4]) (rest := [.int x3]) S (c_X3_sumOver l D I sh H.size M (7 + x2.toNatClampNeg) (by omega) ((7 + x1.toNatClampNeg) + 8) (by unfold ch_arr; omega) x4 hc) (cwV 2 hts gX6_most_X3_sumOver rfl rfl rfl (by decide +kernel) ⟨Nat.le_of_ble_eq_true rfl, Nat.le_of_ble_eq_true rfl⟩) (ch_pV hw (by omega) (ch_FC_row (by omega)) rfl rfl) rfl rfl hl.1 rfl (lv_room (Nat.le_of_ble_eq_true rfl)) dX6_most_75 ⟨Nat.le_refl 0, Nat.le_refl 0⟩) (fun H locs hw => ?_)
    refine va_mabs hx hb (S.2.2.1.trans hl.1.symm) hown (hts (.methodLink RX6 127 Lib.Math.abs.name) (by decide +kernel)) (hts (.static Lib.Math.abs.name) (by decide +kernel)) (hts (.initialized "java/lang/Math") (by decide +kernel)) (hts (.code Lib.Math.abs.name Lib.Math.abs.code 1 (some .int)) (by decide +kernel)) (Nat.le_of_ble_eq_true rfl) (Nat.le_of_ble_eq_true rfl) (Nat.le_refl 0) (Nat.le_refl 0) dX6_most_78 ?_
    refine va_mmax hx hb (S.2.2.1.trans hl.1.symm) hown (hts (.methodLink RX6 132 Lib.Math.max.name) (by decide +kernel)) (hts (.static Lib.Math.max.name) (by decide +kernel)) (hts (.initialized "java/lang/Math") (by decide +kernel)) (hts (.code Lib.Math.max.name Lib.Math.max.code 2 (some .int)) (by decide +kernel)) (Nat.le_of_ble_eq_true rfl) (Nat.le_of_ble_eq_true rfl) (Nat.le_refl 0) (Nat.le_refl 0) dX6_most_81 ?_
    refine ch_topi h (fun u6 h => ?_)
    refine lv_istore_n (lv' := [(3, .int u6), (0, .ref (sh 0)), (1, .int x1), (2, .int x2), (4, .int x4)]) hx hb dX6_most_84 rfl hl (by decide) rfl (fun ls hl => ?_)
    refine lv_iinc (v := x4 + (1 : Int32)) (lv' := [(4, .int (x4 + (1 : Int32))), (3, .int u6), (0, .ref (sh 0)), (1, .int x1), (2, .int x2)]) hx hb dX6_most_85 hl (k := 4) rfl rfl (by decide) rfl (fun ls hl => ?_)
    refine lv_goto (tgt := 43) hx hb dX6_most_88 (by decide) ?_
    exact hk43 _ _ _ _ _ _ _ _  h hw (lv_sub hl [2, 3, 4, 1, 0] rfl)
set_option maxHeartbeats 4000000 in
set_option maxRecDepth 100000 in
theorem tl_X6_most_43 {p : Program} {l : Launch} {e : Env} {s : State} {m : MethodId} {args : Array Value} {below : List Frame} {meth : Method} {c : Code} {Q : State → Prop} {D : va_G} {I : ch_Id} {sh : Nat → Nat} {A : Nat → Prop} {oo : Int32 × ch_Mem}     (S : CallFix p m c cX6_most 5 s args wsX6_most RX6) (fin : ch_FinI p l e rm_X6_most s m args below meth c cX6_most Q D I 40 (ch_FC I sh) sh A oo)  (n : Nat) : ∀ (x1 : Int32) (x2 : Int32) (x3 : Int32) (x4 : Int32) (M : ch_Mem) (H : Heap) (locs : List Loc) (ls : Array Slot), D_X6_most_L43  n x1 x2 x3 x4 M = some oo → ch_Wd D I 40 (ch_FC I sh) sh s A M H locs → lv_has ls 5 [(0, .ref (sh 0)), (1, .int x1), (2, .int x2), (3, .int x3), (4, .int x4)] → W p l e rm_X6_most s m args below meth c H locs 0 0 Q (F0 m 43 ls []) := by
  induction n with
  | zero => intro x1 x2 x3 x4 M H locs ls  h; cases h
  | succ n ih =>
    intro x1 x2 x3 x4 M H locs ls  h hw hl
    exact t_X6_most_43 S fin ih h hw hl
set_option maxHeartbeats 4000000 in
set_option maxRecDepth 100000 in
theorem t_X6_most_41 {p : Program} {l : Launch} {e : Env} {s : State} {m : MethodId} {args : Array Value} {below : List Frame} {meth : Method} {c : Code} {Q : State → Prop} {D : va_G} {I : ch_Id} {sh : Nat → Nat} {A : Nat → Prop} {oo : Int32 × ch_Mem}     (S : CallFix p m c cX6_most 5 s args wsX6_most RX6) (fin : ch_FinI p l e rm_X6_most s m args below meth c cX6_most Q D I 40 (ch_FC I sh) sh A oo)  {x1 : Int32} {x2 : Int32} {x3 : Int32} {y0 : Int32}  {M : ch_Mem} {H : Heap} {locs : List Loc} {ls : Array Slot} (h : D_X6_most_b41 x1 x2 x3 y0 M = some oo) (hw : ch_Wd D I 40 (ch_FC I sh) sh s A M H locs) (hl : lv_has ls 5 [(0, .ref (sh 0)), (1, .int x1), (2, .int x2), (3, .int x3)]) : W p l e rm_X6_most s m args below meth c H locs 0 0 Q (F0 m 41 ls [.int y0]) := by
  obtain ⟨hx, hb, hml, hown, hts⟩ := id S
  unfold D_X6_most_b41 at h
  refine lv_istore (lv' := [(4, .int y0), (0, .ref (sh 0)), (1, .int x1), (2, .int x2), (3, .int x3)]) hx hb dX6_most_41 hl (by decide) rfl (fun ls hl => ?_)
  exact tl_X6_most_43 S fin ch_fu _ _ _ _ _ _ _ _ h hw (lv_sub hl [1, 2, 3, 4, 0] rfl)
set_option maxHeartbeats 4000000 in
set_option maxRecDepth 100000 in
theorem t_X6_most_0 {p : Program} {l : Launch} {e : Env} {s : State} {m : MethodId} {args : Array Value} {below : List Frame} {meth : Method} {c : Code} {Q : State → Prop} {D : va_G} {I : ch_Id} {sh : Nat → Nat} {A : Nat → Prop} {oo : Int32 × ch_Mem}     (S : CallFix p m c cX6_most 5 s args wsX6_most RX6) (fin : ch_FinI p l e rm_X6_most s m args below meth c cX6_most Q D I 40 (ch_FC I sh) sh A oo)  {x1 : Int32} {x2 : Int32}  {M : ch_Mem} {H : Heap} {locs : List Loc} {ls : Array Slot} (h : D_X6_most x1 x2 M = some oo) (hw : ch_Wd D I 40 (ch_FC I sh) sh s A M H locs) (hl : lv_has ls 5 [(0, .ref (sh 0)), (1, .int x1), (2, .int x2)]) : W p l e rm_X6_most s m args below meth c H locs 0 0 Q (F0 m 0 ls []) := by
  obtain ⟨hx, hb, hml, hown, hts⟩ := id S
  unfold D_X6_most at h
  refine lv_iload_n hx hb dX6_most_0 rfl (lv_at hl 1 rfl) ?_
  refine ch_bd_k h (fun r1 M2 hc h => ?_)
  refine ch_ci hw (va_runS (As := [.int x1]) (rest := []) S (c_X6_isRow l D I sh H.size M x1 hc) (va_cwS 1 hts gX6_most_X6_isRow rfl rfl rfl (by decide +kernel) ⟨Nat.le_of_ble_eq_true rfl, Nat.le_of_ble_eq_true rfl⟩) (ch_pS hw) rfl rfl hl.1 rfl (lv_room (Nat.le_of_ble_eq_true rfl)) dX6_most_1 ⟨Nat.le_refl 0, Nat.le_refl 0⟩) (fun H locs hw => ?_)
  refine ch_if_eq (tgt := 14) hx hb dX6_most_4 (by decide) h (fun h => ?_) (fun h => ?_)
  · refine lv_bipush (v := (-2 : Int32)) hx hb dX6_most_14 (by decide) ?_
    exact fin _ _ _ _ _ _ h hw dX6_most_16
  · refine lv_iload_n hx hb dX6_most_7 rfl (lv_at hl 2 rfl) ?_
    refine ch_bd_k h (fun r3 M4 hc h => ?_)
    refine ch_ci hw (va_runS (As := [.int x2]) (rest := []) S (c_X6_isRow l D I sh H.size M2 x2 hc) (va_cwS 1 hts gX6_most_X6_isRow rfl rfl rfl (by decide +kernel) ⟨Nat.le_of_ble_eq_true rfl, Nat.le_of_ble_eq_true rfl⟩) (ch_pS hw) rfl rfl hl.1 rfl (lv_room (Nat.le_of_ble_eq_true rfl)) dX6_most_8 ⟨Nat.le_refl 0, Nat.le_refl 0⟩) (fun H locs hw => ?_)
    refine ch_if_ne (tgt := 17) hx hb dX6_most_11 (by decide) h (fun h => ?_) (fun h => ?_)
    · refine lv_aload_n hx hb dX6_most_17 rfl (lv_at hl 0 rfl) ?_
      refine lv_iload_n hx hb dX6_most_18 rfl (lv_at hl 1 rfl) ?_
      refine lv_iload_n hx hb dX6_most_19 rfl (lv_at hl 2 rfl) ?_
      refine ch_bd_k h (fun r5 M6 hc h => ?_)
      refine ch_ci hw (va_runV (As := [.int x1, .int x2]) (rest := []) S (c_X6_arePaired l D I sh H.size M4 x1 x2 hc) (cwV 2 hts gX6_most_X6_arePaired rfl rfl rfl (by decide +kernel) ⟨Nat.le_of_ble_eq_true rfl, Nat.le_of_ble_eq_true rfl⟩) (ch_pV hw (by decide) rfl rfl rfl) rfl rfl hl.1 rfl (lv_room (Nat.le_of_ble_eq_true rfl)) dX6_most_20 ⟨Nat.le_refl 0, Nat.le_refl 0⟩) (fun H locs hw => ?_)
      refine ch_if_ne (tgt := 29) hx hb dX6_most_23 (by decide) h (fun h => ?_) (fun h => ?_)
      · refine lv_iconst (v := (0 : Int32)) hx hb dX6_most_29 (by decide) ?_
        refine lv_istore_n (lv' := [(3, .int (0 : Int32)), (0, .ref (sh 0)), (1, .int x1), (2, .int x2)]) hx hb dX6_most_30 rfl hl (by decide) rfl (fun ls hl => ?_)
        refine lv_iload_n hx hb dX6_most_31 rfl (lv_at hl 2 rfl) ?_
        refine lv_iload_n hx hb dX6_most_32 rfl (lv_at hl 3 rfl) ?_
        refine ch_icmp_ne (tgt := 40) hx hb dX6_most_33 (by decide) h (fun h => ?_) (fun h => ?_)
        · refine lv_iconst (v := (0 : Int32)) hx hb dX6_most_40 (by decide) ?_
          exact t_X6_most_41 S fin h hw (lv_sub hl [1, 2, 3, 0] rfl)
        · refine lv_iconst (v := (1 : Int32)) hx hb dX6_most_36 (by decide) ?_
          refine lv_goto (tgt := 41) hx hb dX6_most_37 (by decide) ?_
          exact t_X6_most_41 S fin h hw (lv_sub hl [1, 2, 3, 0] rfl)
      · refine lv_bipush (v := (-3 : Int32)) hx hb dX6_most_26 (by decide) ?_
        exact fin _ _ _ _ _ _ h hw dX6_most_28
    · refine lv_bipush (v := (-2 : Int32)) hx hb dX6_most_14 (by decide) ?_
      exact fin _ _ _ _ _ _ h hw dX6_most_16
set_option maxHeartbeats 4000000 in
set_option maxRecDepth 100000 in
theorem c_X6_most (l : Launch) (D : va_G) (I : ch_Id) (sh : Nat → Nat) (sz : Nat) (M : ch_Mem)  (x1 : Int32) (x2 : Int32) {r : Int32} {M1 : ch_Mem} (h : D_X6_most x1 x2 M = some (r, M1)) : Met l yX6_most wsX6_most rm_X6_most (va_Pc [.ref (sh 0), .int x1, .int x2] (ch_Pre D I 40 (ch_FC I sh) sh sz M)) (va_Qi (fun r' (u : ch_Mem) => r' = r ∧ u = M1) (ch_Pos D 40 (ch_FC I sh) sh) (ch_A 40 sh sz)) 0 0 (ch_A 40 sh sz) := by
  refine Met.ofW (cc := cX6_most) (maxL := 5) (ret := (some .int)) (by decide) rfl ?_
  intro p e s m args below meth c s₁ B hml hv0
  obtain ⟨rfl, hv0⟩ := hv0
  obtain rfl : s.heap.size = sz := hv0.1
  have hw := ch_start hv0
  have S : CallFix p m c cX6_most 5 s _ wsX6_most RX6 := ⟨B.exec, B.bytes, hml, findClass_of_methodNamed B.named, atoms_spec (ws := wsX6_most) B.pre⟩
  have hl := lv_entry ([.ref (sh 0), .int x1, .int x2]) (n := 5) (Nat.le_of_ble_eq_true rfl)
  rw [lg_entry_eq]
  generalize (lg_sl ([.ref (sh 0), .int x1, .int x2]) ++ List.replicate (5 - (lg_sl ([.ref (sh 0), .int x1, .int x2])).length) Slot.unset).toArray = ls at hl ⊢
  exact t_X6_most_0 S (ch_finI (B := fun _ => True) B.exec B.bytes B.returns B.notSynchronized) h hw (lv_sub hl [0, 1, 2] rfl)
set_option maxHeartbeats 4000000 in
set_option maxRecDepth 100000 in
theorem t_X6_noise_0 {p : Program} {l : Launch} {e : Env} {s : State} {m : MethodId} {args : Array Value} {below : List Frame} {meth : Method} {c : Code} {Q : State → Prop} {D : va_G} {I : ch_Id} {sh : Nat → Nat} {A : Nat → Prop} {oo : Int64 × ch_Mem}     (S : CallFix p m c cX6_noise 1 s args wsX6_noise RX6) (fin : ch_FinL p l e rm_X6_noise s m args below meth c cX6_noise Q D I 40 (ch_FC I sh) sh A oo)    {M : ch_Mem} {H : Heap} {locs : List Loc} {ls : Array Slot} (h : D_X6_noise  M = some oo) (hw : ch_Wd D I 40 (ch_FC I sh) sh s A M H locs) (hl : lv_has ls 1 [(0, .ref (sh 0))]) : W p l e rm_X6_noise s m args below meth c H locs 0 0 Q (F0 m 0 ls []) := by
  obtain ⟨hx, hb, hml, hown, hts⟩ := id S
  unfold D_X6_noise at h
  refine lv_aload_n hx hb dX6_noise_0 rfl (lv_at hl 0 rfl) ?_
  refine ch_get S hw 0 (by decide) rfl rfl (by decide +kernel) 4 (by decide) (hts (.fieldLink RX6 38 "CodeHunt" "peeling" "LCodeHunt$Peeling;") (by decide +kernel)) rfl dX6_noise_1 ?_
  refine ch_getN S hw 5 (by decide) rfl rfl (by decide +kernel) 4 (by decide) (ch_nw hw 13 rfl) rfl dX6_noise_4 ?_
  exact fin _ _ _ _ _ _ h hw dX6_noise_7
set_option maxHeartbeats 4000000 in
set_option maxRecDepth 100000 in
theorem c_X6_noise (l : Launch) (D : va_G) (I : ch_Id) (sh : Nat → Nat) (sz : Nat) (M : ch_Mem)   {r : Int64} {M1 : ch_Mem} (h : D_X6_noise  M = some (r, M1)) : Met l yX6_noise wsX6_noise rm_X6_noise (va_Pc [.ref (sh 0)] (ch_Pre D I 40 (ch_FC I sh) sh sz M)) (va_Ql (fun r' (u : ch_Mem) => r' = r ∧ u = M1) (ch_Pos D 40 (ch_FC I sh) sh) (ch_A 40 sh sz)) 0 0 (ch_A 40 sh sz) := by
  refine Met.ofW (cc := cX6_noise) (maxL := 1) (ret := (some .long)) (by decide) rfl ?_
  intro p e s m args below meth c s₁ B hml hv0
  obtain ⟨rfl, hv0⟩ := hv0
  obtain rfl : s.heap.size = sz := hv0.1
  have hw := ch_start hv0
  have S : CallFix p m c cX6_noise 1 s _ wsX6_noise RX6 := ⟨B.exec, B.bytes, hml, findClass_of_methodNamed B.named, atoms_spec (ws := wsX6_noise) B.pre⟩
  have hl := lv_entry ([.ref (sh 0)]) (n := 1) (Nat.le_of_ble_eq_true rfl)
  rw [lg_entry_eq]
  generalize (lg_sl ([.ref (sh 0)]) ++ List.replicate (1 - (lg_sl ([.ref (sh 0)])).length) Slot.unset).toArray = ls at hl ⊢
  exact t_X6_noise_0 S (ch_finL B.exec B.bytes B.returns B.notSynchronized) h hw (lv_sub hl [0] rfl)
set_option maxHeartbeats 4000000 in
set_option maxRecDepth 100000 in
theorem t_J9_floorDiv_7cf53_21 {p : Program} {l : Launch} {e : Env} {s : State} {m : MethodId} {args : Array Value} {below : List Frame} {meth : Method} {c : Code} {Q : State → Prop} {D : va_G} {I : ch_Id} {sh : Nat → Nat} {A : Nat → Prop} {oo : Int32 × ch_Mem}     (S : CallFix p m c cJ9_floorDiv_7cf53 3 s args wsJ9_floorDiv_7cf53 RJ9) (fin : ch_FinI p l e rm_J9_floorDiv_7cf53 s m args below meth c cJ9_floorDiv_7cf53 Q D I 40 (ch_FC I sh) sh A oo)  {x2 : Int32}  {M : ch_Mem} {H : Heap} {locs : List Loc} {ls : Array Slot} (h : D_J9_floorDiv_7cf53_b21 x2 M = some oo) (hw : ch_Wd D I 40 (ch_FC I sh) sh s A M H locs) (hl : lv_has ls 3 [(2, .int x2)]) : W p l e rm_J9_floorDiv_7cf53 s m args below meth c H locs 0 0 Q (F0 m 21 ls []) := by
  obtain ⟨hx, hb, hml, hown, hts⟩ := id S
  unfold D_J9_floorDiv_7cf53_b21 at h
  refine lv_iload_n hx hb dJ9_floorDiv_7cf53_21 rfl (lv_at hl 0 rfl) ?_
  exact fin _ _ _ _ _ _ h hw dJ9_floorDiv_7cf53_22
set_option maxHeartbeats 4000000 in
set_option maxRecDepth 100000 in
theorem t_J9_floorDiv_7cf53_0 {p : Program} {l : Launch} {e : Env} {s : State} {m : MethodId} {args : Array Value} {below : List Frame} {meth : Method} {c : Code} {Q : State → Prop} {D : va_G} {I : ch_Id} {sh : Nat → Nat} {A : Nat → Prop} {oo : Int32 × ch_Mem}     (S : CallFix p m c cJ9_floorDiv_7cf53 3 s args wsJ9_floorDiv_7cf53 RJ9) (fin : ch_FinI p l e rm_J9_floorDiv_7cf53 s m args below meth c cJ9_floorDiv_7cf53 Q D I 40 (ch_FC I sh) sh A oo)  {x0 : Int32} {x1 : Int32}  {M : ch_Mem} {H : Heap} {locs : List Loc} {ls : Array Slot} (h : D_J9_floorDiv_7cf53 x0 x1 M = some oo) (hw : ch_Wd D I 40 (ch_FC I sh) sh s A M H locs) (hl : lv_has ls 3 [(0, .int x0), (1, .int x1)]) : W p l e rm_J9_floorDiv_7cf53 s m args below meth c H locs 0 0 Q (F0 m 0 ls []) := by
  obtain ⟨hx, hb, hml, hown, hts⟩ := id S
  unfold D_J9_floorDiv_7cf53 at h
  refine lv_iload_n hx hb dJ9_floorDiv_7cf53_0 rfl (lv_at hl 0 rfl) ?_
  refine lv_iload_n hx hb dJ9_floorDiv_7cf53_1 rfl (lv_at hl 1 rfl) ?_
  refine ch_g0_k h (fun hne h => ?_)
  refine lv_idiv hx hb dJ9_floorDiv_7cf53_2 hne ?_
  refine lv_istore_n (lv' := [(2, .int (x0 / x1)), (0, .int x0), (1, .int x1)]) hx hb dJ9_floorDiv_7cf53_3 rfl hl (by decide) rfl (fun ls hl => ?_)
  refine lv_iload_n hx hb dJ9_floorDiv_7cf53_4 rfl (lv_at hl 1 rfl) ?_
  refine lv_iload_n hx hb dJ9_floorDiv_7cf53_5 rfl (lv_at hl 2 rfl) ?_
  refine lv_ixor hx hb dJ9_floorDiv_7cf53_6 ?_
  refine ch_if_ge (tgt := 21) hx hb dJ9_floorDiv_7cf53_7 (by decide) h (fun h => ?_) (fun h => ?_)
  · exact t_J9_floorDiv_7cf53_21 S fin h hw (lv_sub hl [0] rfl)
  · refine lv_iload_n hx hb dJ9_floorDiv_7cf53_10 rfl (lv_at hl 0 rfl) ?_
    refine lv_iload_n hx hb dJ9_floorDiv_7cf53_11 rfl (lv_at hl 2 rfl) ?_
    refine lv_imul hx hb dJ9_floorDiv_7cf53_12 ?_
    refine lv_iload_n hx hb dJ9_floorDiv_7cf53_13 rfl (lv_at hl 1 rfl) ?_
    refine ch_icmp_eq (tgt := 21) hx hb dJ9_floorDiv_7cf53_14 (by decide) h (fun h => ?_) (fun h => ?_)
    · exact t_J9_floorDiv_7cf53_21 S fin h hw (lv_sub hl [0] rfl)
    · refine lv_iload_n hx hb dJ9_floorDiv_7cf53_17 rfl (lv_at hl 0 rfl) ?_
      refine lv_iconst (v := (1 : Int32)) hx hb dJ9_floorDiv_7cf53_18 (by decide) ?_
      refine lv_isub hx hb dJ9_floorDiv_7cf53_19 ?_
      exact fin _ _ _ _ _ _ h hw dJ9_floorDiv_7cf53_20
set_option maxHeartbeats 4000000 in
set_option maxRecDepth 100000 in
theorem c_J9_floorDiv_7cf53 (l : Launch) (D : va_G) (I : ch_Id) (sh : Nat → Nat) (sz : Nat) (M : ch_Mem)  (x0 : Int32) (x1 : Int32) {r : Int32} {M1 : ch_Mem} (h : D_J9_floorDiv_7cf53 x0 x1 M = some (r, M1)) : Met l yJ9_floorDiv_7cf53 wsJ9_floorDiv_7cf53 rm_J9_floorDiv_7cf53 (va_Pc [.int x0, .int x1] (ch_Pre D I 40 (ch_FC I sh) sh sz M)) (va_Qi (fun r' (u : ch_Mem) => r' = r ∧ u = M1) (ch_Pos D 40 (ch_FC I sh) sh) (ch_A 40 sh sz)) 0 0 (ch_A 40 sh sz) := by
  refine va_MetF (cc := cJ9_floorDiv_7cf53) (maxL := 3) (ret := (some .int)) (by decide +kernel) rfl ?_
  intro p e s m args below meth c s₁ B hml hv0
  obtain ⟨rfl, hv0⟩ := hv0
  obtain rfl : s.heap.size = sz := hv0.1
  have hw := ch_start hv0
  have S : CallFix p m c cJ9_floorDiv_7cf53 3 s _ wsJ9_floorDiv_7cf53 RJ9 := ⟨B.exec, B.bytes, hml, findClass_of_methodNamed B.named, atoms_spec (ws := wsJ9_floorDiv_7cf53) B.pre⟩
  have hl := lv_entry ([.int x0, .int x1]) (n := 3) (Nat.le_of_ble_eq_true rfl)
  rw [lg_entry_eq]
  generalize (lg_sl ([.int x0, .int x1]) ++ List.replicate (3 - (lg_sl ([.int x0, .int x1])).length) Slot.unset).toArray = ls at hl ⊢
  exact t_J9_floorDiv_7cf53_0 S (ch_finI (B := fun _ => True) B.exec B.bytes B.returns B.notSynchronized) h hw (lv_sub hl [0, 1] rfl)
set_option maxHeartbeats 4000000 in
set_option maxRecDepth 100000 in
theorem t_X6_roundedRatio_0 {p : Program} {l : Launch} {e : Env} {s : State} {m : MethodId} {args : Array Value} {below : List Frame} {meth : Method} {c : Code} {Q : State → Prop} {D : va_G} {I : ch_Id} {sh : Nat → Nat} {A : Nat → Prop} {oo : Int32 × ch_Mem}     (S : CallFix p m c cX6_roundedRatio 2 s args wsX6_roundedRatio RX6) (fin : ch_FinI p l e rm_X6_roundedRatio s m args below meth c cX6_roundedRatio Q D I 40 (ch_FC I sh) sh A oo)  {x0 : Int32} {x1 : Int32}  {M : ch_Mem} {H : Heap} {locs : List Loc} {ls : Array Slot} (h : D_X6_roundedRatio x0 x1 M = some oo) (hw : ch_Wd D I 40 (ch_FC I sh) sh s A M H locs) (hl : lv_has ls 2 [(0, .int x0), (1, .int x1)]) : W p l e rm_X6_roundedRatio s m args below meth c H locs 0 0 Q (F0 m 0 ls []) := by
  obtain ⟨hx, hb, hml, hown, hts⟩ := id S
  unfold D_X6_roundedRatio at h
  refine lv_iload_n hx hb dX6_roundedRatio_0 rfl (lv_at hl 1 rfl) ?_
  refine lv_iconst (v := (1 : Int32)) hx hb dX6_roundedRatio_1 (by decide) ?_
  refine ch_icmp_ge (tgt := 9) hx hb dX6_roundedRatio_2 (by decide) h (fun h => ?_) (fun h => ?_)
  · refine lv_iconst (v := (2 : Int32)) hx hb dX6_roundedRatio_9 (by decide) ?_
    refine lv_iload_n hx hb dX6_roundedRatio_10 rfl (lv_at hl 0 rfl) ?_
    refine lv_imul hx hb dX6_roundedRatio_11 ?_
    refine lv_iload_n hx hb dX6_roundedRatio_12 rfl (lv_at hl 1 rfl) ?_
    refine lv_iadd hx hb dX6_roundedRatio_13 ?_
    refine lv_iconst (v := (2 : Int32)) hx hb dX6_roundedRatio_14 (by decide) ?_
    refine lv_iload_n hx hb dX6_roundedRatio_15 rfl (lv_at hl 1 rfl) ?_
    refine lv_imul hx hb dX6_roundedRatio_16 ?_
    refine ch_bd_k h (fun r1 M2 hc h => ?_)
    refine ch_ci hw (va_runS (As := [.int (((2 : Int32) * x0) + x1), .int ((2 : Int32) * x1)]) (rest := []) S (c_J9_floorDiv_7cf53 l D I sh H.size M (((2 : Int32) * x0) + x1) ((2 : Int32) * x1) hc) (va_cwS 2 hts gX6_roundedRatio_J9_floorDiv_7cf53 rfl rfl rfl (by decide +kernel) ⟨Nat.le_of_ble_eq_true rfl, Nat.le_of_ble_eq_true rfl⟩) (ch_pS hw) rfl rfl hl.1 rfl (lv_room (Nat.le_of_ble_eq_true rfl)) dX6_roundedRatio_17 ⟨Nat.le_refl 0, Nat.le_refl 0⟩) (fun H locs hw => ?_)
    exact fin _ _ _ _ _ _ h hw dX6_roundedRatio_20
  · refine lv_iconst (v := (0 : Int32)) hx hb dX6_roundedRatio_5 (by decide) ?_
    refine lv_goto (tgt := 20) hx hb dX6_roundedRatio_6 (by decide) ?_
    exact fin _ _ _ _ _ _ h hw dX6_roundedRatio_20
set_option maxHeartbeats 4000000 in
set_option maxRecDepth 100000 in
theorem c_X6_roundedRatio (l : Launch) (D : va_G) (I : ch_Id) (sh : Nat → Nat) (sz : Nat) (M : ch_Mem)  (x0 : Int32) (x1 : Int32) {r : Int32} {M1 : ch_Mem} (h : D_X6_roundedRatio x0 x1 M = some (r, M1)) : Met l yX6_roundedRatio wsX6_roundedRatio rm_X6_roundedRatio (va_Pc [.int x0, .int x1] (ch_Pre D I 40 (ch_FC I sh) sh sz M)) (va_Qi (fun r' (u : ch_Mem) => r' = r ∧ u = M1) (ch_Pos D 40 (ch_FC I sh) sh) (ch_A 40 sh sz)) 0 0 (ch_A 40 sh sz) := by
  refine Met.ofW (cc := cX6_roundedRatio) (maxL := 2) (ret := (some .int)) (by decide) rfl ?_
  intro p e s m args below meth c s₁ B hml hv0
  obtain ⟨rfl, hv0⟩ := hv0
  obtain rfl : s.heap.size = sz := hv0.1
  have hw := ch_start hv0
  have S : CallFix p m c cX6_roundedRatio 2 s _ wsX6_roundedRatio RX6 := ⟨B.exec, B.bytes, hml, findClass_of_methodNamed B.named, atoms_spec (ws := wsX6_roundedRatio) B.pre⟩
  have hl := lv_entry ([.int x0, .int x1]) (n := 2) (Nat.le_of_ble_eq_true rfl)
  rw [lg_entry_eq]
  generalize (lg_sl ([.int x0, .int x1]) ++ List.replicate (2 - (lg_sl ([.int x0, .int x1])).length) Slot.unset).toArray = ls at hl ⊢
  exact t_X6_roundedRatio_0 S (ch_finI (B := fun _ => True) B.exec B.bytes B.returns B.notSynchronized) h hw (lv_sub hl [0, 1] rfl)
set_option maxHeartbeats 4000000 in
set_option maxRecDepth 100000 in
theorem t_X6_takeOffLoudest_86 {p : Program} {l : Launch} {e : Env} {s : State} {m : MethodId} {args : Array Value} {below : List Frame} {meth : Method} {c : Code} {Q : State → Prop} {D : va_G} {I : ch_Id} {sh : Nat → Nat} {A : Nat → Prop} {oo : Int32 × ch_Mem}    {k10 : Int32 → Int32 → Int32 → Int32 → Int32 → ch_Mem → Option (Int32 × ch_Mem)} {k37 : Int32 → Int32 → Int32 → Int32 → Int32 → Int32 → ch_Mem → Option (Int32 × ch_Mem)} (S : CallFix p m c cX6_takeOffLoudest 8 s args wsX6_takeOffLoudest RX6) (fin : ch_FinZ p l e rm_X6_takeOffLoudest s m args below meth c cX6_takeOffLoudest Q D I 40 (ch_FC I sh) sh A oo) (hk10 : ∀ (x1 : Int32) (x2 : Int32) (x3 : Int32) (x4 : Int32) (x5 : Int32) (M : ch_Mem) (H : Heap) (locs : List Loc) (ls : Array Slot), k10 x1 x2 x3 x4 x5 M = some oo → ch_Wd D I 40 (ch_FC I sh) sh s A M H locs → lv_has ls 8 [(0, .ref (sh 0)), (1, .int x1), (2, .int x2), (3, .int x3), (4, .int x4), (5, .int x5)] → W p l e rm_X6_takeOffLoudest s m args below meth c H locs 0 0 Q (F0 m 10 ls [])) (hk37 : ∀ (x1 : Int32) (x2 : Int32) (x3 : Int32) (x4 : Int32) (x5 : Int32) (x6 : Int32) (M : ch_Mem) (H : Heap) (locs : List Loc) (ls : Array Slot), k37 x1 x2 x3 x4 x5 x6 M = some oo → ch_Wd D I 40 (ch_FC I sh) sh s A M H locs → lv_has ls 8 [(0, .ref (sh 0)), (1, .int x1), (2, .int x2), (3, .int x3), (4, .int x4), (5, .int x5), (6, .int x6)] → W p l e rm_X6_takeOffLoudest s m args below meth c H locs 0 0 Q (F0 m 37 ls [])) {x1 : Int32} {x2 : Int32} {x3 : Int32} {x4 : Int32} {x5 : Int32} {x6 : Int32}  {M : ch_Mem} {H : Heap} {locs : List Loc} {ls : Array Slot} (h : D_X6_takeOffLoudest_b86 k10 k37 x1 x2 x3 x4 x5 x6 M = some oo) (hw : ch_Wd D I 40 (ch_FC I sh) sh s A M H locs) (hl : lv_has ls 8 [(0, .ref (sh 0)), (1, .int x1), (2, .int x2), (3, .int x3), (4, .int x4), (5, .int x5), (6, .int x6)]) : W p l e rm_X6_takeOffLoudest s m args below meth c H locs 0 0 Q (F0 m 86 ls []) := by
  obtain ⟨hx, hb, hml, hown, hts⟩ := id S
  unfold D_X6_takeOffLoudest_b86 at h
  refine lv_iinc (v := x6 + (1 : Int32)) (lv' := [(6, .int (x6 + (1 : Int32))), (0, .ref (sh 0)), (1, .int x1), (2, .int x2), (3, .int x3), (4, .int x4), (5, .int x5)]) hx hb dX6_takeOffLoudest_86 hl (k := 6) rfl rfl (by decide) rfl (fun ls hl => ?_)
  refine lv_goto (tgt := 37) hx hb dX6_takeOffLoudest_89 (by decide) ?_
  exact hk37 _ _ _ _ _ _ _ _ _ _  h hw (lv_sub hl [1, 2, 3, 4, 5, 6, 0] rfl)
set_option maxHeartbeats 4000000 in
set_option maxRecDepth 100000 in
theorem t_X6_takeOffLoudest_92 {p : Program} {l : Launch} {e : Env} {s : State} {m : MethodId} {args : Array Value} {below : List Frame} {meth : Method} {c : Code} {Q : State → Prop} {D : va_G} {I : ch_Id} {sh : Nat → Nat} {A : Nat → Prop} {oo : Int32 × ch_Mem}    {k10 : Int32 → Int32 → Int32 → Int32 → Int32 → ch_Mem → Option (Int32 × ch_Mem)} (S : CallFix p m c cX6_takeOffLoudest 8 s args wsX6_takeOffLoudest RX6) (fin : ch_FinZ p l e rm_X6_takeOffLoudest s m args below meth c cX6_takeOffLoudest Q D I 40 (ch_FC I sh) sh A oo) (hk10 : ∀ (x1 : Int32) (x2 : Int32) (x3 : Int32) (x4 : Int32) (x5 : Int32) (M : ch_Mem) (H : Heap) (locs : List Loc) (ls : Array Slot), k10 x1 x2 x3 x4 x5 M = some oo → ch_Wd D I 40 (ch_FC I sh) sh s A M H locs → lv_has ls 8 [(0, .ref (sh 0)), (1, .int x1), (2, .int x2), (3, .int x3), (4, .int x4), (5, .int x5)] → W p l e rm_X6_takeOffLoudest s m args below meth c H locs 0 0 Q (F0 m 10 ls [])) {x1 : Int32} {x2 : Int32} {x3 : Int32} {x4 : Int32} {x5 : Int32}  {M : ch_Mem} {H : Heap} {locs : List Loc} {ls : Array Slot} (h : D_X6_takeOffLoudest_b92 k10 x1 x2 x3 x4 x5 M = some oo) (hw : ch_Wd D I 40 (ch_FC I sh) sh s A M H locs) (hl : lv_has ls 8 [(0, .ref (sh 0)), (1, .int x1), (2, .int x2), (3, .int x3), (4, .int x4), (5, .int x5)]) : W p l e rm_X6_takeOffLoudest s m args below meth c H locs 0 0 Q (F0 m 92 ls []) := by
  obtain ⟨hx, hb, hml, hown, hts⟩ := id S
  unfold D_X6_takeOffLoudest_b92 at h
  refine lv_iinc (v := x5 + (1 : Int32)) (lv' := [(5, .int (x5 + (1 : Int32))), (0, .ref (sh 0)), (1, .int x1), (2, .int x2), (3, .int x3), (4, .int x4)]) hx hb dX6_takeOffLoudest_92 hl (k := 5) rfl rfl (by decide) rfl (fun ls hl => ?_)
  refine lv_goto (tgt := 10) hx hb dX6_takeOffLoudest_95 (by decide) ?_
  exact hk10 _ _ _ _ _ _ _ _ _  h hw (lv_sub hl [1, 2, 3, 4, 5, 0] rfl)
set_option maxHeartbeats 4000000 in
set_option maxRecDepth 100000 in
theorem t_X6_takeOffLoudest_37 {p : Program} {l : Launch} {e : Env} {s : State} {m : MethodId} {args : Array Value} {below : List Frame} {meth : Method} {c : Code} {Q : State → Prop} {D : va_G} {I : ch_Id} {sh : Nat → Nat} {A : Nat → Prop} {oo : Int32 × ch_Mem}    {k10 : Int32 → Int32 → Int32 → Int32 → Int32 → ch_Mem → Option (Int32 × ch_Mem)} {k37 : Int32 → Int32 → Int32 → Int32 → Int32 → Int32 → ch_Mem → Option (Int32 × ch_Mem)} (S : CallFix p m c cX6_takeOffLoudest 8 s args wsX6_takeOffLoudest RX6) (fin : ch_FinZ p l e rm_X6_takeOffLoudest s m args below meth c cX6_takeOffLoudest Q D I 40 (ch_FC I sh) sh A oo) (hk10 : ∀ (x1 : Int32) (x2 : Int32) (x3 : Int32) (x4 : Int32) (x5 : Int32) (M : ch_Mem) (H : Heap) (locs : List Loc) (ls : Array Slot), k10 x1 x2 x3 x4 x5 M = some oo → ch_Wd D I 40 (ch_FC I sh) sh s A M H locs → lv_has ls 8 [(0, .ref (sh 0)), (1, .int x1), (2, .int x2), (3, .int x3), (4, .int x4), (5, .int x5)] → W p l e rm_X6_takeOffLoudest s m args below meth c H locs 0 0 Q (F0 m 10 ls [])) (hk37 : ∀ (x1 : Int32) (x2 : Int32) (x3 : Int32) (x4 : Int32) (x5 : Int32) (x6 : Int32) (M : ch_Mem) (H : Heap) (locs : List Loc) (ls : Array Slot), k37 x1 x2 x3 x4 x5 x6 M = some oo → ch_Wd D I 40 (ch_FC I sh) sh s A M H locs → lv_has ls 8 [(0, .ref (sh 0)), (1, .int x1), (2, .int x2), (3, .int x3), (4, .int x4), (5, .int x5), (6, .int x6)] → W p l e rm_X6_takeOffLoudest s m args below meth c H locs 0 0 Q (F0 m 37 ls [])) {x1 : Int32} {x2 : Int32} {x3 : Int32} {x4 : Int32} {x5 : Int32} {x6 : Int32}  {M : ch_Mem} {H : Heap} {locs : List Loc} {ls : Array Slot} (h : D_X6_takeOffLoudest_b37 k10 k37 x1 x2 x3 x4 x5 x6 M = some oo) (hw : ch_Wd D I 40 (ch_FC I sh) sh s A M H locs) (hl : lv_has ls 8 [(0, .ref (sh 0)), (1, .int x1), (2, .int x2), (3, .int x3), (4, .int x4), (5, .int x5), (6, .int x6)]) : W p l e rm_X6_takeOffLoudest s m args below meth c H locs 0 0 Q (F0 m 37 ls []) := by
  obtain ⟨hx, hb, hml, hown, hts⟩ := id S
  unfold D_X6_takeOffLoudest_b37 at h
  refine lv_iload hx hb dX6_takeOffLoudest_37 (lv_at hl 6 rfl) ?_
  refine lv_iload_n hx hb dX6_takeOffLoudest_39 rfl (lv_at hl 1 rfl) ?_
  refine ch_icmp_ge (tgt := 92) hx hb dX6_takeOffLoudest_40 (by decide) h (fun h => ?_) (fun h => ?_)
  · exact t_X6_takeOffLoudest_92 S fin hk10 h hw (lv_sub hl [0, 1, 2, 3, 4, 5] rfl)
  · refine lv_aload_n hx hb dX6_takeOffLoudest_43 rfl (lv_at hl 0 rfl) ?_
    refine ch_get S hw 0 (by decide) rfl rfl (by decide +kernel) 0 (by decide) (hts (.fieldLink RX6 11 "CodeHunt" "rows" "[LCodeHunt$Row;") (by decide +kernel)) rfl dX6_takeOffLoudest_44 ?_
    refine lv_iload hx hb dX6_takeOffLoudest_47 (lv_at hl 5 rfl) ?_
    refine ch_gd_k h (fun hin h => ?_)
    have hlt1 := ch_in_lt hin
    refine ch_rows S hw hin dX6_takeOffLoudest_49 ?_
    refine lv_aload_n hx hb dX6_takeOffLoudest_50 rfl (lv_at hl 0 rfl) ?_
    refine ch_get S hw 0 (by decide) rfl rfl (by decide +kernel) 2 (by decide) (hts (.fieldLink RX6 24 "CodeHunt" "window" "LCodeHunt$Window;") (by decide +kernel)) rfl dX6_takeOffLoudest_51 ?_
    refine ch_getN S hw 3 (by decide) rfl rfl (by decide +kernel) 0 (by decide) (ch_nw hw 0 rfl) rfl dX6_takeOffLoudest_54 ?_
    refine lv_iload hx hb dX6_takeOffLoudest_57 (lv_at hl 6 rfl) ?_
    refine ch_bd_k h (fun r2 M3 hc h => ?_)
    refine ch_ci hw (va_runV (As := [.ref (sh 31), .int x6]) (rest := []) S (c_X3_sumOver l D I sh H.size M (7 + x5.toNatClampNeg) (by omega) 31 (by unfold ch_arr; omega) x6 hc) (cwV 2 hts gX6_takeOffLoudest_X3_sumOver rfl rfl rfl (by decide +kernel) ⟨Nat.le_of_ble_eq_true rfl, Nat.le_of_ble_eq_true rfl⟩) (ch_pV hw (by omega) (ch_FC_row (by omega)) rfl rfl) rfl rfl hl.1 rfl (lv_room (Nat.le_of_ble_eq_true rfl)) dX6_takeOffLoudest_59 ⟨Nat.le_refl 0, Nat.le_refl 0⟩) (fun H locs hw => ?_)
    refine lv_istore (lv' := [(7, .int r2), (0, .ref (sh 0)), (1, .int x1), (2, .int x2), (3, .int x3), (4, .int x4), (5, .int x5), (6, .int x6)]) hx hb dX6_takeOffLoudest_62 hl (by decide) rfl (fun ls hl => ?_)
    refine lv_iload hx hb dX6_takeOffLoudest_64 (lv_at hl 0 rfl) ?_
    refine va_mabs hx hb (S.2.2.1.trans hl.1.symm) hown (hts (.methodLink RX6 127 Lib.Math.abs.name) (by decide +kernel)) (hts (.static Lib.Math.abs.name) (by decide +kernel)) (hts (.initialized "java/lang/Math") (by decide +kernel)) (hts (.code Lib.Math.abs.name Lib.Math.abs.code 1 (some .int)) (by decide +kernel)) (Nat.le_of_ble_eq_true rfl) (Nat.le_of_ble_eq_true rfl) (Nat.le_refl 0) (Nat.le_refl 0) dX6_takeOffLoudest_66 ?_
    refine lv_iload_n hx hb dX6_takeOffLoudest_69 rfl (lv_at hl 3 rfl) ?_
    refine va_mabs hx hb (S.2.2.1.trans hl.1.symm) hown (hts (.methodLink RX6 127 Lib.Math.abs.name) (by decide +kernel)) (hts (.static Lib.Math.abs.name) (by decide +kernel)) (hts (.initialized "java/lang/Math") (by decide +kernel)) (hts (.code Lib.Math.abs.name Lib.Math.abs.code 1 (some .int)) (by decide +kernel)) (Nat.le_of_ble_eq_true rfl) (Nat.le_of_ble_eq_true rfl) (Nat.le_refl 0) (Nat.le_refl 0) dX6_takeOffLoudest_70 ?_
    refine ch_icmp_le (tgt := 86) hx hb dX6_takeOffLoudest_73 (by decide) h (fun h => ?_) (fun h => ?_)
    · exact t_X6_takeOffLoudest_86 S fin hk10 hk37 h hw (lv_sub hl [1, 2, 3, 4, 5, 6, 7] rfl)
    · refine lv_iload hx hb dX6_takeOffLoudest_76 (lv_at hl 0 rfl) ?_
      refine lv_istore_n (lv' := [(2, .int r2), (7, .int r2), (0, .ref (sh 0)), (1, .int x1), (3, .int x3), (4, .int x4), (5, .int x5), (6, .int x6)]) hx hb dX6_takeOffLoudest_78 rfl hl (by decide) rfl (fun ls hl => ?_)
      refine lv_iload hx hb dX6_takeOffLoudest_79 (lv_at hl 6 rfl) ?_
      refine lv_istore_n (lv' := [(3, .int x5), (2, .int r2), (7, .int r2), (0, .ref (sh 0)), (1, .int x1), (4, .int x4), (5, .int x5), (6, .int x6)]) hx hb dX6_takeOffLoudest_81 rfl hl (by decide) rfl (fun ls hl => ?_)
      refine lv_iload hx hb dX6_takeOffLoudest_82 (lv_at hl 7 rfl) ?_
      refine lv_istore (lv' := [(4, .int x6), (3, .int x5), (2, .int r2), (7, .int r2), (0, .ref (sh 0)), (1, .int x1), (5, .int x5), (6, .int x6)]) hx hb dX6_takeOffLoudest_84 hl (by decide) rfl (fun ls hl => ?_)
      exact t_X6_takeOffLoudest_86 S fin hk10 hk37 h hw (lv_sub hl [4, 5, 2, 1, 0, 6, 7] rfl)
set_option maxHeartbeats 4000000 in
set_option maxRecDepth 100000 in
theorem tl_X6_takeOffLoudest_37 {p : Program} {l : Launch} {e : Env} {s : State} {m : MethodId} {args : Array Value} {below : List Frame} {meth : Method} {c : Code} {Q : State → Prop} {D : va_G} {I : ch_Id} {sh : Nat → Nat} {A : Nat → Prop} {oo : Int32 × ch_Mem}    {k10 : Int32 → Int32 → Int32 → Int32 → Int32 → ch_Mem → Option (Int32 × ch_Mem)} (S : CallFix p m c cX6_takeOffLoudest 8 s args wsX6_takeOffLoudest RX6) (fin : ch_FinZ p l e rm_X6_takeOffLoudest s m args below meth c cX6_takeOffLoudest Q D I 40 (ch_FC I sh) sh A oo) (hk10 : ∀ (x1 : Int32) (x2 : Int32) (x3 : Int32) (x4 : Int32) (x5 : Int32) (M : ch_Mem) (H : Heap) (locs : List Loc) (ls : Array Slot), k10 x1 x2 x3 x4 x5 M = some oo → ch_Wd D I 40 (ch_FC I sh) sh s A M H locs → lv_has ls 8 [(0, .ref (sh 0)), (1, .int x1), (2, .int x2), (3, .int x3), (4, .int x4), (5, .int x5)] → W p l e rm_X6_takeOffLoudest s m args below meth c H locs 0 0 Q (F0 m 10 ls [])) (n : Nat) : ∀ (x1 : Int32) (x2 : Int32) (x3 : Int32) (x4 : Int32) (x5 : Int32) (x6 : Int32) (M : ch_Mem) (H : Heap) (locs : List Loc) (ls : Array Slot), D_X6_takeOffLoudest_L37 k10 n x1 x2 x3 x4 x5 x6 M = some oo → ch_Wd D I 40 (ch_FC I sh) sh s A M H locs → lv_has ls 8 [(0, .ref (sh 0)), (1, .int x1), (2, .int x2), (3, .int x3), (4, .int x4), (5, .int x5), (6, .int x6)] → W p l e rm_X6_takeOffLoudest s m args below meth c H locs 0 0 Q (F0 m 37 ls []) := by
  induction n with
  | zero => intro x1 x2 x3 x4 x5 x6 M H locs ls  h; cases h
  | succ n ih =>
    intro x1 x2 x3 x4 x5 x6 M H locs ls  h hw hl
    exact t_X6_takeOffLoudest_37 S fin hk10 ih h hw hl
set_option maxHeartbeats 4000000 in
set_option maxRecDepth 100000 in
theorem t_X6_takeOffLoudest_98 {p : Program} {l : Launch} {e : Env} {s : State} {m : MethodId} {args : Array Value} {below : List Frame} {meth : Method} {c : Code} {Q : State → Prop} {D : va_G} {I : ch_Id} {sh : Nat → Nat} {A : Nat → Prop} {oo : Int32 × ch_Mem}     (S : CallFix p m c cX6_takeOffLoudest 8 s args wsX6_takeOffLoudest RX6) (fin : ch_FinZ p l e rm_X6_takeOffLoudest s m args below meth c cX6_takeOffLoudest Q D I 40 (ch_FC I sh) sh A oo)  {x1 : Int32} {x2 : Int32} {x3 : Int32} {x4 : Int32}  {M : ch_Mem} {H : Heap} {locs : List Loc} {ls : Array Slot} (h : D_X6_takeOffLoudest_b98 x1 x2 x3 x4 M = some oo) (hw : ch_Wd D I 40 (ch_FC I sh) sh s A M H locs) (hl : lv_has ls 8 [(0, .ref (sh 0)), (1, .int x1), (2, .int x2), (3, .int x3), (4, .int x4)]) : W p l e rm_X6_takeOffLoudest s m args below meth c H locs 0 0 Q (F0 m 98 ls []) := by
  obtain ⟨hx, hb, hml, hown, hts⟩ := id S
  unfold D_X6_takeOffLoudest_b98 at h
  refine lv_iload_n hx hb dX6_takeOffLoudest_98 rfl (lv_at hl 2 rfl) ?_
  refine lv_iload_n hx hb dX6_takeOffLoudest_99 rfl (lv_at hl 1 rfl) ?_
  refine ch_bd_k h (fun r1 M2 hc h => ?_)
  refine ch_ci hw (va_runS (As := [.int x2, .int x1]) (rest := []) S (c_X6_roundedRatio l D I sh H.size M x2 x1 hc) (va_cwS 2 hts gX6_takeOffLoudest_X6_roundedRatio rfl rfl rfl (by decide +kernel) ⟨Nat.le_of_ble_eq_true rfl, Nat.le_of_ble_eq_true rfl⟩) (ch_pS hw) rfl rfl hl.1 rfl (lv_room (Nat.le_of_ble_eq_true rfl)) dX6_takeOffLoudest_100 ⟨Nat.le_refl 0, Nat.le_refl 0⟩) (fun H locs hw => ?_)
  refine lv_istore (lv' := [(5, .int r1), (0, .ref (sh 0)), (1, .int x1), (2, .int x2), (3, .int x3), (4, .int x4)]) hx hb dX6_takeOffLoudest_103 hl (by decide) rfl (fun ls hl => ?_)
  refine lv_iload hx hb dX6_takeOffLoudest_105 (lv_at hl 0 rfl) ?_
  refine ch_if_ne (tgt := 112) hx hb dX6_takeOffLoudest_107 (by decide) h (fun h => ?_) (fun h => ?_)
  · refine lv_aload_n hx hb dX6_takeOffLoudest_112 rfl (lv_at hl 1 rfl) ?_
    refine ch_get S hw 0 (by decide) rfl rfl (by decide +kernel) 0 (by decide) (hts (.fieldLink RX6 11 "CodeHunt" "rows" "[LCodeHunt$Row;") (by decide +kernel)) rfl dX6_takeOffLoudest_113 ?_
    refine lv_iload_n hx hb dX6_takeOffLoudest_116 rfl (lv_at hl 4 rfl) ?_
    refine ch_gd_k h (fun hin h => ?_)
    have hlt3 := ch_in_lt hin
    refine ch_rows S hw hin dX6_takeOffLoudest_117 ?_
    refine lv_aload_n hx hb dX6_takeOffLoudest_118 rfl (lv_at hl 1 rfl) ?_
    refine ch_get S hw 0 (by decide) rfl rfl (by decide +kernel) 2 (by decide) (hts (.fieldLink RX6 24 "CodeHunt" "window" "LCodeHunt$Window;") (by decide +kernel)) rfl dX6_takeOffLoudest_119 ?_
    refine ch_getN S hw 3 (by decide) rfl rfl (by decide +kernel) 0 (by decide) (ch_nw hw 0 rfl) rfl dX6_takeOffLoudest_122 ?_
    refine lv_iload hx hb dX6_takeOffLoudest_125 (lv_at hl 5 rfl) ?_
    refine lv_iload hx hb dX6_takeOffLoudest_127 (lv_at hl 0 rfl) ?_
    refine ch_bd_k h (fun r4 M5 hc h => ?_)
    cases r4
    refine ch_cv hw (va_runV (As := [.ref (sh 31), .int x4, .int r1]) (rest := []) S (c_X3_takeOff l D I sh H.size M2 (7 + x3.toNatClampNeg) (by omega) 31 (by unfold ch_arr; omega) x4 r1 hc) (cwV 3 hts gX6_takeOffLoudest_X3_takeOff rfl rfl rfl (by decide +kernel) ⟨Nat.le_of_ble_eq_true rfl, Nat.le_of_ble_eq_true rfl⟩) (ch_pV hw (by omega) (ch_FC_row (by omega)) rfl rfl) rfl rfl hl.1 rfl (lv_room (Nat.le_of_ble_eq_true rfl)) dX6_takeOffLoudest_129 ⟨Nat.le_refl 0, Nat.le_refl 0⟩) (fun H locs hw => ?_)
    refine lv_aload_n hx hb dX6_takeOffLoudest_132 rfl (lv_at hl 1 rfl) ?_
    refine ch_get S hw 0 (by decide) rfl rfl (by decide +kernel) 4 (by decide) (hts (.fieldLink RX6 38 "CodeHunt" "peeling" "LCodeHunt$Peeling;") (by decide +kernel)) rfl dX6_takeOffLoudest_133 ?_
    refine lv_iload_n hx hb dX6_takeOffLoudest_136 rfl (lv_at hl 4 rfl) ?_
    refine lv_iload hx hb dX6_takeOffLoudest_137 (lv_at hl 5 rfl) ?_
    refine lv_iload hx hb dX6_takeOffLoudest_139 (lv_at hl 0 rfl) ?_
    refine ch_bd_k h (fun r6 M7 hc h => ?_)
    cases r6
    refine ch_cv hw (va_runV (As := [.int x3, .int x4, .int r1]) (rest := []) S (c_X1_keep l D I sh H.size M5 x3 x4 r1 hc) (cwV 3 hts gX6_takeOffLoudest_X1_keep rfl rfl rfl (by decide +kernel) ⟨Nat.le_of_ble_eq_true rfl, Nat.le_of_ble_eq_true rfl⟩) (ch_pV hw (by decide) rfl rfl rfl) rfl rfl hl.1 rfl (lv_room (Nat.le_of_ble_eq_true rfl)) dX6_takeOffLoudest_141 ⟨Nat.le_refl 0, Nat.le_refl 0⟩) (fun H locs hw => ?_)
    refine lv_iconst (v := (1 : Int32)) hx hb dX6_takeOffLoudest_144 (by decide) ?_
    exact fin _ _ _ _ _ _ rfl h hw dX6_takeOffLoudest_145
  · refine lv_iconst (v := (0 : Int32)) hx hb dX6_takeOffLoudest_110 (by decide) ?_
    exact fin _ _ _ _ _ _ rfl h hw dX6_takeOffLoudest_111
set_option maxHeartbeats 4000000 in
set_option maxRecDepth 100000 in
theorem t_X6_takeOffLoudest_10 {p : Program} {l : Launch} {e : Env} {s : State} {m : MethodId} {args : Array Value} {below : List Frame} {meth : Method} {c : Code} {Q : State → Prop} {D : va_G} {I : ch_Id} {sh : Nat → Nat} {A : Nat → Prop} {oo : Int32 × ch_Mem}    {k10 : Int32 → Int32 → Int32 → Int32 → Int32 → ch_Mem → Option (Int32 × ch_Mem)} (S : CallFix p m c cX6_takeOffLoudest 8 s args wsX6_takeOffLoudest RX6) (fin : ch_FinZ p l e rm_X6_takeOffLoudest s m args below meth c cX6_takeOffLoudest Q D I 40 (ch_FC I sh) sh A oo) (hk10 : ∀ (x1 : Int32) (x2 : Int32) (x3 : Int32) (x4 : Int32) (x5 : Int32) (M : ch_Mem) (H : Heap) (locs : List Loc) (ls : Array Slot), k10 x1 x2 x3 x4 x5 M = some oo → ch_Wd D I 40 (ch_FC I sh) sh s A M H locs → lv_has ls 8 [(0, .ref (sh 0)), (1, .int x1), (2, .int x2), (3, .int x3), (4, .int x4), (5, .int x5)] → W p l e rm_X6_takeOffLoudest s m args below meth c H locs 0 0 Q (F0 m 10 ls [])) {x1 : Int32} {x2 : Int32} {x3 : Int32} {x4 : Int32} {x5 : Int32}  {M : ch_Mem} {H : Heap} {locs : List Loc} {ls : Array Slot} (h : D_X6_takeOffLoudest_b10 k10 x1 x2 x3 x4 x5 M = some oo) (hw : ch_Wd D I 40 (ch_FC I sh) sh s A M H locs) (hl : lv_has ls 8 [(0, .ref (sh 0)), (1, .int x1), (2, .int x2), (3, .int x3), (4, .int x4), (5, .int x5)]) : W p l e rm_X6_takeOffLoudest s m args below meth c H locs 0 0 Q (F0 m 10 ls []) := by
  obtain ⟨hx, hb, hml, hown, hts⟩ := id S
  unfold D_X6_takeOffLoudest_b10 at h
  refine lv_iload hx hb dX6_takeOffLoudest_10 (lv_at hl 5 rfl) ?_
  refine lv_bipush (v := (8 : Int32)) hx hb dX6_takeOffLoudest_12 (by decide) ?_
  refine ch_icmp_ge (tgt := 98) hx hb dX6_takeOffLoudest_14 (by decide) h (fun h => ?_) (fun h => ?_)
  · exact t_X6_takeOffLoudest_98 S fin h hw (lv_sub hl [0, 1, 2, 3, 4] rfl)
  · refine lv_aload_n hx hb dX6_takeOffLoudest_17 rfl (lv_at hl 0 rfl) ?_
    refine ch_get S hw 0 (by decide) rfl rfl (by decide +kernel) 0 (by decide) (hts (.fieldLink RX6 11 "CodeHunt" "rows" "[LCodeHunt$Row;") (by decide +kernel)) rfl dX6_takeOffLoudest_18 ?_
    refine lv_iload hx hb dX6_takeOffLoudest_21 (lv_at hl 5 rfl) ?_
    refine ch_gd_k h (fun hin h => ?_)
    have hlt1 := ch_in_lt hin
    refine ch_rows S hw hin dX6_takeOffLoudest_23 ?_
    refine ch_getN S hw (7 + x5.toNatClampNeg) (by omega) (ch_FC_row (by omega)) rfl (by decide +kernel) 1 (by decide) (ch_nw hw 16 rfl) rfl dX6_takeOffLoudest_24 ?_
    refine lv_iload_n hx hb dX6_takeOffLoudest_27 rfl (lv_at hl 1 rfl) ?_
    refine ch_icmp_eq (tgt := 34) hx hb dX6_takeOffLoudest_28 (by decide) h (fun h => ?_) (fun h => ?_)
    · refine lv_iconst (v := (0 : Int32)) hx hb dX6_takeOffLoudest_34 (by decide) ?_
      refine lv_istore (lv' := [(6, .int (0 : Int32)), (0, .ref (sh 0)), (1, .int x1), (2, .int x2), (3, .int x3), (4, .int x4), (5, .int x5)]) hx hb dX6_takeOffLoudest_35 hl (by decide) rfl (fun ls hl => ?_)
      exact tl_X6_takeOffLoudest_37 S fin hk10 ch_fu _ _ _ _ _ _ _ _ _ _ h hw (lv_sub hl [1, 2, 3, 4, 5, 6, 0] rfl)
    · refine lv_goto (tgt := 92) hx hb dX6_takeOffLoudest_31 (by decide) ?_
      exact t_X6_takeOffLoudest_92 S fin hk10 h hw (lv_sub hl [0, 1, 2, 3, 4, 5] rfl)
set_option maxHeartbeats 4000000 in
set_option maxRecDepth 100000 in
theorem tl_X6_takeOffLoudest_10 {p : Program} {l : Launch} {e : Env} {s : State} {m : MethodId} {args : Array Value} {below : List Frame} {meth : Method} {c : Code} {Q : State → Prop} {D : va_G} {I : ch_Id} {sh : Nat → Nat} {A : Nat → Prop} {oo : Int32 × ch_Mem}     (S : CallFix p m c cX6_takeOffLoudest 8 s args wsX6_takeOffLoudest RX6) (fin : ch_FinZ p l e rm_X6_takeOffLoudest s m args below meth c cX6_takeOffLoudest Q D I 40 (ch_FC I sh) sh A oo)  (n : Nat) : ∀ (x1 : Int32) (x2 : Int32) (x3 : Int32) (x4 : Int32) (x5 : Int32) (M : ch_Mem) (H : Heap) (locs : List Loc) (ls : Array Slot), D_X6_takeOffLoudest_L10  n x1 x2 x3 x4 x5 M = some oo → ch_Wd D I 40 (ch_FC I sh) sh s A M H locs → lv_has ls 8 [(0, .ref (sh 0)), (1, .int x1), (2, .int x2), (3, .int x3), (4, .int x4), (5, .int x5)] → W p l e rm_X6_takeOffLoudest s m args below meth c H locs 0 0 Q (F0 m 10 ls []) := by
  induction n with
  | zero => intro x1 x2 x3 x4 x5 M H locs ls  h; cases h
  | succ n ih =>
    intro x1 x2 x3 x4 x5 M H locs ls  h hw hl
    exact t_X6_takeOffLoudest_10 S fin ih h hw hl
set_option maxHeartbeats 4000000 in
set_option maxRecDepth 100000 in
theorem t_X6_takeOffLoudest_0 {p : Program} {l : Launch} {e : Env} {s : State} {m : MethodId} {args : Array Value} {below : List Frame} {meth : Method} {c : Code} {Q : State → Prop} {D : va_G} {I : ch_Id} {sh : Nat → Nat} {A : Nat → Prop} {oo : Int32 × ch_Mem}     (S : CallFix p m c cX6_takeOffLoudest 8 s args wsX6_takeOffLoudest RX6) (fin : ch_FinZ p l e rm_X6_takeOffLoudest s m args below meth c cX6_takeOffLoudest Q D I 40 (ch_FC I sh) sh A oo)  {x1 : Int32}  {M : ch_Mem} {H : Heap} {locs : List Loc} {ls : Array Slot} (h : D_X6_takeOffLoudest x1 M = some oo) (hw : ch_Wd D I 40 (ch_FC I sh) sh s A M H locs) (hl : lv_has ls 8 [(0, .ref (sh 0)), (1, .int x1)]) : W p l e rm_X6_takeOffLoudest s m args below meth c H locs 0 0 Q (F0 m 0 ls []) := by
  obtain ⟨hx, hb, hml, hown, hts⟩ := id S
  unfold D_X6_takeOffLoudest at h
  refine lv_iconst (v := (0 : Int32)) hx hb dX6_takeOffLoudest_0 (by decide) ?_
  refine lv_istore_n (lv' := [(2, .int (0 : Int32)), (0, .ref (sh 0)), (1, .int x1)]) hx hb dX6_takeOffLoudest_1 rfl hl (by decide) rfl (fun ls hl => ?_)
  refine lv_iconst (v := (0 : Int32)) hx hb dX6_takeOffLoudest_2 (by decide) ?_
  refine lv_istore_n (lv' := [(3, .int (0 : Int32)), (2, .int (0 : Int32)), (0, .ref (sh 0)), (1, .int x1)]) hx hb dX6_takeOffLoudest_3 rfl hl (by decide) rfl (fun ls hl => ?_)
  refine lv_iconst (v := (0 : Int32)) hx hb dX6_takeOffLoudest_4 (by decide) ?_
  refine lv_istore (lv' := [(4, .int (0 : Int32)), (3, .int (0 : Int32)), (2, .int (0 : Int32)), (0, .ref (sh 0)), (1, .int x1)]) hx hb dX6_takeOffLoudest_5 hl (by decide) rfl (fun ls hl => ?_)
  refine lv_iconst (v := (0 : Int32)) hx hb dX6_takeOffLoudest_7 (by decide) ?_
  refine lv_istore (lv' := [(5, .int (0 : Int32)), (4, .int (0 : Int32)), (3, .int (0 : Int32)), (2, .int (0 : Int32)), (0, .ref (sh 0)), (1, .int x1)]) hx hb dX6_takeOffLoudest_8 hl (by decide) rfl (fun ls hl => ?_)
  exact tl_X6_takeOffLoudest_10 S fin ch_fu _ _ _ _ _ _ _ _ _ h hw (lv_sub hl [4, 5, 3, 2, 1, 0] rfl)
set_option maxHeartbeats 4000000 in
set_option maxRecDepth 100000 in
theorem c_X6_takeOffLoudest (l : Launch) (D : va_G) (I : ch_Id) (sh : Nat → Nat) (sz : Nat) (M : ch_Mem)  (x1 : Int32) {r : Int32} {M1 : ch_Mem} (h : D_X6_takeOffLoudest x1 M = some (r, M1)) : Met l yX6_takeOffLoudest wsX6_takeOffLoudest rm_X6_takeOffLoudest (va_Pc [.ref (sh 0), .int x1] (ch_Pre D I 40 (ch_FC I sh) sh sz M)) (va_Qi (fun r' (u : ch_Mem) => r' = r ∧ u = M1) (ch_Pos D 40 (ch_FC I sh) sh) (ch_A 40 sh sz)) 0 0 (ch_A 40 sh sz) := by
  refine Met.ofW (cc := cX6_takeOffLoudest) (maxL := 8) (ret := (some .boolean)) (by decide) rfl ?_
  intro p e s m args below meth c s₁ B hml hv0
  obtain ⟨rfl, hv0⟩ := hv0
  obtain rfl : s.heap.size = sz := hv0.1
  have hw := ch_start hv0
  have S : CallFix p m c cX6_takeOffLoudest 8 s _ wsX6_takeOffLoudest RX6 := ⟨B.exec, B.bytes, hml, findClass_of_methodNamed B.named, atoms_spec (ws := wsX6_takeOffLoudest) B.pre⟩
  have hl := lv_entry ([.ref (sh 0), .int x1]) (n := 8) (Nat.le_of_ble_eq_true rfl)
  rw [lg_entry_eq]
  generalize (lg_sl ([.ref (sh 0), .int x1]) ++ List.replicate (8 - (lg_sl ([.ref (sh 0), .int x1])).length) Slot.unset).toArray = ls at hl ⊢
  exact t_X6_takeOffLoudest_0 S (ch_finZ B.exec B.bytes B.returns B.notSynchronized) h hw (lv_sub hl [0, 1] rfl)
