set_option maxHeartbeats 4000000 in
set_option maxRecDepth 100000 in
theorem t_X3_mixedInto_41 {p : Program} {l : Launch} {e : Env} {s : State} {m : MethodId} {args : Array Value} {below : List Frame} {meth : Method} {c : Code} {Q : State → Prop} {D : va_G} {I : ch_Id} {sh : Nat → Nat} {A : Nat → Prop} {oo : Int64 × ch_Mem} {o : Nat} (ho : 7 ≤ o ∧ o < 15)   (S : CallFix p m c cX3_mixedInto 6 s args wsX3_mixedInto RX3) (fin : ch_FinL p l e rm_X3_mixedInto s m args below meth c cX3_mixedInto Q D I 40 (ch_FC I sh) sh A oo)  {x3 : Int64}  {M : ch_Mem} {H : Heap} {locs : List Loc} {ls : Array Slot} (h : D_X3_mixedInto_b41 o x3 M = some oo) (hw : ch_Wd D I 40 (ch_FC I sh) sh s A M H locs) (hl : lv_has ls 6 [(3, .long x3)]) : W p l e rm_X3_mixedInto s m args below meth c H locs 0 0 Q (F0 m 41 ls []) := by
  obtain ⟨hx, hb, hml, hown, hts⟩ := id S
  unfold D_X3_mixedInto_b41 at h
  refine lv_lload_n hx hb dX3_mixedInto_41 rfl (lv_at hl 0 rfl) ?_
  exact fin _ _ _ _ _ _ h hw dX3_mixedInto_42
set_option maxHeartbeats 4000000 in
set_option maxRecDepth 100000 in
theorem t_X3_mixedInto_13 {p : Program} {l : Launch} {e : Env} {s : State} {m : MethodId} {args : Array Value} {below : List Frame} {meth : Method} {c : Code} {Q : State → Prop} {D : va_G} {I : ch_Id} {sh : Nat → Nat} {A : Nat → Prop} {oo : Int64 × ch_Mem} {o : Nat} (ho : 7 ≤ o ∧ o < 15)  {k13 : Int64 → Int32 → ch_Mem → Option (Int64 × ch_Mem)} (S : CallFix p m c cX3_mixedInto 6 s args wsX3_mixedInto RX3) (fin : ch_FinL p l e rm_X3_mixedInto s m args below meth c cX3_mixedInto Q D I 40 (ch_FC I sh) sh A oo) (hk13 : ∀ (x3 : Int64) (x5 : Int32) (M : ch_Mem) (H : Heap) (locs : List Loc) (ls : Array Slot), k13 x3 x5 M = some oo → ch_Wd D I 40 (ch_FC I sh) sh s A M H locs → lv_has ls 6 [(0, .ref (sh o)), (3, .long x3), (5, .int x5)] → W p l e rm_X3_mixedInto s m args below meth c H locs 0 0 Q (F0 m 13 ls [])) {x3 : Int64} {x5 : Int32}  {M : ch_Mem} {H : Heap} {locs : List Loc} {ls : Array Slot} (h : D_X3_mixedInto_b13 o k13 x3 x5 M = some oo) (hw : ch_Wd D I 40 (ch_FC I sh) sh s A M H locs) (hl : lv_has ls 6 [(0, .ref (sh o)), (3, .long x3), (5, .int x5)]) : W p l e rm_X3_mixedInto s m args below meth c H locs 0 0 Q (F0 m 13 ls []) := by
  obtain ⟨hx, hb, hml, hown, hts⟩ := id S
  unfold D_X3_mixedInto_b13 at h
  refine lv_iload hx hb dX3_mixedInto_13 (lv_at hl 2 rfl) ?_
  refine lv_aload_n hx hb dX3_mixedInto_15 rfl (lv_at hl 0 rfl) ?_
  refine ch_get S hw o (by omega) (ch_FC_row (by omega)) rfl (by decide +kernel) 1 (by decide) (hts (.fieldLink RX3 15 "CodeHunt$Row" "size" "I") (by decide +kernel)) rfl dX3_mixedInto_16 ?_
  refine ch_icmp_ge (tgt := 41) hx hb dX3_mixedInto_19 (by decide) h (fun h => ?_) (fun h => ?_)
  · exact t_X3_mixedInto_41 ho S fin h hw (lv_sub hl [1] rfl)
  · refine lv_lload_n hx hb dX3_mixedInto_22 rfl (lv_at hl 1 rfl) ?_
    refine lv_aload_n hx hb dX3_mixedInto_23 rfl (lv_at hl 0 rfl) ?_
    refine ch_get S hw o (by omega) (ch_FC_row (by omega)) rfl (by decide +kernel) 0 (by decide) (hts (.fieldLink RX3 9 "CodeHunt$Row" "signs" "[I") (by decide +kernel)) rfl dX3_mixedInto_24 ?_
    refine lv_iload hx hb dX3_mixedInto_27 (lv_at hl 2 rfl) ?_
    refine ch_gd_k h (fun hin h => ?_)
    refine ch_iald S hw (o + 8) (by omega) (ch_FC_sgn (by omega) _) hin dX3_mixedInto_29 ?_
    refine lv_i2l hx hb dX3_mixedInto_30 rfl ?_
    refine ch_bd_k h (fun r1 M2 hc h => ?_)
    refine ch_cl hw (va_runSN (As := [.long x3, .long ((M.1 (o + 8) x5.toNatClampNeg).toInt64)]) (rest := []) S (c_X6_mixed l D I sh H.size M x3 ((M.1 (o + 8) x5.toNatClampNeg).toInt64) hc) ⟨va_cnB 2 hts gX3_mixedInto_X6_mixed_n36 rfl rfl rfl (ch_nwN hw 28 rfl) (hts (.initialized RX6) (by decide +kernel)) (by decide +kernel) ⟨Nat.le_of_ble_eq_true rfl, Nat.le_of_ble_eq_true rfl⟩, hts (.static yX6_mixed) (by decide +kernel), trivial⟩ (ch_pS hw) rfl rfl hl.1 rfl (lv_room (Nat.le_of_ble_eq_true rfl)) dX3_mixedInto_31 ⟨Nat.le_refl 0, Nat.le_refl 0⟩) (fun H locs hw => ?_)
    refine lv_lstore_n (lv' := [(3, .long r1), (0, .ref (sh o)), (5, .int x5)]) hx hb dX3_mixedInto_34 rfl hl (by decide) rfl (fun ls hl => ?_)
    refine lv_iinc (v := x5 + (1 : Int32)) (lv' := [(5, .int (x5 + (1 : Int32))), (3, .long r1), (0, .ref (sh o))]) hx hb dX3_mixedInto_35 hl (k := 2) rfl rfl (by decide) rfl (fun ls hl => ?_)
    refine lv_goto (tgt := 13) hx hb dX3_mixedInto_38 (by decide) ?_
    exact hk13 _ _ _ _ _ _  h hw (lv_sub hl [2, 1, 0] rfl)
set_option maxHeartbeats 4000000 in
set_option maxRecDepth 100000 in
theorem tl_X3_mixedInto_13 {p : Program} {l : Launch} {e : Env} {s : State} {m : MethodId} {args : Array Value} {below : List Frame} {meth : Method} {c : Code} {Q : State → Prop} {D : va_G} {I : ch_Id} {sh : Nat → Nat} {A : Nat → Prop} {oo : Int64 × ch_Mem} {o : Nat} (ho : 7 ≤ o ∧ o < 15)   (S : CallFix p m c cX3_mixedInto 6 s args wsX3_mixedInto RX3) (fin : ch_FinL p l e rm_X3_mixedInto s m args below meth c cX3_mixedInto Q D I 40 (ch_FC I sh) sh A oo)  (n : Nat) : ∀ (x3 : Int64) (x5 : Int32) (M : ch_Mem) (H : Heap) (locs : List Loc) (ls : Array Slot), D_X3_mixedInto_L13 o n x3 x5 M = some oo → ch_Wd D I 40 (ch_FC I sh) sh s A M H locs → lv_has ls 6 [(0, .ref (sh o)), (3, .long x3), (5, .int x5)] → W p l e rm_X3_mixedInto s m args below meth c H locs 0 0 Q (F0 m 13 ls []) := by
  induction n with
  | zero => intro x3 x5 M H locs ls  h; cases h
  | succ n ih =>
    intro x3 x5 M H locs ls  h hw hl
    exact t_X3_mixedInto_13 ho S fin ih h hw hl
set_option maxHeartbeats 4000000 in
set_option maxRecDepth 100000 in
theorem t_X3_mixedInto_0 {p : Program} {l : Launch} {e : Env} {s : State} {m : MethodId} {args : Array Value} {below : List Frame} {meth : Method} {c : Code} {Q : State → Prop} {D : va_G} {I : ch_Id} {sh : Nat → Nat} {A : Nat → Prop} {oo : Int64 × ch_Mem} {o : Nat} (ho : 7 ≤ o ∧ o < 15)   (S : CallFix p m c cX3_mixedInto 6 s args wsX3_mixedInto RX3) (fin : ch_FinL p l e rm_X3_mixedInto s m args below meth c cX3_mixedInto Q D I 40 (ch_FC I sh) sh A oo)  {x1 : Int64}  {M : ch_Mem} {H : Heap} {locs : List Loc} {ls : Array Slot} (h : D_X3_mixedInto o x1 M = some oo) (hw : ch_Wd D I 40 (ch_FC I sh) sh s A M H locs) (hl : lv_has ls 6 [(0, .ref (sh o)), (1, .long x1)]) : W p l e rm_X3_mixedInto s m args below meth c H locs 0 0 Q (F0 m 0 ls []) := by
  obtain ⟨hx, hb, hml, hown, hts⟩ := id S
  unfold D_X3_mixedInto at h
  refine lv_lload_n hx hb dX3_mixedInto_0 rfl (lv_at hl 1 rfl) ?_
  refine lv_aload_n hx hb dX3_mixedInto_1 rfl (lv_at hl 0 rfl) ?_
  refine ch_get S hw o (by omega) (ch_FC_row (by omega)) rfl (by decide +kernel) 1 (by decide) (hts (.fieldLink RX3 15 "CodeHunt$Row" "size" "I") (by decide +kernel)) rfl dX3_mixedInto_2 ?_
  refine lv_i2l hx hb dX3_mixedInto_5 rfl ?_
  refine ch_bd_k h (fun r1 M2 hc h => ?_)
  refine ch_cl hw (va_runSN (As := [.long x1, .long ((M.1 o 1).toInt64)]) (rest := []) S (c_X6_mixed l D I sh H.size M x1 ((M.1 o 1).toInt64) hc) ⟨va_cnB 2 hts gX3_mixedInto_X6_mixed_n36 rfl rfl rfl (ch_nwN hw 28 rfl) (hts (.initialized RX6) (by decide +kernel)) (by decide +kernel) ⟨Nat.le_of_ble_eq_true rfl, Nat.le_of_ble_eq_true rfl⟩, hts (.static yX6_mixed) (by decide +kernel), trivial⟩ (ch_pS hw) rfl rfl hl.1 rfl (lv_room (Nat.le_of_ble_eq_true rfl)) dX3_mixedInto_6 ⟨Nat.le_refl 0, Nat.le_refl 0⟩) (fun H locs hw => ?_)
  refine lv_lstore_n (lv' := [(3, .long r1), (0, .ref (sh o)), (1, .long x1)]) hx hb dX3_mixedInto_9 rfl hl (by decide) rfl (fun ls hl => ?_)
  refine lv_iconst (v := (0 : Int32)) hx hb dX3_mixedInto_10 (by decide) ?_
  refine lv_istore (lv' := [(5, .int (0 : Int32)), (3, .long r1), (0, .ref (sh o)), (1, .long x1)]) hx hb dX3_mixedInto_11 hl (by decide) rfl (fun ls hl => ?_)
  exact tl_X3_mixedInto_13 ho S fin ch_fu _ _ _ _ _ _ h hw (lv_sub hl [2, 1, 0] rfl)
set_option maxHeartbeats 4000000 in
set_option maxRecDepth 100000 in
theorem c_X3_mixedInto (l : Launch) (D : va_G) (I : ch_Id) (sh : Nat → Nat) (sz : Nat) (M : ch_Mem) (o : Nat) (ho : 7 ≤ o ∧ o < 15) (x1 : Int64) {r : Int64} {M1 : ch_Mem} (h : D_X3_mixedInto o x1 M = some (r, M1)) : Met l yX3_mixedInto wsX3_mixedInto rm_X3_mixedInto (va_Pc [.ref (sh o), .long x1] (ch_Pre D I 40 (ch_FC I sh) sh sz M)) (va_Ql (fun r' (u : ch_Mem) => r' = r ∧ u = M1) (ch_Pos D 40 (ch_FC I sh) sh) (ch_A 40 sh sz)) 0 0 (ch_A 40 sh sz) := by
  refine Met.ofW (cc := cX3_mixedInto) (maxL := 6) (ret := (some .long)) (by decide) rfl ?_
  intro p e s m args below meth c s₁ B hml hv0
  obtain ⟨rfl, hv0⟩ := hv0
  obtain rfl : s.heap.size = sz := hv0.1
  have hw := ch_start hv0
  have S : CallFix p m c cX3_mixedInto 6 s _ wsX3_mixedInto RX3 := ⟨B.exec, B.bytes, hml, findClass_of_methodNamed B.named, atoms_spec (ws := wsX3_mixedInto) B.pre⟩
  have hl := lv_entry ([.ref (sh o), .long x1]) (n := 6) (Nat.le_of_ble_eq_true rfl)
  rw [lg_entry_eq]
  generalize (lg_sl ([.ref (sh o), .long x1]) ++ List.replicate (6 - (lg_sl ([.ref (sh o), .long x1])).length) Slot.unset).toArray = ls at hl ⊢
  exact t_X3_mixedInto_0 ho S (ch_finL B.exec B.bytes B.returns B.notSynchronized) h hw (lv_sub hl [0, 1] rfl)
set_option maxHeartbeats 4000000 in
set_option maxRecDepth 100000 in
theorem t_J9_floorMod_7cf53_18 {p : Program} {l : Launch} {e : Env} {s : State} {m : MethodId} {args : Array Value} {below : List Frame} {meth : Method} {c : Code} {Q : State → Prop} {D : va_G} {I : ch_Id} {sh : Nat → Nat} {A : Nat → Prop} {oo : Int32 × ch_Mem}     (S : CallFix p m c cJ9_floorMod_7cf53 3 s args wsJ9_floorMod_7cf53 RJ9) (fin : ch_FinI p l e rm_J9_floorMod_7cf53 s m args below meth c cJ9_floorMod_7cf53 Q D I 40 (ch_FC I sh) sh A oo)  {x2 : Int32}  {M : ch_Mem} {H : Heap} {locs : List Loc} {ls : Array Slot} (h : D_J9_floorMod_7cf53_b18 x2 M = some oo) (hw : ch_Wd D I 40 (ch_FC I sh) sh s A M H locs) (hl : lv_has ls 3 [(2, .int x2)]) : W p l e rm_J9_floorMod_7cf53 s m args below meth c H locs 0 0 Q (F0 m 18 ls []) := by
  obtain ⟨hx, hb, hml, hown, hts⟩ := id S
  unfold D_J9_floorMod_7cf53_b18 at h
  refine lv_iload_n hx hb dJ9_floorMod_7cf53_18 rfl (lv_at hl 0 rfl) ?_
  exact fin _ _ _ _ _ _ h hw dJ9_floorMod_7cf53_19
set_option maxHeartbeats 4000000 in
set_option maxRecDepth 100000 in
theorem t_J9_floorMod_7cf53_0 {p : Program} {l : Launch} {e : Env} {s : State} {m : MethodId} {args : Array Value} {below : List Frame} {meth : Method} {c : Code} {Q : State → Prop} {D : va_G} {I : ch_Id} {sh : Nat → Nat} {A : Nat → Prop} {oo : Int32 × ch_Mem}     (S : CallFix p m c cJ9_floorMod_7cf53 3 s args wsJ9_floorMod_7cf53 RJ9) (fin : ch_FinI p l e rm_J9_floorMod_7cf53 s m args below meth c cJ9_floorMod_7cf53 Q D I 40 (ch_FC I sh) sh A oo)  {x0 : Int32} {x1 : Int32}  {M : ch_Mem} {H : Heap} {locs : List Loc} {ls : Array Slot} (h : D_J9_floorMod_7cf53 x0 x1 M = some oo) (hw : ch_Wd D I 40 (ch_FC I sh) sh s A M H locs) (hl : lv_has ls 3 [(0, .int x0), (1, .int x1)]) : W p l e rm_J9_floorMod_7cf53 s m args below meth c H locs 0 0 Q (F0 m 0 ls []) := by
  obtain ⟨hx, hb, hml, hown, hts⟩ := id S
  unfold D_J9_floorMod_7cf53 at h
  refine lv_iload_n hx hb dJ9_floorMod_7cf53_0 rfl (lv_at hl 0 rfl) ?_
  refine lv_iload_n hx hb dJ9_floorMod_7cf53_1 rfl (lv_at hl 1 rfl) ?_
  refine ch_g0_k h (fun hne h => ?_)
  refine lv_irem hx hb dJ9_floorMod_7cf53_2 hne ?_
  refine lv_istore_n (lv' := [(2, .int (x0 - x0 / x1 * x1)), (0, .int x0), (1, .int x1)]) hx hb dJ9_floorMod_7cf53_3 rfl hl (by decide) rfl (fun ls hl => ?_)
  refine lv_iload_n hx hb dJ9_floorMod_7cf53_4 rfl (lv_at hl 1 rfl) ?_
  refine lv_iload_n hx hb dJ9_floorMod_7cf53_5 rfl (lv_at hl 2 rfl) ?_
  refine lv_ixor hx hb dJ9_floorMod_7cf53_6 ?_
  refine ch_if_ge (tgt := 18) hx hb dJ9_floorMod_7cf53_7 (by decide) h (fun h => ?_) (fun h => ?_)
  · exact t_J9_floorMod_7cf53_18 S fin h hw (lv_sub hl [0] rfl)
  · refine lv_iload_n hx hb dJ9_floorMod_7cf53_10 rfl (lv_at hl 0 rfl) ?_
    refine ch_if_eq (tgt := 18) hx hb dJ9_floorMod_7cf53_11 (by decide) h (fun h => ?_) (fun h => ?_)
    · exact t_J9_floorMod_7cf53_18 S fin h hw (lv_sub hl [0] rfl)
    · refine lv_iload_n hx hb dJ9_floorMod_7cf53_14 rfl (lv_at hl 0 rfl) ?_
      refine lv_iload_n hx hb dJ9_floorMod_7cf53_15 rfl (lv_at hl 2 rfl) ?_
      refine lv_iadd hx hb dJ9_floorMod_7cf53_16 ?_
      exact fin _ _ _ _ _ _ h hw dJ9_floorMod_7cf53_17
set_option maxHeartbeats 4000000 in
set_option maxRecDepth 100000 in
theorem c_J9_floorMod_7cf53 (l : Launch) (D : va_G) (I : ch_Id) (sh : Nat → Nat) (sz : Nat) (M : ch_Mem)  (x0 : Int32) (x1 : Int32) {r : Int32} {M1 : ch_Mem} (h : D_J9_floorMod_7cf53 x0 x1 M = some (r, M1)) : Met l yJ9_floorMod_7cf53 wsJ9_floorMod_7cf53 rm_J9_floorMod_7cf53 (va_Pc [.int x0, .int x1] (ch_Pre D I 40 (ch_FC I sh) sh sz M)) (va_Qi (fun r' (u : ch_Mem) => r' = r ∧ u = M1) (ch_Pos D 40 (ch_FC I sh) sh) (ch_A 40 sh sz)) 0 0 (ch_A 40 sh sz) := by
  refine va_MetF (cc := cJ9_floorMod_7cf53) (maxL := 3) (ret := (some .int)) (by decide +kernel) rfl ?_
  intro p e s m args below meth c s₁ B hml hv0
  obtain ⟨rfl, hv0⟩ := hv0
  obtain rfl : s.heap.size = sz := hv0.1
  have hw := ch_start hv0
  have S : CallFix p m c cJ9_floorMod_7cf53 3 s _ wsJ9_floorMod_7cf53 RJ9 := ⟨B.exec, B.bytes, hml, findClass_of_methodNamed B.named, atoms_spec (ws := wsJ9_floorMod_7cf53) B.pre⟩
  have hl := lv_entry ([.int x0, .int x1]) (n := 3) (Nat.le_of_ble_eq_true rfl)
  rw [lg_entry_eq]
  generalize (lg_sl ([.int x0, .int x1]) ++ List.replicate (3 - (lg_sl ([.int x0, .int x1])).length) Slot.unset).toArray = ls at hl ⊢
  exact t_J9_floorMod_7cf53_0 S (ch_finI (B := fun _ => True) B.exec B.bytes B.returns B.notSynchronized) h hw (lv_sub hl [0, 1] rfl)
set_option maxHeartbeats 4000000 in
set_option maxRecDepth 100000 in
theorem t_X3_signAt_0 {p : Program} {l : Launch} {e : Env} {s : State} {m : MethodId} {args : Array Value} {below : List Frame} {meth : Method} {c : Code} {Q : State → Prop} {D : va_G} {I : ch_Id} {sh : Nat → Nat} {A : Nat → Prop} {oo : Int32 × ch_Mem} {o : Nat} (ho : 7 ≤ o ∧ o < 15)   (S : CallFix p m c cX3_signAt 2 s args wsX3_signAt RX3) (fin : ch_FinI p l e rm_X3_signAt s m args below meth c cX3_signAt Q D I 40 (ch_FC I sh) sh A oo)  {x1 : Int32}  {M : ch_Mem} {H : Heap} {locs : List Loc} {ls : Array Slot} (h : D_X3_signAt o x1 M = some oo) (hw : ch_Wd D I 40 (ch_FC I sh) sh s A M H locs) (hl : lv_has ls 2 [(0, .ref (sh o)), (1, .int x1)]) : W p l e rm_X3_signAt s m args below meth c H locs 0 0 Q (F0 m 0 ls []) := by
  obtain ⟨hx, hb, hml, hown, hts⟩ := id S
  unfold D_X3_signAt at h
  refine lv_aload_n hx hb dX3_signAt_0 rfl (lv_at hl 0 rfl) ?_
  refine ch_get S hw o (by omega) (ch_FC_row (by omega)) rfl (by decide +kernel) 1 (by decide) (hts (.fieldLink RX3 15 "CodeHunt$Row" "size" "I") (by decide +kernel)) rfl dX3_signAt_1 ?_
  refine lv_iconst (v := (1 : Int32)) hx hb dX3_signAt_4 (by decide) ?_
  refine ch_icmp_ge (tgt := 12) hx hb dX3_signAt_5 (by decide) h (fun h => ?_) (fun h => ?_)
  · refine lv_aload_n hx hb dX3_signAt_12 rfl (lv_at hl 0 rfl) ?_
    refine ch_get S hw o (by omega) (ch_FC_row (by omega)) rfl (by decide +kernel) 0 (by decide) (hts (.fieldLink RX3 9 "CodeHunt$Row" "signs" "[I") (by decide +kernel)) rfl dX3_signAt_13 ?_
    refine lv_iload_n hx hb dX3_signAt_16 rfl (lv_at hl 1 rfl) ?_
    refine lv_aload_n hx hb dX3_signAt_17 rfl (lv_at hl 0 rfl) ?_
    refine ch_get S hw o (by omega) (ch_FC_row (by omega)) rfl (by decide +kernel) 1 (by decide) (hts (.fieldLink RX3 15 "CodeHunt$Row" "size" "I") (by decide +kernel)) rfl dX3_signAt_18 ?_
    refine ch_bd_k h (fun r1 M2 hc h => ?_)
    refine ch_ci hw (va_runS (As := [.int x1, .int (M.1 o 1)]) (rest := [.ref (sh (o + 8))]) S (c_J9_floorMod_7cf53 l D I sh H.size M x1 (M.1 o 1) hc) (va_cwS 2 hts gX3_signAt_J9_floorMod_7cf53 rfl rfl rfl (by decide +kernel) ⟨Nat.le_of_ble_eq_true rfl, Nat.le_of_ble_eq_true rfl⟩) (ch_pS hw) rfl rfl hl.1 rfl (lv_room (Nat.le_of_ble_eq_true rfl)) dX3_signAt_21 ⟨Nat.le_refl 0, Nat.le_refl 0⟩) (fun H locs hw => ?_)
    refine ch_gd_k h (fun hin h => ?_)
    refine ch_iald S hw (o + 8) (by omega) (ch_FC_sgn (by omega) _) hin dX3_signAt_24 ?_
    exact fin _ _ _ _ _ _ h hw dX3_signAt_25
  · refine lv_iconst (v := (0 : Int32)) hx hb dX3_signAt_8 (by decide) ?_
    refine lv_goto (tgt := 25) hx hb dX3_signAt_9 (by decide) ?_
    exact fin _ _ _ _ _ _ h hw dX3_signAt_25
set_option maxHeartbeats 4000000 in
set_option maxRecDepth 100000 in
theorem c_X3_signAt (l : Launch) (D : va_G) (I : ch_Id) (sh : Nat → Nat) (sz : Nat) (M : ch_Mem) (o : Nat) (ho : 7 ≤ o ∧ o < 15) (x1 : Int32) {r : Int32} {M1 : ch_Mem} (h : D_X3_signAt o x1 M = some (r, M1)) : Met l yX3_signAt wsX3_signAt rm_X3_signAt (va_Pc [.ref (sh o), .int x1] (ch_Pre D I 40 (ch_FC I sh) sh sz M)) (va_Qi (fun r' (u : ch_Mem) => r' = r ∧ u = M1) (ch_Pos D 40 (ch_FC I sh) sh) (ch_A 40 sh sz)) 0 0 (ch_A 40 sh sz) := by
  refine Met.ofW (cc := cX3_signAt) (maxL := 2) (ret := (some .int)) (by decide) rfl ?_
  intro p e s m args below meth c s₁ B hml hv0
  obtain ⟨rfl, hv0⟩ := hv0
  obtain rfl : s.heap.size = sz := hv0.1
  have hw := ch_start hv0
  have S : CallFix p m c cX3_signAt 2 s _ wsX3_signAt RX3 := ⟨B.exec, B.bytes, hml, findClass_of_methodNamed B.named, atoms_spec (ws := wsX3_signAt) B.pre⟩
  have hl := lv_entry ([.ref (sh o), .int x1]) (n := 2) (Nat.le_of_ble_eq_true rfl)
  rw [lg_entry_eq]
  generalize (lg_sl ([.ref (sh o), .int x1]) ++ List.replicate (2 - (lg_sl ([.ref (sh o), .int x1])).length) Slot.unset).toArray = ls at hl ⊢
  exact t_X3_signAt_0 ho S (ch_finI (B := fun _ => True) B.exec B.bytes B.returns B.notSynchronized) h hw (lv_sub hl [0, 1] rfl)
set_option maxHeartbeats 4000000 in
set_option maxRecDepth 100000 in
theorem t_X3_sumOver_75 {p : Program} {l : Launch} {e : Env} {s : State} {m : MethodId} {args : Array Value} {below : List Frame} {meth : Method} {c : Code} {Q : State → Prop} {D : va_G} {I : ch_Id} {sh : Nat → Nat} {A : Nat → Prop} {oo : Int32 × ch_Mem} {o : Nat} {v : Nat} (ho : 7 ≤ o ∧ o < 15) (hv : ch_arr v)  {k25 : Int32 → Int32 → Int32 → ch_Mem → Option (Int32 × ch_Mem)} (S : CallFix p m c cX3_sumOver 6 s args wsX3_sumOver RX3) (fin : ch_FinI p l e rm_X3_sumOver s m args below meth c cX3_sumOver Q D I 40 (ch_FC I sh) sh A oo) (hk25 : ∀ (x3 : Int32) (x4 : Int32) (x5 : Int32) (M : ch_Mem) (H : Heap) (locs : List Loc) (ls : Array Slot), k25 x3 x4 x5 M = some oo → ch_Wd D I 40 (ch_FC I sh) sh s A M H locs → lv_has ls 6 [(0, .ref (sh o)), (1, .ref (sh v)), (3, .int x3), (4, .int x4), (5, .int x5)] → W p l e rm_X3_sumOver s m args below meth c H locs 0 0 Q (F0 m 25 ls [])) {x3 : Int32} {x5 : Int32} {y0 : Int32}  {M : ch_Mem} {H : Heap} {locs : List Loc} {ls : Array Slot} (h : D_X3_sumOver_b75 o v k25 x3 x5 y0 M = some oo) (hw : ch_Wd D I 40 (ch_FC I sh) sh s A M H locs) (hl : lv_has ls 6 [(0, .ref (sh o)), (1, .ref (sh v)), (3, .int x3), (5, .int x5)]) : W p l e rm_X3_sumOver s m args below meth c H locs 0 0 Q (F0 m 75 ls [.int y0]) := by
  obtain ⟨hx, hb, hml, hown, hts⟩ := id S
  unfold D_X3_sumOver_b75 at h
  refine lv_istore (lv' := [(4, .int y0), (0, .ref (sh o)), (1, .ref (sh v)), (3, .int x3), (5, .int x5)]) hx hb dX3_sumOver_75 hl (by decide) rfl (fun ls hl => ?_)
  refine lv_iinc (v := x5 + (1 : Int32)) (lv' := [(5, .int (x5 + (1 : Int32))), (4, .int y0), (0, .ref (sh o)), (1, .ref (sh v)), (3, .int x3)]) hx hb dX3_sumOver_77 hl (k := 4) rfl rfl (by decide) rfl (fun ls hl => ?_)
  refine lv_goto (tgt := 25) hx hb dX3_sumOver_80 (by decide) ?_
  exact hk25 _ _ _ _ _ _ _  h hw (lv_sub hl [2, 3, 4, 1, 0] rfl)
set_option maxHeartbeats 4000000 in
set_option maxRecDepth 100000 in
theorem t_X3_sumOver_83 {p : Program} {l : Launch} {e : Env} {s : State} {m : MethodId} {args : Array Value} {below : List Frame} {meth : Method} {c : Code} {Q : State → Prop} {D : va_G} {I : ch_Id} {sh : Nat → Nat} {A : Nat → Prop} {oo : Int32 × ch_Mem} {o : Nat} {v : Nat} (ho : 7 ≤ o ∧ o < 15) (hv : ch_arr v)   (S : CallFix p m c cX3_sumOver 6 s args wsX3_sumOver RX3) (fin : ch_FinI p l e rm_X3_sumOver s m args below meth c cX3_sumOver Q D I 40 (ch_FC I sh) sh A oo)  {x3 : Int32}  {M : ch_Mem} {H : Heap} {locs : List Loc} {ls : Array Slot} (h : D_X3_sumOver_b83 o v x3 M = some oo) (hw : ch_Wd D I 40 (ch_FC I sh) sh s A M H locs) (hl : lv_has ls 6 [(3, .int x3)]) : W p l e rm_X3_sumOver s m args below meth c H locs 0 0 Q (F0 m 83 ls []) := by
  obtain ⟨hx, hb, hml, hown, hts⟩ := id S
  unfold D_X3_sumOver_b83 at h
  refine lv_iload_n hx hb dX3_sumOver_83 rfl (lv_at hl 0 rfl) ?_
  exact fin _ _ _ _ _ _ h hw dX3_sumOver_84
set_option maxHeartbeats 4000000 in
set_option maxRecDepth 100000 in
theorem t_X3_sumOver_25 {p : Program} {l : Launch} {e : Env} {s : State} {m : MethodId} {args : Array Value} {below : List Frame} {meth : Method} {c : Code} {Q : State → Prop} {D : va_G} {I : ch_Id} {sh : Nat → Nat} {A : Nat → Prop} {oo : Int32 × ch_Mem} {o : Nat} {v : Nat} (ho : 7 ≤ o ∧ o < 15) (hv : ch_arr v)  {k25 : Int32 → Int32 → Int32 → ch_Mem → Option (Int32 × ch_Mem)} (S : CallFix p m c cX3_sumOver 6 s args wsX3_sumOver RX3) (fin : ch_FinI p l e rm_X3_sumOver s m args below meth c cX3_sumOver Q D I 40 (ch_FC I sh) sh A oo) (hk25 : ∀ (x3 : Int32) (x4 : Int32) (x5 : Int32) (M : ch_Mem) (H : Heap) (locs : List Loc) (ls : Array Slot), k25 x3 x4 x5 M = some oo → ch_Wd D I 40 (ch_FC I sh) sh s A M H locs → lv_has ls 6 [(0, .ref (sh o)), (1, .ref (sh v)), (3, .int x3), (4, .int x4), (5, .int x5)] → W p l e rm_X3_sumOver s m args below meth c H locs 0 0 Q (F0 m 25 ls [])) {x3 : Int32} {x4 : Int32} {x5 : Int32}  {M : ch_Mem} {H : Heap} {locs : List Loc} {ls : Array Slot} (h : D_X3_sumOver_b25 o v k25 x3 x4 x5 M = some oo) (hw : ch_Wd D I 40 (ch_FC I sh) sh s A M H locs) (hl : lv_has ls 6 [(0, .ref (sh o)), (1, .ref (sh v)), (3, .int x3), (4, .int x4), (5, .int x5)]) : W p l e rm_X3_sumOver s m args below meth c H locs 0 0 Q (F0 m 25 ls []) := by
  obtain ⟨hx, hb, hml, hown, hts⟩ := id S
  unfold D_X3_sumOver_b25 at h
  refine lv_iload hx hb dX3_sumOver_25 (lv_at hl 4 rfl) ?_
  refine lv_aload_n hx hb dX3_sumOver_27 rfl (lv_at hl 0 rfl) ?_
  refine ch_get S hw o (by omega) (ch_FC_row (by omega)) rfl (by decide +kernel) 1 (by decide) (hts (.fieldLink RX3 15 "CodeHunt$Row" "size" "I") (by decide +kernel)) rfl dX3_sumOver_28 ?_
  refine ch_icmp_ge (tgt := 83) hx hb dX3_sumOver_31 (by decide) h (fun h => ?_) (fun h => ?_)
  · exact t_X3_sumOver_83 ho hv S fin h hw (lv_sub hl [2] rfl)
  · refine lv_iload hx hb dX3_sumOver_34 (lv_at hl 4 rfl) ?_
    refine lv_aload_n hx hb dX3_sumOver_36 rfl (lv_at hl 1 rfl) ?_
    refine ch_alen S hw v (by unfold ch_arr at hv; omega) (ch_FC_arr hv _) dX3_sumOver_37 ?_
    refine ch_icmp_ge (tgt := 83) hx hb dX3_sumOver_38 (by decide) h (fun h => ?_) (fun h => ?_)
    · exact t_X3_sumOver_83 ho hv S fin h hw (lv_sub hl [2] rfl)
    · refine lv_iload_n hx hb dX3_sumOver_41 rfl (lv_at hl 2 rfl) ?_
      refine lv_aload_n hx hb dX3_sumOver_42 rfl (lv_at hl 0 rfl) ?_
      refine ch_get S hw o (by omega) (ch_FC_row (by omega)) rfl (by decide +kernel) 0 (by decide) (hts (.fieldLink RX3 9 "CodeHunt$Row" "signs" "[I") (by decide +kernel)) rfl dX3_sumOver_43 ?_
      refine lv_iload hx hb dX3_sumOver_46 (lv_at hl 3 rfl) ?_
      refine ch_gd_k h (fun hin h => ?_)
      refine ch_iald S hw (o + 8) (by omega) (ch_FC_sgn (by omega) _) hin dX3_sumOver_48 ?_
      refine lv_aload_n hx hb dX3_sumOver_49 rfl (lv_at hl 1 rfl) ?_
      refine lv_iload hx hb dX3_sumOver_50 (lv_at hl 4 rfl) ?_
      refine ch_gd_k h (fun hin h => ?_)
      refine ch_iald S hw v (by unfold ch_arr at hv; omega) (ch_FC_arr hv _) hin dX3_sumOver_52 ?_
      refine lv_imul hx hb dX3_sumOver_53 ?_
      refine lv_iadd hx hb dX3_sumOver_54 ?_
      refine ch_topi h (fun u1 h => ?_)
      refine lv_istore_n (lv' := [(3, .int u1), (0, .ref (sh o)), (1, .ref (sh v)), (4, .int x4), (5, .int x5)]) hx hb dX3_sumOver_55 rfl hl (by decide) rfl (fun ls hl => ?_)
      refine lv_iload hx hb dX3_sumOver_56 (lv_at hl 3 rfl) ?_
      refine lv_iconst (v := (1 : Int32)) hx hb dX3_sumOver_58 (by decide) ?_
      refine lv_iadd hx hb dX3_sumOver_59 ?_
      refine lv_aload_n hx hb dX3_sumOver_60 rfl (lv_at hl 1 rfl) ?_
      refine ch_get S hw o (by omega) (ch_FC_row (by omega)) rfl (by decide +kernel) 1 (by decide) (hts (.fieldLink RX3 15 "CodeHunt$Row" "size" "I") (by decide +kernel)) rfl dX3_sumOver_61 ?_
      refine ch_icmp_ge (tgt := 74) hx hb dX3_sumOver_64 (by decide) h (fun h => ?_) (fun h => ?_)
      · refine lv_iconst (v := (0 : Int32)) hx hb dX3_sumOver_74 (by decide) ?_
        exact t_X3_sumOver_75 ho hv S fin hk25 h hw (lv_sub hl [1, 2, 0, 4] rfl)
      · refine lv_iload hx hb dX3_sumOver_67 (lv_at hl 3 rfl) ?_
        refine lv_iconst (v := (1 : Int32)) hx hb dX3_sumOver_69 (by decide) ?_
        refine lv_iadd hx hb dX3_sumOver_70 ?_
        refine lv_goto (tgt := 75) hx hb dX3_sumOver_71 (by decide) ?_
        exact t_X3_sumOver_75 ho hv S fin hk25 h hw (lv_sub hl [1, 2, 0, 4] rfl)
set_option maxHeartbeats 4000000 in
set_option maxRecDepth 100000 in
theorem tl_X3_sumOver_25 {p : Program} {l : Launch} {e : Env} {s : State} {m : MethodId} {args : Array Value} {below : List Frame} {meth : Method} {c : Code} {Q : State → Prop} {D : va_G} {I : ch_Id} {sh : Nat → Nat} {A : Nat → Prop} {oo : Int32 × ch_Mem} {o : Nat} {v : Nat} (ho : 7 ≤ o ∧ o < 15) (hv : ch_arr v)   (S : CallFix p m c cX3_sumOver 6 s args wsX3_sumOver RX3) (fin : ch_FinI p l e rm_X3_sumOver s m args below meth c cX3_sumOver Q D I 40 (ch_FC I sh) sh A oo)  (n : Nat) : ∀ (x3 : Int32) (x4 : Int32) (x5 : Int32) (M : ch_Mem) (H : Heap) (locs : List Loc) (ls : Array Slot), D_X3_sumOver_L25 o v n x3 x4 x5 M = some oo → ch_Wd D I 40 (ch_FC I sh) sh s A M H locs → lv_has ls 6 [(0, .ref (sh o)), (1, .ref (sh v)), (3, .int x3), (4, .int x4), (5, .int x5)] → W p l e rm_X3_sumOver s m args below meth c H locs 0 0 Q (F0 m 25 ls []) := by
  induction n with
  | zero => intro x3 x4 x5 M H locs ls  h; cases h
  | succ n ih =>
    intro x3 x4 x5 M H locs ls  h hw hl
    exact t_X3_sumOver_25 ho hv S fin ih h hw hl
set_option maxHeartbeats 4000000 in
set_option maxRecDepth 100000 in
theorem t_X3_sumOver_0 {p : Program} {l : Launch} {e : Env} {s : State} {m : MethodId} {args : Array Value} {below : List Frame} {meth : Method} {c : Code} {Q : State → Prop} {D : va_G} {I : ch_Id} {sh : Nat → Nat} {A : Nat → Prop} {oo : Int32 × ch_Mem} {o : Nat} {v : Nat} (ho : 7 ≤ o ∧ o < 15) (hv : ch_arr v)   (S : CallFix p m c cX3_sumOver 6 s args wsX3_sumOver RX3) (fin : ch_FinI p l e rm_X3_sumOver s m args below meth c cX3_sumOver Q D I 40 (ch_FC I sh) sh A oo)  {x2 : Int32}  {M : ch_Mem} {H : Heap} {locs : List Loc} {ls : Array Slot} (h : D_X3_sumOver o v x2 M = some oo) (hw : ch_Wd D I 40 (ch_FC I sh) sh s A M H locs) (hl : lv_has ls 6 [(0, .ref (sh o)), (1, .ref (sh v)), (2, .int x2)]) : W p l e rm_X3_sumOver s m args below meth c H locs 0 0 Q (F0 m 0 ls []) := by
  obtain ⟨hx, hb, hml, hown, hts⟩ := id S
  unfold D_X3_sumOver at h
  refine lv_aload_n hx hb dX3_sumOver_0 rfl (lv_at hl 0 rfl) ?_
  refine ch_get S hw o (by omega) (ch_FC_row (by omega)) rfl (by decide +kernel) 1 (by decide) (hts (.fieldLink RX3 15 "CodeHunt$Row" "size" "I") (by decide +kernel)) rfl dX3_sumOver_1 ?_
  refine lv_iconst (v := (1 : Int32)) hx hb dX3_sumOver_4 (by decide) ?_
  refine ch_icmp_ge (tgt := 10) hx hb dX3_sumOver_5 (by decide) h (fun h => ?_) (fun h => ?_)
  · refine lv_iconst (v := (0 : Int32)) hx hb dX3_sumOver_10 (by decide) ?_
    refine lv_istore_n (lv' := [(3, .int (0 : Int32)), (0, .ref (sh o)), (1, .ref (sh v)), (2, .int x2)]) hx hb dX3_sumOver_11 rfl hl (by decide) rfl (fun ls hl => ?_)
    refine lv_iload_n hx hb dX3_sumOver_12 rfl (lv_at hl 3 rfl) ?_
    refine lv_aload_n hx hb dX3_sumOver_13 rfl (lv_at hl 1 rfl) ?_
    refine ch_get S hw o (by omega) (ch_FC_row (by omega)) rfl (by decide +kernel) 1 (by decide) (hts (.fieldLink RX3 15 "CodeHunt$Row" "size" "I") (by decide +kernel)) rfl dX3_sumOver_14 ?_
    refine ch_bd_k h (fun r1 M2 hc h => ?_)
    refine ch_ci hw (va_runS (As := [.int x2, .int (M.1 o 1)]) (rest := []) S (c_J9_floorMod_7cf53 l D I sh H.size M x2 (M.1 o 1) hc) (va_cwS 2 hts gX3_sumOver_J9_floorMod_7cf53 rfl rfl rfl (by decide +kernel) ⟨Nat.le_of_ble_eq_true rfl, Nat.le_of_ble_eq_true rfl⟩) (ch_pS hw) rfl rfl hl.1 rfl (lv_room (Nat.le_of_ble_eq_true rfl)) dX3_sumOver_17 ⟨Nat.le_refl 0, Nat.le_refl 0⟩) (fun H locs hw => ?_)
    refine lv_istore (lv' := [(4, .int r1), (3, .int (0 : Int32)), (0, .ref (sh o)), (1, .ref (sh v)), (2, .int x2)]) hx hb dX3_sumOver_20 hl (by decide) rfl (fun ls hl => ?_)
    refine lv_iconst (v := (0 : Int32)) hx hb dX3_sumOver_22 (by decide) ?_
    refine lv_istore (lv' := [(5, .int (0 : Int32)), (4, .int r1), (3, .int (0 : Int32)), (0, .ref (sh o)), (1, .ref (sh v)), (2, .int x2)]) hx hb dX3_sumOver_23 hl (by decide) rfl (fun ls hl => ?_)
    exact tl_X3_sumOver_25 ho hv S fin ch_fu _ _ _ _ _ _ _ h hw (lv_sub hl [3, 4, 2, 1, 0] rfl)
  · refine lv_iconst (v := (0 : Int32)) hx hb dX3_sumOver_8 (by decide) ?_
    exact fin _ _ _ _ _ _ h hw dX3_sumOver_9
set_option maxHeartbeats 4000000 in
set_option maxRecDepth 100000 in
theorem c_X3_sumOver (l : Launch) (D : va_G) (I : ch_Id) (sh : Nat → Nat) (sz : Nat) (M : ch_Mem) (o : Nat) (ho : 7 ≤ o ∧ o < 15) (v : Nat) (hv : ch_arr v) (x2 : Int32) {r : Int32} {M1 : ch_Mem} (h : D_X3_sumOver o v x2 M = some (r, M1)) : Met l yX3_sumOver wsX3_sumOver rm_X3_sumOver (va_Pc [.ref (sh o), .ref (sh v), .int x2] (ch_Pre D I 40 (ch_FC I sh) sh sz M)) (va_Qi (fun r' (u : ch_Mem) => r' = r ∧ u = M1) (ch_Pos D 40 (ch_FC I sh) sh) (ch_A 40 sh sz)) 0 0 (ch_A 40 sh sz) := by
  refine Met.ofW (cc := cX3_sumOver) (maxL := 6) (ret := (some .int)) (by decide) rfl ?_
  intro p e s m args below meth c s₁ B hml hv0
  obtain ⟨rfl, hv0⟩ := hv0
  obtain rfl : s.heap.size = sz := hv0.1
  have hw := ch_start hv0
  have S : CallFix p m c cX3_sumOver 6 s _ wsX3_sumOver RX3 := ⟨B.exec, B.bytes, hml, findClass_of_methodNamed B.named, atoms_spec (ws := wsX3_sumOver) B.pre⟩
  have hl := lv_entry ([.ref (sh o), .ref (sh v), .int x2]) (n := 6) (Nat.le_of_ble_eq_true rfl)
  rw [lg_entry_eq]
  generalize (lg_sl ([.ref (sh o), .ref (sh v), .int x2]) ++ List.replicate (6 - (lg_sl ([.ref (sh o), .ref (sh v), .int x2])).length) Slot.unset).toArray = ls at hl ⊢
  exact t_X3_sumOver_0 ho hv S (ch_finI (B := fun _ => True) B.exec B.bytes B.returns B.notSynchronized) h hw (lv_sub hl [0, 1, 2] rfl)
set_option maxHeartbeats 4000000 in
set_option maxRecDepth 100000 in
theorem t_X3_takeOff_3 {p : Program} {l : Launch} {e : Env} {s : State} {m : MethodId} {args : Array Value} {below : List Frame} {meth : Method} {c : Code} {Q : State → Prop} {D : va_G} {I : ch_Id} {sh : Nat → Nat} {A : Nat → Prop} {oo : Unit × ch_Mem} {o : Nat} {v : Nat} (ho : 7 ≤ o ∧ o < 15) (hv : ch_arr v)  {k3 : Int32 → Int32 → Int32 → ch_Mem → Option (Unit × ch_Mem)} (S : CallFix p m c cX3_takeOff 5 s args wsX3_takeOff RX3) (fin : ch_FinV p l e rm_X3_takeOff s m args below meth c cX3_takeOff Q D I 40 (ch_FC I sh) sh A oo) (hk3 : ∀ (x2 : Int32) (x3 : Int32) (x4 : Int32) (M : ch_Mem) (H : Heap) (locs : List Loc) (ls : Array Slot), k3 x2 x3 x4 M = some oo → ch_Wd D I 40 (ch_FC I sh) sh s A M H locs → lv_has ls 5 [(0, .ref (sh o)), (1, .ref (sh v)), (2, .int x2), (3, .int x3), (4, .int x4)] → W p l e rm_X3_takeOff s m args below meth c H locs 0 0 Q (F0 m 3 ls [])) {x2 : Int32} {x3 : Int32} {x4 : Int32}  {M : ch_Mem} {H : Heap} {locs : List Loc} {ls : Array Slot} (h : D_X3_takeOff_b3 o v k3 x2 x3 x4 M = some oo) (hw : ch_Wd D I 40 (ch_FC I sh) sh s A M H locs) (hl : lv_has ls 5 [(0, .ref (sh o)), (1, .ref (sh v)), (2, .int x2), (3, .int x3), (4, .int x4)]) : W p l e rm_X3_takeOff s m args below meth c H locs 0 0 Q (F0 m 3 ls []) := by
  obtain ⟨hx, hb, hml, hown, hts⟩ := id S
  unfold D_X3_takeOff_b3 at h
  refine lv_iload hx hb dX3_takeOff_3 (lv_at hl 4 rfl) ?_
  refine lv_aload_n hx hb dX3_takeOff_5 rfl (lv_at hl 0 rfl) ?_
  refine ch_get S hw o (by omega) (ch_FC_row (by omega)) rfl (by decide +kernel) 1 (by decide) (hts (.fieldLink RX3 15 "CodeHunt$Row" "size" "I") (by decide +kernel)) rfl dX3_takeOff_6 ?_
  refine ch_icmp_ge (tgt := 42) hx hb dX3_takeOff_9 (by decide) h (fun h => ?_) (fun h => ?_)
  · exact fin _ _ _ _ _ h hw dX3_takeOff_42
  · refine lv_iload hx hb dX3_takeOff_12 (lv_at hl 4 rfl) ?_
    refine lv_aload_n hx hb dX3_takeOff_14 rfl (lv_at hl 1 rfl) ?_
    refine ch_alen S hw v (by unfold ch_arr at hv; omega) (ch_FC_arr hv _) dX3_takeOff_15 ?_
    refine ch_icmp_ge (tgt := 42) hx hb dX3_takeOff_16 (by decide) h (fun h => ?_) (fun h => ?_)
    · exact fin _ _ _ _ _ h hw dX3_takeOff_42
    · refine lv_aload_n hx hb dX3_takeOff_19 rfl (lv_at hl 1 rfl) ?_
      refine lv_iload hx hb dX3_takeOff_20 (lv_at hl 4 rfl) ?_
      refine lv_dup2_11 hx hb dX3_takeOff_22 rfl rfl ?_
      refine ch_gd_k h (fun hin h => ?_)
      refine ch_iald S hw v (by unfold ch_arr at hv; omega) (ch_FC_arr hv _) hin dX3_takeOff_23 ?_
      refine lv_iload_n hx hb dX3_takeOff_24 rfl (lv_at hl 3 rfl) ?_
      refine lv_aload_n hx hb dX3_takeOff_25 rfl (lv_at hl 0 rfl) ?_
      refine lv_iload hx hb dX3_takeOff_26 (lv_at hl 4 rfl) ?_
      refine lv_iload_n hx hb dX3_takeOff_28 rfl (lv_at hl 2 rfl) ?_
      refine lv_iadd hx hb dX3_takeOff_29 ?_
      refine ch_bd_k h (fun r1 M2 hc h => ?_)
      refine ch_ci hw (va_runV (As := [.int (x4 + x2)]) (rest := [.int x3, .int (M.1 v x4.toNatClampNeg), .int x4, .ref (sh v)]) S (c_X3_signAt l D I sh H.size M o ho (x4 + x2) hc) (cwV 1 hts gX3_takeOff_X3_signAt rfl rfl rfl (by decide +kernel) ⟨Nat.le_of_ble_eq_true rfl, Nat.le_of_ble_eq_true rfl⟩) (ch_pV hw (by omega) (ch_FC_row (by omega)) rfl rfl) rfl rfl hl.1 rfl (lv_room (Nat.le_of_ble_eq_true rfl)) dX3_takeOff_30 ⟨Nat.le_refl 0, Nat.le_refl 0⟩) (fun H locs hw => ?_)
      refine lv_imul hx hb dX3_takeOff_33 ?_
      refine lv_isub hx hb dX3_takeOff_34 ?_
      refine ch_gd_k h (fun hin h => ?_)
      refine ch_iast S hw v (by unfold ch_arr at hv; omega) (fun f => ch_FC_arr hv f) hin dX3_takeOff_35 (fun H locs hw => ?_)
      refine lv_iinc (v := x4 + (1 : Int32)) (lv' := [(4, .int (x4 + (1 : Int32))), (0, .ref (sh o)), (1, .ref (sh v)), (2, .int x2), (3, .int x3)]) hx hb dX3_takeOff_36 hl (k := 4) rfl rfl (by decide) rfl (fun ls hl => ?_)
      refine lv_goto (tgt := 3) hx hb dX3_takeOff_39 (by decide) ?_
      exact hk3 _ _ _ _ _ _ _  h hw (lv_sub hl [1, 2, 3, 4, 0] rfl)
set_option maxHeartbeats 4000000 in
set_option maxRecDepth 100000 in
theorem tl_X3_takeOff_3 {p : Program} {l : Launch} {e : Env} {s : State} {m : MethodId} {args : Array Value} {below : List Frame} {meth : Method} {c : Code} {Q : State → Prop} {D : va_G} {I : ch_Id} {sh : Nat → Nat} {A : Nat → Prop} {oo : Unit × ch_Mem} {o : Nat} {v : Nat} (ho : 7 ≤ o ∧ o < 15) (hv : ch_arr v)   (S : CallFix p m c cX3_takeOff 5 s args wsX3_takeOff RX3) (fin : ch_FinV p l e rm_X3_takeOff s m args below meth c cX3_takeOff Q D I 40 (ch_FC I sh) sh A oo)  (n : Nat) : ∀ (x2 : Int32) (x3 : Int32) (x4 : Int32) (M : ch_Mem) (H : Heap) (locs : List Loc) (ls : Array Slot), D_X3_takeOff_L3 o v n x2 x3 x4 M = some oo → ch_Wd D I 40 (ch_FC I sh) sh s A M H locs → lv_has ls 5 [(0, .ref (sh o)), (1, .ref (sh v)), (2, .int x2), (3, .int x3), (4, .int x4)] → W p l e rm_X3_takeOff s m args below meth c H locs 0 0 Q (F0 m 3 ls []) := by
  induction n with
  | zero => intro x2 x3 x4 M H locs ls  h; cases h
  | succ n ih =>
    intro x2 x3 x4 M H locs ls  h hw hl
    exact t_X3_takeOff_3 ho hv S fin ih h hw hl
set_option maxHeartbeats 4000000 in
set_option maxRecDepth 100000 in
theorem t_X3_takeOff_0 {p : Program} {l : Launch} {e : Env} {s : State} {m : MethodId} {args : Array Value} {below : List Frame} {meth : Method} {c : Code} {Q : State → Prop} {D : va_G} {I : ch_Id} {sh : Nat → Nat} {A : Nat → Prop} {oo : Unit × ch_Mem} {o : Nat} {v : Nat} (ho : 7 ≤ o ∧ o < 15) (hv : ch_arr v)   (S : CallFix p m c cX3_takeOff 5 s args wsX3_takeOff RX3) (fin : ch_FinV p l e rm_X3_takeOff s m args below meth c cX3_takeOff Q D I 40 (ch_FC I sh) sh A oo)  {x2 : Int32} {x3 : Int32}  {M : ch_Mem} {H : Heap} {locs : List Loc} {ls : Array Slot} (h : D_X3_takeOff o v x2 x3 M = some oo) (hw : ch_Wd D I 40 (ch_FC I sh) sh s A M H locs) (hl : lv_has ls 5 [(0, .ref (sh o)), (1, .ref (sh v)), (2, .int x2), (3, .int x3)]) : W p l e rm_X3_takeOff s m args below meth c H locs 0 0 Q (F0 m 0 ls []) := by
  obtain ⟨hx, hb, hml, hown, hts⟩ := id S
  unfold D_X3_takeOff at h
  refine lv_iconst (v := (0 : Int32)) hx hb dX3_takeOff_0 (by decide) ?_
  refine lv_istore (lv' := [(4, .int (0 : Int32)), (0, .ref (sh o)), (1, .ref (sh v)), (2, .int x2), (3, .int x3)]) hx hb dX3_takeOff_1 hl (by decide) rfl (fun ls hl => ?_)
  exact tl_X3_takeOff_3 ho hv S fin ch_fu _ _ _ _ _ _ _ h hw (lv_sub hl [1, 2, 3, 4, 0] rfl)
set_option maxHeartbeats 4000000 in
set_option maxRecDepth 100000 in
theorem c_X3_takeOff (l : Launch) (D : va_G) (I : ch_Id) (sh : Nat → Nat) (sz : Nat) (M : ch_Mem) (o : Nat) (ho : 7 ≤ o ∧ o < 15) (v : Nat) (hv : ch_arr v) (x2 : Int32) (x3 : Int32) {M1 : ch_Mem} (h : D_X3_takeOff o v x2 x3 M = some ((), M1)) : Met l yX3_takeOff wsX3_takeOff rm_X3_takeOff (va_Pc [.ref (sh o), .ref (sh v), .int x2, .int x3] (ch_Pre D I 40 (ch_FC I sh) sh sz M)) (va_Qv (fun (u : ch_Mem) => u = M1) (ch_Pos D 40 (ch_FC I sh) sh) (ch_A 40 sh sz)) 0 0 (ch_A 40 sh sz) := by
  refine Met.ofW (cc := cX3_takeOff) (maxL := 5) (ret := none) (by decide) rfl ?_
  intro p e s m args below meth c s₁ B hml hv0
  obtain ⟨rfl, hv0⟩ := hv0
  obtain rfl : s.heap.size = sz := hv0.1
  have hw := ch_start hv0
  have S : CallFix p m c cX3_takeOff 5 s _ wsX3_takeOff RX3 := ⟨B.exec, B.bytes, hml, findClass_of_methodNamed B.named, atoms_spec (ws := wsX3_takeOff) B.pre⟩
  have hl := lv_entry ([.ref (sh o), .ref (sh v), .int x2, .int x3]) (n := 5) (Nat.le_of_ble_eq_true rfl)
  rw [lg_entry_eq]
  generalize (lg_sl ([.ref (sh o), .ref (sh v), .int x2, .int x3]) ++ List.replicate (5 - (lg_sl ([.ref (sh o), .ref (sh v), .int x2, .int x3])).length) Slot.unset).toArray = ls at hl ⊢
  exact t_X3_takeOff_0 ho hv S (ch_finV B.exec B.bytes B.returns B.notSynchronized) h hw (lv_sub hl [0, 1, 2, 3] rfl)
set_option maxHeartbeats 4000000 in
set_option maxRecDepth 100000 in
theorem t_X4_begin_0 {p : Program} {l : Launch} {e : Env} {s : State} {m : MethodId} {args : Array Value} {below : List Frame} {meth : Method} {c : Code} {Q : State → Prop} {D : va_G} {I : ch_Id} {sh : Nat → Nat} {A : Nat → Prop} {oo : Unit × ch_Mem}     (S : CallFix p m c cX4_begin 1 s args wsX4_begin RX4) (fin : ch_FinV p l e rm_X4_begin s m args below meth c cX4_begin Q D I 40 (ch_FC I sh) sh A oo)    {M : ch_Mem} {H : Heap} {locs : List Loc} {ls : Array Slot} (h : D_X4_begin  M = some oo) (hw : ch_Wd D I 40 (ch_FC I sh) sh s A M H locs) (hl : lv_has ls 1 [(0, .ref (sh 4))]) : W p l e rm_X4_begin s m args below meth c H locs 0 0 Q (F0 m 0 ls []) := by
  obtain ⟨hx, hb, hml, hown, hts⟩ := id S
  unfold D_X4_begin at h
  refine lv_aload_n hx hb dX4_begin_0 rfl (lv_at hl 0 rfl) ?_
  refine lv_ldc2 (v := (-1 : Int64)) hx hb hown (hts (.constantLong RX4 7 (-1)) (by decide +kernel)) dX4_begin_1 ?_
  refine ch_put (M1 := ch_wL M 4 0 (-1 : Int64)) (ty := .long) S hw 4 (by decide) rfl rfl (by decide +kernel) tyX4 tyX4_ok nmX4 0 (by decide) (hts (.fieldLink RX4 9 "CodeHunt$Search" "greatest" "J") (by decide +kernel)) rfl (by decide +kernel) rfl rfl (Nat.le_of_ble_eq_true rfl) (ch_cf_wL (j := 0) (v := (-1 : Int64)) rfl) dX4_begin_4 (fun H locs hw => ?_)
  refine lv_aload_n hx hb dX4_begin_7 rfl (lv_at hl 0 rfl) ?_
  refine lv_ldc2 (v := (-1 : Int64)) hx hb hown (hts (.constantLong RX4 7 (-1)) (by decide +kernel)) dX4_begin_8 ?_
  refine ch_put (M1 := ch_wL (ch_wL M 4 0 (-1 : Int64)) 4 1 (-1 : Int64)) (ty := .long) S hw 4 (by decide) rfl rfl (by decide +kernel) tyX4 tyX4_ok nmX4 1 (by decide) (hts (.fieldLink RX4 15 "CodeHunt$Search" "next" "J") (by decide +kernel)) rfl (by decide +kernel) rfl rfl (Nat.le_of_ble_eq_true rfl) (ch_cf_wL (j := 1) (v := (-1 : Int64)) rfl) dX4_begin_11 (fun H locs hw => ?_)
  exact fin _ _ _ _ _ h hw dX4_begin_14
set_option maxHeartbeats 4000000 in
set_option maxRecDepth 100000 in
theorem c_X4_begin (l : Launch) (D : va_G) (I : ch_Id) (sh : Nat → Nat) (sz : Nat) (M : ch_Mem)   {M1 : ch_Mem} (h : D_X4_begin  M = some ((), M1)) : Met l yX4_begin wsX4_begin rm_X4_begin (va_Pc [.ref (sh 4)] (ch_Pre D I 40 (ch_FC I sh) sh sz M)) (va_Qv (fun (u : ch_Mem) => u = M1) (ch_Pos D 40 (ch_FC I sh) sh) (ch_A 40 sh sz)) 0 0 (ch_A 40 sh sz) := by
  refine Met.ofW (cc := cX4_begin) (maxL := 1) (ret := none) (by decide) rfl ?_
  intro p e s m args below meth c s₁ B hml hv0
  obtain ⟨rfl, hv0⟩ := hv0
  obtain rfl : s.heap.size = sz := hv0.1
  have hw := ch_start hv0
  have S : CallFix p m c cX4_begin 1 s _ wsX4_begin RX4 := ⟨B.exec, B.bytes, hml, findClass_of_methodNamed B.named, atoms_spec (ws := wsX4_begin) B.pre⟩
  have hl := lv_entry ([.ref (sh 4)]) (n := 1) (Nat.le_of_ble_eq_true rfl)
  rw [lg_entry_eq]
  generalize (lg_sl ([.ref (sh 4)]) ++ List.replicate (1 - (lg_sl ([.ref (sh 4)])).length) Slot.unset).toArray = ls at hl ⊢
  exact t_X4_begin_0 S (ch_finV B.exec B.bytes B.returns B.notSynchronized) h hw (lv_sub hl [0] rfl)
set_option maxHeartbeats 4000000 in
set_option maxRecDepth 100000 in
theorem t_X4_weigh_0 {p : Program} {l : Launch} {e : Env} {s : State} {m : MethodId} {args : Array Value} {below : List Frame} {meth : Method} {c : Code} {Q : State → Prop} {D : va_G} {I : ch_Id} {sh : Nat → Nat} {A : Nat → Prop} {oo : Unit × ch_Mem}     (S : CallFix p m c cX4_weigh 5 s args wsX4_weigh RX4) (fin : ch_FinV p l e rm_X4_weigh s m args below meth c cX4_weigh Q D I 40 (ch_FC I sh) sh A oo)  {x1 : Int64} {x3 : Int32} {x4 : Int32}  {M : ch_Mem} {H : Heap} {locs : List Loc} {ls : Array Slot} (h : D_X4_weigh x1 x3 x4 M = some oo) (hw : ch_Wd D I 40 (ch_FC I sh) sh s A M H locs) (hl : lv_has ls 5 [(0, .ref (sh 4)), (1, .long x1), (3, .int x3), (4, .int x4)]) : W p l e rm_X4_weigh s m args below meth c H locs 0 0 Q (F0 m 0 ls []) := by
  obtain ⟨hx, hb, hml, hown, hts⟩ := id S
  unfold D_X4_weigh at h
  refine lv_lload_n hx hb dX4_weigh_0 rfl (lv_at hl 1 rfl) ?_
  refine lv_aload_n hx hb dX4_weigh_1 rfl (lv_at hl 0 rfl) ?_
  refine ch_get S hw 4 (by decide) rfl rfl (by decide +kernel) 0 (by decide) (hts (.fieldLink RX4 9 "CodeHunt$Search" "greatest" "J") (by decide +kernel)) rfl dX4_weigh_2 ?_
  refine W.lcmp hx hb dX4_weigh_5 ?_
  refine ch_if_le (tgt := 36) hx hb dX4_weigh_6 (by decide) h (fun h => ?_) (fun h => ?_)
  · refine lv_lload_n hx hb dX4_weigh_36 rfl (lv_at hl 1 rfl) ?_
    refine lv_aload_n hx hb dX4_weigh_37 rfl (lv_at hl 0 rfl) ?_
    refine ch_get S hw 4 (by decide) rfl rfl (by decide +kernel) 1 (by decide) (hts (.fieldLink RX4 15 "CodeHunt$Search" "next" "J") (by decide +kernel)) rfl dX4_weigh_38 ?_
    refine W.lcmp hx hb dX4_weigh_41 ?_
    refine ch_if_le (tgt := 50) hx hb dX4_weigh_42 (by decide) h (fun h => ?_) (fun h => ?_)
    · exact fin _ _ _ _ _ h hw dX4_weigh_50
    · refine lv_aload_n hx hb dX4_weigh_45 rfl (lv_at hl 0 rfl) ?_
      refine lv_lload_n hx hb dX4_weigh_46 rfl (lv_at hl 1 rfl) ?_
      refine ch_put (M1 := ch_wL M 4 1 x1) (ty := .long) S hw 4 (by decide) rfl rfl (by decide +kernel) tyX4 tyX4_ok nmX4 1 (by decide) (hts (.fieldLink RX4 15 "CodeHunt$Search" "next" "J") (by decide +kernel)) rfl (by decide +kernel) rfl rfl (Nat.le_of_ble_eq_true rfl) (ch_cf_wL (j := 1) (v := x1) rfl) dX4_weigh_47 (fun H locs hw => ?_)
      exact fin _ _ _ _ _ h hw dX4_weigh_50
  · refine lv_aload_n hx hb dX4_weigh_9 rfl (lv_at hl 0 rfl) ?_
    refine lv_aload_n hx hb dX4_weigh_10 rfl (lv_at hl 0 rfl) ?_
    refine ch_get S hw 4 (by decide) rfl rfl (by decide +kernel) 0 (by decide) (hts (.fieldLink RX4 9 "CodeHunt$Search" "greatest" "J") (by decide +kernel)) rfl dX4_weigh_11 ?_
    refine ch_put (M1 := ch_wL M 4 1 (M.2 4 0)) (ty := .long) S hw 4 (by decide) rfl rfl (by decide +kernel) tyX4 tyX4_ok nmX4 1 (by decide) (hts (.fieldLink RX4 15 "CodeHunt$Search" "next" "J") (by decide +kernel)) rfl (by decide +kernel) rfl rfl (Nat.le_of_ble_eq_true rfl) (ch_cf_wL (j := 1) (v := (M.2 4 0)) rfl) dX4_weigh_14 (fun H locs hw => ?_)
    refine lv_aload_n hx hb dX4_weigh_17 rfl (lv_at hl 0 rfl) ?_
    refine lv_lload_n hx hb dX4_weigh_18 rfl (lv_at hl 1 rfl) ?_
    refine ch_put (M1 := ch_wL (ch_wL M 4 1 (M.2 4 0)) 4 0 x1) (ty := .long) S hw 4 (by decide) rfl rfl (by decide +kernel) tyX4 tyX4_ok nmX4 0 (by decide) (hts (.fieldLink RX4 9 "CodeHunt$Search" "greatest" "J") (by decide +kernel)) rfl (by decide +kernel) rfl rfl (Nat.le_of_ble_eq_true rfl) (ch_cf_wL (j := 0) (v := x1) rfl) dX4_weigh_19 (fun H locs hw => ?_)
    refine lv_aload_n hx hb dX4_weigh_22 rfl (lv_at hl 0 rfl) ?_
    refine lv_iload_n hx hb dX4_weigh_23 rfl (lv_at hl 2 rfl) ?_
    refine ch_put (M1 := ch_wI (ch_wL (ch_wL M 4 1 (M.2 4 0)) 4 0 x1) 4 2 x3) (ty := .int) S hw 4 (by decide) rfl rfl (by decide +kernel) tyX4 tyX4_ok nmX4 2 (by decide) (hts (.fieldLink RX4 18 "CodeHunt$Search" "tone" "I") (by decide +kernel)) rfl (by decide +kernel) rfl rfl (Nat.le_of_ble_eq_true rfl) (ch_cf_wI (j := 2) (v := x3) rfl) dX4_weigh_24 (fun H locs hw => ?_)
    refine lv_aload_n hx hb dX4_weigh_27 rfl (lv_at hl 0 rfl) ?_
    refine lv_iload hx hb dX4_weigh_28 (lv_at hl 3 rfl) ?_
    refine ch_put (M1 := ch_wI (ch_wI (ch_wL (ch_wL M 4 1 (M.2 4 0)) 4 0 x1) 4 2 x3) 4 3 x4) (ty := .int) S hw 4 (by decide) rfl rfl (by decide +kernel) tyX4 tyX4_ok nmX4 3 (by decide) (hts (.fieldLink RX4 22 "CodeHunt$Search" "shift" "I") (by decide +kernel)) rfl (by decide +kernel) rfl rfl (Nat.le_of_ble_eq_true rfl) (ch_cf_wI (j := 3) (v := x4) rfl) dX4_weigh_30 (fun H locs hw => ?_)
    refine lv_goto (tgt := 50) hx hb dX4_weigh_33 (by decide) ?_
    exact fin _ _ _ _ _ h hw dX4_weigh_50
set_option maxHeartbeats 4000000 in
set_option maxRecDepth 100000 in
theorem c_X4_weigh (l : Launch) (D : va_G) (I : ch_Id) (sh : Nat → Nat) (sz : Nat) (M : ch_Mem)  (x1 : Int64) (x3 : Int32) (x4 : Int32) {M1 : ch_Mem} (h : D_X4_weigh x1 x3 x4 M = some ((), M1)) : Met l yX4_weigh wsX4_weigh rm_X4_weigh (va_Pc [.ref (sh 4), .long x1, .int x3, .int x4] (ch_Pre D I 40 (ch_FC I sh) sh sz M)) (va_Qv (fun (u : ch_Mem) => u = M1) (ch_Pos D 40 (ch_FC I sh) sh) (ch_A 40 sh sz)) 0 0 (ch_A 40 sh sz) := by
  refine Met.ofW (cc := cX4_weigh) (maxL := 5) (ret := none) (by decide) rfl ?_
  intro p e s m args below meth c s₁ B hml hv0
  obtain ⟨rfl, hv0⟩ := hv0
  obtain rfl : s.heap.size = sz := hv0.1
  have hw := ch_start hv0
  have S : CallFix p m c cX4_weigh 5 s _ wsX4_weigh RX4 := ⟨B.exec, B.bytes, hml, findClass_of_methodNamed B.named, atoms_spec (ws := wsX4_weigh) B.pre⟩
  have hl := lv_entry ([.ref (sh 4), .long x1, .int x3, .int x4]) (n := 5) (Nat.le_of_ble_eq_true rfl)
  rw [lg_entry_eq]
  generalize (lg_sl ([.ref (sh 4), .long x1, .int x3, .int x4]) ++ List.replicate (5 - (lg_sl ([.ref (sh 4), .long x1, .int x3, .int x4])).length) Slot.unset).toArray = ls at hl ⊢
  exact t_X4_weigh_0 S (ch_finV B.exec B.bytes B.returns B.notSynchronized) h hw (lv_sub hl [0, 1, 2, 3] rfl)
set_option maxHeartbeats 4000000 in
set_option maxRecDepth 100000 in
theorem t_X5_squaresOfX_36 {p : Program} {l : Launch} {e : Env} {s : State} {m : MethodId} {args : Array Value} {below : List Frame} {meth : Method} {c : Code} {Q : State → Prop} {D : va_G} {I : ch_Id} {sh : Nat → Nat} {A : Nat → Prop} {oo : Int64 × ch_Mem}     (S : CallFix p m c cX5_squaresOfX 4 s args wsX5_squaresOfX RX5) (fin : ch_FinL p l e rm_X5_squaresOfX s m args below meth c cX5_squaresOfX Q D I 40 (ch_FC I sh) sh A oo)  {x1 : Int64}  {M : ch_Mem} {H : Heap} {locs : List Loc} {ls : Array Slot} (h : D_X5_squaresOfX_b36 x1 M = some oo) (hw : ch_Wd D I 40 (ch_FC I sh) sh s A M H locs) (hl : lv_has ls 4 [(1, .long x1)]) : W p l e rm_X5_squaresOfX s m args below meth c H locs 0 0 Q (F0 m 36 ls []) := by
  obtain ⟨hx, hb, hml, hown, hts⟩ := id S
  unfold D_X5_squaresOfX_b36 at h
  refine lv_lload_n hx hb dX5_squaresOfX_36 rfl (lv_at hl 0 rfl) ?_
  exact fin _ _ _ _ _ _ h hw dX5_squaresOfX_37
set_option maxHeartbeats 4000000 in
set_option maxRecDepth 100000 in
theorem t_X5_squaresOfX_4 {p : Program} {l : Launch} {e : Env} {s : State} {m : MethodId} {args : Array Value} {below : List Frame} {meth : Method} {c : Code} {Q : State → Prop} {D : va_G} {I : ch_Id} {sh : Nat → Nat} {A : Nat → Prop} {oo : Int64 × ch_Mem}    {k4 : Int64 → Int32 → ch_Mem → Option (Int64 × ch_Mem)} (S : CallFix p m c cX5_squaresOfX 4 s args wsX5_squaresOfX RX5) (fin : ch_FinL p l e rm_X5_squaresOfX s m args below meth c cX5_squaresOfX Q D I 40 (ch_FC I sh) sh A oo) (hk4 : ∀ (x1 : Int64) (x3 : Int32) (M : ch_Mem) (H : Heap) (locs : List Loc) (ls : Array Slot), k4 x1 x3 M = some oo → ch_Wd D I 40 (ch_FC I sh) sh s A M H locs → lv_has ls 4 [(0, .ref (sh 3)), (1, .long x1), (3, .int x3)] → W p l e rm_X5_squaresOfX s m args below meth c H locs 0 0 Q (F0 m 4 ls [])) {x1 : Int64} {x3 : Int32}  {M : ch_Mem} {H : Heap} {locs : List Loc} {ls : Array Slot} (h : D_X5_squaresOfX_b4 k4 x1 x3 M = some oo) (hw : ch_Wd D I 40 (ch_FC I sh) sh s A M H locs) (hl : lv_has ls 4 [(0, .ref (sh 3)), (1, .long x1), (3, .int x3)]) : W p l e rm_X5_squaresOfX s m args below meth c H locs 0 0 Q (F0 m 4 ls []) := by
  obtain ⟨hx, hb, hml, hown, hts⟩ := id S
  unfold D_X5_squaresOfX_b4 at h
  refine lv_iload_n hx hb dX5_squaresOfX_4 rfl (lv_at hl 2 rfl) ?_
  refine lv_aload_n hx hb dX5_squaresOfX_5 rfl (lv_at hl 0 rfl) ?_
  refine ch_get S hw 3 (by decide) rfl rfl (by decide +kernel) 4 (by decide) (hts (.fieldLink RX5 24 "CodeHunt$Window" "size" "I") (by decide +kernel)) rfl dX5_squaresOfX_6 ?_
  refine ch_icmp_ge (tgt := 36) hx hb dX5_squaresOfX_9 (by decide) h (fun h => ?_) (fun h => ?_)
  · exact t_X5_squaresOfX_36 S fin h hw (lv_sub hl [1] rfl)
  · refine lv_lload_n hx hb dX5_squaresOfX_12 rfl (lv_at hl 1 rfl) ?_
    refine lv_aload_n hx hb dX5_squaresOfX_13 rfl (lv_at hl 0 rfl) ?_
    refine ch_get S hw 3 (by decide) rfl rfl (by decide +kernel) 0 (by decide) (hts (.fieldLink RX5 9 "CodeHunt$Window" "x" "[I") (by decide +kernel)) rfl dX5_squaresOfX_14 ?_
    refine lv_iload_n hx hb dX5_squaresOfX_17 rfl (lv_at hl 2 rfl) ?_
    refine ch_gd_k h (fun hin h => ?_)
    refine ch_iald S hw 31 (by decide) rfl hin dX5_squaresOfX_18 ?_
    refine lv_i2l hx hb dX5_squaresOfX_19 rfl ?_
    refine lv_aload_n hx hb dX5_squaresOfX_20 rfl (lv_at hl 0 rfl) ?_
    refine ch_get S hw 3 (by decide) rfl rfl (by decide +kernel) 0 (by decide) (hts (.fieldLink RX5 9 "CodeHunt$Window" "x" "[I") (by decide +kernel)) rfl dX5_squaresOfX_21 ?_
    refine lv_iload_n hx hb dX5_squaresOfX_24 rfl (lv_at hl 2 rfl) ?_
    refine ch_gd_k h (fun hin h => ?_)
    refine ch_iald S hw 31 (by decide) rfl hin dX5_squaresOfX_25 ?_
    refine lv_i2l hx hb dX5_squaresOfX_26 rfl ?_
    refine lv_lmul hx hb dX5_squaresOfX_27 ?_
    refine lv_ladd hx hb dX5_squaresOfX_28 ?_
    refine ch_topl h (fun u1 h => ?_)
    refine lv_lstore_n (lv' := [(1, .long u1), (0, .ref (sh 3)), (3, .int x3)]) hx hb dX5_squaresOfX_29 rfl hl (by decide) rfl (fun ls hl => ?_)
    refine lv_iinc (v := x3 + (1 : Int32)) (lv' := [(3, .int (x3 + (1 : Int32))), (1, .long u1), (0, .ref (sh 3))]) hx hb dX5_squaresOfX_30 hl (k := 2) rfl rfl (by decide) rfl (fun ls hl => ?_)
    refine lv_goto (tgt := 4) hx hb dX5_squaresOfX_33 (by decide) ?_
    exact hk4 _ _ _ _ _ _  h hw (lv_sub hl [2, 1, 0] rfl)
set_option maxHeartbeats 4000000 in
set_option maxRecDepth 100000 in
theorem tl_X5_squaresOfX_4 {p : Program} {l : Launch} {e : Env} {s : State} {m : MethodId} {args : Array Value} {below : List Frame} {meth : Method} {c : Code} {Q : State → Prop} {D : va_G} {I : ch_Id} {sh : Nat → Nat} {A : Nat → Prop} {oo : Int64 × ch_Mem}     (S : CallFix p m c cX5_squaresOfX 4 s args wsX5_squaresOfX RX5) (fin : ch_FinL p l e rm_X5_squaresOfX s m args below meth c cX5_squaresOfX Q D I 40 (ch_FC I sh) sh A oo)  (n : Nat) : ∀ (x1 : Int64) (x3 : Int32) (M : ch_Mem) (H : Heap) (locs : List Loc) (ls : Array Slot), D_X5_squaresOfX_L4  n x1 x3 M = some oo → ch_Wd D I 40 (ch_FC I sh) sh s A M H locs → lv_has ls 4 [(0, .ref (sh 3)), (1, .long x1), (3, .int x3)] → W p l e rm_X5_squaresOfX s m args below meth c H locs 0 0 Q (F0 m 4 ls []) := by
  induction n with
  | zero => intro x1 x3 M H locs ls  h; cases h
  | succ n ih =>
    intro x1 x3 M H locs ls  h hw hl
    exact t_X5_squaresOfX_4 S fin ih h hw hl
set_option maxHeartbeats 4000000 in
set_option maxRecDepth 100000 in
theorem t_X5_squaresOfX_0 {p : Program} {l : Launch} {e : Env} {s : State} {m : MethodId} {args : Array Value} {below : List Frame} {meth : Method} {c : Code} {Q : State → Prop} {D : va_G} {I : ch_Id} {sh : Nat → Nat} {A : Nat → Prop} {oo : Int64 × ch_Mem}     (S : CallFix p m c cX5_squaresOfX 4 s args wsX5_squaresOfX RX5) (fin : ch_FinL p l e rm_X5_squaresOfX s m args below meth c cX5_squaresOfX Q D I 40 (ch_FC I sh) sh A oo)    {M : ch_Mem} {H : Heap} {locs : List Loc} {ls : Array Slot} (h : D_X5_squaresOfX  M = some oo) (hw : ch_Wd D I 40 (ch_FC I sh) sh s A M H locs) (hl : lv_has ls 4 [(0, .ref (sh 3))]) : W p l e rm_X5_squaresOfX s m args below meth c H locs 0 0 Q (F0 m 0 ls []) := by
  obtain ⟨hx, hb, hml, hown, hts⟩ := id S
  unfold D_X5_squaresOfX at h
  refine lv_lconst (v := (0 : Int64)) hx hb dX5_squaresOfX_0 (by decide) ?_
  refine lv_lstore_n (lv' := [(1, .long (0 : Int64)), (0, .ref (sh 3))]) hx hb dX5_squaresOfX_1 rfl hl (by decide) rfl (fun ls hl => ?_)
  refine lv_iconst (v := (0 : Int32)) hx hb dX5_squaresOfX_2 (by decide) ?_
  refine lv_istore_n (lv' := [(3, .int (0 : Int32)), (1, .long (0 : Int64)), (0, .ref (sh 3))]) hx hb dX5_squaresOfX_3 rfl hl (by decide) rfl (fun ls hl => ?_)
  exact tl_X5_squaresOfX_4 S fin ch_fu _ _ _ _ _ _ h hw (lv_sub hl [2, 1, 0] rfl)
set_option maxHeartbeats 4000000 in
set_option maxRecDepth 100000 in
theorem c_X5_squaresOfX (l : Launch) (D : va_G) (I : ch_Id) (sh : Nat → Nat) (sz : Nat) (M : ch_Mem)   {r : Int64} {M1 : ch_Mem} (h : D_X5_squaresOfX  M = some (r, M1)) : Met l yX5_squaresOfX wsX5_squaresOfX rm_X5_squaresOfX (va_Pc [.ref (sh 3)] (ch_Pre D I 40 (ch_FC I sh) sh sz M)) (va_Ql (fun r' (u : ch_Mem) => r' = r ∧ u = M1) (ch_Pos D 40 (ch_FC I sh) sh) (ch_A 40 sh sz)) 0 0 (ch_A 40 sh sz) := by
  refine Met.ofW (cc := cX5_squaresOfX) (maxL := 4) (ret := (some .long)) (by decide) rfl ?_
  intro p e s m args below meth c s₁ B hml hv0
  obtain ⟨rfl, hv0⟩ := hv0
  obtain rfl : s.heap.size = sz := hv0.1
  have hw := ch_start hv0
  have S : CallFix p m c cX5_squaresOfX 4 s _ wsX5_squaresOfX RX5 := ⟨B.exec, B.bytes, hml, findClass_of_methodNamed B.named, atoms_spec (ws := wsX5_squaresOfX) B.pre⟩
  have hl := lv_entry ([.ref (sh 3)]) (n := 4) (Nat.le_of_ble_eq_true rfl)
  rw [lg_entry_eq]
  generalize (lg_sl ([.ref (sh 3)]) ++ List.replicate (4 - (lg_sl ([.ref (sh 3)])).length) Slot.unset).toArray = ls at hl ⊢
  exact t_X5_squaresOfX_0 S (ch_finL B.exec B.bytes B.returns B.notSynchronized) h hw (lv_sub hl [0] rfl)
set_option maxHeartbeats 4000000 in
set_option maxRecDepth 100000 in
theorem t_X5_turnBack_116 {p : Program} {l : Launch} {e : Env} {s : State} {m : MethodId} {args : Array Value} {below : List Frame} {meth : Method} {c : Code} {Q : State → Prop} {D : va_G} {I : ch_Id} {sh : Nat → Nat} {A : Nat → Prop} {oo : Unit × ch_Mem}    {k2 : Int32 → Int32 → ch_Mem → Option (Unit × ch_Mem)} (S : CallFix p m c cX5_turnBack 7 s args wsX5_turnBack RX5) (fin : ch_FinV p l e rm_X5_turnBack s m args below meth c cX5_turnBack Q D I 40 (ch_FC I sh) sh A oo) (hk2 : ∀ (x1 : Int32) (x2 : Int32) (M : ch_Mem) (H : Heap) (locs : List Loc) (ls : Array Slot), k2 x1 x2 M = some oo → ch_Wd D I 40 (ch_FC I sh) sh s A M H locs → lv_has ls 7 [(0, .ref (sh 3)), (1, .int x1), (2, .int x2)] → W p l e rm_X5_turnBack s m args below meth c H locs 0 0 Q (F0 m 2 ls [])) {x1 : Int32} {x2 : Int32} {y0 : Int32} {y1 : Int32}  {M : ch_Mem} {H : Heap} {locs : List Loc} {ls : Array Slot} (h : D_X5_turnBack_b116 k2 x1 x2 y0 y1 M = some oo) (hw : ch_Wd D I 40 (ch_FC I sh) sh s A M H locs) (hl : lv_has ls 7 [(0, .ref (sh 3)), (1, .int x1), (2, .int x2)]) : W p l e rm_X5_turnBack s m args below meth c H locs 0 0 Q (F0 m 116 ls [.int y0, .int y1, .ref (sh 34)]) := by
  obtain ⟨hx, hb, hml, hown, hts⟩ := id S
  unfold D_X5_turnBack_b116 at h
  refine ch_gd_k h (fun hin h => ?_)
  refine ch_iast S hw 34 (by decide) (fun _ => rfl) hin dX5_turnBack_116 (fun H locs hw => ?_)
  refine lv_iinc (v := x2 + (1 : Int32)) (lv' := [(2, .int (x2 + (1 : Int32))), (0, .ref (sh 3)), (1, .int x1)]) hx hb dX5_turnBack_117 hl (k := 2) rfl rfl (by decide) rfl (fun ls hl => ?_)
  refine lv_goto (tgt := 2) hx hb dX5_turnBack_120 (by decide) ?_
  exact hk2 _ _ _ _ _ _  h hw (lv_sub hl [1, 2, 0] rfl)
set_option maxHeartbeats 4000000 in
set_option maxRecDepth 100000 in
theorem t_X5_turnBack_108 {p : Program} {l : Launch} {e : Env} {s : State} {m : MethodId} {args : Array Value} {below : List Frame} {meth : Method} {c : Code} {Q : State → Prop} {D : va_G} {I : ch_Id} {sh : Nat → Nat} {A : Nat → Prop} {oo : Unit × ch_Mem}    {k2 : Int32 → Int32 → ch_Mem → Option (Unit × ch_Mem)} (S : CallFix p m c cX5_turnBack 7 s args wsX5_turnBack RX5) (fin : ch_FinV p l e rm_X5_turnBack s m args below meth c cX5_turnBack Q D I 40 (ch_FC I sh) sh A oo) (hk2 : ∀ (x1 : Int32) (x2 : Int32) (M : ch_Mem) (H : Heap) (locs : List Loc) (ls : Array Slot), k2 x1 x2 M = some oo → ch_Wd D I 40 (ch_FC I sh) sh s A M H locs → lv_has ls 7 [(0, .ref (sh 3)), (1, .int x1), (2, .int x2)] → W p l e rm_X5_turnBack s m args below meth c H locs 0 0 Q (F0 m 2 ls [])) {x1 : Int32} {x2 : Int32} {x6 : Int32} {y0 : Int32}  {M : ch_Mem} {H : Heap} {locs : List Loc} {ls : Array Slot} (h : D_X5_turnBack_b108 k2 x1 x2 x6 y0 M = some oo) (hw : ch_Wd D I 40 (ch_FC I sh) sh s A M H locs) (hl : lv_has ls 7 [(0, .ref (sh 3)), (1, .int x1), (2, .int x2), (6, .int x6)]) : W p l e rm_X5_turnBack s m args below meth c H locs 0 0 Q (F0 m 108 ls [.int y0, .ref (sh 34)]) := by
  obtain ⟨hx, hb, hml, hown, hts⟩ := id S
  unfold D_X5_turnBack_b108 at h
  refine lv_iload hx hb dX5_turnBack_108 (lv_at hl 3 rfl) ?_
  refine lv_ineg hx hb dX5_turnBack_110 ?_
  refine lv_goto (tgt := 116) hx hb dX5_turnBack_111 (by decide) ?_
  exact t_X5_turnBack_116 S fin hk2 h hw (lv_sub hl [0, 1, 2] rfl)
set_option maxHeartbeats 4000000 in
set_option maxRecDepth 100000 in
theorem t_X5_turnBack_92 {p : Program} {l : Launch} {e : Env} {s : State} {m : MethodId} {args : Array Value} {below : List Frame} {meth : Method} {c : Code} {Q : State → Prop} {D : va_G} {I : ch_Id} {sh : Nat → Nat} {A : Nat → Prop} {oo : Unit × ch_Mem}    {k2 : Int32 → Int32 → ch_Mem → Option (Unit × ch_Mem)} (S : CallFix p m c cX5_turnBack 7 s args wsX5_turnBack RX5) (fin : ch_FinV p l e rm_X5_turnBack s m args below meth c cX5_turnBack Q D I 40 (ch_FC I sh) sh A oo) (hk2 : ∀ (x1 : Int32) (x2 : Int32) (M : ch_Mem) (H : Heap) (locs : List Loc) (ls : Array Slot), k2 x1 x2 M = some oo → ch_Wd D I 40 (ch_FC I sh) sh s A M H locs → lv_has ls 7 [(0, .ref (sh 3)), (1, .int x1), (2, .int x2)] → W p l e rm_X5_turnBack s m args below meth c H locs 0 0 Q (F0 m 2 ls [])) {x1 : Int32} {x2 : Int32} {x3 : Int32} {x6 : Int32} {y0 : Int32} {y1 : Int32}  {M : ch_Mem} {H : Heap} {locs : List Loc} {ls : Array Slot} (h : D_X5_turnBack_b92 k2 x1 x2 x3 x6 y0 y1 M = some oo) (hw : ch_Wd D I 40 (ch_FC I sh) sh s A M H locs) (hl : lv_has ls 7 [(0, .ref (sh 3)), (1, .int x1), (2, .int x2), (3, .int x3), (6, .int x6)]) : W p l e rm_X5_turnBack s m args below meth c H locs 0 0 Q (F0 m 92 ls [.int y0, .int y1, .ref (sh 33)]) := by
  obtain ⟨hx, hb, hml, hown, hts⟩ := id S
  unfold D_X5_turnBack_b92 at h
  refine ch_gd_k h (fun hin h => ?_)
  refine ch_iast S hw 33 (by decide) (fun _ => rfl) hin dX5_turnBack_92 (fun H locs hw => ?_)
  refine lv_aload_n hx hb dX5_turnBack_93 rfl (lv_at hl 0 rfl) ?_
  refine ch_get S hw 3 (by decide) rfl rfl (by decide +kernel) 3 (by decide) (hts (.fieldLink RX5 21 "CodeHunt$Window" "turnedY" "[I") (by decide +kernel)) rfl dX5_turnBack_94 ?_
  refine lv_iload_n hx hb dX5_turnBack_97 rfl (lv_at hl 2 rfl) ?_
  refine lv_iload_n hx hb dX5_turnBack_98 rfl (lv_at hl 3 rfl) ?_
  refine lv_iconst (v := (1 : Int32)) hx hb dX5_turnBack_99 (by decide) ?_
  refine ch_icmp_eq (tgt := 108) hx hb dX5_turnBack_100 (by decide) h (fun h => ?_) (fun h => ?_)
  · exact t_X5_turnBack_108 S fin hk2 h hw (lv_sub hl [0, 1, 2, 4] rfl)
  · refine lv_iload_n hx hb dX5_turnBack_103 rfl (lv_at hl 3 rfl) ?_
    refine lv_iconst (v := (2 : Int32)) hx hb dX5_turnBack_104 (by decide) ?_
    refine ch_icmp_ne (tgt := 114) hx hb dX5_turnBack_105 (by decide) h (fun h => ?_) (fun h => ?_)
    · refine lv_iload hx hb dX5_turnBack_114 (lv_at hl 4 rfl) ?_
      exact t_X5_turnBack_116 S fin hk2 h hw (lv_sub hl [0, 1, 2] rfl)
    · exact t_X5_turnBack_108 S fin hk2 h hw (lv_sub hl [0, 1, 2, 4] rfl)
set_option maxHeartbeats 4000000 in
set_option maxRecDepth 100000 in
theorem t_X5_turnBack_72 {p : Program} {l : Launch} {e : Env} {s : State} {m : MethodId} {args : Array Value} {below : List Frame} {meth : Method} {c : Code} {Q : State → Prop} {D : va_G} {I : ch_Id} {sh : Nat → Nat} {A : Nat → Prop} {oo : Unit × ch_Mem}    {k2 : Int32 → Int32 → ch_Mem → Option (Unit × ch_Mem)} (S : CallFix p m c cX5_turnBack 7 s args wsX5_turnBack RX5) (fin : ch_FinV p l e rm_X5_turnBack s m args below meth c cX5_turnBack Q D I 40 (ch_FC I sh) sh A oo) (hk2 : ∀ (x1 : Int32) (x2 : Int32) (M : ch_Mem) (H : Heap) (locs : List Loc) (ls : Array Slot), k2 x1 x2 M = some oo → ch_Wd D I 40 (ch_FC I sh) sh s A M H locs → lv_has ls 7 [(0, .ref (sh 3)), (1, .int x1), (2, .int x2)] → W p l e rm_X5_turnBack s m args below meth c H locs 0 0 Q (F0 m 2 ls [])) {x1 : Int32} {x2 : Int32} {x3 : Int32} {x5 : Int32} {y0 : Int32}  {M : ch_Mem} {H : Heap} {locs : List Loc} {ls : Array Slot} (h : D_X5_turnBack_b72 k2 x1 x2 x3 x5 y0 M = some oo) (hw : ch_Wd D I 40 (ch_FC I sh) sh s A M H locs) (hl : lv_has ls 7 [(0, .ref (sh 3)), (1, .int x1), (2, .int x2), (3, .int x3), (5, .int x5)]) : W p l e rm_X5_turnBack s m args below meth c H locs 0 0 Q (F0 m 72 ls [.int y0]) := by
  obtain ⟨hx, hb, hml, hown, hts⟩ := id S
  unfold D_X5_turnBack_b72 at h
  refine lv_istore (lv' := [(6, .int y0), (0, .ref (sh 3)), (1, .int x1), (2, .int x2), (3, .int x3), (5, .int x5)]) hx hb dX5_turnBack_72 hl (by decide) rfl (fun ls hl => ?_)
  refine lv_aload_n hx hb dX5_turnBack_74 rfl (lv_at hl 1 rfl) ?_
  refine ch_get S hw 3 (by decide) rfl rfl (by decide +kernel) 2 (by decide) (hts (.fieldLink RX5 18 "CodeHunt$Window" "turnedX" "[I") (by decide +kernel)) rfl dX5_turnBack_75 ?_
  refine lv_iload_n hx hb dX5_turnBack_78 rfl (lv_at hl 3 rfl) ?_
  refine lv_iload_n hx hb dX5_turnBack_79 rfl (lv_at hl 4 rfl) ?_
  refine lv_iconst (v := (2 : Int32)) hx hb dX5_turnBack_80 (by decide) ?_
  refine ch_icmp_lt (tgt := 90) hx hb dX5_turnBack_81 (by decide) h (fun h => ?_) (fun h => ?_)
  · refine lv_iload hx hb dX5_turnBack_90 (lv_at hl 5 rfl) ?_
    exact t_X5_turnBack_92 S fin hk2 h hw (lv_sub hl [1, 2, 3, 4, 0] rfl)
  · refine lv_iload hx hb dX5_turnBack_84 (lv_at hl 5 rfl) ?_
    refine lv_ineg hx hb dX5_turnBack_86 ?_
    refine lv_goto (tgt := 92) hx hb dX5_turnBack_87 (by decide) ?_
    exact t_X5_turnBack_92 S fin hk2 h hw (lv_sub hl [1, 2, 3, 4, 0] rfl)
set_option maxHeartbeats 4000000 in
set_option maxRecDepth 100000 in
theorem t_X5_turnBack_50 {p : Program} {l : Launch} {e : Env} {s : State} {m : MethodId} {args : Array Value} {below : List Frame} {meth : Method} {c : Code} {Q : State → Prop} {D : va_G} {I : ch_Id} {sh : Nat → Nat} {A : Nat → Prop} {oo : Unit × ch_Mem}    {k2 : Int32 → Int32 → ch_Mem → Option (Unit × ch_Mem)} (S : CallFix p m c cX5_turnBack 7 s args wsX5_turnBack RX5) (fin : ch_FinV p l e rm_X5_turnBack s m args below meth c cX5_turnBack Q D I 40 (ch_FC I sh) sh A oo) (hk2 : ∀ (x1 : Int32) (x2 : Int32) (M : ch_Mem) (H : Heap) (locs : List Loc) (ls : Array Slot), k2 x1 x2 M = some oo → ch_Wd D I 40 (ch_FC I sh) sh s A M H locs → lv_has ls 7 [(0, .ref (sh 3)), (1, .int x1), (2, .int x2)] → W p l e rm_X5_turnBack s m args below meth c H locs 0 0 Q (F0 m 2 ls [])) {x1 : Int32} {x2 : Int32} {x3 : Int32} {x4 : Int32} {y0 : Int32}  {M : ch_Mem} {H : Heap} {locs : List Loc} {ls : Array Slot} (h : D_X5_turnBack_b50 k2 x1 x2 x3 x4 y0 M = some oo) (hw : ch_Wd D I 40 (ch_FC I sh) sh s A M H locs) (hl : lv_has ls 7 [(0, .ref (sh 3)), (1, .int x1), (2, .int x2), (3, .int x3), (4, .int x4)]) : W p l e rm_X5_turnBack s m args below meth c H locs 0 0 Q (F0 m 50 ls [.int y0]) := by
  obtain ⟨hx, hb, hml, hown, hts⟩ := id S
  unfold D_X5_turnBack_b50 at h
  refine lv_istore (lv' := [(5, .int y0), (0, .ref (sh 3)), (1, .int x1), (2, .int x2), (3, .int x3), (4, .int x4)]) hx hb dX5_turnBack_50 hl (by decide) rfl (fun ls hl => ?_)
  refine lv_iload hx hb dX5_turnBack_52 (lv_at hl 5 rfl) ?_
  refine ch_if_eq (tgt := 66) hx hb dX5_turnBack_54 (by decide) h (fun h => ?_) (fun h => ?_)
  · refine lv_aload_n hx hb dX5_turnBack_66 rfl (lv_at hl 1 rfl) ?_
    refine ch_get S hw 3 (by decide) rfl rfl (by decide +kernel) 1 (by decide) (hts (.fieldLink RX5 15 "CodeHunt$Window" "y" "[I") (by decide +kernel)) rfl dX5_turnBack_67 ?_
    refine lv_iload_n hx hb dX5_turnBack_70 rfl (lv_at hl 3 rfl) ?_
    refine ch_gd_k h (fun hin h => ?_)
    refine ch_iald S hw 32 (by decide) rfl hin dX5_turnBack_71 ?_
    exact t_X5_turnBack_72 S fin hk2 h hw (lv_sub hl [1, 2, 3, 4, 0] rfl)
  · refine lv_aload_n hx hb dX5_turnBack_57 rfl (lv_at hl 1 rfl) ?_
    refine ch_get S hw 3 (by decide) rfl rfl (by decide +kernel) 0 (by decide) (hts (.fieldLink RX5 9 "CodeHunt$Window" "x" "[I") (by decide +kernel)) rfl dX5_turnBack_58 ?_
    refine lv_iload_n hx hb dX5_turnBack_61 rfl (lv_at hl 3 rfl) ?_
    refine ch_gd_k h (fun hin h => ?_)
    refine ch_iald S hw 31 (by decide) rfl hin dX5_turnBack_62 ?_
    refine lv_goto (tgt := 72) hx hb dX5_turnBack_63 (by decide) ?_
    exact t_X5_turnBack_72 S fin hk2 h hw (lv_sub hl [1, 2, 3, 4, 0] rfl)
set_option maxHeartbeats 4000000 in
set_option maxRecDepth 100000 in
theorem t_X5_turnBack_28 {p : Program} {l : Launch} {e : Env} {s : State} {m : MethodId} {args : Array Value} {below : List Frame} {meth : Method} {c : Code} {Q : State → Prop} {D : va_G} {I : ch_Id} {sh : Nat → Nat} {A : Nat → Prop} {oo : Unit × ch_Mem}    {k2 : Int32 → Int32 → ch_Mem → Option (Unit × ch_Mem)} (S : CallFix p m c cX5_turnBack 7 s args wsX5_turnBack RX5) (fin : ch_FinV p l e rm_X5_turnBack s m args below meth c cX5_turnBack Q D I 40 (ch_FC I sh) sh A oo) (hk2 : ∀ (x1 : Int32) (x2 : Int32) (M : ch_Mem) (H : Heap) (locs : List Loc) (ls : Array Slot), k2 x1 x2 M = some oo → ch_Wd D I 40 (ch_FC I sh) sh s A M H locs → lv_has ls 7 [(0, .ref (sh 3)), (1, .int x1), (2, .int x2)] → W p l e rm_X5_turnBack s m args below meth c H locs 0 0 Q (F0 m 2 ls [])) {x1 : Int32} {x2 : Int32} {x3 : Int32} {y0 : Int32}  {M : ch_Mem} {H : Heap} {locs : List Loc} {ls : Array Slot} (h : D_X5_turnBack_b28 k2 x1 x2 x3 y0 M = some oo) (hw : ch_Wd D I 40 (ch_FC I sh) sh s A M H locs) (hl : lv_has ls 7 [(0, .ref (sh 3)), (1, .int x1), (2, .int x2), (3, .int x3)]) : W p l e rm_X5_turnBack s m args below meth c H locs 0 0 Q (F0 m 28 ls [.int y0]) := by
  obtain ⟨hx, hb, hml, hown, hts⟩ := id S
  unfold D_X5_turnBack_b28 at h
  refine lv_istore (lv' := [(4, .int y0), (0, .ref (sh 3)), (1, .int x1), (2, .int x2), (3, .int x3)]) hx hb dX5_turnBack_28 hl (by decide) rfl (fun ls hl => ?_)
  refine lv_iload hx hb dX5_turnBack_30 (lv_at hl 0 rfl) ?_
  refine ch_if_eq (tgt := 44) hx hb dX5_turnBack_32 (by decide) h (fun h => ?_) (fun h => ?_)
  · refine lv_aload_n hx hb dX5_turnBack_44 rfl (lv_at hl 1 rfl) ?_
    refine ch_get S hw 3 (by decide) rfl rfl (by decide +kernel) 0 (by decide) (hts (.fieldLink RX5 9 "CodeHunt$Window" "x" "[I") (by decide +kernel)) rfl dX5_turnBack_45 ?_
    refine lv_iload_n hx hb dX5_turnBack_48 rfl (lv_at hl 3 rfl) ?_
    refine ch_gd_k h (fun hin h => ?_)
    refine ch_iald S hw 31 (by decide) rfl hin dX5_turnBack_49 ?_
    exact t_X5_turnBack_50 S fin hk2 h hw (lv_sub hl [1, 2, 3, 4, 0] rfl)
  · refine lv_aload_n hx hb dX5_turnBack_35 rfl (lv_at hl 1 rfl) ?_
    refine ch_get S hw 3 (by decide) rfl rfl (by decide +kernel) 1 (by decide) (hts (.fieldLink RX5 15 "CodeHunt$Window" "y" "[I") (by decide +kernel)) rfl dX5_turnBack_36 ?_
    refine lv_iload_n hx hb dX5_turnBack_39 rfl (lv_at hl 3 rfl) ?_
    refine ch_gd_k h (fun hin h => ?_)
    refine ch_iald S hw 32 (by decide) rfl hin dX5_turnBack_40 ?_
    refine lv_goto (tgt := 50) hx hb dX5_turnBack_41 (by decide) ?_
    exact t_X5_turnBack_50 S fin hk2 h hw (lv_sub hl [1, 2, 3, 4, 0] rfl)
set_option maxHeartbeats 4000000 in
set_option maxRecDepth 100000 in
theorem t_X5_turnBack_2 {p : Program} {l : Launch} {e : Env} {s : State} {m : MethodId} {args : Array Value} {below : List Frame} {meth : Method} {c : Code} {Q : State → Prop} {D : va_G} {I : ch_Id} {sh : Nat → Nat} {A : Nat → Prop} {oo : Unit × ch_Mem}    {k2 : Int32 → Int32 → ch_Mem → Option (Unit × ch_Mem)} (S : CallFix p m c cX5_turnBack 7 s args wsX5_turnBack RX5) (fin : ch_FinV p l e rm_X5_turnBack s m args below meth c cX5_turnBack Q D I 40 (ch_FC I sh) sh A oo) (hk2 : ∀ (x1 : Int32) (x2 : Int32) (M : ch_Mem) (H : Heap) (locs : List Loc) (ls : Array Slot), k2 x1 x2 M = some oo → ch_Wd D I 40 (ch_FC I sh) sh s A M H locs → lv_has ls 7 [(0, .ref (sh 3)), (1, .int x1), (2, .int x2)] → W p l e rm_X5_turnBack s m args below meth c H locs 0 0 Q (F0 m 2 ls [])) {x1 : Int32} {x2 : Int32}  {M : ch_Mem} {H : Heap} {locs : List Loc} {ls : Array Slot} (h : D_X5_turnBack_b2 k2 x1 x2 M = some oo) (hw : ch_Wd D I 40 (ch_FC I sh) sh s A M H locs) (hl : lv_has ls 7 [(0, .ref (sh 3)), (1, .int x1), (2, .int x2)]) : W p l e rm_X5_turnBack s m args below meth c H locs 0 0 Q (F0 m 2 ls []) := by
  obtain ⟨hx, hb, hml, hown, hts⟩ := id S
  unfold D_X5_turnBack_b2 at h
  refine lv_iload_n hx hb dX5_turnBack_2 rfl (lv_at hl 2 rfl) ?_
  refine lv_aload_n hx hb dX5_turnBack_3 rfl (lv_at hl 0 rfl) ?_
  refine ch_get S hw 3 (by decide) rfl rfl (by decide +kernel) 4 (by decide) (hts (.fieldLink RX5 24 "CodeHunt$Window" "size" "I") (by decide +kernel)) rfl dX5_turnBack_4 ?_
  refine ch_icmp_ge (tgt := 123) hx hb dX5_turnBack_7 (by decide) h (fun h => ?_) (fun h => ?_)
  · exact fin _ _ _ _ _ h hw dX5_turnBack_123
  · refine lv_iload_n hx hb dX5_turnBack_10 rfl (lv_at hl 1 rfl) ?_
    refine lv_iload_n hx hb dX5_turnBack_11 rfl (lv_at hl 2 rfl) ?_
    refine lv_imul hx hb dX5_turnBack_12 ?_
    refine lv_iconst (v := (3 : Int32)) hx hb dX5_turnBack_13 (by decide) ?_
    refine lv_iand hx hb dX5_turnBack_14 ?_
    refine lv_istore_n (lv' := [(3, .int ((x1 * x2) &&& (3 : Int32))), (0, .ref (sh 3)), (1, .int x1), (2, .int x2)]) hx hb dX5_turnBack_15 rfl hl (by decide) rfl (fun ls hl => ?_)
    refine lv_iload_n hx hb dX5_turnBack_16 rfl (lv_at hl 0 rfl) ?_
    refine lv_iconst (v := (1 : Int32)) hx hb dX5_turnBack_17 (by decide) ?_
    refine lv_iand hx hb dX5_turnBack_18 ?_
    refine lv_iconst (v := (1 : Int32)) hx hb dX5_turnBack_19 (by decide) ?_
    refine ch_icmp_ne (tgt := 27) hx hb dX5_turnBack_20 (by decide) h (fun h => ?_) (fun h => ?_)
    · refine lv_iconst (v := (0 : Int32)) hx hb dX5_turnBack_27 (by decide) ?_
      exact t_X5_turnBack_28 S fin hk2 h hw (lv_sub hl [1, 2, 3, 0] rfl)
    · refine lv_iconst (v := (1 : Int32)) hx hb dX5_turnBack_23 (by decide) ?_
      refine lv_goto (tgt := 28) hx hb dX5_turnBack_24 (by decide) ?_
      exact t_X5_turnBack_28 S fin hk2 h hw (lv_sub hl [1, 2, 3, 0] rfl)
set_option maxHeartbeats 4000000 in
set_option maxRecDepth 100000 in
theorem tl_X5_turnBack_2 {p : Program} {l : Launch} {e : Env} {s : State} {m : MethodId} {args : Array Value} {below : List Frame} {meth : Method} {c : Code} {Q : State → Prop} {D : va_G} {I : ch_Id} {sh : Nat → Nat} {A : Nat → Prop} {oo : Unit × ch_Mem}     (S : CallFix p m c cX5_turnBack 7 s args wsX5_turnBack RX5) (fin : ch_FinV p l e rm_X5_turnBack s m args below meth c cX5_turnBack Q D I 40 (ch_FC I sh) sh A oo)  (n : Nat) : ∀ (x1 : Int32) (x2 : Int32) (M : ch_Mem) (H : Heap) (locs : List Loc) (ls : Array Slot), D_X5_turnBack_L2  n x1 x2 M = some oo → ch_Wd D I 40 (ch_FC I sh) sh s A M H locs → lv_has ls 7 [(0, .ref (sh 3)), (1, .int x1), (2, .int x2)] → W p l e rm_X5_turnBack s m args below meth c H locs 0 0 Q (F0 m 2 ls []) := by
  induction n with
  | zero => intro x1 x2 M H locs ls  h; cases h
  | succ n ih =>
    intro x1 x2 M H locs ls  h hw hl
    exact t_X5_turnBack_2 S fin ih h hw hl
set_option maxHeartbeats 4000000 in
set_option maxRecDepth 100000 in
theorem t_X5_turnBack_0 {p : Program} {l : Launch} {e : Env} {s : State} {m : MethodId} {args : Array Value} {below : List Frame} {meth : Method} {c : Code} {Q : State → Prop} {D : va_G} {I : ch_Id} {sh : Nat → Nat} {A : Nat → Prop} {oo : Unit × ch_Mem}     (S : CallFix p m c cX5_turnBack 7 s args wsX5_turnBack RX5) (fin : ch_FinV p l e rm_X5_turnBack s m args below meth c cX5_turnBack Q D I 40 (ch_FC I sh) sh A oo)  {x1 : Int32}  {M : ch_Mem} {H : Heap} {locs : List Loc} {ls : Array Slot} (h : D_X5_turnBack x1 M = some oo) (hw : ch_Wd D I 40 (ch_FC I sh) sh s A M H locs) (hl : lv_has ls 7 [(0, .ref (sh 3)), (1, .int x1)]) : W p l e rm_X5_turnBack s m args below meth c H locs 0 0 Q (F0 m 0 ls []) := by
  obtain ⟨hx, hb, hml, hown, hts⟩ := id S
  unfold D_X5_turnBack at h
  refine lv_iconst (v := (0 : Int32)) hx hb dX5_turnBack_0 (by decide) ?_
  refine lv_istore_n (lv' := [(2, .int (0 : Int32)), (0, .ref (sh 3)), (1, .int x1)]) hx hb dX5_turnBack_1 rfl hl (by decide) rfl (fun ls hl => ?_)
  exact tl_X5_turnBack_2 S fin ch_fu _ _ _ _ _ _ h hw (lv_sub hl [1, 2, 0] rfl)
set_option maxHeartbeats 4000000 in
set_option maxRecDepth 100000 in
theorem c_X5_turnBack (l : Launch) (D : va_G) (I : ch_Id) (sh : Nat → Nat) (sz : Nat) (M : ch_Mem)  (x1 : Int32) {M1 : ch_Mem} (h : D_X5_turnBack x1 M = some ((), M1)) : Met l yX5_turnBack wsX5_turnBack rm_X5_turnBack (va_Pc [.ref (sh 3), .int x1] (ch_Pre D I 40 (ch_FC I sh) sh sz M)) (va_Qv (fun (u : ch_Mem) => u = M1) (ch_Pos D 40 (ch_FC I sh) sh) (ch_A 40 sh sz)) 0 0 (ch_A 40 sh sz) := by
  refine Met.ofW (cc := cX5_turnBack) (maxL := 7) (ret := none) (by decide) rfl ?_
  intro p e s m args below meth c s₁ B hml hv0
  obtain ⟨rfl, hv0⟩ := hv0
  obtain rfl : s.heap.size = sz := hv0.1
  have hw := ch_start hv0
  have S : CallFix p m c cX5_turnBack 7 s _ wsX5_turnBack RX5 := ⟨B.exec, B.bytes, hml, findClass_of_methodNamed B.named, atoms_spec (ws := wsX5_turnBack) B.pre⟩
  have hl := lv_entry ([.ref (sh 3), .int x1]) (n := 7) (Nat.le_of_ble_eq_true rfl)
  rw [lg_entry_eq]
  generalize (lg_sl ([.ref (sh 3), .int x1]) ++ List.replicate (7 - (lg_sl ([.ref (sh 3), .int x1])).length) Slot.unset).toArray = ls at hl ⊢
  exact t_X5_turnBack_0 S (ch_finV B.exec B.bytes B.returns B.notSynchronized) h hw (lv_sub hl [0, 1] rfl)
