set_option maxHeartbeats 4000000 in
set_option maxRecDepth 100000 in
theorem t_X2_itemOrZero_0 {p : Program} {l : Launch} {e : Env} {s : State} {m : MethodId} {args : Array Value} {below : List Frame} {meth : Method} {c : Code} {Q : State → Prop} {D : va_G} {I : ch_Id} {sh : Nat → Nat} {A : Nat → Prop} {oo : Int32 × ch_Mem} {o : Nat} (ho : 23 ≤ o ∧ o < 27)   (S : CallFix p m c cX2_itemOrZero 2 s args wsX2_itemOrZero RX2) (fin : ch_FinI p l e rm_X2_itemOrZero s m args below meth c cX2_itemOrZero Q D I 40 (ch_FC I sh) sh A oo)  {x1 : Int32}  {M : ch_Mem} {H : Heap} {locs : List Loc} {ls : Array Slot} (h : D_X2_itemOrZero o x1 M = some oo) (hw : ch_Wd D I 40 (ch_FC I sh) sh s A M H locs) (hl : lv_has ls 2 [(0, .ref (sh o)), (1, .int x1)]) : W p l e rm_X2_itemOrZero s m args below meth c H locs 0 0 Q (F0 m 0 ls []) := by
  obtain ⟨hx, hb, hml, hown, hts⟩ := id S
  unfold D_X2_itemOrZero at h
  refine lv_aload_n hx hb dX2_itemOrZero_0 rfl (lv_at hl 0 rfl) ?_
  refine lv_iload_n hx hb dX2_itemOrZero_1 rfl (lv_at hl 1 rfl) ?_
  refine ch_bd_k h (fun r1 M2 hc h => ?_)
  refine ch_ci hw (va_runV (As := [.int x1]) (rest := []) S (c_X2_hasItem l D I sh H.size M o ho x1 hc) (cwV 1 hts gX2_itemOrZero_X2_hasItem rfl rfl rfl (by decide +kernel) ⟨Nat.le_of_ble_eq_true rfl, Nat.le_of_ble_eq_true rfl⟩) (ch_pV hw (by omega) (ch_FC_reel (by omega)) rfl rfl) rfl rfl hl.1 rfl (lv_room (Nat.le_of_ble_eq_true rfl)) dX2_itemOrZero_2 ⟨Nat.le_refl 0, Nat.le_refl 0⟩) (fun H locs hw => ?_)
  refine ch_if_eq (tgt := 17) hx hb dX2_itemOrZero_5 (by decide) h (fun h => ?_) (fun h => ?_)
  · refine lv_iconst (v := (0 : Int32)) hx hb dX2_itemOrZero_17 (by decide) ?_
    exact fin _ _ _ _ _ _ h hw dX2_itemOrZero_18
  · refine lv_aload_n hx hb dX2_itemOrZero_8 rfl (lv_at hl 0 rfl) ?_
    refine ch_get S hw o (by omega) (ch_FC_reel (by omega)) rfl (by decide +kernel) 0 (by decide) (hts (.fieldLink RX2 9 "CodeHunt$Reel" "items" "[I") (by decide +kernel)) rfl dX2_itemOrZero_9 ?_
    refine lv_iload_n hx hb dX2_itemOrZero_12 rfl (lv_at hl 1 rfl) ?_
    refine ch_gd_k h (fun hin h => ?_)
    refine ch_iald S hw (o + 4) (by omega) (ch_FC_itm (by omega) _) hin dX2_itemOrZero_13 ?_
    refine lv_goto (tgt := 18) hx hb dX2_itemOrZero_14 (by decide) ?_
    exact fin _ _ _ _ _ _ h hw dX2_itemOrZero_18
set_option maxHeartbeats 4000000 in
set_option maxRecDepth 100000 in
theorem c_X2_itemOrZero (l : Launch) (D : va_G) (I : ch_Id) (sh : Nat → Nat) (sz : Nat) (M : ch_Mem) (o : Nat) (ho : 23 ≤ o ∧ o < 27) (x1 : Int32) {r : Int32} {M1 : ch_Mem} (h : D_X2_itemOrZero o x1 M = some (r, M1)) : Met l yX2_itemOrZero wsX2_itemOrZero rm_X2_itemOrZero (va_Pc [.ref (sh o), .int x1] (ch_Pre D I 40 (ch_FC I sh) sh sz M)) (va_Qi (fun r' (u : ch_Mem) => r' = r ∧ u = M1) (ch_Pos D 40 (ch_FC I sh) sh) (ch_A 40 sh sz)) 0 0 (ch_A 40 sh sz) := by
  refine Met.ofW (cc := cX2_itemOrZero) (maxL := 2) (ret := (some .int)) (by decide) rfl ?_
  intro p e s m args below meth c s₁ B hml hv0
  obtain ⟨rfl, hv0⟩ := hv0
  obtain rfl : s.heap.size = sz := hv0.1
  have hw := ch_start hv0
  have S : CallFix p m c cX2_itemOrZero 2 s _ wsX2_itemOrZero RX2 := ⟨B.exec, B.bytes, hml, findClass_of_methodNamed B.named, atoms_spec (ws := wsX2_itemOrZero) B.pre⟩
  have hl := lv_entry ([.ref (sh o), .int x1]) (n := 2) (Nat.le_of_ble_eq_true rfl)
  rw [lg_entry_eq]
  generalize (lg_sl ([.ref (sh o), .int x1]) ++ List.replicate (2 - (lg_sl ([.ref (sh o), .int x1])).length) Slot.unset).toArray = ls at hl ⊢
  exact t_X2_itemOrZero_0 ho S (ch_finI (B := fun _ => True) B.exec B.bytes B.returns B.notSynchronized) h hw (lv_sub hl [0, 1] rfl)
set_option maxHeartbeats 4000000 in
set_option maxRecDepth 100000 in
theorem t_X2_lowestBits_0 {p : Program} {l : Launch} {e : Env} {s : State} {m : MethodId} {args : Array Value} {below : List Frame} {meth : Method} {c : Code} {Q : State → Prop} {D : va_G} {I : ch_Id} {sh : Nat → Nat} {A : Nat → Prop} {oo : Int32 × ch_Mem} {o : Nat} (ho : 23 ≤ o ∧ o < 27)   (S : CallFix p m c cX2_lowestBits 2 s args wsX2_lowestBits RX2) (fin : ch_FinI p l e rm_X2_lowestBits s m args below meth c cX2_lowestBits Q D I 40 (ch_FC I sh) sh A oo)  {x1 : Int32}  {M : ch_Mem} {H : Heap} {locs : List Loc} {ls : Array Slot} (h : D_X2_lowestBits o x1 M = some oo) (hw : ch_Wd D I 40 (ch_FC I sh) sh s A M H locs) (hl : lv_has ls 2 [(0, .ref (sh o)), (1, .int x1)]) : W p l e rm_X2_lowestBits s m args below meth c H locs 0 0 Q (F0 m 0 ls []) := by
  obtain ⟨hx, hb, hml, hown, hts⟩ := id S
  unfold D_X2_lowestBits at h
  refine lv_aload_n hx hb dX2_lowestBits_0 rfl (lv_at hl 0 rfl) ?_
  refine ch_get S hw o (by omega) (ch_FC_reel (by omega)) rfl (by decide +kernel) 2 (by decide) (hts (.fieldLink RX2 19 "CodeHunt$Reel" "form" "I") (by decide +kernel)) rfl dX2_lowestBits_1 ?_
  refine ch_if_ne (tgt := 10) hx hb dX2_lowestBits_4 (by decide) h (fun h => ?_) (fun h => ?_)
  · refine lv_aload_n hx hb dX2_lowestBits_10 rfl (lv_at hl 0 rfl) ?_
    refine ch_get S hw o (by omega) (ch_FC_reel (by omega)) rfl (by decide +kernel) 2 (by decide) (hts (.fieldLink RX2 19 "CodeHunt$Reel" "form" "I") (by decide +kernel)) rfl dX2_lowestBits_11 ?_
    refine lv_iconst (v := (1 : Int32)) hx hb dX2_lowestBits_14 (by decide) ?_
    refine ch_icmp_ne (tgt := 23) hx hb dX2_lowestBits_15 (by decide) h (fun h => ?_) (fun h => ?_)
    · refine lv_iload_n hx hb dX2_lowestBits_23 rfl (lv_at hl 1 rfl) ?_
      exact fin _ _ _ _ _ _ h hw dX2_lowestBits_24
    · refine lv_iload_n hx hb dX2_lowestBits_18 rfl (lv_at hl 1 rfl) ?_
      refine lv_i2s hx hb dX2_lowestBits_19 rfl ?_
      refine lv_goto (tgt := 24) hx hb dX2_lowestBits_20 (by decide) ?_
      exact fin _ _ _ _ _ _ h hw dX2_lowestBits_24
  · refine lv_iload_n hx hb dX2_lowestBits_7 rfl (lv_at hl 1 rfl) ?_
    refine lv_i2b hx hb dX2_lowestBits_8 rfl ?_
    exact fin _ _ _ _ _ _ h hw dX2_lowestBits_9
set_option maxHeartbeats 4000000 in
set_option maxRecDepth 100000 in
theorem c_X2_lowestBits (l : Launch) (D : va_G) (I : ch_Id) (sh : Nat → Nat) (sz : Nat) (M : ch_Mem) (o : Nat) (ho : 23 ≤ o ∧ o < 27) (x1 : Int32) {r : Int32} {M1 : ch_Mem} (h : D_X2_lowestBits o x1 M = some (r, M1)) : Met l yX2_lowestBits wsX2_lowestBits rm_X2_lowestBits (va_Pc [.ref (sh o), .int x1] (ch_Pre D I 40 (ch_FC I sh) sh sz M)) (va_Qi (fun r' (u : ch_Mem) => r' = r ∧ u = M1) (ch_Pos D 40 (ch_FC I sh) sh) (ch_A 40 sh sz)) 0 0 (ch_A 40 sh sz) := by
  refine Met.ofW (cc := cX2_lowestBits) (maxL := 2) (ret := (some .int)) (by decide) rfl ?_
  intro p e s m args below meth c s₁ B hml hv0
  obtain ⟨rfl, hv0⟩ := hv0
  obtain rfl : s.heap.size = sz := hv0.1
  have hw := ch_start hv0
  have S : CallFix p m c cX2_lowestBits 2 s _ wsX2_lowestBits RX2 := ⟨B.exec, B.bytes, hml, findClass_of_methodNamed B.named, atoms_spec (ws := wsX2_lowestBits) B.pre⟩
  have hl := lv_entry ([.ref (sh o), .int x1]) (n := 2) (Nat.le_of_ble_eq_true rfl)
  rw [lg_entry_eq]
  generalize (lg_sl ([.ref (sh o), .int x1]) ++ List.replicate (2 - (lg_sl ([.ref (sh o), .int x1])).length) Slot.unset).toArray = ls at hl ⊢
  exact t_X2_lowestBits_0 ho S (ch_finI (B := fun _ => True) B.exec B.bytes B.returns B.notSynchronized) h hw (lv_sub hl [0, 1] rfl)
set_option maxHeartbeats 4000000 in
set_option maxRecDepth 100000 in
theorem t_X2_keep_0 {p : Program} {l : Launch} {e : Env} {s : State} {m : MethodId} {args : Array Value} {below : List Frame} {meth : Method} {c : Code} {Q : State → Prop} {D : va_G} {I : ch_Id} {sh : Nat → Nat} {A : Nat → Prop} {oo : Unit × ch_Mem} {o : Nat} (ho : 23 ≤ o ∧ o < 27)   (S : CallFix p m c cX2_keep 3 s args wsX2_keep RX2) (fin : ch_FinV p l e rm_X2_keep s m args below meth c cX2_keep Q D I 40 (ch_FC I sh) sh A oo)  {x1 : Int32} {x2 : Int32}  {M : ch_Mem} {H : Heap} {locs : List Loc} {ls : Array Slot} (h : D_X2_keep o x1 x2 M = some oo) (hw : ch_Wd D I 40 (ch_FC I sh) sh s A M H locs) (hl : lv_has ls 3 [(0, .ref (sh o)), (1, .int x1), (2, .int x2)]) : W p l e rm_X2_keep s m args below meth c H locs 0 0 Q (F0 m 0 ls []) := by
  obtain ⟨hx, hb, hml, hown, hts⟩ := id S
  unfold D_X2_keep at h
  refine lv_aload_n hx hb dX2_keep_0 rfl (lv_at hl 0 rfl) ?_
  refine lv_iload_n hx hb dX2_keep_1 rfl (lv_at hl 1 rfl) ?_
  refine ch_bd_k h (fun r1 M2 hc h => ?_)
  refine ch_ci hw (va_runV (As := [.int x1]) (rest := []) S (c_X2_hasItem l D I sh H.size M o ho x1 hc) (cwV 1 hts gX2_keep_X2_hasItem rfl rfl rfl (by decide +kernel) ⟨Nat.le_of_ble_eq_true rfl, Nat.le_of_ble_eq_true rfl⟩) (ch_pV hw (by omega) (ch_FC_reel (by omega)) rfl rfl) rfl rfl hl.1 rfl (lv_room (Nat.le_of_ble_eq_true rfl)) dX2_keep_2 ⟨Nat.le_refl 0, Nat.le_refl 0⟩) (fun H locs hw => ?_)
  refine ch_if_eq (tgt := 19) hx hb dX2_keep_5 (by decide) h (fun h => ?_) (fun h => ?_)
  · exact fin _ _ _ _ _ h hw dX2_keep_19
  · refine lv_aload_n hx hb dX2_keep_8 rfl (lv_at hl 0 rfl) ?_
    refine ch_get S hw o (by omega) (ch_FC_reel (by omega)) rfl (by decide +kernel) 0 (by decide) (hts (.fieldLink RX2 9 "CodeHunt$Reel" "items" "[I") (by decide +kernel)) rfl dX2_keep_9 ?_
    refine lv_iload_n hx hb dX2_keep_12 rfl (lv_at hl 1 rfl) ?_
    refine lv_aload_n hx hb dX2_keep_13 rfl (lv_at hl 0 rfl) ?_
    refine lv_iload_n hx hb dX2_keep_14 rfl (lv_at hl 2 rfl) ?_
    refine ch_bd_k h (fun r3 M4 hc h => ?_)
    refine ch_ci hw (va_runV (As := [.int x2]) (rest := [.int x1, .ref (sh (o + 4))]) S (c_X2_lowestBits l D I sh H.size M2 o ho x2 hc) (cwV 1 hts gX2_keep_X2_lowestBits rfl rfl rfl (by decide +kernel) ⟨Nat.le_of_ble_eq_true rfl, Nat.le_of_ble_eq_true rfl⟩) (ch_pV hw (by omega) (ch_FC_reel (by omega)) rfl rfl) rfl rfl hl.1 rfl (lv_room (Nat.le_of_ble_eq_true rfl)) dX2_keep_15 ⟨Nat.le_refl 0, Nat.le_refl 0⟩) (fun H locs hw => ?_)
    refine ch_gd_k h (fun hin h => ?_)
    refine ch_iast S hw (o + 4) (by omega) (fun f => ch_FC_itm (by omega) f) hin dX2_keep_18 (fun H locs hw => ?_)
    exact fin _ _ _ _ _ h hw dX2_keep_19
set_option maxHeartbeats 4000000 in
set_option maxRecDepth 100000 in
theorem c_X2_keep (l : Launch) (D : va_G) (I : ch_Id) (sh : Nat → Nat) (sz : Nat) (M : ch_Mem) (o : Nat) (ho : 23 ≤ o ∧ o < 27) (x1 : Int32) (x2 : Int32) {M1 : ch_Mem} (h : D_X2_keep o x1 x2 M = some ((), M1)) : Met l yX2_keep wsX2_keep rm_X2_keep (va_Pc [.ref (sh o), .int x1, .int x2] (ch_Pre D I 40 (ch_FC I sh) sh sz M)) (va_Qv (fun (u : ch_Mem) => u = M1) (ch_Pos D 40 (ch_FC I sh) sh) (ch_A 40 sh sz)) 0 0 (ch_A 40 sh sz) := by
  refine Met.ofW (cc := cX2_keep) (maxL := 3) (ret := none) (by decide) rfl ?_
  intro p e s m args below meth c s₁ B hml hv0
  obtain ⟨rfl, hv0⟩ := hv0
  obtain rfl : s.heap.size = sz := hv0.1
  have hw := ch_start hv0
  have S : CallFix p m c cX2_keep 3 s _ wsX2_keep RX2 := ⟨B.exec, B.bytes, hml, findClass_of_methodNamed B.named, atoms_spec (ws := wsX2_keep) B.pre⟩
  have hl := lv_entry ([.ref (sh o), .int x1, .int x2]) (n := 3) (Nat.le_of_ble_eq_true rfl)
  rw [lg_entry_eq]
  generalize (lg_sl ([.ref (sh o), .int x1, .int x2]) ++ List.replicate (3 - (lg_sl ([.ref (sh o), .int x1, .int x2])).length) Slot.unset).toArray = ls at hl ⊢
  exact t_X2_keep_0 ho S (ch_finV B.exec B.bytes B.returns B.notSynchronized) h hw (lv_sub hl [0, 1, 2] rfl)
set_option maxHeartbeats 4000000 in
set_option maxRecDepth 100000 in
theorem t_X2_renew_27 {p : Program} {l : Launch} {e : Env} {s : State} {m : MethodId} {args : Array Value} {below : List Frame} {meth : Method} {c : Code} {Q : State → Prop} {D : va_G} {I : ch_Id} {sh : Nat → Nat} {A : Nat → Prop} {oo : Unit × ch_Mem} {o : Nat} (ho : 23 ≤ o ∧ o < 27)  {k27 : Int32 → ch_Mem → Option (Unit × ch_Mem)} (S : CallFix p m c cX2_renew 4 s args wsX2_renew RX2) (fin : ch_FinV p l e rm_X2_renew s m args below meth c cX2_renew Q D I 40 (ch_FC I sh) sh A oo) (hk27 : ∀ (x3 : Int32) (M : ch_Mem) (H : Heap) (locs : List Loc) (ls : Array Slot), k27 x3 M = some oo → ch_Wd D I 40 (ch_FC I sh) sh s A M H locs → lv_has ls 4 [(0, .ref (sh o)), (3, .int x3)] → W p l e rm_X2_renew s m args below meth c H locs 0 0 Q (F0 m 27 ls [])) {x3 : Int32}  {M : ch_Mem} {H : Heap} {locs : List Loc} {ls : Array Slot} (h : D_X2_renew_b27 o k27 x3 M = some oo) (hw : ch_Wd D I 40 (ch_FC I sh) sh s A M H locs) (hl : lv_has ls 4 [(0, .ref (sh o)), (3, .int x3)]) : W p l e rm_X2_renew s m args below meth c H locs 0 0 Q (F0 m 27 ls []) := by
  obtain ⟨hx, hb, hml, hown, hts⟩ := id S
  unfold D_X2_renew_b27 at h
  refine lv_iload_n hx hb dX2_renew_27 rfl (lv_at hl 1 rfl) ?_
  refine lv_aload_n hx hb dX2_renew_28 rfl (lv_at hl 0 rfl) ?_
  refine ch_get S hw o (by omega) (ch_FC_reel (by omega)) rfl (by decide +kernel) 3 (by decide) (hts (.fieldLink RX2 23 "CodeHunt$Reel" "size" "I") (by decide +kernel)) rfl dX2_renew_29 ?_
  refine ch_icmp_ge (tgt := 48) hx hb dX2_renew_32 (by decide) h (fun h => ?_) (fun h => ?_)
  · exact fin _ _ _ _ _ h hw dX2_renew_48
  · refine lv_aload_n hx hb dX2_renew_35 rfl (lv_at hl 0 rfl) ?_
    refine ch_get S hw o (by omega) (ch_FC_reel (by omega)) rfl (by decide +kernel) 0 (by decide) (hts (.fieldLink RX2 9 "CodeHunt$Reel" "items" "[I") (by decide +kernel)) rfl dX2_renew_36 ?_
    refine lv_iload_n hx hb dX2_renew_39 rfl (lv_at hl 1 rfl) ?_
    refine lv_iconst (v := (0 : Int32)) hx hb dX2_renew_40 (by decide) ?_
    refine ch_gd_k h (fun hin h => ?_)
    refine ch_iast S hw (o + 4) (by omega) (fun f => ch_FC_itm (by omega) f) hin dX2_renew_41 (fun H locs hw => ?_)
    refine lv_iinc (v := x3 + (1 : Int32)) (lv' := [(3, .int (x3 + (1 : Int32))), (0, .ref (sh o))]) hx hb dX2_renew_42 hl (k := 1) rfl rfl (by decide) rfl (fun ls hl => ?_)
    refine lv_goto (tgt := 27) hx hb dX2_renew_45 (by decide) ?_
    exact hk27 _ _ _ _ _  h hw (lv_sub hl [1, 0] rfl)
set_option maxHeartbeats 4000000 in
set_option maxRecDepth 100000 in
theorem tl_X2_renew_27 {p : Program} {l : Launch} {e : Env} {s : State} {m : MethodId} {args : Array Value} {below : List Frame} {meth : Method} {c : Code} {Q : State → Prop} {D : va_G} {I : ch_Id} {sh : Nat → Nat} {A : Nat → Prop} {oo : Unit × ch_Mem} {o : Nat} (ho : 23 ≤ o ∧ o < 27)   (S : CallFix p m c cX2_renew 4 s args wsX2_renew RX2) (fin : ch_FinV p l e rm_X2_renew s m args below meth c cX2_renew Q D I 40 (ch_FC I sh) sh A oo)  (n : Nat) : ∀ (x3 : Int32) (M : ch_Mem) (H : Heap) (locs : List Loc) (ls : Array Slot), D_X2_renew_L27 o n x3 M = some oo → ch_Wd D I 40 (ch_FC I sh) sh s A M H locs → lv_has ls 4 [(0, .ref (sh o)), (3, .int x3)] → W p l e rm_X2_renew s m args below meth c H locs 0 0 Q (F0 m 27 ls []) := by
  induction n with
  | zero => intro x3 M H locs ls  h; cases h
  | succ n ih =>
    intro x3 M H locs ls  h hw hl
    exact t_X2_renew_27 ho S fin ih h hw hl
set_option maxHeartbeats 4000000 in
set_option maxRecDepth 100000 in
theorem t_X2_renew_0 {p : Program} {l : Launch} {e : Env} {s : State} {m : MethodId} {args : Array Value} {below : List Frame} {meth : Method} {c : Code} {Q : State → Prop} {D : va_G} {I : ch_Id} {sh : Nat → Nat} {A : Nat → Prop} {oo : Unit × ch_Mem} {o : Nat} (ho : 23 ≤ o ∧ o < 27)   (S : CallFix p m c cX2_renew 4 s args wsX2_renew RX2) (fin : ch_FinV p l e rm_X2_renew s m args below meth c cX2_renew Q D I 40 (ch_FC I sh) sh A oo)  {x1 : Int32} {x2 : Int32}  {M : ch_Mem} {H : Heap} {locs : List Loc} {ls : Array Slot} (h : D_X2_renew o x1 x2 M = some oo) (hw : ch_Wd D I 40 (ch_FC I sh) sh s A M H locs) (hl : lv_has ls 4 [(0, .ref (sh o)), (1, .int x1), (2, .int x2)]) : W p l e rm_X2_renew s m args below meth c H locs 0 0 Q (F0 m 0 ls []) := by
  obtain ⟨hx, hb, hml, hown, hts⟩ := id S
  unfold D_X2_renew at h
  refine lv_aload_n hx hb dX2_renew_0 rfl (lv_at hl 0 rfl) ?_
  refine lv_iconst (v := (0 : Int32)) hx hb dX2_renew_1 (by decide) ?_
  refine ch_put (M1 := ch_wI M o 1 (0 : Int32)) (ty := .boolean) S hw o (by omega) (ch_FC_reel (by omega)) rfl (by decide +kernel) tyX2 tyX2_ok nmX2 1 (by decide) (hts (.fieldLink RX2 15 "CodeHunt$Reel" "lost" "Z") (by decide +kernel)) rfl (by decide +kernel) rfl rfl (Nat.le_of_ble_eq_true rfl) (ch_cf_wI (j := 1) (v := (0 : Int32)) (ch_FC_reel (by omega))) dX2_renew_2 (fun H locs hw => ?_)
  refine lv_aload_n hx hb dX2_renew_5 rfl (lv_at hl 0 rfl) ?_
  refine lv_iload_n hx hb dX2_renew_6 rfl (lv_at hl 1 rfl) ?_
  refine ch_put (M1 := ch_wI (ch_wI M o 1 (0 : Int32)) o 2 x1) (ty := .int) S hw o (by omega) (ch_FC_reel (by omega)) rfl (by decide +kernel) tyX2 tyX2_ok nmX2 2 (by decide) (hts (.fieldLink RX2 19 "CodeHunt$Reel" "form" "I") (by decide +kernel)) rfl (by decide +kernel) rfl rfl (Nat.le_of_ble_eq_true rfl) (ch_cf_wI (j := 2) (v := x1) (ch_FC_reel (by omega))) dX2_renew_7 (fun H locs hw => ?_)
  refine lv_aload_n hx hb dX2_renew_10 rfl (lv_at hl 0 rfl) ?_
  refine lv_iconst (v := (0 : Int32)) hx hb dX2_renew_11 (by decide) ?_
  refine lv_iload_n hx hb dX2_renew_12 rfl (lv_at hl 2 rfl) ?_
  refine lv_sipush (v := (300 : Int32)) hx hb dX2_renew_13 (by decide) ?_
  refine va_mmin hx hb (S.2.2.1.trans hl.1.symm) hown (hts (.methodLink RX2 26 Lib.Math.min.name) (by decide +kernel)) (hts (.static Lib.Math.min.name) (by decide +kernel)) (hts (.initialized "java/lang/Math") (by decide +kernel)) (hts (.code Lib.Math.min.name Lib.Math.min.code 2 (some .int)) (by decide +kernel)) (Nat.le_of_ble_eq_true rfl) (Nat.le_of_ble_eq_true rfl) (Nat.le_refl 0) (Nat.le_refl 0) dX2_renew_16 ?_
  refine va_mmax hx hb (S.2.2.1.trans hl.1.symm) hown (hts (.methodLink RX2 32 Lib.Math.max.name) (by decide +kernel)) (hts (.static Lib.Math.max.name) (by decide +kernel)) (hts (.initialized "java/lang/Math") (by decide +kernel)) (hts (.code Lib.Math.max.name Lib.Math.max.code 2 (some .int)) (by decide +kernel)) (Nat.le_of_ble_eq_true rfl) (Nat.le_of_ble_eq_true rfl) (Nat.le_refl 0) (Nat.le_refl 0) dX2_renew_19 ?_
  refine ch_put (M1 := ch_wI (ch_wI (ch_wI M o 1 (0 : Int32)) o 2 x1) o 3 (if (0 : Int32) < (if (300 : Int32) < x2 then (300 : Int32) else x2) then (if (300 : Int32) < x2 then (300 : Int32) else x2) else (0 : Int32))) (ty := .int) S hw o (by omega) (ch_FC_reel (by omega)) rfl (by decide +kernel) tyX2 tyX2_ok nmX2 3 (by decide) (hts (.fieldLink RX2 23 "CodeHunt$Reel" "size" "I") (by decide +kernel)) rfl (by decide +kernel) rfl rfl (Nat.le_of_ble_eq_true rfl) (ch_cf_wI (j := 3) (v := (if (0 : Int32) < (if (300 : Int32) < x2 then (300 : Int32) else x2) then (if (300 : Int32) < x2 then (300 : Int32) else x2) else (0 : Int32))) (ch_FC_reel (by omega))) dX2_renew_22 (fun H locs hw => ?_)
  refine lv_iconst (v := (0 : Int32)) hx hb dX2_renew_25 (by decide) ?_
  refine lv_istore_n (lv' := [(3, .int (0 : Int32)), (0, .ref (sh o)), (1, .int x1), (2, .int x2)]) hx hb dX2_renew_26 rfl hl (by decide) rfl (fun ls hl => ?_)
  exact tl_X2_renew_27 ho S fin ch_fu _ _ _ _ _ h hw (lv_sub hl [1, 0] rfl)
set_option maxHeartbeats 4000000 in
set_option maxRecDepth 100000 in
theorem c_X2_renew (l : Launch) (D : va_G) (I : ch_Id) (sh : Nat → Nat) (sz : Nat) (M : ch_Mem) (o : Nat) (ho : 23 ≤ o ∧ o < 27) (x1 : Int32) (x2 : Int32) {M1 : ch_Mem} (h : D_X2_renew o x1 x2 M = some ((), M1)) : Met l yX2_renew wsX2_renew rm_X2_renew (va_Pc [.ref (sh o), .int x1, .int x2] (ch_Pre D I 40 (ch_FC I sh) sh sz M)) (va_Qv (fun (u : ch_Mem) => u = M1) (ch_Pos D 40 (ch_FC I sh) sh) (ch_A 40 sh sz)) 0 0 (ch_A 40 sh sz) := by
  refine Met.ofW (cc := cX2_renew) (maxL := 4) (ret := none) (by decide) rfl ?_
  intro p e s m args below meth c s₁ B hml hv0
  obtain ⟨rfl, hv0⟩ := hv0
  obtain rfl : s.heap.size = sz := hv0.1
  have hw := ch_start hv0
  have S : CallFix p m c cX2_renew 4 s _ wsX2_renew RX2 := ⟨B.exec, B.bytes, hml, findClass_of_methodNamed B.named, atoms_spec (ws := wsX2_renew) B.pre⟩
  have hl := lv_entry ([.ref (sh o), .int x1, .int x2]) (n := 4) (Nat.le_of_ble_eq_true rfl)
  rw [lg_entry_eq]
  generalize (lg_sl ([.ref (sh o), .int x1, .int x2]) ++ List.replicate (4 - (lg_sl ([.ref (sh o), .int x1, .int x2])).length) Slot.unset).toArray = ls at hl ⊢
  exact t_X2_renew_0 ho S (ch_finV B.exec B.bytes B.returns B.notSynchronized) h hw (lv_sub hl [0, 1, 2] rfl)
set_option maxHeartbeats 4000000 in
set_option maxRecDepth 100000 in
theorem t_X2_troubleAt_0 {p : Program} {l : Launch} {e : Env} {s : State} {m : MethodId} {args : Array Value} {below : List Frame} {meth : Method} {c : Code} {Q : State → Prop} {D : va_G} {I : ch_Id} {sh : Nat → Nat} {A : Nat → Prop} {oo : Int32 × ch_Mem} {o : Nat} (ho : 23 ≤ o ∧ o < 27)   (S : CallFix p m c cX2_troubleAt 3 s args wsX2_troubleAt RX2) (fin : ch_FinI p l e rm_X2_troubleAt s m args below meth c cX2_troubleAt Q D I 40 (ch_FC I sh) sh A oo)  {x1 : Int32} {x2 : Int32}  {M : ch_Mem} {H : Heap} {locs : List Loc} {ls : Array Slot} (h : D_X2_troubleAt o x1 x2 M = some oo) (hw : ch_Wd D I 40 (ch_FC I sh) sh s A M H locs) (hl : lv_has ls 3 [(0, .ref (sh o)), (1, .int x1), (2, .int x2)]) : W p l e rm_X2_troubleAt s m args below meth c H locs 0 0 Q (F0 m 0 ls []) := by
  obtain ⟨hx, hb, hml, hown, hts⟩ := id S
  unfold D_X2_troubleAt at h
  refine lv_aload_n hx hb dX2_troubleAt_0 rfl (lv_at hl 0 rfl) ?_
  refine ch_get S hw o (by omega) (ch_FC_reel (by omega)) rfl (by decide +kernel) 1 (by decide) (hts (.fieldLink RX2 15 "CodeHunt$Reel" "lost" "Z") (by decide +kernel)) rfl dX2_troubleAt_1 ?_
  refine ch_if_eq (tgt := 9) hx hb dX2_troubleAt_4 (by decide) h (fun h => ?_) (fun h => ?_)
  · refine lv_aload_n hx hb dX2_troubleAt_9 rfl (lv_at hl 0 rfl) ?_
    refine ch_get S hw o (by omega) (ch_FC_reel (by omega)) rfl (by decide +kernel) 2 (by decide) (hts (.fieldLink RX2 19 "CodeHunt$Reel" "form" "I") (by decide +kernel)) rfl dX2_troubleAt_10 ?_
    refine lv_iload_n hx hb dX2_troubleAt_13 rfl (lv_at hl 1 rfl) ?_
    refine ch_icmp_eq (tgt := 19) hx hb dX2_troubleAt_14 (by decide) h (fun h => ?_) (fun h => ?_)
    · refine lv_aload_n hx hb dX2_troubleAt_19 rfl (lv_at hl 0 rfl) ?_
      refine lv_iload_n hx hb dX2_troubleAt_20 rfl (lv_at hl 2 rfl) ?_
      refine ch_bd_k h (fun r1 M2 hc h => ?_)
      refine ch_ci hw (va_runV (As := [.int x2]) (rest := []) S (c_X2_hasItem l D I sh H.size M o ho x2 hc) (cwV 1 hts gX2_troubleAt_X2_hasItem rfl rfl rfl (by decide +kernel) ⟨Nat.le_of_ble_eq_true rfl, Nat.le_of_ble_eq_true rfl⟩) (ch_pV hw (by omega) (ch_FC_reel (by omega)) rfl rfl) rfl rfl hl.1 rfl (lv_room (Nat.le_of_ble_eq_true rfl)) dX2_troubleAt_21 ⟨Nat.le_refl 0, Nat.le_refl 0⟩) (fun H locs hw => ?_)
      refine ch_if_eq (tgt := 31) hx hb dX2_troubleAt_24 (by decide) h (fun h => ?_) (fun h => ?_)
      · refine lv_iconst (v := (2 : Int32)) hx hb dX2_troubleAt_31 (by decide) ?_
        exact fin _ _ _ _ _ _ h hw dX2_troubleAt_32
      · refine lv_iconst (v := (0 : Int32)) hx hb dX2_troubleAt_27 (by decide) ?_
        refine lv_goto (tgt := 32) hx hb dX2_troubleAt_28 (by decide) ?_
        exact fin _ _ _ _ _ _ h hw dX2_troubleAt_32
    · refine lv_iconst (v := (3 : Int32)) hx hb dX2_troubleAt_17 (by decide) ?_
      exact fin _ _ _ _ _ _ h hw dX2_troubleAt_18
  · refine lv_iconst (v := (1 : Int32)) hx hb dX2_troubleAt_7 (by decide) ?_
    exact fin _ _ _ _ _ _ h hw dX2_troubleAt_8
set_option maxHeartbeats 4000000 in
set_option maxRecDepth 100000 in
theorem c_X2_troubleAt (l : Launch) (D : va_G) (I : ch_Id) (sh : Nat → Nat) (sz : Nat) (M : ch_Mem) (o : Nat) (ho : 23 ≤ o ∧ o < 27) (x1 : Int32) (x2 : Int32) {r : Int32} {M1 : ch_Mem} (h : D_X2_troubleAt o x1 x2 M = some (r, M1)) : Met l yX2_troubleAt wsX2_troubleAt rm_X2_troubleAt (va_Pc [.ref (sh o), .int x1, .int x2] (ch_Pre D I 40 (ch_FC I sh) sh sz M)) (va_Qi (fun r' (u : ch_Mem) => r' = r ∧ u = M1) (ch_Pos D 40 (ch_FC I sh) sh) (ch_A 40 sh sz)) 0 0 (ch_A 40 sh sz) := by
  refine Met.ofW (cc := cX2_troubleAt) (maxL := 3) (ret := (some .int)) (by decide) rfl ?_
  intro p e s m args below meth c s₁ B hml hv0
  obtain ⟨rfl, hv0⟩ := hv0
  obtain rfl : s.heap.size = sz := hv0.1
  have hw := ch_start hv0
  have S : CallFix p m c cX2_troubleAt 3 s _ wsX2_troubleAt RX2 := ⟨B.exec, B.bytes, hml, findClass_of_methodNamed B.named, atoms_spec (ws := wsX2_troubleAt) B.pre⟩
  have hl := lv_entry ([.ref (sh o), .int x1, .int x2]) (n := 3) (Nat.le_of_ble_eq_true rfl)
  rw [lg_entry_eq]
  generalize (lg_sl ([.ref (sh o), .int x1, .int x2]) ++ List.replicate (3 - (lg_sl ([.ref (sh o), .int x1, .int x2])).length) Slot.unset).toArray = ls at hl ⊢
  exact t_X2_troubleAt_0 ho S (ch_finI (B := fun _ => True) B.exec B.bytes B.returns B.notSynchronized) h hw (lv_sub hl [0, 1, 2] rfl)
set_option maxHeartbeats 4000000 in
set_option maxRecDepth 100000 in
theorem t_J6_bitCount_0f7a4_0 {p : Program} {l : Launch} {e : Env} {s : State} {m : MethodId} {args : Array Value} {below : List Frame} {meth : Method} {c : Code} {Q : State → Prop} {D : va_G} {I : ch_Id} {sh : Nat → Nat} {A : Nat → Prop} {oo : Int32 × ch_Mem}     (S : CallFix p m c cJ6_bitCount_0f7a4 1 s args wsJ6_bitCount_0f7a4 RJ6) (fin : ch_FinI p l e rm_J6_bitCount_0f7a4 s m args below meth c cJ6_bitCount_0f7a4 Q D I 40 (ch_FC I sh) sh A oo)  {x0 : Int32}  {M : ch_Mem} {H : Heap} {locs : List Loc} {ls : Array Slot} (h : D_J6_bitCount_0f7a4 x0 M = some oo) (hw : ch_Wd D I 40 (ch_FC I sh) sh s A M H locs) (hl : lv_has ls 1 [(0, .int x0)]) : W p l e rm_J6_bitCount_0f7a4 s m args below meth c H locs 0 0 Q (F0 m 0 ls []) := by
  obtain ⟨hx, hb, hml, hown, hts⟩ := id S
  unfold D_J6_bitCount_0f7a4 at h
  refine lv_iload_n hx hb dJ6_bitCount_0f7a4_0 rfl (lv_at hl 0 rfl) ?_
  refine lv_iload_n hx hb dJ6_bitCount_0f7a4_1 rfl (lv_at hl 0 rfl) ?_
  refine lv_iconst (v := (1 : Int32)) hx hb dJ6_bitCount_0f7a4_2 (by decide) ?_
  refine lv_iushr hx hb dJ6_bitCount_0f7a4_3 rfl ?_
  refine lv_ldcw (v := (1431655765 : Int32)) hx hb hown (hts (.constant RJ6 265 (1431655765)) (by decide +kernel)) dJ6_bitCount_0f7a4_4 ?_
  refine lv_iand hx hb dJ6_bitCount_0f7a4_7 ?_
  refine lv_isub hx hb dJ6_bitCount_0f7a4_8 ?_
  refine ch_topi h (fun u1 h => ?_)
  refine lv_istore_n (lv' := [(0, .int u1)]) hx hb dJ6_bitCount_0f7a4_9 rfl hl (by decide) rfl (fun ls hl => ?_)
  refine lv_iload_n hx hb dJ6_bitCount_0f7a4_10 rfl (lv_at hl 0 rfl) ?_
  refine lv_ldcw (v := (858993459 : Int32)) hx hb hown (hts (.constant RJ6 266 (858993459)) (by decide +kernel)) dJ6_bitCount_0f7a4_11 ?_
  refine lv_iand hx hb dJ6_bitCount_0f7a4_14 ?_
  refine lv_iload_n hx hb dJ6_bitCount_0f7a4_15 rfl (lv_at hl 0 rfl) ?_
  refine lv_iconst (v := (2 : Int32)) hx hb dJ6_bitCount_0f7a4_16 (by decide) ?_
  refine lv_iushr hx hb dJ6_bitCount_0f7a4_17 rfl ?_
  refine lv_ldcw (v := (858993459 : Int32)) hx hb hown (hts (.constant RJ6 266 (858993459)) (by decide +kernel)) dJ6_bitCount_0f7a4_18 ?_
  refine lv_iand hx hb dJ6_bitCount_0f7a4_21 ?_
  refine lv_iadd hx hb dJ6_bitCount_0f7a4_22 ?_
  refine ch_topi h (fun u2 h => ?_)
  refine lv_istore_n (lv' := [(0, .int u2)]) hx hb dJ6_bitCount_0f7a4_23 rfl hl (by decide) rfl (fun ls hl => ?_)
  refine lv_iload_n hx hb dJ6_bitCount_0f7a4_24 rfl (lv_at hl 0 rfl) ?_
  refine lv_iload_n hx hb dJ6_bitCount_0f7a4_25 rfl (lv_at hl 0 rfl) ?_
  refine lv_iconst (v := (4 : Int32)) hx hb dJ6_bitCount_0f7a4_26 (by decide) ?_
  refine lv_iushr hx hb dJ6_bitCount_0f7a4_27 rfl ?_
  refine lv_iadd hx hb dJ6_bitCount_0f7a4_28 ?_
  refine lv_ldcw (v := (252645135 : Int32)) hx hb hown (hts (.constant RJ6 267 (252645135)) (by decide +kernel)) dJ6_bitCount_0f7a4_29 ?_
  refine lv_iand hx hb dJ6_bitCount_0f7a4_32 ?_
  refine ch_topi h (fun u3 h => ?_)
  refine lv_istore_n (lv' := [(0, .int u3)]) hx hb dJ6_bitCount_0f7a4_33 rfl hl (by decide) rfl (fun ls hl => ?_)
  refine lv_iload_n hx hb dJ6_bitCount_0f7a4_34 rfl (lv_at hl 0 rfl) ?_
  refine lv_iload_n hx hb dJ6_bitCount_0f7a4_35 rfl (lv_at hl 0 rfl) ?_
  refine lv_bipush (v := (8 : Int32)) hx hb dJ6_bitCount_0f7a4_36 (by decide) ?_
  refine lv_iushr hx hb dJ6_bitCount_0f7a4_38 rfl ?_
  refine lv_iadd hx hb dJ6_bitCount_0f7a4_39 ?_
  refine ch_topi h (fun u4 h => ?_)
  refine lv_istore_n (lv' := [(0, .int u4)]) hx hb dJ6_bitCount_0f7a4_40 rfl hl (by decide) rfl (fun ls hl => ?_)
  refine lv_iload_n hx hb dJ6_bitCount_0f7a4_41 rfl (lv_at hl 0 rfl) ?_
  refine lv_iload_n hx hb dJ6_bitCount_0f7a4_42 rfl (lv_at hl 0 rfl) ?_
  refine lv_bipush (v := (16 : Int32)) hx hb dJ6_bitCount_0f7a4_43 (by decide) ?_
  refine lv_iushr hx hb dJ6_bitCount_0f7a4_45 rfl ?_
  refine lv_iadd hx hb dJ6_bitCount_0f7a4_46 ?_
  refine ch_topi h (fun u5 h => ?_)
  refine lv_istore_n (lv' := [(0, .int u5)]) hx hb dJ6_bitCount_0f7a4_47 rfl hl (by decide) rfl (fun ls hl => ?_)
  refine lv_iload_n hx hb dJ6_bitCount_0f7a4_48 rfl (lv_at hl 0 rfl) ?_
  refine lv_bipush (v := (63 : Int32)) hx hb dJ6_bitCount_0f7a4_49 (by decide) ?_
  refine lv_iand hx hb dJ6_bitCount_0f7a4_51 ?_
  exact fin _ _ _ _ _ _ h hw dJ6_bitCount_0f7a4_52
set_option maxHeartbeats 4000000 in
set_option maxRecDepth 100000 in
theorem c_J6_bitCount_0f7a4 (l : Launch) (D : va_G) (I : ch_Id) (sh : Nat → Nat) (sz : Nat) (M : ch_Mem)  (x0 : Int32) {r : Int32} {M1 : ch_Mem} (h : D_J6_bitCount_0f7a4 x0 M = some (r, M1)) : Met l yJ6_bitCount_0f7a4 wsJ6_bitCount_0f7a4 rm_J6_bitCount_0f7a4 (va_Pc [.int x0] (ch_Pre D I 40 (ch_FC I sh) sh sz M)) (va_Qi (fun r' (u : ch_Mem) => r' = r ∧ u = M1) (ch_Pos D 40 (ch_FC I sh) sh) (ch_A 40 sh sz)) 0 0 (ch_A 40 sh sz) := by
  refine va_MetF (cc := cJ6_bitCount_0f7a4) (maxL := 1) (ret := (some .int)) (by decide +kernel) rfl ?_
  intro p e s m args below meth c s₁ B hml hv0
  obtain ⟨rfl, hv0⟩ := hv0
  obtain rfl : s.heap.size = sz := hv0.1
  have hw := ch_start hv0
  have S : CallFix p m c cJ6_bitCount_0f7a4 1 s _ wsJ6_bitCount_0f7a4 RJ6 := ⟨B.exec, B.bytes, hml, findClass_of_methodNamed B.named, atoms_spec (ws := wsJ6_bitCount_0f7a4) B.pre⟩
  have hl := lv_entry ([.int x0]) (n := 1) (Nat.le_of_ble_eq_true rfl)
  rw [lg_entry_eq]
  generalize (lg_sl ([.int x0]) ++ List.replicate (1 - (lg_sl ([.int x0])).length) Slot.unset).toArray = ls at hl ⊢
  exact t_J6_bitCount_0f7a4_0 S (ch_finI (B := fun _ => True) B.exec B.bytes B.returns B.notSynchronized) h hw (lv_sub hl [0] rfl)
set_option maxHeartbeats 4000000 in
set_option maxRecDepth 100000 in
theorem t_X6_stepped_0 {p : Program} {l : Launch} {e : Env} {s : State} {m : MethodId} {args : Array Value} {below : List Frame} {meth : Method} {c : Code} {Q : State → Prop} {D : va_G} {I : ch_Id} {sh : Nat → Nat} {A : Nat → Prop} {oo : Int32 × ch_Mem}     (S : CallFix p m c cX6_stepped 4 s args wsX6_stepped RX6) (fin : ch_FinI p l e rm_X6_stepped s m args below meth c cX6_stepped Q D I 40 (ch_FC I sh) sh A oo)  {x0 : Int32} {x1 : Int32} {x2 : Int32}  {M : ch_Mem} {H : Heap} {locs : List Loc} {ls : Array Slot} (h : D_X6_stepped x0 x1 x2 M = some oo) (hw : ch_Wd D I 40 (ch_FC I sh) sh s A M H locs) (hl : lv_has ls 4 [(0, .int x0), (1, .int x1), (2, .int x2)]) : W p l e rm_X6_stepped s m args below meth c H locs 0 0 Q (F0 m 0 ls []) := by
  obtain ⟨hx, hb, hml, hown, hts⟩ := id S
  unfold D_X6_stepped at h
  refine lv_iload_n hx hb dX6_stepped_0 rfl (lv_at hl 2 rfl) ?_
  refine lv_iload_n hx hb dX6_stepped_1 rfl (lv_at hl 1 rfl) ?_
  refine lv_iand hx hb dX6_stepped_2 ?_
  refine ch_bd_k h (fun r1 M2 hc h => ?_)
  refine ch_ci hw (va_runS (As := [.int (x2 &&& x1)]) (rest := []) S (c_J6_bitCount_0f7a4 l D I sh H.size M (x2 &&& x1) hc) (va_cwS 1 hts gX6_stepped_J6_bitCount_0f7a4 rfl rfl rfl (by decide +kernel) ⟨Nat.le_of_ble_eq_true rfl, Nat.le_of_ble_eq_true rfl⟩) (ch_pS hw) rfl rfl hl.1 rfl (lv_room (Nat.le_of_ble_eq_true rfl)) dX6_stepped_3 ⟨Nat.le_refl 0, Nat.le_refl 0⟩) (fun H locs hw => ?_)
  refine lv_iconst (v := (1 : Int32)) hx hb dX6_stepped_6 (by decide) ?_
  refine lv_iand hx hb dX6_stepped_7 ?_
  refine lv_istore_n (lv' := [(3, .int (r1 &&& (1 : Int32))), (0, .int x0), (1, .int x1), (2, .int x2)]) hx hb dX6_stepped_8 rfl hl (by decide) rfl (fun ls hl => ?_)
  refine lv_iload_n hx hb dX6_stepped_9 rfl (lv_at hl 3 rfl) ?_
  refine lv_iconst (v := (1 : Int32)) hx hb dX6_stepped_10 (by decide) ?_
  refine lv_ishr hx hb dX6_stepped_11 ?_
  refine lv_iload_n hx hb dX6_stepped_12 rfl (lv_at hl 0 rfl) ?_
  refine lv_iload_n hx hb dX6_stepped_13 rfl (lv_at hl 1 rfl) ?_
  refine lv_iconst (v := (1 : Int32)) hx hb dX6_stepped_14 (by decide) ?_
  refine lv_isub hx hb dX6_stepped_15 ?_
  refine lv_ishl hx hb dX6_stepped_16 ?_
  refine lv_ior hx hb dX6_stepped_17 ?_
  exact fin _ _ _ _ _ _ h hw dX6_stepped_18
set_option maxHeartbeats 4000000 in
set_option maxRecDepth 100000 in
theorem c_X6_stepped (l : Launch) (D : va_G) (I : ch_Id) (sh : Nat → Nat) (sz : Nat) (M : ch_Mem)  (x0 : Int32) (x1 : Int32) (x2 : Int32) {r : Int32} {M1 : ch_Mem} (h : D_X6_stepped x0 x1 x2 M = some (r, M1)) : Met l yX6_stepped wsX6_stepped rm_X6_stepped (va_Pc [.int x0, .int x1, .int x2] (ch_Pre D I 40 (ch_FC I sh) sh sz M)) (va_Qi (fun r' (u : ch_Mem) => r' = r ∧ u = M1) (ch_Pos D 40 (ch_FC I sh) sh) (ch_A 40 sh sz)) 0 0 (ch_A 40 sh sz) := by
  refine Met.ofW (cc := cX6_stepped) (maxL := 4) (ret := (some .int)) (by decide) rfl ?_
  intro p e s m args below meth c s₁ B hml hv0
  obtain ⟨rfl, hv0⟩ := hv0
  obtain rfl : s.heap.size = sz := hv0.1
  have hw := ch_start hv0
  have S : CallFix p m c cX6_stepped 4 s _ wsX6_stepped RX6 := ⟨B.exec, B.bytes, hml, findClass_of_methodNamed B.named, atoms_spec (ws := wsX6_stepped) B.pre⟩
  have hl := lv_entry ([.int x0, .int x1, .int x2]) (n := 4) (Nat.le_of_ble_eq_true rfl)
  rw [lg_entry_eq]
  generalize (lg_sl ([.int x0, .int x1, .int x2]) ++ List.replicate (4 - (lg_sl ([.int x0, .int x1, .int x2])).length) Slot.unset).toArray = ls at hl ⊢
  exact t_X6_stepped_0 S (ch_finI (B := fun _ => True) B.exec B.bytes B.returns B.notSynchronized) h hw (lv_sub hl [0, 1, 2] rfl)
set_option maxHeartbeats 4000000 in
set_option maxRecDepth 100000 in
theorem t_X3_fillByRegister_43 {p : Program} {l : Launch} {e : Env} {s : State} {m : MethodId} {args : Array Value} {below : List Frame} {meth : Method} {c : Code} {Q : State → Prop} {D : va_G} {I : ch_Id} {sh : Nat → Nat} {A : Nat → Prop} {oo : Unit × ch_Mem} {o : Nat} (ho : 7 ≤ o ∧ o < 15)  {k15 : Int32 → Int32 → Int32 → Int32 → ch_Mem → Option (Unit × ch_Mem)} (S : CallFix p m c cX3_fillByRegister 6 s args wsX3_fillByRegister RX3) (fin : ch_FinV p l e rm_X3_fillByRegister s m args below meth c cX3_fillByRegister Q D I 40 (ch_FC I sh) sh A oo) (hk15 : ∀ (x1 : Int32) (x2 : Int32) (x4 : Int32) (x5 : Int32) (M : ch_Mem) (H : Heap) (locs : List Loc) (ls : Array Slot), k15 x1 x2 x4 x5 M = some oo → ch_Wd D I 40 (ch_FC I sh) sh s A M H locs → lv_has ls 6 [(0, .ref (sh o)), (1, .int x1), (2, .int x2), (4, .int x4), (5, .int x5)] → W p l e rm_X3_fillByRegister s m args below meth c H locs 0 0 Q (F0 m 15 ls [])) {x1 : Int32} {x2 : Int32} {x4 : Int32} {x5 : Int32} {y0 : Int32} {y1 : Int32} {w2 : Nat} (hw2 : ch_arr w2) {M : ch_Mem} {H : Heap} {locs : List Loc} {ls : Array Slot} (h : D_X3_fillByRegister_b43 o k15 x1 x2 x4 x5 y0 y1 w2 M = some oo) (hw : ch_Wd D I 40 (ch_FC I sh) sh s A M H locs) (hl : lv_has ls 6 [(0, .ref (sh o)), (1, .int x1), (2, .int x2), (4, .int x4), (5, .int x5)]) : W p l e rm_X3_fillByRegister s m args below meth c H locs 0 0 Q (F0 m 43 ls [.int y0, .int y1, .ref (sh w2)]) := by
  obtain ⟨hx, hb, hml, hown, hts⟩ := id S
  unfold D_X3_fillByRegister_b43 at h
  refine ch_gd_k h (fun hin h => ?_)
  refine ch_iast S hw w2 (by unfold ch_arr at *; omega) (fun f => ch_FC_arr hw2 f) hin dX3_fillByRegister_43 (fun H locs hw => ?_)
  refine lv_iload_n hx hb dX3_fillByRegister_44 rfl (lv_at hl 1 rfl) ?_
  refine lv_iload_n hx hb dX3_fillByRegister_45 rfl (lv_at hl 2 rfl) ?_
  refine lv_iload hx hb dX3_fillByRegister_46 (lv_at hl 3 rfl) ?_
  refine ch_bd_k h (fun r1 M2 hc h => ?_)
  refine ch_ci hw (va_runSN (As := [.int x1, .int x2, .int x4]) (rest := []) S (c_X6_stepped l D I sh H.size (ch_wI M w2 y1.toNatClampNeg y0) x1 x2 x4 hc) ⟨va_cnB 3 hts gX3_fillByRegister_X6_stepped_n25 rfl rfl rfl (ch_nwN hw 27 rfl) (hts (.initialized RX6) (by decide +kernel)) (by decide +kernel) ⟨Nat.le_of_ble_eq_true rfl, Nat.le_of_ble_eq_true rfl⟩, hts (.static yX6_stepped) (by decide +kernel), trivial⟩ (ch_pS hw) rfl rfl hl.1 rfl (lv_room (Nat.le_of_ble_eq_true rfl)) dX3_fillByRegister_48 ⟨Nat.le_refl 0, Nat.le_refl 0⟩) (fun H locs hw => ?_)
  refine lv_istore (lv' := [(4, .int r1), (0, .ref (sh o)), (1, .int x1), (2, .int x2), (5, .int x5)]) hx hb dX3_fillByRegister_51 hl (by decide) rfl (fun ls hl => ?_)
  refine lv_iinc (v := x5 + (1 : Int32)) (lv' := [(5, .int (x5 + (1 : Int32))), (4, .int r1), (0, .ref (sh o)), (1, .int x1), (2, .int x2)]) hx hb dX3_fillByRegister_53 hl (k := 4) rfl rfl (by decide) rfl (fun ls hl => ?_)
  refine lv_goto (tgt := 15) hx hb dX3_fillByRegister_56 (by decide) ?_
  exact hk15 _ _ _ _ _ _ _ _  h hw (lv_sub hl [2, 3, 4, 1, 0] rfl)
set_option maxHeartbeats 4000000 in
set_option maxRecDepth 100000 in
theorem t_X3_fillByRegister_15 {p : Program} {l : Launch} {e : Env} {s : State} {m : MethodId} {args : Array Value} {below : List Frame} {meth : Method} {c : Code} {Q : State → Prop} {D : va_G} {I : ch_Id} {sh : Nat → Nat} {A : Nat → Prop} {oo : Unit × ch_Mem} {o : Nat} (ho : 7 ≤ o ∧ o < 15)  {k15 : Int32 → Int32 → Int32 → Int32 → ch_Mem → Option (Unit × ch_Mem)} (S : CallFix p m c cX3_fillByRegister 6 s args wsX3_fillByRegister RX3) (fin : ch_FinV p l e rm_X3_fillByRegister s m args below meth c cX3_fillByRegister Q D I 40 (ch_FC I sh) sh A oo) (hk15 : ∀ (x1 : Int32) (x2 : Int32) (x4 : Int32) (x5 : Int32) (M : ch_Mem) (H : Heap) (locs : List Loc) (ls : Array Slot), k15 x1 x2 x4 x5 M = some oo → ch_Wd D I 40 (ch_FC I sh) sh s A M H locs → lv_has ls 6 [(0, .ref (sh o)), (1, .int x1), (2, .int x2), (4, .int x4), (5, .int x5)] → W p l e rm_X3_fillByRegister s m args below meth c H locs 0 0 Q (F0 m 15 ls [])) {x1 : Int32} {x2 : Int32} {x4 : Int32} {x5 : Int32}  {M : ch_Mem} {H : Heap} {locs : List Loc} {ls : Array Slot} (h : D_X3_fillByRegister_b15 o k15 x1 x2 x4 x5 M = some oo) (hw : ch_Wd D I 40 (ch_FC I sh) sh s A M H locs) (hl : lv_has ls 6 [(0, .ref (sh o)), (1, .int x1), (2, .int x2), (4, .int x4), (5, .int x5)]) : W p l e rm_X3_fillByRegister s m args below meth c H locs 0 0 Q (F0 m 15 ls []) := by
  obtain ⟨hx, hb, hml, hown, hts⟩ := id S
  unfold D_X3_fillByRegister_b15 at h
  refine lv_iload hx hb dX3_fillByRegister_15 (lv_at hl 4 rfl) ?_
  refine lv_aload_n hx hb dX3_fillByRegister_17 rfl (lv_at hl 0 rfl) ?_
  refine ch_get S hw o (by omega) (ch_FC_row (by omega)) rfl (by decide +kernel) 1 (by decide) (hts (.fieldLink RX3 15 "CodeHunt$Row" "size" "I") (by decide +kernel)) rfl dX3_fillByRegister_18 ?_
  refine ch_icmp_ge (tgt := 59) hx hb dX3_fillByRegister_21 (by decide) h (fun h => ?_) (fun h => ?_)
  · exact fin _ _ _ _ _ h hw dX3_fillByRegister_59
  · refine lv_aload_n hx hb dX3_fillByRegister_24 rfl (lv_at hl 0 rfl) ?_
    refine ch_get S hw o (by omega) (ch_FC_row (by omega)) rfl (by decide +kernel) 0 (by decide) (hts (.fieldLink RX3 9 "CodeHunt$Row" "signs" "[I") (by decide +kernel)) rfl dX3_fillByRegister_25 ?_
    refine lv_iload hx hb dX3_fillByRegister_28 (lv_at hl 4 rfl) ?_
    refine lv_iload hx hb dX3_fillByRegister_30 (lv_at hl 3 rfl) ?_
    refine lv_iconst (v := (1 : Int32)) hx hb dX3_fillByRegister_32 (by decide) ?_
    refine lv_iand hx hb dX3_fillByRegister_33 ?_
    refine lv_iconst (v := (1 : Int32)) hx hb dX3_fillByRegister_34 (by decide) ?_
    refine ch_icmp_ne (tgt := 42) hx hb dX3_fillByRegister_35 (by decide) h (fun h => ?_) (fun h => ?_)
    · refine lv_iconst (v := (1 : Int32)) hx hb dX3_fillByRegister_42 (by decide) ?_
      exact t_X3_fillByRegister_43 ho S fin hk15 (by unfold ch_arr; omega) h hw (lv_sub hl [0, 1, 2, 3, 4] rfl)
    · refine lv_iconst (v := (-1 : Int32)) hx hb dX3_fillByRegister_38 (by decide) ?_
      refine lv_goto (tgt := 43) hx hb dX3_fillByRegister_39 (by decide) ?_
      exact t_X3_fillByRegister_43 ho S fin hk15 (by unfold ch_arr; omega) h hw (lv_sub hl [0, 1, 2, 3, 4] rfl)
set_option maxHeartbeats 4000000 in
set_option maxRecDepth 100000 in
theorem tl_X3_fillByRegister_15 {p : Program} {l : Launch} {e : Env} {s : State} {m : MethodId} {args : Array Value} {below : List Frame} {meth : Method} {c : Code} {Q : State → Prop} {D : va_G} {I : ch_Id} {sh : Nat → Nat} {A : Nat → Prop} {oo : Unit × ch_Mem} {o : Nat} (ho : 7 ≤ o ∧ o < 15)   (S : CallFix p m c cX3_fillByRegister 6 s args wsX3_fillByRegister RX3) (fin : ch_FinV p l e rm_X3_fillByRegister s m args below meth c cX3_fillByRegister Q D I 40 (ch_FC I sh) sh A oo)  (n : Nat) : ∀ (x1 : Int32) (x2 : Int32) (x4 : Int32) (x5 : Int32) (M : ch_Mem) (H : Heap) (locs : List Loc) (ls : Array Slot), D_X3_fillByRegister_L15 o n x1 x2 x4 x5 M = some oo → ch_Wd D I 40 (ch_FC I sh) sh s A M H locs → lv_has ls 6 [(0, .ref (sh o)), (1, .int x1), (2, .int x2), (4, .int x4), (5, .int x5)] → W p l e rm_X3_fillByRegister s m args below meth c H locs 0 0 Q (F0 m 15 ls []) := by
  induction n with
  | zero => intro x1 x2 x4 x5 M H locs ls  h; cases h
  | succ n ih =>
    intro x1 x2 x4 x5 M H locs ls  h hw hl
    exact t_X3_fillByRegister_15 ho S fin ih h hw hl
set_option maxHeartbeats 4000000 in
set_option maxRecDepth 100000 in
theorem t_X3_fillByRegister_0 {p : Program} {l : Launch} {e : Env} {s : State} {m : MethodId} {args : Array Value} {below : List Frame} {meth : Method} {c : Code} {Q : State → Prop} {D : va_G} {I : ch_Id} {sh : Nat → Nat} {A : Nat → Prop} {oo : Unit × ch_Mem} {o : Nat} (ho : 7 ≤ o ∧ o < 15)   (S : CallFix p m c cX3_fillByRegister 6 s args wsX3_fillByRegister RX3) (fin : ch_FinV p l e rm_X3_fillByRegister s m args below meth c cX3_fillByRegister Q D I 40 (ch_FC I sh) sh A oo)  {x1 : Int32} {x2 : Int32} {x3 : Int32}  {M : ch_Mem} {H : Heap} {locs : List Loc} {ls : Array Slot} (h : D_X3_fillByRegister o x1 x2 x3 M = some oo) (hw : ch_Wd D I 40 (ch_FC I sh) sh s A M H locs) (hl : lv_has ls 6 [(0, .ref (sh o)), (1, .int x1), (2, .int x2), (3, .int x3)]) : W p l e rm_X3_fillByRegister s m args below meth c H locs 0 0 Q (F0 m 0 ls []) := by
  obtain ⟨hx, hb, hml, hown, hts⟩ := id S
  unfold D_X3_fillByRegister at h
  refine lv_aload_n hx hb dX3_fillByRegister_0 rfl (lv_at hl 0 rfl) ?_
  refine lv_iconst (v := (1 : Int32)) hx hb dX3_fillByRegister_1 (by decide) ?_
  refine lv_iload_n hx hb dX3_fillByRegister_2 rfl (lv_at hl 1 rfl) ?_
  refine lv_ishl hx hb dX3_fillByRegister_3 ?_
  refine lv_iconst (v := (1 : Int32)) hx hb dX3_fillByRegister_4 (by decide) ?_
  refine lv_isub hx hb dX3_fillByRegister_5 ?_
  refine ch_put (M1 := ch_wI M o 1 (((1 : Int32) <<< (x1 &&& 31)) - (1 : Int32))) (ty := .int) S hw o (by omega) (ch_FC_row (by omega)) rfl (by decide +kernel) tyX3 tyX3_ok nmX3 1 (by decide) (hts (.fieldLink RX3 15 "CodeHunt$Row" "size" "I") (by decide +kernel)) rfl (by decide +kernel) rfl rfl (Nat.le_of_ble_eq_true rfl) (ch_cf_wI (j := 1) (v := (((1 : Int32) <<< (x1 &&& 31)) - (1 : Int32))) (ch_FC_row (by omega))) dX3_fillByRegister_6 (fun H locs hw => ?_)
  refine lv_iload_n hx hb dX3_fillByRegister_9 rfl (lv_at hl 3 rfl) ?_
  refine lv_istore (lv' := [(4, .int x3), (0, .ref (sh o)), (1, .int x1), (2, .int x2), (3, .int x3)]) hx hb dX3_fillByRegister_10 hl (by decide) rfl (fun ls hl => ?_)
  refine lv_iconst (v := (0 : Int32)) hx hb dX3_fillByRegister_12 (by decide) ?_
  refine lv_istore (lv' := [(5, .int (0 : Int32)), (4, .int x3), (0, .ref (sh o)), (1, .int x1), (2, .int x2), (3, .int x3)]) hx hb dX3_fillByRegister_13 hl (by decide) rfl (fun ls hl => ?_)
  exact tl_X3_fillByRegister_15 ho S fin ch_fu _ _ _ _ _ _ _ _ h hw (lv_sub hl [2, 3, 4, 1, 0] rfl)
set_option maxHeartbeats 4000000 in
set_option maxRecDepth 100000 in
theorem c_X3_fillByRegister (l : Launch) (D : va_G) (I : ch_Id) (sh : Nat → Nat) (sz : Nat) (M : ch_Mem) (o : Nat) (ho : 7 ≤ o ∧ o < 15) (x1 : Int32) (x2 : Int32) (x3 : Int32) {M1 : ch_Mem} (h : D_X3_fillByRegister o x1 x2 x3 M = some ((), M1)) : Met l yX3_fillByRegister wsX3_fillByRegister rm_X3_fillByRegister (va_Pc [.ref (sh o), .int x1, .int x2, .int x3] (ch_Pre D I 40 (ch_FC I sh) sh sz M)) (va_Qv (fun (u : ch_Mem) => u = M1) (ch_Pos D 40 (ch_FC I sh) sh) (ch_A 40 sh sz)) 0 0 (ch_A 40 sh sz) := by
  refine Met.ofW (cc := cX3_fillByRegister) (maxL := 6) (ret := none) (by decide) rfl ?_
  intro p e s m args below meth c s₁ B hml hv0
  obtain ⟨rfl, hv0⟩ := hv0
  obtain rfl : s.heap.size = sz := hv0.1
  have hw := ch_start hv0
  have S : CallFix p m c cX3_fillByRegister 6 s _ wsX3_fillByRegister RX3 := ⟨B.exec, B.bytes, hml, findClass_of_methodNamed B.named, atoms_spec (ws := wsX3_fillByRegister) B.pre⟩
  have hl := lv_entry ([.ref (sh o), .int x1, .int x2, .int x3]) (n := 6) (Nat.le_of_ble_eq_true rfl)
  rw [lg_entry_eq]
  generalize (lg_sl ([.ref (sh o), .int x1, .int x2, .int x3]) ++ List.replicate (6 - (lg_sl ([.ref (sh o), .int x1, .int x2, .int x3])).length) Slot.unset).toArray = ls at hl ⊢
  exact t_X3_fillByRegister_0 ho S (ch_finV B.exec B.bytes B.returns B.notSynchronized) h hw (lv_sub hl [0, 1, 2, 3] rfl)
set_option maxHeartbeats 4000000 in
set_option maxRecDepth 100000 in
theorem t_X3_fillBySignsOf_41 {p : Program} {l : Launch} {e : Env} {s : State} {m : MethodId} {args : Array Value} {below : List Frame} {meth : Method} {c : Code} {Q : State → Prop} {D : va_G} {I : ch_Id} {sh : Nat → Nat} {A : Nat → Prop} {oo : Unit × ch_Mem} {o : Nat} {v : Nat} (ho : 7 ≤ o ∧ o < 15) (hv : ch_arr v)  {k17 : Int32 → ch_Mem → Option (Unit × ch_Mem)} (S : CallFix p m c cX3_fillBySignsOf 4 s args wsX3_fillBySignsOf RX3) (fin : ch_FinV p l e rm_X3_fillBySignsOf s m args below meth c cX3_fillBySignsOf Q D I 40 (ch_FC I sh) sh A oo) (hk17 : ∀ (x3 : Int32) (M : ch_Mem) (H : Heap) (locs : List Loc) (ls : Array Slot), k17 x3 M = some oo → ch_Wd D I 40 (ch_FC I sh) sh s A M H locs → lv_has ls 4 [(0, .ref (sh o)), (1, .ref (sh v)), (3, .int x3)] → W p l e rm_X3_fillBySignsOf s m args below meth c H locs 0 0 Q (F0 m 17 ls [])) {x3 : Int32} {y0 : Int32} {y1 : Int32} {w2 : Nat} (hw2 : ch_arr w2) {M : ch_Mem} {H : Heap} {locs : List Loc} {ls : Array Slot} (h : D_X3_fillBySignsOf_b41 o v k17 x3 y0 y1 w2 M = some oo) (hw : ch_Wd D I 40 (ch_FC I sh) sh s A M H locs) (hl : lv_has ls 4 [(0, .ref (sh o)), (1, .ref (sh v)), (3, .int x3)]) : W p l e rm_X3_fillBySignsOf s m args below meth c H locs 0 0 Q (F0 m 41 ls [.int y0, .int y1, .ref (sh w2)]) := by
  obtain ⟨hx, hb, hml, hown, hts⟩ := id S
  unfold D_X3_fillBySignsOf_b41 at h
  refine ch_gd_k h (fun hin h => ?_)
  refine ch_iast S hw w2 (by unfold ch_arr at *; omega) (fun f => ch_FC_arr hw2 f) hin dX3_fillBySignsOf_41 (fun H locs hw => ?_)
  refine lv_iinc (v := x3 + (1 : Int32)) (lv' := [(3, .int (x3 + (1 : Int32))), (0, .ref (sh o)), (1, .ref (sh v))]) hx hb dX3_fillBySignsOf_42 hl (k := 2) rfl rfl (by decide) rfl (fun ls hl => ?_)
  refine lv_goto (tgt := 17) hx hb dX3_fillBySignsOf_45 (by decide) ?_
  exact hk17 _ _ _ _ _  h hw (lv_sub hl [1, 2, 0] rfl)
set_option maxHeartbeats 4000000 in
set_option maxRecDepth 100000 in
theorem t_X3_fillBySignsOf_17 {p : Program} {l : Launch} {e : Env} {s : State} {m : MethodId} {args : Array Value} {below : List Frame} {meth : Method} {c : Code} {Q : State → Prop} {D : va_G} {I : ch_Id} {sh : Nat → Nat} {A : Nat → Prop} {oo : Unit × ch_Mem} {o : Nat} {v : Nat} (ho : 7 ≤ o ∧ o < 15) (hv : ch_arr v)  {k17 : Int32 → ch_Mem → Option (Unit × ch_Mem)} (S : CallFix p m c cX3_fillBySignsOf 4 s args wsX3_fillBySignsOf RX3) (fin : ch_FinV p l e rm_X3_fillBySignsOf s m args below meth c cX3_fillBySignsOf Q D I 40 (ch_FC I sh) sh A oo) (hk17 : ∀ (x3 : Int32) (M : ch_Mem) (H : Heap) (locs : List Loc) (ls : Array Slot), k17 x3 M = some oo → ch_Wd D I 40 (ch_FC I sh) sh s A M H locs → lv_has ls 4 [(0, .ref (sh o)), (1, .ref (sh v)), (3, .int x3)] → W p l e rm_X3_fillBySignsOf s m args below meth c H locs 0 0 Q (F0 m 17 ls [])) {x3 : Int32}  {M : ch_Mem} {H : Heap} {locs : List Loc} {ls : Array Slot} (h : D_X3_fillBySignsOf_b17 o v k17 x3 M = some oo) (hw : ch_Wd D I 40 (ch_FC I sh) sh s A M H locs) (hl : lv_has ls 4 [(0, .ref (sh o)), (1, .ref (sh v)), (3, .int x3)]) : W p l e rm_X3_fillBySignsOf s m args below meth c H locs 0 0 Q (F0 m 17 ls []) := by
  obtain ⟨hx, hb, hml, hown, hts⟩ := id S
  unfold D_X3_fillBySignsOf_b17 at h
  refine lv_iload_n hx hb dX3_fillBySignsOf_17 rfl (lv_at hl 2 rfl) ?_
  refine lv_aload_n hx hb dX3_fillBySignsOf_18 rfl (lv_at hl 0 rfl) ?_
  refine ch_get S hw o (by omega) (ch_FC_row (by omega)) rfl (by decide +kernel) 1 (by decide) (hts (.fieldLink RX3 15 "CodeHunt$Row" "size" "I") (by decide +kernel)) rfl dX3_fillBySignsOf_19 ?_
  refine ch_icmp_ge (tgt := 48) hx hb dX3_fillBySignsOf_22 (by decide) h (fun h => ?_) (fun h => ?_)
  · exact fin _ _ _ _ _ h hw dX3_fillBySignsOf_48
  · refine lv_aload_n hx hb dX3_fillBySignsOf_25 rfl (lv_at hl 0 rfl) ?_
    refine ch_get S hw o (by omega) (ch_FC_row (by omega)) rfl (by decide +kernel) 0 (by decide) (hts (.fieldLink RX3 9 "CodeHunt$Row" "signs" "[I") (by decide +kernel)) rfl dX3_fillBySignsOf_26 ?_
    refine lv_iload_n hx hb dX3_fillBySignsOf_29 rfl (lv_at hl 2 rfl) ?_
    refine lv_aload_n hx hb dX3_fillBySignsOf_30 rfl (lv_at hl 1 rfl) ?_
    refine lv_iload_n hx hb dX3_fillBySignsOf_31 rfl (lv_at hl 2 rfl) ?_
    refine ch_gd_k h (fun hin h => ?_)
    refine ch_iald S hw v (by unfold ch_arr at hv; omega) (ch_FC_arr hv _) hin dX3_fillBySignsOf_32 ?_
    refine ch_if_ge (tgt := 40) hx hb dX3_fillBySignsOf_33 (by decide) h (fun h => ?_) (fun h => ?_)
    · refine lv_iconst (v := (1 : Int32)) hx hb dX3_fillBySignsOf_40 (by decide) ?_
      exact t_X3_fillBySignsOf_41 ho hv S fin hk17 (by unfold ch_arr; omega) h hw (lv_sub hl [0, 1, 2] rfl)
    · refine lv_iconst (v := (-1 : Int32)) hx hb dX3_fillBySignsOf_36 (by decide) ?_
      refine lv_goto (tgt := 41) hx hb dX3_fillBySignsOf_37 (by decide) ?_
      exact t_X3_fillBySignsOf_41 ho hv S fin hk17 (by unfold ch_arr; omega) h hw (lv_sub hl [0, 1, 2] rfl)
set_option maxHeartbeats 4000000 in
set_option maxRecDepth 100000 in
theorem tl_X3_fillBySignsOf_17 {p : Program} {l : Launch} {e : Env} {s : State} {m : MethodId} {args : Array Value} {below : List Frame} {meth : Method} {c : Code} {Q : State → Prop} {D : va_G} {I : ch_Id} {sh : Nat → Nat} {A : Nat → Prop} {oo : Unit × ch_Mem} {o : Nat} {v : Nat} (ho : 7 ≤ o ∧ o < 15) (hv : ch_arr v)   (S : CallFix p m c cX3_fillBySignsOf 4 s args wsX3_fillBySignsOf RX3) (fin : ch_FinV p l e rm_X3_fillBySignsOf s m args below meth c cX3_fillBySignsOf Q D I 40 (ch_FC I sh) sh A oo)  (n : Nat) : ∀ (x3 : Int32) (M : ch_Mem) (H : Heap) (locs : List Loc) (ls : Array Slot), D_X3_fillBySignsOf_L17 o v n x3 M = some oo → ch_Wd D I 40 (ch_FC I sh) sh s A M H locs → lv_has ls 4 [(0, .ref (sh o)), (1, .ref (sh v)), (3, .int x3)] → W p l e rm_X3_fillBySignsOf s m args below meth c H locs 0 0 Q (F0 m 17 ls []) := by
  induction n with
  | zero => intro x3 M H locs ls  h; cases h
  | succ n ih =>
    intro x3 M H locs ls  h hw hl
    exact t_X3_fillBySignsOf_17 ho hv S fin ih h hw hl
set_option maxHeartbeats 4000000 in
set_option maxRecDepth 100000 in
theorem t_X3_fillBySignsOf_0 {p : Program} {l : Launch} {e : Env} {s : State} {m : MethodId} {args : Array Value} {below : List Frame} {meth : Method} {c : Code} {Q : State → Prop} {D : va_G} {I : ch_Id} {sh : Nat → Nat} {A : Nat → Prop} {oo : Unit × ch_Mem} {o : Nat} {v : Nat} (ho : 7 ≤ o ∧ o < 15) (hv : ch_arr v)   (S : CallFix p m c cX3_fillBySignsOf 4 s args wsX3_fillBySignsOf RX3) (fin : ch_FinV p l e rm_X3_fillBySignsOf s m args below meth c cX3_fillBySignsOf Q D I 40 (ch_FC I sh) sh A oo)  {x2 : Int32}  {M : ch_Mem} {H : Heap} {locs : List Loc} {ls : Array Slot} (h : D_X3_fillBySignsOf o v x2 M = some oo) (hw : ch_Wd D I 40 (ch_FC I sh) sh s A M H locs) (hl : lv_has ls 4 [(0, .ref (sh o)), (1, .ref (sh v)), (2, .int x2)]) : W p l e rm_X3_fillBySignsOf s m args below meth c H locs 0 0 Q (F0 m 0 ls []) := by
  obtain ⟨hx, hb, hml, hown, hts⟩ := id S
  unfold D_X3_fillBySignsOf at h
  refine lv_aload_n hx hb dX3_fillBySignsOf_0 rfl (lv_at hl 0 rfl) ?_
  refine lv_iload_n hx hb dX3_fillBySignsOf_1 rfl (lv_at hl 2 rfl) ?_
  refine lv_aload_n hx hb dX3_fillBySignsOf_2 rfl (lv_at hl 1 rfl) ?_
  refine ch_alen S hw v (by unfold ch_arr at hv; omega) (ch_FC_arr hv _) dX3_fillBySignsOf_3 ?_
  refine lv_bipush (v := (127 : Int32)) hx hb dX3_fillBySignsOf_4 (by decide) ?_
  refine va_mmin hx hb (S.2.2.1.trans hl.1.symm) hown (hts (.methodLink RX3 29 Lib.Math.min.name) (by decide +kernel)) (hts (.static Lib.Math.min.name) (by decide +kernel)) (hts (.initialized "java/lang/Math") (by decide +kernel)) (hts (.code Lib.Math.min.name Lib.Math.min.code 2 (some .int)) (by decide +kernel)) (Nat.le_of_ble_eq_true rfl) (Nat.le_of_ble_eq_true rfl) (Nat.le_refl 0) (Nat.le_refl 0) dX3_fillBySignsOf_6 ?_
  refine va_mmin hx hb (S.2.2.1.trans hl.1.symm) hown (hts (.methodLink RX3 29 Lib.Math.min.name) (by decide +kernel)) (hts (.static Lib.Math.min.name) (by decide +kernel)) (hts (.initialized "java/lang/Math") (by decide +kernel)) (hts (.code Lib.Math.min.name Lib.Math.min.code 2 (some .int)) (by decide +kernel)) (Nat.le_of_ble_eq_true rfl) (Nat.le_of_ble_eq_true rfl) (Nat.le_refl 0) (Nat.le_refl 0) dX3_fillBySignsOf_9 ?_
  refine ch_put (M1 := ch_wI M o 1 (if (if (127 : Int32) < (nI (ch_len v)) then (127 : Int32) else (nI (ch_len v))) < x2 then (if (127 : Int32) < (nI (ch_len v)) then (127 : Int32) else (nI (ch_len v))) else x2)) (ty := .int) S hw o (by omega) (ch_FC_row (by omega)) rfl (by decide +kernel) tyX3 tyX3_ok nmX3 1 (by decide) (hts (.fieldLink RX3 15 "CodeHunt$Row" "size" "I") (by decide +kernel)) rfl (by decide +kernel) rfl rfl (Nat.le_of_ble_eq_true rfl) (ch_cf_wI (j := 1) (v := (if (if (127 : Int32) < (nI (ch_len v)) then (127 : Int32) else (nI (ch_len v))) < x2 then (if (127 : Int32) < (nI (ch_len v)) then (127 : Int32) else (nI (ch_len v))) else x2)) (ch_FC_row (by omega))) dX3_fillBySignsOf_12 (fun H locs hw => ?_)
  refine lv_iconst (v := (0 : Int32)) hx hb dX3_fillBySignsOf_15 (by decide) ?_
  refine lv_istore_n (lv' := [(3, .int (0 : Int32)), (0, .ref (sh o)), (1, .ref (sh v)), (2, .int x2)]) hx hb dX3_fillBySignsOf_16 rfl hl (by decide) rfl (fun ls hl => ?_)
  exact tl_X3_fillBySignsOf_17 ho hv S fin ch_fu _ _ _ _ _ h hw (lv_sub hl [1, 2, 0] rfl)
set_option maxHeartbeats 4000000 in
set_option maxRecDepth 100000 in
theorem c_X3_fillBySignsOf (l : Launch) (D : va_G) (I : ch_Id) (sh : Nat → Nat) (sz : Nat) (M : ch_Mem) (o : Nat) (ho : 7 ≤ o ∧ o < 15) (v : Nat) (hv : ch_arr v) (x2 : Int32) {M1 : ch_Mem} (h : D_X3_fillBySignsOf o v x2 M = some ((), M1)) : Met l yX3_fillBySignsOf wsX3_fillBySignsOf rm_X3_fillBySignsOf (va_Pc [.ref (sh o), .ref (sh v), .int x2] (ch_Pre D I 40 (ch_FC I sh) sh sz M)) (va_Qv (fun (u : ch_Mem) => u = M1) (ch_Pos D 40 (ch_FC I sh) sh) (ch_A 40 sh sz)) 0 0 (ch_A 40 sh sz) := by
  refine Met.ofW (cc := cX3_fillBySignsOf) (maxL := 4) (ret := none) (by decide) rfl ?_
  intro p e s m args below meth c s₁ B hml hv0
  obtain ⟨rfl, hv0⟩ := hv0
  obtain rfl : s.heap.size = sz := hv0.1
  have hw := ch_start hv0
  have S : CallFix p m c cX3_fillBySignsOf 4 s _ wsX3_fillBySignsOf RX3 := ⟨B.exec, B.bytes, hml, findClass_of_methodNamed B.named, atoms_spec (ws := wsX3_fillBySignsOf) B.pre⟩
  have hl := lv_entry ([.ref (sh o), .ref (sh v), .int x2]) (n := 4) (Nat.le_of_ble_eq_true rfl)
  rw [lg_entry_eq]
  generalize (lg_sl ([.ref (sh o), .ref (sh v), .int x2]) ++ List.replicate (4 - (lg_sl ([.ref (sh o), .ref (sh v), .int x2])).length) Slot.unset).toArray = ls at hl ⊢
  exact t_X3_fillBySignsOf_0 ho hv S (ch_finV B.exec B.bytes B.returns B.notSynchronized) h hw (lv_sub hl [0, 1, 2] rfl)
set_option maxHeartbeats 4000000 in
set_option maxRecDepth 100000 in
theorem t_X3_isNone_0 {p : Program} {l : Launch} {e : Env} {s : State} {m : MethodId} {args : Array Value} {below : List Frame} {meth : Method} {c : Code} {Q : State → Prop} {D : va_G} {I : ch_Id} {sh : Nat → Nat} {A : Nat → Prop} {oo : Int32 × ch_Mem} {o : Nat} (ho : 7 ≤ o ∧ o < 15)   (S : CallFix p m c cX3_isNone 1 s args wsX3_isNone RX3) (fin : ch_FinZ p l e rm_X3_isNone s m args below meth c cX3_isNone Q D I 40 (ch_FC I sh) sh A oo)    {M : ch_Mem} {H : Heap} {locs : List Loc} {ls : Array Slot} (h : D_X3_isNone o M = some oo) (hw : ch_Wd D I 40 (ch_FC I sh) sh s A M H locs) (hl : lv_has ls 1 [(0, .ref (sh o))]) : W p l e rm_X3_isNone s m args below meth c H locs 0 0 Q (F0 m 0 ls []) := by
  obtain ⟨hx, hb, hml, hown, hts⟩ := id S
  unfold D_X3_isNone at h
  refine lv_aload_n hx hb dX3_isNone_0 rfl (lv_at hl 0 rfl) ?_
  refine ch_get S hw o (by omega) (ch_FC_row (by omega)) rfl (by decide +kernel) 1 (by decide) (hts (.fieldLink RX3 15 "CodeHunt$Row" "size" "I") (by decide +kernel)) rfl dX3_isNone_1 ?_
  refine lv_iconst (v := (1 : Int32)) hx hb dX3_isNone_4 (by decide) ?_
  refine ch_icmp_ge (tgt := 12) hx hb dX3_isNone_5 (by decide) h (fun h => ?_) (fun h => ?_)
  · refine lv_iconst (v := (0 : Int32)) hx hb dX3_isNone_12 (by decide) ?_
    exact fin _ _ _ _ _ _ rfl h hw dX3_isNone_13
  · refine lv_iconst (v := (1 : Int32)) hx hb dX3_isNone_8 (by decide) ?_
    refine lv_goto (tgt := 13) hx hb dX3_isNone_9 (by decide) ?_
    exact fin _ _ _ _ _ _ rfl h hw dX3_isNone_13
set_option maxHeartbeats 4000000 in
set_option maxRecDepth 100000 in
theorem c_X3_isNone (l : Launch) (D : va_G) (I : ch_Id) (sh : Nat → Nat) (sz : Nat) (M : ch_Mem) (o : Nat) (ho : 7 ≤ o ∧ o < 15)  {r : Int32} {M1 : ch_Mem} (h : D_X3_isNone o M = some (r, M1)) : Met l yX3_isNone wsX3_isNone rm_X3_isNone (va_Pc [.ref (sh o)] (ch_Pre D I 40 (ch_FC I sh) sh sz M)) (va_Qi (fun r' (u : ch_Mem) => r' = r ∧ u = M1) (ch_Pos D 40 (ch_FC I sh) sh) (ch_A 40 sh sz)) 0 0 (ch_A 40 sh sz) := by
  refine Met.ofW (cc := cX3_isNone) (maxL := 1) (ret := (some .boolean)) (by decide) rfl ?_
  intro p e s m args below meth c s₁ B hml hv0
  obtain ⟨rfl, hv0⟩ := hv0
  obtain rfl : s.heap.size = sz := hv0.1
  have hw := ch_start hv0
  have S : CallFix p m c cX3_isNone 1 s _ wsX3_isNone RX3 := ⟨B.exec, B.bytes, hml, findClass_of_methodNamed B.named, atoms_spec (ws := wsX3_isNone) B.pre⟩
  have hl := lv_entry ([.ref (sh o)]) (n := 1) (Nat.le_of_ble_eq_true rfl)
  rw [lg_entry_eq]
  generalize (lg_sl ([.ref (sh o)]) ++ List.replicate (1 - (lg_sl ([.ref (sh o)])).length) Slot.unset).toArray = ls at hl ⊢
  exact t_X3_isNone_0 ho S (ch_finZ B.exec B.bytes B.returns B.notSynchronized) h hw (lv_sub hl [0] rfl)
set_option maxHeartbeats 4000000 in
set_option maxRecDepth 100000 in
theorem t_X6_mixed_0 {p : Program} {l : Launch} {e : Env} {s : State} {m : MethodId} {args : Array Value} {below : List Frame} {meth : Method} {c : Code} {Q : State → Prop} {D : va_G} {I : ch_Id} {sh : Nat → Nat} {A : Nat → Prop} {oo : Int64 × ch_Mem}     (S : CallFix p m c cX6_mixed 4 s args wsX6_mixed RX6) (fin : ch_FinL p l e rm_X6_mixed s m args below meth c cX6_mixed Q D I 40 (ch_FC I sh) sh A oo)  {x0 : Int64} {x2 : Int64}  {M : ch_Mem} {H : Heap} {locs : List Loc} {ls : Array Slot} (h : D_X6_mixed x0 x2 M = some oo) (hw : ch_Wd D I 40 (ch_FC I sh) sh s A M H locs) (hl : lv_has ls 4 [(0, .long x0), (2, .long x2)]) : W p l e rm_X6_mixed s m args below meth c H locs 0 0 Q (F0 m 0 ls []) := by
  obtain ⟨hx, hb, hml, hown, hts⟩ := id S
  unfold D_X6_mixed at h
  refine lv_ldc2 (v := (31 : Int64)) hx hb hown (hts (.constantLong RX6 279 (31)) (by decide +kernel)) dX6_mixed_0 ?_
  refine lv_lload_n hx hb dX6_mixed_3 rfl (lv_at hl 0 rfl) ?_
  refine lv_lmul hx hb dX6_mixed_4 ?_
  refine lv_lload_n hx hb dX6_mixed_5 rfl (lv_at hl 1 rfl) ?_
  refine lv_ladd hx hb dX6_mixed_6 ?_
  exact fin _ _ _ _ _ _ h hw dX6_mixed_7
set_option maxHeartbeats 4000000 in
set_option maxRecDepth 100000 in
theorem c_X6_mixed (l : Launch) (D : va_G) (I : ch_Id) (sh : Nat → Nat) (sz : Nat) (M : ch_Mem)  (x0 : Int64) (x2 : Int64) {r : Int64} {M1 : ch_Mem} (h : D_X6_mixed x0 x2 M = some (r, M1)) : Met l yX6_mixed wsX6_mixed rm_X6_mixed (va_Pc [.long x0, .long x2] (ch_Pre D I 40 (ch_FC I sh) sh sz M)) (va_Ql (fun r' (u : ch_Mem) => r' = r ∧ u = M1) (ch_Pos D 40 (ch_FC I sh) sh) (ch_A 40 sh sz)) 0 0 (ch_A 40 sh sz) := by
  refine Met.ofW (cc := cX6_mixed) (maxL := 4) (ret := (some .long)) (by decide) rfl ?_
  intro p e s m args below meth c s₁ B hml hv0
  obtain ⟨rfl, hv0⟩ := hv0
  obtain rfl : s.heap.size = sz := hv0.1
  have hw := ch_start hv0
  have S : CallFix p m c cX6_mixed 4 s _ wsX6_mixed RX6 := ⟨B.exec, B.bytes, hml, findClass_of_methodNamed B.named, atoms_spec (ws := wsX6_mixed) B.pre⟩
  have hl := lv_entry ([.long x0, .long x2]) (n := 4) (Nat.le_of_ble_eq_true rfl)
  rw [lg_entry_eq]
  generalize (lg_sl ([.long x0, .long x2]) ++ List.replicate (4 - (lg_sl ([.long x0, .long x2])).length) Slot.unset).toArray = ls at hl ⊢
  exact t_X6_mixed_0 S (ch_finL B.exec B.bytes B.returns B.notSynchronized) h hw (lv_sub hl [0, 1] rfl)
