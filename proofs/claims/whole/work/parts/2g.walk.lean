set_option maxHeartbeats 4000000 in
set_option maxRecDepth 100000 in
theorem t_X6_hits_0 {p : Program} {l : Launch} {e : Env} {s : State} {m : MethodId} {args : Array Value} {below : List Frame} {meth : Method} {c : Code} {Q : State → Prop} {D : va_G} {I : ch_Id} {sh : Nat → Nat} {A : Nat → Prop} {oo : Int32 × ch_Mem}     (S : CallFix p m c cX6_hits 6 s args wsX6_hits RX6) (fin : ch_FinI p l e rm_X6_hits s m args below meth c cX6_hits Q D I 40 (ch_FC I sh) sh A oo)  {x1 : Int32} {x2 : Int32} {x3 : Int32} {x4 : Int32} {x5 : Int32}  {M : ch_Mem} {H : Heap} {locs : List Loc} {ls : Array Slot} (h : D_X6_hits x1 x2 x3 x4 x5 M = some oo) (hw : ch_Wd D I 40 (ch_FC I sh) sh s A M H locs) (hl : lv_has ls 6 [(0, .ref (sh 0)), (1, .int x1), (2, .int x2), (3, .int x3), (4, .int x4), (5, .int x5)]) : W p l e rm_X6_hits s m args below meth c H locs 0 0 Q (F0 m 0 ls []) := by
  obtain ⟨hx, hb, hml, hown, hts⟩ := id S
  unfold D_X6_hits at h
  refine lv_iload_n hx hb dX6_hits_0 rfl (lv_at hl 1 rfl) ?_
  refine lv_iload_n hx hb dX6_hits_1 rfl (lv_at hl 2 rfl) ?_
  refine lv_iload_n hx hb dX6_hits_2 rfl (lv_at hl 3 rfl) ?_
  refine ch_bd_k h (fun r1 M2 hc h => ?_)
  refine ch_ci hw (va_runS (As := [.int x1, .int x2, .int x3]) (rest := []) S (c_X6_areHops l D I sh H.size M x1 x2 x3 hc) (va_cwS 3 hts gX6_hits_X6_areHops rfl rfl rfl (by decide +kernel) ⟨Nat.le_of_ble_eq_true rfl, Nat.le_of_ble_eq_true rfl⟩) (ch_pS hw) rfl rfl hl.1 rfl (lv_room (Nat.le_of_ble_eq_true rfl)) dX6_hits_3 ⟨Nat.le_refl 0, Nat.le_refl 0⟩) (fun H locs hw => ?_)
  refine ch_if_eq (tgt := 31) hx hb dX6_hits_6 (by decide) h (fun h => ?_) (fun h => ?_)
  · refine lv_bipush (v := (-2 : Int32)) hx hb dX6_hits_31 (by decide) ?_
    exact fin _ _ _ _ _ _ h hw dX6_hits_33
  · refine lv_iload hx hb dX6_hits_9 (lv_at hl 4 rfl) ?_
    refine ch_if_lt (tgt := 31) hx hb dX6_hits_11 (by decide) h (fun h => ?_) (fun h => ?_)
    · refine lv_bipush (v := (-2 : Int32)) hx hb dX6_hits_31 (by decide) ?_
      exact fin _ _ _ _ _ _ h hw dX6_hits_33
    · refine lv_iload hx hb dX6_hits_14 (lv_at hl 4 rfl) ?_
      refine lv_iload_n hx hb dX6_hits_16 rfl (lv_at hl 1 rfl) ?_
      refine ch_icmp_ge (tgt := 31) hx hb dX6_hits_17 (by decide) h (fun h => ?_) (fun h => ?_)
      · refine lv_bipush (v := (-2 : Int32)) hx hb dX6_hits_31 (by decide) ?_
        exact fin _ _ _ _ _ _ h hw dX6_hits_33
      · refine lv_iload hx hb dX6_hits_20 (lv_at hl 5 rfl) ?_
        refine ch_if_lt (tgt := 31) hx hb dX6_hits_22 (by decide) h (fun h => ?_) (fun h => ?_)
        · refine lv_bipush (v := (-2 : Int32)) hx hb dX6_hits_31 (by decide) ?_
          exact fin _ _ _ _ _ _ h hw dX6_hits_33
        · refine lv_iload hx hb dX6_hits_25 (lv_at hl 5 rfl) ?_
          refine lv_iload_n hx hb dX6_hits_27 rfl (lv_at hl 1 rfl) ?_
          refine ch_icmp_lt (tgt := 34) hx hb dX6_hits_28 (by decide) h (fun h => ?_) (fun h => ?_)
          · refine lv_iload_n hx hb dX6_hits_34 rfl (lv_at hl 1 rfl) ?_
            refine lv_iload_n hx hb dX6_hits_35 rfl (lv_at hl 2 rfl) ?_
            refine lv_iload_n hx hb dX6_hits_36 rfl (lv_at hl 3 rfl) ?_
            refine lv_iload hx hb dX6_hits_37 (lv_at hl 4 rfl) ?_
            refine lv_iload hx hb dX6_hits_39 (lv_at hl 5 rfl) ?_
            refine ch_bd_k h (fun r3 M4 hc h => ?_)
            refine ch_ci hw (va_runS (As := [.int x1, .int x2, .int x3, .int x4, .int x5]) (rest := []) S (c_X6_meetings l D I sh H.size M2 x1 x2 x3 x4 x5 hc) (va_cwS 5 hts gX6_hits_X6_meetings rfl rfl rfl (by decide +kernel) ⟨Nat.le_of_ble_eq_true rfl, Nat.le_of_ble_eq_true rfl⟩) (ch_pS hw) rfl rfl hl.1 rfl (lv_room (Nat.le_of_ble_eq_true rfl)) dX6_hits_41 ⟨Nat.le_refl 0, Nat.le_refl 0⟩) (fun H locs hw => ?_)
            exact fin _ _ _ _ _ _ h hw dX6_hits_44
          · refine lv_bipush (v := (-2 : Int32)) hx hb dX6_hits_31 (by decide) ?_
            exact fin _ _ _ _ _ _ h hw dX6_hits_33
set_option maxHeartbeats 4000000 in
set_option maxRecDepth 100000 in
theorem c_X6_hits (l : Launch) (D : va_G) (I : ch_Id) (sh : Nat → Nat) (sz : Nat) (M : ch_Mem)  (x1 : Int32) (x2 : Int32) (x3 : Int32) (x4 : Int32) (x5 : Int32) {r : Int32} {M1 : ch_Mem} (h : D_X6_hits x1 x2 x3 x4 x5 M = some (r, M1)) : Met l yX6_hits wsX6_hits rm_X6_hits (va_Pc [.ref (sh 0), .int x1, .int x2, .int x3, .int x4, .int x5] (ch_Pre D I 40 (ch_FC I sh) sh sz M)) (va_Qi (fun r' (u : ch_Mem) => r' = r ∧ u = M1) (ch_Pos D 40 (ch_FC I sh) sh) (ch_A 40 sh sz)) 0 0 (ch_A 40 sh sz) := by
  refine Met.ofW (cc := cX6_hits) (maxL := 6) (ret := (some .int)) (by decide) rfl ?_
  intro p e s m args below meth c s₁ B hml hv0
  obtain ⟨rfl, hv0⟩ := hv0
  obtain rfl : s.heap.size = sz := hv0.1
  have hw := ch_start hv0
  have S : CallFix p m c cX6_hits 6 s _ wsX6_hits RX6 := ⟨B.exec, B.bytes, hml, findClass_of_methodNamed B.named, atoms_spec (ws := wsX6_hits) B.pre⟩
  have hl := lv_entry ([.ref (sh 0), .int x1, .int x2, .int x3, .int x4, .int x5]) (n := 6) (Nat.le_of_ble_eq_true rfl)
  rw [lg_entry_eq]
  generalize (lg_sl ([.ref (sh 0), .int x1, .int x2, .int x3, .int x4, .int x5]) ++ List.replicate (6 - (lg_sl ([.ref (sh 0), .int x1, .int x2, .int x3, .int x4, .int x5])).length) Slot.unset).toArray = ls at hl ⊢
  exact t_X6_hits_0 S (ch_finI (B := fun _ => True) B.exec B.bytes B.returns B.notSynchronized) h hw (lv_sub hl [0, 1, 2, 3, 4, 5] rfl)
set_option maxHeartbeats 4000000 in
set_option maxRecDepth 100000 in
theorem t_X6_isRegister_0 {p : Program} {l : Launch} {e : Env} {s : State} {m : MethodId} {args : Array Value} {below : List Frame} {meth : Method} {c : Code} {Q : State → Prop} {D : va_G} {I : ch_Id} {sh : Nat → Nat} {A : Nat → Prop} {oo : Int32 × ch_Mem}     (S : CallFix p m c cX6_isRegister 4 s args wsX6_isRegister RX6) (fin : ch_FinZ p l e rm_X6_isRegister s m args below meth c cX6_isRegister Q D I 40 (ch_FC I sh) sh A oo)  {x0 : Int32} {x1 : Int32} {x2 : Int32}  {M : ch_Mem} {H : Heap} {locs : List Loc} {ls : Array Slot} (h : D_X6_isRegister x0 x1 x2 M = some oo) (hw : ch_Wd D I 40 (ch_FC I sh) sh s A M H locs) (hl : lv_has ls 4 [(0, .int x0), (1, .int x1), (2, .int x2)]) : W p l e rm_X6_isRegister s m args below meth c H locs 0 0 Q (F0 m 0 ls []) := by
  obtain ⟨hx, hb, hml, hown, hts⟩ := id S
  unfold D_X6_isRegister at h
  refine lv_iload_n hx hb dX6_isRegister_0 rfl (lv_at hl 0 rfl) ?_
  refine ch_bd_k h (fun r1 M2 hc h => ?_)
  refine ch_ci hw (va_runS (As := [.int x0]) (rest := []) S (c_X6_isBits l D I sh H.size M x0 hc) (va_cwS 1 hts gX6_isRegister_X6_isBits rfl rfl rfl (by decide +kernel) ⟨Nat.le_of_ble_eq_true rfl, Nat.le_of_ble_eq_true rfl⟩) (ch_pS hw) rfl rfl hl.1 rfl (lv_room (Nat.le_of_ble_eq_true rfl)) dX6_isRegister_1 ⟨Nat.le_refl 0, Nat.le_refl 0⟩) (fun H locs hw => ?_)
  refine ch_if_ne (tgt := 9) hx hb dX6_isRegister_4 (by decide) h (fun h => ?_) (fun h => ?_)
  · refine lv_iconst (v := (1 : Int32)) hx hb dX6_isRegister_9 (by decide) ?_
    refine lv_iload_n hx hb dX6_isRegister_10 rfl (lv_at hl 0 rfl) ?_
    refine lv_ishl hx hb dX6_isRegister_11 ?_
    refine lv_istore_n (lv' := [(3, .int ((1 : Int32) <<< (x0 &&& 31))), (0, .int x0), (1, .int x1), (2, .int x2)]) hx hb dX6_isRegister_12 rfl hl (by decide) rfl (fun ls hl => ?_)
    refine lv_iload_n hx hb dX6_isRegister_13 rfl (lv_at hl 2 rfl) ?_
    refine ch_if_le (tgt := 42) hx hb dX6_isRegister_14 (by decide) h (fun h => ?_) (fun h => ?_)
    · refine lv_iconst (v := (0 : Int32)) hx hb dX6_isRegister_42 (by decide) ?_
      exact fin _ _ _ _ _ _ rfl h hw dX6_isRegister_43
    · refine lv_iload_n hx hb dX6_isRegister_17 rfl (lv_at hl 2 rfl) ?_
      refine lv_iload_n hx hb dX6_isRegister_18 rfl (lv_at hl 0 rfl) ?_
      refine ch_icmp_ge (tgt := 42) hx hb dX6_isRegister_19 (by decide) h (fun h => ?_) (fun h => ?_)
      · refine lv_iconst (v := (0 : Int32)) hx hb dX6_isRegister_42 (by decide) ?_
        exact fin _ _ _ _ _ _ rfl h hw dX6_isRegister_43
      · refine lv_iload_n hx hb dX6_isRegister_22 rfl (lv_at hl 2 rfl) ?_
        refine lv_iconst (v := (1 : Int32)) hx hb dX6_isRegister_23 (by decide) ?_
        refine lv_iand hx hb dX6_isRegister_24 ?_
        refine lv_iconst (v := (1 : Int32)) hx hb dX6_isRegister_25 (by decide) ?_
        refine ch_icmp_ne (tgt := 42) hx hb dX6_isRegister_26 (by decide) h (fun h => ?_) (fun h => ?_)
        · refine lv_iconst (v := (0 : Int32)) hx hb dX6_isRegister_42 (by decide) ?_
          exact fin _ _ _ _ _ _ rfl h hw dX6_isRegister_43
        · refine lv_iload_n hx hb dX6_isRegister_29 rfl (lv_at hl 3 rfl) ?_
          refine ch_if_le (tgt := 42) hx hb dX6_isRegister_30 (by decide) h (fun h => ?_) (fun h => ?_)
          · refine lv_iconst (v := (0 : Int32)) hx hb dX6_isRegister_42 (by decide) ?_
            exact fin _ _ _ _ _ _ rfl h hw dX6_isRegister_43
          · refine lv_iload_n hx hb dX6_isRegister_33 rfl (lv_at hl 3 rfl) ?_
            refine lv_iload_n hx hb dX6_isRegister_34 rfl (lv_at hl 0 rfl) ?_
            refine ch_icmp_ge (tgt := 42) hx hb dX6_isRegister_35 (by decide) h (fun h => ?_) (fun h => ?_)
            · refine lv_iconst (v := (0 : Int32)) hx hb dX6_isRegister_42 (by decide) ?_
              exact fin _ _ _ _ _ _ rfl h hw dX6_isRegister_43
            · refine lv_iconst (v := (1 : Int32)) hx hb dX6_isRegister_38 (by decide) ?_
              refine lv_goto (tgt := 43) hx hb dX6_isRegister_39 (by decide) ?_
              exact fin _ _ _ _ _ _ rfl h hw dX6_isRegister_43
  · refine lv_iconst (v := (0 : Int32)) hx hb dX6_isRegister_7 (by decide) ?_
    exact fin _ _ _ _ _ _ rfl h hw dX6_isRegister_8
set_option maxHeartbeats 4000000 in
set_option maxRecDepth 100000 in
theorem c_X6_isRegister (l : Launch) (D : va_G) (I : ch_Id) (sh : Nat → Nat) (sz : Nat) (M : ch_Mem)  (x0 : Int32) (x1 : Int32) (x2 : Int32) {r : Int32} {M1 : ch_Mem} (h : D_X6_isRegister x0 x1 x2 M = some (r, M1)) : Met l yX6_isRegister wsX6_isRegister rm_X6_isRegister (va_Pc [.int x0, .int x1, .int x2] (ch_Pre D I 40 (ch_FC I sh) sh sz M)) (va_Qi (fun r' (u : ch_Mem) => r' = r ∧ u = M1) (ch_Pos D 40 (ch_FC I sh) sh) (ch_A 40 sh sz)) 0 0 (ch_A 40 sh sz) := by
  refine Met.ofW (cc := cX6_isRegister) (maxL := 4) (ret := (some .boolean)) (by decide) rfl ?_
  intro p e s m args below meth c s₁ B hml hv0
  obtain ⟨rfl, hv0⟩ := hv0
  obtain rfl : s.heap.size = sz := hv0.1
  have hw := ch_start hv0
  have S : CallFix p m c cX6_isRegister 4 s _ wsX6_isRegister RX6 := ⟨B.exec, B.bytes, hml, findClass_of_methodNamed B.named, atoms_spec (ws := wsX6_isRegister) B.pre⟩
  have hl := lv_entry ([.int x0, .int x1, .int x2]) (n := 4) (Nat.le_of_ble_eq_true rfl)
  rw [lg_entry_eq]
  generalize (lg_sl ([.int x0, .int x1, .int x2]) ++ List.replicate (4 - (lg_sl ([.int x0, .int x1, .int x2])).length) Slot.unset).toArray = ls at hl ⊢
  exact t_X6_isRegister_0 S (ch_finZ B.exec B.bytes B.returns B.notSynchronized) h hw (lv_sub hl [0, 1, 2] rfl)
set_option maxHeartbeats 4000000 in
set_option maxRecDepth 100000 in
theorem t_X6_isSize_0 {p : Program} {l : Launch} {e : Env} {s : State} {m : MethodId} {args : Array Value} {below : List Frame} {meth : Method} {c : Code} {Q : State → Prop} {D : va_G} {I : ch_Id} {sh : Nat → Nat} {A : Nat → Prop} {oo : Int32 × ch_Mem}     (S : CallFix p m c cX6_isSize 1 s args wsX6_isSize RX6) (fin : ch_FinZ p l e rm_X6_isSize s m args below meth c cX6_isSize Q D I 40 (ch_FC I sh) sh A oo)  {x0 : Int32}  {M : ch_Mem} {H : Heap} {locs : List Loc} {ls : Array Slot} (h : D_X6_isSize x0 M = some oo) (hw : ch_Wd D I 40 (ch_FC I sh) sh s A M H locs) (hl : lv_has ls 1 [(0, .int x0)]) : W p l e rm_X6_isSize s m args below meth c H locs 0 0 Q (F0 m 0 ls []) := by
  obtain ⟨hx, hb, hml, hown, hts⟩ := id S
  unfold D_X6_isSize at h
  refine lv_iload_n hx hb dX6_isSize_0 rfl (lv_at hl 0 rfl) ?_
  refine lv_iconst (v := (1 : Int32)) hx hb dX6_isSize_1 (by decide) ?_
  refine ch_icmp_lt (tgt := 15) hx hb dX6_isSize_2 (by decide) h (fun h => ?_) (fun h => ?_)
  · refine lv_iconst (v := (0 : Int32)) hx hb dX6_isSize_15 (by decide) ?_
    exact fin _ _ _ _ _ _ rfl h hw dX6_isSize_16
  · refine lv_iload_n hx hb dX6_isSize_5 rfl (lv_at hl 0 rfl) ?_
    refine lv_bipush (v := (127 : Int32)) hx hb dX6_isSize_6 (by decide) ?_
    refine ch_icmp_gt (tgt := 15) hx hb dX6_isSize_8 (by decide) h (fun h => ?_) (fun h => ?_)
    · refine lv_iconst (v := (0 : Int32)) hx hb dX6_isSize_15 (by decide) ?_
      exact fin _ _ _ _ _ _ rfl h hw dX6_isSize_16
    · refine lv_iconst (v := (1 : Int32)) hx hb dX6_isSize_11 (by decide) ?_
      refine lv_goto (tgt := 16) hx hb dX6_isSize_12 (by decide) ?_
      exact fin _ _ _ _ _ _ rfl h hw dX6_isSize_16
set_option maxHeartbeats 4000000 in
set_option maxRecDepth 100000 in
theorem c_X6_isSize (l : Launch) (D : va_G) (I : ch_Id) (sh : Nat → Nat) (sz : Nat) (M : ch_Mem)  (x0 : Int32) {r : Int32} {M1 : ch_Mem} (h : D_X6_isSize x0 M = some (r, M1)) : Met l yX6_isSize wsX6_isSize rm_X6_isSize (va_Pc [.int x0] (ch_Pre D I 40 (ch_FC I sh) sh sz M)) (va_Qi (fun r' (u : ch_Mem) => r' = r ∧ u = M1) (ch_Pos D 40 (ch_FC I sh) sh) (ch_A 40 sh sz)) 0 0 (ch_A 40 sh sz) := by
  refine Met.ofW (cc := cX6_isSize) (maxL := 1) (ret := (some .boolean)) (by decide) rfl ?_
  intro p e s m args below meth c s₁ B hml hv0
  obtain ⟨rfl, hv0⟩ := hv0
  obtain rfl : s.heap.size = sz := hv0.1
  have hw := ch_start hv0
  have S : CallFix p m c cX6_isSize 1 s _ wsX6_isSize RX6 := ⟨B.exec, B.bytes, hml, findClass_of_methodNamed B.named, atoms_spec (ws := wsX6_isSize) B.pre⟩
  have hl := lv_entry ([.int x0]) (n := 1) (Nat.le_of_ble_eq_true rfl)
  rw [lg_entry_eq]
  generalize (lg_sl ([.int x0]) ++ List.replicate (1 - (lg_sl ([.int x0])).length) Slot.unset).toArray = ls at hl ⊢
  exact t_X6_isSize_0 S (ch_finZ B.exec B.bytes B.returns B.notSynchronized) h hw (lv_sub hl [0] rfl)
set_option maxHeartbeats 4000000 in
set_option maxRecDepth 100000 in
theorem t_X6_isSizeOfAnyRow_2 {p : Program} {l : Launch} {e : Env} {s : State} {m : MethodId} {args : Array Value} {below : List Frame} {meth : Method} {c : Code} {Q : State → Prop} {D : va_G} {I : ch_Id} {sh : Nat → Nat} {A : Nat → Prop} {oo : Int32 × ch_Mem}    {k2 : Int32 → Int32 → ch_Mem → Option (Int32 × ch_Mem)} (S : CallFix p m c cX6_isSizeOfAnyRow 3 s args wsX6_isSizeOfAnyRow RX6) (fin : ch_FinZ p l e rm_X6_isSizeOfAnyRow s m args below meth c cX6_isSizeOfAnyRow Q D I 40 (ch_FC I sh) sh A oo) (hk2 : ∀ (x1 : Int32) (x2 : Int32) (M : ch_Mem) (H : Heap) (locs : List Loc) (ls : Array Slot), k2 x1 x2 M = some oo → ch_Wd D I 40 (ch_FC I sh) sh s A M H locs → lv_has ls 3 [(0, .ref (sh 0)), (1, .int x1), (2, .int x2)] → W p l e rm_X6_isSizeOfAnyRow s m args below meth c H locs 0 0 Q (F0 m 2 ls [])) {x1 : Int32} {x2 : Int32}  {M : ch_Mem} {H : Heap} {locs : List Loc} {ls : Array Slot} (h : D_X6_isSizeOfAnyRow_b2 k2 x1 x2 M = some oo) (hw : ch_Wd D I 40 (ch_FC I sh) sh s A M H locs) (hl : lv_has ls 3 [(0, .ref (sh 0)), (1, .int x1), (2, .int x2)]) : W p l e rm_X6_isSizeOfAnyRow s m args below meth c H locs 0 0 Q (F0 m 2 ls []) := by
  obtain ⟨hx, hb, hml, hown, hts⟩ := id S
  unfold D_X6_isSizeOfAnyRow_b2 at h
  refine lv_iload_n hx hb dX6_isSizeOfAnyRow_2 rfl (lv_at hl 2 rfl) ?_
  refine lv_bipush (v := (8 : Int32)) hx hb dX6_isSizeOfAnyRow_3 (by decide) ?_
  refine ch_icmp_ge (tgt := 29) hx hb dX6_isSizeOfAnyRow_5 (by decide) h (fun h => ?_) (fun h => ?_)
  · refine lv_iconst (v := (0 : Int32)) hx hb dX6_isSizeOfAnyRow_29 (by decide) ?_
    exact fin _ _ _ _ _ _ rfl h hw dX6_isSizeOfAnyRow_30
  · refine lv_aload_n hx hb dX6_isSizeOfAnyRow_8 rfl (lv_at hl 0 rfl) ?_
    refine ch_get S hw 0 (by decide) rfl rfl (by decide +kernel) 0 (by decide) (hts (.fieldLink RX6 11 "CodeHunt" "rows" "[LCodeHunt$Row;") (by decide +kernel)) rfl dX6_isSizeOfAnyRow_9 ?_
    refine lv_iload_n hx hb dX6_isSizeOfAnyRow_12 rfl (lv_at hl 2 rfl) ?_
    refine ch_gd_k h (fun hin h => ?_)
    have hlt1 := ch_in_lt hin
    refine ch_rows S hw hin dX6_isSizeOfAnyRow_13 ?_
    refine ch_getN S hw (7 + x2.toNatClampNeg) (by omega) (ch_FC_row (by omega)) rfl (by decide +kernel) 1 (by decide) (ch_nw hw 16 rfl) rfl dX6_isSizeOfAnyRow_14 ?_
    refine lv_iload_n hx hb dX6_isSizeOfAnyRow_17 rfl (lv_at hl 1 rfl) ?_
    refine ch_icmp_ne (tgt := 23) hx hb dX6_isSizeOfAnyRow_18 (by decide) h (fun h => ?_) (fun h => ?_)
    · refine lv_iinc (v := x2 + (1 : Int32)) (lv' := [(2, .int (x2 + (1 : Int32))), (0, .ref (sh 0)), (1, .int x1)]) hx hb dX6_isSizeOfAnyRow_23 hl (k := 2) rfl rfl (by decide) rfl (fun ls hl => ?_)
      refine lv_goto (tgt := 2) hx hb dX6_isSizeOfAnyRow_26 (by decide) ?_
      exact hk2 _ _ _ _ _ _  h hw (lv_sub hl [1, 2, 0] rfl)
    · refine lv_iconst (v := (1 : Int32)) hx hb dX6_isSizeOfAnyRow_21 (by decide) ?_
      exact fin _ _ _ _ _ _ rfl h hw dX6_isSizeOfAnyRow_22
set_option maxHeartbeats 4000000 in
set_option maxRecDepth 100000 in
theorem tl_X6_isSizeOfAnyRow_2 {p : Program} {l : Launch} {e : Env} {s : State} {m : MethodId} {args : Array Value} {below : List Frame} {meth : Method} {c : Code} {Q : State → Prop} {D : va_G} {I : ch_Id} {sh : Nat → Nat} {A : Nat → Prop} {oo : Int32 × ch_Mem}     (S : CallFix p m c cX6_isSizeOfAnyRow 3 s args wsX6_isSizeOfAnyRow RX6) (fin : ch_FinZ p l e rm_X6_isSizeOfAnyRow s m args below meth c cX6_isSizeOfAnyRow Q D I 40 (ch_FC I sh) sh A oo)  (n : Nat) : ∀ (x1 : Int32) (x2 : Int32) (M : ch_Mem) (H : Heap) (locs : List Loc) (ls : Array Slot), D_X6_isSizeOfAnyRow_L2  n x1 x2 M = some oo → ch_Wd D I 40 (ch_FC I sh) sh s A M H locs → lv_has ls 3 [(0, .ref (sh 0)), (1, .int x1), (2, .int x2)] → W p l e rm_X6_isSizeOfAnyRow s m args below meth c H locs 0 0 Q (F0 m 2 ls []) := by
  induction n with
  | zero => intro x1 x2 M H locs ls  h; cases h
  | succ n ih =>
    intro x1 x2 M H locs ls  h hw hl
    exact t_X6_isSizeOfAnyRow_2 S fin ih h hw hl
set_option maxHeartbeats 4000000 in
set_option maxRecDepth 100000 in
theorem t_X6_isSizeOfAnyRow_0 {p : Program} {l : Launch} {e : Env} {s : State} {m : MethodId} {args : Array Value} {below : List Frame} {meth : Method} {c : Code} {Q : State → Prop} {D : va_G} {I : ch_Id} {sh : Nat → Nat} {A : Nat → Prop} {oo : Int32 × ch_Mem}     (S : CallFix p m c cX6_isSizeOfAnyRow 3 s args wsX6_isSizeOfAnyRow RX6) (fin : ch_FinZ p l e rm_X6_isSizeOfAnyRow s m args below meth c cX6_isSizeOfAnyRow Q D I 40 (ch_FC I sh) sh A oo)  {x1 : Int32}  {M : ch_Mem} {H : Heap} {locs : List Loc} {ls : Array Slot} (h : D_X6_isSizeOfAnyRow x1 M = some oo) (hw : ch_Wd D I 40 (ch_FC I sh) sh s A M H locs) (hl : lv_has ls 3 [(0, .ref (sh 0)), (1, .int x1)]) : W p l e rm_X6_isSizeOfAnyRow s m args below meth c H locs 0 0 Q (F0 m 0 ls []) := by
  obtain ⟨hx, hb, hml, hown, hts⟩ := id S
  unfold D_X6_isSizeOfAnyRow at h
  refine lv_iconst (v := (0 : Int32)) hx hb dX6_isSizeOfAnyRow_0 (by decide) ?_
  refine lv_istore_n (lv' := [(2, .int (0 : Int32)), (0, .ref (sh 0)), (1, .int x1)]) hx hb dX6_isSizeOfAnyRow_1 rfl hl (by decide) rfl (fun ls hl => ?_)
  exact tl_X6_isSizeOfAnyRow_2 S fin ch_fu _ _ _ _ _ _ h hw (lv_sub hl [1, 2, 0] rfl)
set_option maxHeartbeats 4000000 in
set_option maxRecDepth 100000 in
theorem c_X6_isSizeOfAnyRow (l : Launch) (D : va_G) (I : ch_Id) (sh : Nat → Nat) (sz : Nat) (M : ch_Mem)  (x1 : Int32) {r : Int32} {M1 : ch_Mem} (h : D_X6_isSizeOfAnyRow x1 M = some (r, M1)) : Met l yX6_isSizeOfAnyRow wsX6_isSizeOfAnyRow rm_X6_isSizeOfAnyRow (va_Pc [.ref (sh 0), .int x1] (ch_Pre D I 40 (ch_FC I sh) sh sz M)) (va_Qi (fun r' (u : ch_Mem) => r' = r ∧ u = M1) (ch_Pos D 40 (ch_FC I sh) sh) (ch_A 40 sh sz)) 0 0 (ch_A 40 sh sz) := by
  refine Met.ofW (cc := cX6_isSizeOfAnyRow) (maxL := 3) (ret := (some .boolean)) (by decide) rfl ?_
  intro p e s m args below meth c s₁ B hml hv0
  obtain ⟨rfl, hv0⟩ := hv0
  obtain rfl : s.heap.size = sz := hv0.1
  have hw := ch_start hv0
  have S : CallFix p m c cX6_isSizeOfAnyRow 3 s _ wsX6_isSizeOfAnyRow RX6 := ⟨B.exec, B.bytes, hml, findClass_of_methodNamed B.named, atoms_spec (ws := wsX6_isSizeOfAnyRow) B.pre⟩
  have hl := lv_entry ([.ref (sh 0), .int x1]) (n := 3) (Nat.le_of_ble_eq_true rfl)
  rw [lg_entry_eq]
  generalize (lg_sl ([.ref (sh 0), .int x1]) ++ List.replicate (3 - (lg_sl ([.ref (sh 0), .int x1])).length) Slot.unset).toArray = ls at hl ⊢
  exact t_X6_isSizeOfAnyRow_0 S (ch_finZ B.exec B.bytes B.returns B.notSynchronized) h hw (lv_sub hl [0, 1] rfl)
set_option maxHeartbeats 4000000 in
set_option maxRecDepth 100000 in
theorem t_X6_join_106 {p : Program} {l : Launch} {e : Env} {s : State} {m : MethodId} {args : Array Value} {below : List Frame} {meth : Method} {c : Code} {Q : State → Prop} {D : va_G} {I : ch_Id} {sh : Nat → Nat} {A : Nat → Prop} {oo : Int32 × ch_Mem}     (S : CallFix p m c cX6_join 7 s args wsX6_join RX6) (fin : ch_FinI p l e rm_X6_join s m args below meth c cX6_join Q D I 40 (ch_FC I sh) sh A oo)  {x4 : Int32} {x5 : Int32}  {M : ch_Mem} {H : Heap} {locs : List Loc} {ls : Array Slot} (h : D_X6_join_b106 x4 x5 M = some oo) (hw : ch_Wd D I 40 (ch_FC I sh) sh s A M H locs) (hl : lv_has ls 7 [(0, .ref (sh 0)), (4, .int x4), (5, .int x5)]) : W p l e rm_X6_join s m args below meth c H locs 0 0 Q (F0 m 106 ls []) := by
  obtain ⟨hx, hb, hml, hown, hts⟩ := id S
  unfold D_X6_join_b106 at h
  refine lv_aload_n hx hb dX6_join_106 rfl (lv_at hl 0 rfl) ?_
  refine ch_get S hw 0 (by decide) rfl rfl (by decide +kernel) 0 (by decide) (hts (.fieldLink RX6 11 "CodeHunt" "rows" "[LCodeHunt$Row;") (by decide +kernel)) rfl dX6_join_107 ?_
  refine lv_iload hx hb dX6_join_110 (lv_at hl 1 rfl) ?_
  refine ch_gd_k h (fun hin h => ?_)
  have hlt1 := ch_in_lt hin
  refine ch_rows S hw hin dX6_join_112 ?_
  refine lv_aload_n hx hb dX6_join_113 rfl (lv_at hl 0 rfl) ?_
  refine ch_get S hw 0 (by decide) rfl rfl (by decide +kernel) 2 (by decide) (hts (.fieldLink RX6 24 "CodeHunt" "window" "LCodeHunt$Window;") (by decide +kernel)) rfl dX6_join_114 ?_
  refine ch_getN S hw 3 (by decide) rfl rfl (by decide +kernel) 0 (by decide) (ch_nw hw 0 rfl) rfl dX6_join_117 ?_
  refine lv_iload hx hb dX6_join_120 (lv_at hl 2 rfl) ?_
  refine ch_bd_k h (fun r2 M3 hc h => ?_)
  cases r2
  refine ch_cv hw (va_runV (As := [.ref (sh 31), .int x5]) (rest := []) S (c_X3_fillBySignsOf l D I sh H.size M (7 + x4.toNatClampNeg) (by omega) 31 (by unfold ch_arr; omega) x5 hc) (cwV 2 hts gX6_join_X3_fillBySignsOf rfl rfl rfl (by decide +kernel) ⟨Nat.le_of_ble_eq_true rfl, Nat.le_of_ble_eq_true rfl⟩) (ch_pV hw (by omega) (ch_FC_row (by omega)) rfl rfl) rfl rfl hl.1 rfl (lv_room (Nat.le_of_ble_eq_true rfl)) dX6_join_122 ⟨Nat.le_refl 0, Nat.le_refl 0⟩) (fun H locs hw => ?_)
  refine lv_iload hx hb dX6_join_125 (lv_at hl 2 rfl) ?_
  exact fin _ _ _ _ _ _ h hw dX6_join_127
set_option maxHeartbeats 4000000 in
set_option maxRecDepth 100000 in
theorem t_X6_join_58 {p : Program} {l : Launch} {e : Env} {s : State} {m : MethodId} {args : Array Value} {below : List Frame} {meth : Method} {c : Code} {Q : State → Prop} {D : va_G} {I : ch_Id} {sh : Nat → Nat} {A : Nat → Prop} {oo : Int32 × ch_Mem}    {k58 : Int32 → Int32 → Int32 → Int32 → Int32 → Int32 → ch_Mem → Option (Int32 × ch_Mem)} (S : CallFix p m c cX6_join 7 s args wsX6_join RX6) (fin : ch_FinI p l e rm_X6_join s m args below meth c cX6_join Q D I 40 (ch_FC I sh) sh A oo) (hk58 : ∀ (x1 : Int32) (x2 : Int32) (x3 : Int32) (x4 : Int32) (x5 : Int32) (x6 : Int32) (M : ch_Mem) (H : Heap) (locs : List Loc) (ls : Array Slot), k58 x1 x2 x3 x4 x5 x6 M = some oo → ch_Wd D I 40 (ch_FC I sh) sh s A M H locs → lv_has ls 7 [(0, .ref (sh 0)), (1, .int x1), (2, .int x2), (3, .int x3), (4, .int x4), (5, .int x5), (6, .int x6)] → W p l e rm_X6_join s m args below meth c H locs 0 0 Q (F0 m 58 ls [])) {x1 : Int32} {x2 : Int32} {x3 : Int32} {x4 : Int32} {x5 : Int32} {x6 : Int32}  {M : ch_Mem} {H : Heap} {locs : List Loc} {ls : Array Slot} (h : D_X6_join_b58 k58 x1 x2 x3 x4 x5 x6 M = some oo) (hw : ch_Wd D I 40 (ch_FC I sh) sh s A M H locs) (hl : lv_has ls 7 [(0, .ref (sh 0)), (1, .int x1), (2, .int x2), (3, .int x3), (4, .int x4), (5, .int x5), (6, .int x6)]) : W p l e rm_X6_join s m args below meth c H locs 0 0 Q (F0 m 58 ls []) := by
  obtain ⟨hx, hb, hml, hown, hts⟩ := id S
  unfold D_X6_join_b58 at h
  refine lv_iload hx hb dX6_join_58 (lv_at hl 6 rfl) ?_
  refine lv_iload hx hb dX6_join_60 (lv_at hl 5 rfl) ?_
  refine ch_icmp_ge (tgt := 106) hx hb dX6_join_62 (by decide) h (fun h => ?_) (fun h => ?_)
  · exact t_X6_join_106 S fin h hw (lv_sub hl [0, 4, 5] rfl)
  · refine lv_aload_n hx hb dX6_join_65 rfl (lv_at hl 0 rfl) ?_
    refine ch_get S hw 0 (by decide) rfl rfl (by decide +kernel) 2 (by decide) (hts (.fieldLink RX6 24 "CodeHunt" "window" "LCodeHunt$Window;") (by decide +kernel)) rfl dX6_join_66 ?_
    refine ch_getN S hw 3 (by decide) rfl rfl (by decide +kernel) 0 (by decide) (ch_nw hw 0 rfl) rfl dX6_join_69 ?_
    refine lv_iload hx hb dX6_join_72 (lv_at hl 6 rfl) ?_
    refine lv_aload_n hx hb dX6_join_74 rfl (lv_at hl 0 rfl) ?_
    refine ch_get S hw 0 (by decide) rfl rfl (by decide +kernel) 0 (by decide) (hts (.fieldLink RX6 11 "CodeHunt" "rows" "[LCodeHunt$Row;") (by decide +kernel)) rfl dX6_join_75 ?_
    refine lv_iload_n hx hb dX6_join_78 rfl (lv_at hl 1 rfl) ?_
    refine ch_gd_k h (fun hin h => ?_)
    have hlt1 := ch_in_lt hin
    refine ch_rows S hw hin dX6_join_79 ?_
    refine lv_iload hx hb dX6_join_80 (lv_at hl 6 rfl) ?_
    refine ch_bd_k h (fun r2 M3 hc h => ?_)
    refine ch_ci hw (va_runV (As := [.int x6]) (rest := [.int x6, .ref (sh 31)]) S (c_X3_signAt l D I sh H.size M (7 + x1.toNatClampNeg) (by omega) x6 hc) (cwV 1 hts gX6_join_X3_signAt rfl rfl rfl (by decide +kernel) ⟨Nat.le_of_ble_eq_true rfl, Nat.le_of_ble_eq_true rfl⟩) (ch_pV hw (by omega) (ch_FC_row (by omega)) rfl rfl) rfl rfl hl.1 rfl (lv_room (Nat.le_of_ble_eq_true rfl)) dX6_join_82 ⟨Nat.le_refl 0, Nat.le_refl 0⟩) (fun H locs hw => ?_)
    refine lv_aload_n hx hb dX6_join_85 rfl (lv_at hl 0 rfl) ?_
    refine ch_get S hw 0 (by decide) rfl rfl (by decide +kernel) 0 (by decide) (hts (.fieldLink RX6 11 "CodeHunt" "rows" "[LCodeHunt$Row;") (by decide +kernel)) rfl dX6_join_86 ?_
    refine lv_iload_n hx hb dX6_join_89 rfl (lv_at hl 2 rfl) ?_
    refine ch_gd_k h (fun hin h => ?_)
    have hlt4 := ch_in_lt hin
    refine ch_rows S hw hin dX6_join_90 ?_
    refine lv_iload hx hb dX6_join_91 (lv_at hl 6 rfl) ?_
    refine lv_iload_n hx hb dX6_join_93 rfl (lv_at hl 3 rfl) ?_
    refine lv_iadd hx hb dX6_join_94 ?_
    refine ch_bd_k h (fun r5 M6 hc h => ?_)
    refine ch_ci hw (va_runV (As := [.int (x6 + x3)]) (rest := [.int r2, .int x6, .ref (sh 31)]) S (c_X3_signAt l D I sh H.size M3 (7 + x2.toNatClampNeg) (by omega) (x6 + x3) hc) (cwV 1 hts gX6_join_X3_signAt rfl rfl rfl (by decide +kernel) ⟨Nat.le_of_ble_eq_true rfl, Nat.le_of_ble_eq_true rfl⟩) (ch_pV hw (by omega) (ch_FC_row (by omega)) rfl rfl) rfl rfl hl.1 rfl (lv_room (Nat.le_of_ble_eq_true rfl)) dX6_join_95 ⟨Nat.le_refl 0, Nat.le_refl 0⟩) (fun H locs hw => ?_)
    refine lv_imul hx hb dX6_join_98 ?_
    refine ch_gd_k h (fun hin h => ?_)
    refine ch_iast S hw 31 (by decide) (fun _ => rfl) hin dX6_join_99 (fun H locs hw => ?_)
    refine lv_iinc (v := x6 + (1 : Int32)) (lv' := [(6, .int (x6 + (1 : Int32))), (0, .ref (sh 0)), (1, .int x1), (2, .int x2), (3, .int x3), (4, .int x4), (5, .int x5)]) hx hb dX6_join_100 hl (k := 6) rfl rfl (by decide) rfl (fun ls hl => ?_)
    refine lv_goto (tgt := 58) hx hb dX6_join_103 (by decide) ?_
    exact hk58 _ _ _ _ _ _ _ _ _ _  h hw (lv_sub hl [1, 2, 3, 4, 5, 6, 0] rfl)
set_option maxHeartbeats 4000000 in
set_option maxRecDepth 100000 in
theorem tl_X6_join_58 {p : Program} {l : Launch} {e : Env} {s : State} {m : MethodId} {args : Array Value} {below : List Frame} {meth : Method} {c : Code} {Q : State → Prop} {D : va_G} {I : ch_Id} {sh : Nat → Nat} {A : Nat → Prop} {oo : Int32 × ch_Mem}     (S : CallFix p m c cX6_join 7 s args wsX6_join RX6) (fin : ch_FinI p l e rm_X6_join s m args below meth c cX6_join Q D I 40 (ch_FC I sh) sh A oo)  (n : Nat) : ∀ (x1 : Int32) (x2 : Int32) (x3 : Int32) (x4 : Int32) (x5 : Int32) (x6 : Int32) (M : ch_Mem) (H : Heap) (locs : List Loc) (ls : Array Slot), D_X6_join_L58  n x1 x2 x3 x4 x5 x6 M = some oo → ch_Wd D I 40 (ch_FC I sh) sh s A M H locs → lv_has ls 7 [(0, .ref (sh 0)), (1, .int x1), (2, .int x2), (3, .int x3), (4, .int x4), (5, .int x5), (6, .int x6)] → W p l e rm_X6_join s m args below meth c H locs 0 0 Q (F0 m 58 ls []) := by
  induction n with
  | zero => intro x1 x2 x3 x4 x5 x6 M H locs ls  h; cases h
  | succ n ih =>
    intro x1 x2 x3 x4 x5 x6 M H locs ls  h hw hl
    exact t_X6_join_58 S fin ih h hw hl
set_option maxHeartbeats 4000000 in
set_option maxRecDepth 100000 in
theorem t_X6_join_0 {p : Program} {l : Launch} {e : Env} {s : State} {m : MethodId} {args : Array Value} {below : List Frame} {meth : Method} {c : Code} {Q : State → Prop} {D : va_G} {I : ch_Id} {sh : Nat → Nat} {A : Nat → Prop} {oo : Int32 × ch_Mem}     (S : CallFix p m c cX6_join 7 s args wsX6_join RX6) (fin : ch_FinI p l e rm_X6_join s m args below meth c cX6_join Q D I 40 (ch_FC I sh) sh A oo)  {x1 : Int32} {x2 : Int32} {x3 : Int32} {x4 : Int32}  {M : ch_Mem} {H : Heap} {locs : List Loc} {ls : Array Slot} (h : D_X6_join x1 x2 x3 x4 M = some oo) (hw : ch_Wd D I 40 (ch_FC I sh) sh s A M H locs) (hl : lv_has ls 7 [(0, .ref (sh 0)), (1, .int x1), (2, .int x2), (3, .int x3), (4, .int x4)]) : W p l e rm_X6_join s m args below meth c H locs 0 0 Q (F0 m 0 ls []) := by
  obtain ⟨hx, hb, hml, hown, hts⟩ := id S
  unfold D_X6_join at h
  refine lv_iload_n hx hb dX6_join_0 rfl (lv_at hl 1 rfl) ?_
  refine ch_bd_k h (fun r1 M2 hc h => ?_)
  refine ch_ci hw (va_runS (As := [.int x1]) (rest := []) S (c_X6_isRow l D I sh H.size M x1 hc) (va_cwS 1 hts gX6_join_X6_isRow rfl rfl rfl (by decide +kernel) ⟨Nat.le_of_ble_eq_true rfl, Nat.le_of_ble_eq_true rfl⟩) (ch_pS hw) rfl rfl hl.1 rfl (lv_room (Nat.le_of_ble_eq_true rfl)) dX6_join_1 ⟨Nat.le_refl 0, Nat.le_refl 0⟩) (fun H locs hw => ?_)
  refine ch_if_eq (tgt := 29) hx hb dX6_join_4 (by decide) h (fun h => ?_) (fun h => ?_)
  · refine lv_bipush (v := (-2 : Int32)) hx hb dX6_join_29 (by decide) ?_
    exact fin _ _ _ _ _ _ h hw dX6_join_31
  · refine lv_iload_n hx hb dX6_join_7 rfl (lv_at hl 2 rfl) ?_
    refine ch_bd_k h (fun r3 M4 hc h => ?_)
    refine ch_ci hw (va_runS (As := [.int x2]) (rest := []) S (c_X6_isRow l D I sh H.size M2 x2 hc) (va_cwS 1 hts gX6_join_X6_isRow rfl rfl rfl (by decide +kernel) ⟨Nat.le_of_ble_eq_true rfl, Nat.le_of_ble_eq_true rfl⟩) (ch_pS hw) rfl rfl hl.1 rfl (lv_room (Nat.le_of_ble_eq_true rfl)) dX6_join_8 ⟨Nat.le_refl 0, Nat.le_refl 0⟩) (fun H locs hw => ?_)
    refine ch_if_eq (tgt := 29) hx hb dX6_join_11 (by decide) h (fun h => ?_) (fun h => ?_)
    · refine lv_bipush (v := (-2 : Int32)) hx hb dX6_join_29 (by decide) ?_
      exact fin _ _ _ _ _ _ h hw dX6_join_31
    · refine lv_iload_n hx hb dX6_join_14 rfl (lv_at hl 3 rfl) ?_
      refine ch_bd_k h (fun r5 M6 hc h => ?_)
      refine ch_ci hw (va_runS (As := [.int x3]) (rest := []) S (c_X6_isShift l D I sh H.size M4 x3 hc) (va_cwS 1 hts gX6_join_X6_isShift rfl rfl rfl (by decide +kernel) ⟨Nat.le_of_ble_eq_true rfl, Nat.le_of_ble_eq_true rfl⟩) (ch_pS hw) rfl rfl hl.1 rfl (lv_room (Nat.le_of_ble_eq_true rfl)) dX6_join_15 ⟨Nat.le_refl 0, Nat.le_refl 0⟩) (fun H locs hw => ?_)
      refine ch_if_eq (tgt := 29) hx hb dX6_join_18 (by decide) h (fun h => ?_) (fun h => ?_)
      · refine lv_bipush (v := (-2 : Int32)) hx hb dX6_join_29 (by decide) ?_
        exact fin _ _ _ _ _ _ h hw dX6_join_31
      · refine lv_iload hx hb dX6_join_21 (lv_at hl 4 rfl) ?_
        refine ch_bd_k h (fun r7 M8 hc h => ?_)
        refine ch_ci hw (va_runS (As := [.int x4]) (rest := []) S (c_X6_isRow l D I sh H.size M6 x4 hc) (va_cwS 1 hts gX6_join_X6_isRow rfl rfl rfl (by decide +kernel) ⟨Nat.le_of_ble_eq_true rfl, Nat.le_of_ble_eq_true rfl⟩) (ch_pS hw) rfl rfl hl.1 rfl (lv_room (Nat.le_of_ble_eq_true rfl)) dX6_join_23 ⟨Nat.le_refl 0, Nat.le_refl 0⟩) (fun H locs hw => ?_)
        refine ch_if_ne (tgt := 32) hx hb dX6_join_26 (by decide) h (fun h => ?_) (fun h => ?_)
        · refine lv_aload_n hx hb dX6_join_32 rfl (lv_at hl 0 rfl) ?_
          refine lv_iload_n hx hb dX6_join_33 rfl (lv_at hl 1 rfl) ?_
          refine lv_iload_n hx hb dX6_join_34 rfl (lv_at hl 2 rfl) ?_
          refine ch_bd_k h (fun r9 M10 hc h => ?_)
          refine ch_ci hw (va_runV (As := [.int x1, .int x2]) (rest := []) S (c_X6_arePaired l D I sh H.size M8 x1 x2 hc) (cwV 2 hts gX6_join_X6_arePaired rfl rfl rfl (by decide +kernel) ⟨Nat.le_of_ble_eq_true rfl, Nat.le_of_ble_eq_true rfl⟩) (ch_pV hw (by decide) rfl rfl rfl) rfl rfl hl.1 rfl (lv_room (Nat.le_of_ble_eq_true rfl)) dX6_join_35 ⟨Nat.le_refl 0, Nat.le_refl 0⟩) (fun H locs hw => ?_)
          refine ch_if_ne (tgt := 44) hx hb dX6_join_38 (by decide) h (fun h => ?_) (fun h => ?_)
          · refine lv_aload_n hx hb dX6_join_44 rfl (lv_at hl 0 rfl) ?_
            refine ch_get S hw 0 (by decide) rfl rfl (by decide +kernel) 0 (by decide) (hts (.fieldLink RX6 11 "CodeHunt" "rows" "[LCodeHunt$Row;") (by decide +kernel)) rfl dX6_join_45 ?_
            refine lv_iload_n hx hb dX6_join_48 rfl (lv_at hl 1 rfl) ?_
            refine ch_gd_k h (fun hin h => ?_)
            have hlt11 := ch_in_lt hin
            refine ch_rows S hw hin dX6_join_49 ?_
            refine ch_getN S hw (7 + x1.toNatClampNeg) (by omega) (ch_FC_row (by omega)) rfl (by decide +kernel) 1 (by decide) (ch_nw hw 16 rfl) rfl dX6_join_50 ?_
            refine lv_istore (lv' := [(5, .int (M10.1 (7 + x1.toNatClampNeg) 1)), (0, .ref (sh 0)), (1, .int x1), (2, .int x2), (3, .int x3), (4, .int x4)]) hx hb dX6_join_53 hl (by decide) rfl (fun ls hl => ?_)
            refine lv_iconst (v := (0 : Int32)) hx hb dX6_join_55 (by decide) ?_
            refine lv_istore (lv' := [(6, .int (0 : Int32)), (5, .int (M10.1 (7 + x1.toNatClampNeg) 1)), (0, .ref (sh 0)), (1, .int x1), (2, .int x2), (3, .int x3), (4, .int x4)]) hx hb dX6_join_56 hl (by decide) rfl (fun ls hl => ?_)
            exact tl_X6_join_58 S fin ch_fu _ _ _ _ _ _ _ _ _ _ h hw (lv_sub hl [2, 3, 4, 5, 6, 1, 0] rfl)
          · refine lv_bipush (v := (-3 : Int32)) hx hb dX6_join_41 (by decide) ?_
            exact fin _ _ _ _ _ _ h hw dX6_join_43
        · refine lv_bipush (v := (-2 : Int32)) hx hb dX6_join_29 (by decide) ?_
          exact fin _ _ _ _ _ _ h hw dX6_join_31
set_option maxHeartbeats 4000000 in
set_option maxRecDepth 100000 in
theorem c_X6_join (l : Launch) (D : va_G) (I : ch_Id) (sh : Nat → Nat) (sz : Nat) (M : ch_Mem)  (x1 : Int32) (x2 : Int32) (x3 : Int32) (x4 : Int32) {r : Int32} {M1 : ch_Mem} (h : D_X6_join x1 x2 x3 x4 M = some (r, M1)) : Met l yX6_join wsX6_join rm_X6_join (va_Pc [.ref (sh 0), .int x1, .int x2, .int x3, .int x4] (ch_Pre D I 40 (ch_FC I sh) sh sz M)) (va_Qi (fun r' (u : ch_Mem) => r' = r ∧ u = M1) (ch_Pos D 40 (ch_FC I sh) sh) (ch_A 40 sh sz)) 0 0 (ch_A 40 sh sz) := by
  refine Met.ofW (cc := cX6_join) (maxL := 7) (ret := (some .int)) (by decide) rfl ?_
  intro p e s m args below meth c s₁ B hml hv0
  obtain ⟨rfl, hv0⟩ := hv0
  obtain rfl : s.heap.size = sz := hv0.1
  have hw := ch_start hv0
  have S : CallFix p m c cX6_join 7 s _ wsX6_join RX6 := ⟨B.exec, B.bytes, hml, findClass_of_methodNamed B.named, atoms_spec (ws := wsX6_join) B.pre⟩
  have hl := lv_entry ([.ref (sh 0), .int x1, .int x2, .int x3, .int x4]) (n := 7) (Nat.le_of_ble_eq_true rfl)
  rw [lg_entry_eq]
  generalize (lg_sl ([.ref (sh 0), .int x1, .int x2, .int x3, .int x4]) ++ List.replicate (7 - (lg_sl ([.ref (sh 0), .int x1, .int x2, .int x3, .int x4])).length) Slot.unset).toArray = ls at hl ⊢
  exact t_X6_join_0 S (ch_finI (B := fun _ => True) B.exec B.bytes B.returns B.notSynchronized) h hw (lv_sub hl [0, 1, 2, 3, 4] rfl)
set_option maxHeartbeats 4000000 in
set_option maxRecDepth 100000 in
theorem t_X6_length_0 {p : Program} {l : Launch} {e : Env} {s : State} {m : MethodId} {args : Array Value} {below : List Frame} {meth : Method} {c : Code} {Q : State → Prop} {D : va_G} {I : ch_Id} {sh : Nat → Nat} {A : Nat → Prop} {oo : Int32 × ch_Mem}     (S : CallFix p m c cX6_length 3 s args wsX6_length RX6) (fin : ch_FinI p l e rm_X6_length s m args below meth c cX6_length Q D I 40 (ch_FC I sh) sh A oo)  {x1 : Int32} {x2 : Int32}  {M : ch_Mem} {H : Heap} {locs : List Loc} {ls : Array Slot} (h : D_X6_length x1 x2 M = some oo) (hw : ch_Wd D I 40 (ch_FC I sh) sh s A M H locs) (hl : lv_has ls 3 [(0, .ref (sh 0)), (1, .int x1), (2, .int x2)]) : W p l e rm_X6_length s m args below meth c H locs 0 0 Q (F0 m 0 ls []) := by
  obtain ⟨hx, hb, hml, hown, hts⟩ := id S
  unfold D_X6_length at h
  refine lv_iload_n hx hb dX6_length_0 rfl (lv_at hl 1 rfl) ?_
  refine lv_iconst (v := (2 : Int32)) hx hb dX6_length_1 (by decide) ?_
  refine ch_icmp_lt (tgt := 31) hx hb dX6_length_2 (by decide) h (fun h => ?_) (fun h => ?_)
  · refine lv_bipush (v := (-2 : Int32)) hx hb dX6_length_31 (by decide) ?_
    exact fin _ _ _ _ _ _ h hw dX6_length_33
  · refine lv_iload_n hx hb dX6_length_5 rfl (lv_at hl 1 rfl) ?_
    refine lv_bipush (v := (127 : Int32)) hx hb dX6_length_6 (by decide) ?_
    refine ch_icmp_gt (tgt := 31) hx hb dX6_length_8 (by decide) h (fun h => ?_) (fun h => ?_)
    · refine lv_bipush (v := (-2 : Int32)) hx hb dX6_length_31 (by decide) ?_
      exact fin _ _ _ _ _ _ h hw dX6_length_33
    · refine lv_iload_n hx hb dX6_length_11 rfl (lv_at hl 2 rfl) ?_
      refine ch_if_lt (tgt := 31) hx hb dX6_length_12 (by decide) h (fun h => ?_) (fun h => ?_)
      · refine lv_bipush (v := (-2 : Int32)) hx hb dX6_length_31 (by decide) ?_
        exact fin _ _ _ _ _ _ h hw dX6_length_33
      · refine lv_iload_n hx hb dX6_length_15 rfl (lv_at hl 2 rfl) ?_
        refine lv_iload_n hx hb dX6_length_16 rfl (lv_at hl 1 rfl) ?_
        refine ch_icmp_ge (tgt := 31) hx hb dX6_length_17 (by decide) h (fun h => ?_) (fun h => ?_)
        · refine lv_bipush (v := (-2 : Int32)) hx hb dX6_length_31 (by decide) ?_
          exact fin _ _ _ _ _ _ h hw dX6_length_33
        · refine lv_aload_n hx hb dX6_length_20 rfl (lv_at hl 0 rfl) ?_
          refine ch_get S hw 0 (by decide) rfl rfl (by decide +kernel) 5 (by decide) (hts (.fieldLink RX6 45 "CodeHunt" "lengths" "LCodeHunt$Lengths;") (by decide +kernel)) rfl dX6_length_21 ?_
          refine lv_iload_n hx hb dX6_length_24 rfl (lv_at hl 1 rfl) ?_
          refine ch_bd_k h (fun r1 M2 hc h => ?_)
          refine ch_ci hw (va_runV (As := [.int x1]) (rest := []) S (c_X0_haveDivisorWith l D I sh H.size M x1 hc) (cwV 1 hts gX6_length_X0_haveDivisorWith rfl rfl rfl (by decide +kernel) ⟨Nat.le_of_ble_eq_true rfl, Nat.le_of_ble_eq_true rfl⟩) (ch_pV hw (by decide) rfl rfl rfl) rfl rfl hl.1 rfl (lv_room (Nat.le_of_ble_eq_true rfl)) dX6_length_25 ⟨Nat.le_refl 0, Nat.le_refl 0⟩) (fun H locs hw => ?_)
          refine ch_if_eq (tgt := 34) hx hb dX6_length_28 (by decide) h (fun h => ?_) (fun h => ?_)
          · refine lv_aload_n hx hb dX6_length_34 rfl (lv_at hl 0 rfl) ?_
            refine ch_get S hw 0 (by decide) rfl rfl (by decide +kernel) 5 (by decide) (hts (.fieldLink RX6 45 "CodeHunt" "lengths" "LCodeHunt$Lengths;") (by decide +kernel)) rfl dX6_length_35 ?_
            refine ch_getN S hw 6 (by decide) rfl rfl (by decide +kernel) 2 (by decide) (ch_nw hw 14 rfl) rfl dX6_length_38 ?_
            refine lv_iconst (v := (5 : Int32)) hx hb dX6_length_41 (by decide) ?_
            refine ch_icmp_lt (tgt := 48) hx hb dX6_length_42 (by decide) h (fun h => ?_) (fun h => ?_)
            · refine lv_aload_n hx hb dX6_length_48 rfl (lv_at hl 0 rfl) ?_
              refine ch_get S hw 0 (by decide) rfl rfl (by decide +kernel) 5 (by decide) (hts (.fieldLink RX6 45 "CodeHunt" "lengths" "LCodeHunt$Lengths;") (by decide +kernel)) rfl dX6_length_49 ?_
              refine lv_iload_n hx hb dX6_length_52 rfl (lv_at hl 1 rfl) ?_
              refine lv_iload_n hx hb dX6_length_53 rfl (lv_at hl 2 rfl) ?_
              refine ch_bd_k h (fun r3 M4 hc h => ?_)
              cases r3
              refine ch_cv hw (va_runV (As := [.int x1, .int x2]) (rest := []) S (c_X0_keep l D I sh H.size M2 x1 x2 hc) (cwV 2 hts gX6_length_X0_keep rfl rfl rfl (by decide +kernel) ⟨Nat.le_of_ble_eq_true rfl, Nat.le_of_ble_eq_true rfl⟩) (ch_pV hw (by decide) rfl rfl rfl) rfl rfl hl.1 rfl (lv_room (Nat.le_of_ble_eq_true rfl)) dX6_length_54 ⟨Nat.le_refl 0, Nat.le_refl 0⟩) (fun H locs hw => ?_)
              refine lv_aload_n hx hb dX6_length_57 rfl (lv_at hl 0 rfl) ?_
              refine ch_get S hw 0 (by decide) rfl rfl (by decide +kernel) 5 (by decide) (hts (.fieldLink RX6 45 "CodeHunt" "lengths" "LCodeHunt$Lengths;") (by decide +kernel)) rfl dX6_length_58 ?_
              refine ch_getN S hw 6 (by decide) rfl rfl (by decide +kernel) 2 (by decide) (ch_nw hw 14 rfl) rfl dX6_length_61 ?_
              exact fin _ _ _ _ _ _ h hw dX6_length_64
            · refine lv_bipush (v := (-4 : Int32)) hx hb dX6_length_45 (by decide) ?_
              exact fin _ _ _ _ _ _ h hw dX6_length_47
          · refine lv_bipush (v := (-2 : Int32)) hx hb dX6_length_31 (by decide) ?_
            exact fin _ _ _ _ _ _ h hw dX6_length_33
set_option maxHeartbeats 4000000 in
set_option maxRecDepth 100000 in
theorem c_X6_length (l : Launch) (D : va_G) (I : ch_Id) (sh : Nat → Nat) (sz : Nat) (M : ch_Mem)  (x1 : Int32) (x2 : Int32) {r : Int32} {M1 : ch_Mem} (h : D_X6_length x1 x2 M = some (r, M1)) : Met l yX6_length wsX6_length rm_X6_length (va_Pc [.ref (sh 0), .int x1, .int x2] (ch_Pre D I 40 (ch_FC I sh) sh sz M)) (va_Qi (fun r' (u : ch_Mem) => r' = r ∧ u = M1) (ch_Pos D 40 (ch_FC I sh) sh) (ch_A 40 sh sz)) 0 0 (ch_A 40 sh sz) := by
  refine Met.ofW (cc := cX6_length) (maxL := 3) (ret := (some .int)) (by decide) rfl ?_
  intro p e s m args below meth c s₁ B hml hv0
  obtain ⟨rfl, hv0⟩ := hv0
  obtain rfl : s.heap.size = sz := hv0.1
  have hw := ch_start hv0
  have S : CallFix p m c cX6_length 3 s _ wsX6_length RX6 := ⟨B.exec, B.bytes, hml, findClass_of_methodNamed B.named, atoms_spec (ws := wsX6_length) B.pre⟩
  have hl := lv_entry ([.ref (sh 0), .int x1, .int x2]) (n := 3) (Nat.le_of_ble_eq_true rfl)
  rw [lg_entry_eq]
  generalize (lg_sl ([.ref (sh 0), .int x1, .int x2]) ++ List.replicate (3 - (lg_sl ([.ref (sh 0), .int x1, .int x2])).length) Slot.unset).toArray = ls at hl ⊢
  exact t_X6_length_0 S (ch_finI (B := fun _ => True) B.exec B.bytes B.returns B.notSynchronized) h hw (lv_sub hl [0, 1, 2] rfl)
set_option maxHeartbeats 4000000 in
set_option maxRecDepth 100000 in
theorem t_X6_like_0 {p : Program} {l : Launch} {e : Env} {s : State} {m : MethodId} {args : Array Value} {below : List Frame} {meth : Method} {c : Code} {Q : State → Prop} {D : va_G} {I : ch_Id} {sh : Nat → Nat} {A : Nat → Prop} {oo : Int32 × ch_Mem}     (S : CallFix p m c cX6_like 4 s args wsX6_like RX6) (fin : ch_FinI p l e rm_X6_like s m args below meth c cX6_like Q D I 40 (ch_FC I sh) sh A oo)  {x1 : Int32} {x2 : Int32} {x3 : Int32}  {M : ch_Mem} {H : Heap} {locs : List Loc} {ls : Array Slot} (h : D_X6_like x1 x2 x3 M = some oo) (hw : ch_Wd D I 40 (ch_FC I sh) sh s A M H locs) (hl : lv_has ls 4 [(0, .ref (sh 0)), (1, .int x1), (2, .int x2), (3, .int x3)]) : W p l e rm_X6_like s m args below meth c H locs 0 0 Q (F0 m 0 ls []) := by
  obtain ⟨hx, hb, hml, hown, hts⟩ := id S
  unfold D_X6_like at h
  refine lv_iload_n hx hb dX6_like_0 rfl (lv_at hl 1 rfl) ?_
  refine ch_bd_k h (fun r1 M2 hc h => ?_)
  refine ch_ci hw (va_runS (As := [.int x1]) (rest := []) S (c_X6_isRow l D I sh H.size M x1 hc) (va_cwS 1 hts gX6_like_X6_isRow rfl rfl rfl (by decide +kernel) ⟨Nat.le_of_ble_eq_true rfl, Nat.le_of_ble_eq_true rfl⟩) (ch_pS hw) rfl rfl hl.1 rfl (lv_room (Nat.le_of_ble_eq_true rfl)) dX6_like_1 ⟨Nat.le_refl 0, Nat.le_refl 0⟩) (fun H locs hw => ?_)
  refine ch_if_eq (tgt := 21) hx hb dX6_like_4 (by decide) h (fun h => ?_) (fun h => ?_)
  · refine lv_sipush (v := (-1002 : Int32)) hx hb dX6_like_21 (by decide) ?_
    exact fin _ _ _ _ _ _ h hw dX6_like_24
  · refine lv_iload_n hx hb dX6_like_7 rfl (lv_at hl 2 rfl) ?_
    refine ch_bd_k h (fun r3 M4 hc h => ?_)
    refine ch_ci hw (va_runS (As := [.int x2]) (rest := []) S (c_X6_isRow l D I sh H.size M2 x2 hc) (va_cwS 1 hts gX6_like_X6_isRow rfl rfl rfl (by decide +kernel) ⟨Nat.le_of_ble_eq_true rfl, Nat.le_of_ble_eq_true rfl⟩) (ch_pS hw) rfl rfl hl.1 rfl (lv_room (Nat.le_of_ble_eq_true rfl)) dX6_like_8 ⟨Nat.le_refl 0, Nat.le_refl 0⟩) (fun H locs hw => ?_)
    refine ch_if_eq (tgt := 21) hx hb dX6_like_11 (by decide) h (fun h => ?_) (fun h => ?_)
    · refine lv_sipush (v := (-1002 : Int32)) hx hb dX6_like_21 (by decide) ?_
      exact fin _ _ _ _ _ _ h hw dX6_like_24
    · refine lv_iload_n hx hb dX6_like_14 rfl (lv_at hl 3 rfl) ?_
      refine ch_bd_k h (fun r5 M6 hc h => ?_)
      refine ch_ci hw (va_runS (As := [.int x3]) (rest := []) S (c_X6_isShift l D I sh H.size M4 x3 hc) (va_cwS 1 hts gX6_like_X6_isShift rfl rfl rfl (by decide +kernel) ⟨Nat.le_of_ble_eq_true rfl, Nat.le_of_ble_eq_true rfl⟩) (ch_pS hw) rfl rfl hl.1 rfl (lv_room (Nat.le_of_ble_eq_true rfl)) dX6_like_15 ⟨Nat.le_refl 0, Nat.le_refl 0⟩) (fun H locs hw => ?_)
      refine ch_if_ne (tgt := 25) hx hb dX6_like_18 (by decide) h (fun h => ?_) (fun h => ?_)
      · refine lv_aload_n hx hb dX6_like_25 rfl (lv_at hl 0 rfl) ?_
        refine lv_iload_n hx hb dX6_like_26 rfl (lv_at hl 1 rfl) ?_
        refine lv_iload_n hx hb dX6_like_27 rfl (lv_at hl 2 rfl) ?_
        refine ch_bd_k h (fun r7 M8 hc h => ?_)
        refine ch_ci hw (va_runV (As := [.int x1, .int x2]) (rest := []) S (c_X6_arePaired l D I sh H.size M6 x1 x2 hc) (cwV 2 hts gX6_like_X6_arePaired rfl rfl rfl (by decide +kernel) ⟨Nat.le_of_ble_eq_true rfl, Nat.le_of_ble_eq_true rfl⟩) (ch_pV hw (by decide) rfl rfl rfl) rfl rfl hl.1 rfl (lv_room (Nat.le_of_ble_eq_true rfl)) dX6_like_28 ⟨Nat.le_refl 0, Nat.le_refl 0⟩) (fun H locs hw => ?_)
        refine ch_if_eq (tgt := 56) hx hb dX6_like_31 (by decide) h (fun h => ?_) (fun h => ?_)
        · refine lv_sipush (v := (-1003 : Int32)) hx hb dX6_like_56 (by decide) ?_
          exact fin _ _ _ _ _ _ h hw dX6_like_59
        · refine lv_aload_n hx hb dX6_like_34 rfl (lv_at hl 0 rfl) ?_
          refine ch_get S hw 0 (by decide) rfl rfl (by decide +kernel) 0 (by decide) (hts (.fieldLink RX6 11 "CodeHunt" "rows" "[LCodeHunt$Row;") (by decide +kernel)) rfl dX6_like_35 ?_
          refine lv_iload_n hx hb dX6_like_38 rfl (lv_at hl 2 rfl) ?_
          refine ch_gd_k h (fun hin h => ?_)
          have hlt9 := ch_in_lt hin
          refine ch_rows S hw hin dX6_like_39 ?_
          refine lv_aload_n hx hb dX6_like_40 rfl (lv_at hl 0 rfl) ?_
          refine ch_get S hw 0 (by decide) rfl rfl (by decide +kernel) 0 (by decide) (hts (.fieldLink RX6 11 "CodeHunt" "rows" "[LCodeHunt$Row;") (by decide +kernel)) rfl dX6_like_41 ?_
          refine lv_iload_n hx hb dX6_like_44 rfl (lv_at hl 1 rfl) ?_
          refine ch_gd_k h (fun hin h => ?_)
          have hlt10 := ch_in_lt hin
          refine ch_rows S hw hin dX6_like_45 ?_
          refine ch_getN S hw (7 + x1.toNatClampNeg) (by omega) (ch_FC_row (by omega)) rfl (by decide +kernel) 0 (by decide) (ch_nw hw 15 rfl) rfl dX6_like_46 ?_
          refine lv_iload_n hx hb dX6_like_49 rfl (lv_at hl 3 rfl) ?_
          refine ch_bd_k h (fun r11 M12 hc h => ?_)
          refine ch_ci hw (va_runV (As := [.ref (sh ((7 + x1.toNatClampNeg) + 8)), .int x3]) (rest := []) S (c_X3_sumOver l D I sh H.size M8 (7 + x2.toNatClampNeg) (by omega) ((7 + x1.toNatClampNeg) + 8) (by unfold ch_arr; omega) x3 hc) (cwV 2 hts gX6_like_X3_sumOver rfl rfl rfl (by decide +kernel) ⟨Nat.le_of_ble_eq_true rfl, Nat.le_of_ble_eq_true rfl⟩) (ch_pV hw (by omega) (ch_FC_row (by omega)) rfl rfl) rfl rfl hl.1 rfl (lv_room (Nat.le_of_ble_eq_true rfl)) dX6_like_50 ⟨Nat.le_refl 0, Nat.le_refl 0⟩) (fun H locs hw => ?_)
          refine lv_goto (tgt := 59) hx hb dX6_like_53 (by decide) ?_
          exact fin _ _ _ _ _ _ h hw dX6_like_59
      · refine lv_sipush (v := (-1002 : Int32)) hx hb dX6_like_21 (by decide) ?_
        exact fin _ _ _ _ _ _ h hw dX6_like_24
set_option maxHeartbeats 4000000 in
set_option maxRecDepth 100000 in
theorem c_X6_like (l : Launch) (D : va_G) (I : ch_Id) (sh : Nat → Nat) (sz : Nat) (M : ch_Mem)  (x1 : Int32) (x2 : Int32) (x3 : Int32) {r : Int32} {M1 : ch_Mem} (h : D_X6_like x1 x2 x3 M = some (r, M1)) : Met l yX6_like wsX6_like rm_X6_like (va_Pc [.ref (sh 0), .int x1, .int x2, .int x3] (ch_Pre D I 40 (ch_FC I sh) sh sz M)) (va_Qi (fun r' (u : ch_Mem) => r' = r ∧ u = M1) (ch_Pos D 40 (ch_FC I sh) sh) (ch_A 40 sh sz)) 0 0 (ch_A 40 sh sz) := by
  refine Met.ofW (cc := cX6_like) (maxL := 4) (ret := (some .int)) (by decide) rfl ?_
  intro p e s m args below meth c s₁ B hml hv0
  obtain ⟨rfl, hv0⟩ := hv0
  obtain rfl : s.heap.size = sz := hv0.1
  have hw := ch_start hv0
  have S : CallFix p m c cX6_like 4 s _ wsX6_like RX6 := ⟨B.exec, B.bytes, hml, findClass_of_methodNamed B.named, atoms_spec (ws := wsX6_like) B.pre⟩
  have hl := lv_entry ([.ref (sh 0), .int x1, .int x2, .int x3]) (n := 4) (Nat.le_of_ble_eq_true rfl)
  rw [lg_entry_eq]
  generalize (lg_sl ([.ref (sh 0), .int x1, .int x2, .int x3]) ++ List.replicate (4 - (lg_sl ([.ref (sh 0), .int x1, .int x2, .int x3])).length) Slot.unset).toArray = ls at hl ⊢
  exact t_X6_like_0 S (ch_finI (B := fun _ => True) B.exec B.bytes B.returns B.notSynchronized) h hw (lv_sub hl [0, 1, 2, 3] rfl)
set_option maxHeartbeats 4000000 in
set_option maxRecDepth 100000 in
theorem t_X6_load_0 {p : Program} {l : Launch} {e : Env} {s : State} {m : MethodId} {args : Array Value} {below : List Frame} {meth : Method} {c : Code} {Q : State → Prop} {D : va_G} {I : ch_Id} {sh : Nat → Nat} {A : Nat → Prop} {oo : Int32 × ch_Mem}     (S : CallFix p m c cX6_load 4 s args wsX6_load RX6) (fin : ch_FinI p l e rm_X6_load s m args below meth c cX6_load Q D I 40 (ch_FC I sh) sh A oo)  {x1 : Int32} {x2 : Int32} {x3 : Int32}  {M : ch_Mem} {H : Heap} {locs : List Loc} {ls : Array Slot} (h : D_X6_load x1 x2 x3 M = some oo) (hw : ch_Wd D I 40 (ch_FC I sh) sh s A M H locs) (hl : lv_has ls 4 [(0, .ref (sh 0)), (1, .int x1), (2, .int x2), (3, .int x3)]) : W p l e rm_X6_load s m args below meth c H locs 0 0 Q (F0 m 0 ls []) := by
  obtain ⟨hx, hb, hml, hown, hts⟩ := id S
  unfold D_X6_load at h
  refine lv_iload_n hx hb dX6_load_0 rfl (lv_at hl 1 rfl) ?_
  refine ch_bd_k h (fun r1 M2 hc h => ?_)
  refine ch_ci hw (va_runS (As := [.int x1]) (rest := []) S (c_X6_isRow l D I sh H.size M x1 hc) (va_cwS 1 hts gX6_load_X6_isRow rfl rfl rfl (by decide +kernel) ⟨Nat.le_of_ble_eq_true rfl, Nat.le_of_ble_eq_true rfl⟩) (ch_pS hw) rfl rfl hl.1 rfl (lv_room (Nat.le_of_ble_eq_true rfl)) dX6_load_1 ⟨Nat.le_refl 0, Nat.le_refl 0⟩) (fun H locs hw => ?_)
  refine ch_if_eq (tgt := 21) hx hb dX6_load_4 (by decide) h (fun h => ?_) (fun h => ?_)
  · refine lv_bipush (v := (-2 : Int32)) hx hb dX6_load_21 (by decide) ?_
    exact fin _ _ _ _ _ _ h hw dX6_load_23
  · refine lv_iload_n hx hb dX6_load_7 rfl (lv_at hl 2 rfl) ?_
    refine ch_bd_k h (fun r3 M4 hc h => ?_)
    refine ch_ci hw (va_runS (As := [.int x2]) (rest := []) S (c_X6_isReel l D I sh H.size M2 x2 hc) (va_cwS 1 hts gX6_load_X6_isReel rfl rfl rfl (by decide +kernel) ⟨Nat.le_of_ble_eq_true rfl, Nat.le_of_ble_eq_true rfl⟩) (ch_pS hw) rfl rfl hl.1 rfl (lv_room (Nat.le_of_ble_eq_true rfl)) dX6_load_8 ⟨Nat.le_refl 0, Nat.le_refl 0⟩) (fun H locs hw => ?_)
    refine ch_if_eq (tgt := 21) hx hb dX6_load_11 (by decide) h (fun h => ?_) (fun h => ?_)
    · refine lv_bipush (v := (-2 : Int32)) hx hb dX6_load_21 (by decide) ?_
      exact fin _ _ _ _ _ _ h hw dX6_load_23
    · refine lv_iload_n hx hb dX6_load_14 rfl (lv_at hl 3 rfl) ?_
      refine ch_bd_k h (fun r5 M6 hc h => ?_)
      refine ch_ci hw (va_runS (As := [.int x3]) (rest := []) S (c_X6_isSize l D I sh H.size M4 x3 hc) (va_cwS 1 hts gX6_load_X6_isSize rfl rfl rfl (by decide +kernel) ⟨Nat.le_of_ble_eq_true rfl, Nat.le_of_ble_eq_true rfl⟩) (ch_pS hw) rfl rfl hl.1 rfl (lv_room (Nat.le_of_ble_eq_true rfl)) dX6_load_15 ⟨Nat.le_refl 0, Nat.le_refl 0⟩) (fun H locs hw => ?_)
      refine ch_if_ne (tgt := 24) hx hb dX6_load_18 (by decide) h (fun h => ?_) (fun h => ?_)
      · refine lv_aload_n hx hb dX6_load_24 rfl (lv_at hl 0 rfl) ?_
        refine ch_get S hw 0 (by decide) rfl rfl (by decide +kernel) 1 (by decide) (hts (.fieldLink RX6 17 "CodeHunt" "reels" "[LCodeHunt$Reel;") (by decide +kernel)) rfl dX6_load_25 ?_
        refine lv_iload_n hx hb dX6_load_28 rfl (lv_at hl 2 rfl) ?_
        refine ch_gd_k h (fun hin h => ?_)
        have hlt7 := ch_in_lt hin
        refine ch_reels S hw hin dX6_load_29 ?_
        refine ch_getN S hw (23 + x2.toNatClampNeg) (by omega) (ch_FC_reel (by omega)) rfl (by decide +kernel) 1 (by decide) (ch_nw hw 18 rfl) rfl dX6_load_30 ?_
        refine ch_if_eq (tgt := 42) hx hb dX6_load_33 (by decide) h (fun h => ?_) (fun h => ?_)
        · refine lv_aload_n hx hb dX6_load_42 rfl (lv_at hl 0 rfl) ?_
          refine ch_get S hw 0 (by decide) rfl rfl (by decide +kernel) 1 (by decide) (hts (.fieldLink RX6 17 "CodeHunt" "reels" "[LCodeHunt$Reel;") (by decide +kernel)) rfl dX6_load_43 ?_
          refine lv_iload_n hx hb dX6_load_46 rfl (lv_at hl 2 rfl) ?_
          refine ch_gd_k h (fun hin h => ?_)
          have hlt8 := ch_in_lt hin
          refine ch_reels S hw hin dX6_load_47 ?_
          refine ch_getN S hw (23 + x2.toNatClampNeg) (by omega) (ch_FC_reel (by omega)) rfl (by decide +kernel) 3 (by decide) (ch_nw hw 20 rfl) rfl dX6_load_48 ?_
          refine lv_iload_n hx hb dX6_load_51 rfl (lv_at hl 3 rfl) ?_
          refine ch_icmp_ge (tgt := 61) hx hb dX6_load_52 (by decide) h (fun h => ?_) (fun h => ?_)
          · refine lv_aload_n hx hb dX6_load_61 rfl (lv_at hl 0 rfl) ?_
            refine ch_get S hw 0 (by decide) rfl rfl (by decide +kernel) 0 (by decide) (hts (.fieldLink RX6 11 "CodeHunt" "rows" "[LCodeHunt$Row;") (by decide +kernel)) rfl dX6_load_62 ?_
            refine lv_iload_n hx hb dX6_load_65 rfl (lv_at hl 1 rfl) ?_
            refine ch_gd_k h (fun hin h => ?_)
            have hlt9 := ch_in_lt hin
            refine ch_rows S hw hin dX6_load_66 ?_
            refine lv_aload_n hx hb dX6_load_67 rfl (lv_at hl 0 rfl) ?_
            refine ch_get S hw 0 (by decide) rfl rfl (by decide +kernel) 1 (by decide) (hts (.fieldLink RX6 17 "CodeHunt" "reels" "[LCodeHunt$Reel;") (by decide +kernel)) rfl dX6_load_68 ?_
            refine lv_iload_n hx hb dX6_load_71 rfl (lv_at hl 2 rfl) ?_
            refine ch_gd_k h (fun hin h => ?_)
            have hlt10 := ch_in_lt hin
            refine ch_reels S hw hin dX6_load_72 ?_
            refine ch_getN S hw (23 + x2.toNatClampNeg) (by omega) (ch_FC_reel (by omega)) rfl (by decide +kernel) 0 (by decide) (ch_nw hw 17 rfl) rfl dX6_load_73 ?_
            refine lv_iload_n hx hb dX6_load_76 rfl (lv_at hl 3 rfl) ?_
            refine ch_bd_k h (fun r11 M12 hc h => ?_)
            cases r11
            refine ch_cv hw (va_runV (As := [.ref (sh ((23 + x2.toNatClampNeg) + 4)), .int x3]) (rest := []) S (c_X3_fillBySignsOf l D I sh H.size M6 (7 + x1.toNatClampNeg) (by omega) ((23 + x2.toNatClampNeg) + 4) (by unfold ch_arr; omega) x3 hc) (cwV 2 hts gX6_load_X3_fillBySignsOf rfl rfl rfl (by decide +kernel) ⟨Nat.le_of_ble_eq_true rfl, Nat.le_of_ble_eq_true rfl⟩) (ch_pV hw (by omega) (ch_FC_row (by omega)) rfl rfl) rfl rfl hl.1 rfl (lv_room (Nat.le_of_ble_eq_true rfl)) dX6_load_77 ⟨Nat.le_refl 0, Nat.le_refl 0⟩) (fun H locs hw => ?_)
            refine lv_iload_n hx hb dX6_load_80 rfl (lv_at hl 3 rfl) ?_
            exact fin _ _ _ _ _ _ h hw dX6_load_81
          · refine lv_aload_n hx hb dX6_load_55 rfl (lv_at hl 0 rfl) ?_
            refine lv_iconst (v := (2 : Int32)) hx hb dX6_load_56 (by decide) ?_
            refine ch_bd_k h (fun r13 M14 hc h => ?_)
            refine ch_ci hw (va_runV (As := [.int (2 : Int32)]) (rest := []) S (c_X6_found l D I sh H.size M6 (2 : Int32) hc) (cwV 1 hts gX6_load_X6_found rfl rfl rfl (by decide +kernel) ⟨Nat.le_of_ble_eq_true rfl, Nat.le_of_ble_eq_true rfl⟩) (ch_pV hw (by decide) rfl rfl rfl) rfl rfl hl.1 rfl (lv_room (Nat.le_of_ble_eq_true rfl)) dX6_load_57 ⟨Nat.le_refl 0, Nat.le_refl 0⟩) (fun H locs hw => ?_)
            exact fin _ _ _ _ _ _ h hw dX6_load_60
        · refine lv_aload_n hx hb dX6_load_36 rfl (lv_at hl 0 rfl) ?_
          refine lv_iconst (v := (1 : Int32)) hx hb dX6_load_37 (by decide) ?_
          refine ch_bd_k h (fun r15 M16 hc h => ?_)
          refine ch_ci hw (va_runV (As := [.int (1 : Int32)]) (rest := []) S (c_X6_found l D I sh H.size M6 (1 : Int32) hc) (cwV 1 hts gX6_load_X6_found rfl rfl rfl (by decide +kernel) ⟨Nat.le_of_ble_eq_true rfl, Nat.le_of_ble_eq_true rfl⟩) (ch_pV hw (by decide) rfl rfl rfl) rfl rfl hl.1 rfl (lv_room (Nat.le_of_ble_eq_true rfl)) dX6_load_38 ⟨Nat.le_refl 0, Nat.le_refl 0⟩) (fun H locs hw => ?_)
          exact fin _ _ _ _ _ _ h hw dX6_load_41
      · refine lv_bipush (v := (-2 : Int32)) hx hb dX6_load_21 (by decide) ?_
        exact fin _ _ _ _ _ _ h hw dX6_load_23
set_option maxHeartbeats 4000000 in
set_option maxRecDepth 100000 in
theorem c_X6_load (l : Launch) (D : va_G) (I : ch_Id) (sh : Nat → Nat) (sz : Nat) (M : ch_Mem)  (x1 : Int32) (x2 : Int32) (x3 : Int32) {r : Int32} {M1 : ch_Mem} (h : D_X6_load x1 x2 x3 M = some (r, M1)) : Met l yX6_load wsX6_load rm_X6_load (va_Pc [.ref (sh 0), .int x1, .int x2, .int x3] (ch_Pre D I 40 (ch_FC I sh) sh sz M)) (va_Qi (fun r' (u : ch_Mem) => r' = r ∧ u = M1) (ch_Pos D 40 (ch_FC I sh) sh) (ch_A 40 sh sz)) 0 0 (ch_A 40 sh sz) := by
  refine Met.ofW (cc := cX6_load) (maxL := 4) (ret := (some .int)) (by decide) rfl ?_
  intro p e s m args below meth c s₁ B hml hv0
  obtain ⟨rfl, hv0⟩ := hv0
  obtain rfl : s.heap.size = sz := hv0.1
  have hw := ch_start hv0
  have S : CallFix p m c cX6_load 4 s _ wsX6_load RX6 := ⟨B.exec, B.bytes, hml, findClass_of_methodNamed B.named, atoms_spec (ws := wsX6_load) B.pre⟩
  have hl := lv_entry ([.ref (sh 0), .int x1, .int x2, .int x3]) (n := 4) (Nat.le_of_ble_eq_true rfl)
  rw [lg_entry_eq]
  generalize (lg_sl ([.ref (sh 0), .int x1, .int x2, .int x3]) ++ List.replicate (4 - (lg_sl ([.ref (sh 0), .int x1, .int x2, .int x3])).length) Slot.unset).toArray = ls at hl ⊢
  exact t_X6_load_0 S (ch_finI (B := fun _ => True) B.exec B.bytes B.returns B.notSynchronized) h hw (lv_sub hl [0, 1, 2, 3] rfl)
set_option maxHeartbeats 4000000 in
set_option maxRecDepth 100000 in
theorem t_X6_lose_0 {p : Program} {l : Launch} {e : Env} {s : State} {m : MethodId} {args : Array Value} {below : List Frame} {meth : Method} {c : Code} {Q : State → Prop} {D : va_G} {I : ch_Id} {sh : Nat → Nat} {A : Nat → Prop} {oo : Int32 × ch_Mem}     (S : CallFix p m c cX6_lose 2 s args wsX6_lose RX6) (fin : ch_FinI p l e rm_X6_lose s m args below meth c cX6_lose Q D I 40 (ch_FC I sh) sh A oo)  {x1 : Int32}  {M : ch_Mem} {H : Heap} {locs : List Loc} {ls : Array Slot} (h : D_X6_lose x1 M = some oo) (hw : ch_Wd D I 40 (ch_FC I sh) sh s A M H locs) (hl : lv_has ls 2 [(0, .ref (sh 0)), (1, .int x1)]) : W p l e rm_X6_lose s m args below meth c H locs 0 0 Q (F0 m 0 ls []) := by
  obtain ⟨hx, hb, hml, hown, hts⟩ := id S
  unfold D_X6_lose at h
  refine lv_iload_n hx hb dX6_lose_0 rfl (lv_at hl 1 rfl) ?_
  refine ch_bd_k h (fun r1 M2 hc h => ?_)
  refine ch_ci hw (va_runS (As := [.int x1]) (rest := []) S (c_X6_isReel l D I sh H.size M x1 hc) (va_cwS 1 hts gX6_lose_X6_isReel rfl rfl rfl (by decide +kernel) ⟨Nat.le_of_ble_eq_true rfl, Nat.le_of_ble_eq_true rfl⟩) (ch_pS hw) rfl rfl hl.1 rfl (lv_room (Nat.le_of_ble_eq_true rfl)) dX6_lose_1 ⟨Nat.le_refl 0, Nat.le_refl 0⟩) (fun H locs hw => ?_)
  refine ch_if_ne (tgt := 10) hx hb dX6_lose_4 (by decide) h (fun h => ?_) (fun h => ?_)
  · refine lv_aload_n hx hb dX6_lose_10 rfl (lv_at hl 0 rfl) ?_
    refine ch_get S hw 0 (by decide) rfl rfl (by decide +kernel) 1 (by decide) (hts (.fieldLink RX6 17 "CodeHunt" "reels" "[LCodeHunt$Reel;") (by decide +kernel)) rfl dX6_lose_11 ?_
    refine lv_iload_n hx hb dX6_lose_14 rfl (lv_at hl 1 rfl) ?_
    refine ch_gd_k h (fun hin h => ?_)
    have hlt3 := ch_in_lt hin
    refine ch_reels S hw hin dX6_lose_15 ?_
    refine ch_getN S hw (23 + x1.toNatClampNeg) (by omega) (ch_FC_reel (by omega)) rfl (by decide +kernel) 1 (by decide) (ch_nw hw 18 rfl) rfl dX6_lose_16 ?_
    refine ch_if_eq (tgt := 28) hx hb dX6_lose_19 (by decide) h (fun h => ?_) (fun h => ?_)
    · refine lv_aload_n hx hb dX6_lose_28 rfl (lv_at hl 0 rfl) ?_
      refine ch_get S hw 0 (by decide) rfl rfl (by decide +kernel) 1 (by decide) (hts (.fieldLink RX6 17 "CodeHunt" "reels" "[LCodeHunt$Reel;") (by decide +kernel)) rfl dX6_lose_29 ?_
      refine lv_iload_n hx hb dX6_lose_32 rfl (lv_at hl 1 rfl) ?_
      refine ch_gd_k h (fun hin h => ?_)
      have hlt4 := ch_in_lt hin
      refine ch_reels S hw hin dX6_lose_33 ?_
      refine lv_iconst (v := (1 : Int32)) hx hb dX6_lose_34 (by decide) ?_
      refine ch_putN (M1 := ch_wI M2 (23 + x1.toNatClampNeg) 1 (1 : Int32)) (ty := .boolean) S hw (23 + x1.toNatClampNeg) (by omega) (ch_FC_reel (by omega)) rfl (by decide +kernel) tyX2 tyX2_ok nmX2 1 (by decide) (ch_nw hw 18 rfl) rfl (by decide +kernel) rfl rfl (Nat.le_of_ble_eq_true rfl) (ch_cf_wI (j := 1) (v := (1 : Int32)) (ch_FC_reel (by omega))) dX6_lose_35 (fun H locs hw => ?_)
      refine lv_aload_n hx hb dX6_lose_38 rfl (lv_at hl 0 rfl) ?_
      refine ch_get S hw 0 (by decide) rfl rfl (by decide +kernel) 1 (by decide) (hts (.fieldLink RX6 17 "CodeHunt" "reels" "[LCodeHunt$Reel;") (by decide +kernel)) rfl dX6_lose_39 ?_
      refine lv_iload_n hx hb dX6_lose_42 rfl (lv_at hl 1 rfl) ?_
      refine ch_gd_k h (fun hin h => ?_)
      have hlt5 := ch_in_lt hin
      refine ch_reels S hw hin dX6_lose_43 ?_
      refine ch_getN S hw (23 + x1.toNatClampNeg) (by omega) (ch_FC_reel (by omega)) rfl (by decide +kernel) 3 (by decide) (ch_nw hw 20 rfl) rfl dX6_lose_44 ?_
      exact fin _ _ _ _ _ _ h hw dX6_lose_47
    · refine lv_aload_n hx hb dX6_lose_22 rfl (lv_at hl 0 rfl) ?_
      refine lv_iconst (v := (1 : Int32)) hx hb dX6_lose_23 (by decide) ?_
      refine ch_bd_k h (fun r6 M7 hc h => ?_)
      refine ch_ci hw (va_runV (As := [.int (1 : Int32)]) (rest := []) S (c_X6_found l D I sh H.size M2 (1 : Int32) hc) (cwV 1 hts gX6_lose_X6_found rfl rfl rfl (by decide +kernel) ⟨Nat.le_of_ble_eq_true rfl, Nat.le_of_ble_eq_true rfl⟩) (ch_pV hw (by decide) rfl rfl rfl) rfl rfl hl.1 rfl (lv_room (Nat.le_of_ble_eq_true rfl)) dX6_lose_24 ⟨Nat.le_refl 0, Nat.le_refl 0⟩) (fun H locs hw => ?_)
      exact fin _ _ _ _ _ _ h hw dX6_lose_27
  · refine lv_bipush (v := (-2 : Int32)) hx hb dX6_lose_7 (by decide) ?_
    exact fin _ _ _ _ _ _ h hw dX6_lose_9
set_option maxHeartbeats 4000000 in
set_option maxRecDepth 100000 in
theorem c_X6_lose (l : Launch) (D : va_G) (I : ch_Id) (sh : Nat → Nat) (sz : Nat) (M : ch_Mem)  (x1 : Int32) {r : Int32} {M1 : ch_Mem} (h : D_X6_lose x1 M = some (r, M1)) : Met l yX6_lose wsX6_lose rm_X6_lose (va_Pc [.ref (sh 0), .int x1] (ch_Pre D I 40 (ch_FC I sh) sh sz M)) (va_Qi (fun r' (u : ch_Mem) => r' = r ∧ u = M1) (ch_Pos D 40 (ch_FC I sh) sh) (ch_A 40 sh sz)) 0 0 (ch_A 40 sh sz) := by
  refine Met.ofW (cc := cX6_lose) (maxL := 2) (ret := (some .int)) (by decide) rfl ?_
  intro p e s m args below meth c s₁ B hml hv0
  obtain ⟨rfl, hv0⟩ := hv0
  obtain rfl : s.heap.size = sz := hv0.1
  have hw := ch_start hv0
  have S : CallFix p m c cX6_lose 2 s _ wsX6_lose RX6 := ⟨B.exec, B.bytes, hml, findClass_of_methodNamed B.named, atoms_spec (ws := wsX6_lose) B.pre⟩
  have hl := lv_entry ([.ref (sh 0), .int x1]) (n := 2) (Nat.le_of_ble_eq_true rfl)
  rw [lg_entry_eq]
  generalize (lg_sl ([.ref (sh 0), .int x1]) ++ List.replicate (2 - (lg_sl ([.ref (sh 0), .int x1])).length) Slot.unset).toArray = ls at hl ⊢
  exact t_X6_lose_0 S (ch_finI (B := fun _ => True) B.exec B.bytes B.returns B.notSynchronized) h hw (lv_sub hl [0, 1] rfl)
