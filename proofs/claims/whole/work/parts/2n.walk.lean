set_option maxHeartbeats 4000000 in
set_option maxRecDepth 100000 in
theorem t_X7_isPrime_14 {p : Program} {l : Launch} {e : Env} {s : State} {m : MethodId} {args : Array Value} {below : List Frame} {meth : Method} {c : Code} {Q : State → Prop} {D : va_G} {I : ch_Id} {sh : Nat → Nat} {A : Nat → Prop} {oo : Int32 × ch_Mem}    {k14 : Int32 → Int32 → ch_Mem → Option (Int32 × ch_Mem)} (S : CallFix p m c cX7_isPrime 2 s args wsX7_isPrime RX7) (fin : ch_FinZ p l e rm_X7_isPrime s m args below meth c cX7_isPrime Q D I 13 (ch_FM I sh) sh A oo) (hk14 : ∀ (x0 : Int32) (x1 : Int32) (M : ch_Mem) (H : Heap) (locs : List Loc) (ls : Array Slot), k14 x0 x1 M = some oo → ch_Wd D I 13 (ch_FM I sh) sh s A M H locs → lv_has ls 2 [(0, .int x0), (1, .int x1)] → W p l e rm_X7_isPrime s m args below meth c H locs 0 0 Q (F0 m 14 ls [])) {x0 : Int32} {x1 : Int32}  {M : ch_Mem} {H : Heap} {locs : List Loc} {ls : Array Slot} (h : D_X7_isPrime_b14 k14 x0 x1 M = some oo) (hw : ch_Wd D I 13 (ch_FM I sh) sh s A M H locs) (hl : lv_has ls 2 [(0, .int x0), (1, .int x1)]) : W p l e rm_X7_isPrime s m args below meth c H locs 0 0 Q (F0 m 14 ls []) := by
  obtain ⟨hx, hb, hml, hown, hts⟩ := id S
  unfold D_X7_isPrime_b14 at h
  refine lv_iload_n hx hb dX7_isPrime_14 rfl (lv_at hl 1 rfl) ?_
  refine lv_iload_n hx hb dX7_isPrime_15 rfl (lv_at hl 0 rfl) ?_
  refine ch_icmp_ge (tgt := 33) hx hb dX7_isPrime_16 (by decide) h (fun h => ?_) (fun h => ?_)
  · refine lv_iconst (v := (1 : Int32)) hx hb dX7_isPrime_33 (by decide) ?_
    exact fin _ _ _ _ _ _ rfl h hw dX7_isPrime_34
  · refine lv_iload_n hx hb dX7_isPrime_19 rfl (lv_at hl 0 rfl) ?_
    refine lv_iload_n hx hb dX7_isPrime_20 rfl (lv_at hl 1 rfl) ?_
    refine ch_g0_k h (fun hne h => ?_)
    refine lv_irem hx hb dX7_isPrime_21 hne ?_
    refine ch_if_ne (tgt := 27) hx hb dX7_isPrime_22 (by decide) h (fun h => ?_) (fun h => ?_)
    · refine lv_iinc (v := x1 + (1 : Int32)) (lv' := [(1, .int (x1 + (1 : Int32))), (0, .int x0)]) hx hb dX7_isPrime_27 hl (k := 1) rfl rfl (by decide) rfl (fun ls hl => ?_)
      refine lv_goto (tgt := 14) hx hb dX7_isPrime_30 (by decide) ?_
      exact hk14 _ _ _ _ _ _  h hw (lv_sub hl [1, 0] rfl)
    · refine lv_iconst (v := (0 : Int32)) hx hb dX7_isPrime_25 (by decide) ?_
      exact fin _ _ _ _ _ _ rfl h hw dX7_isPrime_26
set_option maxHeartbeats 4000000 in
set_option maxRecDepth 100000 in
theorem tl_X7_isPrime_14 {p : Program} {l : Launch} {e : Env} {s : State} {m : MethodId} {args : Array Value} {below : List Frame} {meth : Method} {c : Code} {Q : State → Prop} {D : va_G} {I : ch_Id} {sh : Nat → Nat} {A : Nat → Prop} {oo : Int32 × ch_Mem}     (S : CallFix p m c cX7_isPrime 2 s args wsX7_isPrime RX7) (fin : ch_FinZ p l e rm_X7_isPrime s m args below meth c cX7_isPrime Q D I 13 (ch_FM I sh) sh A oo)  (n : Nat) : ∀ (x0 : Int32) (x1 : Int32) (M : ch_Mem) (H : Heap) (locs : List Loc) (ls : Array Slot), D_X7_isPrime_L14  n x0 x1 M = some oo → ch_Wd D I 13 (ch_FM I sh) sh s A M H locs → lv_has ls 2 [(0, .int x0), (1, .int x1)] → W p l e rm_X7_isPrime s m args below meth c H locs 0 0 Q (F0 m 14 ls []) := by
  induction n with
  | zero => intro x0 x1 M H locs ls  h; cases h
  | succ n ih =>
    intro x0 x1 M H locs ls  h hw hl
    exact t_X7_isPrime_14 S fin ih h hw hl
set_option maxHeartbeats 4000000 in
set_option maxRecDepth 100000 in
theorem t_X7_isPrime_0 {p : Program} {l : Launch} {e : Env} {s : State} {m : MethodId} {args : Array Value} {below : List Frame} {meth : Method} {c : Code} {Q : State → Prop} {D : va_G} {I : ch_Id} {sh : Nat → Nat} {A : Nat → Prop} {oo : Int32 × ch_Mem}     (S : CallFix p m c cX7_isPrime 2 s args wsX7_isPrime RX7) (fin : ch_FinZ p l e rm_X7_isPrime s m args below meth c cX7_isPrime Q D I 13 (ch_FM I sh) sh A oo)  {x0 : Int32}  {M : ch_Mem} {H : Heap} {locs : List Loc} {ls : Array Slot} (h : D_X7_isPrime x0 M = some oo) (hw : ch_Wd D I 13 (ch_FM I sh) sh s A M H locs) (hl : lv_has ls 2 [(0, .int x0)]) : W p l e rm_X7_isPrime s m args below meth c H locs 0 0 Q (F0 m 0 ls []) := by
  obtain ⟨hx, hb, hml, hown, hts⟩ := id S
  unfold D_X7_isPrime at h
  refine lv_iload_n hx hb dX7_isPrime_0 rfl (lv_at hl 0 rfl) ?_
  refine lv_iconst (v := (2 : Int32)) hx hb dX7_isPrime_1 (by decide) ?_
  refine lv_bipush (v := (31 : Int32)) hx hb dX7_isPrime_2 (by decide) ?_
  refine ch_bd_k h (fun r1 M2 hc h => ?_)
  refine ch_ci hw (va_runS (As := [.int x0, .int (2 : Int32), .int (31 : Int32)]) (rest := []) S (c_X7_in l D I sh H.size M x0 (2 : Int32) (31 : Int32) hc) (va_cwS 3 hts gX7_isPrime_X7_in rfl rfl rfl (by decide +kernel) ⟨Nat.le_of_ble_eq_true rfl, Nat.le_of_ble_eq_true rfl⟩) (ch_pS hw) rfl rfl hl.1 rfl (lv_room (Nat.le_of_ble_eq_true rfl)) dX7_isPrime_4 ⟨Nat.le_refl 0, Nat.le_refl 0⟩) (fun H locs hw => ?_)
  refine ch_if_ne (tgt := 12) hx hb dX7_isPrime_7 (by decide) h (fun h => ?_) (fun h => ?_)
  · refine lv_iconst (v := (2 : Int32)) hx hb dX7_isPrime_12 (by decide) ?_
    refine lv_istore_n (lv' := [(1, .int (2 : Int32)), (0, .int x0)]) hx hb dX7_isPrime_13 rfl hl (by decide) rfl (fun ls hl => ?_)
    exact tl_X7_isPrime_14 S fin ch_fu _ _ _ _ _ _ h hw (lv_sub hl [1, 0] rfl)
  · refine lv_iconst (v := (0 : Int32)) hx hb dX7_isPrime_10 (by decide) ?_
    exact fin _ _ _ _ _ _ rfl h hw dX7_isPrime_11
set_option maxHeartbeats 4000000 in
set_option maxRecDepth 100000 in
theorem c_X7_isPrime (l : Launch) (D : va_G) (I : ch_Id) (sh : Nat → Nat) (sz : Nat) (M : ch_Mem)  (x0 : Int32) {r : Int32} {M1 : ch_Mem} (h : D_X7_isPrime x0 M = some (r, M1)) : Met l yX7_isPrime wsX7_isPrime rm_X7_isPrime (va_Pc [.int x0] (ch_Pre D I 13 (ch_FM I sh) sh sz M)) (va_Qi (fun r' (u : ch_Mem) => r' = r ∧ u = M1) (ch_Pos D 13 (ch_FM I sh) sh) (ch_A 13 sh sz)) 0 0 (ch_A 13 sh sz) := by
  refine Met.ofW (cc := cX7_isPrime) (maxL := 2) (ret := (some .boolean)) (by decide) rfl ?_
  intro p e s m args below meth c s₁ B hml hv0
  obtain ⟨rfl, hv0⟩ := hv0
  obtain rfl : s.heap.size = sz := hv0.1
  have hw := ch_start hv0
  have S : CallFix p m c cX7_isPrime 2 s _ wsX7_isPrime RX7 := ⟨B.exec, B.bytes, hml, findClass_of_methodNamed B.named, atoms_spec (ws := wsX7_isPrime) B.pre⟩
  have hl := lv_entry ([.int x0]) (n := 2) (Nat.le_of_ble_eq_true rfl)
  rw [lg_entry_eq]
  generalize (lg_sl ([.int x0]) ++ List.replicate (2 - (lg_sl ([.int x0])).length) Slot.unset).toArray = ls at hl ⊢
  exact t_X7_isPrime_0 S (ch_finZ B.exec B.bytes B.returns B.notSynchronized) h hw (lv_sub hl [0] rfl)
set_option maxHeartbeats 4000000 in
set_option maxRecDepth 100000 in
theorem t_X7_isHop_0 {p : Program} {l : Launch} {e : Env} {s : State} {m : MethodId} {args : Array Value} {below : List Frame} {meth : Method} {c : Code} {Q : State → Prop} {D : va_G} {I : ch_Id} {sh : Nat → Nat} {A : Nat → Prop} {oo : Int32 × ch_Mem}     (S : CallFix p m c cX7_isHop 2 s args wsX7_isHop RX7) (fin : ch_FinZ p l e rm_X7_isHop s m args below meth c cX7_isHop Q D I 13 (ch_FM I sh) sh A oo)  {x0 : Int32} {x1 : Int32}  {M : ch_Mem} {H : Heap} {locs : List Loc} {ls : Array Slot} (h : D_X7_isHop x0 x1 M = some oo) (hw : ch_Wd D I 13 (ch_FM I sh) sh s A M H locs) (hl : lv_has ls 2 [(0, .int x0), (1, .int x1)]) : W p l e rm_X7_isHop s m args below meth c H locs 0 0 Q (F0 m 0 ls []) := by
  obtain ⟨hx, hb, hml, hown, hts⟩ := id S
  unfold D_X7_isHop at h
  refine lv_iload_n hx hb dX7_isHop_0 rfl (lv_at hl 0 rfl) ?_
  refine ch_bd_k h (fun r1 M2 hc h => ?_)
  refine ch_ci hw (va_runS (As := [.int x0]) (rest := []) S (c_X7_isPrime l D I sh H.size M x0 hc) (va_cwS 1 hts gX7_isHop_X7_isPrime rfl rfl rfl (by decide +kernel) ⟨Nat.le_of_ble_eq_true rfl, Nat.le_of_ble_eq_true rfl⟩) (ch_pS hw) rfl rfl hl.1 rfl (lv_room (Nat.le_of_ble_eq_true rfl)) dX7_isHop_1 ⟨Nat.le_refl 0, Nat.le_refl 0⟩) (fun H locs hw => ?_)
  refine ch_if_eq (tgt := 22) hx hb dX7_isHop_4 (by decide) h (fun h => ?_) (fun h => ?_)
  · refine lv_iconst (v := (0 : Int32)) hx hb dX7_isHop_22 (by decide) ?_
    exact fin _ _ _ _ _ _ rfl h hw dX7_isHop_23
  · refine lv_iload_n hx hb dX7_isHop_7 rfl (lv_at hl 1 rfl) ?_
    refine lv_iconst (v := (1 : Int32)) hx hb dX7_isHop_8 (by decide) ?_
    refine lv_iload_n hx hb dX7_isHop_9 rfl (lv_at hl 0 rfl) ?_
    refine lv_iconst (v := (1 : Int32)) hx hb dX7_isHop_10 (by decide) ?_
    refine lv_isub hx hb dX7_isHop_11 ?_
    refine ch_bd_k h (fun r3 M4 hc h => ?_)
    refine ch_ci hw (va_runS (As := [.int x1, .int (1 : Int32), .int (x0 - (1 : Int32))]) (rest := []) S (c_X7_in l D I sh H.size M2 x1 (1 : Int32) (x0 - (1 : Int32)) hc) (va_cwS 3 hts gX7_isHop_X7_in rfl rfl rfl (by decide +kernel) ⟨Nat.le_of_ble_eq_true rfl, Nat.le_of_ble_eq_true rfl⟩) (ch_pS hw) rfl rfl hl.1 rfl (lv_room (Nat.le_of_ble_eq_true rfl)) dX7_isHop_12 ⟨Nat.le_refl 0, Nat.le_refl 0⟩) (fun H locs hw => ?_)
    refine ch_if_eq (tgt := 22) hx hb dX7_isHop_15 (by decide) h (fun h => ?_) (fun h => ?_)
    · refine lv_iconst (v := (0 : Int32)) hx hb dX7_isHop_22 (by decide) ?_
      exact fin _ _ _ _ _ _ rfl h hw dX7_isHop_23
    · refine lv_iconst (v := (1 : Int32)) hx hb dX7_isHop_18 (by decide) ?_
      refine lv_goto (tgt := 23) hx hb dX7_isHop_19 (by decide) ?_
      exact fin _ _ _ _ _ _ rfl h hw dX7_isHop_23
set_option maxHeartbeats 4000000 in
set_option maxRecDepth 100000 in
theorem c_X7_isHop (l : Launch) (D : va_G) (I : ch_Id) (sh : Nat → Nat) (sz : Nat) (M : ch_Mem)  (x0 : Int32) (x1 : Int32) {r : Int32} {M1 : ch_Mem} (h : D_X7_isHop x0 x1 M = some (r, M1)) : Met l yX7_isHop wsX7_isHop rm_X7_isHop (va_Pc [.int x0, .int x1] (ch_Pre D I 13 (ch_FM I sh) sh sz M)) (va_Qi (fun r' (u : ch_Mem) => r' = r ∧ u = M1) (ch_Pos D 13 (ch_FM I sh) sh) (ch_A 13 sh sz)) 0 0 (ch_A 13 sh sz) := by
  refine Met.ofW (cc := cX7_isHop) (maxL := 2) (ret := (some .boolean)) (by decide) rfl ?_
  intro p e s m args below meth c s₁ B hml hv0
  obtain ⟨rfl, hv0⟩ := hv0
  obtain rfl : s.heap.size = sz := hv0.1
  have hw := ch_start hv0
  have S : CallFix p m c cX7_isHop 2 s _ wsX7_isHop RX7 := ⟨B.exec, B.bytes, hml, findClass_of_methodNamed B.named, atoms_spec (ws := wsX7_isHop) B.pre⟩
  have hl := lv_entry ([.int x0, .int x1]) (n := 2) (Nat.le_of_ble_eq_true rfl)
  rw [lg_entry_eq]
  generalize (lg_sl ([.int x0, .int x1]) ++ List.replicate (2 - (lg_sl ([.int x0, .int x1])).length) Slot.unset).toArray = ls at hl ⊢
  exact t_X7_isHop_0 S (ch_finZ B.exec B.bytes B.returns B.notSynchronized) h hw (lv_sub hl [0, 1] rfl)
set_option maxHeartbeats 4000000 in
set_option maxRecDepth 100000 in
theorem t_X7_hitsOf_39 {p : Program} {l : Launch} {e : Env} {s : State} {m : MethodId} {args : Array Value} {below : List Frame} {meth : Method} {c : Code} {Q : State → Prop} {D : va_G} {I : ch_Id} {sh : Nat → Nat} {A : Nat → Prop} {oo : Int32 × ch_Mem}    {k6 : Int32 → Int32 → Int32 → Int32 → Int32 → Int32 → Int32 → ch_Mem → Option (Int32 × ch_Mem)} (S : CallFix p m c cX7_hitsOf 7 s args wsX7_hitsOf RX7) (fin : ch_FinI p l e rm_X7_hitsOf s m args below meth c cX7_hitsOf Q D I 13 (ch_FM I sh) sh A oo) (hk6 : ∀ (x0 : Int32) (x1 : Int32) (x2 : Int32) (x3 : Int32) (x4 : Int32) (x5 : Int32) (x6 : Int32) (M : ch_Mem) (H : Heap) (locs : List Loc) (ls : Array Slot), k6 x0 x1 x2 x3 x4 x5 x6 M = some oo → ch_Wd D I 13 (ch_FM I sh) sh s A M H locs → lv_has ls 7 [(0, .int x0), (1, .int x1), (2, .int x2), (3, .int x3), (4, .int x4), (5, .int x5), (6, .int x6)] → W p l e rm_X7_hitsOf s m args below meth c H locs 0 0 Q (F0 m 6 ls [])) {x0 : Int32} {x1 : Int32} {x2 : Int32} {x3 : Int32} {x4 : Int32} {x6 : Int32} {y0 : Int32} {y1 : Int32}  {M : ch_Mem} {H : Heap} {locs : List Loc} {ls : Array Slot} (h : D_X7_hitsOf_b39 k6 x0 x1 x2 x3 x4 x6 y0 y1 M = some oo) (hw : ch_Wd D I 13 (ch_FM I sh) sh s A M H locs) (hl : lv_has ls 7 [(0, .int x0), (1, .int x1), (2, .int x2), (3, .int x3), (4, .int x4), (6, .int x6)]) : W p l e rm_X7_hitsOf s m args below meth c H locs 0 0 Q (F0 m 39 ls [.int y0, .int y1]) := by
  obtain ⟨hx, hb, hml, hown, hts⟩ := id S
  unfold D_X7_hitsOf_b39 at h
  refine lv_iadd hx hb dX7_hitsOf_39 ?_
  refine lv_istore (lv' := [(5, .int (y1 + y0)), (0, .int x0), (1, .int x1), (2, .int x2), (3, .int x3), (4, .int x4), (6, .int x6)]) hx hb dX7_hitsOf_40 hl (by decide) rfl (fun ls hl => ?_)
  refine lv_iinc (v := x6 + (1 : Int32)) (lv' := [(6, .int (x6 + (1 : Int32))), (5, .int (y1 + y0)), (0, .int x0), (1, .int x1), (2, .int x2), (3, .int x3), (4, .int x4)]) hx hb dX7_hitsOf_42 hl (k := 6) rfl rfl (by decide) rfl (fun ls hl => ?_)
  refine lv_goto (tgt := 6) hx hb dX7_hitsOf_45 (by decide) ?_
  exact hk6 _ _ _ _ _ _ _ _ _ _ _  h hw (lv_sub hl [2, 3, 4, 5, 6, 1, 0] rfl)
set_option maxHeartbeats 4000000 in
set_option maxRecDepth 100000 in
theorem t_X7_hitsOf_48 {p : Program} {l : Launch} {e : Env} {s : State} {m : MethodId} {args : Array Value} {below : List Frame} {meth : Method} {c : Code} {Q : State → Prop} {D : va_G} {I : ch_Id} {sh : Nat → Nat} {A : Nat → Prop} {oo : Int32 × ch_Mem}     (S : CallFix p m c cX7_hitsOf 7 s args wsX7_hitsOf RX7) (fin : ch_FinI p l e rm_X7_hitsOf s m args below meth c cX7_hitsOf Q D I 13 (ch_FM I sh) sh A oo)  {x5 : Int32}  {M : ch_Mem} {H : Heap} {locs : List Loc} {ls : Array Slot} (h : D_X7_hitsOf_b48 x5 M = some oo) (hw : ch_Wd D I 13 (ch_FM I sh) sh s A M H locs) (hl : lv_has ls 7 [(5, .int x5)]) : W p l e rm_X7_hitsOf s m args below meth c H locs 0 0 Q (F0 m 48 ls []) := by
  obtain ⟨hx, hb, hml, hown, hts⟩ := id S
  unfold D_X7_hitsOf_b48 at h
  refine lv_iload hx hb dX7_hitsOf_48 (lv_at hl 0 rfl) ?_
  exact fin _ _ _ _ _ _ h hw dX7_hitsOf_50
set_option maxHeartbeats 4000000 in
set_option maxRecDepth 100000 in
theorem t_X7_hitsOf_6 {p : Program} {l : Launch} {e : Env} {s : State} {m : MethodId} {args : Array Value} {below : List Frame} {meth : Method} {c : Code} {Q : State → Prop} {D : va_G} {I : ch_Id} {sh : Nat → Nat} {A : Nat → Prop} {oo : Int32 × ch_Mem}    {k6 : Int32 → Int32 → Int32 → Int32 → Int32 → Int32 → Int32 → ch_Mem → Option (Int32 × ch_Mem)} (S : CallFix p m c cX7_hitsOf 7 s args wsX7_hitsOf RX7) (fin : ch_FinI p l e rm_X7_hitsOf s m args below meth c cX7_hitsOf Q D I 13 (ch_FM I sh) sh A oo) (hk6 : ∀ (x0 : Int32) (x1 : Int32) (x2 : Int32) (x3 : Int32) (x4 : Int32) (x5 : Int32) (x6 : Int32) (M : ch_Mem) (H : Heap) (locs : List Loc) (ls : Array Slot), k6 x0 x1 x2 x3 x4 x5 x6 M = some oo → ch_Wd D I 13 (ch_FM I sh) sh s A M H locs → lv_has ls 7 [(0, .int x0), (1, .int x1), (2, .int x2), (3, .int x3), (4, .int x4), (5, .int x5), (6, .int x6)] → W p l e rm_X7_hitsOf s m args below meth c H locs 0 0 Q (F0 m 6 ls [])) {x0 : Int32} {x1 : Int32} {x2 : Int32} {x3 : Int32} {x4 : Int32} {x5 : Int32} {x6 : Int32}  {M : ch_Mem} {H : Heap} {locs : List Loc} {ls : Array Slot} (h : D_X7_hitsOf_b6 k6 x0 x1 x2 x3 x4 x5 x6 M = some oo) (hw : ch_Wd D I 13 (ch_FM I sh) sh s A M H locs) (hl : lv_has ls 7 [(0, .int x0), (1, .int x1), (2, .int x2), (3, .int x3), (4, .int x4), (5, .int x5), (6, .int x6)]) : W p l e rm_X7_hitsOf s m args below meth c H locs 0 0 Q (F0 m 6 ls []) := by
  obtain ⟨hx, hb, hml, hown, hts⟩ := id S
  unfold D_X7_hitsOf_b6 at h
  refine lv_iload hx hb dX7_hitsOf_6 (lv_at hl 6 rfl) ?_
  refine lv_iload_n hx hb dX7_hitsOf_8 rfl (lv_at hl 0 rfl) ?_
  refine ch_icmp_ge (tgt := 48) hx hb dX7_hitsOf_9 (by decide) h (fun h => ?_) (fun h => ?_)
  · exact t_X7_hitsOf_48 S fin h hw (lv_sub hl [5] rfl)
  · refine lv_iload hx hb dX7_hitsOf_12 (lv_at hl 5 rfl) ?_
    refine lv_iload_n hx hb dX7_hitsOf_14 rfl (lv_at hl 1 rfl) ?_
    refine lv_iload hx hb dX7_hitsOf_15 (lv_at hl 6 rfl) ?_
    refine lv_imul hx hb dX7_hitsOf_17 ?_
    refine lv_iload_n hx hb dX7_hitsOf_18 rfl (lv_at hl 0 rfl) ?_
    refine ch_g0_k h (fun hne h => ?_)
    refine lv_irem hx hb dX7_hitsOf_19 hne ?_
    refine lv_iload_n hx hb dX7_hitsOf_20 rfl (lv_at hl 2 rfl) ?_
    refine lv_iload hx hb dX7_hitsOf_21 (lv_at hl 6 rfl) ?_
    refine lv_iload_n hx hb dX7_hitsOf_23 rfl (lv_at hl 3 rfl) ?_
    refine lv_iadd hx hb dX7_hitsOf_24 ?_
    refine lv_imul hx hb dX7_hitsOf_25 ?_
    refine lv_iload hx hb dX7_hitsOf_26 (lv_at hl 4 rfl) ?_
    refine lv_iadd hx hb dX7_hitsOf_28 ?_
    refine lv_iload_n hx hb dX7_hitsOf_29 rfl (lv_at hl 0 rfl) ?_
    refine ch_g0_k h (fun hne h => ?_)
    refine lv_irem hx hb dX7_hitsOf_30 hne ?_
    refine ch_icmp_ne (tgt := 38) hx hb dX7_hitsOf_31 (by decide) h (fun h => ?_) (fun h => ?_)
    · refine lv_iconst (v := (0 : Int32)) hx hb dX7_hitsOf_38 (by decide) ?_
      exact t_X7_hitsOf_39 S fin hk6 h hw (lv_sub hl [0, 1, 2, 3, 4, 6] rfl)
    · refine lv_iconst (v := (1 : Int32)) hx hb dX7_hitsOf_34 (by decide) ?_
      refine lv_goto (tgt := 39) hx hb dX7_hitsOf_35 (by decide) ?_
      exact t_X7_hitsOf_39 S fin hk6 h hw (lv_sub hl [0, 1, 2, 3, 4, 6] rfl)
set_option maxHeartbeats 4000000 in
set_option maxRecDepth 100000 in
theorem tl_X7_hitsOf_6 {p : Program} {l : Launch} {e : Env} {s : State} {m : MethodId} {args : Array Value} {below : List Frame} {meth : Method} {c : Code} {Q : State → Prop} {D : va_G} {I : ch_Id} {sh : Nat → Nat} {A : Nat → Prop} {oo : Int32 × ch_Mem}     (S : CallFix p m c cX7_hitsOf 7 s args wsX7_hitsOf RX7) (fin : ch_FinI p l e rm_X7_hitsOf s m args below meth c cX7_hitsOf Q D I 13 (ch_FM I sh) sh A oo)  (n : Nat) : ∀ (x0 : Int32) (x1 : Int32) (x2 : Int32) (x3 : Int32) (x4 : Int32) (x5 : Int32) (x6 : Int32) (M : ch_Mem) (H : Heap) (locs : List Loc) (ls : Array Slot), D_X7_hitsOf_L6  n x0 x1 x2 x3 x4 x5 x6 M = some oo → ch_Wd D I 13 (ch_FM I sh) sh s A M H locs → lv_has ls 7 [(0, .int x0), (1, .int x1), (2, .int x2), (3, .int x3), (4, .int x4), (5, .int x5), (6, .int x6)] → W p l e rm_X7_hitsOf s m args below meth c H locs 0 0 Q (F0 m 6 ls []) := by
  induction n with
  | zero => intro x0 x1 x2 x3 x4 x5 x6 M H locs ls  h; cases h
  | succ n ih =>
    intro x0 x1 x2 x3 x4 x5 x6 M H locs ls  h hw hl
    exact t_X7_hitsOf_6 S fin ih h hw hl
set_option maxHeartbeats 4000000 in
set_option maxRecDepth 100000 in
theorem t_X7_hitsOf_0 {p : Program} {l : Launch} {e : Env} {s : State} {m : MethodId} {args : Array Value} {below : List Frame} {meth : Method} {c : Code} {Q : State → Prop} {D : va_G} {I : ch_Id} {sh : Nat → Nat} {A : Nat → Prop} {oo : Int32 × ch_Mem}     (S : CallFix p m c cX7_hitsOf 7 s args wsX7_hitsOf RX7) (fin : ch_FinI p l e rm_X7_hitsOf s m args below meth c cX7_hitsOf Q D I 13 (ch_FM I sh) sh A oo)  {x0 : Int32} {x1 : Int32} {x2 : Int32} {x3 : Int32} {x4 : Int32}  {M : ch_Mem} {H : Heap} {locs : List Loc} {ls : Array Slot} (h : D_X7_hitsOf x0 x1 x2 x3 x4 M = some oo) (hw : ch_Wd D I 13 (ch_FM I sh) sh s A M H locs) (hl : lv_has ls 7 [(0, .int x0), (1, .int x1), (2, .int x2), (3, .int x3), (4, .int x4)]) : W p l e rm_X7_hitsOf s m args below meth c H locs 0 0 Q (F0 m 0 ls []) := by
  obtain ⟨hx, hb, hml, hown, hts⟩ := id S
  unfold D_X7_hitsOf at h
  refine lv_iconst (v := (0 : Int32)) hx hb dX7_hitsOf_0 (by decide) ?_
  refine lv_istore (lv' := [(5, .int (0 : Int32)), (0, .int x0), (1, .int x1), (2, .int x2), (3, .int x3), (4, .int x4)]) hx hb dX7_hitsOf_1 hl (by decide) rfl (fun ls hl => ?_)
  refine lv_iconst (v := (0 : Int32)) hx hb dX7_hitsOf_3 (by decide) ?_
  refine lv_istore (lv' := [(6, .int (0 : Int32)), (5, .int (0 : Int32)), (0, .int x0), (1, .int x1), (2, .int x2), (3, .int x3), (4, .int x4)]) hx hb dX7_hitsOf_4 hl (by decide) rfl (fun ls hl => ?_)
  exact tl_X7_hitsOf_6 S fin ch_fu _ _ _ _ _ _ _ _ _ _ _ h hw (lv_sub hl [2, 3, 4, 5, 6, 1, 0] rfl)
set_option maxHeartbeats 4000000 in
set_option maxRecDepth 100000 in
theorem c_X7_hitsOf (l : Launch) (D : va_G) (I : ch_Id) (sh : Nat → Nat) (sz : Nat) (M : ch_Mem)  (x0 : Int32) (x1 : Int32) (x2 : Int32) (x3 : Int32) (x4 : Int32) {r : Int32} {M1 : ch_Mem} (h : D_X7_hitsOf x0 x1 x2 x3 x4 M = some (r, M1)) : Met l yX7_hitsOf wsX7_hitsOf rm_X7_hitsOf (va_Pc [.int x0, .int x1, .int x2, .int x3, .int x4] (ch_Pre D I 13 (ch_FM I sh) sh sz M)) (va_Qi (fun r' (u : ch_Mem) => r' = r ∧ u = M1) (ch_Pos D 13 (ch_FM I sh) sh) (ch_A 13 sh sz)) 0 0 (ch_A 13 sh sz) := by
  refine Met.ofW (cc := cX7_hitsOf) (maxL := 7) (ret := (some .int)) (by decide) rfl ?_
  intro p e s m args below meth c s₁ B hml hv0
  obtain ⟨rfl, hv0⟩ := hv0
  obtain rfl : s.heap.size = sz := hv0.1
  have hw := ch_start hv0
  have S : CallFix p m c cX7_hitsOf 7 s _ wsX7_hitsOf RX7 := ⟨B.exec, B.bytes, hml, findClass_of_methodNamed B.named, atoms_spec (ws := wsX7_hitsOf) B.pre⟩
  have hl := lv_entry ([.int x0, .int x1, .int x2, .int x3, .int x4]) (n := 7) (Nat.le_of_ble_eq_true rfl)
  rw [lg_entry_eq]
  generalize (lg_sl ([.int x0, .int x1, .int x2, .int x3, .int x4]) ++ List.replicate (7 - (lg_sl ([.int x0, .int x1, .int x2, .int x3, .int x4])).length) Slot.unset).toArray = ls at hl ⊢
  exact t_X7_hitsOf_0 S (ch_finI (B := fun _ => True) B.exec B.bytes B.returns B.notSynchronized) h hw (lv_sub hl [0, 1, 2, 3, 4] rfl)
set_option maxHeartbeats 4000000 in
set_option maxRecDepth 100000 in
theorem t_X7_hits_0 {p : Program} {l : Launch} {e : Env} {s : State} {m : MethodId} {args : Array Value} {below : List Frame} {meth : Method} {c : Code} {Q : State → Prop} {D : va_G} {I : ch_Id} {sh : Nat → Nat} {A : Nat → Prop} {oo : Int32 × ch_Mem}     (S : CallFix p m c cX7_hits 6 s args wsX7_hits RX7) (fin : ch_FinI p l e rm_X7_hits s m args below meth c cX7_hits Q D I 13 (ch_FM I sh) sh A oo)  {x1 : Int32} {x2 : Int32} {x3 : Int32} {x4 : Int32} {x5 : Int32}  {M : ch_Mem} {H : Heap} {locs : List Loc} {ls : Array Slot} (h : D_X7_hits x1 x2 x3 x4 x5 M = some oo) (hw : ch_Wd D I 13 (ch_FM I sh) sh s A M H locs) (hl : lv_has ls 6 [(0, .ref (sh 0)), (1, .int x1), (2, .int x2), (3, .int x3), (4, .int x4), (5, .int x5)]) : W p l e rm_X7_hits s m args below meth c H locs 0 0 Q (F0 m 0 ls []) := by
  obtain ⟨hx, hb, hml, hown, hts⟩ := id S
  unfold D_X7_hits at h
  refine lv_iload_n hx hb dX7_hits_0 rfl (lv_at hl 1 rfl) ?_
  refine lv_iload_n hx hb dX7_hits_1 rfl (lv_at hl 2 rfl) ?_
  refine ch_bd_k h (fun r1 M2 hc h => ?_)
  refine ch_ci hw (va_runS (As := [.int x1, .int x2]) (rest := []) S (c_X7_isHop l D I sh H.size M x1 x2 hc) (va_cwS 2 hts gX7_hits_X7_isHop rfl rfl rfl (by decide +kernel) ⟨Nat.le_of_ble_eq_true rfl, Nat.le_of_ble_eq_true rfl⟩) (ch_pS hw) rfl rfl hl.1 rfl (lv_room (Nat.le_of_ble_eq_true rfl)) dX7_hits_2 ⟨Nat.le_refl 0, Nat.le_refl 0⟩) (fun H locs hw => ?_)
  refine ch_if_eq (tgt := 53) hx hb dX7_hits_5 (by decide) h (fun h => ?_) (fun h => ?_)
  · refine lv_bipush (v := (-2 : Int32)) hx hb dX7_hits_53 (by decide) ?_
    exact fin _ _ _ _ _ _ h hw dX7_hits_55
  · refine lv_iload_n hx hb dX7_hits_8 rfl (lv_at hl 1 rfl) ?_
    refine lv_iload_n hx hb dX7_hits_9 rfl (lv_at hl 3 rfl) ?_
    refine ch_bd_k h (fun r3 M4 hc h => ?_)
    refine ch_ci hw (va_runS (As := [.int x1, .int x3]) (rest := []) S (c_X7_isHop l D I sh H.size M2 x1 x3 hc) (va_cwS 2 hts gX7_hits_X7_isHop rfl rfl rfl (by decide +kernel) ⟨Nat.le_of_ble_eq_true rfl, Nat.le_of_ble_eq_true rfl⟩) (ch_pS hw) rfl rfl hl.1 rfl (lv_room (Nat.le_of_ble_eq_true rfl)) dX7_hits_10 ⟨Nat.le_refl 0, Nat.le_refl 0⟩) (fun H locs hw => ?_)
    refine ch_if_eq (tgt := 53) hx hb dX7_hits_13 (by decide) h (fun h => ?_) (fun h => ?_)
    · refine lv_bipush (v := (-2 : Int32)) hx hb dX7_hits_53 (by decide) ?_
      exact fin _ _ _ _ _ _ h hw dX7_hits_55
    · refine lv_iload hx hb dX7_hits_16 (lv_at hl 4 rfl) ?_
      refine lv_iconst (v := (0 : Int32)) hx hb dX7_hits_18 (by decide) ?_
      refine lv_iload_n hx hb dX7_hits_19 rfl (lv_at hl 1 rfl) ?_
      refine lv_iconst (v := (1 : Int32)) hx hb dX7_hits_20 (by decide) ?_
      refine lv_isub hx hb dX7_hits_21 ?_
      refine ch_bd_k h (fun r5 M6 hc h => ?_)
      refine ch_ci hw (va_runS (As := [.int x4, .int (0 : Int32), .int (x1 - (1 : Int32))]) (rest := []) S (c_X7_in l D I sh H.size M4 x4 (0 : Int32) (x1 - (1 : Int32)) hc) (va_cwS 3 hts gX7_hits_X7_in rfl rfl rfl (by decide +kernel) ⟨Nat.le_of_ble_eq_true rfl, Nat.le_of_ble_eq_true rfl⟩) (ch_pS hw) rfl rfl hl.1 rfl (lv_room (Nat.le_of_ble_eq_true rfl)) dX7_hits_22 ⟨Nat.le_refl 0, Nat.le_refl 0⟩) (fun H locs hw => ?_)
      refine ch_if_eq (tgt := 53) hx hb dX7_hits_25 (by decide) h (fun h => ?_) (fun h => ?_)
      · refine lv_bipush (v := (-2 : Int32)) hx hb dX7_hits_53 (by decide) ?_
        exact fin _ _ _ _ _ _ h hw dX7_hits_55
      · refine lv_iload hx hb dX7_hits_28 (lv_at hl 5 rfl) ?_
        refine lv_iconst (v := (0 : Int32)) hx hb dX7_hits_30 (by decide) ?_
        refine lv_iload_n hx hb dX7_hits_31 rfl (lv_at hl 1 rfl) ?_
        refine lv_iconst (v := (1 : Int32)) hx hb dX7_hits_32 (by decide) ?_
        refine lv_isub hx hb dX7_hits_33 ?_
        refine ch_bd_k h (fun r7 M8 hc h => ?_)
        refine ch_ci hw (va_runS (As := [.int x5, .int (0 : Int32), .int (x1 - (1 : Int32))]) (rest := []) S (c_X7_in l D I sh H.size M6 x5 (0 : Int32) (x1 - (1 : Int32)) hc) (va_cwS 3 hts gX7_hits_X7_in rfl rfl rfl (by decide +kernel) ⟨Nat.le_of_ble_eq_true rfl, Nat.le_of_ble_eq_true rfl⟩) (ch_pS hw) rfl rfl hl.1 rfl (lv_room (Nat.le_of_ble_eq_true rfl)) dX7_hits_34 ⟨Nat.le_refl 0, Nat.le_refl 0⟩) (fun H locs hw => ?_)
        refine ch_if_eq (tgt := 53) hx hb dX7_hits_37 (by decide) h (fun h => ?_) (fun h => ?_)
        · refine lv_bipush (v := (-2 : Int32)) hx hb dX7_hits_53 (by decide) ?_
          exact fin _ _ _ _ _ _ h hw dX7_hits_55
        · refine lv_iload_n hx hb dX7_hits_40 rfl (lv_at hl 1 rfl) ?_
          refine lv_iload_n hx hb dX7_hits_41 rfl (lv_at hl 2 rfl) ?_
          refine lv_iload_n hx hb dX7_hits_42 rfl (lv_at hl 3 rfl) ?_
          refine lv_iload hx hb dX7_hits_43 (lv_at hl 4 rfl) ?_
          refine lv_iload hx hb dX7_hits_45 (lv_at hl 5 rfl) ?_
          refine ch_bd_k h (fun r9 M10 hc h => ?_)
          refine ch_ci hw (va_runS (As := [.int x1, .int x2, .int x3, .int x4, .int x5]) (rest := []) S (c_X7_hitsOf l D I sh H.size M8 x1 x2 x3 x4 x5 hc) (va_cwS 5 hts gX7_hits_X7_hitsOf rfl rfl rfl (by decide +kernel) ⟨Nat.le_of_ble_eq_true rfl, Nat.le_of_ble_eq_true rfl⟩) (ch_pS hw) rfl rfl hl.1 rfl (lv_room (Nat.le_of_ble_eq_true rfl)) dX7_hits_47 ⟨Nat.le_refl 0, Nat.le_refl 0⟩) (fun H locs hw => ?_)
          refine lv_goto (tgt := 55) hx hb dX7_hits_50 (by decide) ?_
          exact fin _ _ _ _ _ _ h hw dX7_hits_55
set_option maxHeartbeats 4000000 in
set_option maxRecDepth 100000 in
theorem c_X7_hits (l : Launch) (D : va_G) (I : ch_Id) (sh : Nat → Nat) (sz : Nat) (M : ch_Mem)  (x1 : Int32) (x2 : Int32) (x3 : Int32) (x4 : Int32) (x5 : Int32) {r : Int32} {M1 : ch_Mem} (h : D_X7_hits x1 x2 x3 x4 x5 M = some (r, M1)) : Met l yX7_hits wsX7_hits rm_X7_hits (va_Pc [.ref (sh 0), .int x1, .int x2, .int x3, .int x4, .int x5] (ch_Pre D I 13 (ch_FM I sh) sh sz M)) (va_Qi (fun r' (u : ch_Mem) => r' = r ∧ u = M1) (ch_Pos D 13 (ch_FM I sh) sh) (ch_A 13 sh sz)) 0 0 (ch_A 13 sh sz) := by
  refine Met.ofW (cc := cX7_hits) (maxL := 6) (ret := (some .int)) (by decide) rfl ?_
  intro p e s m args below meth c s₁ B hml hv0
  obtain ⟨rfl, hv0⟩ := hv0
  obtain rfl : s.heap.size = sz := hv0.1
  have hw := ch_start hv0
  have S : CallFix p m c cX7_hits 6 s _ wsX7_hits RX7 := ⟨B.exec, B.bytes, hml, findClass_of_methodNamed B.named, atoms_spec (ws := wsX7_hits) B.pre⟩
  have hl := lv_entry ([.ref (sh 0), .int x1, .int x2, .int x3, .int x4, .int x5]) (n := 6) (Nat.le_of_ble_eq_true rfl)
  rw [lg_entry_eq]
  generalize (lg_sl ([.ref (sh 0), .int x1, .int x2, .int x3, .int x4, .int x5]) ++ List.replicate (6 - (lg_sl ([.ref (sh 0), .int x1, .int x2, .int x3, .int x4, .int x5])).length) Slot.unset).toArray = ls at hl ⊢
  exact t_X7_hits_0 S (ch_finI (B := fun _ => True) B.exec B.bytes B.returns B.notSynchronized) h hw (lv_sub hl [0, 1, 2, 3, 4, 5] rfl)
set_option maxHeartbeats 4000000 in
set_option maxRecDepth 100000 in
theorem t_X7_isRegister_0 {p : Program} {l : Launch} {e : Env} {s : State} {m : MethodId} {args : Array Value} {below : List Frame} {meth : Method} {c : Code} {Q : State → Prop} {D : va_G} {I : ch_Id} {sh : Nat → Nat} {A : Nat → Prop} {oo : Int32 × ch_Mem}     (S : CallFix p m c cX7_isRegister 3 s args wsX7_isRegister RX7) (fin : ch_FinZ p l e rm_X7_isRegister s m args below meth c cX7_isRegister Q D I 13 (ch_FM I sh) sh A oo)  {x0 : Int32} {x1 : Int32} {x2 : Int32}  {M : ch_Mem} {H : Heap} {locs : List Loc} {ls : Array Slot} (h : D_X7_isRegister x0 x1 x2 M = some oo) (hw : ch_Wd D I 13 (ch_FM I sh) sh s A M H locs) (hl : lv_has ls 3 [(0, .int x0), (1, .int x1), (2, .int x2)]) : W p l e rm_X7_isRegister s m args below meth c H locs 0 0 Q (F0 m 0 ls []) := by
  obtain ⟨hx, hb, hml, hown, hts⟩ := id S
  unfold D_X7_isRegister at h
  refine lv_iload_n hx hb dX7_isRegister_0 rfl (lv_at hl 0 rfl) ?_
  refine lv_iconst (v := (2 : Int32)) hx hb dX7_isRegister_1 (by decide) ?_
  refine lv_bipush (v := (7 : Int32)) hx hb dX7_isRegister_2 (by decide) ?_
  refine ch_bd_k h (fun r1 M2 hc h => ?_)
  refine ch_ci hw (va_runS (As := [.int x0, .int (2 : Int32), .int (7 : Int32)]) (rest := []) S (c_X7_in l D I sh H.size M x0 (2 : Int32) (7 : Int32) hc) (va_cwS 3 hts gX7_isRegister_X7_in rfl rfl rfl (by decide +kernel) ⟨Nat.le_of_ble_eq_true rfl, Nat.le_of_ble_eq_true rfl⟩) (ch_pS hw) rfl rfl hl.1 rfl (lv_room (Nat.le_of_ble_eq_true rfl)) dX7_isRegister_4 ⟨Nat.le_refl 0, Nat.le_refl 0⟩) (fun H locs hw => ?_)
  refine ch_if_eq (tgt := 47) hx hb dX7_isRegister_7 (by decide) h (fun h => ?_) (fun h => ?_)
  · refine lv_iconst (v := (0 : Int32)) hx hb dX7_isRegister_47 (by decide) ?_
    exact fin _ _ _ _ _ _ rfl h hw dX7_isRegister_48
  · refine lv_iload_n hx hb dX7_isRegister_10 rfl (lv_at hl 1 rfl) ?_
    refine lv_iconst (v := (1 : Int32)) hx hb dX7_isRegister_11 (by decide) ?_
    refine lv_iconst (v := (1 : Int32)) hx hb dX7_isRegister_12 (by decide) ?_
    refine lv_iload_n hx hb dX7_isRegister_13 rfl (lv_at hl 0 rfl) ?_
    refine lv_ishl hx hb dX7_isRegister_14 ?_
    refine lv_iconst (v := (1 : Int32)) hx hb dX7_isRegister_15 (by decide) ?_
    refine lv_isub hx hb dX7_isRegister_16 ?_
    refine ch_bd_k h (fun r3 M4 hc h => ?_)
    refine ch_ci hw (va_runS (As := [.int x1, .int (1 : Int32), .int (((1 : Int32) <<< (x0 &&& 31)) - (1 : Int32))]) (rest := []) S (c_X7_in l D I sh H.size M2 x1 (1 : Int32) (((1 : Int32) <<< (x0 &&& 31)) - (1 : Int32)) hc) (va_cwS 3 hts gX7_isRegister_X7_in rfl rfl rfl (by decide +kernel) ⟨Nat.le_of_ble_eq_true rfl, Nat.le_of_ble_eq_true rfl⟩) (ch_pS hw) rfl rfl hl.1 rfl (lv_room (Nat.le_of_ble_eq_true rfl)) dX7_isRegister_17 ⟨Nat.le_refl 0, Nat.le_refl 0⟩) (fun H locs hw => ?_)
    refine ch_if_eq (tgt := 47) hx hb dX7_isRegister_20 (by decide) h (fun h => ?_) (fun h => ?_)
    · refine lv_iconst (v := (0 : Int32)) hx hb dX7_isRegister_47 (by decide) ?_
      exact fin _ _ _ _ _ _ rfl h hw dX7_isRegister_48
    · refine lv_iload_n hx hb dX7_isRegister_23 rfl (lv_at hl 1 rfl) ?_
      refine lv_iconst (v := (2 : Int32)) hx hb dX7_isRegister_24 (by decide) ?_
      refine lv_irem hx hb dX7_isRegister_25 (by decide) ?_
      refine lv_iconst (v := (1 : Int32)) hx hb dX7_isRegister_26 (by decide) ?_
      refine ch_icmp_ne (tgt := 47) hx hb dX7_isRegister_27 (by decide) h (fun h => ?_) (fun h => ?_)
      · refine lv_iconst (v := (0 : Int32)) hx hb dX7_isRegister_47 (by decide) ?_
        exact fin _ _ _ _ _ _ rfl h hw dX7_isRegister_48
      · refine lv_iload_n hx hb dX7_isRegister_30 rfl (lv_at hl 2 rfl) ?_
        refine lv_iconst (v := (1 : Int32)) hx hb dX7_isRegister_31 (by decide) ?_
        refine lv_iconst (v := (1 : Int32)) hx hb dX7_isRegister_32 (by decide) ?_
        refine lv_iload_n hx hb dX7_isRegister_33 rfl (lv_at hl 0 rfl) ?_
        refine lv_ishl hx hb dX7_isRegister_34 ?_
        refine lv_iconst (v := (1 : Int32)) hx hb dX7_isRegister_35 (by decide) ?_
        refine lv_isub hx hb dX7_isRegister_36 ?_
        refine ch_bd_k h (fun r5 M6 hc h => ?_)
        refine ch_ci hw (va_runS (As := [.int x2, .int (1 : Int32), .int (((1 : Int32) <<< (x0 &&& 31)) - (1 : Int32))]) (rest := []) S (c_X7_in l D I sh H.size M4 x2 (1 : Int32) (((1 : Int32) <<< (x0 &&& 31)) - (1 : Int32)) hc) (va_cwS 3 hts gX7_isRegister_X7_in rfl rfl rfl (by decide +kernel) ⟨Nat.le_of_ble_eq_true rfl, Nat.le_of_ble_eq_true rfl⟩) (ch_pS hw) rfl rfl hl.1 rfl (lv_room (Nat.le_of_ble_eq_true rfl)) dX7_isRegister_37 ⟨Nat.le_refl 0, Nat.le_refl 0⟩) (fun H locs hw => ?_)
        refine ch_if_eq (tgt := 47) hx hb dX7_isRegister_40 (by decide) h (fun h => ?_) (fun h => ?_)
        · refine lv_iconst (v := (0 : Int32)) hx hb dX7_isRegister_47 (by decide) ?_
          exact fin _ _ _ _ _ _ rfl h hw dX7_isRegister_48
        · refine lv_iconst (v := (1 : Int32)) hx hb dX7_isRegister_43 (by decide) ?_
          refine lv_goto (tgt := 48) hx hb dX7_isRegister_44 (by decide) ?_
          exact fin _ _ _ _ _ _ rfl h hw dX7_isRegister_48
set_option maxHeartbeats 4000000 in
set_option maxRecDepth 100000 in
theorem c_X7_isRegister (l : Launch) (D : va_G) (I : ch_Id) (sh : Nat → Nat) (sz : Nat) (M : ch_Mem)  (x0 : Int32) (x1 : Int32) (x2 : Int32) {r : Int32} {M1 : ch_Mem} (h : D_X7_isRegister x0 x1 x2 M = some (r, M1)) : Met l yX7_isRegister wsX7_isRegister rm_X7_isRegister (va_Pc [.int x0, .int x1, .int x2] (ch_Pre D I 13 (ch_FM I sh) sh sz M)) (va_Qi (fun r' (u : ch_Mem) => r' = r ∧ u = M1) (ch_Pos D 13 (ch_FM I sh) sh) (ch_A 13 sh sz)) 0 0 (ch_A 13 sh sz) := by
  refine Met.ofW (cc := cX7_isRegister) (maxL := 3) (ret := (some .boolean)) (by decide) rfl ?_
  intro p e s m args below meth c s₁ B hml hv0
  obtain ⟨rfl, hv0⟩ := hv0
  obtain rfl : s.heap.size = sz := hv0.1
  have hw := ch_start hv0
  have S : CallFix p m c cX7_isRegister 3 s _ wsX7_isRegister RX7 := ⟨B.exec, B.bytes, hml, findClass_of_methodNamed B.named, atoms_spec (ws := wsX7_isRegister) B.pre⟩
  have hl := lv_entry ([.int x0, .int x1, .int x2]) (n := 3) (Nat.le_of_ble_eq_true rfl)
  rw [lg_entry_eq]
  generalize (lg_sl ([.int x0, .int x1, .int x2]) ++ List.replicate (3 - (lg_sl ([.int x0, .int x1, .int x2])).length) Slot.unset).toArray = ls at hl ⊢
  exact t_X7_isRegister_0 S (ch_finZ B.exec B.bytes B.returns B.notSynchronized) h hw (lv_sub hl [0, 1, 2] rfl)
set_option maxHeartbeats 4000000 in
set_option maxRecDepth 100000 in
theorem t_X7_keeps_9 {p : Program} {l : Launch} {e : Env} {s : State} {m : MethodId} {args : Array Value} {below : List Frame} {meth : Method} {c : Code} {Q : State → Prop} {D : va_G} {I : ch_Id} {sh : Nat → Nat} {A : Nat → Prop} {oo : Unit × ch_Mem}    {k9 : Int32 → Int32 → Int32 → ch_Mem → Option (Unit × ch_Mem)} (S : CallFix p m c cX7_keeps 4 s args wsX7_keeps RX7) (fin : ch_FinV p l e rm_X7_keeps s m args below meth c cX7_keeps Q D I 13 (ch_FM I sh) sh A oo) (hk9 : ∀ (x1 : Int32) (x2 : Int32) (x3 : Int32) (M : ch_Mem) (H : Heap) (locs : List Loc) (ls : Array Slot), k9 x1 x2 x3 M = some oo → ch_Wd D I 13 (ch_FM I sh) sh s A M H locs → lv_has ls 4 [(0, .ref (sh 0)), (1, .int x1), (2, .int x2), (3, .int x3)] → W p l e rm_X7_keeps s m args below meth c H locs 0 0 Q (F0 m 9 ls [])) {x1 : Int32} {x2 : Int32} {x3 : Int32}  {M : ch_Mem} {H : Heap} {locs : List Loc} {ls : Array Slot} (h : D_X7_keeps_b9 k9 x1 x2 x3 M = some oo) (hw : ch_Wd D I 13 (ch_FM I sh) sh s A M H locs) (hl : lv_has ls 4 [(0, .ref (sh 0)), (1, .int x1), (2, .int x2), (3, .int x3)]) : W p l e rm_X7_keeps s m args below meth c H locs 0 0 Q (F0 m 9 ls []) := by
  obtain ⟨hx, hb, hml, hown, hts⟩ := id S
  unfold D_X7_keeps_b9 at h
  refine lv_iload_n hx hb dX7_keeps_9 rfl (lv_at hl 3 rfl) ?_
  refine lv_iload_n hx hb dX7_keeps_10 rfl (lv_at hl 2 rfl) ?_
  refine ch_icmp_ge (tgt := 37) hx hb dX7_keeps_11 (by decide) h (fun h => ?_) (fun h => ?_)
  · exact fin _ _ _ _ _ h hw dX7_keeps_37
  · refine lv_aload_n hx hb dX7_keeps_14 rfl (lv_at hl 0 rfl) ?_
    refine ch_get S hw 0 (by decide) rfl rfl (by decide +kernel) 1 (by decide) (hts (.fieldLink RX7 13 "CodeHuntModel" "signs" "[I") (by decide +kernel)) rfl dX7_keeps_15 ?_
    refine lv_bipush (v := (127 : Int32)) hx hb dX7_keeps_18 (by decide) ?_
    refine lv_iload_n hx hb dX7_keeps_20 rfl (lv_at hl 1 rfl) ?_
    refine lv_imul hx hb dX7_keeps_21 ?_
    refine lv_iload_n hx hb dX7_keeps_22 rfl (lv_at hl 3 rfl) ?_
    refine lv_iadd hx hb dX7_keeps_23 ?_
    refine lv_aload_n hx hb dX7_keeps_24 rfl (lv_at hl 0 rfl) ?_
    refine ch_get S hw 0 (by decide) rfl rfl (by decide +kernel) 2 (by decide) (hts (.fieldLink RX7 16 "CodeHuntModel" "made" "[I") (by decide +kernel)) rfl dX7_keeps_25 ?_
    refine lv_iload_n hx hb dX7_keeps_28 rfl (lv_at hl 3 rfl) ?_
    refine ch_gd_k h (fun hin h => ?_)
    refine ch_iald S hw 3 (by decide) rfl hin dX7_keeps_29 ?_
    refine ch_gd_k h (fun hin h => ?_)
    refine ch_iast S hw 2 (by decide) (fun _ => rfl) hin dX7_keeps_30 (fun H locs hw => ?_)
    refine lv_iinc (v := x3 + (1 : Int32)) (lv' := [(3, .int (x3 + (1 : Int32))), (0, .ref (sh 0)), (1, .int x1), (2, .int x2)]) hx hb dX7_keeps_31 hl (k := 3) rfl rfl (by decide) rfl (fun ls hl => ?_)
    refine lv_goto (tgt := 9) hx hb dX7_keeps_34 (by decide) ?_
    exact hk9 _ _ _ _ _ _ _  h hw (lv_sub hl [1, 2, 3, 0] rfl)
set_option maxHeartbeats 4000000 in
set_option maxRecDepth 100000 in
theorem tl_X7_keeps_9 {p : Program} {l : Launch} {e : Env} {s : State} {m : MethodId} {args : Array Value} {below : List Frame} {meth : Method} {c : Code} {Q : State → Prop} {D : va_G} {I : ch_Id} {sh : Nat → Nat} {A : Nat → Prop} {oo : Unit × ch_Mem}     (S : CallFix p m c cX7_keeps 4 s args wsX7_keeps RX7) (fin : ch_FinV p l e rm_X7_keeps s m args below meth c cX7_keeps Q D I 13 (ch_FM I sh) sh A oo)  (n : Nat) : ∀ (x1 : Int32) (x2 : Int32) (x3 : Int32) (M : ch_Mem) (H : Heap) (locs : List Loc) (ls : Array Slot), D_X7_keeps_L9  n x1 x2 x3 M = some oo → ch_Wd D I 13 (ch_FM I sh) sh s A M H locs → lv_has ls 4 [(0, .ref (sh 0)), (1, .int x1), (2, .int x2), (3, .int x3)] → W p l e rm_X7_keeps s m args below meth c H locs 0 0 Q (F0 m 9 ls []) := by
  induction n with
  | zero => intro x1 x2 x3 M H locs ls  h; cases h
  | succ n ih =>
    intro x1 x2 x3 M H locs ls  h hw hl
    exact t_X7_keeps_9 S fin ih h hw hl
set_option maxHeartbeats 4000000 in
set_option maxRecDepth 100000 in
theorem t_X7_keeps_0 {p : Program} {l : Launch} {e : Env} {s : State} {m : MethodId} {args : Array Value} {below : List Frame} {meth : Method} {c : Code} {Q : State → Prop} {D : va_G} {I : ch_Id} {sh : Nat → Nat} {A : Nat → Prop} {oo : Unit × ch_Mem}     (S : CallFix p m c cX7_keeps 4 s args wsX7_keeps RX7) (fin : ch_FinV p l e rm_X7_keeps s m args below meth c cX7_keeps Q D I 13 (ch_FM I sh) sh A oo)  {x1 : Int32} {x2 : Int32}  {M : ch_Mem} {H : Heap} {locs : List Loc} {ls : Array Slot} (h : D_X7_keeps x1 x2 M = some oo) (hw : ch_Wd D I 13 (ch_FM I sh) sh s A M H locs) (hl : lv_has ls 4 [(0, .ref (sh 0)), (1, .int x1), (2, .int x2)]) : W p l e rm_X7_keeps s m args below meth c H locs 0 0 Q (F0 m 0 ls []) := by
  obtain ⟨hx, hb, hml, hown, hts⟩ := id S
  unfold D_X7_keeps at h
  refine lv_aload_n hx hb dX7_keeps_0 rfl (lv_at hl 0 rfl) ?_
  refine ch_get S hw 0 (by decide) rfl rfl (by decide +kernel) 0 (by decide) (hts (.fieldLink RX7 7 "CodeHuntModel" "sizesOf" "[I") (by decide +kernel)) rfl dX7_keeps_1 ?_
  refine lv_iload_n hx hb dX7_keeps_4 rfl (lv_at hl 1 rfl) ?_
  refine lv_iload_n hx hb dX7_keeps_5 rfl (lv_at hl 2 rfl) ?_
  refine ch_gd_k h (fun hin h => ?_)
  refine ch_iast S hw 1 (by decide) (fun _ => rfl) hin dX7_keeps_6 (fun H locs hw => ?_)
  refine lv_iconst (v := (0 : Int32)) hx hb dX7_keeps_7 (by decide) ?_
  refine lv_istore_n (lv' := [(3, .int (0 : Int32)), (0, .ref (sh 0)), (1, .int x1), (2, .int x2)]) hx hb dX7_keeps_8 rfl hl (by decide) rfl (fun ls hl => ?_)
  exact tl_X7_keeps_9 S fin ch_fu _ _ _ _ _ _ _ h hw (lv_sub hl [1, 2, 3, 0] rfl)
set_option maxHeartbeats 4000000 in
set_option maxRecDepth 100000 in
theorem c_X7_keeps (l : Launch) (D : va_G) (I : ch_Id) (sh : Nat → Nat) (sz : Nat) (M : ch_Mem)  (x1 : Int32) (x2 : Int32) {M1 : ch_Mem} (h : D_X7_keeps x1 x2 M = some ((), M1)) : Met l yX7_keeps wsX7_keeps rm_X7_keeps (va_Pc [.ref (sh 0), .int x1, .int x2] (ch_Pre D I 13 (ch_FM I sh) sh sz M)) (va_Qv (fun (u : ch_Mem) => u = M1) (ch_Pos D 13 (ch_FM I sh) sh) (ch_A 13 sh sz)) 0 0 (ch_A 13 sh sz) := by
  refine Met.ofW (cc := cX7_keeps) (maxL := 4) (ret := none) (by decide) rfl ?_
  intro p e s m args below meth c s₁ B hml hv0
  obtain ⟨rfl, hv0⟩ := hv0
  obtain rfl : s.heap.size = sz := hv0.1
  have hw := ch_start hv0
  have S : CallFix p m c cX7_keeps 4 s _ wsX7_keeps RX7 := ⟨B.exec, B.bytes, hml, findClass_of_methodNamed B.named, atoms_spec (ws := wsX7_keeps) B.pre⟩
  have hl := lv_entry ([.ref (sh 0), .int x1, .int x2]) (n := 4) (Nat.le_of_ble_eq_true rfl)
  rw [lg_entry_eq]
  generalize (lg_sl ([.ref (sh 0), .int x1, .int x2]) ++ List.replicate (4 - (lg_sl ([.ref (sh 0), .int x1, .int x2])).length) Slot.unset).toArray = ls at hl ⊢
  exact t_X7_keeps_0 S (ch_finV B.exec B.bytes B.returns B.notSynchronized) h hw (lv_sub hl [0, 1, 2] rfl)
set_option maxHeartbeats 4000000 in
set_option maxRecDepth 100000 in
theorem t_X7_join_92 {p : Program} {l : Launch} {e : Env} {s : State} {m : MethodId} {args : Array Value} {below : List Frame} {meth : Method} {c : Code} {Q : State → Prop} {D : va_G} {I : ch_Id} {sh : Nat → Nat} {A : Nat → Prop} {oo : Int32 × ch_Mem}     (S : CallFix p m c cX7_join 7 s args wsX7_join RX7) (fin : ch_FinI p l e rm_X7_join s m args below meth c cX7_join Q D I 13 (ch_FM I sh) sh A oo)  {x4 : Int32} {x5 : Int32}  {M : ch_Mem} {H : Heap} {locs : List Loc} {ls : Array Slot} (h : D_X7_join_b92 x4 x5 M = some oo) (hw : ch_Wd D I 13 (ch_FM I sh) sh s A M H locs) (hl : lv_has ls 7 [(0, .ref (sh 0)), (4, .int x4), (5, .int x5)]) : W p l e rm_X7_join s m args below meth c H locs 0 0 Q (F0 m 92 ls []) := by
  obtain ⟨hx, hb, hml, hown, hts⟩ := id S
  unfold D_X7_join_b92 at h
  refine lv_aload_n hx hb dX7_join_92 rfl (lv_at hl 0 rfl) ?_
  refine lv_iload hx hb dX7_join_93 (lv_at hl 1 rfl) ?_
  refine lv_iload hx hb dX7_join_95 (lv_at hl 2 rfl) ?_
  refine ch_bd_k h (fun r1 M2 hc h => ?_)
  cases r1
  refine ch_cv hw (va_runV (As := [.int x4, .int x5]) (rest := []) S (c_X7_keeps l D I sh H.size M x4 x5 hc) (cwV 2 hts gX7_join_X7_keeps rfl rfl rfl (by decide +kernel) ⟨Nat.le_of_ble_eq_true rfl, Nat.le_of_ble_eq_true rfl⟩) (ch_pV hw (by decide) rfl rfl rfl) rfl rfl hl.1 rfl (lv_room (Nat.le_of_ble_eq_true rfl)) dX7_join_97 ⟨Nat.le_refl 0, Nat.le_refl 0⟩) (fun H locs hw => ?_)
  refine lv_iload hx hb dX7_join_100 (lv_at hl 2 rfl) ?_
  exact fin _ _ _ _ _ _ h hw dX7_join_102
set_option maxHeartbeats 4000000 in
set_option maxRecDepth 100000 in
theorem t_X7_join_55 {p : Program} {l : Launch} {e : Env} {s : State} {m : MethodId} {args : Array Value} {below : List Frame} {meth : Method} {c : Code} {Q : State → Prop} {D : va_G} {I : ch_Id} {sh : Nat → Nat} {A : Nat → Prop} {oo : Int32 × ch_Mem}    {k55 : Int32 → Int32 → Int32 → Int32 → Int32 → Int32 → ch_Mem → Option (Int32 × ch_Mem)} (S : CallFix p m c cX7_join 7 s args wsX7_join RX7) (fin : ch_FinI p l e rm_X7_join s m args below meth c cX7_join Q D I 13 (ch_FM I sh) sh A oo) (hk55 : ∀ (x1 : Int32) (x2 : Int32) (x3 : Int32) (x4 : Int32) (x5 : Int32) (x6 : Int32) (M : ch_Mem) (H : Heap) (locs : List Loc) (ls : Array Slot), k55 x1 x2 x3 x4 x5 x6 M = some oo → ch_Wd D I 13 (ch_FM I sh) sh s A M H locs → lv_has ls 7 [(0, .ref (sh 0)), (1, .int x1), (2, .int x2), (3, .int x3), (4, .int x4), (5, .int x5), (6, .int x6)] → W p l e rm_X7_join s m args below meth c H locs 0 0 Q (F0 m 55 ls [])) {x1 : Int32} {x2 : Int32} {x3 : Int32} {x4 : Int32} {x5 : Int32} {x6 : Int32}  {M : ch_Mem} {H : Heap} {locs : List Loc} {ls : Array Slot} (h : D_X7_join_b55 k55 x1 x2 x3 x4 x5 x6 M = some oo) (hw : ch_Wd D I 13 (ch_FM I sh) sh s A M H locs) (hl : lv_has ls 7 [(0, .ref (sh 0)), (1, .int x1), (2, .int x2), (3, .int x3), (4, .int x4), (5, .int x5), (6, .int x6)]) : W p l e rm_X7_join s m args below meth c H locs 0 0 Q (F0 m 55 ls []) := by
  obtain ⟨hx, hb, hml, hown, hts⟩ := id S
  unfold D_X7_join_b55 at h
  refine lv_iload hx hb dX7_join_55 (lv_at hl 6 rfl) ?_
  refine lv_iload hx hb dX7_join_57 (lv_at hl 5 rfl) ?_
  refine ch_icmp_ge (tgt := 92) hx hb dX7_join_59 (by decide) h (fun h => ?_) (fun h => ?_)
  · exact t_X7_join_92 S fin h hw (lv_sub hl [0, 4, 5] rfl)
  · refine lv_aload_n hx hb dX7_join_62 rfl (lv_at hl 0 rfl) ?_
    refine ch_get S hw 0 (by decide) rfl rfl (by decide +kernel) 2 (by decide) (hts (.fieldLink RX7 16 "CodeHuntModel" "made" "[I") (by decide +kernel)) rfl dX7_join_63 ?_
    refine lv_iload hx hb dX7_join_66 (lv_at hl 6 rfl) ?_
    refine lv_aload_n hx hb dX7_join_68 rfl (lv_at hl 0 rfl) ?_
    refine lv_iload_n hx hb dX7_join_69 rfl (lv_at hl 1 rfl) ?_
    refine lv_iload hx hb dX7_join_70 (lv_at hl 6 rfl) ?_
    refine ch_bd_k h (fun r1 M2 hc h => ?_)
    refine ch_ci hw (va_runV (As := [.int x1, .int x6]) (rest := [.int x6, .ref (sh 3)]) S (c_X7_signOf l D I sh H.size M x1 x6 hc) (cwV 2 hts gX7_join_X7_signOf rfl rfl rfl (by decide +kernel) ⟨Nat.le_of_ble_eq_true rfl, Nat.le_of_ble_eq_true rfl⟩) (ch_pV hw (by decide) rfl rfl rfl) rfl rfl hl.1 rfl (lv_room (Nat.le_of_ble_eq_true rfl)) dX7_join_72 ⟨Nat.le_refl 0, Nat.le_refl 0⟩) (fun H locs hw => ?_)
    refine lv_aload_n hx hb dX7_join_75 rfl (lv_at hl 0 rfl) ?_
    refine lv_iload_n hx hb dX7_join_76 rfl (lv_at hl 2 rfl) ?_
    refine lv_iload hx hb dX7_join_77 (lv_at hl 6 rfl) ?_
    refine lv_iload_n hx hb dX7_join_79 rfl (lv_at hl 3 rfl) ?_
    refine lv_iadd hx hb dX7_join_80 ?_
    refine ch_bd_k h (fun r3 M4 hc h => ?_)
    refine ch_ci hw (va_runV (As := [.int x2, .int (x6 + x3)]) (rest := [.int r1, .int x6, .ref (sh 3)]) S (c_X7_signOf l D I sh H.size M2 x2 (x6 + x3) hc) (cwV 2 hts gX7_join_X7_signOf rfl rfl rfl (by decide +kernel) ⟨Nat.le_of_ble_eq_true rfl, Nat.le_of_ble_eq_true rfl⟩) (ch_pV hw (by decide) rfl rfl rfl) rfl rfl hl.1 rfl (lv_room (Nat.le_of_ble_eq_true rfl)) dX7_join_81 ⟨Nat.le_refl 0, Nat.le_refl 0⟩) (fun H locs hw => ?_)
    refine lv_imul hx hb dX7_join_84 ?_
    refine ch_gd_k h (fun hin h => ?_)
    refine ch_iast S hw 3 (by decide) (fun _ => rfl) hin dX7_join_85 (fun H locs hw => ?_)
    refine lv_iinc (v := x6 + (1 : Int32)) (lv' := [(6, .int (x6 + (1 : Int32))), (0, .ref (sh 0)), (1, .int x1), (2, .int x2), (3, .int x3), (4, .int x4), (5, .int x5)]) hx hb dX7_join_86 hl (k := 6) rfl rfl (by decide) rfl (fun ls hl => ?_)
    refine lv_goto (tgt := 55) hx hb dX7_join_89 (by decide) ?_
    exact hk55 _ _ _ _ _ _ _ _ _ _  h hw (lv_sub hl [1, 2, 3, 4, 5, 6, 0] rfl)
set_option maxHeartbeats 4000000 in
set_option maxRecDepth 100000 in
theorem tl_X7_join_55 {p : Program} {l : Launch} {e : Env} {s : State} {m : MethodId} {args : Array Value} {below : List Frame} {meth : Method} {c : Code} {Q : State → Prop} {D : va_G} {I : ch_Id} {sh : Nat → Nat} {A : Nat → Prop} {oo : Int32 × ch_Mem}     (S : CallFix p m c cX7_join 7 s args wsX7_join RX7) (fin : ch_FinI p l e rm_X7_join s m args below meth c cX7_join Q D I 13 (ch_FM I sh) sh A oo)  (n : Nat) : ∀ (x1 : Int32) (x2 : Int32) (x3 : Int32) (x4 : Int32) (x5 : Int32) (x6 : Int32) (M : ch_Mem) (H : Heap) (locs : List Loc) (ls : Array Slot), D_X7_join_L55  n x1 x2 x3 x4 x5 x6 M = some oo → ch_Wd D I 13 (ch_FM I sh) sh s A M H locs → lv_has ls 7 [(0, .ref (sh 0)), (1, .int x1), (2, .int x2), (3, .int x3), (4, .int x4), (5, .int x5), (6, .int x6)] → W p l e rm_X7_join s m args below meth c H locs 0 0 Q (F0 m 55 ls []) := by
  induction n with
  | zero => intro x1 x2 x3 x4 x5 x6 M H locs ls  h; cases h
  | succ n ih =>
    intro x1 x2 x3 x4 x5 x6 M H locs ls  h hw hl
    exact t_X7_join_55 S fin ih h hw hl
set_option maxHeartbeats 4000000 in
set_option maxRecDepth 100000 in
theorem t_X7_join_0 {p : Program} {l : Launch} {e : Env} {s : State} {m : MethodId} {args : Array Value} {below : List Frame} {meth : Method} {c : Code} {Q : State → Prop} {D : va_G} {I : ch_Id} {sh : Nat → Nat} {A : Nat → Prop} {oo : Int32 × ch_Mem}     (S : CallFix p m c cX7_join 7 s args wsX7_join RX7) (fin : ch_FinI p l e rm_X7_join s m args below meth c cX7_join Q D I 13 (ch_FM I sh) sh A oo)  {x1 : Int32} {x2 : Int32} {x3 : Int32} {x4 : Int32}  {M : ch_Mem} {H : Heap} {locs : List Loc} {ls : Array Slot} (h : D_X7_join x1 x2 x3 x4 M = some oo) (hw : ch_Wd D I 13 (ch_FM I sh) sh s A M H locs) (hl : lv_has ls 7 [(0, .ref (sh 0)), (1, .int x1), (2, .int x2), (3, .int x3), (4, .int x4)]) : W p l e rm_X7_join s m args below meth c H locs 0 0 Q (F0 m 0 ls []) := by
  obtain ⟨hx, hb, hml, hown, hts⟩ := id S
  unfold D_X7_join at h
  refine lv_iload_n hx hb dX7_join_0 rfl (lv_at hl 1 rfl) ?_
  refine ch_bd_k h (fun r1 M2 hc h => ?_)
  refine ch_ci hw (va_runS (As := [.int x1]) (rest := []) S (c_X7_isRow l D I sh H.size M x1 hc) (va_cwS 1 hts gX7_join_X7_isRow rfl rfl rfl (by decide +kernel) ⟨Nat.le_of_ble_eq_true rfl, Nat.le_of_ble_eq_true rfl⟩) (ch_pS hw) rfl rfl hl.1 rfl (lv_room (Nat.le_of_ble_eq_true rfl)) dX7_join_1 ⟨Nat.le_refl 0, Nat.le_refl 0⟩) (fun H locs hw => ?_)
  refine ch_if_eq (tgt := 29) hx hb dX7_join_4 (by decide) h (fun h => ?_) (fun h => ?_)
  · refine lv_bipush (v := (-2 : Int32)) hx hb dX7_join_29 (by decide) ?_
    exact fin _ _ _ _ _ _ h hw dX7_join_31
  · refine lv_iload_n hx hb dX7_join_7 rfl (lv_at hl 2 rfl) ?_
    refine ch_bd_k h (fun r3 M4 hc h => ?_)
    refine ch_ci hw (va_runS (As := [.int x2]) (rest := []) S (c_X7_isRow l D I sh H.size M2 x2 hc) (va_cwS 1 hts gX7_join_X7_isRow rfl rfl rfl (by decide +kernel) ⟨Nat.le_of_ble_eq_true rfl, Nat.le_of_ble_eq_true rfl⟩) (ch_pS hw) rfl rfl hl.1 rfl (lv_room (Nat.le_of_ble_eq_true rfl)) dX7_join_8 ⟨Nat.le_refl 0, Nat.le_refl 0⟩) (fun H locs hw => ?_)
    refine ch_if_eq (tgt := 29) hx hb dX7_join_11 (by decide) h (fun h => ?_) (fun h => ?_)
    · refine lv_bipush (v := (-2 : Int32)) hx hb dX7_join_29 (by decide) ?_
      exact fin _ _ _ _ _ _ h hw dX7_join_31
    · refine lv_iload_n hx hb dX7_join_14 rfl (lv_at hl 3 rfl) ?_
      refine ch_bd_k h (fun r5 M6 hc h => ?_)
      refine ch_ci hw (va_runS (As := [.int x3]) (rest := []) S (c_X7_isShift l D I sh H.size M4 x3 hc) (va_cwS 1 hts gX7_join_X7_isShift rfl rfl rfl (by decide +kernel) ⟨Nat.le_of_ble_eq_true rfl, Nat.le_of_ble_eq_true rfl⟩) (ch_pS hw) rfl rfl hl.1 rfl (lv_room (Nat.le_of_ble_eq_true rfl)) dX7_join_15 ⟨Nat.le_refl 0, Nat.le_refl 0⟩) (fun H locs hw => ?_)
      refine ch_if_eq (tgt := 29) hx hb dX7_join_18 (by decide) h (fun h => ?_) (fun h => ?_)
      · refine lv_bipush (v := (-2 : Int32)) hx hb dX7_join_29 (by decide) ?_
        exact fin _ _ _ _ _ _ h hw dX7_join_31
      · refine lv_iload hx hb dX7_join_21 (lv_at hl 4 rfl) ?_
        refine ch_bd_k h (fun r7 M8 hc h => ?_)
        refine ch_ci hw (va_runS (As := [.int x4]) (rest := []) S (c_X7_isRow l D I sh H.size M6 x4 hc) (va_cwS 1 hts gX7_join_X7_isRow rfl rfl rfl (by decide +kernel) ⟨Nat.le_of_ble_eq_true rfl, Nat.le_of_ble_eq_true rfl⟩) (ch_pS hw) rfl rfl hl.1 rfl (lv_room (Nat.le_of_ble_eq_true rfl)) dX7_join_23 ⟨Nat.le_refl 0, Nat.le_refl 0⟩) (fun H locs hw => ?_)
        refine ch_if_ne (tgt := 32) hx hb dX7_join_26 (by decide) h (fun h => ?_) (fun h => ?_)
        · refine lv_aload_n hx hb dX7_join_32 rfl (lv_at hl 0 rfl) ?_
          refine lv_iload_n hx hb dX7_join_33 rfl (lv_at hl 1 rfl) ?_
          refine lv_iload_n hx hb dX7_join_34 rfl (lv_at hl 2 rfl) ?_
          refine ch_bd_k h (fun r9 M10 hc h => ?_)
          refine ch_ci hw (va_runV (As := [.int x1, .int x2]) (rest := []) S (c_X7_arePair l D I sh H.size M8 x1 x2 hc) (cwV 2 hts gX7_join_X7_arePair rfl rfl rfl (by decide +kernel) ⟨Nat.le_of_ble_eq_true rfl, Nat.le_of_ble_eq_true rfl⟩) (ch_pV hw (by decide) rfl rfl rfl) rfl rfl hl.1 rfl (lv_room (Nat.le_of_ble_eq_true rfl)) dX7_join_35 ⟨Nat.le_refl 0, Nat.le_refl 0⟩) (fun H locs hw => ?_)
          refine ch_if_ne (tgt := 44) hx hb dX7_join_38 (by decide) h (fun h => ?_) (fun h => ?_)
          · refine lv_aload_n hx hb dX7_join_44 rfl (lv_at hl 0 rfl) ?_
            refine ch_get S hw 0 (by decide) rfl rfl (by decide +kernel) 0 (by decide) (hts (.fieldLink RX7 7 "CodeHuntModel" "sizesOf" "[I") (by decide +kernel)) rfl dX7_join_45 ?_
            refine lv_iload_n hx hb dX7_join_48 rfl (lv_at hl 1 rfl) ?_
            refine ch_gd_k h (fun hin h => ?_)
            refine ch_iald S hw 1 (by decide) rfl hin dX7_join_49 ?_
            refine lv_istore (lv' := [(5, .int (M10.1 1 x1.toNatClampNeg)), (0, .ref (sh 0)), (1, .int x1), (2, .int x2), (3, .int x3), (4, .int x4)]) hx hb dX7_join_50 hl (by decide) rfl (fun ls hl => ?_)
            refine lv_iconst (v := (0 : Int32)) hx hb dX7_join_52 (by decide) ?_
            refine lv_istore (lv' := [(6, .int (0 : Int32)), (5, .int (M10.1 1 x1.toNatClampNeg)), (0, .ref (sh 0)), (1, .int x1), (2, .int x2), (3, .int x3), (4, .int x4)]) hx hb dX7_join_53 hl (by decide) rfl (fun ls hl => ?_)
            exact tl_X7_join_55 S fin ch_fu _ _ _ _ _ _ _ _ _ _ h hw (lv_sub hl [2, 3, 4, 5, 6, 1, 0] rfl)
          · refine lv_bipush (v := (-3 : Int32)) hx hb dX7_join_41 (by decide) ?_
            exact fin _ _ _ _ _ _ h hw dX7_join_43
        · refine lv_bipush (v := (-2 : Int32)) hx hb dX7_join_29 (by decide) ?_
          exact fin _ _ _ _ _ _ h hw dX7_join_31
set_option maxHeartbeats 4000000 in
set_option maxRecDepth 100000 in
theorem c_X7_join (l : Launch) (D : va_G) (I : ch_Id) (sh : Nat → Nat) (sz : Nat) (M : ch_Mem)  (x1 : Int32) (x2 : Int32) (x3 : Int32) (x4 : Int32) {r : Int32} {M1 : ch_Mem} (h : D_X7_join x1 x2 x3 x4 M = some (r, M1)) : Met l yX7_join wsX7_join rm_X7_join (va_Pc [.ref (sh 0), .int x1, .int x2, .int x3, .int x4] (ch_Pre D I 13 (ch_FM I sh) sh sz M)) (va_Qi (fun r' (u : ch_Mem) => r' = r ∧ u = M1) (ch_Pos D 13 (ch_FM I sh) sh) (ch_A 13 sh sz)) 0 0 (ch_A 13 sh sz) := by
  refine Met.ofW (cc := cX7_join) (maxL := 7) (ret := (some .int)) (by decide) rfl ?_
  intro p e s m args below meth c s₁ B hml hv0
  obtain ⟨rfl, hv0⟩ := hv0
  obtain rfl : s.heap.size = sz := hv0.1
  have hw := ch_start hv0
  have S : CallFix p m c cX7_join 7 s _ wsX7_join RX7 := ⟨B.exec, B.bytes, hml, findClass_of_methodNamed B.named, atoms_spec (ws := wsX7_join) B.pre⟩
  have hl := lv_entry ([.ref (sh 0), .int x1, .int x2, .int x3, .int x4]) (n := 7) (Nat.le_of_ble_eq_true rfl)
  rw [lg_entry_eq]
  generalize (lg_sl ([.ref (sh 0), .int x1, .int x2, .int x3, .int x4]) ++ List.replicate (7 - (lg_sl ([.ref (sh 0), .int x1, .int x2, .int x3, .int x4])).length) Slot.unset).toArray = ls at hl ⊢
  exact t_X7_join_0 S (ch_finI (B := fun _ => True) B.exec B.bytes B.returns B.notSynchronized) h hw (lv_sub hl [0, 1, 2, 3, 4] rfl)
set_option maxHeartbeats 4000000 in
set_option maxRecDepth 100000 in
theorem t_X7_length_57 {p : Program} {l : Launch} {e : Env} {s : State} {m : MethodId} {args : Array Value} {below : List Frame} {meth : Method} {c : Code} {Q : State → Prop} {D : va_G} {I : ch_Id} {sh : Nat → Nat} {A : Nat → Prop} {oo : Int32 × ch_Mem}     (S : CallFix p m c cX7_length 4 s args wsX7_length RX7) (fin : ch_FinI p l e rm_X7_length s m args below meth c cX7_length Q D I 13 (ch_FM I sh) sh A oo)  {x1 : Int32} {x2 : Int32}  {M : ch_Mem} {H : Heap} {locs : List Loc} {ls : Array Slot} (h : D_X7_length_b57 x1 x2 M = some oo) (hw : ch_Wd D I 13 (ch_FM I sh) sh s A M H locs) (hl : lv_has ls 4 [(0, .ref (sh 0)), (1, .int x1), (2, .int x2)]) : W p l e rm_X7_length s m args below meth c H locs 0 0 Q (F0 m 57 ls []) := by
  obtain ⟨hx, hb, hml, hown, hts⟩ := id S
  unfold D_X7_length_b57 at h
  refine lv_aload_n hx hb dX7_length_57 rfl (lv_at hl 0 rfl) ?_
  refine ch_get S hw 0 (by decide) rfl rfl (by decide +kernel) 10 (by decide) (hts (.fieldLink RX7 134 "CodeHuntModel" "lengths" "I") (by decide +kernel)) rfl dX7_length_58 ?_
  refine lv_iconst (v := (5 : Int32)) hx hb dX7_length_61 (by decide) ?_
  refine ch_icmp_ne (tgt := 68) hx hb dX7_length_62 (by decide) h (fun h => ?_) (fun h => ?_)
  · refine lv_aload_n hx hb dX7_length_68 rfl (lv_at hl 0 rfl) ?_
    refine ch_get S hw 0 (by decide) rfl rfl (by decide +kernel) 11 (by decide) (hts (.fieldLink RX7 29 "CodeHuntModel" "lengthOf" "[I") (by decide +kernel)) rfl dX7_length_69 ?_
    refine lv_aload_n hx hb dX7_length_72 rfl (lv_at hl 0 rfl) ?_
    refine ch_get S hw 0 (by decide) rfl rfl (by decide +kernel) 10 (by decide) (hts (.fieldLink RX7 134 "CodeHuntModel" "lengths" "I") (by decide +kernel)) rfl dX7_length_73 ?_
    refine lv_iload_n hx hb dX7_length_76 rfl (lv_at hl 1 rfl) ?_
    refine ch_gd_k h (fun hin h => ?_)
    refine ch_iast S hw 6 (by decide) (fun _ => rfl) hin dX7_length_77 (fun H locs hw => ?_)
    refine lv_aload_n hx hb dX7_length_78 rfl (lv_at hl 0 rfl) ?_
    refine ch_get S hw 0 (by decide) rfl rfl (by decide +kernel) 12 (by decide) (hts (.fieldLink RX7 32 "CodeHuntModel" "shiftOf" "[I") (by decide +kernel)) rfl dX7_length_79 ?_
    refine lv_aload_n hx hb dX7_length_82 rfl (lv_at hl 0 rfl) ?_
    refine ch_get S hw 0 (by decide) rfl rfl (by decide +kernel) 10 (by decide) (hts (.fieldLink RX7 134 "CodeHuntModel" "lengths" "I") (by decide +kernel)) rfl dX7_length_83 ?_
    refine lv_iload_n hx hb dX7_length_86 rfl (lv_at hl 2 rfl) ?_
    refine ch_gd_k h (fun hin h => ?_)
    refine ch_iast S hw 7 (by decide) (fun _ => rfl) hin dX7_length_87 (fun H locs hw => ?_)
    refine lv_aload_n hx hb dX7_length_88 rfl (lv_at hl 0 rfl) ?_
    refine lv_dup hx hb dX7_length_89 rfl ?_
    refine ch_get S hw 0 (by decide) rfl rfl (by decide +kernel) 10 (by decide) (hts (.fieldLink RX7 134 "CodeHuntModel" "lengths" "I") (by decide +kernel)) rfl dX7_length_90 ?_
    refine lv_iconst (v := (1 : Int32)) hx hb dX7_length_93 (by decide) ?_
    refine lv_iadd hx hb dX7_length_94 ?_
    refine ch_put (M1 := ch_wI (ch_wI (ch_wI M 6 (M.1 0 10).toNatClampNeg x1) 7 ((ch_wI M 6 (M.1 0 10).toNatClampNeg x1).1 0 10).toNatClampNeg x2) 0 10 (((ch_wI (ch_wI M 6 (M.1 0 10).toNatClampNeg x1) 7 ((ch_wI M 6 (M.1 0 10).toNatClampNeg x1).1 0 10).toNatClampNeg x2).1 0 10) + (1 : Int32))) (ty := .int) S hw 0 (by decide) rfl rfl (by decide +kernel) tyX7 tyX7_ok nmX7 10 (by decide) (hts (.fieldLink RX7 134 "CodeHuntModel" "lengths" "I") (by decide +kernel)) rfl (by decide +kernel) rfl rfl (Nat.le_of_ble_eq_true rfl) (ch_cf_wI (j := 10) (v := (((ch_wI (ch_wI M 6 (M.1 0 10).toNatClampNeg x1) 7 ((ch_wI M 6 (M.1 0 10).toNatClampNeg x1).1 0 10).toNatClampNeg x2).1 0 10) + (1 : Int32))) rfl) dX7_length_95 (fun H locs hw => ?_)
    refine lv_aload_n hx hb dX7_length_98 rfl (lv_at hl 0 rfl) ?_
    refine ch_get S hw 0 (by decide) rfl rfl (by decide +kernel) 10 (by decide) (hts (.fieldLink RX7 134 "CodeHuntModel" "lengths" "I") (by decide +kernel)) rfl dX7_length_99 ?_
    exact fin _ _ _ _ _ _ h hw dX7_length_102
  · refine lv_bipush (v := (-4 : Int32)) hx hb dX7_length_65 (by decide) ?_
    exact fin _ _ _ _ _ _ h hw dX7_length_67
set_option maxHeartbeats 4000000 in
set_option maxRecDepth 100000 in
theorem t_X7_length_26 {p : Program} {l : Launch} {e : Env} {s : State} {m : MethodId} {args : Array Value} {below : List Frame} {meth : Method} {c : Code} {Q : State → Prop} {D : va_G} {I : ch_Id} {sh : Nat → Nat} {A : Nat → Prop} {oo : Int32 × ch_Mem}    {k26 : Int32 → Int32 → Int32 → ch_Mem → Option (Int32 × ch_Mem)} (S : CallFix p m c cX7_length 4 s args wsX7_length RX7) (fin : ch_FinI p l e rm_X7_length s m args below meth c cX7_length Q D I 13 (ch_FM I sh) sh A oo) (hk26 : ∀ (x1 : Int32) (x2 : Int32) (x3 : Int32) (M : ch_Mem) (H : Heap) (locs : List Loc) (ls : Array Slot), k26 x1 x2 x3 M = some oo → ch_Wd D I 13 (ch_FM I sh) sh s A M H locs → lv_has ls 4 [(0, .ref (sh 0)), (1, .int x1), (2, .int x2), (3, .int x3)] → W p l e rm_X7_length s m args below meth c H locs 0 0 Q (F0 m 26 ls [])) {x1 : Int32} {x2 : Int32} {x3 : Int32}  {M : ch_Mem} {H : Heap} {locs : List Loc} {ls : Array Slot} (h : D_X7_length_b26 k26 x1 x2 x3 M = some oo) (hw : ch_Wd D I 13 (ch_FM I sh) sh s A M H locs) (hl : lv_has ls 4 [(0, .ref (sh 0)), (1, .int x1), (2, .int x2), (3, .int x3)]) : W p l e rm_X7_length s m args below meth c H locs 0 0 Q (F0 m 26 ls []) := by
  obtain ⟨hx, hb, hml, hown, hts⟩ := id S
  unfold D_X7_length_b26 at h
  refine lv_iload_n hx hb dX7_length_26 rfl (lv_at hl 3 rfl) ?_
  refine lv_aload_n hx hb dX7_length_27 rfl (lv_at hl 0 rfl) ?_
  refine ch_get S hw 0 (by decide) rfl rfl (by decide +kernel) 10 (by decide) (hts (.fieldLink RX7 134 "CodeHuntModel" "lengths" "I") (by decide +kernel)) rfl dX7_length_28 ?_
  refine ch_icmp_ge (tgt := 57) hx hb dX7_length_31 (by decide) h (fun h => ?_) (fun h => ?_)
  · exact t_X7_length_57 S fin h hw (lv_sub hl [0, 1, 2] rfl)
  · refine lv_iload_n hx hb dX7_length_34 rfl (lv_at hl 1 rfl) ?_
    refine lv_aload_n hx hb dX7_length_35 rfl (lv_at hl 0 rfl) ?_
    refine ch_get S hw 0 (by decide) rfl rfl (by decide +kernel) 11 (by decide) (hts (.fieldLink RX7 29 "CodeHuntModel" "lengthOf" "[I") (by decide +kernel)) rfl dX7_length_36 ?_
    refine lv_iload_n hx hb dX7_length_39 rfl (lv_at hl 3 rfl) ?_
    refine ch_gd_k h (fun hin h => ?_)
    refine ch_iald S hw 6 (by decide) rfl hin dX7_length_40 ?_
    refine ch_bd_k h (fun r1 M2 hc h => ?_)
    refine ch_ci hw (va_runS (As := [.int x1, .int (M.1 6 x3.toNatClampNeg)]) (rest := []) S (c_X7_divisor l D I sh H.size M x1 (M.1 6 x3.toNatClampNeg) hc) (va_cwS 2 hts gX7_length_X7_divisor rfl rfl rfl (by decide +kernel) ⟨Nat.le_of_ble_eq_true rfl, Nat.le_of_ble_eq_true rfl⟩) (ch_pS hw) rfl rfl hl.1 rfl (lv_room (Nat.le_of_ble_eq_true rfl)) dX7_length_41 ⟨Nat.le_refl 0, Nat.le_refl 0⟩) (fun H locs hw => ?_)
    refine lv_iconst (v := (1 : Int32)) hx hb dX7_length_44 (by decide) ?_
    refine ch_icmp_le (tgt := 51) hx hb dX7_length_45 (by decide) h (fun h => ?_) (fun h => ?_)
    · refine lv_iinc (v := x3 + (1 : Int32)) (lv' := [(3, .int (x3 + (1 : Int32))), (0, .ref (sh 0)), (1, .int x1), (2, .int x2)]) hx hb dX7_length_51 hl (k := 3) rfl rfl (by decide) rfl (fun ls hl => ?_)
      refine lv_goto (tgt := 26) hx hb dX7_length_54 (by decide) ?_
      exact hk26 _ _ _ _ _ _ _  h hw (lv_sub hl [1, 2, 3, 0] rfl)
    · refine lv_bipush (v := (-2 : Int32)) hx hb dX7_length_48 (by decide) ?_
      exact fin _ _ _ _ _ _ h hw dX7_length_50
set_option maxHeartbeats 4000000 in
set_option maxRecDepth 100000 in
theorem tl_X7_length_26 {p : Program} {l : Launch} {e : Env} {s : State} {m : MethodId} {args : Array Value} {below : List Frame} {meth : Method} {c : Code} {Q : State → Prop} {D : va_G} {I : ch_Id} {sh : Nat → Nat} {A : Nat → Prop} {oo : Int32 × ch_Mem}     (S : CallFix p m c cX7_length 4 s args wsX7_length RX7) (fin : ch_FinI p l e rm_X7_length s m args below meth c cX7_length Q D I 13 (ch_FM I sh) sh A oo)  (n : Nat) : ∀ (x1 : Int32) (x2 : Int32) (x3 : Int32) (M : ch_Mem) (H : Heap) (locs : List Loc) (ls : Array Slot), D_X7_length_L26  n x1 x2 x3 M = some oo → ch_Wd D I 13 (ch_FM I sh) sh s A M H locs → lv_has ls 4 [(0, .ref (sh 0)), (1, .int x1), (2, .int x2), (3, .int x3)] → W p l e rm_X7_length s m args below meth c H locs 0 0 Q (F0 m 26 ls []) := by
  induction n with
  | zero => intro x1 x2 x3 M H locs ls  h; cases h
  | succ n ih =>
    intro x1 x2 x3 M H locs ls  h hw hl
    exact t_X7_length_26 S fin ih h hw hl
set_option maxHeartbeats 4000000 in
set_option maxRecDepth 100000 in
theorem t_X7_length_0 {p : Program} {l : Launch} {e : Env} {s : State} {m : MethodId} {args : Array Value} {below : List Frame} {meth : Method} {c : Code} {Q : State → Prop} {D : va_G} {I : ch_Id} {sh : Nat → Nat} {A : Nat → Prop} {oo : Int32 × ch_Mem}     (S : CallFix p m c cX7_length 4 s args wsX7_length RX7) (fin : ch_FinI p l e rm_X7_length s m args below meth c cX7_length Q D I 13 (ch_FM I sh) sh A oo)  {x1 : Int32} {x2 : Int32}  {M : ch_Mem} {H : Heap} {locs : List Loc} {ls : Array Slot} (h : D_X7_length x1 x2 M = some oo) (hw : ch_Wd D I 13 (ch_FM I sh) sh s A M H locs) (hl : lv_has ls 4 [(0, .ref (sh 0)), (1, .int x1), (2, .int x2)]) : W p l e rm_X7_length s m args below meth c H locs 0 0 Q (F0 m 0 ls []) := by
  obtain ⟨hx, hb, hml, hown, hts⟩ := id S
  unfold D_X7_length at h
  refine lv_iload_n hx hb dX7_length_0 rfl (lv_at hl 1 rfl) ?_
  refine lv_iconst (v := (2 : Int32)) hx hb dX7_length_1 (by decide) ?_
  refine lv_bipush (v := (127 : Int32)) hx hb dX7_length_2 (by decide) ?_
  refine ch_bd_k h (fun r1 M2 hc h => ?_)
  refine ch_ci hw (va_runS (As := [.int x1, .int (2 : Int32), .int (127 : Int32)]) (rest := []) S (c_X7_in l D I sh H.size M x1 (2 : Int32) (127 : Int32) hc) (va_cwS 3 hts gX7_length_X7_in rfl rfl rfl (by decide +kernel) ⟨Nat.le_of_ble_eq_true rfl, Nat.le_of_ble_eq_true rfl⟩) (ch_pS hw) rfl rfl hl.1 rfl (lv_room (Nat.le_of_ble_eq_true rfl)) dX7_length_4 ⟨Nat.le_refl 0, Nat.le_refl 0⟩) (fun H locs hw => ?_)
  refine ch_if_eq (tgt := 21) hx hb dX7_length_7 (by decide) h (fun h => ?_) (fun h => ?_)
  · refine lv_bipush (v := (-2 : Int32)) hx hb dX7_length_21 (by decide) ?_
    exact fin _ _ _ _ _ _ h hw dX7_length_23
  · refine lv_iload_n hx hb dX7_length_10 rfl (lv_at hl 2 rfl) ?_
    refine lv_iconst (v := (0 : Int32)) hx hb dX7_length_11 (by decide) ?_
    refine lv_iload_n hx hb dX7_length_12 rfl (lv_at hl 1 rfl) ?_
    refine lv_iconst (v := (1 : Int32)) hx hb dX7_length_13 (by decide) ?_
    refine lv_isub hx hb dX7_length_14 ?_
    refine ch_bd_k h (fun r3 M4 hc h => ?_)
    refine ch_ci hw (va_runS (As := [.int x2, .int (0 : Int32), .int (x1 - (1 : Int32))]) (rest := []) S (c_X7_in l D I sh H.size M2 x2 (0 : Int32) (x1 - (1 : Int32)) hc) (va_cwS 3 hts gX7_length_X7_in rfl rfl rfl (by decide +kernel) ⟨Nat.le_of_ble_eq_true rfl, Nat.le_of_ble_eq_true rfl⟩) (ch_pS hw) rfl rfl hl.1 rfl (lv_room (Nat.le_of_ble_eq_true rfl)) dX7_length_15 ⟨Nat.le_refl 0, Nat.le_refl 0⟩) (fun H locs hw => ?_)
    refine ch_if_ne (tgt := 24) hx hb dX7_length_18 (by decide) h (fun h => ?_) (fun h => ?_)
    · refine lv_iconst (v := (0 : Int32)) hx hb dX7_length_24 (by decide) ?_
      refine lv_istore_n (lv' := [(3, .int (0 : Int32)), (0, .ref (sh 0)), (1, .int x1), (2, .int x2)]) hx hb dX7_length_25 rfl hl (by decide) rfl (fun ls hl => ?_)
      exact tl_X7_length_26 S fin ch_fu _ _ _ _ _ _ _ h hw (lv_sub hl [1, 2, 3, 0] rfl)
    · refine lv_bipush (v := (-2 : Int32)) hx hb dX7_length_21 (by decide) ?_
      exact fin _ _ _ _ _ _ h hw dX7_length_23
set_option maxHeartbeats 4000000 in
set_option maxRecDepth 100000 in
theorem c_X7_length (l : Launch) (D : va_G) (I : ch_Id) (sh : Nat → Nat) (sz : Nat) (M : ch_Mem)  (x1 : Int32) (x2 : Int32) {r : Int32} {M1 : ch_Mem} (h : D_X7_length x1 x2 M = some (r, M1)) : Met l yX7_length wsX7_length rm_X7_length (va_Pc [.ref (sh 0), .int x1, .int x2] (ch_Pre D I 13 (ch_FM I sh) sh sz M)) (va_Qi (fun r' (u : ch_Mem) => r' = r ∧ u = M1) (ch_Pos D 13 (ch_FM I sh) sh) (ch_A 13 sh sz)) 0 0 (ch_A 13 sh sz) := by
  refine Met.ofW (cc := cX7_length) (maxL := 4) (ret := (some .int)) (by decide) rfl ?_
  intro p e s m args below meth c s₁ B hml hv0
  obtain ⟨rfl, hv0⟩ := hv0
  obtain rfl : s.heap.size = sz := hv0.1
  have hw := ch_start hv0
  have S : CallFix p m c cX7_length 4 s _ wsX7_length RX7 := ⟨B.exec, B.bytes, hml, findClass_of_methodNamed B.named, atoms_spec (ws := wsX7_length) B.pre⟩
  have hl := lv_entry ([.ref (sh 0), .int x1, .int x2]) (n := 4) (Nat.le_of_ble_eq_true rfl)
  rw [lg_entry_eq]
  generalize (lg_sl ([.ref (sh 0), .int x1, .int x2]) ++ List.replicate (4 - (lg_sl ([.ref (sh 0), .int x1, .int x2])).length) Slot.unset).toArray = ls at hl ⊢
  exact t_X7_length_0 S (ch_finI (B := fun _ => True) B.exec B.bytes B.returns B.notSynchronized) h hw (lv_sub hl [0, 1, 2] rfl)
