set_option maxHeartbeats 4000000 in
set_option maxRecDepth 100000 in
theorem t_X6_peel_67 {p : Program} {l : Launch} {e : Env} {s : State} {m : MethodId} {args : Array Value} {below : List Frame} {meth : Method} {c : Code} {Q : State → Prop} {D : va_G} {I : ch_Id} {sh : Nat → Nat} {A : Nat → Prop} {oo : Int32 × ch_Mem}     (S : CallFix p m c cX6_peel 4 s args wsX6_peel RX6) (fin : ch_FinI p l e rm_X6_peel s m args below meth c cX6_peel Q D I 40 (ch_FC I sh) sh A oo)    {M : ch_Mem} {H : Heap} {locs : List Loc} {ls : Array Slot} (h : D_X6_peel_b67  M = some oo) (hw : ch_Wd D I 40 (ch_FC I sh) sh s A M H locs) (hl : lv_has ls 4 [(0, .ref (sh 0))]) : W p l e rm_X6_peel s m args below meth c H locs 0 0 Q (F0 m 67 ls []) := by
  obtain ⟨hx, hb, hml, hown, hts⟩ := id S
  unfold D_X6_peel_b67 at h
  refine lv_aload_n hx hb dX6_peel_67 rfl (lv_at hl 0 rfl) ?_
  refine ch_get S hw 0 (by decide) rfl rfl (by decide +kernel) 4 (by decide) (hts (.fieldLink RX6 38 "CodeHunt" "peeling" "LCodeHunt$Peeling;") (by decide +kernel)) rfl dX6_peel_68 ?_
  refine lv_aload_n hx hb dX6_peel_71 rfl (lv_at hl 0 rfl) ?_
  refine ch_get S hw 0 (by decide) rfl rfl (by decide +kernel) 2 (by decide) (hts (.fieldLink RX6 24 "CodeHunt" "window" "LCodeHunt$Window;") (by decide +kernel)) rfl dX6_peel_72 ?_
  refine ch_bd_k h (fun r1 M2 hc h => ?_)
  refine ch_cl hw (va_runV (As := []) (rest := [.ref (sh 5)]) S (c_X5_squaresOfX l D I sh H.size M  hc) (cwV 0 hts gX6_peel_X5_squaresOfX rfl rfl rfl (by decide +kernel) ⟨Nat.le_of_ble_eq_true rfl, Nat.le_of_ble_eq_true rfl⟩) (ch_pV hw (by decide) rfl rfl rfl) rfl rfl hl.1 rfl (lv_room (Nat.le_of_ble_eq_true rfl)) dX6_peel_75 ⟨Nat.le_refl 0, Nat.le_refl 0⟩) (fun H locs hw => ?_)
  refine ch_putN (M1 := ch_wL M2 5 4 r1) (ty := .long) S hw 5 (by decide) rfl rfl (by decide +kernel) tyX1 tyX1_ok nmX1 4 (by decide) (ch_nw hw 13 rfl) rfl (by decide +kernel) rfl rfl (Nat.le_of_ble_eq_true rfl) (ch_cf_wL (j := 4) (v := r1) rfl) dX6_peel_78 (fun H locs hw => ?_)
  refine lv_aload_n hx hb dX6_peel_81 rfl (lv_at hl 0 rfl) ?_
  refine ch_get S hw 0 (by decide) rfl rfl (by decide +kernel) 4 (by decide) (hts (.fieldLink RX6 38 "CodeHunt" "peeling" "LCodeHunt$Peeling;") (by decide +kernel)) rfl dX6_peel_82 ?_
  refine ch_getN S hw 5 (by decide) rfl rfl (by decide +kernel) 3 (by decide) (ch_nw hw 12 rfl) rfl dX6_peel_85 ?_
  exact fin _ _ _ _ _ _ h hw dX6_peel_88
set_option maxHeartbeats 4000000 in
set_option maxRecDepth 100000 in
theorem t_X6_peel_58 {p : Program} {l : Launch} {e : Env} {s : State} {m : MethodId} {args : Array Value} {below : List Frame} {meth : Method} {c : Code} {Q : State → Prop} {D : va_G} {I : ch_Id} {sh : Nat → Nat} {A : Nat → Prop} {oo : Int32 × ch_Mem}     (S : CallFix p m c cX6_peel 4 s args wsX6_peel RX6) (fin : ch_FinI p l e rm_X6_peel s m args below meth c cX6_peel Q D I 40 (ch_FC I sh) sh A oo)    {M : ch_Mem} {H : Heap} {locs : List Loc} {ls : Array Slot} (h : D_X6_peel_b58  M = some oo) (hw : ch_Wd D I 40 (ch_FC I sh) sh s A M H locs) (hl : lv_has ls 4 [(0, .ref (sh 0))]) : W p l e rm_X6_peel s m args below meth c H locs 0 0 Q (F0 m 58 ls []) := by
  obtain ⟨hx, hb, hml, hown, hts⟩ := id S
  unfold D_X6_peel_b58 at h
  refine lv_goto (tgt := 67) hx hb dX6_peel_58 (by decide) ?_
  exact t_X6_peel_67 S fin h hw (lv_sub hl [0] rfl)
set_option maxHeartbeats 4000000 in
set_option maxRecDepth 100000 in
theorem t_X6_peel_44 {p : Program} {l : Launch} {e : Env} {s : State} {m : MethodId} {args : Array Value} {below : List Frame} {meth : Method} {c : Code} {Q : State → Prop} {D : va_G} {I : ch_Id} {sh : Nat → Nat} {A : Nat → Prop} {oo : Int32 × ch_Mem}    {k44 : Int32 → Int32 → ch_Mem → Option (Int32 × ch_Mem)} (S : CallFix p m c cX6_peel 4 s args wsX6_peel RX6) (fin : ch_FinI p l e rm_X6_peel s m args below meth c cX6_peel Q D I 40 (ch_FC I sh) sh A oo) (hk44 : ∀ (x2 : Int32) (x3 : Int32) (M : ch_Mem) (H : Heap) (locs : List Loc) (ls : Array Slot), k44 x2 x3 M = some oo → ch_Wd D I 40 (ch_FC I sh) sh s A M H locs → lv_has ls 4 [(0, .ref (sh 0)), (2, .int x2), (3, .int x3)] → W p l e rm_X6_peel s m args below meth c H locs 0 0 Q (F0 m 44 ls [])) {x2 : Int32} {x3 : Int32}  {M : ch_Mem} {H : Heap} {locs : List Loc} {ls : Array Slot} (h : D_X6_peel_b44 k44 x2 x3 M = some oo) (hw : ch_Wd D I 40 (ch_FC I sh) sh s A M H locs) (hl : lv_has ls 4 [(0, .ref (sh 0)), (2, .int x2), (3, .int x3)]) : W p l e rm_X6_peel s m args below meth c H locs 0 0 Q (F0 m 44 ls []) := by
  obtain ⟨hx, hb, hml, hown, hts⟩ := id S
  unfold D_X6_peel_b44 at h
  refine lv_iload_n hx hb dX6_peel_44 rfl (lv_at hl 2 rfl) ?_
  refine lv_bipush (v := (20 : Int32)) hx hb dX6_peel_45 (by decide) ?_
  refine ch_icmp_ge (tgt := 67) hx hb dX6_peel_47 (by decide) h (fun h => ?_) (fun h => ?_)
  · exact t_X6_peel_67 S fin h hw (lv_sub hl [0] rfl)
  · refine lv_aload_n hx hb dX6_peel_50 rfl (lv_at hl 0 rfl) ?_
    refine lv_iload_n hx hb dX6_peel_51 rfl (lv_at hl 1 rfl) ?_
    refine ch_bd_k h (fun r1 M2 hc h => ?_)
    refine ch_ci hw (va_runV (As := [.int x2]) (rest := []) S (c_X6_takeOffLoudest l D I sh H.size M x2 hc) (cwV 1 hts gX6_peel_X6_takeOffLoudest rfl rfl rfl (by decide +kernel) ⟨Nat.le_of_ble_eq_true rfl, Nat.le_of_ble_eq_true rfl⟩) (ch_pV hw (by decide) rfl rfl rfl) rfl rfl hl.1 rfl (lv_room (Nat.le_of_ble_eq_true rfl)) dX6_peel_52 ⟨Nat.le_refl 0, Nat.le_refl 0⟩) (fun H locs hw => ?_)
    refine ch_if_ne (tgt := 61) hx hb dX6_peel_55 (by decide) h (fun h => ?_) (fun h => ?_)
    · refine lv_iinc (v := x3 + (1 : Int32)) (lv' := [(3, .int (x3 + (1 : Int32))), (0, .ref (sh 0)), (2, .int x2)]) hx hb dX6_peel_61 hl (k := 2) rfl rfl (by decide) rfl (fun ls hl => ?_)
      refine lv_goto (tgt := 44) hx hb dX6_peel_64 (by decide) ?_
      exact hk44 _ _ _ _ _ _  h hw (lv_sub hl [1, 2, 0] rfl)
    · exact t_X6_peel_58 S fin h hw (lv_sub hl [0] rfl)
set_option maxHeartbeats 4000000 in
set_option maxRecDepth 100000 in
theorem tl_X6_peel_44 {p : Program} {l : Launch} {e : Env} {s : State} {m : MethodId} {args : Array Value} {below : List Frame} {meth : Method} {c : Code} {Q : State → Prop} {D : va_G} {I : ch_Id} {sh : Nat → Nat} {A : Nat → Prop} {oo : Int32 × ch_Mem}     (S : CallFix p m c cX6_peel 4 s args wsX6_peel RX6) (fin : ch_FinI p l e rm_X6_peel s m args below meth c cX6_peel Q D I 40 (ch_FC I sh) sh A oo)  (n : Nat) : ∀ (x2 : Int32) (x3 : Int32) (M : ch_Mem) (H : Heap) (locs : List Loc) (ls : Array Slot), D_X6_peel_L44  n x2 x3 M = some oo → ch_Wd D I 40 (ch_FC I sh) sh s A M H locs → lv_has ls 4 [(0, .ref (sh 0)), (2, .int x2), (3, .int x3)] → W p l e rm_X6_peel s m args below meth c H locs 0 0 Q (F0 m 44 ls []) := by
  induction n with
  | zero => intro x2 x3 M H locs ls  h; cases h
  | succ n ih =>
    intro x2 x3 M H locs ls  h hw hl
    exact t_X6_peel_44 S fin ih h hw hl
set_option maxHeartbeats 4000000 in
set_option maxRecDepth 100000 in
theorem t_X6_peel_0 {p : Program} {l : Launch} {e : Env} {s : State} {m : MethodId} {args : Array Value} {below : List Frame} {meth : Method} {c : Code} {Q : State → Prop} {D : va_G} {I : ch_Id} {sh : Nat → Nat} {A : Nat → Prop} {oo : Int32 × ch_Mem}     (S : CallFix p m c cX6_peel 4 s args wsX6_peel RX6) (fin : ch_FinI p l e rm_X6_peel s m args below meth c cX6_peel Q D I 40 (ch_FC I sh) sh A oo)  {x1 : Int32} {x2 : Int32}  {M : ch_Mem} {H : Heap} {locs : List Loc} {ls : Array Slot} (h : D_X6_peel x1 x2 M = some oo) (hw : ch_Wd D I 40 (ch_FC I sh) sh s A M H locs) (hl : lv_has ls 4 [(0, .ref (sh 0)), (1, .int x1), (2, .int x2)]) : W p l e rm_X6_peel s m args below meth c H locs 0 0 Q (F0 m 0 ls []) := by
  obtain ⟨hx, hb, hml, hown, hts⟩ := id S
  unfold D_X6_peel at h
  refine lv_iload_n hx hb dX6_peel_0 rfl (lv_at hl 1 rfl) ?_
  refine ch_bd_k h (fun r1 M2 hc h => ?_)
  refine ch_ci hw (va_runS (As := [.int x1]) (rest := []) S (c_X6_isPlace l D I sh H.size M x1 hc) (va_cwS 1 hts gX6_peel_X6_isPlace rfl rfl rfl (by decide +kernel) ⟨Nat.le_of_ble_eq_true rfl, Nat.le_of_ble_eq_true rfl⟩) (ch_pS hw) rfl rfl hl.1 rfl (lv_room (Nat.le_of_ble_eq_true rfl)) dX6_peel_1 ⟨Nat.le_refl 0, Nat.le_refl 0⟩) (fun H locs hw => ?_)
  refine ch_if_eq (tgt := 14) hx hb dX6_peel_4 (by decide) h (fun h => ?_) (fun h => ?_)
  · refine lv_bipush (v := (-2 : Int32)) hx hb dX6_peel_14 (by decide) ?_
    exact fin _ _ _ _ _ _ h hw dX6_peel_16
  · refine lv_iload_n hx hb dX6_peel_7 rfl (lv_at hl 2 rfl) ?_
    refine ch_bd_k h (fun r3 M4 hc h => ?_)
    refine ch_ci hw (va_runS (As := [.int x2]) (rest := []) S (c_X6_isSize l D I sh H.size M2 x2 hc) (va_cwS 1 hts gX6_peel_X6_isSize rfl rfl rfl (by decide +kernel) ⟨Nat.le_of_ble_eq_true rfl, Nat.le_of_ble_eq_true rfl⟩) (ch_pS hw) rfl rfl hl.1 rfl (lv_room (Nat.le_of_ble_eq_true rfl)) dX6_peel_8 ⟨Nat.le_refl 0, Nat.le_refl 0⟩) (fun H locs hw => ?_)
    refine ch_if_ne (tgt := 17) hx hb dX6_peel_11 (by decide) h (fun h => ?_) (fun h => ?_)
    · refine lv_aload_n hx hb dX6_peel_17 rfl (lv_at hl 0 rfl) ?_
      refine lv_iload_n hx hb dX6_peel_18 rfl (lv_at hl 2 rfl) ?_
      refine ch_bd_k h (fun r5 M6 hc h => ?_)
      refine ch_ci hw (va_runV (As := [.int x2]) (rest := []) S (c_X6_isSizeOfAnyRow l D I sh H.size M4 x2 hc) (cwV 1 hts gX6_peel_X6_isSizeOfAnyRow rfl rfl rfl (by decide +kernel) ⟨Nat.le_of_ble_eq_true rfl, Nat.le_of_ble_eq_true rfl⟩) (ch_pV hw (by decide) rfl rfl rfl) rfl rfl hl.1 rfl (lv_room (Nat.le_of_ble_eq_true rfl)) dX6_peel_19 ⟨Nat.le_refl 0, Nat.le_refl 0⟩) (fun H locs hw => ?_)
      refine ch_if_ne (tgt := 28) hx hb dX6_peel_22 (by decide) h (fun h => ?_) (fun h => ?_)
      · refine lv_aload_n hx hb dX6_peel_28 rfl (lv_at hl 0 rfl) ?_
        refine lv_iload_n hx hb dX6_peel_29 rfl (lv_at hl 1 rfl) ?_
        refine lv_iload_n hx hb dX6_peel_30 rfl (lv_at hl 2 rfl) ?_
        refine ch_bd_k h (fun r7 M8 hc h => ?_)
        cases r7
        refine ch_cv hw (va_runV (As := [.int x1, .int x2]) (rest := []) S (c_X6_listen l D I sh H.size M6 x1 x2 hc) (cwV 2 hts gX6_peel_X6_listen rfl rfl rfl (by decide +kernel) ⟨Nat.le_of_ble_eq_true rfl, Nat.le_of_ble_eq_true rfl⟩) (ch_pV hw (by decide) rfl rfl rfl) rfl rfl hl.1 rfl (lv_room (Nat.le_of_ble_eq_true rfl)) dX6_peel_31 ⟨Nat.le_refl 0, Nat.le_refl 0⟩) (fun H locs hw => ?_)
        refine lv_aload_n hx hb dX6_peel_34 rfl (lv_at hl 0 rfl) ?_
        refine ch_get S hw 0 (by decide) rfl rfl (by decide +kernel) 4 (by decide) (hts (.fieldLink RX6 38 "CodeHunt" "peeling" "LCodeHunt$Peeling;") (by decide +kernel)) rfl dX6_peel_35 ?_
        refine lv_iconst (v := (0 : Int32)) hx hb dX6_peel_38 (by decide) ?_
        refine ch_putN (M1 := ch_wI M8 5 3 (0 : Int32)) (ty := .int) S hw 5 (by decide) rfl rfl (by decide +kernel) tyX1 tyX1_ok nmX1 3 (by decide) (ch_nw hw 12 rfl) rfl (by decide +kernel) rfl rfl (Nat.le_of_ble_eq_true rfl) (ch_cf_wI (j := 3) (v := (0 : Int32)) rfl) dX6_peel_39 (fun H locs hw => ?_)
        refine lv_iconst (v := (0 : Int32)) hx hb dX6_peel_42 (by decide) ?_
        refine lv_istore_n (lv' := [(3, .int (0 : Int32)), (0, .ref (sh 0)), (1, .int x1), (2, .int x2)]) hx hb dX6_peel_43 rfl hl (by decide) rfl (fun ls hl => ?_)
        exact tl_X6_peel_44 S fin ch_fu _ _ _ _ _ _ h hw (lv_sub hl [1, 3, 0] rfl)
      · refine lv_bipush (v := (-3 : Int32)) hx hb dX6_peel_25 (by decide) ?_
        exact fin _ _ _ _ _ _ h hw dX6_peel_27
    · refine lv_bipush (v := (-2 : Int32)) hx hb dX6_peel_14 (by decide) ?_
      exact fin _ _ _ _ _ _ h hw dX6_peel_16
set_option maxHeartbeats 4000000 in
set_option maxRecDepth 100000 in
theorem c_X6_peel (l : Launch) (D : va_G) (I : ch_Id) (sh : Nat → Nat) (sz : Nat) (M : ch_Mem)  (x1 : Int32) (x2 : Int32) {r : Int32} {M1 : ch_Mem} (h : D_X6_peel x1 x2 M = some (r, M1)) : Met l yX6_peel wsX6_peel rm_X6_peel (va_Pc [.ref (sh 0), .int x1, .int x2] (ch_Pre D I 40 (ch_FC I sh) sh sz M)) (va_Qi (fun r' (u : ch_Mem) => r' = r ∧ u = M1) (ch_Pos D 40 (ch_FC I sh) sh) (ch_A 40 sh sz)) 0 0 (ch_A 40 sh sz) := by
  refine Met.ofW (cc := cX6_peel) (maxL := 4) (ret := (some .int)) (by decide) rfl ?_
  intro p e s m args below meth c s₁ B hml hv0
  obtain ⟨rfl, hv0⟩ := hv0
  obtain rfl : s.heap.size = sz := hv0.1
  have hw := ch_start hv0
  have S : CallFix p m c cX6_peel 4 s _ wsX6_peel RX6 := ⟨B.exec, B.bytes, hml, findClass_of_methodNamed B.named, atoms_spec (ws := wsX6_peel) B.pre⟩
  have hl := lv_entry ([.ref (sh 0), .int x1, .int x2]) (n := 4) (Nat.le_of_ble_eq_true rfl)
  rw [lg_entry_eq]
  generalize (lg_sl ([.ref (sh 0), .int x1, .int x2]) ++ List.replicate (4 - (lg_sl ([.ref (sh 0), .int x1, .int x2])).length) Slot.unset).toArray = ls at hl ⊢
  exact t_X6_peel_0 S (ch_finI (B := fun _ => True) B.exec B.bytes B.returns B.notSynchronized) h hw (lv_sub hl [0, 1, 2] rfl)
set_option maxHeartbeats 4000000 in
set_option maxRecDepth 100000 in
theorem t_X6_peeled_0 {p : Program} {l : Launch} {e : Env} {s : State} {m : MethodId} {args : Array Value} {below : List Frame} {meth : Method} {c : Code} {Q : State → Prop} {D : va_G} {I : ch_Id} {sh : Nat → Nat} {A : Nat → Prop} {oo : Int32 × ch_Mem}     (S : CallFix p m c cX6_peeled 3 s args wsX6_peeled RX6) (fin : ch_FinI p l e rm_X6_peeled s m args below meth c cX6_peeled Q D I 40 (ch_FC I sh) sh A oo)  {x1 : Int32} {x2 : Int32}  {M : ch_Mem} {H : Heap} {locs : List Loc} {ls : Array Slot} (h : D_X6_peeled x1 x2 M = some oo) (hw : ch_Wd D I 40 (ch_FC I sh) sh s A M H locs) (hl : lv_has ls 3 [(0, .ref (sh 0)), (1, .int x1), (2, .int x2)]) : W p l e rm_X6_peeled s m args below meth c H locs 0 0 Q (F0 m 0 ls []) := by
  obtain ⟨hx, hb, hml, hown, hts⟩ := id S
  unfold D_X6_peeled at h
  refine lv_iload_n hx hb dX6_peeled_0 rfl (lv_at hl 1 rfl) ?_
  refine ch_if_lt (tgt := 15) hx hb dX6_peeled_1 (by decide) h (fun h => ?_) (fun h => ?_)
  · refine lv_ldc (v := (-1000000 : Int32)) hx hb hown (hts (.constant RX6 194 (-1000000)) (by decide +kernel)) dX6_peeled_15 ?_
    exact fin _ _ _ _ _ _ h hw dX6_peeled_17
  · refine lv_iload_n hx hb dX6_peeled_4 rfl (lv_at hl 1 rfl) ?_
    refine lv_aload_n hx hb dX6_peeled_5 rfl (lv_at hl 0 rfl) ?_
    refine ch_get S hw 0 (by decide) rfl rfl (by decide +kernel) 4 (by decide) (hts (.fieldLink RX6 38 "CodeHunt" "peeling" "LCodeHunt$Peeling;") (by decide +kernel)) rfl dX6_peeled_6 ?_
    refine ch_getN S hw 5 (by decide) rfl rfl (by decide +kernel) 3 (by decide) (ch_nw hw 12 rfl) rfl dX6_peeled_9 ?_
    refine ch_icmp_lt (tgt := 18) hx hb dX6_peeled_12 (by decide) h (fun h => ?_) (fun h => ?_)
    · refine lv_iload_n hx hb dX6_peeled_18 rfl (lv_at hl 2 rfl) ?_
      refine ch_if_k h (fun hq0 h => ?_) (fun hq0 h => ?_)
      · refine lv_tableIn (off := 25) (tgt := 44) hx hb dX6_peeled_19 (by rw [hq0]; decide) (by rw [hq0]; decide) (by rw [hq0]; rfl) (by decide) ?_
        refine lv_aload_n hx hb dX6_peeled_44 rfl (lv_at hl 0 rfl) ?_
        refine ch_get S hw 0 (by decide) rfl rfl (by decide +kernel) 4 (by decide) (hts (.fieldLink RX6 38 "CodeHunt" "peeling" "LCodeHunt$Peeling;") (by decide +kernel)) rfl dX6_peeled_45 ?_
        refine ch_getN S hw 5 (by decide) rfl rfl (by decide +kernel) 0 (by decide) (ch_nw hw 9 rfl) rfl dX6_peeled_48 ?_
        refine lv_iload_n hx hb dX6_peeled_51 rfl (lv_at hl 1 rfl) ?_
        refine ch_gd_k h (fun hin h => ?_)
        refine ch_iald S hw 35 (by decide) rfl hin dX6_peeled_52 ?_
        exact fin _ _ _ _ _ _ h hw dX6_peeled_53
      · skip
        refine ch_if_k h (fun hq1 h => ?_) (fun hq1 h => ?_)
        · refine lv_tableIn (off := 35) (tgt := 54) hx hb dX6_peeled_19 (by rw [hq1]; decide) (by rw [hq1]; decide) (by rw [hq1]; rfl) (by decide) ?_
          refine lv_aload_n hx hb dX6_peeled_54 rfl (lv_at hl 0 rfl) ?_
          refine ch_get S hw 0 (by decide) rfl rfl (by decide +kernel) 4 (by decide) (hts (.fieldLink RX6 38 "CodeHunt" "peeling" "LCodeHunt$Peeling;") (by decide +kernel)) rfl dX6_peeled_55 ?_
          refine ch_getN S hw 5 (by decide) rfl rfl (by decide +kernel) 1 (by decide) (ch_nw hw 10 rfl) rfl dX6_peeled_58 ?_
          refine lv_iload_n hx hb dX6_peeled_61 rfl (lv_at hl 1 rfl) ?_
          refine ch_gd_k h (fun hin h => ?_)
          refine ch_iald S hw 36 (by decide) rfl hin dX6_peeled_62 ?_
          exact fin _ _ _ _ _ _ h hw dX6_peeled_63
        · skip
          refine ch_if_k h (fun hq2 h => ?_) (fun hq2 h => ?_)
          · refine lv_tableIn (off := 45) (tgt := 64) hx hb dX6_peeled_19 (by rw [hq2]; decide) (by rw [hq2]; decide) (by rw [hq2]; rfl) (by decide) ?_
            refine lv_aload_n hx hb dX6_peeled_64 rfl (lv_at hl 0 rfl) ?_
            refine ch_get S hw 0 (by decide) rfl rfl (by decide +kernel) 4 (by decide) (hts (.fieldLink RX6 38 "CodeHunt" "peeling" "LCodeHunt$Peeling;") (by decide +kernel)) rfl dX6_peeled_65 ?_
            refine ch_getN S hw 5 (by decide) rfl rfl (by decide +kernel) 2 (by decide) (ch_nw hw 11 rfl) rfl dX6_peeled_68 ?_
            refine lv_iload_n hx hb dX6_peeled_71 rfl (lv_at hl 1 rfl) ?_
            refine ch_gd_k h (fun hin h => ?_)
            refine ch_iald S hw 37 (by decide) rfl hin dX6_peeled_72 ?_
            exact fin _ _ _ _ _ _ h hw dX6_peeled_73
          · skip
            have hn0 : ¬ x2.toInt = 0 := lv_neT hq0 (by decide)
            have hn1 : ¬ x2.toInt = 1 := lv_neT hq1 (by decide)
            have hn2 : ¬ x2.toInt = 2 := lv_neT hq2 (by decide)
            refine lv_tableOut (tgt := 74) hx hb dX6_peeled_19 (by omega) (by decide) ?_
            refine lv_ldc (v := (-1000000 : Int32)) hx hb hown (hts (.constant RX6 194 (-1000000)) (by decide +kernel)) dX6_peeled_74 ?_
            exact fin _ _ _ _ _ _ h hw dX6_peeled_76
    · refine lv_ldc (v := (-1000000 : Int32)) hx hb hown (hts (.constant RX6 194 (-1000000)) (by decide +kernel)) dX6_peeled_15 ?_
      exact fin _ _ _ _ _ _ h hw dX6_peeled_17
set_option maxHeartbeats 4000000 in
set_option maxRecDepth 100000 in
theorem c_X6_peeled (l : Launch) (D : va_G) (I : ch_Id) (sh : Nat → Nat) (sz : Nat) (M : ch_Mem)  (x1 : Int32) (x2 : Int32) {r : Int32} {M1 : ch_Mem} (h : D_X6_peeled x1 x2 M = some (r, M1)) : Met l yX6_peeled wsX6_peeled rm_X6_peeled (va_Pc [.ref (sh 0), .int x1, .int x2] (ch_Pre D I 40 (ch_FC I sh) sh sz M)) (va_Qi (fun r' (u : ch_Mem) => r' = r ∧ u = M1) (ch_Pos D 40 (ch_FC I sh) sh) (ch_A 40 sh sz)) 0 0 (ch_A 40 sh sz) := by
  refine Met.ofW (cc := cX6_peeled) (maxL := 3) (ret := (some .int)) (by decide) rfl ?_
  intro p e s m args below meth c s₁ B hml hv0
  obtain ⟨rfl, hv0⟩ := hv0
  obtain rfl : s.heap.size = sz := hv0.1
  have hw := ch_start hv0
  have S : CallFix p m c cX6_peeled 3 s _ wsX6_peeled RX6 := ⟨B.exec, B.bytes, hml, findClass_of_methodNamed B.named, atoms_spec (ws := wsX6_peeled) B.pre⟩
  have hl := lv_entry ([.ref (sh 0), .int x1, .int x2]) (n := 3) (Nat.le_of_ble_eq_true rfl)
  rw [lg_entry_eq]
  generalize (lg_sl ([.ref (sh 0), .int x1, .int x2]) ++ List.replicate (3 - (lg_sl ([.ref (sh 0), .int x1, .int x2])).length) Slot.unset).toArray = ls at hl ⊢
  exact t_X6_peeled_0 S (ch_finI (B := fun _ => True) B.exec B.bytes B.returns B.notSynchronized) h hw (lv_sub hl [0, 1, 2] rfl)
set_option maxHeartbeats 4000000 in
set_option maxRecDepth 100000 in
theorem t_X6_period_0 {p : Program} {l : Launch} {e : Env} {s : State} {m : MethodId} {args : Array Value} {below : List Frame} {meth : Method} {c : Code} {Q : State → Prop} {D : va_G} {I : ch_Id} {sh : Nat → Nat} {A : Nat → Prop} {oo : Int32 × ch_Mem}     (S : CallFix p m c cX6_period 4 s args wsX6_period RX6) (fin : ch_FinI p l e rm_X6_period s m args below meth c cX6_period Q D I 40 (ch_FC I sh) sh A oo)  {x1 : Int32} {x2 : Int32} {x3 : Int32}  {M : ch_Mem} {H : Heap} {locs : List Loc} {ls : Array Slot} (h : D_X6_period x1 x2 x3 M = some oo) (hw : ch_Wd D I 40 (ch_FC I sh) sh s A M H locs) (hl : lv_has ls 4 [(0, .ref (sh 0)), (1, .int x1), (2, .int x2), (3, .int x3)]) : W p l e rm_X6_period s m args below meth c H locs 0 0 Q (F0 m 0 ls []) := by
  obtain ⟨hx, hb, hml, hown, hts⟩ := id S
  unfold D_X6_period at h
  refine lv_iload_n hx hb dX6_period_0 rfl (lv_at hl 1 rfl) ?_
  refine lv_iload_n hx hb dX6_period_1 rfl (lv_at hl 2 rfl) ?_
  refine lv_iload_n hx hb dX6_period_2 rfl (lv_at hl 3 rfl) ?_
  refine ch_bd_k h (fun r1 M2 hc h => ?_)
  refine ch_ci hw (va_runS (As := [.int x1, .int x2, .int x3]) (rest := []) S (c_X6_isRegister l D I sh H.size M x1 x2 x3 hc) (va_cwS 3 hts gX6_period_X6_isRegister rfl rfl rfl (by decide +kernel) ⟨Nat.le_of_ble_eq_true rfl, Nat.le_of_ble_eq_true rfl⟩) (ch_pS hw) rfl rfl hl.1 rfl (lv_room (Nat.le_of_ble_eq_true rfl)) dX6_period_3 ⟨Nat.le_refl 0, Nat.le_refl 0⟩) (fun H locs hw => ?_)
  refine ch_if_eq (tgt := 18) hx hb dX6_period_6 (by decide) h (fun h => ?_) (fun h => ?_)
  · refine lv_bipush (v := (-2 : Int32)) hx hb dX6_period_18 (by decide) ?_
    exact fin _ _ _ _ _ _ h hw dX6_period_20
  · refine lv_iload_n hx hb dX6_period_9 rfl (lv_at hl 1 rfl) ?_
    refine lv_iload_n hx hb dX6_period_10 rfl (lv_at hl 2 rfl) ?_
    refine lv_iload_n hx hb dX6_period_11 rfl (lv_at hl 3 rfl) ?_
    refine ch_bd_k h (fun r3 M4 hc h => ?_)
    refine ch_ci hw (va_runS (As := [.int x1, .int x2, .int x3]) (rest := []) S (c_X6_stepsToReturn l D I sh H.size M2 x1 x2 x3 hc) (va_cwS 3 hts gX6_period_X6_stepsToReturn rfl rfl rfl (by decide +kernel) ⟨Nat.le_of_ble_eq_true rfl, Nat.le_of_ble_eq_true rfl⟩) (ch_pS hw) rfl rfl hl.1 rfl (lv_room (Nat.le_of_ble_eq_true rfl)) dX6_period_12 ⟨Nat.le_refl 0, Nat.le_refl 0⟩) (fun H locs hw => ?_)
    refine lv_goto (tgt := 20) hx hb dX6_period_15 (by decide) ?_
    exact fin _ _ _ _ _ _ h hw dX6_period_20
set_option maxHeartbeats 4000000 in
set_option maxRecDepth 100000 in
theorem c_X6_period (l : Launch) (D : va_G) (I : ch_Id) (sh : Nat → Nat) (sz : Nat) (M : ch_Mem)  (x1 : Int32) (x2 : Int32) (x3 : Int32) {r : Int32} {M1 : ch_Mem} (h : D_X6_period x1 x2 x3 M = some (r, M1)) : Met l yX6_period wsX6_period rm_X6_period (va_Pc [.ref (sh 0), .int x1, .int x2, .int x3] (ch_Pre D I 40 (ch_FC I sh) sh sz M)) (va_Qi (fun r' (u : ch_Mem) => r' = r ∧ u = M1) (ch_Pos D 40 (ch_FC I sh) sh) (ch_A 40 sh sz)) 0 0 (ch_A 40 sh sz) := by
  refine Met.ofW (cc := cX6_period) (maxL := 4) (ret := (some .int)) (by decide) rfl ?_
  intro p e s m args below meth c s₁ B hml hv0
  obtain ⟨rfl, hv0⟩ := hv0
  obtain rfl : s.heap.size = sz := hv0.1
  have hw := ch_start hv0
  have S : CallFix p m c cX6_period 4 s _ wsX6_period RX6 := ⟨B.exec, B.bytes, hml, findClass_of_methodNamed B.named, atoms_spec (ws := wsX6_period) B.pre⟩
  have hl := lv_entry ([.ref (sh 0), .int x1, .int x2, .int x3]) (n := 4) (Nat.le_of_ble_eq_true rfl)
  rw [lg_entry_eq]
  generalize (lg_sl ([.ref (sh 0), .int x1, .int x2, .int x3]) ++ List.replicate (4 - (lg_sl ([.ref (sh 0), .int x1, .int x2, .int x3])).length) Slot.unset).toArray = ls at hl ⊢
  exact t_X6_period_0 S (ch_finI (B := fun _ => True) B.exec B.bytes B.returns B.notSynchronized) h hw (lv_sub hl [0, 1, 2, 3] rfl)
set_option maxHeartbeats 4000000 in
set_option maxRecDepth 100000 in
theorem t_X6_searchFor_154 {p : Program} {l : Launch} {e : Env} {s : State} {m : MethodId} {args : Array Value} {below : List Frame} {meth : Method} {c : Code} {Q : State → Prop} {D : va_G} {I : ch_Id} {sh : Nat → Nat} {A : Nat → Prop} {oo : Int32 × ch_Mem}    {k55 : Int32 → Int32 → ch_Mem → Option (Int32 × ch_Mem)} (S : CallFix p m c cX6_searchFor 9 s args wsX6_searchFor RX6) (fin : ch_FinI p l e rm_X6_searchFor s m args below meth c cX6_searchFor Q D I 40 (ch_FC I sh) sh A oo) (hk55 : ∀ (x1 : Int32) (x3 : Int32) (M : ch_Mem) (H : Heap) (locs : List Loc) (ls : Array Slot), k55 x1 x3 M = some oo → ch_Wd D I 40 (ch_FC I sh) sh s A M H locs → lv_has ls 9 [(0, .ref (sh 0)), (1, .int x1), (3, .int x3)] → W p l e rm_X6_searchFor s m args below meth c H locs 0 0 Q (F0 m 55 ls [])) {x1 : Int32} {x3 : Int32}  {M : ch_Mem} {H : Heap} {locs : List Loc} {ls : Array Slot} (h : D_X6_searchFor_b154 k55 x1 x3 M = some oo) (hw : ch_Wd D I 40 (ch_FC I sh) sh s A M H locs) (hl : lv_has ls 9 [(0, .ref (sh 0)), (1, .int x1), (3, .int x3)]) : W p l e rm_X6_searchFor s m args below meth c H locs 0 0 Q (F0 m 154 ls []) := by
  obtain ⟨hx, hb, hml, hown, hts⟩ := id S
  unfold D_X6_searchFor_b154 at h
  refine lv_iinc (v := x3 + (1 : Int32)) (lv' := [(3, .int (x3 + (1 : Int32))), (0, .ref (sh 0)), (1, .int x1)]) hx hb dX6_searchFor_154 hl (k := 2) rfl rfl (by decide) rfl (fun ls hl => ?_)
  refine lv_goto (tgt := 55) hx hb dX6_searchFor_157 (by decide) ?_
  exact hk55 _ _ _ _ _ _  h hw (lv_sub hl [1, 2, 0] rfl)
set_option maxHeartbeats 4000000 in
set_option maxRecDepth 100000 in
theorem t_X6_searchFor_71 {p : Program} {l : Launch} {e : Env} {s : State} {m : MethodId} {args : Array Value} {below : List Frame} {meth : Method} {c : Code} {Q : State → Prop} {D : va_G} {I : ch_Id} {sh : Nat → Nat} {A : Nat → Prop} {oo : Int32 × ch_Mem}    {k55 : Int32 → Int32 → ch_Mem → Option (Int32 × ch_Mem)} {k71 : Int32 → Int32 → Int32 → ch_Mem → Option (Int32 × ch_Mem)} (S : CallFix p m c cX6_searchFor 9 s args wsX6_searchFor RX6) (fin : ch_FinI p l e rm_X6_searchFor s m args below meth c cX6_searchFor Q D I 40 (ch_FC I sh) sh A oo) (hk55 : ∀ (x1 : Int32) (x3 : Int32) (M : ch_Mem) (H : Heap) (locs : List Loc) (ls : Array Slot), k55 x1 x3 M = some oo → ch_Wd D I 40 (ch_FC I sh) sh s A M H locs → lv_has ls 9 [(0, .ref (sh 0)), (1, .int x1), (3, .int x3)] → W p l e rm_X6_searchFor s m args below meth c H locs 0 0 Q (F0 m 55 ls [])) (hk71 : ∀ (x1 : Int32) (x3 : Int32) (x4 : Int32) (M : ch_Mem) (H : Heap) (locs : List Loc) (ls : Array Slot), k71 x1 x3 x4 M = some oo → ch_Wd D I 40 (ch_FC I sh) sh s A M H locs → lv_has ls 9 [(0, .ref (sh 0)), (1, .int x1), (3, .int x3), (4, .int x4)] → W p l e rm_X6_searchFor s m args below meth c H locs 0 0 Q (F0 m 71 ls [])) {x1 : Int32} {x3 : Int32} {x4 : Int32}  {M : ch_Mem} {H : Heap} {locs : List Loc} {ls : Array Slot} (h : D_X6_searchFor_b71 k55 k71 x1 x3 x4 M = some oo) (hw : ch_Wd D I 40 (ch_FC I sh) sh s A M H locs) (hl : lv_has ls 9 [(0, .ref (sh 0)), (1, .int x1), (3, .int x3), (4, .int x4)]) : W p l e rm_X6_searchFor s m args below meth c H locs 0 0 Q (F0 m 71 ls []) := by
  obtain ⟨hx, hb, hml, hown, hts⟩ := id S
  unfold D_X6_searchFor_b71 at h
  refine lv_iload hx hb dX6_searchFor_71 (lv_at hl 3 rfl) ?_
  refine lv_aload_n hx hb dX6_searchFor_73 rfl (lv_at hl 0 rfl) ?_
  refine ch_get S hw 0 (by decide) rfl rfl (by decide +kernel) 0 (by decide) (hts (.fieldLink RX6 11 "CodeHunt" "rows" "[LCodeHunt$Row;") (by decide +kernel)) rfl dX6_searchFor_74 ?_
  refine lv_iload_n hx hb dX6_searchFor_77 rfl (lv_at hl 1 rfl) ?_
  refine ch_gd_k h (fun hin h => ?_)
  have hlt1 := ch_in_lt hin
  refine ch_rows S hw hin dX6_searchFor_78 ?_
  refine ch_getN S hw (7 + x1.toNatClampNeg) (by omega) (ch_FC_row (by omega)) rfl (by decide +kernel) 1 (by decide) (ch_nw hw 16 rfl) rfl dX6_searchFor_79 ?_
  refine ch_icmp_ge (tgt := 154) hx hb dX6_searchFor_82 (by decide) h (fun h => ?_) (fun h => ?_)
  · exact t_X6_searchFor_154 S fin hk55 h hw (lv_sub hl [0, 1, 2] rfl)
  · refine lv_aload_n hx hb dX6_searchFor_85 rfl (lv_at hl 0 rfl) ?_
    refine ch_get S hw 0 (by decide) rfl rfl (by decide +kernel) 0 (by decide) (hts (.fieldLink RX6 11 "CodeHunt" "rows" "[LCodeHunt$Row;") (by decide +kernel)) rfl dX6_searchFor_86 ?_
    refine lv_iload_n hx hb dX6_searchFor_89 rfl (lv_at hl 1 rfl) ?_
    refine ch_gd_k h (fun hin h => ?_)
    have hlt2 := ch_in_lt hin
    refine ch_rows S hw hin dX6_searchFor_90 ?_
    refine lv_aload_n hx hb dX6_searchFor_91 rfl (lv_at hl 0 rfl) ?_
    refine ch_get S hw 0 (by decide) rfl rfl (by decide +kernel) 2 (by decide) (hts (.fieldLink RX6 24 "CodeHunt" "window" "LCodeHunt$Window;") (by decide +kernel)) rfl dX6_searchFor_92 ?_
    refine ch_getN S hw 3 (by decide) rfl rfl (by decide +kernel) 2 (by decide) (ch_nw hw 2 rfl) rfl dX6_searchFor_95 ?_
    refine lv_iload hx hb dX6_searchFor_98 (lv_at hl 3 rfl) ?_
    refine ch_bd_k h (fun r3 M4 hc h => ?_)
    refine ch_ci hw (va_runV (As := [.ref (sh 33), .int x4]) (rest := []) S (c_X3_sumOver l D I sh H.size M (7 + x1.toNatClampNeg) (by omega) 33 (by unfold ch_arr; omega) x4 hc) (cwV 2 hts gX6_searchFor_X3_sumOver rfl rfl rfl (by decide +kernel) ⟨Nat.le_of_ble_eq_true rfl, Nat.le_of_ble_eq_true rfl⟩) (ch_pV hw (by omega) (ch_FC_row (by omega)) rfl rfl) rfl rfl hl.1 rfl (lv_room (Nat.le_of_ble_eq_true rfl)) dX6_searchFor_100 ⟨Nat.le_refl 0, Nat.le_refl 0⟩) (fun H locs hw => ?_)
    refine lv_i2l hx hb dX6_searchFor_103 rfl ?_
    refine lv_lstore (lv' := [(5, .long r3.toInt64), (0, .ref (sh 0)), (1, .int x1), (3, .int x3), (4, .int x4)]) hx hb dX6_searchFor_104 hl (by decide) rfl (fun ls hl => ?_)
    refine lv_aload_n hx hb dX6_searchFor_106 rfl (lv_at hl 1 rfl) ?_
    refine ch_get S hw 0 (by decide) rfl rfl (by decide +kernel) 0 (by decide) (hts (.fieldLink RX6 11 "CodeHunt" "rows" "[LCodeHunt$Row;") (by decide +kernel)) rfl dX6_searchFor_107 ?_
    refine lv_iload_n hx hb dX6_searchFor_110 rfl (lv_at hl 2 rfl) ?_
    refine ch_gd_k h (fun hin h => ?_)
    have hlt5 := ch_in_lt hin
    refine ch_rows S hw hin dX6_searchFor_111 ?_
    refine lv_aload_n hx hb dX6_searchFor_112 rfl (lv_at hl 1 rfl) ?_
    refine ch_get S hw 0 (by decide) rfl rfl (by decide +kernel) 2 (by decide) (hts (.fieldLink RX6 24 "CodeHunt" "window" "LCodeHunt$Window;") (by decide +kernel)) rfl dX6_searchFor_113 ?_
    refine ch_getN S hw 3 (by decide) rfl rfl (by decide +kernel) 3 (by decide) (ch_nw hw 3 rfl) rfl dX6_searchFor_116 ?_
    refine lv_iload hx hb dX6_searchFor_119 (lv_at hl 4 rfl) ?_
    refine ch_bd_k h (fun r6 M7 hc h => ?_)
    refine ch_ci hw (va_runV (As := [.ref (sh 34), .int x4]) (rest := []) S (c_X3_sumOver l D I sh H.size M4 (7 + x1.toNatClampNeg) (by omega) 34 (by unfold ch_arr; omega) x4 hc) (cwV 2 hts gX6_searchFor_X3_sumOver rfl rfl rfl (by decide +kernel) ⟨Nat.le_of_ble_eq_true rfl, Nat.le_of_ble_eq_true rfl⟩) (ch_pV hw (by omega) (ch_FC_row (by omega)) rfl rfl) rfl rfl hl.1 rfl (lv_room (Nat.le_of_ble_eq_true rfl)) dX6_searchFor_121 ⟨Nat.le_refl 0, Nat.le_refl 0⟩) (fun H locs hw => ?_)
    refine lv_i2l hx hb dX6_searchFor_124 rfl ?_
    refine lv_lstore (lv' := [(7, .long r6.toInt64), (5, .long r3.toInt64), (0, .ref (sh 0)), (1, .int x1), (3, .int x3), (4, .int x4)]) hx hb dX6_searchFor_125 hl (by decide) rfl (fun ls hl => ?_)
    refine lv_aload_n hx hb dX6_searchFor_127 rfl (lv_at hl 2 rfl) ?_
    refine ch_get S hw 0 (by decide) rfl rfl (by decide +kernel) 3 (by decide) (hts (.fieldLink RX6 31 "CodeHunt" "search" "LCodeHunt$Search;") (by decide +kernel)) rfl dX6_searchFor_128 ?_
    refine lv_lload hx hb dX6_searchFor_131 (lv_at hl 1 rfl) ?_
    refine lv_lload hx hb dX6_searchFor_133 (lv_at hl 1 rfl) ?_
    refine lv_lmul hx hb dX6_searchFor_135 ?_
    refine lv_lload hx hb dX6_searchFor_136 (lv_at hl 0 rfl) ?_
    refine lv_lload hx hb dX6_searchFor_138 (lv_at hl 0 rfl) ?_
    refine lv_lmul hx hb dX6_searchFor_140 ?_
    refine lv_ladd hx hb dX6_searchFor_141 ?_
    refine lv_iload_n hx hb dX6_searchFor_142 rfl (lv_at hl 4 rfl) ?_
    refine lv_iload hx hb dX6_searchFor_143 (lv_at hl 5 rfl) ?_
    refine ch_bd_k h (fun r8 M9 hc h => ?_)
    cases r8
    refine ch_cv hw (va_runV (As := [.long ((r3.toInt64 * r3.toInt64) + (r6.toInt64 * r6.toInt64)), .int x3, .int x4]) (rest := []) S (c_X4_weigh l D I sh H.size M7 ((r3.toInt64 * r3.toInt64) + (r6.toInt64 * r6.toInt64)) x3 x4 hc) (cwV 3 hts gX6_searchFor_X4_weigh rfl rfl rfl (by decide +kernel) ⟨Nat.le_of_ble_eq_true rfl, Nat.le_of_ble_eq_true rfl⟩) (ch_pV hw (by decide) rfl rfl rfl) rfl rfl hl.1 rfl (lv_room (Nat.le_of_ble_eq_true rfl)) dX6_searchFor_145 ⟨Nat.le_refl 0, Nat.le_refl 0⟩) (fun H locs hw => ?_)
    refine lv_iinc (v := x4 + (1 : Int32)) (lv' := [(4, .int (x4 + (1 : Int32))), (7, .long r6.toInt64), (5, .long r3.toInt64), (0, .ref (sh 0)), (1, .int x1), (3, .int x3)]) hx hb dX6_searchFor_148 hl (k := 5) rfl rfl (by decide) rfl (fun ls hl => ?_)
    refine lv_goto (tgt := 71) hx hb dX6_searchFor_151 (by decide) ?_
    exact hk71 _ _ _ _ _ _ _  h hw (lv_sub hl [3, 4, 5, 0] rfl)
set_option maxHeartbeats 4000000 in
set_option maxRecDepth 100000 in
theorem tl_X6_searchFor_71 {p : Program} {l : Launch} {e : Env} {s : State} {m : MethodId} {args : Array Value} {below : List Frame} {meth : Method} {c : Code} {Q : State → Prop} {D : va_G} {I : ch_Id} {sh : Nat → Nat} {A : Nat → Prop} {oo : Int32 × ch_Mem}    {k55 : Int32 → Int32 → ch_Mem → Option (Int32 × ch_Mem)} (S : CallFix p m c cX6_searchFor 9 s args wsX6_searchFor RX6) (fin : ch_FinI p l e rm_X6_searchFor s m args below meth c cX6_searchFor Q D I 40 (ch_FC I sh) sh A oo) (hk55 : ∀ (x1 : Int32) (x3 : Int32) (M : ch_Mem) (H : Heap) (locs : List Loc) (ls : Array Slot), k55 x1 x3 M = some oo → ch_Wd D I 40 (ch_FC I sh) sh s A M H locs → lv_has ls 9 [(0, .ref (sh 0)), (1, .int x1), (3, .int x3)] → W p l e rm_X6_searchFor s m args below meth c H locs 0 0 Q (F0 m 55 ls [])) (n : Nat) : ∀ (x1 : Int32) (x3 : Int32) (x4 : Int32) (M : ch_Mem) (H : Heap) (locs : List Loc) (ls : Array Slot), D_X6_searchFor_L71 k55 n x1 x3 x4 M = some oo → ch_Wd D I 40 (ch_FC I sh) sh s A M H locs → lv_has ls 9 [(0, .ref (sh 0)), (1, .int x1), (3, .int x3), (4, .int x4)] → W p l e rm_X6_searchFor s m args below meth c H locs 0 0 Q (F0 m 71 ls []) := by
  induction n with
  | zero => intro x1 x3 x4 M H locs ls  h; cases h
  | succ n ih =>
    intro x1 x3 x4 M H locs ls  h hw hl
    exact t_X6_searchFor_71 S fin hk55 ih h hw hl
set_option maxHeartbeats 4000000 in
set_option maxRecDepth 100000 in
theorem t_X6_searchFor_55 {p : Program} {l : Launch} {e : Env} {s : State} {m : MethodId} {args : Array Value} {below : List Frame} {meth : Method} {c : Code} {Q : State → Prop} {D : va_G} {I : ch_Id} {sh : Nat → Nat} {A : Nat → Prop} {oo : Int32 × ch_Mem}    {k55 : Int32 → Int32 → ch_Mem → Option (Int32 × ch_Mem)} (S : CallFix p m c cX6_searchFor 9 s args wsX6_searchFor RX6) (fin : ch_FinI p l e rm_X6_searchFor s m args below meth c cX6_searchFor Q D I 40 (ch_FC I sh) sh A oo) (hk55 : ∀ (x1 : Int32) (x3 : Int32) (M : ch_Mem) (H : Heap) (locs : List Loc) (ls : Array Slot), k55 x1 x3 M = some oo → ch_Wd D I 40 (ch_FC I sh) sh s A M H locs → lv_has ls 9 [(0, .ref (sh 0)), (1, .int x1), (3, .int x3)] → W p l e rm_X6_searchFor s m args below meth c H locs 0 0 Q (F0 m 55 ls [])) {x1 : Int32} {x3 : Int32}  {M : ch_Mem} {H : Heap} {locs : List Loc} {ls : Array Slot} (h : D_X6_searchFor_b55 k55 x1 x3 M = some oo) (hw : ch_Wd D I 40 (ch_FC I sh) sh s A M H locs) (hl : lv_has ls 9 [(0, .ref (sh 0)), (1, .int x1), (3, .int x3)]) : W p l e rm_X6_searchFor s m args below meth c H locs 0 0 Q (F0 m 55 ls []) := by
  obtain ⟨hx, hb, hml, hown, hts⟩ := id S
  unfold D_X6_searchFor_b55 at h
  refine lv_iload_n hx hb dX6_searchFor_55 rfl (lv_at hl 2 rfl) ?_
  refine lv_iconst (v := (4 : Int32)) hx hb dX6_searchFor_56 (by decide) ?_
  refine ch_icmp_ge (tgt := 160) hx hb dX6_searchFor_57 (by decide) h (fun h => ?_) (fun h => ?_)
  · refine lv_iconst (v := (0 : Int32)) hx hb dX6_searchFor_160 (by decide) ?_
    exact fin _ _ _ _ _ _ h hw dX6_searchFor_161
  · refine lv_aload_n hx hb dX6_searchFor_60 rfl (lv_at hl 0 rfl) ?_
    refine ch_get S hw 0 (by decide) rfl rfl (by decide +kernel) 2 (by decide) (hts (.fieldLink RX6 24 "CodeHunt" "window" "LCodeHunt$Window;") (by decide +kernel)) rfl dX6_searchFor_61 ?_
    refine lv_iload_n hx hb dX6_searchFor_64 rfl (lv_at hl 2 rfl) ?_
    refine ch_bd_k h (fun r1 M2 hc h => ?_)
    cases r1
    refine ch_cv hw (va_runV (As := [.int x3]) (rest := []) S (c_X5_turnBack l D I sh H.size M x3 hc) (cwV 1 hts gX6_searchFor_X5_turnBack rfl rfl rfl (by decide +kernel) ⟨Nat.le_of_ble_eq_true rfl, Nat.le_of_ble_eq_true rfl⟩) (ch_pV hw (by decide) rfl rfl rfl) rfl rfl hl.1 rfl (lv_room (Nat.le_of_ble_eq_true rfl)) dX6_searchFor_65 ⟨Nat.le_refl 0, Nat.le_refl 0⟩) (fun H locs hw => ?_)
    refine lv_iconst (v := (0 : Int32)) hx hb dX6_searchFor_68 (by decide) ?_
    refine lv_istore (lv' := [(4, .int (0 : Int32)), (0, .ref (sh 0)), (1, .int x1), (3, .int x3)]) hx hb dX6_searchFor_69 hl (by decide) rfl (fun ls hl => ?_)
    exact tl_X6_searchFor_71 S fin hk55 ch_fu _ _ _ _ _ _ _ h hw (lv_sub hl [1, 2, 3, 0] rfl)
set_option maxHeartbeats 4000000 in
set_option maxRecDepth 100000 in
theorem tl_X6_searchFor_55 {p : Program} {l : Launch} {e : Env} {s : State} {m : MethodId} {args : Array Value} {below : List Frame} {meth : Method} {c : Code} {Q : State → Prop} {D : va_G} {I : ch_Id} {sh : Nat → Nat} {A : Nat → Prop} {oo : Int32 × ch_Mem}     (S : CallFix p m c cX6_searchFor 9 s args wsX6_searchFor RX6) (fin : ch_FinI p l e rm_X6_searchFor s m args below meth c cX6_searchFor Q D I 40 (ch_FC I sh) sh A oo)  (n : Nat) : ∀ (x1 : Int32) (x3 : Int32) (M : ch_Mem) (H : Heap) (locs : List Loc) (ls : Array Slot), D_X6_searchFor_L55  n x1 x3 M = some oo → ch_Wd D I 40 (ch_FC I sh) sh s A M H locs → lv_has ls 9 [(0, .ref (sh 0)), (1, .int x1), (3, .int x3)] → W p l e rm_X6_searchFor s m args below meth c H locs 0 0 Q (F0 m 55 ls []) := by
  induction n with
  | zero => intro x1 x3 M H locs ls  h; cases h
  | succ n ih =>
    intro x1 x3 M H locs ls  h hw hl
    exact t_X6_searchFor_55 S fin ih h hw hl
set_option maxHeartbeats 4000000 in
set_option maxRecDepth 100000 in
theorem t_X6_searchFor_0 {p : Program} {l : Launch} {e : Env} {s : State} {m : MethodId} {args : Array Value} {below : List Frame} {meth : Method} {c : Code} {Q : State → Prop} {D : va_G} {I : ch_Id} {sh : Nat → Nat} {A : Nat → Prop} {oo : Int32 × ch_Mem}     (S : CallFix p m c cX6_searchFor 9 s args wsX6_searchFor RX6) (fin : ch_FinI p l e rm_X6_searchFor s m args below meth c cX6_searchFor Q D I 40 (ch_FC I sh) sh A oo)  {x1 : Int32} {x2 : Int32}  {M : ch_Mem} {H : Heap} {locs : List Loc} {ls : Array Slot} (h : D_X6_searchFor x1 x2 M = some oo) (hw : ch_Wd D I 40 (ch_FC I sh) sh s A M H locs) (hl : lv_has ls 9 [(0, .ref (sh 0)), (1, .int x1), (2, .int x2)]) : W p l e rm_X6_searchFor s m args below meth c H locs 0 0 Q (F0 m 0 ls []) := by
  obtain ⟨hx, hb, hml, hown, hts⟩ := id S
  unfold D_X6_searchFor at h
  refine lv_iload_n hx hb dX6_searchFor_0 rfl (lv_at hl 1 rfl) ?_
  refine ch_bd_k h (fun r1 M2 hc h => ?_)
  refine ch_ci hw (va_runS (As := [.int x1]) (rest := []) S (c_X6_isRow l D I sh H.size M x1 hc) (va_cwS 1 hts gX6_searchFor_X6_isRow rfl rfl rfl (by decide +kernel) ⟨Nat.le_of_ble_eq_true rfl, Nat.le_of_ble_eq_true rfl⟩) (ch_pS hw) rfl rfl hl.1 rfl (lv_room (Nat.le_of_ble_eq_true rfl)) dX6_searchFor_1 ⟨Nat.le_refl 0, Nat.le_refl 0⟩) (fun H locs hw => ?_)
  refine ch_if_eq (tgt := 14) hx hb dX6_searchFor_4 (by decide) h (fun h => ?_) (fun h => ?_)
  · refine lv_bipush (v := (-2 : Int32)) hx hb dX6_searchFor_14 (by decide) ?_
    exact fin _ _ _ _ _ _ h hw dX6_searchFor_16
  · refine lv_iload_n hx hb dX6_searchFor_7 rfl (lv_at hl 2 rfl) ?_
    refine ch_bd_k h (fun r3 M4 hc h => ?_)
    refine ch_ci hw (va_runS (As := [.int x2]) (rest := []) S (c_X6_isPlace l D I sh H.size M2 x2 hc) (va_cwS 1 hts gX6_searchFor_X6_isPlace rfl rfl rfl (by decide +kernel) ⟨Nat.le_of_ble_eq_true rfl, Nat.le_of_ble_eq_true rfl⟩) (ch_pS hw) rfl rfl hl.1 rfl (lv_room (Nat.le_of_ble_eq_true rfl)) dX6_searchFor_8 ⟨Nat.le_refl 0, Nat.le_refl 0⟩) (fun H locs hw => ?_)
    refine ch_if_ne (tgt := 17) hx hb dX6_searchFor_11 (by decide) h (fun h => ?_) (fun h => ?_)
    · refine lv_aload_n hx hb dX6_searchFor_17 rfl (lv_at hl 0 rfl) ?_
      refine ch_get S hw 0 (by decide) rfl rfl (by decide +kernel) 0 (by decide) (hts (.fieldLink RX6 11 "CodeHunt" "rows" "[LCodeHunt$Row;") (by decide +kernel)) rfl dX6_searchFor_18 ?_
      refine lv_iload_n hx hb dX6_searchFor_21 rfl (lv_at hl 1 rfl) ?_
      refine ch_gd_k h (fun hin h => ?_)
      have hlt5 := ch_in_lt hin
      refine ch_rows S hw hin dX6_searchFor_22 ?_
      refine ch_bd_k h (fun r6 M7 hc h => ?_)
      refine ch_ci hw (va_runV (As := []) (rest := []) S (c_X3_isNone l D I sh H.size M4 (7 + x1.toNatClampNeg) (by omega) hc) (cwV 0 hts gX6_searchFor_X3_isNone rfl rfl rfl (by decide +kernel) ⟨Nat.le_of_ble_eq_true rfl, Nat.le_of_ble_eq_true rfl⟩) (ch_pV hw (by omega) (ch_FC_row (by omega)) rfl rfl) rfl rfl hl.1 rfl (lv_room (Nat.le_of_ble_eq_true rfl)) dX6_searchFor_23 ⟨Nat.le_refl 0, Nat.le_refl 0⟩) (fun H locs hw => ?_)
      refine ch_if_eq (tgt := 32) hx hb dX6_searchFor_26 (by decide) h (fun h => ?_) (fun h => ?_)
      · refine lv_aload_n hx hb dX6_searchFor_32 rfl (lv_at hl 0 rfl) ?_
        refine lv_iload_n hx hb dX6_searchFor_33 rfl (lv_at hl 2 rfl) ?_
        refine lv_aload_n hx hb dX6_searchFor_34 rfl (lv_at hl 0 rfl) ?_
        refine ch_get S hw 0 (by decide) rfl rfl (by decide +kernel) 0 (by decide) (hts (.fieldLink RX6 11 "CodeHunt" "rows" "[LCodeHunt$Row;") (by decide +kernel)) rfl dX6_searchFor_35 ?_
        refine lv_iload_n hx hb dX6_searchFor_38 rfl (lv_at hl 1 rfl) ?_
        refine ch_gd_k h (fun hin h => ?_)
        have hlt8 := ch_in_lt hin
        refine ch_rows S hw hin dX6_searchFor_39 ?_
        refine ch_getN S hw (7 + x1.toNatClampNeg) (by omega) (ch_FC_row (by omega)) rfl (by decide +kernel) 1 (by decide) (ch_nw hw 16 rfl) rfl dX6_searchFor_40 ?_
        refine ch_bd_k h (fun r9 M10 hc h => ?_)
        cases r9
        refine ch_cv hw (va_runV (As := [.int x2, .int (M7.1 (7 + x1.toNatClampNeg) 1)]) (rest := []) S (c_X6_listen l D I sh H.size M7 x2 (M7.1 (7 + x1.toNatClampNeg) 1) hc) (cwV 2 hts gX6_searchFor_X6_listen rfl rfl rfl (by decide +kernel) ⟨Nat.le_of_ble_eq_true rfl, Nat.le_of_ble_eq_true rfl⟩) (ch_pV hw (by decide) rfl rfl rfl) rfl rfl hl.1 rfl (lv_room (Nat.le_of_ble_eq_true rfl)) dX6_searchFor_43 ⟨Nat.le_refl 0, Nat.le_refl 0⟩) (fun H locs hw => ?_)
        refine lv_aload_n hx hb dX6_searchFor_46 rfl (lv_at hl 0 rfl) ?_
        refine ch_get S hw 0 (by decide) rfl rfl (by decide +kernel) 3 (by decide) (hts (.fieldLink RX6 31 "CodeHunt" "search" "LCodeHunt$Search;") (by decide +kernel)) rfl dX6_searchFor_47 ?_
        refine ch_bd_k h (fun r11 M12 hc h => ?_)
        cases r11
        refine ch_cv hw (va_runV (As := []) (rest := []) S (c_X4_begin l D I sh H.size M10  hc) (cwV 0 hts gX6_searchFor_X4_begin rfl rfl rfl (by decide +kernel) ⟨Nat.le_of_ble_eq_true rfl, Nat.le_of_ble_eq_true rfl⟩) (ch_pV hw (by decide) rfl rfl rfl) rfl rfl hl.1 rfl (lv_room (Nat.le_of_ble_eq_true rfl)) dX6_searchFor_50 ⟨Nat.le_refl 0, Nat.le_refl 0⟩) (fun H locs hw => ?_)
        refine lv_iconst (v := (0 : Int32)) hx hb dX6_searchFor_53 (by decide) ?_
        refine lv_istore_n (lv' := [(3, .int (0 : Int32)), (0, .ref (sh 0)), (1, .int x1), (2, .int x2)]) hx hb dX6_searchFor_54 rfl hl (by decide) rfl (fun ls hl => ?_)
        exact tl_X6_searchFor_55 S fin ch_fu _ _ _ _ _ _ h hw (lv_sub hl [1, 2, 0] rfl)
      · refine lv_bipush (v := (-3 : Int32)) hx hb dX6_searchFor_29 (by decide) ?_
        exact fin _ _ _ _ _ _ h hw dX6_searchFor_31
    · refine lv_bipush (v := (-2 : Int32)) hx hb dX6_searchFor_14 (by decide) ?_
      exact fin _ _ _ _ _ _ h hw dX6_searchFor_16
set_option maxHeartbeats 4000000 in
set_option maxRecDepth 100000 in
theorem c_X6_searchFor (l : Launch) (D : va_G) (I : ch_Id) (sh : Nat → Nat) (sz : Nat) (M : ch_Mem)  (x1 : Int32) (x2 : Int32) {r : Int32} {M1 : ch_Mem} (h : D_X6_searchFor x1 x2 M = some (r, M1)) : Met l yX6_searchFor wsX6_searchFor rm_X6_searchFor (va_Pc [.ref (sh 0), .int x1, .int x2] (ch_Pre D I 40 (ch_FC I sh) sh sz M)) (va_Qi (fun r' (u : ch_Mem) => r' = r ∧ u = M1) (ch_Pos D 40 (ch_FC I sh) sh) (ch_A 40 sh sz)) 0 0 (ch_A 40 sh sz) := by
  refine Met.ofW (cc := cX6_searchFor) (maxL := 9) (ret := (some .int)) (by decide) rfl ?_
  intro p e s m args below meth c s₁ B hml hv0
  obtain ⟨rfl, hv0⟩ := hv0
  obtain rfl : s.heap.size = sz := hv0.1
  have hw := ch_start hv0
  have S : CallFix p m c cX6_searchFor 9 s _ wsX6_searchFor RX6 := ⟨B.exec, B.bytes, hml, findClass_of_methodNamed B.named, atoms_spec (ws := wsX6_searchFor) B.pre⟩
  have hl := lv_entry ([.ref (sh 0), .int x1, .int x2]) (n := 9) (Nat.le_of_ble_eq_true rfl)
  rw [lg_entry_eq]
  generalize (lg_sl ([.ref (sh 0), .int x1, .int x2]) ++ List.replicate (9 - (lg_sl ([.ref (sh 0), .int x1, .int x2])).length) Slot.unset).toArray = ls at hl ⊢
  exact t_X6_searchFor_0 S (ch_finI (B := fun _ => True) B.exec B.bytes B.returns B.notSynchronized) h hw (lv_sub hl [0, 1, 2] rfl)
set_option maxHeartbeats 4000000 in
set_option maxRecDepth 100000 in
theorem t_X6_power_0 {p : Program} {l : Launch} {e : Env} {s : State} {m : MethodId} {args : Array Value} {below : List Frame} {meth : Method} {c : Code} {Q : State → Prop} {D : va_G} {I : ch_Id} {sh : Nat → Nat} {A : Nat → Prop} {oo : Int64 × ch_Mem}     (S : CallFix p m c cX6_power 4 s args wsX6_power RX6) (fin : ch_FinL p l e rm_X6_power s m args below meth c cX6_power Q D I 40 (ch_FC I sh) sh A oo)  {x1 : Int32} {x2 : Int32}  {M : ch_Mem} {H : Heap} {locs : List Loc} {ls : Array Slot} (h : D_X6_power x1 x2 M = some oo) (hw : ch_Wd D I 40 (ch_FC I sh) sh s A M H locs) (hl : lv_has ls 4 [(0, .ref (sh 0)), (1, .int x1), (2, .int x2)]) : W p l e rm_X6_power s m args below meth c H locs 0 0 Q (F0 m 0 ls []) := by
  obtain ⟨hx, hb, hml, hown, hts⟩ := id S
  unfold D_X6_power at h
  refine lv_aload_n hx hb dX6_power_0 rfl (lv_at hl 0 rfl) ?_
  refine lv_iload_n hx hb dX6_power_1 rfl (lv_at hl 1 rfl) ?_
  refine lv_iload_n hx hb dX6_power_2 rfl (lv_at hl 2 rfl) ?_
  refine ch_bd_k h (fun r1 M2 hc h => ?_)
  refine ch_ci hw (va_runV (As := [.int x1, .int x2]) (rest := []) S (c_X6_searchFor l D I sh H.size M x1 x2 hc) (cwV 2 hts gX6_power_X6_searchFor rfl rfl rfl (by decide +kernel) ⟨Nat.le_of_ble_eq_true rfl, Nat.le_of_ble_eq_true rfl⟩) (ch_pV hw (by decide) rfl rfl rfl) rfl rfl hl.1 rfl (lv_room (Nat.le_of_ble_eq_true rfl)) dX6_power_3 ⟨Nat.le_refl 0, Nat.le_refl 0⟩) (fun H locs hw => ?_)
  refine lv_istore_n (lv' := [(3, .int r1), (0, .ref (sh 0)), (1, .int x1), (2, .int x2)]) hx hb dX6_power_6 rfl hl (by decide) rfl (fun ls hl => ?_)
  refine lv_iload_n hx hb dX6_power_7 rfl (lv_at hl 0 rfl) ?_
  refine ch_if_ne (tgt := 21) hx hb dX6_power_8 (by decide) h (fun h => ?_) (fun h => ?_)
  · refine lv_ldc2 (v := (-9223372036854775808 : Int64)) hx hb hown (hts (.constantLong RX6 176 (-9223372036854775808)) (by decide +kernel)) dX6_power_21 ?_
    refine lv_iload_n hx hb dX6_power_24 rfl (lv_at hl 0 rfl) ?_
    refine lv_i2l hx hb dX6_power_25 rfl ?_
    refine lv_lsub hx hb dX6_power_26 ?_
    exact fin _ _ _ _ _ _ h hw dX6_power_27
  · refine lv_aload_n hx hb dX6_power_11 rfl (lv_at hl 1 rfl) ?_
    refine ch_get S hw 0 (by decide) rfl rfl (by decide +kernel) 3 (by decide) (hts (.fieldLink RX6 31 "CodeHunt" "search" "LCodeHunt$Search;") (by decide +kernel)) rfl dX6_power_12 ?_
    refine ch_getN S hw 4 (by decide) rfl rfl (by decide +kernel) 0 (by decide) (ch_nw hw 5 rfl) rfl dX6_power_15 ?_
    refine lv_goto (tgt := 27) hx hb dX6_power_18 (by decide) ?_
    exact fin _ _ _ _ _ _ h hw dX6_power_27
set_option maxHeartbeats 4000000 in
set_option maxRecDepth 100000 in
theorem c_X6_power (l : Launch) (D : va_G) (I : ch_Id) (sh : Nat → Nat) (sz : Nat) (M : ch_Mem)  (x1 : Int32) (x2 : Int32) {r : Int64} {M1 : ch_Mem} (h : D_X6_power x1 x2 M = some (r, M1)) : Met l yX6_power wsX6_power rm_X6_power (va_Pc [.ref (sh 0), .int x1, .int x2] (ch_Pre D I 40 (ch_FC I sh) sh sz M)) (va_Ql (fun r' (u : ch_Mem) => r' = r ∧ u = M1) (ch_Pos D 40 (ch_FC I sh) sh) (ch_A 40 sh sz)) 0 0 (ch_A 40 sh sz) := by
  refine Met.ofW (cc := cX6_power) (maxL := 4) (ret := (some .long)) (by decide) rfl ?_
  intro p e s m args below meth c s₁ B hml hv0
  obtain ⟨rfl, hv0⟩ := hv0
  obtain rfl : s.heap.size = sz := hv0.1
  have hw := ch_start hv0
  have S : CallFix p m c cX6_power 4 s _ wsX6_power RX6 := ⟨B.exec, B.bytes, hml, findClass_of_methodNamed B.named, atoms_spec (ws := wsX6_power) B.pre⟩
  have hl := lv_entry ([.ref (sh 0), .int x1, .int x2]) (n := 4) (Nat.le_of_ble_eq_true rfl)
  rw [lg_entry_eq]
  generalize (lg_sl ([.ref (sh 0), .int x1, .int x2]) ++ List.replicate (4 - (lg_sl ([.ref (sh 0), .int x1, .int x2])).length) Slot.unset).toArray = ls at hl ⊢
  exact t_X6_power_0 S (ch_finL B.exec B.bytes B.returns B.notSynchronized) h hw (lv_sub hl [0, 1, 2] rfl)
set_option maxHeartbeats 4000000 in
set_option maxRecDepth 100000 in
theorem t_X6_put_0 {p : Program} {l : Launch} {e : Env} {s : State} {m : MethodId} {args : Array Value} {below : List Frame} {meth : Method} {c : Code} {Q : State → Prop} {D : va_G} {I : ch_Id} {sh : Nat → Nat} {A : Nat → Prop} {oo : Int32 × ch_Mem}     (S : CallFix p m c cX6_put 6 s args wsX6_put RX6) (fin : ch_FinI p l e rm_X6_put s m args below meth c cX6_put Q D I 40 (ch_FC I sh) sh A oo)  {x1 : Int32} {x2 : Int32} {x3 : Int32} {x4 : Int32}  {M : ch_Mem} {H : Heap} {locs : List Loc} {ls : Array Slot} (h : D_X6_put x1 x2 x3 x4 M = some oo) (hw : ch_Wd D I 40 (ch_FC I sh) sh s A M H locs) (hl : lv_has ls 6 [(0, .ref (sh 0)), (1, .int x1), (2, .int x2), (3, .int x3), (4, .int x4)]) : W p l e rm_X6_put s m args below meth c H locs 0 0 Q (F0 m 0 ls []) := by
  obtain ⟨hx, hb, hml, hown, hts⟩ := id S
  unfold D_X6_put at h
  refine lv_iload_n hx hb dX6_put_0 rfl (lv_at hl 1 rfl) ?_
  refine ch_bd_k h (fun r1 M2 hc h => ?_)
  refine ch_ci hw (va_runS (As := [.int x1]) (rest := []) S (c_X6_isReel l D I sh H.size M x1 hc) (va_cwS 1 hts gX6_put_X6_isReel rfl rfl rfl (by decide +kernel) ⟨Nat.le_of_ble_eq_true rfl, Nat.le_of_ble_eq_true rfl⟩) (ch_pS hw) rfl rfl hl.1 rfl (lv_room (Nat.le_of_ble_eq_true rfl)) dX6_put_1 ⟨Nat.le_refl 0, Nat.le_refl 0⟩) (fun H locs hw => ?_)
  refine ch_if_eq (tgt := 14) hx hb dX6_put_4 (by decide) h (fun h => ?_) (fun h => ?_)
  · refine lv_bipush (v := (-2 : Int32)) hx hb dX6_put_14 (by decide) ?_
    exact fin _ _ _ _ _ _ h hw dX6_put_16
  · refine lv_iload_n hx hb dX6_put_7 rfl (lv_at hl 2 rfl) ?_
    refine ch_bd_k h (fun r3 M4 hc h => ?_)
    refine ch_ci hw (va_runS (As := [.int x2]) (rest := []) S (c_X6_isForm l D I sh H.size M2 x2 hc) (va_cwS 1 hts gX6_put_X6_isForm rfl rfl rfl (by decide +kernel) ⟨Nat.le_of_ble_eq_true rfl, Nat.le_of_ble_eq_true rfl⟩) (ch_pS hw) rfl rfl hl.1 rfl (lv_room (Nat.le_of_ble_eq_true rfl)) dX6_put_8 ⟨Nat.le_refl 0, Nat.le_refl 0⟩) (fun H locs hw => ?_)
    refine ch_if_ne (tgt := 17) hx hb dX6_put_11 (by decide) h (fun h => ?_) (fun h => ?_)
    · refine lv_aload_n hx hb dX6_put_17 rfl (lv_at hl 0 rfl) ?_
      refine ch_get S hw 0 (by decide) rfl rfl (by decide +kernel) 1 (by decide) (hts (.fieldLink RX6 17 "CodeHunt" "reels" "[LCodeHunt$Reel;") (by decide +kernel)) rfl dX6_put_18 ?_
      refine lv_iload_n hx hb dX6_put_21 rfl (lv_at hl 1 rfl) ?_
      refine ch_gd_k h (fun hin h => ?_)
      have hlt5 := ch_in_lt hin
      refine ch_reels S hw hin dX6_put_22 ?_
      refine lv_iload_n hx hb dX6_put_23 rfl (lv_at hl 2 rfl) ?_
      refine lv_iload_n hx hb dX6_put_24 rfl (lv_at hl 3 rfl) ?_
      refine ch_bd_k h (fun r6 M7 hc h => ?_)
      refine ch_ci hw (va_runV (As := [.int x2, .int x3]) (rest := []) S (c_X2_troubleAt l D I sh H.size M4 (23 + x1.toNatClampNeg) (by omega) x2 x3 hc) (cwV 2 hts gX6_put_X2_troubleAt rfl rfl rfl (by decide +kernel) ⟨Nat.le_of_ble_eq_true rfl, Nat.le_of_ble_eq_true rfl⟩) (ch_pV hw (by omega) (ch_FC_reel (by omega)) rfl rfl) rfl rfl hl.1 rfl (lv_room (Nat.le_of_ble_eq_true rfl)) dX6_put_25 ⟨Nat.le_refl 0, Nat.le_refl 0⟩) (fun H locs hw => ?_)
      refine lv_istore (lv' := [(5, .int r6), (0, .ref (sh 0)), (1, .int x1), (2, .int x2), (3, .int x3), (4, .int x4)]) hx hb dX6_put_28 hl (by decide) rfl (fun ls hl => ?_)
      refine lv_iload hx hb dX6_put_30 (lv_at hl 0 rfl) ?_
      refine ch_if_eq (tgt := 42) hx hb dX6_put_32 (by decide) h (fun h => ?_) (fun h => ?_)
      · refine lv_aload_n hx hb dX6_put_42 rfl (lv_at hl 1 rfl) ?_
        refine ch_get S hw 0 (by decide) rfl rfl (by decide +kernel) 1 (by decide) (hts (.fieldLink RX6 17 "CodeHunt" "reels" "[LCodeHunt$Reel;") (by decide +kernel)) rfl dX6_put_43 ?_
        refine lv_iload_n hx hb dX6_put_46 rfl (lv_at hl 2 rfl) ?_
        refine ch_gd_k h (fun hin h => ?_)
        have hlt8 := ch_in_lt hin
        refine ch_reels S hw hin dX6_put_47 ?_
        refine lv_iload_n hx hb dX6_put_48 rfl (lv_at hl 4 rfl) ?_
        refine lv_iload hx hb dX6_put_49 (lv_at hl 5 rfl) ?_
        refine ch_bd_k h (fun r9 M10 hc h => ?_)
        cases r9
        refine ch_cv hw (va_runV (As := [.int x3, .int x4]) (rest := []) S (c_X2_keep l D I sh H.size M7 (23 + x1.toNatClampNeg) (by omega) x3 x4 hc) (cwV 2 hts gX6_put_X2_keep rfl rfl rfl (by decide +kernel) ⟨Nat.le_of_ble_eq_true rfl, Nat.le_of_ble_eq_true rfl⟩) (ch_pV hw (by omega) (ch_FC_reel (by omega)) rfl rfl) rfl rfl hl.1 rfl (lv_room (Nat.le_of_ble_eq_true rfl)) dX6_put_51 ⟨Nat.le_refl 0, Nat.le_refl 0⟩) (fun H locs hw => ?_)
        refine lv_iconst (v := (1 : Int32)) hx hb dX6_put_54 (by decide) ?_
        exact fin _ _ _ _ _ _ h hw dX6_put_55
      · refine lv_aload_n hx hb dX6_put_35 rfl (lv_at hl 1 rfl) ?_
        refine lv_iload hx hb dX6_put_36 (lv_at hl 0 rfl) ?_
        refine ch_bd_k h (fun r11 M12 hc h => ?_)
        refine ch_ci hw (va_runV (As := [.int r6]) (rest := []) S (c_X6_found l D I sh H.size M7 r6 hc) (cwV 1 hts gX6_put_X6_found rfl rfl rfl (by decide +kernel) ⟨Nat.le_of_ble_eq_true rfl, Nat.le_of_ble_eq_true rfl⟩) (ch_pV hw (by decide) rfl rfl rfl) rfl rfl hl.1 rfl (lv_room (Nat.le_of_ble_eq_true rfl)) dX6_put_38 ⟨Nat.le_refl 0, Nat.le_refl 0⟩) (fun H locs hw => ?_)
        exact fin _ _ _ _ _ _ h hw dX6_put_41
    · refine lv_bipush (v := (-2 : Int32)) hx hb dX6_put_14 (by decide) ?_
      exact fin _ _ _ _ _ _ h hw dX6_put_16
set_option maxHeartbeats 4000000 in
set_option maxRecDepth 100000 in
theorem c_X6_put (l : Launch) (D : va_G) (I : ch_Id) (sh : Nat → Nat) (sz : Nat) (M : ch_Mem)  (x1 : Int32) (x2 : Int32) (x3 : Int32) (x4 : Int32) {r : Int32} {M1 : ch_Mem} (h : D_X6_put x1 x2 x3 x4 M = some (r, M1)) : Met l yX6_put wsX6_put rm_X6_put (va_Pc [.ref (sh 0), .int x1, .int x2, .int x3, .int x4] (ch_Pre D I 40 (ch_FC I sh) sh sz M)) (va_Qi (fun r' (u : ch_Mem) => r' = r ∧ u = M1) (ch_Pos D 40 (ch_FC I sh) sh) (ch_A 40 sh sz)) 0 0 (ch_A 40 sh sz) := by
  refine Met.ofW (cc := cX6_put) (maxL := 6) (ret := (some .int)) (by decide) rfl ?_
  intro p e s m args below meth c s₁ B hml hv0
  obtain ⟨rfl, hv0⟩ := hv0
  obtain rfl : s.heap.size = sz := hv0.1
  have hw := ch_start hv0
  have S : CallFix p m c cX6_put 6 s _ wsX6_put RX6 := ⟨B.exec, B.bytes, hml, findClass_of_methodNamed B.named, atoms_spec (ws := wsX6_put) B.pre⟩
  have hl := lv_entry ([.ref (sh 0), .int x1, .int x2, .int x3, .int x4]) (n := 6) (Nat.le_of_ble_eq_true rfl)
  rw [lg_entry_eq]
  generalize (lg_sl ([.ref (sh 0), .int x1, .int x2, .int x3, .int x4]) ++ List.replicate (6 - (lg_sl ([.ref (sh 0), .int x1, .int x2, .int x3, .int x4])).length) Slot.unset).toArray = ls at hl ⊢
  exact t_X6_put_0 S (ch_finI (B := fun _ => True) B.exec B.bytes B.returns B.notSynchronized) h hw (lv_sub hl [0, 1, 2, 3, 4] rfl)
set_option maxHeartbeats 4000000 in
set_option maxRecDepth 100000 in
theorem t_X6_range_0 {p : Program} {l : Launch} {e : Env} {s : State} {m : MethodId} {args : Array Value} {below : List Frame} {meth : Method} {c : Code} {Q : State → Prop} {D : va_G} {I : ch_Id} {sh : Nat → Nat} {A : Nat → Prop} {oo : Int64 × ch_Mem}     (S : CallFix p m c cX6_range 1 s args wsX6_range RX6) (fin : ch_FinL p l e rm_X6_range s m args below meth c cX6_range Q D I 40 (ch_FC I sh) sh A oo)    {M : ch_Mem} {H : Heap} {locs : List Loc} {ls : Array Slot} (h : D_X6_range  M = some oo) (hw : ch_Wd D I 40 (ch_FC I sh) sh s A M H locs) (hl : lv_has ls 1 [(0, .ref (sh 0))]) : W p l e rm_X6_range s m args below meth c H locs 0 0 Q (F0 m 0 ls []) := by
  obtain ⟨hx, hb, hml, hown, hts⟩ := id S
  unfold D_X6_range at h
  refine lv_aload_n hx hb dX6_range_0 rfl (lv_at hl 0 rfl) ?_
  refine ch_get S hw 0 (by decide) rfl rfl (by decide +kernel) 5 (by decide) (hts (.fieldLink RX6 45 "CodeHunt" "lengths" "LCodeHunt$Lengths;") (by decide +kernel)) rfl dX6_range_1 ?_
  refine ch_bd_k h (fun r1 M2 hc h => ?_)
  refine ch_cl hw (va_runV (As := []) (rest := []) S (c_X0_leastFitting l D I sh H.size M  hc) (cwV 0 hts gX6_range_X0_leastFitting rfl rfl rfl (by decide +kernel) ⟨Nat.le_of_ble_eq_true rfl, Nat.le_of_ble_eq_true rfl⟩) (ch_pV hw (by decide) rfl rfl rfl) rfl rfl hl.1 rfl (lv_room (Nat.le_of_ble_eq_true rfl)) dX6_range_4 ⟨Nat.le_refl 0, Nat.le_refl 0⟩) (fun H locs hw => ?_)
  exact fin _ _ _ _ _ _ h hw dX6_range_7
set_option maxHeartbeats 4000000 in
set_option maxRecDepth 100000 in
theorem c_X6_range (l : Launch) (D : va_G) (I : ch_Id) (sh : Nat → Nat) (sz : Nat) (M : ch_Mem)   {r : Int64} {M1 : ch_Mem} (h : D_X6_range  M = some (r, M1)) : Met l yX6_range wsX6_range rm_X6_range (va_Pc [.ref (sh 0)] (ch_Pre D I 40 (ch_FC I sh) sh sz M)) (va_Ql (fun r' (u : ch_Mem) => r' = r ∧ u = M1) (ch_Pos D 40 (ch_FC I sh) sh) (ch_A 40 sh sz)) 0 0 (ch_A 40 sh sz) := by
  refine Met.ofW (cc := cX6_range) (maxL := 1) (ret := (some .long)) (by decide) rfl ?_
  intro p e s m args below meth c s₁ B hml hv0
  obtain ⟨rfl, hv0⟩ := hv0
  obtain rfl : s.heap.size = sz := hv0.1
  have hw := ch_start hv0
  have S : CallFix p m c cX6_range 1 s _ wsX6_range RX6 := ⟨B.exec, B.bytes, hml, findClass_of_methodNamed B.named, atoms_spec (ws := wsX6_range) B.pre⟩
  have hl := lv_entry ([.ref (sh 0)]) (n := 1) (Nat.le_of_ble_eq_true rfl)
  rw [lg_entry_eq]
  generalize (lg_sl ([.ref (sh 0)]) ++ List.replicate (1 - (lg_sl ([.ref (sh 0)])).length) Slot.unset).toArray = ls at hl ⊢
  exact t_X6_range_0 S (ch_finL B.exec B.bytes B.returns B.notSynchronized) h hw (lv_sub hl [0] rfl)
set_option maxHeartbeats 4000000 in
set_option maxRecDepth 100000 in
theorem t_X6_reel_0 {p : Program} {l : Launch} {e : Env} {s : State} {m : MethodId} {args : Array Value} {below : List Frame} {meth : Method} {c : Code} {Q : State → Prop} {D : va_G} {I : ch_Id} {sh : Nat → Nat} {A : Nat → Prop} {oo : Int32 × ch_Mem}     (S : CallFix p m c cX6_reel 4 s args wsX6_reel RX6) (fin : ch_FinI p l e rm_X6_reel s m args below meth c cX6_reel Q D I 40 (ch_FC I sh) sh A oo)  {x1 : Int32} {x2 : Int32} {x3 : Int32}  {M : ch_Mem} {H : Heap} {locs : List Loc} {ls : Array Slot} (h : D_X6_reel x1 x2 x3 M = some oo) (hw : ch_Wd D I 40 (ch_FC I sh) sh s A M H locs) (hl : lv_has ls 4 [(0, .ref (sh 0)), (1, .int x1), (2, .int x2), (3, .int x3)]) : W p l e rm_X6_reel s m args below meth c H locs 0 0 Q (F0 m 0 ls []) := by
  obtain ⟨hx, hb, hml, hown, hts⟩ := id S
  unfold D_X6_reel at h
  refine lv_iload_n hx hb dX6_reel_0 rfl (lv_at hl 1 rfl) ?_
  refine ch_bd_k h (fun r1 M2 hc h => ?_)
  refine ch_ci hw (va_runS (As := [.int x1]) (rest := []) S (c_X6_isReel l D I sh H.size M x1 hc) (va_cwS 1 hts gX6_reel_X6_isReel rfl rfl rfl (by decide +kernel) ⟨Nat.le_of_ble_eq_true rfl, Nat.le_of_ble_eq_true rfl⟩) (ch_pS hw) rfl rfl hl.1 rfl (lv_room (Nat.le_of_ble_eq_true rfl)) dX6_reel_1 ⟨Nat.le_refl 0, Nat.le_refl 0⟩) (fun H locs hw => ?_)
  refine ch_if_eq (tgt := 21) hx hb dX6_reel_4 (by decide) h (fun h => ?_) (fun h => ?_)
  · refine lv_bipush (v := (-2 : Int32)) hx hb dX6_reel_21 (by decide) ?_
    exact fin _ _ _ _ _ _ h hw dX6_reel_23
  · refine lv_iload_n hx hb dX6_reel_7 rfl (lv_at hl 2 rfl) ?_
    refine ch_bd_k h (fun r3 M4 hc h => ?_)
    refine ch_ci hw (va_runS (As := [.int x2]) (rest := []) S (c_X6_isForm l D I sh H.size M2 x2 hc) (va_cwS 1 hts gX6_reel_X6_isForm rfl rfl rfl (by decide +kernel) ⟨Nat.le_of_ble_eq_true rfl, Nat.le_of_ble_eq_true rfl⟩) (ch_pS hw) rfl rfl hl.1 rfl (lv_room (Nat.le_of_ble_eq_true rfl)) dX6_reel_8 ⟨Nat.le_refl 0, Nat.le_refl 0⟩) (fun H locs hw => ?_)
    refine ch_if_eq (tgt := 21) hx hb dX6_reel_11 (by decide) h (fun h => ?_) (fun h => ?_)
    · refine lv_bipush (v := (-2 : Int32)) hx hb dX6_reel_21 (by decide) ?_
      exact fin _ _ _ _ _ _ h hw dX6_reel_23
    · refine lv_iload_n hx hb dX6_reel_14 rfl (lv_at hl 3 rfl) ?_
      refine lv_sipush (v := (300 : Int32)) hx hb dX6_reel_15 (by decide) ?_
      refine ch_icmp_le (tgt := 24) hx hb dX6_reel_18 (by decide) h (fun h => ?_) (fun h => ?_)
      · refine lv_iload_n hx hb dX6_reel_24 rfl (lv_at hl 3 rfl) ?_
        refine ch_if_ge (tgt := 34) hx hb dX6_reel_25 (by decide) h (fun h => ?_) (fun h => ?_)
        · refine lv_aload_n hx hb dX6_reel_34 rfl (lv_at hl 0 rfl) ?_
          refine ch_get S hw 0 (by decide) rfl rfl (by decide +kernel) 1 (by decide) (hts (.fieldLink RX6 17 "CodeHunt" "reels" "[LCodeHunt$Reel;") (by decide +kernel)) rfl dX6_reel_35 ?_
          refine lv_iload_n hx hb dX6_reel_38 rfl (lv_at hl 1 rfl) ?_
          refine ch_gd_k h (fun hin h => ?_)
          have hlt5 := ch_in_lt hin
          refine ch_reels S hw hin dX6_reel_39 ?_
          refine lv_iload_n hx hb dX6_reel_40 rfl (lv_at hl 2 rfl) ?_
          refine lv_iload_n hx hb dX6_reel_41 rfl (lv_at hl 3 rfl) ?_
          refine ch_bd_k h (fun r6 M7 hc h => ?_)
          cases r6
          refine ch_cv hw (va_runV (As := [.int x2, .int x3]) (rest := []) S (c_X2_renew l D I sh H.size M4 (23 + x1.toNatClampNeg) (by omega) x2 x3 hc) (cwV 2 hts gX6_reel_X2_renew rfl rfl rfl (by decide +kernel) ⟨Nat.le_of_ble_eq_true rfl, Nat.le_of_ble_eq_true rfl⟩) (ch_pV hw (by omega) (ch_FC_reel (by omega)) rfl rfl) rfl rfl hl.1 rfl (lv_room (Nat.le_of_ble_eq_true rfl)) dX6_reel_42 ⟨Nat.le_refl 0, Nat.le_refl 0⟩) (fun H locs hw => ?_)
          refine lv_iload_n hx hb dX6_reel_45 rfl (lv_at hl 3 rfl) ?_
          exact fin _ _ _ _ _ _ h hw dX6_reel_46
        · refine lv_aload_n hx hb dX6_reel_28 rfl (lv_at hl 0 rfl) ?_
          refine lv_iconst (v := (5 : Int32)) hx hb dX6_reel_29 (by decide) ?_
          refine ch_bd_k h (fun r8 M9 hc h => ?_)
          refine ch_ci hw (va_runV (As := [.int (5 : Int32)]) (rest := []) S (c_X6_found l D I sh H.size M4 (5 : Int32) hc) (cwV 1 hts gX6_reel_X6_found rfl rfl rfl (by decide +kernel) ⟨Nat.le_of_ble_eq_true rfl, Nat.le_of_ble_eq_true rfl⟩) (ch_pV hw (by decide) rfl rfl rfl) rfl rfl hl.1 rfl (lv_room (Nat.le_of_ble_eq_true rfl)) dX6_reel_30 ⟨Nat.le_refl 0, Nat.le_refl 0⟩) (fun H locs hw => ?_)
          exact fin _ _ _ _ _ _ h hw dX6_reel_33
      · refine lv_bipush (v := (-2 : Int32)) hx hb dX6_reel_21 (by decide) ?_
        exact fin _ _ _ _ _ _ h hw dX6_reel_23
set_option maxHeartbeats 4000000 in
set_option maxRecDepth 100000 in
theorem c_X6_reel (l : Launch) (D : va_G) (I : ch_Id) (sh : Nat → Nat) (sz : Nat) (M : ch_Mem)  (x1 : Int32) (x2 : Int32) (x3 : Int32) {r : Int32} {M1 : ch_Mem} (h : D_X6_reel x1 x2 x3 M = some (r, M1)) : Met l yX6_reel wsX6_reel rm_X6_reel (va_Pc [.ref (sh 0), .int x1, .int x2, .int x3] (ch_Pre D I 40 (ch_FC I sh) sh sz M)) (va_Qi (fun r' (u : ch_Mem) => r' = r ∧ u = M1) (ch_Pos D 40 (ch_FC I sh) sh) (ch_A 40 sh sz)) 0 0 (ch_A 40 sh sz) := by
  refine Met.ofW (cc := cX6_reel) (maxL := 4) (ret := (some .int)) (by decide) rfl ?_
  intro p e s m args below meth c s₁ B hml hv0
  obtain ⟨rfl, hv0⟩ := hv0
  obtain rfl : s.heap.size = sz := hv0.1
  have hw := ch_start hv0
  have S : CallFix p m c cX6_reel 4 s _ wsX6_reel RX6 := ⟨B.exec, B.bytes, hml, findClass_of_methodNamed B.named, atoms_spec (ws := wsX6_reel) B.pre⟩
  have hl := lv_entry ([.ref (sh 0), .int x1, .int x2, .int x3]) (n := 4) (Nat.le_of_ble_eq_true rfl)
  rw [lg_entry_eq]
  generalize (lg_sl ([.ref (sh 0), .int x1, .int x2, .int x3]) ++ List.replicate (4 - (lg_sl ([.ref (sh 0), .int x1, .int x2, .int x3])).length) Slot.unset).toArray = ls at hl ⊢
  exact t_X6_reel_0 S (ch_finI (B := fun _ => True) B.exec B.bytes B.returns B.notSynchronized) h hw (lv_sub hl [0, 1, 2, 3] rfl)
