set_option maxHeartbeats 4000000 in
set_option maxRecDepth 100000 in
theorem t_X6_rowsThatAre_25 {p : Program} {l : Launch} {e : Env} {s : State} {m : MethodId} {args : Array Value} {below : List Frame} {meth : Method} {c : Code} {Q : State → Prop} {D : va_G} {I : ch_Id} {sh : Nat → Nat} {A : Nat → Prop} {oo : Int32 × ch_Mem}    {k4 : Int32 → Int32 → ch_Mem → Option (Int32 × ch_Mem)} (S : CallFix p m c cX6_rowsThatAre 3 s args wsX6_rowsThatAre RX6) (fin : ch_FinI p l e rm_X6_rowsThatAre s m args below meth c cX6_rowsThatAre Q D I 40 (ch_FC I sh) sh A oo) (hk4 : ∀ (x1 : Int32) (x2 : Int32) (M : ch_Mem) (H : Heap) (locs : List Loc) (ls : Array Slot), k4 x1 x2 M = some oo → ch_Wd D I 40 (ch_FC I sh) sh s A M H locs → lv_has ls 3 [(0, .ref (sh 0)), (1, .int x1), (2, .int x2)] → W p l e rm_X6_rowsThatAre s m args below meth c H locs 0 0 Q (F0 m 4 ls [])) {x1 : Int32} {x2 : Int32}  {M : ch_Mem} {H : Heap} {locs : List Loc} {ls : Array Slot} (h : D_X6_rowsThatAre_b25 k4 x1 x2 M = some oo) (hw : ch_Wd D I 40 (ch_FC I sh) sh s A M H locs) (hl : lv_has ls 3 [(0, .ref (sh 0)), (1, .int x1), (2, .int x2)]) : W p l e rm_X6_rowsThatAre s m args below meth c H locs 0 0 Q (F0 m 25 ls []) := by
  obtain ⟨hx, hb, hml, hown, hts⟩ := id S
  unfold D_X6_rowsThatAre_b25 at h
  refine lv_iinc (v := x2 + (1 : Int32)) (lv' := [(2, .int (x2 + (1 : Int32))), (0, .ref (sh 0)), (1, .int x1)]) hx hb dX6_rowsThatAre_25 hl (k := 2) rfl rfl (by decide) rfl (fun ls hl => ?_)
  refine lv_goto (tgt := 4) hx hb dX6_rowsThatAre_28 (by decide) ?_
  exact hk4 _ _ _ _ _ _  h hw (lv_sub hl [1, 2, 0] rfl)
set_option maxHeartbeats 4000000 in
set_option maxRecDepth 100000 in
theorem t_X6_rowsThatAre_31 {p : Program} {l : Launch} {e : Env} {s : State} {m : MethodId} {args : Array Value} {below : List Frame} {meth : Method} {c : Code} {Q : State → Prop} {D : va_G} {I : ch_Id} {sh : Nat → Nat} {A : Nat → Prop} {oo : Int32 × ch_Mem}     (S : CallFix p m c cX6_rowsThatAre 3 s args wsX6_rowsThatAre RX6) (fin : ch_FinI p l e rm_X6_rowsThatAre s m args below meth c cX6_rowsThatAre Q D I 40 (ch_FC I sh) sh A oo)  {x1 : Int32}  {M : ch_Mem} {H : Heap} {locs : List Loc} {ls : Array Slot} (h : D_X6_rowsThatAre_b31 x1 M = some oo) (hw : ch_Wd D I 40 (ch_FC I sh) sh s A M H locs) (hl : lv_has ls 3 [(1, .int x1)]) : W p l e rm_X6_rowsThatAre s m args below meth c H locs 0 0 Q (F0 m 31 ls []) := by
  obtain ⟨hx, hb, hml, hown, hts⟩ := id S
  unfold D_X6_rowsThatAre_b31 at h
  refine lv_iload_n hx hb dX6_rowsThatAre_31 rfl (lv_at hl 0 rfl) ?_
  exact fin _ _ _ _ _ _ h hw dX6_rowsThatAre_32
set_option maxHeartbeats 4000000 in
set_option maxRecDepth 100000 in
theorem t_X6_rowsThatAre_4 {p : Program} {l : Launch} {e : Env} {s : State} {m : MethodId} {args : Array Value} {below : List Frame} {meth : Method} {c : Code} {Q : State → Prop} {D : va_G} {I : ch_Id} {sh : Nat → Nat} {A : Nat → Prop} {oo : Int32 × ch_Mem}    {k4 : Int32 → Int32 → ch_Mem → Option (Int32 × ch_Mem)} (S : CallFix p m c cX6_rowsThatAre 3 s args wsX6_rowsThatAre RX6) (fin : ch_FinI p l e rm_X6_rowsThatAre s m args below meth c cX6_rowsThatAre Q D I 40 (ch_FC I sh) sh A oo) (hk4 : ∀ (x1 : Int32) (x2 : Int32) (M : ch_Mem) (H : Heap) (locs : List Loc) (ls : Array Slot), k4 x1 x2 M = some oo → ch_Wd D I 40 (ch_FC I sh) sh s A M H locs → lv_has ls 3 [(0, .ref (sh 0)), (1, .int x1), (2, .int x2)] → W p l e rm_X6_rowsThatAre s m args below meth c H locs 0 0 Q (F0 m 4 ls [])) {x1 : Int32} {x2 : Int32}  {M : ch_Mem} {H : Heap} {locs : List Loc} {ls : Array Slot} (h : D_X6_rowsThatAre_b4 k4 x1 x2 M = some oo) (hw : ch_Wd D I 40 (ch_FC I sh) sh s A M H locs) (hl : lv_has ls 3 [(0, .ref (sh 0)), (1, .int x1), (2, .int x2)]) : W p l e rm_X6_rowsThatAre s m args below meth c H locs 0 0 Q (F0 m 4 ls []) := by
  obtain ⟨hx, hb, hml, hown, hts⟩ := id S
  unfold D_X6_rowsThatAre_b4 at h
  refine lv_iload_n hx hb dX6_rowsThatAre_4 rfl (lv_at hl 2 rfl) ?_
  refine lv_bipush (v := (8 : Int32)) hx hb dX6_rowsThatAre_5 (by decide) ?_
  refine ch_icmp_ge (tgt := 31) hx hb dX6_rowsThatAre_7 (by decide) h (fun h => ?_) (fun h => ?_)
  · exact t_X6_rowsThatAre_31 S fin h hw (lv_sub hl [1] rfl)
  · refine lv_aload_n hx hb dX6_rowsThatAre_10 rfl (lv_at hl 0 rfl) ?_
    refine ch_get S hw 0 (by decide) rfl rfl (by decide +kernel) 0 (by decide) (hts (.fieldLink RX6 11 "CodeHunt" "rows" "[LCodeHunt$Row;") (by decide +kernel)) rfl dX6_rowsThatAre_11 ?_
    refine lv_iload_n hx hb dX6_rowsThatAre_14 rfl (lv_at hl 2 rfl) ?_
    refine ch_gd_k h (fun hin h => ?_)
    have hlt1 := ch_in_lt hin
    refine ch_rows S hw hin dX6_rowsThatAre_15 ?_
    refine ch_bd_k h (fun r2 M3 hc h => ?_)
    refine ch_ci hw (va_runV (As := []) (rest := []) S (c_X3_isNone l D I sh H.size M (7 + x2.toNatClampNeg) (by omega) hc) (cwV 0 hts gX6_rowsThatAre_X3_isNone rfl rfl rfl (by decide +kernel) ⟨Nat.le_of_ble_eq_true rfl, Nat.le_of_ble_eq_true rfl⟩) (ch_pV hw (by omega) (ch_FC_row (by omega)) rfl rfl) rfl rfl hl.1 rfl (lv_room (Nat.le_of_ble_eq_true rfl)) dX6_rowsThatAre_16 ⟨Nat.le_refl 0, Nat.le_refl 0⟩) (fun H locs hw => ?_)
    refine ch_if_ne (tgt := 25) hx hb dX6_rowsThatAre_19 (by decide) h (fun h => ?_) (fun h => ?_)
    · exact t_X6_rowsThatAre_25 S fin hk4 h hw (lv_sub hl [0, 1, 2] rfl)
    · refine lv_iinc (v := x1 + (1 : Int32)) (lv' := [(1, .int (x1 + (1 : Int32))), (0, .ref (sh 0)), (2, .int x2)]) hx hb dX6_rowsThatAre_22 hl (k := 1) rfl rfl (by decide) rfl (fun ls hl => ?_)
      exact t_X6_rowsThatAre_25 S fin hk4 h hw (lv_sub hl [1, 0, 2] rfl)
set_option maxHeartbeats 4000000 in
set_option maxRecDepth 100000 in
theorem tl_X6_rowsThatAre_4 {p : Program} {l : Launch} {e : Env} {s : State} {m : MethodId} {args : Array Value} {below : List Frame} {meth : Method} {c : Code} {Q : State → Prop} {D : va_G} {I : ch_Id} {sh : Nat → Nat} {A : Nat → Prop} {oo : Int32 × ch_Mem}     (S : CallFix p m c cX6_rowsThatAre 3 s args wsX6_rowsThatAre RX6) (fin : ch_FinI p l e rm_X6_rowsThatAre s m args below meth c cX6_rowsThatAre Q D I 40 (ch_FC I sh) sh A oo)  (n : Nat) : ∀ (x1 : Int32) (x2 : Int32) (M : ch_Mem) (H : Heap) (locs : List Loc) (ls : Array Slot), D_X6_rowsThatAre_L4  n x1 x2 M = some oo → ch_Wd D I 40 (ch_FC I sh) sh s A M H locs → lv_has ls 3 [(0, .ref (sh 0)), (1, .int x1), (2, .int x2)] → W p l e rm_X6_rowsThatAre s m args below meth c H locs 0 0 Q (F0 m 4 ls []) := by
  induction n with
  | zero => intro x1 x2 M H locs ls  h; cases h
  | succ n ih =>
    intro x1 x2 M H locs ls  h hw hl
    exact t_X6_rowsThatAre_4 S fin ih h hw hl
set_option maxHeartbeats 4000000 in
set_option maxRecDepth 100000 in
theorem t_X6_rowsThatAre_0 {p : Program} {l : Launch} {e : Env} {s : State} {m : MethodId} {args : Array Value} {below : List Frame} {meth : Method} {c : Code} {Q : State → Prop} {D : va_G} {I : ch_Id} {sh : Nat → Nat} {A : Nat → Prop} {oo : Int32 × ch_Mem}     (S : CallFix p m c cX6_rowsThatAre 3 s args wsX6_rowsThatAre RX6) (fin : ch_FinI p l e rm_X6_rowsThatAre s m args below meth c cX6_rowsThatAre Q D I 40 (ch_FC I sh) sh A oo)    {M : ch_Mem} {H : Heap} {locs : List Loc} {ls : Array Slot} (h : D_X6_rowsThatAre  M = some oo) (hw : ch_Wd D I 40 (ch_FC I sh) sh s A M H locs) (hl : lv_has ls 3 [(0, .ref (sh 0))]) : W p l e rm_X6_rowsThatAre s m args below meth c H locs 0 0 Q (F0 m 0 ls []) := by
  obtain ⟨hx, hb, hml, hown, hts⟩ := id S
  unfold D_X6_rowsThatAre at h
  refine lv_iconst (v := (0 : Int32)) hx hb dX6_rowsThatAre_0 (by decide) ?_
  refine lv_istore_n (lv' := [(1, .int (0 : Int32)), (0, .ref (sh 0))]) hx hb dX6_rowsThatAre_1 rfl hl (by decide) rfl (fun ls hl => ?_)
  refine lv_iconst (v := (0 : Int32)) hx hb dX6_rowsThatAre_2 (by decide) ?_
  refine lv_istore_n (lv' := [(2, .int (0 : Int32)), (1, .int (0 : Int32)), (0, .ref (sh 0))]) hx hb dX6_rowsThatAre_3 rfl hl (by decide) rfl (fun ls hl => ?_)
  exact tl_X6_rowsThatAre_4 S fin ch_fu _ _ _ _ _ _ h hw (lv_sub hl [2, 1, 0] rfl)
set_option maxHeartbeats 4000000 in
set_option maxRecDepth 100000 in
theorem c_X6_rowsThatAre (l : Launch) (D : va_G) (I : ch_Id) (sh : Nat → Nat) (sz : Nat) (M : ch_Mem)   {r : Int32} {M1 : ch_Mem} (h : D_X6_rowsThatAre  M = some (r, M1)) : Met l yX6_rowsThatAre wsX6_rowsThatAre rm_X6_rowsThatAre (va_Pc [.ref (sh 0)] (ch_Pre D I 40 (ch_FC I sh) sh sz M)) (va_Qi (fun r' (u : ch_Mem) => r' = r ∧ u = M1) (ch_Pos D 40 (ch_FC I sh) sh) (ch_A 40 sh sz)) 0 0 (ch_A 40 sh sz) := by
  refine Met.ofW (cc := cX6_rowsThatAre) (maxL := 3) (ret := (some .int)) (by decide) rfl ?_
  intro p e s m args below meth c s₁ B hml hv0
  obtain ⟨rfl, hv0⟩ := hv0
  obtain rfl : s.heap.size = sz := hv0.1
  have hw := ch_start hv0
  have S : CallFix p m c cX6_rowsThatAre 3 s _ wsX6_rowsThatAre RX6 := ⟨B.exec, B.bytes, hml, findClass_of_methodNamed B.named, atoms_spec (ws := wsX6_rowsThatAre) B.pre⟩
  have hl := lv_entry ([.ref (sh 0)]) (n := 3) (Nat.le_of_ble_eq_true rfl)
  rw [lg_entry_eq]
  generalize (lg_sl ([.ref (sh 0)]) ++ List.replicate (3 - (lg_sl ([.ref (sh 0)])).length) Slot.unset).toArray = ls at hl ⊢
  exact t_X6_rowsThatAre_0 S (ch_finI (B := fun _ => True) B.exec B.bytes B.returns B.notSynchronized) h hw (lv_sub hl [0] rfl)
set_option maxHeartbeats 4000000 in
set_option maxRecDepth 100000 in
theorem t_X6_count_0 {p : Program} {l : Launch} {e : Env} {s : State} {m : MethodId} {args : Array Value} {below : List Frame} {meth : Method} {c : Code} {Q : State → Prop} {D : va_G} {I : ch_Id} {sh : Nat → Nat} {A : Nat → Prop} {oo : Int32 × ch_Mem}     (S : CallFix p m c cX6_count 2 s args wsX6_count RX6) (fin : ch_FinI p l e rm_X6_count s m args below meth c cX6_count Q D I 40 (ch_FC I sh) sh A oo)  {x1 : Int32}  {M : ch_Mem} {H : Heap} {locs : List Loc} {ls : Array Slot} (h : D_X6_count x1 M = some oo) (hw : ch_Wd D I 40 (ch_FC I sh) sh s A M H locs) (hl : lv_has ls 2 [(0, .ref (sh 0)), (1, .int x1)]) : W p l e rm_X6_count s m args below meth c H locs 0 0 Q (F0 m 0 ls []) := by
  obtain ⟨hx, hb, hml, hown, hts⟩ := id S
  unfold D_X6_count at h
  refine lv_iload_n hx hb dX6_count_0 rfl (lv_at hl 1 rfl) ?_
  refine ch_if_k h (fun hq0 h => ?_) (fun hq0 h => ?_)
  · refine lv_tableIn (off := 35) (tgt := 36) hx hb dX6_count_1 (by rw [hq0]; decide) (by rw [hq0]; decide) (by rw [hq0]; rfl) (by decide) ?_
    refine lv_aload_n hx hb dX6_count_36 rfl (lv_at hl 0 rfl) ?_
    refine ch_bd_k h (fun r1 M2 hc h => ?_)
    refine ch_ci hw (va_runV (As := []) (rest := []) S (c_X6_rowsThatAre l D I sh H.size M  hc) (cwV 0 hts gX6_count_X6_rowsThatAre rfl rfl rfl (by decide +kernel) ⟨Nat.le_of_ble_eq_true rfl, Nat.le_of_ble_eq_true rfl⟩) (ch_pV hw (by decide) rfl rfl rfl) rfl rfl hl.1 rfl (lv_room (Nat.le_of_ble_eq_true rfl)) dX6_count_37 ⟨Nat.le_refl 0, Nat.le_refl 0⟩) (fun H locs hw => ?_)
    exact fin _ _ _ _ _ _ h hw dX6_count_40
  · skip
    refine ch_if_k h (fun hq1 h => ?_) (fun hq1 h => ?_)
    · refine lv_tableIn (off := 40) (tgt := 41) hx hb dX6_count_1 (by rw [hq1]; decide) (by rw [hq1]; decide) (by rw [hq1]; rfl) (by decide) ?_
      refine lv_aload_n hx hb dX6_count_41 rfl (lv_at hl 0 rfl) ?_
      refine ch_get S hw 0 (by decide) rfl rfl (by decide +kernel) 5 (by decide) (hts (.fieldLink RX6 45 "CodeHunt" "lengths" "LCodeHunt$Lengths;") (by decide +kernel)) rfl dX6_count_42 ?_
      refine ch_getN S hw 6 (by decide) rfl rfl (by decide +kernel) 2 (by decide) (ch_nw hw 14 rfl) rfl dX6_count_45 ?_
      exact fin _ _ _ _ _ _ h hw dX6_count_48
    · skip
      refine ch_if_k h (fun hq2 h => ?_) (fun hq2 h => ?_)
      · refine lv_tableIn (off := 48) (tgt := 49) hx hb dX6_count_1 (by rw [hq2]; decide) (by rw [hq2]; decide) (by rw [hq2]; rfl) (by decide) ?_
        refine lv_aload_n hx hb dX6_count_49 rfl (lv_at hl 0 rfl) ?_
        refine ch_get S hw 0 (by decide) rfl rfl (by decide +kernel) 6 (by decide) (hts (.fieldLink RX6 49 "CodeHunt" "doubt" "I") (by decide +kernel)) rfl dX6_count_50 ?_
        exact fin _ _ _ _ _ _ h hw dX6_count_53
      · skip
        refine ch_if_k h (fun hq3 h => ?_) (fun hq3 h => ?_)
        · refine lv_tableIn (off := 53) (tgt := 54) hx hb dX6_count_1 (by rw [hq3]; decide) (by rw [hq3]; decide) (by rw [hq3]; rfl) (by decide) ?_
          refine lv_aload_n hx hb dX6_count_54 rfl (lv_at hl 0 rfl) ?_
          refine ch_get S hw 0 (by decide) rfl rfl (by decide +kernel) 7 (by decide) (hts (.fieldLink RX6 53 "CodeHunt" "finding" "I") (by decide +kernel)) rfl dX6_count_55 ?_
          exact fin _ _ _ _ _ _ h hw dX6_count_58
        · skip
          refine ch_if_k h (fun hq4 h => ?_) (fun hq4 h => ?_)
          · refine lv_tableIn (off := 58) (tgt := 59) hx hb dX6_count_1 (by rw [hq4]; decide) (by rw [hq4]; decide) (by rw [hq4]; rfl) (by decide) ?_
            refine lv_aload_n hx hb dX6_count_59 rfl (lv_at hl 0 rfl) ?_
            refine ch_get S hw 0 (by decide) rfl rfl (by decide +kernel) 4 (by decide) (hts (.fieldLink RX6 38 "CodeHunt" "peeling" "LCodeHunt$Peeling;") (by decide +kernel)) rfl dX6_count_60 ?_
            refine ch_getN S hw 5 (by decide) rfl rfl (by decide +kernel) 3 (by decide) (ch_nw hw 12 rfl) rfl dX6_count_63 ?_
            exact fin _ _ _ _ _ _ h hw dX6_count_66
          · skip
            have hn0 : ¬ x1.toInt = 0 := lv_neT hq0 (by decide)
            have hn1 : ¬ x1.toInt = 1 := lv_neT hq1 (by decide)
            have hn2 : ¬ x1.toInt = 2 := lv_neT hq2 (by decide)
            have hn3 : ¬ x1.toInt = 3 := lv_neT hq3 (by decide)
            have hn4 : ¬ x1.toInt = 4 := lv_neT hq4 (by decide)
            refine lv_tableOut (tgt := 67) hx hb dX6_count_1 (by omega) (by decide) ?_
            refine lv_bipush (v := (-2 : Int32)) hx hb dX6_count_67 (by decide) ?_
            exact fin _ _ _ _ _ _ h hw dX6_count_69
set_option maxHeartbeats 4000000 in
set_option maxRecDepth 100000 in
theorem c_X6_count (l : Launch) (D : va_G) (I : ch_Id) (sh : Nat → Nat) (sz : Nat) (M : ch_Mem)  (x1 : Int32) {r : Int32} {M1 : ch_Mem} (h : D_X6_count x1 M = some (r, M1)) : Met l yX6_count wsX6_count rm_X6_count (va_Pc [.ref (sh 0), .int x1] (ch_Pre D I 40 (ch_FC I sh) sh sz M)) (va_Qi (fun r' (u : ch_Mem) => r' = r ∧ u = M1) (ch_Pos D 40 (ch_FC I sh) sh) (ch_A 40 sh sz)) 0 0 (ch_A 40 sh sz) := by
  refine Met.ofW (cc := cX6_count) (maxL := 2) (ret := (some .int)) (by decide) rfl ?_
  intro p e s m args below meth c s₁ B hml hv0
  obtain ⟨rfl, hv0⟩ := hv0
  obtain rfl : s.heap.size = sz := hv0.1
  have hw := ch_start hv0
  have S : CallFix p m c cX6_count 2 s _ wsX6_count RX6 := ⟨B.exec, B.bytes, hml, findClass_of_methodNamed B.named, atoms_spec (ws := wsX6_count) B.pre⟩
  have hl := lv_entry ([.ref (sh 0), .int x1]) (n := 2) (Nat.le_of_ble_eq_true rfl)
  rw [lg_entry_eq]
  generalize (lg_sl ([.ref (sh 0), .int x1]) ++ List.replicate (2 - (lg_sl ([.ref (sh 0), .int x1])).length) Slot.unset).toArray = ls at hl ⊢
  exact t_X6_count_0 S (ch_finI (B := fun _ => True) B.exec B.bytes B.returns B.notSynchronized) h hw (lv_sub hl [0, 1] rfl)
set_option maxHeartbeats 4000000 in
set_option maxRecDepth 100000 in
theorem t_X6_digest_86 {p : Program} {l : Launch} {e : Env} {s : State} {m : MethodId} {args : Array Value} {below : List Frame} {meth : Method} {c : Code} {Q : State → Prop} {D : va_G} {I : ch_Id} {sh : Nat → Nat} {A : Nat → Prop} {oo : Int64 × ch_Mem}    {k52 : Int64 → Int32 → ch_Mem → Option (Int64 × ch_Mem)} (S : CallFix p m c cX6_digest 4 s args wsX6_digest RX6) (fin : ch_FinL p l e rm_X6_digest s m args below meth c cX6_digest Q D I 40 (ch_FC I sh) sh A oo) (hk52 : ∀ (x1 : Int64) (x3 : Int32) (M : ch_Mem) (H : Heap) (locs : List Loc) (ls : Array Slot), k52 x1 x3 M = some oo → ch_Wd D I 40 (ch_FC I sh) sh s A M H locs → lv_has ls 4 [(0, .ref (sh 0)), (1, .long x1), (3, .int x3)] → W p l e rm_X6_digest s m args below meth c H locs 0 0 Q (F0 m 52 ls [])) {x1 : Int64} {x3 : Int32}  {M : ch_Mem} {H : Heap} {locs : List Loc} {ls : Array Slot} (h : D_X6_digest_b86 k52 x1 x3 M = some oo) (hw : ch_Wd D I 40 (ch_FC I sh) sh s A M H locs) (hl : lv_has ls 4 [(0, .ref (sh 0)), (1, .long x1), (3, .int x3)]) : W p l e rm_X6_digest s m args below meth c H locs 0 0 Q (F0 m 86 ls []) := by
  obtain ⟨hx, hb, hml, hown, hts⟩ := id S
  unfold D_X6_digest_b86 at h
  refine lv_iinc (v := x3 + (1 : Int32)) (lv' := [(3, .int (x3 + (1 : Int32))), (0, .ref (sh 0)), (1, .long x1)]) hx hb dX6_digest_86 hl (k := 2) rfl rfl (by decide) rfl (fun ls hl => ?_)
  refine lv_goto (tgt := 52) hx hb dX6_digest_89 (by decide) ?_
  exact hk52 _ _ _ _ _ _  h hw (lv_sub hl [1, 2, 0] rfl)
set_option maxHeartbeats 4000000 in
set_option maxRecDepth 100000 in
theorem t_X6_digest_92 {p : Program} {l : Launch} {e : Env} {s : State} {m : MethodId} {args : Array Value} {below : List Frame} {meth : Method} {c : Code} {Q : State → Prop} {D : va_G} {I : ch_Id} {sh : Nat → Nat} {A : Nat → Prop} {oo : Int64 × ch_Mem}     (S : CallFix p m c cX6_digest 4 s args wsX6_digest RX6) (fin : ch_FinL p l e rm_X6_digest s m args below meth c cX6_digest Q D I 40 (ch_FC I sh) sh A oo)  {x1 : Int64}  {M : ch_Mem} {H : Heap} {locs : List Loc} {ls : Array Slot} (h : D_X6_digest_b92 x1 M = some oo) (hw : ch_Wd D I 40 (ch_FC I sh) sh s A M H locs) (hl : lv_has ls 4 [(0, .ref (sh 0)), (1, .long x1)]) : W p l e rm_X6_digest s m args below meth c H locs 0 0 Q (F0 m 92 ls []) := by
  obtain ⟨hx, hb, hml, hown, hts⟩ := id S
  unfold D_X6_digest_b92 at h
  refine lv_lload_n hx hb dX6_digest_92 rfl (lv_at hl 1 rfl) ?_
  refine lv_aload_n hx hb dX6_digest_93 rfl (lv_at hl 0 rfl) ?_
  refine ch_get S hw 0 (by decide) rfl rfl (by decide +kernel) 5 (by decide) (hts (.fieldLink RX6 45 "CodeHunt" "lengths" "LCodeHunt$Lengths;") (by decide +kernel)) rfl dX6_digest_94 ?_
  refine ch_bd_k h (fun r1 M2 hc h => ?_)
  refine ch_cl hw (va_runV (As := []) (rest := [.long x1]) S (c_X0_leastFitting l D I sh H.size M  hc) (cwV 0 hts gX6_digest_X0_leastFitting rfl rfl rfl (by decide +kernel) ⟨Nat.le_of_ble_eq_true rfl, Nat.le_of_ble_eq_true rfl⟩) (ch_pV hw (by decide) rfl rfl rfl) rfl rfl hl.1 rfl (lv_room (Nat.le_of_ble_eq_true rfl)) dX6_digest_97 ⟨Nat.le_refl 0, Nat.le_refl 0⟩) (fun H locs hw => ?_)
  refine ch_bd_k h (fun r3 M4 hc h => ?_)
  refine ch_cl hw (va_runS (As := [.long x1, .long r1]) (rest := []) S (c_X6_mixed l D I sh H.size M2 x1 r1 hc) (va_cwS 2 hts gX6_digest_X6_mixed rfl rfl rfl (by decide +kernel) ⟨Nat.le_of_ble_eq_true rfl, Nat.le_of_ble_eq_true rfl⟩) (ch_pS hw) rfl rfl hl.1 rfl (lv_room (Nat.le_of_ble_eq_true rfl)) dX6_digest_100 ⟨Nat.le_refl 0, Nat.le_refl 0⟩) (fun H locs hw => ?_)
  refine lv_lstore_n (lv' := [(1, .long r3), (0, .ref (sh 0))]) hx hb dX6_digest_103 rfl hl (by decide) rfl (fun ls hl => ?_)
  refine lv_lload_n hx hb dX6_digest_104 rfl (lv_at hl 0 rfl) ?_
  refine lv_aload_n hx hb dX6_digest_105 rfl (lv_at hl 1 rfl) ?_
  refine ch_get S hw 0 (by decide) rfl rfl (by decide +kernel) 4 (by decide) (hts (.fieldLink RX6 38 "CodeHunt" "peeling" "LCodeHunt$Peeling;") (by decide +kernel)) rfl dX6_digest_106 ?_
  refine ch_getN S hw 5 (by decide) rfl rfl (by decide +kernel) 4 (by decide) (ch_nw hw 13 rfl) rfl dX6_digest_109 ?_
  refine ch_bd_k h (fun r5 M6 hc h => ?_)
  refine ch_cl hw (va_runS (As := [.long r3, .long (M4.2 5 4)]) (rest := []) S (c_X6_mixed l D I sh H.size M4 r3 (M4.2 5 4) hc) (va_cwS 2 hts gX6_digest_X6_mixed rfl rfl rfl (by decide +kernel) ⟨Nat.le_of_ble_eq_true rfl, Nat.le_of_ble_eq_true rfl⟩) (ch_pS hw) rfl rfl hl.1 rfl (lv_room (Nat.le_of_ble_eq_true rfl)) dX6_digest_112 ⟨Nat.le_refl 0, Nat.le_refl 0⟩) (fun H locs hw => ?_)
  exact fin _ _ _ _ _ _ h hw dX6_digest_115
set_option maxHeartbeats 4000000 in
set_option maxRecDepth 100000 in
theorem t_X6_digest_52 {p : Program} {l : Launch} {e : Env} {s : State} {m : MethodId} {args : Array Value} {below : List Frame} {meth : Method} {c : Code} {Q : State → Prop} {D : va_G} {I : ch_Id} {sh : Nat → Nat} {A : Nat → Prop} {oo : Int64 × ch_Mem}    {k52 : Int64 → Int32 → ch_Mem → Option (Int64 × ch_Mem)} (S : CallFix p m c cX6_digest 4 s args wsX6_digest RX6) (fin : ch_FinL p l e rm_X6_digest s m args below meth c cX6_digest Q D I 40 (ch_FC I sh) sh A oo) (hk52 : ∀ (x1 : Int64) (x3 : Int32) (M : ch_Mem) (H : Heap) (locs : List Loc) (ls : Array Slot), k52 x1 x3 M = some oo → ch_Wd D I 40 (ch_FC I sh) sh s A M H locs → lv_has ls 4 [(0, .ref (sh 0)), (1, .long x1), (3, .int x3)] → W p l e rm_X6_digest s m args below meth c H locs 0 0 Q (F0 m 52 ls [])) {x1 : Int64} {x3 : Int32}  {M : ch_Mem} {H : Heap} {locs : List Loc} {ls : Array Slot} (h : D_X6_digest_b52 k52 x1 x3 M = some oo) (hw : ch_Wd D I 40 (ch_FC I sh) sh s A M H locs) (hl : lv_has ls 4 [(0, .ref (sh 0)), (1, .long x1), (3, .int x3)]) : W p l e rm_X6_digest s m args below meth c H locs 0 0 Q (F0 m 52 ls []) := by
  obtain ⟨hx, hb, hml, hown, hts⟩ := id S
  unfold D_X6_digest_b52 at h
  refine lv_iload_n hx hb dX6_digest_52 rfl (lv_at hl 2 rfl) ?_
  refine lv_bipush (v := (8 : Int32)) hx hb dX6_digest_53 (by decide) ?_
  refine ch_icmp_ge (tgt := 92) hx hb dX6_digest_55 (by decide) h (fun h => ?_) (fun h => ?_)
  · exact t_X6_digest_92 S fin h hw (lv_sub hl [0, 1] rfl)
  · refine lv_aload_n hx hb dX6_digest_58 rfl (lv_at hl 0 rfl) ?_
    refine ch_get S hw 0 (by decide) rfl rfl (by decide +kernel) 0 (by decide) (hts (.fieldLink RX6 11 "CodeHunt" "rows" "[LCodeHunt$Row;") (by decide +kernel)) rfl dX6_digest_59 ?_
    refine lv_iload_n hx hb dX6_digest_62 rfl (lv_at hl 2 rfl) ?_
    refine ch_gd_k h (fun hin h => ?_)
    have hlt1 := ch_in_lt hin
    refine ch_rows S hw hin dX6_digest_63 ?_
    refine ch_bd_k h (fun r2 M3 hc h => ?_)
    refine ch_ci hw (va_runV (As := []) (rest := []) S (c_X3_isNone l D I sh H.size M (7 + x3.toNatClampNeg) (by omega) hc) (cwV 0 hts gX6_digest_X3_isNone rfl rfl rfl (by decide +kernel) ⟨Nat.le_of_ble_eq_true rfl, Nat.le_of_ble_eq_true rfl⟩) (ch_pV hw (by omega) (ch_FC_row (by omega)) rfl rfl) rfl rfl hl.1 rfl (lv_room (Nat.le_of_ble_eq_true rfl)) dX6_digest_64 ⟨Nat.le_refl 0, Nat.le_refl 0⟩) (fun H locs hw => ?_)
    refine ch_if_ne (tgt := 86) hx hb dX6_digest_67 (by decide) h (fun h => ?_) (fun h => ?_)
    · exact t_X6_digest_86 S fin hk52 h hw (lv_sub hl [0, 1, 2] rfl)
    · refine lv_aload_n hx hb dX6_digest_70 rfl (lv_at hl 0 rfl) ?_
      refine ch_get S hw 0 (by decide) rfl rfl (by decide +kernel) 0 (by decide) (hts (.fieldLink RX6 11 "CodeHunt" "rows" "[LCodeHunt$Row;") (by decide +kernel)) rfl dX6_digest_71 ?_
      refine lv_iload_n hx hb dX6_digest_74 rfl (lv_at hl 2 rfl) ?_
      refine ch_gd_k h (fun hin h => ?_)
      have hlt4 := ch_in_lt hin
      refine ch_rows S hw hin dX6_digest_75 ?_
      refine lv_lload_n hx hb dX6_digest_76 rfl (lv_at hl 1 rfl) ?_
      refine lv_iload_n hx hb dX6_digest_77 rfl (lv_at hl 2 rfl) ?_
      refine lv_i2l hx hb dX6_digest_78 rfl ?_
      refine ch_bd_k h (fun r5 M6 hc h => ?_)
      refine ch_cl hw (va_runS (As := [.long x1, .long x3.toInt64]) (rest := [.ref (sh (7 + x3.toNatClampNeg))]) S (c_X6_mixed l D I sh H.size M3 x1 x3.toInt64 hc) (va_cwS 2 hts gX6_digest_X6_mixed rfl rfl rfl (by decide +kernel) ⟨Nat.le_of_ble_eq_true rfl, Nat.le_of_ble_eq_true rfl⟩) (ch_pS hw) rfl rfl hl.1 rfl (lv_room (Nat.le_of_ble_eq_true rfl)) dX6_digest_79 ⟨Nat.le_refl 0, Nat.le_refl 0⟩) (fun H locs hw => ?_)
      refine ch_bd_k h (fun r7 M8 hc h => ?_)
      refine ch_cl hw (va_runV (As := [.long r5]) (rest := []) S (c_X3_mixedInto l D I sh H.size M6 (7 + x3.toNatClampNeg) (by omega) r5 hc) (cwV 1 hts gX6_digest_X3_mixedInto rfl rfl rfl (by decide +kernel) ⟨Nat.le_of_ble_eq_true rfl, Nat.le_of_ble_eq_true rfl⟩) (ch_pV hw (by omega) (ch_FC_row (by omega)) rfl rfl) rfl rfl hl.1 rfl (lv_room (Nat.le_of_ble_eq_true rfl)) dX6_digest_82 ⟨Nat.le_refl 0, Nat.le_refl 0⟩) (fun H locs hw => ?_)
      refine lv_lstore_n (lv' := [(1, .long r7), (0, .ref (sh 0)), (3, .int x3)]) hx hb dX6_digest_85 rfl hl (by decide) rfl (fun ls hl => ?_)
      exact t_X6_digest_86 S fin hk52 h hw (lv_sub hl [1, 0, 2] rfl)
set_option maxHeartbeats 4000000 in
set_option maxRecDepth 100000 in
theorem tl_X6_digest_52 {p : Program} {l : Launch} {e : Env} {s : State} {m : MethodId} {args : Array Value} {below : List Frame} {meth : Method} {c : Code} {Q : State → Prop} {D : va_G} {I : ch_Id} {sh : Nat → Nat} {A : Nat → Prop} {oo : Int64 × ch_Mem}     (S : CallFix p m c cX6_digest 4 s args wsX6_digest RX6) (fin : ch_FinL p l e rm_X6_digest s m args below meth c cX6_digest Q D I 40 (ch_FC I sh) sh A oo)  (n : Nat) : ∀ (x1 : Int64) (x3 : Int32) (M : ch_Mem) (H : Heap) (locs : List Loc) (ls : Array Slot), D_X6_digest_L52  n x1 x3 M = some oo → ch_Wd D I 40 (ch_FC I sh) sh s A M H locs → lv_has ls 4 [(0, .ref (sh 0)), (1, .long x1), (3, .int x3)] → W p l e rm_X6_digest s m args below meth c H locs 0 0 Q (F0 m 52 ls []) := by
  induction n with
  | zero => intro x1 x3 M H locs ls  h; cases h
  | succ n ih =>
    intro x1 x3 M H locs ls  h hw hl
    exact t_X6_digest_52 S fin ih h hw hl
set_option maxHeartbeats 4000000 in
set_option maxRecDepth 100000 in
theorem t_X6_digest_0 {p : Program} {l : Launch} {e : Env} {s : State} {m : MethodId} {args : Array Value} {below : List Frame} {meth : Method} {c : Code} {Q : State → Prop} {D : va_G} {I : ch_Id} {sh : Nat → Nat} {A : Nat → Prop} {oo : Int64 × ch_Mem}     (S : CallFix p m c cX6_digest 4 s args wsX6_digest RX6) (fin : ch_FinL p l e rm_X6_digest s m args below meth c cX6_digest Q D I 40 (ch_FC I sh) sh A oo)    {M : ch_Mem} {H : Heap} {locs : List Loc} {ls : Array Slot} (h : D_X6_digest  M = some oo) (hw : ch_Wd D I 40 (ch_FC I sh) sh s A M H locs) (hl : lv_has ls 4 [(0, .ref (sh 0))]) : W p l e rm_X6_digest s m args below meth c H locs 0 0 Q (F0 m 0 ls []) := by
  obtain ⟨hx, hb, hml, hown, hts⟩ := id S
  unfold D_X6_digest at h
  refine lv_ldc2 (v := (17 : Int64)) hx hb hown (hts (.constantLong RX6 260 (17)) (by decide +kernel)) dX6_digest_0 ?_
  refine lv_lstore_n (lv' := [(1, .long (17 : Int64)), (0, .ref (sh 0))]) hx hb dX6_digest_3 rfl hl (by decide) rfl (fun ls hl => ?_)
  refine lv_lload_n hx hb dX6_digest_4 rfl (lv_at hl 0 rfl) ?_
  refine lv_aload_n hx hb dX6_digest_5 rfl (lv_at hl 1 rfl) ?_
  refine ch_bd_k h (fun r1 M2 hc h => ?_)
  refine ch_ci hw (va_runV (As := []) (rest := [.long (17 : Int64)]) S (c_X6_rowsThatAre l D I sh H.size M  hc) (cwV 0 hts gX6_digest_X6_rowsThatAre rfl rfl rfl (by decide +kernel) ⟨Nat.le_of_ble_eq_true rfl, Nat.le_of_ble_eq_true rfl⟩) (ch_pV hw (by decide) rfl rfl rfl) rfl rfl hl.1 rfl (lv_room (Nat.le_of_ble_eq_true rfl)) dX6_digest_6 ⟨Nat.le_refl 0, Nat.le_refl 0⟩) (fun H locs hw => ?_)
  refine lv_i2l hx hb dX6_digest_9 rfl ?_
  refine ch_bd_k h (fun r3 M4 hc h => ?_)
  refine ch_cl hw (va_runS (As := [.long (17 : Int64), .long r1.toInt64]) (rest := []) S (c_X6_mixed l D I sh H.size M2 (17 : Int64) r1.toInt64 hc) (va_cwS 2 hts gX6_digest_X6_mixed rfl rfl rfl (by decide +kernel) ⟨Nat.le_of_ble_eq_true rfl, Nat.le_of_ble_eq_true rfl⟩) (ch_pS hw) rfl rfl hl.1 rfl (lv_room (Nat.le_of_ble_eq_true rfl)) dX6_digest_10 ⟨Nat.le_refl 0, Nat.le_refl 0⟩) (fun H locs hw => ?_)
  refine lv_lstore_n (lv' := [(1, .long r3), (0, .ref (sh 0))]) hx hb dX6_digest_13 rfl hl (by decide) rfl (fun ls hl => ?_)
  refine lv_lload_n hx hb dX6_digest_14 rfl (lv_at hl 0 rfl) ?_
  refine lv_aload_n hx hb dX6_digest_15 rfl (lv_at hl 1 rfl) ?_
  refine ch_get S hw 0 (by decide) rfl rfl (by decide +kernel) 5 (by decide) (hts (.fieldLink RX6 45 "CodeHunt" "lengths" "LCodeHunt$Lengths;") (by decide +kernel)) rfl dX6_digest_16 ?_
  refine ch_getN S hw 6 (by decide) rfl rfl (by decide +kernel) 2 (by decide) (ch_nw hw 14 rfl) rfl dX6_digest_19 ?_
  refine lv_i2l hx hb dX6_digest_22 rfl ?_
  refine ch_bd_k h (fun r5 M6 hc h => ?_)
  refine ch_cl hw (va_runS (As := [.long r3, .long ((M4.1 6 2).toInt64)]) (rest := []) S (c_X6_mixed l D I sh H.size M4 r3 ((M4.1 6 2).toInt64) hc) (va_cwS 2 hts gX6_digest_X6_mixed rfl rfl rfl (by decide +kernel) ⟨Nat.le_of_ble_eq_true rfl, Nat.le_of_ble_eq_true rfl⟩) (ch_pS hw) rfl rfl hl.1 rfl (lv_room (Nat.le_of_ble_eq_true rfl)) dX6_digest_23 ⟨Nat.le_refl 0, Nat.le_refl 0⟩) (fun H locs hw => ?_)
  refine lv_lstore_n (lv' := [(1, .long r5), (0, .ref (sh 0))]) hx hb dX6_digest_26 rfl hl (by decide) rfl (fun ls hl => ?_)
  refine lv_lload_n hx hb dX6_digest_27 rfl (lv_at hl 0 rfl) ?_
  refine lv_aload_n hx hb dX6_digest_28 rfl (lv_at hl 1 rfl) ?_
  refine ch_get S hw 0 (by decide) rfl rfl (by decide +kernel) 6 (by decide) (hts (.fieldLink RX6 49 "CodeHunt" "doubt" "I") (by decide +kernel)) rfl dX6_digest_29 ?_
  refine lv_i2l hx hb dX6_digest_32 rfl ?_
  refine ch_bd_k h (fun r7 M8 hc h => ?_)
  refine ch_cl hw (va_runS (As := [.long r5, .long ((M6.1 0 6).toInt64)]) (rest := []) S (c_X6_mixed l D I sh H.size M6 r5 ((M6.1 0 6).toInt64) hc) (va_cwS 2 hts gX6_digest_X6_mixed rfl rfl rfl (by decide +kernel) ⟨Nat.le_of_ble_eq_true rfl, Nat.le_of_ble_eq_true rfl⟩) (ch_pS hw) rfl rfl hl.1 rfl (lv_room (Nat.le_of_ble_eq_true rfl)) dX6_digest_33 ⟨Nat.le_refl 0, Nat.le_refl 0⟩) (fun H locs hw => ?_)
  refine lv_lstore_n (lv' := [(1, .long r7), (0, .ref (sh 0))]) hx hb dX6_digest_36 rfl hl (by decide) rfl (fun ls hl => ?_)
  refine lv_lload_n hx hb dX6_digest_37 rfl (lv_at hl 0 rfl) ?_
  refine lv_aload_n hx hb dX6_digest_38 rfl (lv_at hl 1 rfl) ?_
  refine ch_get S hw 0 (by decide) rfl rfl (by decide +kernel) 4 (by decide) (hts (.fieldLink RX6 38 "CodeHunt" "peeling" "LCodeHunt$Peeling;") (by decide +kernel)) rfl dX6_digest_39 ?_
  refine ch_getN S hw 5 (by decide) rfl rfl (by decide +kernel) 3 (by decide) (ch_nw hw 12 rfl) rfl dX6_digest_42 ?_
  refine lv_i2l hx hb dX6_digest_45 rfl ?_
  refine ch_bd_k h (fun r9 M10 hc h => ?_)
  refine ch_cl hw (va_runS (As := [.long r7, .long ((M8.1 5 3).toInt64)]) (rest := []) S (c_X6_mixed l D I sh H.size M8 r7 ((M8.1 5 3).toInt64) hc) (va_cwS 2 hts gX6_digest_X6_mixed rfl rfl rfl (by decide +kernel) ⟨Nat.le_of_ble_eq_true rfl, Nat.le_of_ble_eq_true rfl⟩) (ch_pS hw) rfl rfl hl.1 rfl (lv_room (Nat.le_of_ble_eq_true rfl)) dX6_digest_46 ⟨Nat.le_refl 0, Nat.le_refl 0⟩) (fun H locs hw => ?_)
  refine lv_lstore_n (lv' := [(1, .long r9), (0, .ref (sh 0))]) hx hb dX6_digest_49 rfl hl (by decide) rfl (fun ls hl => ?_)
  refine lv_iconst (v := (0 : Int32)) hx hb dX6_digest_50 (by decide) ?_
  refine lv_istore_n (lv' := [(3, .int (0 : Int32)), (1, .long r9), (0, .ref (sh 0))]) hx hb dX6_digest_51 rfl hl (by decide) rfl (fun ls hl => ?_)
  exact tl_X6_digest_52 S fin ch_fu _ _ _ _ _ _ h hw (lv_sub hl [2, 1, 0] rfl)
set_option maxHeartbeats 4000000 in
set_option maxRecDepth 100000 in
theorem c_X6_digest (l : Launch) (D : va_G) (I : ch_Id) (sh : Nat → Nat) (sz : Nat) (M : ch_Mem)   {r : Int64} {M1 : ch_Mem} (h : D_X6_digest  M = some (r, M1)) : Met l yX6_digest wsX6_digest rm_X6_digest (va_Pc [.ref (sh 0)] (ch_Pre D I 40 (ch_FC I sh) sh sz M)) (va_Ql (fun r' (u : ch_Mem) => r' = r ∧ u = M1) (ch_Pos D 40 (ch_FC I sh) sh) (ch_A 40 sh sz)) 0 0 (ch_A 40 sh sz) := by
  refine Met.ofW (cc := cX6_digest) (maxL := 4) (ret := (some .long)) (by decide) rfl ?_
  intro p e s m args below meth c s₁ B hml hv0
  obtain ⟨rfl, hv0⟩ := hv0
  obtain rfl : s.heap.size = sz := hv0.1
  have hw := ch_start hv0
  have S : CallFix p m c cX6_digest 4 s _ wsX6_digest RX6 := ⟨B.exec, B.bytes, hml, findClass_of_methodNamed B.named, atoms_spec (ws := wsX6_digest) B.pre⟩
  have hl := lv_entry ([.ref (sh 0)]) (n := 4) (Nat.le_of_ble_eq_true rfl)
  rw [lg_entry_eq]
  generalize (lg_sl ([.ref (sh 0)]) ++ List.replicate (4 - (lg_sl ([.ref (sh 0)])).length) Slot.unset).toArray = ls at hl ⊢
  exact t_X6_digest_0 S (ch_finL B.exec B.bytes B.returns B.notSynchronized) h hw (lv_sub hl [0] rfl)
set_option maxHeartbeats 4000000 in
set_option maxRecDepth 100000 in
theorem t_X6_doubt_0 {p : Program} {l : Launch} {e : Env} {s : State} {m : MethodId} {args : Array Value} {below : List Frame} {meth : Method} {c : Code} {Q : State → Prop} {D : va_G} {I : ch_Id} {sh : Nat → Nat} {A : Nat → Prop} {oo : Int32 × ch_Mem}     (S : CallFix p m c cX6_doubt 3 s args wsX6_doubt RX6) (fin : ch_FinI p l e rm_X6_doubt s m args below meth c cX6_doubt Q D I 40 (ch_FC I sh) sh A oo)  {x1 : Int32}  {M : ch_Mem} {H : Heap} {locs : List Loc} {ls : Array Slot} (h : D_X6_doubt x1 M = some oo) (hw : ch_Wd D I 40 (ch_FC I sh) sh s A M H locs) (hl : lv_has ls 3 [(0, .ref (sh 0)), (1, .int x1)]) : W p l e rm_X6_doubt s m args below meth c H locs 0 0 Q (F0 m 0 ls []) := by
  obtain ⟨hx, hb, hml, hown, hts⟩ := id S
  unfold D_X6_doubt at h
  refine lv_iload_n hx hb dX6_doubt_0 rfl (lv_at hl 1 rfl) ?_
  refine ch_if_lt (tgt := 10) hx hb dX6_doubt_1 (by decide) h (fun h => ?_) (fun h => ?_)
  · refine lv_bipush (v := (-2 : Int32)) hx hb dX6_doubt_10 (by decide) ?_
    exact fin _ _ _ _ _ _ h hw dX6_doubt_12
  · refine lv_iload_n hx hb dX6_doubt_4 rfl (lv_at hl 1 rfl) ?_
    refine lv_bipush (v := (100 : Int32)) hx hb dX6_doubt_5 (by decide) ?_
    refine ch_icmp_le (tgt := 13) hx hb dX6_doubt_7 (by decide) h (fun h => ?_) (fun h => ?_)
    · refine lv_aload_n hx hb dX6_doubt_13 rfl (lv_at hl 0 rfl) ?_
      refine ch_get S hw 0 (by decide) rfl rfl (by decide +kernel) 6 (by decide) (hts (.fieldLink RX6 49 "CodeHunt" "doubt" "I") (by decide +kernel)) rfl dX6_doubt_14 ?_
      refine lv_istore_n (lv' := [(2, .int (M.1 0 6)), (0, .ref (sh 0)), (1, .int x1)]) hx hb dX6_doubt_17 rfl hl (by decide) rfl (fun ls hl => ?_)
      refine lv_aload_n hx hb dX6_doubt_18 rfl (lv_at hl 1 rfl) ?_
      refine lv_iload_n hx hb dX6_doubt_19 rfl (lv_at hl 2 rfl) ?_
      refine ch_put (M1 := ch_wI M 0 6 x1) (ty := .int) S hw 0 (by decide) rfl rfl (by decide +kernel) tyX6 tyX6_ok nmX6 6 (by decide) (hts (.fieldLink RX6 49 "CodeHunt" "doubt" "I") (by decide +kernel)) rfl (by decide +kernel) rfl rfl (Nat.le_of_ble_eq_true rfl) (ch_cf_wI (j := 6) (v := x1) rfl) dX6_doubt_20 (fun H locs hw => ?_)
      refine lv_iload_n hx hb dX6_doubt_23 rfl (lv_at hl 0 rfl) ?_
      exact fin _ _ _ _ _ _ h hw dX6_doubt_24
    · refine lv_bipush (v := (-2 : Int32)) hx hb dX6_doubt_10 (by decide) ?_
      exact fin _ _ _ _ _ _ h hw dX6_doubt_12
set_option maxHeartbeats 4000000 in
set_option maxRecDepth 100000 in
theorem c_X6_doubt (l : Launch) (D : va_G) (I : ch_Id) (sh : Nat → Nat) (sz : Nat) (M : ch_Mem)  (x1 : Int32) {r : Int32} {M1 : ch_Mem} (h : D_X6_doubt x1 M = some (r, M1)) : Met l yX6_doubt wsX6_doubt rm_X6_doubt (va_Pc [.ref (sh 0), .int x1] (ch_Pre D I 40 (ch_FC I sh) sh sz M)) (va_Qi (fun r' (u : ch_Mem) => r' = r ∧ u = M1) (ch_Pos D 40 (ch_FC I sh) sh) (ch_A 40 sh sz)) 0 0 (ch_A 40 sh sz) := by
  refine Met.ofW (cc := cX6_doubt) (maxL := 3) (ret := (some .int)) (by decide) rfl ?_
  intro p e s m args below meth c s₁ B hml hv0
  obtain ⟨rfl, hv0⟩ := hv0
  obtain rfl : s.heap.size = sz := hv0.1
  have hw := ch_start hv0
  have S : CallFix p m c cX6_doubt 3 s _ wsX6_doubt RX6 := ⟨B.exec, B.bytes, hml, findClass_of_methodNamed B.named, atoms_spec (ws := wsX6_doubt) B.pre⟩
  have hl := lv_entry ([.ref (sh 0), .int x1]) (n := 3) (Nat.le_of_ble_eq_true rfl)
  rw [lg_entry_eq]
  generalize (lg_sl ([.ref (sh 0), .int x1]) ++ List.replicate (3 - (lg_sl ([.ref (sh 0), .int x1])).length) Slot.unset).toArray = ls at hl ⊢
  exact t_X6_doubt_0 S (ch_finI (B := fun _ => True) B.exec B.bytes B.returns B.notSynchronized) h hw (lv_sub hl [0, 1] rfl)
set_option maxHeartbeats 4000000 in
set_option maxRecDepth 100000 in
theorem t_X6_drop_0 {p : Program} {l : Launch} {e : Env} {s : State} {m : MethodId} {args : Array Value} {below : List Frame} {meth : Method} {c : Code} {Q : State → Prop} {D : va_G} {I : ch_Id} {sh : Nat → Nat} {A : Nat → Prop} {oo : Int32 × ch_Mem}     (S : CallFix p m c cX6_drop 3 s args wsX6_drop RX6) (fin : ch_FinI p l e rm_X6_drop s m args below meth c cX6_drop Q D I 40 (ch_FC I sh) sh A oo)  {x1 : Int32}  {M : ch_Mem} {H : Heap} {locs : List Loc} {ls : Array Slot} (h : D_X6_drop x1 M = some oo) (hw : ch_Wd D I 40 (ch_FC I sh) sh s A M H locs) (hl : lv_has ls 3 [(0, .ref (sh 0)), (1, .int x1)]) : W p l e rm_X6_drop s m args below meth c H locs 0 0 Q (F0 m 0 ls []) := by
  obtain ⟨hx, hb, hml, hown, hts⟩ := id S
  unfold D_X6_drop at h
  refine lv_iload_n hx hb dX6_drop_0 rfl (lv_at hl 1 rfl) ?_
  refine ch_bd_k h (fun r1 M2 hc h => ?_)
  refine ch_ci hw (va_runS (As := [.int x1]) (rest := []) S (c_X6_isRow l D I sh H.size M x1 hc) (va_cwS 1 hts gX6_drop_X6_isRow rfl rfl rfl (by decide +kernel) ⟨Nat.le_of_ble_eq_true rfl, Nat.le_of_ble_eq_true rfl⟩) (ch_pS hw) rfl rfl hl.1 rfl (lv_room (Nat.le_of_ble_eq_true rfl)) dX6_drop_1 ⟨Nat.le_refl 0, Nat.le_refl 0⟩) (fun H locs hw => ?_)
  refine ch_if_ne (tgt := 10) hx hb dX6_drop_4 (by decide) h (fun h => ?_) (fun h => ?_)
  · refine lv_aload_n hx hb dX6_drop_10 rfl (lv_at hl 0 rfl) ?_
    refine ch_get S hw 0 (by decide) rfl rfl (by decide +kernel) 0 (by decide) (hts (.fieldLink RX6 11 "CodeHunt" "rows" "[LCodeHunt$Row;") (by decide +kernel)) rfl dX6_drop_11 ?_
    refine lv_iload_n hx hb dX6_drop_14 rfl (lv_at hl 1 rfl) ?_
    refine ch_gd_k h (fun hin h => ?_)
    have hlt3 := ch_in_lt hin
    refine ch_rows S hw hin dX6_drop_15 ?_
    refine ch_bd_k h (fun r4 M5 hc h => ?_)
    refine ch_ci hw (va_runV (As := []) (rest := []) S (c_X3_isNone l D I sh H.size M2 (7 + x1.toNatClampNeg) (by omega) hc) (cwV 0 hts gX6_drop_X3_isNone rfl rfl rfl (by decide +kernel) ⟨Nat.le_of_ble_eq_true rfl, Nat.le_of_ble_eq_true rfl⟩) (ch_pV hw (by omega) (ch_FC_row (by omega)) rfl rfl) rfl rfl hl.1 rfl (lv_room (Nat.le_of_ble_eq_true rfl)) dX6_drop_16 ⟨Nat.le_refl 0, Nat.le_refl 0⟩) (fun H locs hw => ?_)
    refine ch_if_eq (tgt := 25) hx hb dX6_drop_19 (by decide) h (fun h => ?_) (fun h => ?_)
    · refine lv_aload_n hx hb dX6_drop_25 rfl (lv_at hl 0 rfl) ?_
      refine ch_get S hw 0 (by decide) rfl rfl (by decide +kernel) 0 (by decide) (hts (.fieldLink RX6 11 "CodeHunt" "rows" "[LCodeHunt$Row;") (by decide +kernel)) rfl dX6_drop_26 ?_
      refine lv_iload_n hx hb dX6_drop_29 rfl (lv_at hl 1 rfl) ?_
      refine ch_gd_k h (fun hin h => ?_)
      have hlt6 := ch_in_lt hin
      refine ch_rows S hw hin dX6_drop_30 ?_
      refine ch_getN S hw (7 + x1.toNatClampNeg) (by omega) (ch_FC_row (by omega)) rfl (by decide +kernel) 1 (by decide) (ch_nw hw 16 rfl) rfl dX6_drop_31 ?_
      refine lv_istore_n (lv' := [(2, .int (M5.1 (7 + x1.toNatClampNeg) 1)), (0, .ref (sh 0)), (1, .int x1)]) hx hb dX6_drop_34 rfl hl (by decide) rfl (fun ls hl => ?_)
      refine lv_aload_n hx hb dX6_drop_35 rfl (lv_at hl 1 rfl) ?_
      refine ch_get S hw 0 (by decide) rfl rfl (by decide +kernel) 0 (by decide) (hts (.fieldLink RX6 11 "CodeHunt" "rows" "[LCodeHunt$Row;") (by decide +kernel)) rfl dX6_drop_36 ?_
      refine lv_iload_n hx hb dX6_drop_39 rfl (lv_at hl 2 rfl) ?_
      refine ch_gd_k h (fun hin h => ?_)
      have hlt7 := ch_in_lt hin
      refine ch_rows S hw hin dX6_drop_40 ?_
      refine lv_iconst (v := (0 : Int32)) hx hb dX6_drop_41 (by decide) ?_
      refine ch_putN (M1 := ch_wI M5 (7 + x1.toNatClampNeg) 1 (0 : Int32)) (ty := .int) S hw (7 + x1.toNatClampNeg) (by omega) (ch_FC_row (by omega)) rfl (by decide +kernel) tyX3 tyX3_ok nmX3 1 (by decide) (ch_nw hw 16 rfl) rfl (by decide +kernel) rfl rfl (Nat.le_of_ble_eq_true rfl) (ch_cf_wI (j := 1) (v := (0 : Int32)) (ch_FC_row (by omega))) dX6_drop_42 (fun H locs hw => ?_)
      refine lv_iload_n hx hb dX6_drop_45 rfl (lv_at hl 0 rfl) ?_
      exact fin _ _ _ _ _ _ h hw dX6_drop_46
    · refine lv_bipush (v := (-3 : Int32)) hx hb dX6_drop_22 (by decide) ?_
      exact fin _ _ _ _ _ _ h hw dX6_drop_24
  · refine lv_bipush (v := (-2 : Int32)) hx hb dX6_drop_7 (by decide) ?_
    exact fin _ _ _ _ _ _ h hw dX6_drop_9
set_option maxHeartbeats 4000000 in
set_option maxRecDepth 100000 in
theorem c_X6_drop (l : Launch) (D : va_G) (I : ch_Id) (sh : Nat → Nat) (sz : Nat) (M : ch_Mem)  (x1 : Int32) {r : Int32} {M1 : ch_Mem} (h : D_X6_drop x1 M = some (r, M1)) : Met l yX6_drop wsX6_drop rm_X6_drop (va_Pc [.ref (sh 0), .int x1] (ch_Pre D I 40 (ch_FC I sh) sh sz M)) (va_Qi (fun r' (u : ch_Mem) => r' = r ∧ u = M1) (ch_Pos D 40 (ch_FC I sh) sh) (ch_A 40 sh sz)) 0 0 (ch_A 40 sh sz) := by
  refine Met.ofW (cc := cX6_drop) (maxL := 3) (ret := (some .int)) (by decide) rfl ?_
  intro p e s m args below meth c s₁ B hml hv0
  obtain ⟨rfl, hv0⟩ := hv0
  obtain rfl : s.heap.size = sz := hv0.1
  have hw := ch_start hv0
  have S : CallFix p m c cX6_drop 3 s _ wsX6_drop RX6 := ⟨B.exec, B.bytes, hml, findClass_of_methodNamed B.named, atoms_spec (ws := wsX6_drop) B.pre⟩
  have hl := lv_entry ([.ref (sh 0), .int x1]) (n := 3) (Nat.le_of_ble_eq_true rfl)
  rw [lg_entry_eq]
  generalize (lg_sl ([.ref (sh 0), .int x1]) ++ List.replicate (3 - (lg_sl ([.ref (sh 0), .int x1])).length) Slot.unset).toArray = ls at hl ⊢
  exact t_X6_drop_0 S (ch_finI (B := fun _ => True) B.exec B.bytes B.returns B.notSynchronized) h hw (lv_sub hl [0, 1] rfl)
set_option maxHeartbeats 4000000 in
set_option maxRecDepth 100000 in
theorem t_X6_isPlace_0 {p : Program} {l : Launch} {e : Env} {s : State} {m : MethodId} {args : Array Value} {below : List Frame} {meth : Method} {c : Code} {Q : State → Prop} {D : va_G} {I : ch_Id} {sh : Nat → Nat} {A : Nat → Prop} {oo : Int32 × ch_Mem}     (S : CallFix p m c cX6_isPlace 1 s args wsX6_isPlace RX6) (fin : ch_FinZ p l e rm_X6_isPlace s m args below meth c cX6_isPlace Q D I 40 (ch_FC I sh) sh A oo)  {x0 : Int32}  {M : ch_Mem} {H : Heap} {locs : List Loc} {ls : Array Slot} (h : D_X6_isPlace x0 M = some oo) (hw : ch_Wd D I 40 (ch_FC I sh) sh s A M H locs) (hl : lv_has ls 1 [(0, .int x0)]) : W p l e rm_X6_isPlace s m args below meth c H locs 0 0 Q (F0 m 0 ls []) := by
  obtain ⟨hx, hb, hml, hown, hts⟩ := id S
  unfold D_X6_isPlace at h
  refine lv_iload_n hx hb dX6_isPlace_0 rfl (lv_at hl 0 rfl) ?_
  refine ch_if_lt (tgt := 15) hx hb dX6_isPlace_1 (by decide) h (fun h => ?_) (fun h => ?_)
  · refine lv_iconst (v := (0 : Int32)) hx hb dX6_isPlace_15 (by decide) ?_
    exact fin _ _ _ _ _ _ rfl h hw dX6_isPlace_16
  · refine lv_iload_n hx hb dX6_isPlace_4 rfl (lv_at hl 0 rfl) ?_
    refine lv_sipush (v := (300 : Int32)) hx hb dX6_isPlace_5 (by decide) ?_
    refine ch_icmp_gt (tgt := 15) hx hb dX6_isPlace_8 (by decide) h (fun h => ?_) (fun h => ?_)
    · refine lv_iconst (v := (0 : Int32)) hx hb dX6_isPlace_15 (by decide) ?_
      exact fin _ _ _ _ _ _ rfl h hw dX6_isPlace_16
    · refine lv_iconst (v := (1 : Int32)) hx hb dX6_isPlace_11 (by decide) ?_
      refine lv_goto (tgt := 16) hx hb dX6_isPlace_12 (by decide) ?_
      exact fin _ _ _ _ _ _ rfl h hw dX6_isPlace_16
set_option maxHeartbeats 4000000 in
set_option maxRecDepth 100000 in
theorem c_X6_isPlace (l : Launch) (D : va_G) (I : ch_Id) (sh : Nat → Nat) (sz : Nat) (M : ch_Mem)  (x0 : Int32) {r : Int32} {M1 : ch_Mem} (h : D_X6_isPlace x0 M = some (r, M1)) : Met l yX6_isPlace wsX6_isPlace rm_X6_isPlace (va_Pc [.int x0] (ch_Pre D I 40 (ch_FC I sh) sh sz M)) (va_Qi (fun r' (u : ch_Mem) => r' = r ∧ u = M1) (ch_Pos D 40 (ch_FC I sh) sh) (ch_A 40 sh sz)) 0 0 (ch_A 40 sh sz) := by
  refine Met.ofW (cc := cX6_isPlace) (maxL := 1) (ret := (some .boolean)) (by decide) rfl ?_
  intro p e s m args below meth c s₁ B hml hv0
  obtain ⟨rfl, hv0⟩ := hv0
  obtain rfl : s.heap.size = sz := hv0.1
  have hw := ch_start hv0
  have S : CallFix p m c cX6_isPlace 1 s _ wsX6_isPlace RX6 := ⟨B.exec, B.bytes, hml, findClass_of_methodNamed B.named, atoms_spec (ws := wsX6_isPlace) B.pre⟩
  have hl := lv_entry ([.int x0]) (n := 1) (Nat.le_of_ble_eq_true rfl)
  rw [lg_entry_eq]
  generalize (lg_sl ([.int x0]) ++ List.replicate (1 - (lg_sl ([.int x0])).length) Slot.unset).toArray = ls at hl ⊢
  exact t_X6_isPlace_0 S (ch_finZ B.exec B.bytes B.returns B.notSynchronized) h hw (lv_sub hl [0] rfl)
set_option maxHeartbeats 4000000 in
set_option maxRecDepth 100000 in
theorem t_X6_quietened_14 {p : Program} {l : Launch} {e : Env} {s : State} {m : MethodId} {args : Array Value} {below : List Frame} {meth : Method} {c : Code} {Q : State → Prop} {D : va_G} {I : ch_Id} {sh : Nat → Nat} {A : Nat → Prop} {oo : Int32 × ch_Mem}     (S : CallFix p m c cX6_quietened 1 s args wsX6_quietened RX6) (fin : ch_FinI p l e rm_X6_quietened s m args below meth c cX6_quietened Q D I 40 (ch_FC I sh) sh A oo)    {M : ch_Mem} {H : Heap} {locs : List Loc} {ls : Array Slot} (h : D_X6_quietened_b14  M = some oo) (hw : ch_Wd D I 40 (ch_FC I sh) sh s A M H locs) (hl : lv_has ls 1 []) : W p l e rm_X6_quietened s m args below meth c H locs 0 0 Q (F0 m 14 ls []) := by
  obtain ⟨hx, hb, hml, hown, hts⟩ := id S
  unfold D_X6_quietened_b14 at h
  refine lv_iconst (v := (0 : Int32)) hx hb dX6_quietened_14 (by decide) ?_
  refine lv_goto (tgt := 19) hx hb dX6_quietened_15 (by decide) ?_
  exact fin _ _ _ _ _ _ h hw dX6_quietened_19
set_option maxHeartbeats 4000000 in
set_option maxRecDepth 100000 in
theorem t_X6_quietened_0 {p : Program} {l : Launch} {e : Env} {s : State} {m : MethodId} {args : Array Value} {below : List Frame} {meth : Method} {c : Code} {Q : State → Prop} {D : va_G} {I : ch_Id} {sh : Nat → Nat} {A : Nat → Prop} {oo : Int32 × ch_Mem}     (S : CallFix p m c cX6_quietened 1 s args wsX6_quietened RX6) (fin : ch_FinI p l e rm_X6_quietened s m args below meth c cX6_quietened Q D I 40 (ch_FC I sh) sh A oo)  {x0 : Int32}  {M : ch_Mem} {H : Heap} {locs : List Loc} {ls : Array Slot} (h : D_X6_quietened x0 M = some oo) (hw : ch_Wd D I 40 (ch_FC I sh) sh s A M H locs) (hl : lv_has ls 1 [(0, .int x0)]) : W p l e rm_X6_quietened s m args below meth c H locs 0 0 Q (F0 m 0 ls []) := by
  obtain ⟨hx, hb, hml, hown, hts⟩ := id S
  unfold D_X6_quietened at h
  refine lv_iload_n hx hb dX6_quietened_0 rfl (lv_at hl 0 rfl) ?_
  refine lv_sipush (v := (-10000 : Int32)) hx hb dX6_quietened_1 (by decide) ?_
  refine ch_icmp_lt (tgt := 14) hx hb dX6_quietened_4 (by decide) h (fun h => ?_) (fun h => ?_)
  · exact t_X6_quietened_14 S fin h hw (lv_sub hl [] rfl)
  · refine lv_iload_n hx hb dX6_quietened_7 rfl (lv_at hl 0 rfl) ?_
    refine lv_sipush (v := (10000 : Int32)) hx hb dX6_quietened_8 (by decide) ?_
    refine ch_icmp_le (tgt := 18) hx hb dX6_quietened_11 (by decide) h (fun h => ?_) (fun h => ?_)
    · refine lv_iload_n hx hb dX6_quietened_18 rfl (lv_at hl 0 rfl) ?_
      exact fin _ _ _ _ _ _ h hw dX6_quietened_19
    · exact t_X6_quietened_14 S fin h hw (lv_sub hl [] rfl)
set_option maxHeartbeats 4000000 in
set_option maxRecDepth 100000 in
theorem c_X6_quietened (l : Launch) (D : va_G) (I : ch_Id) (sh : Nat → Nat) (sz : Nat) (M : ch_Mem)  (x0 : Int32) {r : Int32} {M1 : ch_Mem} (h : D_X6_quietened x0 M = some (r, M1)) : Met l yX6_quietened wsX6_quietened rm_X6_quietened (va_Pc [.int x0] (ch_Pre D I 40 (ch_FC I sh) sh sz M)) (va_Qi (fun r' (u : ch_Mem) => r' = r ∧ u = M1) (ch_Pos D 40 (ch_FC I sh) sh) (ch_A 40 sh sz)) 0 0 (ch_A 40 sh sz) := by
  refine Met.ofW (cc := cX6_quietened) (maxL := 1) (ret := (some .int)) (by decide) rfl ?_
  intro p e s m args below meth c s₁ B hml hv0
  obtain ⟨rfl, hv0⟩ := hv0
  obtain rfl : s.heap.size = sz := hv0.1
  have hw := ch_start hv0
  have S : CallFix p m c cX6_quietened 1 s _ wsX6_quietened RX6 := ⟨B.exec, B.bytes, hml, findClass_of_methodNamed B.named, atoms_spec (ws := wsX6_quietened) B.pre⟩
  have hl := lv_entry ([.int x0]) (n := 1) (Nat.le_of_ble_eq_true rfl)
  rw [lg_entry_eq]
  generalize (lg_sl ([.int x0]) ++ List.replicate (1 - (lg_sl ([.int x0])).length) Slot.unset).toArray = ls at hl ⊢
  exact t_X6_quietened_0 S (ch_finI (B := fun _ => True) B.exec B.bytes B.returns B.notSynchronized) h hw (lv_sub hl [0] rfl)
set_option maxHeartbeats 4000000 in
set_option maxRecDepth 100000 in
theorem t_X6_listen_10 {p : Program} {l : Launch} {e : Env} {s : State} {m : MethodId} {args : Array Value} {below : List Frame} {meth : Method} {c : Code} {Q : State → Prop} {D : va_G} {I : ch_Id} {sh : Nat → Nat} {A : Nat → Prop} {oo : Unit × ch_Mem}    {k10 : Int32 → Int32 → Int32 → ch_Mem → Option (Unit × ch_Mem)} (S : CallFix p m c cX6_listen 4 s args wsX6_listen RX6) (fin : ch_FinV p l e rm_X6_listen s m args below meth c cX6_listen Q D I 40 (ch_FC I sh) sh A oo) (hk10 : ∀ (x1 : Int32) (x2 : Int32) (x3 : Int32) (M : ch_Mem) (H : Heap) (locs : List Loc) (ls : Array Slot), k10 x1 x2 x3 M = some oo → ch_Wd D I 40 (ch_FC I sh) sh s A M H locs → lv_has ls 4 [(0, .ref (sh 0)), (1, .int x1), (2, .int x2), (3, .int x3)] → W p l e rm_X6_listen s m args below meth c H locs 0 0 Q (F0 m 10 ls [])) {x1 : Int32} {x2 : Int32} {x3 : Int32}  {M : ch_Mem} {H : Heap} {locs : List Loc} {ls : Array Slot} (h : D_X6_listen_b10 k10 x1 x2 x3 M = some oo) (hw : ch_Wd D I 40 (ch_FC I sh) sh s A M H locs) (hl : lv_has ls 4 [(0, .ref (sh 0)), (1, .int x1), (2, .int x2), (3, .int x3)]) : W p l e rm_X6_listen s m args below meth c H locs 0 0 Q (F0 m 10 ls []) := by
  obtain ⟨hx, hb, hml, hown, hts⟩ := id S
  unfold D_X6_listen_b10 at h
  refine lv_iload_n hx hb dX6_listen_10 rfl (lv_at hl 3 rfl) ?_
  refine lv_iload_n hx hb dX6_listen_11 rfl (lv_at hl 2 rfl) ?_
  refine ch_icmp_ge (tgt := 69) hx hb dX6_listen_12 (by decide) h (fun h => ?_) (fun h => ?_)
  · exact fin _ _ _ _ _ h hw dX6_listen_69
  · refine lv_aload_n hx hb dX6_listen_15 rfl (lv_at hl 0 rfl) ?_
    refine ch_get S hw 0 (by decide) rfl rfl (by decide +kernel) 2 (by decide) (hts (.fieldLink RX6 24 "CodeHunt" "window" "LCodeHunt$Window;") (by decide +kernel)) rfl dX6_listen_16 ?_
    refine ch_getN S hw 3 (by decide) rfl rfl (by decide +kernel) 0 (by decide) (ch_nw hw 0 rfl) rfl dX6_listen_19 ?_
    refine lv_iload_n hx hb dX6_listen_22 rfl (lv_at hl 3 rfl) ?_
    refine lv_aload_n hx hb dX6_listen_23 rfl (lv_at hl 0 rfl) ?_
    refine ch_get S hw 0 (by decide) rfl rfl (by decide +kernel) 1 (by decide) (hts (.fieldLink RX6 17 "CodeHunt" "reels" "[LCodeHunt$Reel;") (by decide +kernel)) rfl dX6_listen_24 ?_
    refine lv_iconst (v := (0 : Int32)) hx hb dX6_listen_27 (by decide) ?_
    refine ch_gd_k h (fun hin h => ?_)
    have hlt1 := ch_in_lt hin
    refine ch_reels S hw hin dX6_listen_28 ?_
    refine lv_iload_n hx hb dX6_listen_29 rfl (lv_at hl 1 rfl) ?_
    refine lv_iload_n hx hb dX6_listen_30 rfl (lv_at hl 3 rfl) ?_
    refine lv_iadd hx hb dX6_listen_31 ?_
    refine ch_bd_k h (fun r2 M3 hc h => ?_)
    refine ch_ci hw (va_runV (As := [.int (x1 + x3)]) (rest := [.int x3, .ref (sh 31)]) S (c_X2_itemOrZero l D I sh H.size M (23 + (0 : Int32).toNatClampNeg) (by omega) (x1 + x3) hc) (cwV 1 hts gX6_listen_X2_itemOrZero rfl rfl rfl (by decide +kernel) ⟨Nat.le_of_ble_eq_true rfl, Nat.le_of_ble_eq_true rfl⟩) (ch_pV hw (by omega) (ch_FC_reel (by omega)) rfl rfl) rfl rfl hl.1 rfl (lv_room (Nat.le_of_ble_eq_true rfl)) dX6_listen_32 ⟨Nat.le_refl 0, Nat.le_refl 0⟩) (fun H locs hw => ?_)
    refine ch_bd_k h (fun r4 M5 hc h => ?_)
    refine ch_ci hw (va_runS (As := [.int r2]) (rest := [.int x3, .ref (sh 31)]) S (c_X6_quietened l D I sh H.size M3 r2 hc) (va_cwS 1 hts gX6_listen_X6_quietened rfl rfl rfl (by decide +kernel) ⟨Nat.le_of_ble_eq_true rfl, Nat.le_of_ble_eq_true rfl⟩) (ch_pS hw) rfl rfl hl.1 rfl (lv_room (Nat.le_of_ble_eq_true rfl)) dX6_listen_35 ⟨Nat.le_refl 0, Nat.le_refl 0⟩) (fun H locs hw => ?_)
    refine ch_gd_k h (fun hin h => ?_)
    refine ch_iast S hw 31 (by decide) (fun _ => rfl) hin dX6_listen_38 (fun H locs hw => ?_)
    refine lv_aload_n hx hb dX6_listen_39 rfl (lv_at hl 0 rfl) ?_
    refine ch_get S hw 0 (by decide) rfl rfl (by decide +kernel) 2 (by decide) (hts (.fieldLink RX6 24 "CodeHunt" "window" "LCodeHunt$Window;") (by decide +kernel)) rfl dX6_listen_40 ?_
    refine ch_getN S hw 3 (by decide) rfl rfl (by decide +kernel) 1 (by decide) (ch_nw hw 1 rfl) rfl dX6_listen_43 ?_
    refine lv_iload_n hx hb dX6_listen_46 rfl (lv_at hl 3 rfl) ?_
    refine lv_aload_n hx hb dX6_listen_47 rfl (lv_at hl 0 rfl) ?_
    refine ch_get S hw 0 (by decide) rfl rfl (by decide +kernel) 1 (by decide) (hts (.fieldLink RX6 17 "CodeHunt" "reels" "[LCodeHunt$Reel;") (by decide +kernel)) rfl dX6_listen_48 ?_
    refine lv_iconst (v := (1 : Int32)) hx hb dX6_listen_51 (by decide) ?_
    refine ch_gd_k h (fun hin h => ?_)
    have hlt6 := ch_in_lt hin
    refine ch_reels S hw hin dX6_listen_52 ?_
    refine lv_iload_n hx hb dX6_listen_53 rfl (lv_at hl 1 rfl) ?_
    refine lv_iload_n hx hb dX6_listen_54 rfl (lv_at hl 3 rfl) ?_
    refine lv_iadd hx hb dX6_listen_55 ?_
    refine ch_bd_k h (fun r7 M8 hc h => ?_)
    refine ch_ci hw (va_runV (As := [.int (x1 + x3)]) (rest := [.int x3, .ref (sh 32)]) S (c_X2_itemOrZero l D I sh H.size (ch_wI M5 31 x3.toNatClampNeg r4) (23 + (1 : Int32).toNatClampNeg) (by omega) (x1 + x3) hc) (cwV 1 hts gX6_listen_X2_itemOrZero rfl rfl rfl (by decide +kernel) ⟨Nat.le_of_ble_eq_true rfl, Nat.le_of_ble_eq_true rfl⟩) (ch_pV hw (by omega) (ch_FC_reel (by omega)) rfl rfl) rfl rfl hl.1 rfl (lv_room (Nat.le_of_ble_eq_true rfl)) dX6_listen_56 ⟨Nat.le_refl 0, Nat.le_refl 0⟩) (fun H locs hw => ?_)
    refine ch_bd_k h (fun r9 M10 hc h => ?_)
    refine ch_ci hw (va_runS (As := [.int r7]) (rest := [.int x3, .ref (sh 32)]) S (c_X6_quietened l D I sh H.size M8 r7 hc) (va_cwS 1 hts gX6_listen_X6_quietened rfl rfl rfl (by decide +kernel) ⟨Nat.le_of_ble_eq_true rfl, Nat.le_of_ble_eq_true rfl⟩) (ch_pS hw) rfl rfl hl.1 rfl (lv_room (Nat.le_of_ble_eq_true rfl)) dX6_listen_59 ⟨Nat.le_refl 0, Nat.le_refl 0⟩) (fun H locs hw => ?_)
    refine ch_gd_k h (fun hin h => ?_)
    refine ch_iast S hw 32 (by decide) (fun _ => rfl) hin dX6_listen_62 (fun H locs hw => ?_)
    refine lv_iinc (v := x3 + (1 : Int32)) (lv' := [(3, .int (x3 + (1 : Int32))), (0, .ref (sh 0)), (1, .int x1), (2, .int x2)]) hx hb dX6_listen_63 hl (k := 3) rfl rfl (by decide) rfl (fun ls hl => ?_)
    refine lv_goto (tgt := 10) hx hb dX6_listen_66 (by decide) ?_
    exact hk10 _ _ _ _ _ _ _  h hw (lv_sub hl [1, 2, 3, 0] rfl)
set_option maxHeartbeats 4000000 in
set_option maxRecDepth 100000 in
theorem tl_X6_listen_10 {p : Program} {l : Launch} {e : Env} {s : State} {m : MethodId} {args : Array Value} {below : List Frame} {meth : Method} {c : Code} {Q : State → Prop} {D : va_G} {I : ch_Id} {sh : Nat → Nat} {A : Nat → Prop} {oo : Unit × ch_Mem}     (S : CallFix p m c cX6_listen 4 s args wsX6_listen RX6) (fin : ch_FinV p l e rm_X6_listen s m args below meth c cX6_listen Q D I 40 (ch_FC I sh) sh A oo)  (n : Nat) : ∀ (x1 : Int32) (x2 : Int32) (x3 : Int32) (M : ch_Mem) (H : Heap) (locs : List Loc) (ls : Array Slot), D_X6_listen_L10  n x1 x2 x3 M = some oo → ch_Wd D I 40 (ch_FC I sh) sh s A M H locs → lv_has ls 4 [(0, .ref (sh 0)), (1, .int x1), (2, .int x2), (3, .int x3)] → W p l e rm_X6_listen s m args below meth c H locs 0 0 Q (F0 m 10 ls []) := by
  induction n with
  | zero => intro x1 x2 x3 M H locs ls  h; cases h
  | succ n ih =>
    intro x1 x2 x3 M H locs ls  h hw hl
    exact t_X6_listen_10 S fin ih h hw hl
set_option maxHeartbeats 4000000 in
set_option maxRecDepth 100000 in
theorem t_X6_listen_0 {p : Program} {l : Launch} {e : Env} {s : State} {m : MethodId} {args : Array Value} {below : List Frame} {meth : Method} {c : Code} {Q : State → Prop} {D : va_G} {I : ch_Id} {sh : Nat → Nat} {A : Nat → Prop} {oo : Unit × ch_Mem}     (S : CallFix p m c cX6_listen 4 s args wsX6_listen RX6) (fin : ch_FinV p l e rm_X6_listen s m args below meth c cX6_listen Q D I 40 (ch_FC I sh) sh A oo)  {x1 : Int32} {x2 : Int32}  {M : ch_Mem} {H : Heap} {locs : List Loc} {ls : Array Slot} (h : D_X6_listen x1 x2 M = some oo) (hw : ch_Wd D I 40 (ch_FC I sh) sh s A M H locs) (hl : lv_has ls 4 [(0, .ref (sh 0)), (1, .int x1), (2, .int x2)]) : W p l e rm_X6_listen s m args below meth c H locs 0 0 Q (F0 m 0 ls []) := by
  obtain ⟨hx, hb, hml, hown, hts⟩ := id S
  unfold D_X6_listen at h
  refine lv_aload_n hx hb dX6_listen_0 rfl (lv_at hl 0 rfl) ?_
  refine ch_get S hw 0 (by decide) rfl rfl (by decide +kernel) 2 (by decide) (hts (.fieldLink RX6 24 "CodeHunt" "window" "LCodeHunt$Window;") (by decide +kernel)) rfl dX6_listen_1 ?_
  refine lv_iload_n hx hb dX6_listen_4 rfl (lv_at hl 2 rfl) ?_
  refine ch_putN (M1 := ch_wI M 3 4 x2) (ty := .int) S hw 3 (by decide) rfl rfl (by decide +kernel) tyX5 tyX5_ok nmX5 4 (by decide) (ch_nw hw 4 rfl) rfl (by decide +kernel) rfl rfl (Nat.le_of_ble_eq_true rfl) (ch_cf_wI (j := 4) (v := x2) rfl) dX6_listen_5 (fun H locs hw => ?_)
  refine lv_iconst (v := (0 : Int32)) hx hb dX6_listen_8 (by decide) ?_
  refine lv_istore_n (lv' := [(3, .int (0 : Int32)), (0, .ref (sh 0)), (1, .int x1), (2, .int x2)]) hx hb dX6_listen_9 rfl hl (by decide) rfl (fun ls hl => ?_)
  exact tl_X6_listen_10 S fin ch_fu _ _ _ _ _ _ _ h hw (lv_sub hl [1, 2, 3, 0] rfl)
set_option maxHeartbeats 4000000 in
set_option maxRecDepth 100000 in
theorem c_X6_listen (l : Launch) (D : va_G) (I : ch_Id) (sh : Nat → Nat) (sz : Nat) (M : ch_Mem)  (x1 : Int32) (x2 : Int32) {M1 : ch_Mem} (h : D_X6_listen x1 x2 M = some ((), M1)) : Met l yX6_listen wsX6_listen rm_X6_listen (va_Pc [.ref (sh 0), .int x1, .int x2] (ch_Pre D I 40 (ch_FC I sh) sh sz M)) (va_Qv (fun (u : ch_Mem) => u = M1) (ch_Pos D 40 (ch_FC I sh) sh) (ch_A 40 sh sz)) 0 0 (ch_A 40 sh sz) := by
  refine Met.ofW (cc := cX6_listen) (maxL := 4) (ret := none) (by decide) rfl ?_
  intro p e s m args below meth c s₁ B hml hv0
  obtain ⟨rfl, hv0⟩ := hv0
  obtain rfl : s.heap.size = sz := hv0.1
  have hw := ch_start hv0
  have S : CallFix p m c cX6_listen 4 s _ wsX6_listen RX6 := ⟨B.exec, B.bytes, hml, findClass_of_methodNamed B.named, atoms_spec (ws := wsX6_listen) B.pre⟩
  have hl := lv_entry ([.ref (sh 0), .int x1, .int x2]) (n := 4) (Nat.le_of_ble_eq_true rfl)
  rw [lg_entry_eq]
  generalize (lg_sl ([.ref (sh 0), .int x1, .int x2]) ++ List.replicate (4 - (lg_sl ([.ref (sh 0), .int x1, .int x2])).length) Slot.unset).toArray = ls at hl ⊢
  exact t_X6_listen_0 S (ch_finV B.exec B.bytes B.returns B.notSynchronized) h hw (lv_sub hl [0, 1, 2] rfl)
set_option maxHeartbeats 4000000 in
set_option maxRecDepth 100000 in
theorem t_X6_loudestNear_78 {p : Program} {l : Launch} {e : Env} {s : State} {m : MethodId} {args : Array Value} {below : List Frame} {meth : Method} {c : Code} {Q : State → Prop} {D : va_G} {I : ch_Id} {sh : Nat → Nat} {A : Nat → Prop} {oo : Int32 × ch_Mem} {o : Nat} (ho : 7 ≤ o ∧ o < 15)   (S : CallFix p m c cX6_loudestNear 7 s args wsX6_loudestNear RX6) (fin : ch_FinI p l e rm_X6_loudestNear s m args below meth c cX6_loudestNear Q D I 40 (ch_FC I sh) sh A oo)  {x2 : Int32} {x3 : Int32} {x5 : Int32} {x6 : Int32}  {M : ch_Mem} {H : Heap} {locs : List Loc} {ls : Array Slot} (h : D_X6_loudestNear_b78 o x2 x3 x5 x6 M = some oo) (hw : ch_Wd D I 40 (ch_FC I sh) sh s A M H locs) (hl : lv_has ls 7 [(2, .int x2), (3, .int x3), (5, .int x5), (6, .int x6)]) : W p l e rm_X6_loudestNear s m args below meth c H locs 0 0 Q (F0 m 78 ls []) := by
  obtain ⟨hx, hb, hml, hown, hts⟩ := id S
  unfold D_X6_loudestNear_b78 at h
  refine lv_iload hx hb dX6_loudestNear_78 (lv_at hl 2 rfl) ?_
  refine lv_iload hx hb dX6_loudestNear_80 (lv_at hl 3 rfl) ?_
  refine ch_icmp_lt (tgt := 89) hx hb dX6_loudestNear_82 (by decide) h (fun h => ?_) (fun h => ?_)
  · refine lv_iload_n hx hb dX6_loudestNear_89 rfl (lv_at hl 0 rfl) ?_
    refine lv_iconst (v := (1 : Int32)) hx hb dX6_loudestNear_90 (by decide) ?_
    refine lv_iadd hx hb dX6_loudestNear_91 ?_
    exact fin _ _ _ _ _ _ h hw dX6_loudestNear_92
  · refine lv_iload_n hx hb dX6_loudestNear_85 rfl (lv_at hl 1 rfl) ?_
    refine lv_goto (tgt := 92) hx hb dX6_loudestNear_86 (by decide) ?_
    exact fin _ _ _ _ _ _ h hw dX6_loudestNear_92
set_option maxHeartbeats 4000000 in
set_option maxRecDepth 100000 in
theorem t_X6_loudestNear_0 {p : Program} {l : Launch} {e : Env} {s : State} {m : MethodId} {args : Array Value} {below : List Frame} {meth : Method} {c : Code} {Q : State → Prop} {D : va_G} {I : ch_Id} {sh : Nat → Nat} {A : Nat → Prop} {oo : Int32 × ch_Mem} {o : Nat} (ho : 7 ≤ o ∧ o < 15)   (S : CallFix p m c cX6_loudestNear 7 s args wsX6_loudestNear RX6) (fin : ch_FinI p l e rm_X6_loudestNear s m args below meth c cX6_loudestNear Q D I 40 (ch_FC I sh) sh A oo)  {x2 : Int32}  {M : ch_Mem} {H : Heap} {locs : List Loc} {ls : Array Slot} (h : D_X6_loudestNear o x2 M = some oo) (hw : ch_Wd D I 40 (ch_FC I sh) sh s A M H locs) (hl : lv_has ls 7 [(0, .ref (sh 0)), (1, .ref (sh o)), (2, .int x2)]) : W p l e rm_X6_loudestNear s m args below meth c H locs 0 0 Q (F0 m 0 ls []) := by
  obtain ⟨hx, hb, hml, hown, hts⟩ := id S
  unfold D_X6_loudestNear at h
  refine lv_iload_n hx hb dX6_loudestNear_0 rfl (lv_at hl 2 rfl) ?_
  refine lv_aload_n hx hb dX6_loudestNear_1 rfl (lv_at hl 1 rfl) ?_
  refine ch_getN S hw o (by omega) (ch_FC_row (by omega)) rfl (by decide +kernel) 1 (by decide) (ch_nw hw 16 rfl) rfl dX6_loudestNear_2 ?_
  refine lv_iadd hx hb dX6_loudestNear_5 ?_
  refine lv_iconst (v := (1 : Int32)) hx hb dX6_loudestNear_6 (by decide) ?_
  refine lv_isub hx hb dX6_loudestNear_7 ?_
  refine lv_istore_n (lv' := [(3, .int ((x2 + (M.1 o 1)) - (1 : Int32))), (0, .ref (sh 0)), (1, .ref (sh o)), (2, .int x2)]) hx hb dX6_loudestNear_8 rfl hl (by decide) rfl (fun ls hl => ?_)
  refine lv_aload_n hx hb dX6_loudestNear_9 rfl (lv_at hl 2 rfl) ?_
  refine lv_aload_n hx hb dX6_loudestNear_10 rfl (lv_at hl 1 rfl) ?_
  refine ch_get S hw 0 (by decide) rfl rfl (by decide +kernel) 2 (by decide) (hts (.fieldLink RX6 24 "CodeHunt" "window" "LCodeHunt$Window;") (by decide +kernel)) rfl dX6_loudestNear_11 ?_
  refine ch_getN S hw 3 (by decide) rfl rfl (by decide +kernel) 0 (by decide) (ch_nw hw 0 rfl) rfl dX6_loudestNear_14 ?_
  refine lv_iload_n hx hb dX6_loudestNear_17 rfl (lv_at hl 3 rfl) ?_
  refine ch_bd_k h (fun r1 M2 hc h => ?_)
  refine ch_ci hw (va_runV (As := [.ref (sh 31), .int x2]) (rest := []) S (c_X3_sumOver l D I sh H.size M o ho 31 (by unfold ch_arr; omega) x2 hc) (cwV 2 hts gX6_loudestNear_X3_sumOver rfl rfl rfl (by decide +kernel) ⟨Nat.le_of_ble_eq_true rfl, Nat.le_of_ble_eq_true rfl⟩) (ch_pV hw (by omega) (ch_FC_row (by omega)) rfl rfl) rfl rfl hl.1 rfl (lv_room (Nat.le_of_ble_eq_true rfl)) dX6_loudestNear_18 ⟨Nat.le_refl 0, Nat.le_refl 0⟩) (fun H locs hw => ?_)
  refine va_mabs hx hb (S.2.2.1.trans hl.1.symm) hown (hts (.methodLink RX6 127 Lib.Math.abs.name) (by decide +kernel)) (hts (.static Lib.Math.abs.name) (by decide +kernel)) (hts (.initialized "java/lang/Math") (by decide +kernel)) (hts (.code Lib.Math.abs.name Lib.Math.abs.code 1 (some .int)) (by decide +kernel)) (Nat.le_of_ble_eq_true rfl) (Nat.le_of_ble_eq_true rfl) (Nat.le_refl 0) (Nat.le_refl 0) dX6_loudestNear_21 ?_
  refine lv_istore (lv' := [(4, .int (if 0 ≤ r1 then r1 else 0 - r1)), (3, .int ((x2 + (M.1 o 1)) - (1 : Int32))), (0, .ref (sh 0)), (1, .ref (sh o)), (2, .int x2)]) hx hb dX6_loudestNear_24 hl (by decide) rfl (fun ls hl => ?_)
  refine lv_aload_n hx hb dX6_loudestNear_26 rfl (lv_at hl 3 rfl) ?_
  refine lv_aload_n hx hb dX6_loudestNear_27 rfl (lv_at hl 2 rfl) ?_
  refine ch_get S hw 0 (by decide) rfl rfl (by decide +kernel) 2 (by decide) (hts (.fieldLink RX6 24 "CodeHunt" "window" "LCodeHunt$Window;") (by decide +kernel)) rfl dX6_loudestNear_28 ?_
  refine ch_getN S hw 3 (by decide) rfl rfl (by decide +kernel) 0 (by decide) (ch_nw hw 0 rfl) rfl dX6_loudestNear_31 ?_
  refine lv_iload_n hx hb dX6_loudestNear_34 rfl (lv_at hl 1 rfl) ?_
  refine ch_bd_k h (fun r3 M4 hc h => ?_)
  refine ch_ci hw (va_runV (As := [.ref (sh 31), .int ((x2 + (M.1 o 1)) - (1 : Int32))]) (rest := []) S (c_X3_sumOver l D I sh H.size M2 o ho 31 (by unfold ch_arr; omega) ((x2 + (M.1 o 1)) - (1 : Int32)) hc) (cwV 2 hts gX6_loudestNear_X3_sumOver rfl rfl rfl (by decide +kernel) ⟨Nat.le_of_ble_eq_true rfl, Nat.le_of_ble_eq_true rfl⟩) (ch_pV hw (by omega) (ch_FC_row (by omega)) rfl rfl) rfl rfl hl.1 rfl (lv_room (Nat.le_of_ble_eq_true rfl)) dX6_loudestNear_35 ⟨Nat.le_refl 0, Nat.le_refl 0⟩) (fun H locs hw => ?_)
  refine va_mabs hx hb (S.2.2.1.trans hl.1.symm) hown (hts (.methodLink RX6 127 Lib.Math.abs.name) (by decide +kernel)) (hts (.static Lib.Math.abs.name) (by decide +kernel)) (hts (.initialized "java/lang/Math") (by decide +kernel)) (hts (.code Lib.Math.abs.name Lib.Math.abs.code 1 (some .int)) (by decide +kernel)) (Nat.le_of_ble_eq_true rfl) (Nat.le_of_ble_eq_true rfl) (Nat.le_refl 0) (Nat.le_refl 0) dX6_loudestNear_38 ?_
  refine lv_istore (lv' := [(5, .int (if 0 ≤ r3 then r3 else 0 - r3)), (4, .int (if 0 ≤ r1 then r1 else 0 - r1)), (3, .int ((x2 + (M.1 o 1)) - (1 : Int32))), (0, .ref (sh 0)), (1, .ref (sh o)), (2, .int x2)]) hx hb dX6_loudestNear_41 hl (by decide) rfl (fun ls hl => ?_)
  refine lv_aload_n hx hb dX6_loudestNear_43 rfl (lv_at hl 4 rfl) ?_
  refine lv_aload_n hx hb dX6_loudestNear_44 rfl (lv_at hl 3 rfl) ?_
  refine ch_get S hw 0 (by decide) rfl rfl (by decide +kernel) 2 (by decide) (hts (.fieldLink RX6 24 "CodeHunt" "window" "LCodeHunt$Window;") (by decide +kernel)) rfl dX6_loudestNear_45 ?_
  refine ch_getN S hw 3 (by decide) rfl rfl (by decide +kernel) 0 (by decide) (ch_nw hw 0 rfl) rfl dX6_loudestNear_48 ?_
  refine lv_iload_n hx hb dX6_loudestNear_51 rfl (lv_at hl 5 rfl) ?_
  refine lv_iconst (v := (1 : Int32)) hx hb dX6_loudestNear_52 (by decide) ?_
  refine lv_iadd hx hb dX6_loudestNear_53 ?_
  refine ch_bd_k h (fun r5 M6 hc h => ?_)
  refine ch_ci hw (va_runV (As := [.ref (sh 31), .int (x2 + (1 : Int32))]) (rest := []) S (c_X3_sumOver l D I sh H.size M4 o ho 31 (by unfold ch_arr; omega) (x2 + (1 : Int32)) hc) (cwV 2 hts gX6_loudestNear_X3_sumOver rfl rfl rfl (by decide +kernel) ⟨Nat.le_of_ble_eq_true rfl, Nat.le_of_ble_eq_true rfl⟩) (ch_pV hw (by omega) (ch_FC_row (by omega)) rfl rfl) rfl rfl hl.1 rfl (lv_room (Nat.le_of_ble_eq_true rfl)) dX6_loudestNear_54 ⟨Nat.le_refl 0, Nat.le_refl 0⟩) (fun H locs hw => ?_)
  refine va_mabs hx hb (S.2.2.1.trans hl.1.symm) hown (hts (.methodLink RX6 127 Lib.Math.abs.name) (by decide +kernel)) (hts (.static Lib.Math.abs.name) (by decide +kernel)) (hts (.initialized "java/lang/Math") (by decide +kernel)) (hts (.code Lib.Math.abs.name Lib.Math.abs.code 1 (some .int)) (by decide +kernel)) (Nat.le_of_ble_eq_true rfl) (Nat.le_of_ble_eq_true rfl) (Nat.le_refl 0) (Nat.le_refl 0) dX6_loudestNear_57 ?_
  refine lv_istore (lv' := [(6, .int (if 0 ≤ r5 then r5 else 0 - r5)), (5, .int (if 0 ≤ r3 then r3 else 0 - r3)), (4, .int (if 0 ≤ r1 then r1 else 0 - r1)), (3, .int ((x2 + (M.1 o 1)) - (1 : Int32))), (0, .ref (sh 0)), (1, .ref (sh o)), (2, .int x2)]) hx hb dX6_loudestNear_60 hl (by decide) rfl (fun ls hl => ?_)
  refine lv_iload hx hb dX6_loudestNear_62 (lv_at hl 2 rfl) ?_
  refine lv_iload hx hb dX6_loudestNear_64 (lv_at hl 1 rfl) ?_
  refine ch_icmp_lt (tgt := 78) hx hb dX6_loudestNear_66 (by decide) h (fun h => ?_) (fun h => ?_)
  · exact t_X6_loudestNear_78 ho S fin h hw (lv_sub hl [6, 3, 1, 0] rfl)
  · refine lv_iload hx hb dX6_loudestNear_69 (lv_at hl 2 rfl) ?_
    refine lv_iload hx hb dX6_loudestNear_71 (lv_at hl 0 rfl) ?_
    refine ch_icmp_lt (tgt := 78) hx hb dX6_loudestNear_73 (by decide) h (fun h => ?_) (fun h => ?_)
    · exact t_X6_loudestNear_78 ho S fin h hw (lv_sub hl [6, 3, 1, 0] rfl)
    · refine lv_iload_n hx hb dX6_loudestNear_76 rfl (lv_at hl 6 rfl) ?_
      exact fin _ _ _ _ _ _ h hw dX6_loudestNear_77
set_option maxHeartbeats 4000000 in
set_option maxRecDepth 100000 in
theorem c_X6_loudestNear (l : Launch) (D : va_G) (I : ch_Id) (sh : Nat → Nat) (sz : Nat) (M : ch_Mem) (o : Nat) (ho : 7 ≤ o ∧ o < 15) (x2 : Int32) {r : Int32} {M1 : ch_Mem} (h : D_X6_loudestNear o x2 M = some (r, M1)) : Met l yX6_loudestNear wsX6_loudestNear rm_X6_loudestNear (va_Pc [.ref (sh 0), .ref (sh o), .int x2] (ch_Pre D I 40 (ch_FC I sh) sh sz M)) (va_Qi (fun r' (u : ch_Mem) => r' = r ∧ u = M1) (ch_Pos D 40 (ch_FC I sh) sh) (ch_A 40 sh sz)) 0 0 (ch_A 40 sh sz) := by
  refine Met.ofW (cc := cX6_loudestNear) (maxL := 7) (ret := (some .int)) (by decide) rfl ?_
  intro p e s m args below meth c s₁ B hml hv0
  obtain ⟨rfl, hv0⟩ := hv0
  obtain rfl : s.heap.size = sz := hv0.1
  have hw := ch_start hv0
  have S : CallFix p m c cX6_loudestNear 7 s _ wsX6_loudestNear RX6 := ⟨B.exec, B.bytes, hml, findClass_of_methodNamed B.named, atoms_spec (ws := wsX6_loudestNear) B.pre⟩
  have hl := lv_entry ([.ref (sh 0), .ref (sh o), .int x2]) (n := 7) (Nat.le_of_ble_eq_true rfl)
  rw [lg_entry_eq]
  generalize (lg_sl ([.ref (sh 0), .ref (sh o), .int x2]) ++ List.replicate (7 - (lg_sl ([.ref (sh 0), .ref (sh o), .int x2])).length) Slot.unset).toArray = ls at hl ⊢
  exact t_X6_loudestNear_0 ho S (ch_finI (B := fun _ => True) B.exec B.bytes B.returns B.notSynchronized) h hw (lv_sub hl [0, 1, 2] rfl)
