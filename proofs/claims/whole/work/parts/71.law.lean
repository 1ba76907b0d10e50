/-! THE CLAIM OUT OF ONE WALK OF THE LAW'S BODY. Your part is whole_start (and what it stands on); all else here is the same for every law, but numbers. -/
def R_law : String := "CodeHuntLaw"
def lw_P (b : Addr) (xs : List Int32) (args : Array Value) (s : State) : Prop := args = #[.ref b] ∧ s.IntsAt b xs ∧ xs.length ≤ 3072 ∧ (Jvm.Cond.and given_1 narrow_1).before args s = true
def lw_Q (_ : Array Value) (s : State) (o : Outcome) (t : State) : Prop := o = .returned (some (.int 1)) ∧ Framed s o t [] 600000 7302250
def lw_Z (below : List Frame) (a : Array Value) (s : State) : State → Prop := fun t => ∃ o, t.status = .running ∧ Ended t below o ∧ lw_Q a s o t
/-- the law's own end, with 1 on the stack, nothing written that was there before, its room as the claim has it -/
theorem lw_ret {p : Program} {l : Launch} {e : Env} {s : State} {m : MethodId} {below : List Frame} {meth : Method} {c : Code} {b : Nat} (hx : p.tables.exec = Jvm.exec) (hb : c.code = code) (hr : meth.sig.returnType = ret) (hlocks : meth.locks = false) {pc : Nat} {H : Heap} {ls : Array Slot} (hdg : decode code pc = .ok (.ireturn, 1)) : W p l e room_1 s m #[Value.ref b] below meth c H [] 600000 7302250 (lw_Z below #[Value.ref b] s) (F0 m pc ls [.int 1]) := by
  intro T hT X
  obtain ⟨fs, hret, hrun, hended, hW, hframe⟩ := X.leave (v := some (.int 1)) (hlocks := hlocks) (fun h => by rw [hr] at h; cases h)
  have hmeth' : T.vm.method? m = some meth := X.method'
  refine ⟨T.setFrames fs, ?_, .returned (some (.int 1)), hrun, hended, rfl, ⟨_, rfl⟩, hW, hframe⟩
  jvm_step X.here [X.here.top, hx, hb, hdg, hmeth', hr, ret, narrow_b1]
  (try refine ⟨rfl, ?_⟩); (try refine ⟨rfl, ?_⟩)
  first | (intro acts; rw [hret _ acts rfl rfl rfl]) | rw [hret _ _ rfl rfl rfl]
  exact Steps.refl _
/-- what holds at the law's entry: the machine, the code, the tables' words (any of lw_tbl by 'hts w (by decide +kernel)'), the script of L ints xs at the cell b, what the Statement gives of the start (any of its parts by flat_of_before) -/
def lw_At (p : Program) (s : State) (m : MethodId) (meth : Method) (c : Code) (b L : Nat) (xs : Nat → Int32) : Prop :=
  p.tables.exec = Jvm.exec ∧ c.code = code ∧ meth.sig.returnType = ret ∧ c.maxLocals = 4 ∧ s.vm.findClass R_law = some m.cls ∧ (∀ w ∈ lw_tbl, w.before #[Value.ref b] s = true) ∧ va_X b L xs s s.heap ∧ b < s.heap.size ∧ meth.locks = false ∧ (Jvm.Cond.and given_1 narrow_1).before #[Value.ref b] s = true
theorem lw_no {i L : Nat} (h : i + 6 ≤ L) (hL : L < 2 ^ 31) : ¬ (Int32.ofNat L - 6 < nI i) := by
  have e : Int32.ofNat L - 6 = nI (L - 6) := pk_sub (a := L) (b := 6) (by omega)
  rw [e]
  exact nI_nlt (by omega) (by omega)
theorem lw_yes {i L : Nat} (h : L < i + 6) (hL : L ≤ 3072) (hi : i ≤ 4000) : Int32.ofNat L - 6 < nI i := by
  have e1 : (nI L - nI 6).toInt = (L : Int) - 6 := pk_sub_toInt (by omega) (by omega)
  have e2 : (nI i).toInt = (i : Int) := nI_toInt (by omega)
  show nI L - nI 6 < nI i
  rw [Int32.lt_iff_toInt_lt, e1, e2]
  omega
set_option maxHeartbeats 4000000 in
set_option maxRecDepth 100000 in
theorem lw_end {p : Program} {l : Launch} {e : Env} {s : State} {m : MethodId} {below : List Frame} {meth : Method} {c : Code} {b L : Nat} {xs : Nat → Int32} {D : va_G} {I : ch_Id} {shC shM : Nat → Nat} (S : CallFix p m c cL_law 4 s #[Value.ref b] wsL_law RL) (hr : meth.sig.returnType = ret) (hlk : meth.locks = false) (hX : va_X b L xs s s.heap) (hbl : b < s.heap.size) (hL : L ≤ 3072) {i : Nat} (hi : L < i + 6) (hi2 : i ≤ 4000) {MC MM : ch_Mem} {H : Heap} {locs : List Loc} {ls : Array Slot} (hw : ch_LW D I s b shC shM MC MM H locs) (hl : lv_has ls 4 [(0, .ref b), (1, .ref (shC 0)), (2, .ref (shM 0)), (3, .int (nI i))]) : W p l e room_1 s m #[Value.ref b] below meth c H locs 53 5742 (lw_Z below #[Value.ref b] s) (F0 m 18 ls []) := by
  obtain ⟨hx, hb, hml, hown, hts⟩ := id S
  refine lv_iload_n hx hb dL_law_18 rfl (lv_at hl 3 rfl) ?_
  refine lv_aload_n hx hb dL_law_19 rfl (lv_at hl 0 rfl) ?_
  refine va_slen (A := fun q : Nat => s.heap.size ≤ q) hx hb hX hbl (Nat.not_le.mpr hbl) (lw_wC hw).2.2.2.1 dL_law_20 ?_
  refine lv_bipush (v := (6 : Int32)) hx hb dL_law_21 (by decide) ?_
  refine lv_isub hx hb dL_law_23 ?_
  refine lv_icmp_gt (tgt := 1362) hx hb dL_law_24 (by decide) (fun _ => ?_) (fun q => absurd (lw_yes hi hL hi2) q)
  refine lv_iconst (v := 1) hx hb dL_law_1362 (by decide) ?_
  refine va_forget (fun q hq => (lw_wC hw).2.2.2.1.2.2 q hq) ?_
  refine W.widen (k := 600000) (n := 7302250) (by decide) (by decide) ?_
  exact lw_ret hx hb hr hlk dL_law_1363
set_option maxHeartbeats 4000000 in
set_option maxRecDepth 100000 in
theorem lw_loop {p : Program} {l : Launch} {e : Env} {s : State} {m : MethodId} {below : List Frame} {meth : Method} {c : Code} {b L : Nat} {xs : Nat → Int32} {D : va_G} {I : ch_Id} {shC shM : Nat → Nat} (S : CallFix p m c cL_law 4 s #[Value.ref b] wsL_law RL) (hr : meth.sig.returnType = ret) (hlk : meth.locks = false) (hX : va_X b L xs s s.heap) (hbl : b < s.heap.size) (hL : L ≤ 3072) : ∀ (n i : Nat), L + 6 ≤ i + 6 * n → i ≤ L + 6 → ∀ (MC MM : ch_Mem) (H : Heap) (locs : List Loc) (ls : Array Slot), ch_R MC MM → ch_LW D I s b shC shM MC MM H locs → lv_has ls 4 [(0, .ref b), (1, .ref (shC 0)), (2, .ref (shM 0)), (3, .int (nI i))] → W p l e room_1 s m #[Value.ref b] below meth c H locs 53 5742 (lw_Z below #[Value.ref b] s) (F0 m 18 ls []) := by
  obtain ⟨hx, hb, hml, hown, hts⟩ := id S
  intro n
  induction n with
  | zero =>
    intro i h1 h2 MC MM H locs ls hR hw hl
    exact lw_end S hr hlk hX hbl hL (by omega) (by omega) hw hl
  | succ n ih =>
    intro i h1 h2 MC MM H locs ls hR hw hl
    by_cases hi : i + 6 ≤ L
    · refine lv_iload_n hx hb dL_law_18 rfl (lv_at hl 3 rfl) ?_
      refine lv_aload_n hx hb dL_law_19 rfl (lv_at hl 0 rfl) ?_
      refine va_slen (A := fun q : Nat => s.heap.size ≤ q) hx hb hX hbl (Nat.not_le.mpr hbl) (lw_wC hw).2.2.2.1 dL_law_20 ?_
      refine lv_bipush (v := (6 : Int32)) hx hb dL_law_21 (by decide) ?_
      refine lv_isub hx hb dL_law_23 ?_
      refine lv_icmp_gt (tgt := 1362) hx hb dL_law_24 (by decide) (fun q => absurd q (lw_no hi (by omega))) (fun _ => ?_)
      refine lv_aload_n hx hb dL_law_27 rfl (lv_at hl 0 rfl) ?_
      refine lv_iload_n hx hb dL_law_28 rfl (lv_at hl 3 rfl) ?_
      refine lw_sld (k := 0) hx hb hX hbl hw hL hi (by decide) rfl dL_law_29 ?_
      refine lv_bipush (v := (31 : Int32)) hx hb dL_law_30 (by decide) ?_
      refine lv_iand hx hb dL_law_32 ?_
      have next : ∀ (MC MM : ch_Mem) (H : Heap) (locs : List Loc) (ls : Array Slot), ch_R MC MM → ch_LW D I s b shC shM MC MM H locs → lv_has ls 4 [(0, .ref b), (1, .ref (shC 0)), (2, .ref (shM 0)), (3, .int (nI i))] → W p l e room_1 s m #[Value.ref b] below meth c H locs 53 5742 (lw_Z below #[Value.ref b] s) (F0 m 1356 ls []) := by
        intro MC MM H locs ls hR hw hl
        refine lv_iinc (v := nI (i + 6)) (lv' := [(3, .int (nI (i + 6))), (0, .ref b), (1, .ref (shC 0)), (2, .ref (shM 0))]) hx hb dL_law_1356 hl (k := 3) rfl (lw_ix i 6 rfl) (by decide) rfl (fun ls hl => ?_)
        refine lv_goto (tgt := 18) hx hb dL_law_1359 (by decide) ?_
        exact ih (i + 6) (by omega) (by omega) MC MM H locs ls hR hw (lv_sub hl [1, 2, 3, 0] rfl)
      obtain ⟨j, hj, ej⟩ := pk_andE (xs (i + 0)) (m := 31) 5 (by decide)
      rw [ej]
      rcases (show j = 0 ∨ j = 1 ∨ j = 2 ∨ j = 3 ∨ j = 4 ∨ j = 5 ∨ j = 6 ∨ j = 7 ∨ j = 8 ∨ j = 9 ∨ j = 10 ∨ j = 11 ∨ j = 12 ∨ j = 13 ∨ j = 14 ∨ j = 15 ∨ j = 16 ∨ j = 17 ∨ j = 18 ∨ j = 19 ∨ j = 20 ∨ j = 21 ∨ j = 22 ∨ j = 23 ∨ j = 24 ∨ j = 25 ∨ j = 26 ∨ j = 27 ∨ j = 28 ∨ j = 29 ∨ j = 30 ∨ j = 31 by omega) with rfl | rfl | rfl | rfl | rfl | rfl | rfl | rfl | rfl | rfl | rfl | rfl | rfl | rfl | rfl | rfl | rfl | rfl | rfl | rfl | rfl | rfl | rfl | rfl | rfl | rfl | rfl | rfl | rfl | rfl | rfl | rfl
      · exact lv_tableIn (off := 143) (tgt := 176) hx hb dL_law_33 (by decide) (by decide) (by decide) (by decide) (lw_case_0 S hX hbl hL hi next hR hw hl)
      · exact lv_tableIn (off := 196) (tgt := 229) hx hb dL_law_33 (by decide) (by decide) (by decide) (by decide) (lw_case_1 S hX hbl hL hi next hR hw hl)
      · exact lv_tableIn (off := 239) (tgt := 272) hx hb dL_law_33 (by decide) (by decide) (by decide) (by decide) (lw_case_2 S hX hbl hL hi next hR hw hl)
      · exact lv_tableIn (off := 262) (tgt := 295) hx hb dL_law_33 (by decide) (by decide) (by decide) (by decide) (lw_case_3 S hX hbl hL hi next hR hw hl)
      · exact lv_tableIn (off := 315) (tgt := 348) hx hb dL_law_33 (by decide) (by decide) (by decide) (by decide) (lw_case_4 S hX hbl hL hi next hR hw hl)
      · exact lv_tableIn (off := 358) (tgt := 391) hx hb dL_law_33 (by decide) (by decide) (by decide) (by decide) (lw_case_5 S hX hbl hL hi next hR hw hl)
      · exact lv_tableIn (off := 381) (tgt := 414) hx hb dL_law_33 (by decide) (by decide) (by decide) (by decide) (lw_case_6 S hX hbl hL hi next hR hw hl)
      · exact lv_tableIn (off := 414) (tgt := 447) hx hb dL_law_33 (by decide) (by decide) (by decide) (by decide) (lw_case_7 S hX hbl hL hi next hR hw hl)
      · exact lv_tableIn (off := 457) (tgt := 490) hx hb dL_law_33 (by decide) (by decide) (by decide) (by decide) (lw_case_8 S hX hbl hL hi next hR hw hl)
      · exact lv_tableIn (off := 490) (tgt := 523) hx hb dL_law_33 (by decide) (by decide) (by decide) (by decide) (lw_case_9 S hX hbl hL hi next hR hw hl)
      · exact lv_tableIn (off := 553) (tgt := 586) hx hb dL_law_33 (by decide) (by decide) (by decide) (by decide) (lw_case_10 S hX hbl hL hi next hR hw hl)
      · exact lv_tableIn (off := 586) (tgt := 619) hx hb dL_law_33 (by decide) (by decide) (by decide) (by decide) (lw_case_11 S hX hbl hL hi next hR hw hl)
      · exact lv_tableIn (off := 619) (tgt := 652) hx hb dL_law_33 (by decide) (by decide) (by decide) (by decide) (lw_case_12 S hX hbl hL hi next hR hw hl)
      · exact lv_tableIn (off := 653) (tgt := 686) hx hb dL_law_33 (by decide) (by decide) (by decide) (by decide) (lw_case_13 S hX hbl hL hi next hR hw hl)
      · exact lv_tableIn (off := 676) (tgt := 709) hx hb dL_law_33 (by decide) (by decide) (by decide) (by decide) (lw_case_14 S hX hbl hL hi next hR hw hl)
      · exact lv_tableIn (off := 709) (tgt := 742) hx hb dL_law_33 (by decide) (by decide) (by decide) (by decide) (lw_case_15 S hX hbl hL hi next hR hw hl)
      · exact lv_tableIn (off := 742) (tgt := 775) hx hb dL_law_33 (by decide) (by decide) (by decide) (by decide) (lw_case_16 S hX hbl hL hi next hR hw hl)
      · exact lv_tableIn (off := 756) (tgt := 789) hx hb dL_law_33 (by decide) (by decide) (by decide) (by decide) (lw_case_17 S hX hbl hL hi next hR hw hl)
      · exact lv_tableIn (off := 809) (tgt := 842) hx hb dL_law_33 (by decide) (by decide) (by decide) (by decide) (lw_case_18 S hX hbl hL hi next hR hw hl)
      · exact lv_tableIn (off := 842) (tgt := 875) hx hb dL_law_33 (by decide) (by decide) (by decide) (by decide) (lw_case_19 S hX hbl hL hi next hR hw hl)
      · exact lv_tableIn (off := 855) (tgt := 888) hx hb dL_law_33 (by decide) (by decide) (by decide) (by decide) (lw_case_20 S hX hbl hL hi next hR hw hl)
      · exact lv_tableIn (off := 869) (tgt := 902) hx hb dL_law_33 (by decide) (by decide) (by decide) (by decide) (lw_case_21 S hX hbl hL hi next hR hw hl)
      · exact lv_tableIn (off := 892) (tgt := 925) hx hb dL_law_33 (by decide) (by decide) (by decide) (by decide) (lw_case_22 S hX hbl hL hi next hR hw hl)
      · exact lv_tableIn (off := 955) (tgt := 988) hx hb dL_law_33 (by decide) (by decide) (by decide) (by decide) (lw_case_23 S hX hbl hL hi next hR hw hl)
      · exact lv_tableIn (off := 998) (tgt := 1031) hx hb dL_law_33 (by decide) (by decide) (by decide) (by decide) (lw_case_24 S hX hbl hL hi next hR hw hl)
      · exact lv_tableIn (off := 1041) (tgt := 1074) hx hb dL_law_33 (by decide) (by decide) (by decide) (by decide) (lw_case_25 S hX hbl hL hi next hR hw hl)
      · exact lv_tableIn (off := 1064) (tgt := 1097) hx hb dL_law_33 (by decide) (by decide) (by decide) (by decide) (lw_case_26 S hX hbl hL hi next hR hw hl)
      · exact lv_tableIn (off := 1117) (tgt := 1150) hx hb dL_law_33 (by decide) (by decide) (by decide) (by decide) (lw_case_27 S hX hbl hL hi next hR hw hl)
      · exact lv_tableIn (off := 1160) (tgt := 1193) hx hb dL_law_33 (by decide) (by decide) (by decide) (by decide) (lw_case_28 S hX hbl hL hi next hR hw hl)
      · exact lv_tableIn (off := 1223) (tgt := 1256) hx hb dL_law_33 (by decide) (by decide) (by decide) (by decide) (lw_case_29 S hX hbl hL hi next hR hw hl)
      · exact lv_tableIn (off := 1286) (tgt := 1319) hx hb dL_law_33 (by decide) (by decide) (by decide) (by decide) (lw_case_30 S hX hbl hL hi next hR hw hl)
      · exact lv_tableIn (off := 1309) (tgt := 1342) hx hb dL_law_33 (by decide) (by decide) (by decide) (by decide) (lw_case_31 S hX hbl hL hi next hR hw hl)
    · exact lw_end S hr hlk hX hbl hL (by omega) (by omega) hw hl
