theorem ch_arrV {cA : ClassId} {n : Nat} {f g : Nat → Option Nat} (h : ∀ j, j < n → f j = g j) : arrV cA n (fun j => va_rf (f j)) = arrV cA n (fun j => va_rf (g j)) := by
  unfold arrV
  have e1 : (fun j : Fin n => va_rf (f j.val)) = fun j : Fin n => va_rf (g j.val) := funext (fun j => by rw [h j.val j.isLt])
  rw [e1]
def ch_M0 : ch_Mem := (fun k => if k = 0 then (fun j => if j = 6 then 50 else 0) else if 23 ≤ k ∧ k < 27 then (fun j => if j = 1 then 1 else 0) else fun _ => 0, fun k => if k = 4 then (fun _ => -1) else fun _ => 0)
def ch_N0 : ch_Mem := (fun k => if k = 0 then (fun j => if j = 3 then 50 else 0) else fun _ => 0, fun _ _ => 0)
theorem ch_blindI {av : List Value} {D : va_G} {I : ch_Id} {sz : Nat} {w : va_W} : FrameBlind (va_Pc av (fun U => U.heap.size = sz ∧ va_P D vwCl w U.heap ∧ va_K D vwCl (ch_tys I) U ∧ va_D (fun _ => True) w)) := by
  intro a U g mk h
  obtain ⟨h0, h1, h2, h3, h4⟩ := h
  exact ⟨h0, h1, h2, va_K.moved (u := U) (U := U.calling g mk a) (Vm.Alike.refl U.vm) h3, h4⟩
theorem ch_Pq {D : va_G} {ws : va_W} {H : Heap} {a n : Nat} {cA : ClassId} {f g : Nat → Option Nat} (h : va_P D vwCl ws H) (p : Nat) (hp : ws[p]? = some (a, .inl (cA, n, .inr (.inr (.inr (.inr f)))))) (hg : ∀ j, j < n → f j = g j) : va_P D vwCl (ws.set p (a, .inl (cA, n, .inr (.inr (.inr (.inr g)))))) H := by
  have hl := (List.getElem?_eq_some_iff.mp hp).1
  intro k q hk
  by_cases hkp : k = p
  · subst hkp
    rw [List.getElem?_set_self hl] at hk
    cases hk
    have h1 : H[a]? = some (vp_cell cA (n, .inr (.inr (.inr (.inr f))))) := h k _ hp
    show H[a]? = some (vp_cell cA (n, .inr (.inr (.inr (.inr g)))))
    rw [h1, vp_cell_q, vp_cell_q]
    exact congrArg some (ch_arrV hg)
  · rw [List.getElem?_set_ne (Ne.symm hkp)] at hk
    exact h k q hk
theorem ch_Dq {A : Nat → Prop} {ws : va_W} {a n : Nat} {cA : ClassId} {f g : Nat → Option Nat} (h : va_D A ws) (p : Nat) (hp : ws[p]? = some (a, .inl (cA, n, .inr (.inr (.inr (.inr f)))))) : va_D A (ws.set p (a, .inl (cA, n, .inr (.inr (.inr (.inr g)))))) := h.set hp
section CHN
variable {p : Program} {l : Launch} {e : Env} {R : Room} {s : State} {m : MethodId} {args : Array Value} {below : List Frame} {meth : Method} {c : Code} {H : Heap} {locs : List Loc} {cells slots : Nat} {Q : State → Prop} {cc : ByteArray} {pc : Nat} {ls : Array Slot} {rest : List Value} {D : va_G} {I : ch_Id} {A : Nat → Prop} {ws : va_W} {H0 : Heap}
theorem ch_newI (hexec : p.tables.exec = Jvm.exec) (hb : c.code = cc) (harr : (Cond.arrayClass .int).before args s = true) (hK : va_K D vwCl (ch_tys I) s) (hP : va_P D vwCl ws H) (hD : va_D A ws) (hS : va_S A H0 H locs) (hA : ∀ q, H0.size ≤ q → A q) {n : Int32} {N' : Nat} (hn : ¬ n < 0) (hN : n.toNatClampNeg = N') (hbytes : N' * componentBytes .int ≤ 536870912) (hcells : cells + 1 ≤ R.cells) (hslots : slots + N' ≤ R.slots) (hdg : decode cc pc = .ok (.newarray .int, 2))
    (kk : ∀ (q : Nat) (H1 : Heap), va_P D vwCl (ws ++ [(q, .inl (I.1, N', .inl (fun _ => 0)))]) H1 → va_D A (ws ++ [(q, .inl (I.1, N', .inl (fun _ => 0)))]) → va_S A H0 H1 locs → W p l e R s m args below meth c H1 locs (cells + 1) (slots + N') Q (F0 m (pc + 2) ls (.ref q :: rest))) : W p l e R s m args below meth c H locs cells slots Q (F0 m pc ls (.int n :: rest)) := by
  refine va_newa (atype := .int) (ty := .int) (a0 := (N', .inl (fun _ => 0))) hexec hb harr rfl hK hP hD hS hA (fun cA => by rw [vp_cell_i]; rfl) hn hN hbytes hcells hslots hdg (fun q cA H1 hK1 hP1 hD1 hS1 => ?_)
  have e1 : cA = I.1 := by
    have a1 : s.vm.findClass ("[" ++ FieldType.int.toString) = some cA := (hK1.2 4 (cA, .int) rfl).2
    have a2 : s.vm.findClass ("[" ++ FieldType.int.toString) = some I.1 := (hK.2 0 (I.1, .int) rfl).2
    exact Option.some.inj (a1.symm.trans a2)
  subst e1
  exact kk q H1 hP1 hD1 hS1
theorem ch_newZ (hexec : p.tables.exec = Jvm.exec) (hb : c.code = cc) (harr : (Cond.arrayClass .boolean).before args s = true) (hK : va_K D vwCl (ch_tys I) s) (hP : va_P D vwCl ws H) (hD : va_D A ws) (hS : va_S A H0 H locs) (hA : ∀ q, H0.size ≤ q → A q) {n : Int32} {N' : Nat} (hn : ¬ n < 0) (hN : n.toNatClampNeg = N') (hbytes : N' * componentBytes .boolean ≤ 536870912) (hcells : cells + 1 ≤ R.cells) (hslots : slots + N' ≤ R.slots) (hdg : decode cc pc = .ok (.newarray .boolean, 2))
    (kk : ∀ (q : Nat) (H1 : Heap), va_P D vwCl (ws ++ [(q, .inl (I.2.1, N', .inl (fun _ => 0)))]) H1 → va_D A (ws ++ [(q, .inl (I.2.1, N', .inl (fun _ => 0)))]) → va_S A H0 H1 locs → W p l e R s m args below meth c H1 locs (cells + 1) (slots + N') Q (F0 m (pc + 2) ls (.ref q :: rest))) : W p l e R s m args below meth c H locs cells slots Q (F0 m pc ls (.int n :: rest)) := by
  refine va_newa (atype := .boolean) (ty := .boolean) (a0 := (N', .inl (fun _ => 0))) hexec hb harr rfl hK hP hD hS hA (fun cA => by rw [vp_cell_i]; rfl) hn hN hbytes hcells hslots hdg (fun q cA H1 hK1 hP1 hD1 hS1 => ?_)
  have e1 : cA = I.2.1 := by
    have a1 : s.vm.findClass ("[" ++ FieldType.boolean.toString) = some cA := (hK1.2 4 (cA, .boolean) rfl).2
    have a2 : s.vm.findClass ("[" ++ FieldType.boolean.toString) = some I.2.1 := (hK.2 1 (I.2.1, .boolean) rfl).2
    exact Option.some.inj (a1.symm.trans a2)
  subst e1
  exact kk q H1 hP1 hD1 hS1
theorem ch_newRow (hexec : p.tables.exec = Jvm.exec) (hb : c.code = cc) {own : String} {index : Nat} (hown : s.vm.findClass own = some m.cls) (hcl : (Cond.classLink own index RX3).before args s = true) (hO : va_AO RX3 s) (hK : va_K D vwCl (ch_tys I) s) (hP : va_P D vwCl ws H) (hD : va_D A ws) (hS : va_S A H0 H locs) (hA : ∀ q, H0.size ≤ q → A q) {n : Int32} {N' : Nat} (hn : ¬ n < 0) (hN : n.toNatClampNeg = N') (hbytes : N' * 4 ≤ 536870912) (hcells : cells + 1 ≤ R.cells) (hslots : slots + N' ≤ R.slots) (hdg : decode cc pc = .ok (.anewarray index, 3))
    (kk : ∀ (q : Nat) (H1 : Heap), va_P D vwCl (ws ++ [(q, .inl (I.2.2.1, N', .inr (.inr (.inr (.inr (fun _ => none))))))]) H1 → va_D A (ws ++ [(q, .inl (I.2.2.1, N', .inr (.inr (.inr (.inr (fun _ => none))))))]) → va_S A H0 H1 locs → W p l e R s m args below meth c H1 locs (cells + 1) (slots + N') Q (F0 m (pc + 3) ls (.ref q :: rest))) : W p l e R s m args below meth c H locs cells slots Q (F0 m pc ls (.int n :: rest)) := by
  refine va_newq (C := RX3) hexec hb hown hcl hO hK hP hD hS hA hn hN hbytes hcells hslots hdg (fun q cA H1 hK1 hP1 hD1 hS1 => ?_)
  have e1 : cA = I.2.2.1 := by
    obtain ⟨k1, c1, -, -, -, a1⟩ := (hK1.2 4 (cA, .object RX3) rfl).2
    obtain ⟨k2, c2, -, -, -, a2⟩ := (hK.2 2 (I.2.2.1, .object RX3) rfl).2
    exact Option.some.inj (a1.symm.trans a2)
  subst e1
  exact kk q H1 hP1 hD1 hS1
theorem ch_newReel (hexec : p.tables.exec = Jvm.exec) (hb : c.code = cc) {own : String} {index : Nat} (hown : s.vm.findClass own = some m.cls) (hcl : (Cond.classLink own index RX2).before args s = true) (hO : va_AO RX2 s) (hK : va_K D vwCl (ch_tys I) s) (hP : va_P D vwCl ws H) (hD : va_D A ws) (hS : va_S A H0 H locs) (hA : ∀ q, H0.size ≤ q → A q) {n : Int32} {N' : Nat} (hn : ¬ n < 0) (hN : n.toNatClampNeg = N') (hbytes : N' * 4 ≤ 536870912) (hcells : cells + 1 ≤ R.cells) (hslots : slots + N' ≤ R.slots) (hdg : decode cc pc = .ok (.anewarray index, 3))
    (kk : ∀ (q : Nat) (H1 : Heap), va_P D vwCl (ws ++ [(q, .inl (I.2.2.2, N', .inr (.inr (.inr (.inr (fun _ => none))))))]) H1 → va_D A (ws ++ [(q, .inl (I.2.2.2, N', .inr (.inr (.inr (.inr (fun _ => none))))))]) → va_S A H0 H1 locs → W p l e R s m args below meth c H1 locs (cells + 1) (slots + N') Q (F0 m (pc + 3) ls (.ref q :: rest))) : W p l e R s m args below meth c H locs cells slots Q (F0 m pc ls (.int n :: rest)) := by
  refine va_newq (C := RX2) hexec hb hown hcl hO hK hP hD hS hA hn hN hbytes hcells hslots hdg (fun q cA H1 hK1 hP1 hD1 hS1 => ?_)
  have e1 : cA = I.2.2.2 := by
    obtain ⟨k1, c1, -, -, -, a1⟩ := (hK1.2 4 (cA, .object RX2) rfl).2
    obtain ⟨k2, c2, -, -, -, a2⟩ := (hK.2 3 (I.2.2.2, .object RX2) rfl).2
    exact Option.some.inj (a1.symm.trans a2)
  subst e1
  exact kk q H1 hP1 hD1 hS1
end CHN
set_option maxHeartbeats 8000000 in
set_option maxRecDepth 100000 in
theorem c_X0_init (l : Launch) (D : va_G) (I : ch_Id) (h0 sz : Nat) : Met l yX0_init wsX0_init ({ frames := 1, cells := 2, slots := 10, locals := 12 }) (va_Pc [.ref h0] (fun U => U.heap.size = sz ∧ va_P D vwCl [(h0, .inr (0, [.null, .null, .int 0]))] U.heap ∧ va_K D vwCl (ch_tys I) U ∧ va_D (fun _ => True) [(h0, .inr (0, [.null, .null, .int 0]))])) (va_Qv (fun (_ : Unit) => True) (fun (_ : Unit) t => ∃ q1 q2 : Nat, va_P D vwCl [(h0, .inr (0, [.ref q1, .ref q2, .int (0 : Int32)])), (q1, .inl (I.1, 5, .inl (fun _ => 0))), (q2, .inl (I.1, 5, .inl (fun _ => 0)))] t.heap ∧ va_D (va_A [(h0, .inr (0, [.null, .null, .int 0]))] sz) [(h0, .inr (0, [.ref q1, .ref q2, .int (0 : Int32)])), (q1, .inl (I.1, 5, .inl (fun _ => 0))), (q2, .inl (I.1, 5, .inl (fun _ => 0)))]) (va_A [(h0, .inr (0, [.null, .null, .int 0]))] sz)) 2 10 (va_A [(h0, .inr (0, [.null, .null, .int 0]))] sz) := by
  refine Met.ofW (cc := cX0_init) (maxL := 1) (ret := none) (by decide) rfl ?_
  intro p e s m args below meth c s₁ B hml hv
  obtain ⟨rfl, hsz, hP, hK, hD0⟩ := hv
  have hx := B.exec
  have hb := B.bytes
  have hr := B.returns
  have hts := atoms_spec (ws := wsX0_init) B.pre
  have hown : s.vm.findClass RX0 = some m.cls := findClass_of_methodNamed B.named
  have hlocks := B.notSynchronized
  have hin : meth.name = "<init>" := (name_of_methodNamed B.named B.method).1
  subst hsz
  have hD := hD0.self (sz := s.heap.size)
  generalize hAe : va_A [(h0, .inr (0, [.null, .null, .int 0]))] s.heap.size = A at hD ⊢
  have hA : ∀ q : Nat, s.heap.size ≤ q → A q := fun q h => by rw [← hAe]; exact Or.inr h
  have hS : va_S A s.heap s.heap [] := va_S.rf
  have hl := lv_entry ([.ref h0]) (n := 1) (Nat.le_of_ble_eq_true rfl)
  rw [lg_entry_eq]
  generalize (lg_sl ([.ref h0]) ++ List.replicate (1 - (lg_sl ([.ref h0])).length) Slot.unset).toArray = ls at hl ⊢
  have hl : lv_has ls 1 [(0, .ref h0)] := hl
  refine lv_aload_n hx hb dX0_init_0 rfl (lv_at hl 0 rfl) ?_
  refine W.objInit hx hb hown (hts (.methodLink RX0 3 objectInit) (by decide +kernel)) (hts (.instanceMethod objectInit) (by decide +kernel)) (hts (.code objectInit ⟨#[0xb1]⟩ 1 none) (by decide +kernel)) rfl (by rw [hml]; exact hl.1) rfl dX0_init_1 (Nat.le_of_ble_eq_true rfl) (Nat.le_of_ble_eq_true rfl) ?_
  refine W.eq (g2 := F0 m 4 ls []) rfl ?_
  refine lv_aload_n hx hb dX0_init_4 rfl (lv_at hl 0 rfl) ?_
  refine lv_iconst (v := (5 : Int32)) hx hb dX0_init_5 (by decide) ?_
  refine ch_newI (N' := 5) hx hb (hts (.arrayClass .int) (by decide +kernel)) hK hP hD hS hA (by decide) (by decide) (by decide) (Nat.le_of_ble_eq_true rfl) (Nat.le_of_ble_eq_true rfl) dX0_init_6 (fun q1 H hP hD hS => ?_)
  have hP : va_P D vwCl [(h0, .inr (0, [.null, .null, .int 0])), (q1, .inl (I.1, 5, .inl (fun _ => 0)))] H := hP
  have hD : va_D A [(h0, .inr (0, [.null, .null, .int 0])), (q1, .inl (I.1, 5, .inl (fun _ => 0)))] := hD
  refine W.widen (k := 1) (n := 5) (Nat.le_of_ble_eq_true rfl) (Nat.le_of_ble_eq_true rfl) ?_
  refine va_putF (ci := 0) (v := .ref q1) (ty := .array .int) (C := RX0) (T := TX0) (N := 3) hx hb hts (by decide +kernel) tyX0 tyX0_ok nmX0 hown hK hP hD hS 0 rfl rfl 0 (by decide) (hts (.fieldLink RX0 9 "CodeHunt$Lengths" "lengthOf" "[I") (by decide +kernel)) (fun _ h9 => h9) rfl hin rfl (by decide +kernel) rfl rfl (Nat.le_of_ble_eq_true rfl) dX0_init_8 (fun H locs hP hD hS => ?_)
  have hP : va_P D vwCl [(h0, .inr (0, [.ref q1, .null, .int 0])), (q1, .inl (I.1, 5, .inl (fun _ => 0)))] H := hP
  have hD : va_D A [(h0, .inr (0, [.ref q1, .null, .int 0])), (q1, .inl (I.1, 5, .inl (fun _ => 0)))] := hD
  refine lv_aload_n hx hb dX0_init_11 rfl (lv_at hl 0 rfl) ?_
  refine lv_iconst (v := (5 : Int32)) hx hb dX0_init_12 (by decide) ?_
  refine ch_newI (N' := 5) hx hb (hts (.arrayClass .int) (by decide +kernel)) hK hP hD hS hA (by decide) (by decide) (by decide) (Nat.le_of_ble_eq_true rfl) (Nat.le_of_ble_eq_true rfl) dX0_init_13 (fun q2 H hP hD hS => ?_)
  have hP : va_P D vwCl [(h0, .inr (0, [.ref q1, .null, .int 0])), (q1, .inl (I.1, 5, .inl (fun _ => 0))), (q2, .inl (I.1, 5, .inl (fun _ => 0)))] H := hP
  have hD : va_D A [(h0, .inr (0, [.ref q1, .null, .int 0])), (q1, .inl (I.1, 5, .inl (fun _ => 0))), (q2, .inl (I.1, 5, .inl (fun _ => 0)))] := hD
  refine W.widen (k := 2) (n := 10) (Nat.le_of_ble_eq_true rfl) (Nat.le_of_ble_eq_true rfl) ?_
  refine va_putF (ci := 0) (v := .ref q2) (ty := .array .int) (C := RX0) (T := TX0) (N := 3) hx hb hts (by decide +kernel) tyX0 tyX0_ok nmX0 hown hK hP hD hS 0 rfl rfl 1 (by decide) (hts (.fieldLink RX0 15 "CodeHunt$Lengths" "shiftOf" "[I") (by decide +kernel)) (fun _ h9 => h9) rfl hin rfl (by decide +kernel) rfl rfl (Nat.le_of_ble_eq_true rfl) dX0_init_15 (fun H locs hP hD hS => ?_)
  have hP : va_P D vwCl [(h0, .inr (0, [.ref q1, .ref q2, .int 0])), (q1, .inl (I.1, 5, .inl (fun _ => 0))), (q2, .inl (I.1, 5, .inl (fun _ => 0)))] H := hP
  have hD : va_D A [(h0, .inr (0, [.ref q1, .ref q2, .int 0])), (q1, .inl (I.1, 5, .inl (fun _ => 0))), (q2, .inl (I.1, 5, .inl (fun _ => 0)))] := hD
  refine lv_aload_n hx hb dX0_init_18 rfl (lv_at hl 0 rfl) ?_
  refine lv_iconst (v := (0 : Int32)) hx hb dX0_init_19 (by decide) ?_
  refine va_put (ci := 0) (v := .int (0 : Int32)) (ty := .int) (C := RX0) (T := TX0) (N := 3) hx hb hts (by decide +kernel) tyX0 tyX0_ok nmX0 hown hK hP hD hS 0 rfl rfl 2 (by decide) (hts (.fieldLink RX0 18 "CodeHunt$Lengths" "size" "I") (by decide +kernel)) (fun _ h9 => h9) rfl (by decide +kernel) rfl rfl (Nat.le_of_ble_eq_true rfl) dX0_init_20 (fun H locs hP hD hS => ?_)
  have hP : va_P D vwCl [(h0, .inr (0, [.ref q1, .ref q2, .int (0 : Int32)])), (q1, .inl (I.1, 5, .inl (fun _ => 0))), (q2, .inl (I.1, 5, .inl (fun _ => 0)))] H := hP
  have hD : va_D A [(h0, .inr (0, [.ref q1, .ref q2, .int (0 : Int32)])), (q1, .inl (I.1, 5, .inl (fun _ => 0))), (q2, .inl (I.1, 5, .inl (fun _ => 0)))] := hD
  have hP9 := hP.sub (ws' := [(h0, .inr (0, [.ref q1, .ref q2, .int (0 : Int32)])), (q1, .inl (I.1, 5, .inl (fun _ => 0))), (q2, .inl (I.1, 5, .inl (fun _ => 0)))]) [0, 1, 2] rfl
  have hD9 := hD.sub (ws' := [(h0, .inr (0, [.ref q1, .ref q2, .int (0 : Int32)])), (q1, .inl (I.1, 5, .inl (fun _ => 0))), (q2, .inl (I.1, 5, .inl (fun _ => 0)))]) [0, 1, 2] (by decide) rfl
  exact W.vret hx hb hr (fun t ht hW => ⟨⟨(), rfl, trivial, q1, q2, by rw [ht]; exact hP9, hD9⟩, hS.F ht⟩) hS.2.2 dX0_init_23
set_option maxHeartbeats 8000000 in
set_option maxRecDepth 100000 in
theorem c_X1_init (l : Launch) (D : va_G) (I : ch_Id) (h0 sz : Nat) : Met l yX1_init wsX1_init ({ frames := 1, cells := 3, slots := 60, locals := 12 }) (va_Pc [.ref h0] (fun U => U.heap.size = sz ∧ va_P D vwCl [(h0, .inr (1, [.null, .null, .null, .int 0, .long 0]))] U.heap ∧ va_K D vwCl (ch_tys I) U ∧ va_D (fun _ => True) [(h0, .inr (1, [.null, .null, .null, .int 0, .long 0]))])) (va_Qv (fun (_ : Unit) => True) (fun (_ : Unit) t => ∃ q1 q2 q3 : Nat, va_P D vwCl [(h0, .inr (1, [.ref q1, .ref q2, .ref q3, .int (0 : Int32), .long (0 : Int64)])), (q1, .inl (I.1, 20, .inl (fun _ => 0))), (q2, .inl (I.1, 20, .inl (fun _ => 0))), (q3, .inl (I.1, 20, .inl (fun _ => 0)))] t.heap ∧ va_D (va_A [(h0, .inr (1, [.null, .null, .null, .int 0, .long 0]))] sz) [(h0, .inr (1, [.ref q1, .ref q2, .ref q3, .int (0 : Int32), .long (0 : Int64)])), (q1, .inl (I.1, 20, .inl (fun _ => 0))), (q2, .inl (I.1, 20, .inl (fun _ => 0))), (q3, .inl (I.1, 20, .inl (fun _ => 0)))]) (va_A [(h0, .inr (1, [.null, .null, .null, .int 0, .long 0]))] sz)) 3 60 (va_A [(h0, .inr (1, [.null, .null, .null, .int 0, .long 0]))] sz) := by
  refine Met.ofW (cc := cX1_init) (maxL := 1) (ret := none) (by decide) rfl ?_
  intro p e s m args below meth c s₁ B hml hv
  obtain ⟨rfl, hsz, hP, hK, hD0⟩ := hv
  have hx := B.exec
  have hb := B.bytes
  have hr := B.returns
  have hts := atoms_spec (ws := wsX1_init) B.pre
  have hown : s.vm.findClass RX1 = some m.cls := findClass_of_methodNamed B.named
  have hlocks := B.notSynchronized
  have hin : meth.name = "<init>" := (name_of_methodNamed B.named B.method).1
  subst hsz
  have hD := hD0.self (sz := s.heap.size)
  generalize hAe : va_A [(h0, .inr (1, [.null, .null, .null, .int 0, .long 0]))] s.heap.size = A at hD ⊢
  have hA : ∀ q : Nat, s.heap.size ≤ q → A q := fun q h => by rw [← hAe]; exact Or.inr h
  have hS : va_S A s.heap s.heap [] := va_S.rf
  have hl := lv_entry ([.ref h0]) (n := 1) (Nat.le_of_ble_eq_true rfl)
  rw [lg_entry_eq]
  generalize (lg_sl ([.ref h0]) ++ List.replicate (1 - (lg_sl ([.ref h0])).length) Slot.unset).toArray = ls at hl ⊢
  have hl : lv_has ls 1 [(0, .ref h0)] := hl
  refine lv_aload_n hx hb dX1_init_0 rfl (lv_at hl 0 rfl) ?_
  refine W.objInit hx hb hown (hts (.methodLink RX1 3 objectInit) (by decide +kernel)) (hts (.instanceMethod objectInit) (by decide +kernel)) (hts (.code objectInit ⟨#[0xb1]⟩ 1 none) (by decide +kernel)) rfl (by rw [hml]; exact hl.1) rfl dX1_init_1 (Nat.le_of_ble_eq_true rfl) (Nat.le_of_ble_eq_true rfl) ?_
  refine W.eq (g2 := F0 m 4 ls []) rfl ?_
  refine lv_aload_n hx hb dX1_init_4 rfl (lv_at hl 0 rfl) ?_
  refine lv_bipush (v := (20 : Int32)) hx hb dX1_init_5 (by decide) ?_
  refine ch_newI (N' := 20) hx hb (hts (.arrayClass .int) (by decide +kernel)) hK hP hD hS hA (by decide) (by decide) (by decide) (Nat.le_of_ble_eq_true rfl) (Nat.le_of_ble_eq_true rfl) dX1_init_7 (fun q1 H hP hD hS => ?_)
  have hP : va_P D vwCl [(h0, .inr (1, [.null, .null, .null, .int 0, .long 0])), (q1, .inl (I.1, 20, .inl (fun _ => 0)))] H := hP
  have hD : va_D A [(h0, .inr (1, [.null, .null, .null, .int 0, .long 0])), (q1, .inl (I.1, 20, .inl (fun _ => 0)))] := hD
  refine W.widen (k := 1) (n := 20) (Nat.le_of_ble_eq_true rfl) (Nat.le_of_ble_eq_true rfl) ?_
  refine va_putF (ci := 1) (v := .ref q1) (ty := .array .int) (C := RX1) (T := TX1) (N := 5) hx hb hts (by decide +kernel) tyX1 tyX1_ok nmX1 hown hK hP hD hS 0 rfl rfl 0 (by decide) (hts (.fieldLink RX1 9 "CodeHunt$Peeling" "rowOf" "[I") (by decide +kernel)) (fun _ h9 => h9) rfl hin rfl (by decide +kernel) rfl rfl (Nat.le_of_ble_eq_true rfl) dX1_init_9 (fun H locs hP hD hS => ?_)
  have hP : va_P D vwCl [(h0, .inr (1, [.ref q1, .null, .null, .int 0, .long 0])), (q1, .inl (I.1, 20, .inl (fun _ => 0)))] H := hP
  have hD : va_D A [(h0, .inr (1, [.ref q1, .null, .null, .int 0, .long 0])), (q1, .inl (I.1, 20, .inl (fun _ => 0)))] := hD
  refine lv_aload_n hx hb dX1_init_12 rfl (lv_at hl 0 rfl) ?_
  refine lv_bipush (v := (20 : Int32)) hx hb dX1_init_13 (by decide) ?_
  refine ch_newI (N' := 20) hx hb (hts (.arrayClass .int) (by decide +kernel)) hK hP hD hS hA (by decide) (by decide) (by decide) (Nat.le_of_ble_eq_true rfl) (Nat.le_of_ble_eq_true rfl) dX1_init_15 (fun q2 H hP hD hS => ?_)
  have hP : va_P D vwCl [(h0, .inr (1, [.ref q1, .null, .null, .int 0, .long 0])), (q1, .inl (I.1, 20, .inl (fun _ => 0))), (q2, .inl (I.1, 20, .inl (fun _ => 0)))] H := hP
  have hD : va_D A [(h0, .inr (1, [.ref q1, .null, .null, .int 0, .long 0])), (q1, .inl (I.1, 20, .inl (fun _ => 0))), (q2, .inl (I.1, 20, .inl (fun _ => 0)))] := hD
  refine W.widen (k := 2) (n := 40) (Nat.le_of_ble_eq_true rfl) (Nat.le_of_ble_eq_true rfl) ?_
  refine va_putF (ci := 1) (v := .ref q2) (ty := .array .int) (C := RX1) (T := TX1) (N := 5) hx hb hts (by decide +kernel) tyX1 tyX1_ok nmX1 hown hK hP hD hS 0 rfl rfl 1 (by decide) (hts (.fieldLink RX1 15 "CodeHunt$Peeling" "shiftOf" "[I") (by decide +kernel)) (fun _ h9 => h9) rfl hin rfl (by decide +kernel) rfl rfl (Nat.le_of_ble_eq_true rfl) dX1_init_17 (fun H locs hP hD hS => ?_)
  have hP : va_P D vwCl [(h0, .inr (1, [.ref q1, .ref q2, .null, .int 0, .long 0])), (q1, .inl (I.1, 20, .inl (fun _ => 0))), (q2, .inl (I.1, 20, .inl (fun _ => 0)))] H := hP
  have hD : va_D A [(h0, .inr (1, [.ref q1, .ref q2, .null, .int 0, .long 0])), (q1, .inl (I.1, 20, .inl (fun _ => 0))), (q2, .inl (I.1, 20, .inl (fun _ => 0)))] := hD
  refine lv_aload_n hx hb dX1_init_20 rfl (lv_at hl 0 rfl) ?_
  refine lv_bipush (v := (20 : Int32)) hx hb dX1_init_21 (by decide) ?_
  refine ch_newI (N' := 20) hx hb (hts (.arrayClass .int) (by decide +kernel)) hK hP hD hS hA (by decide) (by decide) (by decide) (Nat.le_of_ble_eq_true rfl) (Nat.le_of_ble_eq_true rfl) dX1_init_23 (fun q3 H hP hD hS => ?_)
  have hP : va_P D vwCl [(h0, .inr (1, [.ref q1, .ref q2, .null, .int 0, .long 0])), (q1, .inl (I.1, 20, .inl (fun _ => 0))), (q2, .inl (I.1, 20, .inl (fun _ => 0))), (q3, .inl (I.1, 20, .inl (fun _ => 0)))] H := hP
  have hD : va_D A [(h0, .inr (1, [.ref q1, .ref q2, .null, .int 0, .long 0])), (q1, .inl (I.1, 20, .inl (fun _ => 0))), (q2, .inl (I.1, 20, .inl (fun _ => 0))), (q3, .inl (I.1, 20, .inl (fun _ => 0)))] := hD
  refine W.widen (k := 3) (n := 60) (Nat.le_of_ble_eq_true rfl) (Nat.le_of_ble_eq_true rfl) ?_
  refine va_putF (ci := 1) (v := .ref q3) (ty := .array .int) (C := RX1) (T := TX1) (N := 5) hx hb hts (by decide +kernel) tyX1 tyX1_ok nmX1 hown hK hP hD hS 0 rfl rfl 2 (by decide) (hts (.fieldLink RX1 18 "CodeHunt$Peeling" "strengthOf" "[I") (by decide +kernel)) (fun _ h9 => h9) rfl hin rfl (by decide +kernel) rfl rfl (Nat.le_of_ble_eq_true rfl) dX1_init_25 (fun H locs hP hD hS => ?_)
  have hP : va_P D vwCl [(h0, .inr (1, [.ref q1, .ref q2, .ref q3, .int 0, .long 0])), (q1, .inl (I.1, 20, .inl (fun _ => 0))), (q2, .inl (I.1, 20, .inl (fun _ => 0))), (q3, .inl (I.1, 20, .inl (fun _ => 0)))] H := hP
  have hD : va_D A [(h0, .inr (1, [.ref q1, .ref q2, .ref q3, .int 0, .long 0])), (q1, .inl (I.1, 20, .inl (fun _ => 0))), (q2, .inl (I.1, 20, .inl (fun _ => 0))), (q3, .inl (I.1, 20, .inl (fun _ => 0)))] := hD
  refine lv_aload_n hx hb dX1_init_28 rfl (lv_at hl 0 rfl) ?_
  refine lv_iconst (v := (0 : Int32)) hx hb dX1_init_29 (by decide) ?_
  refine va_put (ci := 1) (v := .int (0 : Int32)) (ty := .int) (C := RX1) (T := TX1) (N := 5) hx hb hts (by decide +kernel) tyX1 tyX1_ok nmX1 hown hK hP hD hS 0 rfl rfl 3 (by decide) (hts (.fieldLink RX1 21 "CodeHunt$Peeling" "times" "I") (by decide +kernel)) (fun _ h9 => h9) rfl (by decide +kernel) rfl rfl (Nat.le_of_ble_eq_true rfl) dX1_init_30 (fun H locs hP hD hS => ?_)
  have hP : va_P D vwCl [(h0, .inr (1, [.ref q1, .ref q2, .ref q3, .int (0 : Int32), .long 0])), (q1, .inl (I.1, 20, .inl (fun _ => 0))), (q2, .inl (I.1, 20, .inl (fun _ => 0))), (q3, .inl (I.1, 20, .inl (fun _ => 0)))] H := hP
  have hD : va_D A [(h0, .inr (1, [.ref q1, .ref q2, .ref q3, .int (0 : Int32), .long 0])), (q1, .inl (I.1, 20, .inl (fun _ => 0))), (q2, .inl (I.1, 20, .inl (fun _ => 0))), (q3, .inl (I.1, 20, .inl (fun _ => 0)))] := hD
  refine lv_aload_n hx hb dX1_init_33 rfl (lv_at hl 0 rfl) ?_
  refine lv_lconst (v := (0 : Int64)) hx hb dX1_init_34 (by decide) ?_
  refine va_put (ci := 1) (v := .long (0 : Int64)) (ty := .long) (C := RX1) (T := TX1) (N := 5) hx hb hts (by decide +kernel) tyX1 tyX1_ok nmX1 hown hK hP hD hS 0 rfl rfl 4 (by decide) (hts (.fieldLink RX1 25 "CodeHunt$Peeling" "noise" "J") (by decide +kernel)) (fun _ h9 => h9) rfl (by decide +kernel) rfl rfl (Nat.le_of_ble_eq_true rfl) dX1_init_35 (fun H locs hP hD hS => ?_)
  have hP : va_P D vwCl [(h0, .inr (1, [.ref q1, .ref q2, .ref q3, .int (0 : Int32), .long (0 : Int64)])), (q1, .inl (I.1, 20, .inl (fun _ => 0))), (q2, .inl (I.1, 20, .inl (fun _ => 0))), (q3, .inl (I.1, 20, .inl (fun _ => 0)))] H := hP
  have hD : va_D A [(h0, .inr (1, [.ref q1, .ref q2, .ref q3, .int (0 : Int32), .long (0 : Int64)])), (q1, .inl (I.1, 20, .inl (fun _ => 0))), (q2, .inl (I.1, 20, .inl (fun _ => 0))), (q3, .inl (I.1, 20, .inl (fun _ => 0)))] := hD
  have hP9 := hP.sub (ws' := [(h0, .inr (1, [.ref q1, .ref q2, .ref q3, .int (0 : Int32), .long (0 : Int64)])), (q1, .inl (I.1, 20, .inl (fun _ => 0))), (q2, .inl (I.1, 20, .inl (fun _ => 0))), (q3, .inl (I.1, 20, .inl (fun _ => 0)))]) [0, 1, 2, 3] rfl
  have hD9 := hD.sub (ws' := [(h0, .inr (1, [.ref q1, .ref q2, .ref q3, .int (0 : Int32), .long (0 : Int64)])), (q1, .inl (I.1, 20, .inl (fun _ => 0))), (q2, .inl (I.1, 20, .inl (fun _ => 0))), (q3, .inl (I.1, 20, .inl (fun _ => 0)))]) [0, 1, 2, 3] (by decide) rfl
  exact W.vret hx hb hr (fun t ht hW => ⟨⟨(), rfl, trivial, q1, q2, q3, by rw [ht]; exact hP9, hD9⟩, hS.F ht⟩) hS.2.2 dX1_init_38
set_option maxHeartbeats 8000000 in
set_option maxRecDepth 100000 in
theorem c_X2_init (l : Launch) (D : va_G) (I : ch_Id) (h0 sz : Nat) : Met l yX2_init wsX2_init ({ frames := 1, cells := 1, slots := 300, locals := 12 }) (va_Pc [.ref h0] (fun U => U.heap.size = sz ∧ va_P D vwCl [(h0, .inr (2, [.null, .int 0, .int 0, .int 0]))] U.heap ∧ va_K D vwCl (ch_tys I) U ∧ va_D (fun _ => True) [(h0, .inr (2, [.null, .int 0, .int 0, .int 0]))])) (va_Qv (fun (_ : Unit) => True) (fun (_ : Unit) t => ∃ q1 : Nat, va_P D vwCl [(h0, .inr (2, [.ref q1, .int (1 : Int32), .int (0 : Int32), .int (0 : Int32)])), (q1, .inl (I.1, 300, .inl (fun _ => 0)))] t.heap ∧ va_D (va_A [(h0, .inr (2, [.null, .int 0, .int 0, .int 0]))] sz) [(h0, .inr (2, [.ref q1, .int (1 : Int32), .int (0 : Int32), .int (0 : Int32)])), (q1, .inl (I.1, 300, .inl (fun _ => 0)))]) (va_A [(h0, .inr (2, [.null, .int 0, .int 0, .int 0]))] sz)) 1 300 (va_A [(h0, .inr (2, [.null, .int 0, .int 0, .int 0]))] sz) := by
  refine Met.ofW (cc := cX2_init) (maxL := 1) (ret := none) (by decide) rfl ?_
  intro p e s m args below meth c s₁ B hml hv
  obtain ⟨rfl, hsz, hP, hK, hD0⟩ := hv
  have hx := B.exec
  have hb := B.bytes
  have hr := B.returns
  have hts := atoms_spec (ws := wsX2_init) B.pre
  have hown : s.vm.findClass RX2 = some m.cls := findClass_of_methodNamed B.named
  have hlocks := B.notSynchronized
  have hin : meth.name = "<init>" := (name_of_methodNamed B.named B.method).1
  subst hsz
  have hD := hD0.self (sz := s.heap.size)
  generalize hAe : va_A [(h0, .inr (2, [.null, .int 0, .int 0, .int 0]))] s.heap.size = A at hD ⊢
  have hA : ∀ q : Nat, s.heap.size ≤ q → A q := fun q h => by rw [← hAe]; exact Or.inr h
  have hS : va_S A s.heap s.heap [] := va_S.rf
  have hl := lv_entry ([.ref h0]) (n := 1) (Nat.le_of_ble_eq_true rfl)
  rw [lg_entry_eq]
  generalize (lg_sl ([.ref h0]) ++ List.replicate (1 - (lg_sl ([.ref h0])).length) Slot.unset).toArray = ls at hl ⊢
  have hl : lv_has ls 1 [(0, .ref h0)] := hl
  refine lv_aload_n hx hb dX2_init_0 rfl (lv_at hl 0 rfl) ?_
  refine W.objInit hx hb hown (hts (.methodLink RX2 3 objectInit) (by decide +kernel)) (hts (.instanceMethod objectInit) (by decide +kernel)) (hts (.code objectInit ⟨#[0xb1]⟩ 1 none) (by decide +kernel)) rfl (by rw [hml]; exact hl.1) rfl dX2_init_1 (Nat.le_of_ble_eq_true rfl) (Nat.le_of_ble_eq_true rfl) ?_
  refine W.eq (g2 := F0 m 4 ls []) rfl ?_
  refine lv_aload_n hx hb dX2_init_4 rfl (lv_at hl 0 rfl) ?_
  refine lv_sipush (v := (300 : Int32)) hx hb dX2_init_5 (by decide) ?_
  refine ch_newI (N' := 300) hx hb (hts (.arrayClass .int) (by decide +kernel)) hK hP hD hS hA (by decide) (by decide) (by decide) (Nat.le_of_ble_eq_true rfl) (Nat.le_of_ble_eq_true rfl) dX2_init_8 (fun q1 H hP hD hS => ?_)
  have hP : va_P D vwCl [(h0, .inr (2, [.null, .int 0, .int 0, .int 0])), (q1, .inl (I.1, 300, .inl (fun _ => 0)))] H := hP
  have hD : va_D A [(h0, .inr (2, [.null, .int 0, .int 0, .int 0])), (q1, .inl (I.1, 300, .inl (fun _ => 0)))] := hD
  refine W.widen (k := 1) (n := 300) (Nat.le_of_ble_eq_true rfl) (Nat.le_of_ble_eq_true rfl) ?_
  refine va_putF (ci := 2) (v := .ref q1) (ty := .array .int) (C := RX2) (T := TX2) (N := 4) hx hb hts (by decide +kernel) tyX2 tyX2_ok nmX2 hown hK hP hD hS 0 rfl rfl 0 (by decide) (hts (.fieldLink RX2 9 "CodeHunt$Reel" "items" "[I") (by decide +kernel)) (fun _ h9 => h9) rfl hin rfl (by decide +kernel) rfl rfl (Nat.le_of_ble_eq_true rfl) dX2_init_10 (fun H locs hP hD hS => ?_)
  have hP : va_P D vwCl [(h0, .inr (2, [.ref q1, .int 0, .int 0, .int 0])), (q1, .inl (I.1, 300, .inl (fun _ => 0)))] H := hP
  have hD : va_D A [(h0, .inr (2, [.ref q1, .int 0, .int 0, .int 0])), (q1, .inl (I.1, 300, .inl (fun _ => 0)))] := hD
  refine lv_aload_n hx hb dX2_init_13 rfl (lv_at hl 0 rfl) ?_
  refine lv_iconst (v := (1 : Int32)) hx hb dX2_init_14 (by decide) ?_
  refine va_put (ci := 2) (v := .int (1 : Int32)) (ty := .boolean) (C := RX2) (T := TX2) (N := 4) hx hb hts (by decide +kernel) tyX2 tyX2_ok nmX2 hown hK hP hD hS 0 rfl rfl 1 (by decide) (hts (.fieldLink RX2 15 "CodeHunt$Reel" "lost" "Z") (by decide +kernel)) (fun _ h9 => h9) rfl (by decide +kernel) rfl rfl (Nat.le_of_ble_eq_true rfl) dX2_init_15 (fun H locs hP hD hS => ?_)
  have hP : va_P D vwCl [(h0, .inr (2, [.ref q1, .int (1 : Int32), .int 0, .int 0])), (q1, .inl (I.1, 300, .inl (fun _ => 0)))] H := hP
  have hD : va_D A [(h0, .inr (2, [.ref q1, .int (1 : Int32), .int 0, .int 0])), (q1, .inl (I.1, 300, .inl (fun _ => 0)))] := hD
  refine lv_aload_n hx hb dX2_init_18 rfl (lv_at hl 0 rfl) ?_
  refine lv_iconst (v := (0 : Int32)) hx hb dX2_init_19 (by decide) ?_
  refine va_put (ci := 2) (v := .int (0 : Int32)) (ty := .int) (C := RX2) (T := TX2) (N := 4) hx hb hts (by decide +kernel) tyX2 tyX2_ok nmX2 hown hK hP hD hS 0 rfl rfl 2 (by decide) (hts (.fieldLink RX2 19 "CodeHunt$Reel" "form" "I") (by decide +kernel)) (fun _ h9 => h9) rfl (by decide +kernel) rfl rfl (Nat.le_of_ble_eq_true rfl) dX2_init_20 (fun H locs hP hD hS => ?_)
  have hP : va_P D vwCl [(h0, .inr (2, [.ref q1, .int (1 : Int32), .int (0 : Int32), .int 0])), (q1, .inl (I.1, 300, .inl (fun _ => 0)))] H := hP
  have hD : va_D A [(h0, .inr (2, [.ref q1, .int (1 : Int32), .int (0 : Int32), .int 0])), (q1, .inl (I.1, 300, .inl (fun _ => 0)))] := hD
  refine lv_aload_n hx hb dX2_init_23 rfl (lv_at hl 0 rfl) ?_
  refine lv_iconst (v := (0 : Int32)) hx hb dX2_init_24 (by decide) ?_
  refine va_put (ci := 2) (v := .int (0 : Int32)) (ty := .int) (C := RX2) (T := TX2) (N := 4) hx hb hts (by decide +kernel) tyX2 tyX2_ok nmX2 hown hK hP hD hS 0 rfl rfl 3 (by decide) (hts (.fieldLink RX2 23 "CodeHunt$Reel" "size" "I") (by decide +kernel)) (fun _ h9 => h9) rfl (by decide +kernel) rfl rfl (Nat.le_of_ble_eq_true rfl) dX2_init_25 (fun H locs hP hD hS => ?_)
  have hP : va_P D vwCl [(h0, .inr (2, [.ref q1, .int (1 : Int32), .int (0 : Int32), .int (0 : Int32)])), (q1, .inl (I.1, 300, .inl (fun _ => 0)))] H := hP
  have hD : va_D A [(h0, .inr (2, [.ref q1, .int (1 : Int32), .int (0 : Int32), .int (0 : Int32)])), (q1, .inl (I.1, 300, .inl (fun _ => 0)))] := hD
  have hP9 := hP.sub (ws' := [(h0, .inr (2, [.ref q1, .int (1 : Int32), .int (0 : Int32), .int (0 : Int32)])), (q1, .inl (I.1, 300, .inl (fun _ => 0)))]) [0, 1] rfl
  have hD9 := hD.sub (ws' := [(h0, .inr (2, [.ref q1, .int (1 : Int32), .int (0 : Int32), .int (0 : Int32)])), (q1, .inl (I.1, 300, .inl (fun _ => 0)))]) [0, 1] (by decide) rfl
  exact W.vret hx hb hr (fun t ht hW => ⟨⟨(), rfl, trivial, q1, by rw [ht]; exact hP9, hD9⟩, hS.F ht⟩) hS.2.2 dX2_init_28
set_option maxHeartbeats 8000000 in
set_option maxRecDepth 100000 in
theorem c_X3_init (l : Launch) (D : va_G) (I : ch_Id) (h0 sz : Nat) : Met l yX3_init wsX3_init ({ frames := 1, cells := 1, slots := 127, locals := 12 }) (va_Pc [.ref h0] (fun U => U.heap.size = sz ∧ va_P D vwCl [(h0, .inr (3, [.null, .int 0]))] U.heap ∧ va_K D vwCl (ch_tys I) U ∧ va_D (fun _ => True) [(h0, .inr (3, [.null, .int 0]))])) (va_Qv (fun (_ : Unit) => True) (fun (_ : Unit) t => ∃ q1 : Nat, va_P D vwCl [(h0, .inr (3, [.ref q1, .int (0 : Int32)])), (q1, .inl (I.1, 127, .inl (fun _ => 0)))] t.heap ∧ va_D (va_A [(h0, .inr (3, [.null, .int 0]))] sz) [(h0, .inr (3, [.ref q1, .int (0 : Int32)])), (q1, .inl (I.1, 127, .inl (fun _ => 0)))]) (va_A [(h0, .inr (3, [.null, .int 0]))] sz)) 1 127 (va_A [(h0, .inr (3, [.null, .int 0]))] sz) := by
  refine Met.ofW (cc := cX3_init) (maxL := 1) (ret := none) (by decide) rfl ?_
  intro p e s m args below meth c s₁ B hml hv
  obtain ⟨rfl, hsz, hP, hK, hD0⟩ := hv
  have hx := B.exec
  have hb := B.bytes
  have hr := B.returns
  have hts := atoms_spec (ws := wsX3_init) B.pre
  have hown : s.vm.findClass RX3 = some m.cls := findClass_of_methodNamed B.named
  have hlocks := B.notSynchronized
  have hin : meth.name = "<init>" := (name_of_methodNamed B.named B.method).1
  subst hsz
  have hD := hD0.self (sz := s.heap.size)
  generalize hAe : va_A [(h0, .inr (3, [.null, .int 0]))] s.heap.size = A at hD ⊢
  have hA : ∀ q : Nat, s.heap.size ≤ q → A q := fun q h => by rw [← hAe]; exact Or.inr h
  have hS : va_S A s.heap s.heap [] := va_S.rf
  have hl := lv_entry ([.ref h0]) (n := 1) (Nat.le_of_ble_eq_true rfl)
  rw [lg_entry_eq]
  generalize (lg_sl ([.ref h0]) ++ List.replicate (1 - (lg_sl ([.ref h0])).length) Slot.unset).toArray = ls at hl ⊢
  have hl : lv_has ls 1 [(0, .ref h0)] := hl
  refine lv_aload_n hx hb dX3_init_0 rfl (lv_at hl 0 rfl) ?_
  refine W.objInit hx hb hown (hts (.methodLink RX3 3 objectInit) (by decide +kernel)) (hts (.instanceMethod objectInit) (by decide +kernel)) (hts (.code objectInit ⟨#[0xb1]⟩ 1 none) (by decide +kernel)) rfl (by rw [hml]; exact hl.1) rfl dX3_init_1 (Nat.le_of_ble_eq_true rfl) (Nat.le_of_ble_eq_true rfl) ?_
  refine W.eq (g2 := F0 m 4 ls []) rfl ?_
  refine lv_aload_n hx hb dX3_init_4 rfl (lv_at hl 0 rfl) ?_
  refine lv_bipush (v := (127 : Int32)) hx hb dX3_init_5 (by decide) ?_
  refine ch_newI (N' := 127) hx hb (hts (.arrayClass .int) (by decide +kernel)) hK hP hD hS hA (by decide) (by decide) (by decide) (Nat.le_of_ble_eq_true rfl) (Nat.le_of_ble_eq_true rfl) dX3_init_7 (fun q1 H hP hD hS => ?_)
  have hP : va_P D vwCl [(h0, .inr (3, [.null, .int 0])), (q1, .inl (I.1, 127, .inl (fun _ => 0)))] H := hP
  have hD : va_D A [(h0, .inr (3, [.null, .int 0])), (q1, .inl (I.1, 127, .inl (fun _ => 0)))] := hD
  refine W.widen (k := 1) (n := 127) (Nat.le_of_ble_eq_true rfl) (Nat.le_of_ble_eq_true rfl) ?_
  refine va_putF (ci := 3) (v := .ref q1) (ty := .array .int) (C := RX3) (T := TX3) (N := 2) hx hb hts (by decide +kernel) tyX3 tyX3_ok nmX3 hown hK hP hD hS 0 rfl rfl 0 (by decide) (hts (.fieldLink RX3 9 "CodeHunt$Row" "signs" "[I") (by decide +kernel)) (fun _ h9 => h9) rfl hin rfl (by decide +kernel) rfl rfl (Nat.le_of_ble_eq_true rfl) dX3_init_9 (fun H locs hP hD hS => ?_)
  have hP : va_P D vwCl [(h0, .inr (3, [.ref q1, .int 0])), (q1, .inl (I.1, 127, .inl (fun _ => 0)))] H := hP
  have hD : va_D A [(h0, .inr (3, [.ref q1, .int 0])), (q1, .inl (I.1, 127, .inl (fun _ => 0)))] := hD
  refine lv_aload_n hx hb dX3_init_12 rfl (lv_at hl 0 rfl) ?_
  refine lv_iconst (v := (0 : Int32)) hx hb dX3_init_13 (by decide) ?_
  refine va_put (ci := 3) (v := .int (0 : Int32)) (ty := .int) (C := RX3) (T := TX3) (N := 2) hx hb hts (by decide +kernel) tyX3 tyX3_ok nmX3 hown hK hP hD hS 0 rfl rfl 1 (by decide) (hts (.fieldLink RX3 15 "CodeHunt$Row" "size" "I") (by decide +kernel)) (fun _ h9 => h9) rfl (by decide +kernel) rfl rfl (Nat.le_of_ble_eq_true rfl) dX3_init_14 (fun H locs hP hD hS => ?_)
  have hP : va_P D vwCl [(h0, .inr (3, [.ref q1, .int (0 : Int32)])), (q1, .inl (I.1, 127, .inl (fun _ => 0)))] H := hP
  have hD : va_D A [(h0, .inr (3, [.ref q1, .int (0 : Int32)])), (q1, .inl (I.1, 127, .inl (fun _ => 0)))] := hD
  have hP9 := hP.sub (ws' := [(h0, .inr (3, [.ref q1, .int (0 : Int32)])), (q1, .inl (I.1, 127, .inl (fun _ => 0)))]) [0, 1] rfl
  have hD9 := hD.sub (ws' := [(h0, .inr (3, [.ref q1, .int (0 : Int32)])), (q1, .inl (I.1, 127, .inl (fun _ => 0)))]) [0, 1] (by decide) rfl
  exact W.vret hx hb hr (fun t ht hW => ⟨⟨(), rfl, trivial, q1, by rw [ht]; exact hP9, hD9⟩, hS.F ht⟩) hS.2.2 dX3_init_17
set_option maxHeartbeats 8000000 in
set_option maxRecDepth 100000 in
theorem c_X4_init (l : Launch) (D : va_G) (I : ch_Id) (h0 sz : Nat) : Met l yX4_init wsX4_init ({ frames := 1, cells := 0, slots := 0, locals := 12 }) (va_Pc [.ref h0] (fun U => U.heap.size = sz ∧ va_P D vwCl [(h0, .inr (4, [.long 0, .long 0, .int 0, .int 0]))] U.heap ∧ va_K D vwCl (ch_tys I) U ∧ va_D (fun _ => True) [(h0, .inr (4, [.long 0, .long 0, .int 0, .int 0]))])) (va_Qv (fun (_ : Unit) => True) (fun (_ : Unit) t => va_P D vwCl [(h0, .inr (4, [.long (-1 : Int64), .long (-1 : Int64), .int (0 : Int32), .int (0 : Int32)]))] t.heap ∧ va_D (va_A [(h0, .inr (4, [.long 0, .long 0, .int 0, .int 0]))] sz) [(h0, .inr (4, [.long (-1 : Int64), .long (-1 : Int64), .int (0 : Int32), .int (0 : Int32)]))]) (va_A [(h0, .inr (4, [.long 0, .long 0, .int 0, .int 0]))] sz)) 0 0 (va_A [(h0, .inr (4, [.long 0, .long 0, .int 0, .int 0]))] sz) := by
  refine Met.ofW (cc := cX4_init) (maxL := 1) (ret := none) (by decide) rfl ?_
  intro p e s m args below meth c s₁ B hml hv
  obtain ⟨rfl, hsz, hP, hK, hD0⟩ := hv
  have hx := B.exec
  have hb := B.bytes
  have hr := B.returns
  have hts := atoms_spec (ws := wsX4_init) B.pre
  have hown : s.vm.findClass RX4 = some m.cls := findClass_of_methodNamed B.named
  have hlocks := B.notSynchronized
  have hin : meth.name = "<init>" := (name_of_methodNamed B.named B.method).1
  subst hsz
  have hD := hD0.self (sz := s.heap.size)
  generalize hAe : va_A [(h0, .inr (4, [.long 0, .long 0, .int 0, .int 0]))] s.heap.size = A at hD ⊢
  have hA : ∀ q : Nat, s.heap.size ≤ q → A q := fun q h => by rw [← hAe]; exact Or.inr h
  have hS : va_S A s.heap s.heap [] := va_S.rf
  have hl := lv_entry ([.ref h0]) (n := 1) (Nat.le_of_ble_eq_true rfl)
  rw [lg_entry_eq]
  generalize (lg_sl ([.ref h0]) ++ List.replicate (1 - (lg_sl ([.ref h0])).length) Slot.unset).toArray = ls at hl ⊢
  have hl : lv_has ls 1 [(0, .ref h0)] := hl
  refine lv_aload_n hx hb dX4_init_0 rfl (lv_at hl 0 rfl) ?_
  refine W.objInit hx hb hown (hts (.methodLink RX4 1 objectInit) (by decide +kernel)) (hts (.instanceMethod objectInit) (by decide +kernel)) (hts (.code objectInit ⟨#[0xb1]⟩ 1 none) (by decide +kernel)) rfl (by rw [hml]; exact hl.1) rfl dX4_init_1 (Nat.le_of_ble_eq_true rfl) (Nat.le_of_ble_eq_true rfl) ?_
  refine W.eq (g2 := F0 m 4 ls []) rfl ?_
  refine lv_aload_n hx hb dX4_init_4 rfl (lv_at hl 0 rfl) ?_
  refine lv_ldc2 (v := (-1 : Int64)) hx hb hown (hts (.constantLong RX4 7 (-1)) (by decide +kernel)) dX4_init_5 ?_
  refine va_put (ci := 4) (v := .long (-1 : Int64)) (ty := .long) (C := RX4) (T := TX4) (N := 4) hx hb hts (by decide +kernel) tyX4 tyX4_ok nmX4 hown hK hP hD hS 0 rfl rfl 0 (by decide) (hts (.fieldLink RX4 9 "CodeHunt$Search" "greatest" "J") (by decide +kernel)) (fun _ h9 => h9) rfl (by decide +kernel) rfl rfl (Nat.le_of_ble_eq_true rfl) dX4_init_8 (fun H locs hP hD hS => ?_)
  have hP : va_P D vwCl [(h0, .inr (4, [.long (-1 : Int64), .long 0, .int 0, .int 0]))] H := hP
  have hD : va_D A [(h0, .inr (4, [.long (-1 : Int64), .long 0, .int 0, .int 0]))] := hD
  refine lv_aload_n hx hb dX4_init_11 rfl (lv_at hl 0 rfl) ?_
  refine lv_ldc2 (v := (-1 : Int64)) hx hb hown (hts (.constantLong RX4 7 (-1)) (by decide +kernel)) dX4_init_12 ?_
  refine va_put (ci := 4) (v := .long (-1 : Int64)) (ty := .long) (C := RX4) (T := TX4) (N := 4) hx hb hts (by decide +kernel) tyX4 tyX4_ok nmX4 hown hK hP hD hS 0 rfl rfl 1 (by decide) (hts (.fieldLink RX4 15 "CodeHunt$Search" "next" "J") (by decide +kernel)) (fun _ h9 => h9) rfl (by decide +kernel) rfl rfl (Nat.le_of_ble_eq_true rfl) dX4_init_15 (fun H locs hP hD hS => ?_)
  have hP : va_P D vwCl [(h0, .inr (4, [.long (-1 : Int64), .long (-1 : Int64), .int 0, .int 0]))] H := hP
  have hD : va_D A [(h0, .inr (4, [.long (-1 : Int64), .long (-1 : Int64), .int 0, .int 0]))] := hD
  refine lv_aload_n hx hb dX4_init_18 rfl (lv_at hl 0 rfl) ?_
  refine lv_iconst (v := (0 : Int32)) hx hb dX4_init_19 (by decide) ?_
  refine va_put (ci := 4) (v := .int (0 : Int32)) (ty := .int) (C := RX4) (T := TX4) (N := 4) hx hb hts (by decide +kernel) tyX4 tyX4_ok nmX4 hown hK hP hD hS 0 rfl rfl 2 (by decide) (hts (.fieldLink RX4 18 "CodeHunt$Search" "tone" "I") (by decide +kernel)) (fun _ h9 => h9) rfl (by decide +kernel) rfl rfl (Nat.le_of_ble_eq_true rfl) dX4_init_20 (fun H locs hP hD hS => ?_)
  have hP : va_P D vwCl [(h0, .inr (4, [.long (-1 : Int64), .long (-1 : Int64), .int (0 : Int32), .int 0]))] H := hP
  have hD : va_D A [(h0, .inr (4, [.long (-1 : Int64), .long (-1 : Int64), .int (0 : Int32), .int 0]))] := hD
  refine lv_aload_n hx hb dX4_init_23 rfl (lv_at hl 0 rfl) ?_
  refine lv_iconst (v := (0 : Int32)) hx hb dX4_init_24 (by decide) ?_
  refine va_put (ci := 4) (v := .int (0 : Int32)) (ty := .int) (C := RX4) (T := TX4) (N := 4) hx hb hts (by decide +kernel) tyX4 tyX4_ok nmX4 hown hK hP hD hS 0 rfl rfl 3 (by decide) (hts (.fieldLink RX4 22 "CodeHunt$Search" "shift" "I") (by decide +kernel)) (fun _ h9 => h9) rfl (by decide +kernel) rfl rfl (Nat.le_of_ble_eq_true rfl) dX4_init_25 (fun H locs hP hD hS => ?_)
  have hP : va_P D vwCl [(h0, .inr (4, [.long (-1 : Int64), .long (-1 : Int64), .int (0 : Int32), .int (0 : Int32)]))] H := hP
  have hD : va_D A [(h0, .inr (4, [.long (-1 : Int64), .long (-1 : Int64), .int (0 : Int32), .int (0 : Int32)]))] := hD
  have hP9 := hP.sub (ws' := [(h0, .inr (4, [.long (-1 : Int64), .long (-1 : Int64), .int (0 : Int32), .int (0 : Int32)]))]) [0] rfl
  have hD9 := hD.sub (ws' := [(h0, .inr (4, [.long (-1 : Int64), .long (-1 : Int64), .int (0 : Int32), .int (0 : Int32)]))]) [0] (by decide) rfl
  exact W.vret hx hb hr (fun t ht hW => ⟨⟨(), rfl, trivial, by rw [ht]; exact hP9, hD9⟩, hS.F ht⟩) hS.2.2 dX4_init_28
set_option maxHeartbeats 8000000 in
set_option maxRecDepth 100000 in
theorem c_X5_init (l : Launch) (D : va_G) (I : ch_Id) (h0 sz : Nat) : Met l yX5_init wsX5_init ({ frames := 1, cells := 4, slots := 508, locals := 12 }) (va_Pc [.ref h0] (fun U => U.heap.size = sz ∧ va_P D vwCl [(h0, .inr (5, [.null, .null, .null, .null, .int 0]))] U.heap ∧ va_K D vwCl (ch_tys I) U ∧ va_D (fun _ => True) [(h0, .inr (5, [.null, .null, .null, .null, .int 0]))])) (va_Qv (fun (_ : Unit) => True) (fun (_ : Unit) t => ∃ q1 q2 q3 q4 : Nat, va_P D vwCl [(h0, .inr (5, [.ref q1, .ref q2, .ref q3, .ref q4, .int (0 : Int32)])), (q1, .inl (I.1, 127, .inl (fun _ => 0))), (q2, .inl (I.1, 127, .inl (fun _ => 0))), (q3, .inl (I.1, 127, .inl (fun _ => 0))), (q4, .inl (I.1, 127, .inl (fun _ => 0)))] t.heap ∧ va_D (va_A [(h0, .inr (5, [.null, .null, .null, .null, .int 0]))] sz) [(h0, .inr (5, [.ref q1, .ref q2, .ref q3, .ref q4, .int (0 : Int32)])), (q1, .inl (I.1, 127, .inl (fun _ => 0))), (q2, .inl (I.1, 127, .inl (fun _ => 0))), (q3, .inl (I.1, 127, .inl (fun _ => 0))), (q4, .inl (I.1, 127, .inl (fun _ => 0)))]) (va_A [(h0, .inr (5, [.null, .null, .null, .null, .int 0]))] sz)) 4 508 (va_A [(h0, .inr (5, [.null, .null, .null, .null, .int 0]))] sz) := by
  refine Met.ofW (cc := cX5_init) (maxL := 1) (ret := none) (by decide) rfl ?_
  intro p e s m args below meth c s₁ B hml hv
  obtain ⟨rfl, hsz, hP, hK, hD0⟩ := hv
  have hx := B.exec
  have hb := B.bytes
  have hr := B.returns
  have hts := atoms_spec (ws := wsX5_init) B.pre
  have hown : s.vm.findClass RX5 = some m.cls := findClass_of_methodNamed B.named
  have hlocks := B.notSynchronized
  have hin : meth.name = "<init>" := (name_of_methodNamed B.named B.method).1
  subst hsz
  have hD := hD0.self (sz := s.heap.size)
  generalize hAe : va_A [(h0, .inr (5, [.null, .null, .null, .null, .int 0]))] s.heap.size = A at hD ⊢
  have hA : ∀ q : Nat, s.heap.size ≤ q → A q := fun q h => by rw [← hAe]; exact Or.inr h
  have hS : va_S A s.heap s.heap [] := va_S.rf
  have hl := lv_entry ([.ref h0]) (n := 1) (Nat.le_of_ble_eq_true rfl)
  rw [lg_entry_eq]
  generalize (lg_sl ([.ref h0]) ++ List.replicate (1 - (lg_sl ([.ref h0])).length) Slot.unset).toArray = ls at hl ⊢
  have hl : lv_has ls 1 [(0, .ref h0)] := hl
  refine lv_aload_n hx hb dX5_init_0 rfl (lv_at hl 0 rfl) ?_
  refine W.objInit hx hb hown (hts (.methodLink RX5 3 objectInit) (by decide +kernel)) (hts (.instanceMethod objectInit) (by decide +kernel)) (hts (.code objectInit ⟨#[0xb1]⟩ 1 none) (by decide +kernel)) rfl (by rw [hml]; exact hl.1) rfl dX5_init_1 (Nat.le_of_ble_eq_true rfl) (Nat.le_of_ble_eq_true rfl) ?_
  refine W.eq (g2 := F0 m 4 ls []) rfl ?_
  refine lv_aload_n hx hb dX5_init_4 rfl (lv_at hl 0 rfl) ?_
  refine lv_bipush (v := (127 : Int32)) hx hb dX5_init_5 (by decide) ?_
  refine ch_newI (N' := 127) hx hb (hts (.arrayClass .int) (by decide +kernel)) hK hP hD hS hA (by decide) (by decide) (by decide) (Nat.le_of_ble_eq_true rfl) (Nat.le_of_ble_eq_true rfl) dX5_init_7 (fun q1 H hP hD hS => ?_)
  have hP : va_P D vwCl [(h0, .inr (5, [.null, .null, .null, .null, .int 0])), (q1, .inl (I.1, 127, .inl (fun _ => 0)))] H := hP
  have hD : va_D A [(h0, .inr (5, [.null, .null, .null, .null, .int 0])), (q1, .inl (I.1, 127, .inl (fun _ => 0)))] := hD
  refine W.widen (k := 1) (n := 127) (Nat.le_of_ble_eq_true rfl) (Nat.le_of_ble_eq_true rfl) ?_
  refine va_putF (ci := 5) (v := .ref q1) (ty := .array .int) (C := RX5) (T := TX5) (N := 5) hx hb hts (by decide +kernel) tyX5 tyX5_ok nmX5 hown hK hP hD hS 0 rfl rfl 0 (by decide) (hts (.fieldLink RX5 9 "CodeHunt$Window" "x" "[I") (by decide +kernel)) (fun _ h9 => h9) rfl hin rfl (by decide +kernel) rfl rfl (Nat.le_of_ble_eq_true rfl) dX5_init_9 (fun H locs hP hD hS => ?_)
  have hP : va_P D vwCl [(h0, .inr (5, [.ref q1, .null, .null, .null, .int 0])), (q1, .inl (I.1, 127, .inl (fun _ => 0)))] H := hP
  have hD : va_D A [(h0, .inr (5, [.ref q1, .null, .null, .null, .int 0])), (q1, .inl (I.1, 127, .inl (fun _ => 0)))] := hD
  refine lv_aload_n hx hb dX5_init_12 rfl (lv_at hl 0 rfl) ?_
  refine lv_bipush (v := (127 : Int32)) hx hb dX5_init_13 (by decide) ?_
  refine ch_newI (N' := 127) hx hb (hts (.arrayClass .int) (by decide +kernel)) hK hP hD hS hA (by decide) (by decide) (by decide) (Nat.le_of_ble_eq_true rfl) (Nat.le_of_ble_eq_true rfl) dX5_init_15 (fun q2 H hP hD hS => ?_)
  have hP : va_P D vwCl [(h0, .inr (5, [.ref q1, .null, .null, .null, .int 0])), (q1, .inl (I.1, 127, .inl (fun _ => 0))), (q2, .inl (I.1, 127, .inl (fun _ => 0)))] H := hP
  have hD : va_D A [(h0, .inr (5, [.ref q1, .null, .null, .null, .int 0])), (q1, .inl (I.1, 127, .inl (fun _ => 0))), (q2, .inl (I.1, 127, .inl (fun _ => 0)))] := hD
  refine W.widen (k := 2) (n := 254) (Nat.le_of_ble_eq_true rfl) (Nat.le_of_ble_eq_true rfl) ?_
  refine va_putF (ci := 5) (v := .ref q2) (ty := .array .int) (C := RX5) (T := TX5) (N := 5) hx hb hts (by decide +kernel) tyX5 tyX5_ok nmX5 hown hK hP hD hS 0 rfl rfl 1 (by decide) (hts (.fieldLink RX5 15 "CodeHunt$Window" "y" "[I") (by decide +kernel)) (fun _ h9 => h9) rfl hin rfl (by decide +kernel) rfl rfl (Nat.le_of_ble_eq_true rfl) dX5_init_17 (fun H locs hP hD hS => ?_)
  have hP : va_P D vwCl [(h0, .inr (5, [.ref q1, .ref q2, .null, .null, .int 0])), (q1, .inl (I.1, 127, .inl (fun _ => 0))), (q2, .inl (I.1, 127, .inl (fun _ => 0)))] H := hP
  have hD : va_D A [(h0, .inr (5, [.ref q1, .ref q2, .null, .null, .int 0])), (q1, .inl (I.1, 127, .inl (fun _ => 0))), (q2, .inl (I.1, 127, .inl (fun _ => 0)))] := hD
  refine lv_aload_n hx hb dX5_init_20 rfl (lv_at hl 0 rfl) ?_
  refine lv_bipush (v := (127 : Int32)) hx hb dX5_init_21 (by decide) ?_
  refine ch_newI (N' := 127) hx hb (hts (.arrayClass .int) (by decide +kernel)) hK hP hD hS hA (by decide) (by decide) (by decide) (Nat.le_of_ble_eq_true rfl) (Nat.le_of_ble_eq_true rfl) dX5_init_23 (fun q3 H hP hD hS => ?_)
  have hP : va_P D vwCl [(h0, .inr (5, [.ref q1, .ref q2, .null, .null, .int 0])), (q1, .inl (I.1, 127, .inl (fun _ => 0))), (q2, .inl (I.1, 127, .inl (fun _ => 0))), (q3, .inl (I.1, 127, .inl (fun _ => 0)))] H := hP
  have hD : va_D A [(h0, .inr (5, [.ref q1, .ref q2, .null, .null, .int 0])), (q1, .inl (I.1, 127, .inl (fun _ => 0))), (q2, .inl (I.1, 127, .inl (fun _ => 0))), (q3, .inl (I.1, 127, .inl (fun _ => 0)))] := hD
  refine W.widen (k := 3) (n := 381) (Nat.le_of_ble_eq_true rfl) (Nat.le_of_ble_eq_true rfl) ?_
  refine va_putF (ci := 5) (v := .ref q3) (ty := .array .int) (C := RX5) (T := TX5) (N := 5) hx hb hts (by decide +kernel) tyX5 tyX5_ok nmX5 hown hK hP hD hS 0 rfl rfl 2 (by decide) (hts (.fieldLink RX5 18 "CodeHunt$Window" "turnedX" "[I") (by decide +kernel)) (fun _ h9 => h9) rfl hin rfl (by decide +kernel) rfl rfl (Nat.le_of_ble_eq_true rfl) dX5_init_25 (fun H locs hP hD hS => ?_)
  have hP : va_P D vwCl [(h0, .inr (5, [.ref q1, .ref q2, .ref q3, .null, .int 0])), (q1, .inl (I.1, 127, .inl (fun _ => 0))), (q2, .inl (I.1, 127, .inl (fun _ => 0))), (q3, .inl (I.1, 127, .inl (fun _ => 0)))] H := hP
  have hD : va_D A [(h0, .inr (5, [.ref q1, .ref q2, .ref q3, .null, .int 0])), (q1, .inl (I.1, 127, .inl (fun _ => 0))), (q2, .inl (I.1, 127, .inl (fun _ => 0))), (q3, .inl (I.1, 127, .inl (fun _ => 0)))] := hD
  refine lv_aload_n hx hb dX5_init_28 rfl (lv_at hl 0 rfl) ?_
  refine lv_bipush (v := (127 : Int32)) hx hb dX5_init_29 (by decide) ?_
  refine ch_newI (N' := 127) hx hb (hts (.arrayClass .int) (by decide +kernel)) hK hP hD hS hA (by decide) (by decide) (by decide) (Nat.le_of_ble_eq_true rfl) (Nat.le_of_ble_eq_true rfl) dX5_init_31 (fun q4 H hP hD hS => ?_)
  have hP : va_P D vwCl [(h0, .inr (5, [.ref q1, .ref q2, .ref q3, .null, .int 0])), (q1, .inl (I.1, 127, .inl (fun _ => 0))), (q2, .inl (I.1, 127, .inl (fun _ => 0))), (q3, .inl (I.1, 127, .inl (fun _ => 0))), (q4, .inl (I.1, 127, .inl (fun _ => 0)))] H := hP
  have hD : va_D A [(h0, .inr (5, [.ref q1, .ref q2, .ref q3, .null, .int 0])), (q1, .inl (I.1, 127, .inl (fun _ => 0))), (q2, .inl (I.1, 127, .inl (fun _ => 0))), (q3, .inl (I.1, 127, .inl (fun _ => 0))), (q4, .inl (I.1, 127, .inl (fun _ => 0)))] := hD
  refine W.widen (k := 4) (n := 508) (Nat.le_of_ble_eq_true rfl) (Nat.le_of_ble_eq_true rfl) ?_
  refine va_putF (ci := 5) (v := .ref q4) (ty := .array .int) (C := RX5) (T := TX5) (N := 5) hx hb hts (by decide +kernel) tyX5 tyX5_ok nmX5 hown hK hP hD hS 0 rfl rfl 3 (by decide) (hts (.fieldLink RX5 21 "CodeHunt$Window" "turnedY" "[I") (by decide +kernel)) (fun _ h9 => h9) rfl hin rfl (by decide +kernel) rfl rfl (Nat.le_of_ble_eq_true rfl) dX5_init_33 (fun H locs hP hD hS => ?_)
  have hP : va_P D vwCl [(h0, .inr (5, [.ref q1, .ref q2, .ref q3, .ref q4, .int 0])), (q1, .inl (I.1, 127, .inl (fun _ => 0))), (q2, .inl (I.1, 127, .inl (fun _ => 0))), (q3, .inl (I.1, 127, .inl (fun _ => 0))), (q4, .inl (I.1, 127, .inl (fun _ => 0)))] H := hP
  have hD : va_D A [(h0, .inr (5, [.ref q1, .ref q2, .ref q3, .ref q4, .int 0])), (q1, .inl (I.1, 127, .inl (fun _ => 0))), (q2, .inl (I.1, 127, .inl (fun _ => 0))), (q3, .inl (I.1, 127, .inl (fun _ => 0))), (q4, .inl (I.1, 127, .inl (fun _ => 0)))] := hD
  refine lv_aload_n hx hb dX5_init_36 rfl (lv_at hl 0 rfl) ?_
  refine lv_iconst (v := (0 : Int32)) hx hb dX5_init_37 (by decide) ?_
  refine va_put (ci := 5) (v := .int (0 : Int32)) (ty := .int) (C := RX5) (T := TX5) (N := 5) hx hb hts (by decide +kernel) tyX5 tyX5_ok nmX5 hown hK hP hD hS 0 rfl rfl 4 (by decide) (hts (.fieldLink RX5 24 "CodeHunt$Window" "size" "I") (by decide +kernel)) (fun _ h9 => h9) rfl (by decide +kernel) rfl rfl (Nat.le_of_ble_eq_true rfl) dX5_init_38 (fun H locs hP hD hS => ?_)
  have hP : va_P D vwCl [(h0, .inr (5, [.ref q1, .ref q2, .ref q3, .ref q4, .int (0 : Int32)])), (q1, .inl (I.1, 127, .inl (fun _ => 0))), (q2, .inl (I.1, 127, .inl (fun _ => 0))), (q3, .inl (I.1, 127, .inl (fun _ => 0))), (q4, .inl (I.1, 127, .inl (fun _ => 0)))] H := hP
  have hD : va_D A [(h0, .inr (5, [.ref q1, .ref q2, .ref q3, .ref q4, .int (0 : Int32)])), (q1, .inl (I.1, 127, .inl (fun _ => 0))), (q2, .inl (I.1, 127, .inl (fun _ => 0))), (q3, .inl (I.1, 127, .inl (fun _ => 0))), (q4, .inl (I.1, 127, .inl (fun _ => 0)))] := hD
  have hP9 := hP.sub (ws' := [(h0, .inr (5, [.ref q1, .ref q2, .ref q3, .ref q4, .int (0 : Int32)])), (q1, .inl (I.1, 127, .inl (fun _ => 0))), (q2, .inl (I.1, 127, .inl (fun _ => 0))), (q3, .inl (I.1, 127, .inl (fun _ => 0))), (q4, .inl (I.1, 127, .inl (fun _ => 0)))]) [0, 1, 2, 3, 4] rfl
  have hD9 := hD.sub (ws' := [(h0, .inr (5, [.ref q1, .ref q2, .ref q3, .ref q4, .int (0 : Int32)])), (q1, .inl (I.1, 127, .inl (fun _ => 0))), (q2, .inl (I.1, 127, .inl (fun _ => 0))), (q3, .inl (I.1, 127, .inl (fun _ => 0))), (q4, .inl (I.1, 127, .inl (fun _ => 0)))]) [0, 1, 2, 3, 4] (by decide) rfl
  exact W.vret hx hb hr (fun t ht hW => ⟨⟨(), rfl, trivial, q1, q2, q3, q4, by rw [ht]; exact hP9, hD9⟩, hS.F ht⟩) hS.2.2 dX5_init_41
set_option maxHeartbeats 8000000 in
set_option maxRecDepth 100000 in
theorem c_X7_init (l : Launch) (D : va_G) (I : ch_Id) (h0 sz : Nat) : Met l yX7_init wsX7_init ({ frames := 1, cells := 12, slots := 2860, locals := 12 }) (va_Pc [.ref h0] (fun U => U.heap.size = sz ∧ va_P D vwCl [(h0, .inr (7, [.null, .null, .null, .int 0, .long 0, .long 0, .int 0, .null, .null, .long 0, .int 0, .null, .null, .null, .null, .null, .null, .null, .int 0]))] U.heap ∧ va_K D vwCl (ch_tys I) U ∧ va_D (fun _ => True) [(h0, .inr (7, [.null, .null, .null, .int 0, .long 0, .long 0, .int 0, .null, .null, .long 0, .int 0, .null, .null, .null, .null, .null, .null, .null, .int 0]))])) (va_Qv (fun (_ : Unit) => True) (fun (_ : Unit) t => ∃ sh : Nat → Nat, sh 0 = h0 ∧ va_P D vwCl (ch_W 13 sh (ch_cf (ch_FM I sh) ch_N0)) t.heap ∧ va_D (va_A [(h0, .inr (7, [.null, .null, .null, .int 0, .long 0, .long 0, .int 0, .null, .null, .long 0, .int 0, .null, .null, .null, .null, .null, .null, .null, .int 0]))] sz) (ch_W 13 sh (ch_cf (ch_FM I sh) ch_N0))) (va_A [(h0, .inr (7, [.null, .null, .null, .int 0, .long 0, .long 0, .int 0, .null, .null, .long 0, .int 0, .null, .null, .null, .null, .null, .null, .null, .int 0]))] sz)) 12 2860 (va_A [(h0, .inr (7, [.null, .null, .null, .int 0, .long 0, .long 0, .int 0, .null, .null, .long 0, .int 0, .null, .null, .null, .null, .null, .null, .null, .int 0]))] sz) := by
  refine Met.ofW (cc := cX7_init) (maxL := 1) (ret := none) (by decide) rfl ?_
  intro p e s m args below meth c s₁ B hml hv
  obtain ⟨rfl, hsz, hP, hK, hD0⟩ := hv
  have hx := B.exec
  have hb := B.bytes
  have hr := B.returns
  have hts := atoms_spec (ws := wsX7_init) B.pre
  have hown : s.vm.findClass RX7 = some m.cls := findClass_of_methodNamed B.named
  have hlocks := B.notSynchronized
  have hin : meth.name = "<init>" := (name_of_methodNamed B.named B.method).1
  subst hsz
  have hD := hD0.self (sz := s.heap.size)
  generalize hAe : va_A [(h0, .inr (7, [.null, .null, .null, .int 0, .long 0, .long 0, .int 0, .null, .null, .long 0, .int 0, .null, .null, .null, .null, .null, .null, .null, .int 0]))] s.heap.size = A at hD ⊢
  have hA : ∀ q : Nat, s.heap.size ≤ q → A q := fun q h => by rw [← hAe]; exact Or.inr h
  have hS : va_S A s.heap s.heap [] := va_S.rf
  have hl := lv_entry ([.ref h0]) (n := 1) (Nat.le_of_ble_eq_true rfl)
  rw [lg_entry_eq]
  generalize (lg_sl ([.ref h0]) ++ List.replicate (1 - (lg_sl ([.ref h0])).length) Slot.unset).toArray = ls at hl ⊢
  have hl : lv_has ls 1 [(0, .ref h0)] := hl
  refine lv_aload_n hx hb dX7_init_0 rfl (lv_at hl 0 rfl) ?_
  refine W.objInit hx hb hown (hts (.methodLink RX7 1 objectInit) (by decide +kernel)) (hts (.instanceMethod objectInit) (by decide +kernel)) (hts (.code objectInit ⟨#[0xb1]⟩ 1 none) (by decide +kernel)) rfl (by rw [hml]; exact hl.1) rfl dX7_init_1 (Nat.le_of_ble_eq_true rfl) (Nat.le_of_ble_eq_true rfl) ?_
  refine W.eq (g2 := F0 m 4 ls []) rfl ?_
  refine lv_aload_n hx hb dX7_init_4 rfl (lv_at hl 0 rfl) ?_
  refine lv_bipush (v := (8 : Int32)) hx hb dX7_init_5 (by decide) ?_
  refine ch_newI (N' := 8) hx hb (hts (.arrayClass .int) (by decide +kernel)) hK hP hD hS hA (by decide) (by decide) (by decide) (Nat.le_of_ble_eq_true rfl) (Nat.le_of_ble_eq_true rfl) dX7_init_7 (fun q1 H hP hD hS => ?_)
  have hP : va_P D vwCl [(h0, .inr (7, [.null, .null, .null, .int 0, .long 0, .long 0, .int 0, .null, .null, .long 0, .int 0, .null, .null, .null, .null, .null, .null, .null, .int 0])), (q1, .inl (I.1, 8, .inl (fun _ => 0)))] H := hP
  have hD : va_D A [(h0, .inr (7, [.null, .null, .null, .int 0, .long 0, .long 0, .int 0, .null, .null, .long 0, .int 0, .null, .null, .null, .null, .null, .null, .null, .int 0])), (q1, .inl (I.1, 8, .inl (fun _ => 0)))] := hD
  refine W.widen (k := 1) (n := 8) (Nat.le_of_ble_eq_true rfl) (Nat.le_of_ble_eq_true rfl) ?_
  refine va_putF (ci := 7) (v := .ref q1) (ty := .array .int) (C := RX7) (T := TX7) (N := 19) hx hb hts (by decide +kernel) tyX7 tyX7_ok nmX7 hown hK hP hD hS 0 rfl rfl 0 (by decide) (hts (.fieldLink RX7 7 "CodeHuntModel" "sizesOf" "[I") (by decide +kernel)) (fun _ h9 => h9) rfl hin rfl (by decide +kernel) rfl rfl (Nat.le_of_ble_eq_true rfl) dX7_init_9 (fun H locs hP hD hS => ?_)
  have hP : va_P D vwCl [(h0, .inr (7, [.ref q1, .null, .null, .int 0, .long 0, .long 0, .int 0, .null, .null, .long 0, .int 0, .null, .null, .null, .null, .null, .null, .null, .int 0])), (q1, .inl (I.1, 8, .inl (fun _ => 0)))] H := hP
  have hD : va_D A [(h0, .inr (7, [.ref q1, .null, .null, .int 0, .long 0, .long 0, .int 0, .null, .null, .long 0, .int 0, .null, .null, .null, .null, .null, .null, .null, .int 0])), (q1, .inl (I.1, 8, .inl (fun _ => 0)))] := hD
  refine lv_aload_n hx hb dX7_init_12 rfl (lv_at hl 0 rfl) ?_
  refine lv_sipush (v := (1016 : Int32)) hx hb dX7_init_13 (by decide) ?_
  refine ch_newI (N' := 1016) hx hb (hts (.arrayClass .int) (by decide +kernel)) hK hP hD hS hA (by decide) (by decide) (by decide) (Nat.le_of_ble_eq_true rfl) (Nat.le_of_ble_eq_true rfl) dX7_init_16 (fun q2 H hP hD hS => ?_)
  have hP : va_P D vwCl [(h0, .inr (7, [.ref q1, .null, .null, .int 0, .long 0, .long 0, .int 0, .null, .null, .long 0, .int 0, .null, .null, .null, .null, .null, .null, .null, .int 0])), (q1, .inl (I.1, 8, .inl (fun _ => 0))), (q2, .inl (I.1, 1016, .inl (fun _ => 0)))] H := hP
  have hD : va_D A [(h0, .inr (7, [.ref q1, .null, .null, .int 0, .long 0, .long 0, .int 0, .null, .null, .long 0, .int 0, .null, .null, .null, .null, .null, .null, .null, .int 0])), (q1, .inl (I.1, 8, .inl (fun _ => 0))), (q2, .inl (I.1, 1016, .inl (fun _ => 0)))] := hD
  refine W.widen (k := 2) (n := 1024) (Nat.le_of_ble_eq_true rfl) (Nat.le_of_ble_eq_true rfl) ?_
  refine va_putF (ci := 7) (v := .ref q2) (ty := .array .int) (C := RX7) (T := TX7) (N := 19) hx hb hts (by decide +kernel) tyX7 tyX7_ok nmX7 hown hK hP hD hS 0 rfl rfl 1 (by decide) (hts (.fieldLink RX7 13 "CodeHuntModel" "signs" "[I") (by decide +kernel)) (fun _ h9 => h9) rfl hin rfl (by decide +kernel) rfl rfl (Nat.le_of_ble_eq_true rfl) dX7_init_18 (fun H locs hP hD hS => ?_)
  have hP : va_P D vwCl [(h0, .inr (7, [.ref q1, .ref q2, .null, .int 0, .long 0, .long 0, .int 0, .null, .null, .long 0, .int 0, .null, .null, .null, .null, .null, .null, .null, .int 0])), (q1, .inl (I.1, 8, .inl (fun _ => 0))), (q2, .inl (I.1, 1016, .inl (fun _ => 0)))] H := hP
  have hD : va_D A [(h0, .inr (7, [.ref q1, .ref q2, .null, .int 0, .long 0, .long 0, .int 0, .null, .null, .long 0, .int 0, .null, .null, .null, .null, .null, .null, .null, .int 0])), (q1, .inl (I.1, 8, .inl (fun _ => 0))), (q2, .inl (I.1, 1016, .inl (fun _ => 0)))] := hD
  refine lv_aload_n hx hb dX7_init_21 rfl (lv_at hl 0 rfl) ?_
  refine lv_bipush (v := (127 : Int32)) hx hb dX7_init_22 (by decide) ?_
  refine ch_newI (N' := 127) hx hb (hts (.arrayClass .int) (by decide +kernel)) hK hP hD hS hA (by decide) (by decide) (by decide) (Nat.le_of_ble_eq_true rfl) (Nat.le_of_ble_eq_true rfl) dX7_init_24 (fun q3 H hP hD hS => ?_)
  have hP : va_P D vwCl [(h0, .inr (7, [.ref q1, .ref q2, .null, .int 0, .long 0, .long 0, .int 0, .null, .null, .long 0, .int 0, .null, .null, .null, .null, .null, .null, .null, .int 0])), (q1, .inl (I.1, 8, .inl (fun _ => 0))), (q2, .inl (I.1, 1016, .inl (fun _ => 0))), (q3, .inl (I.1, 127, .inl (fun _ => 0)))] H := hP
  have hD : va_D A [(h0, .inr (7, [.ref q1, .ref q2, .null, .int 0, .long 0, .long 0, .int 0, .null, .null, .long 0, .int 0, .null, .null, .null, .null, .null, .null, .null, .int 0])), (q1, .inl (I.1, 8, .inl (fun _ => 0))), (q2, .inl (I.1, 1016, .inl (fun _ => 0))), (q3, .inl (I.1, 127, .inl (fun _ => 0)))] := hD
  refine W.widen (k := 3) (n := 1151) (Nat.le_of_ble_eq_true rfl) (Nat.le_of_ble_eq_true rfl) ?_
  refine va_putF (ci := 7) (v := .ref q3) (ty := .array .int) (C := RX7) (T := TX7) (N := 19) hx hb hts (by decide +kernel) tyX7 tyX7_ok nmX7 hown hK hP hD hS 0 rfl rfl 2 (by decide) (hts (.fieldLink RX7 16 "CodeHuntModel" "made" "[I") (by decide +kernel)) (fun _ h9 => h9) rfl hin rfl (by decide +kernel) rfl rfl (Nat.le_of_ble_eq_true rfl) dX7_init_26 (fun H locs hP hD hS => ?_)
  have hP : va_P D vwCl [(h0, .inr (7, [.ref q1, .ref q2, .ref q3, .int 0, .long 0, .long 0, .int 0, .null, .null, .long 0, .int 0, .null, .null, .null, .null, .null, .null, .null, .int 0])), (q1, .inl (I.1, 8, .inl (fun _ => 0))), (q2, .inl (I.1, 1016, .inl (fun _ => 0))), (q3, .inl (I.1, 127, .inl (fun _ => 0)))] H := hP
  have hD : va_D A [(h0, .inr (7, [.ref q1, .ref q2, .ref q3, .int 0, .long 0, .long 0, .int 0, .null, .null, .long 0, .int 0, .null, .null, .null, .null, .null, .null, .null, .int 0])), (q1, .inl (I.1, 8, .inl (fun _ => 0))), (q2, .inl (I.1, 1016, .inl (fun _ => 0))), (q3, .inl (I.1, 127, .inl (fun _ => 0)))] := hD
  refine lv_aload_n hx hb dX7_init_29 rfl (lv_at hl 0 rfl) ?_
  refine lv_bipush (v := (50 : Int32)) hx hb dX7_init_30 (by decide) ?_
  refine va_put (ci := 7) (v := .int (50 : Int32)) (ty := .int) (C := RX7) (T := TX7) (N := 19) hx hb hts (by decide +kernel) tyX7 tyX7_ok nmX7 hown hK hP hD hS 0 rfl rfl 3 (by decide) (hts (.fieldLink RX7 19 "CodeHuntModel" "doubt" "I") (by decide +kernel)) (fun _ h9 => h9) rfl (by decide +kernel) rfl rfl (Nat.le_of_ble_eq_true rfl) dX7_init_32 (fun H locs hP hD hS => ?_)
  have hP : va_P D vwCl [(h0, .inr (7, [.ref q1, .ref q2, .ref q3, .int (50 : Int32), .long 0, .long 0, .int 0, .null, .null, .long 0, .int 0, .null, .null, .null, .null, .null, .null, .null, .int 0])), (q1, .inl (I.1, 8, .inl (fun _ => 0))), (q2, .inl (I.1, 1016, .inl (fun _ => 0))), (q3, .inl (I.1, 127, .inl (fun _ => 0)))] H := hP
  have hD : va_D A [(h0, .inr (7, [.ref q1, .ref q2, .ref q3, .int (50 : Int32), .long 0, .long 0, .int 0, .null, .null, .long 0, .int 0, .null, .null, .null, .null, .null, .null, .null, .int 0])), (q1, .inl (I.1, 8, .inl (fun _ => 0))), (q2, .inl (I.1, 1016, .inl (fun _ => 0))), (q3, .inl (I.1, 127, .inl (fun _ => 0)))] := hD
  refine lv_aload_n hx hb dX7_init_35 rfl (lv_at hl 0 rfl) ?_
  refine lv_bipush (v := (60 : Int32)) hx hb dX7_init_36 (by decide) ?_
  refine ch_newI (N' := 60) hx hb (hts (.arrayClass .int) (by decide +kernel)) hK hP hD hS hA (by decide) (by decide) (by decide) (Nat.le_of_ble_eq_true rfl) (Nat.le_of_ble_eq_true rfl) dX7_init_38 (fun q4 H hP hD hS => ?_)
  have hP : va_P D vwCl [(h0, .inr (7, [.ref q1, .ref q2, .ref q3, .int (50 : Int32), .long 0, .long 0, .int 0, .null, .null, .long 0, .int 0, .null, .null, .null, .null, .null, .null, .null, .int 0])), (q1, .inl (I.1, 8, .inl (fun _ => 0))), (q2, .inl (I.1, 1016, .inl (fun _ => 0))), (q3, .inl (I.1, 127, .inl (fun _ => 0))), (q4, .inl (I.1, 60, .inl (fun _ => 0)))] H := hP
  have hD : va_D A [(h0, .inr (7, [.ref q1, .ref q2, .ref q3, .int (50 : Int32), .long 0, .long 0, .int 0, .null, .null, .long 0, .int 0, .null, .null, .null, .null, .null, .null, .null, .int 0])), (q1, .inl (I.1, 8, .inl (fun _ => 0))), (q2, .inl (I.1, 1016, .inl (fun _ => 0))), (q3, .inl (I.1, 127, .inl (fun _ => 0))), (q4, .inl (I.1, 60, .inl (fun _ => 0)))] := hD
  refine W.widen (k := 4) (n := 1211) (Nat.le_of_ble_eq_true rfl) (Nat.le_of_ble_eq_true rfl) ?_
  refine va_putF (ci := 7) (v := .ref q4) (ty := .array .int) (C := RX7) (T := TX7) (N := 19) hx hb hts (by decide +kernel) tyX7 tyX7_ok nmX7 hown hK hP hD hS 0 rfl rfl 7 (by decide) (hts (.fieldLink RX7 23 "CodeHuntModel" "peeled" "[I") (by decide +kernel)) (fun _ h9 => h9) rfl hin rfl (by decide +kernel) rfl rfl (Nat.le_of_ble_eq_true rfl) dX7_init_40 (fun H locs hP hD hS => ?_)
  have hP : va_P D vwCl [(h0, .inr (7, [.ref q1, .ref q2, .ref q3, .int (50 : Int32), .long 0, .long 0, .int 0, .ref q4, .null, .long 0, .int 0, .null, .null, .null, .null, .null, .null, .null, .int 0])), (q1, .inl (I.1, 8, .inl (fun _ => 0))), (q2, .inl (I.1, 1016, .inl (fun _ => 0))), (q3, .inl (I.1, 127, .inl (fun _ => 0))), (q4, .inl (I.1, 60, .inl (fun _ => 0)))] H := hP
  have hD : va_D A [(h0, .inr (7, [.ref q1, .ref q2, .ref q3, .int (50 : Int32), .long 0, .long 0, .int 0, .ref q4, .null, .long 0, .int 0, .null, .null, .null, .null, .null, .null, .null, .int 0])), (q1, .inl (I.1, 8, .inl (fun _ => 0))), (q2, .inl (I.1, 1016, .inl (fun _ => 0))), (q3, .inl (I.1, 127, .inl (fun _ => 0))), (q4, .inl (I.1, 60, .inl (fun _ => 0)))] := hD
  refine lv_aload_n hx hb dX7_init_43 rfl (lv_at hl 0 rfl) ?_
  refine lv_bipush (v := (127 : Int32)) hx hb dX7_init_44 (by decide) ?_
  refine ch_newI (N' := 127) hx hb (hts (.arrayClass .int) (by decide +kernel)) hK hP hD hS hA (by decide) (by decide) (by decide) (Nat.le_of_ble_eq_true rfl) (Nat.le_of_ble_eq_true rfl) dX7_init_46 (fun q5 H hP hD hS => ?_)
  have hP : va_P D vwCl [(h0, .inr (7, [.ref q1, .ref q2, .ref q3, .int (50 : Int32), .long 0, .long 0, .int 0, .ref q4, .null, .long 0, .int 0, .null, .null, .null, .null, .null, .null, .null, .int 0])), (q1, .inl (I.1, 8, .inl (fun _ => 0))), (q2, .inl (I.1, 1016, .inl (fun _ => 0))), (q3, .inl (I.1, 127, .inl (fun _ => 0))), (q4, .inl (I.1, 60, .inl (fun _ => 0))), (q5, .inl (I.1, 127, .inl (fun _ => 0)))] H := hP
  have hD : va_D A [(h0, .inr (7, [.ref q1, .ref q2, .ref q3, .int (50 : Int32), .long 0, .long 0, .int 0, .ref q4, .null, .long 0, .int 0, .null, .null, .null, .null, .null, .null, .null, .int 0])), (q1, .inl (I.1, 8, .inl (fun _ => 0))), (q2, .inl (I.1, 1016, .inl (fun _ => 0))), (q3, .inl (I.1, 127, .inl (fun _ => 0))), (q4, .inl (I.1, 60, .inl (fun _ => 0))), (q5, .inl (I.1, 127, .inl (fun _ => 0)))] := hD
  refine W.widen (k := 5) (n := 1338) (Nat.le_of_ble_eq_true rfl) (Nat.le_of_ble_eq_true rfl) ?_
  refine va_putF (ci := 7) (v := .ref q5) (ty := .array .int) (C := RX7) (T := TX7) (N := 19) hx hb hts (by decide +kernel) tyX7 tyX7_ok nmX7 hown hK hP hD hS 0 rfl rfl 8 (by decide) (hts (.fieldLink RX7 26 "CodeHuntModel" "left" "[I") (by decide +kernel)) (fun _ h9 => h9) rfl hin rfl (by decide +kernel) rfl rfl (Nat.le_of_ble_eq_true rfl) dX7_init_48 (fun H locs hP hD hS => ?_)
  have hP : va_P D vwCl [(h0, .inr (7, [.ref q1, .ref q2, .ref q3, .int (50 : Int32), .long 0, .long 0, .int 0, .ref q4, .ref q5, .long 0, .int 0, .null, .null, .null, .null, .null, .null, .null, .int 0])), (q1, .inl (I.1, 8, .inl (fun _ => 0))), (q2, .inl (I.1, 1016, .inl (fun _ => 0))), (q3, .inl (I.1, 127, .inl (fun _ => 0))), (q4, .inl (I.1, 60, .inl (fun _ => 0))), (q5, .inl (I.1, 127, .inl (fun _ => 0)))] H := hP
  have hD : va_D A [(h0, .inr (7, [.ref q1, .ref q2, .ref q3, .int (50 : Int32), .long 0, .long 0, .int 0, .ref q4, .ref q5, .long 0, .int 0, .null, .null, .null, .null, .null, .null, .null, .int 0])), (q1, .inl (I.1, 8, .inl (fun _ => 0))), (q2, .inl (I.1, 1016, .inl (fun _ => 0))), (q3, .inl (I.1, 127, .inl (fun _ => 0))), (q4, .inl (I.1, 60, .inl (fun _ => 0))), (q5, .inl (I.1, 127, .inl (fun _ => 0)))] := hD
  refine lv_aload_n hx hb dX7_init_51 rfl (lv_at hl 0 rfl) ?_
  refine lv_iconst (v := (5 : Int32)) hx hb dX7_init_52 (by decide) ?_
  refine ch_newI (N' := 5) hx hb (hts (.arrayClass .int) (by decide +kernel)) hK hP hD hS hA (by decide) (by decide) (by decide) (Nat.le_of_ble_eq_true rfl) (Nat.le_of_ble_eq_true rfl) dX7_init_53 (fun q6 H hP hD hS => ?_)
  have hP : va_P D vwCl [(h0, .inr (7, [.ref q1, .ref q2, .ref q3, .int (50 : Int32), .long 0, .long 0, .int 0, .ref q4, .ref q5, .long 0, .int 0, .null, .null, .null, .null, .null, .null, .null, .int 0])), (q1, .inl (I.1, 8, .inl (fun _ => 0))), (q2, .inl (I.1, 1016, .inl (fun _ => 0))), (q3, .inl (I.1, 127, .inl (fun _ => 0))), (q4, .inl (I.1, 60, .inl (fun _ => 0))), (q5, .inl (I.1, 127, .inl (fun _ => 0))), (q6, .inl (I.1, 5, .inl (fun _ => 0)))] H := hP
  have hD : va_D A [(h0, .inr (7, [.ref q1, .ref q2, .ref q3, .int (50 : Int32), .long 0, .long 0, .int 0, .ref q4, .ref q5, .long 0, .int 0, .null, .null, .null, .null, .null, .null, .null, .int 0])), (q1, .inl (I.1, 8, .inl (fun _ => 0))), (q2, .inl (I.1, 1016, .inl (fun _ => 0))), (q3, .inl (I.1, 127, .inl (fun _ => 0))), (q4, .inl (I.1, 60, .inl (fun _ => 0))), (q5, .inl (I.1, 127, .inl (fun _ => 0))), (q6, .inl (I.1, 5, .inl (fun _ => 0)))] := hD
  refine W.widen (k := 6) (n := 1343) (Nat.le_of_ble_eq_true rfl) (Nat.le_of_ble_eq_true rfl) ?_
  refine va_putF (ci := 7) (v := .ref q6) (ty := .array .int) (C := RX7) (T := TX7) (N := 19) hx hb hts (by decide +kernel) tyX7 tyX7_ok nmX7 hown hK hP hD hS 0 rfl rfl 11 (by decide) (hts (.fieldLink RX7 29 "CodeHuntModel" "lengthOf" "[I") (by decide +kernel)) (fun _ h9 => h9) rfl hin rfl (by decide +kernel) rfl rfl (Nat.le_of_ble_eq_true rfl) dX7_init_55 (fun H locs hP hD hS => ?_)
  have hP : va_P D vwCl [(h0, .inr (7, [.ref q1, .ref q2, .ref q3, .int (50 : Int32), .long 0, .long 0, .int 0, .ref q4, .ref q5, .long 0, .int 0, .ref q6, .null, .null, .null, .null, .null, .null, .int 0])), (q1, .inl (I.1, 8, .inl (fun _ => 0))), (q2, .inl (I.1, 1016, .inl (fun _ => 0))), (q3, .inl (I.1, 127, .inl (fun _ => 0))), (q4, .inl (I.1, 60, .inl (fun _ => 0))), (q5, .inl (I.1, 127, .inl (fun _ => 0))), (q6, .inl (I.1, 5, .inl (fun _ => 0)))] H := hP
  have hD : va_D A [(h0, .inr (7, [.ref q1, .ref q2, .ref q3, .int (50 : Int32), .long 0, .long 0, .int 0, .ref q4, .ref q5, .long 0, .int 0, .ref q6, .null, .null, .null, .null, .null, .null, .int 0])), (q1, .inl (I.1, 8, .inl (fun _ => 0))), (q2, .inl (I.1, 1016, .inl (fun _ => 0))), (q3, .inl (I.1, 127, .inl (fun _ => 0))), (q4, .inl (I.1, 60, .inl (fun _ => 0))), (q5, .inl (I.1, 127, .inl (fun _ => 0))), (q6, .inl (I.1, 5, .inl (fun _ => 0)))] := hD
  refine lv_aload_n hx hb dX7_init_58 rfl (lv_at hl 0 rfl) ?_
  refine lv_iconst (v := (5 : Int32)) hx hb dX7_init_59 (by decide) ?_
  refine ch_newI (N' := 5) hx hb (hts (.arrayClass .int) (by decide +kernel)) hK hP hD hS hA (by decide) (by decide) (by decide) (Nat.le_of_ble_eq_true rfl) (Nat.le_of_ble_eq_true rfl) dX7_init_60 (fun q7 H hP hD hS => ?_)
  have hP : va_P D vwCl [(h0, .inr (7, [.ref q1, .ref q2, .ref q3, .int (50 : Int32), .long 0, .long 0, .int 0, .ref q4, .ref q5, .long 0, .int 0, .ref q6, .null, .null, .null, .null, .null, .null, .int 0])), (q1, .inl (I.1, 8, .inl (fun _ => 0))), (q2, .inl (I.1, 1016, .inl (fun _ => 0))), (q3, .inl (I.1, 127, .inl (fun _ => 0))), (q4, .inl (I.1, 60, .inl (fun _ => 0))), (q5, .inl (I.1, 127, .inl (fun _ => 0))), (q6, .inl (I.1, 5, .inl (fun _ => 0))), (q7, .inl (I.1, 5, .inl (fun _ => 0)))] H := hP
  have hD : va_D A [(h0, .inr (7, [.ref q1, .ref q2, .ref q3, .int (50 : Int32), .long 0, .long 0, .int 0, .ref q4, .ref q5, .long 0, .int 0, .ref q6, .null, .null, .null, .null, .null, .null, .int 0])), (q1, .inl (I.1, 8, .inl (fun _ => 0))), (q2, .inl (I.1, 1016, .inl (fun _ => 0))), (q3, .inl (I.1, 127, .inl (fun _ => 0))), (q4, .inl (I.1, 60, .inl (fun _ => 0))), (q5, .inl (I.1, 127, .inl (fun _ => 0))), (q6, .inl (I.1, 5, .inl (fun _ => 0))), (q7, .inl (I.1, 5, .inl (fun _ => 0)))] := hD
  refine W.widen (k := 7) (n := 1348) (Nat.le_of_ble_eq_true rfl) (Nat.le_of_ble_eq_true rfl) ?_
  refine va_putF (ci := 7) (v := .ref q7) (ty := .array .int) (C := RX7) (T := TX7) (N := 19) hx hb hts (by decide +kernel) tyX7 tyX7_ok nmX7 hown hK hP hD hS 0 rfl rfl 12 (by decide) (hts (.fieldLink RX7 32 "CodeHuntModel" "shiftOf" "[I") (by decide +kernel)) (fun _ h9 => h9) rfl hin rfl (by decide +kernel) rfl rfl (Nat.le_of_ble_eq_true rfl) dX7_init_62 (fun H locs hP hD hS => ?_)
  have hP : va_P D vwCl [(h0, .inr (7, [.ref q1, .ref q2, .ref q3, .int (50 : Int32), .long 0, .long 0, .int 0, .ref q4, .ref q5, .long 0, .int 0, .ref q6, .ref q7, .null, .null, .null, .null, .null, .int 0])), (q1, .inl (I.1, 8, .inl (fun _ => 0))), (q2, .inl (I.1, 1016, .inl (fun _ => 0))), (q3, .inl (I.1, 127, .inl (fun _ => 0))), (q4, .inl (I.1, 60, .inl (fun _ => 0))), (q5, .inl (I.1, 127, .inl (fun _ => 0))), (q6, .inl (I.1, 5, .inl (fun _ => 0))), (q7, .inl (I.1, 5, .inl (fun _ => 0)))] H := hP
  have hD : va_D A [(h0, .inr (7, [.ref q1, .ref q2, .ref q3, .int (50 : Int32), .long 0, .long 0, .int 0, .ref q4, .ref q5, .long 0, .int 0, .ref q6, .ref q7, .null, .null, .null, .null, .null, .int 0])), (q1, .inl (I.1, 8, .inl (fun _ => 0))), (q2, .inl (I.1, 1016, .inl (fun _ => 0))), (q3, .inl (I.1, 127, .inl (fun _ => 0))), (q4, .inl (I.1, 60, .inl (fun _ => 0))), (q5, .inl (I.1, 127, .inl (fun _ => 0))), (q6, .inl (I.1, 5, .inl (fun _ => 0))), (q7, .inl (I.1, 5, .inl (fun _ => 0)))] := hD
  refine lv_aload_n hx hb dX7_init_65 rfl (lv_at hl 0 rfl) ?_
  refine lv_iconst (v := (4 : Int32)) hx hb dX7_init_66 (by decide) ?_
  refine ch_newZ (N' := 4) hx hb (hts (.arrayClass .boolean) (by decide +kernel)) hK hP hD hS hA (by decide) (by decide) (by decide) (Nat.le_of_ble_eq_true rfl) (Nat.le_of_ble_eq_true rfl) dX7_init_67 (fun q8 H hP hD hS => ?_)
  have hP : va_P D vwCl [(h0, .inr (7, [.ref q1, .ref q2, .ref q3, .int (50 : Int32), .long 0, .long 0, .int 0, .ref q4, .ref q5, .long 0, .int 0, .ref q6, .ref q7, .null, .null, .null, .null, .null, .int 0])), (q1, .inl (I.1, 8, .inl (fun _ => 0))), (q2, .inl (I.1, 1016, .inl (fun _ => 0))), (q3, .inl (I.1, 127, .inl (fun _ => 0))), (q4, .inl (I.1, 60, .inl (fun _ => 0))), (q5, .inl (I.1, 127, .inl (fun _ => 0))), (q6, .inl (I.1, 5, .inl (fun _ => 0))), (q7, .inl (I.1, 5, .inl (fun _ => 0))), (q8, .inl (I.2.1, 4, .inl (fun _ => 0)))] H := hP
  have hD : va_D A [(h0, .inr (7, [.ref q1, .ref q2, .ref q3, .int (50 : Int32), .long 0, .long 0, .int 0, .ref q4, .ref q5, .long 0, .int 0, .ref q6, .ref q7, .null, .null, .null, .null, .null, .int 0])), (q1, .inl (I.1, 8, .inl (fun _ => 0))), (q2, .inl (I.1, 1016, .inl (fun _ => 0))), (q3, .inl (I.1, 127, .inl (fun _ => 0))), (q4, .inl (I.1, 60, .inl (fun _ => 0))), (q5, .inl (I.1, 127, .inl (fun _ => 0))), (q6, .inl (I.1, 5, .inl (fun _ => 0))), (q7, .inl (I.1, 5, .inl (fun _ => 0))), (q8, .inl (I.2.1, 4, .inl (fun _ => 0)))] := hD
  refine W.widen (k := 8) (n := 1352) (Nat.le_of_ble_eq_true rfl) (Nat.le_of_ble_eq_true rfl) ?_
  refine va_putF (ci := 7) (v := .ref q8) (ty := .array .boolean) (C := RX7) (T := TX7) (N := 19) hx hb hts (by decide +kernel) tyX7 tyX7_ok nmX7 hown hK hP hD hS 0 rfl rfl 13 (by decide) (hts (.fieldLink RX7 35 "CodeHuntModel" "isThere" "[Z") (by decide +kernel)) (fun _ h9 => h9) rfl hin rfl (by decide +kernel) rfl rfl (Nat.le_of_ble_eq_true rfl) dX7_init_69 (fun H locs hP hD hS => ?_)
  have hP : va_P D vwCl [(h0, .inr (7, [.ref q1, .ref q2, .ref q3, .int (50 : Int32), .long 0, .long 0, .int 0, .ref q4, .ref q5, .long 0, .int 0, .ref q6, .ref q7, .ref q8, .null, .null, .null, .null, .int 0])), (q1, .inl (I.1, 8, .inl (fun _ => 0))), (q2, .inl (I.1, 1016, .inl (fun _ => 0))), (q3, .inl (I.1, 127, .inl (fun _ => 0))), (q4, .inl (I.1, 60, .inl (fun _ => 0))), (q5, .inl (I.1, 127, .inl (fun _ => 0))), (q6, .inl (I.1, 5, .inl (fun _ => 0))), (q7, .inl (I.1, 5, .inl (fun _ => 0))), (q8, .inl (I.2.1, 4, .inl (fun _ => 0)))] H := hP
  have hD : va_D A [(h0, .inr (7, [.ref q1, .ref q2, .ref q3, .int (50 : Int32), .long 0, .long 0, .int 0, .ref q4, .ref q5, .long 0, .int 0, .ref q6, .ref q7, .ref q8, .null, .null, .null, .null, .int 0])), (q1, .inl (I.1, 8, .inl (fun _ => 0))), (q2, .inl (I.1, 1016, .inl (fun _ => 0))), (q3, .inl (I.1, 127, .inl (fun _ => 0))), (q4, .inl (I.1, 60, .inl (fun _ => 0))), (q5, .inl (I.1, 127, .inl (fun _ => 0))), (q6, .inl (I.1, 5, .inl (fun _ => 0))), (q7, .inl (I.1, 5, .inl (fun _ => 0))), (q8, .inl (I.2.1, 4, .inl (fun _ => 0)))] := hD
  refine lv_aload_n hx hb dX7_init_72 rfl (lv_at hl 0 rfl) ?_
  refine lv_iconst (v := (4 : Int32)) hx hb dX7_init_73 (by decide) ?_
  refine ch_newI (N' := 4) hx hb (hts (.arrayClass .int) (by decide +kernel)) hK hP hD hS hA (by decide) (by decide) (by decide) (Nat.le_of_ble_eq_true rfl) (Nat.le_of_ble_eq_true rfl) dX7_init_74 (fun q9 H hP hD hS => ?_)
  have hP : va_P D vwCl [(h0, .inr (7, [.ref q1, .ref q2, .ref q3, .int (50 : Int32), .long 0, .long 0, .int 0, .ref q4, .ref q5, .long 0, .int 0, .ref q6, .ref q7, .ref q8, .null, .null, .null, .null, .int 0])), (q1, .inl (I.1, 8, .inl (fun _ => 0))), (q2, .inl (I.1, 1016, .inl (fun _ => 0))), (q3, .inl (I.1, 127, .inl (fun _ => 0))), (q4, .inl (I.1, 60, .inl (fun _ => 0))), (q5, .inl (I.1, 127, .inl (fun _ => 0))), (q6, .inl (I.1, 5, .inl (fun _ => 0))), (q7, .inl (I.1, 5, .inl (fun _ => 0))), (q8, .inl (I.2.1, 4, .inl (fun _ => 0))), (q9, .inl (I.1, 4, .inl (fun _ => 0)))] H := hP
  have hD : va_D A [(h0, .inr (7, [.ref q1, .ref q2, .ref q3, .int (50 : Int32), .long 0, .long 0, .int 0, .ref q4, .ref q5, .long 0, .int 0, .ref q6, .ref q7, .ref q8, .null, .null, .null, .null, .int 0])), (q1, .inl (I.1, 8, .inl (fun _ => 0))), (q2, .inl (I.1, 1016, .inl (fun _ => 0))), (q3, .inl (I.1, 127, .inl (fun _ => 0))), (q4, .inl (I.1, 60, .inl (fun _ => 0))), (q5, .inl (I.1, 127, .inl (fun _ => 0))), (q6, .inl (I.1, 5, .inl (fun _ => 0))), (q7, .inl (I.1, 5, .inl (fun _ => 0))), (q8, .inl (I.2.1, 4, .inl (fun _ => 0))), (q9, .inl (I.1, 4, .inl (fun _ => 0)))] := hD
  refine W.widen (k := 9) (n := 1356) (Nat.le_of_ble_eq_true rfl) (Nat.le_of_ble_eq_true rfl) ?_
  refine va_putF (ci := 7) (v := .ref q9) (ty := .array .int) (C := RX7) (T := TX7) (N := 19) hx hb hts (by decide +kernel) tyX7 tyX7_ok nmX7 hown hK hP hD hS 0 rfl rfl 14 (by decide) (hts (.fieldLink RX7 39 "CodeHuntModel" "forms" "[I") (by decide +kernel)) (fun _ h9 => h9) rfl hin rfl (by decide +kernel) rfl rfl (Nat.le_of_ble_eq_true rfl) dX7_init_76 (fun H locs hP hD hS => ?_)
  have hP : va_P D vwCl [(h0, .inr (7, [.ref q1, .ref q2, .ref q3, .int (50 : Int32), .long 0, .long 0, .int 0, .ref q4, .ref q5, .long 0, .int 0, .ref q6, .ref q7, .ref q8, .ref q9, .null, .null, .null, .int 0])), (q1, .inl (I.1, 8, .inl (fun _ => 0))), (q2, .inl (I.1, 1016, .inl (fun _ => 0))), (q3, .inl (I.1, 127, .inl (fun _ => 0))), (q4, .inl (I.1, 60, .inl (fun _ => 0))), (q5, .inl (I.1, 127, .inl (fun _ => 0))), (q6, .inl (I.1, 5, .inl (fun _ => 0))), (q7, .inl (I.1, 5, .inl (fun _ => 0))), (q8, .inl (I.2.1, 4, .inl (fun _ => 0))), (q9, .inl (I.1, 4, .inl (fun _ => 0)))] H := hP
  have hD : va_D A [(h0, .inr (7, [.ref q1, .ref q2, .ref q3, .int (50 : Int32), .long 0, .long 0, .int 0, .ref q4, .ref q5, .long 0, .int 0, .ref q6, .ref q7, .ref q8, .ref q9, .null, .null, .null, .int 0])), (q1, .inl (I.1, 8, .inl (fun _ => 0))), (q2, .inl (I.1, 1016, .inl (fun _ => 0))), (q3, .inl (I.1, 127, .inl (fun _ => 0))), (q4, .inl (I.1, 60, .inl (fun _ => 0))), (q5, .inl (I.1, 127, .inl (fun _ => 0))), (q6, .inl (I.1, 5, .inl (fun _ => 0))), (q7, .inl (I.1, 5, .inl (fun _ => 0))), (q8, .inl (I.2.1, 4, .inl (fun _ => 0))), (q9, .inl (I.1, 4, .inl (fun _ => 0)))] := hD
  refine lv_aload_n hx hb dX7_init_79 rfl (lv_at hl 0 rfl) ?_
  refine lv_iconst (v := (4 : Int32)) hx hb dX7_init_80 (by decide) ?_
  refine ch_newI (N' := 4) hx hb (hts (.arrayClass .int) (by decide +kernel)) hK hP hD hS hA (by decide) (by decide) (by decide) (Nat.le_of_ble_eq_true rfl) (Nat.le_of_ble_eq_true rfl) dX7_init_81 (fun q10 H hP hD hS => ?_)
  have hP : va_P D vwCl [(h0, .inr (7, [.ref q1, .ref q2, .ref q3, .int (50 : Int32), .long 0, .long 0, .int 0, .ref q4, .ref q5, .long 0, .int 0, .ref q6, .ref q7, .ref q8, .ref q9, .null, .null, .null, .int 0])), (q1, .inl (I.1, 8, .inl (fun _ => 0))), (q2, .inl (I.1, 1016, .inl (fun _ => 0))), (q3, .inl (I.1, 127, .inl (fun _ => 0))), (q4, .inl (I.1, 60, .inl (fun _ => 0))), (q5, .inl (I.1, 127, .inl (fun _ => 0))), (q6, .inl (I.1, 5, .inl (fun _ => 0))), (q7, .inl (I.1, 5, .inl (fun _ => 0))), (q8, .inl (I.2.1, 4, .inl (fun _ => 0))), (q9, .inl (I.1, 4, .inl (fun _ => 0))), (q10, .inl (I.1, 4, .inl (fun _ => 0)))] H := hP
  have hD : va_D A [(h0, .inr (7, [.ref q1, .ref q2, .ref q3, .int (50 : Int32), .long 0, .long 0, .int 0, .ref q4, .ref q5, .long 0, .int 0, .ref q6, .ref q7, .ref q8, .ref q9, .null, .null, .null, .int 0])), (q1, .inl (I.1, 8, .inl (fun _ => 0))), (q2, .inl (I.1, 1016, .inl (fun _ => 0))), (q3, .inl (I.1, 127, .inl (fun _ => 0))), (q4, .inl (I.1, 60, .inl (fun _ => 0))), (q5, .inl (I.1, 127, .inl (fun _ => 0))), (q6, .inl (I.1, 5, .inl (fun _ => 0))), (q7, .inl (I.1, 5, .inl (fun _ => 0))), (q8, .inl (I.2.1, 4, .inl (fun _ => 0))), (q9, .inl (I.1, 4, .inl (fun _ => 0))), (q10, .inl (I.1, 4, .inl (fun _ => 0)))] := hD
  refine W.widen (k := 10) (n := 1360) (Nat.le_of_ble_eq_true rfl) (Nat.le_of_ble_eq_true rfl) ?_
  refine va_putF (ci := 7) (v := .ref q10) (ty := .array .int) (C := RX7) (T := TX7) (N := 19) hx hb hts (by decide +kernel) tyX7 tyX7_ok nmX7 hown hK hP hD hS 0 rfl rfl 15 (by decide) (hts (.fieldLink RX7 42 "CodeHuntModel" "sizes" "[I") (by decide +kernel)) (fun _ h9 => h9) rfl hin rfl (by decide +kernel) rfl rfl (Nat.le_of_ble_eq_true rfl) dX7_init_83 (fun H locs hP hD hS => ?_)
  have hP : va_P D vwCl [(h0, .inr (7, [.ref q1, .ref q2, .ref q3, .int (50 : Int32), .long 0, .long 0, .int 0, .ref q4, .ref q5, .long 0, .int 0, .ref q6, .ref q7, .ref q8, .ref q9, .ref q10, .null, .null, .int 0])), (q1, .inl (I.1, 8, .inl (fun _ => 0))), (q2, .inl (I.1, 1016, .inl (fun _ => 0))), (q3, .inl (I.1, 127, .inl (fun _ => 0))), (q4, .inl (I.1, 60, .inl (fun _ => 0))), (q5, .inl (I.1, 127, .inl (fun _ => 0))), (q6, .inl (I.1, 5, .inl (fun _ => 0))), (q7, .inl (I.1, 5, .inl (fun _ => 0))), (q8, .inl (I.2.1, 4, .inl (fun _ => 0))), (q9, .inl (I.1, 4, .inl (fun _ => 0))), (q10, .inl (I.1, 4, .inl (fun _ => 0)))] H := hP
  have hD : va_D A [(h0, .inr (7, [.ref q1, .ref q2, .ref q3, .int (50 : Int32), .long 0, .long 0, .int 0, .ref q4, .ref q5, .long 0, .int 0, .ref q6, .ref q7, .ref q8, .ref q9, .ref q10, .null, .null, .int 0])), (q1, .inl (I.1, 8, .inl (fun _ => 0))), (q2, .inl (I.1, 1016, .inl (fun _ => 0))), (q3, .inl (I.1, 127, .inl (fun _ => 0))), (q4, .inl (I.1, 60, .inl (fun _ => 0))), (q5, .inl (I.1, 127, .inl (fun _ => 0))), (q6, .inl (I.1, 5, .inl (fun _ => 0))), (q7, .inl (I.1, 5, .inl (fun _ => 0))), (q8, .inl (I.2.1, 4, .inl (fun _ => 0))), (q9, .inl (I.1, 4, .inl (fun _ => 0))), (q10, .inl (I.1, 4, .inl (fun _ => 0)))] := hD
  refine lv_aload_n hx hb dX7_init_86 rfl (lv_at hl 0 rfl) ?_
  refine lv_sipush (v := (1200 : Int32)) hx hb dX7_init_87 (by decide) ?_
  refine ch_newI (N' := 1200) hx hb (hts (.arrayClass .int) (by decide +kernel)) hK hP hD hS hA (by decide) (by decide) (by decide) (Nat.le_of_ble_eq_true rfl) (Nat.le_of_ble_eq_true rfl) dX7_init_90 (fun q11 H hP hD hS => ?_)
  have hP : va_P D vwCl [(h0, .inr (7, [.ref q1, .ref q2, .ref q3, .int (50 : Int32), .long 0, .long 0, .int 0, .ref q4, .ref q5, .long 0, .int 0, .ref q6, .ref q7, .ref q8, .ref q9, .ref q10, .null, .null, .int 0])), (q1, .inl (I.1, 8, .inl (fun _ => 0))), (q2, .inl (I.1, 1016, .inl (fun _ => 0))), (q3, .inl (I.1, 127, .inl (fun _ => 0))), (q4, .inl (I.1, 60, .inl (fun _ => 0))), (q5, .inl (I.1, 127, .inl (fun _ => 0))), (q6, .inl (I.1, 5, .inl (fun _ => 0))), (q7, .inl (I.1, 5, .inl (fun _ => 0))), (q8, .inl (I.2.1, 4, .inl (fun _ => 0))), (q9, .inl (I.1, 4, .inl (fun _ => 0))), (q10, .inl (I.1, 4, .inl (fun _ => 0))), (q11, .inl (I.1, 1200, .inl (fun _ => 0)))] H := hP
  have hD : va_D A [(h0, .inr (7, [.ref q1, .ref q2, .ref q3, .int (50 : Int32), .long 0, .long 0, .int 0, .ref q4, .ref q5, .long 0, .int 0, .ref q6, .ref q7, .ref q8, .ref q9, .ref q10, .null, .null, .int 0])), (q1, .inl (I.1, 8, .inl (fun _ => 0))), (q2, .inl (I.1, 1016, .inl (fun _ => 0))), (q3, .inl (I.1, 127, .inl (fun _ => 0))), (q4, .inl (I.1, 60, .inl (fun _ => 0))), (q5, .inl (I.1, 127, .inl (fun _ => 0))), (q6, .inl (I.1, 5, .inl (fun _ => 0))), (q7, .inl (I.1, 5, .inl (fun _ => 0))), (q8, .inl (I.2.1, 4, .inl (fun _ => 0))), (q9, .inl (I.1, 4, .inl (fun _ => 0))), (q10, .inl (I.1, 4, .inl (fun _ => 0))), (q11, .inl (I.1, 1200, .inl (fun _ => 0)))] := hD
  refine W.widen (k := 11) (n := 2560) (Nat.le_of_ble_eq_true rfl) (Nat.le_of_ble_eq_true rfl) ?_
  refine va_putF (ci := 7) (v := .ref q11) (ty := .array .int) (C := RX7) (T := TX7) (N := 19) hx hb hts (by decide +kernel) tyX7 tyX7_ok nmX7 hown hK hP hD hS 0 rfl rfl 16 (by decide) (hts (.fieldLink RX7 45 "CodeHuntModel" "items" "[I") (by decide +kernel)) (fun _ h9 => h9) rfl hin rfl (by decide +kernel) rfl rfl (Nat.le_of_ble_eq_true rfl) dX7_init_92 (fun H locs hP hD hS => ?_)
  have hP : va_P D vwCl [(h0, .inr (7, [.ref q1, .ref q2, .ref q3, .int (50 : Int32), .long 0, .long 0, .int 0, .ref q4, .ref q5, .long 0, .int 0, .ref q6, .ref q7, .ref q8, .ref q9, .ref q10, .ref q11, .null, .int 0])), (q1, .inl (I.1, 8, .inl (fun _ => 0))), (q2, .inl (I.1, 1016, .inl (fun _ => 0))), (q3, .inl (I.1, 127, .inl (fun _ => 0))), (q4, .inl (I.1, 60, .inl (fun _ => 0))), (q5, .inl (I.1, 127, .inl (fun _ => 0))), (q6, .inl (I.1, 5, .inl (fun _ => 0))), (q7, .inl (I.1, 5, .inl (fun _ => 0))), (q8, .inl (I.2.1, 4, .inl (fun _ => 0))), (q9, .inl (I.1, 4, .inl (fun _ => 0))), (q10, .inl (I.1, 4, .inl (fun _ => 0))), (q11, .inl (I.1, 1200, .inl (fun _ => 0)))] H := hP
  have hD : va_D A [(h0, .inr (7, [.ref q1, .ref q2, .ref q3, .int (50 : Int32), .long 0, .long 0, .int 0, .ref q4, .ref q5, .long 0, .int 0, .ref q6, .ref q7, .ref q8, .ref q9, .ref q10, .ref q11, .null, .int 0])), (q1, .inl (I.1, 8, .inl (fun _ => 0))), (q2, .inl (I.1, 1016, .inl (fun _ => 0))), (q3, .inl (I.1, 127, .inl (fun _ => 0))), (q4, .inl (I.1, 60, .inl (fun _ => 0))), (q5, .inl (I.1, 127, .inl (fun _ => 0))), (q6, .inl (I.1, 5, .inl (fun _ => 0))), (q7, .inl (I.1, 5, .inl (fun _ => 0))), (q8, .inl (I.2.1, 4, .inl (fun _ => 0))), (q9, .inl (I.1, 4, .inl (fun _ => 0))), (q10, .inl (I.1, 4, .inl (fun _ => 0))), (q11, .inl (I.1, 1200, .inl (fun _ => 0)))] := hD
  refine lv_aload_n hx hb dX7_init_95 rfl (lv_at hl 0 rfl) ?_
  refine lv_sipush (v := (300 : Int32)) hx hb dX7_init_96 (by decide) ?_
  refine ch_newI (N' := 300) hx hb (hts (.arrayClass .int) (by decide +kernel)) hK hP hD hS hA (by decide) (by decide) (by decide) (Nat.le_of_ble_eq_true rfl) (Nat.le_of_ble_eq_true rfl) dX7_init_99 (fun q12 H hP hD hS => ?_)
  have hP : va_P D vwCl [(h0, .inr (7, [.ref q1, .ref q2, .ref q3, .int (50 : Int32), .long 0, .long 0, .int 0, .ref q4, .ref q5, .long 0, .int 0, .ref q6, .ref q7, .ref q8, .ref q9, .ref q10, .ref q11, .null, .int 0])), (q1, .inl (I.1, 8, .inl (fun _ => 0))), (q2, .inl (I.1, 1016, .inl (fun _ => 0))), (q3, .inl (I.1, 127, .inl (fun _ => 0))), (q4, .inl (I.1, 60, .inl (fun _ => 0))), (q5, .inl (I.1, 127, .inl (fun _ => 0))), (q6, .inl (I.1, 5, .inl (fun _ => 0))), (q7, .inl (I.1, 5, .inl (fun _ => 0))), (q8, .inl (I.2.1, 4, .inl (fun _ => 0))), (q9, .inl (I.1, 4, .inl (fun _ => 0))), (q10, .inl (I.1, 4, .inl (fun _ => 0))), (q11, .inl (I.1, 1200, .inl (fun _ => 0))), (q12, .inl (I.1, 300, .inl (fun _ => 0)))] H := hP
  have hD : va_D A [(h0, .inr (7, [.ref q1, .ref q2, .ref q3, .int (50 : Int32), .long 0, .long 0, .int 0, .ref q4, .ref q5, .long 0, .int 0, .ref q6, .ref q7, .ref q8, .ref q9, .ref q10, .ref q11, .null, .int 0])), (q1, .inl (I.1, 8, .inl (fun _ => 0))), (q2, .inl (I.1, 1016, .inl (fun _ => 0))), (q3, .inl (I.1, 127, .inl (fun _ => 0))), (q4, .inl (I.1, 60, .inl (fun _ => 0))), (q5, .inl (I.1, 127, .inl (fun _ => 0))), (q6, .inl (I.1, 5, .inl (fun _ => 0))), (q7, .inl (I.1, 5, .inl (fun _ => 0))), (q8, .inl (I.2.1, 4, .inl (fun _ => 0))), (q9, .inl (I.1, 4, .inl (fun _ => 0))), (q10, .inl (I.1, 4, .inl (fun _ => 0))), (q11, .inl (I.1, 1200, .inl (fun _ => 0))), (q12, .inl (I.1, 300, .inl (fun _ => 0)))] := hD
  refine W.widen (k := 12) (n := 2860) (Nat.le_of_ble_eq_true rfl) (Nat.le_of_ble_eq_true rfl) ?_
  refine va_putF (ci := 7) (v := .ref q12) (ty := .array .int) (C := RX7) (T := TX7) (N := 19) hx hb hts (by decide +kernel) tyX7 tyX7_ok nmX7 hown hK hP hD hS 0 rfl rfl 17 (by decide) (hts (.fieldLink RX7 48 "CodeHuntModel" "moved" "[I") (by decide +kernel)) (fun _ h9 => h9) rfl hin rfl (by decide +kernel) rfl rfl (Nat.le_of_ble_eq_true rfl) dX7_init_101 (fun H locs hP hD hS => ?_)
  have hP : va_P D vwCl [(h0, .inr (7, [.ref q1, .ref q2, .ref q3, .int (50 : Int32), .long 0, .long 0, .int 0, .ref q4, .ref q5, .long 0, .int 0, .ref q6, .ref q7, .ref q8, .ref q9, .ref q10, .ref q11, .ref q12, .int 0])), (q1, .inl (I.1, 8, .inl (fun _ => 0))), (q2, .inl (I.1, 1016, .inl (fun _ => 0))), (q3, .inl (I.1, 127, .inl (fun _ => 0))), (q4, .inl (I.1, 60, .inl (fun _ => 0))), (q5, .inl (I.1, 127, .inl (fun _ => 0))), (q6, .inl (I.1, 5, .inl (fun _ => 0))), (q7, .inl (I.1, 5, .inl (fun _ => 0))), (q8, .inl (I.2.1, 4, .inl (fun _ => 0))), (q9, .inl (I.1, 4, .inl (fun _ => 0))), (q10, .inl (I.1, 4, .inl (fun _ => 0))), (q11, .inl (I.1, 1200, .inl (fun _ => 0))), (q12, .inl (I.1, 300, .inl (fun _ => 0)))] H := hP
  have hD : va_D A [(h0, .inr (7, [.ref q1, .ref q2, .ref q3, .int (50 : Int32), .long 0, .long 0, .int 0, .ref q4, .ref q5, .long 0, .int 0, .ref q6, .ref q7, .ref q8, .ref q9, .ref q10, .ref q11, .ref q12, .int 0])), (q1, .inl (I.1, 8, .inl (fun _ => 0))), (q2, .inl (I.1, 1016, .inl (fun _ => 0))), (q3, .inl (I.1, 127, .inl (fun _ => 0))), (q4, .inl (I.1, 60, .inl (fun _ => 0))), (q5, .inl (I.1, 127, .inl (fun _ => 0))), (q6, .inl (I.1, 5, .inl (fun _ => 0))), (q7, .inl (I.1, 5, .inl (fun _ => 0))), (q8, .inl (I.2.1, 4, .inl (fun _ => 0))), (q9, .inl (I.1, 4, .inl (fun _ => 0))), (q10, .inl (I.1, 4, .inl (fun _ => 0))), (q11, .inl (I.1, 1200, .inl (fun _ => 0))), (q12, .inl (I.1, 300, .inl (fun _ => 0)))] := hD
  let sh : Nat → Nat := fun k => [h0, q1, q2, q3, q4, q5, q6, q7, q8, q9, q10, q11, q12].getD k 0
  have hP9 := hP.sub (ws' := ch_W 13 sh (ch_cf (ch_FM I sh) ch_N0)) [0, 1, 2, 3, 4, 5, 6, 7, 8, 9, 10, 11, 12] rfl
  have hD9 := hD.sub (ws' := ch_W 13 sh (ch_cf (ch_FM I sh) ch_N0)) [0, 1, 2, 3, 4, 5, 6, 7, 8, 9, 10, 11, 12] (by decide) rfl
  exact W.vret hx hb hr (fun t ht hW => ⟨⟨(), rfl, trivial, sh, rfl, by rw [ht]; exact hP9, hD9⟩, hS.F ht⟩) hS.2.2 dX7_init_104
