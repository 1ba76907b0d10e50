def ch_LW (D : va_G) (I : ch_Id) (s : State) (b : Nat) (shC shM : Nat → Nat) (MC MM : ch_Mem) (H : Heap) (locs : List Loc) : Prop :=
  va_K D vwCl (ch_tys I) s ∧ va_P D vwCl (ch_W 40 shC (ch_cf (ch_FC I shC) MC)) H ∧ va_P D vwCl (ch_W 13 shM (ch_cf (ch_FM I shM) MM)) H ∧ va_D (fun q : Nat => s.heap.size ≤ q) (ch_W 40 shC (ch_cf (ch_FC I shC) MC)) ∧ va_D (fun q : Nat => s.heap.size ≤ q) (ch_W 13 shM (ch_cf (ch_FM I shM) MM)) ∧ (∀ i j, i < 40 → j < 13 → shC i ≠ shM j) ∧ va_S (fun q : Nat => s.heap.size ≤ q) s.heap H locs ∧ (∀ w ∈ ch_nst, va_Nw w s) ∧ ch_ZT (fun q : Nat => s.heap.size ≤ q) s s.heap
theorem lw_wC {D : va_G} {I : ch_Id} {s : State} {b : Nat} {shC shM : Nat → Nat} {MC MM : ch_Mem} {H : Heap} {locs : List Loc} (h : ch_LW D I s b shC shM MC MM H locs) : ch_Wd D I 40 (ch_FC I shC) shC s (fun q : Nat => s.heap.size ≤ q) MC H locs := by
  obtain ⟨hK, hP, hP2, hD, hD2, hx, hS, hN, hZ⟩ := h
  exact ⟨hK, hP, hD, hS, fun _ h => h, hN, hZ⟩
theorem lw_wM {D : va_G} {I : ch_Id} {s : State} {b : Nat} {shC shM : Nat → Nat} {MC MM : ch_Mem} {H : Heap} {locs : List Loc} (h : ch_LW D I s b shC shM MC MM H locs) : ch_Wd D I 13 (ch_FM I shM) shM s (fun q : Nat => s.heap.size ≤ q) MM H locs := by
  obtain ⟨hK, hP, hP2, hD, hD2, hx, hS, hN, hZ⟩ := h
  exact ⟨hK, hP2, hD2, hS, fun _ h => h, hN, hZ⟩
theorem lw_nC {D : va_G} {I : ch_Id} {s : State} {b : Nat} {shC shM : Nat → Nat} {MC MM M1 : ch_Mem} {H H1 : Heap} {locs locs1 : List Loc} (h : ch_LW D I s b shC shM MC MM H locs) (hP : va_P D vwCl (ch_W 40 shC (ch_cf (ch_FC I shC) M1)) H1) (hS : va_S (fun q : Nat => s.heap.size ≤ q) s.heap H1 locs1) (hk : ∀ q : Nat, q < H.size → ¬ ch_A 40 shC H.size q → H1[q]? = H[q]?) : ch_LW D I s b shC shM M1 MM H1 locs1 := by
  obtain ⟨hK, hP1, hP2, hD, hD2, hx, -, hN, hZ⟩ := h
  refine ⟨hK, hP, hP2.kept (fun k q hq => ?_), ch_D hD, hD2, hx, hS, hN, hZ⟩
  have hl := (hP2 k q hq).lt
  obtain ⟨hk13, rfl⟩ := ch_W_of hq
  refine hk _ hl (fun hA => ?_)
  rcases hA with ⟨i, hi, e⟩ | hA
  · exact hx i k hi hk13 e.symm
  · exact absurd hl (Nat.not_lt.mpr hA)
theorem lw_nM {D : va_G} {I : ch_Id} {s : State} {b : Nat} {shC shM : Nat → Nat} {MC MM M1 : ch_Mem} {H H1 : Heap} {locs locs1 : List Loc} (h : ch_LW D I s b shC shM MC MM H locs) (hP : va_P D vwCl (ch_W 13 shM (ch_cf (ch_FM I shM) M1)) H1) (hS : va_S (fun q : Nat => s.heap.size ≤ q) s.heap H1 locs1) (hk : ∀ q : Nat, q < H.size → ¬ ch_A 13 shM H.size q → H1[q]? = H[q]?) : ch_LW D I s b shC shM MC M1 H1 locs1 := by
  obtain ⟨hK, hP1, hP2, hD, hD2, hx, -, hN, hZ⟩ := h
  refine ⟨hK, hP1.kept (fun k q hq => ?_), hP, hD, ch_D hD2, hx, hS, hN, hZ⟩
  have hl := (hP1 k q hq).lt
  obtain ⟨hk40, rfl⟩ := ch_W_of hq
  refine hk _ hl (fun hA => ?_)
  rcases hA with ⟨i, hi, e⟩ | hA
  · exact hx k i hk40 hi e
  · exact absurd hl (Nat.not_lt.mpr hA)
section LWC
variable {p : Program} {l : Launch} {e : Env} {R : Room} {s : State} {m : MethodId} {args : Array Value} {below : List Frame} {meth : Method} {c : Code} {H : Heap} {locs : List Loc} {cells slots : Nat} {Q : State → Prop} {pc : Nat} {ls : Array Slot} {rest st0 : List Value} {D : va_G} {I : ch_Id} {b : Nat} {shC shM : Nat → Nat} {MC MM M1 : ch_Mem} {a : Array Value}
theorem lw_cCi {r : Int32} (hw : ch_LW D I s b shC shM MC MM H locs) (hr : va_Run p l e R s m args below meth c H locs cells slots 0 0 (F0 m pc ls st0) rest (va_Qi (fun r' (u : ch_Mem) => r' = r ∧ u = M1) (ch_Pos D 40 (ch_FC I shC) shC) (ch_A 40 shC H.size) a) (ch_A 40 shC H.size))
    (kk : ∀ (H1 : Heap) (locs1 : List Loc), ch_LW D I s b shC shM M1 MM H1 locs1 → W p l e R s m args below meth c H1 locs1 cells slots Q (F0 m (pc + 3) ls (.int r :: rest))) : W p l e R s m args below meth c H locs cells slots Q (F0 m pc ls st0) :=
  va_calli hr (lw_wC hw).2.2.2.1 (fun q _ h => ch_AA (lw_wC hw) q h) (ch_AA (lw_wC hw)) (fun r' u t H1 locs1 ht _ hp hB _ hk hS => by
    obtain ⟨rfl, rfl⟩ := hp
    exact kk H1 locs1 (lw_nC hw (by rw [← ht]; exact hB) hS hk))
theorem lw_cCl {r : Int64} (hw : ch_LW D I s b shC shM MC MM H locs) (hr : va_Run p l e R s m args below meth c H locs cells slots 0 0 (F0 m pc ls st0) rest (va_Ql (fun r' (u : ch_Mem) => r' = r ∧ u = M1) (ch_Pos D 40 (ch_FC I shC) shC) (ch_A 40 shC H.size) a) (ch_A 40 shC H.size))
    (kk : ∀ (H1 : Heap) (locs1 : List Loc), ch_LW D I s b shC shM M1 MM H1 locs1 → W p l e R s m args below meth c H1 locs1 cells slots Q (F0 m (pc + 3) ls (.long r :: rest))) : W p l e R s m args below meth c H locs cells slots Q (F0 m pc ls st0) :=
  va_calll hr (lw_wC hw).2.2.2.1 (fun q _ h => ch_AA (lw_wC hw) q h) (ch_AA (lw_wC hw)) (fun r' u t H1 locs1 ht _ hp hB _ hk hS => by
    obtain ⟨rfl, rfl⟩ := hp
    exact kk H1 locs1 (lw_nC hw (by rw [← ht]; exact hB) hS hk))
theorem lw_cMi {r : Int32} (hw : ch_LW D I s b shC shM MC MM H locs) (hr : va_Run p l e R s m args below meth c H locs cells slots 0 0 (F0 m pc ls st0) rest (va_Qi (fun r' (u : ch_Mem) => r' = r ∧ u = M1) (ch_Pos D 13 (ch_FM I shM) shM) (ch_A 13 shM H.size) a) (ch_A 13 shM H.size))
    (kk : ∀ (H1 : Heap) (locs1 : List Loc), ch_LW D I s b shC shM MC M1 H1 locs1 → W p l e R s m args below meth c H1 locs1 cells slots Q (F0 m (pc + 3) ls (.int r :: rest))) : W p l e R s m args below meth c H locs cells slots Q (F0 m pc ls st0) :=
  va_calli hr (lw_wM hw).2.2.2.1 (fun q _ h => ch_AA (lw_wM hw) q h) (ch_AA (lw_wM hw)) (fun r' u t H1 locs1 ht _ hp hB _ hk hS => by
    obtain ⟨rfl, rfl⟩ := hp
    exact kk H1 locs1 (lw_nM hw (by rw [← ht]; exact hB) hS hk))
theorem lw_cMl {r : Int64} (hw : ch_LW D I s b shC shM MC MM H locs) (hr : va_Run p l e R s m args below meth c H locs cells slots 0 0 (F0 m pc ls st0) rest (va_Ql (fun r' (u : ch_Mem) => r' = r ∧ u = M1) (ch_Pos D 13 (ch_FM I shM) shM) (ch_A 13 shM H.size) a) (ch_A 13 shM H.size))
    (kk : ∀ (H1 : Heap) (locs1 : List Loc), ch_LW D I s b shC shM MC M1 H1 locs1 → W p l e R s m args below meth c H1 locs1 cells slots Q (F0 m (pc + 3) ls (.long r :: rest))) : W p l e R s m args below meth c H locs cells slots Q (F0 m pc ls st0) :=
  va_calll hr (lw_wM hw).2.2.2.1 (fun q _ h => ch_AA (lw_wM hw) q h) (ch_AA (lw_wM hw)) (fun r' u t H1 locs1 ht _ hp hB _ hk hS => by
    obtain ⟨rfl, rfl⟩ := hp
    exact kk H1 locs1 (lw_nM hw (by rw [← ht]; exact hB) hS hk))
theorem lw_sld {cc : ByteArray} {L i k : Nat} {xs : Nat → Int32} {v : Int32} (hexec : p.tables.exec = Jvm.exec) (hb : c.code = cc) (hX : va_X b L xs s s.heap) (hbl : b < s.heap.size) (hw : ch_LW D I s b shC shM MC MM H locs) (hL : L ≤ 3072) (hi : i + 6 ≤ L) (hk : k < 6) (hv : v = nI (i + k)) (hdg : decode cc pc = .ok (.iaload, 1))
    (kk : W p l e R s m args below meth c H locs cells slots Q (F0 m (pc + 1) ls (.int (xs (i + k)) :: rest))) : W p l e R s m args below meth c H locs cells slots Q (F0 m pc ls (.int v :: .ref b :: rest)) := by
  subst hv
  refine va_sld (A := fun q : Nat => s.heap.size ≤ q) hexec hb hX hbl (Nat.not_le.mpr hbl) (lw_wC hw).2.2.2.1 (vp_in_nI (by omega) (by omega)) hdg ?_
  rw [nI_clamp (by omega)]
  exact kk
end LWC
theorem lw_ix (i k : Nat) {K : Int32} (h : K = nI k) : nI i + K = nI (i + k) := by rw [h, nI_add]
theorem lw_cmp (r : Int64) : lg_cmp r r = 0 := by simp [lg_cmp]
