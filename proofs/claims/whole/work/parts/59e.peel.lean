theorem pu_offL {n r d : Nat} {v : Int32} (hr : r < 8) (h0 : 0 < n) (hn : n ≤ 127) (hd : d ≤ 1000) : ∀ (c i fu : Nat) (M : ch_Mem), i + c = n → c < fu → M.1 (7 + r) 1 = nI n → ∃ M1, D_X3_takeOff_L3 (7 + r) 31 fu (nI d) v (nI i) M = some ((), M1) ∧ (∀ a, a ≠ 31 → M1.1 a = M.1 a) ∧ (∀ j, i ≤ j → j < n → M1.1 31 j = M.1 31 j - v * M.1 (7 + r + 8) ((j + d) % n)) ∧ ∀ j, j < i → M1.1 31 j = M.1 31 j := by
  have l1 : ch_len 31 = 127 := by decide
  intro c
  induction c with
  | zero =>
    intro i fu M g1 g2 g3
    obtain ⟨fu, rfl⟩ : ∃ q, fu = q + 1 := ⟨fu - 1, by omega⟩
    refine ⟨M, ?_, fun a _ => rfl, fun j h5 h6 => by omega, fun j _ => rfl⟩
    show D_X3_takeOff_b3 (7 + r) 31 (D_X3_takeOff_L3 (7 + r) 31 fu) _ _ _ M = _
    unfold D_X3_takeOff_b3
    rw [g3, if_pos (nI_le (by omega) (by omega))]
  | succ c ih =>
    intro i fu M g1 g2 g3
    obtain ⟨fu, rfl⟩ : ∃ q, fu = q + 1 := ⟨fu - 1, by omega⟩
    obtain ⟨Ma, hMa⟩ : ∃ Ma, Ma = ch_wI M 31 i (M.1 31 i - v * M.1 (7 + r + 8) ((i + d) % n)) := ⟨_, rfl⟩
    have fa : ∀ a, a ≠ 31 → Ma.1 a = M.1 a := fun a ha => by rw [hMa, pu_wn ha]
    obtain ⟨M1, e1, e2, e3, e4⟩ := ih (i + 1) fu Ma (by omega) (by omega) (by rw [fa _ (by omega)]; exact g3)
    refine ⟨M1, ?_, fun a ha => by rw [e2 a ha, fa a ha], fun j h6 h7 => ?_, fun j h6 => ?_⟩
    · show D_X3_takeOff_b3 (7 + r) 31 (D_X3_takeOff_L3 (7 + r) 31 fu) _ _ _ M = _
      unfold D_X3_takeOff_b3
      rw [g3, l1, if_neg (nI_ge (by omega) (by omega)), if_neg (nI_ge (by omega) (by omega)), pu_gd (by omega) (by decide), nI_add, pu_signAt g3 h0 hn (by omega), pu_bd, pu_gd (by omega) (by decide), pu_cl (by omega), ← hMa, nI_1]
      exact e1
    · by_cases hj : j = i
      · subst hj
        rw [e4 j (by omega), hMa, pu_ws]
      · rw [e3 j (by omega) h7, fa (7 + r + 8) (by omega), hMa, pu_wn2 (by omega)]
    · rw [e4 j (by omega), hMa, pu_wn2 (by omega)]
theorem pu_off7L {n r d : Nat} {v : Int32} (hr : r < 8) (h0 : 0 < n) (hn : n ≤ 127) (hd : d ≤ 1000) : ∀ (c i gu : Nat) (N : ch_Mem), i + c = n → c < gu → N.1 1 r = nI n → ∃ N1, D_X7_takesOff_L170 gu (nI n) (nI r) (nI d) v (nI i) N = D_X7_takesOff_b205 (nI r) (nI d) v N1 ∧ (∀ a, a ≠ 5 → N1.1 a = N.1 a) ∧ (∀ j, i ≤ j → j < n → N1.1 5 j = N.1 5 j - v * N.1 2 (127 * r + (j + d) % n)) ∧ ∀ j, j < i → N1.1 5 j = N.1 5 j := by
  intro c
  induction c with
  | zero =>
    intro i gu N g1 g2 g3
    obtain ⟨gu, rfl⟩ : ∃ q, gu = q + 1 := ⟨gu - 1, by omega⟩
    refine ⟨N, ?_, fun a _ => rfl, fun j h5 h6 => by omega, fun j _ => rfl⟩
    show D_X7_takesOff_b170 (D_X7_takesOff_L170 gu) _ _ _ _ _ N = _
    unfold D_X7_takesOff_b170
    rw [if_pos (nI_le (by omega) (by omega))]
  | succ c ih =>
    intro i gu N g1 g2 g3
    obtain ⟨gu, rfl⟩ : ∃ q, gu = q + 1 := ⟨gu - 1, by omega⟩
    obtain ⟨Na, hNa⟩ : ∃ Na, Na = ch_wI N 5 i (N.1 5 i - v * N.1 2 (127 * r + (i + d) % n)) := ⟨_, rfl⟩
    have fa : ∀ a, a ≠ 5 → Na.1 a = N.1 a := fun a ha => by rw [hNa, pu_wn ha]
    obtain ⟨N1, e1, e2, e3, e4⟩ := ih (i + 1) gu Na (by omega) (by omega) (by rw [fa _ (by omega)]; exact g3)
    refine ⟨N1, ?_, fun a ha => by rw [e2 a ha, fa a ha], fun j h6 h7 => ?_, fun j h6 => ?_⟩
    · show D_X7_takesOff_b170 (D_X7_takesOff_L170 gu) _ _ _ _ _ N = _
      unfold D_X7_takesOff_b170
      rw [if_neg (nI_ge (by omega) (by omega)), pu_gd (by omega) (by decide), nI_add, pu_signOf g3 hr h0 hn (by omega), pu_bd, pu_gd (by omega) (by decide), pu_cl (by omega), ← hNa, nI_1]
      exact e1
    · by_cases hj : j = i
      · subst hj
        rw [e4 j (by omega), hNa, pu_ws]
      · rw [e3 j (by omega) h7, fa 2 (by omega), hNa, pu_wn2 (by omega)]
    · rw [e4 j (by omega), hNa, pu_wn2 (by omega)]
theorem pu_keep {t : Nat} (ht : t < 20) {M : ch_Mem} (e : M.1 5 3 = nI t) (x1 x2 x3 : Int32) : ∃ M1, D_X1_keep x1 x2 x3 M = some ((), M1) ∧ (∀ a, a ≠ 5 → a ≠ 35 → a ≠ 36 → a ≠ 37 → M1.1 a = M.1 a) ∧ M1.1 5 3 = nI (t + 1) ∧ M1.1 35 t = x1 ∧ M1.1 36 t = x2 ∧ M1.1 37 t = x3 ∧ ∀ i, i < t → M1.1 35 i = M.1 35 i ∧ M1.1 36 i = M.1 36 i ∧ M1.1 37 i = M.1 37 i := by
  obtain ⟨Ma, hMa⟩ : ∃ Ma, Ma = ch_wI M 35 t x1 := ⟨_, rfl⟩
  obtain ⟨Mb, hMb⟩ : ∃ Mb, Mb = ch_wI Ma 36 t x2 := ⟨_, rfl⟩
  obtain ⟨Mc, hMc⟩ : ∃ Mc, Mc = ch_wI Mb 37 t x3 := ⟨_, rfl⟩
  have ea : Ma.1 5 3 = nI t := by rw [hMa, pu_wn2 (by omega)]; exact e
  have eb : Mb.1 5 3 = nI t := by rw [hMb, pu_wn2 (by omega)]; exact ea
  have ec : Mc.1 5 3 = nI t := by rw [hMc, pu_wn2 (by omega)]; exact eb
  refine ⟨ch_wI Mc 5 3 (nI (t + 1)), ?_, fun a h1 h2 h3 h4 => by rw [pu_wn h1, hMc, pu_wn h4, hMb, pu_wn h3, hMa, pu_wn h2], pu_ws _ _ _ _, ?_, ?_, ?_, fun i hi => ?_⟩
  · unfold D_X1_keep
    rw [e, if_neg (show ¬ (20 : Int32) ≤ nI t from nI_ge (b := 20) (by omega) (by omega)), pu_gd ht (by decide), pu_cl (by omega), ← hMa, ea, pu_gd ht (by decide), pu_cl (by omega), ← hMb, eb, pu_gd ht (by decide), pu_cl (by omega), ← hMc, ec, nI_1]
  · rw [pu_wn2 (by omega), hMc, pu_wn2 (by omega), hMb, pu_wn2 (by omega), hMa, pu_ws]
  · rw [pu_wn2 (by omega), hMc, pu_wn2 (by omega), hMb, pu_ws]
  · rw [pu_wn2 (by omega), hMc, pu_ws]
  · rw [pu_wn2 (by omega), pu_wn2 (by omega), pu_wn2 (by omega), hMc, pu_wn2 (by omega), pu_wn2 (by omega), pu_wn2 (by omega), hMb, pu_wn2 (by omega), pu_wn2 (by omega), pu_wn2 (by omega), hMa, pu_wn2 (by omega), pu_wn2 (by omega), pu_wn2 (by omega)]
    exact ⟨rfl, rfl, rfl⟩
theorem pu_3t (t : Nat) : (3 : Int32) * nI t = nI (3 * t) := pk_mul 3 t
theorem pu_205 {t : Nat} (ht : t < 20) {N : ch_Mem} (e : N.1 0 6 = nI t) (x3 x4 x7 : Int32) : ∃ N1, D_X7_takesOff_b205 x3 x4 x7 N = some (1, N1) ∧ (∀ a, a ≠ 4 → N1.1 a = N.1 a) ∧ N1.1 4 (3 * t) = x3 ∧ N1.1 4 (3 * t + 1) = x4 ∧ N1.1 4 (3 * t + 2) = x7 ∧ ∀ i, i < 3 * t → N1.1 4 i = N.1 4 i := by
  obtain ⟨Na, hNa⟩ : ∃ Na, Na = ch_wI N 4 (3 * t) x3 := ⟨_, rfl⟩
  obtain ⟨Nb, hNb⟩ : ∃ Nb, Nb = ch_wI Na 4 (3 * t + 1) x4 := ⟨_, rfl⟩
  have ea : Na.1 0 6 = nI t := by rw [hNa, pu_wn2 (by omega)]; exact e
  have eb : Nb.1 0 6 = nI t := by rw [hNb, pu_wn2 (by omega)]; exact ea
  have a2 : nI (3 * t) + 2 = nI (3 * t + 2) := nI_add (3 * t) 2
  refine ⟨ch_wI Nb 4 (3 * t + 2) x7, ?_, fun a h1 => by rw [pu_wn h1, hNb, pu_wn h1, hNa, pu_wn h1], ?_, ?_, pu_ws _ _ _ _, fun i hi => ?_⟩
  · unfold D_X7_takesOff_b205
    rw [e, pu_3t, pu_gd (by omega) (by decide), pu_cl (by omega), ← hNa, ea, pu_3t, nI_1, pu_gd (by omega) (by decide), pu_cl (by omega), ← hNb, eb, pu_3t, a2, pu_gd (by omega) (by decide), pu_cl (by omega)]
  · rw [pu_wn2 (by omega), hNb, pu_wn2 (by omega), hNa, pu_ws]
  · rw [pu_wn2 (by omega), hNb, pu_ws]
  · rw [pu_wn2 (by omega), hNb, pu_wn2 (by omega), hNa, pu_wn2 (by omega)]
/-- the two worlds while rows are taken off -/
def pu_K (MC MM : ch_Mem) (n t : Nat) (M N : ch_Mem) : Prop := (∀ a, a ≠ 3 → a ≠ 5 → a ≠ 31 → a ≠ 32 → a ≠ 35 → a ≠ 36 → a ≠ 37 → M.1 a = MC.1 a) ∧ M.1 3 4 = nI n ∧ (∀ a, a ≠ 0 → a ≠ 4 → a ≠ 5 → N.1 a = MM.1 a) ∧ (∀ j, j ≠ 6 → N.1 0 j = MM.1 0 j) ∧ (∀ j, j < n → M.1 31 j = N.1 5 j) ∧ M.1 5 3 = nI t ∧ N.1 0 6 = nI t ∧ ∀ i, i < t → N.1 4 (3 * i) = M.1 35 i ∧ N.1 4 (3 * i + 1) = M.1 36 i ∧ N.1 4 (3 * i + 2) = M.1 37 i
theorem pu_KH {MC MM : ch_Mem} (hR : ch_Rr MC MM) {n t : Nat} (hn : n ≤ 127) {M N : ch_Mem} (h : pu_K MC MM n t M N) : pu_H n M N := by
  obtain ⟨k1, k2, k3, k4, k5, k6, k7, k8⟩ := h
  refine ⟨fun r hr => ?_, k5⟩
  obtain ⟨n1, p1, p2, p3, p4⟩ := hR r hr
  rw [k1 (7 + r) (by omega) (by omega) (by omega) (by omega) (by omega) (by omega) (by omega), k1 (7 + r + 8) (by omega) (by omega) (by omega) (by omega) (by omega) (by omega) (by omega), k3 1 (by decide) (by decide) (by decide), k3 2 (by decide) (by decide) (by decide), p2, p3]
  refine ⟨Iff.rfl, fun q i hi => ?_⟩
  obtain rfl : n1 = n := (nI_eq (by omega) (by omega)).mp q
  exact (p4 i hi).2
theorem pu_one {MC MM : ch_Mem} (hR : ch_Rr MC MM) {n t : Nat} (h0 : 0 < n) (hn : n ≤ 127) (ht : t < 20) {M N : ch_Mem} (h : pu_K MC MM n t M N) : (D_X6_takeOffLoudest (nI n) M = some (0, M) ∧ D_X7_takesOff (nI n) N = some (0, N)) ∨ ∃ M1 N1, D_X6_takeOffLoudest (nI n) M = some (1, M1) ∧ D_X7_takesOff (nI n) N = some (1, N1) ∧ N1.1 0 6 = nI t ∧ pu_K MC MM n (t + 1) M1 (ch_wI N1 0 6 (nI (t + 1))) := by
  have hH := pu_KH hR hn h
  obtain ⟨k1, k2, k3, k4, k5, k6, k7, k8⟩ := h
  obtain ⟨lo, ro, sh, mo, rm, sm, of, z1, z2, z3⟩ := pu_tkO hH h0 hn 8 0 ch_fu ch_fu 0 0 0 (-1) 0 0 0 (by omega) (by unfold ch_fu; omega) (by unfold ch_fu; omega) (Or.inl ⟨rfl, rfl, Or.inl rfl⟩)
  have z2' : D_X6_takeOffLoudest (nI n) M = D_X6_takeOffLoudest_b98 (nI n) lo ro sh M := z2
  have z3' : D_X7_takesOff (nI n) N = D_X7_takesOff_b129 (nI n) rm sm of N := z3
  unfold D_X6_takeOffLoudest_b98 at z2'
  rw [pu_ratio _ h0 hn, pu_bd] at z2'
  rw [pu_129 _ _ _ h0 hn] at z3'
  have zero : ∀ x : Int32, lo = x → of = x → pu_rr x n = 0 → (D_X6_takeOffLoudest (nI n) M = some (0, M) ∧ D_X7_takesOff (nI n) N = some (0, N)) := by
    intro x q1 q2 q3
    rw [q1, if_pos q3] at z2'
    rw [q2, if_pos q3] at z3'
    exact ⟨z2', z3'⟩
  rcases z1 with ⟨q1, q2, -⟩ | ⟨q1, q2, q3, q4, q5, r, d, r1, r2, r3, r4, r5⟩
  · exact Or.inl (zero 0 q1 q2 (pu_rr0 h0 hn))
  · by_cases hv : pu_rr lo n = 0
    · exact Or.inl (zero lo rfl q3 hv)
    · right
      subst q3 q4 q5 r3 r4
      rw [if_neg hv] at z2' z3'
      rw [pu_gd r1 (by decide), pu_cl (by omega)] at z2'
      have eN : N.1 1 r = nI n := (hH.1 r r1).1.mp r5
      obtain ⟨Ma, a1, a2, a3, -⟩ := pu_offL (v := pu_rr of n) r1 h0 hn (d := d) (by omega) n 0 ch_fu M (by omega) (by unfold ch_fu; omega) r5
      obtain ⟨Na, b1, b2, b3, -⟩ := pu_off7L (v := pu_rr of n) r1 h0 hn (d := d) (by omega) n 0 ch_fu N (by omega) (by unfold ch_fu; omega) eN
      have a1' : D_X3_takeOff (7 + r) 31 (nI d) (pu_rr of n) M = some ((), Ma) := a1
      have b1' : D_X7_takesOff_L170 ch_fu (nI n) (nI r) (nI d) (pu_rr of n) 0 N = D_X7_takesOff_b205 (nI r) (nI d) (pu_rr of n) Na := b1
      obtain ⟨M1, c1, c2, c3, c4, c5, c6, c7⟩ := pu_keep ht (M := Ma) (by rw [a2 5 (by decide)]; exact k6) (nI r) (nI d) (pu_rr of n)
      obtain ⟨N1, d1, d2, d3, d4, d5, d6⟩ := pu_205 ht (N := Na) (by rw [b2 0 (by decide)]; exact k7) (nI r) (nI d) (pu_rr of n)
      rw [a1', pu_bd, c1, pu_bd] at z2'
      rw [b1', d1] at z3'
      refine ⟨M1, N1, z2', z3', by rw [d2 0 (by decide), b2 0 (by decide)]; exact k7, fun a h1 h2 h3 h4 h5 h6 h7 => by rw [c2 a h2 h5 h6 h7, a2 a h3]; exact k1 a h1 h2 h3 h4 h5 h6 h7, by rw [c2 3 (by decide) (by decide) (by decide) (by decide), a2 3 (by decide)]; exact k2, fun a h1 h2 h3 => by rw [pu_wn h1, d2 a h2, b2 a h3]; exact k3 a h1 h2 h3, fun j hj => by rw [pu_wn2 (by omega), d2 0 (by decide), b2 0 (by decide)]; exact k4 j hj, fun j hj => ?_, c3, pu_ws _ _ _ _, fun i hi => ?_⟩
      · have hm : (j + d) % n < n := Nat.mod_lt _ h0
        rw [c2 31 (by decide) (by decide) (by decide) (by decide), a3 j (by omega) hj, pu_wn2 (by omega), d2 5 (by decide), b3 j (by omega) hj, (hH.1 r r1).2 eN _ hm, k5 j hj]
      · rw [pu_wn2 (by omega), pu_wn2 (by omega), pu_wn2 (by omega)]
        by_cases hit : i = t
        · subst hit
          rw [c4, c5, c6, d3, d4, d5]
          exact ⟨rfl, rfl, rfl⟩
        · obtain ⟨w1, w2, w3⟩ := c7 i (by omega)
          rw [w1, w2, w3, d6 _ (by omega), d6 _ (by omega), d6 _ (by omega), a2 35 (by decide), a2 36 (by decide), a2 37 (by decide), b2 4 (by decide)]
          exact k8 i (by omega)
/-- the squares of what is left -/
theorem pu_sqL {n : Nat} (hn : n ≤ 127) {M : ch_Mem} (e : M.1 3 4 = nI n) : ∀ (c i fu gu : Nat) (acc : Int64) (N : ch_Mem), i + c = n → c < fu → c < gu → (∀ j, j < n → M.1 31 j = N.1 5 j) → N.2 0 9 = acc → ∃ (z : Int64) (N1 : ch_Mem), D_X5_squaresOfX_L4 fu acc (nI i) M = some (z, M) ∧ D_X7_peel_L142 gu (nI n) (nI i) N = some (N.1 0 6, N1) ∧ N1.1 = N.1 ∧ N1.2 0 9 = z := by
  intro c
  induction c with
  | zero =>
    intro i fu gu acc N g1 g2 g3 g4 g5
    obtain ⟨fu, rfl⟩ : ∃ q, fu = q + 1 := ⟨fu - 1, by omega⟩
    obtain ⟨gu, rfl⟩ : ∃ q, gu = q + 1 := ⟨gu - 1, by omega⟩
    refine ⟨acc, N, ?_, ?_, rfl, g5⟩
    · show D_X5_squaresOfX_b4 (D_X5_squaresOfX_L4 fu) _ _ M = _
      unfold D_X5_squaresOfX_b4 D_X5_squaresOfX_b36
      rw [e, if_pos (nI_le (by omega) (by omega))]
    · show D_X7_peel_b142 (D_X7_peel_L142 gu) _ _ N = _
      unfold D_X7_peel_b142 D_X7_peel_b180
      rw [if_pos (nI_le (by omega) (by omega))]
  | succ c ih =>
    intro i fu gu acc N g1 g2 g3 g4 g5
    obtain ⟨fu, rfl⟩ : ∃ q, fu = q + 1 := ⟨fu - 1, by omega⟩
    obtain ⟨gu, rfl⟩ : ∃ q, gu = q + 1 := ⟨gu - 1, by omega⟩
    obtain ⟨z, N1, z1, z2, z3, z4⟩ := ih (i + 1) fu gu (acc + (M.1 31 i).toInt64 * (M.1 31 i).toInt64) (ch_wL N 0 9 (acc + (M.1 31 i).toInt64 * (M.1 31 i).toInt64)) (by omega) (by omega) (by omega) g4 (by rw [pu_L, if_pos ⟨rfl, rfl⟩])
    refine ⟨z, N1, ?_, ?_, z3, z4⟩
    · show D_X5_squaresOfX_b4 (D_X5_squaresOfX_L4 fu) _ _ M = _
      unfold D_X5_squaresOfX_b4
      rw [e, if_neg (nI_ge (by omega) (by omega)), pu_gd (by omega) (by decide), pu_gd (by omega) (by decide), pu_nm, pu_cl (by omega), nI_1]
      exact z1
    · show D_X7_peel_b142 (D_X7_peel_L142 gu) _ _ N = _
      unfold D_X7_peel_b142
      rw [if_neg (nI_ge (by omega) (by omega)), pu_gd (by omega) (by decide), pu_gd (by omega) (by decide), pu_cl (by omega), ← g4 i (by omega), g5, nI_1]
      exact z2
theorem pu_peelE {MC MM : ch_Mem} (hR : ch_R MC MM) {n t : Nat} (hn : n ≤ 127) (ht : t ≤ 20) {M N : ch_Mem} (h : pu_K MC MM n t M N) : ∃ (v : Int32) (M1 N1 : ch_Mem), D_X6_peel_b67 M = some (v, M1) ∧ D_X7_peel_b134 (nI n) N = some (v, N1) ∧ ch_R M1 N1 := by
  obtain ⟨k1, k2, k3, k4, k5, k6, k7, k8⟩ := h
  obtain ⟨z, N1, z1, z2, z3, z4⟩ := pu_sqL hn k2 n 0 ch_fu ch_fu 0 (ch_wL N 0 9 0) (by omega) (by unfold ch_fu; omega) (by unfold ch_fu; omega) k5 (by rw [pu_L, if_pos ⟨rfl, rfl⟩])
  have z1' : D_X5_squaresOfX M = some (z, M) := z1
  have z2' : D_X7_peel_b134 (nI n) N = some (N.1 0 6, N1) := z2
  have n1 : N1.1 = N.1 := z3
  obtain ⟨a, b, c, d, e⟩ := hR
  refine ⟨nI t, ch_wL M 5 4 z, N1, ?_, by rw [z2', k7], ?_⟩
  · unfold D_X6_peel_b67
    rw [z1', pu_bd, pu_L1, k6]
  · have q : ∀ k, 6 ≤ k → (k < 31 ∨ 37 < k) → (ch_wL M 5 4 z).1 k = MC.1 k := fun k h1 h2 => by
      rw [pu_L1]
      exact k1 k (by omega) (by omega) (by omega) (by omega) (by omega) (by omega) (by omega)
    have p : ∀ k, k ≠ 0 → k ≠ 4 → k ≠ 5 → N1.1 k = MM.1 k := fun k h1 h2 h3 => by
      rw [n1]
      exact k3 k h1 h2 h3
    have q0 : (ch_wL M 5 4 z).1 0 = MC.1 0 := by
      rw [pu_L1]
      exact k1 0 (by decide) (by decide) (by decide) (by decide) (by decide) (by decide) (by decide)
    refine ⟨Rr_of a (fun k h1 h2 => q k (by omega) (by omega)) (p 1 (by decide) (by decide) (by decide)) (p 2 (by decide) (by decide) (by decide)), Rl_of b (fun k h1 h2 => q k (by omega) (by omega)) (p 8 (by decide) (by decide) (by decide)) (p 9 (by decide) (by decide) (by decide)) (p 10 (by decide) (by decide) (by decide)) (p 11 (by decide) (by decide) (by decide)), ?_, Rn_of d (by rw [q 6 (by decide) (by decide)]) (q 38 (by decide) (by decide)) (q 39 (by decide) (by decide)) (by rw [n1]; exact k4 10 (by decide)) (p 6 (by decide) (by decide) (by decide)) (p 7 (by decide) (by decide) (by decide)), Rd_of e (by rw [q0]) (by rw [q0]) (by rw [n1]; exact k4 3 (by decide)) (by rw [n1]; exact k4 18 (by decide))⟩
    refine ⟨t, ht, by rw [pu_L1]; exact k6, by rw [n1]; exact k7, by rw [z4, pu_L, if_pos ⟨rfl, rfl⟩], fun i hi => ?_⟩
    rw [n1, pu_L1]
    exact k8 i hi
theorem pu_peelL {MC MM : ch_Mem} (hR : ch_R MC MM) {n : Nat} (h0 : 0 < n) (hn : n ≤ 127) : ∀ (c t fu gu : Nat) (M N : ch_Mem), t + c = 20 → c < fu → c < gu → pu_K MC MM n t M N → ∃ (v : Int32) (M1 N1 : ch_Mem), D_X6_peel_L44 fu (nI n) (nI t) M = some (v, M1) ∧ D_X7_peel_L104 gu (nI n) N = some (v, N1) ∧ ch_R M1 N1 := by
  intro c
  induction c with
  | zero =>
    intro t fu gu M N g1 g2 g3 g4
    obtain ⟨fu, rfl⟩ : ∃ q, fu = q + 1 := ⟨fu - 1, by omega⟩
    obtain ⟨gu, rfl⟩ : ∃ q, gu = q + 1 := ⟨gu - 1, by omega⟩
    obtain ⟨v, M1, N1, z1, z2, z3⟩ := pu_peelE hR hn (by omega) g4
    have hge : (20 : Int32) ≤ nI t := nI_le (a := 20) (by omega) (by omega)
    refine ⟨v, M1, N1, ?_, ?_, z3⟩
    · show D_X6_peel_b44 (D_X6_peel_L44 fu) _ _ M = _
      unfold D_X6_peel_b44
      rw [if_pos hge]
      exact z1
    · show D_X7_peel_b104 (D_X7_peel_L104 gu) _ N = _
      unfold D_X7_peel_b104
      rw [g4.2.2.2.2.2.2.1, if_pos hge]
      exact z2
  | succ c ih =>
    intro t fu gu M N g1 g2 g3 g4
    obtain ⟨fu, rfl⟩ : ∃ q, fu = q + 1 := ⟨fu - 1, by omega⟩
    obtain ⟨gu, rfl⟩ : ∃ q, gu = q + 1 := ⟨gu - 1, by omega⟩
    have hlt : ¬ (20 : Int32) ≤ nI t := nI_ge (b := 20) (by omega) (by omega)
    have e6 := g4.2.2.2.2.2.2.1
    rcases pu_one hR.1 h0 hn (by omega) g4 with ⟨q1, q2⟩ | ⟨M2, N2, q1, q2, q3, q4⟩
    · obtain ⟨v, M1, N1, z1, z2, z3⟩ := pu_peelE hR hn (by omega) g4
      refine ⟨v, M1, N1, ?_, ?_, z3⟩
      · show D_X6_peel_b44 (D_X6_peel_L44 fu) _ _ M = _
        unfold D_X6_peel_b44 D_X6_peel_b58
        rw [if_neg hlt, q1, pu_bd, if_pos rfl]
        exact z1
      · show D_X7_peel_b104 (D_X7_peel_L104 gu) _ N = _
        unfold D_X7_peel_b104
        rw [e6, if_neg hlt, q2, pu_bd, if_pos rfl]
        exact z2
    · obtain ⟨v, M1, N1, z1, z2, z3⟩ := ih (t + 1) fu gu M2 _ (by omega) (by omega) (by omega) q4
      refine ⟨v, M1, N1, ?_, ?_, z3⟩
      · show D_X6_peel_b44 (D_X6_peel_L44 fu) _ _ M = _
        unfold D_X6_peel_b44
        rw [if_neg hlt, q1, pu_bd, if_neg pu_10, nI_1]
        exact z1
      · show D_X7_peel_b104 (D_X7_peel_L104 gu) _ N = _
        unfold D_X7_peel_b104
        rw [e6, if_neg hlt, q2, pu_bd, if_neg pu_10, q3, nI_1]
        exact z2
/-- the samples that are left, as the reference lays them -/
theorem pu_leftL {MC MM : ch_Mem} (hl : ch_Rl MC MM) {k n : Nat} (hk : k ≤ 50000) (hn : n ≤ 127) : ∀ (c i gu : Nat) (N : ch_Mem), i + c = n → c < gu → (∀ a, a ≠ 5 → N.1 a = MM.1 a) → ∃ N1, D_X7_peel_L71 gu (nI k) (nI n) (nI i) N = D_X7_peel_b99 (nI n) N1 ∧ (∀ a, a ≠ 5 → N1.1 a = MM.1 a) ∧ (∀ j, i ≤ j → j < n → N1.1 5 j = pu_smp MC 0 (k + j)) ∧ ∀ j, j < i → N1.1 5 j = N.1 5 j := by
  intro c
  induction c with
  | zero =>
    intro i gu N g1 g2 g3
    obtain ⟨gu, rfl⟩ : ∃ q, gu = q + 1 := ⟨gu - 1, by omega⟩
    refine ⟨N, ?_, g3, fun j h5 h6 => by omega, fun j _ => rfl⟩
    show D_X7_peel_b71 (D_X7_peel_L71 gu) _ _ _ N = _
    unfold D_X7_peel_b71
    rw [if_pos (nI_le (by omega) (by omega))]
  | succ c ih =>
    intro i gu N g1 g2 g3
    obtain ⟨gu, rfl⟩ : ∃ q, gu = q + 1 := ⟨gu - 1, by omega⟩
    have hlN : ch_Rl MC N := Rl_of hl (fun _ _ _ => rfl) (g3 8 (by decide)) (g3 9 (by decide)) (g3 10 (by decide)) (g3 11 (by decide))
    have s0 : D_X7_sample 0 (nI (k + i)) N = some (pu_smp MC 0 (k + i), N) := pu_sample hlN (r := 0) (by decide) (by omega)
    obtain ⟨N1, e1, e2, e3, e4⟩ := ih (i + 1) gu (ch_wI N 5 i (pu_smp MC 0 (k + i))) (by omega) (by omega) (fun a ha => by rw [pu_wn ha]; exact g3 a ha)
    refine ⟨N1, ?_, e2, fun j h6 h7 => ?_, fun j h6 => ?_⟩
    · show D_X7_peel_b71 (D_X7_peel_L71 gu) _ _ _ N = _
      unfold D_X7_peel_b71
      rw [if_neg (nI_ge (by omega) (by omega)), nI_add, s0, pu_bd, pu_gd (by omega) (by decide), pu_cl (by omega), nI_1]
      exact e1
    · by_cases hj : j = i
      · subst hj
        rw [e4 j (by omega), pu_ws]
      · exact e3 j (by omega) h7
    · rw [e4 j (by omega), pu_wn2 (by omega)]
theorem pu_anyL {MC MM : ch_Mem} (hR : ch_Rr MC MM) (x1 x2 : Int32) : ∀ (c r fu gu : Nat) (y : Int32), r + c = 8 → c < fu → c < gu → (y = 0 ∨ y = 1) → ∃ v w : Int32, (v = 0 ∨ v = 1) ∧ (y = 0 → w = v) ∧ (y = 1 → w = 1) ∧ D_X6_isSizeOfAnyRow_L2 fu x2 (nI r) MC = some (v, MC) ∧ D_X7_peel_L29 gu x1 x2 y (nI r) MM = D_X7_peel_b61 x1 x2 w MM := by
  intro c
  induction c with
  | zero =>
    intro r fu gu y g1 g2 g3 g4
    obtain ⟨fu, rfl⟩ : ∃ q, fu = q + 1 := ⟨fu - 1, by omega⟩
    obtain ⟨gu, rfl⟩ : ∃ q, gu = q + 1 := ⟨gu - 1, by omega⟩
    have hge : (8 : Int32) ≤ nI r := nI_le (a := 8) (by omega) (by omega)
    refine ⟨0, y, Or.inl rfl, fun h => h, fun h => h, ?_, ?_⟩
    · show D_X6_isSizeOfAnyRow_b2 (D_X6_isSizeOfAnyRow_L2 fu) _ _ MC = _
      unfold D_X6_isSizeOfAnyRow_b2
      rw [if_pos hge]
    · show D_X7_peel_b29 (D_X7_peel_L29 gu) _ _ _ _ MM = _
      unfold D_X7_peel_b29
      rw [if_pos hge]
  | succ c ih =>
    intro r fu gu y g1 g2 g3 g4
    obtain ⟨fu, rfl⟩ : ∃ q, fu = q + 1 := ⟨fu - 1, by omega⟩
    obtain ⟨gu, rfl⟩ : ∃ q, gu = q + 1 := ⟨gu - 1, by omega⟩
    have hlt : ¬ (8 : Int32) ≤ nI r := nI_ge (b := 8) (by omega) (by omega)
    obtain ⟨n1, p1, p2, p3, -⟩ := hR r (by omega)
    by_cases e : nI n1 = x2
    · obtain ⟨v, w, w1, w2, w3, w4, w5⟩ := ih (r + 1) fu gu 1 (by omega) (by omega) (by omega) (Or.inr rfl)
      have ew : w = 1 := w3 rfl
      have ey : y ||| 1 = 1 := by rcases g4 with rfl | rfl <;> decide
      refine ⟨1, 1, Or.inr rfl, fun _ => rfl, fun _ => rfl, ?_, ?_⟩
      · show D_X6_isSizeOfAnyRow_b2 (D_X6_isSizeOfAnyRow_L2 fu) _ _ MC = _
        unfold D_X6_isSizeOfAnyRow_b2
        rw [if_neg hlt, pu_gd (by omega) (by decide), pu_cl (by omega), p2, if_pos e]
      · show D_X7_peel_b29 (D_X7_peel_L29 gu) _ _ _ _ MM = _
        unfold D_X7_peel_b29 D_X7_peel_b53
        rw [if_neg hlt, pu_gd (by omega) (by decide), pu_cl (by omega), p3, if_pos e, ey, nI_1, w5, ew]
    · obtain ⟨v, w, w1, w2, w3, w4, w5⟩ := ih (r + 1) fu gu y (by omega) (by omega) (by omega) g4
      have ey : y ||| 0 = y := by rcases g4 with rfl | rfl <;> decide
      refine ⟨v, w, w1, w2, w3, ?_, ?_⟩
      · show D_X6_isSizeOfAnyRow_b2 (D_X6_isSizeOfAnyRow_L2 fu) _ _ MC = _
        unfold D_X6_isSizeOfAnyRow_b2
        rw [if_neg hlt, pu_gd (by omega) (by decide), pu_cl (by omega), p2, if_neg e, nI_1]
        exact w4
      · show D_X7_peel_b29 (D_X7_peel_L29 gu) _ _ _ _ MM = _
        unfold D_X7_peel_b29 D_X7_peel_b53
        rw [if_neg hlt, pu_gd (by omega) (by decide), pu_cl (by omega), p3, if_neg e, ey, nI_1]
        exact w5
theorem op_peel {MC MM : ch_Mem} (hR : ch_R MC MM) (a1 a2 : Int32) : ∃ (r : Int32) (MC1 MM1 : ch_Mem), D_X6_peel a1 a2 MC = some (r, MC1) ∧ D_X7_peel a1 a2 MM = some (r, MM1) ∧ ch_R MC1 MM1 := by
  unfold D_X6_peel D_X7_peel
  rcases pu_place a1 with ⟨k, -, hk, rfl, h1, h2⟩ | ⟨h1, h2⟩
  · rw [h1, h2]
    simp only [pu_bd, pu_10, ↓reduceIte]
    rcases pu_size a2 with ⟨n, h0, hn, rfl, g1, g2⟩ | ⟨g1, g2⟩
    · rw [g1, g2]
      simp only [pu_bd, pu_10, ↓reduceIte]
      obtain ⟨v, w, w1, w2, -, w4, w5⟩ := pu_anyL hR.1 (nI k) (nI n) 8 0 ch_fu ch_fu 0 (by omega) (by unfold ch_fu; omega) (by unfold ch_fu; omega) (Or.inl rfl)
      have w4' : D_X6_isSizeOfAnyRow (nI n) MC = some (v, MC) := w4
      have w5' : D_X7_peel_L29 ch_fu (nI k) (nI n) 0 0 MM = D_X7_peel_b61 (nI k) (nI n) w MM := w5
      have ew : w = v := w2 rfl
      subst ew
      rw [w4', pu_bd, w5']
      unfold D_X7_peel_b61
      rcases w1 with rfl | rfl
      · rw [if_pos rfl, if_pos rfl]
        exact ⟨_, MC, MM, rfl, rfl, hR⟩
      · rw [if_neg pu_10, if_neg pu_10]
        obtain ⟨M1, e1, e2, e3, e4, e5⟩ := pu_listen hR.2.1 (k := k) (n := n) (by omega) hn
        obtain ⟨N1, f1, f2, f3, -⟩ := pu_leftL hR.2.1 (k := k) (n := n) (by omega) hn n 0 ch_fu MM (by omega) (by unfold ch_fu; omega) (fun a _ => rfl)
        have f1' : D_X7_peel_L71 ch_fu (nI k) (nI n) 0 MM = D_X7_peel_b99 (nI n) N1 := f1
        have K : pu_K MC MM n 0 (ch_wI M1 5 3 0) (ch_wI N1 0 6 0) := by
          refine ⟨fun a q1 q2 q3 q4 _ _ _ => by rw [pu_wn q2, e2 a q1 q3 q4], by rw [pu_wn2 (by omega)]; exact e4, fun a q1 _ q3 => by rw [pu_wn q1, f2 a q3], fun j hj => by rw [pu_wn2 (by omega), f2 0 (by decide)], fun j hj => ?_, pu_ws _ _ _ _, pu_ws _ _ _ _, fun i hi => absurd hi (Nat.not_lt_zero i)⟩
          rw [pu_wn2 (by omega), pu_wn2 (by omega), (e5 j hj).1, f3 j (by omega) hj]
        obtain ⟨v, M2, N2, z1, z2, z3⟩ := pu_peelL hR h0 hn 20 0 ch_fu ch_fu _ _ (by omega) (by unfold ch_fu; omega) (by unfold ch_fu; omega) K
        refine ⟨v, M2, N2, ?_, ?_, z3⟩
        · rw [e1, pu_bd]
          exact z1
        · rw [f1']
          exact z2
    · rw [g1, g2]
      exact ⟨_, MC, MM, rfl, rfl, hR⟩
  · rw [h1, h2]
    exact ⟨_, MC, MM, rfl, rfl, hR⟩
