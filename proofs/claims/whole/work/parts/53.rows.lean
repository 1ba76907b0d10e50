/-- a row is made anew alike -/
theorem R_row {MC MM MC1 MM1 : ch_Mem} (h : ch_R MC MM) {c n : Nat} (hc : c < 8) (hn : n ≤ 127) (hC : ∀ k, k ≠ 7 + c → k ≠ 7 + c + 8 → k ≠ 31 → MC1.1 k = MC.1 k) (hC2 : MC1.2 = MC.2) (hM : ∀ k, k ≠ 1 → k ≠ 2 → k ≠ 3 → MM1.1 k = MM.1 k) (hM2 : MM1.2 = MM.2) (hS : ∀ r, r ≠ c → MM1.1 1 r = MM.1 1 r) (hG : ∀ j, (j < 127 * c ∨ 127 * c + 127 ≤ j) → MM1.1 2 j = MM.1 2 j) (e1 : MC1.1 (7 + c) 1 = nI n) (e2 : MM1.1 1 c = nI n) (e3 : ∀ i, i < n → (MC1.1 (7 + c + 8) i = 1 ∨ MC1.1 (7 + c + 8) i = -1) ∧ MM1.1 2 (127 * c + i) = MC1.1 (7 + c + 8) i) : ch_R MC1 MM1 := by
  obtain ⟨a, b, p, d, e⟩ := h
  refine ⟨?_, Rl_of b (fun k h1 h2 => hC k (by omega) (by omega) (by omega)) (hM 8 (by decide) (by decide) (by decide)) (hM 9 (by decide) (by decide) (by decide)) (hM 10 (by decide) (by decide) (by decide)) (hM 11 (by decide) (by decide) (by decide)), Rp_of p (by rw [hC 5 (by omega) (by omega) (by decide)]) (by rw [hC2]) (hC 35 (by omega) (by omega) (by decide)) (hC 36 (by omega) (by omega) (by decide)) (hC 37 (by omega) (by omega) (by decide)) (by rw [hM 0 (by decide) (by decide) (by decide)]) (by rw [hM2]) (hM 4 (by decide) (by decide) (by decide)), Rn_of d (by rw [hC 6 (by omega) (by omega) (by decide)]) (hC 38 (by omega) (by omega) (by decide)) (hC 39 (by omega) (by omega) (by decide)) (by rw [hM 0 (by decide) (by decide) (by decide)]) (hM 6 (by decide) (by decide) (by decide)) (hM 7 (by decide) (by decide) (by decide)), Rd_of e (by rw [hC 0 (by omega) (by omega) (by decide)]) (by rw [hC 0 (by omega) (by omega) (by decide)]) (by rw [hM 0 (by decide) (by decide) (by decide)]) (by rw [hM 0 (by decide) (by decide) (by decide)])⟩
  intro r hr
  by_cases hrc : r = c
  · subst hrc
    exact ⟨n, hn, e1, e2, e3⟩
  · obtain ⟨n1, f1, f2, f3, f4⟩ := a r hr
    refine ⟨n1, f1, by rw [hC _ (by omega) (by omega) (by omega)]; exact f2, by rw [hS r hrc]; exact f3, fun i hi => ?_⟩
    rw [hC _ (by omega) (by omega) (by omega), hG _ (by omega)]
    exact f4 i hi
theorem pu_keepsL {c n : Nat} (hc : c < 8) (hn : n ≤ 127) : ∀ (k i fu : Nat) (M : ch_Mem), i + k = n → k < fu → ∃ M1, D_X7_keeps_L9 fu (nI c) (nI n) (nI i) M = some ((), M1) ∧ (∀ a, a ≠ 2 → M1.1 a = M.1 a) ∧ M1.2 = M.2 ∧ (∀ j, i ≤ j → j < n → M1.1 2 (127 * c + j) = M.1 3 j) ∧ ∀ j, (j < 127 * c + i ∨ 127 * c + n ≤ j) → M1.1 2 j = M.1 2 j := by
  intro k
  induction k with
  | zero =>
    intro i fu M h1 h3
    obtain ⟨fu, rfl⟩ : ∃ f, fu = f + 1 := ⟨fu - 1, by omega⟩
    refine ⟨M, ?_, fun a _ => rfl, rfl, fun j h5 h6 => by omega, fun j _ => rfl⟩
    show D_X7_keeps_b9 (D_X7_keeps_L9 fu) _ _ _ M = _
    unfold D_X7_keeps_b9
    rw [if_pos (nI_le (by omega) (by omega))]
  | succ k ih =>
    intro i fu M h1 h3
    obtain ⟨fu, rfl⟩ : ∃ f, fu = f + 1 := ⟨fu - 1, by omega⟩
    obtain ⟨M1, e1, e2, e3, e4, e5⟩ := ih (i + 1) fu (ch_wI M 2 (127 * c + i) (M.1 3 i)) (by omega) (by omega)
    refine ⟨M1, ?_, fun a ha => by rw [e2 a ha, pu_wn ha], e3, fun j h6 h7 => ?_, fun j h6 => by rw [e5 j (by omega), pu_wn2 (by omega)]⟩
    · show D_X7_keeps_b9 (D_X7_keeps_L9 fu) _ _ _ M = _
      unfold D_X7_keeps_b9
      rw [if_neg (nI_ge (by omega) (by omega)), pu_gd (by omega) (by decide), pu_127, pu_gd (by omega) (by decide), nI_1, pu_cl (by omega), pu_cl (by omega)]
      exact e1
    · by_cases hj : j = i
      · subst hj
        rw [e5 _ (by omega), pu_ws]
      · rw [e4 j (by omega) h7, pu_wn (by decide)]
theorem pu_keeps {c n : Nat} (hc : c < 8) (hn : n ≤ 127) (M : ch_Mem) : ∃ M1, D_X7_keeps (nI c) (nI n) M = some ((), M1) ∧ (∀ a, a ≠ 1 → a ≠ 2 → M1.1 a = M.1 a) ∧ M1.2 = M.2 ∧ M1.1 1 c = nI n ∧ (∀ r, r ≠ c → M1.1 1 r = M.1 1 r) ∧ (∀ j, j < n → M1.1 2 (127 * c + j) = M.1 3 j) ∧ ∀ j, (j < 127 * c ∨ 127 * c + 127 ≤ j) → M1.1 2 j = M.1 2 j := by
  obtain ⟨M1, e1, e2, e3, e4, e5⟩ := pu_keepsL hc hn n 0 ch_fu (ch_wI M 1 c (nI n)) (by omega) (by unfold ch_fu; omega)
  refine ⟨M1, ?_, fun a h1 h2 => by rw [e2 a h2, pu_wn h1], e3, by rw [e2 1 (by decide), pu_ws], fun r hr => by rw [e2 1 (by decide), pu_wn2 (by omega)], fun j hj => by rw [e4 j (by omega) hj, pu_wn (by decide)], fun j hj => by rw [e5 j (by omega), pu_wn (by decide)]⟩
  unfold D_X7_keeps
  rw [pu_gd hc (by decide), pu_cl (by omega)]
  exact e1
theorem pu_fillL {c v n : Nat} (hc : c < 8) (hn : n ≤ 127) (hv : n ≤ ch_len v) (hv2 : ch_len v ≤ 1000) (hv3 : v ≠ 7 + c) (hv4 : v ≠ 7 + c + 8) : ∀ (k i fu : Nat) (M : ch_Mem), i + k = n → k < fu → M.1 (7 + c) 1 = nI n → ∃ M1, D_X3_fillBySignsOf_L17 (7 + c) v fu (nI i) M = some ((), M1) ∧ (∀ a, a ≠ 7 + c + 8 → M1.1 a = M.1 a) ∧ M1.2 = M.2 ∧ (∀ j, i ≤ j → j < n → M1.1 (7 + c + 8) j = if (0 : Int32) ≤ M.1 v j then 1 else -1) ∧ ∀ j, j < i → M1.1 (7 + c + 8) j = M.1 (7 + c + 8) j := by
  intro k
  induction k with
  | zero =>
    intro i fu M h1 h3 h4
    obtain ⟨fu, rfl⟩ : ∃ f, fu = f + 1 := ⟨fu - 1, by omega⟩
    refine ⟨M, ?_, fun a _ => rfl, rfl, fun j h5 h6 => by omega, fun j _ => rfl⟩
    show D_X3_fillBySignsOf_b17 (7 + c) v (D_X3_fillBySignsOf_L17 (7 + c) v fu) _ M = _
    unfold D_X3_fillBySignsOf_b17
    rw [h4, if_pos (nI_le (by omega) (by omega))]
  | succ k ih =>
    intro i fu M h1 h3 h4
    obtain ⟨fu, rfl⟩ : ∃ f, fu = f + 1 := ⟨fu - 1, by omega⟩
    obtain ⟨w, hw⟩ : ∃ w : Int32, w = if (0 : Int32) ≤ M.1 v i then 1 else -1 := ⟨_, rfl⟩
    obtain ⟨M1, e1, e2, e3, e4, e5⟩ := ih (i + 1) fu (ch_wI M (7 + c + 8) i w) (by omega) (by omega) (by rw [pu_wn2 (by omega)]; exact h4)
    refine ⟨M1, ?_, fun a ha => by rw [e2 a ha, pu_wn ha], e3, fun j h6 h7 => ?_, fun j h6 => by rw [e5 j (by omega), pu_wn2 (by omega)]⟩
    · show D_X3_fillBySignsOf_b17 (7 + c) v (D_X3_fillBySignsOf_L17 (7 + c) v fu) _ M = _
      unfold D_X3_fillBySignsOf_b17 D_X3_fillBySignsOf_b41
      rw [h4, if_neg (nI_ge (by omega) (by omega)), pu_gd (by omega) (by omega), pu_cl (by omega), pu_lenS hc, pu_gd (by omega) (by decide), nI_1, pu_gd (by omega) (by decide)]
      by_cases hz : (0 : Int32) ≤ M.1 v i
      · rw [if_pos hz]
        rw [if_pos hz] at hw
        rw [hw] at e1
        exact e1
      · rw [if_neg hz]
        rw [if_neg hz] at hw
        rw [hw] at e1
        exact e1
    · by_cases hj : j = i
      · subst hj
        rw [e5 _ (by omega), pu_ws, hw]
      · rw [e4 j (by omega) h7, pu_wn hv4]
theorem pu_fill {c v n : Nat} (hc : c < 8) (hn : n ≤ 127) (hv : n ≤ ch_len v) (hv2 : ch_len v ≤ 1000) (hv3 : v ≠ 7 + c) (hv4 : v ≠ 7 + c + 8) (M : ch_Mem) : ∃ M1, D_X3_fillBySignsOf (7 + c) v (nI n) M = some ((), M1) ∧ (∀ a, a ≠ 7 + c → a ≠ 7 + c + 8 → M1.1 a = M.1 a) ∧ M1.2 = M.2 ∧ M1.1 (7 + c) 1 = nI n ∧ ∀ j, j < n → M1.1 (7 + c + 8) j = if (0 : Int32) ≤ M.1 v j then 1 else -1 := by
  obtain ⟨M1, e1, e2, e3, e4, e5⟩ := pu_fillL hc hn hv hv2 hv3 hv4 n 0 ch_fu (ch_wI M (7 + c) 1 (nI n)) (by omega) (by unfold ch_fu; omega) (pu_ws _ _ _ _)
  refine ⟨M1, ?_, fun a h1 h2 => by rw [e2 a h2, pu_wn h1], e3, by rw [e2 _ (by omega), pu_ws], fun j hj => by rw [e4 j (by omega) hj, pu_wn hv3]⟩
  unfold D_X3_fillBySignsOf
  have s1 : (if (if (127 : Int32) < nI (ch_len v) then (127 : Int32) else nI (ch_len v)) < nI n then (if (127 : Int32) < nI (ch_len v) then (127 : Int32) else nI (ch_len v)) else nI n) = nI n := by
    rw [if_neg]
    by_cases hl : (127 : Int32) < nI (ch_len v)
    · rw [if_pos hl]
      exact nI_nlt (b := n) (a := 127) hn (by decide)
    · rw [if_neg hl]
      exact nI_nlt hv (by omega)
  rw [s1]
  exact e1
theorem pu_loadL {r q n : Nat} (hr : r < 8) (hq : q < 4) (hn : n ≤ 127) : ∀ (k i fu : Nat) (M : ch_Mem), i + k = n → k < fu → ∃ M1, D_X7_load_L61 fu (nI r) (nI q) (nI n) (nI i) M = ch_bd (D_X7_keeps (nI r) (nI n) M1) (fun _ M2 => some (nI n, M2)) ∧ (∀ a, a ≠ 3 → M1.1 a = M.1 a) ∧ M1.2 = M.2 ∧ (∀ j, i ≤ j → j < n → M1.1 3 j = if (0 : Int32) ≤ M.1 11 (300 * q + j) then 1 else -1) ∧ ∀ j, j < i → M1.1 3 j = M.1 3 j := by
  intro k
  induction k with
  | zero =>
    intro i fu M h1 h3
    obtain ⟨fu, rfl⟩ : ∃ f, fu = f + 1 := ⟨fu - 1, by omega⟩
    refine ⟨M, ?_, fun a _ => rfl, rfl, fun j h5 h6 => by omega, fun j _ => rfl⟩
    show D_X7_load_b61 (D_X7_load_L61 fu) _ _ _ _ M = _
    unfold D_X7_load_b61 D_X7_load_b101
    rw [if_pos (nI_le (by omega) (by omega))]
  | succ k ih =>
    intro i fu M h1 h3
    obtain ⟨fu, rfl⟩ : ∃ f, fu = f + 1 := ⟨fu - 1, by omega⟩
    obtain ⟨w, hw⟩ : ∃ w : Int32, w = if (0 : Int32) ≤ M.1 11 (300 * q + i) then 1 else -1 := ⟨_, rfl⟩
    obtain ⟨M1, e1, e2, e3, e4, e5⟩ := ih (i + 1) fu (ch_wI M 3 i w) (by omega) (by omega)
    refine ⟨M1, ?_, fun a ha => by rw [e2 a ha, pu_wn ha], e3, fun j h6 h7 => ?_, fun j h6 => by rw [e5 j (by omega), pu_wn2 (by omega)]⟩
    · show D_X7_load_b61 (D_X7_load_L61 fu) _ _ _ _ M = _
      unfold D_X7_load_b61 D_X7_load_b94
      rw [if_neg (nI_ge (by omega) (by omega)), pu_300, pu_gd (by omega) (by decide), pu_cl (by omega), pu_gd (by omega) (by decide), pu_gd (by omega) (by decide), nI_1, pu_cl (by omega)]
      by_cases hz : (0 : Int32) ≤ M.1 11 (300 * q + i)
      · rw [if_pos hz]
        rw [if_pos hz] at hw
        rw [hw] at e1
        exact e1
      · rw [if_neg hz]
        rw [if_neg hz] at hw
        rw [hw] at e1
        exact e1
    · by_cases hj : j = i
      · subst hj
        rw [e5 _ (by omega), pu_ws, hw]
      · rw [e4 j (by omega) h7, pu_wn (by decide)]
theorem pu_sg (x : Int32) : (if (0 : Int32) ≤ x then (1 : Int32) else -1) = 1 ∨ (if (0 : Int32) ≤ x then (1 : Int32) else -1) = -1 := by
  by_cases h : (0 : Int32) ≤ x
  · rw [if_pos h]; exact Or.inl rfl
  · rw [if_neg h]; exact Or.inr rfl
theorem op_load {MC MM : ch_Mem} (hR : ch_R MC MM) (a1 a2 a3 : Int32) : ∃ (r : Int32) (MC1 MM1 : ch_Mem), D_X6_load a1 a2 a3 MC = some (r, MC1) ∧ D_X7_load a1 a2 a3 MM = some (r, MM1) ∧ ch_R MC1 MM1 := by
  unfold D_X6_load D_X7_load
  rcases pu_row a1 with ⟨r, -, hr, rfl, h1, h2⟩ | ⟨h1, h2⟩
  · rw [h1, h2]
    simp only [pu_bd, pu_10, ↓reduceIte]
    rcases pu_reel a2 with ⟨q, -, hq, rfl, g1, g2⟩ | ⟨g1, g2⟩
    · rw [g1, g2]
      simp only [pu_bd, pu_10, ↓reduceIte]
      rcases pu_size a3 with ⟨n, hn0, hn, rfl, k1, k2⟩ | ⟨k1, k2⟩
      · rw [k1, k2]
        simp only [pu_bd, pu_10, ↓reduceIte, pu_gd (show r < 8 by omega) (show 8 ≤ 100000 by decide), pu_gd (show q < 4 by omega) (show 4 ≤ 100000 by decide), pu_cl (show r ≤ 100000 by omega), pu_cl (show q ≤ 100000 by omega)]
        obtain ⟨sz, f, b1, b2, b3, b4, b5, b6, b7, b8⟩ := hR.2.1 q (by omega)
        rw [b3, b4]
        rcases b7 with ⟨c1, c2⟩ | ⟨c1, c2⟩
        · rw [c1, c2, if_pos rfl, if_neg pu_10]
          by_cases hs : n ≤ sz
          · rw [if_pos (nI_le hs (by omega)), if_pos (nI_le hs (by omega))]
            have hlen : ch_len (23 + q + 4) = 300 := by unfold ch_len; rw [if_neg (by omega), if_pos (by omega)]
            obtain ⟨M1, e1, e2, e3, e4, e5⟩ := pu_fill (c := r) (v := 23 + q + 4) (n := n) (by omega) hn (by rw [hlen]; omega) (by rw [hlen]; decide) (by omega) (by omega) MC
            obtain ⟨N1, f1, f2, f3, f4, f5⟩ := pu_loadL (r := r) (q := q) (n := n) (by omega) (by omega) hn n 0 ch_fu MM (by omega) (by unfold ch_fu; omega)
            obtain ⟨N2, g1, g2, g3, g4, g5, g6, g7⟩ := pu_keeps (c := r) (n := n) (by omega) hn N1
            have f1' : D_X7_load_L61 ch_fu (nI r) (nI q) (nI n) 0 MM = ch_bd (D_X7_keeps (nI r) (nI n) N1) (fun _ M2 => some (nI n, M2)) := f1
            rw [e1, f1', g1, pu_bd, pu_bd]
            refine ⟨_, M1, N2, rfl, rfl, R_row hR (c := r) (n := n) (by omega) hn (fun k h1 h2 _ => e2 k h1 h2) e3 (fun k h1 h2 h3 => by rw [g2 k h1 h2, f2 k h3]) (by rw [g3, f3]) (fun r1 h1 => by rw [g5 r1 h1, f2 1 (by decide)]) (fun j hj => by rw [g7 j hj, f2 2 (by decide)]) e4 g4 (fun i hi => ⟨?_, ?_⟩)⟩
            · rw [e5 i hi]; exact pu_sg _
            · rw [e5 i hi, g6 i hi, f4 i (by omega) hi, b8 i (by omega)]
          · rw [if_neg (nI_ge (by omega) (by omega)), if_neg (nI_ge (by omega) (by omega))]
            exact ⟨_, _, _, rfl, rfl, R_found hR 2⟩
        · rw [c1, c2, if_neg pu_10, if_pos rfl]
          exact ⟨_, _, _, rfl, rfl, R_found hR 1⟩
      · rw [k1, k2]
        exact ⟨_, MC, MM, rfl, rfl, hR⟩
    · rw [g1, g2]
      exact ⟨_, MC, MM, rfl, rfl, hR⟩
  · rw [h1, h2]
    exact ⟨_, MC, MM, rfl, rfl, hR⟩
theorem pu_joinC {a b d c n : Nat} (ha : a < 8) (hb : b < 8) (hc : c < 8) (hd : d ≤ 126) (h0 : 0 < n) (hn : n ≤ 127) : ∀ (k i fu : Nat) (M : ch_Mem), i + k = n → k < fu → M.1 (7 + a) 1 = nI n → M.1 (7 + b) 1 = nI n → ∃ M1, D_X6_join_L58 fu (nI a) (nI b) (nI d) (nI c) (nI n) (nI i) M = ch_bd (D_X3_fillBySignsOf (7 + c) 31 (nI n) M1) (fun _ M2 => some (nI n, M2)) ∧ (∀ z, z ≠ 31 → M1.1 z = M.1 z) ∧ M1.2 = M.2 ∧ (∀ j, i ≤ j → j < n → M1.1 31 j = M.1 (7 + a + 8) j * M.1 (7 + b + 8) ((j + d) % n)) ∧ ∀ j, j < i → M1.1 31 j = M.1 31 j := by
  intro k
  induction k with
  | zero =>
    intro i fu M h1 h3 h4 h5
    obtain ⟨fu, rfl⟩ : ∃ f, fu = f + 1 := ⟨fu - 1, by omega⟩
    refine ⟨M, ?_, fun a _ => rfl, rfl, fun j h5 h6 => by omega, fun j _ => rfl⟩
    show D_X6_join_b58 (D_X6_join_L58 fu) _ _ _ _ _ _ M = _
    unfold D_X6_join_b58 D_X6_join_b106
    rw [if_pos (nI_le (by omega) (by omega)), pu_gd hc (by decide), pu_cl (by omega)]
  | succ k ih =>
    intro i fu M h1 h3 h4 h5
    obtain ⟨fu, rfl⟩ : ∃ f, fu = f + 1 := ⟨fu - 1, by omega⟩
    obtain ⟨M1, e1, e2, e3, e4, e5⟩ := ih (i + 1) fu (ch_wI M 31 i (M.1 (7 + a + 8) i * M.1 (7 + b + 8) ((i + d) % n))) (by omega) (by omega) (by rw [pu_wn2 (by omega)]; exact h4) (by rw [pu_wn2 (by omega)]; exact h5)
    refine ⟨M1, ?_, fun a ha => by rw [e2 a ha, pu_wn ha], e3, fun j h6 h7 => ?_, fun j h6 => by rw [e5 j (by omega), pu_wn2 (by omega)]⟩
    · show D_X6_join_b58 (D_X6_join_L58 fu) _ _ _ _ _ _ M = _
      unfold D_X6_join_b58
      rw [if_neg (nI_ge (by omega) (by omega)), pu_gd ha (by decide), pu_cl (by omega), pu_signAt h4 h0 hn (by omega), pu_bd, pu_gd hb (by decide), pu_cl (by omega), nI_add, pu_signAt h5 h0 hn (by omega), pu_bd, pu_gd (by omega) (by decide), pu_cl (by omega), nI_1, Nat.mod_eq_of_lt (show i < n by omega)]
      exact e1
    · by_cases hj : j = i
      · subst hj
        rw [e5 _ (by omega), pu_ws]
      · rw [e4 j (by omega) h7, pu_wn (by omega), pu_wn (by omega)]
theorem pu_joinM {a b d c n : Nat} (ha : a < 8) (hb : b < 8) (hd : d ≤ 126) (h0 : 0 < n) (hn : n ≤ 127) : ∀ (k i fu : Nat) (M : ch_Mem), i + k = n → k < fu → M.1 1 a = nI n → M.1 1 b = nI n → ∃ M1, D_X7_join_L55 fu (nI a) (nI b) (nI d) (nI c) (nI n) (nI i) M = ch_bd (D_X7_keeps (nI c) (nI n) M1) (fun _ M2 => some (nI n, M2)) ∧ (∀ z, z ≠ 3 → M1.1 z = M.1 z) ∧ M1.2 = M.2 ∧ (∀ j, i ≤ j → j < n → M1.1 3 j = M.1 2 (127 * a + j) * M.1 2 (127 * b + (j + d) % n)) ∧ ∀ j, j < i → M1.1 3 j = M.1 3 j := by
  intro k
  induction k with
  | zero =>
    intro i fu M h1 h3 h4 h5
    obtain ⟨fu, rfl⟩ : ∃ f, fu = f + 1 := ⟨fu - 1, by omega⟩
    refine ⟨M, ?_, fun a _ => rfl, rfl, fun j h5 h6 => by omega, fun j _ => rfl⟩
    show D_X7_join_b55 (D_X7_join_L55 fu) _ _ _ _ _ _ M = _
    unfold D_X7_join_b55 D_X7_join_b92
    rw [if_pos (nI_le (by omega) (by omega))]
  | succ k ih =>
    intro i fu M h1 h3 h4 h5
    obtain ⟨fu, rfl⟩ : ∃ f, fu = f + 1 := ⟨fu - 1, by omega⟩
    obtain ⟨M1, e1, e2, e3, e4, e5⟩ := ih (i + 1) fu (ch_wI M 3 i (M.1 2 (127 * a + i) * M.1 2 (127 * b + (i + d) % n))) (by omega) (by omega) (by rw [pu_wn2 (by omega)]; exact h4) (by rw [pu_wn2 (by omega)]; exact h5)
    refine ⟨M1, ?_, fun a ha => by rw [e2 a ha, pu_wn ha], e3, fun j h6 h7 => ?_, fun j h6 => by rw [e5 j (by omega), pu_wn2 (by omega)]⟩
    · show D_X7_join_b55 (D_X7_join_L55 fu) _ _ _ _ _ _ M = _
      unfold D_X7_join_b55
      rw [if_neg (nI_ge (by omega) (by omega)), pu_signOf h4 ha h0 hn (by omega), pu_bd, nI_add, pu_signOf h5 hb h0 hn (by omega), pu_bd, pu_gd (by omega) (by decide), pu_cl (by omega), nI_1, Nat.mod_eq_of_lt (show i < n by omega)]
      exact e1
    · by_cases hj : j = i
      · subst hj
        rw [e5 _ (by omega), pu_ws]
      · rw [e4 j (by omega) h7, pu_wn (by decide)]
theorem pu_pm {x y : Int32} (hx : x = 1 ∨ x = -1) (hy : y = 1 ∨ y = -1) : (if (0 : Int32) ≤ x * y then (1 : Int32) else -1) = x * y ∧ (x * y = 1 ∨ x * y = -1) := by
  rcases hx with rfl | rfl <;> rcases hy with rfl | rfl <;> decide
theorem op_join {MC MM : ch_Mem} (hR : ch_R MC MM) (a1 a2 a3 a4 : Int32) : ∃ (r : Int32) (MC1 MM1 : ch_Mem), D_X6_join a1 a2 a3 a4 MC = some (r, MC1) ∧ D_X7_join a1 a2 a3 a4 MM = some (r, MM1) ∧ ch_R MC1 MM1 := by
  unfold D_X6_join D_X7_join
  rcases pu_row a1 with ⟨a, -, ha, rfl, h1, h2⟩ | ⟨h1, h2⟩
  · rw [h1, h2]
    simp only [pu_bd, pu_10, ↓reduceIte]
    rcases pu_row a2 with ⟨b, -, hb, rfl, g1, g2⟩ | ⟨g1, g2⟩
    · rw [g1, g2]
      simp only [pu_bd, pu_10, ↓reduceIte]
      rcases pu_shift a3 with ⟨d, -, hd, rfl, k1, k2⟩ | ⟨k1, k2⟩
      · rw [k1, k2]
        simp only [pu_bd, pu_10, ↓reduceIte]
        rcases pu_row a4 with ⟨c, -, hc, rfl, j1, j2⟩ | ⟨j1, j2⟩
        · rw [j1, j2]
          simp only [pu_bd, pu_10, ↓reduceIte]
          rcases pu_pair hR.1 (show a < 8 by omega) (show b < 8 by omega) with ⟨n, hn0, hn, p1, p2, p3, p4, p5, p6⟩ | ⟨p5, p6⟩
          · rw [p5, p6]
            simp only [pu_bd, pu_10, ↓reduceIte, pu_gd (show a < 8 by omega) (show 8 ≤ 100000 by decide), pu_cl (show a ≤ 100000 by omega), p1, p3]
            obtain ⟨M1, e1, e2, e3, e4, e5⟩ := pu_joinC (a := a) (b := b) (d := d) (c := c) (by omega) (by omega) (by omega) hd hn0 hn n 0 ch_fu MC (by omega) (by unfold ch_fu; omega) p1 p2
            obtain ⟨N1, f1, f2, f3, f4, f5⟩ := pu_joinM (a := a) (b := b) (d := d) (c := c) (by omega) (by omega) hd hn0 hn n 0 ch_fu MM (by omega) (by unfold ch_fu; omega) p3 p4
            obtain ⟨M2, q1, q2, q3, q4, q5⟩ := pu_fill (c := c) (v := 31) (n := n) (by omega) hn (by show n ≤ 127; exact hn) (by decide) (by omega) (by omega) M1
            obtain ⟨N2, g1, g2, g3, g4, g5, g6, g7⟩ := pu_keeps (c := c) (n := n) (by omega) hn N1
            have e1' : D_X6_join_L58 ch_fu (nI a) (nI b) (nI d) (nI c) (nI n) 0 MC = ch_bd (D_X3_fillBySignsOf (7 + c) 31 (nI n) M1) (fun _ M2 => some (nI n, M2)) := e1
            have f1' : D_X7_join_L55 ch_fu (nI a) (nI b) (nI d) (nI c) (nI n) 0 MM = ch_bd (D_X7_keeps (nI c) (nI n) N1) (fun _ M2 => some (nI n, M2)) := f1
            rw [e1', f1', q1, g1, pu_bd, pu_bd]
            refine ⟨_, M2, N2, rfl, rfl, R_row hR (c := c) (n := n) (by omega) hn (fun k h1 h2 h3 => by rw [q2 k h1 h2, e2 k h3]) (by rw [q3, e3]) (fun k h1 h2 h3 => by rw [g2 k h1 h2, f2 k h3]) (by rw [g3, f3]) (fun r1 h1 => by rw [g5 r1 h1, f2 1 (by decide)]) (fun j hj => by rw [g7 j hj, f2 2 (by decide)]) q4 g4 (fun i hi => ?_)⟩
            obtain ⟨na, s1, s2, s3, s4⟩ := hR.1 a (by omega)
            obtain ⟨nb, t1, t2, t3, t4⟩ := hR.1 b (by omega)
            obtain rfl : na = n := (nI_eq (by omega) (by omega)).mp (s2.symm.trans p1)
            obtain rfl : nb = na := (nI_eq (by omega) (by omega)).mp (t2.symm.trans p2)
            have hm : (i + d) % nb < nb := Nat.mod_lt _ hn0
            obtain ⟨u1, u2⟩ := pu_pm (s4 i hi).1 (t4 _ hm).1
            rw [q5 i hi, e4 i (by omega) hi, u1, g6 i hi, f4 i (by omega) hi, (s4 i hi).2, (t4 _ hm).2]
            exact ⟨u2, rfl⟩
          · rw [p5, p6]
            exact ⟨_, MC, MM, rfl, rfl, hR⟩
        · rw [j1, j2]
          exact ⟨_, MC, MM, rfl, rfl, hR⟩
      · rw [k1, k2]
        exact ⟨_, MC, MM, rfl, rfl, hR⟩
    · rw [g1, g2]
      exact ⟨_, MC, MM, rfl, rfl, hR⟩
  · rw [h1, h2]
    exact ⟨_, MC, MM, rfl, rfl, hR⟩
