theorem pu_lt (a b : Int32) : a < b ↔ a.toInt < b.toInt := Int32.lt_iff_toInt_lt
theorem pu_le (a b : Int32) : a ≤ b ↔ a.toInt ≤ b.toInt := Int32.le_iff_toInt_le
theorem pu_bd {α β : Type} (r : α) (M : ch_Mem) (f : α → ch_Mem → Option β) : ch_bd (some (r, M)) f = f r M := rfl
theorem pu_nm {α β : Type} (e : α) (f : α → Option β) : ch_nm e f = f e := rfl
theorem pu_10 : ¬ ((1 : Int32) = 0) := by decide
theorem pu_gd {β : Type} {r n : Nat} (h : r < n) (hn : n ≤ 100000) (x : Option β) : ch_gd (nI r) n x = x := by
  unfold ch_gd
  rw [if_neg]
  intro q
  rcases q with q | q
  · exact absurd q (nI_pos (by omega))
  · rw [nI_clamp (by omega)] at q; omega
theorem pu_gd' {β : Type} {i : Int32} {r n : Nat} (e : i = nI r) (h : r < n) (hn : n ≤ 100000) (x : Option β) : ch_gd i n x = x := by
  subst e; exact pu_gd h hn x
theorem pu_cl {n : Nat} (h : n ≤ 100000) : (nI n).toNatClampNeg = n := nI_clamp (by omega)
theorem pu_w (M : ch_Mem) (k j : Nat) (v : Int32) (a b : Nat) : (ch_wI M k j v).1 a b = if a = k ∧ b = j then v else M.1 a b := by
  by_cases ha : a = k
  · subst ha
    by_cases hb : b = j
    · subst hb; simp [ch_wI, upd]
    · simp [ch_wI, upd, hb]
  · simp [ch_wI, ha]
theorem pu_wn {M : ch_Mem} {k j : Nat} {v : Int32} {a : Nat} (h : a ≠ k) : (ch_wI M k j v).1 a = M.1 a := by simp [ch_wI, h]
theorem pu_wn2 {M : ch_Mem} {k j : Nat} {v : Int32} {a b : Nat} (h : a ≠ k ∨ b ≠ j) : (ch_wI M k j v).1 a b = M.1 a b := by
  rw [pu_w, if_neg]; intro q; rcases h with h | h
  · exact h q.1
  · exact h q.2
theorem pu_ws (M : ch_Mem) (k j : Nat) (v : Int32) : (ch_wI M k j v).1 k j = v := by rw [pu_w, if_pos ⟨rfl, rfl⟩]
theorem pu_w2 (M : ch_Mem) (k j : Nat) (v : Int32) : (ch_wI M k j v).2 = M.2 := rfl
theorem pu_L (M : ch_Mem) (k j : Nat) (v : Int64) (a b : Nat) : (ch_wL M k j v).2 a b = if a = k ∧ b = j then v else M.2 a b := by
  by_cases ha : a = k
  · subst ha
    by_cases hb : b = j
    · subst hb; simp [ch_wL, vp_updL]
    · simp [ch_wL, vp_updL, hb]
  · simp [ch_wL, ha]
theorem pu_L1 (M : ch_Mem) (k j : Nat) (v : Int64) : (ch_wL M k j v).1 = M.1 := rfl
theorem pu_A (M : ch_Mem) (k : Nat) (f : Nat → Int32) (a : Nat) : (ch_wA M k f).1 a = if a = k then f else M.1 a := rfl
theorem pu_A2 (M : ch_Mem) (k : Nat) (f : Nat → Int32) : (ch_wA M k f).2 = M.2 := rfl
theorem pu_fix {τ : Type} (b : τ) (Φ : τ → τ) (n : Nat) : ch_fix b Φ (n + 1) = Φ (ch_fix b Φ n) := rfl
theorem pu_of (x : Int32) (h : 0 ≤ x.toInt) : x = nI x.toInt.toNat := by
  have h2 : x.toInt < 2 ^ 31 := x.toInt_lt
  apply Int32.toInt_inj.mp
  rw [nI_toInt (by omega)]
  omega

theorem pu_row (x : Int32) : (∃ r : Nat, 0 ≤ r ∧ r ≤ 7 ∧ x = nI r ∧ (∀ M, D_X6_isRow x M = some (1, M)) ∧ ∀ M, D_X7_isRow x M = some (1, M)) ∨ ((∀ M, D_X6_isRow x M = some (0, M)) ∧ ∀ M, D_X7_isRow x M = some (0, M)) := by
  have t0 : (0 : Int32).toInt = 0 := by decide
  have t7 : (7 : Int32).toInt = 7 := by decide
  have t8 : (8 : Int32).toInt = 8 := by decide
  by_cases h : 0 ≤ x.toInt ∧ x.toInt ≤ 7
  · left
    have e : x = nI x.toInt.toNat := pu_of x (by omega)
    refine ⟨x.toInt.toNat, by omega, by omega, e, fun M => ?_, fun M => ?_⟩
    · unfold D_X6_isRow
      rw [if_neg (by rw [pu_lt]; omega), if_neg (by rw [pu_le]; omega)]
    · simp only [D_X7_isRow, D_X7_in]
      rw [if_neg (by rw [pu_lt]; omega), if_neg (by rw [pu_lt]; omega)]
      try rfl
  · right
    refine ⟨fun M => ?_, fun M => ?_⟩
    · unfold D_X6_isRow
      by_cases h0 : x.toInt < 0
      · rw [if_pos (by rw [pu_lt]; omega)]
      · rw [if_neg (by rw [pu_lt]; omega), if_pos (by rw [pu_le]; omega)]
    · simp only [D_X7_isRow, D_X7_in]
      by_cases h0 : x.toInt < 0
      · rw [if_pos (by rw [pu_lt]; omega)]
        try rfl
      · rw [if_neg (by rw [pu_lt]; omega), if_pos (by rw [pu_lt]; omega)]
        try rfl
theorem pu_reel (x : Int32) : (∃ r : Nat, 0 ≤ r ∧ r ≤ 3 ∧ x = nI r ∧ (∀ M, D_X6_isReel x M = some (1, M)) ∧ ∀ M, D_X7_isReel x M = some (1, M)) ∨ ((∀ M, D_X6_isReel x M = some (0, M)) ∧ ∀ M, D_X7_isReel x M = some (0, M)) := by
  have t0 : (0 : Int32).toInt = 0 := by decide
  have t3 : (3 : Int32).toInt = 3 := by decide
  have t4 : (4 : Int32).toInt = 4 := by decide
  by_cases h : 0 ≤ x.toInt ∧ x.toInt ≤ 3
  · left
    have e : x = nI x.toInt.toNat := pu_of x (by omega)
    refine ⟨x.toInt.toNat, by omega, by omega, e, fun M => ?_, fun M => ?_⟩
    · unfold D_X6_isReel
      rw [if_neg (by rw [pu_lt]; omega), if_neg (by rw [pu_le]; omega)]
    · simp only [D_X7_isReel, D_X7_in]
      rw [if_neg (by rw [pu_lt]; omega), if_neg (by rw [pu_lt]; omega)]
      try rfl
  · right
    refine ⟨fun M => ?_, fun M => ?_⟩
    · unfold D_X6_isReel
      by_cases h0 : x.toInt < 0
      · rw [if_pos (by rw [pu_lt]; omega)]
      · rw [if_neg (by rw [pu_lt]; omega), if_pos (by rw [pu_le]; omega)]
    · simp only [D_X7_isReel, D_X7_in]
      by_cases h0 : x.toInt < 0
      · rw [if_pos (by rw [pu_lt]; omega)]
        try rfl
      · rw [if_neg (by rw [pu_lt]; omega), if_pos (by rw [pu_lt]; omega)]
        try rfl
theorem pu_shift (x : Int32) : (∃ r : Nat, 0 ≤ r ∧ r ≤ 126 ∧ x = nI r ∧ (∀ M, D_X6_isShift x M = some (1, M)) ∧ ∀ M, D_X7_isShift x M = some (1, M)) ∨ ((∀ M, D_X6_isShift x M = some (0, M)) ∧ ∀ M, D_X7_isShift x M = some (0, M)) := by
  have t0 : (0 : Int32).toInt = 0 := by decide
  have t126 : (126 : Int32).toInt = 126 := by decide
  have t127 : (127 : Int32).toInt = 127 := by decide
  by_cases h : 0 ≤ x.toInt ∧ x.toInt ≤ 126
  · left
    have e : x = nI x.toInt.toNat := pu_of x (by omega)
    refine ⟨x.toInt.toNat, by omega, by omega, e, fun M => ?_, fun M => ?_⟩
    · unfold D_X6_isShift
      rw [if_neg (by rw [pu_lt]; omega), if_neg (by rw [pu_le]; omega)]
    · simp only [D_X7_isShift, D_X7_in]
      rw [if_neg (by rw [pu_lt]; omega), if_neg (by rw [pu_lt]; omega)]
      try rfl
  · right
    refine ⟨fun M => ?_, fun M => ?_⟩
    · unfold D_X6_isShift
      by_cases h0 : x.toInt < 0
      · rw [if_pos (by rw [pu_lt]; omega)]
      · rw [if_neg (by rw [pu_lt]; omega), if_pos (by rw [pu_le]; omega)]
    · simp only [D_X7_isShift, D_X7_in]
      by_cases h0 : x.toInt < 0
      · rw [if_pos (by rw [pu_lt]; omega)]
        try rfl
      · rw [if_neg (by rw [pu_lt]; omega), if_pos (by rw [pu_lt]; omega)]
        try rfl
theorem pu_form (x : Int32) : (∃ r : Nat, 0 ≤ r ∧ r ≤ 2 ∧ x = nI r ∧ (∀ M, D_X6_isForm x M = some (1, M)) ∧ ∀ M, D_X7_in x 0 2 M = some (1, M)) ∨ ((∀ M, D_X6_isForm x M = some (0, M)) ∧ ∀ M, D_X7_in x 0 2 M = some (0, M)) := by
  have t0 : (0 : Int32).toInt = 0 := by decide
  have t2 : (2 : Int32).toInt = 2 := by decide
  have t3 : (3 : Int32).toInt = 3 := by decide
  by_cases h : 0 ≤ x.toInt ∧ x.toInt ≤ 2
  · left
    have e : x = nI x.toInt.toNat := pu_of x (by omega)
    refine ⟨x.toInt.toNat, by omega, by omega, e, fun M => ?_, fun M => ?_⟩
    · unfold D_X6_isForm
      rw [if_neg (by rw [pu_lt]; omega), if_neg (by rw [pu_le]; omega)]
    · simp only [D_X7_in]
      rw [if_neg (by rw [pu_lt]; omega), if_neg (by rw [pu_lt]; omega)]
      try rfl
  · right
    refine ⟨fun M => ?_, fun M => ?_⟩
    · unfold D_X6_isForm
      by_cases h0 : x.toInt < 0
      · rw [if_pos (by rw [pu_lt]; omega)]
      · rw [if_neg (by rw [pu_lt]; omega), if_pos (by rw [pu_le]; omega)]
    · simp only [D_X7_in]
      by_cases h0 : x.toInt < 0
      · rw [if_pos (by rw [pu_lt]; omega)]
        try rfl
      · rw [if_neg (by rw [pu_lt]; omega), if_pos (by rw [pu_lt]; omega)]
        try rfl
theorem pu_size (x : Int32) : (∃ r : Nat, 1 ≤ r ∧ r ≤ 127 ∧ x = nI r ∧ (∀ M, D_X6_isSize x M = some (1, M)) ∧ ∀ M, D_X7_in x 1 127 M = some (1, M)) ∨ ((∀ M, D_X6_isSize x M = some (0, M)) ∧ ∀ M, D_X7_in x 1 127 M = some (0, M)) := by
  have t1 : (1 : Int32).toInt = 1 := by decide
  have t127 : (127 : Int32).toInt = 127 := by decide
  by_cases h : 1 ≤ x.toInt ∧ x.toInt ≤ 127
  · left
    have e : x = nI x.toInt.toNat := pu_of x (by omega)
    refine ⟨x.toInt.toNat, by omega, by omega, e, fun M => ?_, fun M => ?_⟩
    · unfold D_X6_isSize
      rw [if_neg (by rw [pu_lt]; omega), if_neg (by rw [pu_lt]; omega)]
    · simp only [D_X7_in]
      rw [if_neg (by rw [pu_lt]; omega), if_neg (by rw [pu_lt]; omega)]
      try rfl
  · right
    refine ⟨fun M => ?_, fun M => ?_⟩
    · unfold D_X6_isSize
      by_cases h0 : x.toInt < 1
      · rw [if_pos (by rw [pu_lt]; omega)]
      · rw [if_neg (by rw [pu_lt]; omega), if_pos (by rw [pu_lt]; omega)]
    · simp only [D_X7_in]
      by_cases h0 : x.toInt < 1
      · rw [if_pos (by rw [pu_lt]; omega)]
        try rfl
      · rw [if_neg (by rw [pu_lt]; omega), if_pos (by rw [pu_lt]; omega)]
        try rfl
theorem pu_place (x : Int32) : (∃ r : Nat, 0 ≤ r ∧ r ≤ 300 ∧ x = nI r ∧ (∀ M, D_X6_isPlace x M = some (1, M)) ∧ ∀ M, D_X7_in x 0 300 M = some (1, M)) ∨ ((∀ M, D_X6_isPlace x M = some (0, M)) ∧ ∀ M, D_X7_in x 0 300 M = some (0, M)) := by
  have t0 : (0 : Int32).toInt = 0 := by decide
  have t300 : (300 : Int32).toInt = 300 := by decide
  by_cases h : 0 ≤ x.toInt ∧ x.toInt ≤ 300
  · left
    have e : x = nI x.toInt.toNat := pu_of x (by omega)
    refine ⟨x.toInt.toNat, by omega, by omega, e, fun M => ?_, fun M => ?_⟩
    · unfold D_X6_isPlace
      rw [if_neg (by rw [pu_lt]; omega), if_neg (by rw [pu_lt]; omega)]
    · simp only [D_X7_in]
      rw [if_neg (by rw [pu_lt]; omega), if_neg (by rw [pu_lt]; omega)]
      try rfl
  · right
    refine ⟨fun M => ?_, fun M => ?_⟩
    · unfold D_X6_isPlace
      by_cases h0 : x.toInt < 0
      · rw [if_pos (by rw [pu_lt]; omega)]
      · rw [if_neg (by rw [pu_lt]; omega), if_pos (by rw [pu_lt]; omega)]
    · simp only [D_X7_in]
      by_cases h0 : x.toInt < 0
      · rw [if_pos (by rw [pu_lt]; omega)]
        try rfl
      · rw [if_neg (by rw [pu_lt]; omega), if_pos (by rw [pu_lt]; omega)]
        try rfl
theorem Rr_of {MC MM MC1 MM1 : ch_Mem} (h : ch_Rr MC MM) (hC : ∀ k, 7 ≤ k → k < 23 → MC1.1 k = MC.1 k) (h1 : MM1.1 1 = MM.1 1) (h2 : MM1.1 2 = MM.1 2) : ch_Rr MC1 MM1 := by
  intro r hr
  obtain ⟨n, a1, a2, a3, a4⟩ := h r hr
  exact ⟨n, a1, by rw [hC _ (by omega) (by omega)]; exact a2, by rw [h1]; exact a3, fun i hi => by rw [hC _ (by omega) (by omega), h2]; exact a4 i hi⟩
theorem Rl_of {MC MM MC1 MM1 : ch_Mem} (h : ch_Rl MC MM) (hC : ∀ k, 23 ≤ k → k < 31 → MC1.1 k = MC.1 k) (h8 : MM1.1 8 = MM.1 8) (h9 : MM1.1 9 = MM.1 9) (h10 : MM1.1 10 = MM.1 10) (h11 : MM1.1 11 = MM.1 11) : ch_Rl MC1 MM1 := by
  intro r hr
  obtain ⟨n, f, a1, a2, a3, a4, a5, a6, a7, a8⟩ := h r hr
  have e1 := hC (23 + r) (by omega) (by omega)
  have e2 := hC (23 + r + 4) (by omega) (by omega)
  exact ⟨n, f, a1, a2, by rw [e1]; exact a3, by rw [h10]; exact a4, by rw [e1]; exact a5, by rw [h9]; exact a6, by rw [e1, h8]; exact a7, fun i hi => by rw [e2, h11]; exact a8 i hi⟩
theorem Rp_of {MC MM MC1 MM1 : ch_Mem} (h : ch_Rp MC MM) (c5 : MC1.1 5 3 = MC.1 5 3) (cL : MC1.2 5 4 = MC.2 5 4) (c35 : MC1.1 35 = MC.1 35) (c36 : MC1.1 36 = MC.1 36) (c37 : MC1.1 37 = MC.1 37) (m0 : MM1.1 0 6 = MM.1 0 6) (mL : MM1.2 0 9 = MM.2 0 9) (m4 : MM1.1 4 = MM.1 4) : ch_Rp MC1 MM1 := by
  obtain ⟨t, a1, a2, a3, a4, a5⟩ := h
  exact ⟨t, a1, by rw [c5]; exact a2, by rw [m0]; exact a3, by rw [mL, cL]; exact a4, fun i hi => by rw [m4, c35, c36, c37]; exact a5 i hi⟩
theorem Rn_of {MC MM MC1 MM1 : ch_Mem} (h : ch_Rn MC MM) (c6 : MC1.1 6 2 = MC.1 6 2) (c38 : MC1.1 38 = MC.1 38) (c39 : MC1.1 39 = MC.1 39) (m0 : MM1.1 0 10 = MM.1 0 10) (m6 : MM1.1 6 = MM.1 6) (m7 : MM1.1 7 = MM.1 7) : ch_Rn MC1 MM1 := by
  obtain ⟨n, ln, sf, a1, a2, a3, a4⟩ := h
  exact ⟨n, ln, sf, a1, by rw [c6]; exact a2, by rw [m0]; exact a3, fun i hi => by rw [c38, c39, m6, m7]; exact a4 i hi⟩
theorem Rd_of {MC MM MC1 MM1 : ch_Mem} (h : ch_Rd MC MM) (c1 : MC1.1 0 6 = MC.1 0 6) (c2 : MC1.1 0 7 = MC.1 0 7) (m1 : MM1.1 0 3 = MM.1 0 3) (m2 : MM1.1 0 18 = MM.1 0 18) : ch_Rd MC1 MM1 := by
  exact ⟨by rw [m1, c1]; exact h.1, by rw [m2, c2]; exact h.2⟩
/-- both findings are set alike -/
theorem R_found {MC MM : ch_Mem} (h : ch_R MC MM) (v : Int32) : ch_R (ch_wI MC 0 7 v) (ch_wI MM 0 18 v) := by
  obtain ⟨a, b, c, d, e⟩ := h
  refine ⟨Rr_of a (fun k h1 h2 => pu_wn (by omega)) (pu_wn (by decide)) (pu_wn (by decide)), Rl_of b (fun k h1 h2 => pu_wn (by omega)) (pu_wn (by decide)) (pu_wn (by decide)) (pu_wn (by decide)) (pu_wn (by decide)), Rp_of c (pu_wn2 (by omega)) rfl (pu_wn (by decide)) (pu_wn (by decide)) (pu_wn (by decide)) (pu_wn2 (by omega)) rfl (pu_wn (by decide)), Rn_of d (pu_wn2 (by omega)) (pu_wn (by decide)) (pu_wn (by decide)) (pu_wn2 (by omega)) (pu_wn (by decide)) (pu_wn (by decide)), ?_, ?_⟩
  · rw [pu_wn2 (by omega), pu_wn2 (by omega)]; exact e.1
  · rw [pu_ws, pu_ws]
theorem op_noise {MC MM : ch_Mem} (hR : ch_R MC MM) : ∃ (r : Int64) (MC1 MM1 : ch_Mem), D_X6_noise  MC = some (r, MC1) ∧ D_X7_noise  MM = some (r, MM1) ∧ ch_R MC1 MM1 := by
  obtain ⟨t, -, -, -, e, -⟩ := hR.2.2.1
  exact ⟨MC.2 5 4, MC, MM, rfl, by rw [← e]; rfl, hR⟩
theorem op_reset {MC MM : ch_Mem} (hR : ch_R MC MM) : ∃ (r : Int32) (MC1 MM1 : ch_Mem), D_X6_reset  MC = some (r, MC1) ∧ D_X7_reset  MM = some (r, MM1) ∧ ch_R MC1 MM1 := by
  obtain ⟨a, b, c, ⟨n, ln, sf, d1, d2, d3, d4⟩, e⟩ := hR
  refine ⟨nI n, ch_wI MC 6 2 0, ch_wI MM 0 10 0, ?_, ?_, Rr_of a (fun k h1 h2 => pu_wn (by omega)) (pu_wn (by decide)) (pu_wn (by decide)), Rl_of b (fun k h1 h2 => pu_wn (by omega)) (pu_wn (by decide)) (pu_wn (by decide)) (pu_wn (by decide)) (pu_wn (by decide)), Rp_of c (pu_wn2 (by omega)) rfl (pu_wn (by decide)) (pu_wn (by decide)) (pu_wn (by decide)) (pu_wn2 (by omega)) rfl (pu_wn (by decide)), ⟨0, ln, sf, by decide, pu_ws _ _ _ _, pu_ws _ _ _ _, fun i hi => absurd hi (Nat.not_lt_zero i)⟩, Rd_of e (pu_wn2 (by omega)) (pu_wn2 (by omega)) (pu_wn2 (by omega)) (pu_wn2 (by omega))⟩
  · rw [← d2]; rfl
  · rw [← d3]; rfl
theorem op_doubt {MC MM : ch_Mem} (hR : ch_R MC MM) (a1 : Int32) : ∃ (r : Int32) (MC1 MM1 : ch_Mem), D_X6_doubt a1 MC = some (r, MC1) ∧ D_X7_doubt a1 MM = some (r, MM1) ∧ ch_R MC1 MM1 := by
  obtain ⟨a, b, c, d, e⟩ := hR
  unfold D_X6_doubt D_X7_doubt D_X7_in
  by_cases h1 : a1 < 0
  · rw [if_pos h1, if_pos h1]
    exact ⟨-2, MC, MM, rfl, rfl, a, b, c, d, e⟩
  · by_cases h2 : a1 ≤ 100
    · have h3 : ¬ (100 : Int32) < a1 := by rw [pu_lt]; rw [pu_le] at h2; omega
      rw [if_neg h1, if_pos h2, if_neg h1, if_neg h3]
      refine ⟨MC.1 0 6, ch_wI MC 0 6 a1, ch_wI MM 0 3 a1, rfl, ?_, Rr_of a (fun k h1 h2 => pu_wn (by omega)) (pu_wn (by decide)) (pu_wn (by decide)), Rl_of b (fun k h1 h2 => pu_wn (by omega)) (pu_wn (by decide)) (pu_wn (by decide)) (pu_wn (by decide)) (pu_wn (by decide)), Rp_of c (pu_wn2 (by omega)) rfl (pu_wn (by decide)) (pu_wn (by decide)) (pu_wn (by decide)) (pu_wn2 (by omega)) rfl (pu_wn (by decide)), Rn_of d (pu_wn2 (by omega)) (pu_wn (by decide)) (pu_wn (by decide)) (pu_wn2 (by omega)) (pu_wn (by decide)) (pu_wn (by decide)), ?_, ?_⟩
      · rw [pu_bd, if_neg pu_10, e.1]
      · rw [pu_ws, pu_ws]
      · rw [pu_wn2 (by omega), pu_wn2 (by omega)]; exact e.2
    · have h3 : (100 : Int32) < a1 := by rw [pu_lt]; rw [pu_le] at h2; omega
      rw [if_neg h1, if_neg h2, if_neg h1, if_pos h3]
      exact ⟨-2, MC, MM, rfl, rfl, a, b, c, d, e⟩
theorem op_drop {MC MM : ch_Mem} (hR : ch_R MC MM) (a1 : Int32) : ∃ (r : Int32) (MC1 MM1 : ch_Mem), D_X6_drop a1 MC = some (r, MC1) ∧ D_X7_drop a1 MM = some (r, MM1) ∧ ch_R MC1 MM1 := by
  unfold D_X6_drop D_X7_drop
  rcases pu_row a1 with ⟨r, -, hr, rfl, h1, h2⟩ | ⟨h1, h2⟩
  · rw [h1, h2]
    simp only [pu_bd, pu_10, ↓reduceIte, pu_gd (show r < 8 by omega) (show 8 ≤ 100000 by decide), pu_cl (show r ≤ 100000 by omega), D_X3_isNone]
    obtain ⟨a, b, c, d, e⟩ := hR
    obtain ⟨n, e1, e2, e3, e4⟩ := a r (by omega)
    rw [e2, e3]
    rcases Nat.eq_zero_or_pos n with rfl | hn
    · rw [if_neg (by decide), if_pos (by rfl), pu_bd, if_neg pu_10]
      exact ⟨-3, MC, MM, rfl, rfl, a, b, c, d, e⟩
    · rw [if_pos (show (1 : Int32) ≤ nI n from nI_le (a := 1) hn (by omega)), if_neg (nI_ne0 hn (by omega)), pu_bd, if_pos rfl]
      rw [e2]
      refine ⟨nI n, ch_wI MC (7 + r) 1 0, ch_wI MM 1 r 0, rfl, rfl, ?_, Rl_of b (fun k h1 h2 => pu_wn (by omega)) (pu_wn (by decide)) (pu_wn (by decide)) (pu_wn (by decide)) (pu_wn (by decide)), Rp_of c (pu_wn2 (by omega)) rfl (pu_wn (by omega)) (pu_wn (by omega)) (pu_wn (by omega)) (pu_wn2 (by omega)) rfl (pu_wn (by decide)), Rn_of d (pu_wn2 (by omega)) (pu_wn (by omega)) (pu_wn (by omega)) (pu_wn2 (by omega)) (pu_wn (by decide)) (pu_wn (by decide)), Rd_of e (pu_wn2 (by omega)) (pu_wn2 (by omega)) (pu_wn2 (by omega)) (pu_wn2 (by omega))⟩
      intro r1 hr1
      by_cases hrr : r1 = r
      · subst hrr
        exact ⟨0, by decide, pu_ws _ _ _ _, pu_ws _ _ _ _, fun i hi => absurd hi (Nat.not_lt_zero i)⟩
      · obtain ⟨n1, f1, f2, f3, f4⟩ := a r1 hr1
        exact ⟨n1, f1, by rw [pu_wn2 (by omega)]; exact f2, by rw [pu_wn2 (by omega)]; exact f3, fun i hi => by rw [pu_wn2 (by omega), pu_wn2 (by omega)]; exact f4 i hi⟩
  · rw [h1, h2]
    exact ⟨-2, MC, MM, rfl, rfl, hR⟩
