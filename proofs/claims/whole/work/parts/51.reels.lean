theorem pu_300 (r i : Nat) : (300 : Int32) * nI r + nI i = nI (300 * r + i) := by
  rw [show (300 : Int32) = nI 300 from rfl, pk_mul, nI_add]
theorem pu_127 (r i : Nat) : (127 : Int32) * nI r + nI i = nI (127 * r + i) := by
  rw [show (127 : Int32) = nI 127 from rfl, pk_mul, nI_add]
theorem pu_3 (r i : Nat) : (3 : Int32) * nI r + nI i = nI (3 * r + i) := by
  rw [show (3 : Int32) = nI 3 from rfl, pk_mul, nI_add]
/-- an item's place, told by the class and by the reference -/
theorem pu_item (o : Nat) (M : ch_Mem) {n : Nat} (hn : n ≤ 300) (h3 : M.1 o 3 = nI n) (x : Int32) : (∃ i, i < n ∧ x = nI i ∧ (M.1 o 1 = 0 → D_X2_hasItem o x M = some (1, M)) ∧ ∀ MM, D_X7_in x 0 (nI n - 1) MM = some (1, MM)) ∨ (D_X2_hasItem o x M = some (0, M) ∧ ∀ MM, D_X7_in x 0 (nI n - 1) MM = some (0, MM)) := by
  have t0 : (0 : Int32).toInt = 0 := by decide
  have tn : (nI n).toInt = n := nI_toInt (by omega)
  have tm : (nI n - 1).toInt = (n : Int) - 1 := pk_sub_toInt (a := n) (b := 1) (by omega) (by decide)
  by_cases h : 0 ≤ x.toInt ∧ x.toInt < n
  · left
    have e : x = nI x.toInt.toNat := pu_of x h.1
    refine ⟨x.toInt.toNat, by omega, e, fun h1 => ?_, fun MM => ?_⟩
    · unfold D_X2_hasItem
      rw [if_pos h1, h3, if_neg (by rw [pu_lt]; omega), if_neg (by rw [pu_le]; omega)]
    · unfold D_X7_in
      rw [if_neg (by rw [pu_lt]; omega), if_neg (by rw [pu_lt]; omega)]
  · right
    refine ⟨?_, fun MM => ?_⟩
    · unfold D_X2_hasItem
      rw [h3]
      by_cases h0 : x.toInt < 0
      · rw [if_pos (show x < 0 by rw [pu_lt]; omega)]
        by_cases hl : M.1 o 1 = 0
        · rw [if_pos hl]
        · rw [if_neg hl]
      · rw [if_neg (show ¬ x < 0 by rw [pu_lt]; omega), if_pos (show nI n ≤ x by rw [pu_le]; omega)]
        by_cases hl : M.1 o 1 = 0
        · rw [if_pos hl]
        · rw [if_neg hl]
    · unfold D_X7_in
      by_cases h0 : x.toInt < 0
      · rw [if_pos (by rw [pu_lt]; omega)]
      · rw [if_neg (by rw [pu_lt]; omega), if_pos (by rw [pu_lt]; omega)]
/-- what is wrong with an item's place -/
theorem pu_trouble {MC MM : ch_Mem} (hR : ch_Rl MC MM) {r : Nat} (hr : r < 4) (x2 x3 : Int32) : ∃ T : Int32, D_X2_troubleAt (23 + r) x2 x3 MC = some (T, MC) ∧ D_X7_lacks (nI r) x2 x3 MM = some (T, MM) ∧ ((T = 0 ∧ MC.1 (23 + r) 1 = 0 ∧ MC.1 (23 + r) 2 = x2 ∧ ∃ i n, i < n ∧ n ≤ 300 ∧ MC.1 (23 + r) 3 = nI n ∧ x3 = nI i ∧ D_X2_hasItem (23 + r) x3 MC = some (1, MC)) ∨ (¬ T = 0 ∧ ¬ T ≤ 0)) := by
  obtain ⟨n, f, a1, a2, a3, a4, a5, a6, a7, a8⟩ := hR r hr
  unfold D_X2_troubleAt D_X7_lacks
  simp only [pu_gd (show r < 4 by omega) (show 4 ≤ 100000 by decide), pu_cl (show r ≤ 100000 by omega)]
  rcases a7 with ⟨b1, b2⟩ | ⟨b1, b2⟩
  · rw [b1, b2, a4, a6, a5, if_pos rfl, if_neg pu_10]
    by_cases h2 : nI f = x2
    · rw [if_pos h2, if_pos h2]
      rcases pu_item (23 + r) MC a1 a3 x3 with ⟨i, hi, e, c1, c2⟩ | ⟨c1, c2⟩
      · have c1 := c1 b1
        rw [c1, c2, pu_bd, pu_bd, if_neg pu_10, if_neg pu_10]
        exact ⟨0, rfl, rfl, Or.inl ⟨rfl, rfl, h2, i, n, hi, a1, a3, e, rfl⟩⟩
      · rw [c1, c2, pu_bd, pu_bd, if_pos rfl, if_pos rfl]
        exact ⟨2, rfl, rfl, Or.inr ⟨by decide, by decide⟩⟩
    · rw [if_neg h2, if_neg h2]
      exact ⟨3, rfl, rfl, Or.inr ⟨by decide, by decide⟩⟩
  · rw [b1, b2, if_neg pu_10, if_pos rfl]
    exact ⟨1, rfl, rfl, Or.inr ⟨by decide, by decide⟩⟩
theorem op_lose {MC MM : ch_Mem} (hR : ch_R MC MM) (a1 : Int32) : ∃ (r : Int32) (MC1 MM1 : ch_Mem), D_X6_lose a1 MC = some (r, MC1) ∧ D_X7_lose a1 MM = some (r, MM1) ∧ ch_R MC1 MM1 := by
  unfold D_X6_lose D_X7_lose
  rcases pu_reel a1 with ⟨r, -, hr, rfl, h1, h2⟩ | ⟨h1, h2⟩
  · rw [h1, h2]
    simp only [pu_bd, pu_10, ↓reduceIte, pu_gd (show r < 4 by omega) (show 4 ≤ 100000 by decide), pu_cl (show r ≤ 100000 by omega)]
    obtain ⟨n, f, a1, a2, a3, a4, a5, a6, a7, a8⟩ := hR.2.1 r (by omega)
    rcases a7 with ⟨b1, b2⟩ | ⟨b1, b2⟩
    · rw [b1, b2, if_pos rfl, if_neg pu_10, pu_wn2 (by omega), pu_wn2 (by omega), a3, a4]
      obtain ⟨a, b, c, d, e⟩ := hR
      refine ⟨_, _, _, rfl, rfl, Rr_of a (fun k h1 h2 => pu_wn (by omega)) (pu_wn (by decide)) (pu_wn (by decide)), ?_, Rp_of c (pu_wn2 (by omega)) rfl (pu_wn (by omega)) (pu_wn (by omega)) (pu_wn (by omega)) (pu_wn2 (by omega)) rfl (pu_wn (by decide)), Rn_of d (pu_wn2 (by omega)) (pu_wn (by omega)) (pu_wn (by omega)) (pu_wn2 (by omega)) (pu_wn (by decide)) (pu_wn (by decide)), Rd_of e (pu_wn2 (by omega)) (pu_wn2 (by omega)) (pu_wn2 (by omega)) (pu_wn2 (by omega))⟩
      intro r1 hr1
      obtain ⟨n1, f1, c1, c2, c3, c4, c5, c6, c7, c8⟩ := b r1 hr1
      refine ⟨n1, f1, c1, c2, by rw [pu_wn2 (by omega)]; exact c3, by rw [pu_wn2 (by omega)]; exact c4, by rw [pu_wn2 (by omega)]; exact c5, by rw [pu_wn2 (by omega)]; exact c6, ?_, fun i hi => by rw [pu_wn2 (by omega), pu_wn2 (by omega)]; exact c8 i hi⟩
      by_cases hrr : r1 = r
      · subst hrr
        exact Or.inr ⟨pu_ws _ _ _ _, pu_ws _ _ _ _⟩
      · rw [pu_wn2 (by omega), pu_wn2 (by omega)]; exact c7
    · rw [b1, b2, if_neg pu_10, if_pos rfl]
      exact ⟨-10 - 1, ch_wI MC 0 7 1, ch_wI MM 0 18 1, rfl, rfl, R_found hR 1⟩
  · rw [h1, h2]
    exact ⟨-2, MC, MM, rfl, rfl, hR⟩
theorem op_get {MC MM : ch_Mem} (hR : ch_R MC MM) (a1 a2 a3 : Int32) : ∃ (r : Int32) (MC1 MM1 : ch_Mem), D_X6_get a1 a2 a3 MC = some (r, MC1) ∧ D_X7_get a1 a2 a3 MM = some (r, MM1) ∧ ch_R MC1 MM1 := by
  unfold D_X6_get D_X7_get
  rcases pu_reel a1 with ⟨r, -, hr, rfl, h1, h2⟩ | ⟨h1, h2⟩
  · rw [h1, h2]
    simp only [pu_bd, pu_10, ↓reduceIte, pu_gd (show r < 4 by omega) (show 4 ≤ 100000 by decide), pu_cl (show r ≤ 100000 by omega)]
    rcases pu_form a2 with ⟨f, -, hf, -, g1, g2⟩ | ⟨g1, g2⟩
    · rw [g1, g2]
      simp only [pu_bd, pu_10, ↓reduceIte]
      obtain ⟨T, t1, t2, t3⟩ := pu_trouble hR.2.1 (show r < 4 by omega) a2 a3
      rw [t1, t2]
      simp only [pu_bd]
      rcases t3 with ⟨rfl, b1, b2, i, n, hi, hn, b3, rfl, b4⟩ | ⟨t3, t4⟩
      · rw [if_pos rfl, if_pos (by decide)]
        unfold D_X2_itemOrZero
        rw [b4]
        simp only [pu_bd, pu_10, ↓reduceIte, pu_gd (show i < 300 by omega) (show 300 ≤ 100000 by decide), pu_300, pu_gd (show 300 * r + i < 1200 by omega) (show 1200 ≤ 100000 by decide), pu_cl (show i ≤ 100000 by omega), pu_cl (show 300 * r + i ≤ 100000 by omega)]
        obtain ⟨n1, f1, c1, c2, c3, c4, c5, c6, c7, c8⟩ := hR.2.1 r (by omega)
        have hnn : n1 = n := (nI_eq (by omega) (by omega)).mp (c3.symm.trans b3)
        rw [c8 i (by omega)]
        exact ⟨_, _, _, rfl, rfl, hR⟩
      · rw [if_neg t3, if_neg t4]
        exact ⟨_, _, _, rfl, rfl, R_found hR T⟩
    · rw [g1, g2]
      exact ⟨_, MC, MM, rfl, rfl, hR⟩
  · rw [h1, h2]
    exact ⟨_, MC, MM, rfl, rfl, hR⟩
theorem pu_cut (o : Nat) (MC MM : ch_Mem) (x v : Int32) (h : MC.1 o 2 = x) : ∃ w : Int32, D_X2_lowestBits o v MC = some (w, MC) ∧ D_X7_cut x v MM = some (w, MM) := by
  unfold D_X2_lowestBits D_X7_cut
  rw [h]
  by_cases h0 : x = 0
  · rw [if_pos h0, if_pos h0]; exact ⟨_, rfl, rfl⟩
  · rw [if_neg h0, if_neg h0]
    by_cases h1 : x = 1
    · rw [if_pos h1, if_pos h1]; exact ⟨_, rfl, rfl⟩
    · rw [if_neg h1, if_neg h1]; exact ⟨_, rfl, rfl⟩
/-- an item of a reel is set alike -/
theorem R_item {MC MM : ch_Mem} (h : ch_R MC MM) {r i n : Nat} (hr : r < 4) (hn : n ≤ 300) (hi : i < n) (e : MC.1 (23 + r) 3 = nI n) (v : Int32) : ch_R (ch_wI MC (23 + r + 4) i v) (ch_wI MM 11 (300 * r + i) v) := by
  obtain ⟨a, b, c, d, e1⟩ := h
  refine ⟨Rr_of a (fun k h1 h2 => pu_wn (by omega)) (pu_wn (by decide)) (pu_wn (by decide)), ?_, Rp_of c (pu_wn2 (by omega)) rfl (pu_wn (by omega)) (pu_wn (by omega)) (pu_wn (by omega)) (pu_wn2 (by omega)) rfl (pu_wn (by decide)), Rn_of d (pu_wn2 (by omega)) (pu_wn (by omega)) (pu_wn (by omega)) (pu_wn2 (by omega)) (pu_wn (by decide)) (pu_wn (by decide)), Rd_of e1 (pu_wn2 (by omega)) (pu_wn2 (by omega)) (pu_wn2 (by omega)) (pu_wn2 (by omega))⟩
  intro r1 hr1
  obtain ⟨n1, f1, c1, c2, c3, c4, c5, c6, c7, c8⟩ := b r1 hr1
  refine ⟨n1, f1, c1, c2, by rw [pu_wn2 (by omega)]; exact c3, by rw [pu_wn2 (by omega)]; exact c4, by rw [pu_wn2 (by omega)]; exact c5, by rw [pu_wn2 (by omega)]; exact c6, by rw [pu_wn2 (by omega), pu_wn2 (by omega)]; exact c7, fun j hj => ?_⟩
  by_cases hh : r1 = r ∧ j = i
  · obtain ⟨rfl, rfl⟩ := hh
    rw [pu_ws, pu_ws]
  · rw [pu_wn2 (by omega), pu_wn2 (by omega)]
    exact c8 j hj
theorem op_put {MC MM : ch_Mem} (hR : ch_R MC MM) (a1 a2 a3 a4 : Int32) : ∃ (r : Int32) (MC1 MM1 : ch_Mem), D_X6_put a1 a2 a3 a4 MC = some (r, MC1) ∧ D_X7_put a1 a2 a3 a4 MM = some (r, MM1) ∧ ch_R MC1 MM1 := by
  unfold D_X6_put D_X7_put
  rcases pu_reel a1 with ⟨r, -, hr, rfl, h1, h2⟩ | ⟨h1, h2⟩
  · rw [h1, h2]
    simp only [pu_bd, pu_10, ↓reduceIte, pu_gd (show r < 4 by omega) (show 4 ≤ 100000 by decide), pu_cl (show r ≤ 100000 by omega)]
    rcases pu_form a2 with ⟨f, -, hf, -, g1, g2⟩ | ⟨g1, g2⟩
    · rw [g1, g2]
      simp only [pu_bd, pu_10, ↓reduceIte]
      obtain ⟨T, t1, t2, t3⟩ := pu_trouble hR.2.1 (show r < 4 by omega) a2 a3
      rw [t1, t2]
      simp only [pu_bd]
      rcases t3 with ⟨rfl, b1, b2, i, n, hi, hn, b3, rfl, b4⟩ | ⟨t3, t4⟩
      · rw [if_pos rfl, if_pos (by decide)]
        unfold D_X2_keep
        rw [b4]
        obtain ⟨w, w1, w2⟩ := pu_cut (23 + r) MC MM a2 a4 b2
        simp only [pu_bd, pu_10, ↓reduceIte, w1, w2, pu_gd (show i < 300 by omega) (show 300 ≤ 100000 by decide), pu_300, pu_gd (show 300 * r + i < 1200 by omega) (show 1200 ≤ 100000 by decide), pu_cl (show i ≤ 100000 by omega), pu_cl (show 300 * r + i ≤ 100000 by omega)]
        exact ⟨_, _, _, rfl, rfl, R_item hR (by omega) hn hi b3 w⟩
      · rw [if_neg t3, if_neg t4]
        exact ⟨_, _, _, rfl, rfl, R_found hR T⟩
    · rw [g1, g2]
      exact ⟨_, MC, MM, rfl, rfl, hR⟩
  · rw [h1, h2]
    exact ⟨_, MC, MM, rfl, rfl, hR⟩
theorem pu_renew (o : Nat) : ∀ (k i n fu : Nat) (M : ch_Mem), i + k = n → n ≤ 300 → k < fu → M.1 o 3 = nI n → ∃ M1, D_X2_renew_L27 o fu (nI i) M = some ((), M1) ∧ (∀ a, a ≠ o + 4 → M1.1 a = M.1 a) ∧ M1.2 = M.2 ∧ (∀ j, i ≤ j → j < n → M1.1 (o + 4) j = 0) ∧ ∀ j, j < i → M1.1 (o + 4) j = M.1 (o + 4) j := by
  intro k
  induction k with
  | zero =>
    intro i n fu M h1 h2 h3 h4
    obtain ⟨fu, rfl⟩ : ∃ f, fu = f + 1 := ⟨fu - 1, by omega⟩
    refine ⟨M, ?_, fun a _ => rfl, rfl, fun j h5 h6 => by omega, fun j _ => rfl⟩
    show D_X2_renew_b27 o (D_X2_renew_L27 o fu) (nI i) M = _
    unfold D_X2_renew_b27
    rw [h4, if_pos (nI_le (by omega) (by omega))]
  | succ k ih =>
    intro i n fu M h1 h2 h3 h4
    obtain ⟨fu, rfl⟩ : ∃ f, fu = f + 1 := ⟨fu - 1, by omega⟩
    have h5 : (ch_wI M (o + 4) i 0).1 o 3 = nI n := by rw [pu_wn2 (by omega)]; exact h4
    obtain ⟨M1, e1, e2, e3, e4, e5⟩ := ih (i + 1) n fu (ch_wI M (o + 4) i 0) (by omega) h2 (by omega) h5
    refine ⟨M1, ?_, fun a ha => by rw [e2 a ha, pu_wn ha], e3, fun j h6 h7 => ?_, fun j h6 => by rw [e5 j (by omega), pu_wn2 (by omega)]⟩
    · show D_X2_renew_b27 o (D_X2_renew_L27 o fu) (nI i) M = _
      unfold D_X2_renew_b27
      rw [h4, if_neg (nI_ge (by omega) (by omega)), pu_gd (by omega) (by decide), nI_1, pu_cl (by omega)]
      exact e1
    · by_cases hj : j = i
      · subst hj
        rw [e5 j (by omega), pu_ws]
      · exact e4 j (by omega) h7
theorem pu_zero (r : Nat) (hr : r < 4) (x : Int32) : ∀ (k i fu : Nat) (M : ch_Mem), i + k = 300 → k < fu → ∃ M1, D_X7_reel_L60 fu (nI r) x (nI i) M = some (x, M1) ∧ (∀ a, a ≠ 11 → M1.1 a = M.1 a) ∧ M1.2 = M.2 ∧ (∀ j, i ≤ j → j < 300 → M1.1 11 (300 * r + j) = 0) ∧ ∀ j, (j < 300 * r + i ∨ 300 * r + 300 ≤ j) → M1.1 11 j = M.1 11 j := by
  intro k
  induction k with
  | zero =>
    intro i fu M h1 h3
    obtain ⟨fu, rfl⟩ : ∃ f, fu = f + 1 := ⟨fu - 1, by omega⟩
    refine ⟨M, ?_, fun a _ => rfl, rfl, fun j h5 h6 => by omega, fun j _ => rfl⟩
    show D_X7_reel_b60 (D_X7_reel_L60 fu) (nI r) x (nI i) M = _
    unfold D_X7_reel_b60
    rw [if_pos (show (300 : Int32) ≤ nI i from nI_le (a := 300) (by omega) (by omega))]
    rfl
  | succ k ih =>
    intro i fu M h1 h3
    obtain ⟨fu, rfl⟩ : ∃ f, fu = f + 1 := ⟨fu - 1, by omega⟩
    obtain ⟨M1, e1, e2, e3, e4, e5⟩ := ih (i + 1) fu (ch_wI M 11 (300 * r + i) 0) (by omega) (by omega)
    refine ⟨M1, ?_, fun a ha => by rw [e2 a ha, pu_wn ha], e3, fun j h6 h7 => ?_, fun j h6 => by rw [e5 j (by omega), pu_wn2 (by omega)]⟩
    · show D_X7_reel_b60 (D_X7_reel_L60 fu) (nI r) x (nI i) M = _
      unfold D_X7_reel_b60
      rw [if_neg (show ¬ (300 : Int32) ≤ nI i from nI_ge (b := 300) (by omega) (by omega)), pu_300, pu_gd (by omega) (by decide), nI_1, pu_cl (by omega)]
      exact e1
    · by_cases hj : j = i
      · subst hj
        rw [e5 _ (by omega), pu_ws]
      · exact e4 j (by omega) h7
theorem op_reel {MC MM : ch_Mem} (hR : ch_R MC MM) (a1 a2 a3 : Int32) : ∃ (r : Int32) (MC1 MM1 : ch_Mem), D_X6_reel a1 a2 a3 MC = some (r, MC1) ∧ D_X7_reel a1 a2 a3 MM = some (r, MM1) ∧ ch_R MC1 MM1 := by
  unfold D_X6_reel D_X7_reel
  rcases pu_reel a1 with ⟨r, -, hr, rfl, h1, h2⟩ | ⟨h1, h2⟩
  · rw [h1, h2]
    simp only [pu_bd, pu_10, ↓reduceIte, pu_gd (show r < 4 by omega) (show 4 ≤ 100000 by decide), pu_cl (show r ≤ 100000 by omega)]
    rcases pu_form a2 with ⟨f, -, hf, rfl, g1, g2⟩ | ⟨g1, g2⟩
    · rw [g1, g2]
      simp only [pu_bd, pu_10, ↓reduceIte]
      by_cases k1 : a3 ≤ 300
      · by_cases k2 : 0 ≤ a3
        · rw [if_pos k1, if_pos k2, if_pos k1, if_pos k2]
          obtain ⟨n, hn, rfl⟩ : ∃ n, n ≤ 300 ∧ a3 = nI n := by
            have t0 : (0 : Int32).toInt = 0 := by decide
            have t3 : (300 : Int32).toInt = 300 := by decide
            rw [pu_le] at k1 k2
            exact ⟨a3.toInt.toNat, by omega, pu_of a3 (by omega)⟩
          unfold D_X2_renew
          have s1 : (if (300 : Int32) < nI n then (300 : Int32) else nI n) = nI n := if_neg (show ¬ nI 300 < nI n from nI_nlt (by omega) (by omega))
          have s2 : (if (0 : Int32) < nI n then nI n else 0) = nI n := by
            rcases Nat.eq_zero_or_pos n with rfl | hp
            · rfl
            · exact if_pos (show nI 0 < nI n from nI_lt hp (by omega))
          simp only [s1, s2]
          obtain ⟨M1, e1, e2, e3, e4, e5⟩ := pu_renew (23 + r) n 0 n ch_fu (ch_wI (ch_wI (ch_wI MC (23 + r) 1 0) (23 + r) 2 (nI f)) (23 + r) 3 (nI n)) (by omega) hn (by unfold ch_fu; omega) (pu_ws _ _ _ _)
          obtain ⟨N1, f1, f2, f3, f4, f5⟩ := pu_zero r (by omega) (nI n) 300 0 ch_fu (ch_wI (ch_wI (ch_wI MM 8 r 1) 9 r (nI f)) 10 r (nI n)) (by omega) (by unfold ch_fu; omega)
          have e1' : D_X2_renew_L27 (23 + r) ch_fu 0 (ch_wI (ch_wI (ch_wI MC (23 + r) 1 0) (23 + r) 2 (nI f)) (23 + r) 3 (nI n)) = some ((), M1) := e1
          have f1' : D_X7_reel_L60 ch_fu (nI r) (nI n) 0 (ch_wI (ch_wI (ch_wI MM 8 r 1) 9 r (nI f)) 10 r (nI n)) = some (nI n, N1) := f1
          rw [e1', f1', pu_bd]
          refine ⟨nI n, M1, N1, rfl, rfl, ?_⟩
          obtain ⟨a, b, c, d, e⟩ := hR
          refine ⟨Rr_of a (fun k h1 h2 => ?_) ?_ ?_, ?_, Rp_of c ?_ ?_ ?_ ?_ ?_ ?_ ?_ ?_, Rn_of d ?_ ?_ ?_ ?_ ?_ ?_, Rd_of e ?_ ?_ ?_ ?_⟩
          · rw [e2 k (by omega), pu_wn (by omega), pu_wn (by omega), pu_wn (by omega)]
          · rw [f2 1 (by decide), pu_wn (by decide), pu_wn (by decide), pu_wn (by decide)]
          · rw [f2 2 (by decide), pu_wn (by decide), pu_wn (by decide), pu_wn (by decide)]
          · intro r1 hr1
            by_cases hrr : r1 = r
            · subst hrr
              refine ⟨n, f, hn, by omega, ?_, ?_, ?_, ?_, Or.inl ⟨?_, ?_⟩, fun i hi => ?_⟩
              · rw [e2 _ (by omega), pu_ws]
              · rw [f2 10 (by decide), pu_ws]
              · rw [e2 _ (by omega), pu_wn2 (by omega), pu_ws]
              · rw [f2 9 (by decide), pu_wn2 (by omega), pu_ws]
              · rw [e2 _ (by omega), pu_wn2 (by omega), pu_wn2 (by omega), pu_ws]
              · rw [f2 8 (by decide), pu_wn2 (by omega), pu_wn2 (by omega), pu_ws]
              · rw [e4 i (by omega) hi, f4 i (by omega) (by omega)]
            · obtain ⟨n1, g1, c1, c2, c3, c4, c5, c6, c7, c8⟩ := b r1 hr1
              have q1 : M1.1 (23 + r1) = MC.1 (23 + r1) := by rw [e2 _ (by omega), pu_wn (by omega), pu_wn (by omega), pu_wn (by omega)]
              have q2 : M1.1 (23 + r1 + 4) = MC.1 (23 + r1 + 4) := by rw [e2 _ (by omega), pu_wn (by omega), pu_wn (by omega), pu_wn (by omega)]
              have q3 : N1.1 8 r1 = MM.1 8 r1 := by rw [f2 8 (by decide), pu_wn2 (by omega), pu_wn2 (by omega), pu_wn2 (by omega)]
              have q4 : N1.1 9 r1 = MM.1 9 r1 := by rw [f2 9 (by decide), pu_wn2 (by omega), pu_wn2 (by omega), pu_wn2 (by omega)]
              have q5 : N1.1 10 r1 = MM.1 10 r1 := by rw [f2 10 (by decide), pu_wn2 (by omega), pu_wn2 (by omega), pu_wn2 (by omega)]
              refine ⟨n1, g1, c1, c2, by rw [q1]; exact c3, by rw [q5]; exact c4, by rw [q1]; exact c5, by rw [q4]; exact c6, by rw [q1, q3]; exact c7, fun i hi => ?_⟩
              rw [q2, f5 _ (by omega), pu_wn (by decide), pu_wn (by decide), pu_wn (by decide)]
              exact c8 i hi
          · rw [e2 _ (by omega), pu_wn (by omega), pu_wn (by omega), pu_wn (by omega)]
          · rw [e3]; rfl
          · rw [e2 _ (by omega), pu_wn (by omega), pu_wn (by omega), pu_wn (by omega)]
          · rw [e2 _ (by omega), pu_wn (by omega), pu_wn (by omega), pu_wn (by omega)]
          · rw [e2 _ (by omega), pu_wn (by omega), pu_wn (by omega), pu_wn (by omega)]
          · rw [f2 _ (by decide), pu_wn (by decide), pu_wn (by decide), pu_wn (by decide)]
          · rw [f3]; rfl
          · rw [f2 _ (by decide), pu_wn (by decide), pu_wn (by decide), pu_wn (by decide)]
          · rw [e2 _ (by omega), pu_wn (by omega), pu_wn (by omega), pu_wn (by omega)]
          · rw [e2 _ (by omega), pu_wn (by omega), pu_wn (by omega), pu_wn (by omega)]
          · rw [e2 _ (by omega), pu_wn (by omega), pu_wn (by omega), pu_wn (by omega)]
          · rw [f2 _ (by decide), pu_wn (by decide), pu_wn (by decide), pu_wn (by decide)]
          · rw [f2 _ (by decide), pu_wn (by decide), pu_wn (by decide), pu_wn (by decide)]
          · rw [f2 _ (by decide), pu_wn (by decide), pu_wn (by decide), pu_wn (by decide)]
          · rw [e2 _ (by omega), pu_wn (by omega), pu_wn (by omega), pu_wn (by omega)]
          · rw [e2 _ (by omega), pu_wn (by omega), pu_wn (by omega), pu_wn (by omega)]
          · rw [f2 _ (by decide), pu_wn (by decide), pu_wn (by decide), pu_wn (by decide)]
          · rw [f2 _ (by decide), pu_wn (by decide), pu_wn (by decide), pu_wn (by decide)]
        · rw [if_pos k1, if_neg k2, if_pos k1, if_neg k2]
          exact ⟨_, _, _, rfl, rfl, R_found hR 5⟩
      · rw [if_neg k1, if_neg k1]
        exact ⟨_, MC, MM, rfl, rfl, hR⟩
    · rw [g1, g2]
      exact ⟨_, MC, MM, rfl, rfl, hR⟩
  · rw [h1, h2]
    exact ⟨_, MC, MM, rfl, rfl, hR⟩
theorem op_peeled {MC MM : ch_Mem} (hR : ch_R MC MM) (a1 a2 : Int32) : ∃ (r : Int32) (MC1 MM1 : ch_Mem), D_X6_peeled a1 a2 MC = some (r, MC1) ∧ D_X7_peeled a1 a2 MM = some (r, MM1) ∧ ch_R MC1 MM1 := by
  obtain ⟨t, ht, p1, p2, p3, p4⟩ := hR.2.2.1
  unfold D_X6_peeled D_X7_peeled D_X7_in
  have t0 : (0 : Int32).toInt = 0 := by decide
  have t1 : (1 : Int32).toInt = 1 := by decide
  have t2 : (2 : Int32).toInt = 2 := by decide
  have tn : (nI t).toInt = t := nI_toInt (by omega)
  have tm : (nI t - 1).toInt = (t : Int) - 1 := pk_sub_toInt (a := t) (b := 1) (by omega) (by decide)
  rw [p1, p2]
  by_cases k1 : a1 < 0
  · rw [if_pos k1, if_pos k1]
    exact ⟨_, MC, MM, rfl, rfl, hR⟩
  · rw [if_neg k1, if_neg k1]
    by_cases k2 : a1 < nI t
    · have k3 : ¬ nI t - 1 < a1 := by rw [pu_lt] at k2 ⊢; omega
      rw [if_pos k2, if_neg k3, pu_bd, if_neg pu_10]
      obtain ⟨i, hi, rfl⟩ : ∃ i, i < t ∧ a1 = nI i := by
        rw [pu_lt] at k1 k2
        exact ⟨a1.toInt.toNat, by omega, pu_of a1 (by omega)⟩
      obtain ⟨q1, q2, q3⟩ := p4 i hi
      simp only [pu_gd (show i < 20 by omega) (show 20 ≤ 100000 by decide), pu_cl (show i ≤ 100000 by omega)]
      by_cases j0 : a2 = 0
      · subst j0
        rw [if_pos rfl, if_neg (by decide), if_neg (by decide), pu_bd, if_neg pu_10]
        rw [show (3 : Int32) * nI i + 0 = nI (3 * i + 0) from pu_3 i 0, pu_gd (by omega) (by decide), pu_cl (by omega)]
        exact ⟨_, MC, MM, rfl, by rw [← q1]; rfl, hR⟩
      · by_cases j1 : a2 = 1
        · subst j1
          rw [if_neg (by decide), if_pos rfl, if_neg (by decide), if_neg (by decide), pu_bd, if_neg pu_10]
          rw [show (3 : Int32) * nI i + 1 = nI (3 * i + 1) from pu_3 i 1, pu_gd (by omega) (by decide), pu_cl (by omega)]
          exact ⟨_, MC, MM, rfl, by rw [← q2], hR⟩
        · by_cases j2 : a2 = 2
          · subst j2
            rw [if_neg (by decide), if_neg (by decide), if_pos rfl, if_neg (by decide), if_neg (by decide), pu_bd, if_neg pu_10]
            rw [show (3 : Int32) * nI i + 2 = nI (3 * i + 2) from pu_3 i 2, pu_gd (by omega) (by decide), pu_cl (by omega)]
            exact ⟨_, MC, MM, rfl, by rw [← q3], hR⟩
          · rw [if_neg j0, if_neg j1, if_neg j2]
            by_cases j3 : a2 < 0
            · rw [if_pos j3]
              exact ⟨_, MC, MM, rfl, rfl, hR⟩
            · have j4 : (2 : Int32) < a2 := by
                rw [pu_lt] at j3 ⊢
                have n0 : ¬ a2.toInt = 0 := fun z => j0 (Int32.toInt_inj.mp (by rw [z, t0]))
                have n1 : ¬ a2.toInt = 1 := fun z => j1 (Int32.toInt_inj.mp (by rw [z, t1]))
                have n2 : ¬ a2.toInt = 2 := fun z => j2 (Int32.toInt_inj.mp (by rw [z, t2]))
                omega
              rw [if_neg j3, if_pos j4]
              exact ⟨_, MC, MM, rfl, rfl, hR⟩
    · have k3 : nI t - 1 < a1 := by rw [pu_lt] at k2 ⊢; omega
      rw [if_neg k2, if_pos k3]
      exact ⟨_, MC, MM, rfl, rfl, hR⟩
