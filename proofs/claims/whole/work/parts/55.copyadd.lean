theorem pu_lgt (x y : Int64) : (0 < lg_cmp x y) ↔ y < x := by
  unfold lg_cmp
  by_cases h : x > y
  · rw [if_pos h]; exact ⟨fun _ => h, fun _ => by decide⟩
  · rw [if_neg h]
    refine ⟨fun q => ?_, fun q => absurd q h⟩
    by_cases h2 : x = y
    · rw [if_pos h2] at q; exact absurd q (by decide)
    · rw [if_neg h2] at q; exact absurd q (by decide)
theorem pu_lle (x y : Int64) : (lg_cmp x y ≤ 0) ↔ ¬ y < x := by
  unfold lg_cmp
  by_cases h : x > y
  · rw [if_pos h]; exact ⟨fun q => absurd q (by decide), fun q => absurd h q⟩
  · rw [if_neg h]
    refine ⟨fun _ => h, fun _ => ?_⟩
    by_cases h2 : x = y
    · rw [if_pos h2]; decide
    · rw [if_neg h2]; decide
theorem pu_leq (x y : Int64) : (lg_cmp x y = 0) ↔ x = y := by
  unfold lg_cmp
  by_cases h : x > y
  · rw [if_pos h]
    refine ⟨fun q => absurd q (by decide), fun q => ?_⟩
    subst q
    exact absurd h (Int64.lt_irrefl)
  · rw [if_neg h]
    by_cases h2 : x = y
    · rw [if_pos h2]; exact ⟨fun _ => h2, fun _ => rfl⟩
    · rw [if_neg h2]; exact ⟨fun q => absurd q (by decide), fun q => absurd q h2⟩
theorem pu_ladd (x y : Int32) : (x.toInt64 + y.toInt64).toInt = x.toInt + y.toInt := by
  have a1 := x.le_toInt
  have a2 := x.toInt_lt
  have b1 := y.le_toInt
  have b2 := y.toInt_lt
  rw [Int64.toInt_add, Int32.toInt_toInt64, Int32.toInt_toInt64]
  exact Int.bmod_eq_of_le (by omega) (by omega)
theorem pu_span (o : Nat) (M : ch_Mem) {n : Nat} (hn : n ≤ 300) (h3 : M.1 o 3 = nI n) (x y : Int32) : (∃ i c, x = nI i ∧ y = nI c ∧ i + c ≤ n ∧ D_X2_hasSpan o x y M = some (1, M)) ∨ ((x < 0 ∨ y < 0 ∨ (nI n).toInt64 < x.toInt64 + y.toInt64) ∧ D_X2_hasSpan o x y M = some (0, M)) := by
  have t0 : (0 : Int32).toInt = 0 := by decide
  have tn : (nI n).toInt = n := nI_toInt (by omega)
  have a1 := x.le_toInt
  have a2 := x.toInt_lt
  have b1 := y.le_toInt
  have b2 := y.toInt_lt
  unfold D_X2_hasSpan
  rw [h3]
  by_cases hx : x.toInt < 0
  · right
    rw [if_pos (show x < 0 by rw [pu_lt]; omega)]
    exact ⟨Or.inl (by rw [pu_lt]; omega), rfl⟩
  · rw [if_neg (show ¬ x < 0 by rw [pu_lt]; omega)]
    by_cases hy : y.toInt < 0
    · right
      rw [if_pos (show y < 0 by rw [pu_lt]; omega)]
      exact ⟨Or.inr (Or.inl (by rw [pu_lt]; omega)), rfl⟩
    · rw [if_neg (show ¬ y < 0 by rw [pu_lt]; omega)]
      have ts : (nI n - y).toInt = (n : Int) - y.toInt := by
        rw [Int32.toInt_sub, tn]
        exact Int.bmod_eq_of_le (by omega) (by omega)
      by_cases hs : (n : Int) < x.toInt + y.toInt
      · right
        rw [if_pos (show nI n - y < x by rw [pu_lt]; omega)]
        refine ⟨Or.inr (Or.inr ?_), rfl⟩
        rw [Int64.lt_iff_toInt_lt, pu_ladd, Int32.toInt_toInt64]
        omega
      · left
        rw [if_neg (show ¬ nI n - y < x by rw [pu_lt]; omega)]
        exact ⟨x.toInt.toNat, y.toInt.toNat, pu_of x (by omega), pu_of y (by omega), by omega, rfl⟩
theorem pu_copy1 {r i q j c : Nat} (hr : r < 4) (hi : i + c ≤ 300) : ∀ (k t fu : Nat) (M : ch_Mem), t + k = c → k < fu → ∃ M1, D_X7_copy_L120 fu (nI r) (nI i) (nI q) (nI j) (nI c) (nI t) M = D_X7_copy_L158 ch_fu (nI q) (nI j) (nI c) 0 M1 ∧ (∀ a, a ≠ 12 → M1.1 a = M.1 a) ∧ M1.2 = M.2 ∧ (∀ z, t ≤ z → z < c → M1.1 12 z = M.1 11 (300 * r + i + z)) ∧ ∀ z, z < t → M1.1 12 z = M.1 12 z := by
  intro k
  induction k with
  | zero =>
    intro t fu M h1 h3
    obtain ⟨fu, rfl⟩ : ∃ f, fu = f + 1 := ⟨fu - 1, by omega⟩
    refine ⟨M, ?_, fun a _ => rfl, rfl, fun j h5 h6 => by omega, fun j _ => rfl⟩
    show D_X7_copy_b120 (D_X7_copy_L120 fu) _ _ _ _ _ _ M = _
    unfold D_X7_copy_b120 D_X7_copy_b155
    rw [if_pos (nI_le (by omega) (by omega))]
  | succ k ih =>
    intro t fu M h1 h3
    obtain ⟨fu, rfl⟩ : ∃ f, fu = f + 1 := ⟨fu - 1, by omega⟩
    obtain ⟨M1, e1, e2, e3, e4, e5⟩ := ih (t + 1) fu (ch_wI M 12 t (M.1 11 (300 * r + i + t))) (by omega) (by omega)
    refine ⟨M1, ?_, fun a ha => by rw [e2 a ha, pu_wn ha], e3, fun z h6 h7 => ?_, fun z h6 => by rw [e5 z (by omega), pu_wn2 (by omega)]⟩
    · show D_X7_copy_b120 (D_X7_copy_L120 fu) _ _ _ _ _ _ M = _
      unfold D_X7_copy_b120
      rw [if_neg (nI_ge (by omega) (by omega)), pu_300, nI_add, pu_gd (by omega) (by decide), pu_gd (by omega) (by decide), pu_cl (by omega), pu_cl (by omega), nI_1]
      exact e1
    · by_cases hz : z = t
      · subst hz
        rw [e5 _ (by omega), pu_ws]
      · rw [e4 z (by omega) h7, pu_wn (by decide)]
theorem pu_copy2 {q j c : Nat} (hq : q < 4) (hj : j + c ≤ 300) : ∀ (k t fu : Nat) (M : ch_Mem), t + k = c → k < fu → ∃ M1, D_X7_copy_L158 fu (nI q) (nI j) (nI c) (nI t) M = some (1, M1) ∧ (∀ a, a ≠ 11 → M1.1 a = M.1 a) ∧ M1.2 = M.2 ∧ (∀ z, t ≤ z → z < c → M1.1 11 (300 * q + j + z) = M.1 12 z) ∧ ∀ z, (z < 300 * q + j + t ∨ 300 * q + j + c ≤ z) → M1.1 11 z = M.1 11 z := by
  intro k
  induction k with
  | zero =>
    intro t fu M h1 h3
    obtain ⟨fu, rfl⟩ : ∃ f, fu = f + 1 := ⟨fu - 1, by omega⟩
    refine ⟨M, ?_, fun a _ => rfl, rfl, fun j h5 h6 => by omega, fun j _ => rfl⟩
    show D_X7_copy_b158 (D_X7_copy_L158 fu) _ _ _ _ M = _
    unfold D_X7_copy_b158
    rw [if_pos (nI_le (by omega) (by omega))]
  | succ k ih =>
    intro t fu M h1 h3
    obtain ⟨fu, rfl⟩ : ∃ f, fu = f + 1 := ⟨fu - 1, by omega⟩
    obtain ⟨M1, e1, e2, e3, e4, e5⟩ := ih (t + 1) fu (ch_wI M 11 (300 * q + j + t) (M.1 12 t)) (by omega) (by omega)
    refine ⟨M1, ?_, fun a ha => by rw [e2 a ha, pu_wn ha], e3, fun z h6 h7 => ?_, fun z h6 => by rw [e5 z (by omega), pu_wn2 (by omega)]⟩
    · show D_X7_copy_b158 (D_X7_copy_L158 fu) _ _ _ _ M = _
      unfold D_X7_copy_b158
      rw [if_neg (nI_ge (by omega) (by omega)), pu_300, nI_add, pu_gd (by omega) (by decide), pu_gd (by omega) (by decide), pu_cl (by omega), pu_cl (by omega), nI_1]
      exact e1
    · by_cases hz : z = t
      · subst hz
        rw [e5 _ (by omega), pu_ws]
      · rw [e4 z (by omega) h7, pu_wn (by decide)]
theorem pu_bad2 {MC MM : ch_Mem} (hR : ch_R MC MM) : ∃ (r : Int32) (MC1 MM1 : ch_Mem), D_X6_copy_b105 MC = some (r, MC1) ∧ D_X7_copy_b111 MM = some (r, MM1) ∧ ch_R MC1 MM1 := ⟨_, _, _, rfl, rfl, R_found hR 2⟩
theorem op_copy {MC MM : ch_Mem} (hR : ch_R MC MM) (a1 a2 a3 a4 a5 : Int32) : ∃ (r : Int32) (MC1 MM1 : ch_Mem), D_X6_copy a1 a2 a3 a4 a5 MC = some (r, MC1) ∧ D_X7_copy a1 a2 a3 a4 a5 MM = some (r, MM1) ∧ ch_R MC1 MM1 := by
  unfold D_X6_copy D_X7_copy
  rcases pu_reel a1 with ⟨r, -, hr, rfl, h1, h2⟩ | ⟨h1, h2⟩
  · rw [h1, h2]
    simp only [pu_bd, pu_10, ↓reduceIte]
    rcases pu_reel a3 with ⟨q, -, hq, rfl, g1, g2⟩ | ⟨g1, g2⟩
    · rw [g1, g2]
      simp only [pu_bd, pu_10, ↓reduceIte, pu_gd (show r < 4 by omega) (show 4 ≤ 100000 by decide), pu_gd (show q < 4 by omega) (show 4 ≤ 100000 by decide), pu_cl (show r ≤ 100000 by omega), pu_cl (show q ≤ 100000 by omega)]
      obtain ⟨n1, f1, b1, b2, b3, b4, b5, b6, b7, b8⟩ := hR.2.1 r (by omega)
      obtain ⟨n2, f2, c1, c2, c3, c4, c5, c6, c7, c8⟩ := hR.2.1 q (by omega)
      rw [b4, c4, b5, b6, c5, c6]
      rcases b7 with ⟨d1, d2⟩ | ⟨d1, d2⟩
      · rw [d1, d2, if_pos rfl, if_neg pu_10]
        rcases c7 with ⟨e1, e2⟩ | ⟨e1, e2⟩
        · rw [e1, e2, if_pos rfl, if_neg pu_10]
          by_cases hf : nI f1 = nI f2
          · rw [if_pos hf, if_pos hf]
            rcases pu_span (23 + r) MC b1 b3 a2 a5 with ⟨i, c, rfl, rfl, hic, s1⟩ | ⟨s0, s1⟩
            · have hi0 : ¬ nI i < 0 := nI_pos (by omega)
              have hc0 : ¬ nI c < 0 := nI_pos (by omega)
              rw [s1, pu_bd, if_neg pu_10, if_neg hi0, if_neg hc0]
              have hk1 : ¬ 0 < lg_cmp ((nI i).toInt64 + (nI c).toInt64) (nI n1).toInt64 := by
                rw [pu_lgt, Int64.lt_iff_toInt_lt, pu_ladd, Int32.toInt_toInt64, nI_toInt (by omega), nI_toInt (by omega), nI_toInt (by omega)]
                omega
              rw [if_neg hk1]
              rcases pu_span (23 + q) MC c1 c3 a4 (nI c) with ⟨j, c', rfl, hcc, hjc, s2⟩ | ⟨s0, s2⟩
              · have hj0 : ¬ nI j < 0 := nI_pos (by omega)
                have hcc' : c' = c := by
                  have := congrArg Int32.toInt hcc
                  rw [nI_toInt (by omega), nI_toInt (by omega)] at this
                  omega
                subst hcc'
                have hk2 : lg_cmp ((nI j).toInt64 + (nI c').toInt64) (nI n2).toInt64 ≤ 0 := by
                  rw [pu_lle, Int64.lt_iff_toInt_lt, pu_ladd, Int32.toInt_toInt64, nI_toInt (by omega), nI_toInt (by omega), nI_toInt (by omega)]
                  omega
                rw [s2, pu_bd, if_neg pu_10, if_neg hj0, if_pos hk2]
                have hcp : ∀ (β : Type) (x : Option β), ch_cp (nI i) (nI j) (nI c') 300 300 x = x := by
                  intro β x
                  unfold ch_cp
                  rw [if_neg]
                  rw [pu_cl (by omega), pu_cl (by omega), pu_cl (by omega)]
                  intro z
                  rcases z with z | z | z | z | z
                  · exact hi0 z
                  · exact hj0 z
                  · exact hc0 z
                  · omega
                  · omega
                rw [hcp, pu_cl (by omega), pu_cl (by omega), pu_cl (by omega)]
                obtain ⟨N1, u1, u2, u3, u4, u5⟩ := pu_copy1 (r := r) (i := i) (q := q) (j := j) (c := c') (by omega) (by omega) c' 0 ch_fu MM (by omega) (by unfold ch_fu; omega)
                obtain ⟨N2, v1, v2, v3, v4, v5⟩ := pu_copy2 (q := q) (j := j) (c := c') (by omega) (by omega) c' 0 ch_fu N1 (by omega) (by unfold ch_fu; omega)
                have u1' : D_X7_copy_L120 ch_fu (nI r) (nI i) (nI q) (nI j) (nI c') 0 MM = some (1, N2) := u1.trans v1
                rw [u1']
                refine ⟨_, _, _, rfl, rfl, ?_⟩
                obtain ⟨p1, p2, p3, p4, p5⟩ := hR
                have wA : ∀ a, a ≠ 23 + q + 4 → (ch_wA MC (23 + q + 4) (va_cpy (MC.1 (23 + r + 4)) (MC.1 (23 + q + 4)) i j c')).1 a = MC.1 a := fun a ha => by rw [pu_A, if_neg ha]
                have wM : ∀ a, a ≠ 11 → a ≠ 12 → N2.1 a = MM.1 a := fun a h1 h2 => by rw [v2 a h1, u2 a h2]
                refine ⟨Rr_of p1 (fun k h1 h2 => wA k (by omega)) (wM 1 (by decide) (by decide)) (wM 2 (by decide) (by decide)), ?_, Rp_of p3 (by rw [wA 5 (by omega)]) rfl (wA 35 (by omega)) (wA 36 (by omega)) (wA 37 (by omega)) (by rw [wM 0 (by decide) (by decide)]) (by rw [v3, u3]) (wM 4 (by decide) (by decide)), Rn_of p4 (by rw [wA 6 (by omega)]) (wA 38 (by omega)) (wA 39 (by omega)) (by rw [wM 0 (by decide) (by decide)]) (wM 6 (by decide) (by decide)) (wM 7 (by decide) (by decide)), Rd_of p5 (by rw [wA 0 (by omega)]) (by rw [wA 0 (by omega)]) (by rw [wM 0 (by decide) (by decide)]) (by rw [wM 0 (by decide) (by decide)])⟩
                intro r1 hr1
                obtain ⟨m1, g1, k1, k2, k3, k4, k5, k6, k7, k8⟩ := p2 r1 hr1
                refine ⟨m1, g1, k1, k2, by rw [wA _ (by omega)]; exact k3, by rw [wM 10 (by decide) (by decide)]; exact k4, by rw [wA _ (by omega)]; exact k5, by rw [wM 9 (by decide) (by decide)]; exact k6, by rw [wA _ (by omega), wM 8 (by decide) (by decide)]; exact k7, fun z hz => ?_⟩
                by_cases hrq : r1 = q
                · subst hrq
                  have hm : m1 = n2 := (nI_eq (by omega) (by omega)).mp (k3.symm.trans c3)
                  rw [pu_A, if_pos rfl]
                  by_cases hin : j ≤ z ∧ z < j + c'
                  · have hv := v4 (z - j) (by omega) (by omega)
                    rw [show 300 * r1 + j + (z - j) = 300 * r1 + z by omega] at hv
                    rw [hv, u4 (z - j) (by omega) (by omega)]
                    unfold va_cpy
                    rw [if_pos hin, show 300 * r + i + (z - j) = 300 * r + (i + (z - j)) by omega]
                    exact b8 _ (by omega)
                  · unfold va_cpy
                    rw [if_neg hin, v5 _ (by omega), u2 11 (by decide)]
                    exact k8 z hz
                · rw [wA _ (by omega), v5 _ (by omega), u2 11 (by decide)]
                  exact k8 z hz
              · rw [s2, pu_bd, if_pos rfl]
                have hm : (if a4 < 0 then D_X7_copy_b111 MM else if lg_cmp (a4.toInt64 + (nI c).toInt64) (nI n2).toInt64 ≤ 0 then D_X7_copy_L120 ch_fu (nI r) (nI i) (nI q) a4 (nI c) 0 MM else D_X7_copy_b111 MM) = D_X7_copy_b111 MM := by
                  by_cases hq4 : a4 < 0
                  · rw [if_pos hq4]
                  · rw [if_neg hq4, if_neg]
                    rw [pu_lle]
                    intro z
                    rcases s0 with s0 | s0 | s0
                    · exact hq4 s0
                    · exact hc0 s0
                    · exact z s0
                rw [hm]
                exact pu_bad2 hR
            · rw [s1, pu_bd, if_pos rfl]
              have hm : (if a2 < 0 then D_X7_copy_b111 MM else if a4 < 0 then D_X7_copy_b111 MM else if a5 < 0 then D_X7_copy_b111 MM else if 0 < lg_cmp (a2.toInt64 + a5.toInt64) (nI n1).toInt64 then D_X7_copy_b111 MM else if lg_cmp (a4.toInt64 + a5.toInt64) (nI n2).toInt64 ≤ 0 then D_X7_copy_L120 ch_fu (nI r) a2 (nI q) a4 a5 0 MM else D_X7_copy_b111 MM) = D_X7_copy_b111 MM := by
                by_cases hq2 : a2 < 0
                · rw [if_pos hq2]
                · rw [if_neg hq2]
                  by_cases hq4 : a4 < 0
                  · rw [if_pos hq4]
                  · rw [if_neg hq4]
                    by_cases hq5 : a5 < 0
                    · rw [if_pos hq5]
                    · rw [if_neg hq5, if_pos]
                      rw [pu_lgt]
                      rcases s0 with s0 | s0 | s0
                      · exact absurd s0 hq2
                      · exact absurd s0 hq5
                      · exact s0
              rw [hm]
              exact pu_bad2 hR
          · rw [if_neg hf, if_neg hf]
            exact ⟨_, _, _, rfl, rfl, R_found hR 4⟩
        · rw [e1, e2, if_neg pu_10, if_pos rfl]
          exact ⟨_, _, _, rfl, rfl, R_found hR 1⟩
      · rw [d1, d2, if_neg pu_10, if_pos rfl]
        exact ⟨_, _, _, rfl, rfl, R_found hR 1⟩
    · rw [g1, g2]
      exact ⟨_, MC, MM, rfl, rfl, hR⟩
  · rw [h1, h2]
    exact ⟨_, MC, MM, rfl, rfl, hR⟩
theorem pu_addL {r q k d n sz m : Nat} (hr : r < 8) (hq : q < 4) (hd : d ≤ 126) (h0 : 0 < n) (hn : n ≤ 127) (hs : sz ≤ 300) (hm : m ≤ n) (hk : k + m ≤ sz) (x5 : Int32) : ∀ (e t fu : Nat) (MC MM : ch_Mem), t + e = m → e < fu → ch_R MC MM → MC.1 (7 + r) 1 = nI n → MM.1 1 r = nI n → MC.1 (23 + q) 3 = nI sz → MC.1 (23 + q) 1 = 0 → ∃ MC1 MM1, D_X6_add_L125 fu (nI r) (nI q) (nI k) (nI d) x5 (nI m) (nI t) MC = some (nI m, MC1) ∧ D_X7_add_L125 fu (nI r) (nI q) (nI k) (nI d) x5 (nI m) (nI t) MM = some (nI m, MM1) ∧ ch_R MC1 MM1 := by
  intro e
  induction e with
  | zero =>
    intro t fu MC MM h1 h3 hR g1 g2 g3 g4
    obtain ⟨fu, rfl⟩ : ∃ f, fu = f + 1 := ⟨fu - 1, by omega⟩
    refine ⟨MC, MM, ?_, ?_, hR⟩
    · show D_X6_add_b125 (D_X6_add_L125 fu) _ _ _ _ _ _ _ MC = _
      unfold D_X6_add_b125 D_X6_add_b186
      rw [if_pos (nI_le (by omega) (by omega))]
    · show D_X7_add_b125 (D_X7_add_L125 fu) _ _ _ _ _ _ _ MM = _
      unfold D_X7_add_b125 D_X7_add_b187
      rw [if_pos (nI_le (by omega) (by omega))]
  | succ e ih =>
    intro t fu MC MM h1 h3 hR g1 g2 g3 g4
    obtain ⟨fu, rfl⟩ : ∃ f, fu = f + 1 := ⟨fu - 1, by omega⟩
    obtain ⟨n1, f1, b1, b2, b3, b4, b5, b6, b7, b8⟩ := hR.2.1 q hq
    have hn1 : n1 = sz := (nI_eq (by omega) (by omega)).mp (b3.symm.trans g3)
    obtain ⟨n2, c1, c2, c3, c4⟩ := hR.1 r hr
    have hn2 : n2 = n := (nI_eq (by omega) (by omega)).mp (c2.symm.trans g1)
    subst hn1
    subst hn2
    have hmod : (t + d) % n2 < n2 := Nat.mod_lt _ h0
    have hit : D_X2_hasItem (23 + q) (nI (k + t)) MC = some (1, MC) := by
      unfold D_X2_hasItem
      rw [if_pos g4, if_neg (nI_pos (by omega)), g3, if_neg (nI_ge (by omega) (by omega))]
    obtain ⟨v, hv⟩ : ∃ v : Int32, v = MC.1 (23 + q + 4) (k + t) + x5 * MC.1 (7 + r + 8) ((t + d) % n2) := ⟨_, rfl⟩
    obtain ⟨w, w1, w2⟩ := pu_cut (23 + q) MC MM (nI f1) v b5
    have hR' := R_item hR hq b1 (show k + t < n1 by omega) g3 w
    obtain ⟨MC1, MM1, z1, z2, z3⟩ := ih (t + 1) fu (ch_wI MC (23 + q + 4) (k + t) w) (ch_wI MM 11 (300 * q + (k + t)) w) (by omega) (by omega) hR' (by rw [pu_wn2 (by omega)]; exact g1) (by rw [pu_wn2 (by omega)]; exact g2) (by rw [pu_wn2 (by omega)]; exact g3) (by rw [pu_wn2 (by omega)]; exact g4)
    refine ⟨MC1, MM1, ?_, ?_, z3⟩
    · show D_X6_add_b125 (D_X6_add_L125 fu) _ _ _ _ _ _ _ MC = _
      unfold D_X6_add_b125
      rw [if_neg (nI_ge (by omega) (by omega)), pu_gd hr (by decide), pu_cl (by omega), nI_add, pu_signAt g1 h0 hn (by omega), pu_bd, pu_gd hq (by decide), pu_gd hq (by decide), pu_cl (by omega), nI_add]
      unfold D_X2_itemOrZero D_X2_keep
      rw [hit]
      simp only [pu_bd, pu_10, ↓reduceIte, pu_gd (show k + t < 300 by omega) (show 300 ≤ 100000 by decide), pu_cl (show k + t ≤ 100000 by omega), hit, ← hv, w1, nI_1]
      exact z1
    · show D_X7_add_b125 (D_X7_add_L125 fu) _ _ _ _ _ _ _ MM = _
      unfold D_X7_add_b125
      rw [if_neg (nI_ge (by omega) (by omega)), pu_gd hq (by decide), pu_300, nI_add, pu_gd (by omega) (by decide), nI_add, pu_signOf g2 hr h0 hn (by omega), pu_bd, pu_cl (by omega), pu_cl (by omega), b6, (c4 _ hmod).2, show 300 * q + k + t = 300 * q + (k + t) by omega, b8 _ (by omega), ← hv, w2, pu_bd, pu_gd (by omega) (by decide), nI_1]
      exact z2
theorem op_add {MC MM : ch_Mem} (hR : ch_R MC MM) (a1 a2 a3 a4 a5 : Int32) : ∃ (r : Int32) (MC1 MM1 : ch_Mem), D_X6_add a1 a2 a3 a4 a5 MC = some (r, MC1) ∧ D_X7_add a1 a2 a3 a4 a5 MM = some (r, MM1) ∧ ch_R MC1 MM1 := by
  unfold D_X6_add D_X7_add
  rcases pu_row a1 with ⟨r, -, hr, rfl, h1, h2⟩ | ⟨h1, h2⟩
  · rw [h1, h2]
    simp only [pu_bd, pu_10, ↓reduceIte]
    rcases pu_reel a2 with ⟨q, -, hq, rfl, g1, g2⟩ | ⟨g1, g2⟩
    · rw [g1, g2]
      simp only [pu_bd, pu_10, ↓reduceIte]
      by_cases hk : a3 < 0
      · rw [if_pos hk, if_pos hk]
        exact ⟨_, MC, MM, rfl, rfl, hR⟩
      · rw [if_neg hk, if_neg hk]
        rcases pu_shift a4 with ⟨d, -, hd, rfl, k1, k2⟩ | ⟨k1, k2⟩
        · rw [k1, k2]
          simp only [pu_bd, pu_10, ↓reduceIte, D_X7_in]
          by_cases hs1 : a5 < -1000
          · rw [if_pos hs1, if_pos hs1]
            exact ⟨_, MC, MM, rfl, rfl, hR⟩
          · rw [if_neg hs1, if_neg hs1]
            by_cases hs2 : a5 ≤ 1000
            · have hs3 : ¬ (1000 : Int32) < a5 := by rw [pu_lt]; rw [pu_le] at hs2; omega
              rw [if_pos hs2, if_neg hs3]
              simp only [pu_bd, pu_10, ↓reduceIte, pu_gd (show r < 8 by omega) (show 8 ≤ 100000 by decide), pu_gd (show q < 4 by omega) (show 4 ≤ 100000 by decide), pu_cl (show r ≤ 100000 by omega), pu_cl (show q ≤ 100000 by omega), D_X3_isNone]
              obtain ⟨sz, f1, b1, b2, b3, b4, b5, b6, b7, b8⟩ := hR.2.1 q (by omega)
              obtain ⟨n, c1, c2, c3, c4⟩ := hR.1 r (by omega)
              rw [b4, c3]
              rcases b7 with ⟨d1, d2⟩ | ⟨d1, d2⟩
              · rw [d1, d2, if_pos rfl, if_neg pu_10, c2]
                rcases Nat.eq_zero_or_pos n with rfl | hn
                · rw [if_neg (by decide), if_pos (by rfl), pu_bd, if_neg pu_10]
                  exact ⟨_, MC, MM, rfl, rfl, hR⟩
                · rw [if_pos (pu_1le hn (by omega)), if_neg (nI_ne0 hn (by omega)), pu_bd, if_pos rfl, b3]
                  obtain ⟨k, hk31, rfl⟩ := nI_of hk
                  by_cases hks : k ≤ sz
                  · rw [if_pos (nI_le hks (by omega)), if_pos (nI_le hks (by omega)), pk_sub hks, c2]
                    unfold D_X7_add_b120
                    rw [pu_nm]
                    obtain ⟨m, hm⟩ : ∃ m, m = if sz - k < n then sz - k else n := ⟨_, rfl⟩
                    have e1 : (if nI (sz - k) < nI n then nI (sz - k) else nI n) = nI m := by
                      by_cases hq2 : sz - k < n
                      · rw [if_pos (nI_lt hq2 (by omega)), hm, if_pos hq2]
                      · rw [if_neg (nI_nlt (by omega) (by omega)), hm, if_neg hq2]
                    have e2 : (if nI (sz - k) ≤ nI n then D_X7_add_L125 ch_fu (nI r) (nI q) (nI k) (nI d) a5 (nI (sz - k)) 0 MM else D_X7_add_L125 ch_fu (nI r) (nI q) (nI k) (nI d) a5 (nI n) 0 MM) = D_X7_add_L125 ch_fu (nI r) (nI q) (nI k) (nI d) a5 (nI m) 0 MM := by
                      by_cases hq2 : sz - k ≤ n
                      · rw [if_pos (nI_le hq2 (by omega)), hm]
                        by_cases hq3 : sz - k < n
                        · rw [if_pos hq3]
                        · rw [if_neg hq3, show sz - k = n by omega]
                      · rw [if_neg (nI_ge (by omega) (by omega)), hm, if_neg (by omega)]
                    rw [e1, e2]
                    have hm2 : m ≤ n ∧ k + m ≤ sz := by
                      rw [hm]
                      by_cases hq2 : sz - k < n
                      · rw [if_pos hq2]; omega
                      · rw [if_neg hq2]; omega
                    obtain ⟨MC1, MM1, z1, z2, z3⟩ := pu_addL (r := r) (q := q) (k := k) (d := d) (n := n) (sz := sz) (m := m) (by omega) (by omega) hd hn c1 b1 hm2.1 hm2.2 a5 m 0 ch_fu MC MM (by omega) (by unfold ch_fu; omega) hR c2 c3 b3 d1
                    exact ⟨_, MC1, MM1, z1, z2, z3⟩
                  · rw [if_neg (nI_ge (by omega) (by omega)), if_neg (nI_ge (by omega) (by omega))]
                    exact ⟨_, _, _, rfl, rfl, R_found hR 2⟩
              · rw [d1, d2, if_neg pu_10, if_pos rfl]
                exact ⟨_, _, _, rfl, rfl, R_found hR 1⟩
            · have hs3 : (1000 : Int32) < a5 := by rw [pu_lt]; rw [pu_le] at hs2; omega
              rw [if_neg hs2, if_pos hs3]
              exact ⟨_, MC, MM, rfl, rfl, hR⟩
        · rw [k1, k2]
          exact ⟨_, MC, MM, rfl, rfl, hR⟩
    · rw [g1, g2]
      exact ⟨_, MC, MM, rfl, rfl, hR⟩
  · rw [h1, h2]
    exact ⟨_, MC, MM, rfl, rfl, hR⟩
