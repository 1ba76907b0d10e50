theorem pu_gcdL (M : ch_Mem) : ∀ (fu x y : Nat), y < fu → x ≤ 127 → y ≤ 127 → D_X7_divisor_L4 fu (nI x) (nI y) M = some (nI (Nat.gcd x y), M) := by
  intro fu
  induction fu with
  | zero => intro x y h; omega
  | succ fu ih =>
    intro x y h1 hx hy
    show D_X7_divisor_b4 (D_X7_divisor_L4 fu) _ _ M = _
    unfold D_X7_divisor_b4 D_X7_divisor_b21
    rcases Nat.eq_zero_or_pos y with rfl | hp
    · rw [if_pos (by decide), Nat.gcd_zero_right]
    · have hm : x % y < y := Nat.mod_lt _ hp
      rw [if_neg (nI_nle hp (by omega)), pu_g0 hp (by omega), pu_rem (by omega) hp (by omega), ih y (x % y) (by omega) (by omega) (by omega), Nat.gcd_comm x y, Nat.gcd_rec y x, Nat.gcd_comm (x % y) y]
theorem pu_gcd (M : ch_Mem) {x y : Nat} (hx : x ≤ 127) (hy : y ≤ 127) : D_X7_divisor (nI x) (nI y) M = some (nI (Nat.gcd x y), M) := pu_gcdL M ch_fu x y (by unfold ch_fu; omega) hx hy
theorem pu_divI {l n : Nat} {ln : Nat → Nat} (hn : n ≤ 5) {M : ch_Mem} (e : M.1 6 2 = nI n) (hl : ∀ i, i < n → M.1 38 i = nI (ln i) ∧ ln i ≤ 127) (h127 : l ≤ 127) (k2 : Int32 → Int32 → ch_Mem → Option (Int32 × ch_Mem)) {d : Nat} (hd2 : 2 ≤ d) (hd : d ≤ l) : ∀ (k i fu : Nat), i + k = n → k < fu → (D_X0_haveDivisorWith_L9 k2 fu (nI l) (nI d) (nI i) M = some (1, M) ∧ ∃ j, j < n ∧ l % d = 0 ∧ ln j % d = 0) ∨ (D_X0_haveDivisorWith_L9 k2 fu (nI l) (nI d) (nI i) M = k2 (nI l) (nI (d + 1)) M ∧ ∀ j, i ≤ j → j < n → ¬ (l % d = 0 ∧ ln j % d = 0)) := by
  intro k
  induction k with
  | zero =>
    intro i fu h1 h3
    obtain ⟨fu, rfl⟩ : ∃ q, fu = q + 1 := ⟨fu - 1, by omega⟩
    right
    refine ⟨?_, fun j j1 j2 => by omega⟩
    show D_X0_haveDivisorWith_b9 k2 (D_X0_haveDivisorWith_L9 k2 fu) _ _ _ M = _
    unfold D_X0_haveDivisorWith_b9 D_X0_haveDivisorWith_b42
    rw [e, if_pos (nI_le (by omega) (by omega)), nI_1]
  | succ k ih =>
    intro i fu h1 h3
    obtain ⟨fu, rfl⟩ : ∃ q, fu = q + 1 := ⟨fu - 1, by omega⟩
    have e0 : D_X0_haveDivisorWith_L9 k2 (fu + 1) (nI l) (nI d) (nI i) M = D_X0_haveDivisorWith_b9 k2 (D_X0_haveDivisorWith_L9 k2 fu) (nI l) (nI d) (nI i) M := rfl
    rw [e0]
    unfold D_X0_haveDivisorWith_b9 D_X0_haveDivisorWith_b36
    obtain ⟨l1, l2⟩ := hl i (by omega)
    have m1 : l % d < d := Nat.mod_lt _ (by omega)
    have m2 : ln i % d < d := Nat.mod_lt _ (by omega)
    rw [e, if_neg (nI_ge (by omega) (by omega)), pu_g0 (by omega) (by omega), pu_rem (by omega) (by omega) (by omega)]
    by_cases hc : l % d = 0
    · rw [if_pos (by rw [hc]; rfl), pu_gd (by omega) (by decide), pu_g0 (by omega) (by omega), pu_cl (by omega), l1, pu_rem (by omega) (by omega) (by omega)]
      by_cases hc2 : ln i % d = 0
      · left
        rw [if_pos (by rw [hc2]; rfl)]
        exact ⟨rfl, i, by omega, hc, hc2⟩
      · rw [if_neg (nI_ne0 (by omega) (by omega)), nI_1]
        rcases ih (i + 1) fu (by omega) (by omega) with ⟨q1, q2⟩ | ⟨q1, q2⟩
        · exact Or.inl ⟨q1, q2⟩
        · refine Or.inr ⟨q1, fun j j1 j2 => ?_⟩
          by_cases hji : j = i
          · subst hji; exact fun z => hc2 z.2
          · exact q2 j (by omega) j2
    · rw [if_neg (nI_ne0 (by omega) (by omega)), nI_1]
      rcases ih (i + 1) fu (by omega) (by omega) with ⟨q1, q2⟩ | ⟨q1, q2⟩
      · exact Or.inl ⟨q1, q2⟩
      · exact Or.inr ⟨q1, fun j _ _ z => hc z.1⟩
theorem pu_divO {l n : Nat} {ln : Nat → Nat} (hn : n ≤ 5) {M : ch_Mem} (e : M.1 6 2 = nI n) (hl : ∀ i, i < n → M.1 38 i = nI (ln i) ∧ ln i ≤ 127) (h127 : l ≤ 127) : ∀ (k d fu : Nat), d + k = l + 1 → 2 ≤ d → k < fu → (D_X0_haveDivisorWith_L2 fu (nI l) (nI d) M = some (1, M) ∧ ∃ d j, 2 ≤ d ∧ j < n ∧ l % d = 0 ∧ ln j % d = 0) ∨ (D_X0_haveDivisorWith_L2 fu (nI l) (nI d) M = some (0, M) ∧ ∀ c j, d ≤ c → c ≤ l → j < n → ¬ (l % c = 0 ∧ ln j % c = 0)) := by
  intro k
  induction k with
  | zero =>
    intro d fu h1 h2 h3
    obtain ⟨fu, rfl⟩ : ∃ q, fu = q + 1 := ⟨fu - 1, by omega⟩
    right
    refine ⟨?_, fun c j c1 c2 => by omega⟩
    show D_X0_haveDivisorWith_b2 (D_X0_haveDivisorWith_L2 fu) _ _ M = _
    unfold D_X0_haveDivisorWith_b2
    rw [if_pos (nI_lt (by omega) (by omega))]
  | succ k ih =>
    intro d fu h1 h2 h3
    obtain ⟨fu, rfl⟩ : ∃ q, fu = q + 1 := ⟨fu - 1, by omega⟩
    have e0 : D_X0_haveDivisorWith_L2 (fu + 1) (nI l) (nI d) M = D_X0_haveDivisorWith_b2 (D_X0_haveDivisorWith_L2 fu) (nI l) (nI d) M := rfl
    rw [e0]
    unfold D_X0_haveDivisorWith_b2
    rw [if_neg (nI_nlt (by omega) (by omega))]
    rcases pu_divI hn e hl h127 (D_X0_haveDivisorWith_L2 fu) h2 (show d ≤ l by omega) n 0 ch_fu (by omega) (by unfold ch_fu; omega) with ⟨q1, j, j1, j2, j3⟩ | ⟨q1, q2⟩
    · exact Or.inl ⟨q1, d, j, h2, j1, j2, j3⟩
    · rcases ih (d + 1) fu (by omega) (by omega) (by omega) with ⟨p1, p2⟩ | ⟨p1, p2⟩
      · exact Or.inl ⟨q1.trans p1, p2⟩
      · refine Or.inr ⟨q1.trans p1, fun c j c1 c2 j1 => ?_⟩
        by_cases hcd : c = d
        · subst hcd; exact q2 j (Nat.zero_le _) j1
        · exact p2 c j (by omega) c2 j1
theorem pu_lenM {l n : Nat} {ln : Nat → Nat} (hn : n ≤ 5) {M : ch_Mem} (e : M.1 0 10 = nI n) (hl : ∀ i, i < n → M.1 6 i = nI (ln i) ∧ ln i ≤ 127) (h127 : l ≤ 127) (x2 : Int32) : ∀ (k i fu : Nat), i + k = n → k < fu → (D_X7_length_L26 fu (nI l) x2 (nI i) M = some (-2, M) ∧ ∃ j, j < n ∧ 1 < Nat.gcd l (ln j)) ∨ (D_X7_length_L26 fu (nI l) x2 (nI i) M = D_X7_length_b57 (nI l) x2 M ∧ ∀ j, i ≤ j → j < n → Nat.gcd l (ln j) ≤ 1) := by
  intro k
  induction k with
  | zero =>
    intro i fu h1 h3
    obtain ⟨fu, rfl⟩ : ∃ q, fu = q + 1 := ⟨fu - 1, by omega⟩
    right
    refine ⟨?_, fun j j1 j2 => by omega⟩
    show D_X7_length_b26 (D_X7_length_L26 fu) _ _ _ M = _
    unfold D_X7_length_b26
    rw [e, if_pos (nI_le (by omega) (by omega))]
  | succ k ih =>
    intro i fu h1 h3
    obtain ⟨fu, rfl⟩ : ∃ q, fu = q + 1 := ⟨fu - 1, by omega⟩
    have e0 : D_X7_length_L26 (fu + 1) (nI l) x2 (nI i) M = D_X7_length_b26 (D_X7_length_L26 fu) (nI l) x2 (nI i) M := rfl
    rw [e0]
    unfold D_X7_length_b26
    obtain ⟨l1, l2⟩ := hl i (by omega)
    have hg : Nat.gcd l (ln i) ≤ 127 := by
      rcases Nat.eq_zero_or_pos l with h0 | h0
      · rw [h0, Nat.gcd_zero_left]; exact l2
      · exact Nat.le_trans (Nat.gcd_le_left _ h0) h127
    rw [e, if_neg (nI_ge (by omega) (by omega)), pu_gd (by omega) (by decide), pu_cl (by omega), l1, pu_gcd M h127 l2, pu_bd]
    by_cases hc : Nat.gcd l (ln i) ≤ 1
    · rw [if_pos (show nI (Nat.gcd l (ln i)) ≤ 1 from nI_le (b := 1) hc (by decide)), nI_1]
      rcases ih (i + 1) fu (by omega) (by omega) with ⟨q1, q2⟩ | ⟨q1, q2⟩
      · exact Or.inl ⟨q1, q2⟩
      · refine Or.inr ⟨q1, fun j j1 j2 => ?_⟩
        by_cases hji : j = i
        · subst hji; exact hc
        · exact q2 j (by omega) j2
    · rw [if_neg (show ¬ nI (Nat.gcd l (ln i)) ≤ 1 from nI_ge (a := 1) (by omega) (by omega))]
      exact Or.inl ⟨rfl, i, by omega, by omega⟩
theorem op_length {MC MM : ch_Mem} (hR : ch_R MC MM) (a1 a2 : Int32) : ∃ (r : Int32) (MC1 MM1 : ch_Mem), D_X6_length a1 a2 MC = some (r, MC1) ∧ D_X7_length a1 a2 MM = some (r, MM1) ∧ ch_R MC1 MM1 := by
  unfold D_X6_length D_X7_length
  have t2 : (2 : Int32).toInt = 2 := by decide
  have t127 : (127 : Int32).toInt = 127 := by decide
  by_cases h : 2 ≤ a1.toInt ∧ a1.toInt ≤ 127
  · obtain ⟨l, rfl, l2, l127⟩ : ∃ l : Nat, a1 = nI l ∧ 2 ≤ l ∧ l ≤ 127 := ⟨a1.toInt.toNat, pu_of a1 (by omega), by omega, by omega⟩
    rw [nI_toInt (by omega)] at h
    have hin : D_X7_in (nI l) 2 127 MM = some (1, MM) := by
      unfold D_X7_in
      rw [if_neg (by rw [pu_lt, nI_toInt (by omega)]; omega), if_neg (by rw [pu_lt, nI_toInt (by omega)]; omega)]
    rw [if_neg (by rw [pu_lt, nI_toInt (by omega)]; omega), if_neg (by rw [pu_lt, nI_toInt (by omega)]; omega), hin, pu_bd, if_neg pu_10]
    rcases pu_below (P := l) (by omega) a2 with ⟨s, s1, rfl, s2, s3, s4, s5⟩ | ⟨s3, s4, s5⟩
    · rw [if_neg s2, if_neg s3, s5, pu_bd, if_neg pu_10]
      obtain ⟨a, b, c, ⟨n, ln, sf, d1, d2, d3, d4⟩, e⟩ := hR
      have hlC : ∀ i, i < n → MC.1 38 i = nI (ln i) ∧ ln i ≤ 127 := fun i hi => ⟨(d4 i hi).1, (d4 i hi).2.2.2.1⟩
      have hlM : ∀ i, i < n → MM.1 6 i = nI (ln i) ∧ ln i ≤ 127 := fun i hi => ⟨(d4 i hi).2.1, (d4 i hi).2.2.2.1⟩
      rcases pu_divO d1 d2 hlC l127 (l - 1) 2 ch_fu (by omega) (Nat.le_refl _) (by unfold ch_fu; omega) with ⟨q1, dd, j, w1, w2, w3, w4⟩ | ⟨q1, q2⟩
      · have q1' : D_X0_haveDivisorWith (nI l) MC = some (1, MC) := q1
        rw [q1', pu_bd, if_neg pu_10]
        rcases pu_lenM d1 d3 hlM l127 (nI s) n 0 ch_fu (by omega) (by unfold ch_fu; omega) with ⟨p1, p2⟩ | ⟨p1, p2⟩
        · have p1' : D_X7_length_L26 ch_fu (nI l) (nI s) 0 MM = some (-2, MM) := p1
          rw [p1']
          exact ⟨_, MC, MM, rfl, rfl, a, b, c, ⟨n, ln, sf, d1, d2, d3, d4⟩, e⟩
        · exfalso
          have hd := Nat.dvd_gcd (Nat.dvd_of_mod_eq_zero w3) (Nat.dvd_of_mod_eq_zero w4)
          have hg : 0 < Nat.gcd l (ln j) := Nat.gcd_pos_of_pos_left _ (by omega)
          have := Nat.le_of_dvd hg hd
          have := p2 j (Nat.zero_le _) w2
          omega
      · have q1' : D_X0_haveDivisorWith (nI l) MC = some (0, MC) := q1
        rw [q1', pu_bd, if_pos rfl]
        rcases pu_lenM d1 d3 hlM l127 (nI s) n 0 ch_fu (by omega) (by unfold ch_fu; omega) with ⟨p1, j, p2, p3⟩ | ⟨p1, p2⟩
        · exfalso
          exact q2 (Nat.gcd l (ln j)) j (by omega) (Nat.gcd_le_left _ (by omega)) p2 ⟨Nat.mod_eq_zero_of_dvd (Nat.gcd_dvd_left _ _), Nat.mod_eq_zero_of_dvd (Nat.gcd_dvd_right _ _)⟩
        · have p1' : D_X7_length_L26 ch_fu (nI l) (nI s) 0 MM = D_X7_length_b57 (nI l) (nI s) MM := p1
          rw [p1']
          unfold D_X7_length_b57
          rw [d2, d3]
          by_cases hn5 : n = 5
          · subst hn5
            rw [if_neg (by decide), if_pos (by rfl)]
            exact ⟨_, MC, MM, rfl, rfl, a, b, c, ⟨5, ln, sf, d1, d2, d3, d4⟩, e⟩
          · have hn : n < 5 := by omega
            have hne : ¬ nI n = 5 := fun z => hn5 ((nI_eq (b := 5) (by omega) (by decide)).mp z)
            rw [if_pos (show nI n < 5 from nI_lt (b := 5) hn (by decide)), if_neg hne]
            unfold D_X0_keep
            have w1 : (ch_wI MC 38 n (nI l)).1 6 2 = nI n := by rw [pu_wn2 (by omega)]; exact d2
            have w2 : (ch_wI (ch_wI MC 38 n (nI l)) 39 n (nI s)).1 6 2 = nI n := by rw [pu_wn2 (by omega)]; exact w1
            have v1 : (ch_wI MM 6 n (nI l)).1 0 10 = nI n := by rw [pu_wn2 (by omega)]; exact d3
            have v2 : (ch_wI (ch_wI MM 6 n (nI l)) 7 n (nI s)).1 0 10 = nI n := by rw [pu_wn2 (by omega)]; exact v1
            rw [d2, if_neg (show ¬ (5 : Int32) ≤ nI n from nI_ge (b := 5) hn (by decide))]
            simp only [pu_cl (show n ≤ 100000 by omega), w1, w2, v1, v2, pu_gd hn (show 5 ≤ 100000 by decide), pu_bd, nI_1, pu_ws]
            refine ⟨_, _, _, rfl, rfl, Rr_of a (fun k h1 h2 => by rw [pu_wn (by omega), pu_wn (by omega), pu_wn (by omega)]) (by rw [pu_wn (by decide), pu_wn (by decide), pu_wn (by decide)]) (by rw [pu_wn (by decide), pu_wn (by decide), pu_wn (by decide)]), Rl_of b (fun k h1 h2 => by rw [pu_wn (by omega), pu_wn (by omega), pu_wn (by omega)]) (by rw [pu_wn (by decide), pu_wn (by decide), pu_wn (by decide)]) (by rw [pu_wn (by decide), pu_wn (by decide), pu_wn (by decide)]) (by rw [pu_wn (by decide), pu_wn (by decide), pu_wn (by decide)]) (by rw [pu_wn (by decide), pu_wn (by decide), pu_wn (by decide)]), Rp_of c (by rw [pu_wn2 (by omega), pu_wn2 (by omega), pu_wn2 (by omega)]) rfl (by rw [pu_wn (by decide), pu_wn (by decide), pu_wn (by decide)]) (by rw [pu_wn (by decide), pu_wn (by decide), pu_wn (by decide)]) (by rw [pu_wn (by decide), pu_wn (by decide), pu_wn (by decide)]) (by rw [pu_wn2 (by omega), pu_wn2 (by omega), pu_wn2 (by omega)]) rfl (by rw [pu_wn (by decide), pu_wn (by decide), pu_wn (by decide)]), ?_, Rd_of e (by rw [pu_wn2 (by omega), pu_wn2 (by omega), pu_wn2 (by omega)]) (by rw [pu_wn2 (by omega), pu_wn2 (by omega), pu_wn2 (by omega)]) (by rw [pu_wn2 (by omega), pu_wn2 (by omega), pu_wn2 (by omega)]) (by rw [pu_wn2 (by omega), pu_wn2 (by omega), pu_wn2 (by omega)])⟩
            refine ⟨n + 1, fun i => if i = n then l else ln i, fun i => if i = n then s else sf i, by omega, pu_ws _ _ _ _, pu_ws _ _ _ _, fun i hi => ?_⟩
            by_cases hin2 : i = n
            · subst hin2
              simp only [↓reduceIte]
              refine ⟨by rw [pu_wn2 (by omega), pu_wn2 (by omega), pu_ws], by rw [pu_wn2 (by omega), pu_wn2 (by omega), pu_ws], l2, l127, by rw [pu_wn2 (by omega), pu_ws], by rw [pu_wn2 (by omega), pu_ws], s1, fun j hj => ?_⟩
              rw [if_neg (by omega)]
              have g1 := p2 j (Nat.zero_le _) hj
              have g2 : 0 < Nat.gcd l (ln j) := Nat.gcd_pos_of_pos_left _ (by omega)
              show Nat.gcd (ln j) l = 1
              rw [Nat.gcd_comm]
              omega
            · obtain ⟨k1, k2, k3, k4, k5, k6, k7, k8⟩ := d4 i (by omega)
              simp only [if_neg hin2]
              refine ⟨by rw [pu_wn2 (by omega), pu_wn2 (by omega), pu_wn2 (by omega)]; exact k1, by rw [pu_wn2 (by omega), pu_wn2 (by omega), pu_wn2 (by omega)]; exact k2, k3, k4, by rw [pu_wn2 (by omega), pu_wn2 (by omega), pu_wn2 (by omega)]; exact k5, by rw [pu_wn2 (by omega), pu_wn2 (by omega), pu_wn2 (by omega)]; exact k6, k7, fun j hj => ?_⟩
              rw [if_neg (by omega)]
              exact k8 j hj
    · rw [s5, pu_bd, if_pos rfl]
      by_cases q : a2 < 0
      · rw [if_pos q]
        exact ⟨_, MC, MM, rfl, rfl, hR⟩
      · rw [if_neg q, if_pos (s3.resolve_left q)]
        exact ⟨_, MC, MM, rfl, rfl, hR⟩
  · have hin : D_X7_in a1 2 127 MM = some (0, MM) := by
      unfold D_X7_in
      by_cases h0 : a1.toInt < 2
      · rw [if_pos (by rw [pu_lt]; omega)]
      · rw [if_neg (by rw [pu_lt]; omega), if_pos (by rw [pu_lt]; omega)]
    rw [hin, pu_bd, if_pos rfl]
    by_cases h0 : a1.toInt < 2
    · rw [if_pos (show a1 < 2 by rw [pu_lt]; omega)]
      exact ⟨_, MC, MM, rfl, rfl, hR⟩
    · rw [if_neg (show ¬ a1 < 2 by rw [pu_lt]; omega), if_pos (show 127 < a1 by rw [pu_lt]; omega)]
      exact ⟨_, MC, MM, rfl, rfl, hR⟩
/-! the least number that fits -/
def pu_pr (ln : Nat → Nat) : Nat → Nat
  | 0 => 1
  | i + 1 => pu_pr ln i * ln i
theorem pu_prb {ln : Nat → Nat} : ∀ {i : Nat}, (∀ j, j < i → 2 ≤ ln j ∧ ln j ≤ 127) → 1 ≤ pu_pr ln i ∧ pu_pr ln i ≤ 127 ^ i
  | 0, _ => ⟨Nat.le_refl _, Nat.le_refl _⟩
  | i + 1, h => by
    obtain ⟨a1, a2⟩ := pu_prb (i := i) (fun j hj => h j (by omega))
    obtain ⟨b1, b2⟩ := h i (by omega)
    refine ⟨Nat.mul_pos a1 (by omega), ?_⟩
    rw [Nat.pow_succ]
    exact Nat.mul_le_mul a2 b2
theorem pu_cop {ln : Nat → Nat} {m : Nat} : ∀ {i : Nat}, (∀ j, j < i → Nat.Coprime (ln j) m) → Nat.Coprime m (pu_pr ln i)
  | 0, _ => Nat.coprime_one_right m
  | i + 1, h => Nat.Coprime.mul_right (pu_cop (fun j hj => h j (by omega))) (h i (by omega)).symm
theorem pu_hit {x st len sh : Nat} (h : Nat.Coprime len st) (hs : sh < len) : ∃ t, t < len ∧ (x + t * st) % len = sh ∧ ∀ u, u < t → (x + u * st) % len ≠ sh := by
  have h0 : 0 < len := by omega
  obtain ⟨t, t1, t2⟩ := fb_onto (n := len) (f := fun t => (x + t * st) % len) (fun i _ => Nat.mod_lt _ h0) (fun i j hij hj e => by
    have e' : (x + i * st) % len = (x + j * st) % len := e
    have e2 := Nat.sub_mod_eq_zero_of_mod_eq e'.symm
    rw [show x + j * st - (x + i * st) = (j - i) * st by rw [Nat.sub_mul]; omega] at e2
    have e3 := Nat.Coprime.dvd_of_dvd_mul_right h (Nat.dvd_of_mod_eq_zero e2)
    have := Nat.le_of_dvd (by omega) e3
    omega) hs
  obtain ⟨k, k1, k2⟩ := pk_least (fun t => (x + t * st) % len = sh) ⟨t, t2⟩
  refine ⟨k, ?_, k1, fun u hu => k2 u hu⟩
  rcases Nat.lt_or_ge k len with q | q
  · exact q
  · exact absurd t2 (k2 t (by omega))
theorem pu_fitC {M : ch_Mem} {i y l s : Nat} (hi : i < 5) (e1 : M.1 38 i = nI l) (e2 : M.1 39 i = nI s) (hl : 2 ≤ l) (hl2 : l ≤ 127) (hs : s < l) (hy : y < 2 ^ 62) : D_X0_fits (lN y) (nI i) M = some (if y % l = s then 1 else 0, M) := by
  have hm : y % l < l := Nat.mod_lt _ (by omega)
  unfold D_X0_fits ch_g0L
  rw [pu_gd hi (by decide), pu_cl (by omega), e1, e2, if_neg (nI_nle (by omega) (by omega)), pu_gd hi (by decide), nI_l (by omega), nI_l (by omega), pu_gd hi (by decide), pk_lRem (by omega) (by omega) (by omega)]
  have hz : ¬ lN l = 0 := fun z => by
    have := (pk_lEQ (a := l) (b := 0) (by omega) (by decide)).mp z
    omega
  rw [if_neg hz]
  by_cases hc : y % l = s
  · rw [if_pos ((pu_leq _ _).mpr (congrArg lN hc)), if_pos hc]
  · rw [if_neg (fun q => hc ((pk_lEQ (by omega) (by omega)).mp ((pu_leq _ _).mp q))), if_neg hc]
theorem pu_ranC {M : ch_Mem} {i x st l s t : Nat} (hi : i < 5) (e1 : M.1 38 i = nI l) (e2 : M.1 39 i = nI s) (hl : 2 ≤ l) (hl2 : l ≤ 127) (hs : s < l) (ht : t < l) (h1 : (x + t * st) % l = s) (h2 : ∀ u, u < t → (x + u * st) % l ≠ s) (hb : x + t * st < 2 ^ 62) (k7 : Int64 → Int64 → Int32 → ch_Mem → Option (Int64 × ch_Mem)) : ∀ (k u fu : Nat), u + k = t → k < fu → D_X0_leastFitting_L19 k7 fu (lN (x + u * st)) (lN st) (nI i) (nI u) M = k7 (lN (x + t * st)) (lN (st * l)) (nI (i + 1)) M := by
  intro k
  induction k with
  | zero =>
    intro u fu g1 g2
    obtain ⟨fu, rfl⟩ : ∃ q, fu = q + 1 := ⟨fu - 1, by omega⟩
    obtain rfl : u = t := by omega
    show D_X0_leastFitting_b19 k7 (D_X0_leastFitting_L19 k7 fu) _ _ _ _ M = _
    unfold D_X0_leastFitting_b19 D_X0_leastFitting_b51
    rw [pu_gd hi (by decide), pu_cl (by omega), e1, if_neg (nI_ge (by omega) (by omega)), pu_fitC hi e1 e2 hl hl2 hs hb, if_pos h1, pu_bd, if_neg pu_10, pu_gd hi (by decide), e1, nI_l (by omega), lN_mul, nI_1]
  | succ k ih =>
    intro u fu g1 g2
    obtain ⟨fu, rfl⟩ : ∃ q, fu = q + 1 := ⟨fu - 1, by omega⟩
    have hle : x + u * st ≤ x + t * st := Nat.add_le_add_left (Nat.mul_le_mul_right _ (by omega)) _
    show D_X0_leastFitting_b19 k7 (D_X0_leastFitting_L19 k7 fu) _ _ _ _ M = _
    unfold D_X0_leastFitting_b19
    rw [pu_gd hi (by decide), pu_cl (by omega), e1, if_neg (nI_ge (by omega) (by omega)), pu_fitC hi e1 e2 hl hl2 hs (by omega), if_neg (h2 u (by omega)), pu_bd, if_pos rfl, lN_add, nI_1, show x + u * st + st = x + (u + 1) * st by rw [Nat.succ_mul]; omega]
    exact ih (u + 1) fu (by omega) (by omega)
theorem pu_ranM {M : ch_Mem} {i x st l s t : Nat} (hi : i < 5) (e1 : M.1 6 i = nI l) (e2 : M.1 7 i = nI s) (hl : 2 ≤ l) (hl2 : l ≤ 127) (hs : s < l) (ht : t < l) (h1 : (x + t * st) % l = s) (h2 : ∀ u, u < t → (x + u * st) % l ≠ s) (hb : x + t * st < 2 ^ 62) (k7 : Int64 → Int64 → Int32 → ch_Mem → Option (Int64 × ch_Mem)) : ∀ (k u fu : Nat), u + k = t → k < fu → D_X7_range_L16 k7 fu (lN (x + u * st)) (lN st) (nI i) M = k7 (lN (x + t * st)) (lN (st * l)) (nI (i + 1)) M := by
  have hz : ¬ lN l = 0 := fun z => by
    have := (pk_lEQ (a := l) (b := 0) (by omega) (by decide)).mp z
    omega
  intro k
  induction k with
  | zero =>
    intro u fu g1 g2
    obtain ⟨fu, rfl⟩ : ∃ q, fu = q + 1 := ⟨fu - 1, by omega⟩
    obtain rfl : u = t := by omega
    show D_X7_range_b16 k7 (D_X7_range_L16 k7 fu) _ _ _ M = _
    unfold D_X7_range_b16 D_X7_range_b45 ch_g0L
    rw [pu_gd hi (by decide), pu_cl (by omega), e1, e2, nI_l (by omega), nI_l (by omega), if_neg hz, pu_gd hi (by decide), pk_lRem (by omega) (by omega) (by omega), if_pos ((pu_leq _ _).mpr (congrArg lN h1)), pu_gd hi (by decide), lN_mul, nI_1]
  | succ k ih =>
    intro u fu g1 g2
    obtain ⟨fu, rfl⟩ : ∃ q, fu = q + 1 := ⟨fu - 1, by omega⟩
    have hle : x + u * st ≤ x + t * st := Nat.add_le_add_left (Nat.mul_le_mul_right _ (by omega)) _
    have hm : (x + u * st) % l < l := Nat.mod_lt _ (by omega)
    show D_X7_range_b16 k7 (D_X7_range_L16 k7 fu) _ _ _ M = _
    unfold D_X7_range_b16 ch_g0L
    rw [pu_gd hi (by decide), pu_cl (by omega), e1, e2, nI_l (by omega), nI_l (by omega), if_neg hz, pu_gd hi (by decide), pk_lRem (by omega) (by omega) (by omega), if_neg (fun q => h2 u (by omega) ((pk_lEQ (by omega) (by omega)).mp ((pu_leq _ _).mp q))), lN_add, show x + u * st + st = x + (u + 1) * st by rw [Nat.succ_mul]; omega]
    exact ih (u + 1) fu (by omega) (by omega)
theorem pu_ranL {MC MM : ch_Mem} {n : Nat} {ln sf : Nat → Nat} (d1 : n ≤ 5) (d2 : MC.1 6 2 = nI n) (d3 : MM.1 0 10 = nI n) (d4 : ∀ i, i < n → MC.1 38 i = nI (ln i) ∧ MM.1 6 i = nI (ln i) ∧ 2 ≤ ln i ∧ ln i ≤ 127 ∧ MC.1 39 i = nI (sf i) ∧ MM.1 7 i = nI (sf i) ∧ sf i < ln i ∧ ∀ j, j < i → Nat.Coprime (ln j) (ln i)) : ∀ (k i fu x : Nat), i + k = n → k < fu → x < pu_pr ln i → ∃ r : Int64, D_X0_leastFitting_L7 fu (lN x) (lN (pu_pr ln i)) (nI i) MC = some (r, MC) ∧ D_X7_range_L7 fu (lN x) (lN (pu_pr ln i)) (nI i) MM = some (r, MM) := by
  intro k
  induction k with
  | zero =>
    intro i fu x g1 g2 g3
    obtain ⟨fu, rfl⟩ : ∃ q, fu = q + 1 := ⟨fu - 1, by omega⟩
    refine ⟨lN x, ?_, ?_⟩
    · show D_X0_leastFitting_b7 (D_X0_leastFitting_L7 fu) _ _ _ MC = _
      unfold D_X0_leastFitting_b7 D_X0_leastFitting_b68
      rw [d2, if_pos (nI_le (by omega) (by omega))]
    · show D_X7_range_b7 (D_X7_range_L7 fu) _ _ _ MM = _
      unfold D_X7_range_b7 D_X7_range_b62
      rw [d3, if_pos (nI_le (by omega) (by omega))]
  | succ k ih =>
    intro i fu x g1 g2 g3
    obtain ⟨fu, rfl⟩ : ∃ q, fu = q + 1 := ⟨fu - 1, by omega⟩
    obtain ⟨f1, f2, f3, f4, f5, f6, f7, f8⟩ := d4 i (by omega)
    obtain ⟨p1, p2⟩ := pu_prb (ln := ln) (i := i) (fun j hj => ⟨(d4 j (by omega)).2.2.1, (d4 j (by omega)).2.2.2.1⟩)
    have p3 : 127 ^ i ≤ 127 ^ 4 := Nat.pow_le_pow_right (by decide) (by omega)
    have p4 : (127 : Nat) ^ 4 = 260144641 := by decide
    obtain ⟨t, t1, t2, t3⟩ := pu_hit (x := x) (st := pu_pr ln i) (len := ln i) (sh := sf i) (pu_cop f8) f7
    have hb : x + t * pu_pr ln i < pu_pr ln i * ln i := by
      have h5 : (t + 1) * pu_pr ln i ≤ ln i * pu_pr ln i := Nat.mul_le_mul_right _ (by omega)
      rw [Nat.succ_mul] at h5
      rw [Nat.mul_comm (pu_pr ln i) (ln i)]
      omega
    have hb2 : pu_pr ln i * ln i ≤ 260144641 * 127 := Nat.mul_le_mul (by omega) f4
    obtain ⟨r, r1, r2⟩ := ih (i + 1) fu (x + t * pu_pr ln i) (by omega) (by omega) hb
    have hC := pu_ranC (M := MC) (x := x) (st := pu_pr ln i) (t := t) (show i < 5 by omega) f1 f5 f3 f4 f7 t1 t2 t3 (by omega) (D_X0_leastFitting_L7 fu) t 0 ch_fu (by omega) (by unfold ch_fu; omega)
    have hM := pu_ranM (M := MM) (x := x) (st := pu_pr ln i) (t := t) (show i < 5 by omega) f2 f6 f3 f4 f7 t1 t2 t3 (by omega) (D_X7_range_L7 fu) t 0 ch_fu (by omega) (by unfold ch_fu; omega)
    rw [Nat.zero_mul, Nat.add_zero] at hC hM
    refine ⟨r, ?_, ?_⟩
    · show D_X0_leastFitting_b7 (D_X0_leastFitting_L7 fu) _ _ _ MC = _
      unfold D_X0_leastFitting_b7
      rw [d2, if_neg (nI_ge (by omega) (by omega))]
      exact hC.trans r1
    · show D_X7_range_b7 (D_X7_range_L7 fu) _ _ _ MM = _
      unfold D_X7_range_b7
      rw [d3, if_neg (nI_ge (by omega) (by omega))]
      exact hM.trans r2
theorem pu_range {MC MM : ch_Mem} (hR : ch_Rn MC MM) : ∃ r : Int64, D_X0_leastFitting MC = some (r, MC) ∧ D_X7_range MM = some (r, MM) := by
  obtain ⟨n, ln, sf, d1, d2, d3, d4⟩ := hR
  exact pu_ranL d1 d2 d3 d4 n 0 ch_fu 0 (by omega) (by unfold ch_fu; omega) (Nat.lt_succ_self 0)
theorem op_range {MC MM : ch_Mem} (hR : ch_R MC MM) : ∃ (r : Int64) (MC1 MM1 : ch_Mem), D_X6_range  MC = some (r, MC1) ∧ D_X7_range  MM = some (r, MM1) ∧ ch_R MC1 MM1 := by
  obtain ⟨r, r1, r2⟩ := pu_range hR.2.2.2.1
  refine ⟨r, MC, MM, ?_, r2, hR⟩
  unfold D_X6_range
  rw [r1, pu_bd]
/-! how many fit -/
theorem pu_howL {MC MM : ch_Mem} {n x : Nat} {ln sf : Nat → Nat} (d1 : n ≤ 5) (d2 : MC.1 6 2 = nI n) (d3 : MM.1 0 10 = nI n) (d4 : ∀ i, i < n → MC.1 38 i = nI (ln i) ∧ MM.1 6 i = nI (ln i) ∧ 2 ≤ ln i ∧ ln i ≤ 127 ∧ MC.1 39 i = nI (sf i) ∧ MM.1 7 i = nI (sf i) ∧ sf i < ln i ∧ ∀ j, j < i → Nat.Coprime (ln j) (ln i)) (hx : x ≤ 20000) (k21 : Int32 → Int32 → Int32 → Int32 → ch_Mem → Option (Int32 × ch_Mem)) (x1 x2 x3 : Int32) : ∀ (k i fu gu c : Nat), i + k = n → k < fu → k < gu → c ≤ i → ∃ m, m ≤ 5 ∧ D_X0_howManyFit_L4 fu (nI x) (nI c) (nI i) MC = some (nI m, MC) ∧ D_X7_mend_L33 k21 gu x1 x2 x3 (nI x) (nI c) (nI i) MM = D_X7_mend_b78 k21 x1 x2 x3 (nI x) (nI m) MM := by
  intro k
  induction k with
  | zero =>
    intro i fu gu c g1 g2 g3 g4
    obtain ⟨fu, rfl⟩ : ∃ q, fu = q + 1 := ⟨fu - 1, by omega⟩
    obtain ⟨gu, rfl⟩ : ∃ q, gu = q + 1 := ⟨gu - 1, by omega⟩
    refine ⟨c, by omega, ?_, ?_⟩
    · show D_X0_howManyFit_b4 (D_X0_howManyFit_L4 fu) _ _ _ MC = _
      unfold D_X0_howManyFit_b4 D_X0_howManyFit_b31
      rw [d2, if_pos (nI_le (by omega) (by omega))]
    · show D_X7_mend_b33 k21 (D_X7_mend_L33 k21 gu) _ _ _ _ _ _ MM = _
      unfold D_X7_mend_b33
      rw [d3, if_pos (nI_le (by omega) (by omega))]
  | succ k ih =>
    intro i fu gu c g1 g2 g3 g4
    obtain ⟨fu, rfl⟩ : ∃ q, fu = q + 1 := ⟨fu - 1, by omega⟩
    obtain ⟨gu, rfl⟩ : ∃ q, gu = q + 1 := ⟨gu - 1, by omega⟩
    obtain ⟨f1, f2, f3, f4, f5, f6, f7, f8⟩ := d4 i (by omega)
    have hm : x % ln i < ln i := Nat.mod_lt _ (by omega)
    have eC : D_X0_howManyFit_L4 (fu + 1) (nI x) (nI c) (nI i) MC = D_X0_howManyFit_b4 (D_X0_howManyFit_L4 fu) (nI x) (nI c) (nI i) MC := rfl
    have eM : D_X7_mend_L33 k21 (gu + 1) x1 x2 x3 (nI x) (nI c) (nI i) MM = D_X7_mend_b33 k21 (D_X7_mend_L33 k21 gu) x1 x2 x3 (nI x) (nI c) (nI i) MM := rfl
    rw [eC, eM]
    unfold D_X0_howManyFit_b4 D_X7_mend_b33 D_X0_howManyFit_b25 D_X7_mend_b69
    rw [d2, d3, if_neg (nI_ge (by omega) (by omega)), if_neg (nI_ge (by omega) (by omega)), nI_l (by omega), pu_fitC (show i < 5 by omega) f1 f5 f3 f4 f7 (by omega), pu_bd, pu_gd (by omega) (by decide), pu_gd (by omega) (by decide), pu_cl (by omega), f2, f6, pu_g0 (by omega) (by omega), pu_rem (by omega) (by omega) (by omega)]
    by_cases hc : x % ln i = sf i
    · rw [if_pos hc, if_neg pu_10, if_pos (congrArg nI hc), nI_1, nI_1]
      exact ih (i + 1) fu gu (c + 1) (by omega) (by omega) (by omega) (by omega)
    · rw [if_neg hc, if_pos rfl, if_neg (fun q => hc ((nI_eq (by omega) (by omega)).mp q)), Int32.add_zero, nI_1]
      exact ih (i + 1) fu gu c (by omega) (by omega) (by omega) (by omega)
theorem pu_how {MC MM : ch_Mem} (hR : ch_Rn MC MM) {x : Nat} (hx : x ≤ 20000) (k21 : Int32 → Int32 → Int32 → Int32 → ch_Mem → Option (Int32 × ch_Mem)) (x1 x2 x3 : Int32) : ∃ m, m ≤ 5 ∧ D_X0_howManyFit (nI x) MC = some (nI m, MC) ∧ D_X7_mend_L33 k21 ch_fu x1 x2 x3 (nI x) 0 0 MM = D_X7_mend_b78 k21 x1 x2 x3 (nI x) (nI m) MM := by
  obtain ⟨n, ln, sf, d1, d2, d3, d4⟩ := hR
  exact pu_howL d1 d2 d3 d4 hx k21 x1 x2 x3 n 0 ch_fu ch_fu 0 (by omega) (by unfold ch_fu; omega) (by unfold ch_fu; omega) (Nat.le_refl _)
theorem pu_mendL {MC MM : ch_Mem} (hR : ch_Rn MC MM) {h : Nat} (hh : h ≤ 20000) : ∀ (k x fu gu : Nat) (b y : Int32), x + k = h → k < fu → k < gu → ∃ r : Int32, D_X6_mend_L29 fu (nI h) b y (nI x) MC = some (r, MC) ∧ D_X7_mend_L21 gu (nI h) b y (nI x) MM = some (r, MM) := by
  intro k
  induction k with
  | zero =>
    intro x fu gu b y g1 g2 g3
    obtain ⟨fu, rfl⟩ : ∃ q, fu = q + 1 := ⟨fu - 1, by omega⟩
    obtain ⟨gu, rfl⟩ : ∃ q, gu = q + 1 := ⟨gu - 1, by omega⟩
    refine ⟨10 * b + y, ?_, ?_⟩
    · show D_X6_mend_b29 (D_X6_mend_L29 fu) _ _ _ _ MC = _
      unfold D_X6_mend_b29 D_X6_mend_b64
      rw [if_pos (nI_le (by omega) (by omega))]
    · show D_X7_mend_b21 (D_X7_mend_L21 gu) _ _ _ _ MM = _
      unfold D_X7_mend_b21 D_X7_mend_b96
      rw [if_pos (nI_le (by omega) (by omega))]
  | succ k ih =>
    intro x fu gu b y g1 g2 g3
    obtain ⟨fu, rfl⟩ : ∃ q, fu = q + 1 := ⟨fu - 1, by omega⟩
    obtain ⟨gu, rfl⟩ : ∃ q, gu = q + 1 := ⟨gu - 1, by omega⟩
    obtain ⟨m, m1, m2, m3⟩ := pu_how hR (x := x) (by omega) (D_X7_mend_L21 gu) (nI h) b y
    have eC : D_X6_mend_L29 (fu + 1) (nI h) b y (nI x) MC = D_X6_mend_b29 (D_X6_mend_L29 fu) (nI h) b y (nI x) MC := rfl
    have eM : D_X7_mend_L21 (gu + 1) (nI h) b y (nI x) MM = D_X7_mend_b21 (D_X7_mend_L21 gu) (nI h) b y (nI x) MM := rfl
    rw [eC, eM]
    unfold D_X6_mend_b29 D_X7_mend_b21 D_X6_mend_b58
    rw [if_neg (nI_ge (by omega) (by omega)), if_neg (nI_ge (by omega) (by omega)), m2, m3, pu_bd]
    unfold D_X7_mend_b78 D_X7_mend_b90
    rw [nI_1]
    by_cases hc : nI m ≤ y
    · rw [if_pos hc, if_pos hc]
      exact ih (x + 1) fu gu b y (by omega) (by omega) (by omega)
    · rw [if_neg hc, if_neg hc]
      exact ih (x + 1) fu gu (nI x) (nI m) (by omega) (by omega) (by omega)
theorem op_mend {MC MM : ch_Mem} (hR : ch_R MC MM) (a1 : Int32) : ∃ (r : Int32) (MC1 MM1 : ch_Mem), D_X6_mend a1 MC = some (r, MC1) ∧ D_X7_mend a1 MM = some (r, MM1) ∧ ch_R MC1 MM1 := by
  unfold D_X6_mend D_X7_mend D_X7_in
  have t1 : (1 : Int32).toInt = 1 := by decide
  have t2 : (20000 : Int32).toInt = 20000 := by decide
  by_cases h1 : a1 < 1
  · rw [if_pos h1, if_pos h1]
    exact ⟨_, MC, MM, rfl, rfl, hR⟩
  · rw [if_neg h1, if_neg h1]
    by_cases h2 : a1 ≤ 20000
    · have h3 : ¬ (20000 : Int32) < a1 := by rw [pu_lt]; rw [pu_le] at h2; omega
      rw [if_pos h2, if_neg h3, pu_bd, if_neg pu_10]
      rw [pu_lt] at h1
      rw [pu_le] at h2
      obtain ⟨h, rfl, hh1, hh2⟩ : ∃ h : Nat, a1 = nI h ∧ 1 ≤ h ∧ h ≤ 20000 := ⟨a1.toInt.toNat, pu_of a1 (by omega), by omega, by omega⟩
      have eM : D_X7_mend_L21 ch_fu (nI h) 0 (-1) 0 MM = D_X7_mend_b21 (D_X7_mend_L21 (ch_fu - 1)) (nI h) 0 (-1) (nI 0) MM := rfl
      obtain ⟨m, m1, m2, m3⟩ := pu_how hR.2.2.2.1 (x := 0) (by omega) (D_X7_mend_L21 (ch_fu - 1)) (nI h) 0 (-1)
      have m2' : D_X0_howManyFit 0 MC = some (nI m, MC) := m2
      rw [eM, m2', pu_bd]
      unfold D_X7_mend_b21
      rw [if_neg (nI_ge (by omega) (by omega)), m3]
      unfold D_X7_mend_b78 D_X7_mend_b90
      have hneg : ¬ nI m ≤ -1 := by
        rw [pu_le, nI_toInt (by omega), show (-1 : Int32).toInt = -1 by decide]
        omega
      rw [if_neg hneg, nI_1]
      obtain ⟨r, r1, r2⟩ := pu_mendL hR.2.2.2.1 hh2 (h - 1) 1 ch_fu (ch_fu - 1) 0 (nI m) (by omega) (by unfold ch_fu; omega) (by unfold ch_fu; omega)
      exact ⟨r, MC, MM, r1, r2, hR⟩
    · have h3 : (20000 : Int32) < a1 := by rw [pu_lt]; rw [pu_le] at h2; omega
      rw [if_neg h2, if_pos h3]
      exact ⟨_, MC, MM, rfl, rfl, hR⟩
/-! the digest -/
def pu_mx (f : Nat → Int64) (h : Int64) : Nat → Int64
  | 0 => h
  | i + 1 => 31 * pu_mx f h i + f i
theorem pu_mxC {M : ch_Mem} {r n : Nat} (hr : r < 8) (hn : n ≤ 127) (e : M.1 (7 + r) 1 = nI n) (h : Int64) : ∀ (k i fu : Nat), i + k = n → k < fu → D_X3_mixedInto_L13 (7 + r) fu (pu_mx (fun i => (M.1 (7 + r + 8) i).toInt64) h i) (nI i) M = some (pu_mx (fun i => (M.1 (7 + r + 8) i).toInt64) h n, M) := by
  intro k
  induction k with
  | zero =>
    intro i fu g1 g2
    obtain ⟨fu, rfl⟩ : ∃ q, fu = q + 1 := ⟨fu - 1, by omega⟩
    obtain rfl : i = n := by omega
    show D_X3_mixedInto_b13 (7 + r) (D_X3_mixedInto_L13 (7 + r) fu) _ _ M = _
    unfold D_X3_mixedInto_b13 D_X3_mixedInto_b41
    rw [e, if_pos (nI_le (Nat.le_refl _) (by omega))]
  | succ k ih =>
    intro i fu g1 g2
    obtain ⟨fu, rfl⟩ : ∃ q, fu = q + 1 := ⟨fu - 1, by omega⟩
    show D_X3_mixedInto_b13 (7 + r) (D_X3_mixedInto_L13 (7 + r) fu) _ _ M = _
    unfold D_X3_mixedInto_b13 D_X6_mixed
    rw [e, if_neg (nI_ge (by omega) (by omega)), pu_gd (by omega) (by decide), pu_bd, nI_1, pu_cl (by omega)]
    exact ih (i + 1) fu (by omega) (by omega)
theorem pu_mxM {M : ch_Mem} {r n : Nat} (hr : r < 8) (h0 : 0 < n) (hn : n ≤ 127) (e : M.1 1 r = nI n) (f : Nat → Int64) (hf : ∀ i, i < n → (M.1 2 (127 * r + i)).toInt64 = f i) (h : Int64) (k41 : Int64 → Int32 → ch_Mem → Option (Int64 × ch_Mem)) : ∀ (k i fu : Nat), i + k = n → k < fu → D_X7_digest_L82 k41 fu (pu_mx f h i) (nI r) (nI i) M = k41 (pu_mx f h n) (nI (r + 1)) M := by
  intro k
  induction k with
  | zero =>
    intro i fu g1 g2
    obtain ⟨fu, rfl⟩ : ∃ q, fu = q + 1 := ⟨fu - 1, by omega⟩
    obtain rfl : i = n := by omega
    show D_X7_digest_b82 k41 (D_X7_digest_L82 k41 fu) _ _ _ M = _
    unfold D_X7_digest_b82 D_X7_digest_b114
    rw [pu_gd hr (by decide), pu_cl (by omega), e, if_pos (nI_le (Nat.le_refl _) (by omega)), nI_1]
  | succ k ih =>
    intro i fu g1 g2
    obtain ⟨fu, rfl⟩ : ∃ q, fu = q + 1 := ⟨fu - 1, by omega⟩
    show D_X7_digest_b82 k41 (D_X7_digest_L82 k41 fu) _ _ _ M = _
    unfold D_X7_digest_b82
    rw [pu_gd hr (by decide), pu_cl (by omega), e, if_neg (nI_ge (by omega) (by omega)), pu_signOf e hr h0 hn (by omega), pu_bd, nI_1, Nat.mod_eq_of_lt (show i < n by omega), hf i (by omega)]
    exact ih (i + 1) fu (by omega) (by omega)
theorem pu_digL {MC MM : ch_Mem} (hR : ch_R MC MM) : ∀ (k i fu gu : Nat) (h : Int64), i + k = 8 → k < fu → k < gu → ∃ r : Int64, D_X6_digest_L52 fu h (nI i) MC = some (r, MC) ∧ D_X7_digest_L41 gu h (nI i) MM = some (r, MM) := by
  intro k
  induction k with
  | zero =>
    intro i fu gu h g1 g2 g3
    obtain ⟨fu, rfl⟩ : ∃ q, fu = q + 1 := ⟨fu - 1, by omega⟩
    obtain ⟨gu, rfl⟩ : ∃ q, gu = q + 1 := ⟨gu - 1, by omega⟩
    obtain ⟨r, r1, r2⟩ := pu_range hR.2.2.2.1
    obtain ⟨t, -, -, -, p4, -⟩ := hR.2.2.1
    refine ⟨31 * (31 * h + r) + MC.2 5 4, ?_, ?_⟩
    · show D_X6_digest_b52 (D_X6_digest_L52 fu) _ _ MC = _
      unfold D_X6_digest_b52 D_X6_digest_b92 D_X6_mixed
      rw [if_pos (show (8 : Int32) ≤ nI i from nI_le (a := 8) (by omega) (by omega)), r1]
      rfl
    · show D_X7_digest_b41 (D_X7_digest_L41 gu) _ _ MM = _
      unfold D_X7_digest_b41 D_X7_digest_b120
      rw [if_pos (show (8 : Int32) ≤ nI i from nI_le (a := 8) (by omega) (by omega)), r2, pu_bd, p4]
  | succ k ih =>
    intro i fu gu h g1 g2 g3
    obtain ⟨fu, rfl⟩ : ∃ q, fu = q + 1 := ⟨fu - 1, by omega⟩
    obtain ⟨gu, rfl⟩ : ∃ q, gu = q + 1 := ⟨gu - 1, by omega⟩
    have hlt : ¬ (8 : Int32) ≤ nI i := nI_ge (b := 8) (by omega) (by omega)
    obtain ⟨n, c1, c2, c3, c4⟩ := hR.1 i (by omega)
    have eC : D_X6_digest_L52 (fu + 1) h (nI i) MC = D_X6_digest_b52 (D_X6_digest_L52 fu) h (nI i) MC := rfl
    have eM : D_X7_digest_L41 (gu + 1) h (nI i) MM = D_X7_digest_b41 (D_X7_digest_L41 gu) h (nI i) MM := rfl
    rw [eC, eM]
    unfold D_X6_digest_b52 D_X7_digest_b41 D_X3_isNone D_X6_digest_b86 D_X7_digest_b114
    rw [if_neg hlt, if_neg hlt, pu_gd (by omega) (by decide), pu_gd (by omega) (by decide), pu_cl (by omega), c2, c3]
    rcases Nat.eq_zero_or_pos n with rfl | hn
    · rw [if_neg (by decide), pu_bd, if_neg pu_10, if_pos (by decide), nI_1]
      exact ih (i + 1) fu gu h (by omega) (by omega) (by omega)
    · rw [if_pos (pu_1le hn (by omega)), pu_bd, if_pos rfl, if_neg (nI_nle hn (by omega)), pu_gd (by omega) (by decide), pu_gd (by omega) (by decide), pu_nm, nI_1]
      unfold D_X6_mixed D_X3_mixedInto D_X6_mixed
      rw [pu_bd, pu_bd, c2]
      have hC := pu_mxC (M := MC) (show i < 8 by omega) c1 c2 (31 * (31 * h + (nI i).toInt64) + (nI n).toInt64) n 0 ch_fu (by omega) (by unfold ch_fu; omega)
      have hC' : D_X3_mixedInto_L13 (7 + i) ch_fu (31 * (31 * h + (nI i).toInt64) + (nI n).toInt64) 0 MC = some (pu_mx (fun j => (MC.1 (7 + i + 8) j).toInt64) (31 * (31 * h + (nI i).toInt64) + (nI n).toInt64) n, MC) := hC
      have hM := pu_mxM (M := MM) (show i < 8 by omega) hn c1 c3 (fun j => (MC.1 (7 + i + 8) j).toInt64) (fun j hj => by rw [(c4 j hj).2]) (31 * (31 * h + (nI i).toInt64) + (nI n).toInt64) (D_X7_digest_L41 gu) n 0 ch_fu (by omega) (by unfold ch_fu; omega)
      have hM' : D_X7_digest_L82 (D_X7_digest_L41 gu) ch_fu (31 * (31 * h + (nI i).toInt64) + (nI n).toInt64) (nI i) 0 MM = D_X7_digest_L41 gu (pu_mx (fun j => (MC.1 (7 + i + 8) j).toInt64) (31 * (31 * h + (nI i).toInt64) + (nI n).toInt64) n) (nI (i + 1)) MM := hM
      rw [hC', hM', pu_bd]
      exact ih (i + 1) fu gu _ (by omega) (by omega) (by omega)
theorem op_digest {MC MM : ch_Mem} (hR : ch_R MC MM) : ∃ (r : Int64) (MC1 MM1 : ch_Mem), D_X6_digest  MC = some (r, MC1) ∧ D_X7_digest  MM = some (r, MM1) ∧ ch_R MC1 MM1 := by
  obtain ⟨a, a1, a2⟩ := pu_rows hR.1
  obtain ⟨n, ln, sf, d1, d2, d3, d4⟩ := hR.2.2.2.1
  obtain ⟨t, -, p2, p3, p4, -⟩ := hR.2.2.1
  obtain ⟨r, r1, r2⟩ := pu_digL hR 8 0 ch_fu ch_fu (31 * (31 * (31 * (31 * 17 + a.toInt64) + (nI n).toInt64) + (MC.1 0 6).toInt64) + (nI t).toInt64) (by omega) (by unfold ch_fu; omega) (by unfold ch_fu; omega)
  refine ⟨r, MC, MM, ?_, ?_, hR⟩
  · unfold D_X6_digest D_X6_mixed
    rw [a1, pu_bd, pu_bd, pu_bd, pu_bd, pu_bd, d2, p2]
    exact r1
  · have s : ∀ (f : Nat) (h : Int64) (w : Int32), D_X7_digest_L6 (f + 1) h w MM = D_X7_digest_b6 (D_X7_digest_L6 f) h w MM := fun _ _ _ => rfl
    have e0 : D_X7_digest  MM = D_X7_digest_L6 (99994 + 1 + 1 + 1 + 1 + 1 + 1) 17 0 MM := rfl
    have k0 : D_X7_count 0 MM = some (a, MM) := by
      unfold D_X7_count
      rw [if_pos rfl, a2, pu_bd]
    have k1 : D_X7_count 1 MM = some (nI n, MM) := by
      unfold D_X7_count
      rw [if_neg pu_10, if_pos rfl, d3]
    have k2 : D_X7_count 2 MM = some (MC.1 0 6, MM) := by
      unfold D_X7_count
      rw [if_neg (by decide), if_neg (by decide), if_pos rfl, hR.2.2.2.2.1]
    have k4 : D_X7_count 4 MM = some (nI t, MM) := by
      unfold D_X7_count
      rw [if_neg (by decide), if_neg (by decide), if_neg (by decide), if_neg (by decide), if_pos rfl, p3]
    have b0 : ∀ (q : Int64 → Int32 → ch_Mem → Option (Int64 × ch_Mem)) (h : Int64), D_X7_digest_b6 q h 0 MM = q (31 * h + a.toInt64) 1 MM := fun q h => by
      unfold D_X7_digest_b6 D_X7_digest_b32
      rw [if_neg (by decide), if_neg (by decide), k0]
      rfl
    have b1 : ∀ (q : Int64 → Int32 → ch_Mem → Option (Int64 × ch_Mem)) (h : Int64), D_X7_digest_b6 q h 1 MM = q (31 * h + (nI n).toInt64) 2 MM := fun q h => by
      unfold D_X7_digest_b6 D_X7_digest_b32
      rw [if_neg (by decide), if_neg (by decide), k1]
      rfl
    have b2 : ∀ (q : Int64 → Int32 → ch_Mem → Option (Int64 × ch_Mem)) (h : Int64), D_X7_digest_b6 q h 2 MM = q (31 * h + (MC.1 0 6).toInt64) 3 MM := fun q h => by
      unfold D_X7_digest_b6 D_X7_digest_b32
      rw [if_neg (by decide), if_neg (by decide), k2]
      rfl
    have b3 : ∀ (q : Int64 → Int32 → ch_Mem → Option (Int64 × ch_Mem)) (h : Int64), D_X7_digest_b6 q h 3 MM = q h 4 MM := fun q h => by
      unfold D_X7_digest_b6 D_X7_digest_b32
      rw [if_neg (by decide), if_pos rfl]
      rfl
    have b4 : ∀ (q : Int64 → Int32 → ch_Mem → Option (Int64 × ch_Mem)) (h : Int64), D_X7_digest_b6 q h 4 MM = q (31 * h + (nI t).toInt64) 5 MM := fun q h => by
      unfold D_X7_digest_b6 D_X7_digest_b32
      rw [if_neg (by decide), if_neg (by decide), k4]
      rfl
    have b5 : ∀ (q : Int64 → Int32 → ch_Mem → Option (Int64 × ch_Mem)) (h : Int64), D_X7_digest_b6 q h 5 MM = D_X7_digest_L41 ch_fu h 0 MM := fun q h => by
      unfold D_X7_digest_b6 D_X7_digest_b39
      rw [if_pos (by decide)]
    rw [e0, s, b0, s, b1, s, b2, s, b3, s, b4, s, b5]
    exact r2
