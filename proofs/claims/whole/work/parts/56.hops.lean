theorem pu_meet {P : Nat} (h2 : 2 ≤ P) (h31 : P ≤ 31) (a b s t : Int32) (MC MM : ch_Mem) : ∀ (k i fu : Nat) (y : Int32), i + k = P → k < fu → ∃ r : Int32, D_X6_meetings_L6 fu (nI P) a b s t y (nI i) MC = some (r, MC) ∧ D_X7_hitsOf_L6 fu (nI P) a b s t y (nI i) MM = some (r, MM) := by
  intro k
  induction k with
  | zero =>
    intro i fu y h1 h3
    obtain ⟨fu, rfl⟩ : ∃ f, fu = f + 1 := ⟨fu - 1, by omega⟩
    refine ⟨y, ?_, ?_⟩
    · show D_X6_meetings_b6 (D_X6_meetings_L6 fu) _ _ _ _ _ _ _ MC = _
      unfold D_X6_meetings_b6 D_X6_meetings_b41
      rw [if_pos (nI_le (by omega) (by omega))]
    · show D_X7_hitsOf_b6 (D_X7_hitsOf_L6 fu) _ _ _ _ _ _ _ MM = _
      unfold D_X7_hitsOf_b6 D_X7_hitsOf_b48
      rw [if_pos (nI_le (by omega) (by omega))]
  | succ k ih =>
    intro i fu y h1 h3
    obtain ⟨fu, rfl⟩ : ∃ f, fu = f + 1 := ⟨fu - 1, by omega⟩
    obtain ⟨r1, p1, p2⟩ := ih (i + 1) fu (y + 1) (by omega) (by omega)
    obtain ⟨r2, q1, q2⟩ := ih (i + 1) fu y (by omega) (by omega)
    by_cases hc : (a * nI i - a * nI i / nI P * nI P) = (b * (nI i + s) + t - (b * (nI i + s) + t) / nI P * nI P)
    · refine ⟨r1, ?_, ?_⟩
      · show D_X6_meetings_b6 (D_X6_meetings_L6 fu) _ _ _ _ _ _ _ MC = _
        unfold D_X6_meetings_b6 D_X6_meetings_b35
        rw [if_neg (nI_ge (by omega) (by omega)), pu_g0 (by omega) (by omega), pu_g0 (by omega) (by omega), if_pos hc, nI_1]
        exact p1
      · show D_X7_hitsOf_b6 (D_X7_hitsOf_L6 fu) _ _ _ _ _ _ _ MM = _
        unfold D_X7_hitsOf_b6 D_X7_hitsOf_b39
        rw [if_neg (nI_ge (by omega) (by omega)), pu_g0 (by omega) (by omega), pu_g0 (by omega) (by omega), if_pos hc, nI_1]
        exact p2
    · refine ⟨r2, ?_, ?_⟩
      · show D_X6_meetings_b6 (D_X6_meetings_L6 fu) _ _ _ _ _ _ _ MC = _
        unfold D_X6_meetings_b6 D_X6_meetings_b35
        rw [if_neg (nI_ge (by omega) (by omega)), pu_g0 (by omega) (by omega), pu_g0 (by omega) (by omega), if_neg hc, nI_1]
        exact q1
      · show D_X7_hitsOf_b6 (D_X7_hitsOf_L6 fu) _ _ _ _ _ _ _ MM = _
        unfold D_X7_hitsOf_b6 D_X7_hitsOf_b39
        rw [if_neg (nI_ge (by omega) (by omega)), pu_g0 (by omega) (by omega), pu_g0 (by omega) (by omega), if_neg hc, nI_1, Int32.add_zero]
        exact q2
theorem pu_hits {P : Nat} (h2 : 2 ≤ P) (h31 : P ≤ 31) (a b s t : Int32) (MC MM : ch_Mem) : ∃ r : Int32, D_X6_meetings (nI P) a b s t MC = some (r, MC) ∧ D_X7_hitsOf (nI P) a b s t MM = some (r, MM) :=
  pu_meet h2 h31 a b s t MC MM P 0 ch_fu 0 (by omega) (by unfold ch_fu; omega)
theorem pu_hopL (x0 x1 x2 : Int32) (M : ch_Mem) : ∀ (k i fu : Nat) (f : Int32), i + k = 11 → k < fu → (f = 0 ∨ f = 1) → ∃ g : Int32, (g = 0 ∨ g = 1) ∧ D_X6_areHops_L15 fu x0 x1 x2 f 11 (nI i) M = D_X6_areHops_b51 x0 x1 x2 g M ∧ (g = 1 ↔ (f = 1 ∨ ∃ j, i ≤ j ∧ j < 11 ∧ ch_pr j = x0)) := by
  intro k
  induction k with
  | zero =>
    intro i fu f h1 h3 hf
    obtain ⟨fu, rfl⟩ : ∃ q, fu = q + 1 := ⟨fu - 1, by omega⟩
    refine ⟨f, hf, ?_, fun h => Or.inl h, fun h => ?_⟩
    · show D_X6_areHops_b15 (D_X6_areHops_L15 fu) _ _ _ _ _ _ M = _
      unfold D_X6_areHops_b15
      rw [if_pos (show (11 : Int32) ≤ nI i from nI_le (a := 11) (by omega) (by omega))]
    · rcases h with h | ⟨j, j1, j2, -⟩
      · exact h
      · omega
  | succ k ih =>
    intro i fu f h1 h3 hf
    obtain ⟨fu, rfl⟩ : ∃ q, fu = q + 1 := ⟨fu - 1, by omega⟩
    have e0 : D_X6_areHops_L15 (fu + 1) x0 x1 x2 f 11 (nI i) M = D_X6_areHops_b15 (D_X6_areHops_L15 fu) x0 x1 x2 f 11 (nI i) M := rfl
    have hlt : ¬ (11 : Int32) ≤ nI i := nI_ge (b := 11) (by omega) (by omega)
    rcases hf with rfl | rfl
    · by_cases hp : ch_pr i = x0
      · obtain ⟨g, g1, g2, g3⟩ := ih (i + 1) fu 1 (by omega) (by omega) (Or.inr rfl)
        refine ⟨g, g1, ?_, fun h => Or.inr ⟨i, Nat.le_refl _, by omega, hp⟩, fun _ => g3.mpr (Or.inl rfl)⟩
        rw [e0, ← g2]
        unfold D_X6_areHops_b15 D_X6_areHops_b39 D_X6_areHops_b44
        rw [if_neg hlt, pu_gd (by omega) (by decide), if_pos rfl, pu_cl (by omega), if_pos hp, nI_1]
      · obtain ⟨g, g1, g2, g3⟩ := ih (i + 1) fu 0 (by omega) (by omega) (Or.inl rfl)
        refine ⟨g, g1, ?_, fun h => ?_, fun h => g3.mpr ?_⟩
        · rw [e0, ← g2]
          unfold D_X6_areHops_b15 D_X6_areHops_b44
          rw [if_neg hlt, pu_gd (by omega) (by decide), if_pos rfl, pu_cl (by omega), if_neg hp, nI_1]
        · rcases g3.mp h with h | ⟨j, j1, j2, j3⟩
          · exact Or.inl h
          · exact Or.inr ⟨j, by omega, j2, j3⟩
        · rcases h with h | ⟨j, j1, j2, j3⟩
          · exact Or.inl h
          · by_cases hji : j = i
            · subst hji; exact absurd j3 hp
            · exact Or.inr ⟨j, by omega, j2, j3⟩
    · obtain ⟨g, g1, g2, g3⟩ := ih (i + 1) fu 1 (by omega) (by omega) (Or.inr rfl)
      refine ⟨g, g1, ?_, fun h => Or.inl rfl, fun _ => g3.mpr (Or.inl rfl)⟩
      rw [e0, ← g2]
      unfold D_X6_areHops_b15 D_X6_areHops_b39 D_X6_areHops_b44
      rw [if_neg hlt, pu_gd (by omega) (by decide), if_neg pu_10, nI_1]
theorem pu_primeL {P : Nat} (h31 : P ≤ 31) (M : ch_Mem) : ∀ (k i fu : Nat), i + k = P → 2 ≤ i → k < fu → ∃ g : Int32, (g = 0 ∨ g = 1) ∧ D_X7_isPrime_L14 fu (nI P) (nI i) M = some (g, M) ∧ (g = 1 ↔ ∀ j, i ≤ j → j < P → P % j ≠ 0) := by
  intro k
  induction k with
  | zero =>
    intro i fu h1 h2 h3
    obtain ⟨fu, rfl⟩ : ∃ q, fu = q + 1 := ⟨fu - 1, by omega⟩
    refine ⟨1, Or.inr rfl, ?_, fun _ j j1 j2 => by omega, fun _ => rfl⟩
    show D_X7_isPrime_b14 (D_X7_isPrime_L14 fu) _ _ M = _
    unfold D_X7_isPrime_b14
    rw [if_pos (nI_le (by omega) (by omega))]
  | succ k ih =>
    intro i fu h1 h2 h3
    obtain ⟨fu, rfl⟩ : ∃ q, fu = q + 1 := ⟨fu - 1, by omega⟩
    have e0 : D_X7_isPrime_L14 (fu + 1) (nI P) (nI i) M = D_X7_isPrime_b14 (D_X7_isPrime_L14 fu) (nI P) (nI i) M := rfl
    have hm : P % i < i := Nat.mod_lt _ (by omega)
    by_cases hd : P % i = 0
    · refine ⟨0, Or.inl rfl, ?_, fun h => absurd h (by decide), fun h => absurd hd (h i (Nat.le_refl _) (by omega))⟩
      rw [e0]
      unfold D_X7_isPrime_b14
      rw [if_neg (nI_ge (by omega) (by omega)), pu_g0 (by omega) (by omega), pu_rem (by omega) (by omega) (by omega), hd, if_pos (by rfl)]
    · obtain ⟨g, g1, g2, g3⟩ := ih (i + 1) fu (by omega) (by omega) (by omega)
      refine ⟨g, g1, ?_, fun h j j1 j2 => ?_, fun h => g3.mpr (fun j j1 j2 => h j (by omega) j2)⟩
      · rw [e0, ← g2]
        unfold D_X7_isPrime_b14
        rw [if_neg (nI_ge (by omega) (by omega)), pu_g0 (by omega) (by omega), pu_rem (by omega) (by omega) (by omega), if_neg (nI_ne0 (by omega) (by omega)), nI_1]
      · by_cases hji : j = i
        · subst hji; exact hd
        · exact g3.mp h j (by omega) j2
theorem pu_primes : ∀ P : Fin 32, 2 ≤ P.val → ((∃ j : Fin 11, ch_pr j.val = nI P.val) ↔ ∀ j : Fin 32, 2 ≤ j.val → j.val < P.val → P.val % j.val ≠ 0) := by decide +kernel
theorem pu_prr : ∀ j : Fin 11, 2 ≤ (ch_pr j.val).toInt ∧ (ch_pr j.val).toInt ≤ 31 := by decide +kernel
theorem pu_in31 (x : Int32) : (∃ r : Nat, 2 ≤ r ∧ r ≤ 31 ∧ x = nI r ∧ ∀ M, D_X7_in x 2 31 M = some (1, M)) ∨ ((x.toInt < 2 ∨ 31 < x.toInt) ∧ ∀ M, D_X7_in x 2 31 M = some (0, M)) := by
  have t2 : (2 : Int32).toInt = 2 := by decide
  have t7 : (31 : Int32).toInt = 31 := by decide
  by_cases h : 2 ≤ x.toInt ∧ x.toInt ≤ 31
  · left
    refine ⟨x.toInt.toNat, by omega, by omega, pu_of x (by omega), fun M => ?_⟩
    unfold D_X7_in
    rw [if_neg (by rw [pu_lt]; omega), if_neg (by rw [pu_lt]; omega)]
  · right
    refine ⟨by omega, fun M => ?_⟩
    unfold D_X7_in
    by_cases h0 : x.toInt < 2
    · rw [if_pos (by rw [pu_lt]; omega)]
    · rw [if_neg (by rw [pu_lt]; omega), if_pos (by rw [pu_lt]; omega)]
theorem pu_isHop {P : Nat} (h2 : 2 ≤ P) (h31 : P ≤ 31) (hp : ∀ M, D_X7_isPrime (nI P) M = some (1, M)) (x : Int32) : (∃ t, 1 ≤ t ∧ t < P ∧ x = nI t ∧ ¬ x ≤ 0 ∧ ¬ nI P ≤ x ∧ ∀ M, D_X7_isHop (nI P) x M = some (1, M)) ∨ ((x ≤ 0 ∨ nI P ≤ x) ∧ ∀ M, D_X7_isHop (nI P) x M = some (0, M)) := by
  unfold D_X7_isHop
  rcases pu_upto (P := P) (by omega) (by omega) x with ⟨t, t1, t2, rfl, t3, t4, t5⟩ | ⟨t3, t5⟩
  · left
    exact ⟨t, t1, t2, rfl, t3, t4, fun M => by rw [hp, pu_bd, if_neg pu_10, t5, pu_bd, if_neg pu_10]⟩
  · right
    exact ⟨t3, fun M => by rw [hp, pu_bd, if_neg pu_10, t5, pu_bd, if_pos rfl]⟩
theorem pu_hops (x0 x1 x2 : Int32) : (∃ P a b : Nat, 2 ≤ P ∧ P ≤ 31 ∧ x0 = nI P ∧ x1 = nI a ∧ x2 = nI b ∧ a < P ∧ b < P ∧ (∀ M, D_X6_areHops x0 x1 x2 M = some (1, M)) ∧ (∀ M, D_X7_isHop x0 x1 M = some (1, M)) ∧ ∀ M, D_X7_isHop x0 x2 M = some (1, M)) ∨ ((∀ M, D_X6_areHops x0 x1 x2 M = some (0, M)) ∧ ((∀ M, D_X7_isHop x0 x1 M = some (0, M)) ∨ ((∀ M, D_X7_isHop x0 x1 M = some (1, M)) ∧ ∀ M, D_X7_isHop x0 x2 M = some (0, M)))) := by
  have hop : ∀ M, ∃ g : Int32, (g = 0 ∨ g = 1) ∧ D_X6_areHops x0 x1 x2 M = D_X6_areHops_b51 x0 x1 x2 g M ∧ (g = 1 ↔ ((0 : Int32) = 1 ∨ ∃ j, 0 ≤ j ∧ j < 11 ∧ ch_pr j = x0)) := fun M => pu_hopL x0 x1 x2 M 11 0 ch_fu 0 (by omega) (by unfold ch_fu; omega) (Or.inl rfl)
  by_cases hpr : ∃ j, j < 11 ∧ ch_pr j = x0
  · obtain ⟨j, hj, ej⟩ := hpr
    have hA : ∀ M, D_X6_areHops x0 x1 x2 M = D_X6_areHops_b51 x0 x1 x2 1 M := fun M => by
      obtain ⟨g, g1, g2, g3⟩ := hop M
      have hg : g = 1 := g3.mpr (Or.inr ⟨j, Nat.zero_le _, hj, ej⟩)
      rw [g2, hg]
    have hb := pu_prr ⟨j, hj⟩
    rw [show ch_pr (⟨j, hj⟩ : Fin 11).val = x0 from ej] at hb
    obtain ⟨P, hP⟩ : ∃ P : Nat, x0 = nI P ∧ 2 ≤ P ∧ P ≤ 31 := ⟨x0.toInt.toNat, pu_of x0 (by omega), by omega, by omega⟩
    obtain ⟨rfl, h2, h31⟩ := hP
    have hprime : ∀ M, D_X7_isPrime (nI P) M = some (1, M) := by
      intro M
      unfold D_X7_isPrime
      rcases pu_in31 (nI P) with ⟨r, r1, r2, r3, r4⟩ | ⟨r1, -⟩
      · rw [r4, pu_bd, if_neg pu_10]
        obtain ⟨g, g1, g2, g3⟩ := pu_primeL h31 M (P - 2) 2 ch_fu (by omega) (Nat.le_refl _) (by unfold ch_fu; omega)
        have hg : g = 1 := g3.mpr (fun z z1 z2 => (pu_primes ⟨P, by omega⟩ h2).mp ⟨⟨j, hj⟩, ej⟩ ⟨z, by omega⟩ z1 z2)
        rw [hg] at g2
        exact g2
      · rw [nI_toInt (by omega)] at r1
        omega
    rcases pu_isHop h2 h31 hprime x1 with ⟨a, a1, a2, rfl, a3, a4, a5⟩ | ⟨a3, a5⟩
    · rcases pu_isHop h2 h31 hprime x2 with ⟨b, b1, b2, rfl, b3, b4, b5⟩ | ⟨b3, b5⟩
      · left
        refine ⟨P, a, b, h2, h31, rfl, rfl, rfl, a2, b2, fun M => ?_, a5, b5⟩
        rw [hA]
        unfold D_X6_areHops_b51
        rw [if_neg pu_10, if_neg a3, if_neg a4, if_neg b3, if_neg b4]
      · right
        refine ⟨fun M => ?_, Or.inr ⟨a5, b5⟩⟩
        rw [hA]
        unfold D_X6_areHops_b51
        rw [if_neg pu_10, if_neg a3, if_neg a4]
        by_cases q : x2 ≤ 0
        · rw [if_pos q]
        · rw [if_neg q, if_pos (b3.resolve_left q)]
    · right
      refine ⟨fun M => ?_, Or.inl a5⟩
      rw [hA]
      unfold D_X6_areHops_b51
      rw [if_neg pu_10]
      by_cases q : x1 ≤ 0
      · rw [if_pos q]
      · rw [if_neg q, if_pos (a3.resolve_left q)]
  · right
    refine ⟨fun M => ?_, Or.inl (fun M => ?_)⟩
    · obtain ⟨g, g1, g2, g3⟩ := hop M
      have hg : g = 0 := by
        rcases g1 with g1 | g1
        · exact g1
        · rcases g3.mp g1 with z | ⟨j, -, j2, j3⟩
          · exact absurd z (by decide)
          · exact absurd ⟨j, j2, j3⟩ hpr
      rw [g2, hg]
      rfl
    · unfold D_X7_isHop D_X7_isPrime
      rcases pu_in31 x0 with ⟨P, r1, r2, rfl, r4⟩ | ⟨-, r4⟩
      · rw [r4, pu_bd, if_neg pu_10]
        obtain ⟨g, g1, g2, g3⟩ := pu_primeL r2 M (P - 2) 2 ch_fu (by omega) (Nat.le_refl _) (by unfold ch_fu; omega)
        have hg : g = 0 := by
          rcases g1 with g1 | g1
          · exact g1
          · obtain ⟨j, hj⟩ := (pu_primes ⟨P, by omega⟩ r1).mpr (fun z z1 z2 => g3.mp g1 z.val z1 z2)
            exact absurd ⟨j.val, j.isLt, hj⟩ hpr
        have g2' : D_X7_isPrime_L14 ch_fu (nI P) 2 M = some (g, M) := g2
        rw [g2', hg, pu_bd, if_pos rfl]
      · rw [r4, pu_bd, if_pos rfl, pu_bd, if_pos rfl]
theorem pu_below {P : Nat} (hP : P ≤ 128) (x : Int32) : (∃ t, t < P ∧ x = nI t ∧ ¬ x < 0 ∧ ¬ nI P ≤ x ∧ x < nI P ∧ ∀ M, D_X7_in x 0 (nI P - 1) M = some (1, M)) ∨ ((x < 0 ∨ nI P ≤ x) ∧ (x < 0 ∨ ¬ x < nI P) ∧ ∀ M, D_X7_in x 0 (nI P - 1) M = some (0, M)) := by
  have t0 : (0 : Int32).toInt = 0 := by decide
  have tp : (nI P).toInt = P := nI_toInt (by omega)
  have tm : (nI P - 1).toInt = (P : Int) - 1 := pk_sub_toInt (a := P) (b := 1) (by omega) (by decide)
  by_cases h : 0 ≤ x.toInt ∧ x.toInt < P
  · left
    refine ⟨x.toInt.toNat, by omega, pu_of x (by omega), by rw [pu_lt]; omega, by rw [pu_le]; omega, by rw [pu_lt]; omega, fun M => ?_⟩
    unfold D_X7_in
    rw [if_neg (by rw [pu_lt]; omega), if_neg (by rw [pu_lt]; omega)]
  · right
    refine ⟨?_, ?_, fun M => ?_⟩
    · by_cases h0 : x.toInt < 0
      · left; rw [pu_lt]; omega
      · right; rw [pu_le]; omega
    · by_cases h0 : x.toInt < 0
      · left; rw [pu_lt]; omega
      · right; rw [pu_lt]; omega
    · unfold D_X7_in
      by_cases h0 : x.toInt < 0
      · rw [if_pos (by rw [pu_lt]; omega)]
      · rw [if_neg (by rw [pu_lt]; omega), if_pos (by rw [pu_lt]; omega)]
theorem op_hits {MC MM : ch_Mem} (hR : ch_R MC MM) (a1 a2 a3 a4 a5 : Int32) : ∃ (r : Int32) (MC1 MM1 : ch_Mem), D_X6_hits a1 a2 a3 a4 a5 MC = some (r, MC1) ∧ D_X7_hits a1 a2 a3 a4 a5 MM = some (r, MM1) ∧ ch_R MC1 MM1 := by
  unfold D_X6_hits D_X7_hits
  rcases pu_hops a1 a2 a3 with ⟨P, a, b, h2, h31, rfl, rfl, rfl, ha, hb, k1, k2, k3⟩ | ⟨k1, k2⟩
  · rw [k1, k2]
    simp only [pu_bd, pu_10, ↓reduceIte, k3]
    rcases pu_below (P := P) (by omega) a4 with ⟨s, s1, rfl, s2, s3, s4, s5⟩ | ⟨s3, s4, s5⟩
    · rw [if_neg s2, if_neg s3, s5]
      simp only [pu_bd, pu_10, ↓reduceIte]
      rcases pu_below (P := P) (by omega) a5 with ⟨t, t1, rfl, t2, t3, t4, t5⟩ | ⟨t3, t4, t5⟩
      · rw [if_neg t2, if_pos t4, t5]
        simp only [pu_bd, pu_10, ↓reduceIte]
        obtain ⟨r, r1, r2⟩ := pu_hits h2 h31 (nI a) (nI b) (nI s) (nI t) MC MM
        rw [r1, r2]
        exact ⟨_, MC, MM, rfl, rfl, hR⟩
      · rw [t5]
        simp only [pu_bd, ↓reduceIte]
        by_cases q : a5 < 0
        · rw [if_pos q]
          exact ⟨_, MC, MM, rfl, rfl, hR⟩
        · rw [if_neg q, if_neg (t4.resolve_left q)]
          exact ⟨_, MC, MM, rfl, rfl, hR⟩
    · rw [s5]
      simp only [pu_bd, ↓reduceIte]
      by_cases q : a4 < 0
      · rw [if_pos q]
        exact ⟨_, MC, MM, rfl, rfl, hR⟩
      · rw [if_neg q, if_pos (s3.resolve_left q)]
        exact ⟨_, MC, MM, rfl, rfl, hR⟩
  · rw [k1]
    rcases k2 with k2 | ⟨k2, k3⟩
    · rw [k2]
      exact ⟨_, MC, MM, rfl, rfl, hR⟩
    · rw [k2]
      simp only [pu_bd, pu_10, ↓reduceIte, k3]
      exact ⟨_, MC, MM, rfl, rfl, hR⟩
theorem pu_worstI {P : Nat} (h2 : 2 ≤ P) (h31 : P ≤ 31) (a b : Int32) (MC MM : ch_Mem) (kC kM : Int32 → Int32 → Int32 → Int32 → Int32 → ch_Mem → Option (Int32 × ch_Mem)) {s : Nat} (hs : s < P) : ∀ (k t fu gu : Nat) (x : Int32), t + k = P → k < fu → k < gu → (a ≠ b ∨ 1 ≤ s ∨ 1 ≤ t) → ∃ y : Int32, D_X6_worst_L41 kC fu (nI P) a b x (nI s) (nI t) MC = kC (nI P) a b y (nI (s + 1)) MC ∧ D_X7_worst_L34 kM gu (nI P) a b x (nI s) (nI t) MM = kM (nI P) a b y (nI (s + 1)) MM := by
  intro k
  induction k with
  | zero =>
    intro t fu gu x h1 h3 h4 h5
    obtain ⟨fu, rfl⟩ : ∃ q, fu = q + 1 := ⟨fu - 1, by omega⟩
    obtain ⟨gu, rfl⟩ : ∃ q, gu = q + 1 := ⟨gu - 1, by omega⟩
    refine ⟨x, ?_, ?_⟩
    · show D_X6_worst_b41 kC (D_X6_worst_L41 kC fu) _ _ _ _ _ _ MC = _
      unfold D_X6_worst_b41 D_X6_worst_b70
      rw [if_pos (nI_le (by omega) (by omega)), nI_1]
    · show D_X7_worst_b34 kM (D_X7_worst_L34 kM gu) _ _ _ _ _ _ MM = _
      unfold D_X7_worst_b34 D_X7_worst_b93
      rw [if_pos (nI_le (by omega) (by omega)), nI_1]
  | succ k ih =>
    intro t fu gu x h1 h3 h4 h5
    obtain ⟨fu, rfl⟩ : ∃ q, fu = q + 1 := ⟨fu - 1, by omega⟩
    obtain ⟨gu, rfl⟩ : ∃ q, gu = q + 1 := ⟨gu - 1, by omega⟩
    obtain ⟨r, r1, r2⟩ := pu_hits h2 h31 a b (nI s) (nI t) MC MM
    obtain ⟨y, y1, y2⟩ := ih (t + 1) fu gu (if x < r then r else x) (by omega) (by omega) (by omega) (Or.inr (Or.inr (by omega)))
    refine ⟨y, ?_, ?_⟩
    · show D_X6_worst_b41 kC (D_X6_worst_L41 kC fu) _ _ _ _ _ _ MC = _
      unfold D_X6_worst_b41
      rw [if_neg (nI_ge (by omega) (by omega)), r1, pu_bd, nI_1]
      exact y1
    · show D_X7_worst_b34 kM (D_X7_worst_L34 kM gu) _ _ _ _ _ _ MM = _
      have key : D_X7_worst_b59 kM (D_X7_worst_L34 kM gu) (nI P) a b x (nI s) (nI t) MM = kM (nI P) a b y (nI (s + 1)) MM := by
        unfold D_X7_worst_b59 D_X7_worst_b69 D_X7_worst_b85
        rw [r2, pu_bd, nI_1]
        by_cases hz : r ≤ x
        · rw [if_pos hz]
          rw [if_neg (by rw [pu_lt]; rw [pu_le] at hz; omega)] at y2
          exact y2
        · rw [if_neg hz]
          rw [if_pos (by rw [pu_lt]; rw [pu_le] at hz; omega)] at y2
          exact y2
      unfold D_X7_worst_b34
      rw [if_neg (nI_ge (by omega) (by omega)), key]
      by_cases hab : a = b
      · rw [if_pos hab]
        by_cases hs0 : nI s = 0
        · rw [if_pos hs0]
          have hs1 : s = 0 := (nI_eq (b := 0) (by omega) (by decide)).mp hs0
          rw [if_neg]
          intro ht0
          have ht1 : t = 0 := (nI_eq (b := 0) (by omega) (by decide)).mp ht0
          rcases h5 with h5 | h5 | h5
          · exact h5 hab
          · omega
          · omega
        · rw [if_neg hs0]
      · rw [if_neg hab]
theorem pu_worstO {P : Nat} (h2 : 2 ≤ P) (h31 : P ≤ 31) (a b : Int32) (MC MM : ch_Mem) : ∀ (k s fu : Nat) (x : Int32), s + k = P → k < fu → (s = 0 → x = 0) → ∃ y : Int32, D_X6_worst_L18 fu (nI P) a b x (nI s) MC = some (y, MC) ∧ D_X7_worst_L25 fu (nI P) a b x (nI s) MM = some (y, MM) := by
  intro k
  induction k with
  | zero =>
    intro s fu x h1 h3 hx
    obtain ⟨fu, rfl⟩ : ∃ q, fu = q + 1 := ⟨fu - 1, by omega⟩
    refine ⟨x, ?_, ?_⟩
    · show D_X6_worst_b18 (D_X6_worst_L18 fu) _ _ _ _ _ MC = _
      unfold D_X6_worst_b18 D_X6_worst_b76
      rw [if_pos (nI_le (by omega) (by omega))]
    · show D_X7_worst_b25 (D_X7_worst_L25 fu) _ _ _ _ _ MM = _
      unfold D_X7_worst_b25 D_X7_worst_b99
      rw [if_pos (nI_le (by omega) (by omega))]
  | succ k ih =>
    intro s fu x h1 h3 hx
    obtain ⟨fu, rfl⟩ : ∃ q, fu = q + 1 := ⟨fu - 1, by omega⟩
    have eC : D_X6_worst_L18 (fu + 1) (nI P) a b x (nI s) MC = D_X6_worst_b18 (D_X6_worst_L18 fu) (nI P) a b x (nI s) MC := rfl
    have eM : D_X7_worst_L25 (fu + 1) (nI P) a b x (nI s) MM = D_X7_worst_b25 (D_X7_worst_L25 fu) (nI P) a b x (nI s) MM := rfl
    rw [eC, eM]
    unfold D_X6_worst_b18 D_X7_worst_b25 D_X6_worst_b38 D_X6_worst_b39
    rw [if_neg (nI_ge (by omega) (by omega)), if_neg (nI_ge (by omega) (by omega))]
    by_cases hsp : a = b ∧ s = 0
    · obtain ⟨hab, rfl⟩ := hsp
      obtain rfl := hx rfl
      obtain ⟨y, y1, y2⟩ := pu_worstI h2 h31 a b MC MM (D_X6_worst_L18 fu) (D_X7_worst_L25 fu) (s := 0) (by omega) (P - 1) 1 ch_fu (ch_fu - 1) 0 (by omega) (by unfold ch_fu; omega) (by unfold ch_fu; omega) (Or.inr (Or.inr (Nat.le_refl _)))
      obtain ⟨z, z1, z2⟩ := ih 1 fu y (by omega) (by omega) (by omega)
      refine ⟨z, ?_, ?_⟩
      · rw [if_pos hab, if_pos (by rfl)]
        exact y1.trans z1
      · have e0 : D_X7_worst_L34 (D_X7_worst_L25 fu) ch_fu (nI P) a b 0 (nI 0) 0 MM = D_X7_worst_b34 (D_X7_worst_L25 fu) (D_X7_worst_L34 (D_X7_worst_L25 fu) (ch_fu - 1)) (nI P) a b 0 (nI 0) (nI 0) MM := rfl
        rw [e0]
        unfold D_X7_worst_b34 D_X7_worst_b69 D_X7_worst_b85
        rw [if_neg (nI_ge (by omega) (by omega)), if_pos hab, if_pos (by rfl), if_pos (by rfl), if_pos (by decide), nI_1]
        exact y2.trans z2
    · have hne : a ≠ b ∨ 1 ≤ s := by
        by_cases hab : a = b
        · right
          have : ¬ s = 0 := fun z => hsp ⟨hab, z⟩
          omega
        · exact Or.inl hab
      obtain ⟨y, y1, y2⟩ := pu_worstI h2 h31 a b MC MM (D_X6_worst_L18 fu) (D_X7_worst_L25 fu) (s := s) (by omega) P 0 ch_fu ch_fu x (by omega) (by unfold ch_fu; omega) (by unfold ch_fu; omega) (by rcases hne with h | h; exact Or.inl h; exact Or.inr (Or.inl h))
      obtain ⟨z, z1, z2⟩ := ih (s + 1) fu y (by omega) (by omega) (by omega)
      refine ⟨z, ?_, y2.trans z2⟩
      have y1' : D_X6_worst_L41 (D_X6_worst_L18 fu) ch_fu (nI P) a b x (nI s) 0 MC = some (z, MC) := y1.trans z1
      rw [y1']
      by_cases hab : a = b
      · rw [if_pos hab]
        have : ¬ nI s = 0 := fun q => hsp ⟨hab, (nI_eq (b := 0) (by omega) (by decide)).mp q⟩
        rw [if_neg this]
      · rw [if_neg hab]
theorem op_worst {MC MM : ch_Mem} (hR : ch_R MC MM) (a1 a2 a3 : Int32) : ∃ (r : Int32) (MC1 MM1 : ch_Mem), D_X6_worst a1 a2 a3 MC = some (r, MC1) ∧ D_X7_worst a1 a2 a3 MM = some (r, MM1) ∧ ch_R MC1 MM1 := by
  unfold D_X6_worst D_X7_worst
  rcases pu_hops a1 a2 a3 with ⟨P, a, b, h2, h31, rfl, rfl, rfl, ha, hb, k1, k2, k3⟩ | ⟨k1, k2⟩
  · rw [k1, k2]
    simp only [pu_bd, pu_10, ↓reduceIte, k3]
    obtain ⟨y, y1, y2⟩ := pu_worstO h2 h31 (nI a) (nI b) MC MM P 0 ch_fu 0 (by omega) (by unfold ch_fu; omega) (fun _ => rfl)
    exact ⟨y, MC, MM, y1, y2, hR⟩
  · rw [k1]
    rcases k2 with k2 | ⟨k2, k3⟩
    · rw [k2]
      exact ⟨_, MC, MM, rfl, rfl, hR⟩
    · rw [k2]
      simp only [pu_bd, pu_10, ↓reduceIte, k3]
      exact ⟨_, MC, MM, rfl, rfl, hR⟩
theorem pu_rowsL {MC MM : ch_Mem} (hR : ch_Rr MC MM) : ∀ (k i fu : Nat) (x : Int32), i + k = 8 → k < fu → ∃ r : Int32, D_X6_rowsThatAre_L4 fu x (nI i) MC = some (r, MC) ∧ D_X7_rowsThere_L4 fu x (nI i) MM = some (r, MM) := by
  intro k
  induction k with
  | zero =>
    intro i fu x h1 h3
    obtain ⟨fu, rfl⟩ : ∃ q, fu = q + 1 := ⟨fu - 1, by omega⟩
    refine ⟨x, ?_, ?_⟩
    · show D_X6_rowsThatAre_b4 (D_X6_rowsThatAre_L4 fu) _ _ MC = _
      unfold D_X6_rowsThatAre_b4 D_X6_rowsThatAre_b31
      rw [if_pos (show (8 : Int32) ≤ nI i from nI_le (a := 8) (by omega) (by omega))]
    · show D_X7_rowsThere_b4 (D_X7_rowsThere_L4 fu) _ _ MM = _
      unfold D_X7_rowsThere_b4 D_X7_rowsThere_b33
      rw [if_pos (show (8 : Int32) ≤ nI i from nI_le (a := 8) (by omega) (by omega))]
  | succ k ih =>
    intro i fu x h1 h3
    obtain ⟨fu, rfl⟩ : ∃ q, fu = q + 1 := ⟨fu - 1, by omega⟩
    have hlt : ¬ (8 : Int32) ≤ nI i := nI_ge (b := 8) (by omega) (by omega)
    obtain ⟨n, c1, c2, c3, c4⟩ := hR i (by omega)
    have eC : D_X6_rowsThatAre_L4 (fu + 1) x (nI i) MC = D_X6_rowsThatAre_b4 (D_X6_rowsThatAre_L4 fu) x (nI i) MC := rfl
    have eM : D_X7_rowsThere_L4 (fu + 1) x (nI i) MM = D_X7_rowsThere_b4 (D_X7_rowsThere_L4 fu) x (nI i) MM := rfl
    rw [eC, eM]
    unfold D_X6_rowsThatAre_b4 D_X7_rowsThere_b4 D_X3_isNone D_X6_rowsThatAre_b25 D_X7_rowsThere_b25
    rw [if_neg hlt, if_neg hlt, pu_gd (by omega) (by decide), pu_gd (by omega) (by decide), pu_cl (by omega), c2, c3]
    rcases Nat.eq_zero_or_pos n with rfl | hn
    · rw [if_neg (by decide), pu_bd, if_neg pu_10, if_pos (by decide), Int32.add_zero, nI_1]
      exact ih (i + 1) fu x (by omega) (by omega)
    · rw [if_pos (pu_1le hn (by omega)), pu_bd, if_pos rfl, if_neg (nI_nle hn (by omega)), nI_1]
      exact ih (i + 1) fu (x + 1) (by omega) (by omega)
theorem pu_rows {MC MM : ch_Mem} (hR : ch_Rr MC MM) : ∃ r : Int32, D_X6_rowsThatAre MC = some (r, MC) ∧ D_X7_rowsThere MM = some (r, MM) := pu_rowsL hR 8 0 ch_fu 0 (by omega) (by unfold ch_fu; omega)
theorem op_count {MC MM : ch_Mem} (hR : ch_R MC MM) (a1 : Int32) : ∃ (r : Int32) (MC1 MM1 : ch_Mem), D_X6_count a1 MC = some (r, MC1) ∧ D_X7_count a1 MM = some (r, MM1) ∧ ch_R MC1 MM1 := by
  unfold D_X6_count D_X7_count
  by_cases h0 : a1 = 0
  · rw [if_pos h0, if_pos h0]
    obtain ⟨r, r1, r2⟩ := pu_rows hR.1
    rw [r1, r2]
    exact ⟨_, MC, MM, rfl, rfl, hR⟩
  · rw [if_neg h0, if_neg h0]
    by_cases h1 : a1 = 1
    · rw [if_pos h1, if_pos h1]
      obtain ⟨n, ln, sf, d1, d2, d3, d4⟩ := hR.2.2.2.1
      rw [d2, d3]
      exact ⟨_, MC, MM, rfl, rfl, hR⟩
    · rw [if_neg h1, if_neg h1]
      by_cases h2 : a1 = 2
      · rw [if_pos h2, if_pos h2, hR.2.2.2.2.1]
        exact ⟨_, MC, MM, rfl, rfl, hR⟩
      · rw [if_neg h2, if_neg h2]
        by_cases h3 : a1 = 3
        · rw [if_pos h3, if_pos h3, hR.2.2.2.2.2]
          exact ⟨_, MC, MM, rfl, rfl, hR⟩
        · rw [if_neg h3, if_neg h3]
          by_cases h4 : a1 = 4
          · rw [if_pos h4, if_pos h4]
            obtain ⟨t, p1, p2, p3, p4, p5⟩ := hR.2.2.1
            rw [p2, p3]
            exact ⟨_, MC, MM, rfl, rfl, hR⟩
          · rw [if_neg h4, if_neg h4]
            exact ⟨_, MC, MM, rfl, rfl, hR⟩
