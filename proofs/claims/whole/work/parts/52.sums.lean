def pu_sum (f : Nat → Int32) : Nat → Int32
  | 0 => 0
  | n + 1 => pu_sum f n + f n
theorem pu_sum_cong {f g : Nat → Int32} : ∀ {n : Nat}, (∀ i, i < n → f i = g i) → pu_sum f n = pu_sum g n
  | 0, _ => rfl
  | n + 1, h => by rw [pu_sum, pu_sum, pu_sum_cong (fun i hi => h i (by omega)), h n (by omega)]
theorem pu_xor (a b : Nat) : nI a ^^^ nI b = nI (a ^^^ b) := by
  apply Int32.toBitVec_inj.1
  show BitVec.ofNat 32 a ^^^ BitVec.ofNat 32 b = BitVec.ofNat 32 (a ^^^ b)
  apply BitVec.eq_of_getLsbD_eq
  intro i hi
  simp [hi]
theorem pu_and (a b : Nat) : nI a &&& nI b = nI (a &&& b) := by
  apply Int32.toBitVec_inj.1
  show BitVec.ofNat 32 a &&& BitVec.ofNat 32 b = BitVec.ofNat 32 (a &&& b)
  apply BitVec.eq_of_getLsbD_eq
  intro i hi
  simp [hi]
theorem pu_or (a b : Nat) : nI a ||| nI b = nI (a ||| b) := by
  apply Int32.toBitVec_inj.1
  show BitVec.ofNat 32 a ||| BitVec.ofNat 32 b = BitVec.ofNat 32 (a ||| b)
  apply BitVec.eq_of_getLsbD_eq
  intro i hi
  simp [hi]
theorem pu_rem {a d : Nat} (ha : a ≤ 100000) (h0 : 0 < d) (hd : d ≤ 100000) : nI a - nI a / nI d * nI d = nI (a % d) := pk_rem (by omega) h0 (by omega)
theorem pu_xpos {a b : Nat} (ha : a ≤ 100000) (hb : b ≤ 100000) : (0 : Int32) ≤ nI a ^^^ nI b := by
  rw [pu_xor]
  exact nI_pos' (Nat.lt_trans (Nat.xor_lt_two_pow (n := 20) (by omega) (by omega)) (by decide))
theorem pu_g0 {β : Type} {n : Nat} (h : 0 < n) (hn : n ≤ 100000) (x : Option β) : ch_g0 (nI n) x = x := by
  unfold ch_g0
  rw [if_neg (nI_ne0 h (by omega))]
theorem pu_fmod {d n : Nat} (hd : d ≤ 100000) (h0 : 0 < n) (hn : n ≤ 100000) (M : ch_Mem) : D_J9_floorMod_7cf53 (nI d) (nI n) M = some (nI (d % n), M) := by
  unfold D_J9_floorMod_7cf53 D_J9_floorMod_7cf53_b18
  rw [pu_g0 h0 hn, if_pos (pu_xpos hd hn), pu_rem hd h0 hn]
theorem pu_mod1 {m n : Nat} (h : 0 < n) : (m + 1) % n = if m % n + 1 < n then m % n + 1 else 0 := by
  have h1 : (m + 1) % n = (m % n + 1) % n := (Nat.mod_add_mod m n 1).symm
  have h2 : m % n < n := Nat.mod_lt _ h
  rw [h1]
  by_cases h3 : m % n + 1 < n
  · rw [if_pos h3, Nat.mod_eq_of_lt h3]
  · rw [if_neg h3, show m % n + 1 = n by omega, Nat.mod_self]
theorem pu_1le {n : Nat} (h : 0 < n) (hn : n ≤ 100000) : (1 : Int32) ≤ nI n := nI_le (a := 1) h (by omega)
theorem pu_signAt {o d n : Nat} {M : ch_Mem} (e : M.1 o 1 = nI n) (h0 : 0 < n) (hn : n ≤ 127) (hd : d ≤ 100000) : D_X3_signAt o (nI d) M = some (M.1 (o + 8) (d % n), M) := by
  have h2 : d % n < n := Nat.mod_lt _ h0
  unfold D_X3_signAt
  rw [e, if_pos (pu_1le h0 (by omega)), pu_fmod hd h0 (by omega), pu_bd, pu_gd (by omega) (by decide), pu_cl (by omega)]
theorem pu_sumL {o v d n : Nat} {M : ch_Mem} (e : M.1 o 1 = nI n) (h0 : 0 < n) (hn : n ≤ 127) (hv : n ≤ ch_len v) (hv2 : ch_len v ≤ 1000) : ∀ (k i fu : Nat), i + k = n → k < fu → D_X3_sumOver_L25 o v fu (pu_sum (fun i => M.1 (o + 8) ((i + d) % n) * M.1 v i) i) (nI ((i + d) % n)) (nI i) M = some (pu_sum (fun i => M.1 (o + 8) ((i + d) % n) * M.1 v i) n, M) := by
  intro k
  induction k with
  | zero =>
    intro i fu h1 h2
    obtain ⟨fu, rfl⟩ : ∃ f, fu = f + 1 := ⟨fu - 1, by omega⟩
    obtain rfl : i = n := by omega
    show D_X3_sumOver_b25 o v (D_X3_sumOver_L25 o v fu) _ _ _ M = _
    unfold D_X3_sumOver_b25
    rw [e, if_pos (nI_le (Nat.le_refl _) (by omega))]
    rfl
  | succ k ih =>
    intro i fu h1 h2
    obtain ⟨fu, rfl⟩ : ∃ f, fu = f + 1 := ⟨fu - 1, by omega⟩
    have hm : (i + d) % n < n := Nat.mod_lt _ h0
    show D_X3_sumOver_b25 o v (D_X3_sumOver_L25 o v fu) _ _ _ M = _
    unfold D_X3_sumOver_b25
    rw [e, if_neg (nI_ge (by omega) (by omega)), if_neg (nI_ge (by omega) (by omega)), pu_gd (by omega) (by decide), pu_gd (by omega) (by omega), pu_nm, pu_cl (by omega), pu_cl (by omega), nI_1]
    have hs := ih (i + 1) fu (by omega) (by omega)
    have hmm : (i + 1 + d) % n = if (i + d) % n + 1 < n then (i + d) % n + 1 else 0 := by
      rw [show i + 1 + d = i + d + 1 by omega]; exact pu_mod1 h0
    by_cases hc : (i + d) % n + 1 < n
    · rw [if_neg (nI_ge (by omega) (by omega))]
      unfold D_X3_sumOver_b75
      rw [if_pos hc] at hmm
      rw [hmm] at hs
      rw [nI_1]
      exact hs
    · rw [if_pos (nI_le (by omega) (by omega))]
      unfold D_X3_sumOver_b75
      rw [if_neg hc] at hmm
      rw [hmm] at hs
      rw [nI_1]
      exact hs
theorem pu_sumOver {o v d n : Nat} {M : ch_Mem} (e : M.1 o 1 = nI n) (h0 : 0 < n) (hn : n ≤ 127) (hv : n ≤ ch_len v) (hv2 : ch_len v ≤ 1000) (hd : d ≤ 100000) : D_X3_sumOver o v (nI d) M = some (pu_sum (fun i => M.1 (o + 8) ((i + d) % n) * M.1 v i) n, M) := by
  unfold D_X3_sumOver
  rw [e, if_pos (pu_1le h0 (by omega)), pu_fmod hd h0 (by omega), pu_bd]
  have h := pu_sumL (d := d) e h0 hn hv hv2 n 0 ch_fu (by omega) (by unfold ch_fu; omega)
  rw [Nat.zero_add] at h
  exact h
theorem pu_signOf {r d n : Nat} {M : ch_Mem} (e : M.1 1 r = nI n) (hr : r < 8) (h0 : 0 < n) (hn : n ≤ 127) (hd : d ≤ 100000) : D_X7_signOf (nI r) (nI d) M = some (M.1 2 (127 * r + d % n), M) := by
  have h2 : d % n < n := Nat.mod_lt _ h0
  unfold D_X7_signOf
  rw [pu_gd hr (by decide), pu_cl (by omega), e, pu_g0 h0 (by omega), pu_rem hd h0 (by omega), pu_127, pu_gd (by omega) (by decide), pu_cl (by omega)]
theorem pu_likeL {a b d n : Nat} {M : ch_Mem} (ea : M.1 1 a = nI n) (eb : M.1 1 b = nI n) (ha : a < 8) (hb : b < 8) (h0 : 0 < n) (hn : n ≤ 127) (hd : d ≤ 1000) : ∀ (k i fu : Nat), i + k = n → k < fu → D_X7_likeness_L6 fu (nI a) (nI b) (nI d) (pu_sum (fun i => M.1 2 (127 * a + i) * M.1 2 (127 * b + (i + d) % n)) i) (nI i) M = some (pu_sum (fun i => M.1 2 (127 * a + i) * M.1 2 (127 * b + (i + d) % n)) n, M) := by
  intro k
  induction k with
  | zero =>
    intro i fu h1 h2
    obtain ⟨fu, rfl⟩ : ∃ f, fu = f + 1 := ⟨fu - 1, by omega⟩
    obtain rfl : i = n := by omega
    show D_X7_likeness_b6 (D_X7_likeness_L6 fu) _ _ _ _ _ M = _
    unfold D_X7_likeness_b6
    rw [pu_gd ha (by decide), pu_cl (by omega), ea, if_pos (nI_le (Nat.le_refl _) (by omega))]
    rfl
  | succ k ih =>
    intro i fu h1 h2
    obtain ⟨fu, rfl⟩ : ∃ f, fu = f + 1 := ⟨fu - 1, by omega⟩
    show D_X7_likeness_b6 (D_X7_likeness_L6 fu) _ _ _ _ _ M = _
    unfold D_X7_likeness_b6
    rw [pu_gd ha (by decide), pu_cl (by omega), ea, if_neg (nI_ge (by omega) (by omega)), pu_signOf ea ha h0 hn (by omega), pu_bd, nI_add, pu_signOf eb hb h0 hn (by omega), pu_bd, nI_1, Nat.mod_eq_of_lt (show i < n by omega)]
    exact ih (i + 1) fu (by omega) (by omega)
theorem pu_like {a b d n : Nat} {M : ch_Mem} (ea : M.1 1 a = nI n) (eb : M.1 1 b = nI n) (ha : a < 8) (hb : b < 8) (h0 : 0 < n) (hn : n ≤ 127) (hd : d ≤ 1000) : D_X7_likeness (nI a) (nI b) (nI d) M = some (pu_sum (fun i => M.1 2 (127 * a + i) * M.1 2 (127 * b + (i + d) % n)) n, M) := pu_likeL ea eb ha hb h0 hn hd n 0 ch_fu (by omega) (by unfold ch_fu; omega)
theorem pu_lenS {r : Nat} (hr : r < 8) : ch_len (7 + r + 8) = 127 := by unfold ch_len; rw [if_pos (by omega)]
theorem pu_alike {MC MM : ch_Mem} (hR : ch_Rr MC MM) {a b d n : Nat} (ha : a < 8) (hb : b < 8) (ea : MC.1 (7 + a) 1 = nI n) (eb : MC.1 (7 + b) 1 = nI n) (h0 : 0 < n) (hn : n ≤ 127) (hd : d ≤ 1000) : ∃ r : Int32, D_X3_sumOver (7 + b) (7 + a + 8) (nI d) MC = some (r, MC) ∧ D_X7_likeness (nI a) (nI b) (nI d) MM = some (r, MM) := by
  obtain ⟨n1, p1, p2, p3, p4⟩ := hR a ha
  obtain ⟨n2, q1, q2, q3, q4⟩ := hR b hb
  obtain rfl : n1 = n := (nI_eq (by omega) (by omega)).mp (p2.symm.trans ea)
  obtain rfl : n2 = n1 := (nI_eq (by omega) (by omega)).mp (q2.symm.trans eb)
  refine ⟨_, pu_sumOver eb h0 hn (by rw [pu_lenS ha]; omega) (by rw [pu_lenS ha]; decide) (by omega), ?_⟩
  rw [pu_like p3 q3 ha hb h0 hn hd]
  refine congrArg (fun z => some (z, MM)) (pu_sum_cong (fun i hi => ?_))
  have hm : (i + d) % n2 < n2 := Nat.mod_lt _ h0
  rw [(p4 i hi).2, (q4 _ hm).2, Int32.mul_comm]
theorem pu_pair {MC MM : ch_Mem} (hR : ch_Rr MC MM) {a b : Nat} (ha : a < 8) (hb : b < 8) : (∃ n, 0 < n ∧ n ≤ 127 ∧ MC.1 (7 + a) 1 = nI n ∧ MC.1 (7 + b) 1 = nI n ∧ MM.1 1 a = nI n ∧ MM.1 1 b = nI n ∧ D_X6_arePaired (nI a) (nI b) MC = some (1, MC) ∧ D_X7_arePair (nI a) (nI b) MM = some (1, MM)) ∨ (D_X6_arePaired (nI a) (nI b) MC = some (0, MC) ∧ D_X7_arePair (nI a) (nI b) MM = some (0, MM)) := by
  obtain ⟨n1, p1, p2, p3, p4⟩ := hR a ha
  obtain ⟨n2, q1, q2, q3, q4⟩ := hR b hb
  unfold D_X6_arePaired D_X7_arePair D_X3_isNone
  simp only [pu_gd ha (show 8 ≤ 100000 by decide), pu_gd hb (show 8 ≤ 100000 by decide), pu_cl (show a ≤ 100000 by omega), pu_cl (show b ≤ 100000 by omega), p2, p3, q2, q3]
  rcases Nat.eq_zero_or_pos n1 with rfl | hn
  · right
    rw [if_neg (by decide), pu_bd, if_neg pu_10, if_pos (by decide)]
    exact ⟨rfl, rfl⟩
  · rw [if_pos (pu_1le hn (by omega)), pu_bd, if_pos rfl, if_neg (nI_nle hn (by omega)), p2, q2]
    by_cases hh : n1 = n2
    · subst hh
      left
      rw [if_pos rfl, if_pos rfl]
      exact ⟨n1, hn, p1, rfl, rfl, rfl, rfl, rfl, rfl⟩
    · right
      have hh2 : ¬ nI n1 = nI n2 := fun z => hh ((nI_eq (by omega) (by omega)).mp z)
      rw [if_neg hh2, if_neg hh2]
      exact ⟨rfl, rfl⟩
theorem op_sign {MC MM : ch_Mem} (hR : ch_R MC MM) (a1 a2 : Int32) : ∃ (r : Int32) (MC1 MM1 : ch_Mem), D_X6_sign a1 a2 MC = some (r, MC1) ∧ D_X7_sign a1 a2 MM = some (r, MM1) ∧ ch_R MC1 MM1 := by
  unfold D_X6_sign D_X7_sign
  rcases pu_row a1 with ⟨r, -, hr, rfl, h1, h2⟩ | ⟨h1, h2⟩
  · rw [h1, h2]
    simp only [pu_bd, pu_10, ↓reduceIte, pu_gd (show r < 8 by omega) (show 8 ≤ 100000 by decide), pu_cl (show r ≤ 100000 by omega), D_X3_isNone]
    rcases pu_shift a2 with ⟨d, -, hd, rfl, g1, g2⟩ | ⟨g1, g2⟩
    · rw [g1, g2]
      simp only [pu_bd, pu_10, ↓reduceIte]
      obtain ⟨n, e1, e2, e3, e4⟩ := hR.1 r (by omega)
      rw [e2, e3]
      rcases Nat.eq_zero_or_pos n with rfl | hn
      · rw [if_neg (by decide), if_pos (by rfl), pu_bd, if_neg pu_10]
        exact ⟨_, MC, MM, rfl, rfl, hR⟩
      · rw [if_pos (pu_1le hn (by omega)), if_neg (nI_ne0 hn (by omega)), pu_bd, if_pos rfl, pu_signAt e2 hn e1 (by omega), pu_signOf e3 (by omega) hn e1 (by omega), pu_bd, pu_bd, (e4 _ (Nat.mod_lt _ hn)).2]
        exact ⟨_, MC, MM, rfl, rfl, hR⟩
    · rw [g1, g2]
      exact ⟨_, MC, MM, rfl, rfl, hR⟩
  · rw [h1, h2]
    exact ⟨_, MC, MM, rfl, rfl, hR⟩
theorem op_like {MC MM : ch_Mem} (hR : ch_R MC MM) (a1 a2 a3 : Int32) : ∃ (r : Int32) (MC1 MM1 : ch_Mem), D_X6_like a1 a2 a3 MC = some (r, MC1) ∧ D_X7_like a1 a2 a3 MM = some (r, MM1) ∧ ch_R MC1 MM1 := by
  unfold D_X6_like D_X7_like
  rcases pu_row a1 with ⟨a, -, ha, rfl, h1, h2⟩ | ⟨h1, h2⟩
  · rw [h1, h2]
    simp only [pu_bd, pu_10, ↓reduceIte]
    rcases pu_row a2 with ⟨b, -, hb, rfl, g1, g2⟩ | ⟨g1, g2⟩
    · rw [g1, g2]
      simp only [pu_bd, pu_10, ↓reduceIte]
      rcases pu_shift a3 with ⟨d, -, hd, rfl, k1, k2⟩ | ⟨k1, k2⟩
      · rw [k1, k2]
        simp only [pu_bd, pu_10, ↓reduceIte]
        rcases pu_pair hR.1 (show a < 8 by omega) (show b < 8 by omega) with ⟨n, hn0, hn, e1, e2, e3, e4, e5, e6⟩ | ⟨e5, e6⟩
        · rw [e5, e6]
          simp only [pu_bd, pu_10, ↓reduceIte, pu_gd (show a < 8 by omega) (show 8 ≤ 100000 by decide), pu_gd (show b < 8 by omega) (show 8 ≤ 100000 by decide), pu_cl (show a ≤ 100000 by omega), pu_cl (show b ≤ 100000 by omega)]
          obtain ⟨r, r1, r2⟩ := pu_alike hR.1 (show a < 8 by omega) (show b < 8 by omega) e1 e2 hn0 hn (show d ≤ 1000 by omega)
          rw [r1, r2]
          exact ⟨_, MC, MM, rfl, rfl, hR⟩
        · rw [e5, e6]
          exact ⟨_, MC, MM, rfl, rfl, hR⟩
      · rw [k1, k2]
        exact ⟨_, MC, MM, rfl, rfl, hR⟩
    · rw [g1, g2]
      exact ⟨_, MC, MM, rfl, rfl, hR⟩
  · rw [h1, h2]
    exact ⟨_, MC, MM, rfl, rfl, hR⟩
theorem pu_abs (r : Int32) : (if (0 : Int32) ≤ r then r else 0 - r) = if (0 : Int32) ≤ r then r else -r := by
  by_cases h : (0 : Int32) ≤ r
  · rw [if_pos h, if_pos h]
  · rw [if_neg h, if_neg h, Int32.zero_sub]
theorem pu_mostL {MC MM : ch_Mem} (hR : ch_Rr MC MM) {a b n : Nat} (ha : a < 8) (hb : b < 8) (ea : MC.1 (7 + a) 1 = nI n) (eb : MC.1 (7 + b) 1 = nI n) (ma : MM.1 1 a = nI n) (h0 : 0 < n) (hn : n ≤ 127) : ∀ (k d fu : Nat) (x : Int32), n ≤ d + k → d ≤ n + 1 → k < fu → ∃ r : Int32, D_X6_most_L43 fu (nI a) (nI b) x (nI d) MC = some (r, MC) ∧ D_X7_most_L43 fu (nI a) (nI b) x (nI d) MM = some (r, MM) := by
  intro k
  induction k with
  | zero =>
    intro d fu x h1 h2 h3
    obtain ⟨fu, rfl⟩ : ∃ f, fu = f + 1 := ⟨fu - 1, by omega⟩
    refine ⟨x, ?_, ?_⟩
    · show D_X6_most_b43 (D_X6_most_L43 fu) _ _ _ _ MC = _
      unfold D_X6_most_b43
      rw [pu_gd ha (by decide), pu_cl (by omega), ea, if_pos (nI_le (by omega) (by omega))]
      rfl
    · show D_X7_most_b43 (D_X7_most_L43 fu) _ _ _ _ MM = _
      unfold D_X7_most_b43
      rw [pu_gd ha (by decide), pu_cl (by omega), ma, if_pos (nI_le (by omega) (by omega))]
      rfl
  | succ k ih =>
    intro d fu x h1 h2 h3
    obtain ⟨fu, rfl⟩ : ∃ f, fu = f + 1 := ⟨fu - 1, by omega⟩
    by_cases hd : n ≤ d
    · refine ⟨x, ?_, ?_⟩
      · show D_X6_most_b43 (D_X6_most_L43 fu) _ _ _ _ MC = _
        unfold D_X6_most_b43
        rw [pu_gd ha (by decide), pu_cl (by omega), ea, if_pos (nI_le (by omega) (by omega))]
        rfl
      · show D_X7_most_b43 (D_X7_most_L43 fu) _ _ _ _ MM = _
        unfold D_X7_most_b43
        rw [pu_gd ha (by decide), pu_cl (by omega), ma, if_pos (nI_le (by omega) (by omega))]
        rfl
    · obtain ⟨r, r1, r2⟩ := pu_alike hR ha hb ea eb h0 hn (show d ≤ 1000 by omega)
      obtain ⟨y, hy⟩ : ∃ y : Int32, y = if (0 : Int32) ≤ r then r else -r := ⟨_, rfl⟩
      obtain ⟨q, q1, q2⟩ := ih (d + 1) fu (if x < y then y else x) (by omega) (by omega) (by omega)
      refine ⟨q, ?_, ?_⟩
      · show D_X6_most_b43 (D_X6_most_L43 fu) _ _ _ _ MC = _
        unfold D_X6_most_b43
        rw [pu_gd ha (by decide), pu_cl (by omega), ea, if_neg (nI_ge (by omega) (by omega)), pu_gd hb (by decide), pu_gd ha (by decide), pu_cl (by omega), r1, pu_bd, pu_nm, pu_abs, ← hy, nI_1]
        exact q1
      · show D_X7_most_b43 (D_X7_most_L43 fu) _ _ _ _ MM = _
        unfold D_X7_most_b43 D_X7_most_b77 D_X7_most_b91
        rw [pu_gd ha (by decide), pu_cl (by omega), ma, if_neg (nI_ge (by omega) (by omega)), r2, pu_bd]
        have key : ∀ z : Int32, z = y → (if z ≤ x then D_X7_most_L43 fu (nI a) (nI b) x (nI d + 1) MM else D_X7_most_L43 fu (nI a) (nI b) z (nI d + 1) MM) = some (q, MM) := by
          intro z hz
          subst hz
          rw [nI_1]
          by_cases hzx : z ≤ x
          · rw [if_pos hzx]
            rw [if_neg (by rw [pu_lt]; rw [pu_le] at hzx; omega)] at q2
            exact q2
          · rw [if_neg hzx]
            rw [if_pos (by rw [pu_lt]; rw [pu_le] at hzx; omega)] at q2
            exact q2
        by_cases hr0 : (0 : Int32) ≤ r
        · rw [if_pos hr0]
          exact key r (by rw [hy, if_pos hr0])
        · rw [if_neg hr0]
          exact key (-r) (by rw [hy, if_neg hr0])
theorem op_most {MC MM : ch_Mem} (hR : ch_R MC MM) (a1 a2 : Int32) : ∃ (r : Int32) (MC1 MM1 : ch_Mem), D_X6_most a1 a2 MC = some (r, MC1) ∧ D_X7_most a1 a2 MM = some (r, MM1) ∧ ch_R MC1 MM1 := by
  unfold D_X6_most D_X7_most D_X6_most_b41 D_X7_most_b41
  rcases pu_row a1 with ⟨a, -, ha, rfl, h1, h2⟩ | ⟨h1, h2⟩
  · rw [h1, h2]
    simp only [pu_bd, pu_10, ↓reduceIte]
    rcases pu_row a2 with ⟨b, -, hb, rfl, g1, g2⟩ | ⟨g1, g2⟩
    · rw [g1, g2]
      simp only [pu_bd, pu_10, ↓reduceIte]
      rcases pu_pair hR.1 (show a < 8 by omega) (show b < 8 by omega) with ⟨n, hn0, hn, e1, e2, e3, e4, e5, e6⟩ | ⟨e5, e6⟩
      · rw [e5, e6]
        simp only [pu_bd, pu_10, ↓reduceIte]
        by_cases hab : nI a = nI b
        · rw [if_pos hab, if_pos hab]
          obtain ⟨r, r1, r2⟩ := pu_mostL hR.1 (show a < 8 by omega) (show b < 8 by omega) e1 e2 e3 hn0 hn n 1 ch_fu 0 (by omega) (by omega) (by unfold ch_fu; omega)
          exact ⟨r, MC, MM, r1, r2, hR⟩
        · rw [if_neg hab, if_neg hab]
          obtain ⟨r, r1, r2⟩ := pu_mostL hR.1 (show a < 8 by omega) (show b < 8 by omega) e1 e2 e3 hn0 hn n 0 ch_fu 0 (by omega) (by omega) (by unfold ch_fu; omega)
          exact ⟨r, MC, MM, r1, r2, hR⟩
      · rw [e5, e6]
        exact ⟨_, MC, MM, rfl, rfl, hR⟩
    · rw [g1, g2]
      exact ⟨_, MC, MM, rfl, rfl, hR⟩
  · rw [h1, h2]
    exact ⟨_, MC, MM, rfl, rfl, hR⟩
