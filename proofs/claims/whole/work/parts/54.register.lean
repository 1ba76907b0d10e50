theorem fb_holes : ∀ (m n : Nat) (f : Nat → Nat), (∀ i, i < n → f i < m) → (∀ i j, i < j → j < n → f i ≠ f j) → n ≤ m := by
  intro m
  induction m with
  | zero =>
    intro n f h1 _
    rcases Nat.eq_zero_or_pos n with h | h
    · omega
    · exact absurd (h1 0 h) (Nat.not_lt_zero _)
  | succ m ih =>
    intro n f h1 h2
    by_cases hx : ∃ i, i < n ∧ f i = m
    · obtain ⟨a, ha, hfa⟩ := hx
      have hg := ih (n - 1) (fun i => if i < a then f i else f (i + 1)) (by
        intro i hi
        by_cases q : i < a
        · simp only [if_pos q]
          have b1 := h1 i (by omega)
          have b2 := h2 i a q ha
          omega
        · simp only [if_neg q]
          have b1 := h1 (i + 1) (by omega)
          have b2 := h2 a (i + 1) (by omega) (by omega)
          omega) (by
        intro i j hij hj
        by_cases q : i < a
        · by_cases r : j < a
          · simp only [if_pos q, if_pos r]
            exact h2 i j hij (by omega)
          · simp only [if_pos q, if_neg r]
            exact h2 i (j + 1) (by omega) (by omega)
        · have r : ¬ j < a := by omega
          simp only [if_neg q, if_neg r]
          exact h2 (i + 1) (j + 1) (by omega) (by omega))
      omega
    · have hg := ih n f (fun i hi => by
        have b1 := h1 i hi
        have b2 : f i ≠ m := fun e => hx ⟨i, hi, e⟩
        omega) h2
      omega
/-- two of them in one place -/
theorem fb_twice {m n : Nat} {f : Nat → Nat} (h : ∀ i, i < n → f i < m) (hm : m < n) : ∃ i j, i < j ∧ j < n ∧ f i = f j := by
  refine Classical.byContradiction fun hx => ?_
  have := fb_holes m n f h (fun i j hij hj e => hx ⟨i, j, hij, hj, e⟩)
  omega
/-- as many as places, none twice: each place is taken -/
theorem fb_onto {n : Nat} {f : Nat → Nat} (h : ∀ i, i < n → f i < n) (h2 : ∀ i j, i < j → j < n → f i ≠ f j) {y : Nat} (hy : y < n) : ∃ i, i < n ∧ f i = y := by
  refine Classical.byContradiction fun hx => ?_
  have hne : ∀ i, i < n → f i ≠ y := fun i hi e => hx ⟨i, hi, e⟩
  have := fb_holes (n - 1) n (fun i => if f i < y then f i else f i - 1) (by
    intro i hi
    have b1 := h i hi
    have b2 := hne i hi
    by_cases q : f i < y
    · simp only [if_pos q]; omega
    · simp only [if_neg q]; omega) (by
    intro i j hij hj
    have b1 := hne i (by omega)
    have b2 := hne j hj
    have b3 := h2 i j hij hj
    by_cases q : f i < y
    · by_cases r : f j < y
      · simp only [if_pos q, if_pos r]; exact b3
      · simp only [if_pos q, if_neg r]; omega
    · by_cases r : f j < y
      · simp only [if_neg q, if_pos r]; omega
      · simp only [if_neg q, if_neg r]; omega)
  omega
def pu_b1 (x : Int32) : Int32 := x - (((x.toUInt32 >>> ((1 : Int32).toUInt32 &&& Int32.toUInt32 31)).toInt32) &&& (1431655765 : Int32))
def pu_b2 (x : Int32) : Int32 := (x &&& (858993459 : Int32)) + (((x.toUInt32 >>> ((2 : Int32).toUInt32 &&& Int32.toUInt32 31)).toInt32) &&& (858993459 : Int32))
def pu_b3 (x : Int32) : Int32 := (x + ((x.toUInt32 >>> ((4 : Int32).toUInt32 &&& Int32.toUInt32 31)).toInt32)) &&& (252645135 : Int32)
def pu_b4 (x : Int32) : Int32 := x + ((x.toUInt32 >>> ((8 : Int32).toUInt32 &&& Int32.toUInt32 31)).toInt32)
def pu_b5 (x : Int32) : Int32 := x + ((x.toUInt32 >>> ((16 : Int32).toUInt32 &&& Int32.toUInt32 31)).toInt32)
def pu_bcv (x : Int32) : Int32 := pu_b5 (pu_b4 (pu_b3 (pu_b2 (pu_b1 x)))) &&& (63 : Int32)
theorem pu_bc (x : Int32) (M : ch_Mem) : D_J6_bitCount_0f7a4 x M = some (pu_bcv x, M) := rfl
def pu_pl (x : Int32) : Nat → Int32
  | 0 => 0
  | k + 1 => pu_pl x k ^^^ ((x >>> (nI k &&& 31)) &&& 1)
def pu_p (X : Nat) : Nat := (X % 2 + X / 2 % 2 + X / 4 % 2 + X / 8 % 2 + X / 16 % 2 + X / 32 % 2 + X / 64 % 2) % 2
theorem pu_par1 : ∀ X : Fin 128, pu_bcv (nI X.val) &&& 1 = nI (pu_p X.val) := by decide +kernel
theorem pu_par2 : ∀ n : Fin 8, ∀ X : Fin 128, X.val < 2 ^ n.val → pu_pl (nI X.val) n.val = nI (pu_p X.val) := by decide +kernel
theorem pu_mix : ∀ n : Fin 8, ∀ B : Fin 128, ∀ p : Fin 2, 2 ≤ n.val → B.val < 2 ^ n.val → (nI B.val >>> ((1 : Int32) &&& 31)) ||| (nI p.val <<< ((nI n.val - 1) &&& 31)) = nI (B.val / 2 + p.val * 2 ^ (n.val - 1)) := by decide +kernel
theorem pu_odd : ∀ b : Fin 64, ∀ t : Fin 64, pu_p ((2 * b.val) &&& (2 * t.val + 1)) ≠ pu_p ((2 * b.val + 1) &&& (2 * t.val + 1)) := by decide +kernel
theorem pu_shl : ∀ n : Fin 8, (1 : Int32) <<< (nI n.val &&& 31) = nI (2 ^ n.val) := by decide +kernel
theorem pu_p2 (X : Nat) : pu_p X < 2 := Nat.mod_lt _ (by decide)
def pu_f (n T B : Nat) : Nat := B / 2 + pu_p (B &&& T) * 2 ^ (n - 1)
theorem pu_pow {n : Nat} (h : 2 ≤ n) (h7 : n ≤ 7) : 2 ^ n = 2 * 2 ^ (n - 1) ∧ 2 ^ n ≤ 128 ∧ 4 ≤ 2 ^ n := by
  rcases (show n = 2 ∨ n = 3 ∨ n = 4 ∨ n = 5 ∨ n = 6 ∨ n = 7 by omega) with rfl | rfl | rfl | rfl | rfl | rfl <;> decide
theorem pu_fb {n T B : Nat} (h : 2 ≤ n) (h7 : n ≤ 7) (hB : B < 2 ^ n) : pu_f n T B < 2 ^ n := by
  obtain ⟨e, -, -⟩ := pu_pow h h7
  have hp := pu_p2 (B &&& T)
  unfold pu_f
  rcases (show pu_p (B &&& T) = 0 ∨ pu_p (B &&& T) = 1 by omega) with q | q <;> rw [q] <;> omega
theorem pu_stepC {n T B : Nat} (h : 2 ≤ n) (h7 : n ≤ 7) (hT : T < 2 ^ n) (hB : B < 2 ^ n) (M : ch_Mem) : D_X6_stepped (nI n) (nI T) (nI B) M = some (nI (pu_f n T B), M) := by
  obtain ⟨e, e2, -⟩ := pu_pow h h7
  have hl : B &&& T < 128 := Nat.lt_of_le_of_lt Nat.and_le_left (by omega)
  unfold D_X6_stepped
  rw [pu_and, pu_bc, pu_bd, pu_par1 ⟨B &&& T, hl⟩]
  refine congrArg (fun z => some (z, M)) ?_
  exact pu_mix ⟨n, by omega⟩ ⟨B, by omega⟩ ⟨pu_p (B &&& T), pu_p2 _⟩ h hB
theorem pu_nextL {n T B : Nat} (h7 : n ≤ 7) (M : ch_Mem) : ∀ (k i fu : Nat), i + k = n → k < fu → D_X7_next_L5 fu (nI n) (nI T) (nI B) (pu_pl (nI B &&& nI T) i) (nI i) M = some ((nI B >>> ((1 : Int32) &&& 31)) ||| (pu_pl (nI B &&& nI T) n <<< ((nI n - 1) &&& 31)), M) := by
  intro k
  induction k with
  | zero =>
    intro i fu h1 h3
    obtain ⟨fu, rfl⟩ : ∃ f, fu = f + 1 := ⟨fu - 1, by omega⟩
    obtain rfl : i = n := by omega
    show D_X7_next_b5 (D_X7_next_L5 fu) _ _ _ _ _ M = _
    unfold D_X7_next_b5 D_X7_next_b28
    rw [if_pos (nI_le (Nat.le_refl _) (by omega))]
  | succ k ih =>
    intro i fu h1 h3
    obtain ⟨fu, rfl⟩ : ∃ f, fu = f + 1 := ⟨fu - 1, by omega⟩
    show D_X7_next_b5 (D_X7_next_L5 fu) _ _ _ _ _ M = _
    unfold D_X7_next_b5
    rw [if_neg (nI_ge (by omega) (by omega)), pu_nm, nI_1]
    exact ih (i + 1) fu (by omega) (by omega)
theorem pu_stepM {n T B : Nat} (h : 2 ≤ n) (h7 : n ≤ 7) (hT : T < 2 ^ n) (hB : B < 2 ^ n) (M : ch_Mem) : D_X7_next (nI n) (nI T) (nI B) M = some (nI (pu_f n T B), M) := by
  obtain ⟨e, e2, -⟩ := pu_pow h h7
  have hl2 : B &&& T < 2 ^ n := Nat.lt_of_le_of_lt Nat.and_le_left hB
  have h1 := pu_nextL (n := n) (T := T) (B := B) h7 M n 0 ch_fu (by omega) (by unfold ch_fu; omega)
  have h2 : D_X7_next (nI n) (nI T) (nI B) M = D_X7_next_L5 ch_fu (nI n) (nI T) (nI B) (pu_pl (nI B &&& nI T) 0) (nI 0) M := rfl
  rw [h2, h1, pu_and, pu_par2 ⟨n, by omega⟩ ⟨B &&& T, by omega⟩ hl2]
  refine congrArg (fun z => some (z, M)) ?_
  exact pu_mix ⟨n, by omega⟩ ⟨B, by omega⟩ ⟨pu_p (B &&& T), pu_p2 _⟩ h hB
def pu_orb (n T B : Nat) : Nat → Nat
  | 0 => B
  | i + 1 => pu_f n T (pu_orb n T B i)
theorem pu_orb_lt {n T B : Nat} (h : 2 ≤ n) (h7 : n ≤ 7) (hB : B < 2 ^ n) : ∀ i, pu_orb n T B i < 2 ^ n
  | 0 => hB
  | i + 1 => pu_fb h h7 (pu_orb_lt h h7 hB i)
def pu_s (B : Nat) : Int32 := if B % 2 = 1 then -1 else 1
theorem pu_s1 (B : Nat) : pu_s B = 1 ∨ pu_s B = -1 := by
  unfold pu_s
  by_cases h : B % 2 = 1
  · rw [if_pos h]; exact Or.inr rfl
  · rw [if_neg h]; exact Or.inl rfl
theorem pu_and1 (B : Nat) : nI B &&& 1 = nI (B % 2) := by
  show nI B &&& nI 1 = _
  rw [pu_and, Nat.and_one_is_mod]
theorem pu_rem2 {B : Nat} (h : B ≤ 100000) : nI B - nI B / 2 * 2 = nI (B % 2) := pu_rem (d := 2) h (by decide) (by decide)
theorem pu_is1 (B : Nat) : nI (B % 2) = 1 ↔ B % 2 = 1 := nI_eq (b := 1) (by omega) (by decide)
theorem pu_regC {c n T B m : Nat} (hc : c < 8) (h : 2 ≤ n) (h7 : n ≤ 7) (hT : T < 2 ^ n) (hB : B < 2 ^ n) (hm : m + 1 = 2 ^ n) : ∀ (k i fu : Nat) (M : ch_Mem), i + k = m → k < fu → M.1 (7 + c) 1 = nI m → ∃ M1, D_X3_fillByRegister_L15 (7 + c) fu (nI n) (nI T) (nI (pu_orb n T B i)) (nI i) M = some ((), M1) ∧ (∀ a, a ≠ 7 + c + 8 → M1.1 a = M.1 a) ∧ M1.2 = M.2 ∧ (∀ j, i ≤ j → j < m → M1.1 (7 + c + 8) j = pu_s (pu_orb n T B j)) ∧ ∀ j, j < i → M1.1 (7 + c + 8) j = M.1 (7 + c + 8) j := by
  obtain ⟨e, e2, -⟩ := pu_pow h h7
  intro k
  induction k with
  | zero =>
    intro i fu M h1 h3 h4
    obtain ⟨fu, rfl⟩ : ∃ f, fu = f + 1 := ⟨fu - 1, by omega⟩
    refine ⟨M, ?_, fun a _ => rfl, rfl, fun j h5 h6 => by omega, fun j _ => rfl⟩
    show D_X3_fillByRegister_b15 (7 + c) (D_X3_fillByRegister_L15 (7 + c) fu) _ _ _ _ M = _
    unfold D_X3_fillByRegister_b15
    rw [h4, if_pos (nI_le (by omega) (by omega))]
  | succ k ih =>
    intro i fu M h1 h3 h4
    obtain ⟨fu, rfl⟩ : ∃ f, fu = f + 1 := ⟨fu - 1, by omega⟩
    obtain ⟨M1, e1, e2, e3, e4, e5⟩ := ih (i + 1) fu (ch_wI M (7 + c + 8) i (pu_s (pu_orb n T B i))) (by omega) (by omega) (by rw [pu_wn2 (by omega)]; exact h4)
    refine ⟨M1, ?_, fun a ha => by rw [e2 a ha, pu_wn ha], e3, fun j h6 h7 => ?_, fun j h6 => by rw [e5 j (by omega), pu_wn2 (by omega)]⟩
    · show D_X3_fillByRegister_b15 (7 + c) (D_X3_fillByRegister_L15 (7 + c) fu) _ _ _ _ M = _
      unfold D_X3_fillByRegister_b15 D_X3_fillByRegister_b43
      have hlt := pu_orb_lt (T := T) h h7 hB i
      rw [h4, if_neg (nI_ge (by omega) (by omega)), pu_and1, pu_lenS hc, pu_gd (by omega) (by decide), pu_gd (by omega) (by decide), pu_cl (by omega)]
      by_cases hz : pu_orb n T B i % 2 = 1
      · rw [if_pos ((pu_is1 _).mpr hz), pu_stepC h h7 hT hlt, pu_bd, nI_1]
        have hs : pu_s (pu_orb n T B i) = -1 := if_pos hz
        rw [hs] at e1
        exact e1
      · rw [if_neg (fun q => hz ((pu_is1 _).mp q)), pu_stepC h h7 hT hlt, pu_bd, nI_1]
        have hs : pu_s (pu_orb n T B i) = 1 := if_neg hz
        rw [hs] at e1
        exact e1
    · by_cases hj : j = i
      · subst hj
        rw [e5 _ (by omega), pu_ws]
      · exact e4 j (by omega) h7
theorem pu_regM {r n T B m : Nat} (h : 2 ≤ n) (h7 : n ≤ 7) (hT : T < 2 ^ n) (hB : B < 2 ^ n) (hm : m + 1 = 2 ^ n) : ∀ (k i fu : Nat) (M : ch_Mem), i + k = m → k < fu → ∃ M1, D_X7_make_L34 fu (nI r) (nI n) (nI T) (nI (pu_orb n T B i)) (nI m) (nI i) M = ch_bd (D_X7_keeps (nI r) (nI m) M1) (fun _ M2 => some (nI m, M2)) ∧ (∀ a, a ≠ 3 → M1.1 a = M.1 a) ∧ M1.2 = M.2 ∧ (∀ j, i ≤ j → j < m → M1.1 3 j = pu_s (pu_orb n T B j)) ∧ ∀ j, j < i → M1.1 3 j = M.1 3 j := by
  obtain ⟨e, e2, -⟩ := pu_pow h h7
  intro k
  induction k with
  | zero =>
    intro i fu M h1 h3
    obtain ⟨fu, rfl⟩ : ∃ f, fu = f + 1 := ⟨fu - 1, by omega⟩
    refine ⟨M, ?_, fun a _ => rfl, rfl, fun j h5 h6 => by omega, fun j _ => rfl⟩
    show D_X7_make_b34 (D_X7_make_L34 fu) _ _ _ _ _ _ M = _
    unfold D_X7_make_b34 D_X7_make_b76
    rw [if_pos (nI_le (by omega) (by omega))]
  | succ k ih =>
    intro i fu M h1 h3
    obtain ⟨fu, rfl⟩ : ∃ f, fu = f + 1 := ⟨fu - 1, by omega⟩
    obtain ⟨M1, e1, e2, e3, e4, e5⟩ := ih (i + 1) fu (ch_wI M 3 i (pu_s (pu_orb n T B i))) (by omega) (by omega)
    refine ⟨M1, ?_, fun a ha => by rw [e2 a ha, pu_wn ha], e3, fun j h6 h7 => ?_, fun j h6 => by rw [e5 j (by omega), pu_wn2 (by omega)]⟩
    · show D_X7_make_b34 (D_X7_make_L34 fu) _ _ _ _ _ _ M = _
      unfold D_X7_make_b34 D_X7_make_b60
      have hlt := pu_orb_lt (T := T) h h7 hB i
      rw [if_neg (nI_ge (by omega) (by omega)), pu_rem2 (by omega), pu_gd (by omega) (by decide), pu_gd (by omega) (by decide), pu_cl (by omega)]
      by_cases hz : pu_orb n T B i % 2 = 1
      · rw [if_pos ((pu_is1 _).mpr hz), pu_stepM h h7 hT hlt, pu_bd, nI_1]
        have hs : pu_s (pu_orb n T B i) = -1 := if_pos hz
        rw [hs] at e1
        exact e1
      · rw [if_neg (fun q => hz ((pu_is1 _).mp q)), pu_stepM h h7 hT hlt, pu_bd, nI_1]
        have hs : pu_s (pu_orb n T B i) = 1 := if_neg hz
        rw [hs] at e1
        exact e1
    · by_cases hj : j = i
      · subst hj
        rw [e5 _ (by omega), pu_ws]
      · exact e4 j (by omega) h7
theorem pu_bits (x : Int32) : (∃ r : Nat, 2 ≤ r ∧ r ≤ 7 ∧ x = nI r ∧ (∀ M, D_X6_isBits x M = some (1, M)) ∧ ∀ M, D_X7_in x 2 7 M = some (1, M)) ∨ ((∀ M, D_X6_isBits x M = some (0, M)) ∧ ∀ M, D_X7_in x 2 7 M = some (0, M)) := by
  have t2 : (2 : Int32).toInt = 2 := by decide
  have t7 : (7 : Int32).toInt = 7 := by decide
  by_cases h : 2 ≤ x.toInt ∧ x.toInt ≤ 7
  · left
    have e : x = nI x.toInt.toNat := pu_of x (by omega)
    refine ⟨x.toInt.toNat, by omega, by omega, e, fun M => ?_, fun M => ?_⟩
    · unfold D_X6_isBits
      rw [if_neg (by rw [pu_lt]; omega), if_neg (by rw [pu_lt]; omega)]
    · unfold D_X7_in
      rw [if_neg (by rw [pu_lt]; omega), if_neg (by rw [pu_lt]; omega)]
  · right
    refine ⟨fun M => ?_, fun M => ?_⟩
    · unfold D_X6_isBits
      by_cases h0 : x.toInt < 2
      · rw [if_pos (by rw [pu_lt]; omega)]
      · rw [if_neg (by rw [pu_lt]; omega), if_pos (by rw [pu_lt]; omega)]
    · unfold D_X7_in
      by_cases h0 : x.toInt < 2
      · rw [if_pos (by rw [pu_lt]; omega)]
      · rw [if_neg (by rw [pu_lt]; omega), if_pos (by rw [pu_lt]; omega)]
/-- 1 to P - 1, told by both -/
theorem pu_upto {P : Nat} (hP : 1 ≤ P) (hP2 : P ≤ 128) (x : Int32) : (∃ t, 1 ≤ t ∧ t < P ∧ x = nI t ∧ ¬ x ≤ 0 ∧ ¬ nI P ≤ x ∧ ∀ M, D_X7_in x 1 (nI P - 1) M = some (1, M)) ∨ ((x ≤ 0 ∨ nI P ≤ x) ∧ ∀ M, D_X7_in x 1 (nI P - 1) M = some (0, M)) := by
  have t0 : (0 : Int32).toInt = 0 := by decide
  have t1 : (1 : Int32).toInt = 1 := by decide
  have tp : (nI P).toInt = P := nI_toInt (by omega)
  have tm : (nI P - 1).toInt = (P : Int) - 1 := pk_sub_toInt (a := P) (b := 1) (by omega) (by decide)
  by_cases h : 1 ≤ x.toInt ∧ x.toInt < P
  · left
    refine ⟨x.toInt.toNat, by omega, by omega, pu_of x (by omega), by rw [pu_le]; omega, by rw [pu_le]; omega, fun M => ?_⟩
    unfold D_X7_in
    rw [if_neg (by rw [pu_lt]; omega), if_neg (by rw [pu_lt]; omega)]
  · right
    refine ⟨?_, fun M => ?_⟩
    · by_cases h0 : x.toInt < 1
      · left; rw [pu_le]; omega
      · right; rw [pu_le]; omega
    · unfold D_X7_in
      by_cases h0 : x.toInt < 1
      · rw [if_pos (by rw [pu_lt]; omega)]
      · rw [if_neg (by rw [pu_lt]; omega), if_pos (by rw [pu_lt]; omega)]
theorem pu_isreg (x0 x1 x2 : Int32) : (∃ n T B : Nat, 2 ≤ n ∧ n ≤ 7 ∧ T < 2 ^ n ∧ T % 2 = 1 ∧ 1 ≤ B ∧ B < 2 ^ n ∧ x0 = nI n ∧ x1 = nI T ∧ x2 = nI B ∧ (∀ M, D_X6_isRegister x0 x1 x2 M = some (1, M)) ∧ ∀ M, D_X7_isRegister x0 x1 x2 M = some (1, M)) ∨ ((∀ M, D_X6_isRegister x0 x1 x2 M = some (0, M)) ∧ ∀ M, D_X7_isRegister x0 x1 x2 M = some (0, M)) := by
  unfold D_X6_isRegister D_X7_isRegister
  rcases pu_bits x0 with ⟨n, h2, h7, rfl, g1, g2⟩ | ⟨g1, g2⟩
  · obtain ⟨e, e2, e3⟩ := pu_pow h2 h7
    have hs : (1 : Int32) <<< (nI n &&& 31) = nI (2 ^ n) := pu_shl ⟨n, by omega⟩
    simp only [g1, g2, pu_bd, pu_10, ↓reduceIte, hs]
    rcases pu_upto (P := 2 ^ n) (by omega) (by omega) x1 with ⟨T, t1, t2, rfl, t3, t4, t5⟩ | ⟨t3, t5⟩
    · simp only [t5, pu_bd, pu_10, ↓reduceIte, if_neg t3, if_neg t4, pu_and1, pu_rem2 (show T ≤ 100000 by omega)]
      by_cases ho : T % 2 = 1
      · simp only [if_pos ((pu_is1 T).mpr ho)]
        rcases pu_upto (P := 2 ^ n) (by omega) (by omega) x2 with ⟨B, b1, b2, rfl, b3, b4, b5⟩ | ⟨b3, b5⟩
        · left
          simp only [b5, pu_bd, pu_10, ↓reduceIte, if_neg b3, if_neg b4]
          exact ⟨n, T, B, h2, h7, t2, ho, b1, b2, rfl, rfl, rfl, fun _ => by first | rfl | trivial, fun _ => by first | rfl | trivial⟩
        · right
          simp only [b5, pu_bd, ↓reduceIte]
          refine ⟨fun M => ?_, fun _ => by first | rfl | trivial⟩
          by_cases q : x2 ≤ 0
          · rw [if_pos q]
          · rw [if_neg q, if_pos (b3.resolve_left q)]
      · right
        have hn : ¬ nI (T % 2) = 1 := fun q => ho ((pu_is1 T).mp q)
        simp only [if_neg hn]
        exact ⟨fun _ => by first | rfl | trivial, fun _ => by first | rfl | trivial⟩
    · right
      simp only [t5, pu_bd, ↓reduceIte]
      refine ⟨fun M => ?_, fun _ => by first | rfl | trivial⟩
      by_cases q : x1 ≤ 0
      · rw [if_pos q]
      · rw [if_neg q, if_pos (t3.resolve_left q)]
  · right
    simp only [g1, g2, pu_bd, ↓reduceIte]
    exact ⟨fun _ => by first | rfl | trivial, fun _ => by first | rfl | trivial⟩
theorem op_make {MC MM : ch_Mem} (hR : ch_R MC MM) (a1 a2 a3 a4 : Int32) : ∃ (r : Int32) (MC1 MM1 : ch_Mem), D_X6_make a1 a2 a3 a4 MC = some (r, MC1) ∧ D_X7_make a1 a2 a3 a4 MM = some (r, MM1) ∧ ch_R MC1 MM1 := by
  unfold D_X6_make D_X7_make
  rcases pu_row a1 with ⟨r, -, hr, rfl, h1, h2⟩ | ⟨h1, h2⟩
  · rw [h1, h2]
    simp only [pu_bd, pu_10, ↓reduceIte]
    rcases pu_isreg a2 a3 a4 with ⟨n, T, B, n2, n7, hT, -, hB1, hB, rfl, rfl, rfl, g1, g2⟩ | ⟨g1, g2⟩
    · rw [g1, g2]
      obtain ⟨e, e2, e3⟩ := pu_pow n2 n7
      obtain ⟨m, hm⟩ : ∃ m, m + 1 = 2 ^ n := ⟨2 ^ n - 1, by omega⟩
      have hs : (1 : Int32) <<< (nI n &&& 31) = nI (2 ^ n) := pu_shl ⟨n, by omega⟩
      have hs2 : nI (2 ^ n) - 1 = nI m := by rw [← hm]; exact nI_pred m
      simp only [pu_bd, pu_10, ↓reduceIte, pu_gd (show r < 8 by omega) (show 8 ≤ 100000 by decide), pu_cl (show r ≤ 100000 by omega), hs, hs2]
      obtain ⟨M1, e1, e2, e3, e4, e5⟩ := pu_regC (c := r) (m := m) (T := T) (B := B) (by omega) n2 n7 hT hB hm m 0 ch_fu (ch_wI MC (7 + r) 1 (nI m)) (by omega) (by unfold ch_fu; omega) (pu_ws _ _ _ _)
      obtain ⟨N1, f1, f2, f3, f4, f5⟩ := pu_regM (r := r) (m := m) (T := T) (B := B) n2 n7 hT hB hm m 0 ch_fu MM (by omega) (by unfold ch_fu; omega)
      obtain ⟨N2, g1, g2, g3, g4, g5, g6, g7⟩ := pu_keeps (c := r) (n := m) (by omega) (by omega) N1
      have e1' : D_X3_fillByRegister (7 + r) (nI n) (nI T) (nI B) MC = some ((), M1) := by
        unfold D_X3_fillByRegister
        rw [hs, hs2]
        exact e1
      have f1' : D_X7_make_L34 ch_fu (nI r) (nI n) (nI T) (nI B) (nI m) 0 MM = ch_bd (D_X7_keeps (nI r) (nI m) N1) (fun _ M2 => some (nI m, M2)) := f1
      have e6 : M1.1 (7 + r) 1 = nI m := by rw [e2 _ (by omega), pu_ws]
      rw [e1', f1', g1, pu_bd, pu_bd, e6]
      refine ⟨_, M1, N2, rfl, rfl, R_row hR (c := r) (n := m) (by omega) (by omega) (fun k h1 h2 _ => by rw [e2 k h2, pu_wn h1]) e3 (fun k h1 h2 h3 => by rw [g2 k h1 h2, f2 k h3]) (by rw [g3, f3]) (fun r1 h1 => by rw [g5 r1 h1, f2 1 (by decide)]) (fun j hj => by rw [g7 j hj, f2 2 (by decide)]) e6 g4 (fun i hi => ⟨?_, ?_⟩)⟩
      · rw [e4 i (by omega) hi]; exact pu_s1 _
      · rw [e4 i (by omega) hi, g6 i hi, f4 i (by omega) hi]
    · rw [g1, g2]
      exact ⟨_, MC, MM, rfl, rfl, hR⟩
  · rw [h1, h2]
    exact ⟨_, MC, MM, rfl, rfl, hR⟩
theorem pu_inj {n T B C : Nat} (h : 2 ≤ n) (h7 : n ≤ 7) (hT : T < 2 ^ n) (ho : T % 2 = 1) (hB : B < 2 ^ n) (hC : C < 2 ^ n) (e : pu_f n T B = pu_f n T C) : B = C := by
  obtain ⟨e1, e2, -⟩ := pu_pow h h7
  have p1 := pu_p2 (B &&& T)
  have p2 := pu_p2 (C &&& T)
  unfold pu_f at e
  have hb : B / 2 = C / 2 ∧ pu_p (B &&& T) = pu_p (C &&& T) := by
    rcases (show pu_p (B &&& T) = 0 ∨ pu_p (B &&& T) = 1 by omega) with q | q <;> rcases (show pu_p (C &&& T) = 0 ∨ pu_p (C &&& T) = 1 by omega) with q2 | q2 <;> rw [q, q2] at e ⊢ <;> constructor <;> omega
  by_cases hx : B % 2 = C % 2
  · omega
  · exfalso
    obtain ⟨b, hb1⟩ : ∃ b, b = B / 2 := ⟨_, rfl⟩
    obtain ⟨t, ht⟩ : ∃ t, t = T / 2 := ⟨_, rfl⟩
    have hT2 : T = 2 * t + 1 := by omega
    have k := pu_odd ⟨b, by omega⟩ ⟨t, by omega⟩
    rcases (show (B = 2 * b ∧ C = 2 * b + 1) ∨ (B = 2 * b + 1 ∧ C = 2 * b) by omega) with ⟨r1, r2⟩ | ⟨r1, r2⟩
    · have h9 := hb.2
      rw [r1, r2, hT2] at h9
      exact k h9
    · have h9 := hb.2
      rw [r1, r2, hT2] at h9
      exact k h9.symm
theorem pu_pos {n T B : Nat} (h : 2 ≤ n) (h7 : n ≤ 7) (hT : T < 2 ^ n) (ho : T % 2 = 1) (hB : 1 ≤ B) : 1 ≤ pu_f n T B := by
  obtain ⟨e1, e2, e3⟩ := pu_pow h h7
  unfold pu_f
  by_cases hx : 2 ≤ B
  · have : 1 ≤ B / 2 := by omega
    omega
  · obtain rfl : B = 1 := by omega
    have h1 : 1 &&& T = 1 := by rw [Nat.and_comm, Nat.and_one_is_mod, ho]
    rw [h1, show pu_p 1 = 1 from rfl]
    omega
theorem pu_orb_pos {n T B : Nat} (h : 2 ≤ n) (h7 : n ≤ 7) (hT : T < 2 ^ n) (ho : T % 2 = 1) (hB : 1 ≤ B) : ∀ i, 1 ≤ pu_orb n T B i
  | 0 => hB
  | i + 1 => pu_pos h h7 hT ho (pu_orb_pos h h7 hT ho hB i)
theorem pu_back {n T B : Nat} (h : 2 ≤ n) (h7 : n ≤ 7) (hT : T < 2 ^ n) (ho : T % 2 = 1) (hB : B < 2 ^ n) : ∀ i d, pu_orb n T B i = pu_orb n T B (i + d) → B = pu_orb n T B d
  | 0, d, e => by rw [Nat.zero_add] at e; exact e
  | i + 1, d, e => by
    rw [show i + 1 + d = (i + d) + 1 by omega] at e
    exact pu_back h h7 hT ho hB i d (pu_inj h h7 hT ho (pu_orb_lt h h7 hB i) (pu_orb_lt h h7 hB (i + d)) e)
theorem pu_comes {n T B : Nat} (h : 2 ≤ n) (h7 : n ≤ 7) (hT : T < 2 ^ n) (ho : T % 2 = 1) (hB1 : 1 ≤ B) (hB : B < 2 ^ n) : ∃ P, 1 ≤ P ∧ P ≤ 127 ∧ pu_orb n T B P = B ∧ ∀ j, 1 ≤ j → j < P → pu_orb n T B j ≠ B := by
  obtain ⟨e1, e2, e3⟩ := pu_pow h h7
  obtain ⟨i, j, hij, hj, e⟩ := fb_twice (m := 127) (n := 128) (f := fun i => pu_orb n T B i - 1) (fun i hi => by
    have a := pu_orb_lt (T := T) h h7 hB i
    have b := pu_orb_pos h h7 hT ho hB1 i
    show pu_orb n T B i - 1 < 127
    omega) (by decide)
  have a := pu_orb_pos h h7 hT ho hB1 i
  have b := pu_orb_pos h h7 hT ho hB1 j
  have e4 : pu_orb n T B i = pu_orb n T B j := by
    have e' : pu_orb n T B i - 1 = pu_orb n T B j - 1 := e
    omega
  have hx : ∃ k, 1 ≤ k ∧ k ≤ 127 ∧ pu_orb n T B k = B := ⟨j - i, by omega, by omega, (pu_back h h7 hT ho hB i (j - i) (by rw [show i + (j - i) = j by omega]; exact e4)).symm⟩
  obtain ⟨P, ⟨p1, p2, p3⟩, p4⟩ := pk_least _ hx
  exact ⟨P, p1, p2, p3, fun k k1 k2 k3 => p4 k k2 ⟨k1, by omega, k3⟩⟩
theorem pu_retC {n T B P : Nat} (h : 2 ≤ n) (h7 : n ≤ 7) (hT : T < 2 ^ n) (hB : B < 2 ^ n) (hP : P ≤ 127) (e : pu_orb n T B P = B) (hm : ∀ j, 1 ≤ j → j < P → pu_orb n T B j ≠ B) (M : ch_Mem) : ∀ (k s fu : Nat), s + 1 + k = P → k < fu → D_X6_stepsToReturn_L5 fu (nI n) (nI T) (nI B) (nI (pu_orb n T B s)) (nI (s + 1)) M = some (nI P, M) := by
  obtain ⟨e1, e2, e3⟩ := pu_pow h h7
  intro k
  induction k with
  | zero =>
    intro s fu h1 h3
    obtain ⟨fu, rfl⟩ : ∃ f, fu = f + 1 := ⟨fu - 1, by omega⟩
    obtain rfl : s + 1 = P := by omega
    show D_X6_stepsToReturn_b5 (D_X6_stepsToReturn_L5 fu) _ _ _ _ _ M = _
    unfold D_X6_stepsToReturn_b5 D_X6_stepsToReturn_b24
    rw [if_neg (show ¬ (127 : Int32) < nI (s + 1) from nI_nlt (a := 127) (b := s + 1) (by omega) (by omega)), pu_stepC h h7 hT (pu_orb_lt h h7 hB s), pu_bd, if_pos (show nI (pu_f n T (pu_orb n T B s)) = nI B from congrArg nI e)]
  | succ k ih =>
    intro s fu h1 h3
    obtain ⟨fu, rfl⟩ : ∃ f, fu = f + 1 := ⟨fu - 1, by omega⟩
    show D_X6_stepsToReturn_b5 (D_X6_stepsToReturn_L5 fu) _ _ _ _ _ M = _
    unfold D_X6_stepsToReturn_b5
    have hlt := pu_orb_lt (T := T) h h7 hB (s + 1)
    rw [if_neg (show ¬ (127 : Int32) < nI (s + 1) from nI_nlt (a := 127) (b := s + 1) (by omega) (by omega)), pu_stepC h h7 hT (pu_orb_lt h h7 hB s), pu_bd, if_neg (show ¬ nI (pu_f n T (pu_orb n T B s)) = nI B from fun q => hm (s + 1) (by omega) (by omega) ((nI_eq (by omega) (by omega)).mp q)), nI_1]
    exact ih (s + 1) fu (by omega) (by omega)
theorem pu_retM {n T B P : Nat} (h : 2 ≤ n) (h7 : n ≤ 7) (hT : T < 2 ^ n) (hB : B < 2 ^ n) (hP : P ≤ 127) (e : pu_orb n T B P = B) (hm : ∀ j, 1 ≤ j → j < P → pu_orb n T B j ≠ B) (M : ch_Mem) : ∀ (k s fu : Nat), 1 ≤ s → s + k = P → k < fu → D_X7_periodOf_L10 fu (nI n) (nI T) (nI B) (nI (pu_orb n T B s)) (nI s) M = some (nI P, M) := by
  obtain ⟨e1, e2, e3⟩ := pu_pow h h7
  intro k
  induction k with
  | zero =>
    intro s fu h0 h1 h3
    obtain ⟨fu, rfl⟩ : ∃ f, fu = f + 1 := ⟨fu - 1, by omega⟩
    obtain rfl : s = P := by omega
    show D_X7_periodOf_b10 (D_X7_periodOf_L10 fu) _ _ _ _ _ M = _
    unfold D_X7_periodOf_b10 D_X7_periodOf_b28
    rw [if_pos (congrArg nI e)]
  | succ k ih =>
    intro s fu h0 h1 h3
    obtain ⟨fu, rfl⟩ : ∃ f, fu = f + 1 := ⟨fu - 1, by omega⟩
    show D_X7_periodOf_b10 (D_X7_periodOf_L10 fu) _ _ _ _ _ M = _
    unfold D_X7_periodOf_b10
    have hlt := pu_orb_lt (T := T) h h7 hB s
    rw [if_neg (show ¬ nI (pu_orb n T B s) = nI B from fun q => hm s (by omega) (by omega) ((nI_eq (by omega) (by omega)).mp q)), pu_stepM h h7 hT hlt, pu_bd, nI_1]
    exact ih (s + 1) fu (by omega) (by omega) (by omega)
theorem pu_period {n T B : Nat} (h : 2 ≤ n) (h7 : n ≤ 7) (hT : T < 2 ^ n) (ho : T % 2 = 1) (hB1 : 1 ≤ B) (hB : B < 2 ^ n) : ∃ P, P ≤ 127 ∧ (∀ M, D_X6_stepsToReturn (nI n) (nI T) (nI B) M = some (nI P, M)) ∧ ∀ M, D_X7_periodOf (nI n) (nI T) (nI B) M = some (nI P, M) := by
  obtain ⟨P, p1, p2, p3, p4⟩ := pu_comes h h7 hT ho hB1 hB
  refine ⟨P, p2, fun M => ?_, fun M => ?_⟩
  · exact pu_retC h h7 hT hB p2 p3 p4 M (P - 1) 0 ch_fu (by omega) (by unfold ch_fu; omega)
  · unfold D_X7_periodOf
    rw [pu_stepM h h7 hT hB, pu_bd]
    exact pu_retM h h7 hT hB p2 p3 p4 M (P - 1) 1 ch_fu (by omega) (by omega) (by unfold ch_fu; omega)
theorem op_period {MC MM : ch_Mem} (hR : ch_R MC MM) (a1 a2 a3 : Int32) : ∃ (r : Int32) (MC1 MM1 : ch_Mem), D_X6_period a1 a2 a3 MC = some (r, MC1) ∧ D_X7_period a1 a2 a3 MM = some (r, MM1) ∧ ch_R MC1 MM1 := by
  unfold D_X6_period D_X7_period
  rcases pu_isreg a1 a2 a3 with ⟨n, T, B, n2, n7, hT, ho, hB1, hB, rfl, rfl, rfl, g1, g2⟩ | ⟨g1, g2⟩
  · rw [g1, g2]
    obtain ⟨P, -, p1, p2⟩ := pu_period n2 n7 hT ho hB1 hB
    simp only [pu_bd, pu_10, ↓reduceIte, p1, p2]
    exact ⟨_, MC, MM, rfl, rfl, hR⟩
  · rw [g1, g2]
    exact ⟨_, MC, MM, rfl, rfl, hR⟩
theorem pu_fullL {n m : Nat} (h : 2 ≤ n) (h7 : n ≤ 7) (hm : m + 1 = 2 ^ n) (MC MM : ch_Mem) : ∀ (k t fu : Nat) (y : Int32), 2 * t + 1 + 2 * k = m + 2 → k < fu → ∃ r : Int32, D_X6_full_L21 fu (nI n) (nI m) y (nI (2 * t + 1)) MC = some (r, MC) ∧ D_X7_full_L17 fu (nI n) y (nI (2 * t + 1)) MM = some (r, MM) := by
  obtain ⟨e1, e2, e3⟩ := pu_pow h h7
  have hs : (1 : Int32) <<< (nI n &&& 31) = nI (2 ^ n) := pu_shl ⟨n, by omega⟩
  have hs2 : nI (2 ^ n) - 1 = nI m := by rw [← hm]; exact nI_pred m
  intro k
  induction k with
  | zero =>
    intro t fu y h1 h3
    obtain ⟨fu, rfl⟩ : ∃ f, fu = f + 1 := ⟨fu - 1, by omega⟩
    refine ⟨y, ?_, ?_⟩
    · show D_X6_full_b21 (D_X6_full_L21 fu) _ _ _ _ MC = _
      unfold D_X6_full_b21 D_X6_full_b47
      rw [if_pos (nI_lt (by omega) (by omega))]
    · show D_X7_full_b17 (D_X7_full_L17 fu) _ _ _ MM = _
      unfold D_X7_full_b17 D_X7_full_b52
      rw [hs, if_pos (nI_le (by omega) (by omega))]
  | succ k ih =>
    intro t fu y h1 h3
    obtain ⟨fu, rfl⟩ : ∃ f, fu = f + 1 := ⟨fu - 1, by omega⟩
    obtain ⟨P, hP, p1, p2⟩ := pu_period (T := 2 * t + 1) (B := 1) h h7 (by omega) (by omega) (by decide) (by omega)
    have e4 : nI (2 * t + 1) + 2 = nI (2 * (t + 1) + 1) := by
      show nI (2 * t + 1) + nI 2 = _
      rw [nI_add]
      exact congrArg nI (by omega)
    obtain ⟨r, r1, r2⟩ := ih (t + 1) fu (if nI P = nI m then y + 1 else y) (by omega) (by omega)
    refine ⟨r, ?_, ?_⟩
    · show D_X6_full_b21 (D_X6_full_L21 fu) _ _ _ _ MC = _
      unfold D_X6_full_b21 D_X6_full_b41
      rw [if_neg (nI_nlt (by omega) (by omega)), show (1 : Int32) = nI 1 from rfl, p1 MC, pu_bd, e4]
      by_cases hq : nI P = nI m
      · rw [if_pos hq]
        rw [if_pos hq] at r1
        exact r1
      · rw [if_neg hq]
        rw [if_neg hq] at r1
        exact r1
    · show D_X7_full_b17 (D_X7_full_L17 fu) _ _ _ MM = _
      unfold D_X7_full_b17 D_X7_full_b44
      rw [hs, if_neg (nI_ge (by omega) (by omega)), hs2]
      have p2' : D_X7_periodOf (nI n) (nI (2 * t + 1)) 1 MM = some (nI P, MM) := p2 MM
      rw [p2', pu_bd, e4]
      by_cases hq : nI P = nI m
      · rw [if_pos hq]
        rw [if_pos hq] at r2
        exact r2
      · rw [if_neg hq]
        rw [if_neg hq] at r2
        rw [Int32.add_zero]
        exact r2
theorem op_full {MC MM : ch_Mem} (hR : ch_R MC MM) (a1 : Int32) : ∃ (r : Int32) (MC1 MM1 : ch_Mem), D_X6_full a1 MC = some (r, MC1) ∧ D_X7_full a1 MM = some (r, MM1) ∧ ch_R MC1 MM1 := by
  unfold D_X6_full D_X7_full
  rcases pu_bits a1 with ⟨n, h2, h7, rfl, g1, g2⟩ | ⟨g1, g2⟩
  · rw [g1, g2]
    obtain ⟨e1, e2, e3⟩ := pu_pow h2 h7
    obtain ⟨m, hm⟩ : ∃ m, m + 1 = 2 ^ n := ⟨2 ^ n - 1, by omega⟩
    have hs : (1 : Int32) <<< (nI n &&& 31) = nI (2 ^ n) := pu_shl ⟨n, by omega⟩
    have hs2 : nI (2 ^ n) - 1 = nI m := by rw [← hm]; exact nI_pred m
    simp only [pu_bd, pu_10, ↓reduceIte, hs, hs2]
    obtain ⟨r, r1, r2⟩ := pu_fullL h2 h7 hm MC MM ((m + 1) / 2) 0 ch_fu 0 (by omega) (by unfold ch_fu; omega)
    exact ⟨r, MC, MM, r1, r2, hR⟩
  · rw [g1, g2]
    exact ⟨_, MC, MM, rfl, rfl, hR⟩
