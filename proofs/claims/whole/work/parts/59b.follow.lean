def pu_ab (x : Int32) : Int32 := if (0 : Int32) ≤ x then x else -x
theorem pu_abC (x : Int32) : (if (0 : Int32) ≤ x then x else 0 - x) = pu_ab x := pu_abs x
def pu_fs (MC : ch_Mem) (r n s d : Nat) : Int32 := pu_ab (pu_sum (fun i => MC.1 (7 + r + 8) ((i + d) % n) * pu_smp MC 0 (s + i)) n)
theorem pu_fsmod (MC : ch_Mem) (r n s d : Nat) : pu_fs MC r n s (d % n) = pu_fs MC r n s d := congrArg pu_ab (pu_sum_cong (fun i _ => by rw [Nat.add_mod_mod]))
theorem pu_amtL {MC MM : ch_Mem} (hr8 : ch_Rr MC MM) (hl4 : ch_Rl MC MM) {r n s d : Nat} (hr : r < 8) (h0 : 0 < n) (hn : n ≤ 127) (hs : s ≤ 50000) (hd : d ≤ 1000) (e : MC.1 (7 + r) 1 = nI n) : ∀ (c i fu : Nat), i + c = n → c < fu → D_X7_amount_L6 fu (nI r) (nI s) (nI d) (pu_sum (fun i => MC.1 (7 + r + 8) ((i + d) % n) * pu_smp MC 0 (s + i)) i) (nI i) MM = some (pu_fs MC r n s d, MM) := by
  obtain ⟨n1, p1, p2, p3, p4⟩ := hr8 r hr
  obtain rfl : n1 = n := (nI_eq (by omega) (by omega)).mp (p2.symm.trans e)
  intro c
  induction c with
  | zero =>
    intro i fu g1 g2
    obtain ⟨fu, rfl⟩ : ∃ q, fu = q + 1 := ⟨fu - 1, by omega⟩
    obtain rfl : i = n1 := by omega
    show D_X7_amount_b6 (D_X7_amount_L6 fu) _ _ _ _ _ MM = _
    unfold D_X7_amount_b6 D_X7_amount_b47 pu_fs pu_ab
    rw [pu_gd hr (by decide), pu_cl (by omega), p3, if_pos (nI_le (Nat.le_refl _) (by omega))]
    split <;> rfl
  | succ c ih =>
    intro i fu g1 g2
    obtain ⟨fu, rfl⟩ : ∃ q, fu = q + 1 := ⟨fu - 1, by omega⟩
    have hm : (i + d) % n1 < n1 := Nat.mod_lt _ h0
    have s0 : D_X7_sample 0 (nI (s + i)) MM = some (pu_smp MC 0 (s + i), MM) := pu_sample hl4 (r := 0) (by decide) (by omega)
    show D_X7_amount_b6 (D_X7_amount_L6 fu) _ _ _ _ _ MM = _
    unfold D_X7_amount_b6
    rw [pu_gd hr (by decide), pu_cl (by omega), p3, if_neg (nI_ge (by omega) (by omega)), nI_add, pu_signOf p3 hr h0 hn (by omega), pu_bd, nI_add, s0, pu_bd, (p4 _ hm).2, nI_1]
    exact ih (i + 1) fu (by omega) (by omega)
theorem pu_amt {MC MM : ch_Mem} (hr8 : ch_Rr MC MM) (hl4 : ch_Rl MC MM) {r n s d : Nat} (hr : r < 8) (h0 : 0 < n) (hn : n ≤ 127) (hs : s ≤ 50000) (hd : d ≤ 1000) (e : MC.1 (7 + r) 1 = nI n) : D_X7_amount (nI r) (nI s) (nI d) MM = some (pu_fs MC r n s d, MM) := pu_amtL hr8 hl4 hr h0 hn hs hd e n 0 ch_fu (by omega) (by unfold ch_fu; omega)
def pu_nx (MC : ch_Mem) (r n s d : Nat) : Nat := if pu_fs MC r n s d < pu_fs MC r n s (d + n - 1) then (if pu_fs MC r n s (d + n - 1) < pu_fs MC r n s (d + 1) then d + 1 else d + n - 1) else if pu_fs MC r n s d < pu_fs MC r n s (d + 1) then d + 1 else d
theorem pu_nxb (MC : ch_Mem) {r n s d : Nat} (hd : d < n) : pu_nx MC r n s d ≤ 2 * n := by
  unfold pu_nx
  split
  · split <;> omega
  · split <;> omega
theorem pu_prev {d n : Nat} (h0 : 0 < n) : nI d + nI n - 1 = nI (d + n - 1) := by
  rw [nI_add]
  obtain ⟨q, hq⟩ : ∃ q, d + n = q + 1 := ⟨d + n - 1, by omega⟩
  rw [hq, nI_pred]
  rfl
theorem pu_near {M MC : ch_Mem} {r n s d : Nat} (hr : r < 8) (h0 : 0 < n) (hn : n ≤ 127) (hd : d < n) (e : M.1 (7 + r) 1 = nI n) (es : M.1 (7 + r + 8) = MC.1 (7 + r + 8)) (ew : ∀ j, j < n → M.1 31 j = pu_smp MC 0 (s + j)) : D_X6_loudestNear (7 + r) (nI d) M = some (nI (pu_nx MC r n s d), M) := by
  have l1 : ch_len 31 = 127 := by decide
  have sum : ∀ x, x ≤ 1000 → D_X3_sumOver (7 + r) 31 (nI x) M = some (pu_sum (fun i => MC.1 (7 + r + 8) ((i + x) % n) * pu_smp MC 0 (s + i)) n, M) := by
    intro x hx
    rw [pu_sumOver e h0 hn (by rw [l1]; exact hn) (by rw [l1]; decide) (by omega), es]
    exact congrArg (fun z => some (z, M)) (pu_sum_cong (fun i hi => by rw [ew i hi]))
  have f : ∀ x, pu_ab (pu_sum (fun i => MC.1 (7 + r + 8) ((i + x) % n) * pu_smp MC 0 (s + i)) n) = pu_fs MC r n s x := fun _ => rfl
  unfold D_X6_loudestNear D_X6_loudestNear_b78
  rw [e, pu_prev h0, nI_1, sum d (by omega), pu_bd, sum (d + n - 1) (by omega), pu_bd, sum (d + 1) (by omega), pu_bd]
  simp only [pu_abC, f]
  unfold pu_nx
  generalize pu_fs MC r n s d = A
  generalize pu_fs MC r n s (d + n - 1) = L
  generalize pu_fs MC r n s (d + 1) = R
  by_cases h1 : A < L
  · rw [if_pos h1, if_pos h1]
    by_cases h2 : L < R
    · rw [if_pos h2, if_pos h2]
    · rw [if_neg h2, if_neg h2]
  · rw [if_neg h1, if_neg h1]
    by_cases h2 : A < R
    · have h3 : L < R := by
        rw [pu_lt] at h1 h2 ⊢
        omega
      rw [if_pos h2, if_pos h3, if_pos h2]
    · rw [if_neg h2, if_neg h2]
theorem pu_followL {MM : ch_Mem} {r n k x : Nat} (hr : r < 8) (h0 : 0 < n) (hn : n ≤ 127) (hk : k ≤ 300) (hx : x ≤ 20) : ∀ (c b d fu gu : Nat) (MC : ch_Mem), b + c = x → d < n → c < fu → c < gu → ch_R MC MM → MC.1 (7 + r) 1 = nI n → ∃ (v : Int32) (M1 : ch_Mem), D_X6_follow_L66 fu (nI r) (nI k) (nI x) (nI n) (nI d) (nI b) MC = some (v, M1) ∧ D_X7_follow_L68 gu (nI r) (nI k) (nI x) (nI n) (nI d) (nI b) MM = some (v, MM) ∧ ch_R M1 MM := by
  intro c
  induction c with
  | zero =>
    intro b d fu gu MC g1 g2 g3 g4 g5 g6
    obtain ⟨fu, rfl⟩ : ∃ q, fu = q + 1 := ⟨fu - 1, by omega⟩
    obtain ⟨gu, rfl⟩ : ∃ q, gu = q + 1 := ⟨gu - 1, by omega⟩
    refine ⟨nI d, MC, ?_, ?_, g5⟩
    · show D_X6_follow_b66 (D_X6_follow_L66 fu) _ _ _ _ _ _ MC = _
      unfold D_X6_follow_b66
      rw [if_pos (nI_le (by omega) (by omega))]
      rfl
    · show D_X7_follow_b68 (D_X7_follow_L68 gu) _ _ _ _ _ _ MM = _
      unfold D_X7_follow_b68
      rw [if_pos (nI_le (by omega) (by omega))]
      rfl
  | succ c ih =>
    intro b d fu gu MC g1 g2 g3 g4 g5 g6
    obtain ⟨fu, rfl⟩ : ∃ q, fu = q + 1 := ⟨fu - 1, by omega⟩
    obtain ⟨gu, rfl⟩ : ∃ q, gu = q + 1 := ⟨gu - 1, by omega⟩
    have hbn : b * n ≤ 20 * 127 := Nat.mul_le_mul (by omega) hn
    have hat : nI k + nI b * nI n = nI (k + b * n) := by rw [pk_mul, nI_add]
    obtain ⟨s, hs⟩ : ∃ s, s = k + b * n := ⟨_, rfl⟩
    rw [← hs] at hat
    obtain ⟨M1, e1, e2, e3, e4, e5⟩ := pu_listen g5.2.1 (k := s) (n := n) (by omega) hn
    have hR1 : ch_R M1 MM := R_scr g5 (fun a q1 q2 q3 q4 q5 q6 => e2 a q1 q3 q4) (by rw [e3]) (fun a _ => rfl) rfl
    have n1 : M1.1 (7 + r) 1 = nI n := by rw [e2 _ (by omega) (by omega) (by omega)]; exact g6
    have near := pu_near (M := M1) (MC := MC) (s := s) hr h0 hn g2 n1 (e2 _ (by omega) (by omega) (by omega)) (fun j hj => (e5 j hj).1)
    have hb := pu_nxb MC (r := r) (s := s) g2
    have hmod : pu_nx MC r n s d % n < n := Nat.mod_lt _ h0
    obtain ⟨v, M2, z1, z2, z3⟩ := ih (b + 1) (pu_nx MC r n s d % n) fu gu M1 (by omega) hmod (by omega) (by omega) hR1 n1
    refine ⟨v, M2, ?_, ?_, z3⟩
    · show D_X6_follow_b66 (D_X6_follow_L66 fu) _ _ _ _ _ _ MC = _
      unfold D_X6_follow_b66
      rw [if_neg (nI_ge (by omega) (by omega)), hat, e1, pu_bd, pu_gd hr (by decide), pu_cl (by omega), near, pu_bd, pu_g0 h0 (by omega), pu_rem (by omega) h0 (by omega), nI_1]
      exact z1
    · have hl : (d + n - 1) % n < n := Nat.mod_lt _ h0
      have hm : (d + 1) % n < n := Nat.mod_lt _ h0
      have a1 := pu_amt g5.1 g5.2.1 (s := s) (d := (d + n - 1) % n) hr h0 hn (by omega) (by omega) g6
      have a2 := pu_amt g5.1 g5.2.1 (s := s) (d := d) hr h0 hn (by omega) (by omega) g6
      have a3 := pu_amt g5.1 g5.2.1 (s := s) (d := (d + 1) % n) hr h0 hn (by omega) (by omega) g6
      rw [pu_fsmod] at a1 a3
      have z2' : ∀ m, m = pu_nx MC r n s d % n → D_X7_follow_L68 gu (nI r) (nI k) (nI x) (nI n) (nI m) (nI (b + 1)) MM = some (v, MM) := fun m hm => by rw [hm]; exact z2
      show D_X7_follow_b68 (D_X7_follow_L68 gu) _ _ _ _ _ _ MM = _
      unfold D_X7_follow_b68 D_X7_follow_b137 D_X7_follow_b167
      rw [if_neg (nI_ge (by omega) (by omega)), hat, pu_g0 h0 (by omega), pu_nm, pu_g0 h0 (by omega), pu_nm, pu_prev h0, pu_rem (by omega) h0 (by omega), nI_1, pu_rem (by omega) h0 (by omega), a1, pu_bd, a2, pu_bd, a3, pu_bd, nI_1]
      unfold pu_nx at z2'
      by_cases h1 : pu_fs MC r n s d < pu_fs MC r n s (d + n - 1)
      · rw [if_neg (show ¬ pu_fs MC r n s (d + n - 1) ≤ pu_fs MC r n s d by rw [pu_le]; rw [pu_lt] at h1; omega), pu_bd, a1, pu_bd]
        rw [if_pos h1] at z2'
        by_cases h2 : pu_fs MC r n s (d + n - 1) < pu_fs MC r n s (d + 1)
        · rw [if_neg (show ¬ pu_fs MC r n s (d + 1) ≤ pu_fs MC r n s (d + n - 1) by rw [pu_le]; rw [pu_lt] at h2; omega)]
          rw [if_pos h2] at z2'
          exact z2' _ rfl
        · rw [if_pos (show pu_fs MC r n s (d + 1) ≤ pu_fs MC r n s (d + n - 1) by rw [pu_le]; rw [pu_lt] at h2; omega)]
          rw [if_neg h2] at z2'
          exact z2' _ rfl
      · rw [if_pos (show pu_fs MC r n s (d + n - 1) ≤ pu_fs MC r n s d by rw [pu_le]; rw [pu_lt] at h1; omega), a2, pu_bd]
        rw [if_neg h1] at z2'
        by_cases h2 : pu_fs MC r n s d < pu_fs MC r n s (d + 1)
        · rw [if_neg (show ¬ pu_fs MC r n s (d + 1) ≤ pu_fs MC r n s d by rw [pu_le]; rw [pu_lt] at h2; omega)]
          rw [if_pos h2] at z2'
          exact z2' _ rfl
        · rw [if_pos (show pu_fs MC r n s (d + 1) ≤ pu_fs MC r n s d by rw [pu_le]; rw [pu_lt] at h2; omega)]
          rw [if_neg h2] at z2'
          exact z2' _ (Nat.mod_eq_of_lt g2).symm
theorem op_follow {MC MM : ch_Mem} (hR : ch_R MC MM) (a1 a2 a3 a4 : Int32) : ∃ (r : Int32) (MC1 MM1 : ch_Mem), D_X6_follow a1 a2 a3 a4 MC = some (r, MC1) ∧ D_X7_follow a1 a2 a3 a4 MM = some (r, MM1) ∧ ch_R MC1 MM1 := by
  unfold D_X6_follow D_X7_follow
  rcases pu_row a1 with ⟨r, -, hr, rfl, h1, h2⟩ | ⟨h1, h2⟩
  · rw [h1, h2]
    simp only [pu_bd, pu_10, ↓reduceIte]
    rcases pu_place a2 with ⟨k, -, hk, rfl, g1, g2⟩ | ⟨g1, g2⟩
    · rw [g1, g2]
      simp only [pu_bd, pu_10, ↓reduceIte]
      rcases pu_shift a3 with ⟨d, -, hd, rfl, k1, k2⟩ | ⟨k1, k2⟩
      · rw [k1, k2]
        simp only [pu_bd, pu_10, ↓reduceIte]
        unfold D_X7_in
        have t1 : (1 : Int32).toInt = 1 := by decide
        have t20 : (20 : Int32).toInt = 20 := by decide
        by_cases q1 : a4 < 1
        · rw [if_pos q1, if_pos q1, pu_bd, if_pos rfl]
          exact ⟨_, MC, MM, rfl, rfl, hR⟩
        · rw [if_neg q1, if_neg q1]
          by_cases q2 : a4 ≤ 20
          · rw [if_pos q2, if_neg (show ¬ (20 : Int32) < a4 by rw [pu_lt]; rw [pu_le] at q2; omega), pu_bd, if_neg pu_10]
            rw [pu_lt] at q1
            rw [pu_le] at q2
            obtain ⟨x, hx, hx20⟩ : ∃ x, a4 = nI x ∧ x ≤ 20 := ⟨a4.toInt.toNat, pu_of a4 (by omega), by omega⟩
            subst hx
            simp only [pu_gd (show r < 8 by omega) (show 8 ≤ 100000 by decide), pu_cl (show r ≤ 100000 by omega)]
            obtain ⟨n, c1, c2, c3, c4⟩ := hR.1 r (by omega)
            rw [c2, c3]
            rcases Nat.eq_zero_or_pos n with rfl | hn
            · rw [if_neg (by decide), if_pos (by rfl)]
              exact ⟨_, MC, MM, rfl, rfl, hR⟩
            · rw [if_pos (pu_1le hn (by omega)), if_neg (nI_ne0 hn (by omega)), pu_g0 hn (by omega), pu_g0 hn (by omega), pu_nm, pu_nm, pu_rem (by omega) hn (by omega)]
              obtain ⟨v, M1, z1, z2, z3⟩ := pu_followL (MM := MM) (r := r) (n := n) (k := k) (x := x) (by omega) hn c1 hk hx20 x 0 (d % n) ch_fu ch_fu MC (by omega) (Nat.mod_lt _ hn) (by unfold ch_fu; omega) (by unfold ch_fu; omega) hR c2
              exact ⟨v, M1, MM, z1, z2, z3⟩
          · rw [if_neg q2, if_pos (show (20 : Int32) < a4 by rw [pu_lt]; rw [pu_le] at q2; omega), pu_bd, if_pos rfl]
            exact ⟨_, MC, MM, rfl, rfl, hR⟩
      · rw [k1, k2]
        exact ⟨_, MC, MM, rfl, rfl, hR⟩
    · rw [g1, g2]
      exact ⟨_, MC, MM, rfl, rfl, hR⟩
  · rw [h1, h2]
    exact ⟨_, MC, MM, rfl, rfl, hR⟩
