theorem pu_bm {z : Int} (h1 : -2147483648 ≤ z) (h2 : z < 2147483648) : z.bmod (2 ^ 32) = z := Int.bmod_eq_of_le (by omega) (by omega)
theorem pu_negb {x : Int32} (h1 : -10000 ≤ x.toInt) (h2 : x.toInt ≤ 10000) : -10000 ≤ (-x).toInt ∧ (-x).toInt ≤ 10000 := by
  rw [Int32.toInt_neg, pu_bm (by omega) (by omega)]
  omega
theorem pu_ub (q : Nat) {x y : Int32} (hx : -10000 ≤ x.toInt ∧ x.toInt ≤ 10000) (hy : -10000 ≤ y.toInt ∧ y.toInt ≤ 10000) : (-10000 ≤ (pu_u q x y).toInt ∧ (pu_u q x y).toInt ≤ 10000) ∧ (-10000 ≤ (pu_v q x y).toInt ∧ (pu_v q x y).toInt ≤ 10000) := by
  have nx := pu_negb hx.1 hx.2
  have ny := pu_negb hy.1 hy.2
  unfold pu_u pu_v
  by_cases h0 : q = 0
  · rw [if_pos h0, if_pos h0]; exact ⟨hx, hy⟩
  · rw [if_neg h0, if_neg h0]
    by_cases h1 : q = 1
    · rw [if_pos h1, if_pos h1]; exact ⟨hy, nx⟩
    · rw [if_neg h1, if_neg h1]
      by_cases h2 : q = 2
      · rw [if_pos h2, if_pos h2]; exact ⟨nx, ny⟩
      · rw [if_neg h2, if_neg h2]; exact ⟨ny, hx⟩
theorem pu_pmb {s x : Int32} (hs : s = 1 ∨ s = -1) (hx : -10000 ≤ x.toInt ∧ x.toInt ≤ 10000) : -10000 ≤ (s * x).toInt ∧ (s * x).toInt ≤ 10000 := by
  rcases hs with rfl | rfl
  · rw [Int32.toInt_mul, show (1 : Int32).toInt = 1 by decide, Int.one_mul, pu_bm (by omega) (by omega)]
    exact hx
  · rw [Int32.toInt_mul, show (-1 : Int32).toInt = -1 by decide, Int.neg_one_mul, pu_bm (by omega) (by omega)]
    omega
theorem pu_sumb {f : Nat → Int32} {n : Nat} (hn : n ≤ 127) (h : ∀ i, i < n → -10000 ≤ (f i).toInt ∧ (f i).toInt ≤ 10000) : ∀ m : Nat, m ≤ n → -(10000 * (m : Int)) ≤ (pu_sum f m).toInt ∧ (pu_sum f m).toInt ≤ 10000 * (m : Int)
  | 0, _ => by
    have : (pu_sum f 0).toInt = 0 := by
      show (0 : Int32).toInt = 0
      decide
    omega
  | m + 1, hm => by
    have ih := pu_sumb hn h m (by omega)
    have hf := h m (by omega)
    have e : (pu_sum f (m + 1)).toInt = (pu_sum f m).toInt + (f m).toInt := by
      show (pu_sum f m + f m).toInt = _
      rw [Int32.toInt_add, pu_bm (by omega) (by omega)]
    rw [e]
    omega
theorem pu_sq {a : Int} (h1 : -1270000 ≤ a) (h2 : a ≤ 1270000) : 0 ≤ a * a ∧ a * a ≤ 1612900000000 := by
  have e : a * a = ((a.natAbs * a.natAbs : Nat) : Int) := Int.natAbs_mul_self.symm
  have hb : a.natAbs ≤ 1270000 := by omega
  have hm : a.natAbs * a.natAbs ≤ 1270000 * 1270000 := Nat.mul_le_mul hb hb
  rw [e]
  omega
theorem pu_pow2 {u v : Int32} (hu : -1270000 ≤ u.toInt ∧ u.toInt ≤ 1270000) (hv : -1270000 ≤ v.toInt ∧ v.toInt ≤ 1270000) : (-1 : Int64) < u.toInt64 * u.toInt64 + v.toInt64 * v.toInt64 := by
  have a := pu_sq hu.1 hu.2
  have b := pu_sq hv.1 hv.2
  have e1 : (u.toInt64 * u.toInt64).toInt = u.toInt * u.toInt := by
    rw [Int64.toInt_mul, Int32.toInt_toInt64]
    exact Int.bmod_eq_of_le (by omega) (by omega)
  have e2 : (v.toInt64 * v.toInt64).toInt = v.toInt * v.toInt := by
    rw [Int64.toInt_mul, Int32.toInt_toInt64]
    exact Int.bmod_eq_of_le (by omega) (by omega)
  have e3 : (u.toInt64 * u.toInt64 + v.toInt64 * v.toInt64).toInt = u.toInt * u.toInt + v.toInt * v.toInt := by
    rw [Int64.toInt_add, e1, e2]
    exact Int.bmod_eq_of_le (by omega) (by omega)
  rw [Int64.lt_iff_toInt_lt, e3, show (-1 : Int64).toInt = -1 by decide]
  omega
theorem pu_hub {MC MM : ch_Mem} (hR : ch_Rr MC MM) {r n : Nat} (hr : r < 8) (h0 : 0 < n) (hn : n ≤ 127) (e : MC.1 (7 + r) 1 = nI n) (k t d : Nat) : (-1270000 ≤ (pu_hu MC r n k t d).toInt ∧ (pu_hu MC r n k t d).toInt ≤ 1270000) ∧ (-1270000 ≤ (pu_hv MC r n k t d).toInt ∧ (pu_hv MC r n k t d).toInt ≤ 1270000) := by
  obtain ⟨n1, p1, p2, p3, p4⟩ := hR r hr
  obtain rfl : n1 = n := (nI_eq (by omega) (by omega)).mp (p2.symm.trans e)
  have hb : ∀ i, (-10000 ≤ (pu_u (t * i % 4) (pu_smp MC 0 (k + i)) (pu_smp MC 1 (k + i))).toInt ∧ (pu_u (t * i % 4) (pu_smp MC 0 (k + i)) (pu_smp MC 1 (k + i))).toInt ≤ 10000) ∧ (-10000 ≤ (pu_v (t * i % 4) (pu_smp MC 0 (k + i)) (pu_smp MC 1 (k + i))).toInt ∧ (pu_v (t * i % 4) (pu_smp MC 0 (k + i)) (pu_smp MC 1 (k + i))).toInt ≤ 10000) := fun i => pu_ub _ (pu_qb _) (pu_qb _)
  have a := pu_sumb (f := fun i => MC.1 (7 + r + 8) ((i + d) % n1) * pu_u (t * i % 4) (pu_smp MC 0 (k + i)) (pu_smp MC 1 (k + i))) hn (fun i _ => pu_pmb (p4 _ (Nat.mod_lt _ h0)).1 (hb i).1) n1 (Nat.le_refl _)
  have b := pu_sumb (f := fun i => MC.1 (7 + r + 8) ((i + d) % n1) * pu_v (t * i % 4) (pu_smp MC 0 (k + i)) (pu_smp MC 1 (k + i))) hn (fun i _ => pu_pmb (p4 _ (Nat.mod_lt _ h0)).1 (hb i).2) n1 (Nat.le_refl _)
  unfold pu_hu pu_hv
  omega
def pu_J (M N : ch_Mem) (best : Int32) : Prop := M.2 4 0 = N.2 0 4 ∧ M.2 4 1 = N.2 0 5 ∧ ((best = -1 ∧ N.2 0 4 = -1) ∨ best = 1000 * M.1 4 2 + M.1 4 3)
theorem pu_findI {MC MM : ch_Mem} (hR : ch_R MC MM) {r n k t : Nat} (hr : r < 8) (h0 : 0 < n) (hn : n ≤ 127) (hk : k ≤ 50000) (ht : t < 4) (e : MC.1 (7 + r) 1 = nI n) (kC : Int32 → Int32 → ch_Mem → Option (Int32 × ch_Mem)) (kM : Int32 → Int32 → Int32 → Int32 → ch_Mem → Option (Int32 × ch_Mem)) : ∀ (c d fu gu : Nat) (M N : ch_Mem) (best : Int32), d + c = n → c < fu → c < gu → M.1 (7 + r) 1 = nI n → M.1 (7 + r + 8) = MC.1 (7 + r + 8) → (∀ j, j < n → M.1 33 j = pu_u (t * j % 4) (pu_smp MC 0 (k + j)) (pu_smp MC 1 (k + j)) ∧ M.1 34 j = pu_v (t * j % 4) (pu_smp MC 0 (k + j)) (pu_smp MC 1 (k + j))) → N.1 = MM.1 → pu_J M N best → (best = 1000 * M.1 4 2 + M.1 4 3 ∨ 1 ≤ c) → ∃ (M1 N1 : ch_Mem) (best1 : Int32), D_X6_searchFor_L71 kC fu (nI r) (nI t) (nI d) M = kC (nI r) (nI (t + 1)) M1 ∧ D_X7_finds_L28 kM gu (nI r) (nI k) best (nI t) (nI d) N = kM (nI r) (nI k) best1 (nI (t + 1)) N1 ∧ (∀ a, a ≠ 4 → M1.1 a = M.1 a) ∧ M1.2 5 4 = M.2 5 4 ∧ N1.1 = MM.1 ∧ N1.2 0 9 = N.2 0 9 ∧ pu_J M1 N1 best1 ∧ best1 = 1000 * M1.1 4 2 + M1.1 4 3 := by
  intro c
  induction c with
  | zero =>
    intro d fu gu M N best g1 g2 g3 g4 g5 g6 g7 g8 g9
    obtain ⟨fu, rfl⟩ : ∃ q, fu = q + 1 := ⟨fu - 1, by omega⟩
    obtain ⟨gu, rfl⟩ : ∃ q, gu = q + 1 := ⟨gu - 1, by omega⟩
    obtain ⟨n1, p1, p2, p3, p4⟩ := hR.1 r hr
    have hn1 : n1 = n := (nI_eq (by omega) (by omega)).mp (p2.symm.trans e)
    subst hn1
    refine ⟨M, N, best, ?_, ?_, fun a _ => rfl, rfl, g7, rfl, g8, ?_⟩
    · show D_X6_searchFor_b71 kC (D_X6_searchFor_L71 kC fu) _ _ _ M = _
      unfold D_X6_searchFor_b71 D_X6_searchFor_b154
      rw [pu_gd hr (by decide), pu_cl (by omega), g4, if_pos (nI_le (by omega) (by omega)), nI_1]
    · show D_X7_finds_b28 kM (D_X7_finds_L28 kM gu) _ _ _ _ _ N = _
      unfold D_X7_finds_b28 D_X7_finds_b139
      rw [pu_gd hr (by decide), pu_cl (by omega), g7, p3, if_pos (nI_le (by omega) (by omega)), nI_1]
    · rcases g9 with g9 | g9
      · exact g9
      · omega
  | succ c ih =>
    intro d fu gu M N best g1 g2 g3 g4 g5 g6 g7 g8 g9
    obtain ⟨fu, rfl⟩ : ∃ q, fu = q + 1 := ⟨fu - 1, by omega⟩
    obtain ⟨gu, rfl⟩ : ∃ q, gu = q + 1 := ⟨gu - 1, by omega⟩
    obtain ⟨n1, p1, p2, p3, p4⟩ := hR.1 r hr
    have hn1 : n1 = n := (nI_eq (by omega) (by omega)).mp (p2.symm.trans e)
    subst hn1
    obtain ⟨s1, s2⟩ := pu_hC (M := M) (MC := MC) (r := r) (n := n1) (k := k) (t := t) (d := d) hr h0 hn (by omega) g4 g5 g6
    have hrN : ch_Rr MC N := Rr_of hR.1 (fun _ _ _ => rfl) (by rw [g7]) (by rw [g7])
    have hlN : ch_Rl MC N := Rl_of hR.2.1 (fun _ _ _ => rfl) (by rw [g7]) (by rw [g7]) (by rw [g7]) (by rw [g7])
    obtain ⟨m1, m2⟩ := pu_hM (r := r) (n := n1) (k := k) (t := t) (d := d) hrN hlN hr h0 hn hk ht (by omega) e
    obtain ⟨bu, bv⟩ := pu_hub hR.1 hr h0 hn e k t d
    have hpos := pu_pow2 bu bv
    obtain ⟨P, hP⟩ : ∃ P : Int64, P = (pu_hu MC r n1 k t d).toInt64 * (pu_hu MC r n1 k t d).toInt64 + (pu_hv MC r n1 k t d).toInt64 * (pu_hv MC r n1 k t d).toInt64 := ⟨_, rfl⟩
    rw [← hP] at hpos
    have eC : ∀ (M' : ch_Mem), D_X4_weigh P (nI t) (nI d) M = some ((), M') → D_X6_searchFor_L71 kC (fu + 1) (nI r) (nI t) (nI d) M = D_X6_searchFor_L71 kC fu (nI r) (nI t) (nI (d + 1)) M' := by
      intro M' hM'
      show D_X6_searchFor_b71 kC (D_X6_searchFor_L71 kC fu) _ _ _ M = _
      unfold D_X6_searchFor_b71
      rw [pu_gd hr (by decide), pu_cl (by omega), g4, if_neg (nI_ge (by omega) (by omega)), pu_gd hr (by decide), s1, pu_bd, pu_gd hr (by decide), s2, pu_bd, ← hP, hM', pu_bd, nI_1]
    have eM : D_X7_finds_L28 kM (gu + 1) (nI r) (nI k) best (nI t) (nI d) N = if lg_cmp P (N.2 0 4) ≤ 0 then (if lg_cmp P (N.2 0 5) ≤ 0 then D_X7_finds_L28 kM gu (nI r) (nI k) best (nI t) (nI (d + 1)) N else D_X7_finds_L28 kM gu (nI r) (nI k) best (nI t) (nI (d + 1)) (ch_wL N 0 5 P)) else D_X7_finds_L28 kM gu (nI r) (nI k) (1000 * nI t + nI d) (nI t) (nI (d + 1)) (ch_wL (ch_wL N 0 5 (N.2 0 4)) 0 4 P) := by
      show D_X7_finds_b28 kM (D_X7_finds_L28 kM gu) _ _ _ _ _ N = _
      unfold D_X7_finds_b28 D_X7_finds_b133
      rw [pu_gd hr (by decide), pu_cl (by omega), g7, p3, if_neg (nI_ge (by omega) (by omega)), m1, pu_bd, m2, pu_bd, pu_nm, ← hP, nI_1]
    obtain ⟨j1, j2, j3⟩ := g8
    have wC : D_X4_weigh P (nI t) (nI d) M = if lg_cmp P (N.2 0 4) ≤ 0 then (if lg_cmp P (N.2 0 5) ≤ 0 then some ((), M) else some ((), ch_wL M 4 1 P)) else some ((), ch_wI (ch_wI (ch_wL (ch_wL M 4 1 (N.2 0 4)) 4 0 P) 4 2 (nI t)) 4 3 (nI d)) := by
      unfold D_X4_weigh
      rw [j1, j2]
    by_cases hA : lg_cmp P (N.2 0 4) ≤ 0
    · have hright : best = 1000 * M.1 4 2 + M.1 4 3 := by
        rcases j3 with ⟨-, j3⟩ | j3
        · exfalso
          rw [pu_lle, j3] at hA
          exact hA hpos
        · exact j3
      rw [if_pos hA] at wC eM
      by_cases hB : lg_cmp P (N.2 0 5) ≤ 0
      · rw [if_pos hB] at wC eM
        obtain ⟨M1, N1, b1, z1, z2, z3, z4, z5, z6, z7, z8⟩ := ih (d + 1) fu gu M N best (by omega) (by omega) (by omega) g4 g5 g6 g7 ⟨j1, j2, j3⟩ (Or.inl hright)
        exact ⟨M1, N1, b1, (eC M wC).trans z1, eM.trans z2, z3, z4, z5, z6, z7, z8⟩
      · rw [if_neg hB] at wC eM
        have k1 : (ch_wL M 4 1 P).2 4 0 = (ch_wL N 0 5 P).2 0 4 := by
          rw [pu_L, pu_L, if_neg (by omega), if_neg (by omega)]; exact j1
        have k2 : (ch_wL M 4 1 P).2 4 1 = (ch_wL N 0 5 P).2 0 5 := by
          rw [pu_L, pu_L, if_pos ⟨rfl, rfl⟩, if_pos ⟨rfl, rfl⟩]
        obtain ⟨M1, N1, b1, z1, z2, z3, z4, z5, z6, z7, z8⟩ := ih (d + 1) fu gu (ch_wL M 4 1 P) (ch_wL N 0 5 P) best (by omega) (by omega) (by omega) g4 g5 g6 g7 ⟨k1, k2, Or.inr hright⟩ (Or.inl hright)
        exact ⟨M1, N1, b1, (eC _ wC).trans z1, eM.trans z2, z3, by rw [z4, pu_L, if_neg (by omega)], z5, by rw [z6, pu_L, if_neg (by omega)], z7, z8⟩
    · rw [if_neg hA] at wC eM
      obtain ⟨M', hM'⟩ : ∃ M', M' = ch_wI (ch_wI (ch_wL (ch_wL M 4 1 (N.2 0 4)) 4 0 P) 4 2 (nI t)) 4 3 (nI d) := ⟨_, rfl⟩
      obtain ⟨N', hN'⟩ : ∃ N', N' = ch_wL (ch_wL N 0 5 (N.2 0 4)) 0 4 P := ⟨_, rfl⟩
      rw [← hM'] at wC
      rw [← hN'] at eM
      have fr : ∀ a, a ≠ 4 → M'.1 a = M.1 a := fun a ha => by rw [hM', pu_wn ha, pu_wn ha, pu_L1, pu_L1]
      have fN : N'.1 = MM.1 := by rw [hN', pu_L1, pu_L1]; exact g7
      have k1a : M'.2 4 0 = P := by rw [hM', pu_w2, pu_w2, pu_L, if_pos ⟨rfl, rfl⟩]
      have k1b : N'.2 0 4 = P := by rw [hN', pu_L, if_pos ⟨rfl, rfl⟩]
      have k2a : M'.2 4 1 = N.2 0 4 := by rw [hM', pu_w2, pu_w2, pu_L, if_neg (by omega), pu_L, if_pos ⟨rfl, rfl⟩]
      have k2b : N'.2 0 5 = N.2 0 4 := by rw [hN', pu_L, if_neg (by omega), pu_L, if_pos ⟨rfl, rfl⟩]
      have k1 : M'.2 4 0 = N'.2 0 4 := k1a.trans k1b.symm
      have k2 : M'.2 4 1 = N'.2 0 5 := k2a.trans k2b.symm
      have k3 : (1000 : Int32) * nI t + nI d = 1000 * M'.1 4 2 + M'.1 4 3 := by
        rw [hM', pu_ws, pu_wn2 (by omega), pu_ws]
      obtain ⟨M1, N1, b1, z1, z2, z3, z4, z5, z6, z7, z8⟩ := ih (d + 1) fu gu M' N' (1000 * nI t + nI d) (by omega) (by omega) (by omega) (by rw [fr _ (by omega)]; exact g4) (by rw [fr _ (by omega)]; exact g5) (fun j hj => by rw [fr 33 (by decide), fr 34 (by decide)]; exact g6 j hj) fN ⟨k1, k2, Or.inr k3⟩ (Or.inl k3)
      refine ⟨M1, N1, b1, (eC _ wC).trans z1, eM.trans z2, fun a ha => by rw [z3 a ha, fr a ha], ?_, z5, ?_, z7, z8⟩
      · rw [z4, hM', pu_w2, pu_w2, pu_L, if_neg (by omega), pu_L, if_neg (by omega)]
      · rw [z6, hN', pu_L, if_neg (by omega), pu_L, if_neg (by omega)]
theorem pu_findO {MC MM : ch_Mem} (hR : ch_R MC MM) {r n k : Nat} (hr : r < 8) (h0 : 0 < n) (hn : n ≤ 127) (hk : k ≤ 50000) (e : MC.1 (7 + r) 1 = nI n) : ∀ (c t fu gu : Nat) (M N : ch_Mem) (best : Int32), t + c = 4 → c < fu → c < gu → M.1 (7 + r) 1 = nI n → M.1 (7 + r + 8) = MC.1 (7 + r + 8) → M.1 3 4 = nI n → (∀ j, j < n → M.1 31 j = pu_smp MC 0 (k + j) ∧ M.1 32 j = pu_smp MC 1 (k + j)) → N.1 = MM.1 → pu_J M N best → (best = 1000 * M.1 4 2 + M.1 4 3 ∨ 1 ≤ c) → ∃ (M1 N1 : ch_Mem) (best1 : Int32), D_X6_searchFor_L55 fu (nI r) (nI t) M = some (0, M1) ∧ D_X7_finds_L19 gu (nI r) (nI k) best (nI t) N = some (best1, N1) ∧ (∀ a, a ≠ 4 → a ≠ 33 → a ≠ 34 → M1.1 a = M.1 a) ∧ M1.2 5 4 = M.2 5 4 ∧ N1.1 = MM.1 ∧ N1.2 0 9 = N.2 0 9 ∧ pu_J M1 N1 best1 ∧ best1 = 1000 * M1.1 4 2 + M1.1 4 3 := by
  intro c
  induction c with
  | zero =>
    intro t fu gu M N best g1 g2 g3 g4 g5 g6 g7 g8 g9 g10
    obtain ⟨fu, rfl⟩ : ∃ q, fu = q + 1 := ⟨fu - 1, by omega⟩
    obtain ⟨gu, rfl⟩ : ∃ q, gu = q + 1 := ⟨gu - 1, by omega⟩
    refine ⟨M, N, best, ?_, ?_, fun a _ _ _ => rfl, rfl, g8, rfl, g9, ?_⟩
    · show D_X6_searchFor_b55 (D_X6_searchFor_L55 fu) _ _ M = _
      unfold D_X6_searchFor_b55
      rw [if_pos (show (4 : Int32) ≤ nI t from nI_le (a := 4) (by omega) (by omega))]
    · show D_X7_finds_b19 (D_X7_finds_L19 gu) _ _ _ _ N = _
      unfold D_X7_finds_b19 D_X7_finds_b145
      rw [if_pos (show (4 : Int32) ≤ nI t from nI_le (a := 4) (by omega) (by omega))]
    · rcases g10 with g10 | g10
      · exact g10
      · omega
  | succ c ih =>
    intro t fu gu M N best g1 g2 g3 g4 g5 g6 g7 g8 g9 g10
    obtain ⟨fu, rfl⟩ : ∃ q, fu = q + 1 := ⟨fu - 1, by omega⟩
    obtain ⟨gu, rfl⟩ : ∃ q, gu = q + 1 := ⟨gu - 1, by omega⟩
    have hlt : ¬ (4 : Int32) ≤ nI t := nI_ge (b := 4) (by omega) (by omega)
    obtain ⟨M2, f1, f2, f3, f4⟩ := pu_turn (t := t) (by omega) hn g6
    have j9 : pu_J M2 N best := by
      obtain ⟨j1, j2, j3⟩ := g9
      refine ⟨by rw [f3]; exact j1, by rw [f3]; exact j2, ?_⟩
      rw [f2 4 (by decide) (by decide)]
      exact j3
    obtain ⟨M3, N3, b3, z1, z2, z3, z4, z5, z6, z7, z8⟩ := pu_findI hR (t := t) hr h0 hn hk (by omega) e (D_X6_searchFor_L55 fu) (D_X7_finds_L19 gu) n 0 ch_fu ch_fu M2 N best (by omega) (by unfold ch_fu; omega) (by unfold ch_fu; omega) (by rw [f2 _ (by omega) (by omega)]; exact g4) (by rw [f2 _ (by omega) (by omega)]; exact g5) (fun j hj => by
      obtain ⟨q1, q2⟩ := f4 j hj
      obtain ⟨q3, q4⟩ := g7 j hj
      rw [q1, q2, q3, q4]
      exact ⟨rfl, rfl⟩) g8 j9 (Or.inr h0)
    have fr : ∀ a, a ≠ 4 → a ≠ 33 → a ≠ 34 → M3.1 a = M.1 a := fun a q1 q2 q3 => by rw [z3 a q1, f2 a q2 q3]
    obtain ⟨M4, N4, b4, y1, y2, y3, y4, y5, y6, y7, y8⟩ := ih (t + 1) fu gu M3 N3 b3 (by omega) (by omega) (by omega) (by rw [fr _ (by omega) (by omega) (by omega)]; exact g4) (by rw [fr _ (by omega) (by omega) (by omega)]; exact g5) (by rw [fr _ (by omega) (by omega) (by omega)]; exact g6) (fun j hj => by rw [fr 31 (by decide) (by decide) (by decide), fr 32 (by decide) (by decide) (by decide)]; exact g7 j hj) z5 z7 (Or.inl z8)
    refine ⟨M4, N4, b4, ?_, ?_, fun a q1 q2 q3 => by rw [y3 a q1 q2 q3, fr a q1 q2 q3], by rw [y4, z4, f3], y5, by rw [y6, z6], y7, y8⟩
    · show D_X6_searchFor_b55 (D_X6_searchFor_L55 fu) _ _ M = _
      unfold D_X6_searchFor_b55
      rw [if_neg hlt, f1, pu_bd]
      exact z1.trans y1
    · show D_X7_finds_b19 (D_X7_finds_L19 gu) _ _ _ _ N = _
      unfold D_X7_finds_b19
      rw [if_neg hlt]
      exact z2.trans y2
theorem pu_search {MC MM : ch_Mem} (hR : ch_R MC MM) (a1 a2 : Int32) : (∃ (M1 N1 : ch_Mem) (b : Int32), D_X6_searchFor a1 a2 MC = some (0, M1) ∧ D_X7_refuses a1 a2 MM = some (0, MM) ∧ D_X7_finds a1 a2 MM = some (b, N1) ∧ M1.2 4 0 = N1.2 0 4 ∧ M1.2 4 1 = N1.2 0 5 ∧ b = 1000 * M1.1 4 2 + M1.1 4 3 ∧ ch_R M1 N1) ∨ (∃ c : Int32, ¬ c = 0 ∧ D_X6_searchFor a1 a2 MC = some (c, MC) ∧ D_X7_refuses a1 a2 MM = some (c, MM)) := by
  unfold D_X6_searchFor D_X7_refuses D_X7_refuses_b18
  rcases pu_row a1 with ⟨r, -, hr, rfl, h1, h2⟩ | ⟨h1, h2⟩
  · rw [h1, h2]
    simp only [pu_bd, pu_10, ↓reduceIte]
    rcases pu_place a2 with ⟨k, -, hk, rfl, g1, g2⟩ | ⟨g1, g2⟩
    · rw [g1, g2]
      simp only [pu_bd, pu_10, ↓reduceIte, pu_gd (show r < 8 by omega) (show 8 ≤ 100000 by decide), pu_cl (show r ≤ 100000 by omega), D_X3_isNone]
      obtain ⟨n, c1, c2, c3, c4⟩ := hR.1 r (by omega)
      rw [c2, c3]
      rcases Nat.eq_zero_or_pos n with rfl | hn
      · right
        rw [if_neg (by decide), if_pos (by rfl), pu_bd, if_neg pu_10]
        exact ⟨-3, by decide, rfl, rfl⟩
      · left
        rw [if_pos (pu_1le hn (by omega)), if_neg (nI_ne0 hn (by omega)), pu_bd, if_pos rfl, c2]
        obtain ⟨M1, e1, e2, e3, e4, e5⟩ := pu_listen hR.2.1 (k := k) (n := n) (by omega) c1
        obtain ⟨M2, hM2⟩ : ∃ M2, M2 = ch_wL (ch_wL M1 4 0 (-1)) 4 1 (-1) := ⟨_, rfl⟩
        obtain ⟨N2, hN2⟩ : ∃ N2, N2 = ch_wL (ch_wL MM 0 4 (-1)) 0 5 (-1) := ⟨_, rfl⟩
        have f2 : M2.1 = M1.1 := by rw [hM2]; rfl
        have j : pu_J M2 N2 (-1) := by
          have a1 : M2.2 4 0 = -1 := by rw [hM2, pu_L, if_neg (by omega), pu_L, if_pos ⟨rfl, rfl⟩]
          have a2 : N2.2 0 4 = -1 := by rw [hN2, pu_L, if_neg (by omega), pu_L, if_pos ⟨rfl, rfl⟩]
          have a3 : M2.2 4 1 = -1 := by rw [hM2, pu_L, if_pos ⟨rfl, rfl⟩]
          have a4 : N2.2 0 5 = -1 := by rw [hN2, pu_L, if_pos ⟨rfl, rfl⟩]
          exact ⟨a1.trans a2.symm, a3.trans a4.symm, Or.inl ⟨rfl, a2⟩⟩
        obtain ⟨M3, N3, b, z1, z2, z3, z4, z5, z6, z7, z8⟩ := pu_findO hR (r := r) (n := n) (k := k) (by omega) hn c1 (by omega) c2 4 0 ch_fu ch_fu M2 N2 (-1) (by omega) (by unfold ch_fu; omega) (by unfold ch_fu; omega) (by rw [f2, e2 _ (by omega) (by omega) (by omega)]; exact c2) (by rw [f2, e2 _ (by omega) (by omega) (by omega)]) (by rw [f2]; exact e4) (fun i hi => by rw [f2]; exact e5 i hi) (by rw [hN2]; rfl) j (Or.inr (by decide))
        refine ⟨M3, N3, b, ?_, rfl, ?_, z7.1, z7.2.1, z8, ?_⟩
        · rw [e1, pu_bd]
          unfold D_X4_begin
          rw [pu_bd, ← hM2]
          exact z1
        · unfold D_X7_finds
          rw [← hN2]
          exact z2
        · refine R_scr hR (fun a q1 q2 q3 q4 q5 q6 => by rw [z3 a q2 q5 q6, f2, e2 a q1 q3 q4]) ?_ (fun a _ => by rw [z5]) ?_
          · rw [z4, hM2, pu_L, if_neg (by omega), pu_L, if_neg (by omega), e3]
          · rw [z6, hN2, pu_L, if_neg (by omega), pu_L, if_neg (by omega)]
    · right
      rw [g1, g2]
      exact ⟨-2, by decide, rfl, rfl⟩
  · right
    rw [h1, h2]
    exact ⟨-2, by decide, rfl, rfl⟩
theorem op_search {MC MM : ch_Mem} (hR : ch_R MC MM) (a1 a2 : Int32) : ∃ (r : Int32) (MC1 MM1 : ch_Mem), D_X6_search a1 a2 MC = some (r, MC1) ∧ D_X7_search a1 a2 MM = some (r, MM1) ∧ ch_R MC1 MM1 := by
  unfold D_X6_search D_X7_search
  rcases pu_search hR a1 a2 with ⟨M1, N1, b, h1, h2, h3, h4, h5, h6, h7⟩ | ⟨c, hc, h1, h2⟩
  · rw [h1, h2, pu_bd, pu_bd, if_pos rfl, if_pos rfl, h3, pu_bd, h6]
    exact ⟨_, M1, N1, rfl, rfl, h7⟩
  · rw [h1, h2, pu_bd, pu_bd, if_neg hc, if_neg hc]
    exact ⟨_, MC, MM, rfl, rfl, hR⟩
theorem op_power {MC MM : ch_Mem} (hR : ch_R MC MM) (a1 a2 : Int32) : ∃ (r : Int64) (MC1 MM1 : ch_Mem), D_X6_power a1 a2 MC = some (r, MC1) ∧ D_X7_power a1 a2 MM = some (r, MM1) ∧ ch_R MC1 MM1 := by
  unfold D_X6_power D_X7_power
  rcases pu_search hR a1 a2 with ⟨M1, N1, b, h1, h2, h3, h4, h5, h6, h7⟩ | ⟨c, hc, h1, h2⟩
  · rw [h1, h2, pu_bd, pu_bd, if_pos rfl, if_pos rfl, h3, pu_bd, h4]
    exact ⟨_, M1, N1, rfl, rfl, h7⟩
  · rw [h1, h2, pu_bd, pu_bd, if_neg hc, if_neg hc]
    exact ⟨_, MC, MM, rfl, rfl, hR⟩
theorem op_sure {MC MM : ch_Mem} (hR : ch_R MC MM) (a1 a2 : Int32) : ∃ (r : Int32) (MC1 MM1 : ch_Mem), D_X6_sure a1 a2 MC = some (r, MC1) ∧ D_X7_sure a1 a2 MM = some (r, MM1) ∧ ch_R MC1 MM1 := by
  unfold D_X6_sure D_X7_sure
  rcases pu_search hR a1 a2 with ⟨M1, N1, b, h1, h2, h3, h4, h5, h6, h7⟩ | ⟨c, hc, h1, h2⟩
  · rw [h1, h2, pu_bd, pu_bd, if_pos rfl, if_pos rfl, h3, pu_bd, h4, h5, h7.2.2.2.2.1]
    by_cases q1 : lg_cmp (N1.2 0 4) 0 ≤ 0
    · rw [if_pos q1, if_pos q1]
      exact ⟨_, M1, N1, rfl, rfl, h7⟩
    · rw [if_neg q1, if_neg q1]
      by_cases q2 : 0 < lg_cmp (100 * N1.2 0 5) ((M1.1 0 6).toInt64 * N1.2 0 4)
      · rw [if_pos q2, if_pos q2]
        exact ⟨_, M1, N1, rfl, rfl, h7⟩
      · rw [if_neg q2, if_neg q2]
        exact ⟨_, M1, N1, rfl, rfl, h7⟩
  · rw [h1, h2, pu_bd, pu_bd, if_neg hc, if_neg hc]
    exact ⟨_, MC, MM, rfl, rfl, hR⟩
