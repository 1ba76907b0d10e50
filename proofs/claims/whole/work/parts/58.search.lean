theorem R_scr {MC MM MC1 MM1 : ch_Mem} (h : ch_R MC MM) (hC : ∀ a, a ≠ 3 → a ≠ 4 → a ≠ 31 → a ≠ 32 → a ≠ 33 → a ≠ 34 → MC1.1 a = MC.1 a) (hL : MC1.2 5 4 = MC.2 5 4) (hM : ∀ a, a ≠ 5 → MM1.1 a = MM.1 a) (hML : MM1.2 0 9 = MM.2 0 9) : ch_R MC1 MM1 := by
  obtain ⟨a, b, c, d, e⟩ := h
  have q : ∀ k, k ≠ 3 → k ≠ 4 → (k < 31 ∨ 34 < k) → MC1.1 k = MC.1 k := fun k h1 h2 h3 => hC k h1 h2 (by omega) (by omega) (by omega) (by omega)
  exact ⟨Rr_of a (fun k h1 h2 => q k (by omega) (by omega) (by omega)) (hM 1 (by decide)) (hM 2 (by decide)), Rl_of b (fun k h1 h2 => q k (by omega) (by omega) (by omega)) (hM 8 (by decide)) (hM 9 (by decide)) (hM 10 (by decide)) (hM 11 (by decide)), Rp_of c (by rw [q 5 (by decide) (by decide) (by decide)]) hL (q 35 (by decide) (by decide) (by decide)) (q 36 (by decide) (by decide) (by decide)) (q 37 (by decide) (by decide) (by decide)) (by rw [hM 0 (by decide)]) hML (hM 4 (by decide)), Rn_of d (by rw [q 6 (by decide) (by decide) (by decide)]) (q 38 (by decide) (by decide) (by decide)) (q 39 (by decide) (by decide) (by decide)) (by rw [hM 0 (by decide)]) (hM 6 (by decide)) (hM 7 (by decide)), Rd_of e (by rw [q 0 (by decide) (by decide) (by decide)]) (by rw [q 0 (by decide) (by decide) (by decide)]) (by rw [hM 0 (by decide)]) (by rw [hM 0 (by decide)])⟩
def pu_q (v : Int32) : Int32 := if v < -10000 then 0 else if v ≤ 10000 then v else 0
def pu_it (M : ch_Mem) (r k : Nat) : Int32 := if M.1 (23 + r) 1 = 0 ∧ k < (M.1 (23 + r) 3).toNatClampNeg then M.1 (23 + r + 4) k else 0
def pu_smp (M : ch_Mem) (r k : Nat) : Int32 := pu_q (pu_it M r k)
theorem pu_qb (v : Int32) : -10000 ≤ (pu_q v).toInt ∧ (pu_q v).toInt ≤ 10000 := by
  have t1 : (-10000 : Int32).toInt = -10000 := by decide
  have t2 : (10000 : Int32).toInt = 10000 := by decide
  have t0 : (0 : Int32).toInt = 0 := by decide
  unfold pu_q
  by_cases h1 : v < -10000
  · rw [if_pos h1]; omega
  · rw [if_neg h1]
    by_cases h2 : v ≤ 10000
    · rw [if_pos h2]
      rw [pu_lt] at h1
      rw [pu_le] at h2
      omega
    · rw [if_neg h2]; omega
theorem pu_quiet (v : Int32) (M : ch_Mem) : D_X6_quietened v M = some (pu_q v, M) := by
  unfold D_X6_quietened D_X6_quietened_b14 pu_q
  by_cases h1 : v < -10000
  · rw [if_pos h1, if_pos h1]
  · rw [if_neg h1, if_neg h1]
    by_cases h2 : v ≤ 10000
    · rw [if_pos h2, if_pos h2]
    · rw [if_neg h2, if_neg h2]
theorem pu_smpb (v : Int32) (M : ch_Mem) : D_X7_sample_b35 v M = some (pu_q v, M) := by
  unfold D_X7_sample_b35 D_X7_in pu_q
  by_cases h1 : v < -10000
  · rw [if_pos h1, if_pos h1, pu_bd, if_pos rfl]
  · rw [if_neg h1, if_neg h1]
    by_cases h2 : v ≤ 10000
    · rw [if_neg (show ¬ (10000 : Int32) < v by rw [pu_lt]; rw [pu_le] at h2; omega), if_pos h2, pu_bd, if_neg pu_10]
    · rw [if_pos (show (10000 : Int32) < v by rw [pu_lt]; rw [pu_le] at h2; omega), if_neg h2, pu_bd, if_pos rfl]
theorem pu_itm {M : ch_Mem} {r n k : Nat} (e : M.1 (23 + r) 3 = nI n) (hn : n ≤ 300) (hk : k ≤ 100000) : D_X2_itemOrZero (23 + r) (nI k) M = some (pu_it M r k, M) := by
  unfold D_X2_itemOrZero D_X2_hasItem pu_it
  rw [e, pu_cl (show n ≤ 100000 by omega), pu_cl (show k ≤ 100000 by omega), if_neg (show ¬ nI k < 0 from nI_pos (by omega))]
  by_cases h1 : M.1 (23 + r) 1 = 0
  · rw [if_pos h1]
    by_cases h2 : k < n
    · rw [if_neg (nI_ge h2 (by omega)), pu_bd, if_neg pu_10, pu_gd (by omega) (by decide), if_pos ⟨h1, h2⟩]
    · rw [if_pos (nI_le (by omega) (by omega)), pu_bd, if_pos rfl, if_neg (fun q => h2 q.2)]
  · rw [if_neg h1, pu_bd, if_pos rfl, if_neg (fun q => h1 q.1)]
theorem pu_sample {MC MM : ch_Mem} (hR : ch_Rl MC MM) {r k : Nat} (hr : r < 4) (hk : k ≤ 100000) : D_X7_sample (nI r) (nI k) MM = some (pu_smp MC r k, MM) := by
  obtain ⟨n, f, b1, b2, b3, b4, b5, b6, b7, b8⟩ := hR r hr
  unfold D_X7_sample D_X7_sample_b34 pu_smp pu_it
  rw [pu_gd hr (by decide), pu_cl (by omega), pu_gd hr (by decide), b3, b4, pu_cl (by omega), pu_300]
  rcases b7 with ⟨c1, c2⟩ | ⟨c1, c2⟩
  · rw [c1, c2, if_neg pu_10]
    by_cases h : k < n
    · rw [if_neg (nI_ge h (by omega)), pu_gd (by omega) (by decide), pu_cl (by omega), pu_smpb, if_pos ⟨rfl, h⟩, b8 k h]
    · rw [if_pos (nI_le (by omega) (by omega)), pu_smpb, if_neg (fun q => h q.2)]
  · rw [c1, c2, if_pos rfl, pu_smpb, if_neg (fun q => pu_10 q.1)]
theorem pu_itn {M M1 : ch_Mem} {r : Nat} (h1 : M1.1 (23 + r) = M.1 (23 + r)) (h2 : M1.1 (23 + r + 4) = M.1 (23 + r + 4)) (k : Nat) : pu_it M1 r k = pu_it M r k := by
  unfold pu_it
  rw [h1, h2]
theorem pu_smpn {M M1 : ch_Mem} {r : Nat} (h1 : M1.1 (23 + r) = M.1 (23 + r)) (h2 : M1.1 (23 + r + 4) = M.1 (23 + r + 4)) (k : Nat) : pu_smp M1 r k = pu_smp M r k := by
  unfold pu_smp
  rw [pu_itn h1 h2]
theorem pu_listenL {k n n0 n1 : Nat} (hk : k ≤ 50000) (hn : n ≤ 127) (h0 : n0 ≤ 300) (h1 : n1 ≤ 300) : ∀ (e i fu : Nat) (M : ch_Mem), i + e = n → e < fu → M.1 23 3 = nI n0 → M.1 24 3 = nI n1 → ∃ M1, D_X6_listen_L10 fu (nI k) (nI n) (nI i) M = some ((), M1) ∧ (∀ a, a ≠ 31 → a ≠ 32 → M1.1 a = M.1 a) ∧ M1.2 = M.2 ∧ (∀ j, i ≤ j → j < n → M1.1 31 j = pu_smp M 0 (k + j) ∧ M1.1 32 j = pu_smp M 1 (k + j)) ∧ ∀ j, j < i → M1.1 31 j = M.1 31 j ∧ M1.1 32 j = M.1 32 j := by
  intro e
  induction e with
  | zero =>
    intro i fu M g1 g2 g3 g4
    obtain ⟨fu, rfl⟩ : ∃ q, fu = q + 1 := ⟨fu - 1, by omega⟩
    refine ⟨M, ?_, fun a _ _ => rfl, rfl, fun j h5 h6 => by omega, fun j _ => ⟨rfl, rfl⟩⟩
    show D_X6_listen_b10 (D_X6_listen_L10 fu) _ _ _ M = _
    unfold D_X6_listen_b10
    rw [if_pos (nI_le (by omega) (by omega))]
  | succ e ih =>
    intro i fu M g1 g2 g3 g4
    obtain ⟨fu, rfl⟩ : ∃ q, fu = q + 1 := ⟨fu - 1, by omega⟩
    obtain ⟨Ma, hMa⟩ : ∃ Ma, Ma = ch_wI M 31 i (pu_smp M 0 (k + i)) := ⟨_, rfl⟩
    obtain ⟨Mb, hMb⟩ : ∃ Mb, Mb = ch_wI Ma 32 i (pu_smp M 1 (k + i)) := ⟨_, rfl⟩
    have fa : ∀ a, a ≠ 31 → Ma.1 a = M.1 a := fun a ha => by rw [hMa, pu_wn ha]
    have fb : ∀ a, a ≠ 31 → a ≠ 32 → Mb.1 a = M.1 a := fun a ha hb => by rw [hMb, pu_wn hb, fa a ha]
    obtain ⟨M1, e1, e2, e3, e4, e5⟩ := ih (i + 1) fu Mb (by omega) (by omega) (by rw [fb 23 (by decide) (by decide)]; exact g3) (by rw [fb 24 (by decide) (by decide)]; exact g4)
    refine ⟨M1, ?_, fun a ha hb => by rw [e2 a ha hb, fb a ha hb], by rw [e3, hMb, hMa]; rfl, fun j h6 h7 => ?_, fun j h6 => ?_⟩
    · show D_X6_listen_b10 (D_X6_listen_L10 fu) _ _ _ M = _
      unfold D_X6_listen_b10
      have z0 : (0 : Int32).toNatClampNeg = 0 := by decide
      have z1 : (1 : Int32).toNatClampNeg = 1 := by decide
      have gg0 : ∀ x : Option (Unit × ch_Mem), ch_gd (0 : Int32) 4 x = x := fun x => pu_gd (r := 0) (by decide) (by decide) x
      have gg1 : ∀ x : Option (Unit × ch_Mem), ch_gd (1 : Int32) 4 x = x := fun x => pu_gd (r := 1) (by decide) (by decide) x
      rw [if_neg (nI_ge (by omega) (by omega)), gg0, z0, nI_add, pu_itm (r := 0) g3 h0 (by omega), pu_bd, pu_quiet, pu_bd, pu_gd (by omega) (by decide), gg1, z1, pu_cl (by omega)]
      have hs0 : pu_q (pu_it M 0 (k + i)) = pu_smp M 0 (k + i) := rfl
      rw [hs0, ← hMa, pu_itm (r := 1) (n := n1) (by rw [fa _ (by decide)]; exact g4) h1 (by omega), pu_bd, pu_quiet, pu_bd, pu_gd (by omega) (by decide), nI_1]
      have hs1 : pu_q (pu_it Ma 1 (k + i)) = pu_smp M 1 (k + i) := by
        rw [pu_itn (fa (23 + 1) (by decide)) (fa (23 + 1 + 4) (by decide))]; rfl
      rw [hs1, ← hMb]
      exact e1
    · by_cases hj : j = i
      · subst hj
        obtain ⟨a1, a2⟩ := e5 j (by omega)
        rw [a1, a2]
        refine ⟨?_, by rw [hMb, pu_ws]⟩
        rw [hMb, pu_wn2 (by omega), hMa, pu_ws]
      · obtain ⟨a1, a2⟩ := e4 j (by omega) h7
        rw [a1, a2]
        exact ⟨pu_smpn (fb (23 + 0) (by decide) (by decide)) (fb (23 + 0 + 4) (by decide) (by decide)) _, pu_smpn (fb (23 + 1) (by decide) (by decide)) (fb (23 + 1 + 4) (by decide) (by decide)) _⟩
    · obtain ⟨a1, a2⟩ := e5 j (by omega)
      rw [a1, a2, hMb, pu_wn2 (by omega), pu_wn2 (by omega), hMa, pu_wn2 (by omega), pu_wn2 (by omega)]
      exact ⟨rfl, rfl⟩
theorem pu_listen {MC MM : ch_Mem} (hR : ch_Rl MC MM) {k n : Nat} (hk : k ≤ 50000) (hn : n ≤ 127) : ∃ M1, D_X6_listen (nI k) (nI n) MC = some ((), M1) ∧ (∀ a, a ≠ 3 → a ≠ 31 → a ≠ 32 → M1.1 a = MC.1 a) ∧ M1.2 = MC.2 ∧ M1.1 3 4 = nI n ∧ ∀ j, j < n → M1.1 31 j = pu_smp MC 0 (k + j) ∧ M1.1 32 j = pu_smp MC 1 (k + j) := by
  obtain ⟨n0, f0, b1, b2, b3, b4, b5, b6, b7, b8⟩ := hR 0 (by decide)
  obtain ⟨n1, f1, c1, c2, c3, c4, c5, c6, c7, c8⟩ := hR 1 (by decide)
  obtain ⟨M1, e1, e2, e3, e4, e5⟩ := pu_listenL (k := k) (n := n) (n0 := n0) (n1 := n1) hk hn b1 c1 n 0 ch_fu (ch_wI MC 3 4 (nI n)) (by omega) (by unfold ch_fu; omega) (by rw [pu_wn2 (by omega)]; exact b3) (by rw [pu_wn2 (by omega)]; exact c3)
  refine ⟨M1, e1, fun a h1 h2 h3 => by rw [e2 a h2 h3, pu_wn h1], e3, by rw [e2 3 (by decide) (by decide), pu_ws], fun j hj => ?_⟩
  obtain ⟨a1, a2⟩ := e4 j (by omega) hj
  rw [a1, a2]
  exact ⟨pu_smpn (pu_wn (by decide)) (pu_wn (by decide)) _, pu_smpn (pu_wn (by decide)) (pu_wn (by decide)) _⟩
def pu_u (q : Nat) (x y : Int32) : Int32 := if q = 0 then x else if q = 1 then y else if q = 2 then -x else -y
def pu_v (q : Nat) (x y : Int32) : Int32 := if q = 0 then y else if q = 1 then -x else if q = 2 then -y else x
theorem pu_turn1 {t i : Nat} (ht : t < 4) (hi : i < 127) {M : ch_Mem} {n : Nat} (hn : n ≤ 127) (hin : i < n) (e : M.1 3 4 = nI n) (k2 : Int32 → Int32 → ch_Mem → Option (Unit × ch_Mem)) : D_X5_turnBack_b2 k2 (nI t) (nI i) M = k2 (nI t) (nI (i + 1)) (ch_wI (ch_wI M 33 i (pu_u (t * i % 4) (M.1 31 i) (M.1 32 i))) 34 i (pu_v (t * i % 4) (M.1 31 i) (M.1 32 i))) := by
  have hti : t * i ≤ 3 * 126 := Nat.mul_le_mul (by omega) (by omega)
  have hq : nI t * nI i &&& 3 = nI (t * i % 4) := by
    rw [pk_mul]
    show nI (t * i) &&& nI 3 = _
    rw [pu_and, show (3 : Nat) = 2 ^ 2 - 1 from rfl, Nat.and_two_pow_sub_one_eq_mod]
  have hq4 : t * i % 4 < 4 := Nat.mod_lt _ (by decide)
  unfold D_X5_turnBack_b2 D_X5_turnBack_b28 D_X5_turnBack_b50 D_X5_turnBack_b72 D_X5_turnBack_b92 D_X5_turnBack_b108 D_X5_turnBack_b116
  rw [e, if_neg (nI_ge hin (by omega)), hq]
  generalize t * i % 4 = q at hq4
  simp only [pu_gd hi (show 127 ≤ 100000 by decide), pu_cl (show i ≤ 100000 by omega), nI_1]
  rcases (show q = 0 ∨ q = 1 ∨ q = 2 ∨ q = 3 by omega) with rfl | rfl | rfl | rfl
  · rw [if_neg (by decide), if_pos trivial, if_pos trivial, if_pos (by decide), if_neg (by decide), if_neg (by decide)]
    rfl
  · rw [if_pos (by decide), if_neg (by decide), if_neg (by decide), if_pos (by decide), if_pos (by decide)]
    rfl
  · rw [if_neg (by decide), if_pos trivial, if_pos trivial, if_neg (by decide), if_neg (by decide), if_pos (by decide)]
    rfl
  · rw [if_pos (by decide), if_neg (by decide), if_neg (by decide), if_neg (by decide), if_neg (by decide), if_neg (by decide)]
    rfl
theorem pu_turnL {t n : Nat} (ht : t < 4) (hn : n ≤ 127) : ∀ (k i fu : Nat) (M : ch_Mem), i + k = n → k < fu → M.1 3 4 = nI n → ∃ M1, D_X5_turnBack_L2 fu (nI t) (nI i) M = some ((), M1) ∧ (∀ a, a ≠ 33 → a ≠ 34 → M1.1 a = M.1 a) ∧ M1.2 = M.2 ∧ (∀ j, i ≤ j → j < n → M1.1 33 j = pu_u (t * j % 4) (M.1 31 j) (M.1 32 j) ∧ M1.1 34 j = pu_v (t * j % 4) (M.1 31 j) (M.1 32 j)) ∧ ∀ j, j < i → M1.1 33 j = M.1 33 j ∧ M1.1 34 j = M.1 34 j := by
  intro k
  induction k with
  | zero =>
    intro i fu M g1 g2 g3
    obtain ⟨fu, rfl⟩ : ∃ q, fu = q + 1 := ⟨fu - 1, by omega⟩
    refine ⟨M, ?_, fun a _ _ => rfl, rfl, fun j h5 h6 => by omega, fun j _ => ⟨rfl, rfl⟩⟩
    show D_X5_turnBack_b2 (D_X5_turnBack_L2 fu) _ _ M = _
    unfold D_X5_turnBack_b2
    rw [g3, if_pos (nI_le (by omega) (by omega))]
  | succ k ih =>
    intro i fu M g1 g2 g3
    obtain ⟨fu, rfl⟩ : ∃ q, fu = q + 1 := ⟨fu - 1, by omega⟩
    obtain ⟨Mb, hMb⟩ : ∃ Mb, Mb = ch_wI (ch_wI M 33 i (pu_u (t * i % 4) (M.1 31 i) (M.1 32 i))) 34 i (pu_v (t * i % 4) (M.1 31 i) (M.1 32 i)) := ⟨_, rfl⟩
    have fb : ∀ a, a ≠ 33 → a ≠ 34 → Mb.1 a = M.1 a := fun a ha hb => by rw [hMb, pu_wn hb, pu_wn ha]
    obtain ⟨M1, e1, e2, e3, e4, e5⟩ := ih (i + 1) fu Mb (by omega) (by omega) (by rw [fb 3 (by decide) (by decide)]; exact g3)
    refine ⟨M1, ?_, fun a ha hb => by rw [e2 a ha hb, fb a ha hb], by rw [e3, hMb]; rfl, fun j h6 h7 => ?_, fun j h6 => ?_⟩
    · show D_X5_turnBack_b2 (D_X5_turnBack_L2 fu) _ _ M = _
      rw [pu_turn1 ht (by omega) hn (by omega) g3, ← hMb]
      exact e1
    · by_cases hj : j = i
      · subst hj
        obtain ⟨a1, a2⟩ := e5 j (by omega)
        rw [a1, a2]
        refine ⟨?_, by rw [hMb, pu_ws]⟩
        rw [hMb, pu_wn2 (by omega), pu_ws]
      · obtain ⟨a1, a2⟩ := e4 j (by omega) h7
        rw [a1, a2, fb 31 (by decide) (by decide), fb 32 (by decide) (by decide)]
        exact ⟨rfl, rfl⟩
    · obtain ⟨a1, a2⟩ := e5 j (by omega)
      rw [a1, a2, hMb, pu_wn2 (by omega), pu_wn2 (by omega), pu_wn2 (by omega), pu_wn2 (by omega)]
      exact ⟨rfl, rfl⟩
theorem pu_turn {t n : Nat} (ht : t < 4) (hn : n ≤ 127) {M : ch_Mem} (e : M.1 3 4 = nI n) : ∃ M1, D_X5_turnBack (nI t) M = some ((), M1) ∧ (∀ a, a ≠ 33 → a ≠ 34 → M1.1 a = M.1 a) ∧ M1.2 = M.2 ∧ ∀ j, j < n → M1.1 33 j = pu_u (t * j % 4) (M.1 31 j) (M.1 32 j) ∧ M1.1 34 j = pu_v (t * j % 4) (M.1 31 j) (M.1 32 j) := by
  obtain ⟨M1, e1, e2, e3, e4, -⟩ := pu_turnL ht hn n 0 ch_fu M (by omega) (by unfold ch_fu; omega) e
  exact ⟨M1, e1, e2, e3, fun j hj => e4 j (Nat.zero_le _) hj⟩
/-- the sums that are heard -/
def pu_hu (MC : ch_Mem) (r n k t d : Nat) : Int32 := pu_sum (fun i => MC.1 (7 + r + 8) ((i + d) % n) * pu_u (t * i % 4) (pu_smp MC 0 (k + i)) (pu_smp MC 1 (k + i))) n
def pu_hv (MC : ch_Mem) (r n k t d : Nat) : Int32 := pu_sum (fun i => MC.1 (7 + r + 8) ((i + d) % n) * pu_v (t * i % 4) (pu_smp MC 0 (k + i)) (pu_smp MC 1 (k + i))) n
theorem pu_hC {M MC : ch_Mem} {r n k t d : Nat} (hr : r < 8) (h0 : 0 < n) (hn : n ≤ 127) (hd : d ≤ 1000) (e : M.1 (7 + r) 1 = nI n) (es : M.1 (7 + r + 8) = MC.1 (7 + r + 8)) (ew : ∀ j, j < n → M.1 33 j = pu_u (t * j % 4) (pu_smp MC 0 (k + j)) (pu_smp MC 1 (k + j)) ∧ M.1 34 j = pu_v (t * j % 4) (pu_smp MC 0 (k + j)) (pu_smp MC 1 (k + j))) : D_X3_sumOver (7 + r) 33 (nI d) M = some (pu_hu MC r n k t d, M) ∧ D_X3_sumOver (7 + r) 34 (nI d) M = some (pu_hv MC r n k t d, M) := by
  have l3 : ch_len 33 = 127 := by decide
  have l4 : ch_len 34 = 127 := by decide
  rw [pu_sumOver e h0 hn (by rw [l3]; exact hn) (by rw [l3]; decide) (by omega), pu_sumOver e h0 hn (by rw [l4]; exact hn) (by rw [l4]; decide) (by omega), es]
  refine ⟨congrArg (fun z => some (z, M)) (pu_sum_cong (fun i hi => ?_)), congrArg (fun z => some (z, M)) (pu_sum_cong (fun i hi => ?_))⟩
  · rw [(ew i hi).1]
  · rw [(ew i hi).2]
theorem pu_hML {MC MM : ch_Mem} (hr8 : ch_Rr MC MM) (hl4 : ch_Rl MC MM) {r n k t d : Nat} (hr : r < 8) (h0 : 0 < n) (hn : n ≤ 127) (hk : k ≤ 50000) (ht : t < 4) (hd : d ≤ 1000) (e : MC.1 (7 + r) 1 = nI n) (w : Int32) (f : Nat → Int32) (hf : ∀ i, f i = MC.1 (7 + r + 8) ((i + d) % n) * if w = 0 then pu_u (t * i % 4) (pu_smp MC 0 (k + i)) (pu_smp MC 1 (k + i)) else pu_v (t * i % 4) (pu_smp MC 0 (k + i)) (pu_smp MC 1 (k + i))) : ∀ (c i fu : Nat), i + c = n → c < fu → D_X7_heardOf_L6 fu (nI r) (nI k) (nI d) (nI t) w (pu_sum f i) (nI i) MM = some (pu_sum f n, MM) := by
  obtain ⟨n1, p1, p2, p3, p4⟩ := hr8 r hr
  obtain rfl : n1 = n := (nI_eq (by omega) (by omega)).mp (p2.symm.trans e)
  intro c
  induction c with
  | zero =>
    intro i fu g1 g2
    obtain ⟨fu, rfl⟩ : ∃ q, fu = q + 1 := ⟨fu - 1, by omega⟩
    obtain rfl : i = n1 := by omega
    show D_X7_heardOf_b6 (D_X7_heardOf_L6 fu) _ _ _ _ _ _ _ MM = _
    unfold D_X7_heardOf_b6 D_X7_heardOf_b157
    rw [pu_gd hr (by decide), pu_cl (by omega), p3, if_pos (nI_le (Nat.le_refl _) (by omega))]
  | succ c ih =>
    intro i fu g1 g2
    obtain ⟨fu, rfl⟩ : ∃ q, fu = q + 1 := ⟨fu - 1, by omega⟩
    have hti : t * i ≤ 3 * 126 := Nat.mul_le_mul (by omega) (by omega)
    have hm : (i + d) % n1 < n1 := Nat.mod_lt _ h0
    have s0 : D_X7_sample 0 (nI (k + i)) MM = some (pu_smp MC 0 (k + i), MM) := pu_sample hl4 (r := 0) (by decide) (by omega)
    have s1 : D_X7_sample 1 (nI (k + i)) MM = some (pu_smp MC 1 (k + i), MM) := pu_sample hl4 (r := 1) (by decide) (by omega)
    have hrem : nI (t * i) - nI (t * i) / 4 * 4 = nI (t * i % 4) := pu_rem (d := 4) (by omega) (by decide) (by decide)
    have hq4 : t * i % 4 < 4 := Nat.mod_lt _ (by decide)
    have hgo := ih (i + 1) fu (by omega) (by omega)
    have hfi := hf i
    show D_X7_heardOf_b6 (D_X7_heardOf_L6 fu) _ _ _ _ _ _ _ MM = _
    unfold D_X7_heardOf_b6
    rw [pu_gd hr (by decide), pu_cl (by omega), p3, if_neg (nI_ge (by omega) (by omega)), nI_add, s0, pu_bd, s1, pu_bd, pu_nm, pk_mul, hrem]
    have key : ∀ u v : Int32, u = pu_u (t * i % 4) (pu_smp MC 0 (k + i)) (pu_smp MC 1 (k + i)) → v = pu_v (t * i % 4) (pu_smp MC 0 (k + i)) (pu_smp MC 1 (k + i)) → D_X7_heardOf_b122 (D_X7_heardOf_L6 fu) (nI r) (nI k) (nI d) (nI t) w (pu_sum f i) (nI i) u v MM = some (pu_sum f n1, MM) := by
      intro u v hu hv
      unfold D_X7_heardOf_b122 D_X7_heardOf_b147
      rw [nI_add, pu_signOf p3 hr h0 hn (by omega), pu_bd, (p4 _ hm).2, nI_1, hu, hv]
      by_cases hw : w = 0
      · rw [if_pos hw]
        rw [if_pos hw] at hfi
        rw [← hfi]
        exact hgo
      · rw [if_neg hw]
        rw [if_neg hw] at hfi
        rw [← hfi]
        exact hgo
    revert key
    generalize t * i % 4 = q at hq4
    intro key
    unfold D_X7_heardOf_b84
    rcases (show q = 0 ∨ q = 1 ∨ q = 2 ∨ q = 3 by omega) with rfl | rfl | rfl | rfl
    · rw [if_pos (by decide), if_pos (by decide)]
      exact key _ _ rfl rfl
    · rw [if_neg (by decide), if_pos (by decide), if_neg (by decide), if_pos (by decide)]
      exact key _ _ rfl rfl
    · rw [if_neg (by decide), if_neg (by decide), if_pos (by decide), if_neg (by decide), if_neg (by decide), if_pos (by decide)]
      exact key _ _ rfl rfl
    · rw [if_neg (by decide), if_neg (by decide), if_neg (by decide), if_neg (by decide), if_neg (by decide), if_neg (by decide)]
      exact key _ _ rfl rfl
theorem pu_hM {MC MM : ch_Mem} (hr8 : ch_Rr MC MM) (hl4 : ch_Rl MC MM) {r n k t d : Nat} (hr : r < 8) (h0 : 0 < n) (hn : n ≤ 127) (hk : k ≤ 50000) (ht : t < 4) (hd : d ≤ 1000) (e : MC.1 (7 + r) 1 = nI n) : D_X7_heardOf (nI r) (nI k) (nI d) (nI t) 0 MM = some (pu_hu MC r n k t d, MM) ∧ D_X7_heardOf (nI r) (nI k) (nI d) (nI t) 1 MM = some (pu_hv MC r n k t d, MM) := by
  refine ⟨?_, ?_⟩
  · exact pu_hML hr8 hl4 hr h0 hn hk ht hd e 0 (fun i => MC.1 (7 + r + 8) ((i + d) % n) * pu_u (t * i % 4) (pu_smp MC 0 (k + i)) (pu_smp MC 1 (k + i))) (fun i => by rw [if_pos rfl]) n 0 ch_fu (by omega) (by unfold ch_fu; omega)
  · exact pu_hML hr8 hl4 hr h0 hn hk ht hd e 1 (fun i => MC.1 (7 + r + 8) ((i + d) % n) * pu_v (t * i % 4) (pu_smp MC 0 (k + i)) (pu_smp MC 1 (k + i))) (fun i => by rw [if_neg pu_10]) n 0 ch_fu (by omega) (by unfold ch_fu; omega)
theorem op_heard {MC MM : ch_Mem} (hR : ch_R MC MM) (a1 a2 a3 a4 a5 : Int32) : ∃ (r : Int32) (MC1 MM1 : ch_Mem), D_X6_heard a1 a2 a3 a4 a5 MC = some (r, MC1) ∧ D_X7_heard a1 a2 a3 a4 a5 MM = some (r, MM1) ∧ ch_R MC1 MM1 := by
  unfold D_X6_heard D_X7_heard
  rcases pu_row a1 with ⟨r, -, hr, rfl, h1, h2⟩ | ⟨h1, h2⟩
  · rw [h1, h2]
    simp only [pu_bd, pu_10, ↓reduceIte]
    rcases pu_place a2 with ⟨k, -, hk, rfl, g1, g2⟩ | ⟨g1, g2⟩
    · rw [g1, g2]
      simp only [pu_bd, pu_10, ↓reduceIte]
      rcases pu_shift a3 with ⟨d, -, hd, rfl, k1, k2⟩ | ⟨k1, k2⟩
      · rw [k1, k2]
        simp only [pu_bd, pu_10, ↓reduceIte]
        have w4 : ∀ M, D_X7_in a4 0 3 M = D_X7_in a4 0 (nI 4 - 1) M := fun M => rfl
        have w2 : ∀ M, D_X7_in a5 0 1 M = D_X7_in a5 0 (nI 2 - 1) M := fun M => rfl
        rcases pu_below (P := 4) (by decide) a4 with ⟨t, t1, rfl, t2, t3, t4, t5⟩ | ⟨t3, t4, t5⟩
        · rw [if_neg t2, if_neg (show ¬ (4 : Int32) ≤ nI t from t3), w4, t5]
          simp only [pu_bd, pu_10, ↓reduceIte]
          rcases pu_below (P := 2) (by decide) a5 with ⟨w, z1, rfl, z2, z3, z4, z5⟩ | ⟨z3, z4, z5⟩
          · have z6 : ¬ (1 : Int32) < nI w := nI_nlt (a := 1) (by omega) (by decide)
            rw [if_neg z2, if_neg z6, w2, z5]
            simp only [pu_bd, pu_10, ↓reduceIte, pu_gd (show r < 8 by omega) (show 8 ≤ 100000 by decide), pu_cl (show r ≤ 100000 by omega), D_X3_isNone]
            obtain ⟨n, c1, c2, c3, c4⟩ := hR.1 r (by omega)
            rw [c2, c3]
            rcases Nat.eq_zero_or_pos n with rfl | hn
            · rw [if_neg (by decide), if_pos (by rfl), pu_bd, if_neg pu_10]
              exact ⟨_, MC, MM, rfl, rfl, hR⟩
            · rw [if_pos (pu_1le hn (by omega)), if_neg (nI_ne0 hn (by omega)), pu_bd, if_pos rfl]
              obtain ⟨M1, e1, e2, e3, e4, e5⟩ := pu_listen hR.2.1 (k := k) (n := n) (by omega) c1
              obtain ⟨M2, f1, f2, f3, f4⟩ := pu_turn (t := t) t1 c1 e4
              have fr : ∀ a, a ≠ 3 → a ≠ 31 → a ≠ 32 → a ≠ 33 → a ≠ 34 → M2.1 a = MC.1 a := fun a q1 q2 q3 q4 q5 => by rw [f2 a q4 q5, e2 a q1 q2 q3]
              obtain ⟨s1, s2⟩ := pu_hC (M := M2) (MC := MC) (r := r) (n := n) (k := k) (t := t) (d := d) (by omega) hn c1 (by omega) (by rw [fr _ (by omega) (by omega) (by omega) (by omega) (by omega)]; exact c2) (fr _ (by omega) (by omega) (by omega) (by omega) (by omega)) (fun j hj => by
                obtain ⟨q1, q2⟩ := f4 j hj
                obtain ⟨q3, q4⟩ := e5 j hj
                rw [q1, q2, q3, q4]
                exact ⟨rfl, rfl⟩)
              obtain ⟨m1, m2⟩ := pu_hM (r := r) (n := n) (k := k) (t := t) (d := d) hR.1 hR.2.1 (by omega) hn c1 (by omega) t1 (by omega) c2
              have hR2 : ch_R M2 MM := R_scr hR (fun a q1 q2 q3 q4 q5 q6 => fr a q1 q3 q4 q5 q6) (by rw [f3, e3]) (fun a _ => rfl) rfl
              rw [c2, e1, pu_bd, f1, pu_bd]
              unfold D_X6_heard_b109
              rcases (show w = 0 ∨ w = 1 by omega) with rfl | rfl
              · have m1' : D_X7_heardOf (nI r) (nI k) (nI d) (nI t) (nI 0) MM = some (pu_hu MC r n k t d, MM) := m1
                rw [if_pos (by rfl), s1, m1']
                exact ⟨_, M2, MM, rfl, rfl, hR2⟩
              · have m2' : D_X7_heardOf (nI r) (nI k) (nI d) (nI t) (nI 1) MM = some (pu_hv MC r n k t d, MM) := m2
                rw [if_neg (by decide), s2, m2']
                exact ⟨_, M2, MM, rfl, rfl, hR2⟩
          · rw [w2, z5]
            simp only [pu_bd, ↓reduceIte]
            by_cases q : a5 < 0
            · rw [if_pos q]
              exact ⟨_, MC, MM, rfl, rfl, hR⟩
            · have q2 : (1 : Int32) < a5 := by
                have := z3.resolve_left q
                rw [pu_le] at this
                rw [pu_lt]
                have t2 : (nI 2).toInt = 2 := by decide
                have t1 : (1 : Int32).toInt = 1 := by decide
                omega
              rw [if_neg q, if_pos q2]
              exact ⟨_, MC, MM, rfl, rfl, hR⟩
        · rw [w4, t5]
          simp only [pu_bd, ↓reduceIte]
          by_cases q : a4 < 0
          · rw [if_pos q]
            exact ⟨_, MC, MM, rfl, rfl, hR⟩
          · rw [if_neg q, if_pos (show (4 : Int32) ≤ a4 from t3.resolve_left q)]
            exact ⟨_, MC, MM, rfl, rfl, hR⟩
      · rw [k1, k2]
        exact ⟨_, MC, MM, rfl, rfl, hR⟩
    · rw [g1, g2]
      exact ⟨_, MC, MM, rfl, rfl, hR⟩
  · rw [h1, h2]
    exact ⟨_, MC, MM, rfl, rfl, hR⟩
