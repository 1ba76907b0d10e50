def pu_sc (M : ch_Mem) (r n d : Nat) : Int32 := pu_sum (fun i => M.1 (7 + r + 8) ((i + d) % n) * M.1 31 i) n
/-- what the search of the loudest knows of the two worlds -/
def pu_H (n : Nat) (M N : ch_Mem) : Prop := (∀ r, r < 8 → (M.1 (7 + r) 1 = nI n ↔ N.1 1 r = nI n) ∧ (N.1 1 r = nI n → ∀ i, i < n → N.1 2 (127 * r + i) = M.1 (7 + r + 8) i)) ∧ ∀ j, j < n → M.1 31 j = N.1 5 j
/-- what has been found so far -/
def pu_S (n : Nat) (M : ch_Mem) (lo ro sh mo rm sm of : Int32) : Prop := (lo = 0 ∧ of = 0 ∧ (mo = -1 ∨ mo = 0)) ∨ (0 < mo ∧ mo = pu_ab lo ∧ of = lo ∧ ro = rm ∧ sh = sm ∧ ∃ r d, r < 8 ∧ d < n ∧ rm = nI r ∧ sm = nI d ∧ M.1 (7 + r) 1 = nI n)
theorem pu_ab0 : pu_ab 0 = 0 := by decide
theorem pu_ab00 {x : Int32} (h : pu_ab x = 0) : x = 0 := by
  unfold pu_ab at h
  by_cases hx : (0 : Int32) ≤ x
  · rw [if_pos hx] at h; exact h
  · rw [if_neg hx] at h
    rw [← Int32.neg_neg (a := x), h]
    decide
theorem pu_tkS {n r d : Nat} {M N : ch_Mem} (hH : pu_H n M N) (hr : r < 8) (h0 : 0 < n) (hn : n ≤ 127) (hd : d ≤ 1000) (e : N.1 1 r = nI n) (x2 x3 x4 x5 : Int32) (k13 : Int32 → Int32 → Int32 → Int32 → Int32 → Int32 → ch_Mem → Option (Int32 × ch_Mem)) (k23 : Int32 → Int32 → Int32 → Int32 → Int32 → Int32 → Int32 → ch_Mem → Option (Int32 × ch_Mem)) : ∀ (c i gu : Nat), i + c = n → c < gu → D_X7_takesOff_L46 k13 k23 gu (nI n) x2 x3 x4 x5 (nI r) (nI d) (pu_sum (fun i => M.1 (7 + r + 8) ((i + d) % n) * M.1 31 i) i) (nI i) N = D_X7_takesOff_b82 k13 k23 (nI n) x2 x3 x4 x5 (nI r) (nI d) (pu_sc M r n d) N := by
  intro c
  induction c with
  | zero =>
    intro i gu g1 g2
    obtain ⟨gu, rfl⟩ : ∃ q, gu = q + 1 := ⟨gu - 1, by omega⟩
    obtain rfl : i = n := by omega
    show D_X7_takesOff_b46 k13 k23 (D_X7_takesOff_L46 k13 k23 gu) _ _ _ _ _ _ _ _ _ N = _
    unfold D_X7_takesOff_b46
    rw [if_pos (nI_le (Nat.le_refl _) (by omega))]
    rfl
  | succ c ih =>
    intro i gu g1 g2
    obtain ⟨gu, rfl⟩ : ∃ q, gu = q + 1 := ⟨gu - 1, by omega⟩
    have hm : (i + d) % n < n := Nat.mod_lt _ h0
    show D_X7_takesOff_b46 k13 k23 (D_X7_takesOff_L46 k13 k23 gu) _ _ _ _ _ _ _ _ _ N = _
    unfold D_X7_takesOff_b46
    rw [if_neg (nI_ge (by omega) (by omega)), nI_add, pu_signOf e hr h0 hn (by omega), pu_bd, pu_gd (by omega) (by decide), pu_cl (by omega), (hH.1 r hr).2 e _ hm, ← hH.2 i (by omega), nI_1]
    exact ih (i + 1) gu (by omega) (by omega)
theorem pu_Sstep {n r d : Nat} {M : ch_Mem} (hr : r < 8) (hd : d < n) (e : M.1 (7 + r) 1 = nI n) {lo ro sh mo rm sm of : Int32} (h : pu_S n M lo ro sh mo rm sm of) (S : Int32) : ∃ lo1 ro1 sh1 mo1 rm1 sm1 of1 : Int32, pu_S n M lo1 ro1 sh1 mo1 rm1 sm1 of1 ∧ (∀ {β : Type} (f : Int32 → Int32 → Int32 → β), (if pu_ab S ≤ pu_ab lo then f lo ro sh else f S (nI r) (nI d)) = f lo1 ro1 sh1) ∧ ∀ {β : Type} (f : Int32 → Int32 → Int32 → Int32 → β), (if pu_ab S ≤ mo then f mo rm sm of else f (pu_ab S) (nI r) (nI d) S) = f mo1 rm1 sm1 of1 := by
  have t0 : (0 : Int32).toInt = 0 := by decide
  have tm : (-1 : Int32).toInt = -1 := by decide
  rcases h with ⟨h1, h2, h3⟩ | ⟨h1, h2, h3, h4, h5, h6⟩
  · subst h1 h2
    rw [pu_ab0]
    by_cases q : pu_ab S ≤ 0
    · by_cases q2 : pu_ab S ≤ mo
      · exact ⟨0, ro, sh, mo, rm, sm, 0, Or.inl ⟨rfl, rfl, h3⟩, fun f => by rw [if_pos q], fun f => by rw [if_pos q2]⟩
      · have hz : pu_ab S = 0 := by
          apply Int32.toInt_inj.mp
          rw [pu_le] at q q2
          rcases h3 with rfl | rfl <;> omega
        exact ⟨0, ro, sh, pu_ab S, nI r, nI d, S, Or.inl ⟨rfl, pu_ab00 hz, Or.inr hz⟩, fun f => by rw [if_pos q], fun f => by rw [if_neg q2]⟩
    · have q2 : ¬ pu_ab S ≤ mo := by
        rw [pu_le] at q ⊢
        rcases h3 with rfl | rfl <;> omega
      exact ⟨S, nI r, nI d, pu_ab S, nI r, nI d, S, Or.inr ⟨by rw [pu_lt]; rw [pu_le] at q; omega, rfl, rfl, rfl, rfl, r, d, hr, hd, rfl, rfl, e⟩, fun f => by rw [if_neg q], fun f => by rw [if_neg q2]⟩
  · rw [← h2]
    by_cases q : pu_ab S ≤ mo
    · exact ⟨lo, ro, sh, mo, rm, sm, of, Or.inr ⟨h1, h2, h3, h4, h5, h6⟩, fun f => by rw [if_pos q], fun f => by rw [if_pos q]⟩
    · exact ⟨S, nI r, nI d, pu_ab S, nI r, nI d, S, Or.inr ⟨by rw [pu_lt] at h1 ⊢; rw [pu_le] at q; omega, rfl, rfl, rfl, rfl, r, d, hr, hd, rfl, rfl, e⟩, fun f => by rw [if_neg q], fun f => by rw [if_neg q]⟩
theorem pu_tkI {n r : Nat} {M N : ch_Mem} (hH : pu_H n M N) (hr : r < 8) (h0 : 0 < n) (hn : n ≤ 127) (e : M.1 (7 + r) 1 = nI n) (kC : Int32 → Int32 → Int32 → Int32 → Int32 → ch_Mem → Option (Int32 × ch_Mem)) (kM : Int32 → Int32 → Int32 → Int32 → Int32 → Int32 → ch_Mem → Option (Int32 × ch_Mem)) : ∀ (c d fu gu : Nat) (lo ro sh mo rm sm of : Int32), d + c = n → c < fu → c < gu → pu_S n M lo ro sh mo rm sm of → ∃ lo1 ro1 sh1 mo1 rm1 sm1 of1 : Int32, pu_S n M lo1 ro1 sh1 mo1 rm1 sm1 of1 ∧ D_X6_takeOffLoudest_L37 kC fu (nI n) lo ro sh (nI r) (nI d) M = kC (nI n) lo1 ro1 sh1 (nI (r + 1)) M ∧ D_X7_takesOff_L23 kM gu (nI n) mo rm sm of (nI r) (nI d) N = kM (nI n) mo1 rm1 sm1 of1 (nI (r + 1)) N := by
  intro c
  have eN : N.1 1 r = nI n := (hH.1 r hr).1.mp e
  induction c with
  | zero =>
    intro d fu gu lo ro sh mo rm sm of g1 g2 g3 g4
    obtain ⟨fu, rfl⟩ : ∃ q, fu = q + 1 := ⟨fu - 1, by omega⟩
    obtain ⟨gu, rfl⟩ : ∃ q, gu = q + 1 := ⟨gu - 1, by omega⟩
    refine ⟨lo, ro, sh, mo, rm, sm, of, g4, ?_, ?_⟩
    · show D_X6_takeOffLoudest_b37 kC (D_X6_takeOffLoudest_L37 kC fu) _ _ _ _ _ _ M = _
      unfold D_X6_takeOffLoudest_b37 D_X6_takeOffLoudest_b92
      rw [if_pos (nI_le (by omega) (by omega)), nI_1]
    · show D_X7_takesOff_b23 kM (D_X7_takesOff_L23 kM gu) _ _ _ _ _ _ _ N = _
      unfold D_X7_takesOff_b23 D_X7_takesOff_b123
      rw [if_pos (nI_le (by omega) (by omega)), nI_1]
  | succ c ih =>
    intro d fu gu lo ro sh mo rm sm of g1 g2 g3 g4
    obtain ⟨fu, rfl⟩ : ∃ q, fu = q + 1 := ⟨fu - 1, by omega⟩
    obtain ⟨gu, rfl⟩ : ∃ q, gu = q + 1 := ⟨gu - 1, by omega⟩
    have l1 : ch_len 31 = 127 := by decide
    have sC : D_X3_sumOver (7 + r) 31 (nI d) M = some (pu_sc M r n d, M) := pu_sumOver e h0 hn (by rw [l1]; exact hn) (by rw [l1]; decide) (by omega)
    have sM := pu_tkS hH hr h0 hn (d := d) (by omega) eN mo rm sm of kM (D_X7_takesOff_L23 kM gu) n 0 ch_fu (by omega) (by unfold ch_fu; omega)
    obtain ⟨lo2, ro2, sh2, mo2, rm2, sm2, of2, w1, w2, w3⟩ := pu_Sstep hr (show d < n by omega) e g4 (pu_sc M r n d)
    obtain ⟨lo1, ro1, sh1, mo1, rm1, sm1, of1, z1, z2, z3⟩ := ih (d + 1) fu gu lo2 ro2 sh2 mo2 rm2 sm2 of2 (by omega) (by omega) (by omega) w1
    refine ⟨lo1, ro1, sh1, mo1, rm1, sm1, of1, z1, ?_, ?_⟩
    · show D_X6_takeOffLoudest_b37 kC (D_X6_takeOffLoudest_L37 kC fu) _ _ _ _ _ _ M = _
      unfold D_X6_takeOffLoudest_b37 D_X6_takeOffLoudest_b86
      rw [if_neg (nI_ge (by omega) (by omega)), pu_gd hr (by decide), pu_cl (by omega), sC, pu_bd, nI_1]
      simp only [pu_abC]
      exact (w2 (fun a b c => D_X6_takeOffLoudest_L37 kC fu (nI n) a b c (nI r) (nI (d + 1)) M)).trans z2
    · show D_X7_takesOff_b23 kM (D_X7_takesOff_L23 kM gu) _ _ _ _ _ _ _ N = _
      unfold D_X7_takesOff_b23
      rw [if_neg (nI_ge (by omega) (by omega)), pu_gd hr (by decide), pu_cl (by omega), eN, if_pos rfl]
      refine sM.trans ?_
      unfold D_X7_takesOff_b82 D_X7_takesOff_b95 D_X7_takesOff_b117
      rw [nI_1]
      have w := (w3 (fun a b c o => D_X7_takesOff_L23 kM gu (nI n) a b c o (nI r) (nI (d + 1)) N)).trans z3
      by_cases q : (0 : Int32) ≤ pu_sc M r n d
      · rw [if_pos q]
        have ea : pu_ab (pu_sc M r n d) = pu_sc M r n d := if_pos q
        rw [ea] at w
        exact w
      · rw [if_neg q]
        have ea : pu_ab (pu_sc M r n d) = -pu_sc M r n d := if_neg q
        rw [ea] at w
        exact w
theorem pu_tkO {n : Nat} {M N : ch_Mem} (hH : pu_H n M N) (h0 : 0 < n) (hn : n ≤ 127) : ∀ (c r fu gu : Nat) (lo ro sh mo rm sm of : Int32), r + c = 8 → c < fu → c < gu → pu_S n M lo ro sh mo rm sm of → ∃ lo1 ro1 sh1 mo1 rm1 sm1 of1 : Int32, pu_S n M lo1 ro1 sh1 mo1 rm1 sm1 of1 ∧ D_X6_takeOffLoudest_L10 fu (nI n) lo ro sh (nI r) M = D_X6_takeOffLoudest_b98 (nI n) lo1 ro1 sh1 M ∧ D_X7_takesOff_L13 gu (nI n) mo rm sm of (nI r) N = D_X7_takesOff_b129 (nI n) rm1 sm1 of1 N := by
  intro c
  induction c with
  | zero =>
    intro r fu gu lo ro sh mo rm sm of g1 g2 g3 g4
    obtain ⟨fu, rfl⟩ : ∃ q, fu = q + 1 := ⟨fu - 1, by omega⟩
    obtain ⟨gu, rfl⟩ : ∃ q, gu = q + 1 := ⟨gu - 1, by omega⟩
    refine ⟨lo, ro, sh, mo, rm, sm, of, g4, ?_, ?_⟩
    · show D_X6_takeOffLoudest_b10 (D_X6_takeOffLoudest_L10 fu) _ _ _ _ _ M = _
      unfold D_X6_takeOffLoudest_b10
      rw [if_pos (show (8 : Int32) ≤ nI r from nI_le (a := 8) (by omega) (by omega))]
    · show D_X7_takesOff_b13 (D_X7_takesOff_L13 gu) _ _ _ _ _ _ N = _
      unfold D_X7_takesOff_b13
      rw [if_pos (show (8 : Int32) ≤ nI r from nI_le (a := 8) (by omega) (by omega))]
  | succ c ih =>
    intro r fu gu lo ro sh mo rm sm of g1 g2 g3 g4
    obtain ⟨fu, rfl⟩ : ∃ q, fu = q + 1 := ⟨fu - 1, by omega⟩
    obtain ⟨gu, rfl⟩ : ∃ q, gu = q + 1 := ⟨gu - 1, by omega⟩
    have hlt : ¬ (8 : Int32) ≤ nI r := nI_ge (b := 8) (by omega) (by omega)
    have hr : r < 8 := by omega
    by_cases e : M.1 (7 + r) 1 = nI n
    · obtain ⟨lo2, ro2, sh2, mo2, rm2, sm2, of2, w1, w2, w3⟩ := pu_tkI hH hr h0 hn e (D_X6_takeOffLoudest_L10 fu) (D_X7_takesOff_L13 gu) n 0 ch_fu ch_fu lo ro sh mo rm sm of (by omega) (by unfold ch_fu; omega) (by unfold ch_fu; omega) g4
      obtain ⟨lo1, ro1, sh1, mo1, rm1, sm1, of1, z1, z2, z3⟩ := ih (r + 1) fu gu lo2 ro2 sh2 mo2 rm2 sm2 of2 (by omega) (by omega) (by omega) w1
      refine ⟨lo1, ro1, sh1, mo1, rm1, sm1, of1, z1, ?_, ?_⟩
      · show D_X6_takeOffLoudest_b10 (D_X6_takeOffLoudest_L10 fu) _ _ _ _ _ M = _
        unfold D_X6_takeOffLoudest_b10
        rw [if_neg hlt, pu_gd hr (by decide), pu_cl (by omega), if_pos e]
        exact w2.trans z2
      · show D_X7_takesOff_b13 (D_X7_takesOff_L13 gu) _ _ _ _ _ _ N = _
        unfold D_X7_takesOff_b13
        rw [if_neg hlt]
        exact w3.trans z3
    · have eN : ¬ N.1 1 r = nI n := fun q => e ((hH.1 r hr).1.mpr q)
      obtain ⟨lo1, ro1, sh1, mo1, rm1, sm1, of1, z1, z2, z3⟩ := ih (r + 1) fu gu lo ro sh mo rm sm of (by omega) (by omega) (by omega) g4
      refine ⟨lo1, ro1, sh1, mo1, rm1, sm1, of1, z1, ?_, ?_⟩
      · show D_X6_takeOffLoudest_b10 (D_X6_takeOffLoudest_L10 fu) _ _ _ _ _ M = _
        unfold D_X6_takeOffLoudest_b10 D_X6_takeOffLoudest_b92
        rw [if_neg hlt, pu_gd hr (by decide), pu_cl (by omega), if_neg e, nI_1]
        exact z2
      · show D_X7_takesOff_b13 (D_X7_takesOff_L13 gu) _ _ _ _ _ _ N = _
        unfold D_X7_takesOff_b13
        rw [if_neg hlt]
        show D_X7_takesOff_b23 (D_X7_takesOff_L13 gu) (D_X7_takesOff_L23 (D_X7_takesOff_L13 gu) (ch_fu - 1)) _ _ _ _ _ _ _ N = _
        unfold D_X7_takesOff_b23 D_X7_takesOff_b123
        rw [if_neg (nI_nle h0 (by omega)), pu_gd hr (by decide), pu_cl (by omega), if_neg eN, nI_1]
        exact z3
