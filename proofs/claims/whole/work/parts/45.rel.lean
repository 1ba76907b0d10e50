/-! the class and the reference, side by side -/
def ch_Rr (MC MM : ch_Mem) : Prop := ∀ r, r < 8 → ∃ n, n ≤ 127 ∧ MC.1 (7 + r) 1 = nI n ∧ MM.1 1 r = nI n ∧ ∀ i, i < n → (MC.1 (7 + r + 8) i = 1 ∨ MC.1 (7 + r + 8) i = -1) ∧ MM.1 2 (127 * r + i) = MC.1 (7 + r + 8) i
def ch_Rl (MC MM : ch_Mem) : Prop := ∀ r, r < 4 → ∃ n f, n ≤ 300 ∧ f < 3 ∧ MC.1 (23 + r) 3 = nI n ∧ MM.1 10 r = nI n ∧ MC.1 (23 + r) 2 = nI f ∧ MM.1 9 r = nI f ∧ ((MC.1 (23 + r) 1 = 0 ∧ MM.1 8 r = 1) ∨ (MC.1 (23 + r) 1 = 1 ∧ MM.1 8 r = 0)) ∧ ∀ i, i < n → MM.1 11 (300 * r + i) = MC.1 (23 + r + 4) i
def ch_Rp (MC MM : ch_Mem) : Prop := ∃ t, t ≤ 20 ∧ MC.1 5 3 = nI t ∧ MM.1 0 6 = nI t ∧ MM.2 0 9 = MC.2 5 4 ∧ ∀ i, i < t → MM.1 4 (3 * i) = MC.1 35 i ∧ MM.1 4 (3 * i + 1) = MC.1 36 i ∧ MM.1 4 (3 * i + 2) = MC.1 37 i
def ch_Rn (MC MM : ch_Mem) : Prop := ∃ (n : Nat) (ln sf : Nat → Nat), n ≤ 5 ∧ MC.1 6 2 = nI n ∧ MM.1 0 10 = nI n ∧ ∀ i, i < n → MC.1 38 i = nI (ln i) ∧ MM.1 6 i = nI (ln i) ∧ 2 ≤ ln i ∧ ln i ≤ 127 ∧ MC.1 39 i = nI (sf i) ∧ MM.1 7 i = nI (sf i) ∧ sf i < ln i ∧ ∀ j, j < i → Nat.Coprime (ln j) (ln i)
def ch_Rd (MC MM : ch_Mem) : Prop := MM.1 0 3 = MC.1 0 6 ∧ MM.1 0 18 = MC.1 0 7
def ch_R (MC MM : ch_Mem) : Prop := ch_Rr MC MM ∧ ch_Rl MC MM ∧ ch_Rp MC MM ∧ ch_Rn MC MM ∧ ch_Rd MC MM
theorem ch_R0 : ch_R ch_M0 ch_N0 := by
  refine ⟨fun r hr => ⟨0, by decide, ?_, rfl, fun i hi => absurd hi (Nat.not_lt_zero i)⟩, fun r hr => ⟨0, 0, by decide, by decide, ?_, rfl, ?_, rfl, Or.inr ⟨?_, rfl⟩, fun i hi => absurd hi (Nat.not_lt_zero i)⟩, ⟨0, by decide, rfl, rfl, rfl, fun i hi => absurd hi (Nat.not_lt_zero i)⟩, ⟨0, fun _ => 0, fun _ => 0, by decide, rfl, rfl, fun i hi => absurd hi (Nat.not_lt_zero i)⟩, rfl, rfl⟩
  · rcases (show r = 0 ∨ r = 1 ∨ r = 2 ∨ r = 3 ∨ r = 4 ∨ r = 5 ∨ r = 6 ∨ r = 7 by omega) with rfl | rfl | rfl | rfl | rfl | rfl | rfl | rfl <;> rfl
  · rcases (show r = 0 ∨ r = 1 ∨ r = 2 ∨ r = 3 by omega) with rfl | rfl | rfl | rfl <;> rfl
  · rcases (show r = 0 ∨ r = 1 ∨ r = 2 ∨ r = 3 by omega) with rfl | rfl | rfl | rfl <;> rfl
  · rcases (show r = 0 ∨ r = 1 ∨ r = 2 ∨ r = 3 by omega) with rfl | rfl | rfl | rfl <;> rfl
