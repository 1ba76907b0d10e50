theorem pu_xs (a : Int32) {m : Nat} (hm : m < 2 ^ 31) : (0 : Int32) ≤ a ^^^ nI m ↔ (0 : Int32) ≤ a := by
  have h : (a ^^^ nI m).toBitVec.msb = (a.toBitVec.msb ^^ (nI m).toBitVec.msb) := by
    rw [Int32.toBitVec_xor, BitVec.msb_xor]
  rw [BitVec.msb_eq_toInt, BitVec.msb_eq_toInt, BitVec.msb_eq_toInt] at h
  have e1 : (a ^^^ nI m).toBitVec.toInt = (a ^^^ nI m).toInt := rfl
  have e2 : a.toBitVec.toInt = a.toInt := rfl
  have e3 : (nI m).toBitVec.toInt = (nI m).toInt := rfl
  have e4 : (nI m).toInt = m := nI_toInt hm
  rw [e1, e2, e3, e4] at h
  have h5 : decide ((m : Int) < 0) = false := decide_eq_false (by omega)
  rw [h5, Bool.xor_false] at h
  have h6 : (a ^^^ nI m).toInt < 0 ↔ a.toInt < 0 := decide_eq_decide.mp h
  have t0 : (0 : Int32).toInt = 0 := by decide
  rw [pu_le, pu_le, t0]
  omega
def pu_fd (x : Int32) (d : Nat) : Int32 := if (0 : Int32) ≤ x - x / nI d * nI d then x / nI d else x / nI d - 1
theorem pu_dv (x : Int32) {d : Nat} (h0 : 1 < d) (hd : d ≤ 1000) : ∃ P : Int, (x / nI d * nI d).toInt = P ∧ (x - x / nI d * nI d).toInt = x.toInt - P ∧ (0 ≤ x.toInt → P ≤ x.toInt) ∧ (x.toInt < 0 → x.toInt ≤ P) := by
  have b1 : x.toInt < 2 ^ 31 := x.toInt_lt
  have b2 : -2 ^ 31 ≤ x.toInt := x.le_toInt
  have ed : (nI d).toInt = (d : Int) := nI_toInt (by omega)
  have hD : (0 : Int) < (d : Int) := by omega
  obtain ⟨Q, hQ⟩ : ∃ Q, Q = x.toInt.tdiv (d : Int) := ⟨_, rfl⟩
  have key : (0 ≤ x.toInt → 0 ≤ Q ∧ Q ≤ x.toInt ∧ 0 ≤ Q * d ∧ Q * d ≤ x.toInt) ∧ (x.toInt < 0 → Q ≤ 0 ∧ x.toInt ≤ Q ∧ Q * d ≤ 0 ∧ x.toInt ≤ Q * d) := by
    constructor
    · intro h
      have e : Q = x.toInt / (d : Int) := by rw [hQ]; exact Int.tdiv_eq_ediv_of_nonneg h
      have c1 : 0 ≤ x.toInt / (d : Int) := Int.ediv_nonneg h (by omega)
      have c2 : x.toInt / (d : Int) ≤ x.toInt := Int.ediv_le_self _ h
      have c3 : x.toInt / (d : Int) * d ≤ x.toInt := Int.ediv_mul_le _ (by omega)
      have c4 : 0 ≤ x.toInt / (d : Int) * d := Int.mul_nonneg c1 (by omega)
      rw [e]
      exact ⟨c1, c2, c4, c3⟩
    · intro h
      have hn : 0 ≤ -x.toInt := by omega
      have e : Q = -((-x.toInt) / (d : Int)) := by
        rw [hQ, ← Int.tdiv_eq_ediv_of_nonneg hn, Int.neg_tdiv, Int.neg_neg]
      have c1 : 0 ≤ (-x.toInt) / (d : Int) := Int.ediv_nonneg hn (by omega)
      have c2 : (-x.toInt) / (d : Int) ≤ -x.toInt := Int.ediv_le_self _ hn
      have c3 : (-x.toInt) / (d : Int) * d ≤ -x.toInt := Int.ediv_mul_le _ (by omega)
      have c4 : 0 ≤ (-x.toInt) / (d : Int) * d := Int.mul_nonneg c1 (by omega)
      rw [e, Int.neg_mul]
      omega
  have eq : (x / nI d).toInt = Q := by
    rw [Int32.toInt_div, ed, ← hQ]
    exact Int.bmod_eq_of_le (by omega) (by omega)
  have em : (x / nI d * nI d).toInt = Q * d := by
    rw [Int32.toInt_mul, eq, ed]
    exact Int.bmod_eq_of_le (by omega) (by omega)
  refine ⟨Q * d, em, ?_, fun h => (key.1 h).2.2.2, fun h => (key.2 h).2.2.2⟩
  rw [Int32.toInt_sub, em]
  exact Int.bmod_eq_of_le (by omega) (by omega)
theorem pu_fdiv (x : Int32) {d : Nat} (h0 : 1 < d) (hd : d ≤ 1000) (M : ch_Mem) : D_J9_floorDiv_7cf53 x (nI d) M = some (pu_fd x d, M) := by
  obtain ⟨P, e1, e2, e3, e4⟩ := pu_dv x h0 hd
  have t0 : (0 : Int32).toInt = 0 := by decide
  unfold D_J9_floorDiv_7cf53 D_J9_floorDiv_7cf53_b21 pu_fd
  rw [pu_g0 (by omega) (by omega)]
  by_cases hx : (0 : Int32) ≤ x
  · rw [if_pos ((pu_xs x (by omega)).mpr hx)]
    rw [if_pos]
    rw [pu_le, t0] at hx ⊢
    rw [e2]
    have := e3 hx
    omega
  · rw [if_neg (fun q => hx ((pu_xs x (by omega)).mp q))]
    have hx' : x.toInt < 0 := by
      rw [pu_le, t0] at hx
      omega
    have := e4 hx'
    by_cases hp : x / nI d * nI d = x
    · rw [if_pos hp, if_pos]
      rw [pu_le, t0, e2]
      have : P = x.toInt := by rw [← e1, hp]
      omega
    · rw [if_neg hp, if_neg]
      rw [pu_le, t0, e2]
      have : ¬ P = x.toInt := fun q => hp (Int32.toInt_inj.mp (e1.trans q))
      omega
def pu_rr (x : Int32) (n : Nat) : Int32 := pu_fd (2 * x + nI n) (2 * n)
theorem pu_2n (n : Nat) : (2 : Int32) * nI n = nI (2 * n) := pk_mul 2 n
theorem pu_ratio (x : Int32) {n : Nat} (h0 : 0 < n) (hn : n ≤ 127) (M : ch_Mem) : D_X6_roundedRatio x (nI n) M = some (pu_rr x n, M) := by
  unfold D_X6_roundedRatio pu_rr
  rw [if_pos (pu_1le h0 (by omega)), pu_2n, pu_fdiv _ (by omega) (by omega), pu_bd]
theorem pu_rr0 {n : Nat} (h0 : 0 < n) (hn : n ≤ 127) : pu_rr 0 n = 0 := by
  unfold pu_rr pu_fd
  have e : (2 : Int32) * 0 + nI n = nI n := by
    rw [show (2 : Int32) * 0 = 0 by decide, Int32.zero_add]
  rw [e, pu_rem (by omega) (by omega) (by omega), if_pos (nI_pos' (by
    have : n % (2 * n) < 2 * n := Nat.mod_lt _ (by omega)
    omega)), pk_div (by omega) (by omega) (by omega), Nat.div_eq_of_lt (by omega)]
  rfl
theorem pu_129 (x3 x4 x : Int32) {n : Nat} (h0 : 0 < n) (hn : n ≤ 127) (N : ch_Mem) : D_X7_takesOff_b129 (nI n) x3 x4 x N = if pu_rr x n = 0 then some (0, N) else D_X7_takesOff_L170 ch_fu (nI n) x3 x4 (pu_rr x n) 0 N := by
  unfold D_X7_takesOff_b129 D_X7_takesOff_b157 pu_rr pu_fd
  rw [pu_2n, pu_g0 (by omega) (by omega), pu_g0 (by omega) (by omega)]
  by_cases h : (0 : Int32) ≤ 2 * x + nI n - (2 * x + nI n) / nI (2 * n) * nI (2 * n)
  · rw [if_pos h, if_pos h, Int32.sub_zero]
  · rw [if_neg h, if_neg h]
