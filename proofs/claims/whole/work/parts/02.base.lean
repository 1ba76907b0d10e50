/-! memory of a world: ints and longs by cell and slot -/
abbrev ch_Mem : Type := (Nat → Nat → Int32) × (Nat → Nat → Int64)
def ch_wI (M : ch_Mem) (k j : Nat) (v : Int32) : ch_Mem := (fun a => if a = k then upd (M.1 k) j v else M.1 a, M.2)
def ch_wL (M : ch_Mem) (k j : Nat) (v : Int64) : ch_Mem := (M.1, fun a => if a = k then vp_updL (M.2 k) j v else M.2 a)
def ch_wA (M : ch_Mem) (k : Nat) (f : Nat → Int32) : ch_Mem := (fun a => if a = k then f else M.1 a, M.2)
def ch_nm {α β : Type} (e : α) (f : α → Option β) : Option β := f e
def ch_bd {α β : Type} (x : Option (α × ch_Mem)) (f : α → ch_Mem → Option β) : Option β := x.bind (fun o => f o.1 o.2)
def ch_gd {β : Type} (i : Int32) (n : Nat) (x : Option β) : Option β := if i < 0 ∨ n ≤ i.toNatClampNeg then none else x
def ch_g0 {β : Type} (y : Int32) (x : Option β) : Option β := if y = 0 then none else x
def ch_g0L {β : Type} (y : Int64) (x : Option β) : Option β := if y = 0 then none else x
def ch_cp {β : Type} (sp dp n : Int32) (n0 n1 : Nat) (x : Option β) : Option β := if sp < 0 ∨ dp < 0 ∨ n < 0 ∨ n0 < sp.toNatClampNeg + n.toNatClampNeg ∨ n1 < dp.toNatClampNeg + n.toNatClampNeg then none else x
def ch_fix {τ : Type} (b : τ) (Φ : τ → τ) : Nat → τ
  | 0 => b
  | n + 1 => Φ (ch_fix b Φ n)
def ch_fu : Nat := 100000
theorem ch_nm_k {α β : Type} {e : α} {f : α → Option β} {o : β} (h : ch_nm e f = some o) : f e = some o := h
theorem ch_bd_k {α β : Type} {x : Option (α × ch_Mem)} {f : α → ch_Mem → Option β} {o : β} {G : Prop} (h : ch_bd x f = some o) (k : ∀ (r : α) (M : ch_Mem), x = some (r, M) → f r M = some o → G) : G := by
  cases x with
  | none => cases h
  | some a => exact k a.1 a.2 rfl h
theorem ch_gd_k {β : Type} {i : Int32} {n : Nat} {x : Option β} {o : β} {G : Prop} (h : ch_gd i n x = some o) (k : vp_in i n → x = some o → G) : G := by
  unfold ch_gd at h
  by_cases c : i < 0 ∨ n ≤ i.toNatClampNeg
  · rw [if_pos c] at h; cases h
  · rw [if_neg c] at h; exact k c h
theorem ch_g0_k {β : Type} {y : Int32} {x : Option β} {o : β} {G : Prop} (h : ch_g0 y x = some o) (k : ¬ y = 0 → x = some o → G) : G := by
  unfold ch_g0 at h
  by_cases c : y = 0
  · rw [if_pos c] at h; cases h
  · rw [if_neg c] at h; exact k c h
theorem ch_g0L_k {β : Type} {y : Int64} {x : Option β} {o : β} {G : Prop} (h : ch_g0L y x = some o) (k : ¬ y = 0 → x = some o → G) : G := by
  unfold ch_g0L at h
  by_cases c : y = 0
  · rw [if_pos c] at h; cases h
  · rw [if_neg c] at h; exact k c h
theorem ch_cp_k {β : Type} {sp dp n : Int32} {n0 n1 : Nat} {x : Option β} {o : β} {G : Prop} (h : ch_cp sp dp n n0 n1 x = some o) (k : ¬ sp < 0 → ¬ dp < 0 → ¬ n < 0 → sp.toNatClampNeg + n.toNatClampNeg ≤ n0 → dp.toNatClampNeg + n.toNatClampNeg ≤ n1 → x = some o → G) : G := by
  unfold ch_cp at h
  by_cases c : sp < 0 ∨ dp < 0 ∨ n < 0 ∨ n0 < sp.toNatClampNeg + n.toNatClampNeg ∨ n1 < dp.toNatClampNeg + n.toNatClampNeg
  · rw [if_pos c] at h; cases h
  · rw [if_neg c] at h
    simp only [not_or, Nat.not_lt] at c
    exact k c.1 c.2.1 c.2.2.1 c.2.2.2.1 c.2.2.2.2 h
theorem ch_if_k {β : Type} {q : Prop} [Decidable q] {a b : Option β} {o : β} {G : Prop} (h : (if q then a else b) = some o) (kt : q → a = some o → G) (kf : ¬ q → b = some o → G) : G := by
  by_cases c : q
  · rw [if_pos c] at h; exact kt c h
  · rw [if_neg c] at h; exact kf c h
theorem ch_in_lt {i : Int32} {n : Nat} (h : vp_in i n) : i.toNatClampNeg < n := Nat.not_le.mp fun q => h (Or.inr q)
/-! worlds of N cells: cell k at the address sh k -/
def ch_W (N : Nat) (sh : Nat → Nat) (cf : Nat → va_E) : va_W := (List.range N).map (fun k => (sh k, cf k))
theorem ch_W_get {N : Nat} {sh : Nat → Nat} {cf : Nat → va_E} {k : Nat} (h : k < N) : (ch_W N sh cf)[k]? = some (sh k, cf k) := by simp [ch_W, h]
theorem ch_W_of {N : Nat} {sh : Nat → Nat} {cf : Nat → va_E} {k : Nat} {q : Nat × va_E} (h : (ch_W N sh cf)[k]? = some q) : k < N ∧ q = (sh k, cf k) := by
  have hl := (List.getElem?_eq_some_iff.mp h).1
  have hk : k < N := by simpa [ch_W] using hl
  rw [ch_W_get hk] at h
  exact ⟨hk, (Option.some.inj h).symm⟩
theorem ch_W_set {N : Nat} {sh : Nat → Nat} {cf : Nat → va_E} {k : Nat} {e : va_E} : (ch_W N sh cf).set k (sh k, e) = ch_W N sh (va_up cf k e) := by
  refine List.ext_getElem? (fun i => ?_)
  by_cases hi : i < N
  · rw [ch_W_get hi, List.getElem?_set]
    by_cases hk : k = i
    · subst hk
      simp [ch_W, hi, va_up]
    · rw [if_neg hk, ch_W_get hi]
      simp [va_up, Ne.symm hk]
  · rw [List.getElem?_eq_none (by simp [ch_W]; omega), List.getElem?_eq_none (by simp [ch_W]; omega)]
def ch_cf (F : Nat → (Nat → Int32) → (Nat → Int64) → va_E) (M : ch_Mem) : Nat → va_E := fun k => F k (M.1 k) (M.2 k)
theorem ch_cf_wI {F : Nat → (Nat → Int32) → (Nat → Int64) → va_E} {M : ch_Mem} {k j : Nat} {v : Int32} {e : va_E} (h : F k (upd (M.1 k) j v) (M.2 k) = e) : va_up (ch_cf F M) k e = ch_cf F (ch_wI M k j v) := by
  funext q
  by_cases hq : q = k
  · subst hq; simp [va_up, ch_cf, ch_wI, h]
  · simp [va_up, ch_cf, ch_wI, hq]
theorem ch_cf_wL {F : Nat → (Nat → Int32) → (Nat → Int64) → va_E} {M : ch_Mem} {k j : Nat} {v : Int64} {e : va_E} (h : F k (M.1 k) (vp_updL (M.2 k) j v) = e) : va_up (ch_cf F M) k e = ch_cf F (ch_wL M k j v) := by
  funext q
  by_cases hq : q = k
  · subst hq; simp [va_up, ch_cf, ch_wL, h]
  · simp [va_up, ch_cf, ch_wL, hq]
theorem ch_cf_wA {F : Nat → (Nat → Int32) → (Nat → Int64) → va_E} {M : ch_Mem} {k : Nat} {f : Nat → Int32} {e : va_E} (h : F k f (M.2 k) = e) : va_up (ch_cf F M) k e = ch_cf F (ch_wA M k f) := by
  funext q
  by_cases hq : q = k
  · subst hq; simp [va_up, ch_cf, ch_wA, h]
  · simp [va_up, ch_cf, ch_wA, hq]
theorem ch_D {N : Nat} {sh : Nat → Nat} {c1 c2 : Nat → va_E} {A : Nat → Prop} (h : va_D A (ch_W N sh c1)) : va_D A (ch_W N sh c2) := by
  refine ⟨fun i j x y hi hj hxy => ?_, fun k q hk => ?_⟩
  · obtain ⟨a1, rfl⟩ := ch_W_of hi
    obtain ⟨a2, rfl⟩ := ch_W_of hj
    exact h.1 i j _ _ (ch_W_get a1) (ch_W_get a2) hxy
  · obtain ⟨a1, rfl⟩ := ch_W_of hk
    exact h.2 k (sh k, c1 k) (ch_W_get a1)
abbrev ch_Id : Type := ClassId × ClassId × ClassId × ClassId
def ch_tys (I : ch_Id) : List (ClassId × FieldType) := [(I.1, .int), (I.2.1, .boolean), (I.2.2.1, .object RX3), (I.2.2.2, .object RX2)]
def ch_len (k : Nat) : Nat := if k < 27 then 127 else if k < 31 then 300 else if k < 35 then 127 else if k < 38 then 20 else 5
/-- the class's cells: 0 CodeHunt, 1 rows, 2 reels, 3 window, 4 search, 5 peeling, 6 lengths, 7.. Rows, 15.. their signs, 23.. Reels, 27.. their items, 31 x, 32 y, 33 turnedX, 34 turnedY, 35 rowOf, 36 shiftOf, 37 strengthOf, 38 lengthOf, 39 shiftOf -/
def ch_FC (I : ch_Id) (sh : Nat → Nat) (k : Nat) (f : Nat → Int32) (g : Nat → Int64) : va_E :=
  if k = 0 then .inr (6, [.ref (sh 1), .ref (sh 2), .ref (sh 3), .ref (sh 4), .ref (sh 5), .ref (sh 6), .int (f 6), .int (f 7)])
  else if k = 1 then .inl (I.2.2.1, 8, .inr (.inr (.inr (.inr (fun j => some (sh (7 + j)))))))
  else if k = 2 then .inl (I.2.2.2, 4, .inr (.inr (.inr (.inr (fun j => some (sh (23 + j)))))))
  else if k = 3 then .inr (5, [.ref (sh 31), .ref (sh 32), .ref (sh 33), .ref (sh 34), .int (f 4)])
  else if k = 4 then .inr (4, [.long (g 0), .long (g 1), .int (f 2), .int (f 3)])
  else if k = 5 then .inr (1, [.ref (sh 35), .ref (sh 36), .ref (sh 37), .int (f 3), .long (g 4)])
  else if k = 6 then .inr (0, [.ref (sh 38), .ref (sh 39), .int (f 2)])
  else if k < 15 then .inr (3, [.ref (sh (k + 8)), .int (f 1)])
  else if k < 23 then .inl (I.1, 127, .inl f)
  else if k < 27 then .inr (2, [.ref (sh (k + 4)), .int (f 1), .int (f 2), .int (f 3)])
  else .inl (I.1, ch_len k, .inl f)
theorem ch_FC_row {I : ch_Id} {sh : Nat → Nat} {k : Nat} {f : Nat → Int32} {g : Nat → Int64} (h : 7 ≤ k ∧ k < 15) : ch_FC I sh k f g = .inr (3, [.ref (sh (k + 8)), .int (f 1)]) := by
  unfold ch_FC
  rw [if_neg (by omega), if_neg (by omega), if_neg (by omega), if_neg (by omega), if_neg (by omega), if_neg (by omega), if_neg (by omega), if_pos (by omega)]
theorem ch_FC_reel {I : ch_Id} {sh : Nat → Nat} {k : Nat} {f : Nat → Int32} {g : Nat → Int64} (h : 23 ≤ k ∧ k < 27) : ch_FC I sh k f g = .inr (2, [.ref (sh (k + 4)), .int (f 1), .int (f 2), .int (f 3)]) := by
  unfold ch_FC
  rw [if_neg (by omega), if_neg (by omega), if_neg (by omega), if_neg (by omega), if_neg (by omega), if_neg (by omega), if_neg (by omega), if_neg (by omega), if_neg (by omega), if_pos (by omega)]
def ch_arr (k : Nat) : Prop := (15 ≤ k ∧ k < 23) ∨ (27 ≤ k ∧ k < 40)
theorem ch_FC_arr {I : ch_Id} {sh : Nat → Nat} {k : Nat} (h : ch_arr k) (f : Nat → Int32) {g : Nat → Int64} : ch_FC I sh k f g = .inl (I.1, ch_len k, .inl f) := by
  unfold ch_FC
  unfold ch_arr at h
  rcases h with h | h
  · rw [if_neg (by omega), if_neg (by omega), if_neg (by omega), if_neg (by omega), if_neg (by omega), if_neg (by omega), if_neg (by omega), if_neg (by omega), if_pos (by omega)]
    unfold ch_len
    rw [if_pos (by omega)]
  · rw [if_neg (by omega), if_neg (by omega), if_neg (by omega), if_neg (by omega), if_neg (by omega), if_neg (by omega), if_neg (by omega), if_neg (by omega), if_neg (by omega), if_neg (by omega)]
theorem ch_FC_sgn {I : ch_Id} {sh : Nat → Nat} {k : Nat} (h : 15 ≤ k ∧ k < 23) (f : Nat → Int32) {g : Nat → Int64} : ch_FC I sh k f g = .inl (I.1, 127, .inl f) := by
  rw [ch_FC_arr (Or.inl h)]
  unfold ch_len
  rw [if_pos (by omega)]
theorem ch_FC_itm {I : ch_Id} {sh : Nat → Nat} {k : Nat} (h : 27 ≤ k ∧ k < 31) (f : Nat → Int32) {g : Nat → Int64} : ch_FC I sh k f g = .inl (I.1, 300, .inl f) := by
  rw [ch_FC_arr (Or.inr ⟨h.1, by omega⟩)]
  unfold ch_len
  rw [if_neg (by omega), if_pos (by omega)]
/-- the reference's cells: 0 CodeHuntModel, 1 sizesOf, 2 signs, 3 made, 4 peeled, 5 left, 6 lengthOf, 7 shiftOf, 8 isThere, 9 forms, 10 sizes, 11 items, 12 moved -/
def ch_lenM (k : Nat) : Nat := if k = 1 then 8 else if k = 2 then 1016 else if k = 3 then 127 else if k = 4 then 60 else if k = 5 then 127 else if k < 8 then 5 else if k < 11 then 4 else if k = 11 then 1200 else 300
def ch_FM (I : ch_Id) (sh : Nat → Nat) (k : Nat) (f : Nat → Int32) (g : Nat → Int64) : va_E :=
  if k = 0 then .inr (7, [.ref (sh 1), .ref (sh 2), .ref (sh 3), .int (f 3), .long (g 4), .long (g 5), .int (f 6), .ref (sh 4), .ref (sh 5), .long (g 9), .int (f 10), .ref (sh 6), .ref (sh 7), .ref (sh 8), .ref (sh 9), .ref (sh 10), .ref (sh 11), .ref (sh 12), .int (f 18)])
  else if k = 8 then .inl (I.2.1, 4, .inl f)
  else .inl (I.1, ch_lenM k, .inl f)
/-! what is carried beside a world: the nest mates' links, the table PRIMES -/
def ch_nst : List Cond := [.fieldLinkNest RX6 87 "CodeHunt$Window" "x" "[I" RX6, .fieldLinkNest RX6 285 "CodeHunt$Window" "y" "[I" RX6, .fieldLinkNest RX6 150 "CodeHunt$Window" "turnedX" "[I" RX6, .fieldLinkNest RX6 153 "CodeHunt$Window" "turnedY" "[I" RX6, .fieldLinkNest RX6 281 "CodeHunt$Window" "size" "I" RX6, .fieldLinkNest RX6 165 "CodeHunt$Search" "greatest" "J" RX6, .fieldLinkNest RX6 171 "CodeHunt$Search" "next" "J" RX6, .fieldLinkNest RX6 159 "CodeHunt$Search" "tone" "I" RX6, .fieldLinkNest RX6 162 "CodeHunt$Search" "shift" "I" RX6, .fieldLinkNest RX6 195 "CodeHunt$Peeling" "rowOf" "[I" RX6, .fieldLinkNest RX6 198 "CodeHunt$Peeling" "shiftOf" "[I" RX6, .fieldLinkNest RX6 201 "CodeHunt$Peeling" "strengthOf" "[I" RX6, .fieldLinkNest RX6 181 "CodeHunt$Peeling" "times" "I" RX6, .fieldLinkNest RX6 191 "CodeHunt$Peeling" "noise" "J" RX6, .fieldLinkNest RX6 211 "CodeHunt$Lengths" "size" "I" RX6, .fieldLinkNest RX6 120 "CodeHunt$Row" "signs" "[I" RX6, .fieldLinkNest RX6 70 "CodeHunt$Row" "size" "I" RX6, .fieldLinkNest RX6 113 "CodeHunt$Reel" "items" "[I" RX6, .fieldLinkNest RX6 105 "CodeHunt$Reel" "lost" "Z" RX6, .fieldLinkNest RX6 241 "CodeHunt$Reel" "form" "I" RX6, .fieldLinkNest RX6 112 "CodeHunt$Reel" "size" "I" RX6, .methodLinkNest RX6 23 yX5_init RX6, .methodLinkNest RX6 30 yX4_init RX6, .methodLinkNest RX6 37 yX1_init RX6, .methodLinkNest RX6 44 yX0_init RX6, .methodLinkNest RX6 56 yX3_init RX6, .methodLinkNest RX6 57 yX2_init RX6, .methodLinkNest RX3 25 yX6_stepped RX6, .methodLinkNest RX3 36 yX6_mixed RX6]
theorem ch_nst_on : ∀ w ∈ ch_nst, w.onTables = true := by decide +kernel
theorem ch_nst_warm : ∀ w ∈ ch_nst, ∀ (s U : State), s.WarmedH U.vm → va_Nw w s → va_Nw w U := List.forall_mem_cons.mpr ⟨fun s U hW h => va_Nw.warmF hW h, List.forall_mem_cons.mpr ⟨fun s U hW h => va_Nw.warmF hW h, List.forall_mem_cons.mpr ⟨fun s U hW h => va_Nw.warmF hW h, List.forall_mem_cons.mpr ⟨fun s U hW h => va_Nw.warmF hW h, List.forall_mem_cons.mpr ⟨fun s U hW h => va_Nw.warmF hW h, List.forall_mem_cons.mpr ⟨fun s U hW h => va_Nw.warmF hW h, List.forall_mem_cons.mpr ⟨fun s U hW h => va_Nw.warmF hW h, List.forall_mem_cons.mpr ⟨fun s U hW h => va_Nw.warmF hW h, List.forall_mem_cons.mpr ⟨fun s U hW h => va_Nw.warmF hW h, List.forall_mem_cons.mpr ⟨fun s U hW h => va_Nw.warmF hW h, List.forall_mem_cons.mpr ⟨fun s U hW h => va_Nw.warmF hW h, List.forall_mem_cons.mpr ⟨fun s U hW h => va_Nw.warmF hW h, List.forall_mem_cons.mpr ⟨fun s U hW h => va_Nw.warmF hW h, List.forall_mem_cons.mpr ⟨fun s U hW h => va_Nw.warmF hW h, List.forall_mem_cons.mpr ⟨fun s U hW h => va_Nw.warmF hW h, List.forall_mem_cons.mpr ⟨fun s U hW h => va_Nw.warmF hW h, List.forall_mem_cons.mpr ⟨fun s U hW h => va_Nw.warmF hW h, List.forall_mem_cons.mpr ⟨fun s U hW h => va_Nw.warmF hW h, List.forall_mem_cons.mpr ⟨fun s U hW h => va_Nw.warmF hW h, List.forall_mem_cons.mpr ⟨fun s U hW h => va_Nw.warmF hW h, List.forall_mem_cons.mpr ⟨fun s U hW h => va_Nw.warmF hW h, List.forall_mem_cons.mpr ⟨fun s U hW h => va_Nw.warmM hW h, List.forall_mem_cons.mpr ⟨fun s U hW h => va_Nw.warmM hW h, List.forall_mem_cons.mpr ⟨fun s U hW h => va_Nw.warmM hW h, List.forall_mem_cons.mpr ⟨fun s U hW h => va_Nw.warmM hW h, List.forall_mem_cons.mpr ⟨fun s U hW h => va_Nw.warmM hW h, List.forall_mem_cons.mpr ⟨fun s U hW h => va_Nw.warmM hW h, List.forall_mem_cons.mpr ⟨fun s U hW h => va_Nw.warmM hW h, List.forall_mem_cons.mpr ⟨fun s U hW h => va_Nw.warmM hW h, fun _ h => absurd h List.not_mem_nil⟩⟩⟩⟩⟩⟩⟩⟩⟩⟩⟩⟩⟩⟩⟩⟩⟩⟩⟩⟩⟩⟩⟩⟩⟩⟩⟩⟩⟩
def ch_pr (j : Nat) : Int32 := ([2, 3, 5, 7, 11, 13, 17, 19, 23, 29, 31] : List Int32).getD j 0
def ch_ZT (A : Nat → Prop) (U : State) (H : Heap) : Prop := ∃ t : Nat, va_Z "CodeHunt" "PRIMES" "[I" (.ref t) A U H ∧ va_T .int t 11 (fun j => .int (ch_pr j)) A U H
def ch_A (N : Nat) (sh : Nat → Nat) (sz : Nat) : Nat → Prop := fun q => (∃ k, k < N ∧ q = sh k) ∨ sz ≤ q
abbrev ch_FT : Type := Nat → (Nat → Int32) → (Nat → Int64) → va_E
def ch_Wd (D : va_G) (I : ch_Id) (N : Nat) (F : ch_FT) (sh : Nat → Nat) (s : State) (A : Nat → Prop) (M : ch_Mem) (H : Heap) (locs : List Loc) : Prop :=
  va_K D vwCl (ch_tys I) s ∧ va_P D vwCl (ch_W N sh (ch_cf F M)) H ∧ va_D A (ch_W N sh (ch_cf F M)) ∧ va_S A s.heap H locs ∧ (∀ q, s.heap.size ≤ q → A q) ∧ (∀ w ∈ ch_nst, va_Nw w s) ∧ ch_ZT A s s.heap
def ch_Pre (D : va_G) (I : ch_Id) (N : Nat) (F : ch_FT) (sh : Nat → Nat) (sz : Nat) (M : ch_Mem) (U : State) : Prop :=
  U.heap.size = sz ∧ va_P D vwCl (ch_W N sh (ch_cf F M)) U.heap ∧ va_K D vwCl (ch_tys I) U ∧ (∀ i j, i < N → j < N → sh i = sh j → i = j) ∧ (∀ w ∈ ch_nst, va_Nw w U) ∧ ch_ZT (ch_A N sh sz) U U.heap
def ch_Pos (D : va_G) (N : Nat) (F : ch_FT) (sh : Nat → Nat) (M : ch_Mem) (t : State) : Prop := va_P D vwCl (ch_W N sh (ch_cf F M)) t.heap
theorem ch_start {D : va_G} {I : ch_Id} {N : Nat} {F : ch_FT} {sh : Nat → Nat} {sz : Nat} {M : ch_Mem} {s : State} (h : ch_Pre D I N F sh sz M s) : ch_Wd D I N F sh s (ch_A N sh s.heap.size) M s.heap [] := by
  obtain ⟨rfl, hP, hK, hi, hn, hz⟩ := h
  refine ⟨hK, hP, ⟨fun i j x y h1 h2 hxy => ?_, fun k q hk => ?_⟩, va_S.rf, fun q h => Or.inr h, hn, hz⟩
  · obtain ⟨a1, rfl⟩ := ch_W_of h1
    obtain ⟨a2, rfl⟩ := ch_W_of h2
    exact hi i j a1 a2 hxy
  · obtain ⟨a1, rfl⟩ := ch_W_of hk
    exact Or.inl ⟨k, a1, rfl⟩
theorem ch_blind {av : List Value} {D : va_G} {I : ch_Id} {N : Nat} {F : ch_FT} {sh : Nat → Nat} {sz : Nat} {M : ch_Mem} : FrameBlind (va_Pc av (ch_Pre D I N F sh sz M)) := by
  intro a U g mk h
  obtain ⟨h0, h1, h2, h3, h4, h5, t, h6, h7⟩ := h
  exact ⟨h0, h1, h2, va_K.moved (u := U) (U := U.calling g mk a) (Vm.Alike.refl U.vm) h3, h4, fun w hw => va_Nw.same (u := U) (U := U.calling g mk a) (ch_nst_on w hw) rfl (h5 w hw), t, va_Z.moved (u := U) (U := U.calling g mk a) (Vm.Alike.refl U.vm) h6, va_T.moved (u := U) (U := U.calling g mk a) (Vm.Alike.refl U.vm) h7⟩
theorem ch_pre {D : va_G} {I : ch_Id} {N : Nat} {F : ch_FT} {sh : Nat → Nat} {A : Nat → Prop} {M : ch_Mem} {s : State} {H : Heap} {locs : List Loc} (h : ch_Wd D I N F sh s A M H locs) (U : State) (hU : U.heap = H) (hW : s.WarmedH U.vm) : ch_Pre D I N F sh H.size M U := by
  obtain ⟨hK, hP, hD, hS, hA, hn, t, hz, ht⟩ := h
  have hAA : ∀ q, ch_A N sh H.size q → A q := by
    intro q hq
    rcases hq with ⟨k, hk, rfl⟩ | hq
    · exact hD.2 k _ (ch_W_get hk)
    · exact hA q (Nat.le_trans hS.1 hq)
  refine ⟨by rw [hU], by rw [hU]; exact hP, va_K.moved hW.alike hK, fun i j hi hj e => hD.1 i j _ _ (ch_W_get hi) (ch_W_get hj) e, fun w hw => ch_nst_warm w hw s U hW (hn w hw), t, ?_, ?_⟩
  · rw [hU]; exact va_Z.moved hW.alike ((hz.kept hS.2.1).narrow hAA)
  · rw [hU]; exact va_T.moved hW.alike ((ht.kept hS.2.1).narrow hAA)
theorem ch_next {D : va_G} {I : ch_Id} {N : Nat} {F : ch_FT} {sh : Nat → Nat} {A : Nat → Prop} {M M1 : ch_Mem} {s : State} {H H1 : Heap} {locs locs1 : List Loc} (h : ch_Wd D I N F sh s A M H locs) (hP : va_P D vwCl (ch_W N sh (ch_cf F M1)) H1) (hS : va_S A s.heap H1 locs1) : ch_Wd D I N F sh s A M1 H1 locs1 :=
  ⟨h.1, hP, ch_D h.2.2.1, hS, h.2.2.2.2.1, h.2.2.2.2.2⟩
theorem ch_nw {D : va_G} {I : ch_Id} {N : Nat} {F : ch_FT} {sh : Nat → Nat} {A : Nat → Prop} {M : ch_Mem} {s : State} {H : Heap} {locs : List Loc} (h : ch_Wd D I N F sh s A M H locs) (i : Nat) {w : Cond} (hi : ch_nst[i]? = some w) {args : Array Value} : w.before args s = true :=
  va_Nw.use (ch_nst_on w (List.mem_of_getElem? hi)) (h.2.2.2.2.2.1 w (List.mem_of_getElem? hi))
theorem ch_nwN {D : va_G} {I : ch_Id} {N : Nat} {F : ch_FT} {sh : Nat → Nat} {A : Nat → Prop} {M : ch_Mem} {s : State} {H : Heap} {locs : List Loc} (h : ch_Wd D I N F sh s A M H locs) (i : Nat) {w : Cond} (hi : ch_nst[i]? = some w) : va_Nw w s := h.2.2.2.2.2.1 w (List.mem_of_getElem? hi)
section CHW
variable {p : Program} {l : Launch} {e : Env} {R : Room} {s : State} {m : MethodId} {args : Array Value} {below : List Frame} {meth : Method} {c : Code} {H : Heap} {locs : List Loc} {Q : State → Prop} {cc : ByteArray} {nL : Nat} {Ts : List Cond} {own : String} {pc : Nat} {ls : Array Slot} {rest : List Value} {D : va_G} {I : ch_Id} {N : Nat} {F : ch_FT} {sh : Nat → Nat} {A : Nat → Prop} {M M1 : ch_Mem}
theorem ch_get (S : CallFix p m c cc nL s args Ts own) (hw : ch_Wd D I N F sh s A M H locs) (k : Nat) (hk : k < N) {ci n index : Nat} {fs : List Value} {C : String} {T : u_T} {v : Value} (he : F k (M.1 k) (M.2 k) = .inr (ci, fs)) (hc : vwCl[ci]? = some (C, T, n)) (hin : ∀ w ∈ u_ws C T n, w ∈ Ts) (j : Nat) (hj : j < n) (hlink : (Cond.fieldLink own index (T j).1 (T j).2.1 (T j).2.2.1).before args s = true) (hv : fs[j]? = some v) (hdg : decode cc pc = .ok (.getfield index, 3))
    (kk : W p l e R s m args below meth c H locs 0 0 Q (F0 m (pc + 3) ls (v :: rest))) : W p l e R s m args below meth c H locs 0 0 Q (F0 m pc ls (.ref (sh k) :: rest)) :=
  va_get S.1 S.2.1 S.2.2.2.2 hin S.2.2.2.1 hw.1 hw.2.1 k ((ch_W_get hk).trans (congrArg (fun z => some (sh k, z)) he)) hc j hj hlink (fun _ h => h) hv hdg kk
theorem ch_getN (S : CallFix p m c cc nL s args Ts own) (hw : ch_Wd D I N F sh s A M H locs) (k : Nat) (hk : k < N) {ci n index : Nat} {fs : List Value} {C host : String} {T : u_T} {v : Value} (he : F k (M.1 k) (M.2 k) = .inr (ci, fs)) (hc : vwCl[ci]? = some (C, T, n)) (hin : ∀ w ∈ u_ws C T n, w ∈ Ts) (j : Nat) (hj : j < n) (hlink : (Cond.fieldLinkNest own index (T j).1 (T j).2.1 (T j).2.2.1 host).before args s = true) (hv : fs[j]? = some v) (hdg : decode cc pc = .ok (.getfield index, 3))
    (kk : W p l e R s m args below meth c H locs 0 0 Q (F0 m (pc + 3) ls (v :: rest))) : W p l e R s m args below meth c H locs 0 0 Q (F0 m pc ls (.ref (sh k) :: rest)) :=
  va_getN S.1 S.2.1 S.2.2.2.2 hin S.2.2.2.1 hw.1 hw.2.1 k ((ch_W_get hk).trans (congrArg (fun z => some (sh k, z)) he)) hc j hj hlink (fun _ h => h) hv hdg kk
theorem ch_put (S : CallFix p m c cc nL s args Ts own) (hw : ch_Wd D I N F sh s A M H locs) (k : Nat) (hk : k < N) {ci n index : Nat} {fs : List Value} {C : String} {T : u_T} {ty : FieldType} {v : Value} (he : F k (M.1 k) (M.2 k) = .inr (ci, fs)) (hc : vwCl[ci]? = some (C, T, n)) (hin : ∀ w ∈ u_ws C T n, w ∈ Ts) (ty0 : Nat → FieldType) (hty : ∀ k, k < n → parseFieldDescriptor (T k).2.2.1 = some (ty0 k)) (hnm : ∀ a, a < n → ∀ b, b < n → a ≠ b → (T a).2.1 ≠ (T b).2.1) (j : Nat) (hj : j < n) (hlink : (Cond.fieldLink own index (T j).1 (T j).2.1 (T j).2.2.1).before args s = true) (hfin : (T j).2.2.2 = false) (hd : parseFieldDescriptor (T j).2.2.1 = some ty) (hn : narrow ty v = v) (hfit : fits ty v = true) (hl : j < fs.length) (hup : va_up (ch_cf F M) k (.inr (ci, fs.set j v)) = ch_cf F M1) (hdg : decode cc pc = .ok (.putfield index, 3))
    (kk : ∀ (H1 : Heap) (locs1 : List Loc), ch_Wd D I N F sh s A M1 H1 locs1 → W p l e R s m args below meth c H1 locs1 0 0 Q (F0 m (pc + 3) ls rest)) : W p l e R s m args below meth c H locs 0 0 Q (F0 m pc ls (v :: .ref (sh k) :: rest)) :=
  va_put S.1 S.2.1 S.2.2.2.2 hin ty0 hty hnm S.2.2.2.1 hw.1 hw.2.1 hw.2.2.1 hw.2.2.2.1 k ((ch_W_get hk).trans (congrArg (fun z => some (sh k, z)) he)) hc j hj hlink (fun _ h => h) hfin hd hn hfit hl hdg (fun H1 locs1 hP _ hS => kk H1 locs1 (ch_next hw (by rw [ch_W_set, hup] at hP; exact hP) hS))
theorem ch_putN (S : CallFix p m c cc nL s args Ts own) (hw : ch_Wd D I N F sh s A M H locs) (k : Nat) (hk : k < N) {ci n index : Nat} {fs : List Value} {C host : String} {T : u_T} {ty : FieldType} {v : Value} (he : F k (M.1 k) (M.2 k) = .inr (ci, fs)) (hc : vwCl[ci]? = some (C, T, n)) (hin : ∀ w ∈ u_ws C T n, w ∈ Ts) (ty0 : Nat → FieldType) (hty : ∀ k, k < n → parseFieldDescriptor (T k).2.2.1 = some (ty0 k)) (hnm : ∀ a, a < n → ∀ b, b < n → a ≠ b → (T a).2.1 ≠ (T b).2.1) (j : Nat) (hj : j < n) (hlink : (Cond.fieldLinkNest own index (T j).1 (T j).2.1 (T j).2.2.1 host).before args s = true) (hfin : (T j).2.2.2 = false) (hd : parseFieldDescriptor (T j).2.2.1 = some ty) (hn : narrow ty v = v) (hfit : fits ty v = true) (hl : j < fs.length) (hup : va_up (ch_cf F M) k (.inr (ci, fs.set j v)) = ch_cf F M1) (hdg : decode cc pc = .ok (.putfield index, 3))
    (kk : ∀ (H1 : Heap) (locs1 : List Loc), ch_Wd D I N F sh s A M1 H1 locs1 → W p l e R s m args below meth c H1 locs1 0 0 Q (F0 m (pc + 3) ls rest)) : W p l e R s m args below meth c H locs 0 0 Q (F0 m pc ls (v :: .ref (sh k) :: rest)) :=
  va_putN S.1 S.2.1 S.2.2.2.2 hin ty0 hty hnm S.2.2.2.1 hw.1 hw.2.1 hw.2.2.1 hw.2.2.2.1 k ((ch_W_get hk).trans (congrArg (fun z => some (sh k, z)) he)) hc j hj hlink (fun _ h => h) hfin hd hn hfit hl hdg (fun H1 locs1 hP _ hS => kk H1 locs1 (ch_next hw (by rw [ch_W_set, hup] at hP; exact hP) hS))
theorem ch_iald (S : CallFix p m c cc nL s args Ts own) (hw : ch_Wd D I N F sh s A M H locs) (k : Nat) (hk : k < N) {n : Nat} (he : F k (M.1 k) (M.2 k) = .inl (I.1, n, .inl (M.1 k))) {i : Int32} (hin : vp_in i n) (hdg : decode cc pc = .ok (.iaload, 1))
    (kk : W p l e R s m args below meth c H locs 0 0 Q (F0 m (pc + 1) ls (.int (M.1 k i.toNatClampNeg) :: rest))) : W p l e R s m args below meth c H locs 0 0 Q (F0 m pc ls (.int i :: .ref (sh k) :: rest)) :=
  va_iald S.1 S.2.1 hw.1 hw.2.1 k 0 ((ch_W_get hk).trans (congrArg (fun z => some (sh k, z)) he)) rfl hin hdg kk
theorem ch_zald (S : CallFix p m c cc nL s args Ts own) (hw : ch_Wd D I N F sh s A M H locs) (k : Nat) (hk : k < N) {n : Nat} (he : F k (M.1 k) (M.2 k) = .inl (I.2.1, n, .inl (M.1 k))) {i : Int32} (hin : vp_in i n) (hdg : decode cc pc = .ok (.baload, 1))
    (kk : W p l e R s m args below meth c H locs 0 0 Q (F0 m (pc + 1) ls (.int (M.1 k i.toNatClampNeg) :: rest))) : W p l e R s m args below meth c H locs 0 0 Q (F0 m pc ls (.int i :: .ref (sh k) :: rest)) :=
  va_zald S.1 S.2.1 hw.1 hw.2.1 k 1 ((ch_W_get hk).trans (congrArg (fun z => some (sh k, z)) he)) rfl hin hdg kk
theorem ch_iast (S : CallFix p m c cc nL s args Ts own) (hw : ch_Wd D I N F sh s A M H locs) (k : Nat) (hk : k < N) {n : Nat} (he : ∀ f, F k f (M.2 k) = .inl (I.1, n, .inl f)) {i x : Int32} (hin : vp_in i n) (hdg : decode cc pc = .ok (.iastore, 1))
    (kk : ∀ (H1 : Heap) (locs1 : List Loc), ch_Wd D I N F sh s A (ch_wI M k i.toNatClampNeg x) H1 locs1 → W p l e R s m args below meth c H1 locs1 0 0 Q (F0 m (pc + 1) ls rest)) : W p l e R s m args below meth c H locs 0 0 Q (F0 m pc ls (.int x :: .int i :: .ref (sh k) :: rest)) :=
  va_iast S.1 S.2.1 hw.1 hw.2.1 hw.2.2.1 hw.2.2.2.1 k 0 ((ch_W_get hk).trans (congrArg (fun z => some (sh k, z)) (he (M.1 k)))) rfl hin hdg (fun H1 locs1 hP _ hS => kk H1 locs1 (ch_next hw (by rw [ch_W_set, ch_cf_wI (j := i.toNatClampNeg) (v := x) (he _)] at hP; exact hP) hS))
theorem ch_zast (S : CallFix p m c cc nL s args Ts own) (hw : ch_Wd D I N F sh s A M H locs) (k : Nat) (hk : k < N) {n : Nat} (he : ∀ f, F k f (M.2 k) = .inl (I.2.1, n, .inl f)) {i x : Int32} (hx : vp_nar .boolean x = x) (hin : vp_in i n) (hdg : decode cc pc = .ok (.bastore, 1))
    (kk : ∀ (H1 : Heap) (locs1 : List Loc), ch_Wd D I N F sh s A (ch_wI M k i.toNatClampNeg x) H1 locs1 → W p l e R s m args below meth c H1 locs1 0 0 Q (F0 m (pc + 1) ls rest)) : W p l e R s m args below meth c H locs 0 0 Q (F0 m pc ls (.int x :: .int i :: .ref (sh k) :: rest)) :=
  va_zast S.1 S.2.1 hw.1 hw.2.1 hw.2.2.1 hw.2.2.2.1 k 1 ((ch_W_get hk).trans (congrArg (fun z => some (sh k, z)) (he (M.1 k)))) rfl hin hdg (fun H1 locs1 hP _ hS => kk H1 locs1 (ch_next hw (by rw [hx, ch_W_set, ch_cf_wI (j := i.toNatClampNeg) (v := x) (he _)] at hP; exact hP) hS))
theorem ch_alen (S : CallFix p m c cc nL s args Ts own) (hw : ch_Wd D I N F sh s A M H locs) (k : Nat) (hk : k < N) {n : Nat} (he : F k (M.1 k) (M.2 k) = .inl (I.1, n, .inl (M.1 k))) (hdg : decode cc pc = .ok (.arraylength, 1))
    (kk : W p l e R s m args below meth c H locs 0 0 Q (F0 m (pc + 1) ls (.int (nI n) :: rest))) : W p l e R s m args below meth c H locs 0 0 Q (F0 m pc ls (.ref (sh k) :: rest)) :=
  va_alen S.1 S.2.1 hw.1 hw.2.1 k 0 ((ch_W_get hk).trans (congrArg (fun z => some (sh k, z)) he)) rfl rfl hdg kk
theorem ch_rows (S : CallFix p m c cc nL s args Ts own) (hw : ch_Wd D I 40 (ch_FC I sh) sh s A M H locs) {i : Int32} (hin : vp_in i 8) (hdg : decode cc pc = .ok (.aaload, 1))
    (kk : W p l e R s m args below meth c H locs 0 0 Q (F0 m (pc + 1) ls (.ref (sh (7 + i.toNatClampNeg)) :: rest))) : W p l e R s m args below meth c H locs 0 0 Q (F0 m pc ls (.int i :: .ref (sh 1) :: rest)) :=
  va_aldq S.1 S.2.1 hw.1 hw.2.1 1 2 (C := RX3) (ch_W_get (k := 1) (by decide)) rfl hin hdg kk
theorem ch_reels (S : CallFix p m c cc nL s args Ts own) (hw : ch_Wd D I 40 (ch_FC I sh) sh s A M H locs) {i : Int32} (hin : vp_in i 4) (hdg : decode cc pc = .ok (.aaload, 1))
    (kk : W p l e R s m args below meth c H locs 0 0 Q (F0 m (pc + 1) ls (.ref (sh (23 + i.toNatClampNeg)) :: rest))) : W p l e R s m args below meth c H locs 0 0 Q (F0 m pc ls (.int i :: .ref (sh 2) :: rest)) :=
  va_aldq S.1 S.2.1 hw.1 hw.2.1 2 3 (C := RX2) (ch_W_get (k := 2) (by decide)) rfl hin hdg kk
theorem ch_copy {index : Nat} (S : CallFix p m c cc nL s args Ts own) (hml : ls.size = nL) (hlink : (Cond.methodLink own index arraycopyName).before args s = true) (hnat : (Cond.native arraycopyName).before args s = true) (hstat : (Cond.static arraycopyName).before args s = true) (hini : (Cond.initialized "java/lang/System").before args s = true) (hw : ch_Wd D I N F sh s A M H locs) (k0 k1 : Nat) (hk0 : k0 < N) (hk1 : k1 < N) {n0 n1 : Nat} (he0 : F k0 (M.1 k0) (M.2 k0) = .inl (I.1, n0, .inl (M.1 k0))) (he1 : ∀ f, F k1 f (M.2 k1) = .inl (I.1, n1, .inl f)) {sp dp n : Int32} (h1 : ¬ sp < 0) (h2 : ¬ dp < 0) (h3 : ¬ n < 0) (h4 : sp.toNatClampNeg + n.toNatClampNeg ≤ n0) (h5 : dp.toNatClampNeg + n.toNatClampNeg ≤ n1) (hfr : 1 ≤ R.frames) (hlo : (rest.map fun v => v.category).sum + (nativeFrameWords "java/lang/System" "arraycopy" 5 + 11) ≤ R.locals) (hdg : decode cc pc = .ok (.invokestatic index, 3))
    (kk : ∀ (H1 : Heap) (locs1 : List Loc), ch_Wd D I N F sh s A (ch_wA M k1 (va_cpy (M.1 k0) (M.1 k1) sp.toNatClampNeg dp.toNatClampNeg n.toNatClampNeg)) H1 locs1 → W p l e R s m args below meth c H1 locs1 0 0 Q (F0 m (pc + 3) ls rest)) : W p l e R s m args below meth c H locs 0 0 Q (F0 m pc ls (.int n :: .int dp :: .ref (sh k1) :: .int sp :: .ref (sh k0) :: rest)) :=
  va_copyi S.1 S.2.1 (S.2.2.1.trans hml.symm) S.2.2.2.1 hlink hnat hstat hini hw.1 hw.2.1 hw.2.2.1 hw.2.2.2.1 k0 k1 0 0 (ty := .int) ((ch_W_get hk0).trans (congrArg (fun z => some (sh k0, z)) he0)) ((ch_W_get hk1).trans (congrArg (fun z => some (sh k1, z)) (he1 (M.1 k1)))) rfl rfl rfl h1 h2 h3 h4 h5 (fun _ _ => rfl) hfr hlo hdg (fun H1 locs1 hP _ hS => kk H1 locs1 (ch_next hw (by rw [ch_W_set, ch_cf_wA (he1 _)] at hP; exact hP) hS))
/-! calls inside one world -/
theorem ch_pV {C : String} {k : Nat} {As : List Value} {ci : Nat} {q : vw_C} {fs : List Value} (hw : ch_Wd D I N F sh s A M H locs) (hk : k < N) (he : F k (M.1 k) (M.2 k) = .inr (ci, fs)) (hc : vwCl[ci]? = some q) (hC : q.1 = C) : PreV s H C (sh k) (va_Pc (.ref (sh k) :: As) (ch_Pre D I N F sh H.size M)) As := by
  subst hC
  exact ⟨ch_blind, va_recv hw.1 hw.2.1 hc ((ch_W_get hk).trans (congrArg (fun z => some (sh k, z)) he)), fun U hU hW => ⟨rfl, ch_pre hw U hU hW⟩⟩
theorem ch_pS {As : List Value} (hw : ch_Wd D I N F sh s A M H locs) : PreS s H (va_Pc As (ch_Pre D I N F sh H.size M)) As := ⟨ch_blind, fun U hU hW => ⟨rfl, ch_pre hw U hU hW⟩⟩
theorem ch_AA (hw : ch_Wd D I N F sh s A M H locs) : ∀ q, ch_A N sh H.size q → A q := by
  intro q hq
  rcases hq with ⟨k, hk, rfl⟩ | hq
  · exact hw.2.2.1.2 k _ (ch_W_get hk)
  · exact hw.2.2.2.2.1 q (Nat.le_trans hw.2.2.2.1.1 hq)
theorem ch_ci {st0 : List Value} {a : Array Value} {r : Int32} (hw : ch_Wd D I N F sh s A M H locs) (hr : va_Run p l e R s m args below meth c H locs 0 0 0 0 (F0 m pc ls st0) rest (va_Qi (fun r' (u : ch_Mem) => r' = r ∧ u = M1) (ch_Pos D N F sh) (ch_A N sh H.size) a) (ch_A N sh H.size))
    (kk : ∀ (H1 : Heap) (locs1 : List Loc), ch_Wd D I N F sh s A M1 H1 locs1 → W p l e R s m args below meth c H1 locs1 0 0 Q (F0 m (pc + 3) ls (.int r :: rest))) : W p l e R s m args below meth c H locs 0 0 Q (F0 m pc ls st0) :=
  va_calli hr hw.2.2.2.1 (fun q _ h => ch_AA hw q h) (ch_AA hw) (fun r' u t H1 locs1 ht _ hp hB _ _ hS => by
    obtain ⟨rfl, rfl⟩ := hp
    exact kk H1 locs1 (ch_next hw (by rw [← ht]; exact hB) hS))
theorem ch_cl {st0 : List Value} {a : Array Value} {r : Int64} (hw : ch_Wd D I N F sh s A M H locs) (hr : va_Run p l e R s m args below meth c H locs 0 0 0 0 (F0 m pc ls st0) rest (va_Ql (fun r' (u : ch_Mem) => r' = r ∧ u = M1) (ch_Pos D N F sh) (ch_A N sh H.size) a) (ch_A N sh H.size))
    (kk : ∀ (H1 : Heap) (locs1 : List Loc), ch_Wd D I N F sh s A M1 H1 locs1 → W p l e R s m args below meth c H1 locs1 0 0 Q (F0 m (pc + 3) ls (.long r :: rest))) : W p l e R s m args below meth c H locs 0 0 Q (F0 m pc ls st0) :=
  va_calll hr hw.2.2.2.1 (fun q _ h => ch_AA hw q h) (ch_AA hw) (fun r' u t H1 locs1 ht _ hp hB _ _ hS => by
    obtain ⟨rfl, rfl⟩ := hp
    exact kk H1 locs1 (ch_next hw (by rw [← ht]; exact hB) hS))
theorem ch_cv {st0 : List Value} {a : Array Value} (hw : ch_Wd D I N F sh s A M H locs) (hr : va_Run p l e R s m args below meth c H locs 0 0 0 0 (F0 m pc ls st0) rest (va_Qv (fun (u : ch_Mem) => u = M1) (ch_Pos D N F sh) (ch_A N sh H.size) a) (ch_A N sh H.size))
    (kk : ∀ (H1 : Heap) (locs1 : List Loc), ch_Wd D I N F sh s A M1 H1 locs1 → W p l e R s m args below meth c H1 locs1 0 0 Q (F0 m (pc + 3) ls rest)) : W p l e R s m args below meth c H locs 0 0 Q (F0 m pc ls st0) :=
  va_callv hr hw.2.2.2.1 (fun q _ h => ch_AA hw q h) (ch_AA hw) (fun u t H1 locs1 ht _ hp hB _ _ hS => by
    obtain rfl := hp
    exact kk H1 locs1 (ch_next hw (by rw [← ht]; exact hB) hS))
theorem ch_topi {β : Type} {x : Int32} {f : Int32 → Option β} {o : β} (h : ch_nm x f = some o) (k : ∀ y : Int32, f y = some o → W p l e R s m args below meth c H locs 0 0 Q (F0 m pc ls (.int y :: rest))) : W p l e R s m args below meth c H locs 0 0 Q (F0 m pc ls (.int x :: rest)) := k x h
theorem ch_topl {β : Type} {x : Int64} {f : Int64 → Option β} {o : β} (h : ch_nm x f = some o) (k : ∀ y : Int64, f y = some o → W p l e R s m args below meth c H locs 0 0 Q (F0 m pc ls (.long y :: rest))) : W p l e R s m args below meth c H locs 0 0 Q (F0 m pc ls (.long x :: rest)) := k x h
/-! branches: the machine's and the function's together -/
theorem ch_icmp_eq {β : Type} {X Y : Option β} {o : β} (hx : p.tables.exec = Jvm.exec) (hb : c.code = cc) {x y : Int32} {off : Int} {tgt : Nat} (hdg : decode cc pc = .ok (.if_icmp .eq off, 3)) (ht : (pc : Int) + off = (tgt : Int)) (h : (if x = y then X else Y) = some o)
    (kt : X = some o → W p l e R s m args below meth c H locs 0 0 Q (F0 m tgt ls rest)) (kf : Y = some o → W p l e R s m args below meth c H locs 0 0 Q (F0 m (pc + 3) ls rest)) : W p l e R s m args below meth c H locs 0 0 Q (F0 m pc ls (.int y :: .int x :: rest)) :=
  lv_icmp_eq hx hb hdg ht (fun q => kt (by rw [if_pos q] at h; exact h)) (fun q => kf (by rw [if_neg q] at h; exact h))
theorem ch_icmp_ne {β : Type} {X Y : Option β} {o : β} (hx : p.tables.exec = Jvm.exec) (hb : c.code = cc) {x y : Int32} {off : Int} {tgt : Nat} (hdg : decode cc pc = .ok (.if_icmp .ne off, 3)) (ht : (pc : Int) + off = (tgt : Int)) (h : (if x = y then X else Y) = some o)
    (kt : Y = some o → W p l e R s m args below meth c H locs 0 0 Q (F0 m tgt ls rest)) (kf : X = some o → W p l e R s m args below meth c H locs 0 0 Q (F0 m (pc + 3) ls rest)) : W p l e R s m args below meth c H locs 0 0 Q (F0 m pc ls (.int y :: .int x :: rest)) :=
  lv_icmp_ne hx hb hdg ht (fun q => kt (by rw [if_neg q] at h; exact h)) (fun q => kf (by rw [if_pos q] at h; exact h))
theorem ch_icmp_lt {β : Type} {X Y : Option β} {o : β} (hx : p.tables.exec = Jvm.exec) (hb : c.code = cc) {x y : Int32} {off : Int} {tgt : Nat} (hdg : decode cc pc = .ok (.if_icmp .lt off, 3)) (ht : (pc : Int) + off = (tgt : Int)) (h : (if x < y then X else Y) = some o)
    (kt : X = some o → W p l e R s m args below meth c H locs 0 0 Q (F0 m tgt ls rest)) (kf : Y = some o → W p l e R s m args below meth c H locs 0 0 Q (F0 m (pc + 3) ls rest)) : W p l e R s m args below meth c H locs 0 0 Q (F0 m pc ls (.int y :: .int x :: rest)) :=
  lv_icmp_lt hx hb hdg ht (fun q => kt (by rw [if_pos q] at h; exact h)) (fun q => kf (by rw [if_neg q] at h; exact h))
theorem ch_icmp_ge {β : Type} {X Y : Option β} {o : β} (hx : p.tables.exec = Jvm.exec) (hb : c.code = cc) {x y : Int32} {off : Int} {tgt : Nat} (hdg : decode cc pc = .ok (.if_icmp .ge off, 3)) (ht : (pc : Int) + off = (tgt : Int)) (h : (if y ≤ x then X else Y) = some o)
    (kt : X = some o → W p l e R s m args below meth c H locs 0 0 Q (F0 m tgt ls rest)) (kf : Y = some o → W p l e R s m args below meth c H locs 0 0 Q (F0 m (pc + 3) ls rest)) : W p l e R s m args below meth c H locs 0 0 Q (F0 m pc ls (.int y :: .int x :: rest)) :=
  lv_icmp_ge hx hb hdg ht (fun q => kt (by rw [if_pos q] at h; exact h)) (fun q => kf (by rw [if_neg q] at h; exact h))
theorem ch_icmp_gt {β : Type} {X Y : Option β} {o : β} (hx : p.tables.exec = Jvm.exec) (hb : c.code = cc) {x y : Int32} {off : Int} {tgt : Nat} (hdg : decode cc pc = .ok (.if_icmp .gt off, 3)) (ht : (pc : Int) + off = (tgt : Int)) (h : (if y < x then X else Y) = some o)
    (kt : X = some o → W p l e R s m args below meth c H locs 0 0 Q (F0 m tgt ls rest)) (kf : Y = some o → W p l e R s m args below meth c H locs 0 0 Q (F0 m (pc + 3) ls rest)) : W p l e R s m args below meth c H locs 0 0 Q (F0 m pc ls (.int y :: .int x :: rest)) :=
  lv_icmp_gt hx hb hdg ht (fun q => kt (by rw [if_pos q] at h; exact h)) (fun q => kf (by rw [if_neg q] at h; exact h))
theorem ch_icmp_le {β : Type} {X Y : Option β} {o : β} (hx : p.tables.exec = Jvm.exec) (hb : c.code = cc) {x y : Int32} {off : Int} {tgt : Nat} (hdg : decode cc pc = .ok (.if_icmp .le off, 3)) (ht : (pc : Int) + off = (tgt : Int)) (h : (if x ≤ y then X else Y) = some o)
    (kt : X = some o → W p l e R s m args below meth c H locs 0 0 Q (F0 m tgt ls rest)) (kf : Y = some o → W p l e R s m args below meth c H locs 0 0 Q (F0 m (pc + 3) ls rest)) : W p l e R s m args below meth c H locs 0 0 Q (F0 m pc ls (.int y :: .int x :: rest)) :=
  lv_icmp_le hx hb hdg ht (fun q => kt (by rw [if_pos q] at h; exact h)) (fun q => kf (by rw [if_neg q] at h; exact h))
theorem ch_if_eq {β : Type} {X Y : Option β} {o : β} (hx : p.tables.exec = Jvm.exec) (hb : c.code = cc) {x : Int32} {off : Int} {tgt : Nat} (hdg : decode cc pc = .ok (.ifCond .eq off, 3)) (ht : (pc : Int) + off = (tgt : Int)) (h : (if x = 0 then X else Y) = some o)
    (kt : X = some o → W p l e R s m args below meth c H locs 0 0 Q (F0 m tgt ls rest)) (kf : Y = some o → W p l e R s m args below meth c H locs 0 0 Q (F0 m (pc + 3) ls rest)) : W p l e R s m args below meth c H locs 0 0 Q (F0 m pc ls (.int x :: rest)) :=
  lv_if_eq hx hb hdg ht (fun q => kt (by rw [if_pos q] at h; exact h)) (fun q => kf (by rw [if_neg q] at h; exact h))
theorem ch_if_ne {β : Type} {X Y : Option β} {o : β} (hx : p.tables.exec = Jvm.exec) (hb : c.code = cc) {x : Int32} {off : Int} {tgt : Nat} (hdg : decode cc pc = .ok (.ifCond .ne off, 3)) (ht : (pc : Int) + off = (tgt : Int)) (h : (if x = 0 then X else Y) = some o)
    (kt : Y = some o → W p l e R s m args below meth c H locs 0 0 Q (F0 m tgt ls rest)) (kf : X = some o → W p l e R s m args below meth c H locs 0 0 Q (F0 m (pc + 3) ls rest)) : W p l e R s m args below meth c H locs 0 0 Q (F0 m pc ls (.int x :: rest)) :=
  lv_if_ne hx hb hdg ht (fun q => kt (by rw [if_neg q] at h; exact h)) (fun q => kf (by rw [if_pos q] at h; exact h))
theorem ch_if_lt {β : Type} {X Y : Option β} {o : β} (hx : p.tables.exec = Jvm.exec) (hb : c.code = cc) {x : Int32} {off : Int} {tgt : Nat} (hdg : decode cc pc = .ok (.ifCond .lt off, 3)) (ht : (pc : Int) + off = (tgt : Int)) (h : (if x < 0 then X else Y) = some o)
    (kt : X = some o → W p l e R s m args below meth c H locs 0 0 Q (F0 m tgt ls rest)) (kf : Y = some o → W p l e R s m args below meth c H locs 0 0 Q (F0 m (pc + 3) ls rest)) : W p l e R s m args below meth c H locs 0 0 Q (F0 m pc ls (.int x :: rest)) :=
  lv_if_lt hx hb hdg ht (fun q => kt (by rw [if_pos q] at h; exact h)) (fun q => kf (by rw [if_neg q] at h; exact h))
theorem ch_if_ge {β : Type} {X Y : Option β} {o : β} (hx : p.tables.exec = Jvm.exec) (hb : c.code = cc) {x : Int32} {off : Int} {tgt : Nat} (hdg : decode cc pc = .ok (.ifCond .ge off, 3)) (ht : (pc : Int) + off = (tgt : Int)) (h : (if 0 ≤ x then X else Y) = some o)
    (kt : X = some o → W p l e R s m args below meth c H locs 0 0 Q (F0 m tgt ls rest)) (kf : Y = some o → W p l e R s m args below meth c H locs 0 0 Q (F0 m (pc + 3) ls rest)) : W p l e R s m args below meth c H locs 0 0 Q (F0 m pc ls (.int x :: rest)) :=
  lv_if_ge hx hb hdg ht (fun q => kt (by rw [if_pos q] at h; exact h)) (fun q => kf (by rw [if_neg q] at h; exact h))
theorem ch_if_gt {β : Type} {X Y : Option β} {o : β} (hx : p.tables.exec = Jvm.exec) (hb : c.code = cc) {x : Int32} {off : Int} {tgt : Nat} (hdg : decode cc pc = .ok (.ifCond .gt off, 3)) (ht : (pc : Int) + off = (tgt : Int)) (h : (if 0 < x then X else Y) = some o)
    (kt : X = some o → W p l e R s m args below meth c H locs 0 0 Q (F0 m tgt ls rest)) (kf : Y = some o → W p l e R s m args below meth c H locs 0 0 Q (F0 m (pc + 3) ls rest)) : W p l e R s m args below meth c H locs 0 0 Q (F0 m pc ls (.int x :: rest)) :=
  lv_if_gt hx hb hdg ht (fun q => kt (by rw [if_pos q] at h; exact h)) (fun q => kf (by rw [if_neg q] at h; exact h))
theorem ch_if_le {β : Type} {X Y : Option β} {o : β} (hx : p.tables.exec = Jvm.exec) (hb : c.code = cc) {x : Int32} {off : Int} {tgt : Nat} (hdg : decode cc pc = .ok (.ifCond .le off, 3)) (ht : (pc : Int) + off = (tgt : Int)) (h : (if x ≤ 0 then X else Y) = some o)
    (kt : X = some o → W p l e R s m args below meth c H locs 0 0 Q (F0 m tgt ls rest)) (kf : Y = some o → W p l e R s m args below meth c H locs 0 0 Q (F0 m (pc + 3) ls rest)) : W p l e R s m args below meth c H locs 0 0 Q (F0 m pc ls (.int x :: rest)) :=
  lv_if_le hx hb hdg ht (fun q => kt (by rw [if_pos q] at h; exact h)) (fun q => kf (by rw [if_neg q] at h; exact h))
/-! ends -/
abbrev ch_FinI (p : Program) (l : Launch) (e : Env) (R : Room) (s : State) (m : MethodId) (args : Array Value) (below : List Frame) (meth : Method) (c : Code) (cc : ByteArray) (Q : State → Prop) (D : va_G) (I : ch_Id) (N : Nat) (F : ch_FT) (sh : Nat → Nat) (A : Nat → Prop) (o : Int32 × ch_Mem) : Prop :=
  ∀ (pc : Nat) (ls : Array Slot) (H : Heap) (locs : List Loc) (r : Int32) (M : ch_Mem), some (r, M) = some o → ch_Wd D I N F sh s A M H locs → decode cc pc = .ok (.ireturn, 1) → W p l e R s m args below meth c H locs 0 0 Q (F0 m pc ls [.int r])
abbrev ch_FinZ (p : Program) (l : Launch) (e : Env) (R : Room) (s : State) (m : MethodId) (args : Array Value) (below : List Frame) (meth : Method) (c : Code) (cc : ByteArray) (Q : State → Prop) (D : va_G) (I : ch_Id) (N : Nat) (F : ch_FT) (sh : Nat → Nat) (A : Nat → Prop) (o : Int32 × ch_Mem) : Prop :=
  ∀ (pc : Nat) (ls : Array Slot) (H : Heap) (locs : List Loc) (r : Int32) (M : ch_Mem), narrow .boolean (.int r) = .int r → some (r, M) = some o → ch_Wd D I N F sh s A M H locs → decode cc pc = .ok (.ireturn, 1) → W p l e R s m args below meth c H locs 0 0 Q (F0 m pc ls [.int r])
abbrev ch_FinL (p : Program) (l : Launch) (e : Env) (R : Room) (s : State) (m : MethodId) (args : Array Value) (below : List Frame) (meth : Method) (c : Code) (cc : ByteArray) (Q : State → Prop) (D : va_G) (I : ch_Id) (N : Nat) (F : ch_FT) (sh : Nat → Nat) (A : Nat → Prop) (o : Int64 × ch_Mem) : Prop :=
  ∀ (pc : Nat) (ls : Array Slot) (H : Heap) (locs : List Loc) (r : Int64) (M : ch_Mem), some (r, M) = some o → ch_Wd D I N F sh s A M H locs → decode cc pc = .ok (.lreturn, 1) → W p l e R s m args below meth c H locs 0 0 Q (F0 m pc ls [.long r])
abbrev ch_FinV (p : Program) (l : Launch) (e : Env) (R : Room) (s : State) (m : MethodId) (args : Array Value) (below : List Frame) (meth : Method) (c : Code) (cc : ByteArray) (Q : State → Prop) (D : va_G) (I : ch_Id) (N : Nat) (F : ch_FT) (sh : Nat → Nat) (A : Nat → Prop) (o : Unit × ch_Mem) : Prop :=
  ∀ (pc : Nat) (ls : Array Slot) (H : Heap) (locs : List Loc) (M : ch_Mem), some ((), M) = some o → ch_Wd D I N F sh s A M H locs → decode cc pc = .ok (.return_, 1) → W p l e R s m args below meth c H locs 0 0 Q (F0 m pc ls [])
theorem ch_finI {B : Nat → Prop} {r0 : Int32} {M0 : ch_Mem} (hx : p.tables.exec = Jvm.exec) (hb : c.code = cc) (hr : meth.sig.returnType = some .int) (hlk : meth.locks = false) : ch_FinI p l e R s m args below meth c cc (MQ below (va_Qi (fun r' (u : ch_Mem) => r' = r0 ∧ u = M0) (ch_Pos D N F sh) A) args s 0 0 A) D I N F sh A (r0, M0) := by
  intro pc ls H locs r M ho hw hdg
  cases ho
  exact W.iret hx hb hr (fun t ht _ => ⟨⟨_, _, rfl, ⟨rfl, rfl⟩, by show va_P _ _ _ t.heap; rw [ht]; exact hw.2.1⟩, hw.2.2.2.1.F ht⟩) hw.2.2.2.1.2.2 hdg hlk
theorem ch_finZ {r0 : Int32} {M0 : ch_Mem} (hx : p.tables.exec = Jvm.exec) (hb : c.code = cc) (hr : meth.sig.returnType = some .boolean) (hlk : meth.locks = false) : ch_FinZ p l e R s m args below meth c cc (MQ below (va_Qi (fun r' (u : ch_Mem) => r' = r0 ∧ u = M0) (ch_Pos D N F sh) A) args s 0 0 A) D I N F sh A (r0, M0) := by
  intro pc ls H locs r M hn ho hw hdg
  cases ho
  exact W.zret hx hb hr hn (fun t ht _ => ⟨⟨_, _, rfl, ⟨rfl, rfl⟩, by show va_P _ _ _ t.heap; rw [ht]; exact hw.2.1⟩, hw.2.2.2.1.F ht⟩) hw.2.2.2.1.2.2 hdg hlk
theorem ch_finL {r0 : Int64} {M0 : ch_Mem} (hx : p.tables.exec = Jvm.exec) (hb : c.code = cc) (hr : meth.sig.returnType = some .long) (hlk : meth.locks = false) : ch_FinL p l e R s m args below meth c cc (MQ below (va_Ql (fun r' (u : ch_Mem) => r' = r0 ∧ u = M0) (ch_Pos D N F sh) A) args s 0 0 A) D I N F sh A (r0, M0) := by
  intro pc ls H locs r M ho hw hdg
  cases ho
  exact W.lret hx hb hr (fun t ht _ => ⟨⟨_, _, rfl, ⟨rfl, rfl⟩, by show va_P _ _ _ t.heap; rw [ht]; exact hw.2.1⟩, hw.2.2.2.1.F ht⟩) hw.2.2.2.1.2.2 hdg hlk
theorem ch_finV {M0 : ch_Mem} (hx : p.tables.exec = Jvm.exec) (hb : c.code = cc) (hr : meth.sig.returnType = none) (hlk : meth.locks = false) : ch_FinV p l e R s m args below meth c cc (MQ below (va_Qv (fun (u : ch_Mem) => u = M0) (ch_Pos D N F sh) A) args s 0 0 A) D I N F sh A ((), M0) := by
  intro pc ls H locs M ho hw hdg
  cases ho
  exact W.vret hx hb hr (fun t ht _ => ⟨⟨_, rfl, rfl, by show va_P _ _ _ t.heap; rw [ht]; exact hw.2.1⟩, hw.2.2.2.1.F ht⟩) hw.2.2.2.1.2.2 hdg hlk
end CHW
