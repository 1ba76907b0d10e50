theorem ch_b_X7_in {x0 x1 x2 : Int32} {M M1 : ch_Mem} {r : Int32} (h : D_X7_in x0 x1 x2 M = some (r, M1)) : narrow .boolean (.int r) = .int r := by
  unfold D_X7_in at h
  refine ch_if_k h (fun _ h => ?_) (fun _ h => ?_)
  · cases h; rfl
  · refine ch_if_k h (fun _ h => ?_) (fun _ h => ?_) <;> (cases h; rfl)
