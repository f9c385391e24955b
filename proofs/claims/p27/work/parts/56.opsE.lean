/-! why, book, undo, texts typed -/
theorem kept_spec {B : SBook} {ss : Nat} (h : B.2 0 = nI ss) (hs : ss ≤ 999) : X0_kept B = nI (min ss 8) := by
  unfold X0_kept
  rw [h]
  by_cases c : 8 < ss
  · rw [if_pos (show (8 : Int32) < nI ss from nI_lt (a := 8) c (by omega)), Nat.min_eq_right (by omega)]
    rfl
  · rw [if_neg (show ¬ (8 : Int32) < nI ss from nI_nlt (a := 8) (by omega) (by omega)), Nat.min_eq_left (by omega)]
