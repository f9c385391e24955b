/-! session as a change -/
theorem RMBc {s s' : Nat → Int32} {n : Nat} {se le pu : Nat → Int32} {L : List Str4} (hn : n ≤ 12) (h : RMB s n se le pu L) (h3 : ∀ i, i < 116 ∨ i = 148 ∨ i = 149 → s' i = s i) : RMB s' n se le pu L := by
  obtain ⟨e1, e2, e3, e4, e5⟩ := h
  refine ⟨by rw [h3 148 (by omega), e1], fun k hk => ?_, by rw [h3 149 (by omega), e3], e4, fun k hk => ?_⟩
  · rw [h3 _ (by omega), h3 _ (by omega), h3 _ (by omega)]
    exact e2 k hk
  · rw [h3 _ (by omega), h3 _ (by omega), h3 _ (by omega), h3 _ (by omega)]
    exact e5 k hk
