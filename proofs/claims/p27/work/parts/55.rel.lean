/-! the relation of the class and the reference -/
theorem AB_congr {P : SPar} {s s' : Nat → Int32} (h : AB P s) (he : ∀ k, k < 156 → s' k = s k) : AB P s' := by
  obtain ⟨n, se, le, pu, L, g, hA, hP, ⟨e1, e2, e3, e4, e5⟩, ⟨⟨sp, a1, a2, a3⟩, ⟨b, b1, b2, b3⟩, ⟨ss, e7, e8, e9, e10⟩, e11, e12, e13, e14⟩⟩ := h
  have hn := hA.1
  refine ⟨n, se, le, pu, L, g, hA, hP, ⟨by rw [he _ (by omega), e1], fun k hk => ?_, by rw [he _ (by omega), e3], e4, fun k hk => ?_⟩, ⟨⟨sp, a1, a2, by rw [he _ (by omega), a3]⟩, ⟨b, b1, b2, by rw [he _ (by omega), b3]⟩, ⟨ss, e7, e8, by rw [he _ (by omega), e9], by rw [he _ (by omega), e10]⟩, by rw [he _ (by omega), e11], fun k hk => by rw [he _ (by omega), e12 k hk], by rw [he _ (by omega), e13], fun k h1 h2 => by rw [he _ (by omega), e14 k h1 h2]⟩⟩
  · rw [he _ (by omega), he _ (by omega), he _ (by omega)]
    exact e2 k hk
  · rw [he _ (by omega), he _ (by omega), he _ (by omega), he _ (by omega)]
    exact e5 k hk
theorem pastIx_at {K : SMain} {x : Int32} {o t : Nat} (h0 : K.1 0 = nI o) (hx : x = nI t) (ho : o < 1000) (ht : t < 1000) : pastIx K x = some ((o + t) % 4) := by
  have e : (K.1 0 + x) - (K.1 0 + x) / 4 * 4 = nI ((o + t) % 4) := by
    rw [h0, hx, nI_add]
    exact pk_rem (d := 4) (by omega) (by omega) (by omega)
  unfold pastIx
  rw [e]
  have hm := Nat.mod_lt (o + t) (show 0 < 4 by omega)
  generalize (o + t) % 4 = j at hm
  rcases (by omega : j = 0 ∨ j = 1 ∨ j = 2 ∨ j = 3) with rfl | rfl | rfl | rfl
  · rw [if_pos rfl]
  · rw [if_neg (by decide), if_pos rfl]
  · rw [if_neg (by decide), if_neg (by decide), if_pos rfl]
  · rw [if_neg (by decide), if_neg (by decide), if_neg (by decide), if_pos rfl]
theorem settle_err {K : SMain} {r : Int32} (hr : r < 0) : X6_settle K r = some (K, r) := by
  have hE : ¬ X6_isError r = 0 := by
    unfold X6_isError
    rw [if_neg (Int32.not_le.mpr hr)]
    decide
  unfold X6_settle
  rw [if_neg hE]
