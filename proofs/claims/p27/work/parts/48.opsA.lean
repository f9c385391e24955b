/-! the changes of puppets and pulls -/
/-- a parliament with another row -/
def stR (K : SPar) (i : Nat) (v : Nat → Int32) : SPar := (up K.1 i v, K.2)
def fl (g : Nat → Int32) (q : Grp) (p : Nat) (t : Int32) : Nat → Int32 := fun k => if q.1 k = q.1 p then g k ^^^ t else g k
theorem xor_s {a b t : Int32} : (a ^^^ t) ^^^ (b ^^^ t) = a ^^^ b := by
  rw [Int32.xor_comm b t, Int32.xor_assoc, ← Int32.xor_assoc t t b, Int32.xor_self, Int32.zero_xor]
theorem fl_Pot {L : List Str4} {g : Nat → Int32} (h : Pot L g) (p : Nat) (t : Int32) : Pot L (fl g (grp L) p t) := by
  intro x hx
  have e := (grp_Iv h).2 x hx
  unfold fl
  by_cases c : (grp L).1 x.1 = (grp L).1 p
  · rw [if_pos c, if_pos (by rw [← e]; exact c), xor_s]
    exact h x hx
  · rw [if_neg c, if_neg (by rw [← e]; exact c)]
    exact h x hx
theorem bits2 {m : Nat} (h : m ≤ 1) : nI m = 0 ∨ nI m = 1 := by
  rcases (by omega : m = 0 ∨ m = 1) with rfl | rfl
  · exact Or.inl rfl
  · exact Or.inr rfl
