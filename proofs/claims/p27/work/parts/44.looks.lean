/-! the reference's groups -/
def RMB (s : Nat → Int32) (n : Nat) (se le pu : Nat → Int32) (L : List Str4) : Prop := s 148 = nI n ∧ (∀ k, k < n → s (3 * k) = se k ∧ s (3 * k + 1) = le k ∧ s (3 * k + 2) = pu k + 1) ∧ s 149 = nI L.length ∧ L.length ≤ 20 ∧ ∀ k, k < L.length → s (36 + 4 * k) = nI (sg L k).1 ∧ s (36 + 4 * k + 1) = nI (sg L k).2.1 ∧ s (36 + 4 * k + 2) = (sg L k).2.2.1 ∧ s (36 + 4 * k + 3) = (sg L k).2.2.2
theorem ix_ok {k N : Nat} (h : k < N) (hN : N ≤ 1000) : ¬ (nI k < 0 ∨ N ≤ Int32.toNatClampNeg (nI k)) := by
  rintro (h1 | h1)
  · exact nI_pos (by omega) h1
  · rw [nI_clamp (by omega)] at h1
    omega
theorem ix_to {k : Nat} (h : k < 1000) : Int32.toNatClampNeg (nI k) = k := nI_clamp (by omega)
theorem ix3 (k c : Nat) : (3 * nI k) + nI c = nI (3 * k + c) := by
  rw [show (3 : Int32) = nI 3 from rfl, pk_mul, nI_add]
theorem ix4 (k c : Nat) : (36 + (4 * nI k)) + nI c = nI (36 + 4 * k + c) := by
  rw [show (4 : Int32) = nI 4 from rfl, pk_mul, show (36 : Int32) = nI 36 from rfl, nI_add, nI_add]
/-- the reference's step at a string: who has the greater lowest puppet takes the other's -/
def stp (q : Grp) (x : Str4) : Grp :=
  if q.1 x.2.1 < q.1 x.1 then (fun k => if k = x.1 then q.1 x.2.1 else q.1 k, fun k => if k = x.1 then q.2 x.2.1 ^^^ x.2.2.1 else q.2 k)
  else (fun k => if k = x.2.1 then q.1 x.1 else q.1 k, fun k => if k = x.2.1 then q.2 x.1 ^^^ x.2.2.1 else q.2 k)
def sN (f : Nat → Nat) : Nat → Nat
  | 0 => 0
  | k + 1 => sN f k + f k
theorem sN_le {f g : Nat → Nat} (h : ∀ i, f i ≤ g i) : ∀ n, sN f n ≤ sN g n := by
  intro n
  induction n with
  | zero => exact Nat.le_refl 0
  | succ n ih =>
    have := h n
    show sN f n + f n ≤ sN g n + g n
    omega
theorem sN_lt {f g : Nat → Nat} (h : ∀ i, f i ≤ g i) {j : Nat} (hj : f j < g j) : ∀ n, j < n → sN f n < sN g n := by
  intro n
  induction n with
  | zero => intro z; omega
  | succ n ih =>
    intro z
    have h1 := h n
    have h2 := sN_le h n
    show sN f n + f n < sN g n + g n
    by_cases hjn : j = n
    · subst hjn
      omega
    · have := ih (by omega)
      omega
theorem stp_Iv {L : List Str4} {g : Nat → Int32} {q : Grp} {x : Str4} (hx : x ∈ L) (hg : g x.1 ^^^ g x.2.1 = x.2.2.1) (h : Iv L g q) (hs : ¬ q.1 x.1 = q.1 x.2.1) : Iv L g (stp q x) ∧ (∀ k, (stp q x).1 k ≤ q.1 k) ∧ ((stp q x).1 x.1 < q.1 x.1 ∨ (stp q x).1 x.2.1 < q.1 x.2.1) := by
  have e := Con.ed hx
  unfold stp
  rcases Nat.lt_or_ge (q.1 x.2.1) (q.1 x.1) with hlt | hge
  · rw [if_pos hlt]
    refine ⟨⟨fun k => ?_, fun k => ?_, fun k => ?_⟩, fun k => ?_, Or.inl ?_⟩
    · show Con L k (if k = x.1 then q.1 x.2.1 else q.1 k)
      by_cases hk : k = x.1
      · rw [if_pos hk, hk]
        exact e.tr (h.1 x.2.1)
      · rw [if_neg hk]
        exact h.1 k
    · show (if k = x.1 then q.1 x.2.1 else q.1 k) ≤ k
      have := h.2.1 k
      by_cases hk : k = x.1
      · rw [if_pos hk]
        rw [← hk] at hlt
        omega
      · rw [if_neg hk]
        exact this
    · show (if k = x.1 then q.2 x.2.1 ^^^ x.2.2.1 else q.2 k) = g k ^^^ g (if k = x.1 then q.1 x.2.1 else q.1 k)
      by_cases hk : k = x.1
      · rw [if_pos hk, if_pos hk, h.2.2, ← hg, hk, Int32.xor_comm (g x.2.1 ^^^ g (q.1 x.2.1)) (g x.1 ^^^ g x.2.1), xor_cancel4]
      · rw [if_neg hk, if_neg hk]
        exact h.2.2 k
    · show (if k = x.1 then q.1 x.2.1 else q.1 k) ≤ q.1 k
      by_cases hk : k = x.1
      · rw [if_pos hk, hk]
        omega
      · rw [if_neg hk]
        exact Nat.le_refl _
    · show (if x.1 = x.1 then q.1 x.2.1 else q.1 x.1) < q.1 x.1
      rw [if_pos rfl]
      exact hlt
  · rw [if_neg (by omega)]
    refine ⟨⟨fun k => ?_, fun k => ?_, fun k => ?_⟩, fun k => ?_, Or.inr ?_⟩
    · show Con L k (if k = x.2.1 then q.1 x.1 else q.1 k)
      by_cases hk : k = x.2.1
      · rw [if_pos hk, hk]
        exact e.sy.tr (h.1 x.1)
      · rw [if_neg hk]
        exact h.1 k
    · show (if k = x.2.1 then q.1 x.1 else q.1 k) ≤ k
      have := h.2.1 k
      by_cases hk : k = x.2.1
      · rw [if_pos hk]
        rw [← hk] at hge
        omega
      · rw [if_neg hk]
        exact this
    · show (if k = x.2.1 then q.2 x.1 ^^^ x.2.2.1 else q.2 k) = g k ^^^ g (if k = x.2.1 then q.1 x.1 else q.1 k)
      by_cases hk : k = x.2.1
      · rw [if_pos hk, if_pos hk, h.2.2, ← hg, hk, Int32.xor_comm (g x.1 ^^^ g (q.1 x.1)) (g x.1 ^^^ g x.2.1), Int32.xor_comm (g x.1) (g x.2.1), xor_cancel4]
      · rw [if_neg hk, if_neg hk]
        exact h.2.2 k
    · show (if k = x.2.1 then q.1 x.1 else q.1 k) ≤ q.1 k
      by_cases hk : k = x.2.1
      · rw [if_pos hk, hk]
        exact hge
      · rw [if_neg hk]
        exact Nat.le_refl _
    · show (if x.2.1 = x.2.1 then q.1 x.1 else q.1 x.2.1) < q.1 x.2.1
      rw [if_pos rfl]
      omega
theorem sN_id : ∀ n, n ≤ 12 → sN (fun k => k) n ≤ 66 := by
  intro n h
  rcases (by omega : n = 0 ∨ n = 1 ∨ n = 2 ∨ n = 3 ∨ n = 4 ∨ n = 5 ∨ n = 6 ∨ n = 7 ∨ n = 8 ∨ n = 9 ∨ n = 10 ∨ n = 11 ∨ n = 12) with rfl | rfl | rfl | rfl | rfl | rfl | rfl | rfl | rfl | rfl | rfl | rfl | rfl <;> decide
