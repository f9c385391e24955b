/-! groups: one set of strings has one way of groups -/
def Con (L : List Str4) (a b : Nat) : Prop := ∀ R : Nat → Nat → Prop, (∀ a, R a a) → (∀ a b, R a b → R b a) → (∀ a b c, R a b → R b c → R a c) → (∀ x ∈ L, R x.1 x.2.1) → R a b
theorem Con.rf {L : List Str4} (a : Nat) : Con L a a := fun _ h1 _ _ _ => h1 a
theorem Con.sy {L : List Str4} {a b : Nat} (h : Con L a b) : Con L b a := fun R h1 h2 h3 h4 => h2 _ _ (h R h1 h2 h3 h4)
theorem Con.tr {L : List Str4} {a b c : Nat} (h : Con L a b) (h' : Con L b c) : Con L a c := fun R h1 h2 h3 h4 => h3 _ _ _ (h R h1 h2 h3 h4) (h' R h1 h2 h3 h4)
theorem Con.ed {L : List Str4} {x : Str4} (h : x ∈ L) : Con L x.1 x.2.1 := fun _ _ _ _ h4 => h4 x h
theorem Con.mono {L L' : List Str4} {a b : Nat} (hL : ∀ x ∈ L, x ∈ L') (h : Con L a b) : Con L' a b := fun R h1 h2 h3 h4 => h R h1 h2 h3 (fun x hx => h4 x (hL x hx))
/-- a potential: two puppets that are tied vote alike or unlike by it -/
def Pot (L : List Str4) (g : Nat → Int32) : Prop := ∀ x ∈ L, g x.1 ^^^ g x.2.1 = x.2.2.1
/-- low and side, on the way -/
def Iv (L : List Str4) (g : Nat → Int32) (q : Grp) : Prop := (∀ k, Con L k (q.1 k)) ∧ (∀ k, q.1 k ≤ k) ∧ ∀ k, q.2 k = g k ^^^ g (q.1 k)
theorem Iv.one {L : List Str4} {g : Nat → Int32} {q r : Grp} (h : Iv L g q) (h' : Iv L g r) (e : ∀ x ∈ L, q.1 x.1 = q.1 x.2.1) (e' : ∀ x ∈ L, r.1 x.1 = r.1 x.2.1) : ∀ k, q.1 k = r.1 k ∧ q.2 k = r.2 k := by
  have c1 : ∀ a b, Con L a b → q.1 a = q.1 b := fun a b z => z (fun a b => q.1 a = q.1 b) (fun _ => rfl) (fun _ _ z => z.symm) (fun _ _ _ z z' => z.trans z') e
  have c2 : ∀ a b, Con L a b → r.1 a = r.1 b := fun a b z => z (fun a b => r.1 a = r.1 b) (fun _ => rfl) (fun _ _ z => z.symm) (fun _ _ _ z z' => z.trans z') e'
  intro k
  have d1 : q.1 k ≤ r.1 k := by rw [c1 _ _ (h'.1 k)]; exact h.2.1 _
  have d2 : r.1 k ≤ q.1 k := by rw [c2 _ _ (h.1 k)]; exact h'.2.1 _
  have d3 : q.1 k = r.1 k := by omega
  exact ⟨d3, by rw [h.2.2 k, h'.2.2 k, d3]⟩
theorem xor_cancel4 (a b c : Int32) : (a ^^^ b) ^^^ (b ^^^ c) = a ^^^ c := by
  rw [Int32.xor_assoc, ← Int32.xor_assoc b b c, Int32.xor_self, Int32.zero_xor]
theorem jn_Iv {L : List Str4} {g : Nat → Int32} {q : Grp} {x : Str4} (hx : x ∈ L) (hg : g x.1 ^^^ g x.2.1 = x.2.2.1) (h : Iv L g q) : Iv L g (jn q x) ∧ (jn q x).1 x.1 = (jn q x).1 x.2.1 ∧ ∀ a b, q.1 a = q.1 b → (jn q x).1 a = (jn q x).1 b := by
  by_cases hs : q.1 x.1 = q.1 x.2.1
  · rw [jn_same hs]
    exact ⟨h, hs, fun _ _ z => z⟩
  · have hab : Con L (q.1 x.1) (q.1 x.2.1) := ((h.1 x.1).sy.tr (Con.ed hx)).tr (h.1 x.2.1)
    refine ⟨⟨fun k => ?_, jn_le h.2.1, fun k => ?_⟩, ?_, fun a b z => ?_⟩
    · rw [jn_1 hs]
      by_cases hc : q.1 k = max (q.1 x.1) (q.1 x.2.1)
      · rw [if_pos hc]
        refine (h.1 k).tr ?_
        rw [hc]
        rcases Nat.lt_or_ge (q.1 x.1) (q.1 x.2.1) with hl | hl
        · rw [Nat.max_eq_right (Nat.le_of_lt hl), Nat.min_eq_left (Nat.le_of_lt hl)]
          exact hab.sy
        · rw [Nat.max_eq_left hl, Nat.min_eq_right hl]
          exact hab
      · rw [if_neg hc]
        exact h.1 k
    · rw [jn_1 hs, jn_2 hs]
      by_cases hc : q.1 k = max (q.1 x.1) (q.1 x.2.1)
      · rw [if_pos hc, if_pos hc, h.2.2 k, h.2.2 x.1, h.2.2 x.2.1, ← hg, hc]
        rcases Nat.lt_or_ge (q.1 x.1) (q.1 x.2.1) with hl | hl
        · rw [Nat.max_eq_right (Nat.le_of_lt hl), Nat.min_eq_left (Nat.le_of_lt hl)]
          generalize g (q.1 x.1) = A
          generalize g (q.1 x.2.1) = B
          generalize g x.1 = C
          generalize g x.2.1 = E
          generalize g k = F
          apply Int32.toBitVec_inj.mp
          simp only [Int32.toBitVec_xor]
          generalize A.toBitVec = A
          generalize B.toBitVec = B
          generalize C.toBitVec = C
          generalize E.toBitVec = E
          generalize F.toBitVec = F
          ext i
          simp only [BitVec.getElem_xor]
          cases A[i] <;> cases B[i] <;> cases C[i] <;> cases E[i] <;> cases F[i] <;> rfl
        · rw [Nat.max_eq_left hl, Nat.min_eq_right hl]
          generalize g (q.1 x.1) = A
          generalize g (q.1 x.2.1) = B
          generalize g x.1 = C
          generalize g x.2.1 = E
          generalize g k = F
          apply Int32.toBitVec_inj.mp
          simp only [Int32.toBitVec_xor]
          generalize A.toBitVec = A
          generalize B.toBitVec = B
          generalize C.toBitVec = C
          generalize E.toBitVec = E
          generalize F.toBitVec = F
          ext i
          simp only [BitVec.getElem_xor]
          cases A[i] <;> cases B[i] <;> cases C[i] <;> cases E[i] <;> cases F[i] <;> rfl
      · rw [if_neg hc, if_neg hc]
        exact h.2.2 k
    · rw [jn_1 hs, jn_1 hs]
      rcases Nat.lt_or_ge (q.1 x.1) (q.1 x.2.1) with hl | hl
      · rw [Nat.max_eq_right (Nat.le_of_lt hl), Nat.min_eq_left (Nat.le_of_lt hl), if_pos rfl, if_neg hs]
      · rw [Nat.max_eq_left hl, Nat.min_eq_right hl, if_pos rfl, if_neg (fun z => hs z.symm)]
    · rw [jn_1 hs, jn_1 hs, z]
theorem foldl_Iv {M : List Str4} {g : Nat → Int32} (hg : Pot M g) : ∀ (L : List Str4) (q : Grp), (∀ x ∈ L, x ∈ M) → Iv M g q → Iv M g (L.foldl jn q) ∧ (∀ x ∈ L, (L.foldl jn q).1 x.1 = (L.foldl jn q).1 x.2.1) ∧ ∀ a b, q.1 a = q.1 b → (L.foldl jn q).1 a = (L.foldl jn q).1 b := by
  intro L
  induction L with
  | nil => intro q _ h; exact ⟨h, fun x hx => (List.not_mem_nil hx).elim, fun _ _ z => z⟩
  | cons y L ih =>
    intro q hL h
    have hy : y ∈ M := hL y List.mem_cons_self
    obtain ⟨a1, a2, a3⟩ := jn_Iv hy (hg y hy) h
    obtain ⟨b1, b2, b3⟩ := ih (jn q y) (fun x hx => hL x (List.mem_cons_of_mem _ hx)) a1
    refine ⟨b1, fun x hx => ?_, fun a b z => b3 a b (a3 a b z)⟩
    rcases List.mem_cons.mp hx with rfl | hx
    · exact b3 _ _ a2
    · exact b2 x hx
theorem Iv.g0 {L : List Str4} {g : Nat → Int32} : Iv L g g0 := ⟨fun k => Con.rf k, fun k => Nat.le_refl k, fun k => by show (0 : Int32) = g k ^^^ g k; rw [Int32.xor_self]⟩
theorem grp_Iv {L : List Str4} {g : Nat → Int32} (hg : Pot L g) : Iv L g (grp L) ∧ ∀ x ∈ L, (grp L).1 x.1 = (grp L).1 x.2.1 := by
  obtain ⟨a, b, -⟩ := foldl_Iv hg L g0 (fun _ h => h) Iv.g0
  exact ⟨a, b⟩
/-- the lowest puppet of a group is its own lowest, on side 0 -/
theorem grp_top {L : List Str4} {g : Nat → Int32} (hg : Pot L g) (k : Nat) : (grp L).1 ((grp L).1 k) = (grp L).1 k ∧ (grp L).2 ((grp L).1 k) = 0 := by
  obtain ⟨h, e⟩ := grp_Iv hg
  have c1 : ∀ a b, Con L a b → (grp L).1 a = (grp L).1 b := fun a b z => z (fun a b => (grp L).1 a = (grp L).1 b) (fun _ => rfl) (fun _ _ z => z.symm) (fun _ _ _ z z' => z.trans z') e
  have h1 := (c1 _ _ (h.1 k)).symm
  exact ⟨h1, by rw [h.2.2, h1, Int32.xor_self]⟩
theorem grp_con {L : List Str4} {g : Nat → Int32} (hg : Pot L g) {a b : Nat} : (grp L).1 a = (grp L).1 b ↔ Con L a b := by
  obtain ⟨h, e⟩ := grp_Iv hg
  constructor
  · intro z
    exact (h.1 a).tr (by rw [z]; exact (h.1 b).sy)
  · intro z
    exact z (fun a b => (grp L).1 a = (grp L).1 b) (fun _ => rfl) (fun _ _ z => z.symm) (fun _ _ _ z z' => z.trans z') e

