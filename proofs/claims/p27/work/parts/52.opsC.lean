/-! tie -/
theorem sg_snoc (L : List Str4) (x : Str4) (k : Nat) (h : k ≤ L.length) : sg (L ++ [x]) k = if k = L.length then x else sg L k := by
  unfold sg
  rw [List.getD_eq_getElem?_getD, List.getD_eq_getElem?_getD]
  by_cases c : k = L.length
  · rw [if_pos c, c, List.getElem?_append_right (Nat.le_refl _), Nat.sub_self]
    rfl
  · rw [if_neg c, List.getElem?_append_left (by omega)]
theorem AW_fl {n : Nat} {se le pu : Nat → Int32} {L : List Str4} {g : Nat → Int32} (h : AW n se le pu L g) {p : Nat} (t : Int32) (hno : ¬ hp n pu (grp L) ((grp L).1 p)) : AW n se le pu L (fl g (grp L) p t) := by
  refine ⟨h.1, h.2.1, fl_Pot h.2.2.1 p t, fun k hk => ⟨(h.2.2.2 k hk).1, (h.2.2.2 k hk).2.1, (h.2.2.2 k hk).2.2.1, fun hpk => ?_⟩⟩
  unfold fl
  by_cases c : (grp L).1 k = (grp L).1 p
  · exact absurd ⟨k, hk, hpk, c⟩ hno
  · rw [if_neg c]
    exact (h.2.2.2 k hk).2.2.2 hpk
theorem AW_snoc {n : Nat} {se le pu : Nat → Int32} {L : List Str4} {g : Nat → Int32} {x : Str4} (h : AW n se le pu L g) (hx : x.1 < x.2.1 ∧ x.2.1 < n ∧ (x.2.2.1 = 0 ∨ x.2.2.1 = 1)) (hg : g x.1 ^^^ g x.2.1 = x.2.2.1) : AW n se le pu (L ++ [x]) g := by
  refine ⟨h.1, fun y hy => ?_, fun y hy => ?_, h.2.2.2⟩
  · rcases List.mem_append.mp hy with hy | hy
    · exact h.2.1 y hy
    · rw [List.mem_singleton.mp hy]
      exact hx
  · rcases List.mem_append.mp hy with hy | hy
    · exact h.2.2.1 y hy
    · rw [List.mem_singleton.mp hy]
      exact hg
theorem xor_u {a b u : Int32} : (a ^^^ ((a ^^^ b) ^^^ u)) ^^^ b = u := by
  rw [Int32.xor_assoc a b u, xor_q, Int32.xor_comm b u, Int32.xor_assoc, Int32.xor_self, Int32.xor_zero]
/-- a string that is not refused leaves a potential -/
theorem AW_tie {n : Nat} {se le pu : Nat → Int32} {L : List Str4} {g : Nat → Int32} {a b : Nat} {u d : Int32} (hA : AW n se le pu L g) (ha : a < n) (hb : b < n) (hab : a ≠ b) (hu : u = 0 ∨ u = 1) (h : TR n pu (grp L) g L a b u 0) : ∃ g', AW n se le pu (L ++ [(min a b, max a b, u, d)]) g' := by
  have hx : ((min a b, max a b, u, d) : Str4).1 < ((min a b, max a b, u, d) : Str4).2.1 ∧ ((min a b, max a b, u, d) : Str4).2.1 < n ∧ (((min a b, max a b, u, d) : Str4).2.2.1 = 0 ∨ ((min a b, max a b, u, d) : Str4).2.2.1 = 1) := by
    refine ⟨?_, ?_, hu⟩
    · show min a b < max a b
      omega
    · show max a b < n
      omega
  have hmm : ∀ f : Nat → Int32, f a ^^^ f b = u → f ((min a b, max a b, u, d) : Str4).1 ^^^ f ((min a b, max a b, u, d) : Str4).2.1 = ((min a b, max a b, u, d) : Str4).2.2.1 := by
    intro f hf
    show f (min a b) ^^^ f (max a b) = u
    rcases Nat.le_total a b with c | c
    · rw [Nat.min_eq_left c, Nat.max_eq_right c, hf]
    · rw [Nat.min_eq_right c, Nat.max_eq_left c, Int32.xor_comm, hf]
  rcases h with ⟨-, z⟩ | ⟨-, ⟨-, ⟨c2, -⟩ | ⟨-, z⟩⟩ | ⟨c, ⟨-, z⟩ | ⟨c2, -⟩⟩⟩
  · exact absurd z (by decide)
  · exact ⟨g, AW_snoc hA hx (hmm g c2)⟩
  · exact absurd z (by decide)
  · exact absurd z (by decide)
  · rcases Classical.em (hp n pu (grp L) ((grp L).1 a)) with h1 | h1
    · rcases Classical.em (hp n pu (grp L) ((grp L).1 b)) with h2 | h2
      · have c3 : g a ^^^ g b = u := Classical.byContradiction (fun z => c2 ⟨h1, h2, z⟩)
        exact ⟨g, AW_snoc hA hx (hmm g c3)⟩
      · refine ⟨_, AW_snoc (AW_fl hA ((g b ^^^ g a) ^^^ u) h2) hx (hmm _ ?_)⟩
        unfold fl
        rw [if_neg c, if_pos rfl, Int32.xor_comm, xor_u]
    · refine ⟨_, AW_snoc (AW_fl hA ((g a ^^^ g b) ^^^ u) h1) hx (hmm _ ?_)⟩
      unfold fl
      rw [if_pos rfl, if_neg (fun z => c z.symm), xor_u]
