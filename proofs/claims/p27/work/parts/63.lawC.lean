/-! the law's votes -/
theorem bs {α β : Type} (a : α) (f : α → Option β) : (some a).bind f = f a := rfl
theorem i10 : ¬ (1 : Int32) = 0 := by decide
theorem im1 : (-1 : Int32) < 0 := by decide
/-- the law's puppets -/
def RL1 (M : SLaw) (n : Nat) (se le pu : Nat → Int32) : Prop := M 3 0 = nI n ∧ ∀ k, k < n → M 0 (3 * k) = se k ∧ M 0 (3 * k + 1) = le k ∧ M 0 (3 * k + 2) = pu k
theorem KG.r1 {M M' : SLaw} {n : Nat} {se le pu : Nat → Int32} (h : KG M M') (hf : RL1 M n se le pu) : RL1 M' n se le pu := by
  unfold RL1
  rw [h 3 (by decide), h 0 (by decide)]
  exact hf
theorem cG_nat {q : Grp} : ∀ {n : Nat}, ∃ m, m ≤ n ∧ cG n q = nI m ∧ (∀ a, a < n → q.1 a = a → 1 ≤ m) ∧ ∀ a b, a < b → b < n → q.1 a = a → q.1 b = b → 2 ≤ m := by
  intro n
  induction n with
  | zero => exact ⟨0, Nat.le_refl 0, rfl, fun a h => absurd h (Nat.not_lt_zero a), fun a b _ h => absurd h (Nat.not_lt_zero b)⟩
  | succ n ih =>
    obtain ⟨m, h1, h2, h3, h4⟩ := ih
    have hc : cG (n + 1) q = if q.1 n = n then cG n q + 1 else cG n q := rfl
    rw [hc, h2]
    by_cases c : q.1 n = n
    · rw [if_pos c]
      refine ⟨m + 1, by omega, nI_1 m, fun _ _ _ => by omega, fun a b hab hb ha hb2 => ?_⟩
      have := h3 a (by omega) ha
      omega
    · rw [if_neg c]
      refine ⟨m, by omega, rfl, fun a ha e => ?_, fun a b hab hb ha hb2 => ?_⟩
      · have : a ≠ n := by
          intro z
          rw [z] at e
          exact c e
        exact h3 a (by omega) e
      · have : b ≠ n := by
          intro z
          rw [z] at hb2
          exact c hb2
        exact h4 a b hab (by omega) ha hb2
theorem ys_sm {se le : Nat → Int32} {q : Grp} {j : Nat} : ∀ n, ys se le q j n = sm (fun i => if q.1 i = j ∧ ¬ le i = q.2 i then se i else 0) n := by
  intro n
  induction n with
  | zero => rfl
  | succ n ih =>
    show ys se le q j n + _ = sm _ n + _
    rw [ih]
theorem ns_sm {se le : Nat → Int32} {q : Grp} {j : Nat} : ∀ n, ns se le q j n = sm (fun i => if q.1 i = j ∧ le i = q.2 i then se i else 0) n := by
  intro n
  induction n with
  | zero => rfl
  | succ n ih =>
    show ns se le q j n + _ = sm _ n + _
    rw [ih]
theorem ys_nat {n j : Nat} {se le pu : Nat → Int32} {L : List Str4} {g : Nat → Int32} {q : Grp} (hA : AW n se le pu L g) : ∃ m, m ≤ 108 ∧ ys se le q j n = nI m := by
  rw [ys_sm]
  have hn := hA.1
  obtain ⟨m, h1, h2⟩ := sm_nat (f := fun i => if q.1 i = j ∧ ¬ le i = q.2 i then se i else 0) (n := n) (fun k hk => by
    obtain ⟨z, z1, z2, z3⟩ := (hA.2.2.2 k hk).1
    show ∃ m, m ≤ 9 ∧ (if q.1 k = j ∧ ¬ le k = q.2 k then se k else 0) = nI m
    split
    · exact ⟨z, z2, z3⟩
    · exact ⟨0, by omega, rfl⟩)
  exact ⟨m, by omega, h2⟩
theorem ns_nat {n j : Nat} {se le pu : Nat → Int32} {L : List Str4} {g : Nat → Int32} {q : Grp} (hA : AW n se le pu L g) : ∃ m, m ≤ 108 ∧ ns se le q j n = nI m := by
  rw [ns_sm]
  have hn := hA.1
  obtain ⟨m, h1, h2⟩ := sm_nat (f := fun i => if q.1 i = j ∧ le i = q.2 i then se i else 0) (n := n) (fun k hk => by
    obtain ⟨z, z1, z2, z3⟩ := (hA.2.2.2 k hk).1
    show ∃ m, m ≤ 9 ∧ (if q.1 k = j ∧ le k = q.2 k then se k else 0) = nI m
    split
    · exact ⟨z, z2, z3⟩
    · exact ⟨0, by omega, rfl⟩)
  exact ⟨m, by omega, h2⟩
theorem p3neg {a : Int32} (h : a = -1 ∨ a = 0 ∨ a = 1) : a < 0 ↔ a = -1 := by
  rcases h with e | e | e <;> rw [e] <;> decide
/-- what one member brings: leanings, and a pull -/
theorem yes_in {K : SLaw} {n k : Nat} {se le pu : Nat → Int32} {L : List Str4} {g : Nat → Int32} (x5 x6 : Int32) (hA : AW n se le pu L g) (hR : RL1 K n se le pu) (hL : LG K (grp L) n) (hk : k < n) (ck : (grp L).1 k = k) :
    ∃ r : Int32 × Int32, L_yes_L49 FUEL K x5 x6 (nI k) 0 (-1) (nI k) = some r ∧ r.1 = ys se le (grp L) k n - ns se le (grp L) k n ∧ ((r.2 = -1 ∧ ¬ hp n pu (grp L) k) ∨ (r.2 = g k ∧ (g k = 0 ∨ g k = 1) ∧ hp n pu (grp L) k)) := by
  have hn := hA.1
  have hq := hA.q
  obtain ⟨r, ⟨h1, h2⟩, h3⟩ := loop_FUEL (f := fun fu (s : Int32 × Int32) i => L_yes_L49 fu K x5 x6 (nI k) s.1 s.2 i) (n := n)
    (fun j s => s.1 = ys se le (grp L) k j - ns se le (grp L) k j ∧ ((s.2 = -1 ∧ ∀ m, m < j → pu m ≠ -1 → (grp L).1 m ≠ k) ∨ (s.2 = g k ∧ (g k = 0 ∨ g k = 1) ∧ hp n pu (grp L) k)))
    (fun s => s.1 = ys se le (grp L) k n - ns se le (grp L) k n ∧ ((s.2 = -1 ∧ ∀ m, m < n → pu m ≠ -1 → (grp L).1 m ≠ k) ∨ (s.2 = g k ∧ (g k = 0 ∨ g k = 1) ∧ hp n pu (grp L) k))) (by omega)
    (by
      rintro fu j ⟨s1, s2⟩ hj ⟨i1, i2⟩
      have i1 : s1 = ys se le (grp L) k j - ns se le (grp L) k j := i1
      right
      obtain ⟨l1, l2⟩ := hL j hj
      obtain ⟨r1, r2, r3⟩ := hR.2 j hj
      have qj := hq.1 j
      have hp3 := (hA.2.2.2 j hj).2.2.1
      have ey : ys se le (grp L) k (j + 1) = ys se le (grp L) k j + (if (grp L).1 j = k ∧ ¬ le j = (grp L).2 j then se j else 0) := rfl
      have en : ns se le (grp L) k (j + 1) = ns se le (grp L) k j + (if (grp L).1 j = k ∧ le j = (grp L).2 j then se j else 0) := rfl
      show ∃ s' : Int32 × Int32, _ ∧ L_yes_L49 (fu + 1) K x5 x6 (nI k) s1 s2 (nI j) = L_yes_L49 fu K x5 x6 (nI k) s'.1 s'.2 (nI (j + 1))
      rw [L_yes_L49]
      by_cases c : (grp L).1 j = k
      · have hJ : L_yes_J63 K x5 x6 (nI k) s1 s2 (nI j) (nI k) (nI ((grp L).1 j)) = 1 := by unfold L_yes_J63; rw [if_pos (by rw [c])]
        have hJ7 : L_yes_J77 K x5 x6 (nI k) s2 (nI j) 1 1 s1 = some (if le j = (grp L).2 j then -se j else se j) := by
          unfold L_yes_J77
          simp (disch := omega) only [i10, m3e, nI_1, a12e, nI_clamp, gN, not_false_eq_true, ↓reduceIte, r1, r2, l2]
          split <;> rfl
        have hfit : s1 + (if le j = (grp L).2 j then -se j else se j) = ys se le (grp L) k (j + 1) - ns se le (grp L) k (j + 1) := by
          rw [ey, en, i1]
          by_cases cl : le j = (grp L).2 j
          · rw [if_pos cl, if_neg (fun z => z.2 cl), if_pos ⟨c, cl⟩, Int32.add_zero, Int32.sub_eq_add_neg, Int32.sub_eq_add_neg, Int32.neg_add, Int32.add_assoc, Int32.sub_eq_add_neg]
          · rw [if_neg cl, if_pos ⟨c, cl⟩, if_neg (fun z => cl z.2), Int32.add_zero, Int32.sub_eq_add_neg, Int32.sub_eq_add_neg, Int32.add_assoc, Int32.add_assoc, Int32.add_comm (-_)]
        simp (disch := omega) only [cl0, hR.1, nI_ge, m3e, nI_1, p2e, a12e, nI_clamp, gN, not_false_eq_true, ↓reduceIte, l1, l2, r3, hJ, hJ7, bs, i10]
        by_cases cp : pu j = -1
        · rw [if_pos ((p3neg hp3).mpr cp)]
          refine ⟨(_, s2), ⟨hfit, ?_⟩, rfl⟩
          rcases i2 with ⟨z1, z2⟩ | z
          · refine Or.inl ⟨z1, fun m hm hpm => ?_⟩
            by_cases cm : m = j
            · rw [cm] at hpm
              exact absurd cp hpm
            · exact z2 m (by omega) hpm
          · exact Or.inr z
        · rw [if_neg (fun z => cp ((p3neg hp3).mp z))]
          have e1 : (if pu j = (grp L).2 j then (0 : Int32) else 1) = g k := by
            rw [xv (p01 hp3 cp) (hq.2.2.2 j), ← (hA.2.2.2 j hj).2.2.2 cp, hq.2.2.1 j, c, xor_q]
          have e2 : g k = 0 ∨ g k = 1 := by
            rw [← e1]
            split
            · exact Or.inl rfl
            · exact Or.inr rfl
          refine ⟨(_, g k), ⟨hfit, Or.inr ⟨rfl, e2, j, hj, cp, c⟩⟩, ?_⟩
          rw [← e1]
          split <;> rfl
      · have hJ : L_yes_J63 K x5 x6 (nI k) s1 s2 (nI j) (nI k) (nI ((grp L).1 j)) = 0 := by unfold L_yes_J63; rw [if_neg (by rw [nI_eq (by omega) (by omega)]; exact c)]
        have hJ7 : L_yes_J77 K x5 x6 (nI k) s2 (nI j) 0 0 s1 = some 0 := by
          unfold L_yes_J77
          rw [if_pos rfl]
        simp (disch := omega) only [cl0, hR.1, nI_ge, nI_1, nI_clamp, gN, not_false_eq_true, ↓reduceIte, l1, hJ, hJ7, bs]
        refine ⟨(s1 + 0, s2), ⟨?_, ?_⟩, rfl⟩
        · show s1 + 0 = _
          rw [ey, en, if_neg (fun z => c z.1), if_neg (fun z => c z.1), Int32.add_zero, Int32.add_zero, Int32.add_zero, i1]
        · rcases i2 with ⟨z1, z2⟩ | z
          · refine Or.inl ⟨z1, fun m hm hpm => ?_⟩
            by_cases cm : m = j
            · rw [cm]
              exact c
            · exact z2 m (by omega) hpm
          · exact Or.inr z)
    (by
      rintro fu s hi
      refine ⟨s, hi, ?_⟩
      show L_yes_L49 (fu + 1) K x5 x6 (nI k) s.1 s.2 (nI n) = _
      rw [L_yes_L49, cl0, hR.1, if_pos (nI_le (Nat.le_refl _) (by omega))])
    (k := k) (s := (0, -1)) (x := nI k) (by omega) rfl ⟨by
      show (0 : Int32) = _
      rw [(ys_low hq.1 k (Nat.le_refl k)).1, (ys_low hq.1 k (Nat.le_refl k)).2]
      rfl, Or.inl ⟨rfl, fun m hm _ => by have := hq.1 m; omega⟩⟩
  refine ⟨r, h3, h1, ?_⟩
  rcases h2 with ⟨z1, z2⟩ | z
  · exact Or.inl ⟨z1, fun ⟨m, m1, m2, m3⟩ => z2 m m1 m2 m3⟩
  · exact Or.inr z
