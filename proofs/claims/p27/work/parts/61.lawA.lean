/-! the law's own puppets (rows 0 p, 1 f, 2 b, 3 t, 4 g): its walks over strings tell the groups -/
theorem bnd_at {α β : Type} (x : α) (f : α → β) : bnd x f = f x := rfl
theorem cl0 : Int32.toNatClampNeg 0 = 0 := nI_clamp (n := 0) (by omega)
theorem cl1 : Int32.toNatClampNeg 1 = 1 := nI_clamp (n := 1) (by omega)
theorem cl2 : Int32.toNatClampNeg 2 = 2 := nI_clamp (n := 2) (by omega)
theorem cl3 : Int32.toNatClampNeg 3 = 3 := nI_clamp (n := 3) (by omega)
theorem cl4 : Int32.toNatClampNeg 4 = 4 := nI_clamp (n := 4) (by omega)
theorem cl5 : Int32.toNatClampNeg 5 = 5 := nI_clamp (n := 5) (by omega)
theorem cl6 : Int32.toNatClampNeg 6 = 6 := nI_clamp (n := 6) (by omega)
theorem cl7 : Int32.toNatClampNeg 7 = 7 := nI_clamp (n := 7) (by omega)
theorem m4e (k : Nat) : 4 * nI k = nI (4 * k) := pk_mul 4 k
theorem m3e (k : Nat) : 3 * nI k = nI (3 * k) := pk_mul 3 k
theorem a12e (k : Nat) : 12 + nI k = nI (12 + k) := nI_add 12 k
theorem a24e (k : Nat) : 24 + nI k = nI (24 + k) := nI_add 24 k
theorem p2e (k : Nat) : nI k + 2 = nI (k + 2) := nI_add k 2
theorem p3e (k : Nat) : nI k + 3 = nI (k + 3) := nI_add k 3
theorem gN {j N : Nat} (h : j < N) (hN : N ≤ 1000) : ¬ (nI j < 0 ∨ N ≤ j) := by
  rintro (h1 | h1)
  · exact nI_pos (by omega) h1
  · omega
theorem u44 (K : SLaw) (v : Nat → Int32) : up K 4 v 4 = v := rfl
theorem u40 (K : SLaw) (v : Nat → Int32) : up K 4 v 0 = K 0 := rfl
theorem u41 (K : SLaw) (v : Nat → Int32) : up K 4 v 1 = K 1 := rfl
theorem u42 (K : SLaw) (v : Nat → Int32) : up K 4 v 2 = K 2 := rfl
theorem u43 (K : SLaw) (v : Nat → Int32) : up K 4 v 3 = K 3 := rfl
/-- nothing but the row g differs -/
def KG (M M' : SLaw) : Prop := ∀ i, i ≠ 4 → M' i = M i
theorem KG.rf (M : SLaw) : KG M M := fun _ _ => rfl
theorem KG.tr {P Q R : SLaw} (h1 : KG P Q) (h2 : KG Q R) : KG P R := fun i a => (h2 i a).trans (h1 i a)
theorem KG.u (M : SLaw) (v : Nat → Int32) : KG M (up M 4 v) := fun _ h => up_ne M v h
def LG (M : SLaw) (q : Grp) (n : Nat) : Prop := ∀ k, k < n → M 4 k = nI (q.1 k) ∧ M 4 (12 + k) = q.2 k
/-- the law's strings -/
def FS (M : SLaw) (L : List Str4) : Prop := M 3 1 = nI L.length ∧ L.length ≤ 15 ∧ ∀ k, k < L.length → M 1 (4 * k) = nI (sg L k).1 ∧ M 1 (4 * k + 1) = nI (sg L k).2.1 ∧ M 1 (4 * k + 2) = (sg L k).2.2.1 ∧ M 1 (4 * k + 3) = (sg L k).2.2.2
theorem KG.fs {M M' : SLaw} {L : List Str4} (h : KG M M') (hf : FS M L) : FS M' L := by
  unfold FS
  rw [h 3 (by decide), h 1 (by decide)]
  exact hf
/-- a label goes over a string -/
def upS (K : SLaw) (a b : Nat) (kk u : Int32) : SLaw := up (up K 4 (upd (K 4) b kk)) 4 (upd (upd (K 4) b kk) (12 + b) (if K 4 (12 + a) = u then 0 else 1))
theorem L74_at {K : SLaw} {n : Nat} {L : List Str4} (hn : n ≤ 12) (hin : InL L n) (hf : FS K L) (fu : Nat) (w x5 kk x7 : Int32) {i : Nat} (hi : i < L.length) :
    L_groups_L74 (fu + 1) K w x5 kk x7 (nI i) = if nI i = w then L_groups_L74 fu K w x5 kk x7 (nI (i + 1)) else if K 4 (sg L i).1 = kk then (if K 4 (sg L i).1 = K 4 (sg L i).2.1 then L_groups_L74 fu K w x5 kk x7 (nI (i + 1)) else L_groups_L74 fu (upS K (sg L i).1 (sg L i).2.1 kk (sg L i).2.2.1) w x5 kk x7 (nI (i + 1))) else if K 4 (sg L i).2.1 = kk then (if K 4 (sg L i).1 = K 4 (sg L i).2.1 then L_groups_L74 fu K w x5 kk x7 (nI (i + 1)) else L_groups_L74 fu (upS K (sg L i).2.1 (sg L i).1 kk (sg L i).2.2.1) w x5 kk x7 (nI (i + 1))) else L_groups_L74 fu K w x5 kk x7 (nI (i + 1)) := by
  obtain ⟨f1, f2, f3⟩ := hf
  obtain ⟨r0, r1, r2, -⟩ := f3 i hi
  have hx := hin _ (sg_mem hi)
  generalize sg L i = x at r0 r1 r2 hx ⊢
  obtain ⟨a, b, u, d⟩ := x
  simp only at r0 r1 r2 hx ⊢
  have ha : a < 12 := by omega
  have hb : b < 12 := by omega
  have hs1 : nI (a + b) - nI a = nI b := by rw [pk_sub (by omega), Nat.add_sub_cancel_left]
  have hs2 : nI (a + b) - nI b = nI a := by rw [pk_sub (by omega), Nat.add_sub_cancel]
  have hs3 : nI (12 + a + b) - nI a = nI (12 + b) := by rw [pk_sub (by omega)]; congr 1; omega
  have hs4 : nI (12 + a + b) - nI b = nI (12 + a) := by rw [pk_sub (by omega)]; congr 1; omega
  rw [L_groups_L74]
  by_cases c1 : K 4 a = kk
  · have hJ : L_groups_J142 K w x5 kk x7 (nI i) (nI a) (nI b) kk (K 4 a) = nI a := by unfold L_groups_J142; rw [if_pos c1]
    simp (disch := omega) only [cl1, f1, nI_ge, m4e, nI_1, p2e, nI_clamp, r0, r1, gN, not_false_eq_true, ↓reduceIte, hJ, nI_add, a12e, hs1, hs3, bnd_at, u44, u41, r2, pk_un]
    rw [if_pos c1, if_pos c1]
    unfold upS
    by_cases c3 : K 4 (12 + a) = u
    · simp only [if_pos c3]
    · simp only [if_neg c3]
  · have hJ : L_groups_J142 K w x5 kk x7 (nI i) (nI a) (nI b) kk (K 4 a) = nI b := by unfold L_groups_J142; rw [if_neg c1]
    simp (disch := omega) only [cl1, f1, nI_ge, m4e, nI_1, p2e, nI_clamp, r0, r1, gN, not_false_eq_true, ↓reduceIte, hJ, nI_add, a12e, hs2, hs4, bnd_at, u44, u41, r2, pk_un]
    rw [if_neg c1, if_neg c1]
    unfold upS
    by_cases c3 : K 4 (12 + b) = u
    · simp only [if_pos c3]
    · simp only [if_neg c3]
