/-! the relation of a parliament and the reference's account -/
def ButV (P K : SPar) : Prop := (∀ i, i < 3 → K.1 i = P.1 i) ∧ (∀ i, i < 3 → K.2.1 i = P.2.1 i) ∧ K.2.2 = P.2.2
def RC (P : SPar) (n : Nat) (se le pu : Nat → Int32) (L : List Str4) (g : Nat → Int32) : Prop := RB P n se le pu ∧ RS P.2.2.1 L ∧ GR P (grp L) n ∧ Vt n se le pu (grp L) g (P.1 5) ∧ P.2.1 3 = sm se n ∧ P.2.1 4 = sm (fun i => P.1 5 i * se i) n
theorem ButV.RB {P K : SPar} {n : Nat} {se le pu : Nat → Int32} (h : ButV P K) (hP : RB P n se le pu) : RB K n se le pu := ⟨by rw [h.2.1 0 (by decide)]; exact hP.1, fun k hk => by rw [h.1 0 (by decide), h.1 1 (by decide), h.1 2 (by decide)]; exact hP.2 k hk⟩
theorem But34.V {P K : SPar} (h : But34 P K) : ButV P K := ⟨fun i hi => h.1 i (by omega) (by omega), fun i _ => by rw [h.2], by rw [h.2]⟩
theorem But5.V {P K : SPar} (h : But5 P K) : ButV P K := ⟨fun i hi => h.1 i (by omega), fun i hi => h.2.1 i (by omega) (by omega), h.2.2⟩
theorem ButV.tr {P Q R : SPar} (h1 : ButV P Q) (h2 : ButV Q R) : ButV P R := ⟨fun i a => (h2.1 i a).trans (h1.1 i a), fun i a => (h2.2.1 i a).trans (h1.2.1 i a), h2.2.2.trans h1.2.2⟩
theorem tellV_spec {P : SPar} {n : Nat} {se le pu : Nat → Int32} {L : List Str4} {g : Nat → Int32} (hA : AW n se le pu L g) (hP : RB P n se le pu) (hL : RS P.2.2.1 L) (hg : GR P (grp L) n) : ∃ P', X1_tellVotes P = some P' ∧ RC P' n se le pu L g ∧ ButV P P' := by
  obtain ⟨P2, h1, h2, h3, h4, h5⟩ := tellVotes_spec hA.1 hP hg (grp_le L)
  exact ⟨P2, h1, ⟨h2.RB hP, by rw [h2.2.2]; exact hL, h2.GR hg, VTi_Vt hA h3, h4, h5⟩, h2.V⟩
theorem tell_spec {P : SPar} {n : Nat} {se le pu : Nat → Int32} {L : List Str4} {g : Nat → Int32} (hA : AW n se le pu L g) (hP : RB P n se le pu) (hL : RS P.2.2.1 L) : ∃ P1 P2, X1_tellGroups P = some P1 ∧ X1_tellVotes P1 = some P2 ∧ RC P2 n se le pu L g ∧ ButV P P2 := by
  obtain ⟨P1, h1, h2, h3⟩ := tellGroups_spec hA.1 hP.1 hL hA.2.1
  obtain ⟨P2, g1, g2, g3⟩ := tellV_spec hA (h3.V.RB hP) (by rw [h3.V.2.2]; exact hL) h2
  exact ⟨P1, P2, h1, g1, g2, h3.V.tr g3⟩
/-- what is beside the puppets and strings -/
def EX (P : SPar) (s : Nat → Int32) (n : Nat) : Prop :=
  (∃ sp, (sp < n ∨ (n = 0 ∧ sp = 0)) ∧ P.2.1 1 = nI sp ∧ s 150 = nI sp) ∧ (∃ b, b ≤ 12 ∧ P.2.1 2 = nI b ∧ s 155 = nI b) ∧
  (∃ ss, ss ≤ 999 ∧ P.2.2.2.2 0 = nI ss ∧ s 151 = nI ss ∧ s 153 = nI (min ss 8)) ∧ P.2.2.2.2 1 = s 152 ∧ (∀ k, k < 32 → P.2.2.2.1 k = s (116 + k)) ∧ P.2.2.1.2 1 = s 154 ∧ (∀ k, n ≤ k → k < 12 → s (3 * k + 2) = 0)
def AB (P : SPar) (s : Nat → Int32) : Prop := ∃ n se le pu L g, AW n se le pu L g ∧ RC P n se le pu L g ∧ RMB s n se le pu L ∧ EX P s n
/-! the reference's history -/
def npst (past s : Nat → Int32) (t : Nat) : Nat → Int32 :=
  if t = 4 then fun k => if 468 ≤ k ∧ k < 624 then s (k - 468) else if k < 468 then past (k + 156) else past k
  else fun k => if 156 * t ≤ k ∧ k < 156 * t + 156 then s (k - 156 * t) else past k
theorem up_up {α : Type} (f : Nat → α) (k : Nat) (a b : α) : up (up f k a) k b = up f k b := by
  funext j
  rw [up_at, up_at, up_at]
  by_cases h : j = k
  · rw [if_pos h, if_pos h]
  · rw [if_neg h, if_neg h, if_neg h]
theorem up_self {α : Type} (f : Nat → α) (k : Nat) : up f k (f k) = f := by
  funext j
  rw [up_at]
  by_cases h : j = k
  · rw [if_pos h, h]
  · rw [if_neg h]
theorem ixg {k N : Nat} (h : k < N) (hN : N < 100000) : ¬ (nI k < 0 ∨ N ≤ Int32.toNatClampNeg (nI k)) := by
  rintro (h1 | h1)
  · exact nI_pos (by omega) h1
  · rw [nI_clamp (by omega)] at h1
    omega
/-! numbers in their ranges -/
