/-! cut and cutDeal -/
theorem RMBs {s s' : Nat → Int32} {n : Nat} {se le pu : Nat → Int32} {L L' : List Str4} (h : RMB s n se le pu L) (h1 : s' 149 = nI L'.length) (h2 : L'.length ≤ 20) (h3 : ∀ k, k < L'.length → s' (36 + 4 * k) = nI (sg L' k).1 ∧ s' (36 + 4 * k + 1) = nI (sg L' k).2.1 ∧ s' (36 + 4 * k + 2) = (sg L' k).2.2.1 ∧ s' (36 + 4 * k + 3) = (sg L' k).2.2.2) (h4 : ∀ i, i < 36 ∨ i = 148 → s' i = s i) (hn : n ≤ 12) : RMB s' n se le pu L' := by
  refine ⟨by rw [h4 148 (Or.inr rfl), h.1], fun k hk => ?_, h1, h2, h3⟩
  rw [h4 _ (by omega), h4 _ (by omega), h4 _ (by omega)]
  exact h.2.1 k hk
theorem cutS_spec {P : SPar} {n : Nat} {se le pu : Nat → Int32} {L : List Str4} {g : Nat → Int32} {j : Nat} (hA : AW n se le pu L g) (hP : RC P n se le pu L g) (hj : j < L.length) : ∃ P', X1_cutString P (nI j) = some (P', nI (L.length - 1)) ∧ RC P' n se le pu (L.eraseIdx j) g ∧ P'.2.1 1 = P.2.1 1 ∧ P'.2.1 2 = P.2.1 2 ∧ P'.2.2.2 = P.2.2.2 ∧ P'.2.2.1.2 1 = P.2.2.1.2 1 + 1 := by
  obtain ⟨K', a1, a2, a3⟩ := strs_spec hP.2.1 hj
  have hA2 := hA.sub (L' := L.eraseIdx j) erase_mem
  obtain ⟨P1, P', t0, t1, t2, t3⟩ := tell_spec (P := (P.1, P.2.1, K', P.2.2.2)) hA2 hP.1 a2
  have hlen := hP.2.1.2.1
  have hh : X3_has P.2.2.1 (nI j) = 1 := by
    unfold X3_has
    rw [hP.2.1.1, if_neg (nI_pos (by omega)), if_neg (nI_ge hj (by omega))]
  refine ⟨P', ?_, t2, t3.2.1 1 (by decide), t3.2.1 2 (by decide), by rw [t3.2.2], by rw [t3.2.2]; exact a3⟩
  unfold X1_cutString
  rw [hh, if_neg (by decide), bind_some' a1]
  show Option.bind (X1_tellGroups (P.1, P.2.1, K', P.2.2.2)) _ = _
  rw [bind_some' t0, bind_some' t1, t2.2.1.1, len_erase hj]
/-- how many of the first i are of a deal, and what is left when these are cut -/
def cn (d : Int32) (X : List Str4) (i : Nat) : Int32 := it (fun k (t : Int32) => if (sg X k).2.2.2 = d then t + 1 else t) i 0
def cdl (d : Int32) : Nat → List Str4 → List Str4
  | 0, X => X
  | i + 1, X => cdl d i (if (sg X i).2.2.2 = d then X.eraseIdx i else X)
theorem cdl_mem {d : Int32} : ∀ {i : Nat} {X : List Str4}, ∀ x ∈ cdl d i X, x ∈ X := by
  intro i
  induction i with
  | zero => intro X x hx; exact hx
  | succ i ih =>
    intro X x hx
    have h1 := ih x hx
    split at h1
    · exact erase_mem x h1
    · exact h1
theorem cn_erase {d : Int32} {X : List Str4} {i : Nat} : cn d (X.eraseIdx i) i = cn d X i := by
  unfold cn
  exact it_cong (fun k t hk => by rw [sg_erase, if_pos hk])
theorem cn_nat {d : Int32} {X : List Str4} : ∀ {i : Nat}, ∃ m, m ≤ i ∧ cn d X i = nI m := by
  intro i
  induction i with
  | zero => exact ⟨0, Nat.le_refl 0, rfl⟩
  | succ i ih =>
    obtain ⟨m, h1, h2⟩ := ih
    have e : cn d X (i + 1) = if (sg X i).2.2.2 = d then cn d X i + 1 else cn d X i := rfl
    rw [e, h2]
    split
    · exact ⟨m + 1, by omega, nI_1 m⟩
    · exact ⟨m, by omega, rfl⟩
