/-! cut and cutDeal -/
theorem strB {K : SStr} {M : SMod} {L : List Str4} (hK : RS K L) (hM : M.1 0 149 = nI L.length) (x : Int32) : (∃ p, p < L.length ∧ x = nI p ∧ X3_has K x = 1 ∧ X7_isString M x = some 1) ∨ (X3_has K x = 0 ∧ X7_isString M x = some 0) := by
  have e : X3_has K x = if x < 0 then (0 : Int32) else if nI L.length ≤ x then 0 else 1 := by
    unfold X3_has
    rw [hK.1]
  have e149 : M.1 0 (Int32.toNatClampNeg 149) = nI L.length := hM
  have e2 : X7_isString M x = some (X7_in x 0 (nI L.length - 1)) := by
    unfold X7_isString
    rw [e149, if_pos (in_01 _ _ _)]
  have hlen := hK.2.1
  rw [e2, e]
  rcases who x (n := L.length) (by omega) with ⟨p, h1, h2, h3, h4⟩ | ⟨h3, h4⟩
  · exact Or.inl ⟨p, h1, h2, h3, by rw [h4]⟩
  · exact Or.inr ⟨h3, by rw [h4]⟩
theorem RMBs {s s' : Nat → Int32} {n : Nat} {se le pu : Nat → Int32} {L L' : List Str4} (h : RMB s n se le pu L) (h1 : s' 149 = nI L'.length) (h2 : L'.length ≤ 20) (h3 : ∀ k, k < L'.length → s' (36 + 4 * k) = nI (sg L' k).1 ∧ s' (36 + 4 * k + 1) = nI (sg L' k).2.1 ∧ s' (36 + 4 * k + 2) = (sg L' k).2.2.1 ∧ s' (36 + 4 * k + 3) = (sg L' k).2.2.2) (h4 : ∀ i, i < 36 ∨ i = 148 → s' i = s i) (hn : n ≤ 12) : RMB s' n se le pu L' := by
  refine ⟨by rw [h4 148 (Or.inr rfl), h.1], fun k hk => ?_, h1, h2, h3⟩
  rw [h4 _ (by omega), h4 _ (by omega), h4 _ (by omega)]
  exact h.2.1 k hk
theorem cutS_spec {P : SPar} {n : Nat} {se le pu : Nat → Int32} {L : List Str4} {g : Nat → Int32} {j : Nat} (hA : AW n se le pu L g) (hP : RC P n se le pu L g) (hj : j < L.length) : ∃ P', X1_cutString P (nI j) = some (P', nI (L.length - 1)) ∧ RC P' n se le pu (L.eraseIdx j) g ∧ P'.2.1 1 = P.2.1 1 ∧ P'.2.1 2 = P.2.1 2 ∧ P'.2.2.2 = P.2.2.2 ∧ P'.2.2.1.2 1 = P.2.2.1.2 1 + 1 := by
  obtain ⟨K', a1, a2, a3⟩ := strs_spec hP.2.1 hj
  have hA2 := hA.sub (L' := L.eraseIdx j) erase_mem
  obtain ⟨P1, P', t0, t1, t2, t3⟩ := tell_spec (P := (P.1, P.2.1, K', P.2.2.2)) hA2 hP.1 a2
  have hlen := hP.2.1.2.1
  have hh : X3_has P.2.2.1 (nI j) = 1 := by
    unfold X3_has
    rw [hP.2.1.1, if_neg (nI_pos (by omega)), if_neg (nI_ge hj (by omega))]
  refine ⟨P', ?_, t2, t3.2.1 1 (by decide), t3.2.1 2 (by decide), by rw [t3.2.2], by rw [t3.2.2]; exact a3⟩
  unfold X1_cutString
  rw [hh, if_neg (by decide), bind_some' a1]
  show Option.bind (X1_tellGroups (P.1, P.2.1, K', P.2.2.2)) _ = _
  rw [bind_some' t0, bind_some' t1, t2.2.1.1, len_erase hj]
theorem op_cut {P : SPar} {M : SMod} (x : Int32) (hab : AB P (M.1 0)) (hW : WM M) : OPS M (X1_cutString P x) (X7_cut M x) := by
  obtain ⟨n, se, le, pu, L, g, hA, hP, hM, hE⟩ := hab
  have hn := hA.1
  have hlen := hM.2.2.2.1
  rcases strB hP.2.1 hM.2.2.1 x with ⟨j, hj, rfl, e1, e2⟩ | ⟨e1, e2⟩
  case inr =>
    refine ⟨P, M, -1000001, ?_, ?_, Or.inl ⟨by decide, KeepS.rf M⟩⟩
    · unfold X1_cutString
      rw [e1, if_pos rfl]
    · unfold X7_cut
      rw [bind_some' e2, if_pos rfl]
  obtain ⟨P', t1, t2, t3, t4, t5, t6⟩ := cutS_spec hA hP hj
  obtain ⟨Mc, c1, c2, c3⟩ := changes_spec hW
  have hs0 : Mc.1 0 = M.1 0 := c3 0 (by decide)
  obtain ⟨s', b1, b2, b3, b4, b5⟩ := cuts_spec (M := Mc) (L := L) (j := j) (by rw [hs0]; exact hM.2.2.1) hlen (by rw [hs0]; exact hM.2.2.2.2) hj
  rw [hs0] at b4 b5
  have hle := len_erase hj
  refine ⟨P', stS Mc s', nI (L.length - 1), t1, ?_, Or.inr ⟨nI_pos' (by omega), ⟨n, se, le, pu, L.eraseIdx j, g, hA.sub erase_mem, t2, ?_, ?_⟩, c2.r (stS_k Mc _)⟩⟩
  · unfold X7_cut
    rw [bind_some' e2, if_neg (by decide), bind_some' c1, bind_some' b1]
    show some (stS Mc s', s' 149) = _
    rw [b2, hle]
  · rw [stS_0]
    exact RMBs hM b2 (by omega) b3 (fun i hi => b5 i (by omega) (by omega) (by omega)) hn
  · rw [stS_0]
    exact EXc hE t3 t4 t5 (by rw [t6, b4, hE.2.2.2.2.2.1]) (fun i h1 h2 h3 h4 h5 => b5 i (by omega) h4 h5) (fun k h1 h2 => by rw [b5 _ (by omega) (by omega) (by omega)]; exact hE.2.2.2.2.2.2 k h1 h2) (Nat.le_refl n)
/-- how many of the first i are of a deal, and what is left when these are cut -/
def cn (d : Int32) (X : List Str4) (i : Nat) : Int32 := it (fun k (t : Int32) => if (sg X k).2.2.2 = d then t + 1 else t) i 0
def cdl (d : Int32) : Nat → List Str4 → List Str4
  | 0, X => X
  | i + 1, X => cdl d i (if (sg X i).2.2.2 = d then X.eraseIdx i else X)
theorem cdl_mem {d : Int32} : ∀ {i : Nat} {X : List Str4}, ∀ x ∈ cdl d i X, x ∈ X := by
  intro i
  induction i with
  | zero => intro X x hx; exact hx
  | succ i ih =>
    intro X x hx
    have h1 := ih x hx
    split at h1
    · exact erase_mem x h1
    · exact h1
theorem cn_erase {d : Int32} {X : List Str4} {i : Nat} : cn d (X.eraseIdx i) i = cn d X i := by
  unfold cn
  exact it_cong (fun k t hk => by rw [sg_erase, if_pos hk])
theorem cn_nat {d : Int32} {X : List Str4} : ∀ {i : Nat}, ∃ m, m ≤ i ∧ cn d X i = nI m := by
  intro i
  induction i with
  | zero => exact ⟨0, Nat.le_refl 0, rfl⟩
  | succ i ih =>
    obtain ⟨m, h1, h2⟩ := ih
    have e : cn d X (i + 1) = if (sg X i).2.2.2 = d then cn d X i + 1 else cn d X i := rfl
    rw [e, h2]
    split
    · exact ⟨m + 1, by omega, nI_1 m⟩
    · exact ⟨m, by omega, rfl⟩
theorem cut_loops {d : Int32} : ∀ (i : Nat) (X : List Str4) (K : SStr) (M : SMod) (cnt many : Int32) (f1 f2 : Nat), i ≤ X.length → SR K (M.1 0) X → i < f1 → i < f2 →
    ∃ K' s', X3_removeAllOf_L9 f1 K d cnt (nI i - 1) = some (K', cnt + cn d X i) ∧ X7_cutDeal_L40 f2 M d many (nI i - 1) = some (stS M s') ∧ SR K' s' (cdl d i X) ∧ ∀ i, (i < 36 ∨ 116 ≤ i) → i ≠ 149 → i ≠ 154 → s' i = M.1 0 i := by
  intro i
  induction i with
  | zero =>
    intro X K M cnt many f1 f2 hi hS h1 h2
    obtain ⟨a, rfl⟩ : ∃ a, f1 = a + 1 := ⟨f1 - 1, by omega⟩
    obtain ⟨b, rfl⟩ : ∃ b, f2 = b + 1 := ⟨f2 - 1, by omega⟩
    refine ⟨K, M.1 0, ?_, ?_, hS, fun _ _ _ _ => rfl⟩
    · rw [X3_removeAllOf_L9, if_pos (by decide)]
      show some (K, cnt) = some (K, cnt + 0)
      rw [Int32.add_zero]
    · rw [X7_cutDeal_L40, if_pos (by decide)]
      unfold stS
      rw [up_self]
  | succ i ih =>
    intro X K M cnt many f1 f2 hi hS h1 h2
    have hlen := hS.1.2.1
    obtain ⟨a, rfl⟩ : ∃ a, f1 = a + 1 := ⟨f1 - 1, by omega⟩
    obtain ⟨b, rfl⟩ : ∃ b, f2 = b + 1 := ⟨f2 - 1, by omega⟩
    have a3 : rget 20 (K.1 3) (nI i) = (sg X i).2.2.2 := by rw [rget_n _ (by omega) (by omega), (hS.1.2.2 i (by omega)).2.2.2]
    have m3 : X7_tied M (nI i) 3 = some (sg X i).2.2.2 := by rw [← (hS.2.2.1 i (by omega)).2.2.2]; exact tied_spec M (k := i) (c := 3) (by omega)
    have en : nI i + (-1) = nI i - 1 := (Int32.sub_eq_add_neg _ _).symm
    have e : cn d X (i + 1) = if (sg X i).2.2.2 = d then cn d X i + 1 else cn d X i := rfl
    rw [nI_pred, X3_removeAllOf_L9, X7_cutDeal_L40, if_neg (nI_pos (by omega)), if_neg (nI_pos (by omega)), a3, bind_some' m3, e, en]
    show ∃ K' s', _ ∧ _ ∧ SR K' s' (cdl d i (if (sg X i).2.2.2 = d then X.eraseIdx i else X)) ∧ _
    by_cases hd : (sg X i).2.2.2 = d
    · rw [if_pos hd, if_pos hd, if_pos hd, if_pos hd]
      obtain ⟨K1, s1, b1, b2, b3, b4⟩ := cut1 hS (j := i) (by omega)
      obtain ⟨K', s', g1, g2, g3, g4⟩ := ih (X.eraseIdx i) K1 (stS M s1) (cnt + 1) many a b (by rw [len_erase (by omega)]; omega) b3 (by omega) (by omega)
      rw [bind_some' b1, bind_some' b2]
      refine ⟨K', s', ?_, ?_, g3, fun k hk h149 h154 => by rw [g4 k hk h149 h154, stS_0, b4 k hk h149 h154]⟩
      · rw [g1, cn_erase, Int32.add_assoc, Int32.add_comm 1]
      · rw [g2, stS_up]
    · rw [if_neg hd, if_neg hd, if_neg hd, if_neg hd]
      exact ih X K M cnt many a b (by omega) hS (by omega) (by omega)
theorem ofDeal_spec {M : SMod} {L : List Str4} (d : Int32) (h1 : M.1 0 149 = nI L.length) (h2 : L.length ≤ 20) (h3 : ∀ k, k < L.length → M.1 0 (36 + 4 * k) = nI (sg L k).1 ∧ M.1 0 (36 + 4 * k + 1) = nI (sg L k).2.1 ∧ M.1 0 (36 + 4 * k + 2) = (sg L k).2.2.1 ∧ M.1 0 (36 + 4 * k + 3) = (sg L k).2.2.2) : X7_ofDeal M d = some (cn d L L.length) := by
  unfold X7_ofDeal
  refine bind_some' (loop_it (f := fun fu t i => X7_ofDeal_L4 fu M d t i) (n := L.length) _ (fun t => t) (by omega) ?_ ?_ _)
  · intro fu k t hk
    have e149 : M.1 0 (Int32.toNatClampNeg 149) = nI L.length := h1
    have m3 : X7_tied M (nI k) 3 = some (sg L k).2.2.2 := by rw [← (h3 k (by omega)).2.2.2]; exact tied_spec M (k := k) (c := 3) (by omega)
    show X7_ofDeal_L4 (fu + 1) M d t (nI k) = X7_ofDeal_L4 fu M d (if (sg L k).2.2.2 = d then t + 1 else t) (nI (k + 1))
    rw [X7_ofDeal_L4, e149, if_neg (nI_ge hk (by omega)), bind_some' m3, nI_1, Int32.add_zero]
    split <;> rfl
  · intro fu t
    have e149 : M.1 0 (Int32.toNatClampNeg 149) = nI L.length := h1
    show X7_ofDeal_L4 (fu + 1) M d t (nI L.length) = _
    rw [X7_ofDeal_L4, e149, if_pos (nI_le (Nat.le_refl _) (by omega))]
theorem op_cutDeal {P : SPar} {M : SMod} (x : Int32) (hab : AB P (M.1 0)) (hW : WM M) : OPS M (X1_cutStringsOf P x) (X7_cutDeal M x) := by
  obtain ⟨n, se, le, pu, L, g, hA, hP, hM, hE⟩ := hab
  have hn := hA.1
  have hlen := hM.2.2.2.1
  rcases inC x (a := 0) (b := 5) (by omega) (by omega) with ⟨m, -, hm, rfl, e3, e4⟩ | ⟨e3, e4⟩
  case inr =>
    have e3 : X6_isIn x 0 5 = 0 := e3
    have e4 : X7_in x 0 5 = 0 := e4
    refine ⟨P, M, -1000001, ?_, ?_, Or.inl ⟨by decide, KeepS.rf M⟩⟩
    · unfold X1_cutStringsOf
      rw [e3, if_pos rfl]
    · unfold X7_cutDeal
      rw [e4, if_pos rfl]
  have e3 : X6_isIn (nI m) 0 5 = 1 := e3
  have e4 : X7_in (nI m) 0 5 = 1 := e4
  obtain ⟨Mc, c1, c2, c3⟩ := changes_spec hW
  have hs0 : Mc.1 0 = M.1 0 := c3 0 (by decide)
  have hSR : SR P.2.2.1 (Mc.1 0) L := by
    rw [hs0]
    exact ⟨hP.2.1, hM.2.2.1, hM.2.2.2.2, hE.2.2.2.2.2.1⟩
  have hdl := ofDeal_spec (M := M) (L := L) (nI m) hM.2.2.1 hlen hM.2.2.2.2
  obtain ⟨K', s', b1, b2, b3, b4⟩ := cut_loops (d := nI m) L.length L P.2.2.1 Mc 0 (cn (nI m) L L.length) FUEL FUEL (Nat.le_refl _) hSR (by unfold FUEL; omega) (by unfold FUEL; omega)
  rw [hs0] at b4
  rw [Int32.zero_add] at b1
  have hrem : X3_removeAllOf P.2.2.1 (nI m) = some (K', cn (nI m) L L.length) := by
    unfold X3_removeAllOf
    rw [hP.2.1.1, bind_some' b1]
  by_cases h0 : cn (nI m) L L.length = 0
  · refine ⟨(P.1, P.2.1, K', P.2.2.2), M, -1000002, ?_, ?_, Or.inl ⟨by decide, KeepS.rf M⟩⟩
    · unfold X1_cutStringsOf
      rw [e3, if_neg (by decide), bind_some' hrem]
      show (if cn (nI m) L L.length = 0 then _ else _) = _
      rw [if_pos h0]
    · unfold X7_cutDeal
      rw [e4, if_neg (by decide), bind_some' hdl, if_pos h0]
  have hA2 := hA.sub (L' := cdl (nI m) L.length L) cdl_mem
  obtain ⟨P1, P', t0, t1, t2, t3⟩ := tell_spec (P := (P.1, P.2.1, K', P.2.2.2)) hA2 hP.1 b3.1
  obtain ⟨q, q1, q2⟩ := cn_nat (d := nI m) (X := L) (i := L.length)
  refine ⟨P', stS Mc s', cn (nI m) L L.length, ?_, ?_, Or.inr ⟨by rw [q2]; exact nI_pos' (by omega), ⟨n, se, le, pu, _, g, hA2, t2, ?_, ?_⟩, c2.r (stS_k Mc _)⟩⟩
  · unfold X1_cutStringsOf
    rw [e3, if_neg (by decide), bind_some' hrem]
    show (if cn (nI m) L L.length = 0 then _ else Option.bind (X1_tellGroups (P.1, P.2.1, K', P.2.2.2)) _) = _
    rw [if_neg h0, bind_some' t0, bind_some' t1]
  · unfold X7_cutDeal
    have f149 : Mc.1 0 (Int32.toNatClampNeg 149) = nI L.length := by rw [hs0]; exact hM.2.2.1
    rw [e4, if_neg (by decide), bind_some' hdl, if_neg h0, bind_some' c1, f149, bind_some' b2]
  · rw [stS_0]
    exact RMBs hM b3.2.1 b3.1.2.1 b3.2.2.1 (fun i hi => b4 i (by omega) (by omega) (by omega)) hn
  · rw [stS_0]
    exact EXc hE (t3.2.1 1 (by decide)) (t3.2.1 2 (by decide)) (by rw [t3.2.2]) (by rw [t3.2.2]; exact b3.2.2.2) (fun i h1 h2 h3 h4 h5 => b4 i (by omega) h4 h5) (fun k h1 h2 => by rw [b4 _ (by omega) (by omega) (by omega)]; exact hE.2.2.2.2.2.2 k h1 h2) (Nat.le_refl n)
