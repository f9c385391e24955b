/-! tie -/
theorem pairB {P : SPar} {M : SMod} {n : Nat} (hn : n ≤ 12) (hP : P.2.1 0 = nI n) (hM : M.1 0 148 = nI n) (x y : Int32) : (∃ a b, a < n ∧ b < n ∧ a ≠ b ∧ x = nI a ∧ y = nI b ∧ X1_arePair P x y = 1 ∧ X7_isPair M x y = some 1) ∨ (X1_arePair P x y = 0 ∧ X7_isPair M x y = some 0) := by
  have h1 : ¬ (1 : Int32) = 0 := by decide
  rcases pupB hn hP hM x with ⟨a, ha, rfl, e1, e2⟩ | ⟨e1, e2⟩
  · rcases pupB hn hP hM y with ⟨b, hb, rfl, e3, e4⟩ | ⟨e3, e4⟩
    · have p1 : X1_arePair P (nI a) (nI b) = if nI a = nI b then 0 else 1 := by
        unfold X1_arePair
        rw [e1, e3, if_neg h1, if_neg h1]
      have p2 : X7_isPair M (nI a) (nI b) = if nI a = nI b then some 0 else some 1 := by
        unfold X7_isPair
        rw [bind_some' e2, if_neg h1, bind_some' e4, if_neg h1]
      by_cases c : a = b
      · right
        rw [p1, p2, if_pos (show nI a = nI b by rw [c]), if_pos (show nI a = nI b by rw [c])]
        exact ⟨rfl, rfl⟩
      · left
        have c2 : ¬ nI a = nI b := by rw [nI_eq (by omega) (by omega)]; exact c
        rw [if_neg c2] at p1 p2
        exact ⟨a, b, ha, hb, c, rfl, rfl, p1, p2⟩
    · right
      unfold X1_arePair X7_isPair
      rw [e1, e3, if_neg h1, if_pos rfl, bind_some' e2, if_neg h1, bind_some' e4, if_pos rfl]
      exact ⟨rfl, rfl⟩
  · right
    unfold X1_arePair X7_isPair
    rw [e1, if_pos rfl, bind_some' e2, if_pos rfl]
    exact ⟨rfl, rfl⟩
theorem sg_snoc (L : List Str4) (x : Str4) (k : Nat) (h : k ≤ L.length) : sg (L ++ [x]) k = if k = L.length then x else sg L k := by
  unfold sg
  rw [List.getD_eq_getElem?_getD, List.getD_eq_getElem?_getD]
  by_cases c : k = L.length
  · rw [if_pos c, c, List.getElem?_append_right (Nat.le_refl _), Nat.sub_self]
    rfl
  · rw [if_neg c, List.getElem?_append_left (by omega)]
theorem AW_fl {n : Nat} {se le pu : Nat → Int32} {L : List Str4} {g : Nat → Int32} (h : AW n se le pu L g) {p : Nat} (t : Int32) (hno : ¬ hp n pu (grp L) ((grp L).1 p)) : AW n se le pu L (fl g (grp L) p t) := by
  refine ⟨h.1, h.2.1, fl_Pot h.2.2.1 p t, fun k hk => ⟨(h.2.2.2 k hk).1, (h.2.2.2 k hk).2.1, (h.2.2.2 k hk).2.2.1, fun hpk => ?_⟩⟩
  unfold fl
  by_cases c : (grp L).1 k = (grp L).1 p
  · exact absurd ⟨k, hk, hpk, c⟩ hno
  · rw [if_neg c]
    exact (h.2.2.2 k hk).2.2.2 hpk
theorem AW_snoc {n : Nat} {se le pu : Nat → Int32} {L : List Str4} {g : Nat → Int32} {x : Str4} (h : AW n se le pu L g) (hx : x.1 < x.2.1 ∧ x.2.1 < n ∧ (x.2.2.1 = 0 ∨ x.2.2.1 = 1)) (hg : g x.1 ^^^ g x.2.1 = x.2.2.1) : AW n se le pu (L ++ [x]) g := by
  refine ⟨h.1, fun y hy => ?_, fun y hy => ?_, h.2.2.2⟩
  · rcases List.mem_append.mp hy with hy | hy
    · exact h.2.1 y hy
    · rw [List.mem_singleton.mp hy]
      exact hx
  · rcases List.mem_append.mp hy with hy | hy
    · exact h.2.2.1 y hy
    · rw [List.mem_singleton.mp hy]
      exact hg
theorem xor_u {a b u : Int32} : (a ^^^ ((a ^^^ b) ^^^ u)) ^^^ b = u := by
  rw [Int32.xor_assoc a b u, xor_q, Int32.xor_comm b u, Int32.xor_assoc, Int32.xor_self, Int32.xor_zero]
/-- a string that is not refused leaves a potential -/
theorem AW_tie {n : Nat} {se le pu : Nat → Int32} {L : List Str4} {g : Nat → Int32} {a b : Nat} {u d : Int32} (hA : AW n se le pu L g) (ha : a < n) (hb : b < n) (hab : a ≠ b) (hu : u = 0 ∨ u = 1) (h : TR n pu (grp L) g L a b u 0) : ∃ g', AW n se le pu (L ++ [(min a b, max a b, u, d)]) g' := by
  have hx : ((min a b, max a b, u, d) : Str4).1 < ((min a b, max a b, u, d) : Str4).2.1 ∧ ((min a b, max a b, u, d) : Str4).2.1 < n ∧ (((min a b, max a b, u, d) : Str4).2.2.1 = 0 ∨ ((min a b, max a b, u, d) : Str4).2.2.1 = 1) := by
    refine ⟨?_, ?_, hu⟩
    · show min a b < max a b
      omega
    · show max a b < n
      omega
  have hmm : ∀ f : Nat → Int32, f a ^^^ f b = u → f ((min a b, max a b, u, d) : Str4).1 ^^^ f ((min a b, max a b, u, d) : Str4).2.1 = ((min a b, max a b, u, d) : Str4).2.2.1 := by
    intro f hf
    show f (min a b) ^^^ f (max a b) = u
    rcases Nat.le_total a b with c | c
    · rw [Nat.min_eq_left c, Nat.max_eq_right c, hf]
    · rw [Nat.min_eq_right c, Nat.max_eq_left c, Int32.xor_comm, hf]
  rcases h with ⟨-, z⟩ | ⟨-, ⟨-, ⟨c2, -⟩ | ⟨-, z⟩⟩ | ⟨c, ⟨-, z⟩ | ⟨c2, -⟩⟩⟩
  · exact absurd z (by decide)
  · exact ⟨g, AW_snoc hA hx (hmm g c2)⟩
  · exact absurd z (by decide)
  · exact absurd z (by decide)
  · rcases Classical.em (hp n pu (grp L) ((grp L).1 a)) with h1 | h1
    · rcases Classical.em (hp n pu (grp L) ((grp L).1 b)) with h2 | h2
      · have c3 : g a ^^^ g b = u := Classical.byContradiction (fun z => c2 ⟨h1, h2, z⟩)
        exact ⟨g, AW_snoc hA hx (hmm g c3)⟩
      · refine ⟨_, AW_snoc (AW_fl hA ((g b ^^^ g a) ^^^ u) h2) hx (hmm _ ?_)⟩
        unfold fl
        rw [if_neg c, if_pos rfl, Int32.xor_comm, xor_u]
    · refine ⟨_, AW_snoc (AW_fl hA ((g a ^^^ g b) ^^^ u) h1) hx (hmm _ ?_)⟩
      unfold fl
      rw [if_pos rfl, if_neg (fun z => c z.symm), xor_u]
theorem op_tie {P : SPar} {M : SMod} (x y u d : Int32) (hu : u = 0 ∨ u = 1) (hab : AB P (M.1 0)) (hW : WM M) : OPS M (X1_addString P x y u d) (X7_tie M x y u d) := by
  obtain ⟨n, se, le, pu, L, g, hA, hP, hM, hE⟩ := hab
  have hn := hA.1
  have hlen := hM.2.2.2.1
  rcases pairB hn hP.1.1 hM.1 x y with ⟨a, b, ha, hb, hne, rfl, rfl, e1, e2⟩ | ⟨e1, e2⟩
  case inr =>
    refine ⟨P, M, -1000001, ?_, ?_, Or.inl ⟨by decide, KeepS.rf M⟩⟩
    · unfold X1_addString
      rw [e1, if_pos rfl]
    · unfold X7_tie
      rw [bind_some' e2, if_pos rfl]
  rcases inC d (a := 0) (b := 5) (by omega) (by omega) with ⟨m, -, hm, rfl, e3, e4⟩ | ⟨e3, e4⟩
  case inr =>
    have e3 : X6_isIn d 0 5 = 0 := e3
    have e4 : X7_in d 0 5 = 0 := e4
    refine ⟨P, M, -1000001, ?_, ?_, Or.inl ⟨by decide, KeepS.rf M⟩⟩
    · unfold X1_addString
      rw [e1, if_neg (by decide), e3, if_pos rfl]
    · unfold X7_tie
      rw [bind_some' e2, if_neg (by decide), e4, if_pos rfl]
  have e3 : X6_isIn (nI m) 0 5 = 1 := e3
  have e4 : X7_in (nI m) 0 5 = 1 := e4
  obtain ⟨r, r1, r2⟩ := reasonString_spec u hA hP ha hb
  obtain ⟨M1, r', q1, q2, q3⟩ := refused_spec u hA hM ha hb
  have hrr := r2.one q3
  subst hrr
  have eu : X7_tie_J26 M (nI a) (nI b) u (nI m) u (nI b) (nI a) = u := by
    unfold X7_tie_J26
    rcases hu with rfl | rfl
    · rfl
    · rfl
  by_cases hr : r = 0
  case neg =>
    refine ⟨P, M1, -1000002, ?_, ?_, Or.inl ⟨by decide, q2⟩⟩
    · unfold X1_addString
      rw [e1, if_neg (by decide), e3, if_neg (by decide), bind_some' r1, if_neg hr]
    · unfold X7_tie
      rw [bind_some' e2, if_neg (by decide), e4, if_neg (by decide), eu, bind_some' q1, if_neg]
      rcases r2.c with e | e | e | e
      · exact absurd e hr
      · subst e; exact (show ¬ (1 : Int32) ≤ 0 by decide)
      · subst e; exact (show ¬ (2 : Int32) ≤ 0 by decide)
      · subst e; exact (show ¬ (3 : Int32) ≤ 0 by decide)
  subst hr
  have g149 : M1.1 0 (Int32.toNatClampNeg 149) = nI L.length := by rw [q2.s]; exact hM.2.2.1
  by_cases hfull : L.length = 20
  · refine ⟨P, M1, -1000003, ?_, ?_, Or.inl ⟨by decide, q2⟩⟩
    · unfold X1_addString
      rw [e1, if_neg (by decide), e3, if_neg (by decide), bind_some' r1, if_pos rfl, hP.2.1.1, hfull, if_neg (by decide)]
    · unfold X7_tie
      rw [bind_some' e2, if_neg (by decide), e4, if_neg (by decide), eu, bind_some' q1, if_pos (show (0 : Int32) ≤ 0 by decide), g149, hfull, if_pos (show nI 20 = 20 from rfl)]
  obtain ⟨g', hA2⟩ := AW_tie (d := nI m) hA ha hb hne hu r2
  have hmi : (if nI b < nI a then nI b else nI a) = nI (min a b) := min_n (by omega) (by omega)
  have hma : (if nI a < nI b then nI b else nI a) = nI (max a b) := max_n (by omega) (by omega)
  have hapx : X3_append P.2.2.1 (nI a) (nI b) u (nI m) = ((up (up (up (up P.2.2.1.1 0 (upd (P.2.2.1.1 0) L.length (nI (min a b)))) 1 (upd (P.2.2.1.1 1) L.length (nI (max a b)))) 2 (upd (P.2.2.1.1 2) L.length u)) 3 (upd (P.2.2.1.1 3) L.length (nI m)), up P.2.2.1.2 0 (nI (L.length + 1))), nI L.length) := by
    unfold X3_append
    rw [hmi, hma]
    show ((up (up (up (up P.2.2.1.1 0 (rput 20 (P.2.2.1.1 0) (P.2.2.1.2 0) (nI (min a b)))) 1 (rput 20 (P.2.2.1.1 1) (P.2.2.1.2 0) (nI (max a b)))) 2 (rput 20 (P.2.2.1.1 2) (P.2.2.1.2 0) u)) 3 (rput 20 (P.2.2.1.1 3) (P.2.2.1.2 0) (nI m)), up P.2.2.1.2 0 (P.2.2.1.2 0 + 1)), P.2.2.1.2 0 + 1 - 1) = _
    rw [hP.2.1.1, rput_n _ _ (by omega) (by omega), rput_n _ _ (by omega) (by omega), rput_n _ _ (by omega) (by omega), rput_n _ _ (by omega) (by omega), nI_1, nI_pred]
  have hRS : RS (X3_append P.2.2.1 (nI a) (nI b) u (nI m)).1 (L ++ [(min a b, max a b, u, nI m)]) := by
    rw [hapx]
    have hl2 : (L ++ [((min a b, max a b, u, nI m) : Str4)]).length = L.length + 1 := by rw [List.length_append]; rfl
    refine ⟨by rw [hl2]; rfl, by rw [hl2]; omega, fun k hk => ?_⟩
    rw [hl2] at hk
    rw [sg_snoc _ _ _ (by omega)]
    show upd (P.2.2.1.1 0) L.length (nI (min a b)) k = _ ∧ upd (P.2.2.1.1 1) L.length (nI (max a b)) k = _ ∧ upd (P.2.2.1.1 2) L.length u k = _ ∧ upd (P.2.2.1.1 3) L.length (nI m) k = _
    rw [upd_at, upd_at, upd_at, upd_at]
    by_cases hkl : k = L.length
    · rw [if_pos hkl, if_pos hkl, if_pos hkl, if_pos hkl, if_pos hkl]
      exact ⟨rfl, rfl, rfl, rfl⟩
    · rw [if_neg hkl, if_neg hkl, if_neg hkl, if_neg hkl, if_neg hkl]
      exact hP.2.1.2.2 k (by omega)
  obtain ⟨P1, P', t0, t1, t2, t3⟩ := tell_spec (P := (P.1, P.2.1, (X3_append P.2.2.1 (nI a) (nI b) u (nI m)).1, P.2.2.2)) hA2 hP.1 hRS
  obtain ⟨Mc, c1, c2, c3⟩ := changes_spec (hW.k q2)
  have hs0 : Mc.1 0 = M.1 0 := by rw [c3 0 (by decide), q2.s]
  have hl2 : (L ++ [((min a b, max a b, u, nI m) : Str4)]).length = L.length + 1 := by rw [List.length_append]; rfl
  refine ⟨P', stS Mc (upd (upd (upd (upd (upd (Mc.1 0) (36 + 4 * L.length) (nI (min a b))) (36 + 4 * L.length + 1) (nI (max a b))) (36 + 4 * L.length + 2) u) (36 + 4 * L.length + 3) (nI m)) 149 (nI (L.length + 1))), nI L.length, ?_, ?_, Or.inr ⟨nI_pos' (by omega), ⟨n, se, le, pu, _, g', hA2, t2, ?_, ?_⟩, CH.l q2 (c2.r (stS_k Mc _))⟩⟩
  · unfold X1_addString
    rw [e1, if_neg (by decide), e3, if_neg (by decide), bind_some' r1, if_pos rfl, hP.2.1.1, if_pos (show nI L.length < 20 from nI_lt (b := 20) (by omega) (by omega))]
    show Option.bind (X1_tellGroups (P.1, P.2.1, (X3_append P.2.2.1 (nI a) (nI b) u (nI m)).1, P.2.2.2)) _ = _
    rw [bind_some' t0, bind_some' t1, hapx]
  · have f149 : Mc.1 0 (Int32.toNatClampNeg 149) = nI L.length := by rw [hs0]; exact hM.2.2.1
    have e20 : ¬ nI L.length = 20 := fun z => hfull ((nI_eq (b := 20) (by omega) (by omega)).mp z)
    have j88 : ∀ K i, X7_tie_J88 K (nI a) (nI b) u (nI m) i (nI b) (nI a) (i + 0) = nI (min a b) := by
      intro K i
      unfold X7_tie_J88
      by_cases c : b ≤ a
      · rw [if_pos (nI_le c (by omega)), Nat.min_eq_right c]
      · rw [if_neg (nI_ge (by omega) (by omega)), Nat.min_eq_left (by omega)]
    have j107 : ∀ K i, X7_tie_J107 K (nI a) (nI b) u (nI m) i (nI b) (nI a) (i + 1) = nI (max a b) := by
      intro K i
      unfold X7_tie_J107
      by_cases c : b ≤ a
      · rw [if_pos (nI_le c (by omega)), Nat.max_eq_left c]
      · rw [if_neg (nI_ge (by omega) (by omega)), Nat.max_eq_right (by omega)]
    have j125 : ∀ K i, X7_tie_J125 K (nI m) i u (i + 2) = u := by
      intro K i
      unfold X7_tie_J125
      rcases hu with rfl | rfl
      · rfl
      · rfl
    have x0 := ix4 L.length 0
    have x1 := ix4 L.length 1
    have x2 := ix4 L.length 2
    have x3 := ix4 L.length 3
    unfold X7_tie
    rw [bind_some' e2, if_neg (by decide), e4, if_neg (by decide), eu, bind_some' q1, if_pos (show (0 : Int32) ≤ 0 by decide), g149, if_neg e20, bind_some' c1, f149, j88]
    rw [show (36 + 4 * nI L.length) + (0 : Int32) = nI (36 + 4 * L.length) from x0, if_pos (ixg (by omega) (by omega)), nI_clamp (by omega)]
    show (if _ then _ else _) = _
    rw [show (36 + 4 * nI L.length) + (1 : Int32) = nI (36 + 4 * L.length + 1) from x1, if_pos (ixg (by omega) (by omega)), nI_clamp (by omega), show ∀ K, X7_tie_J107 K (nI a) (nI b) u (nI m) (36 + 4 * nI L.length) (nI b) (nI a) (nI (36 + 4 * L.length + 1)) = nI (max a b) from fun K => by rw [← x1]; exact j107 K _]
    show (if _ then _ else _) = _
    rw [show (36 + 4 * nI L.length) + (2 : Int32) = nI (36 + 4 * L.length + 2) from x2, if_pos (ixg (by omega) (by omega)), nI_clamp (by omega), show ∀ K, X7_tie_J125 K (nI m) (36 + 4 * nI L.length) u (nI (36 + 4 * L.length + 2)) = u from fun K => by rw [← x2]; exact j125 K _]
    show (if _ then _ else _) = _
    rw [show (36 + 4 * nI L.length) + (3 : Int32) = nI (36 + 4 * L.length + 3) from x3, if_pos (ixg (by omega) (by omega)), nI_clamp (by omega)]
    show some (stS (stS (stS (stS (stS Mc (upd (Mc.1 0) (36 + 4 * L.length) (nI (min a b)))) (upd (upd (Mc.1 0) (36 + 4 * L.length) (nI (min a b))) (36 + 4 * L.length + 1) (nI (max a b)))) (upd (upd (upd (Mc.1 0) (36 + 4 * L.length) (nI (min a b))) (36 + 4 * L.length + 1) (nI (max a b))) (36 + 4 * L.length + 2) u)) (upd (upd (upd (upd (Mc.1 0) (36 + 4 * L.length) (nI (min a b))) (36 + 4 * L.length + 1) (nI (max a b))) (36 + 4 * L.length + 2) u) (36 + 4 * L.length + 3) (nI m))) (upd (upd (upd (upd (upd (Mc.1 0) (36 + 4 * L.length) (nI (min a b))) (36 + 4 * L.length + 1) (nI (max a b))) (36 + 4 * L.length + 2) u) (36 + 4 * L.length + 3) (nI m)) 149 (upd (upd (upd (upd (Mc.1 0) (36 + 4 * L.length) (nI (min a b))) (36 + 4 * L.length + 1) (nI (max a b))) (36 + 4 * L.length + 2) u) (36 + 4 * L.length + 3) (nI m) 149 + 1)), upd (upd (upd (upd (upd (Mc.1 0) (36 + 4 * L.length) (nI (min a b))) (36 + 4 * L.length + 1) (nI (max a b))) (36 + 4 * L.length + 2) u) (36 + 4 * L.length + 3) (nI m)) 149 (upd (upd (upd (upd (Mc.1 0) (36 + 4 * L.length) (nI (min a b))) (36 + 4 * L.length + 1) (nI (max a b))) (36 + 4 * L.length + 2) u) (36 + 4 * L.length + 3) (nI m) 149 + 1) 149 - 1) = _
    have ez : upd (upd (upd (upd (Mc.1 0) (36 + 4 * L.length) (nI (min a b))) (36 + 4 * L.length + 1) (nI (max a b))) (36 + 4 * L.length + 2) u) (36 + 4 * L.length + 3) (nI m) 149 = nI L.length := by
      rw [pk_un (by omega), pk_un (by omega), pk_un (by omega), pk_un (by omega), hs0]
      exact hM.2.2.1
    rw [ez, nI_1, stS_up, stS_up, stS_up, stS_up, pk_us, nI_pred]
  · rw [stS_0, hs0]
    refine RMBs hM (by rw [hl2]; exact pk_us) (by omega) (fun k hk => ?_) (fun i hi => ?_) hn
    · rw [hl2] at hk
      rw [sg_snoc _ _ _ (by omega)]
      by_cases hkl : k = L.length
      · rw [if_pos hkl, hkl]
        refine ⟨?_, ?_, ?_, ?_⟩
        · rw [pk_un (by omega), pk_un (by omega), pk_un (by omega), pk_un (by omega), pk_us]
        · rw [pk_un (by omega), pk_un (by omega), pk_un (by omega), pk_us]
        · rw [pk_un (by omega), pk_un (by omega), pk_us]
        · rw [pk_un (by omega), pk_us]
      · rw [if_neg hkl]
        have hold := hM.2.2.2.2 k (by omega)
        refine ⟨?_, ?_, ?_, ?_⟩
        · rw [pk_un (by omega), pk_un (by omega), pk_un (by omega), pk_un (by omega), pk_un (by omega)]
          exact hold.1
        · rw [pk_un (by omega), pk_un (by omega), pk_un (by omega), pk_un (by omega), pk_un (by omega)]
          exact hold.2.1
        · rw [pk_un (by omega), pk_un (by omega), pk_un (by omega), pk_un (by omega), pk_un (by omega)]
          exact hold.2.2.1
        · rw [pk_un (by omega), pk_un (by omega), pk_un (by omega), pk_un (by omega), pk_un (by omega)]
          exact hold.2.2.2
    · rw [pk_un (by omega), pk_un (by omega), pk_un (by omega), pk_un (by omega), pk_un (by omega)]
  · rw [stS_0, hs0]
    refine EXc hE (t3.2.1 1 (by decide)) (t3.2.1 2 (by decide)) (by rw [t3.2.2]) ?_ (fun i h1 h2 h3 h4 h5 => ?_) (fun k h1 h2 => ?_) (Nat.le_refl n)
    · rw [t3.2.2, pk_un (by omega), pk_un (by omega), pk_un (by omega), pk_un (by omega), pk_un (by omega), hapx]
      exact hE.2.2.2.2.2.1
    · rw [pk_un (by omega), pk_un (by omega), pk_un (by omega), pk_un (by omega), pk_un (by omega)]
    · rw [pk_un (by omega), pk_un (by omega), pk_un (by omega), pk_un (by omega), pk_un (by omega)]
      exact hE.2.2.2.2.2.2 k h1 h2
