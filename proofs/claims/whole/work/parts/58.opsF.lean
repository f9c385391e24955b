/-! puppetOf, stringOf, ifCut -/
theorem looks_but {M : SMod} {n j : Nat} {se le pu : Nat → Int32} {L : List Str4} {g : Nat → Int32} (hA : AW n se le pu L g) (hM : RMB (M.1 0) n se le pu L) (hj : j < L.length) : ∃ M', X7_looks M (nI j) = some M' ∧ LK M' (grp (L.eraseIdx j)) n ∧ KeepS M M' := by
  have hlen := hM.2.2.2.1
  have hA2 := hA.sub (L' := L.eraseIdx j) erase_mem
  refine looks_spec hA.1 hM hA.2.1 hA2.2.2.1 (fun k hk hne => ?_) (fun x hx => ?_)
  · refine List.mem_eraseIdx_iff_getElem?.mpr ⟨k, fun z => hne (by rw [z]), ?_⟩
    rw [sg_eq hk, List.getElem?_eq_getElem hk]
  · obtain ⟨i, hi, e⟩ := List.mem_eraseIdx_iff_getElem?.mp hx
    obtain ⟨hil, e2⟩ := List.getElem?_eq_some_iff.mp e
    exact ⟨i, hil, fun z => hi ((nI_eq (by omega) (by omega)).mp z), by rw [sg_eq hil]; exact e2⟩
theorem o_ifCut : Op_ifCut Rel := by
  intro K M a0 a1 h
  obtain ⟨n, se, le, pu, L, g, hA, hP, hM, hE⟩ := id h.1
  have hn := hA.1
  have hlen := hM.2.2.2.1
  rcases strB hP.2.1 hM.2.2.1 a0 with ⟨j, hj, rfl, e1, e2⟩ | ⟨e1, e2⟩
  case inr =>
    refine ⟨(K, -1000001), (M, -1000001), ?_, ?_, rfl, h⟩
    · unfold X6_ifCut
      rw [e1, if_pos rfl]
    · unfold X7_ifCut
      rw [bind_some' e2, if_pos rfl]
  rcases inC a1 (a := 0) (b := 1) (by omega) (by omega) with ⟨m, -, hm, rfl, e3, e4⟩ | ⟨e3, e4⟩
  case inr =>
    have e3 : X6_isIn a1 0 1 = 0 := e3
    have e4 : X7_in a1 0 1 = 0 := e4
    refine ⟨(K, -1000001), (M, -1000001), ?_, ?_, rfl, h⟩
    · unfold X6_ifCut
      rw [e1, if_neg (by decide), e3, if_pos rfl]
    · unfold X7_ifCut
      rw [bind_some' e2, if_neg (by decide), e4, if_pos rfl]
  have e3 : X6_isIn (nI m) 0 1 = 1 := e3
  have e4 : X7_in (nI m) 0 1 = 1 := e4
  have hA2 := hA.sub (L' := L.eraseIdx j) erase_mem
  obtain ⟨P', t1, t2, -⟩ := cutS_spec hA hP hj
  obtain ⟨M1, l1, l2, l3⟩ := looks_but hA hM hj
  have hM1 : RMB (M1.1 0) n se le pu L := by rw [l3.s]; exact hM
  have hR : Rel (K.1, K.2.1, K.2.2.1, K.2.2.2.1, P', K.2.2.2.2.2) M := h.k (KeepS.rf M) rfl rfl rfl rfl rfl rfl
  rcases (by omega : m = 0 ∨ m = 1) with rfl | rfl
  · obtain ⟨M2, v1, v2, v3, v4⟩ := votes_spec hA2 hM1 l2
    refine ⟨((K.1, K.2.1, K.2.2.1, K.2.2.2.1, P', K.2.2.2.2.2), sm (fun i => M2.1 6 i * se i) n), (M2, _), ?_, ?_, rfl, hR.m (l3.tr v2)⟩
    · unfold X6_ifCut
      rw [e1, if_neg (by decide), e3, if_neg (by decide)]
      show Option.bind (X1_cutString K.2.2.2.1 (nI j)) _ = _
      rw [bind_some' t1]
      show some ((K.1, K.2.1, K.2.2.1, K.2.2.2.1, P', K.2.2.2.2.2), P'.2.1 4) = _
      rw [t2.2.2.2.2.2, yes_eq t2.2.2.2.1 v4]
    · unfold X7_ifCut
      rw [bind_some' e2, if_neg (by decide), e4, if_neg (by decide), bind_some' l1, if_pos (show nI 0 = 0 from rfl), bind_some' v1]
  · refine ⟨((K.1, K.2.1, K.2.2.1, K.2.2.2.1, P', K.2.2.2.2.2), cG n (grp (L.eraseIdx j))), (M1, cG n (grp (L.eraseIdx j))), ?_, ?_, rfl, hR.m l3⟩
    · unfold X6_ifCut
      rw [e1, if_neg (by decide), e3, if_neg (by decide)]
      show Option.bind (X1_cutString K.2.2.2.1 (nI j)) _ = _
      rw [bind_some' t1]
      show Option.bind (X1_groupsByJoining P') _ = _
      rw [bind_some' (groupsC_spec hn t2.1.1 t2.2.2.1 hA2.q.1)]
    · unfold X7_ifCut
      rw [bind_some' e2, if_neg (by decide), e4, if_neg (by decide), bind_some' l1, if_neg (show ¬ nI 1 = 0 by decide), bind_some' (groupsM_spec hn hM1.1 l2 hA2.q.1)]
theorem o_stringOf : Op_stringOf Rel := by
  intro K M a0 a1 h
  obtain ⟨n, se, le, pu, L, g, hA, hP, hM, hE⟩ := id h.1
  have hn := hA.1
  have hlen := hM.2.2.2.1
  rcases strB hP.2.1 hM.2.2.1 a0 with ⟨j, hj, rfl, e1, e2⟩ | ⟨e1, e2⟩
  case inr =>
    refine ⟨(K, -1000001), (M, -1000001), ?_, ?_, rfl, h⟩
    · unfold X6_stringOf
      rw [e1, if_pos rfl]
    · unfold X7_stringOf
      rw [bind_some' e2, if_pos rfl]
  rcases inC a1 (a := 0) (b := 4) (by omega) (by omega) with ⟨m, -, hm, rfl, e3, e4⟩ | ⟨e3, e4⟩
  case inr =>
    have e4 : X7_in a1 0 4 = 0 := e4
    have hne : ∀ c : Int32, X7_in c 0 4 = 1 → ¬ a1 = c := by
      intro c hc z
      rw [z, hc] at e4
      exact absurd e4 (by decide)
    refine ⟨(K, -1000001), (M, -1000001), ?_, ?_, rfl, h⟩
    · unfold X6_stringOf
      rw [e1, if_neg (by decide), if_neg (hne 0 (by decide)), if_neg (hne 1 (by decide)), if_neg (hne 2 (by decide)), if_neg (hne 3 (by decide)), if_neg (hne 4 (by decide))]
    · unfold X7_stringOf
      rw [bind_some' e2, if_neg (by decide), e4, if_pos rfl]
  have e4 : X7_in (nI m) 0 4 = 1 := e4
  have hx := hA.2.1 _ (sg_mem hj)
  have a0 : rget 20 (K.2.2.2.1.2.2.1.1 0) (nI j) = nI (sg L j).1 := by rw [rget_n _ (by omega) (by omega), (hP.2.1.2.2 j hj).1]
  have a1 : rget 20 (K.2.2.2.1.2.2.1.1 1) (nI j) = nI (sg L j).2.1 := by rw [rget_n _ (by omega) (by omega), (hP.2.1.2.2 j hj).2.1]
  have a2 : rget 20 (K.2.2.2.1.2.2.1.1 2) (nI j) = (sg L j).2.2.1 := by rw [rget_n _ (by omega) (by omega), (hP.2.1.2.2 j hj).2.2.1]
  have a3 : rget 20 (K.2.2.2.1.2.2.1.1 3) (nI j) = (sg L j).2.2.2 := by rw [rget_n _ (by omega) (by omega), (hP.2.1.2.2 j hj).2.2.2]
  have m0 : ∀ M' : SMod, M'.1 0 = M.1 0 → X7_tied M' (nI j) 0 = some (nI (sg L j).1) := fun M' e => by rw [← (hM.2.2.2.2 j hj).1, ← e]; exact tied_spec M' (k := j) (c := 0) (by omega)
  have m1 : ∀ M' : SMod, M'.1 0 = M.1 0 → X7_tied M' (nI j) 1 = some (nI (sg L j).2.1) := fun M' e => by rw [← (hM.2.2.2.2 j hj).2.1, ← e]; exact tied_spec M' (k := j) (c := 1) (by omega)
  have m2 : X7_tied M (nI j) (nI 2) = some (sg L j).2.2.1 := by rw [← (hM.2.2.2.2 j hj).2.2.1]; exact tied_spec M (k := j) (c := 2) (by omega)
  have m3 : X7_tied M (nI j) (nI 3) = some (sg L j).2.2.2 := by rw [← (hM.2.2.2.2 j hj).2.2.2]; exact tied_spec M (k := j) (c := 3) (by omega)
  have mo : ∀ {c : Nat} {x : Int32}, c < 4 → X7_tied M (nI j) (nI c) = some x → X7_in (nI c) 0 4 = 1 → X7_stringOf M (nI j) (nI c) = some (M, x) := by
    intro c x hc hx2 h4
    unfold X7_stringOf
    rw [bind_some' e2, if_neg (by decide), h4, if_neg (by decide), if_neg (show ¬ (4 : Int32) ≤ nI c from nI_ge (b := 4) hc (by omega)), bind_some' hx2]
  rcases (by omega : m = 0 ∨ m = 1 ∨ m = 2 ∨ m = 3 ∨ m = 4) with rfl | rfl | rfl | rfl | rfl
  · refine ⟨(K, nI (sg L j).1), (M, nI (sg L j).1), ?_, mo (by omega) (m0 M rfl) e4, rfl, h⟩
    unfold X6_stringOf
    rw [e1, if_neg (by decide), if_pos (show nI 0 = 0 from rfl), a0]
  · refine ⟨(K, nI (sg L j).2.1), (M, nI (sg L j).2.1), ?_, mo (by omega) (m1 M rfl) e4, rfl, h⟩
    unfold X6_stringOf
    rw [e1, if_neg (by decide), if_neg (show ¬ nI 1 = 0 by decide), if_pos (show nI 1 = 1 from rfl), a1]
  · refine ⟨(K, (sg L j).2.2.1), (M, (sg L j).2.2.1), ?_, mo (by omega) m2 e4, rfl, h⟩
    unfold X6_stringOf
    rw [e1, if_neg (by decide), if_neg (show ¬ nI 2 = 0 by decide), if_neg (show ¬ nI 2 = 1 by decide), if_pos (show nI 2 = 2 from rfl), a2]
  · refine ⟨(K, (sg L j).2.2.2), (M, (sg L j).2.2.2), ?_, mo (by omega) m3 e4, rfl, h⟩
    unfold X6_stringOf
    rw [e1, if_neg (by decide), if_neg (show ¬ nI 3 = 0 by decide), if_neg (show ¬ nI 3 = 1 by decide), if_neg (show ¬ nI 3 = 2 by decide), if_pos (show nI 3 = 3 from rfl), a3]
  · have hA2 := hA.sub (L' := L.eraseIdx j) erase_mem
    obtain ⟨P', t1, t2, -⟩ := cutS_spec hA hP hj
    obtain ⟨M1, l1, l2, l3⟩ := looks_but hA hM hj
    have hR : Rel (K.1, K.2.1, K.2.2.1, K.2.2.2.1, P', K.2.2.2.2.2) M := h.k (KeepS.rf M) rfl rfl rfl rfl rfl rfl
    have q1 := hA2.q.1 (sg L j).1
    have q2 := hA2.q.1 (sg L j).2.1
    have b0 : rget 12 (P'.1 3) (nI (sg L j).1) = nI ((grp (L.eraseIdx j)).1 (sg L j).1) := by rw [rget_n _ (by omega) (by omega), (t2.2.2.1 _ (by omega)).1]
    have b1 : rget 12 (P'.1 3) (nI (sg L j).2.1) = nI ((grp (L.eraseIdx j)).1 (sg L j).2.1) := by rw [rget_n _ (by omega) (by omega), (t2.2.2.1 _ (by omega)).1]
    have hmid : X6_hangTogetherWithout K (nI j) = some ((K.1, K.2.1, K.2.2.1, K.2.2.2.1, P', K.2.2.2.2.2), if (grp (L.eraseIdx j)).1 (sg L j).1 = (grp (L.eraseIdx j)).1 (sg L j).2.1 then 1 else 0) := by
      have hh : X1_hangTogether P' (rget 20 (K.2.2.2.1.2.2.1.1 0) (nI j)) (rget 20 (K.2.2.2.1.2.2.1.1 1) (nI j)) = if (grp (L.eraseIdx j)).1 (sg L j).1 = (grp (L.eraseIdx j)).1 (sg L j).2.1 then 1 else 0 := by
        unfold X1_hangTogether
        rw [a0, a1, b0, b1]
        by_cases c : (grp (L.eraseIdx j)).1 (sg L j).1 = (grp (L.eraseIdx j)).1 (sg L j).2.1
        · rw [if_pos (by rw [c]), if_pos c]
        · rw [if_neg (by rw [nI_eq (by omega) (by omega)]; exact c), if_neg c]
      unfold X6_hangTogetherWithout
      show Option.bind (X1_cutString K.2.2.2.1 (nI j)) _ = _
      rw [bind_some' t1]
      show (if X1_hangTogether P' (rget 20 (K.2.2.2.1.2.2.1.1 0) (nI j)) (rget 20 (K.2.2.2.1.2.2.1.1 1) (nI j)) = 0 ∨ X1_hangTogether P' (rget 20 (K.2.2.2.1.2.2.1.1 0) (nI j)) (rget 20 (K.2.2.2.1.2.2.1.1 1) (nI j)) = 1 then some ((K.1, K.2.1, K.2.2.1, K.2.2.2.1, P', K.2.2.2.2.2), X1_hangTogether P' (rget 20 (K.2.2.2.1.2.2.1.1 0) (nI j)) (rget 20 (K.2.2.2.1.2.2.1.1 1) (nI j))) else none) = _
      rw [hh]
      by_cases c : (grp (L.eraseIdx j)).1 (sg L j).1 = (grp (L.eraseIdx j)).1 (sg L j).2.1
      · rw [if_pos c, if_pos (Or.inr rfl)]
      · rw [if_neg c, if_pos (Or.inl rfl)]
    have hcl : X6_stringOf K (nI j) (nI 4) = some ((K.1, K.2.1, K.2.2.1, K.2.2.2.1, P', K.2.2.2.2.2), if (grp (L.eraseIdx j)).1 (sg L j).1 = (grp (L.eraseIdx j)).1 (sg L j).2.1 then 1 else 0) := by
      unfold X6_stringOf
      rw [e1, if_neg (by decide), if_neg (show ¬ nI 4 = 0 by decide), if_neg (show ¬ nI 4 = 1 by decide), if_neg (show ¬ nI 4 = 2 by decide), if_neg (show ¬ nI 4 = 3 by decide), if_pos (show nI 4 = 4 from rfl), bind_some' hmid]
      by_cases c : (grp (L.eraseIdx j)).1 (sg L j).1 = (grp (L.eraseIdx j)).1 (sg L j).2.1
      · rw [if_pos c]
        rfl
      · rw [if_neg c]
        rfl
    have hmo : X7_stringOf M (nI j) (nI 4) = some (M1, if (grp (L.eraseIdx j)).1 (sg L j).1 = (grp (L.eraseIdx j)).1 (sg L j).2.1 then 1 else 0) := by
      unfold X7_stringOf
      rw [bind_some' e2, if_neg (by decide), e4, if_neg (by decide), if_pos (show (4 : Int32) ≤ nI 4 by decide), bind_some' l1, bind_some' (m0 M1 l3.s), if_pos (ixg (by omega) (by omega)), bind_some' (m1 M1 l3.s), if_pos (ixg (by omega) (by omega)), nI_clamp (by omega), nI_clamp (by omega), (l2 _ (by omega)).1, (l2 _ (by omega)).1]
      by_cases c : (grp (L.eraseIdx j)).1 (sg L j).1 = (grp (L.eraseIdx j)).1 (sg L j).2.1
      · rw [if_pos (by rw [c]), if_pos c]
      · rw [if_neg (by rw [nI_eq (by omega) (by omega)]; exact c), if_neg c]
    exact ⟨_, _, hcl, hmo, rfl, hR.m l3⟩
theorem o_puppetOf : Op_puppetOf Rel := by
  intro K M a0 a1 h
  obtain ⟨n, se, le, pu, L, g, hA, hP, hM, hE⟩ := id h.1
  have hn := hA.1
  rcases pupB hn hP.1.1 hM.1 a0 with ⟨p, hp, rfl, e1, e2⟩ | ⟨e1, e2⟩
  case inr =>
    refine ⟨-1000001, (M, -1000001), ?_, ?_, rfl, h⟩
    · unfold X6_puppetOf
      rw [e1, if_pos rfl]
    · unfold X7_puppetOf
      rw [bind_some' e2, if_pos rfl]
  rcases inC a1 (a := 0) (b := 8) (by omega) (by omega) with ⟨m, -, hm, rfl, e3, e4⟩ | ⟨e3, e4⟩
  case inr =>
    have e4 : X7_in a1 0 8 = 0 := e4
    have hne : ∀ c : Int32, X7_in c 0 8 = 1 → ¬ a1 = c := by
      intro c hc z
      rw [z, hc] at e4
      exact absurd e4 (by decide)
    refine ⟨-1000001, (M, -1000001), ?_, ?_, rfl, h⟩
    · unfold X6_puppetOf
      rw [e1, if_neg (by decide), if_neg (hne 0 (by decide)), if_neg (hne 1 (by decide)), if_neg (hne 2 (by decide)), if_neg (hne 3 (by decide)), if_neg (hne 4 (by decide)), if_neg (hne 5 (by decide)), if_neg (hne 6 (by decide)), if_neg (hne 7 (by decide)), if_neg (hne 8 (by decide))]
    · unfold X7_puppetOf
      rw [bind_some' e2, if_neg (by decide), e4, if_pos rfl]
  have e4 : X7_in (nI m) 0 8 = 1 := e4
  obtain ⟨M1, y1, y2, y3, y4⟩ := yesNow_spec hA hM
  obtain ⟨ye, ye1, ye2⟩ := yes_nat hA y4
  have hM1 : RMB (M1.1 0) n se le pu L := by rw [y2.s]; exact hM
  have hq := hA.q
  have qp := hq.1 p
  have hp3 := (hA.2.2.2 p hp).2.2.1
  have c0 : rget 12 (K.2.2.2.1.1 0) (nI p) = se p := by rw [rget_n _ (by omega) (by omega), (hP.1.2 p hp).1]
  have c1 : rget 12 (K.2.2.2.1.1 1) (nI p) = le p := by rw [rget_n _ (by omega) (by omega), (hP.1.2 p hp).2.1]
  have c2 : rget 12 (K.2.2.2.1.1 2) (nI p) = pu p := by rw [rget_n _ (by omega) (by omega), (hP.1.2 p hp).2.2]
  have c3 : rget 12 (K.2.2.2.1.1 3) (nI p) = nI ((grp L).1 p) := by rw [rget_n _ (by omega) (by omega), (hP.2.2.1 p hp).1]
  have c4 : rget 12 (K.2.2.2.1.1 4) (nI p) = (grp L).2 p := by rw [rget_n _ (by omega) (by omega), (hP.2.2.1 p hp).2]
  have c5 : rget 12 (K.2.2.2.1.1 5) (nI p) = M1.1 6 p := by rw [rget_n _ (by omega) (by omega), hP.2.2.2.1.one y4 p hp]
  have d0 : X7_of M1 (nI p) (nI 0) = some (se p) := by rw [← (hM1.2.1 p hp).1]; exact of_spec M1 (k := p) (c := 0) (by omega)
  have d1 : X7_of M1 (nI p) (nI 1) = some (le p) := by rw [← (hM1.2.1 p hp).2.1]; exact of_spec M1 (k := p) (c := 1) (by omega)
  have d2 : X7_of M1 (nI p) 2 = some (pu p + 1) := by rw [← (hM1.2.1 p hp).2.2]; exact of_spec M1 (k := p) (c := 2) (by omega)
  have hpe : pu p + 1 - 1 = pu p := by
    rcases hp3 with e | e | e <;> rw [e] <;> decide
  have hple : pu p + 1 ≤ 0 ↔ pu p = -1 := by
    rcases hp3 with e | e | e <;> rw [e] <;> decide
  have z10 : ¬ (1 : Int32) = 0 := by decide
  have head : ∀ x, X7_puppetOf M (nI p) x = (if X7_in x 0 8 = 0 then some (M, -1000001) else if x = 2 then ((X7_of M1 (nI p) 2).bind fun u_9 => (if u_9 ≤ 0 then some (M1, (-1000004)) else ((X7_of M1 (nI p) 2).bind fun u_12 => some (M1, (u_12 - 1))))) else (if x = 3 then (if ¬ (nI p < 0 ∨ 12 ≤ Int32.toNatClampNeg (nI p)) then some (M1, ((M1.1 6) (Int32.toNatClampNeg (nI p)))) else none) else (if x = 4 then (if ¬ (nI p < 0 ∨ 12 ≤ Int32.toNatClampNeg (nI p)) then some (M1, ((M1.1 4) (Int32.toNatClampNeg (nI p)))) else none) else (if x = 5 then (if ¬ (nI p < 0 ∨ 12 ≤ Int32.toNatClampNeg (nI p)) then some (M1, ((M1.1 5) (Int32.toNatClampNeg (nI p)))) else none) else (if x = 6 then ((X7_tiesOf M1 (nI p)).bind fun u_21 => some (M1, u_21)) else (if x = 7 then ((X7_groupOf M1 (nI p)).bind fun u_24 => some (M1, u_24)) else (if x = 8 then ((X7_groupSeats M1 (nI p)).bind fun u_27 => some (M1, u_27)) else ((X7_of M1 (nI p) x).bind fun u_29 => some (M1, u_29))))))))) := by
    intro x
    unfold X7_puppetOf
    rw [bind_some' e2, if_neg z10, bind_some' y1, ye2, if_pos (nI_pos' (by omega))]
  rw [head (nI m), e4, if_neg z10]
  unfold X6_puppetOf
  rw [e1, if_neg z10]
  rcases (by omega : m = 0 ∨ m = 1 ∨ m = 2 ∨ m = 3 ∨ m = 4 ∨ m = 5 ∨ m = 6 ∨ m = 7 ∨ m = 8) with rfl | rfl | rfl | rfl | rfl | rfl | rfl | rfl | rfl
  · rw [if_pos (show nI 0 = 0 from rfl), c0, if_neg (show ¬ nI 0 = 2 by decide), if_neg (show ¬ nI 0 = 3 by decide), if_neg (show ¬ nI 0 = 4 by decide), if_neg (show ¬ nI 0 = 5 by decide), if_neg (show ¬ nI 0 = 6 by decide), if_neg (show ¬ nI 0 = 7 by decide), if_neg (show ¬ nI 0 = 8 by decide), bind_some' d0]
    exact ⟨_, _, rfl, rfl, rfl, h.m y2⟩
  · rw [if_neg (show ¬ nI 1 = 0 by decide), if_pos (show nI 1 = 1 from rfl), c1, if_neg (show ¬ nI 1 = 2 by decide), if_neg (show ¬ nI 1 = 3 by decide), if_neg (show ¬ nI 1 = 4 by decide), if_neg (show ¬ nI 1 = 5 by decide), if_neg (show ¬ nI 1 = 6 by decide), if_neg (show ¬ nI 1 = 7 by decide), if_neg (show ¬ nI 1 = 8 by decide), bind_some' d1]
    exact ⟨_, _, rfl, rfl, rfl, h.m y2⟩
  · rw [if_neg (show ¬ nI 2 = 0 by decide), if_neg (show ¬ nI 2 = 1 by decide), if_pos (show nI 2 = 2 from rfl), if_pos (show nI 2 = 2 from rfl), c2, bind_some' d2, bind_some' d2, hpe]
    unfold X1_isPulled
    rw [c2]
    by_cases c : pu p = -1
    · rw [if_pos c, if_pos rfl, if_pos (hple.mpr c)]
      exact ⟨_, _, rfl, rfl, rfl, h.m y2⟩
    · rw [if_neg c, if_neg z10, if_neg (fun z => c (hple.mp z))]
      exact ⟨_, _, rfl, rfl, rfl, h.m y2⟩
  · rw [if_neg (show ¬ nI 3 = 0 by decide), if_neg (show ¬ nI 3 = 1 by decide), if_neg (show ¬ nI 3 = 2 by decide), if_neg (show ¬ nI 3 = 2 by decide), if_pos (show nI 3 = 3 from rfl), if_pos (show nI 3 = 3 from rfl), c5, if_pos (ixg (by omega) (by omega)), nI_clamp (by omega)]
    exact ⟨_, _, rfl, rfl, rfl, h.m y2⟩
  · rw [if_neg (show ¬ nI 4 = 0 by decide), if_neg (show ¬ nI 4 = 1 by decide), if_neg (show ¬ nI 4 = 2 by decide), if_neg (show ¬ nI 4 = 2 by decide), if_neg (show ¬ nI 4 = 3 by decide), if_neg (show ¬ nI 4 = 3 by decide), if_pos (show nI 4 = 4 from rfl), if_pos (show nI 4 = 4 from rfl), c3, if_pos (ixg (by omega) (by omega)), nI_clamp (by omega), (y3 p hp).1]
    exact ⟨_, _, rfl, rfl, rfl, h.m y2⟩
  · rw [if_neg (show ¬ nI 5 = 0 by decide), if_neg (show ¬ nI 5 = 1 by decide), if_neg (show ¬ nI 5 = 2 by decide), if_neg (show ¬ nI 5 = 2 by decide), if_neg (show ¬ nI 5 = 3 by decide), if_neg (show ¬ nI 5 = 3 by decide), if_neg (show ¬ nI 5 = 4 by decide), if_neg (show ¬ nI 5 = 4 by decide), if_pos (show nI 5 = 5 from rfl), if_pos (show nI 5 = 5 from rfl), c4, if_pos (ixg (by omega) (by omega)), nI_clamp (by omega), (y3 p hp).2]
    exact ⟨_, _, rfl, rfl, rfl, h.m y2⟩
  · rw [if_neg (show ¬ nI 6 = 0 by decide), if_neg (show ¬ nI 6 = 1 by decide), if_neg (show ¬ nI 6 = 2 by decide), if_neg (show ¬ nI 6 = 2 by decide), if_neg (show ¬ nI 6 = 3 by decide), if_neg (show ¬ nI 6 = 3 by decide), if_neg (show ¬ nI 6 = 4 by decide), if_neg (show ¬ nI 6 = 4 by decide), if_neg (show ¬ nI 6 = 5 by decide), if_neg (show ¬ nI 6 = 5 by decide), if_pos (show nI 6 = 6 from rfl), if_pos (show nI 6 = 6 from rfl), bind_some' (howMany_spec hn hP.2.1 hA.2.1 hp), bind_some' (tiesOf_spec hn hM1 hA.2.1 hp)]
    exact ⟨_, _, rfl, rfl, rfl, h.m y2⟩
  · rw [if_neg (show ¬ nI 7 = 0 by decide), if_neg (show ¬ nI 7 = 1 by decide), if_neg (show ¬ nI 7 = 2 by decide), if_neg (show ¬ nI 7 = 2 by decide), if_neg (show ¬ nI 7 = 3 by decide), if_neg (show ¬ nI 7 = 3 by decide), if_neg (show ¬ nI 7 = 4 by decide), if_neg (show ¬ nI 7 = 4 by decide), if_neg (show ¬ nI 7 = 5 by decide), if_neg (show ¬ nI 7 = 5 by decide), if_neg (show ¬ nI 7 = 6 by decide), if_neg (show ¬ nI 7 = 6 by decide), if_pos (show nI 7 = 7 from rfl), if_pos (show nI 7 = 7 from rfl), c3, bind_some' (membersOf_spec hn hP.1.1 hP.2.2.1 hq.1 (by omega)), bind_some' (groupOf_spec hn hM1.1 y3 hq.1 hp)]
    exact ⟨_, _, rfl, rfl, rfl, h.m y2⟩
  · rw [if_neg (show ¬ nI 8 = 0 by decide), if_neg (show ¬ nI 8 = 1 by decide), if_neg (show ¬ nI 8 = 2 by decide), if_neg (show ¬ nI 8 = 2 by decide), if_neg (show ¬ nI 8 = 3 by decide), if_neg (show ¬ nI 8 = 3 by decide), if_neg (show ¬ nI 8 = 4 by decide), if_neg (show ¬ nI 8 = 4 by decide), if_neg (show ¬ nI 8 = 5 by decide), if_neg (show ¬ nI 8 = 5 by decide), if_neg (show ¬ nI 8 = 6 by decide), if_neg (show ¬ nI 8 = 6 by decide), if_neg (show ¬ nI 8 = 7 by decide), if_neg (show ¬ nI 8 = 7 by decide), if_pos (show nI 8 = 8 from rfl), if_pos (show nI 8 = 8 from rfl), c3, bind_some' (membersOf_spec hn hP.1.1 hP.2.2.1 hq.1 (by omega)), bind_some' (seatsIn_spec _ hn hP.1), bind_some' (groupSeats_spec hn hM1 y3 hq.1 hp)]
    refine ⟨_, _, rfl, rfl, ?_, h.m y2⟩
    show sm _ n = sm _ n
    refine sm_cong (fun k hk => ?_)
    rw [gs_bt hn, decide_eq_true hk, Bool.true_and]
    by_cases c : (grp L).1 k = (grp L).1 p
    · rw [if_pos c, if_pos (decide_eq_true c)]
    · rw [if_neg c, if_neg (by rw [decide_eq_false c]; decide)]
