/-! why, book, undo, texts typed -/
theorem Rel.m {K : SMain} {M M' : SMod} (h : Rel K M) (hk : KeepS M M') : Rel K M' := h.k hk rfl rfl rfl rfl rfl rfl
theorem o_whyTie : Op_whyTie Rel := by
  intro K M a0 a1 a2 ha h
  obtain ⟨n, se, le, pu, L, g, hA, hP, hM, hE⟩ := id h.1
  have hn := hA.1
  rcases pairB hn hP.1.1 hM.1 a0 a1 with ⟨a, b, h1, h2, hne, rfl, rfl, e1, e2⟩ | ⟨e1, e2⟩
  case inr =>
    refine ⟨-1000001, (M, -1000001), ?_, ?_, rfl, h⟩
    · unfold X6_whyTie
      rw [e1, if_pos rfl]
    · unfold X7_whyTie
      rw [bind_some' e2, if_pos rfl]
  obtain ⟨r, r1, r2⟩ := reasonString_spec a2 hA hP h1 h2
  obtain ⟨M1, r', q1, q2, q3⟩ := refused_spec a2 hA hM h1 h2
  have hrr := r2.one q3
  subst hrr
  refine ⟨r, (M1, r), ?_, ?_, rfl, h.m q2⟩
  · unfold X6_whyTie
    rw [e1, if_neg (by decide)]
    rcases ha with rfl | rfl
    · rw [if_pos rfl, bind_some' r1]
    · rw [if_neg (by decide), bind_some' r1]
  · unfold X7_whyTie
    rw [bind_some' e2, if_neg (by decide)]
    rcases ha with rfl | rfl
    · rw [if_pos rfl, bind_some' q1]
    · rw [if_neg (by decide), bind_some' q1]
theorem o_whyPull : Op_whyPull Rel := by
  intro K M a0 a1 h
  obtain ⟨n, se, le, pu, L, g, hA, hP, hM, hE⟩ := id h.1
  have hn := hA.1
  rcases pupB hn hP.1.1 hM.1 a0 with ⟨p, hp, rfl, e1, e2⟩ | ⟨e1, e2⟩
  case inr =>
    refine ⟨-1000001, (M, -1000001), ?_, ?_, rfl, h⟩
    · unfold X6_whyPull
      rw [e1, if_pos rfl]
    · unfold X7_whyPull
      rw [bind_some' e2, if_pos rfl]
  rcases inC a1 (a := 0) (b := 1) (by omega) (by omega) with ⟨m, -, hm, rfl, e3, e4⟩ | ⟨e3, e4⟩
  case inr =>
    have e3 : X6_isIn a1 0 1 = 0 := e3
    have e4 : X7_in a1 0 1 = 0 := e4
    refine ⟨-1000001, (M, -1000001), ?_, ?_, rfl, h⟩
    · unfold X6_whyPull
      rw [e1, if_neg (by decide), e3, if_pos rfl]
    · unfold X7_whyPull
      rw [bind_some' e2, if_neg (by decide), e4, if_pos rfl]
  have e3 : X6_isIn (nI m) 0 1 = 1 := e3
  have e4 : X7_in (nI m) 0 1 = 1 := e4
  obtain ⟨⟨sp, s1, s2, s3⟩, ⟨b, b1, b2, b3⟩, -⟩ := id hE
  obtain ⟨r, r1, r2⟩ := reasonPull_spec (w := nI m) hA hP s2 b2 (by omega) hp
  obtain ⟨M1, r', q1, q2, q3⟩ := barred_spec (w := nI m) hA hM s3 b3 (by omega) hp
  have hrr := r2.one q3
  subst hrr
  refine ⟨r, (M1, r), ?_, ?_, rfl, h.m q2⟩
  · unfold X6_whyPull
    rw [e1, if_neg (by decide), e3, if_neg (by decide), bind_some' r1]
  · unfold X7_whyPull
    rw [bind_some' e2, if_neg (by decide), e4, if_neg (by decide), bind_some' q1]
theorem kept_spec {B : SBook} {ss : Nat} (h : B.2 0 = nI ss) (hs : ss ≤ 999) : X0_kept B = nI (min ss 8) := by
  unfold X0_kept
  rw [h]
  by_cases c : 8 < ss
  · rw [if_pos (show (8 : Int32) < nI ss from nI_lt (a := 8) c (by omega)), Nat.min_eq_right (by omega)]
    rfl
  · rw [if_neg (show ¬ (8 : Int32) < nI ss from nI_nlt (a := 8) (by omega) (by omega)), Nat.min_eq_left (by omega)]
theorem o_book : Op_book Rel := by
  intro K M a0 a1 h
  obtain ⟨n, se, le, pu, L, g, hA, hP, hM, hE⟩ := id h.1
  obtain ⟨-, -, ⟨ss, e7, e8, e9, e10⟩, e11, e12, e13, e14⟩ := id hE
  unfold X6_book X7_book
  by_cases h0 : a0 < 0
  · rw [if_pos h0, if_pos h0]
    exact ⟨_, rfl, rfl, h⟩
  rw [if_neg h0, if_neg h0]
  rcases inC a1 (a := 0) (b := 3) (by omega) (by omega) with ⟨m, -, hm, rfl, e3, e4⟩ | ⟨e3, e4⟩
  case inr =>
    have e3 : X6_isIn a1 0 3 = 0 := e3
    have e4 : X7_in a1 0 3 = 0 := e4
    rw [e3, e4, if_pos rfl, if_pos rfl]
    exact ⟨_, rfl, rfl, h⟩
  have e3 : X6_isIn (nI m) 0 3 = 1 := e3
  have e4 : X7_in (nI m) 0 3 = 1 := e4
  have e153 : M.1 0 (Int32.toNatClampNeg 153) = nI (min ss 8) := e10
  have z10 : ¬ (1 : Int32) = 0 := by decide
  rw [e3, e4, if_neg z10, if_neg z10, kept_spec e8 e7, e153]
  obtain ⟨a, ha, rfl⟩ := nI_of h0
  by_cases c : min ss 8 ≤ a
  · rw [if_pos (nI_le c (by omega)), if_pos (nI_le c (by omega))]
    exact ⟨_, rfl, rfl, h⟩
  · have ce : ¬ nI (min ss 8) ≤ nI a := nI_ge (by omega) (by omega)
    have x1 : 116 + 4 * nI a + nI m = nI (116 + (4 * a + m)) := by
      rw [show (116 : Int32) = nI 116 from rfl, show (4 : Int32) = nI 4 from rfl, pk_mul, nI_add, nI_add]
      congr 1
      omega
    have x2 : nI a * 4 + nI m = nI (4 * a + m) := by
      rw [show (4 : Int32) = nI 4 from rfl, pk_mul, nI_add, Nat.mul_comm]
    rw [if_neg ce, if_neg ce, x1, if_pos (ixg (by omega) (by omega)), nI_clamp (by omega)]
    refine ⟨_, rfl, ?_, h⟩
    unfold X0_entry
    rw [x2, rget_n _ (by omega) (by omega)]
    exact e12 _ (by omega)
theorem undo_loop (M : SMod) {t : Nat} (ht : t < 4) (h0 : M.2 0 = nI t) : X7_undo_L22 FUEL M 0 = some (stS M (fun k => if k < 156 then M.1 1 (156 * t + k) else M.1 0 k)) := by
  obtain ⟨K, rfl, h2⟩ := loop_FUEL (f := fun fu (K : SMod) i => X7_undo_L22 fu K i) (n := 156)
    (fun k K => K = stS M (fun i => if i < k then M.1 1 (156 * t + i) else M.1 0 i)) (fun K => K = stS M (fun i => if i < 156 then M.1 1 (156 * t + i) else M.1 0 i)) (by omega)
    (by
      rintro fu k K hk rfl
      right
      refine ⟨_, rfl, ?_⟩
      have e1 : 156 * nI t + nI k = nI (156 * t + k) := by rw [show (156 : Int32) = nI 156 from rfl, pk_mul, nI_add]
      show X7_undo_L22 (fu + 1) _ (nI k) = _
      rw [X7_undo_L22]
      show (if (156 : Int32) ≤ nI k then _ else if ¬ ((156 * M.2 0 + nI k) < 0 ∨ 624 ≤ Int32.toNatClampNeg (156 * M.2 0 + nI k)) then (if ¬ (nI k < 0 ∨ 156 ≤ Int32.toNatClampNeg (nI k)) then X7_undo_L22 fu (stS (stS M (fun i => if i < k then M.1 1 (156 * t + i) else M.1 0 i)) (upd (fun i => if i < k then M.1 1 (156 * t + i) else M.1 0 i) (Int32.toNatClampNeg (nI k)) (M.1 1 (Int32.toNatClampNeg (156 * M.2 0 + nI k))))) (nI k + 1) else none) else none) = _
      rw [h0, e1, if_neg (show ¬ (156 : Int32) ≤ nI k from nI_ge (b := 156) hk (by omega)), if_pos (ixg (by omega) (by omega)), if_pos (ixg (by omega) (by omega)), nI_clamp (by omega), nI_clamp (by omega), nI_1, stS_up]
      congr 2
      funext i
      rw [upd_at]
      by_cases hik : i = k
      · rw [if_pos hik, if_pos (by omega), hik]
      · rw [if_neg hik]
        by_cases hi2 : i < k
        · rw [if_pos hi2, if_pos (by omega)]
        · rw [if_neg hi2, if_neg (by omega)])
    (by
      rintro fu K rfl
      refine ⟨_, rfl, ?_⟩
      show X7_undo_L22 (fu + 1) _ (nI 156) = _
      rw [X7_undo_L22, if_pos (show (156 : Int32) ≤ nI 156 from nI_le (a := 156) (Nat.le_refl _) (by omega))])
    (k := 0) (s := M) (x := 0) (by omega) rfl (by
      have : (fun i => if i < 0 then M.1 1 (156 * t + i) else M.1 0 i) = M.1 0 := by
        funext i
        exact if_neg (Nat.not_lt_zero i)
      unfold stS
      rw [this, up_self])
  exact h2
theorem o_undo : Op_undo Rel := by
  intro K M h
  obtain ⟨a, ⟨o, t, b1, b2, b3, b4, b5, b6⟩, ⟨len, c1, c2, c3, c4⟩, d⟩ := id h
  by_cases h0 : t = 0
  · subst h0
    refine ⟨(K, -1000002), (M, -1000002), ?_, ?_, rfl, h⟩
    · unfold X6_undo
      rw [if_pos (show K.1 1 = 0 from b4)]
    · unfold X7_undo
      rw [if_pos (show M.2 0 = 0 from b5)]
  obtain ⟨m, rfl⟩ : ∃ m, t = m + 1 := ⟨t - 1, by omega⟩
  have e4 : K.1 1 - 1 = nI m := by rw [b4, nI_pred]
  have e5 : M.2 0 - 1 = nI m := by rw [b5, nI_pred]
  have n4 : ¬ K.1 1 = 0 := by rw [b4]; exact nI_ne0 (by omega) (by omega)
  have n5 : ¬ M.2 0 = 0 := by rw [b5]; exact nI_ne0 (by omega) (by omega)
  refine ⟨((up K.1 1 (nI m), K.2.1, K.2.2.1, K.2.2.2.2.2 ((o + m) % 4), K.2.2.2.2.1, K.2.2.2.2.2), nI m), (stS (M.1, up M.2 0 (nI m)) (fun k => if k < 156 then M.1 1 (156 * m + k) else M.1 0 k), nI m), ?_, ?_, rfl, ?_, ⟨o, m, b1, by omega, b3, rfl, rfl, fun i hi => b6 i (by omega)⟩, ⟨len, c1, c2, c3, c4⟩, d⟩
  · unfold X6_undo
    rw [if_neg n4, bind_some' (pastIx_at b3 e4 (by omega) (by omega))]
    show some ((up K.1 1 (K.1 1 - 1), K.2.1, K.2.2.1, K.2.2.2.2.2 ((o + m) % 4), K.2.2.2.2.1, K.2.2.2.2.2), K.1 1 - 1) = _
    rw [e4]
  · unfold X7_undo
    rw [if_neg n5]
    show Option.bind (X7_undo_L22 FUEL (M.1, up M.2 0 (M.2 0 - 1)) 0) _ = _
    rw [e5, bind_some' (undo_loop (M.1, up M.2 0 (nI m)) (t := m) (by omega) rfl)]
    rfl
  · refine AB_congr (b6 m (by omega)) (fun k hk => ?_)
    show (if k < 156 then M.1 1 (156 * m + k) else M.1 0 k) = _
    rw [if_pos hk]
theorem o_type : Op_type Rel := by
  intro K M a0 h
  obtain ⟨a, ⟨o, t, b1, b2, b3, b4, b5, b6⟩, ⟨len, c1, c2, c3, c4⟩, d⟩ := id h
  unfold X6_type X7_type
  rcases inC a0 (a := 32) (b := 126) (by omega) (by omega) with ⟨m, hm1, hm, rfl, e3, e4⟩ | ⟨e3, e4⟩
  case inr =>
    have e3 : X6_isIn a0 32 126 = 0 := e3
    have e4 : X7_in a0 32 126 = 0 := e4
    rw [e3, e4, if_pos rfl, if_pos rfl]
    exact ⟨_, rfl, rfl, h⟩
  have e3 : X6_isIn (nI m) 32 126 = 1 := e3
  have e4 : X7_in (nI m) 32 126 = 1 := e4
  have z10 : ¬ (1 : Int32) = 0 := by decide
  rw [e3, e4, if_neg z10, if_neg z10]
  by_cases hf : len = 60
  · have ea : X4_append K.2.1 (nI m) = (K.2.1, 0) := by
      unfold X4_append
      rw [c2, hf, if_neg (by decide)]
    rw [ea, if_pos (show M.2 2 = 60 by rw [c3, hf]; rfl)]
    refine ⟨_, rfl, rfl, ?_⟩
    exact h
  · have ea : X4_append K.2.1 (nI m) = ((upd K.2.1.1 len (nI m), K.2.1.2.1, up K.2.1.2.2 0 (nI (len + 1))), 1) := by
      unfold X4_append
      rw [c2, if_pos (show nI len < 60 from nI_lt (b := 60) (by omega) (by omega)), rput_n _ _ (by omega) (by omega)]
      show ((upd K.2.1.1 len (nI m), K.2.1.2.1, up K.2.1.2.2 0 (K.2.1.2.2 0 + 1)), (1 : Int32)) = _
      rw [c2, nI_1]
    have ne : ¬ M.2 2 = 60 := by
      rw [c3]
      intro z
      exact hf ((nI_eq (b := 60) (by omega) (by omega)).mp z)
    rw [ea, if_neg ne, c3, if_pos (ixg (by omega) (by omega)), nI_clamp (by omega)]
    refine ⟨((up M.1 3 (upd (M.1 3) len (nI m)), up M.2 2 (nI (len + 1))), nI (len + 1)), ?_, rfl, a, ⟨o, t, b1, b2, b3, b4, b5, b6⟩, ⟨len + 1, by omega, rfl, rfl, fun k hk => ?_⟩, d⟩
    · show some ((up M.1 3 (upd (M.1 3) len (nI m)), up M.2 2 (M.2 2 + 1)), M.2 2 + 1) = _
      rw [c3, nI_1]
    · show ∃ c, 32 ≤ c ∧ c ≤ 126 ∧ upd K.2.1.1 len (nI m) k = nI c ∧ upd (M.1 3) len (nI m) k = nI c
      rw [upd_at, upd_at]
      by_cases hkl : k = len
      · rw [if_pos hkl, if_pos hkl]
        exact ⟨m, hm1, hm, rfl, rfl⟩
      · rw [if_neg hkl, if_neg hkl]
        exact c4 k (by omega)
theorem o_clearText : Op_clearText Rel := by
  intro K M h
  obtain ⟨a, ⟨o, t, b1, b2, b3, b4, b5, b6⟩, ⟨len, c1, c2, c3, c4⟩, d⟩ := id h
  refine ⟨?_, a, ⟨o, t, b1, b2, b3, b4, b5, b6⟩, ⟨0, by omega, rfl, rfl, fun k hk => absurd hk (Nat.not_lt_zero k)⟩, d⟩
  show K.2.1.2.2 0 = M.2 2
  rw [c2, c3]
theorem Rel_0 : Rel K0_X6 K0_X7 := by
  refine ⟨⟨0, fun _ => 1, fun _ => 0, fun _ => -1, [], fun _ => 0, ⟨by omega, fun x hx => (List.not_mem_nil hx).elim, fun x hx => (List.not_mem_nil hx).elim, fun k hk => absurd hk (Nat.not_lt_zero k)⟩, ⟨⟨rfl, fun k hk => absurd hk (Nat.not_lt_zero k)⟩, ⟨rfl, by decide, fun k hk => absurd hk (Nat.not_lt_zero k)⟩, fun k hk => absurd hk (Nat.not_lt_zero k), fun k hk => absurd hk (Nat.not_lt_zero k), rfl, rfl⟩, ⟨rfl, fun k hk => absurd hk (Nat.not_lt_zero k), rfl, by decide, fun k hk => absurd hk (Nat.not_lt_zero k)⟩, ⟨⟨0, Or.inr ⟨rfl, rfl⟩, rfl, rfl⟩, ⟨3, by omega, rfl, rfl⟩, ⟨0, by omega, rfl, rfl, rfl⟩, rfl, fun k hk => ?_, rfl, fun k h1 h2 => ?_⟩⟩, ⟨0, 0, by omega, by omega, rfl, rfl, rfl, fun i hi => absurd hi (Nat.not_lt_zero i)⟩, ⟨0, by omega, rfl, rfl, fun k hk => absurd hk (Nat.not_lt_zero k)⟩, rfl⟩
  · show (0 : Int32) = upd (fun _ => 0) 155 3 (116 + k)
    rw [pk_un (by omega)]
  · show upd (fun _ => (0 : Int32)) 155 3 (3 * k + 2) = 0
    rw [pk_un (by omega)]
