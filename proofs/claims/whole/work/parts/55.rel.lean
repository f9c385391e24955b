/-! the relation of the class and the reference -/
theorem AB_congr {P : SPar} {s s' : Nat → Int32} (h : AB P s) (he : ∀ k, k < 156 → s' k = s k) : AB P s' := by
  obtain ⟨n, se, le, pu, L, g, hA, hP, ⟨e1, e2, e3, e4, e5⟩, ⟨⟨sp, a1, a2, a3⟩, ⟨b, b1, b2, b3⟩, ⟨ss, e7, e8, e9, e10⟩, e11, e12, e13, e14⟩⟩ := h
  have hn := hA.1
  refine ⟨n, se, le, pu, L, g, hA, hP, ⟨by rw [he _ (by omega), e1], fun k hk => ?_, by rw [he _ (by omega), e3], e4, fun k hk => ?_⟩, ⟨⟨sp, a1, a2, by rw [he _ (by omega), a3]⟩, ⟨b, b1, b2, by rw [he _ (by omega), b3]⟩, ⟨ss, e7, e8, by rw [he _ (by omega), e9], by rw [he _ (by omega), e10]⟩, by rw [he _ (by omega), e11], fun k hk => by rw [he _ (by omega), e12 k hk], by rw [he _ (by omega), e13], fun k h1 h2 => by rw [he _ (by omega), e14 k h1 h2]⟩⟩
  · rw [he _ (by omega), he _ (by omega), he _ (by omega)]
    exact e2 k hk
  · rw [he _ (by omega), he _ (by omega), he _ (by omega), he _ (by omega)]
    exact e5 k hk
def HR (K : SMain) (M : SMod) : Prop := ∃ o t, o < 4 ∧ t ≤ 4 ∧ K.1 0 = nI o ∧ K.1 1 = nI t ∧ M.2 0 = nI t ∧ ∀ i, i < t → AB (K.2.2.2.2.2 ((o + i) % 4)) (fun k => M.1 1 (156 * i + k))
def TX (K : SMain) (M : SMod) : Prop := ∃ len, len ≤ 60 ∧ K.2.1.2.2 0 = nI len ∧ M.2 2 = nI len ∧ ∀ k, k < len → ∃ c, 32 ≤ c ∧ c ≤ 126 ∧ K.2.1.1 k = nI c ∧ M.1 3 k = nI c
def Rel (K : SMain) (M : SMod) : Prop := AB K.2.2.2.1 (M.1 0) ∧ HR K M ∧ TX K M ∧ M.2 1 = 0
theorem Rel.W {K : SMain} {M : SMod} (h : Rel K M) : WM M := by
  obtain ⟨o, t, h1, h2, h3, h4, h5, h6⟩ := h.2.1
  exact ⟨⟨t, h2, h5⟩, Or.inl h.2.2.2⟩
theorem Rel.k {K K' : SMain} {M M' : SMod} (h : Rel K M) (hk : KeepS M M') (h0 : K'.1 0 = K.1 0) (h1 : K'.1 1 = K.1 1) (ht : K'.2.1.1 = K.2.1.1) (ht2 : K'.2.1.2.2 0 = K.2.1.2.2 0) (hn : K'.2.2.2.1 = K.2.2.2.1) (hp : K'.2.2.2.2.2 = K.2.2.2.2.2) : Rel K' M' := by
  obtain ⟨a, ⟨o, t, b1, b2, b3, b4, b5, b6⟩, ⟨len, c1, c2, c3, c4⟩, d⟩ := h
  have e1 : M'.1 1 = M.1 1 := hk.1 1 (by decide) (by decide) (by decide) (by decide)
  have e3 : M'.1 3 = M.1 3 := hk.1 3 (by decide) (by decide) (by decide) (by decide)
  refine ⟨by rw [hn, hk.s]; exact a, ⟨o, t, b1, b2, by rw [h0, b3], by rw [h1, b4], by rw [hk.2, b5], fun i hi => by rw [hp, e1]; exact b6 i hi⟩, ⟨len, c1, by rw [ht2, c2], by rw [hk.2, c3], fun k hk2 => by rw [ht, e3]; exact c4 k hk2⟩, by rw [hk.2, d]⟩
theorem pastIx_at {K : SMain} {x : Int32} {o t : Nat} (h0 : K.1 0 = nI o) (hx : x = nI t) (ho : o < 1000) (ht : t < 1000) : pastIx K x = some ((o + t) % 4) := by
  have e : (K.1 0 + x) - (K.1 0 + x) / 4 * 4 = nI ((o + t) % 4) := by
    rw [h0, hx, nI_add]
    exact pk_rem (d := 4) (by omega) (by omega) (by omega)
  unfold pastIx
  rw [e]
  have hm := Nat.mod_lt (o + t) (show 0 < 4 by omega)
  generalize (o + t) % 4 = j at hm
  rcases (by omega : j = 0 ∨ j = 1 ∨ j = 2 ∨ j = 3) with rfl | rfl | rfl | rfl
  · rw [if_pos rfl]
  · rw [if_neg (by decide), if_pos rfl]
  · rw [if_neg (by decide), if_neg (by decide), if_pos rfl]
  · rw [if_neg (by decide), if_neg (by decide), if_neg (by decide), if_pos rfl]
theorem settle_ok {K : SMain} {M M' : SMod} {r : Int32} (hr : 0 ≤ r) (h : Rel K M) (hc : CH M M') (ha : AB K.2.2.2.2.1 (M'.1 0)) : ∃ K', X6_settle K r = some (K', r) ∧ Rel K' M' ∧ K'.1 2 = K.1 2 := by
  obtain ⟨a, ⟨o, t, b1, b2, b3, b4, b5, b6⟩, ⟨len, c1, c2, c3, c4⟩, d⟩ := h
  obtain ⟨⟨t', d1, d2, d3⟩, d4, d5, d6⟩ := hc
  have htt : t' = t := by
    rw [b5] at d2
    exact ((nI_eq (by omega) (by omega)).mp d2).symm
  subst htt
  rcases d3 with ⟨z, -, -⟩ | ⟨-, d7, d8⟩
  · rw [d] at z
    exact absurd z (by decide)
  have htx : ∀ K' : SMain, K'.2.1 = K.2.1 → TX K' M' := fun K' hK' => ⟨len, c1, by rw [hK', c2], by rw [d8]; exact c3, fun k hk => by rw [hK', d5]; exact c4 k hk⟩
  have hr1 : M'.2 1 = 0 := by rw [d8]; exact d
  have hE : X6_isError r = 0 := by
    unfold X6_isError
    rw [if_pos hr]
  unfold X6_settle
  rw [if_pos hE]
  by_cases h4 : t' = 4
  · subst h4
    have eJ : X6_remember_J5 K 4 (K.1 1) = (up (up K.1 0 (nI ((o + 1) % 4))) 1 (nI 3), K.2) := by
      unfold X6_remember_J5
      rw [if_pos (show K.1 1 = 4 from b4)]
      show (up (up K.1 0 ((K.1 0 + 1) - (K.1 0 + 1) / 4 * 4)) 1 (up K.1 0 ((K.1 0 + 1) - (K.1 0 + 1) / 4 * 4) 1 - 1), K.2) = _
      have e9 : nI (o + 1) - nI (o + 1) / 4 * 4 = nI ((o + 1) % 4) := pk_rem (d := 4) (by omega) (by omega) (by omega)
      rw [b3, nI_1, e9]
      show (up (up K.1 0 (nI ((o + 1) % 4))) 1 (K.1 1 - 1), K.2) = _
      rw [b4]
      rfl
    unfold X6_remember
    have ep : pastIx (up (up K.1 0 (nI ((o + 1) % 4))) 1 (nI 3), K.2) (((up (up K.1 0 (nI ((o + 1) % 4))) 1 (nI 3), K.2) : SMain).1 1) = some (((o + 1) % 4 + 3) % 4) := pastIx_at rfl rfl (by omega) (by omega)
    rw [eJ, bind_some' ep]
    refine ⟨_, rfl, ⟨ha, ⟨(o + 1) % 4, 4, by omega, by omega, rfl, rfl, by rw [d8]; rfl, fun i hi => ?_⟩, htx _ rfl, hr1⟩, rfl⟩
    show AB (up K.2.2.2.2.2 (((o + 1) % 4 + 3) % 4) K.2.2.2.1 (((o + 1) % 4 + i) % 4)) _
    rw [d7]
    by_cases hi3 : i = 3
    · subst hi3
      rw [up_eq]
      refine AB_congr a (fun k hk => ?_)
      show npst (M.1 1) (M.1 0) 4 (156 * 3 + k) = _
      unfold npst
      rw [if_pos rfl]
      show (if 468 ≤ 156 * 3 + k ∧ 156 * 3 + k < 624 then M.1 0 (156 * 3 + k - 468) else _) = _
      rw [if_pos (by omega), show 156 * 3 + k - 468 = k from by omega]
    · rw [up_ne _ _ (show ((o + 1) % 4 + i) % 4 ≠ ((o + 1) % 4 + 3) % 4 by omega), show ((o + 1) % 4 + i) % 4 = (o + (i + 1)) % 4 from by omega]
      refine AB_congr (b6 (i + 1) (by omega)) (fun k hk => ?_)
      show npst (M.1 1) (M.1 0) 4 (156 * i + k) = M.1 1 (156 * (i + 1) + k)
      unfold npst
      rw [if_pos rfl]
      show (if 468 ≤ 156 * i + k ∧ 156 * i + k < 624 then _ else if 156 * i + k < 468 then M.1 1 (156 * i + k + 156) else _) = _
      rw [if_neg (by omega), if_pos (by omega), show 156 * i + k + 156 = 156 * (i + 1) + k from by omega]
  · have hne : ¬ K.1 1 = 4 := by
      rw [b4]
      intro z
      exact h4 ((nI_eq (b := 4) (by omega) (by omega)).mp z)
    have eJ : X6_remember_J5 K 4 (K.1 1) = K := by
      unfold X6_remember_J5
      rw [if_neg hne]
    unfold X6_remember
    rw [eJ, bind_some' (pastIx_at b3 b4 (by omega) (by omega))]
    refine ⟨_, rfl, ⟨ha, ⟨o, t' + 1, b1, by omega, b3, ?_, ?_, fun i hi => ?_⟩, htx _ rfl, hr1⟩, rfl⟩
    · show K.1 1 + 1 = _
      rw [b4, nI_1]
    · rw [d8, Nat.min_eq_left (by omega)]
      rfl
    show AB (up K.2.2.2.2.2 ((o + t') % 4) K.2.2.2.1 ((o + i) % 4)) _
    rw [d7]
    by_cases hi3 : i = t'
    · subst hi3
      rw [up_eq]
      refine AB_congr a (fun k hk => ?_)
      show npst (M.1 1) (M.1 0) i (156 * i + k) = _
      unfold npst
      rw [if_neg h4]
      show (if 156 * i ≤ 156 * i + k ∧ 156 * i + k < 156 * i + 156 then M.1 0 (156 * i + k - 156 * i) else _) = _
      rw [if_pos (by omega), show 156 * i + k - 156 * i = k from by omega]
    · rw [up_ne _ _ (show (o + i) % 4 ≠ (o + t') % 4 by omega)]
      refine AB_congr (b6 i (by omega)) (fun k hk => ?_)
      show npst (M.1 1) (M.1 0) t' (156 * i + k) = M.1 1 (156 * i + k)
      unfold npst
      rw [if_neg h4]
      show (if 156 * t' ≤ 156 * i + k ∧ 156 * i + k < 156 * t' + 156 then _ else _) = _
      rw [if_neg (by omega)]
theorem settle_err {K : SMain} {r : Int32} (hr : r < 0) : X6_settle K r = some (K, r) := by
  have hE : ¬ X6_isError r = 0 := by
    unfold X6_isError
    rw [if_neg (Int32.not_le.mpr hr)]
    decide
  unfold X6_settle
  rw [if_neg hE]
theorem outer {K : SMain} {M : SMod} {cls : Option (SPar × Int32)} {mo : Option (SMod × Int32)} (h : Rel K M) (ho : OPS M cls mo) : ∃ (P' : SPar) (r : Int32) (K' : SMain) (v : SMod × Int32), cls = some (P', r) ∧ X6_settle (K.1, K.2.1, K.2.2.1, K.2.2.2.1, P', K.2.2.2.2.2) r = some (K', r) ∧ mo = some v ∧ r = v.2 ∧ Rel K' v.1 := by
  obtain ⟨P', M', r, h1, h2, h3⟩ := ho
  rcases h3 with ⟨h3, h4⟩ | ⟨h3, h4, h5⟩
  · exact ⟨P', r, _, (M', r), h1, settle_err h3, h2, rfl, h.k h4 rfl rfl rfl rfl rfl rfl⟩
  · have hR : Rel (K.1, K.2.1, K.2.2.1, K.2.2.2.1, P', K.2.2.2.2.2) M := h.k (KeepS.rf M) rfl rfl rfl rfl rfl rfl
    obtain ⟨K', g1, g2, -⟩ := settle_ok h3 hR h5 h4
    exact ⟨P', r, K', (M', r), h1, g1, h2, rfl, g2⟩
theorem o_puppet : Op_puppet Rel := by
  intro K M a0 a1 h
  obtain ⟨P', r, K', v, h1, h2, h3, h4, h5⟩ := outer h (op_puppet (P := K.2.2.2.1) a0 a1 h.1 h.W)
  refine ⟨(K', r), v, ?_, h3, h4, h5⟩
  unfold X6_puppet
  show Option.bind (X1_addPuppet K.2.2.2.1 a0 a1) _ = _
  rw [bind_some' h1]
  show Option.bind (X6_settle (K.1, K.2.1, K.2.2.1, K.2.2.2.1, P', K.2.2.2.2.2) r) _ = _
  rw [bind_some' h2]
theorem o_tie : Op_tie Rel := by
  intro K M a0 a1 a2 a3 ha h
  obtain ⟨P', r, K', v, h1, h2, h3, h4, h5⟩ := outer h (op_tie (P := K.2.2.2.1) a0 a1 a2 a3 ha h.1 h.W)
  refine ⟨(K', r), v, ?_, h3, h4, h5⟩
  unfold X6_tie
  simp only [bnd]
  rcases ha with rfl | rfl
  · rw [if_pos rfl]
    show Option.bind (X1_addString K.2.2.2.1 a0 a1 0 a3) _ = _
    rw [bind_some' h1]
    show Option.bind (X6_settle (K.1, K.2.1, K.2.2.1, K.2.2.2.1, P', K.2.2.2.2.2) r) _ = _
    rw [bind_some' h2]
  · rw [if_neg (by decide)]
    show Option.bind (X1_addString K.2.2.2.1 a0 a1 1 a3) _ = _
    rw [bind_some' h1]
    show Option.bind (X6_settle (K.1, K.2.1, K.2.2.1, K.2.2.2.1, P', K.2.2.2.2.2) r) _ = _
    rw [bind_some' h2]
theorem o_cut : Op_cut Rel := by
  intro K M a0 h
  obtain ⟨P', r, K', v, h1, h2, h3, h4, h5⟩ := outer h (op_cut (P := K.2.2.2.1) a0 h.1 h.W)
  refine ⟨(K', r), v, ?_, h3, h4, h5⟩
  unfold X6_cut
  show Option.bind (X1_cutString K.2.2.2.1 a0) _ = _
  rw [bind_some' h1]
  show Option.bind (X6_settle (K.1, K.2.1, K.2.2.1, K.2.2.2.1, P', K.2.2.2.2.2) r) _ = _
  rw [bind_some' h2]
theorem o_cutDeal : Op_cutDeal Rel := by
  intro K M a0 h
  obtain ⟨P', r, K', v, h1, h2, h3, h4, h5⟩ := outer h (op_cutDeal (P := K.2.2.2.1) a0 h.1 h.W)
  refine ⟨(K', r), v, ?_, h3, h4, h5⟩
  unfold X6_cutDeal
  show Option.bind (X1_cutStringsOf K.2.2.2.1 a0) _ = _
  rw [bind_some' h1]
  show Option.bind (X6_settle (K.1, K.2.1, K.2.2.1, K.2.2.2.1, P', K.2.2.2.2.2) r) _ = _
  rw [bind_some' h2]
theorem o_pull : Op_pull Rel := by
  intro K M a0 a1 h
  obtain ⟨P', r, K', v, h1, h2, h3, h4, h5⟩ := outer h (op_pull (P := K.2.2.2.1) a0 a1 h.1 h.W)
  refine ⟨(K', r), v, ?_, h3, h4, h5⟩
  unfold X6_pull
  show Option.bind (X1_pullTo K.2.2.2.1 a0 a1) _ = _
  rw [bind_some' h1]
  show Option.bind (X6_settle (K.1, K.2.1, K.2.2.1, K.2.2.2.1, P', K.2.2.2.2.2) r) _ = _
  rw [bind_some' h2]
theorem o_release : Op_release Rel := by
  intro K M a0 h
  obtain ⟨P', r, K', v, h1, h2, h3, h4, h5⟩ := outer h (op_release (P := K.2.2.2.1) a0 h.1 h.W)
  refine ⟨(K', r), v, ?_, h3, h4, h5⟩
  unfold X6_release
  show Option.bind (X1_letGo K.2.2.2.1 a0) _ = _
  rw [bind_some' h1]
  show Option.bind (X6_settle (K.1, K.2.1, K.2.2.1, K.2.2.2.1, P', K.2.2.2.2.2) r) _ = _
  rw [bind_some' h2]
theorem o_session : Op_session Rel := by
  intro K M h
  obtain ⟨P', r, K', v, h1, h2, h3, h4, h5⟩ := outer h (op_session (P := K.2.2.2.1) h.1 h.W)
  refine ⟨(K', r), v, ?_, h3, h4, h5⟩
  unfold X6_session
  show Option.bind (X1_holdSession K.2.2.2.1) _ = _
  rw [bind_some' h1]
  show Option.bind (X6_settle (K.1, K.2.1, K.2.2.1, K.2.2.2.1, P', K.2.2.2.2.2) r) _ = _
  rw [bind_some' h2]
theorem o_set : Op_set Rel := by
  intro K M a0 a1 h
  by_cases h0 : a0 = 0
  · subst h0
    obtain ⟨P', r, K', v, h1, h2, h3, h4, h5⟩ := outer h (op_set (P := K.2.2.2.1) a1 h.1 h.W)
    refine ⟨(K', r), v, ?_, h3, h4, h5⟩
    have h1 := Option.some.inj h1
    unfold X6_set
    rw [if_pos rfl]
    show Option.bind (X6_settle (K.1, K.2.1, K.2.2.1, K.2.2.2.1, (X1_bindPulls K.2.2.2.1 a1).1, K.2.2.2.2.2) (X1_bindPulls K.2.2.2.1 a1).2) _ = _
    rw [h1]
    show Option.bind (X6_settle (K.1, K.2.1, K.2.2.1, K.2.2.2.1, P', K.2.2.2.2.2) r) _ = _
    rw [bind_some' h2]
  · refine ⟨(K, -1000001), (M, -1000001), ?_, ?_, rfl, h⟩
    · unfold X6_set
      rw [if_neg h0]
    · unfold X7_set
      rw [if_neg h0]
