/-! pulls, the setting, sessions -/
theorem J549_no {M : SLaw} {K : SMain} {n p : Nat} (z : Int32) (hp : n ≤ p) (hp2 : p < 1000) : L_isActed_J549 (M, K) (nI p) z (nI n) (nI p) = some ((M, K), -1) := by
  unfold L_isActed_J549
  rw [if_pos (nI_le hp (by omega))]
theorem RL1.pul {M : SLaw} {n p : Nat} {se le pu : Nat → Int32} (v : Int32) (h : RL1 M n se le pu) : RL1 (up M 0 (upd (M 0) (3 * p + 2) v)) n se le (upd pu p v) := by
  refine ⟨h.1, fun k hk => ?_⟩
  show upd (M 0) (3 * p + 2) v (3 * k) = _ ∧ upd (M 0) (3 * p + 2) v (3 * k + 1) = _ ∧ upd (M 0) (3 * p + 2) v (3 * k + 2) = _
  rw [pk_un (by omega), pk_un (by omega), upd_at, upd_at]
  refine ⟨(h.2 k hk).1, (h.2 k hk).2.1, ?_⟩
  by_cases c : k = p
  · rw [if_pos (by omega), if_pos c]
  · rw [if_neg (by omega), if_neg c]
    exact (h.2 k hk).2.2
theorem act_pull {e W Y : Nat} {K : SLM} (h : RelL e K) (hW1 : 10 ≤ W) (hW : W < 14) (hY : Y < 2 ^ 31) : ∃ K', L_isActed K (nI W) (nI Y) = some (K', 1) ∧ RelL (e + 1) K' := by
  obtain ⟨M, K⟩ := K
  obtain ⟨hC, n, se, le, pu, L, g, hA, hP, h1, hF, hE⟩ := h
  have hC : HC K := hC
  have hP : RC K.2.2.2.1 n se le pu L g := hP
  have h1 : RL1 M n se le pu := h1
  have hF : FS M L := hF
  have hE : EL K.2.2.2.1 M n e := hE
  have hn := hA.1
  have hRP : RP e K.2.2.2.1 M := ⟨n, se, le, pu, L, g, hA, hP, h1, hF, hE⟩
  obtain ⟨⟨sp, s1, s2, s3⟩, ⟨b, b1, b2, b3⟩, -⟩ := id hE
  unfold L_isActed
  rw [if_pos (show (2 : Int32) ≤ nI W from nI_le (a := 2) (by omega) (by omega)), if_pos (show (8 : Int32) ≤ nI W from nI_le (a := 8) (by omega) (by omega)), if_neg (show ¬ nI W = 8 from fun z => by have := (nI_eq (b := 8) (by omega) (by omega)).mp z; omega), if_neg (show ¬ nI W = 9 from fun z => by have := (nI_eq (b := 9) (by omega) (by omega)).mp z; omega), if_neg (show ¬ (14 : Int32) ≤ nI W from nI_ge (b := 14) (by omega) (by omega))]
  simp (disch := omega) only [cl0, h1.1, d144e, d12e, r12e, d2e, r2e]
  generalize hZ : Y / 144 = Z
  generalize hp' : Y % 12 = p
  have hZ2 : Z < 2 ^ 31 := by omega
  have hp2 : p < 12 := by omega
  have hm : Z % 2 ≤ 1 := by omega
  by_cases hp : p < n
  case neg =>
    have hJ2 : L_isActed_J575 (M, K) (nI p) (nI Z) (-1) (-1) = some (M, K) := by
      unfold L_isActed_J575
      rw [if_neg (by decide)]
    have hc : X1_pullTo K.2.2.2.1 (nI p) (nI (Z % 2)) = some (K.2.2.2.1, -1000001) := by
      unfold X1_pullTo
      rw [hasP0 (by omega) hP.1.1 (by omega), if_pos rfl]
    obtain ⟨K', k1, k2, -, k4⟩ := m_pull K (nI p) (nI (Z % 2)) _ _ hc hC
    rw [bind_some' (J549_no _ (by omega) (by omega))]
    show ∃ K', ((L_isActed_J575 (M, K) (nI p) (nI Z) (-1) (-1)).bind _) = _ ∧ _
    rw [bind_some' hJ2, bind_some' k1, bnd_at, if_neg (show ¬ (-1 : Int32) = 0 by decide), if_neg (show ¬ (0 : Int32) ≤ -1 by decide), if_pos rfl]
    refine ⟨_, rfl, k2, ?_⟩
    show RP (e + 1) K'.2.2.2.1 M
    rw [k4 (by decide)]
    exact hRP.s
  obtain ⟨M1, r, w1, w2, w3⟩ := whyPull_l (w := nI (Z % 2)) hA h1 hF s3 b3 (by omega) hp
  have hJ1 : L_isActed_J549 (M, K) (nI p) (nI Z) (nI n) (nI p) = some ((M1, K), r) := by
    unfold L_isActed_J549
    rw [if_neg (nI_ge hp (by omega))]
    simp (disch := omega) only [d2e, r2e, w1, bs, bnd_at]
  have hF1 := w2.fs hF
  have h11 := w2.r1 h1
  have hE1 := w2.el hE
  rw [bind_some' hJ1]
  show ∃ K', ((L_isActed_J575 (M1, K) (nI p) (nI Z) r r).bind _) = _ ∧ _
  by_cases hr : r = 0
  · subst hr
    obtain ⟨M2, hM2⟩ : ∃ M2 : SLaw, M2 = up M1 0 (upd (M1 0) (3 * p + 2) (nI (Z % 2))) := ⟨_, rfl⟩
    have hJ2 : L_isActed_J575 (M1, K) (nI p) (nI Z) 0 0 = some (M2, K) := by
      unfold L_isActed_J575
      rw [if_pos rfl]
      simp (disch := omega) only [m3e, p2e, nI_clamp, gN, not_false_eq_true, ↓reduceIte, d2e, r2e, bnd_at, ← hM2]
    obtain ⟨P', p1, p2, p3, p4, p5⟩ := c_pull hA hP hp hm s2 b2 (by omega) w3
    obtain ⟨K', k1, k2, k3, -⟩ := m_pull K (nI p) (nI (Z % 2)) _ _ p1 hC
    have h12 : RL1 M2 n se le (upd pu p (nI (Z % 2))) := by rw [hM2]; exact h11.pul _
    have hF2 : FS M2 L := by
      unfold FS
      rw [show M2 3 = M1 3 by rw [hM2]; rfl, show M2 1 = M1 1 by rw [hM2]; rfl]
      exact hF1
    obtain ⟨M3, y1, y2, y3, y4⟩ := yes_l p2 (BT.all L hF.2.1) h12 hF2
    obtain ⟨q, q1, q2⟩ := yes_nat p2 p3.2.2.2.1
    rw [bind_some' hJ2]
    show ∃ K', ((X6_pull K (nI p) (nI (Z % 2))).bind _) = _ ∧ _
    rw [bind_some' k1, bnd_at, if_pos rfl]
    show ∃ K', ((L_yes M2 (-1)).bind _) = _ ∧ _
    rw [bind_some' y1, bnd_at, if_pos (yes_eq p3.2.2.2.1 y4)]
    refine ⟨_, rfl, k2, ?_⟩
    show RP (e + 1) K'.2.2.2.1 M3
    rw [k3 (by rw [q2]; exact nI_pos' (by omega))]
    refine y2.rp ⟨n, se, le, _, L, _, p2, p3, h12, hF2, EL.s (hE1.x p4 (Nat.le_refl n) (fun i hi => ?_) ?_ ?_)⟩
    · rw [hM2]
      rfl
    · rw [hM2]
      rfl
    · rw [p5, hM2]
      exact hE1.2.2.2.2.2
  · have hr3 : 0 ≤ r := by
      rcases w3.c with e | e | e | e <;> rw [e] <;> decide
    have hJ2 : L_isActed_J575 (M1, K) (nI p) (nI Z) r r = some (M1, K) := by
      unfold L_isActed_J575
      rw [if_neg hr]
    obtain ⟨K', k1, k2, -, k4⟩ := m_pull K (nI p) (nI (Z % 2)) _ _ (c_nopull hA hP hp hm s2 b2 (by omega) w3 hr) hC
    rw [bind_some' hJ2]
    show ∃ K', ((X6_pull K (nI p) (nI (Z % 2))).bind _) = _ ∧ _
    rw [bind_some' k1, bnd_at, if_neg hr, if_pos hr3, if_pos rfl]
    refine ⟨_, rfl, k2, ?_⟩
    show RP (e + 1) K'.2.2.2.1 M1
    rw [k4 (by decide)]
    exact (w2.rp hRP).s
theorem act_release {e Y : Nat} {K : SLM} (h : RelL e K) (hY : Y < 2 ^ 31) : ∃ K', L_isActed K (nI 14) (nI Y) = some (K', 1) ∧ RelL (e + 1) K' := by
  obtain ⟨M, K⟩ := K
  obtain ⟨hC, n, se, le, pu, L, g, hA, hP, h1, hF, hE⟩ := h
  have hC : HC K := hC
  have hP : RC K.2.2.2.1 n se le pu L g := hP
  have h1 : RL1 M n se le pu := h1
  have hF : FS M L := hF
  have hE : EL K.2.2.2.1 M n e := hE
  have hn := hA.1
  have hRP : RP e K.2.2.2.1 M := ⟨n, se, le, pu, L, g, hA, hP, h1, hF, hE⟩
  unfold L_isActed
  rw [if_pos (show (2 : Int32) ≤ nI 14 by decide), if_pos (show (8 : Int32) ≤ nI 14 by decide), if_neg (show ¬ nI 14 = 8 by decide), if_neg (show ¬ nI 14 = 9 by decide), if_pos (show (14 : Int32) ≤ nI 14 by decide), if_pos (show nI 14 = 14 from rfl)]
  simp (disch := omega) only [cl0, h1.1, d12e, r12e]
  generalize hp' : Y % 12 = p
  have hp2 : p < 12 := by omega
  by_cases hp : p < n
  case neg =>
    have hJ1 : L_isActed_J652 (M, K) (nI p) (nI n) (nI p) = some (-2) := by
      unfold L_isActed_J652
      rw [if_pos (nI_le (by omega) (by omega))]
    have hJ2 : L_isActed_J672 (M, K) (nI p) (-2) (-2) = some (M, K) := by
      unfold L_isActed_J672
      rw [if_pos (by decide)]
    have hc : X1_letGo K.2.2.2.1 (nI p) = some (K.2.2.2.1, -1000001) := by
      unfold X1_letGo
      rw [hasP0 (by omega) hP.1.1 (by omega), if_pos rfl]
    obtain ⟨K', k1, k2, -, k4⟩ := m_release K (nI p) _ _ hc hC
    rw [bind_some' hJ1, bind_some' hJ2, bind_some' k1, bnd_at, if_pos rfl, if_pos rfl]
    refine ⟨_, rfl, k2, ?_⟩
    show RP (e + 1) K'.2.2.2.1 M
    rw [k4 (by decide)]
    exact hRP.s
  have hp3 := (hA.2.2.2 p hp).2.2.1
  have hJ1 : L_isActed_J652 (M, K) (nI p) (nI n) (nI p) = some (pu p) := by
    unfold L_isActed_J652
    rw [if_neg (nI_ge hp (by omega))]
    simp (disch := omega) only [m3e, p2e, nI_clamp, gN, not_false_eq_true, ↓reduceIte, (h1.2 p hp).2.2]
  have hm2 : ¬ pu p = -2 := by rcases hp3 with e | e | e <;> rw [e] <;> decide
  obtain ⟨c1, c2⟩ := c_release hA hP hp
  by_cases hpp : pu p = -1
  · have hJ2 : L_isActed_J672 (M, K) (nI p) (pu p) (pu p) = some (M, K) := by
      unfold L_isActed_J672
      rw [if_pos (by rw [hpp]; decide)]
    obtain ⟨K', k1, k2, -, k4⟩ := m_release K (nI p) _ _ (c1 hpp) hC
    rw [bind_some' hJ1, bind_some' hJ2, bind_some' k1, bnd_at, if_neg hm2, if_neg (by rw [hpp]; decide), if_pos rfl]
    refine ⟨_, rfl, k2, ?_⟩
    show RP (e + 1) K'.2.2.2.1 M
    rw [k4 (by decide)]
    exact hRP.s
  · have h01 := p01 hp3 hpp
    have h0le : 0 ≤ pu p := by rcases h01 with e | e <;> rw [e] <;> decide
    obtain ⟨M2, hM2⟩ : ∃ M2 : SLaw, M2 = up M 0 (upd (M 0) (3 * p + 2) (-1)) := ⟨_, rfl⟩
    have hJ2 : L_isActed_J672 (M, K) (nI p) (pu p) (pu p) = some (M2, K) := by
      unfold L_isActed_J672
      rw [if_neg (Int32.not_lt.mpr h0le)]
      simp (disch := omega) only [m3e, p2e, nI_clamp, gN, not_false_eq_true, ↓reduceIte, bnd_at, ← hM2]
    obtain ⟨P', p1, p2, p3, p4, p5⟩ := c2 hpp
    obtain ⟨K', k1, k2, k3, -⟩ := m_release K (nI p) _ _ p1 hC
    rw [bind_some' hJ1, bind_some' hJ2, bind_some' k1, bnd_at, if_neg hm2, if_pos h0le, if_pos rfl]
    refine ⟨_, rfl, k2, ?_⟩
    show RP (e + 1) K'.2.2.2.1 M2
    rw [k3 h0le]
    refine ⟨n, se, le, _, L, g, p2, p3, by rw [hM2]; exact h1.pul _, ?_, EL.s (hE.x p4 (Nat.le_refl n) (fun i hi => ?_) ?_ ?_)⟩
    · unfold FS
      rw [show M2 3 = M 3 by rw [hM2]; rfl, show M2 1 = M 1 by rw [hM2]; rfl]
      exact hF
    · rw [hM2]
      rfl
    · rw [hM2]
      rfl
    · rw [p5, hM2]
      exact hE.2.2.2.2.2
theorem act_set {e Y : Nat} {K : SLM} (h : RelL e K) (hY : Y < 2 ^ 31) : ∃ K', L_isActed K (nI 15) (nI Y) = some (K', 1) ∧ RelL (e + 1) K' := by
  obtain ⟨M, K⟩ := K
  obtain ⟨hC, n, se, le, pu, L, g, hA, hP, h1, hF, hE⟩ := h
  have hC : HC K := hC
  have hP : RC K.2.2.2.1 n se le pu L g := hP
  have h1 : RL1 M n se le pu := h1
  have hF : FS M L := hF
  have hE : EL K.2.2.2.1 M n e := hE
  have hn := hA.1
  obtain ⟨⟨sp, s1, s2, s3⟩, ⟨b, b1, b2, b3⟩, ⟨ss, e7, e8, e9, e10⟩, e11, e12, e13⟩ := hE
  unfold L_isActed
  rw [if_pos (show (2 : Int32) ≤ nI 15 by decide), if_pos (show (8 : Int32) ≤ nI 15 by decide), if_neg (show ¬ nI 15 = 8 by decide), if_neg (show ¬ nI 15 = 9 by decide), if_pos (show (14 : Int32) ≤ nI 15 by decide), if_neg (show ¬ nI 15 = 14 by decide), if_pos (show nI 15 = 15 from rfl)]
  simp (disch := omega) only [cl7, d144e, d13e, r13e, b3]
  generalize hm' : Y / 144 % 13 = m
  have hm : m ≤ 12 := by omega
  have hc := c_set (P := K.2.2.2.1) hm
  rw [b2] at hc
  obtain ⟨K', k1, k2, k3, -⟩ := m_set K (nI m) _ _ (congrArg some hc) hC
  obtain ⟨M2, hM2⟩ : ∃ M2 : SLaw, M2 = up M 3 (upd (M 3) 7 (nI m)) := ⟨_, rfl⟩
  rw [bnd_at, ← hM2]
  show ∃ K', ((X6_set K 0 (nI m)).bind _) = _ ∧ _
  rw [bind_some' k1, bnd_at, if_pos rfl]
  refine ⟨_, rfl, k2, ?_⟩
  show RP (e + 1) K'.2.2.2.1 M2
  rw [k3 (nI_pos' (by omega)), hM2]
  refine ⟨n, se, le, pu, L, g, hA, ⟨⟨hP.1.1, hP.1.2⟩, hP.2.1, hP.2.2.1, hP.2.2.2.1, hP.2.2.2.2.1, hP.2.2.2.2.2⟩, ⟨?_, h1.2⟩, ⟨?_, hF.2.1, hF.2.2⟩, EL.s ⟨⟨sp, s1, s2, ?_⟩, ⟨m, hm, rfl, ?_⟩, ⟨ss, e7, e8, ?_, ?_⟩, ?_, e12, ?_⟩⟩
  · show upd (M 3) 7 (nI m) 0 = _
    rw [pk_un (by omega)]
    exact h1.1
  · show upd (M 3) 7 (nI m) 1 = _
    rw [pk_un (by omega)]
    exact hF.1
  · show upd (M 3) 7 (nI m) 2 = _
    rw [pk_un (by omega), s3]
  · show upd (M 3) 7 (nI m) 7 = _
    rw [pk_us]
  · show upd (M 3) 7 (nI m) 3 = _
    rw [pk_un (by omega), e9]
  · show upd (M 3) 7 (nI m) 5 = _
    rw [pk_un (by omega), e10]
  · show _ = upd (M 3) 7 (nI m) 4
    rw [pk_un (by omega)]
    exact e11
  · show _ = upd (M 3) 7 (nI m) 6
    rw [pk_un (by omega)]
    exact e13
