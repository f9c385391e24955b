/-! a string more -/
theorem J244_at {K : SLM} {a b : Nat} (x10 x12 x13 t2 : Int32) (ha : a < 1000) (hb : b < 1000) : L_isActed_J244 K (nI a) (nI b) x10 x12 x13 (nI b) (nI a) t2 = nI (min a b) := by
  unfold L_isActed_J244
  by_cases c : b ≤ a
  · rw [if_pos (nI_le c (by omega)), Nat.min_eq_right c]
  · rw [if_neg (nI_ge (by omega) (by omega)), Nat.min_eq_left (by omega)]
theorem J268_at {K : SLM} {a b : Nat} (x10 x12 x13 t2 : Int32) (ha : a < 1000) (hb : b < 1000) : L_isActed_J268 K (nI a) (nI b) x10 x12 x13 (nI b) (nI a) t2 = nI (max a b) := by
  unfold L_isActed_J268
  by_cases c : b ≤ a
  · rw [if_pos (nI_le c (by omega)), Nat.max_eq_left c]
  · rw [if_neg (nI_ge (by omega) (by omega)), Nat.max_eq_right (by omega)]
theorem J324_at {K : SLM} {m : Nat} (x10 x13 t2 t3 : Int32) (hm : m ≤ 1) : L_isActed_J324 K x10 x13 1 (nI m) t2 t3 = nI m := by
  unfold L_isActed_J324
  rcases (by omega : m = 0 ∨ m = 1) with rfl | rfl
  · rfl
  · rfl
/-- the rows with a string more -/
def addF (M : SLaw) (l a b : Nat) (u d : Int32) : Nat → Int32 := upd (upd (upd (upd (M 1) (4 * l) (nI (min a b))) (4 * l + 1) (nI (max a b))) (4 * l + 2) u) (4 * l + 3) d
theorem J230_new {M : SLaw} {K : SMain} {L : List Str4} {a b Z : Nat} (u x13 : Int32) (hZ : Z < 2 ^ 31) (ha : a < 12) (hb : b < 12) (hF : FS M L) (hlen : L.length < 15) :
    ∃ M', L_isActed_J230 (M, K) (nI a) (nI b) (nI Z) u x13 0 = some (M', K) ∧ M' 0 = M 0 ∧ M' 1 = addF M L.length a b u (nI (Z / 2 % 6)) ∧ M' 2 = M 2 ∧ M' 3 = upd (M 3) 1 (nI (L.length + 1)) := by
  unfold L_isActed_J230
  rw [if_pos rfl]
  have hl := hF.1
  refine ⟨up (up (up (up (up M 1 (upd (M 1) (4 * L.length) (nI (min a b)))) 1 (upd (upd (M 1) (4 * L.length) (nI (min a b))) (4 * L.length + 1) (nI (max a b)))) 1 (upd (upd (upd (M 1) (4 * L.length) (nI (min a b))) (4 * L.length + 1) (nI (max a b))) (4 * L.length + 2) u)) 1 (addF M L.length a b u (nI (Z / 2 % 6)))) 3 (upd (M 3) 1 (nI (L.length + 1))), ?_, rfl, rfl, rfl, rfl⟩
  unfold addF
  simp (disch := omega) only [cl1, hl, m4e, nI_1, p2e, p3e, nI_clamp, gN, not_false_eq_true, ↓reduceIte, bnd_at, u11, u13, J244_at, J268_at, d2e, d6e, r6e]
theorem FS.snoc {M M' : SLaw} {L : List Str4} {a b : Nat} {u d : Int32} (hF : FS M L) (hlen : L.length < 15) (h1 : M' 1 = addF M L.length a b u d) (h3 : M' 3 = upd (M 3) 1 (nI (L.length + 1))) : FS M' (L ++ [(min a b, max a b, u, d)]) := by
  have hl2 : (L ++ [((min a b, max a b, u, d) : Str4)]).length = L.length + 1 := by rw [List.length_append]; rfl
  refine ⟨by rw [h3, pk_us, hl2], by rw [hl2]; omega, fun k hk => ?_⟩
  rw [hl2] at hk
  rw [sg_snoc _ _ _ (by omega), h1]
  unfold addF
  by_cases c : k = L.length
  · rw [if_pos c, c]
    refine ⟨?_, ?_, ?_, ?_⟩
    · rw [pk_un (by omega), pk_un (by omega), pk_un (by omega), pk_us]
    · rw [pk_un (by omega), pk_un (by omega), pk_us]
    · rw [pk_un (by omega), pk_us]
    · rw [pk_us]
  · rw [if_neg c]
    have := hF.2.2 k (by omega)
    refine ⟨?_, ?_, ?_, ?_⟩
    · rw [pk_un (by omega), pk_un (by omega), pk_un (by omega), pk_un (by omega)]
      exact this.1
    · rw [pk_un (by omega), pk_un (by omega), pk_un (by omega), pk_un (by omega)]
      exact this.2.1
    · rw [pk_un (by omega), pk_un (by omega), pk_un (by omega), pk_un (by omega)]
      exact this.2.2.1
    · rw [pk_un (by omega), pk_un (by omega), pk_un (by omega), pk_un (by omega)]
      exact this.2.2.2
theorem act_tie {e W Y : Nat} {K : SLM} (h : RelL e K) (hW1 : 2 ≤ W) (hW : W < 8) (hY : Y < 2 ^ 31) : ∃ K', L_isActed K (nI W) (nI Y) = some (K', 1) ∧ RelL (e + 1) K' := by
  obtain ⟨M, K⟩ := K
  obtain ⟨hC, n, se, le, pu, L, g, hA, hP, h1, hF, hE⟩ := h
  have hC : HC K := hC
  have hP : RC K.2.2.2.1 n se le pu L g := hP
  have h1 : RL1 M n se le pu := h1
  have hF : FS M L := hF
  have hE : EL K.2.2.2.1 M n e := hE
  have hn := hA.1
  have hRP : RP e K.2.2.2.1 M := ⟨n, se, le, pu, L, g, hA, hP, h1, hF, hE⟩
  unfold L_isActed
  rw [if_pos (show (2 : Int32) ≤ nI W from nI_le (a := 2) hW1 (by omega)), if_neg (show ¬ (8 : Int32) ≤ nI W from nI_ge (b := 8) hW (by omega))]
  simp (disch := omega) only [cl0, cl1, h1.1, d144e, d12e, r12e, d2e, r2e, d6e, r6e]
  generalize hZ : Y / 144 = Z
  generalize ha' : Y % 12 = a
  generalize hb' : Y / 12 % 12 = b
  have hZ2 : Z < 2 ^ 31 := by omega
  have ha : a < 12 := by omega
  have hb : b < 12 := by omega
  have hu : nI (Z % 2) = 0 ∨ nI (Z % 2) = 1 := bits2 (by omega)
  by_cases hpair : a < n ∧ b < n ∧ a ≠ b
  case neg =>
    have hJ : L_isActed_J31 (M, K) (nI W) (nI a) (nI b) (nI Z) (nI n) (nI a) = 0 := by
      unfold L_isActed_J31
      simp only [cl0, h1.1]
      by_cases c1 : a < n
      · rw [if_neg (nI_ge c1 (by omega))]
        by_cases c2 : b < n
        · rw [if_neg (nI_ge c2 (by omega)), if_pos (by congr 1; omega)]
        · rw [if_pos (nI_le (by omega) (by omega))]
      · rw [if_pos (nI_le (by omega) (by omega))]
    have hJ1 : L_isActed_J193 (M, K) (nI a) (nI b) (nI Z) (nI (Z % 2)) 0 = some ((M, K), -1) := by
      unfold L_isActed_J193
      rw [if_pos rfl]
    have hJ2 : L_isActed_J230 (M, K) (nI a) (nI b) (nI Z) (nI (Z % 2)) (-1) (-1) = some (M, K) := by
      unfold L_isActed_J230
      rw [if_neg (by decide)]
    rw [hJ, bind_some' hJ1]
    by_cases c15 : M 3 1 = 15
    · show ∃ K', (if M 3 1 = 15 then _ else _) = _ ∧ _
      rw [if_pos c15]
      exact ⟨_, rfl, hC, hRP.s⟩
    · show ∃ K', (if M 3 1 = 15 then _ else _) = _ ∧ _
      rw [if_neg c15, bind_some' hJ2]
      obtain ⟨K', k1, k2, -, k4⟩ := m_tie K (nI a) (nI b) (nI (Z % 2)) (nI (Z / 2 % 6)) hu _ _ (c_nopair (by omega) (by omega) hn hP.1.1 hpair) hC
      rw [J324_at _ _ _ _ (by omega), bind_some' k1, bnd_at, if_neg (show ¬ (-1 : Int32) = 0 by decide), if_neg (show ¬ (0 : Int32) ≤ -1 by decide), if_pos rfl]
      refine ⟨_, rfl, k2, ?_⟩
      show RP (e + 1) K'.2.2.2.1 M
      rw [k4 (by decide)]
      exact hRP.s
  obtain ⟨pa, pb, pab⟩ := hpair
  have hJ : L_isActed_J31 (M, K) (nI W) (nI a) (nI b) (nI Z) (nI n) (nI a) = 1 := by
    unfold L_isActed_J31
    simp only [cl0, h1.1]
    rw [if_neg (nI_ge pa (by omega)), if_neg (nI_ge pb (by omega)), if_neg (by rw [nI_eq (by omega) (by omega)]; exact pab)]
  obtain ⟨M1, r, w1, w2, w3⟩ := whyTie_l hA h1 hF pa pb pab hu
  have hJ1 : L_isActed_J193 (M, K) (nI a) (nI b) (nI Z) (nI (Z % 2)) 1 = some ((M1, K), r) := by
    unfold L_isActed_J193
    rw [if_neg i10, bind_some' w1, bnd_at]
  have hF1 := w2.fs hF
  have h11 := w2.r1 h1
  have hE1 := w2.el hE
  rw [hJ, bind_some' hJ1]
  by_cases c15 : M1 3 1 = 15
  · show ∃ K', (if M1 3 1 = 15 then _ else _) = _ ∧ _
    rw [if_pos c15]
    exact ⟨_, rfl, hC, (w2.rp hRP).s⟩
  show ∃ K', (if M1 3 1 = 15 then _ else _) = _ ∧ _
  rw [if_neg c15]
  have hlen : L.length < 15 := by
    have h2 := hF.2.1
    have h3 : L.length ≠ 15 := fun z => c15 (by rw [hF1.1, z]; rfl)
    omega
  by_cases hr : r = 0
  · subst hr
    obtain ⟨M2, q1, q2, q3, q4, q5⟩ := J230_new (K := K) (nI (Z % 2)) 0 hZ2 ha hb hF1 hlen
    obtain ⟨P', g', p1, p2, p3, p4, p5⟩ := c_tie (m := Z / 2 % 6) hA hP pa pb pab hu (by omega) (by omega) w3
    obtain ⟨K', k1, k2, k3, -⟩ := m_tie K (nI a) (nI b) (nI (Z % 2)) (nI (Z / 2 % 6)) hu _ _ p1 hC
    show ∃ K', ((L_isActed_J230 (M1, K) (nI a) (nI b) (nI Z) (nI (Z % 2)) 0 0).bind _) = _ ∧ _
    rw [bind_some' q1, J324_at _ _ _ _ (by omega), bind_some' k1, bnd_at, if_pos rfl]
    have e9 : nI L.length = M2 3 1 - 1 := by rw [q5, pk_us, nI_pred]
    rw [if_pos e9]
    refine ⟨_, rfl, k2, ?_⟩
    show RP (e + 1) K'.2.2.2.1 M2
    rw [k3 (nI_pos' (by omega))]
    refine ⟨n, se, le, pu, _, g', p2, p3, ⟨by rw [q5, pk_un (by omega)]; exact h11.1, by rw [q2]; exact h11.2⟩, hF1.snoc hlen q3 q5, EL.s (hE1.x p4 (Nat.le_refl n) (fun i hi => by rw [q5, pk_un (by omega)]) q4 ?_)⟩
    rw [q5, pk_un (by omega), p5]
    exact hE1.2.2.2.2.2
  · have hr3 : ¬ r = 0 ∧ 0 ≤ r := by
      rcases w3.c with e | e | e | e
      · exact absurd e hr
      · rw [e]; decide
      · rw [e]; decide
      · rw [e]; decide
    have hJ2 : L_isActed_J230 (M1, K) (nI a) (nI b) (nI Z) (nI (Z % 2)) r r = some (M1, K) := by
      unfold L_isActed_J230
      rw [if_neg hr]
    obtain ⟨K', k1, k2, -, k4⟩ := m_tie K (nI a) (nI b) (nI (Z % 2)) (nI (Z / 2 % 6)) hu _ _ (c_untied hA hP pa pb pab (by omega) w3 hr) hC
    show ∃ K', ((L_isActed_J230 (M1, K) (nI a) (nI b) (nI Z) (nI (Z % 2)) r r).bind _) = _ ∧ _
    rw [bind_some' hJ2, J324_at _ _ _ _ (by omega), bind_some' k1, bnd_at, if_neg hr, if_pos hr3.2, if_pos rfl]
    refine ⟨_, rfl, k2, ?_⟩
    show RP (e + 1) K'.2.2.2.1 M1
    rw [k4 (by decide)]
    exact (w2.rp hRP).s
/-! strings that are cut -/
theorem p4e (k : Nat) : nI k + 4 = nI (k + 4) := nI_add k 4
theorem drop_l {M : SLaw} {L : List Str4} {j : Nat} (hF : FS M L) (hj : j < L.length) :
    ∃ M', L_drop M (nI j) = some M' ∧ FS M' (L.eraseIdx j) ∧ M' 0 = M 0 ∧ M' 2 = M 2 ∧ (∀ i, i ≠ 1 → i ≠ 6 → M' 3 i = M 3 i) ∧ M' 3 6 = M 3 6 + 1 := by
  obtain ⟨f1, f2, f3⟩ := hF
  have hle := len_erase hj
  obtain ⟨m, hm⟩ : ∃ m, L.length = m + 1 := ⟨L.length - 1, by omega⟩
  obtain ⟨T, hT⟩ : ∃ T : Nat → Int32, T = upd (upd (M 3) 1 (nI m)) 6 (M 3 6 + 1) := ⟨_, rfl⟩
  have hT1 : T 1 = nI m := by rw [hT, pk_un (by omega), pk_us]
  obtain ⟨M2, hM2⟩ : ∃ M2 : SLaw, M2 = up (up M 3 (upd (M 3) 1 (nI m))) 3 T := ⟨_, rfl⟩
  have h21 : M2 1 = M 1 := by rw [hM2]; rfl
  have h23 : M2 3 = T := by rw [hM2]; rfl
  obtain ⟨F, hFd⟩ : ∃ F : Nat → Nat → Int32, F = fun k i => if 4 * j ≤ i ∧ i < k then M 1 (i + 4) else M 1 i := ⟨_, rfl⟩
  have hF0 : ∀ k i, F k i = if 4 * j ≤ i ∧ i < k then M 1 (i + 4) else M 1 i := fun k i => by rw [hFd]
  have hstart : up M2 1 (F (4 * j)) = M2 := by
    have e : F (4 * j) = M2 1 := by
      rw [h21]
      funext i
      rw [hF0, if_neg (by omega)]
    rw [e, up_self]
  obtain ⟨M', hp, hr⟩ := loop_FUEL (f := fun fu (K : SLaw) i => L_drop_L19 fu K i) (n := 4 * m)
    (fun k K => 4 * j ≤ k ∧ K = up M2 1 (F k)) (fun K => K = up M2 1 (F (4 * m))) (by omega)
    (by
      rintro fu k K hk ⟨hjk, rfl⟩
      right
      refine ⟨_, ⟨by omega, rfl⟩, ?_⟩
      have e1 : F k (k + 4) = M 1 (k + 4) := by rw [hF0, if_neg (by omega)]
      have e2 : upd (F k) k (M 1 (k + 4)) = F (k + 1) := by
        funext i
        rw [upd_at, hF0, hF0]
        by_cases c : i = k
        · rw [if_pos c, if_pos (by omega), c]
        · rw [if_neg c]
          by_cases c2 : 4 * j ≤ i ∧ i < k
          · rw [if_pos c2, if_pos (by omega)]
          · rw [if_neg c2, if_neg (by omega)]
      show L_drop_L19 (fu + 1) (up M2 1 (F k)) (nI k) = L_drop_L19 fu (up M2 1 (F (k + 1))) (nI (k + 1))
      rw [L_drop_L19]
      simp (disch := omega) only [cl1, u13, u11, h23, hT1, m4e, nI_ge, p4e, nI_1, nI_clamp, gN, not_false_eq_true, ↓reduceIte, bnd_at, e1, e2, up_up])
    (by
      rintro fu K ⟨-, rfl⟩
      refine ⟨_, rfl, ?_⟩
      show L_drop_L19 (fu + 1) (up M2 1 (F (4 * m))) (nI (4 * m)) = _
      rw [L_drop_L19]
      simp (disch := omega) only [cl1, u13, h23, hT1, m4e, nI_le, ↓reduceIte])
    (k := 4 * j) (s := M2) (x := nI (4 * j)) (by omega) rfl ⟨Nat.le_refl _, hstart.symm⟩
  refine ⟨M', ?_, ⟨?_, by omega, fun k hk => ?_⟩, ?_, ?_, fun i h1 h6 => ?_, ?_⟩
  · unfold L_drop
    simp (disch := omega) only [cl1, cl6, f1, hm, nI_pred, bnd_at, u33, pk_un, m4e, ← hT, ← hM2]
    rw [bind_some' hr]
  · rw [hp]
    show M2 3 1 = _
    rw [h23, hT1, hle, hm, Nat.add_sub_cancel]
  · have hat : ∀ i, M' 1 i = if 4 * j ≤ i ∧ i < 4 * m then M 1 (i + 4) else M 1 i := fun i => by rw [hp]; exact hF0 _ i
    rw [hat, hat, hat, hat, sg_erase]
    by_cases c : k < j
    · rw [if_pos c, if_neg (by omega), if_neg (by omega), if_neg (by omega), if_neg (by omega)]
      exact f3 k (by omega)
    · rw [if_neg c, if_pos (by omega), if_pos (by omega), if_pos (by omega), if_pos (by omega)]
      exact f3 (k + 1) (by omega)
  · rw [hp, hM2]
    rfl
  · rw [hp, hM2]
    rfl
  · rw [hp]
    show M2 3 i = _
    rw [h23, hT, pk_un h6, pk_un h1]
  · rw [hp]
    show M2 3 6 = _
    rw [h23, hT, pk_us]
theorem act_cut {e Y : Nat} {K : SLM} (h : RelL e K) (hY : Y < 2 ^ 31) : ∃ K', L_isActed K (nI 8) (nI Y) = some (K', 1) ∧ RelL (e + 1) K' := by
  obtain ⟨M, K⟩ := K
  obtain ⟨hC, n, se, le, pu, L, g, hA, hP, h1, hF, hE⟩ := h
  have hC : HC K := hC
  have hP : RC K.2.2.2.1 n se le pu L g := hP
  have h1 : RL1 M n se le pu := h1
  have hF : FS M L := hF
  have hE : EL K.2.2.2.1 M n e := hE
  have hn := hA.1
  have hlen := hF.2.1
  have hRP : RP e K.2.2.2.1 M := ⟨n, se, le, pu, L, g, hA, hP, h1, hF, hE⟩
  unfold L_isActed
  rw [if_pos (show (2 : Int32) ≤ nI 8 by decide), if_pos (show (8 : Int32) ≤ nI 8 by decide), if_pos (show nI 8 = 8 from rfl)]
  simp (disch := omega) only [cl1, hF.1, d144e, d15e, r15e]
  generalize hj' : Y / 144 % 15 = j
  have hj2 : j < 15 := by omega
  by_cases hj : j < L.length
  · have hJ : L_isActed_J397 (M, K) (nI j) (nI L.length) (nI j) = 1 := by
      unfold L_isActed_J397
      rw [if_neg (nI_ge hj (by omega))]
    obtain ⟨M1, d1, d2, d3, d4, d5, d6⟩ := drop_l hF hj
    have hJ2 : L_isActed_J409 (M, K) (nI j) 1 1 = some (M1, K) := by
      unfold L_isActed_J409
      rw [if_neg i10, bind_some' d1, bnd_at]
    obtain ⟨P', t1, t2, t3, t4, t5, t6⟩ := cutS_spec hA hP hj
    obtain ⟨K', k1, k2, k3, -⟩ := m_cut K (nI j) _ _ t1 hC
    rw [hJ, bind_some' hJ2, bind_some' k1, bnd_at, if_neg i10]
    have hle := len_erase hj
    have e9 : nI (L.length - 1) = M1 3 1 := by rw [d2.1, hle]
    show ∃ K1, (if nI (L.length - 1) = M1 3 1 then _ else _) = _ ∧ _
    rw [if_pos e9]
    refine ⟨_, rfl, k2, ?_⟩
    show RP (e + 1) K'.2.2.2.1 M1
    rw [k3 (nI_pos' (by omega))]
    refine ⟨n, se, le, pu, _, g, hA.sub erase_mem, t2, ⟨by rw [d5 0 (by decide) (by decide)]; exact h1.1, by rw [d3]; exact h1.2⟩, d2, EL.s (hE.x ⟨t3, t4, t5⟩ (Nat.le_refl n) (fun i hi => d5 i (by omega) (by omega)) d4 ?_)⟩
    rw [t6, d6, hE.2.2.2.2.2]
  · have hJ : L_isActed_J397 (M, K) (nI j) (nI L.length) (nI j) = 0 := by
      unfold L_isActed_J397
      rw [if_pos (nI_le (by omega) (by omega))]
    have hJ2 : L_isActed_J409 (M, K) (nI j) 0 0 = some (M, K) := by
      unfold L_isActed_J409
      rw [if_pos rfl]
    obtain ⟨K', k1, k2, -, k4⟩ := m_cut K (nI j) _ _ (c_nocut (by omega) hP.2.1 (by omega)) hC
    rw [hJ, bind_some' hJ2, bind_some' k1, bnd_at, if_pos rfl, if_pos rfl]
    refine ⟨_, rfl, k2, ?_⟩
    show RP (e + 1) K'.2.2.2.1 M
    rw [k4 (by decide)]
    exact hRP.s
theorem deal_law {d : Int32} {K : SMain} : ∀ (i : Nat) (X : List Str4) (M : SLaw) (cnt : Int32) (f1 : Nat), i ≤ X.length → FS M X → i < f1 →
    ∃ M', L_isActed_L474 f1 (M, K) d cnt (nI i - 1) = some ((M', K), cnt + cn d X i) ∧ FS M' (cdl d i X) ∧ M' 0 = M 0 ∧ M' 2 = M 2 ∧ (∀ i, i ≠ 1 → i ≠ 6 → M' 3 i = M 3 i) ∧ M' 3 6 = M 3 6 + cn d X i := by
  intro i
  induction i with
  | zero =>
    intro X M cnt f1 hi hF h1
    obtain ⟨a, rfl⟩ : ∃ a, f1 = a + 1 := ⟨f1 - 1, by omega⟩
    refine ⟨M, ?_, hF, rfl, rfl, fun _ _ _ => rfl, ?_⟩
    · rw [L_isActed_L474, if_pos (by decide)]
      show some ((M, K), cnt) = some ((M, K), cnt + 0)
      rw [Int32.add_zero]
    · show M 3 6 = M 3 6 + 0
      rw [Int32.add_zero]
  | succ i ih =>
    intro X M cnt f1 hi hF h1
    have hlen := hF.2.1
    obtain ⟨a, rfl⟩ : ∃ a, f1 = a + 1 := ⟨f1 - 1, by omega⟩
    have a3 := (hF.2.2 i (by omega)).2.2.2
    have en : nI i + (-1) = nI i - 1 := (Int32.sub_eq_add_neg _ _).symm
    have e : cn d X (i + 1) = if (sg X i).2.2.2 = d then cn d X i + 1 else cn d X i := rfl
    rw [nI_pred, L_isActed_L474, if_neg (nI_pos (by omega)), e]
    simp (disch := omega) only [m4e, p3e, nI_clamp, gN, not_false_eq_true, ↓reduceIte, a3, en]
    show ∃ M', _ ∧ FS M' (cdl d i (if (sg X i).2.2.2 = d then X.eraseIdx i else X)) ∧ _
    by_cases hd : (sg X i).2.2.2 = d
    · rw [if_pos hd, if_pos hd, if_pos hd]
      obtain ⟨M1, d1, d2, d3, d4, d5, d6⟩ := drop_l hF (j := i) (by omega)
      obtain ⟨M', g1, g2, g3, g4, g5, g6⟩ := ih (X.eraseIdx i) M1 (cnt + 1) a (by rw [len_erase (by omega)]; omega) d2 (by omega)
      rw [bind_some' d1, bnd_at]
      refine ⟨M', ?_, g2, by rw [g3, d3], by rw [g4, d4], fun k k1 k6 => by rw [g5 k k1 k6, d5 k k1 k6], ?_⟩
      · rw [g1, cn_erase, Int32.add_assoc, Int32.add_comm 1]
      · rw [g6, d6, cn_erase, Int32.add_assoc, Int32.add_comm 1]
    · rw [if_neg hd, if_neg hd, if_neg hd]
      exact ih X M cnt a (by omega) hF (by omega)
theorem cdl_id {d : Int32} : ∀ {i : Nat} {X : List Str4}, i < 1000 → cn d X i = 0 → cdl d i X = X := by
  intro i
  induction i with
  | zero => intro X _ _; rfl
  | succ i ih =>
    intro X hi h
    have e : cn d X (i + 1) = if (sg X i).2.2.2 = d then cn d X i + 1 else cn d X i := rfl
    rw [e] at h
    show cdl d i (if (sg X i).2.2.2 = d then X.eraseIdx i else X) = X
    by_cases hd : (sg X i).2.2.2 = d
    · rw [if_pos hd] at h
      obtain ⟨m, m1, m2⟩ := cn_nat (d := d) (X := X) (i := i)
      rw [m2, nI_1] at h
      exact absurd h (nI_ne0 (by omega) (by omega))
    · rw [if_neg hd] at h ⊢
      exact ih (by omega) h
theorem act_deal {e Y : Nat} {K : SLM} (h : RelL e K) (hY : Y < 2 ^ 31) : ∃ K', L_isActed K (nI 9) (nI Y) = some (K', 1) ∧ RelL (e + 1) K' := by
  obtain ⟨M, K⟩ := K
  obtain ⟨hC, n, se, le, pu, L, g, hA, hP, h1, hF, hE⟩ := h
  have hC : HC K := hC
  have hP : RC K.2.2.2.1 n se le pu L g := hP
  have h1 : RL1 M n se le pu := h1
  have hF : FS M L := hF
  have hE : EL K.2.2.2.1 M n e := hE
  have hn := hA.1
  have hlen := hF.2.1
  unfold L_isActed
  rw [if_pos (show (2 : Int32) ≤ nI 9 by decide), if_pos (show (8 : Int32) ≤ nI 9 by decide), if_neg (show ¬ nI 9 = 8 by decide), if_pos (show nI 9 = 9 from rfl)]
  simp (disch := omega) only [cl1, hF.1, d144e, d6e, r6e]
  generalize hm' : Y / 144 % 6 = m
  have hm : m ≤ 5 := by omega
  obtain ⟨M1, b1, b2, b3, b4, b5, b6⟩ := deal_law (d := nI m) (K := K) L.length L M 0 FUEL (Nat.le_refl _) hF (by unfold FUEL; omega)
  rw [Int32.zero_add] at b1
  obtain ⟨c1, c2⟩ := c_deal hA hP hm
  obtain ⟨q, q1, q2⟩ := cn_nat (d := nI m) (X := L) (i := L.length)
  rw [bind_some' b1]
  show ∃ K', ((X6_cutDeal K (nI m)).bind _) = _ ∧ _
  by_cases h0 : cn (nI m) L L.length = 0
  · obtain ⟨P', p1⟩ := c1 h0
    obtain ⟨K', k1, k2, -, k4⟩ := m_cutDeal K (nI m) _ _ p1 hC
    rw [bind_some' k1, bnd_at]
    show ∃ K1, (if cn (nI m) L L.length ≤ 0 then _ else _) = _ ∧ _
    rw [if_pos (by rw [h0]; decide), if_pos rfl]
    refine ⟨_, rfl, k2, ?_⟩
    show RP (e + 1) K'.2.2.2.1 M1
    rw [k4 (by decide)]
    rw [cdl_id (by omega) h0] at b2
    refine ⟨n, se, le, pu, L, g, hA, hP, ⟨by rw [b5 0 (by decide) (by decide)]; exact h1.1, by rw [b3]; exact h1.2⟩, b2, EL.s (hE.x ⟨rfl, rfl, rfl⟩ (Nat.le_refl n) (fun i hi => b5 i (by omega) (by omega)) b4 ?_)⟩
    rw [b6, h0, Int32.add_zero, hE.2.2.2.2.2]
  · obtain ⟨P', p1, p2, p3, p4, p5⟩ := c2 h0
    obtain ⟨K', k1, k2, k3, -⟩ := m_cutDeal K (nI m) _ _ p1 hC
    rw [bind_some' k1, bnd_at]
    have hq0 : 0 < q := by
      rcases Nat.eq_zero_or_pos q with z | z
      · exact absurd (by rw [q2, z]; rfl) h0
      · exact z
    show ∃ K1, (if cn (nI m) L L.length ≤ 0 then _ else _) = _ ∧ _
    rw [if_neg (by rw [q2]; exact nI_nle hq0 (by omega)), if_pos rfl]
    refine ⟨_, rfl, k2, ?_⟩
    show RP (e + 1) K'.2.2.2.1 M1
    rw [k3 (by rw [q2]; exact nI_pos' (by omega))]
    refine ⟨n, se, le, pu, _, g, p2, p3, ⟨by rw [b5 0 (by decide) (by decide)]; exact h1.1, by rw [b3]; exact h1.2⟩, b2, EL.s (hE.x p4 (Nat.le_refl n) (fun i hi => b5 i (by omega) (by omega)) b4 ?_)⟩
    rw [b6, p5, hE.2.2.2.2.2]
