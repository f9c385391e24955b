/-! a session, and every act -/
theorem sub4e {k : Nat} (h : 4 ≤ k) : nI k - 4 = nI (k - 4) := by
  rw [show (4 : Int32) = nI 4 from rfl, pk_sub (by omega)]
theorem shift_l (M : SLaw) (K : SMain) (a b c : Int32) : L_isSession_L84 FUEL (M, K) a b c 31 = some (up M 2 (fun i => if 4 ≤ i ∧ i < 32 then M 2 (i - 4) else M 2 i), K) := by
  obtain ⟨F, hFd⟩ : ∃ F : Nat → Nat → Int32, F = fun k i => if k < i ∧ i < 32 then M 2 (i - 4) else M 2 i := ⟨_, rfl⟩
  have hF0 : ∀ k i, F k i = if k < i ∧ i < 32 then M 2 (i - 4) else M 2 i := fun k i => by rw [hFd]
  have hstart : up M 2 (F 31) = M := by
    have e : F 31 = M 2 := by
      funext i
      rw [hF0, if_neg (by omega)]
    rw [e, up_self]
  have hend : F 3 = fun i => if 4 ≤ i ∧ i < 32 then M 2 (i - 4) else M 2 i := by
    funext i
    rw [hF0]
    by_cases c : 3 < i ∧ i < 32
    · rw [if_pos c, if_pos (by omega)]
    · rw [if_neg c, if_neg (by omega)]
  obtain ⟨R, rfl, h2⟩ := loop_dn31 (f := fun fu (S : SLM) i => L_isSession_L84 fu S a b c i)
    (fun k S => S = (up M 2 (F k), K)) (fun S => S = (up M 2 (F 3), K))
    (by
      rintro fu k S hk1 hk2 rfl
      refine ⟨_, rfl, ?_⟩
      have e1 : F k (k - 4) = M 2 (k - 4) := by rw [hF0, if_neg (by omega)]
      have e2 : upd (F k) k (M 2 (k - 4)) = F (k - 1) := by
        funext i
        rw [upd_at, hF0, hF0]
        by_cases c : i = k
        · rw [if_pos c, if_pos (by omega), c]
        · rw [if_neg c]
          by_cases c2 : k < i ∧ i < 32
          · rw [if_pos c2, if_pos (by omega)]
          · rw [if_neg c2, if_neg (by omega)]
      show L_isSession_L84 (fu + 1) (up M 2 (F k), K) a b c (nI k) = L_isSession_L84 fu (up M 2 (F (k - 1)), K) a b c (nI (k - 1))
      rw [L_isSession_L84, if_neg (show ¬ nI k ≤ 3 from nI_ge (b := k) (a := 3) (by omega) (by omega))]
      simp (disch := omega) only [u22, sub4e, nI_dn, nI_clamp, gN, not_false_eq_true, ↓reduceIte, bnd_at, e1, e2, up_up])
    (by
      rintro fu S rfl
      refine ⟨_, rfl, ?_⟩
      show L_isSession_L84 (fu + 1) (up M 2 (F 3), K) a b c (nI 3) = _
      rw [L_isSession_L84, if_pos (show nI 3 ≤ 3 by decide)])
    (s := (M, K)) (by rw [hstart])
  rw [← hend]
  exact h2
theorem clear_l {M : SLaw} {n : Nat} (K : SMain) (x : Int32) (hn : n ≤ 12) (h0 : M 3 0 = nI n) :
    ∃ M', L_isSession_L196 FUEL (M, K) x 0 = some (M', K) ∧ (∀ i, i ≠ 0 → M' i = M i) ∧ (∀ j, j < n → M' 0 (3 * j + 2) = -1) ∧ ∀ i, (∀ j, j < n → i ≠ 3 * j + 2) → M' 0 i = M 0 i := by
  obtain ⟨R, ⟨M', rfl, h1, h2, h3⟩, h4⟩ := loop_FUEL (f := fun fu (S : SLM) i => L_isSession_L196 fu S x i) (n := n)
    (fun k S => ∃ M', S = (M', K) ∧ (∀ i, i ≠ 0 → M' i = M i) ∧ (∀ j, j < k → M' 0 (3 * j + 2) = -1) ∧ ∀ i, (∀ j, j < k → i ≠ 3 * j + 2) → M' 0 i = M 0 i)
    (fun S => ∃ M', S = (M', K) ∧ (∀ i, i ≠ 0 → M' i = M i) ∧ (∀ j, j < n → M' 0 (3 * j + 2) = -1) ∧ ∀ i, (∀ j, j < n → i ≠ 3 * j + 2) → M' 0 i = M 0 i) (by omega)
    (by
      rintro fu k S hk ⟨N, rfl, i1, i2, i3⟩
      right
      have h0K : N 3 0 = nI n := by rw [i1 3 (by decide)]; exact h0
      refine ⟨(up N 0 (upd (N 0) (3 * k + 2) (-1)), K), ⟨_, rfl, fun i hi => by rw [up_ne _ _ hi, i1 i hi], fun j hj => ?_, fun i hi => ?_⟩, ?_⟩
      · show upd (N 0) (3 * k + 2) (-1) (3 * j + 2) = -1
        rw [upd_at]
        by_cases c : j = k
        · rw [if_pos (by omega)]
        · rw [if_neg (by omega), i2 j (by omega)]
      · show upd (N 0) (3 * k + 2) (-1) i = _
        rw [pk_un (hi k (by omega)), i3 i (fun j hj => hi j (by omega))]
      · show L_isSession_L196 (fu + 1) (N, K) x (nI k) = _
        rw [L_isSession_L196]
        simp (disch := omega) only [cl0, h0K, nI_ge, m3e, p2e, nI_1, nI_clamp, gN, not_false_eq_true, ↓reduceIte, bnd_at])
    (by
      rintro fu S ⟨N, rfl, i1, i2, i3⟩
      have h0K : N 3 0 = nI n := by rw [i1 3 (by decide)]; exact h0
      refine ⟨_, ⟨N, rfl, i1, i2, i3⟩, ?_⟩
      show L_isSession_L196 (fu + 1) (N, K) x (nI n) = _
      rw [L_isSession_L196]
      simp only [cl0, h0K]
      rw [if_pos (nI_le (Nat.le_refl _) (by omega))])
    (k := 0) (s := (M, K)) (x := 0) (Nat.zero_le _) rfl ⟨M, rfl, fun _ _ => rfl, fun j hj => absurd hj (Nat.not_lt_zero j), fun _ _ => rfl⟩
  exact ⟨M', h4, h1, h2, h3⟩
theorem passed_l {M : SLaw} {K : SMain} {sp : Nat} {al ye v : Int32} (h2 : M 3 2 = nI sp) (hsp : sp < 12) (hv : M 4 (24 + sp) = v) (h01 : v = 0 ∨ v = 1) : L_isSession_J49 (M, K) ye (al - ye) (al - ye) ye = some (wp al ye v) := by
  unfold L_isSession_J49 wp
  by_cases c1 : al - ye < ye
  · have c2 : ¬ ye = al - ye := by
      intro z
      rw [← z] at c1
      exact absurd c1 (by rw [Int32.lt_iff_toInt_lt]; omega)
    have c3 : ¬ ye ≤ al - ye := Int32.not_le.mpr c1
    rw [if_pos c1, if_neg c2, if_neg c3]
  · rw [if_neg c1]
    by_cases c2 : ye = al - ye
    · rw [if_pos c2, if_pos c2]
      simp (disch := omega) only [cl2, h2, a24e, nI_clamp, gN, not_false_eq_true, ↓reduceIte, hv]
      rcases h01 with e | e
      · rw [e, if_neg (by decide)]
      · rw [e, if_pos rfl]
    · rw [if_neg c2, if_neg c2, if_pos (Int32.not_lt.mp c1)]
theorem session_l {e : Nat} {K : SLM} (h : RelL e K) (he : e < 64) : ∃ K', L_isSession K = some (K', 1) ∧ RelL (e + 1) K' := by
  obtain ⟨M, K⟩ := K
  obtain ⟨hC, n, se, le, pu, L, g, hA, hP, h1, hF, hE⟩ := h
  have hC : HC K := hC
  have hP : RC K.2.2.2.1 n se le pu L g := hP
  have h1 : RL1 M n se le pu := h1
  have hF : FS M L := hF
  have hE : EL K.2.2.2.1 M n e := hE
  have hn := hA.1
  have hRP : RP e K.2.2.2.1 M := ⟨n, se, le, pu, L, g, hA, hP, h1, hF, hE⟩
  unfold L_isSession
  simp only [cl0, h1.1]
  by_cases hn0 : n = 0
  · rw [if_pos (show nI n = 0 by rw [hn0]; rfl)]
    obtain ⟨K', k1, k2, -, k4⟩ := m_session K _ _ (c_nosession (by rw [hP.1.1, hn0])) hC
    rw [bind_some' k1, bnd_at, if_pos rfl]
    refine ⟨_, rfl, k2, ?_⟩
    show RP (e + 1) K'.2.2.2.1 M
    rw [k4 (by decide)]
    exact hRP.s
  rw [if_neg (nI_ne0 (by omega) (by omega))]
  obtain ⟨M1, y1, y2, y3, y4⟩ := yes_l hA (BT.all L hF.2.1) h1 hF
  have hE1 := y2.el hE
  have h11 := y2.r1 h1
  have hF1 := y2.fs hF
  obtain ⟨⟨sp, s1, s2, s3⟩, ⟨b, b1, b2, b3⟩, ⟨ss, e7, e8, e9, e10⟩, e11, e12, e13⟩ := hE1
  have hsp : sp < n := by omega
  have hv := hP.2.2.2.1
  have hyy := yes_eq hv y4
  have hvv := hv.one y4 sp hsp
  have h01 := hv.b hA sp hsp
  obtain ⟨P', p1, p2, p3, p4, p5, p6, p7, p8, p9⟩ := c_session hA hP hsp s2 e8 (by omega)
  have hp01 := wp01 (al := sm se n) (ye := sm (fun i => K.2.2.2.1.1 5 i * se i) n) h01
  rw [← hyy] at y1
  have hvv : K.2.2.2.1.1 5 sp = M1 4 (24 + sp) := hvv
  generalize hye : sm (fun i => K.2.2.2.1.1 5 i * se i) n = ye at y1 p1 p6 p8 hp01
  have hJ := passed_l (K := K) (al := sm se n) (ye := ye) s3 (by omega) hvv.symm h01
  generalize hpd : wp (sm se n) ye (K.2.2.2.1.1 5 sp) = p at p1 p6 p8 hp01 hJ
  obtain ⟨K', k1, k2, k3, -⟩ := m_session K _ _ p1 hC
  have hmin : nI (min ss 8) + (if (8 : Int32) ≤ nI (min ss 8) then (0 : Int32) else 1) = nI (min (ss + 1) 8) := by
    by_cases c : 8 ≤ ss
    · rw [if_pos (show (8 : Int32) ≤ nI (min ss 8) from nI_le (a := 8) (by omega) (by omega)), Int32.add_zero]
      congr 1
      omega
    · rw [if_neg (show ¬ (8 : Int32) ≤ nI (min ss 8) from nI_ge (b := 8) (by omega) (by omega)), nI_1]
      congr 1
      omega
  have hJ156 : ∀ (S : SLM) (x t : Int32), L_isSession_J156 S x 8 (nI (min ss 8)) t 5 = (if (8 : Int32) ≤ nI (min ss 8) then (0 : Int32) else 1) := fun S x t => rfl
  have hJ179 : ∀ (S : SLM) (x : Int32), S.1 3 2 = nI sp → L_isSession_J179 S x (nI n) (nI (sp + 1)) 2 = nI ((sp + 1) % n) := by
    intro S x hS
    unfold L_isSession_J179
    by_cases c : sp + 1 = n
    · rw [if_pos (by rw [c]), c, Nat.mod_self]
      rfl
    · rw [if_neg (by rw [nI_eq (by omega) (by omega)]; exact c), cl2, hS, nI_1, Nat.mod_eq_of_lt (by omega)]
  obtain ⟨S0, hS0⟩ : ∃ S0 : Nat → Int32, S0 = fun i => if 4 ≤ i ∧ i < 32 then M1 2 (i - 4) else M1 2 i := ⟨_, rfl⟩
  have hsh := shift_l M1 K ye (sm se n - ye) p
  rw [← hS0] at hsh
  obtain ⟨S4, hS4⟩ : ∃ S4 : Nat → Int32, S4 = upd (upd (upd (upd S0 0 ye) 1 (sm se n - ye)) 2 p) 3 (nI sp) := ⟨_, rfl⟩
  obtain ⟨T4, hT4⟩ : ∃ T4 : Nat → Int32, T4 = upd (upd (upd (upd (M1 3) 3 (nI (ss + 1))) 4 (M1 3 4 + p)) 5 (nI (min (ss + 1) 8))) 2 (nI ((sp + 1) % n)) := ⟨_, rfl⟩
  have hT0 : T4 0 = nI n := by rw [hT4, pk_un (by omega), pk_un (by omega), pk_un (by omega), pk_un (by omega)]; exact h11.1
  obtain ⟨M2, hM2⟩ : ∃ M2 : SLaw, M2 = up (up M1 2 S4) 3 T4 := ⟨_, rfl⟩
  obtain ⟨M3, q1, q2, q3, q4⟩ := clear_l (M := M2) K p hn (by rw [hM2]; exact hT0)
  have hchain : ∀ (F : SLM → Option (SLM × Int32)), (bnd ((up (up M1 2 S0) 2 (upd S0 0 ye)), K) fun M_21 : SLM => (bnd ((up M_21.1 2 (upd (M_21.1 2) (Int32.toNatClampNeg 1) (sm se n - ye))), M_21.2) fun M_23 => (bnd ((up M_23.1 2 (upd (M_23.1 2) (Int32.toNatClampNeg 2) p)), M_23.2) fun M_25 => (bnd ((up M_25.1 2 (upd (M_25.1 2) (Int32.toNatClampNeg 3) ((M_25.1 3) (Int32.toNatClampNeg 2)))), M_25.2) fun M_27 => (bnd ((up M_27.1 3 (upd (M_27.1 3) (Int32.toNatClampNeg 3) (((M_27.1 3) (Int32.toNatClampNeg 3)) + 1))), M_27.2) fun M_29 => (bnd ((up M_29.1 3 (upd (M_29.1 3) (Int32.toNatClampNeg 4) (((M_29.1 3) (Int32.toNatClampNeg 4)) + p))), M_29.2) fun M_31 => (bnd ((up M_31.1 3 (upd (M_31.1 3) (Int32.toNatClampNeg 5) (((M_31.1 3) (Int32.toNatClampNeg 5)) + (L_isSession_J156 M_31 p 8 ((M_31.1 3) (Int32.toNatClampNeg 5)) ((M_31.1 3) (Int32.toNatClampNeg 5)) 5)))), M_31.2) fun M_34 => (bnd ((up M_34.1 3 (upd (M_34.1 3) (Int32.toNatClampNeg 2) (L_isSession_J179 M_34 p ((M_34.1 3) (Int32.toNatClampNeg 0)) (((M_34.1 3) (Int32.toNatClampNeg 2)) + 1) 2))), M_34.2) F)))))))) = F (M2, K) := by
    intro F
    simp (disch := omega) only [cl0, cl1, cl2, cl3, cl4, cl5, bnd_at, u22, u23, u33, u32, pk_un, pk_us, s3, e9, e10, h11.1, nI_1, hJ156, hmin, up_up]
    rw [hJ179 _ _ (by
      show upd (upd (upd (M1 3) 3 (nI (ss + 1))) 4 (M1 3 4 + p)) 5 (nI (min (ss + 1) 8)) 2 = _
      rw [pk_un (by omega), pk_un (by omega), pk_un (by omega), s3])]
    rw [hM2, hS4, hT4]
  refine ⟨(M3, K'), ?_, k2, ?_⟩
  · rw [bind_some' y1, bnd_at, bind_some' (seats_l hn h11)]
    show Option.bind (L_isSession_J49 (M1, K) ye (sm se n - ye) (sm se n - ye) ye) _ = _
    rw [bind_some' hJ]
    show Option.bind (L_isSession_L84 FUEL (M1, K) ye (sm se n - ye) p 31) _ = _
    rw [bind_some' hsh]
    refine (hchain _).trans ?_
    show Option.bind (L_isSession_L196 FUEL (M2, K) p 0) _ = _
    rw [bind_some' q1]
    show Option.bind (X6_session K) _ = _
    rw [bind_some' k1, bnd_at, if_pos rfl]
  show RP (e + 1) K'.2.2.2.1 M3
  rw [k3 (by rcases hp01 with z | z <;> rw [z] <;> decide)]
  have hM20 : M2 0 = M1 0 := by rw [hM2]; rfl
  have hM31 : M3 1 = M1 1 := by rw [q2 1 (by decide), hM2]; rfl
  have hM32 : M3 2 = S4 := by rw [q2 2 (by decide), hM2]; rfl
  have hM33 : M3 3 = T4 := by rw [q2 3 (by decide), hM2]; rfl
  have hT : ∀ i, i ≠ 2 → i ≠ 3 → i ≠ 4 → i ≠ 5 → T4 i = M1 3 i := fun i a1 a2 a3 a4 => by rw [hT4, pk_un a1, pk_un a4, pk_un a3, pk_un a2]
  have hmod := Nat.mod_lt (sp + 1) (show 0 < n by omega)
  refine ⟨n, se, le, fun _ => -1, L, g, p2, p3, ⟨by rw [hM33, hT0], fun k hk => ⟨?_, ?_, q3 k hk⟩⟩, ⟨?_, hF1.2.1, by rw [hM31]; exact hF1.2.2⟩, ⟨(sp + 1) % n, Or.inl hmod, p4, ?_⟩, ⟨b, b1, by rw [p5, b2], ?_⟩, ⟨ss + 1, by omega, p7, ?_, ?_⟩, ?_, fun k hk => ?_, ?_⟩
  · rw [q4 _ (fun j hj => by omega), hM20]
    exact (h11.2 k hk).1
  · rw [q4 _ (fun j hj => by omega), hM20]
    exact (h11.2 k hk).2.1
  · rw [hM33, hT 1 (by decide) (by decide) (by decide) (by decide)]
    exact hF1.1
  · rw [hM33, hT4, pk_us]
  · rw [hM33, hT 7 (by decide) (by decide) (by decide) (by decide), b3]
  · rw [hM33, hT4, pk_un (by omega), pk_un (by omega), pk_un (by omega), pk_us]
  · rw [hM33, hT4, pk_un (by omega), pk_us]
  · rw [p8, hM33, hT4, pk_un (by omega), pk_un (by omega), pk_us, e11]
  · rw [p6, hM32, hS4]
    rcases (by omega : k = 0 ∨ k = 1 ∨ k = 2 ∨ k = 3 ∨ 4 ≤ k) with rfl | rfl | rfl | rfl | h4
    · rw [pk_un (by omega), pk_un (by omega), pk_un (by omega), pk_us, pk_un (by omega), pk_un (by omega), pk_un (by omega), pk_us]
    · rw [pk_un (by omega), pk_un (by omega), pk_us, pk_un (by omega), pk_un (by omega), pk_us]
    · rw [pk_un (by omega), pk_us, pk_un (by omega), pk_us]
    · rw [pk_us, pk_us]
    · rw [pk_un (by omega), pk_un (by omega), pk_un (by omega), pk_un (by omega), pk_un (by omega), pk_un (by omega), pk_un (by omega), pk_un (by omega), hS0, if_pos ⟨h4, hk⟩, e12 _ (by omega)]
      show _ = (if 4 ≤ k ∧ k < 32 then M1 2 (k - 4) else M1 2 k)
      rw [if_pos ⟨h4, hk⟩]
  · rw [p9, hM33, hT 6 (by decide) (by decide) (by decide) (by decide)]
    exact e13
theorem act_session {e W Y : Nat} {K : SLM} (h : RelL e K) (he : e < 64) (hW1 : 16 ≤ W) (hW : W < 18) (hY : Y < 2 ^ 31) : ∃ K', L_isActed K (nI W) (nI Y) = some (K', 1) ∧ RelL (e + 1) K' := by
  obtain ⟨K', k1, k2⟩ := session_l h he
  have hne : ∀ c, c < 16 → ¬ nI W = nI c := fun c hc z => by have := (nI_eq (by omega) (by omega)).mp z; omega
  refine ⟨K', ?_, k2⟩
  unfold L_isActed
  rw [if_pos (show (2 : Int32) ≤ nI W from nI_le (a := 2) (by omega) (by omega)), if_pos (show (8 : Int32) ≤ nI W from nI_le (a := 8) (by omega) (by omega)), if_neg (show ¬ nI W = 8 from hne 8 (by omega)), if_neg (show ¬ nI W = 9 from hne 9 (by omega)), if_pos (show (14 : Int32) ≤ nI W from nI_le (a := 14) (by omega) (by omega)), if_neg (show ¬ nI W = 14 from hne 14 (by omega)), if_neg (show ¬ nI W = 15 from hne 15 (by omega)), bind_some' k1, if_pos (Or.inr rfl)]
/-- every act -/
theorem acted_l {e W Y : Nat} {K : SLM} (h : RelL e K) (he : e < 64) (hW : W < 18) (hY : Y < 2 ^ 31) : ∃ K', L_isActed K (nI W) (nI Y) = some (K', 1) ∧ RelL (e + 1) K' := by
  rcases (by omega : W < 2 ∨ (2 ≤ W ∧ W < 8) ∨ W = 8 ∨ W = 9 ∨ (10 ≤ W ∧ W < 14) ∨ W = 14 ∨ W = 15 ∨ 16 ≤ W) with c | ⟨c, d⟩ | c | c | ⟨c, d⟩ | c | c | c
  · exact act_puppet h c hY
  · exact act_tie h c d hY
  · rw [c]; exact act_cut h hY
  · rw [c]; exact act_deal h hY
  · exact act_pull h c d hY
  · rw [c]; exact act_release h hY
  · rw [c]; exact act_set h hY
  · exact act_session h he c hW hY
