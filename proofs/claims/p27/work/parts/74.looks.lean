/-! what the class tells of strings, of the book and of reasons; the law's looks at them -/
/-- nothing but the trial differs -/
def SN (K K' : SMain) : Prop := K'.1 = K.1 ∧ K'.2.2.2.1 = K.2.2.2.1
theorem SN.hc {K K' : SMain} (h : SN K K') (hC : HC K) : HC K' := by
  unfold HC
  rw [h.1]
  exact hC
theorem so_no {K : SMain} {L : List Str4} {x : Nat} (c : Int32) (hx : x < 1000) (hK : RS K.2.2.2.1.2.2.1 L) (h : L.length ≤ x) : X6_stringOf K (nI x) c = some (K, -1000001) := by
  unfold X6_stringOf X3_has
  rw [hK.1, if_neg (nI_pos (by omega)), if_pos (nI_le h (by omega)), if_pos rfl]
theorem so_m1 (K : SMain) (c : Int32) : X6_stringOf K (-1) c = some (K, -1000001) := by
  unfold X6_stringOf X3_has
  rw [if_pos im1, if_pos rfl]
theorem has1 {K : SStr} {L : List Str4} {j : Nat} (hK : RS K L) (hj : j < L.length) : X3_has K (nI j) = 1 := by
  have hlen := hK.2.1
  unfold X3_has
  rw [hK.1, if_neg (nI_pos (by omega)), if_neg (nI_ge hj (by omega))]
theorem so_0 {K : SMain} {L : List Str4} {j : Nat} (hK : RS K.2.2.2.1.2.2.1 L) (hj : j < L.length) : X6_stringOf K (nI j) 0 = some (K, nI (sg L j).1) := by
  have hlen := hK.2.1
  unfold X6_stringOf
  rw [has1 hK hj, if_neg i10, if_pos rfl, rget_n _ (by omega) (by omega), (hK.2.2 j hj).1]
theorem so_1 {K : SMain} {L : List Str4} {j : Nat} (hK : RS K.2.2.2.1.2.2.1 L) (hj : j < L.length) : X6_stringOf K (nI j) 1 = some (K, nI (sg L j).2.1) := by
  have hlen := hK.2.1
  unfold X6_stringOf
  rw [has1 hK hj, if_neg i10, if_neg (show ¬ (1 : Int32) = 0 by decide), if_pos rfl, rget_n _ (by omega) (by omega), (hK.2.2 j hj).2.1]
theorem so_2 {K : SMain} {L : List Str4} {j : Nat} (hK : RS K.2.2.2.1.2.2.1 L) (hj : j < L.length) : X6_stringOf K (nI j) 2 = some (K, (sg L j).2.2.1) := by
  have hlen := hK.2.1
  unfold X6_stringOf
  rw [has1 hK hj, if_neg i10, if_neg (show ¬ (2 : Int32) = 0 by decide), if_neg (show ¬ (2 : Int32) = 1 by decide), if_pos rfl, rget_n _ (by omega) (by omega), (hK.2.2 j hj).2.2.1]
theorem so_3 {K : SMain} {L : List Str4} {j : Nat} (hK : RS K.2.2.2.1.2.2.1 L) (hj : j < L.length) : X6_stringOf K (nI j) 3 = some (K, (sg L j).2.2.2) := by
  have hlen := hK.2.1
  unfold X6_stringOf
  rw [has1 hK hj, if_neg i10, if_neg (show ¬ (3 : Int32) = 0 by decide), if_neg (show ¬ (3 : Int32) = 1 by decide), if_neg (show ¬ (3 : Int32) = 2 by decide), if_pos rfl, rget_n _ (by omega) (by omega), (hK.2.2 j hj).2.2.2]
theorem so_5 {K : SMain} {L : List Str4} {j : Nat} (hK : RS K.2.2.2.1.2.2.1 L) (hj : j < L.length) : X6_stringOf K (nI j) 5 = some (K, -1000001) := by
  unfold X6_stringOf
  rw [has1 hK hj, if_neg i10, if_neg (show ¬ (5 : Int32) = 0 by decide), if_neg (show ¬ (5 : Int32) = 1 by decide), if_neg (show ¬ (5 : Int32) = 2 by decide), if_neg (show ¬ (5 : Int32) = 3 by decide), if_neg (show ¬ (5 : Int32) = 4 by decide)]
theorem so_4 {K : SMain} {n j : Nat} {se le pu : Nat → Int32} {L : List Str4} {g : Nat → Int32} (hA : AW n se le pu L g) (hP : RC K.2.2.2.1 n se le pu L g) (hj : j < L.length) :
    ∃ K', X6_stringOf K (nI j) 4 = some (K', if (grp (L.eraseIdx j)).1 (sg L j).1 = (grp (L.eraseIdx j)).1 (sg L j).2.1 then 1 else 0) ∧ SN K K' := by
  have hn := hA.1
  have hK := hP.2.1
  have hlen := hK.2.1
  have hx := hA.2.1 _ (sg_mem hj)
  have a0 : rget 20 (K.2.2.2.1.2.2.1.1 0) (nI j) = nI (sg L j).1 := by rw [rget_n _ (by omega) (by omega), (hK.2.2 j hj).1]
  have a1 : rget 20 (K.2.2.2.1.2.2.1.1 1) (nI j) = nI (sg L j).2.1 := by rw [rget_n _ (by omega) (by omega), (hK.2.2 j hj).2.1]
  have hA2 := hA.sub (L' := L.eraseIdx j) erase_mem
  obtain ⟨P', t1, t2, -⟩ := cutS_spec hA hP hj
  have q1 := hA2.q.1 (sg L j).1
  have q2 := hA2.q.1 (sg L j).2.1
  have b0 : rget 12 (P'.1 3) (nI (sg L j).1) = nI ((grp (L.eraseIdx j)).1 (sg L j).1) := by rw [rget_n _ (by omega) (by omega), (t2.2.2.1 _ (by omega)).1]
  have b1 : rget 12 (P'.1 3) (nI (sg L j).2.1) = nI ((grp (L.eraseIdx j)).1 (sg L j).2.1) := by rw [rget_n _ (by omega) (by omega), (t2.2.2.1 _ (by omega)).1]
  have hmid : X6_hangTogetherWithout K (nI j) = some ((K.1, K.2.1, K.2.2.1, K.2.2.2.1, P', K.2.2.2.2.2), if (grp (L.eraseIdx j)).1 (sg L j).1 = (grp (L.eraseIdx j)).1 (sg L j).2.1 then 1 else 0) := by
    have hh : X1_hangTogether P' (rget 20 (K.2.2.2.1.2.2.1.1 0) (nI j)) (rget 20 (K.2.2.2.1.2.2.1.1 1) (nI j)) = if (grp (L.eraseIdx j)).1 (sg L j).1 = (grp (L.eraseIdx j)).1 (sg L j).2.1 then 1 else 0 := by
      unfold X1_hangTogether
      rw [a0, a1, b0, b1]
      by_cases c : (grp (L.eraseIdx j)).1 (sg L j).1 = (grp (L.eraseIdx j)).1 (sg L j).2.1
      · rw [if_pos (by rw [c]), if_pos c]
      · rw [if_neg (by rw [nI_eq (by omega) (by omega)]; exact c), if_neg c]
    unfold X6_hangTogetherWithout
    show Option.bind (X1_cutString K.2.2.2.1 (nI j)) _ = _
    rw [bind_some' t1]
    show (if X1_hangTogether P' (rget 20 (K.2.2.2.1.2.2.1.1 0) (nI j)) (rget 20 (K.2.2.2.1.2.2.1.1 1) (nI j)) = 0 ∨ X1_hangTogether P' (rget 20 (K.2.2.2.1.2.2.1.1 0) (nI j)) (rget 20 (K.2.2.2.1.2.2.1.1 1) (nI j)) = 1 then some ((K.1, K.2.1, K.2.2.1, K.2.2.2.1, P', K.2.2.2.2.2), X1_hangTogether P' (rget 20 (K.2.2.2.1.2.2.1.1 0) (nI j)) (rget 20 (K.2.2.2.1.2.2.1.1 1) (nI j))) else none) = _
    rw [hh]
    by_cases c : (grp (L.eraseIdx j)).1 (sg L j).1 = (grp (L.eraseIdx j)).1 (sg L j).2.1
    · rw [if_pos c, if_pos (Or.inr rfl)]
    · rw [if_neg c, if_pos (Or.inl rfl)]
  refine ⟨(K.1, K.2.1, K.2.2.1, K.2.2.2.1, P', K.2.2.2.2.2), ?_, rfl, rfl⟩
  unfold X6_stringOf
  rw [has1 hK hj, if_neg i10, if_neg (show ¬ (4 : Int32) = 0 by decide), if_neg (show ¬ (4 : Int32) = 1 by decide), if_neg (show ¬ (4 : Int32) = 2 by decide), if_neg (show ¬ (4 : Int32) = 3 by decide), if_pos rfl, bind_some' hmid]
  by_cases c : (grp (L.eraseIdx j)).1 (sg L j).1 = (grp (L.eraseIdx j)).1 (sg L j).2.1
  · rw [if_pos c]
    rfl
  · rw [if_neg c]
    rfl
theorem ic_1 {K : SMain} {n j : Nat} {se le pu : Nat → Int32} {L : List Str4} {g : Nat → Int32} (hA : AW n se le pu L g) (hP : RC K.2.2.2.1 n se le pu L g) (hj : j < L.length) :
    ∃ K', X6_ifCut K (nI j) 1 = some (K', cG n (grp (L.eraseIdx j))) ∧ SN K K' := by
  obtain ⟨P', t1, t2, -⟩ := cutS_spec hA hP hj
  have hA2 := hA.sub (L' := L.eraseIdx j) erase_mem
  refine ⟨(K.1, K.2.1, K.2.2.1, K.2.2.2.1, P', K.2.2.2.2.2), ?_, rfl, rfl⟩
  unfold X6_ifCut
  rw [has1 hP.2.1 hj, if_neg i10, show X6_isIn 1 0 1 = 1 from by decide, if_neg i10]
  show Option.bind (X1_cutString K.2.2.2.1 (nI j)) _ = _
  rw [bind_some' t1]
  show Option.bind (X1_groupsByJoining P') _ = _
  rw [bind_some' (groupsC_spec hA.1 t2.1.1 t2.2.2.1 hA2.q.1)]
theorem ic_0 {K : SMain} {n j : Nat} {se le pu : Nat → Int32} {L : List Str4} {g : Nat → Int32} (hA : AW n se le pu L g) (hP : RC K.2.2.2.1 n se le pu L g) (hj : j < L.length) :
    ∃ K' P', X6_ifCut K (nI j) 0 = some (K', sm (fun i => P'.1 5 i * se i) n) ∧ SN K K' ∧ RC P' n se le pu (L.eraseIdx j) g := by
  obtain ⟨P', t1, t2, -⟩ := cutS_spec hA hP hj
  refine ⟨(K.1, K.2.1, K.2.2.1, K.2.2.2.1, P', K.2.2.2.2.2), P', ?_, ⟨rfl, rfl⟩, t2⟩
  unfold X6_ifCut
  rw [has1 hP.2.1 hj, if_neg i10, show X6_isIn 0 0 1 = 1 from by decide, if_neg i10]
  show Option.bind (X1_cutString K.2.2.2.1 (nI j)) _ = _
  rw [bind_some' t1]
  show some ((K.1, K.2.1, K.2.2.1, K.2.2.2.1, P', K.2.2.2.2.2), P'.2.1 4) = _
  rw [t2.2.2.2.2.2]
theorem strs_l {M : SLaw} {K : SMain} {n : Nat} {se le pu : Nat → Int32} {L : List Str4} {g : Nat → Int32} (hA : AW n se le pu L g) (hC : HC K) (hP : RC K.2.2.2.1 n se le pu L g) (hR : RL1 M n se le pu) (hF : FS M L) :
    ∃ M' K', L_areStrings_L35 FUEL (M, K) 1 0 = some ((M', K'), 1) ∧ KG M M' ∧ SN K K' := by
  have hn := hA.1
  have hlen := hF.2.1
  obtain ⟨R, ⟨M', K', rfl, h1, h2⟩, h3⟩ := loop_FUEL (f := fun fu (s : SLM × Int32) i => L_areStrings_L35 fu s.1 s.2 i) (n := L.length)
    (fun k s => ∃ M' K', s = ((M', K'), 1) ∧ KG M M' ∧ SN K K') (fun s => ∃ M' K', s = ((M', K'), 1) ∧ KG M M' ∧ SN K K') (by omega)
    (by
      rintro fu k s hk ⟨M0, K0, rfl, i1, i2⟩
      right
      have hP0 : RC K0.2.2.2.1 n se le pu L g := by rw [i2.2]; exact hP
      have hF0 := i1.fs hF
      have hR0 := i1.r1 hR
      have hA2 := hA.sub (L' := L.eraseIdx k) erase_mem
      have hq := hA2.q
      have hx := hA.2.1 _ (sg_mem hk)
      have qa := hq.1 (sg L k).1
      have qb := hq.1 (sg L k).2.1
      obtain ⟨M1, g1, g2, g3⟩ := groups_l hA (BT.but hlen hk) hR0 hF0
      have hF1 := g2.fs hF0
      have hR1 := g2.r1 hR0
      obtain ⟨r0, r1, r2, r3⟩ := hF1.2.2 k hk
      obtain ⟨K4, s4, t4⟩ := so_4 hA hP0 hk
      have hP4 : RC K4.2.2.2.1 n se le pu L g := by rw [t4.2]; exact hP0
      obtain ⟨K5, s5, t5⟩ := ic_1 hA hP4 hk
      have hP5 : RC K5.2.2.2.1 n se le pu L g := by rw [t5.2]; exact hP4
      obtain ⟨K6, P6, s6, t6, u6⟩ := ic_0 hA hP5 hk
      obtain ⟨M2, y1, y2, y3, y4⟩ := yes_l hA (BT.but hlen hk) hR1 hF1
      rw [← yes_eq u6.2.2.2.1 y4] at y1
      have hJ : ∀ (S : SLM) (x t : Int32), L_areStrings_J171 S (nI k) x (L_areStrings_J82 (M1, K0) (nI k) x (nI ((grp (L.eraseIdx k)).1 (sg L k).2.1)) (nI ((grp (L.eraseIdx k)).1 (sg L k).1))) t = if (grp (L.eraseIdx k)).1 (sg L k).1 = (grp (L.eraseIdx k)).1 (sg L k).2.1 then 1 else 0 := by
        intro S x t
        unfold L_areStrings_J171 L_areStrings_J82
        by_cases c : (grp (L.eraseIdx k)).1 (sg L k).1 = (grp (L.eraseIdx k)).1 (sg L k).2.1
        · rw [if_pos (show nI ((grp (L.eraseIdx k)).1 (sg L k).1) = nI ((grp (L.eraseIdx k)).1 (sg L k).2.1) by rw [c]), if_neg i10, if_pos c]
        · rw [if_neg (show ¬ nI ((grp (L.eraseIdx k)).1 (sg L k).1) = nI ((grp (L.eraseIdx k)).1 (sg L k).2.1) by rw [nI_eq (by omega) (by omega)]; exact c), if_pos rfl, if_neg c]
      refine ⟨((M2, K6), 1), ⟨M2, K6, rfl, (i1.tr g2).tr y2, ⟨by rw [t6.1, t5.1, t4.1, i2.1], by rw [t6.2, t5.2, t4.2, i2.2]⟩⟩, ?_⟩
      show L_areStrings_L35 (fu + 1) (M0, K0) 1 (nI k) = L_areStrings_L35 fu (M2, K6) 1 (nI (k + 1))
      have e0 : M1 1 (Int32.toNatClampNeg (4 * nI k)) = nI (sg L k).1 := by rw [m4e, nI_clamp (by omega), r0]
      have e1 : M1 1 (Int32.toNatClampNeg (4 * nI k + 1)) = nI (sg L k).2.1 := by rw [m4e, nI_1, nI_clamp (by omega), r1]
      have e2 : M1 1 (Int32.toNatClampNeg (4 * nI k + 2)) = (sg L k).2.2.1 := by rw [m4e, p2e, nI_clamp (by omega), r2]
      have e3 : M1 1 (Int32.toNatClampNeg (4 * nI k + 3)) = (sg L k).2.2.2 := by rw [m4e, p3e, nI_clamp (by omega), r3]
      have G1 : ¬ (4 * nI k < 0 ∨ 64 ≤ Int32.toNatClampNeg (4 * nI k)) := by rw [m4e]; exact ixg (by omega) (by omega)
      have G3 : ¬ (4 * nI k + 1 < 0 ∨ 64 ≤ Int32.toNatClampNeg (4 * nI k + 1)) := by rw [m4e, nI_1]; exact ixg (by omega) (by omega)
      have G5 : ¬ (4 * nI k + 2 < 0 ∨ 64 ≤ Int32.toNatClampNeg (4 * nI k + 2)) := by rw [m4e, p2e]; exact ixg (by omega) (by omega)
      have G6 : ¬ (4 * nI k + 3 < 0 ∨ 64 ≤ Int32.toNatClampNeg (4 * nI k + 3)) := by rw [m4e, p3e]; exact ixg (by omega) (by omega)
      have G2 : ¬ (M1 1 (Int32.toNatClampNeg (4 * nI k)) < 0 ∨ 36 ≤ Int32.toNatClampNeg (M1 1 (Int32.toNatClampNeg (4 * nI k)))) := by rw [e0]; exact ixg (by omega) (by omega)
      have G4 : ¬ (M1 1 (Int32.toNatClampNeg (4 * nI k + 1)) < 0 ∨ 36 ≤ Int32.toNatClampNeg (M1 1 (Int32.toNatClampNeg (4 * nI k + 1)))) := by rw [e1]; exact ixg (by omega) (by omega)
      have G0 : ¬ M0 3 (Int32.toNatClampNeg 1) ≤ nI k := by rw [cl1, hF0.1]; exact nI_ge hk (by omega)
      have hst : (if (grp (L.eraseIdx k)).1 (sg L k).1 = (grp (L.eraseIdx k)).1 (sg L k).2.1 then (1 : Int32) else 0) = L_areStrings_J171 (M1, K4) (nI k) (cG n (grp (L.eraseIdx k))) (L_areStrings_J82 (M1, K0) (nI k) (cG n (grp (L.eraseIdx k))) (M1 4 (Int32.toNatClampNeg (M1 1 (Int32.toNatClampNeg (4 * nI k + 1))))) (M1 4 (Int32.toNatClampNeg (M1 1 (Int32.toNatClampNeg (4 * nI k)))))) (if (grp (L.eraseIdx k)).1 (sg L k).1 = (grp (L.eraseIdx k)).1 (sg L k).2.1 then 1 else 0) := by
        rw [e0, e1, nI_clamp (by omega), nI_clamp (by omega), (g3 (sg L k).1 (by omega)).1, (g3 (sg L k).2.1 (by omega)).1, hJ]
      rw [L_areStrings_L35, if_neg G0, if_neg i10, bind_some' g1, bnd_at, if_pos G1, if_pos G2, if_pos G3, if_pos G4, bind_some' (so_0 hP0.2.1 hk), bnd_at, if_pos e0.symm, bind_some' (so_1 hP0.2.1 hk), bnd_at, if_pos e1.symm, bind_some' (so_2 hP0.2.1 hk), bnd_at, if_pos G5, if_pos e2.symm, bind_some' (so_3 hP0.2.1 hk), bnd_at, if_pos G6, if_pos e3.symm, bind_some' s4, bnd_at, if_pos hst, bind_some' (so_5 hP4.2.1 hk), bnd_at, if_pos rfl, bind_some' s5, bnd_at, if_pos rfl, bind_some' s6, bnd_at, bind_some' y1, bnd_at, if_pos rfl, nI_1])
    (by
      rintro fu s ⟨M0, K0, rfl, i1, i2⟩
      have hF0 := i1.fs hF
      refine ⟨_, ⟨M0, K0, rfl, i1, i2⟩, ?_⟩
      show L_areStrings_L35 (fu + 1) (M0, K0) 1 (nI L.length) = _
      rw [L_areStrings_L35]
      simp (disch := omega) only [cl1, hF0.1, nI_le, ↓reduceIte])
    (k := 0) (s := ((M, K), 1)) (x := 0) (Nat.zero_le _) rfl ⟨M, K, rfl, KG.rf M, rfl, rfl⟩
  exact ⟨M', K', h3, h1, h2⟩
theorem bk_l {K : SMain} {ss k : Nat} (e8 : K.2.2.2.1.2.2.2.2 0 = nI ss) (hs : ss ≤ 999) (hk : k < 32) : X6_book K (nI (k / 4)) (nI (k % 4)) = if min ss 8 ≤ k / 4 then -1000004 else K.2.2.2.1.2.2.2.1 k := by
  unfold X6_book
  rw [if_neg (nI_pos (by omega)), show X6_isIn (nI (k % 4)) 0 3 = 1 from in_1 (a := 0) (b := 3) (by omega) (by omega) (by omega), if_neg i10, kept_spec e8 hs]
  by_cases c : min ss 8 ≤ k / 4
  · rw [if_pos (nI_le c (by omega)), if_pos c]
  · rw [if_neg (nI_ge (by omega) (by omega)), if_neg c]
    have x2 : nI (k / 4) * 4 + nI (k % 4) = nI k := by
      rw [show (4 : Int32) = nI 4 from rfl, pk_mul, nI_add]
      congr 1
      omega
    unfold X0_entry
    rw [x2, rget_n _ hk (by omega)]
theorem books_l {M : SLaw} {K : SMain} {ss : Nat} (e8 : K.2.2.2.1.2.2.2.2 0 = nI ss) (hs : ss ≤ 999) (e10 : M 3 5 = nI (min ss 8)) (e12 : ∀ k, k < 32 → K.2.2.2.1.2.2.2.1 k = M 2 k) : L_areStrings_L243 FUEL (M, K) 1 0 = some 1 := by
  obtain ⟨r, rfl, h⟩ := loop_FUEL (f := fun fu (s : Int32) i => L_areStrings_L243 fu (M, K) s i) (n := 32) (fun _ s => s = 1) (fun r => r = 1) (by omega)
    (by
      rintro fu k s hk rfl
      right
      refine ⟨1, rfl, ?_⟩
      show L_areStrings_L243 (fu + 1) (M, K) 1 (nI k) = L_areStrings_L243 fu (M, K) 1 (nI (k + 1))
      rw [L_areStrings_L243, if_neg (show ¬ (32 : Int32) ≤ nI k from nI_ge (b := 32) hk (by omega))]
      simp (disch := omega) only [cl5, e10, i10, d4e, r4e, nI_1, nI_clamp, gN, not_false_eq_true, ↓reduceIte, bk_l e8 hs hk, e12 k hk]
      by_cases c : min ss 8 ≤ k / 4
      · rw [if_pos (nI_le c (by omega)), if_pos c, if_pos rfl]
      · rw [if_neg (nI_ge (by omega) (by omega)), if_neg c, if_pos rfl])
    (by
      rintro fu s rfl
      refine ⟨1, rfl, ?_⟩
      show L_areStrings_L243 (fu + 1) (M, K) 1 (nI 32) = _
      rw [L_areStrings_L243, if_pos (show (32 : Int32) ≤ nI 32 by decide)])
    (k := 0) (s := 1) (x := 0) (Nat.zero_le _) rfl rfl
  exact h
theorem areStrings_l {e : Nat} {K : SLM} (h : RelL e K) (he : e ≤ 64) : ∃ K', L_areStrings K = some (K', 1) ∧ RelL e K' := by
  obtain ⟨M, K⟩ := K
  obtain ⟨hC, n, se, le, pu, L, g, hA, hP, h1, hF, hE⟩ := h
  have hC : HC K := hC
  have hP : RC K.2.2.2.1 n se le pu L g := hP
  have h1 : RL1 M n se le pu := h1
  have hF : FS M L := hF
  have hE : EL K.2.2.2.1 M n e := hE
  have hlen := hF.2.1
  obtain ⟨M1, K1, a1, a2, a3⟩ := strs_l hA hC hP h1 hF
  have hE1 : EL K1.2.2.2.1 M1 n e := by rw [a3.2]; exact a2.el hE
  obtain ⟨-, -, ⟨ss, e7, e8, e9, e10⟩, e11, e12, e13⟩ := id hE1
  have hJ : L_areStrings_J11 (M, K) (-1000001) (-1000001) = some ((M, K), 1) := by
    unfold L_areStrings_J11
    rw [if_pos rfl, bind_some' (so_m1 K 0), bnd_at, if_pos rfl]
  refine ⟨(M1, K1), ?_, a3.hc hC, n, se, le, pu, L, g, hA, ?_, a2.r1 h1, a2.fs hF, hE1⟩
  · unfold L_areStrings
    simp only [cl1, hF.1]
    rw [bind_some' (so_no 0 (by omega) hP.2.1 (Nat.le_refl _)), bnd_at, bind_some' hJ, bind_some' a1, bind_some' (books_l e8 (by omega) e10 e12), if_pos (Or.inr rfl)]
  · show RC K1.2.2.2.1 n se le pu L g
    rw [a3.2]
    exact hP
/-! reasons -/
theorem wt_c {K : SMain} {n a b m : Nat} {se le pu : Nat → Int32} {L : List Str4} {g : Nat → Int32} {r : Int32} (hA : AW n se le pu L g) (hP : RC K.2.2.2.1 n se le pu L g) (ha : a < n) (hb : b < n) (hne : a ≠ b) (hm : m ≤ 1) (h : TR n pu (grp L) g L a b (nI m) r) : X6_whyTie K (nI a) (nI b) (nI m) = some r := by
  obtain ⟨r', r1, r2⟩ := reasonString_spec (nI m) hA hP ha hb
  have e := r2.one h
  subst e
  unfold X6_whyTie
  rw [pair1 hA.1 hP.1.1 ha hb hne, if_neg i10]
  rcases (by omega : m = 0 ∨ m = 1) with rfl | rfl
  · rw [if_pos (show nI 0 = 0 from rfl)]
    have r1 : X1_reasonAgainstString K.2.2.2.1 (nI a) (nI b) 0 = some r' := r1
    rw [bind_some' r1]
  · rw [if_neg (show ¬ nI 1 = 0 by decide)]
    have r1 : X1_reasonAgainstString K.2.2.2.1 (nI a) (nI b) 1 = some r' := r1
    rw [bind_some' r1]
theorem wp_c {K : SMain} {n p m sp b : Nat} {se le pu : Nat → Int32} {L : List Str4} {g : Nat → Int32} {r : Int32} (hA : AW n se le pu L g) (hP : RC K.2.2.2.1 n se le pu L g) (hp : p < n) (hm : m ≤ 1) (s2 : K.2.2.2.1.2.1 1 = nI sp) (b2 : K.2.2.2.1.2.1 2 = nI b) (hsp : sp ≤ 12) (h : BR n pu (grp L) g sp b p (nI m) r) : X6_whyPull K (nI p) (nI m) = some r := by
  obtain ⟨r', r1, r2⟩ := reasonPull_spec (w := nI m) hA hP s2 b2 hsp hp
  have e := r2.one h
  subst e
  unfold X6_whyPull
  rw [hasP1 hA.1 hP.1.1 hp, if_neg i10, show X6_isIn (nI m) 0 1 = 1 from in_1 (a := 0) (b := 1) (by omega) hm (by omega), if_neg i10, bind_some' r1]
theorem whys_l {M : SLaw} {K : SMain} {n e Z : Nat} {se le pu : Nat → Int32} {L : List Str4} {g : Nat → Int32} (hZ : Z < 2 ^ 31) (hA : AW n se le pu L g) (hP : RC K.2.2.2.1 n se le pu L g) (hR : RL1 M n se le pu) (hF : FS M L) (hE : EL K.2.2.2.1 M n e) :
    ∃ M', L_areWhys_L35 FUEL (M, K) (nI Z) 1 0 = some ((M', K), 1) ∧ KG M M' := by
  have hn := hA.1
  have hlen := hF.2.1
  obtain ⟨⟨sp, s1, s2, s3⟩, ⟨b, b1, b2, b3⟩, -⟩ := hE
  obtain ⟨R, ⟨M', rfl, h1⟩, h3⟩ := loop_FUEL (f := fun fu (s : SLM × Int32) i => L_areWhys_L35 fu s.1 (nI Z) s.2 i) (n := n)
    (fun k s => ∃ M', s = ((M', K), 1) ∧ KG M M') (fun s => ∃ M', s = ((M', K), 1) ∧ KG M M') (by omega)
    (by
      rintro fu k s hk ⟨M0, rfl, i1⟩
      right
      have hF0 := i1.fs hF
      have hR0 := i1.r1 hR
      have s30 : M0 3 2 = nI sp := by rw [i1 3 (by decide)]; exact s3
      have b30 : M0 3 7 = nI b := by rw [i1 3 (by decide)]; exact b3
      have hn0 : ¬ nI n = 0 := nI_ne0 (by omega) (by omega)
      obtain ⟨M1, r, w1, w2, w3⟩ := whyPull_l (w := nI (Z % 2)) hA hR0 hF0 s30 b30 (by omega) hk
      have hF1 := w2.fs hF0
      have hR1 := w2.r1 hR0
      have w4 := wp_c (m := Z % 2) hA hP hk (by omega) s2 b2 (by omega) w3
      have ho : nI (k + 1 + Z % 5) - nI (k + 1 + Z % 5) / nI n * nI n = nI ((k + 1 + Z % 5) % n) := pk_rem (by omega) (by omega) (by omega)
      have hol := Nat.mod_lt (k + 1 + Z % 5) (show 0 < n by omega)
      generalize (k + 1 + Z % 5) % n = o at ho hol
      show ∃ s' : SLM × Int32, _ ∧ L_areWhys_L35 (fu + 1) (M0, K) (nI Z) 1 (nI k) = L_areWhys_L35 fu s'.1 (nI Z) s'.2 (nI (k + 1))
      rw [L_areWhys_L35]
      by_cases c : o = k
      · refine ⟨((M1, K), 1), ⟨M1, rfl, i1.tr w2⟩, ?_⟩
        rw [c] at ho
        simp (disch := omega) only [cl0, hR0.1, nI_ge, i10, hn0, not_false_eq_true, ↓reduceIte, d2e, r2e, d5e, r5e, nI_1, nI_add, w4, w1, bs, bnd_at, hR1.1, ho]
      · have c2 : ¬ nI o = nI k := by rw [nI_eq (by omega) (by omega)]; exact c
        have hJ : ∀ (S : SLM) (x y t u : Int32), L_areWhys_J106 S x y t (nI (Z % 3)) u y = nI (if Z % 3 = 0 then 1 else 0) := by
          intro S x y t u
          unfold L_areWhys_J106
          by_cases c3 : Z % 3 = 0
          · rw [if_pos (show nI (Z % 3) = 0 by rw [c3]; rfl), if_pos c3]
            rfl
          · rw [if_neg (nI_ne0 (by omega) (by omega)), if_neg c3]
            rfl
        have hm1 : (if Z % 3 = 0 then 1 else 0) ≤ 1 := by split <;> omega
        obtain ⟨M2, v, v1, v2, v3⟩ := whyTie_l (u := nI (if Z % 3 = 0 then 1 else 0)) hA hR1 hF1 hk hol (fun z => c z.symm) (bits2 hm1)
        have v4 := wt_c hA hP hk hol (fun z => c z.symm) hm1 v3
        refine ⟨((M2, K), 1), ⟨M2, rfl, (i1.tr w2).tr v2⟩, ?_⟩
        simp (disch := omega) only [cl0, hR0.1, nI_ge, i10, hn0, not_false_eq_true, ↓reduceIte, d2e, r2e, d5e, r5e, d3e, r3e, nI_1, nI_add, w4, w1, bs, bnd_at, hR1.1, ho, c2, hJ, v4]
        by_cases c3 : Z % 3 = 0
        · rw [if_pos c3] at v1
          have v1 : L_whyTie M1 (nI k) (nI o) 1 = some (M2, v) := v1
          rw [if_pos (show nI (Z % 3) = 0 by rw [c3]; rfl), bind_some' v1, if_pos rfl]
        · rw [if_neg c3] at v1
          have v1 : L_whyTie M1 (nI k) (nI o) 0 = some (M2, v) := v1
          rw [if_neg (nI_ne0 (by omega) (by omega)), bind_some' v1, if_pos rfl])
    (by
      rintro fu s ⟨M0, rfl, i1⟩
      have hR0 := i1.r1 hR
      refine ⟨_, ⟨M0, rfl, i1⟩, ?_⟩
      show L_areWhys_L35 (fu + 1) (M0, K) (nI Z) 1 (nI n) = _
      rw [L_areWhys_L35]
      simp (disch := omega) only [cl0, hR0.1, nI_le, ↓reduceIte])
    (k := 0) (s := ((M, K), 1)) (x := 0) (Nat.zero_le _) rfl ⟨M, rfl, KG.rf M⟩
  exact ⟨M', h3, h1⟩
theorem areWhys_l {e Z : Nat} {K : SLM} (h : RelL e K) (hZ : Z < 2 ^ 31) : ∃ K', L_areWhys K (nI Z) = some (K', 1) ∧ RelL e K' := by
  obtain ⟨M, K⟩ := K
  obtain ⟨hC, n, se, le, pu, L, g, hA, hP, h1, hF, hE⟩ := h
  have hC : HC K := hC
  have hP : RC K.2.2.2.1 n se le pu L g := hP
  have h1 : RL1 M n se le pu := h1
  have hF : FS M L := hF
  have hE : EL K.2.2.2.1 M n e := hE
  have hn := hA.1
  obtain ⟨M1, a1, a2⟩ := whys_l hZ hA hP h1 hF hE
  have hw1 : X6_whyTie K 0 0 1 = some (-1000001) := by
    have e : X1_arePair K.2.2.2.1 0 0 = 0 := pair0 (a := 0) (b := 0) (by omega) (by omega) hn hP.1.1 (fun z => z.2.2 rfl)
    unfold X6_whyTie
    rw [e, if_pos rfl]
  have hw2 : X6_whyPull K (nI n) 0 = some (-1000001) := by
    unfold X6_whyPull
    rw [hasP0 (by omega) hP.1.1 (Nat.le_refl n), if_pos rfl]
  have hJ : L_areWhys_J9 (M, K) (nI Z) (-1000001) (-1000001) = some 1 := by
    unfold L_areWhys_J9
    rw [if_pos rfl]
    show Option.bind (X6_whyPull K (M 3 (Int32.toNatClampNeg 0)) 0) _ = _
    rw [cl0, h1.1, bind_some' hw2, if_pos rfl]
  refine ⟨(M1, K), ?_, hC, n, se, le, pu, L, g, hA, hP, a2.r1 h1, a2.fs hF, a2.el hE⟩
  unfold L_areWhys
  rw [bind_some' hw1, bind_some' hJ, bind_some' a1, if_pos (Or.inr rfl)]
