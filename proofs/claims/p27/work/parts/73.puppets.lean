/-! the law's look at puppets and counts -/
theorem strings_l {M : SLaw} {K : SMain} {n p : Nat} {L : List Str4} (x5 x6 x7 x8 x12 x13 : Int32) (hn : n ≤ 12) (hF : FS M L) (hin : InL L n) (hp : p < n) : L_arePuppets_L83 FUEL (M, K) x5 x6 x7 x8 (nI p) 0 x12 x13 0 = some (cT L p) := by
  have hlen := hF.2.1
  refine loop_it (f := fun fu t i => L_arePuppets_L83 fu (M, K) x5 x6 x7 x8 (nI p) t x12 x13 i) (n := L.length) _ (fun t => t) (by omega) ?_ ?_ _
  · intro fu k t hk
    obtain ⟨r0, r1, -, -⟩ := hF.2.2 k hk
    have hx := hin _ (sg_mem hk)
    show L_arePuppets_L83 (fu + 1) (M, K) x5 x6 x7 x8 (nI p) t x12 x13 (nI k) = L_arePuppets_L83 fu (M, K) x5 x6 x7 x8 (nI p) (if (sg L k).1 = p ∨ (sg L k).2.1 = p then t + 1 else t) x12 x13 (nI (k + 1))
    rw [L_arePuppets_L83]
    simp (disch := omega) only [cl1, hF.1, nI_ge, m4e, nI_1, nI_clamp, gN, not_false_eq_true, ↓reduceIte, r0, r1, Int32.add_zero]
    by_cases c1 : (sg L k).1 = p
    · rw [if_pos (by rw [c1]), if_pos (Or.inl c1)]
    · rw [if_neg (by rw [nI_eq (by omega) (by omega)]; exact c1)]
      by_cases c2 : (sg L k).2.1 = p
      · rw [if_pos (by rw [c2]), if_pos (Or.inr c2)]
      · rw [if_neg (by rw [nI_eq (by omega) (by omega)]; exact c2), if_neg (fun z => z.elim c1 c2)]
  · intro fu t
    show L_arePuppets_L83 (fu + 1) (M, K) x5 x6 x7 x8 (nI p) t x12 x13 (nI L.length) = _
    rw [L_arePuppets_L83]
    simp (disch := omega) only [cl1, hF.1, nI_le, ↓reduceIte]
theorem it_pair {f g : Nat → Int32 → Int32} : ∀ {n : Nat} {a b : Int32}, it (fun k (t : Int32 × Int32) => (f k t.1, g k t.2)) n (a, b) = (it f n a, it g n b) := by
  intro n
  induction n with
  | zero => intro a b; rfl
  | succ n ih =>
    intro a b
    show (f n (it (fun k (t : Int32 × Int32) => (f k t.1, g k t.2)) n (a, b)).1, g n (it (fun k (t : Int32 × Int32) => (f k t.1, g k t.2)) n (a, b)).2) = _
    rw [ih]
    rfl
theorem members_l {M : SLaw} {K : SMain} {n p : Nat} {se le pu : Nat → Int32} {q : Grp} (x5 x6 x7 x8 x11 : Int32) (hn : n ≤ 12) (hR : RL1 M n se le pu) (hL : LG M q n) (hq : ∀ k, q.1 k ≤ k) (hp : p < n) : L_arePuppets_L134 FUEL (M, K) x5 x6 x7 x8 (nI p) x11 0 0 0 = some (gs (fun k => decide (q.1 k = q.1 p)) n, sm (fun k => if q.1 k = q.1 p then se k else 0) n) := by
  have qp := hq p
  have h := loop_it (f := fun fu (t : Int32 × Int32) i => L_arePuppets_L134 fu (M, K) x5 x6 x7 x8 (nI p) x11 t.1 t.2 i) (n := n) (fun k t => ((fun k (t : Int32) => if decide (q.1 k = q.1 p) then t ||| (1 <<< (nI k &&& 31)) else t) k t.1, (fun k (t : Int32) => t + (if q.1 k = q.1 p then se k else 0)) k t.2)) (fun t => t) (by omega) (by
    rintro fu k ⟨t, v⟩ hk
    have qk := hq k
    show L_arePuppets_L134 (fu + 1) (M, K) x5 x6 x7 x8 (nI p) x11 t v (nI k) = L_arePuppets_L134 fu (M, K) x5 x6 x7 x8 (nI p) x11 (if decide (q.1 k = q.1 p) then t ||| (1 <<< (nI k &&& 31)) else t) (v + (if q.1 k = q.1 p then se k else 0)) (nI (k + 1))
    rw [L_arePuppets_L134]
    have hJ : ∀ z, L_arePuppets_J154 (M, K) x5 x6 x7 x8 (nI p) x11 v (nI k) (nI (q.1 p)) (nI (q.1 k)) z = if q.1 k = q.1 p then (1 <<< (nI k &&& 31)) else 0 := by
      intro z
      unfold L_arePuppets_J154
      by_cases c : q.1 k = q.1 p
      · rw [if_pos (by rw [c]), if_pos c]
      · rw [if_neg (by rw [nI_eq (by omega) (by omega)]; exact c), if_neg c]
    simp (disch := omega) only [cl0, hR.1, nI_ge, m3e, nI_1, nI_clamp, gN, not_false_eq_true, ↓reduceIte, (hL k hk).1, (hL p hp).1, (hR.2 k hk).1, hJ]
    by_cases c : q.1 k = q.1 p
    · rw [if_pos (by rw [c]), if_pos c, if_pos (decide_eq_true c), if_pos c]
    · rw [if_neg (by rw [nI_eq (by omega) (by omega)]; exact c), if_neg c, if_neg (by rw [decide_eq_false c]; decide), if_neg c, Int32.or_zero]) (by
    rintro fu ⟨t, v⟩
    show L_arePuppets_L134 (fu + 1) (M, K) x5 x6 x7 x8 (nI p) x11 t v (nI n) = _
    rw [L_arePuppets_L134]
    simp (disch := omega) only [cl0, hR.1, nI_le, ↓reduceIte]) (0, 0)
  rw [it_pair (f := fun k (t : Int32) => if decide (q.1 k = q.1 p) then t ||| (1 <<< (nI k &&& 31)) else t) (g := fun k (t : Int32) => t + (if q.1 k = q.1 p then se k else 0)), it_sm] at h
  exact h
theorem each_l {M : SLaw} {K : SMain} {n : Nat} {se le pu : Nat → Int32} {L : List Str4} {g : Nat → Int32} (x5 x6 : Int32) (hA : AW n se le pu L g) (hP : RC K.2.2.2.1 n se le pu L g) (hR : RL1 M n se le pu) (hF : FS M L) (hL : LG M (grp L) n) (hv : ∀ k, k < n → K.2.2.2.1.1 5 k = M 4 (24 + k)) :
    L_arePuppets_L58 FUEL (M, K) x5 x6 0 0 1 0 = some (gs (fun k => decide (pu k ≠ -1)) n, cG n (grp L), 1) := by
  have hn := hA.1
  have hq := hA.q
  obtain ⟨R, rfl, h2⟩ := loop_FUEL (f := fun fu (s : Int32 × Int32 × Int32) i => L_arePuppets_L58 fu (M, K) x5 x6 s.1 s.2.1 s.2.2 i) (n := n)
    (fun k s => s = (gs (fun k => decide (pu k ≠ -1)) k, cG k (grp L), 1)) (fun s => s = (gs (fun k => decide (pu k ≠ -1)) n, cG n (grp L), 1)) (by omega)
    (by
      rintro fu k s hk rfl
      right
      refine ⟨_, rfl, ?_⟩
      have qk := hq.1 k
      obtain ⟨l1, l2⟩ := hL k hk
      obtain ⟨r1, r2, r3⟩ := hR.2 k hk
      have hp3 := (hA.2.2.2 k hk).2.2.1
      have e1 : ∀ y x8 x11 x12 x13, gs (fun k => decide (pu k ≠ -1)) k ||| L_arePuppets_J232 (M, K) x5 x6 x8 (nI k) x11 x12 x13 (pu k) y = gs (fun k => decide (pu k ≠ -1)) (k + 1) := by
        intro y x8 x11 x12 x13
        have e : gs (fun k => decide (pu k ≠ -1)) (k + 1) = if decide (pu k ≠ -1) then gs (fun k => decide (pu k ≠ -1)) k ||| (1 <<< (nI k &&& 31)) else gs (fun k => decide (pu k ≠ -1)) k := rfl
        rw [e]
        unfold L_arePuppets_J232
        by_cases c : pu k = -1
        · rw [if_neg (by rw [c]; decide), if_neg (by rw [decide_eq_false (fun z => z c)]; decide), Int32.or_zero]
        · rw [if_pos (by rcases p01 hp3 c with z | z <;> rw [z] <;> decide), if_pos (decide_eq_true c)]
      have e2 : ∀ x7 x11 x12 x13 t, cG k (grp L) + L_arePuppets_J211 (M, K) x5 x6 x7 (nI k) x11 x12 x13 (nI k) (nI ((grp L).1 k)) t = cG (k + 1) (grp L) := by
        intro x7 x11 x12 x13 t
        have e : cG (k + 1) (grp L) = if (grp L).1 k = k then cG k (grp L) + 1 else cG k (grp L) := rfl
        rw [e]
        unfold L_arePuppets_J211
        by_cases c : (grp L).1 k = k
        · rw [if_pos (by rw [c]), if_pos c]
        · rw [if_neg (by rw [nI_eq (by omega) (by omega)]; exact c), if_neg c, Int32.add_zero]
      have e3 : ∀ x7 x8 x11 x12 x13 t, L_arePuppets_J295 (M, K) x5 x6 x7 x8 (nI k) x11 x12 x13 (pu k) t = some (if pu k < 0 then -1000004 else pu k) := by
        intro x7 x8 x11 x12 x13 t
        unfold L_arePuppets_J295
        simp (disch := omega) only [m3e, p2e, nI_clamp, gN, not_false_eq_true, ↓reduceIte, r3]
        by_cases c : pu k = -1
        · rw [if_neg (by rw [c]; decide), if_pos ((p3neg hp3).mpr c)]
        · rw [if_pos (by rcases p01 hp3 c with z | z <;> rw [z] <;> decide), if_neg (fun z => c ((p3neg hp3).mp z))]
      show L_arePuppets_L58 (fu + 1) (M, K) x5 x6 (gs (fun k => decide (pu k ≠ -1)) k) (cG k (grp L)) 1 (nI k) = L_arePuppets_L58 fu (M, K) x5 x6 (gs (fun k => decide (pu k ≠ -1)) (k + 1)) (cG (k + 1) (grp L)) 1 (nI (k + 1))
      rw [L_arePuppets_L58]
      simp (disch := omega) only [cl0, hR.1, nI_ge, i10, strings_l x5 x6 _ _ _ _ hn hF hA.2.1 hk, members_l x5 x6 _ _ _ hn hR hL hq.1 hk, bs, m3e, nI_1, p2e, a12e, a24e, nI_clamp, gN, not_false_eq_true, ↓reduceIte, l1, l2, r1, r2, r3, po_0 hA hP hk, po_1 hA hP hk, po_2 hA hP hk, po_3 hA hP hk, po_4 hA hP hk, po_5 hA hP hk, po_6 hA hP hk, po_7 hA hP hk, po_8 hA hP hk, hv k hk, e2, e3, e1])
    (by
      rintro fu s rfl
      refine ⟨_, rfl, ?_⟩
      show L_arePuppets_L58 (fu + 1) (M, K) x5 x6 _ _ 1 (nI n) = _
      rw [L_arePuppets_L58]
      simp (disch := omega) only [cl0, hR.1, nI_le, ↓reduceIte])
    (k := 0) (s := (0, 0, 1)) (x := 0) (Nat.zero_le _) rfl rfl
  exact h2
theorem passing {A B : Nat} {v : Int32} (hA : A ≤ 108) (hB : B ≤ 108) : wp (nI A) (nI B) v = if A < 2 * B then 1 else if 2 * B = A then v else 0 := by
  have h := pk_sub_toInt (a := A) (b := B) (by omega) (by omega)
  have hb : (nI B).toInt = (B : Int) := nI_toInt (by omega)
  unfold wp
  by_cases c1 : 2 * B = A
  · have e : nI B = nI A - nI B := by
      rw [pk_sub (by omega)]
      congr 1
      omega
    rw [if_pos e, if_neg (by omega), if_pos c1]
  · have e : ¬ nI B = nI A - nI B := by
      intro z
      have := congrArg Int32.toInt z
      rw [h, hb] at this
      omega
    rw [if_neg e]
    by_cases c2 : A < 2 * B
    · rw [if_neg (by rw [Int32.le_iff_toInt_le, h, hb]; omega), if_pos c2]
    · rw [if_pos (by rw [Int32.le_iff_toInt_le, h, hb]; omega), if_neg c2, if_neg c1]
theorem arePuppets_l {e : Nat} {K : SLM} (h : RelL e K) (he : e ≤ 64) : ∃ K', L_arePuppets K = some (K', 1) ∧ RelL e K' := by
  obtain ⟨M0, K⟩ := K
  obtain ⟨hC, n, se, le, pu, L, g, hA, hP, h1, hF, hE⟩ := h
  have hC : HC K := hC
  have hP : RC K.2.2.2.1 n se le pu L g := hP
  have h1 : RL1 M0 n se le pu := h1
  have hF : FS M0 L := hF
  have hE : EL K.2.2.2.1 M0 n e := hE
  have hn := hA.1
  obtain ⟨M, y1, y2, y3, y4⟩ := yes_l hA (BT.all L hF.2.1) h1 hF
  have hE1 := y2.el hE
  have hR := y2.r1 h1
  have hF1 := y2.fs hF
  have hRP : RP e K.2.2.2.1 M := ⟨n, se, le, pu, L, g, hA, hP, hR, hF1, hE1⟩
  obtain ⟨⟨sp, s1, s2, s3⟩, ⟨b, b1, b2, b3⟩, ⟨ss, e7, e8, e9, e10⟩, e11, e12, e13⟩ := hE1
  have hvt := hP.2.2.2.1
  have hv : ∀ k, k < n → K.2.2.2.1.1 5 k = M 4 (24 + k) := fun k hk => hvt.one y4 k hk
  have hyy := yes_eq hvt y4
  obtain ⟨B, B1, B2⟩ := yes_nat hA hvt
  obtain ⟨A, A1, A2⟩ := sm_nat (f := se) (n := n) (fun k hk => by obtain ⟨z, -, z2, z3⟩ := (hA.2.2.2 k hk).1; exact ⟨z, z2, z3⟩)
  have c5 := ct_5 hA hP
  have c6 := ct_6 hA hP
  have c7 := ct_7 hA hP s2 s1
  rw [B2] at c5 c6 c7
  rw [A2] at c6 c7
  rw [← hyy, B2] at y1
  have hJ34 : L_arePuppets_J34 (M, K) (nI B) (nI A) 0 0 (-1000001) (-1000001) = some 1 := by
    unfold L_arePuppets_J34
    rw [if_pos rfl, bind_some' (po_m1 0), if_pos rfl]
  have hJ420 : L_arePuppets_J420 (M, K) (nI B) (nI A) (gs (fun k => decide (pu k ≠ -1)) n) (cG n (grp L)) 1 (nI n) = some (if n = 0 then -1000004 else wp (nI A) (nI B) (K.2.2.2.1.1 5 sp)) := by
    unfold L_arePuppets_J420
    by_cases c : n = 0
    · rw [if_pos (show nI n = 0 by rw [c]; rfl), if_pos c]
    · have hsp : sp < n := by omega
      have h01 := hvt.b hA sp hsp
      rw [if_neg (nI_ne0 (by omega) (by omega)), if_neg c, passing (by omega) B1, show (2 : Int32) * nI B = nI (2 * B) from pk_mul 2 B]
      by_cases c1 : A < 2 * B
      · rw [if_pos (nI_lt c1 (by omega)), if_pos c1]
      · rw [if_neg (nI_nlt (by omega) (by omega)), if_neg c1]
        by_cases c2 : 2 * B = A
        · rw [if_pos (by rw [c2]), if_pos c2]
          simp (disch := omega) only [cl2, s3, a24e, nI_clamp, gN, not_false_eq_true, ↓reduceIte, ← hv sp hsp]
          rcases h01 with z | z
          · rw [z, if_neg (by decide)]
          · rw [z, if_pos rfl]
        · rw [if_neg (by rw [nI_eq (by omega) (by omega)]; exact c2), if_neg c2]
  have hJ567 : ∀ x t, L_arePuppets_J567 (M, K) x (nI n) t = if n = 0 then -1000004 else nI sp := by
    intro x t
    unfold L_arePuppets_J567
    by_cases c : n = 0
    · rw [if_pos (show nI n = 0 by rw [c]; rfl), if_pos c]
    · rw [if_neg (nI_ne0 (by omega) (by omega)), if_neg c, cl2]
      exact s3
  refine ⟨(M, K), ?_, hC, hRP⟩
  unfold L_arePuppets
  rw [bind_some' y1, bnd_at, bind_some' (seats_l hn hR), A2]
  simp only [cl0, hR.1]
  rw [bind_some' (po_no 0 hP.1.1 (Nat.le_refl n) (by omega)), bind_some' hJ34, bind_some' (each_l (nI B) (nI A) hA hP hR hF1 y3 hv), bind_some' hJ420]
  simp only [i10, ↓reduceIte, ct_0 hA hP, ct_1 hA hP, ct_2 hA hP, ct_3 hA hP, ct_4 hA hP, c5, c6, c7, ct_8 hA hP s2, ct_9 hA hP, ct_10, ct_11, ct_12, ct_15, ct_20, bs, hF1.1, cl1, cl3, cl4, cl5, cl6, cl7, A2, hJ567, e8, e9, e11, kept_spec e8 (show ss ≤ 999 by omega), e10, e13, b2, b3]
