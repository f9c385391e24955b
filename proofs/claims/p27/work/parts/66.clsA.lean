/-! the class's changes, told outright -/
/-- what a change of puppets, strings and pulls leaves as it is -/
def EQX (P P' : SPar) : Prop := P'.2.1 1 = P.2.1 1 ∧ P'.2.1 2 = P.2.1 2 ∧ P'.2.2.2 = P.2.2.2
theorem in_1 {m a b : Nat} (h1 : a ≤ m) (h2 : m ≤ b) (hb : b ≤ 1000) : X6_isIn (nI m) (nI a) (nI b) = 1 := by
  unfold X6_isIn
  rw [if_neg (nI_nlt (by omega) (by omega)), if_neg (nI_nlt (by omega) (by omega))]
theorem hasP1 {P : SPar} {n p : Nat} (hn : n ≤ 12) (h0 : P.2.1 0 = nI n) (hp : p < n) : X1_hasPuppet P (nI p) = 1 := by
  unfold X1_hasPuppet
  rw [h0, if_neg (nI_pos (by omega)), if_neg (nI_ge hp (by omega))]
theorem hasP0 {P : SPar} {n p : Nat} (hp2 : p < 1000) (h0 : P.2.1 0 = nI n) (hp : n ≤ p) : X1_hasPuppet P (nI p) = 0 := by
  unfold X1_hasPuppet
  rw [h0, if_neg (nI_pos (by omega)), if_pos (nI_le hp (by omega))]
theorem pair1 {P : SPar} {n a b : Nat} (hn : n ≤ 12) (h0 : P.2.1 0 = nI n) (ha : a < n) (hb : b < n) (hab : a ≠ b) : X1_arePair P (nI a) (nI b) = 1 := by
  unfold X1_arePair
  rw [hasP1 hn h0 ha, hasP1 hn h0 hb, if_neg i10, if_neg i10, if_neg (by rw [nI_eq (by omega) (by omega)]; exact hab)]
theorem pair0 {P : SPar} {n a b : Nat} (ha2 : a < 1000) (hb2 : b < 1000) (hn : n ≤ 12) (h0 : P.2.1 0 = nI n) (h : ¬ (a < n ∧ b < n ∧ a ≠ b)) : X1_arePair P (nI a) (nI b) = 0 := by
  unfold X1_arePair
  by_cases ha : a < n
  · rw [hasP1 hn h0 ha, if_neg i10]
    by_cases hb : b < n
    · rw [hasP1 hn h0 hb, if_neg i10, if_pos (by congr 1; omega)]
    · rw [hasP0 hb2 h0 (by omega), if_pos rfl]
  · rw [hasP0 ha2 h0 (by omega), if_pos rfl]
theorem c_puppet {P : SPar} {n j m : Nat} {se le pu : Nat → Int32} {L : List Str4} {g : Nat → Int32} (hA : AW n se le pu L g) (hP : RC P n se le pu L g) (hj1 : 1 ≤ j) (hj2 : j ≤ 9) (hm : m ≤ 1) (hn12 : n < 12) :
    ∃ P', X1_addPuppet P (nI j) (nI m) = some (P', nI n) ∧ AW (n + 1) (upd se n (nI j)) (upd le n (nI m)) (upd pu n (-1)) L g ∧ RC P' (n + 1) (upd se n (nI j)) (upd le n (nI m)) (upd pu n (-1)) L g ∧ EQX P P' ∧ P'.2.2.1.2 1 = P.2.2.1.2 1 := by
  have hn := hA.1
  have e1 : X6_isIn (nI j) 1 9 = 1 := in_1 (a := 1) (b := 9) hj1 hj2 (by omega)
  have e3 : X6_isIn (nI m) 0 1 = 1 := in_1 (a := 0) (b := 1) (by omega) hm (by omega)
  have hA2 : AW (n + 1) (upd se n (nI j)) (upd le n (nI m)) (upd pu n (-1)) L g := by
    refine ⟨by omega, fun y hy => ?_, hA.2.2.1, fun k hk => ?_⟩
    · have := hA.2.1 y hy
      exact ⟨this.1, by omega, this.2.2⟩
    · rw [upd_at, upd_at, upd_at]
      by_cases hkn : k = n
      · rw [if_pos hkn, if_pos hkn, if_pos hkn]
        exact ⟨⟨j, hj1, hj2, rfl⟩, bits2 hm, Or.inl rfl, fun z => absurd rfl z⟩
      · rw [if_neg hkn, if_neg hkn, if_neg hkn]
        exact hA.2.2.2 k (by omega)
  have hRB : RB (up (up (up P.1 0 (upd (P.1 0) n (nI j))) 1 (upd (P.1 1) n (nI m))) 2 (upd (P.1 2) n (-1)), up P.2.1 0 (nI (n + 1)), P.2.2.1, P.2.2.2) (n + 1) (upd se n (nI j)) (upd le n (nI m)) (upd pu n (-1)) := by
    refine ⟨rfl, fun k hk => ?_⟩
    show upd (P.1 0) n (nI j) k = _ ∧ upd (P.1 1) n (nI m) k = _ ∧ upd (P.1 2) n (-1) k = _
    rw [upd_at, upd_at, upd_at, upd_at, upd_at, upd_at]
    by_cases hkn : k = n
    · rw [if_pos hkn, if_pos hkn, if_pos hkn, if_pos hkn, if_pos hkn, if_pos hkn]
      exact ⟨rfl, rfl, rfl⟩
    · rw [if_neg hkn, if_neg hkn, if_neg hkn, if_neg hkn, if_neg hkn, if_neg hkn]
      exact hP.1.2 k (by omega)
  obtain ⟨P1, P', t0, t1, t2, t3⟩ := tell_spec hA2 hRB hP.2.1
  refine ⟨P', ?_, hA2, t2, ⟨t3.2.1 1 (by decide), t3.2.1 2 (by decide), by rw [t3.2.2]⟩, by rw [t3.2.2]⟩
  unfold X1_addPuppet
  rw [e1, if_neg (by decide), e3, if_neg (by decide), hP.1.1, if_pos (show nI n < 12 from nI_lt (b := 12) (by omega) (by omega)), rput_n _ _ (by omega) (by omega)]
  show Option.bind (X1_tellGroups (up (up (up P.1 0 (upd (P.1 0) n (nI j))) 1 (rput 12 (P.1 1) (P.2.1 0) (nI m))) 2 (rput 12 (P.1 2) (P.2.1 0) (-1)), up P.2.1 0 (P.2.1 0 + 1), P.2.2.1, P.2.2.2)) _ = _
  rw [hP.1.1, rput_n _ _ (by omega) (by omega), rput_n _ _ (by omega) (by omega), nI_1, bind_some' t0, bind_some' t1, t2.1.1, nI_pred]
theorem c_full {P : SPar} {j m : Nat} (h0 : P.2.1 0 = nI 12) (hj1 : 1 ≤ j) (hj2 : j ≤ 9) (hm : m ≤ 1) : X1_addPuppet P (nI j) (nI m) = some (P, -1000003) := by
  have e1 : X6_isIn (nI j) 1 9 = 1 := in_1 (a := 1) (b := 9) hj1 hj2 (by omega)
  have e3 : X6_isIn (nI m) 0 1 = 1 := in_1 (a := 0) (b := 1) (by omega) hm (by omega)
  unfold X1_addPuppet
  rw [e1, if_neg (by decide), e3, if_neg (by decide), h0, if_neg (by decide)]
theorem c_tie {P : SPar} {n a b m : Nat} {se le pu : Nat → Int32} {L : List Str4} {g : Nat → Int32} {u : Int32} (hA : AW n se le pu L g) (hP : RC P n se le pu L g) (ha : a < n) (hb : b < n) (hne : a ≠ b) (hu : u = 0 ∨ u = 1) (hm : m ≤ 5) (hlen : L.length < 20) (r2 : TR n pu (grp L) g L a b u 0) :
    ∃ P' g', X1_addString P (nI a) (nI b) u (nI m) = some (P', nI L.length) ∧ AW n se le pu (L ++ [(min a b, max a b, u, nI m)]) g' ∧ RC P' n se le pu (L ++ [(min a b, max a b, u, nI m)]) g' ∧ EQX P P' ∧ P'.2.2.1.2 1 = P.2.2.1.2 1 := by
  have hn := hA.1
  have e1 := pair1 hn hP.1.1 ha hb hne
  have e3 : X6_isIn (nI m) 0 5 = 1 := in_1 (a := 0) (b := 5) (by omega) hm (by omega)
  obtain ⟨r, r1, r3⟩ := reasonString_spec u hA hP ha hb
  have hr := r3.one r2
  subst hr
  obtain ⟨g', hA2⟩ := AW_tie (d := nI m) hA ha hb hne hu r2
  have hmi : (if nI b < nI a then nI b else nI a) = nI (min a b) := min_n (by omega) (by omega)
  have hma : (if nI a < nI b then nI b else nI a) = nI (max a b) := max_n (by omega) (by omega)
  have hapx : X3_append P.2.2.1 (nI a) (nI b) u (nI m) = ((up (up (up (up P.2.2.1.1 0 (upd (P.2.2.1.1 0) L.length (nI (min a b)))) 1 (upd (P.2.2.1.1 1) L.length (nI (max a b)))) 2 (upd (P.2.2.1.1 2) L.length u)) 3 (upd (P.2.2.1.1 3) L.length (nI m)), up P.2.2.1.2 0 (nI (L.length + 1))), nI L.length) := by
    unfold X3_append
    rw [hmi, hma]
    show ((up (up (up (up P.2.2.1.1 0 (rput 20 (P.2.2.1.1 0) (P.2.2.1.2 0) (nI (min a b)))) 1 (rput 20 (P.2.2.1.1 1) (P.2.2.1.2 0) (nI (max a b)))) 2 (rput 20 (P.2.2.1.1 2) (P.2.2.1.2 0) u)) 3 (rput 20 (P.2.2.1.1 3) (P.2.2.1.2 0) (nI m)), up P.2.2.1.2 0 (P.2.2.1.2 0 + 1)), P.2.2.1.2 0 + 1 - 1) = _
    rw [hP.2.1.1, rput_n _ _ (by omega) (by omega), rput_n _ _ (by omega) (by omega), rput_n _ _ (by omega) (by omega), rput_n _ _ (by omega) (by omega), nI_1, nI_pred]
  have hRS : RS (X3_append P.2.2.1 (nI a) (nI b) u (nI m)).1 (L ++ [(min a b, max a b, u, nI m)]) := by
    rw [hapx]
    have hl2 : (L ++ [((min a b, max a b, u, nI m) : Str4)]).length = L.length + 1 := by rw [List.length_append]; rfl
    refine ⟨by rw [hl2]; rfl, by rw [hl2]; omega, fun k hk => ?_⟩
    rw [hl2] at hk
    rw [sg_snoc _ _ _ (by omega)]
    show upd (P.2.2.1.1 0) L.length (nI (min a b)) k = _ ∧ upd (P.2.2.1.1 1) L.length (nI (max a b)) k = _ ∧ upd (P.2.2.1.1 2) L.length u k = _ ∧ upd (P.2.2.1.1 3) L.length (nI m) k = _
    rw [upd_at, upd_at, upd_at, upd_at]
    by_cases hkl : k = L.length
    · rw [if_pos hkl, if_pos hkl, if_pos hkl, if_pos hkl, if_pos hkl]
      exact ⟨rfl, rfl, rfl, rfl⟩
    · rw [if_neg hkl, if_neg hkl, if_neg hkl, if_neg hkl, if_neg hkl]
      exact hP.2.1.2.2 k (by omega)
  obtain ⟨P1, P', t0, t1, t2, t3⟩ := tell_spec (P := (P.1, P.2.1, (X3_append P.2.2.1 (nI a) (nI b) u (nI m)).1, P.2.2.2)) hA2 hP.1 hRS
  refine ⟨P', g', ?_, hA2, t2, ⟨t3.2.1 1 (by decide), t3.2.1 2 (by decide), by rw [t3.2.2]⟩, by rw [t3.2.2, hapx]; rfl⟩
  unfold X1_addString
  rw [e1, if_neg (by decide), e3, if_neg (by decide), bind_some' r1, if_pos rfl, hP.2.1.1, if_pos (show nI L.length < 20 from nI_lt (b := 20) (by omega) (by omega))]
  show Option.bind (X1_tellGroups (P.1, P.2.1, (X3_append P.2.2.1 (nI a) (nI b) u (nI m)).1, P.2.2.2)) _ = _
  rw [bind_some' t0, bind_some' t1, hapx]
theorem c_untied {P : SPar} {n a b m : Nat} {se le pu : Nat → Int32} {L : List Str4} {g : Nat → Int32} {u r : Int32} (hA : AW n se le pu L g) (hP : RC P n se le pu L g) (ha : a < n) (hb : b < n) (hne : a ≠ b) (hm : m ≤ 5) (r2 : TR n pu (grp L) g L a b u r) (hr : r ≠ 0) :
    X1_addString P (nI a) (nI b) u (nI m) = some (P, -1000002) := by
  have e1 := pair1 hA.1 hP.1.1 ha hb hne
  have e3 : X6_isIn (nI m) 0 5 = 1 := in_1 (a := 0) (b := 5) (by omega) hm (by omega)
  obtain ⟨r', r1, r3⟩ := reasonString_spec u hA hP ha hb
  have hrr := r3.one r2
  subst hrr
  unfold X1_addString
  rw [e1, if_neg (by decide), e3, if_neg (by decide), bind_some' r1, if_neg hr]
theorem c_nopair {P : SPar} {a b m n : Nat} {u : Int32} (ha2 : a < 1000) (hb2 : b < 1000) (hn : n ≤ 12) (h0 : P.2.1 0 = nI n) (h : ¬ (a < n ∧ b < n ∧ a ≠ b)) : X1_addString P (nI a) (nI b) u (nI m) = some (P, -1000001) := by
  unfold X1_addString
  rw [pair0 ha2 hb2 hn h0 h, if_pos rfl]
theorem c_nocut {P : SPar} {L : List Str4} {x : Nat} (hx : x < 1000) (hK : RS P.2.2.1 L) (h : L.length ≤ x) : X1_cutString P (nI x) = some (P, -1000001) := by
  unfold X1_cutString X3_has
  rw [hK.1, if_neg (nI_pos (by omega)), if_pos (nI_le h (by omega)), if_pos rfl]
theorem rem_loop {d : Int32} : ∀ (i : Nat) (X : List Str4) (K : SStr) (cnt : Int32) (f1 : Nat), i ≤ X.length → RS K X → i < f1 →
    ∃ K', X3_removeAllOf_L9 f1 K d cnt (nI i - 1) = some (K', cnt + cn d X i) ∧ RS K' (cdl d i X) ∧ K'.2 1 = K.2 1 + cn d X i := by
  intro i
  induction i with
  | zero =>
    intro X K cnt f1 hi hS h1
    obtain ⟨a, rfl⟩ : ∃ a, f1 = a + 1 := ⟨f1 - 1, by omega⟩
    refine ⟨K, ?_, hS, ?_⟩
    · rw [X3_removeAllOf_L9, if_pos (by decide)]
      show some (K, cnt) = some (K, cnt + 0)
      rw [Int32.add_zero]
    · show K.2 1 = K.2 1 + 0
      rw [Int32.add_zero]
  | succ i ih =>
    intro X K cnt f1 hi hS h1
    have hlen := hS.2.1
    obtain ⟨a, rfl⟩ : ∃ a, f1 = a + 1 := ⟨f1 - 1, by omega⟩
    have a3 : rget 20 (K.1 3) (nI i) = (sg X i).2.2.2 := by rw [rget_n _ (by omega) (by omega), (hS.2.2 i (by omega)).2.2.2]
    have en : nI i + (-1) = nI i - 1 := (Int32.sub_eq_add_neg _ _).symm
    have e : cn d X (i + 1) = if (sg X i).2.2.2 = d then cn d X i + 1 else cn d X i := rfl
    rw [nI_pred, X3_removeAllOf_L9, if_neg (nI_pos (by omega)), a3, e, en]
    show ∃ K', _ ∧ RS K' (cdl d i (if (sg X i).2.2.2 = d then X.eraseIdx i else X)) ∧ _
    by_cases hd : (sg X i).2.2.2 = d
    · rw [if_pos hd, if_pos hd, if_pos hd]
      obtain ⟨K1, b1, b2, b3⟩ := strs_spec hS (j := i) (by omega)
      obtain ⟨K', g1, g2, g3⟩ := ih (X.eraseIdx i) K1 (cnt + 1) a (by rw [len_erase (by omega)]; omega) b2 (by omega)
      rw [bind_some' b1]
      refine ⟨K', ?_, g2, ?_⟩
      · rw [g1, cn_erase, Int32.add_assoc, Int32.add_comm 1]
      · rw [g3, b3, cn_erase, Int32.add_assoc, Int32.add_comm 1]
    · rw [if_neg hd, if_neg hd, if_neg hd]
      exact ih X K cnt a (by omega) hS (by omega)
theorem c_deal {P : SPar} {n m : Nat} {se le pu : Nat → Int32} {L : List Str4} {g : Nat → Int32} (hA : AW n se le pu L g) (hP : RC P n se le pu L g) (hm : m ≤ 5) :
    (cn (nI m) L L.length = 0 → ∃ P', X1_cutStringsOf P (nI m) = some (P', -1000002)) ∧ (¬ cn (nI m) L L.length = 0 → ∃ P', X1_cutStringsOf P (nI m) = some (P', cn (nI m) L L.length) ∧ AW n se le pu (cdl (nI m) L.length L) g ∧ RC P' n se le pu (cdl (nI m) L.length L) g ∧ EQX P P' ∧ P'.2.2.1.2 1 = P.2.2.1.2 1 + cn (nI m) L L.length) := by
  have e3 : X6_isIn (nI m) 0 5 = 1 := in_1 (a := 0) (b := 5) (by omega) hm (by omega)
  have hlen := hP.2.1.2.1
  obtain ⟨K', b1, b2, b3⟩ := rem_loop (d := nI m) L.length L P.2.2.1 0 FUEL (Nat.le_refl _) hP.2.1 (by unfold FUEL; omega)
  rw [Int32.zero_add] at b1
  have hrem : X3_removeAllOf P.2.2.1 (nI m) = some (K', cn (nI m) L L.length) := by
    unfold X3_removeAllOf
    rw [hP.2.1.1, bind_some' b1]
  constructor
  · intro h0
    refine ⟨(P.1, P.2.1, K', P.2.2.2), ?_⟩
    unfold X1_cutStringsOf
    rw [e3, if_neg (by decide), bind_some' hrem]
    show (if cn (nI m) L L.length = 0 then _ else _) = _
    rw [if_pos h0]
  · intro h0
    have hA2 := hA.sub (L' := cdl (nI m) L.length L) cdl_mem
    obtain ⟨P1, P', t0, t1, t2, t3⟩ := tell_spec (P := (P.1, P.2.1, K', P.2.2.2)) hA2 hP.1 b2
    refine ⟨P', ?_, hA2, t2, ⟨t3.2.1 1 (by decide), t3.2.1 2 (by decide), by rw [t3.2.2]⟩, by rw [t3.2.2]; exact b3⟩
    unfold X1_cutStringsOf
    rw [e3, if_neg (by decide), bind_some' hrem]
    show (if cn (nI m) L L.length = 0 then _ else Option.bind (X1_tellGroups (P.1, P.2.1, K', P.2.2.2)) _) = _
    rw [if_neg h0, bind_some' t0, bind_some' t1]
theorem c_pull {P : SPar} {n p m sp b : Nat} {se le pu : Nat → Int32} {L : List Str4} {g : Nat → Int32} (hA : AW n se le pu L g) (hP : RC P n se le pu L g) (hp : p < n) (hm : m ≤ 1) (s2 : P.2.1 1 = nI sp) (b2 : P.2.1 2 = nI b) (hsp : sp ≤ 12) (r2 : BR n pu (grp L) g sp b p (nI m) 0) :
    ∃ P', X1_pullTo P (nI p) (nI m) = some (P', sm (fun i => P'.1 5 i * se i) n) ∧ AW n se le (upd pu p (nI m)) L (fl g (grp L) p (g p ^^^ nI m)) ∧ RC P' n se le (upd pu p (nI m)) L (fl g (grp L) p (g p ^^^ nI m)) ∧ EQX P P' ∧ P'.2.2.1.2 1 = P.2.2.1.2 1 := by
  have hn := hA.1
  have e1 := hasP1 hn hP.1.1 hp
  have e3 : X6_isIn (nI m) 0 1 = 1 := in_1 (a := 0) (b := 1) (by omega) hm (by omega)
  obtain ⟨r, r1, r3⟩ := reasonPull_spec (w := nI m) hA hP s2 b2 hsp hp
  have hrr := r3.one r2
  subst hrr
  have hfit : hpo n pu (grp L) p → g p = nI m := by
    intro z
    rcases r2 with ⟨-, a⟩ | ⟨-, -, a⟩ | ⟨-, a, -⟩
    · exact absurd a (by decide)
    · exact absurd a (by decide)
    · rcases Decidable.em (g p = nI m) with z2 | z2
      · exact z2
      · exact absurd ⟨z, z2⟩ a
  have hA2 : AW n se le (upd pu p (nI m)) L (fl g (grp L) p (g p ^^^ nI m)) := by
    refine ⟨hn, hA.2.1, fl_Pot hA.2.2.1 _ _, fun k hk => ⟨(hA.2.2.2 k hk).1, (hA.2.2.2 k hk).2.1, ?_, ?_⟩⟩
    · rw [upd_at]
      by_cases hkp : k = p
      · rw [if_pos hkp]
        exact Or.inr (bits2 hm)
      · rw [if_neg hkp]
        exact (hA.2.2.2 k hk).2.2.1
    · rw [upd_at]
      unfold fl
      by_cases hkp : k = p
      · rw [if_pos hkp, if_pos (by rw [hkp]), hkp]
        intro _
        exact xor_q
      · rw [if_neg hkp]
        intro hpk
        by_cases c : (grp L).1 k = (grp L).1 p
        · rw [if_pos c, hfit ⟨k, hk, hkp, hpk, c⟩, Int32.xor_self, Int32.xor_zero]
          exact (hA.2.2.2 k hk).2.2.2 hpk
        · rw [if_neg c]
          exact (hA.2.2.2 k hk).2.2.2 hpk
  have hRB : RB (stR P 2 (upd (P.1 2) p (nI m))) n se le (upd pu p (nI m)) := by
    refine ⟨hP.1.1, fun k hk => ⟨(hP.1.2 k hk).1, (hP.1.2 k hk).2.1, ?_⟩⟩
    show upd (P.1 2) p (nI m) k = _
    rw [upd_at, upd_at, (hP.1.2 k hk).2.2]
  obtain ⟨P', t1, t2, t3⟩ := tellV_spec hA2 hRB hP.2.1 hP.2.2.1
  refine ⟨P', ?_, hA2, t2, ⟨t3.2.1 1 (by decide), t3.2.1 2 (by decide), by rw [t3.2.2]; rfl⟩, by rw [t3.2.2]; rfl⟩
  unfold X1_pullTo
  rw [e1, if_neg (by decide), e3, if_neg (by decide), bind_some' r1, if_pos rfl, rput_n _ _ (by omega) (by omega)]
  show Option.bind (X1_tellVotes (stR P 2 (upd (P.1 2) p (nI m)))) _ = _
  rw [bind_some' t1, t2.2.2.2.2.2]
theorem c_nopull {P : SPar} {n p m sp b : Nat} {se le pu : Nat → Int32} {L : List Str4} {g : Nat → Int32} {r : Int32} (hA : AW n se le pu L g) (hP : RC P n se le pu L g) (hp : p < n) (hm : m ≤ 1) (s2 : P.2.1 1 = nI sp) (b2 : P.2.1 2 = nI b) (hsp : sp ≤ 12) (r2 : BR n pu (grp L) g sp b p (nI m) r) (hr : r ≠ 0) :
    X1_pullTo P (nI p) (nI m) = some (P, -1000002) := by
  have e1 := hasP1 hA.1 hP.1.1 hp
  have e3 : X6_isIn (nI m) 0 1 = 1 := in_1 (a := 0) (b := 1) (by omega) hm (by omega)
  obtain ⟨r', r1, r3⟩ := reasonPull_spec (w := nI m) hA hP s2 b2 hsp hp
  have hrr := r3.one r2
  subst hrr
  unfold X1_pullTo
  rw [e1, if_neg (by decide), e3, if_neg (by decide), bind_some' r1, if_neg hr]
theorem c_release {P : SPar} {n p : Nat} {se le pu : Nat → Int32} {L : List Str4} {g : Nat → Int32} (hA : AW n se le pu L g) (hP : RC P n se le pu L g) (hp : p < n) :
    (pu p = -1 → X1_letGo P (nI p) = some (P, -1000002)) ∧ (¬ pu p = -1 → ∃ P', X1_letGo P (nI p) = some (P', pu p) ∧ AW n se le (upd pu p (-1)) L g ∧ RC P' n se le (upd pu p (-1)) L g ∧ EQX P P' ∧ P'.2.2.1.2 1 = P.2.2.1.2 1) := by
  have hn := hA.1
  have e1 := hasP1 hn hP.1.1 hp
  have a2 : rget 12 (P.1 2) (nI p) = pu p := by rw [rget_n _ (by omega) (by omega), (hP.1.2 p hp).2.2]
  constructor
  · intro hpp
    unfold X1_letGo X1_isPulled
    rw [e1, if_neg (by decide), a2, if_pos hpp, if_pos rfl]
  · intro hpp
    have hA2 : AW n se le (upd pu p (-1)) L g := by
      refine ⟨hn, hA.2.1, hA.2.2.1, fun k hk => ⟨(hA.2.2.2 k hk).1, (hA.2.2.2 k hk).2.1, ?_, ?_⟩⟩
      · rw [upd_at]
        by_cases hkp : k = p
        · rw [if_pos hkp]
          exact Or.inl rfl
        · rw [if_neg hkp]
          exact (hA.2.2.2 k hk).2.2.1
      · rw [upd_at]
        by_cases hkp : k = p
        · rw [if_pos hkp]
          intro z
          exact absurd rfl z
        · rw [if_neg hkp]
          exact (hA.2.2.2 k hk).2.2.2
    have hRB : RB (stR P 2 (upd (P.1 2) p (-1))) n se le (upd pu p (-1)) := by
      refine ⟨hP.1.1, fun k hk => ⟨(hP.1.2 k hk).1, (hP.1.2 k hk).2.1, ?_⟩⟩
      show upd (P.1 2) p (-1) k = _
      rw [upd_at, upd_at, (hP.1.2 k hk).2.2]
    obtain ⟨P', t1, t2, t3⟩ := tellV_spec hA2 hRB hP.2.1 hP.2.2.1
    refine ⟨P', ?_, hA2, t2, ⟨t3.2.1 1 (by decide), t3.2.1 2 (by decide), by rw [t3.2.2]; rfl⟩, by rw [t3.2.2]; rfl⟩
    unfold X1_letGo X1_isPulled
    rw [e1, if_neg (by decide), a2, if_neg hpp, if_neg (by decide), rput_n _ _ (by omega) (by omega)]
    show Option.bind (X1_tellVotes (stR P 2 (upd (P.1 2) p (-1)))) _ = _
    rw [bind_some' t1]
theorem c_session {P : SPar} {n sp ss : Nat} {se le pu : Nat → Int32} {L : List Str4} {g : Nat → Int32} (hA : AW n se le pu L g) (hP : RC P n se le pu L g) (hsp : sp < n) (s2 : P.2.1 1 = nI sp) (e8 : P.2.2.2.2 0 = nI ss) (hss : ss < 999) :
    ∃ P', X1_holdSession P = some (P', wp (sm se n) (sm (fun i => P.1 5 i * se i) n) (P.1 5 sp)) ∧ AW n se le (fun _ => -1) L g ∧ RC P' n se le (fun _ => -1) L g ∧ P'.2.1 1 = nI ((sp + 1) % n) ∧ P'.2.1 2 = P.2.1 2 ∧
      P'.2.2.2.1 = upd (upd (upd (upd (fun k => if 4 ≤ k ∧ k < 32 then P.2.2.2.1 (k - 4) else P.2.2.2.1 k) 0 (sm (fun i => P.1 5 i * se i) n)) 1 (sm se n - sm (fun i => P.1 5 i * se i) n)) 2 (wp (sm se n) (sm (fun i => P.1 5 i * se i) n) (P.1 5 sp))) 3 (nI sp) ∧ P'.2.2.2.2 0 = nI (ss + 1) ∧ P'.2.2.2.2 1 = P.2.2.2.2 1 + wp (sm se n) (sm (fun i => P.1 5 i * se i) n) (P.1 5 sp) ∧ P'.2.2.1.2 1 = P.2.2.1.2 1 := by
  have hn := hA.1
  have hA2 : AW n se le (fun _ => -1) L g := ⟨hn, hA.2.1, hA.2.2.1, fun k hk => ⟨(hA.2.2.2 k hk).1, (hA.2.2.2 k hk).2.1, Or.inl rfl, fun z => absurd rfl z⟩⟩
  have hwp := wouldPass_spec hn hP s2 hsp
  generalize hpd : wp (sm se n) (sm (fun i => P.1 5 i * se i) n) (P.1 5 sp) = p at hwp
  generalize hyd : sm (fun i => P.1 5 i * se i) n = ye
  have hsp2 : X1_holdSession_J67 (P.1, P.2.1, P.2.2.1, upd (upd (upd (upd (fun k => if 4 ≤ k ∧ k < 32 then P.2.2.2.1 (k - 4) else P.2.2.2.1 k) 0 ye) 1 (sm se n - ye)) 2 p) 3 (nI sp), up (up P.2.2.2.2 0 (P.2.2.2.2 0 + 1)) 1 (P.2.2.2.2 1 + p)) p (nI n) (nI sp + 1) = nI ((sp + 1) % n) := by
    unfold X1_holdSession_J67
    show (if nI n ≤ nI sp + 1 then (0 : Int32) else P.2.1 1 + 1) = _
    rw [s2, nI_1]
    by_cases c : n ≤ sp + 1
    · rw [if_pos (nI_le c (by omega)), show sp + 1 = n from by omega, Nat.mod_self]
      rfl
    · rw [if_neg (nI_ge (by omega) (by omega)), Nat.mod_eq_of_lt (by omega)]
  obtain ⟨P3, hP3⟩ : ∃ P3 : SPar, P3 = stR (P.1, up P.2.1 1 (nI ((sp + 1) % n)), P.2.2.1, upd (upd (upd (upd (fun k => if 4 ≤ k ∧ k < 32 then P.2.2.2.1 (k - 4) else P.2.2.2.1 k) 0 ye) 1 (sm se n - ye)) 2 p) 3 (nI sp), up (up P.2.2.2.2 0 (P.2.2.2.2 0 + 1)) 1 (P.2.2.2.2 1 + p)) 2 (fun i => if i < n then -1 else P.1 2 i) := ⟨_, rfl⟩
  have hRB : RB P3 n se le (fun _ => -1) := by
    rw [hP3]
    refine ⟨hP.1.1, fun k hk => ⟨(hP.1.2 k hk).1, (hP.1.2 k hk).2.1, ?_⟩⟩
    show (if k < n then (-1 : Int32) else P.1 2 k) = -1
    rw [if_pos hk]
  have hRS3 : RS P3.2.2.1 L := by rw [hP3]; exact hP.2.1
  have hGR3 : GR P3 (grp L) n := by rw [hP3]; exact hP.2.2.1
  obtain ⟨P', t1, t2, t3⟩ := tellV_spec hA2 hRB hRS3 hGR3
  have hcl : X1_holdSession P = some (P', p) := by
    unfold X1_holdSession
    rw [hP.1.1, if_pos (show (0 : Int32) < nI n from nI_lt (a := 0) (by omega) (by omega)), e8, if_pos (show nI ss < 999 from nI_lt (b := 999) (by omega) (by omega)), hP.2.2.2.2.1, hP.2.2.2.2.2, hyd, hwp, s2, bind_some' (enter_spec P.2.2.2 ye (sm se n - ye) p (nI sp))]
    show Option.bind (X1_holdSession_L85 FUEL (P.1, up P.2.1 1 (X1_holdSession_J67 (P.1, P.2.1, P.2.2.1, upd (upd (upd (upd (fun k => if 4 ≤ k ∧ k < 32 then P.2.2.2.1 (k - 4) else P.2.2.2.1 k) 0 ye) 1 (sm se n - ye)) 2 p) 3 (nI sp), up (up P.2.2.2.2 0 (P.2.2.2.2 0 + 1)) 1 (P.2.2.2.2 1 + p)) p (P.2.1 0) (P.2.1 1 + 1)), P.2.2.1, upd (upd (upd (upd (fun k => if 4 ≤ k ∧ k < 32 then P.2.2.2.1 (k - 4) else P.2.2.2.1 k) 0 ye) 1 (sm se n - ye)) 2 p) 3 (nI sp), up (up P.2.2.2.2 0 (P.2.2.2.2 0 + 1)) 1 (P.2.2.2.2 1 + p)) p 0) _ = _
    rw [hP.1.1, s2, hsp2, bind_some' (clearC_spec (P := (P.1, up P.2.1 1 (nI ((sp + 1) % n)), P.2.2.1, upd (upd (upd (upd (fun k => if 4 ≤ k ∧ k < 32 then P.2.2.2.1 (k - 4) else P.2.2.2.1 k) 0 ye) 1 (sm se n - ye)) 2 p) 3 (nI sp), up (up P.2.2.2.2 0 (P.2.2.2.2 0 + 1)) 1 (P.2.2.2.2 1 + p))) p hn hP.1.1)]
    show Option.bind (X1_tellVotes (stR (P.1, up P.2.1 1 (nI ((sp + 1) % n)), P.2.2.1, upd (upd (upd (upd (fun k => if 4 ≤ k ∧ k < 32 then P.2.2.2.1 (k - 4) else P.2.2.2.1 k) 0 ye) 1 (sm se n - ye)) 2 p) 3 (nI sp), up (up P.2.2.2.2 0 (P.2.2.2.2 0 + 1)) 1 (P.2.2.2.2 1 + p)) 2 (fun i => if i < n then -1 else P.1 2 i))) _ = _
    rw [← hP3, bind_some' t1]
  refine ⟨P', hcl, hA2, t2, ?_, ?_, ?_, ?_, ?_, ?_⟩
  · rw [t3.2.1 1 (by decide), hP3]
    rfl
  · rw [t3.2.1 2 (by decide), hP3]
    rfl
  · rw [t3.2.2, hP3]
    rfl
  · rw [t3.2.2, hP3]
    show P.2.2.2.2 0 + 1 = _
    rw [e8, nI_1]
  · rw [t3.2.2, hP3]
    rfl
  · rw [t3.2.2, hP3]
    rfl
theorem c_nosession {P : SPar} (h0 : P.2.1 0 = nI 0) : X1_holdSession P = some (P, -1000002) := by
  unfold X1_holdSession
  rw [h0, if_neg (by decide)]
theorem c_set {P : SPar} {m : Nat} (hm : m ≤ 12) : X1_bindPulls P (nI m) = ((P.1, up P.2.1 2 (nI m), P.2.2.1, P.2.2.2), P.2.1 2) := by
  have e3 : X6_isIn (nI m) 0 12 = 1 := in_1 (a := 0) (b := 12) (by omega) hm (by omega)
  unfold X1_bindPulls
  rw [e3, if_neg (by decide), bnd_at]
/-! the history takes a state -/
def HC (K : SMain) : Prop := ∃ o t, o < 4 ∧ t ≤ 4 ∧ K.1 0 = nI o ∧ K.1 1 = nI t
theorem settle_c {K : SMain} {r : Int32} (hr : 0 ≤ r) (h : HC K) : ∃ K', X6_settle K r = some (K', r) ∧ HC K' ∧ K'.2.2.2.1 = K.2.2.2.2.1 := by
  obtain ⟨o, t, b1, b2, b3, b4⟩ := h
  have hE : X6_isError r = 0 := by
    unfold X6_isError
    rw [if_pos hr]
  unfold X6_settle
  rw [if_pos hE]
  by_cases h4 : t = 4
  · subst h4
    have eJ : X6_remember_J5 K 4 (K.1 1) = (up (up K.1 0 (nI ((o + 1) % 4))) 1 (nI 3), K.2) := by
      unfold X6_remember_J5
      rw [if_pos (show K.1 1 = 4 from b4)]
      show (up (up K.1 0 ((K.1 0 + 1) - (K.1 0 + 1) / 4 * 4)) 1 (up K.1 0 ((K.1 0 + 1) - (K.1 0 + 1) / 4 * 4) 1 - 1), K.2) = _
      have e9 : nI (o + 1) - nI (o + 1) / 4 * 4 = nI ((o + 1) % 4) := pk_rem (d := 4) (by omega) (by omega) (by omega)
      rw [b3, nI_1, e9]
      show (up (up K.1 0 (nI ((o + 1) % 4))) 1 (K.1 1 - 1), K.2) = _
      rw [b4]
      rfl
    unfold X6_remember
    have ep : pastIx (up (up K.1 0 (nI ((o + 1) % 4))) 1 (nI 3), K.2) (((up (up K.1 0 (nI ((o + 1) % 4))) 1 (nI 3), K.2) : SMain).1 1) = some (((o + 1) % 4 + 3) % 4) := pastIx_at rfl rfl (by omega) (by omega)
    rw [eJ, bind_some' ep]
    exact ⟨_, rfl, ⟨(o + 1) % 4, 4, by omega, by omega, rfl, rfl⟩, rfl⟩
  · have hne : ¬ K.1 1 = 4 := by
      rw [b4]
      intro z
      exact h4 ((nI_eq (b := 4) (by omega) (by omega)).mp z)
    have eJ : X6_remember_J5 K 4 (K.1 1) = K := by
      unfold X6_remember_J5
      rw [if_neg hne]
    unfold X6_remember
    rw [eJ, bind_some' (pastIx_at b3 b4 (by omega) (by omega))]
    refine ⟨_, rfl, ⟨o, t + 1, b1, by omega, b3, ?_⟩, rfl⟩
    show K.1 1 + 1 = _
    rw [b4, nI_1]
/-- what a change gives, behind settle -/
theorem outer_c {K : SMain} (P' : SPar) (r : Int32) (h : HC K) : ∃ K', X6_settle (K.1, K.2.1, K.2.2.1, K.2.2.2.1, P', K.2.2.2.2.2) r = some (K', r) ∧ HC K' ∧ (0 ≤ r → K'.2.2.2.1 = P') ∧ (r < 0 → K'.2.2.2.1 = K.2.2.2.1) := by
  by_cases hr : 0 ≤ r
  · obtain ⟨K', h1, h2, h3⟩ := settle_c (K := (K.1, K.2.1, K.2.2.1, K.2.2.2.1, P', K.2.2.2.2.2)) hr h
    exact ⟨K', h1, h2, fun _ => h3, fun z => absurd hr (Int32.not_le.mpr z)⟩
  · have hr2 : r < 0 := Int32.not_le.mp hr
    exact ⟨_, settle_err hr2, h, fun z => absurd z hr, fun _ => rfl⟩
def Out (K : SMain) (c : Option (SPar × Int32)) (mo : Option (SMain × Int32)) : Prop := ∀ P' r, c = some (P', r) → HC K → ∃ K', mo = some (K', r) ∧ HC K' ∧ (0 ≤ r → K'.2.2.2.1 = P') ∧ (r < 0 → K'.2.2.2.1 = K.2.2.2.1)
theorem out_of {K : SMain} {c : Option (SPar × Int32)} {mo : Option (SMain × Int32)} (h : ∀ P' r K', c = some (P', r) → X6_settle (K.1, K.2.1, K.2.2.1, K.2.2.2.1, P', K.2.2.2.2.2) r = some (K', r) → mo = some (K', r)) : Out K c mo := by
  intro P' r hc hK
  obtain ⟨K', h1, h2, h3, h4⟩ := outer_c P' r hK
  exact ⟨K', h P' r K' hc h1, h2, h3, h4⟩
theorem m_puppet (K : SMain) (a b : Int32) : Out K (X1_addPuppet K.2.2.2.1 a b) (X6_puppet K a b) := out_of (fun P' r K' h1 h2 => by
  unfold X6_puppet
  show Option.bind (X1_addPuppet K.2.2.2.1 a b) _ = _
  rw [bind_some' h1]
  show Option.bind (X6_settle (K.1, K.2.1, K.2.2.1, K.2.2.2.1, P', K.2.2.2.2.2) r) _ = _
  rw [bind_some' h2])
theorem m_tie (K : SMain) (a b u d : Int32) (hu : u = 0 ∨ u = 1) : Out K (X1_addString K.2.2.2.1 a b u d) (X6_tie K a b u d) := out_of (fun P' r K' h1 h2 => by
  unfold X6_tie
  rcases hu with rfl | rfl
  · show Option.bind (X1_addString K.2.2.2.1 a b 0 d) _ = _
    rw [bind_some' h1]
    show Option.bind (X6_settle (K.1, K.2.1, K.2.2.1, K.2.2.2.1, P', K.2.2.2.2.2) r) _ = _
    rw [bind_some' h2]
  · show Option.bind (X1_addString K.2.2.2.1 a b 1 d) _ = _
    rw [bind_some' h1]
    show Option.bind (X6_settle (K.1, K.2.1, K.2.2.1, K.2.2.2.1, P', K.2.2.2.2.2) r) _ = _
    rw [bind_some' h2])
theorem m_cut (K : SMain) (a : Int32) : Out K (X1_cutString K.2.2.2.1 a) (X6_cut K a) := out_of (fun P' r K' h1 h2 => by
  unfold X6_cut
  show Option.bind (X1_cutString K.2.2.2.1 a) _ = _
  rw [bind_some' h1]
  show Option.bind (X6_settle (K.1, K.2.1, K.2.2.1, K.2.2.2.1, P', K.2.2.2.2.2) r) _ = _
  rw [bind_some' h2])
theorem m_cutDeal (K : SMain) (a : Int32) : Out K (X1_cutStringsOf K.2.2.2.1 a) (X6_cutDeal K a) := out_of (fun P' r K' h1 h2 => by
  unfold X6_cutDeal
  show Option.bind (X1_cutStringsOf K.2.2.2.1 a) _ = _
  rw [bind_some' h1]
  show Option.bind (X6_settle (K.1, K.2.1, K.2.2.1, K.2.2.2.1, P', K.2.2.2.2.2) r) _ = _
  rw [bind_some' h2])
theorem m_pull (K : SMain) (a b : Int32) : Out K (X1_pullTo K.2.2.2.1 a b) (X6_pull K a b) := out_of (fun P' r K' h1 h2 => by
  unfold X6_pull
  show Option.bind (X1_pullTo K.2.2.2.1 a b) _ = _
  rw [bind_some' h1]
  show Option.bind (X6_settle (K.1, K.2.1, K.2.2.1, K.2.2.2.1, P', K.2.2.2.2.2) r) _ = _
  rw [bind_some' h2])
theorem m_release (K : SMain) (a : Int32) : Out K (X1_letGo K.2.2.2.1 a) (X6_release K a) := out_of (fun P' r K' h1 h2 => by
  unfold X6_release
  show Option.bind (X1_letGo K.2.2.2.1 a) _ = _
  rw [bind_some' h1]
  show Option.bind (X6_settle (K.1, K.2.1, K.2.2.1, K.2.2.2.1, P', K.2.2.2.2.2) r) _ = _
  rw [bind_some' h2])
theorem m_session (K : SMain) : Out K (X1_holdSession K.2.2.2.1) (X6_session K) := out_of (fun P' r K' h1 h2 => by
  unfold X6_session
  show Option.bind (X1_holdSession K.2.2.2.1) _ = _
  rw [bind_some' h1]
  show Option.bind (X6_settle (K.1, K.2.1, K.2.2.1, K.2.2.2.1, P', K.2.2.2.2.2) r) _ = _
  rw [bind_some' h2])
theorem m_set (K : SMain) (a : Int32) : Out K (some (X1_bindPulls K.2.2.2.1 a)) (X6_set K 0 a) := out_of (fun P' r K' h1 h2 => by
  have h1 := Option.some.inj h1
  unfold X6_set
  rw [if_pos rfl]
  show Option.bind (X6_settle (K.1, K.2.1, K.2.2.1, K.2.2.2.1, (X1_bindPulls K.2.2.2.1 a).1, K.2.2.2.2.2) (X1_bindPulls K.2.2.2.1 a).2) _ = _
  rw [h1]
  show Option.bind (X6_settle (K.1, K.2.1, K.2.2.1, K.2.2.2.1, P', K.2.2.2.2.2) r) _ = _
  rw [bind_some' h2])
