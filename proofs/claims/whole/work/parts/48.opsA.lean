/-! the changes of puppets and pulls -/
theorem in_01 (x a b : Int32) : X7_in x a b = 0 ∨ X7_in x a b = 1 := by
  unfold X7_in
  split
  · exact Or.inl rfl
  · split
    · exact Or.inl rfl
    · exact Or.inr rfl
theorem isP {M : SMod} {n : Nat} (h : M.1 0 148 = nI n) (x : Int32) : X7_isPuppet M x = some (X7_in x 0 (nI n - 1)) := by
  have e148 : M.1 0 (Int32.toNatClampNeg 148) = nI n := h
  unfold X7_isPuppet
  rw [e148, if_pos (in_01 _ _ _)]
theorem pupB {P : SPar} {M : SMod} {n : Nat} (hn : n ≤ 12) (hP : P.2.1 0 = nI n) (hM : M.1 0 148 = nI n) (x : Int32) : (∃ p, p < n ∧ x = nI p ∧ X1_hasPuppet P x = 1 ∧ X7_isPuppet M x = some 1) ∨ (X1_hasPuppet P x = 0 ∧ X7_isPuppet M x = some 0) := by
  have e : X1_hasPuppet P x = if x < 0 then (0 : Int32) else if nI n ≤ x then 0 else 1 := by
    unfold X1_hasPuppet
    rw [hP]
  rw [isP hM, e]
  rcases who x (n := n) (by omega) with ⟨p, h1, h2, h3, h4⟩ | ⟨h3, h4⟩
  · exact Or.inl ⟨p, h1, h2, h3, by rw [h4]⟩
  · exact Or.inr ⟨h3, by rw [h4]⟩
/-- a parliament with another row -/
def stR (K : SPar) (i : Nat) (v : Nat → Int32) : SPar := (up K.1 i v, K.2)
/-- the reference with another account -/
def stS (M : SMod) (s : Nat → Int32) : SMod := (up M.1 0 s, M.2)
theorem stS_0 (M : SMod) (s : Nat → Int32) : (stS M s).1 0 = s := rfl
theorem stS_k (M : SMod) (s : Nat → Int32) : Keep0 M (stS M s) := ⟨fun i hi => up_ne M.1 s (by omega), rfl⟩
theorem stS_up (M : SMod) (s s' : Nat → Int32) : stS (stS M s) s' = stS M s' := by
  unfold stS
  rw [up_up]
def fl (g : Nat → Int32) (q : Grp) (p : Nat) (t : Int32) : Nat → Int32 := fun k => if q.1 k = q.1 p then g k ^^^ t else g k
theorem xor_s {a b t : Int32} : (a ^^^ t) ^^^ (b ^^^ t) = a ^^^ b := by
  rw [Int32.xor_comm b t, Int32.xor_assoc, ← Int32.xor_assoc t t b, Int32.xor_self, Int32.zero_xor]
theorem fl_Pot {L : List Str4} {g : Nat → Int32} (h : Pot L g) (p : Nat) (t : Int32) : Pot L (fl g (grp L) p t) := by
  intro x hx
  have e := (grp_Iv h).2 x hx
  unfold fl
  by_cases c : (grp L).1 x.1 = (grp L).1 p
  · rw [if_pos c, if_pos (by rw [← e]; exact c), xor_s]
    exact h x hx
  · rw [if_neg c, if_neg (by rw [← e]; exact c)]
    exact h x hx
theorem bits2 {m : Nat} (h : m ≤ 1) : nI m = 0 ∨ nI m = 1 := by
  rcases (by omega : m = 0 ∨ m = 1) with rfl | rfl
  · exact Or.inl rfl
  · exact Or.inr rfl
theorem op_pull {P : SPar} {M : SMod} (x w : Int32) (hab : AB P (M.1 0)) (hW : WM M) : OPS M (X1_pullTo P x w) (X7_pull M x w) := by
  obtain ⟨n, se, le, pu, L, g, hA, hP, hM, hE⟩ := hab
  have hn := hA.1
  rcases pupB hn hP.1.1 hM.1 x with ⟨p, hp, rfl, e1, e2⟩ | ⟨e1, e2⟩
  case inr =>
    refine ⟨P, M, -1000001, ?_, ?_, Or.inl ⟨by decide, KeepS.rf M⟩⟩
    · unfold X1_pullTo
      rw [e1, if_pos rfl]
    · unfold X7_pull
      rw [bind_some' e2, if_pos rfl]
  rcases inC w (a := 0) (b := 1) (by omega) (by omega) with ⟨m, -, hm, rfl, e3, e4⟩ | ⟨e3, e4⟩
  case inr =>
    have e3 : X6_isIn w 0 1 = 0 := e3
    have e4 : X7_in w 0 1 = 0 := e4
    refine ⟨P, M, -1000001, ?_, ?_, Or.inl ⟨by decide, KeepS.rf M⟩⟩
    · unfold X1_pullTo
      rw [e1, if_neg (by decide), e3, if_pos rfl]
    · unfold X7_pull
      rw [bind_some' e2, if_neg (by decide), e4, if_pos rfl]
  have e3 : X6_isIn (nI m) 0 1 = 1 := e3
  have e4 : X7_in (nI m) 0 1 = 1 := e4
  obtain ⟨⟨sp, s1, s2, s3⟩, ⟨b, b1, b2, b3⟩, -⟩ := id hE
  obtain ⟨r, r1, r2⟩ := reasonPull_spec (w := nI m) hA hP s2 b2 (by omega) hp
  obtain ⟨M1, r', q1, q2, q3⟩ := barred_spec (w := nI m) hA hM s3 b3 (by omega) hp
  have hrr := r2.one q3
  subst hrr
  by_cases hr : r = 0
  case neg =>
    refine ⟨P, M1, -1000002, ?_, ?_, Or.inl ⟨by decide, q2⟩⟩
    · unfold X1_pullTo
      rw [e1, if_neg (by decide), e3, if_neg (by decide), bind_some' r1, if_neg hr]
    · unfold X7_pull
      rw [bind_some' e2, if_neg (by decide), e4, if_neg (by decide), bind_some' q1, if_neg]
      rcases r2.c with e | e | e | e
      · exact absurd e hr
      · subst e; exact (show ¬ (1 : Int32) ≤ 0 by decide)
      · subst e; exact (show ¬ (2 : Int32) ≤ 0 by decide)
      · subst e; exact (show ¬ (3 : Int32) ≤ 0 by decide)
  subst hr
  have hfit : hpo n pu (grp L) p → g p = nI m := by
    intro z
    rcases r2 with ⟨-, a⟩ | ⟨-, -, a⟩ | ⟨-, a, -⟩
    · exact absurd a (by decide)
    · exact absurd a (by decide)
    · rcases Decidable.em (g p = nI m) with z2 | z2
      · exact z2
      · exact absurd ⟨z, z2⟩ a
  have hA2 : AW n se le (upd pu p (nI m)) L (fl g (grp L) p (g p ^^^ nI m)) := by
    refine ⟨hn, hA.2.1, fl_Pot hA.2.2.1 _ _, fun k hk => ⟨(hA.2.2.2 k hk).1, (hA.2.2.2 k hk).2.1, ?_, ?_⟩⟩
    · rw [upd_at]
      by_cases hkp : k = p
      · rw [if_pos hkp]
        exact Or.inr (bits2 hm)
      · rw [if_neg hkp]
        exact (hA.2.2.2 k hk).2.2.1
    · rw [upd_at]
      unfold fl
      by_cases hkp : k = p
      · rw [if_pos hkp, if_pos (by rw [hkp]), hkp]
        intro _
        exact xor_q
      · rw [if_neg hkp]
        intro hpk
        by_cases c : (grp L).1 k = (grp L).1 p
        · rw [if_pos c, hfit ⟨k, hk, hkp, hpk, c⟩, Int32.xor_self, Int32.xor_zero]
          exact (hA.2.2.2 k hk).2.2.2 hpk
        · rw [if_neg c]
          exact (hA.2.2.2 k hk).2.2.2 hpk
  have hRB : RB (stR P 2 (upd (P.1 2) p (nI m))) n se le (upd pu p (nI m)) := by
    refine ⟨hP.1.1, fun k hk => ⟨(hP.1.2 k hk).1, (hP.1.2 k hk).2.1, ?_⟩⟩
    show upd (P.1 2) p (nI m) k = _
    rw [upd_at, upd_at, (hP.1.2 k hk).2.2]
  obtain ⟨P', t1, t2, t3⟩ := tellV_spec hA2 hRB hP.2.1 hP.2.2.1
  obtain ⟨Mc, c1, c2, c3⟩ := changes_spec (hW.k q2)
  have hs0 : Mc.1 0 = M.1 0 := by rw [c3 0 (by decide), q2.s]
  have hM2 : RMB ((stS Mc (upd (Mc.1 0) (3 * p + 2) (nI m + 1))).1 0) n se le (upd pu p (nI m)) L := by
    rw [stS_0, hs0]
    refine RMBp hM ?_ (fun k hk => ?_) (fun i h1 h2 h3 => ?_)
    · rw [pk_un (by omega)]
      exact hM.1
    · rw [pk_un (by omega), pk_un (by omega), upd_at, upd_at]
      refine ⟨(hM.2.1 k hk).1, (hM.2.1 k hk).2.1, ?_⟩
      by_cases hkp : k = p
      · rw [if_pos (by omega), if_pos hkp]
      · rw [if_neg (by omega), if_neg hkp]
        exact (hM.2.1 k hk).2.2
    · rw [pk_un (by omega)]
  obtain ⟨M', y1, y2, y3, y4⟩ := yesNow_spec hA2 hM2
  obtain ⟨j, j1, j2⟩ := yes_nat hA2 y4
  have hE2 : EX P' (M'.1 0) n := by
    refine EX.v ?_ t3
    rw [y2.s, stS_0, hs0]
    refine EXc hE rfl rfl rfl ?_ (fun i h1 h2 h3 h4 h5 => ?_) (fun k h1 h2 => ?_) (Nat.le_refl n)
    · rw [pk_un (by omega)]
      exact hE.2.2.2.2.2.1
    · rw [pk_un (by omega)]
    · rw [pk_un (by omega)]
      exact hE.2.2.2.2.2.2 k h1 h2
  refine ⟨P', M', sm (fun i => M'.1 6 i * se i) n, ?_, ?_, Or.inr ⟨by rw [j2]; exact nI_pos' (by omega), ⟨n, se, le, _, L, _, hA2, t2, by rw [y2.s]; exact hM2, hE2⟩, CH.l q2 (c2.r ((stS_k Mc _).tr y2.k0))⟩⟩
  · unfold X1_pullTo
    rw [e1, if_neg (by decide), e3, if_neg (by decide), bind_some' r1, if_pos rfl, rput_n _ _ (by omega) (by omega)]
    show Option.bind (X1_tellVotes (stR P 2 (upd (P.1 2) p (nI m)))) _ = _
    rw [bind_some' t1, t2.2.2.2.2.2, yes_eq t2.2.2.2.1 y4]
  · unfold X7_pull
    rw [bind_some' e2, if_neg (by decide), e4, if_neg (by decide), bind_some' q1, if_pos (show (0 : Int32) ≤ 0 by decide), bind_some' c1, show 3 * nI p + (2 : Int32) = nI (3 * p + 2) from ix3 p 2, if_pos (ixg (by omega) (by omega)), nI_clamp (by omega)]
    show Option.bind (X7_yesNow (stS Mc (upd (Mc.1 0) (3 * p + 2) (nI m + 1)))) _ = _
    rw [bind_some' y1]
theorem op_release {P : SPar} {M : SMod} (x : Int32) (hab : AB P (M.1 0)) (hW : WM M) : OPS M (X1_letGo P x) (X7_release M x) := by
  obtain ⟨n, se, le, pu, L, g, hA, hP, hM, hE⟩ := hab
  have hn := hA.1
  rcases pupB hn hP.1.1 hM.1 x with ⟨p, hp, rfl, e1, e2⟩ | ⟨e1, e2⟩
  case inr =>
    refine ⟨P, M, -1000001, ?_, ?_, Or.inl ⟨by decide, KeepS.rf M⟩⟩
    · unfold X1_letGo
      rw [e1, if_pos rfl]
    · unfold X7_release
      rw [bind_some' e2, if_pos rfl]
  have a2 : rget 12 (P.1 2) (nI p) = pu p := by rw [rget_n _ (by omega) (by omega), (hP.1.2 p hp).2.2]
  have m2 : X7_of M (nI p) 2 = some (pu p + 1) := by rw [← (hM.2.1 p hp).2.2]; exact of_spec M (k := p) (c := 2) (by omega)
  have hp3 := (hA.2.2.2 p hp).2.2.1
  have hp0 : pu p + 1 = 0 ↔ pu p = -1 := by
    rcases hp3 with e | e | e <;> rw [e] <;> decide
  by_cases hpp : pu p = -1
  · refine ⟨P, M, -1000002, ?_, ?_, Or.inl ⟨by decide, KeepS.rf M⟩⟩
    · unfold X1_letGo X1_isPulled
      rw [e1, if_neg (by decide), a2, if_pos hpp, if_pos rfl]
    · unfold X7_release
      rw [bind_some' e2, if_neg (by decide), bind_some' m2, if_pos (hp0.mpr hpp)]
  have hA2 : AW n se le (upd pu p (-1)) L g := by
    refine ⟨hn, hA.2.1, hA.2.2.1, fun k hk => ⟨(hA.2.2.2 k hk).1, (hA.2.2.2 k hk).2.1, ?_, ?_⟩⟩
    · rw [upd_at]
      by_cases hkp : k = p
      · rw [if_pos hkp]
        exact Or.inl rfl
      · rw [if_neg hkp]
        exact (hA.2.2.2 k hk).2.2.1
    · rw [upd_at]
      by_cases hkp : k = p
      · rw [if_pos hkp]
        intro z
        exact absurd rfl z
      · rw [if_neg hkp]
        exact (hA.2.2.2 k hk).2.2.2
  have hRB : RB (stR P 2 (upd (P.1 2) p (-1))) n se le (upd pu p (-1)) := by
    refine ⟨hP.1.1, fun k hk => ⟨(hP.1.2 k hk).1, (hP.1.2 k hk).2.1, ?_⟩⟩
    show upd (P.1 2) p (-1) k = _
    rw [upd_at, upd_at, (hP.1.2 k hk).2.2]
  obtain ⟨P', t1, t2, t3⟩ := tellV_spec hA2 hRB hP.2.1 hP.2.2.1
  obtain ⟨Mc, c1, c2, c3⟩ := changes_spec hW
  have hs0 : Mc.1 0 = M.1 0 := c3 0 (by decide)
  have m3 : X7_of Mc (nI p) 2 = some (pu p + 1) := by rw [← (hM.2.1 p hp).2.2, ← hs0]; exact of_spec Mc (k := p) (c := 2) (by omega)
  have hM2 : RMB ((stS Mc (upd (Mc.1 0) (3 * p + 2) 0)).1 0) n se le (upd pu p (-1)) L := by
    rw [stS_0, hs0]
    refine RMBp hM ?_ (fun k hk => ?_) (fun i h1 h2 h3 => ?_)
    · rw [pk_un (by omega)]
      exact hM.1
    · rw [pk_un (by omega), pk_un (by omega), upd_at, upd_at]
      refine ⟨(hM.2.1 k hk).1, (hM.2.1 k hk).2.1, ?_⟩
      by_cases hkp : k = p
      · rw [if_pos (by omega), if_pos hkp]
        rfl
      · rw [if_neg (by omega), if_neg hkp]
        exact (hM.2.1 k hk).2.2
    · rw [pk_un (by omega)]
  have hE2 : EX P' ((stS Mc (upd (Mc.1 0) (3 * p + 2) 0)).1 0) n := by
    refine EX.v ?_ t3
    rw [stS_0, hs0]
    refine EXc hE rfl rfl rfl ?_ (fun i h1 h2 h3 h4 h5 => ?_) (fun k h1 h2 => ?_) (Nat.le_refl n)
    · rw [pk_un (by omega)]
      exact hE.2.2.2.2.2.1
    · rw [pk_un (by omega)]
    · rw [pk_un (by omega)]
      exact hE.2.2.2.2.2.2 k h1 h2
  refine ⟨P', stS Mc (upd (Mc.1 0) (3 * p + 2) 0), pu p, ?_, ?_, Or.inr ⟨by rcases p01 hp3 hpp with e | e <;> rw [e] <;> decide, ⟨n, se, le, _, L, _, hA2, t2, hM2, hE2⟩, c2.r (stS_k Mc _)⟩⟩
  · unfold X1_letGo X1_isPulled
    rw [e1, if_neg (by decide), a2, if_neg hpp, if_neg (by decide), rput_n _ _ (by omega) (by omega)]
    show Option.bind (X1_tellVotes (stR P 2 (upd (P.1 2) p (-1)))) _ = _
    rw [bind_some' t1]
  · unfold X7_release
    rw [bind_some' e2, if_neg (by decide), bind_some' m2, if_neg (fun z => hpp (hp0.mp z)), bind_some' c1, bind_some' m3, show 3 * nI p + (2 : Int32) = nI (3 * p + 2) from ix3 p 2, if_pos (ixg (by omega) (by omega)), nI_clamp (by omega)]
    have e9 : pu p + 1 - 1 = pu p := by
      rcases hp3 with e | e | e <;> rw [e] <;> decide
    rw [e9]
    rfl
theorem op_set {P : SPar} {M : SMod} (v : Int32) (hab : AB P (M.1 0)) (hW : WM M) : OPS M (some (X1_bindPulls P v)) (X7_set M 0 v) := by
  obtain ⟨n, se, le, pu, L, g, hA, hP, hM, hE⟩ := hab
  have hn := hA.1
  rcases inC v (a := 0) (b := 12) (by omega) (by omega) with ⟨m, -, hm, rfl, e3, e4⟩ | ⟨e3, e4⟩
  case inr =>
    have e3 : X6_isIn v 0 12 = 0 := e3
    have e4 : X7_in v 0 12 = 0 := e4
    refine ⟨P, M, -1000001, ?_, ?_, Or.inl ⟨by decide, KeepS.rf M⟩⟩
    · unfold X1_bindPulls
      rw [e3, if_pos rfl]
    · unfold X7_set
      rw [if_pos rfl, e4, if_pos rfl]
  have e3 : X6_isIn (nI m) 0 12 = 1 := e3
  have e4 : X7_in (nI m) 0 12 = 1 := e4
  obtain ⟨Mc, c1, c2, c3⟩ := changes_spec hW
  have hs0 : Mc.1 0 = M.1 0 := c3 0 (by decide)
  obtain ⟨⟨sp, s1, s2, s3⟩, ⟨b, b1, b2, b3⟩, ⟨ss, e7, e8, e9, e10⟩, e11, e12, e13, e14⟩ := hE
  refine ⟨(P.1, up P.2.1 2 (nI m), P.2.2.1, P.2.2.2), stS Mc (upd (Mc.1 0) 155 (nI m)), nI b, ?_, ?_, Or.inr ⟨nI_pos' (by omega), ⟨n, se, le, pu, L, g, hA, ?_, ?_, ?_⟩, c2.r (stS_k Mc _)⟩⟩
  · unfold X1_bindPulls
    rw [e3, if_neg (by decide), b2]
    rfl
  · unfold X7_set
    have e155 : Mc.1 0 (Int32.toNatClampNeg 155) = nI b := by rw [hs0]; exact b3
    rw [if_pos rfl, e4, if_neg (by decide), bind_some' c1, e155]
    rfl
  · exact ⟨⟨hP.1.1, hP.1.2⟩, hP.2.1, hP.2.2.1, hP.2.2.2.1, hP.2.2.2.2.1, hP.2.2.2.2.2⟩
  · rw [stS_0, hs0]
    refine RMBp hM ?_ (fun k hk => ?_) (fun i h1 h2 h3 => ?_)
    · rw [pk_un (by omega)]
      exact hM.1
    · rw [pk_un (by omega), pk_un (by omega), pk_un (by omega)]
      exact hM.2.1 k hk
    · rw [pk_un (by omega)]
  · rw [stS_0, hs0]
    refine ⟨⟨sp, s1, s2, by rw [pk_un (by omega), s3]⟩, ⟨m, hm, rfl, by rw [pk_us]⟩, ⟨ss, e7, e8, by rw [pk_un (by omega), e9], by rw [pk_un (by omega), e10]⟩, by rw [pk_un (by omega)]; exact e11, fun k hk => by rw [pk_un (by omega)]; exact e12 k hk, by rw [pk_un (by omega)]; exact e13, fun k h1 h2 => by rw [pk_un (by omega)]; exact e14 k h1 h2⟩
theorem op_puppet {P : SPar} {M : SMod} (x w : Int32) (hab : AB P (M.1 0)) (hW : WM M) : OPS M (X1_addPuppet P x w) (X7_puppet M x w) := by
  obtain ⟨n, se, le, pu, L, g, hA, hP, hM, hE⟩ := hab
  have hn := hA.1
  rcases inC x (a := 1) (b := 9) (by omega) (by omega) with ⟨j, hj1, hj2, rfl, e1, e2⟩ | ⟨e1, e2⟩
  case inr =>
    have e1 : X6_isIn x 1 9 = 0 := e1
    have e2 : X7_in x 1 9 = 0 := e2
    refine ⟨P, M, -1000001, ?_, ?_, Or.inl ⟨by decide, KeepS.rf M⟩⟩
    · unfold X1_addPuppet
      rw [e1, if_pos rfl]
    · unfold X7_puppet
      rw [e2, if_pos rfl]
  have e1 : X6_isIn (nI j) 1 9 = 1 := e1
  have e2 : X7_in (nI j) 1 9 = 1 := e2
  rcases inC w (a := 0) (b := 1) (by omega) (by omega) with ⟨m, -, hm, rfl, e3, e4⟩ | ⟨e3, e4⟩
  case inr =>
    have e3 : X6_isIn w 0 1 = 0 := e3
    have e4 : X7_in w 0 1 = 0 := e4
    refine ⟨P, M, -1000001, ?_, ?_, Or.inl ⟨by decide, KeepS.rf M⟩⟩
    · unfold X1_addPuppet
      rw [e1, if_neg (by decide), e3, if_pos rfl]
    · unfold X7_puppet
      rw [e2, if_neg (by decide), e4, if_pos rfl]
  have e3 : X6_isIn (nI m) 0 1 = 1 := e3
  have e4 : X7_in (nI m) 0 1 = 1 := e4
  have e148 : M.1 0 (Int32.toNatClampNeg 148) = nI n := hM.1
  by_cases hfull : n = 12
  · refine ⟨P, M, -1000003, ?_, ?_, Or.inl ⟨by decide, KeepS.rf M⟩⟩
    · unfold X1_addPuppet
      rw [e1, if_neg (by decide), e3, if_neg (by decide), hP.1.1, hfull, if_neg (by decide)]
    · unfold X7_puppet
      rw [e2, if_neg (by decide), e4, if_neg (by decide), e148, hfull, if_pos (show nI 12 = 12 from rfl)]
  have hA2 : AW (n + 1) (upd se n (nI j)) (upd le n (nI m)) (upd pu n (-1)) L g := by
    refine ⟨by omega, fun y hy => ?_, hA.2.2.1, fun k hk => ?_⟩
    · have := hA.2.1 y hy
      exact ⟨this.1, by omega, this.2.2⟩
    · rw [upd_at, upd_at, upd_at]
      by_cases hkn : k = n
      · rw [if_pos hkn, if_pos hkn, if_pos hkn]
        exact ⟨⟨j, hj1, hj2, rfl⟩, bits2 hm, Or.inl rfl, fun z => absurd rfl z⟩
      · rw [if_neg hkn, if_neg hkn, if_neg hkn]
        exact hA.2.2.2 k (by omega)
  have hRB : RB (up (up (up P.1 0 (upd (P.1 0) n (nI j))) 1 (upd (P.1 1) n (nI m))) 2 (upd (P.1 2) n (-1)), up P.2.1 0 (nI (n + 1)), P.2.2.1, P.2.2.2) (n + 1) (upd se n (nI j)) (upd le n (nI m)) (upd pu n (-1)) := by
    refine ⟨rfl, fun k hk => ?_⟩
    show upd (P.1 0) n (nI j) k = _ ∧ upd (P.1 1) n (nI m) k = _ ∧ upd (P.1 2) n (-1) k = _
    rw [upd_at, upd_at, upd_at, upd_at, upd_at, upd_at]
    by_cases hkn : k = n
    · rw [if_pos hkn, if_pos hkn, if_pos hkn, if_pos hkn, if_pos hkn, if_pos hkn]
      exact ⟨rfl, rfl, rfl⟩
    · rw [if_neg hkn, if_neg hkn, if_neg hkn, if_neg hkn, if_neg hkn, if_neg hkn]
      exact hP.1.2 k (by omega)
  obtain ⟨P1, P', t0, t1, t2, t3⟩ := tell_spec hA2 hRB hP.2.1
  obtain ⟨Mc, c1, c2, c3⟩ := changes_spec hW
  have hs0 : Mc.1 0 = M.1 0 := c3 0 (by decide)
  have hE' := hE
  obtain ⟨-, -, -, -, -, -, hz⟩ := hE'
  have hM2 : RMB ((stS Mc (upd (upd (upd (Mc.1 0) (3 * n) (nI j)) (3 * n + 1) (nI m)) 148 (nI (n + 1)))).1 0) (n + 1) (upd se n (nI j)) (upd le n (nI m)) (upd pu n (-1)) L := by
    rw [stS_0, hs0]
    refine RMBp hM pk_us (fun k hk => ?_) (fun i h1 h2 h3 => ?_)
    · rw [upd_at se, upd_at le, upd_at pu]
      by_cases hkn : k = n
      · subst hkn
        rw [if_pos rfl, if_pos rfl, if_pos rfl]
        refine ⟨?_, ?_, ?_⟩
        · rw [pk_un (by omega), pk_un (by omega), pk_us]
        · rw [pk_un (by omega), pk_us]
        · rw [pk_un (by omega), pk_un (by omega), pk_un (by omega), hz k (Nat.le_refl k) (by omega)]
          rfl
      · rw [if_neg hkn, if_neg hkn, if_neg hkn]
        refine ⟨?_, ?_, ?_⟩
        · rw [pk_un (by omega), pk_un (by omega), pk_un (by omega)]
          exact (hM.2.1 k (by omega)).1
        · rw [pk_un (by omega), pk_un (by omega), pk_un (by omega)]
          exact (hM.2.1 k (by omega)).2.1
        · rw [pk_un (by omega), pk_un (by omega), pk_un (by omega)]
          exact (hM.2.1 k (by omega)).2.2
    · rw [pk_un (by omega), pk_un (by omega), pk_un (by omega)]
  have hE2 : EX P' ((stS Mc (upd (upd (upd (Mc.1 0) (3 * n) (nI j)) (3 * n + 1) (nI m)) 148 (nI (n + 1)))).1 0) (n + 1) := by
    refine EX.v ?_ t3
    rw [stS_0, hs0]
    refine EXc hE rfl rfl rfl ?_ (fun i h1 h2 h3 h4 h5 => ?_) (fun k h1 h2 => ?_) (Nat.le_succ n)
    · rw [pk_un (by omega), pk_un (by omega), pk_un (by omega)]
      exact hE.2.2.2.2.2.1
    · rw [pk_un (by omega), pk_un (by omega), pk_un (by omega)]
    · rw [pk_un (by omega), pk_un (by omega), pk_un (by omega)]
      exact hE.2.2.2.2.2.2 k (by omega) h2
  refine ⟨P', stS Mc (upd (upd (upd (Mc.1 0) (3 * n) (nI j)) (3 * n + 1) (nI m)) 148 (nI (n + 1))), nI n, ?_, ?_, Or.inr ⟨nI_pos' (by omega), ⟨n + 1, _, _, _, L, _, hA2, t2, hM2, hE2⟩, c2.r (stS_k Mc _)⟩⟩
  · unfold X1_addPuppet
    rw [e1, if_neg (by decide), e3, if_neg (by decide), hP.1.1, if_pos (show nI n < 12 from nI_lt (b := 12) (by omega) (by omega)), rput_n _ _ (by omega) (by omega)]
    show Option.bind (X1_tellGroups (up (up (up P.1 0 (upd (P.1 0) n (nI j))) 1 (rput 12 (P.1 1) (P.2.1 0) (nI m))) 2 (rput 12 (P.1 2) (P.2.1 0) (-1)), up P.2.1 0 (P.2.1 0 + 1), P.2.2.1, P.2.2.2)) _ = _
    rw [hP.1.1, rput_n _ _ (by omega) (by omega), rput_n _ _ (by omega) (by omega), nI_1, bind_some' t0, bind_some' t1, t2.1.1, nI_pred]
  · unfold X7_puppet
    have f148 : Mc.1 0 (Int32.toNatClampNeg 148) = nI n := by rw [hs0]; exact hM.1
    have e12 : ¬ nI n = 12 := fun z => hfull ((nI_eq (b := 12) (by omega) (by omega)).mp z)
    rw [e2, if_neg (by decide), e4, if_neg (by decide), e148, if_neg e12, bind_some' c1, f148, show 3 * nI n + (0 : Int32) = nI (3 * n) from ix3 n 0, show 3 * nI n + (1 : Int32) = nI (3 * n + 1) from ix3 n 1, if_pos (ixg (by omega) (by omega)), nI_clamp (by omega)]
    show (if _ then _ else _) = _
    rw [if_pos (ixg (by omega) (by omega)), nI_clamp (by omega)]
    show some (stS (stS (stS Mc (upd (Mc.1 0) (3 * n) (nI j))) (upd (upd (Mc.1 0) (3 * n) (nI j)) (3 * n + 1) (nI m))) (upd (upd (upd (Mc.1 0) (3 * n) (nI j)) (3 * n + 1) (nI m)) 148 (upd (upd (Mc.1 0) (3 * n) (nI j)) (3 * n + 1) (nI m) 148 + 1)), nI n) = _
    rw [stS_up, stS_up, pk_un (by omega), pk_un (by omega), hs0, hM.1, nI_1]
