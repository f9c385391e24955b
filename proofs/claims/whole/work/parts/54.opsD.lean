/-! session as a change -/
theorem st_step {ρ : Type} (M : SMod) (a b : Nat → Int32) (F : SMod → Option ρ) : bnd (up (stS M a).1 0 b, (stS M a).2) F = F (stS M b) := by
  show F (stS (stS M a) b) = _
  rw [stS_up]
theorem RMBc {s s' : Nat → Int32} {n : Nat} {se le pu : Nat → Int32} {L : List Str4} (hn : n ≤ 12) (h : RMB s n se le pu L) (h3 : ∀ i, i < 116 ∨ i = 148 ∨ i = 149 → s' i = s i) : RMB s' n se le pu L := by
  obtain ⟨e1, e2, e3, e4, e5⟩ := h
  refine ⟨by rw [h3 148 (by omega), e1], fun k hk => ?_, by rw [h3 149 (by omega), e3], e4, fun k hk => ?_⟩
  · rw [h3 _ (by omega), h3 _ (by omega), h3 _ (by omega)]
    exact e2 k hk
  · rw [h3 _ (by omega), h3 _ (by omega), h3 _ (by omega), h3 _ (by omega)]
    exact e5 k hk
theorem op_session {P : SPar} {M : SMod} (hab : AB P (M.1 0)) (hW : WM M) : OPS M (X1_holdSession P) (X7_session M) := by
  obtain ⟨n, se, le, pu, L, g, hA, hP, hM, hE⟩ := hab
  have hn := hA.1
  obtain ⟨⟨sp, s1, s2, s3⟩, ⟨b, b1, b2, b3⟩, ⟨ss, e7, e8, e9, e10⟩, e11, e12, e13, e14⟩ := id hE
  have e148 : M.1 0 (Int32.toNatClampNeg 148) = nI n := hM.1
  have e151 : M.1 0 (Int32.toNatClampNeg 151) = nI ss := e9
  by_cases hn0 : n = 0
  · refine ⟨P, M, -1000002, ?_, ?_, Or.inl ⟨by decide, KeepS.rf M⟩⟩
    · unfold X1_holdSession
      rw [hP.1.1, hn0, if_neg (by decide)]
    · unfold X7_session
      rw [e148, hn0, if_pos (by decide)]
  have hsp : sp < n := by omega
  by_cases h9 : ss = 999
  · refine ⟨P, M, -1000003, ?_, ?_, Or.inl ⟨by decide, KeepS.rf M⟩⟩
    · unfold X1_holdSession
      rw [hP.1.1, if_pos (show (0 : Int32) < nI n from nI_lt (a := 0) (by omega) (by omega)), e8, h9, if_neg (by decide)]
    · unfold X7_session
      rw [e148, if_neg (nI_ne0 (by omega) (by omega)), e151, h9, if_pos (show nI 999 = 999 from rfl)]
  have hA2 : AW n se le (fun _ => -1) L g := ⟨hn, hA.2.1, hA.2.2.1, fun k hk => ⟨(hA.2.2.2 k hk).1, (hA.2.2.2 k hk).2.1, Or.inl rfl, fun z => absurd rfl z⟩⟩
  obtain ⟨Mc, c1, c2, c3⟩ := changes_spec hW
  have hs0 : Mc.1 0 = M.1 0 := c3 0 (by decide)
  obtain ⟨M5, y1, y2, y3, y4⟩ := isPassed_spec hA (by rw [hs0]; exact hM) (by rw [hs0]; exact s3) hsp
  have hs5 : M5.1 0 = M.1 0 := by rw [y2.s, hs0]
  obtain ⟨M7, z1, z2, z3, z4⟩ := votes_spec hA (M := M5) (L0 := L) (by rw [hs5]; exact hM) y3
  have hs7 : M7.1 0 = M.1 0 := by rw [z2.s, hs5]
  have hv := hP.2.2.2.1
  rw [← hv.one y4 sp hsp, ← yes_eq hv y4] at y1
  rw [← yes_eq hv z4] at z1
  have hye := yes_nat hA hv
  have hp01 := wp01 (al := sm se n) (ye := sm (fun i => P.1 5 i * se i) n) (hv.b hA sp hsp)
  have hwp := wouldPass_spec hn hP s2 hsp
  generalize hpd : wp (sm se n) (sm (fun i => P.1 5 i * se i) n) (P.1 5 sp) = p at y1 hp01 hwp
  generalize hyd : sm (fun i => P.1 5 i * se i) n = ye at z1 hye
  have hj1 : ∀ x : Int32, x = 0 ∨ x = 1 → (if x = 0 then (0 : Int32) else 1) = x := by
    rintro x (rfl | rfl) <;> decide
  -- the class
  have hsp2 : X1_holdSession_J67 (P.1, P.2.1, P.2.2.1, upd (upd (upd (upd (fun k => if 4 ≤ k ∧ k < 32 then P.2.2.2.1 (k - 4) else P.2.2.2.1 k) 0 ye) 1 (sm se n - ye)) 2 p) 3 (nI sp), up (up P.2.2.2.2 0 (P.2.2.2.2 0 + 1)) 1 (P.2.2.2.2 1 + p)) p (nI n) (nI sp + 1) = nI ((sp + 1) % n) := by
    unfold X1_holdSession_J67
    show (if nI n ≤ nI sp + 1 then (0 : Int32) else P.2.1 1 + 1) = _
    rw [s2, nI_1]
    by_cases c : n ≤ sp + 1
    · rw [if_pos (nI_le c (by omega)), show sp + 1 = n from by omega, Nat.mod_self]
      rfl
    · rw [if_neg (nI_ge (by omega) (by omega)), Nat.mod_eq_of_lt (by omega)]
  obtain ⟨P3, hP3⟩ : ∃ P3 : SPar, P3 = stR (P.1, up P.2.1 1 (nI ((sp + 1) % n)), P.2.2.1, upd (upd (upd (upd (fun k => if 4 ≤ k ∧ k < 32 then P.2.2.2.1 (k - 4) else P.2.2.2.1 k) 0 ye) 1 (sm se n - ye)) 2 p) 3 (nI sp), up (up P.2.2.2.2 0 (P.2.2.2.2 0 + 1)) 1 (P.2.2.2.2 1 + p)) 2 (fun i => if i < n then -1 else P.1 2 i) := ⟨_, rfl⟩
  have hRB : RB P3 n se le (fun _ => -1) := by
    rw [hP3]
    refine ⟨hP.1.1, fun k hk => ⟨(hP.1.2 k hk).1, (hP.1.2 k hk).2.1, ?_⟩⟩
    show (if k < n then (-1 : Int32) else P.1 2 k) = -1
    rw [if_pos hk]
  have hRS3 : RS P3.2.2.1 L := by rw [hP3]; exact hP.2.1
  have hGR3 : GR P3 (grp L) n := by rw [hP3]; exact hP.2.2.1
  obtain ⟨P', t1, t2, t3⟩ := tellV_spec hA2 hRB hRS3 hGR3
  have hcl : X1_holdSession P = some (P', p) := by
    unfold X1_holdSession
    rw [hP.1.1, if_pos (show (0 : Int32) < nI n from nI_lt (a := 0) (by omega) (by omega)), e8, if_pos (show nI ss < 999 from nI_lt (b := 999) (by omega) (by omega)), hP.2.2.2.2.1, hP.2.2.2.2.2, hyd, hwp, s2, bind_some' (enter_spec P.2.2.2 ye (sm se n - ye) p (nI sp))]
    show Option.bind (X1_holdSession_L85 FUEL (P.1, up P.2.1 1 (X1_holdSession_J67 (P.1, P.2.1, P.2.2.1, upd (upd (upd (upd (fun k => if 4 ≤ k ∧ k < 32 then P.2.2.2.1 (k - 4) else P.2.2.2.1 k) 0 ye) 1 (sm se n - ye)) 2 p) 3 (nI sp), up (up P.2.2.2.2 0 (P.2.2.2.2 0 + 1)) 1 (P.2.2.2.2 1 + p)) p (P.2.1 0) (P.2.1 1 + 1)), P.2.2.1, upd (upd (upd (upd (fun k => if 4 ≤ k ∧ k < 32 then P.2.2.2.1 (k - 4) else P.2.2.2.1 k) 0 ye) 1 (sm se n - ye)) 2 p) 3 (nI sp), up (up P.2.2.2.2 0 (P.2.2.2.2 0 + 1)) 1 (P.2.2.2.2 1 + p)) p 0) _ = _
    rw [hP.1.1, s2, hsp2, bind_some' (clearC_spec (P := (P.1, up P.2.1 1 (nI ((sp + 1) % n)), P.2.2.1, upd (upd (upd (upd (fun k => if 4 ≤ k ∧ k < 32 then P.2.2.2.1 (k - 4) else P.2.2.2.1 k) 0 ye) 1 (sm se n - ye)) 2 p) 3 (nI sp), up (up P.2.2.2.2 0 (P.2.2.2.2 0 + 1)) 1 (P.2.2.2.2 1 + p))) p hn hP.1.1)]
    show Option.bind (X1_tellVotes (stR (P.1, up P.2.1 1 (nI ((sp + 1) % n)), P.2.2.1, upd (upd (upd (upd (fun k => if 4 ≤ k ∧ k < 32 then P.2.2.2.1 (k - 4) else P.2.2.2.1 k) 0 ye) 1 (sm se n - ye)) 2 p) 3 (nI sp), up (up P.2.2.2.2 0 (P.2.2.2.2 0 + 1)) 1 (P.2.2.2.2 1 + p)) 2 (fun i => if i < n then -1 else P.1 2 i))) _ = _
    rw [← hP3, bind_some' t1]
  -- the reference
  have hshift := shift_spec M7 p ye
  obtain ⟨SH, hSH⟩ : ∃ f : Nat → Int32, f = fun i => if 120 ≤ i ∧ i < 148 then M7.1 0 (i - 4) else M7.1 0 i := ⟨_, rfl⟩
  rw [← hSH] at hshift
  have sh1 : ∀ i, i < 120 ∨ 148 ≤ i → SH i = M.1 0 i := fun i hi => by
    rw [hSH, ← hs7]
    show (if 120 ≤ i ∧ i < 148 then M7.1 0 (i - 4) else M7.1 0 i) = _
    rw [if_neg (by omega)]
  have sh2 : ∀ i, 120 ≤ i → i < 148 → SH i = M.1 0 (i - 4) := fun i h1 h2 => by
    rw [hSH, ← hs7]
    show (if 120 ≤ i ∧ i < 148 then M7.1 0 (i - 4) else M7.1 0 i) = _
    rw [if_pos ⟨h1, h2⟩]
  obtain ⟨S9, hS9⟩ : ∃ f : Nat → Int32, f = upd (upd (upd (upd (upd (upd (upd (upd SH 116 ye) 117 (sm se n - ye)) 118 p) 119 (nI sp)) 153 (nI (min (ss + 1) 8))) 151 (nI (ss + 1))) 152 (M.1 0 152 + p)) 150 (nI ((sp + 1) % n)) := ⟨_, rfl⟩
  have h9a : ∀ i, i ≠ 116 → i ≠ 117 → i ≠ 118 → i ≠ 119 → i ≠ 150 → i ≠ 151 → i ≠ 152 → i ≠ 153 → S9 i = SH i := fun i a1 a2 a3 a4 a5 a6 a7 a8 => by
    rw [hS9, pk_un a5, pk_un a7, pk_un a6, pk_un a8, pk_un a4, pk_un a3, pk_un a2, pk_un a1]
  have h148 : S9 148 = nI n := by rw [h9a 148 (by omega) (by omega) (by omega) (by omega) (by omega) (by omega) (by omega) (by omega), sh1 148 (by omega), hM.1]
  obtain ⟨S10, d1, d2, d3⟩ := clear_spec (M := stS M7 S9) p hn h148
  have d3 : ∀ i, (∀ j, j < n → i ≠ 3 * j + 2) → S10 i = S9 i := d3
  rw [stS_up] at d1
  have hd4 : ∀ i, 36 ≤ i → S10 i = S9 i := fun i hi => d3 i (fun j hj => by omega)
  have hmo : X7_session M = some (stS M7 S10, p) := by
    have hmin : nI (min ss 8) + (if (8 : Int32) ≤ nI (min ss 8) then (0 : Int32) else 1) = nI (min (ss + 1) 8) := by
      by_cases c : 8 ≤ ss
      · rw [if_pos (show (8 : Int32) ≤ nI (min ss 8) from nI_le (a := 8) (by omega) (by omega)), Int32.add_zero]
        congr 1
        omega
      · rw [if_neg (show ¬ (8 : Int32) ≤ nI (min ss 8) from nI_ge (b := 8) (by omega) (by omega)), nI_1]
        congr 1
        omega
    unfold X7_session
    rw [e148, if_neg (nI_ne0 (by omega) (by omega)), e151, if_neg (show ¬ nI ss = 999 from fun z => h9 ((nI_eq (b := 999) (by omega) (by omega)).mp z)), bind_some' c1, bind_some' y1, bind_some' z1, bind_some' hshift]
    show bnd (up (stS M7 SH).1 0 (upd SH 116 ye), (stS M7 SH).2) _ = _
    rw [st_step, bind_some' (seats_spec (M := stS M7 (upd SH 116 ye)) (se := se) (le := le) (pu := pu) (L := L) hn (RMBc hn hM (fun i hi => by rw [stS_0, pk_un (by omega), sh1 i (by omega)])))]
    show bnd (up (stS M7 (upd SH 116 ye)).1 0 (upd (upd SH 116 ye) 117 (sm se n - ye)), (stS M7 (upd SH 116 ye)).2) _ = _
    rw [st_step]
    show bnd (up (stS M7 (upd (upd SH 116 ye) 117 (sm se n - ye))).1 0 (upd (upd (upd SH 116 ye) 117 (sm se n - ye)) 118 (if p = 0 then 0 else 1)), (stS M7 (upd (upd SH 116 ye) 117 (sm se n - ye))).2) _ = _
    rw [st_step, hj1 p hp01]
    generalize hq4 : upd (upd (upd SH 116 ye) 117 (sm se n - ye)) 118 p = S4
    have q150 : S4 150 = nI sp := by rw [← hq4, pk_un (by omega), pk_un (by omega), pk_un (by omega), sh1 150 (by omega), s3]
    have q153 : S4 153 = nI (min ss 8) := by rw [← hq4, pk_un (by omega), pk_un (by omega), pk_un (by omega), sh1 153 (by omega), e10]
    have q151 : S4 151 = nI ss := by rw [← hq4, pk_un (by omega), pk_un (by omega), pk_un (by omega), sh1 151 (by omega), e9]
    have q152 : S4 152 = M.1 0 152 := by rw [← hq4, pk_un (by omega), pk_un (by omega), pk_un (by omega), sh1 152 (by omega)]
    have q148 : S4 148 = nI n := by rw [← hq4, pk_un (by omega), pk_un (by omega), pk_un (by omega), sh1 148 (by omega), hM.1]
    rw [hq4] at hS9
    show bnd (up (stS M7 S4).1 0 (upd S4 119 (S4 150)), (stS M7 S4).2) _ = _
    rw [st_step, q150]
    show bnd (up (stS M7 (upd S4 119 (nI sp))).1 0 (upd (upd S4 119 (nI sp)) 153 (upd S4 119 (nI sp) 153 + (if (8 : Int32) ≤ upd S4 119 (nI sp) 153 then 0 else 1))), (stS M7 (upd S4 119 (nI sp))).2) _ = _
    rw [st_step, pk_un (show 153 ≠ 119 by decide), q153, hmin]
    show bnd (up (stS M7 (upd (upd S4 119 (nI sp)) 153 (nI (min (ss + 1) 8)))).1 0 (upd (upd (upd S4 119 (nI sp)) 153 (nI (min (ss + 1) 8))) 151 (upd (upd S4 119 (nI sp)) 153 (nI (min (ss + 1) 8)) 151 + 1)), (stS M7 (upd (upd S4 119 (nI sp)) 153 (nI (min (ss + 1) 8)))).2) _ = _
    rw [st_step, pk_un (show 151 ≠ 153 by decide), pk_un (show 151 ≠ 119 by decide), q151, nI_1]
    show bnd (up (stS M7 (upd (upd (upd S4 119 (nI sp)) 153 (nI (min (ss + 1) 8))) 151 (nI (ss + 1)))).1 0 (upd (upd (upd (upd S4 119 (nI sp)) 153 (nI (min (ss + 1) 8))) 151 (nI (ss + 1))) 152 (upd (upd (upd S4 119 (nI sp)) 153 (nI (min (ss + 1) 8))) 151 (nI (ss + 1)) 152 + (if p = 0 then 0 else 1))), (stS M7 (upd (upd (upd S4 119 (nI sp)) 153 (nI (min (ss + 1) 8))) 151 (nI (ss + 1)))).2) _ = _
    rw [st_step, pk_un (show 152 ≠ 151 by decide), pk_un (show 152 ≠ 153 by decide), pk_un (show 152 ≠ 119 by decide), q152, hj1 p hp01]
    generalize hq8 : upd (upd (upd (upd S4 119 (nI sp)) 153 (nI (min (ss + 1) 8))) 151 (nI (ss + 1))) 152 (M.1 0 152 + p) = S8
    rw [hq8] at hS9
    have w148 : S8 148 = nI n := by rw [← hq8, pk_un (by omega), pk_un (by omega), pk_un (by omega), pk_un (by omega), q148]
    have w150 : S8 150 = nI sp := by rw [← hq8, pk_un (by omega), pk_un (by omega), pk_un (by omega), pk_un (by omega), q150]
    show (if ¬ S8 148 = 0 then bnd (up (stS M7 S8).1 0 (upd S8 150 ((S8 150 + 1) - (S8 150 + 1) / S8 148 * S8 148)), (stS M7 S8).2) _ else none) = _
    rw [w148, w150, if_pos (nI_ne0 (by omega) (by omega)), nI_1, pk_rem (by omega) (by omega) (by omega), st_step, ← hS9, bind_some' d1]
    show (if p = 0 then some (stS M7 S10, 0) else some (stS M7 S10, 1)) = _
    rcases hp01 with e | e
    · rw [e, if_pos rfl]
    · rw [e, if_neg (by decide)]
  refine ⟨P', stS M7 S10, p, hcl, hmo, Or.inr ⟨by rcases hp01 with e | e <;> rw [e] <;> decide, ⟨n, se, le, _, L, g, hA2, t2, ?_, ?_⟩, c2.r ((y2.k0.tr z2.k0).tr (stS_k M7 _))⟩⟩
  · rw [stS_0]
    refine ⟨by rw [hd4 148 (by omega), h148], fun k hk => ?_, by rw [hd4 149 (by omega), h9a 149 (by omega) (by omega) (by omega) (by omega) (by omega) (by omega) (by omega) (by omega), sh1 149 (by omega), hM.2.2.1], hM.2.2.2.1, fun k hk => ?_⟩
    · rw [d2 k hk, d3 (3 * k) (fun j hj => by omega), d3 (3 * k + 1) (fun j hj => by omega), h9a (3 * k) (by omega) (by omega) (by omega) (by omega) (by omega) (by omega) (by omega) (by omega), h9a (3 * k + 1) (by omega) (by omega) (by omega) (by omega) (by omega) (by omega) (by omega) (by omega), sh1 (3 * k) (by omega), sh1 (3 * k + 1) (by omega)]
      exact ⟨(hM.2.1 k hk).1, (hM.2.1 k hk).2.1, show (0 : Int32) = -1 + 1 by decide⟩
    · have hlen := hM.2.2.2.1
      have hh : ∀ c, c < 4 → S10 (36 + 4 * k + c) = M.1 0 (36 + 4 * k + c) := fun c hc => by
        rw [hd4 _ (by omega), h9a _ (by omega) (by omega) (by omega) (by omega) (by omega) (by omega) (by omega) (by omega), sh1 _ (by omega)]
      have hh0 := hh 0 (by omega)
      rw [Nat.add_zero] at hh0
      rw [hh0, hh 1 (by omega), hh 2 (by omega), hh 3 (by omega)]
      exact hM.2.2.2.2 k hk
  · refine EX.v ?_ t3
    rw [stS_0, hP3]
    have hmod := Nat.mod_lt (sp + 1) (show 0 < n by omega)
    refine ⟨⟨(sp + 1) % n, Or.inl hmod, rfl, by rw [hd4 150 (by omega), hS9, pk_us]⟩, ⟨b, b1, b2, ?_⟩, ⟨ss + 1, by omega, ?_, ?_, ?_⟩, ?_, fun k hk => ?_, ?_, fun k h1 h2 => ?_⟩
    · rw [hd4 155 (by omega), h9a 155 (by omega) (by omega) (by omega) (by omega) (by omega) (by omega) (by omega) (by omega), sh1 155 (by omega), b3]
    · show P.2.2.2.2 0 + 1 = _
      rw [e8, nI_1]
    · rw [hd4 151 (by omega), hS9, pk_un (by omega), pk_un (by omega), pk_us]
    · rw [hd4 153 (by omega), hS9, pk_un (by omega), pk_un (by omega), pk_un (by omega), pk_us]
    · show P.2.2.2.2 1 + p = _
      rw [e11, hd4 152 (by omega), hS9, pk_un (by omega), pk_us]
    · rw [hd4 _ (by omega)]
      show upd (upd (upd (upd (fun k => if 4 ≤ k ∧ k < 32 then P.2.2.2.1 (k - 4) else P.2.2.2.1 k) 0 ye) 1 (sm se n - ye)) 2 p) 3 (nI sp) k = _
      rcases (by omega : k = 0 ∨ k = 1 ∨ k = 2 ∨ k = 3 ∨ 4 ≤ k) with rfl | rfl | rfl | rfl | h4
      · rw [hS9, pk_un (by omega), pk_un (by omega), pk_un (by omega), pk_us, pk_un (by omega), pk_un (by omega), pk_un (by omega), pk_un (by omega), pk_un (by omega), pk_un (by omega), pk_un (by omega), pk_us]
      · rw [hS9, pk_un (by omega), pk_un (by omega), pk_us, pk_un (by omega), pk_un (by omega), pk_un (by omega), pk_un (by omega), pk_un (by omega), pk_un (by omega), pk_us]
      · rw [hS9, pk_un (by omega), pk_us, pk_un (by omega), pk_un (by omega), pk_un (by omega), pk_un (by omega), pk_un (by omega), pk_us]
      · rw [hS9, pk_us, pk_un (by omega), pk_un (by omega), pk_un (by omega), pk_un (by omega), pk_us]
      · rw [pk_un (by omega), pk_un (by omega), pk_un (by omega), pk_un (by omega), if_pos ⟨h4, hk⟩, h9a _ (by omega) (by omega) (by omega) (by omega) (by omega) (by omega) (by omega) (by omega), sh2 _ (by omega) (by omega), e12 _ (by omega), show 116 + k - 4 = 116 + (k - 4) from by omega]
    · rw [hd4 154 (by omega), h9a 154 (by omega) (by omega) (by omega) (by omega) (by omega) (by omega) (by omega) (by omega), sh1 154 (by omega)]
      exact e13
    · rw [d3 _ (fun j hj => by omega), h9a _ (by omega) (by omega) (by omega) (by omega) (by omega) (by omega) (by omega) (by omega), sh1 _ (by omega)]
      exact e14 k h1 h2
