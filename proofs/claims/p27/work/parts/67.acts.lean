/-! the law's rows beside the class's parliament -/
def EL (P : SPar) (M : SLaw) (n e : Nat) : Prop :=
  (∃ sp, (sp < n ∨ (n = 0 ∧ sp = 0)) ∧ P.2.1 1 = nI sp ∧ M 3 2 = nI sp) ∧ (∃ b, b ≤ 12 ∧ P.2.1 2 = nI b ∧ M 3 7 = nI b) ∧ (∃ ss, ss ≤ e ∧ P.2.2.2.2 0 = nI ss ∧ M 3 3 = nI ss ∧ M 3 5 = nI (min ss 8)) ∧ P.2.2.2.2 1 = M 3 4 ∧ (∀ k, k < 32 → P.2.2.2.1 k = M 2 k) ∧ P.2.2.1.2 1 = M 3 6
def RP (e : Nat) (P : SPar) (M : SLaw) : Prop := ∃ n se le pu L g, AW n se le pu L g ∧ RC P n se le pu L g ∧ RL1 M n se le pu ∧ FS M L ∧ EL P M n e
def RelL (e : Nat) (K : SLM) : Prop := HC K.2 ∧ RP e K.2.2.2.2.1 K.1
theorem EL.s {P : SPar} {M : SLaw} {n e : Nat} (h : EL P M n e) : EL P M n (e + 1) := by
  obtain ⟨h1, h2, ⟨ss, s1, s2⟩, h4⟩ := h
  exact ⟨h1, h2, ⟨ss, by omega, s2⟩, h4⟩
theorem RP.s {P : SPar} {M : SLaw} {e : Nat} (h : RP e P M) : RP (e + 1) P M := by
  obtain ⟨n, se, le, pu, L, g, h1, h2, h3, h4, h5⟩ := h
  exact ⟨n, se, le, pu, L, g, h1, h2, h3, h4, h5.s⟩
theorem KG.el {M M' : SLaw} {P : SPar} {n e : Nat} (h : KG M M') (hE : EL P M n e) : EL P M' n e := by
  unfold EL
  rw [h 3 (by decide), h 2 (by decide)]
  exact hE
theorem KG.rp {M M' : SLaw} {P : SPar} {e : Nat} (h : KG M M') (hR : RP e P M) : RP e P M' := by
  obtain ⟨n, se, le, pu, L, g, h1, h2, h3, h4, h5⟩ := hR
  exact ⟨n, se, le, pu, L, g, h1, h2, h.r1 h3, h.fs h4, h.el h5⟩
/-- EL over a change that touches puppets, pulls and strings alone -/
theorem EL.x {P P' : SPar} {M M' : SLaw} {n n' e : Nat} (h : EL P M n e) (hq : EQX P P') (hn : n ≤ n') (h3 : ∀ i, i = 2 ∨ i = 3 ∨ i = 4 ∨ i = 5 ∨ i = 7 → M' 3 i = M 3 i) (h2 : M' 2 = M 2) (hc : P'.2.2.1.2 1 = M' 3 6) : EL P' M' n' e := by
  obtain ⟨⟨sp, s1, s2, s3⟩, ⟨b, b1, b2, b3⟩, ⟨ss, e7, e8, e9, e10⟩, e11, e12, -⟩ := h
  obtain ⟨q1, q2, q3⟩ := hq
  refine ⟨?_, ⟨b, b1, by rw [q2, b2], by rw [h3 7 (by decide), b3]⟩, ⟨ss, e7, by rw [q3, e8], by rw [h3 3 (by decide), e9], by rw [h3 5 (by decide), e10]⟩, by rw [q3, h3 4 (by decide), e11], fun k hk => by rw [q3, h2, e12 k hk], hc⟩
  by_cases c : sp < n'
  · exact ⟨sp, Or.inl c, by rw [q1, s2], by rw [h3 2 (by decide), s3]⟩
  · exact ⟨sp, Or.inr (by omega), by rw [q1, s2], by rw [h3 2 (by decide), s3]⟩
/-! numbers by literals -/
theorem d2e {a : Nat} (h : a < 2 ^ 31) : nI a / 2 = nI (a / 2) := pk_div (d := 2) h (by omega) (by omega)
theorem d3e {a : Nat} (h : a < 2 ^ 31) : nI a / 3 = nI (a / 3) := pk_div (d := 3) h (by omega) (by omega)
theorem d4e {a : Nat} (h : a < 2 ^ 31) : nI a / 4 = nI (a / 4) := pk_div (d := 4) h (by omega) (by omega)
theorem d5e {a : Nat} (h : a < 2 ^ 31) : nI a / 5 = nI (a / 5) := pk_div (d := 5) h (by omega) (by omega)
theorem d6e {a : Nat} (h : a < 2 ^ 31) : nI a / 6 = nI (a / 6) := pk_div (d := 6) h (by omega) (by omega)
theorem d7e {a : Nat} (h : a < 2 ^ 31) : nI a / 7 = nI (a / 7) := pk_div (d := 7) h (by omega) (by omega)
theorem d9e {a : Nat} (h : a < 2 ^ 31) : nI a / 9 = nI (a / 9) := pk_div (d := 9) h (by omega) (by omega)
theorem d12e {a : Nat} (h : a < 2 ^ 31) : nI a / 12 = nI (a / 12) := pk_div (d := 12) h (by omega) (by omega)
theorem d13e {a : Nat} (h : a < 2 ^ 31) : nI a / 13 = nI (a / 13) := pk_div (d := 13) h (by omega) (by omega)
theorem d15e {a : Nat} (h : a < 2 ^ 31) : nI a / 15 = nI (a / 15) := pk_div (d := 15) h (by omega) (by omega)
theorem d18e {a : Nat} (h : a < 2 ^ 31) : nI a / 18 = nI (a / 18) := pk_div (d := 18) h (by omega) (by omega)
theorem d144e {a : Nat} (h : a < 2 ^ 31) : nI a / 144 = nI (a / 144) := pk_div (d := 144) h (by omega) (by omega)
theorem r2e {a : Nat} (h : a < 2 ^ 31) : nI a - nI (a / 2) * 2 = nI (a % 2) := by
  rw [← d2e h]
  exact pk_rem (d := 2) h (by omega) (by omega)
theorem r3e {a : Nat} (h : a < 2 ^ 31) : nI a - nI (a / 3) * 3 = nI (a % 3) := by
  rw [← d3e h]
  exact pk_rem (d := 3) h (by omega) (by omega)
theorem r4e {a : Nat} (h : a < 2 ^ 31) : nI a - nI (a / 4) * 4 = nI (a % 4) := by
  rw [← d4e h]
  exact pk_rem (d := 4) h (by omega) (by omega)
theorem r5e {a : Nat} (h : a < 2 ^ 31) : nI a - nI (a / 5) * 5 = nI (a % 5) := by
  rw [← d5e h]
  exact pk_rem (d := 5) h (by omega) (by omega)
theorem r6e {a : Nat} (h : a < 2 ^ 31) : nI a - nI (a / 6) * 6 = nI (a % 6) := by
  rw [← d6e h]
  exact pk_rem (d := 6) h (by omega) (by omega)
theorem r9e {a : Nat} (h : a < 2 ^ 31) : nI a - nI (a / 9) * 9 = nI (a % 9) := by
  rw [← d9e h]
  exact pk_rem (d := 9) h (by omega) (by omega)
theorem r12e {a : Nat} (h : a < 2 ^ 31) : nI a - nI (a / 12) * 12 = nI (a % 12) := by
  rw [← d12e h]
  exact pk_rem (d := 12) h (by omega) (by omega)
theorem r13e {a : Nat} (h : a < 2 ^ 31) : nI a - nI (a / 13) * 13 = nI (a % 13) := by
  rw [← d13e h]
  exact pk_rem (d := 13) h (by omega) (by omega)
theorem r15e {a : Nat} (h : a < 2 ^ 31) : nI a - nI (a / 15) * 15 = nI (a % 15) := by
  rw [← d15e h]
  exact pk_rem (d := 15) h (by omega) (by omega)
theorem r18e {a : Nat} (h : a < 2 ^ 31) : nI a - nI (a / 18) * 18 = nI (a % 18) := by
  rw [← d18e h]
  exact pk_rem (d := 18) h (by omega) (by omega)
theorem a1e (k : Nat) : 1 + nI k = nI (1 + k) := nI_add 1 k
theorem u00 (K : SLaw) (v : Nat → Int32) : up K 0 v 0 = v := rfl
theorem u01 (K : SLaw) (v : Nat → Int32) : up K 0 v 1 = K 1 := rfl
theorem u02 (K : SLaw) (v : Nat → Int32) : up K 0 v 2 = K 2 := rfl
theorem u03 (K : SLaw) (v : Nat → Int32) : up K 0 v 3 = K 3 := rfl
theorem u10 (K : SLaw) (v : Nat → Int32) : up K 1 v 0 = K 0 := rfl
theorem u11 (K : SLaw) (v : Nat → Int32) : up K 1 v 1 = v := rfl
theorem u12 (K : SLaw) (v : Nat → Int32) : up K 1 v 2 = K 2 := rfl
theorem u13 (K : SLaw) (v : Nat → Int32) : up K 1 v 3 = K 3 := rfl
theorem u20 (K : SLaw) (v : Nat → Int32) : up K 2 v 0 = K 0 := rfl
theorem u21 (K : SLaw) (v : Nat → Int32) : up K 2 v 1 = K 1 := rfl
theorem u22 (K : SLaw) (v : Nat → Int32) : up K 2 v 2 = v := rfl
theorem u23 (K : SLaw) (v : Nat → Int32) : up K 2 v 3 = K 3 := rfl
theorem u30 (K : SLaw) (v : Nat → Int32) : up K 3 v 0 = K 0 := rfl
theorem u31 (K : SLaw) (v : Nat → Int32) : up K 3 v 1 = K 1 := rfl
theorem u32 (K : SLaw) (v : Nat → Int32) : up K 3 v 2 = K 2 := rfl
theorem u33 (K : SLaw) (v : Nat → Int32) : up K 3 v 3 = v := rfl
theorem nat_of {y : Int32} (h : 0 ≤ y) : ∃ Y, Y < 2 ^ 31 ∧ y = nI Y := by
  exact nI_of (Int32.not_lt.mpr h)
/-! a new puppet -/
theorem J81_new {M : SLaw} {K : SMain} {n Z : Nat} (x : Int32) (hZ : Z < 2 ^ 31) (hn : n < 12) (h0 : M 3 0 = nI n) :
    L_isActed_J81 (M, K) (nI Z) x 0 = some (up (up (up (up M 0 (upd (M 0) (3 * n) (nI (1 + Z % 9)))) 0 (upd (upd (M 0) (3 * n) (nI (1 + Z % 9))) (3 * n + 1) (nI (Z / 9 % 2)))) 0 (upd (upd (upd (M 0) (3 * n) (nI (1 + Z % 9))) (3 * n + 1) (nI (Z / 9 % 2))) (3 * n + 2) (-1))) 3 (upd (M 3) 0 (nI (n + 1))), K) := by
  unfold L_isActed_J81
  rw [if_pos rfl]
  simp (disch := omega) only [cl0, h0, m3e, nI_1, p2e, nI_clamp, gN, not_false_eq_true, ↓reduceIte, bnd_at, u00, u03, r9e, d9e, d2e, r2e, a1e]
theorem act_puppet {e W Y : Nat} {K : SLM} (h : RelL e K) (hW : W < 2) (hY : Y < 2 ^ 31) : ∃ K', L_isActed K (nI W) (nI Y) = some (K', 1) ∧ RelL (e + 1) K' := by
  obtain ⟨M, K⟩ := K
  obtain ⟨hC, n, se, le, pu, L, g, hA, hP, h1, hF, hE⟩ := h
  have hC : HC K := hC
  have hP : RC K.2.2.2.1 n se le pu L g := hP
  have h1 : RL1 M n se le pu := h1
  have hF : FS M L := hF
  have hE : EL K.2.2.2.1 M n e := hE
  have hn := hA.1
  unfold L_isActed
  rw [if_neg (show ¬ (2 : Int32) ≤ nI W from nI_ge (b := 2) hW (by omega))]
  simp (disch := omega) only [cl0, h1.1, d144e, r9e, d9e, d2e, r2e, a1e]
  generalize hZ : Y / 144 = Z
  have hZ2 : Z < 2 ^ 31 := by omega
  by_cases c : n = 12
  · have hJ : L_isActed_J69 (M, K) (nI Z) 12 (nI n) = 1 := by
      unfold L_isActed_J69
      rw [if_pos (show nI n = 12 by rw [c]; rfl)]
    have hJ2 : L_isActed_J81 (M, K) (nI Z) 1 1 = some (M, K) := by
      unfold L_isActed_J81
      rw [if_neg i10]
    obtain ⟨K', k1, k2, -, k4⟩ := m_puppet K (nI (1 + Z % 9)) (nI (Z / 9 % 2)) _ _ (c_full (P := K.2.2.2.1) (by rw [hP.1.1, c]) (by omega) (by omega) (by omega)) hC
    rw [hJ, bind_some' hJ2, bind_some' k1, bnd_at, if_neg i10, if_pos rfl]
    refine ⟨_, rfl, k2, ?_⟩
    show RP (e + 1) K'.2.2.2.1 M
    rw [k4 (by decide)]
    exact RP.s ⟨n, se, le, pu, L, g, hA, hP, h1, hF, hE⟩
  · have hJ : L_isActed_J69 (M, K) (nI Z) 12 (nI n) = 0 := by
      unfold L_isActed_J69
      rw [if_neg (show ¬ nI n = 12 from fun z => c ((nI_eq (b := 12) (by omega) (by omega)).mp z))]
    obtain ⟨P', p1, p2, p3, p4, p5⟩ := c_puppet hA hP (j := 1 + Z % 9) (m := Z / 9 % 2) (by omega) (by omega) (by omega) (by omega)
    obtain ⟨K', k1, k2, k3, -⟩ := m_puppet K (nI (1 + Z % 9)) (nI (Z / 9 % 2)) _ _ p1 hC
    rw [hJ, bind_some' (J81_new 0 hZ2 (by omega) h1.1), bind_some' k1, bnd_at, if_pos rfl]
    have e9 : nI n = upd (M 3) 0 (nI (n + 1)) 0 - 1 := by rw [pk_us, nI_pred]
    show ∃ K1, (if nI n = upd (M 3) 0 (nI (n + 1)) 0 - 1 then _ else _) = _ ∧ _
    rw [if_pos e9]
    refine ⟨_, rfl, k2, ?_⟩
    show RP (e + 1) K'.2.2.2.1 _
    rw [k3 (nI_pos' (by omega))]
    refine ⟨n + 1, _, _, _, L, g, p2, p3, ⟨rfl, fun k hk => ?_⟩, ?_, EL.s (hE.x p4 (by omega) (fun i hi => ?_) rfl ?_)⟩
    · show upd (upd (upd (M 0) (3 * n) (nI (1 + Z % 9))) (3 * n + 1) (nI (Z / 9 % 2))) (3 * n + 2) (-1) (3 * k) = _ ∧ upd (upd (upd (M 0) (3 * n) (nI (1 + Z % 9))) (3 * n + 1) (nI (Z / 9 % 2))) (3 * n + 2) (-1) (3 * k + 1) = _ ∧ upd (upd (upd (M 0) (3 * n) (nI (1 + Z % 9))) (3 * n + 1) (nI (Z / 9 % 2))) (3 * n + 2) (-1) (3 * k + 2) = _
      rw [upd_at se, upd_at le, upd_at pu]
      by_cases hkn : k = n
      · subst hkn
        rw [if_pos rfl, if_pos rfl, if_pos rfl]
        refine ⟨?_, ?_, ?_⟩
        · rw [pk_un (by omega), pk_un (by omega), pk_us]
        · rw [pk_un (by omega), pk_us]
        · rw [pk_us]
      · rw [if_neg hkn, if_neg hkn, if_neg hkn]
        rw [pk_un (by omega), pk_un (by omega), pk_un (by omega), pk_un (by omega), pk_un (by omega), pk_un (by omega), pk_un (by omega), pk_un (by omega), pk_un (by omega)]
        exact h1.2 k (by omega)
    · obtain ⟨f1, f2, f3⟩ := hF
      refine ⟨?_, f2, f3⟩
      show upd (M 3) 0 (nI (n + 1)) 1 = _
      rw [pk_un (by omega)]
      exact f1
    · show upd (M 3) 0 (nI (n + 1)) i = _
      rw [pk_un (by omega)]
    · show P'.2.2.1.2 1 = upd (M 3) 0 (nI (n + 1)) 6
      rw [pk_un (by omega), p5]
      exact hE.2.2.2.2.2
