/-! the groups' numbers on both sides -/
def GR2 (T : STrn) (M : SMod) (c : Nat) (G : Nat → Int) : Prop := T.2 0 = nI c ∧ ∀ i, i < c → (-108 ≤ G i ∧ G i ≤ 108) ∧ T.1 i = jI (2 * G i) ∧ M.1 7 i = jI (G i)
theorem collect_loops {P : SPar} {M : SMod} {n : Nat} {se le pu : Nat → Int32} {L : List Str4} {g : Nat → Int32} {sI : Nat → Int} (hA : AW n se le pu L g) (hP : RC P n se le pu L g) (hM : RMB (M.1 0) n se le pu L) (hl : LK M (grp L) n) (hv : ∀ j, j < n → M.1 6 j = P.1 5 j) (hs : ∀ k, k < n → se k = jI (sI k) ∧ 1 ≤ sI k ∧ sI k ≤ 9) :
    ∀ (d k : Nat) (T : STrn) (M1 : SMod) (c : Nat) (G : Nat → Int) (f1 f2 : Nat), k + d = n → c ≤ k → KeepG M M1 → GR2 T M1 c G → d < f1 → d < f2 →
    ∃ T' M' c' G', X5_collect_L22 f1 P T (nI k) = some T' ∧ X7_gains_L4 f2 M1 (nI c) (nI k) = some (M', nI c') ∧ c' ≤ n ∧ KeepG M M' ∧ GR2 T' M' c' G' ∧ T'.2 1 = T.2 1 := by
  have hn := hA.1
  have hq := hA.q
  intro d
  induction d with
  | zero =>
    intro k T M1 c G f1 f2 hd hc hk hg h1 h2
    obtain ⟨q1, rfl⟩ : ∃ q, f1 = q + 1 := ⟨f1 - 1, by omega⟩
    obtain ⟨q2, rfl⟩ : ∃ q, f2 = q + 1 := ⟨f2 - 1, by omega⟩
    have e148 : M1.1 0 (Int32.toNatClampNeg 148) = nI n := by rw [hk.1 0 (by decide)]; exact hM.1
    have hkn : k = n := by omega
    subst hkn
    refine ⟨T, M1, c, G, ?_, ?_, hc, hk, hg, rfl⟩
    · rw [X5_collect_L22, hP.1.1, if_pos (nI_le (Nat.le_refl _) (by omega))]
    · rw [X7_gains_L4, e148, if_pos (nI_le (Nat.le_refl _) (by omega))]
  | succ d ih =>
    intro k T M1 c G f1 f2 hd hc hk hg h1 h2
    obtain ⟨q1, rfl⟩ : ∃ q, f1 = q + 1 := ⟨f1 - 1, by omega⟩
    obtain ⟨q2, rfl⟩ : ∃ q, f2 = q + 1 := ⟨f2 - 1, by omega⟩
    have hkn : k < n := by omega
    have hs0 : M1.1 0 = M.1 0 := hk.1 0 (by decide)
    have e148 : M1.1 0 (Int32.toNatClampNeg 148) = nI n := by rw [hs0]; exact hM.1
    have hl1 : LK M1 (grp L) n := fun j hj => by rw [hk.1 4 (by decide), hk.1 5 (by decide)]; exact hl j hj
    have hv1 : ∀ j, j < n → M1.1 6 j = P.1 5 j := fun j hj => by rw [hk.1 6 (by decide)]; exact hv j hj
    have qk := hq.1 k
    have hmem := membersOf_spec hn hP.1.1 hP.2.2.1 hq.1 (show k < 12 by omega)
    by_cases hs1 : (grp L).1 k = k
    · have hne : ¬ gs (fun j => decide ((grp L).1 j = k)) n = 0 := by
        intro z
        have hb : bt (gs (fun j => decide ((grp L).1 j = k)) n) k = true := by
          rw [gs_bt hn, decide_eq_true hkn, decide_eq_true hs1]
          rfl
        rw [z, bt_zero] at hb
        exact absurd hb (by decide)
      obtain ⟨u1, u2, a1, a2, a3⟩ := gainC_spec (k := k) hA hP (fun k hk => (hs k hk).1)
      obtain ⟨M2, b1, b2⟩ := gainM_spec (M := M1) (k := k) (c := c) (q := grp L) (v := P.1 5) (sI := sI) (se := se) (le := le) (pu := pu) (L := L) hn (by rw [hs0]; exact hM) hl1 hq.1 hv1 (fun k hk => (hs k hk).1) hkn (by omega)
      subst b2
      have hbd := smI_bd (f := GI n (grp L) (P.1 5) sI k) (B := 9) (by omega) (n := n) (fun j hj => by
        unfold GI
        have h9 := hs j hj
        split
        · split <;> omega
        · omega)
      have hn2 : (9 : Int) * (n : Int) ≤ 108 := by omega
      have hyv := yesVoters_spec hn hP.1.1 (fun k hk => hP.2.2.2.1.b hA k hk)
      obtain ⟨T', M', c', G', x1, x2, x3, x4, x5, x6⟩ := ih (k + 1) (upd T.1 c (jI (2 * smI (GI n (grp L) (P.1 5) sI k) n)), up T.2 0 (nI (c + 1))) (sm7 M1 (upd (M1.1 7) c (jI (smI (GI n (grp L) (P.1 5) sI k) n)))) (c + 1) (fun i => if i = c then smI (GI n (grp L) (P.1 5) sI k) n else G i) q1 q2 (by omega) (by omega) (hk.tr (sm7_k M1 _)) ⟨rfl, fun i hi => by
        show (-108 ≤ (if i = c then _ else G i) ∧ (if i = c then _ else G i) ≤ 108) ∧ upd T.1 c _ i = jI (2 * if i = c then _ else G i) ∧ upd (M1.1 7) c _ i = jI (if i = c then _ else G i)
        rw [upd_at, upd_at]
        by_cases hic : i = c
        · rw [if_pos hic, if_pos hic, if_pos hic]
          exact ⟨⟨by omega, by omega⟩, rfl, rfl⟩
        · rw [if_neg hic, if_neg hic, if_neg hic]
          exact hg.2 i (by omega)⟩ (by omega) (by omega)
      refine ⟨T', M', c', G', ?_, ?_, x3, x4, x5, x6⟩
      · rw [X5_collect_L22, hP.1.1, if_neg (nI_ge hkn (by omega)), bind_some' hmem, if_neg hne, bind_some' hyv, bind_some' a1, bind_some' a2, a3, hg.1, rput_n _ _ (by omega) (by omega)]
        show X5_collect_L22 q1 P (upd T.1 c (jI (2 * smI (GI n (grp L) (P.1 5) sI k) n)), up T.2 0 (T.2 0 + 1)) (nI k + 1) = _
        rw [hg.1, nI_1, nI_1, x1]
      · rw [X7_gains_L4, e148, if_neg (nI_ge hkn (by omega)), if_pos (ixg (by omega) (by omega)), nI_clamp (by omega), (hl1 k hkn).1, if_pos (by rw [hs1]), if_pos (ixg (by omega) (by omega)), nI_clamp (by omega)]
        show Option.bind (X7_gains_L35 FUEL (sm7 M1 (upd (M1.1 7) c 0)) (nI c) (nI k) (nI k)) _ = _
        rw [bind_some' b1, nI_1, nI_1, x2]
    · have hz : gs (fun j => decide ((grp L).1 j = k)) n = 0 := gs_none (fun j hj => by
        refine decide_eq_false (fun z => hs1 ?_)
        rw [← z, hq.2.1])
      obtain ⟨T', M', c', G', x1, x2, x3, x4, x5, x6⟩ := ih (k + 1) T M1 c G q1 q2 (by omega) (by omega) hk hg (by omega) (by omega)
      refine ⟨T', M', c', G', ?_, ?_, x3, x4, x5, x6⟩
      · rw [X5_collect_L22, hP.1.1, if_neg (nI_ge hkn (by omega)), bind_some' hmem, if_pos hz, nI_1, x1]
      · rw [X7_gains_L4, e148, if_neg (nI_ge hkn (by omega)), if_pos (ixg (by omega) (by omega)), nI_clamp (by omega), (hl1 k hkn).1, if_neg (by rw [nI_eq (by omega) (by omega)]; exact hs1), nI_1, x2]
/-- enough is enough on both sides: S more than now -/
def SB (S : Int) : Prop := -2000 ≤ S ∧ S ≤ 2000
theorem enough {y a : Nat} {S : Int} (hy : y ≤ 108) (ha : a ≤ 108) (hS : SB S) : (jI (2 * y - a + 2 * S) ≤ 0 ↔ jI S < nI a / 2 + 1 - nI y) ∧ (nI a / 2 + 1 - nI y ≤ jI S ↔ ¬ jI S < nI a / 2 + 1 - nI y) := by
  obtain ⟨h1, h2⟩ := hS
  have e : nI a / 2 + 1 - nI y = jI ((a / 2 + 1 : Nat) - y : Int) := by
    rw [show (2 : Int32) = nI 2 from rfl, pk_div (by omega) (by omega) (by omega), nI_1, jI_n, jI_n, jI_sub]
  rw [e, jI_0, jI_le (by omega) (by omega) (by omega) (by omega), jI_lt (by omega) (by omega) (by omega) (by omega), jI_le (by omega) (by omega) (by omega) (by omega)]
  omega
