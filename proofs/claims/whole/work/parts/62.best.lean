/-! the best pull -/
theorem upd_back (f : Nat → Int32) (i : Nat) (a : Int32) : upd (upd f i a) i (f i) = f := by
  funext k
  rw [upd_at, upd_at]
  by_cases h : k = i
  · rw [if_pos h, h]
  · rw [if_neg h, if_neg h]
theorem pullVal {P : SPar} {M : SMod} {n p m sp b : Nat} {se le pu : Nat → Int32} {L : List Str4} {g : Nat → Int32} (hA : AW n se le pu L g) (hP : RC P n se le pu L g) (hM : RMB (M.1 0) n se le pu L) (s2 : P.2.1 1 = nI sp) (s3 : M.1 0 150 = nI sp) (b2 : P.2.1 2 = nI b) (b3 : M.1 0 155 = nI b) (hsp : sp ≤ 12) (hp : p < n) (hm : m ≤ 1) :
    ∃ P' rc M1 rb, X1_pullTo P (nI p) (nI m) = some (P', rc) ∧ X7_barred M (nI p) (nI m) = some (M1, rb) ∧ KeepS M M1 ∧ ((¬ rb = 0 ∧ rc = -1000002) ∨ (rb = 0 ∧ ∃ y M2, y ≤ 108 ∧ rc = nI y ∧ X7_yesWith M1 (nI p) (nI m) = some (M2, nI y) ∧ KeepS M M2)) := by
  have hn := hA.1
  have e1 : X1_hasPuppet P (nI p) = 1 := by
    unfold X1_hasPuppet
    rw [hP.1.1, if_neg (nI_pos (by omega)), if_neg (nI_ge hp (by omega))]
  have e3 : X6_isIn (nI m) 0 1 = 1 := by
    rcases (by omega : m = 0 ∨ m = 1) with rfl | rfl <;> decide
  obtain ⟨r, r1, r2⟩ := reasonPull_spec (w := nI m) hA hP s2 b2 hsp hp
  obtain ⟨M1, r', q1, q2, q3⟩ := barred_spec (w := nI m) hA hM s3 b3 hsp hp
  have hrr := r2.one q3
  subst hrr
  by_cases hr : r = 0
  case neg =>
    refine ⟨P, -1000002, M1, r, ?_, q1, q2, Or.inl ⟨hr, rfl⟩⟩
    unfold X1_pullTo
    rw [e1, if_neg (by decide), e3, if_neg (by decide), bind_some' r1, if_neg hr]
  subst hr
  have hfit : hpo n pu (grp L) p → g p = nI m := by
    intro z
    rcases r2 with ⟨-, a⟩ | ⟨-, -, a⟩ | ⟨-, a, -⟩
    · exact absurd a (by decide)
    · exact absurd a (by decide)
    · rcases Decidable.em (g p = nI m) with z2 | z2
      · exact z2
      · exact absurd ⟨z, z2⟩ a
  have hA2 : AW n se le (upd pu p (nI m)) L (fl g (grp L) p (g p ^^^ nI m)) := by
    refine ⟨hn, hA.2.1, fl_Pot hA.2.2.1 _ _, fun k hk => ⟨(hA.2.2.2 k hk).1, (hA.2.2.2 k hk).2.1, ?_, ?_⟩⟩
    · rw [upd_at]
      by_cases hkp : k = p
      · rw [if_pos hkp]
        exact Or.inr (bits2 hm)
      · rw [if_neg hkp]
        exact (hA.2.2.2 k hk).2.2.1
    · rw [upd_at]
      unfold fl
      by_cases hkp : k = p
      · rw [if_pos hkp, if_pos (by rw [hkp]), hkp]
        intro _
        exact xor_q
      · rw [if_neg hkp]
        intro hpk
        by_cases c : (grp L).1 k = (grp L).1 p
        · rw [if_pos c, hfit ⟨k, hk, hkp, hpk, c⟩, Int32.xor_self, Int32.xor_zero]
          exact (hA.2.2.2 k hk).2.2.2 hpk
        · rw [if_neg c]
          exact (hA.2.2.2 k hk).2.2.2 hpk
  have hRB : RB (stR P 2 (upd (P.1 2) p (nI m))) n se le (upd pu p (nI m)) := by
    refine ⟨hP.1.1, fun k hk => ⟨(hP.1.2 k hk).1, (hP.1.2 k hk).2.1, ?_⟩⟩
    show upd (P.1 2) p (nI m) k = _
    rw [upd_at, upd_at, (hP.1.2 k hk).2.2]
  obtain ⟨P', t1, t2, t3⟩ := tellV_spec hA2 hRB hP.2.1 hP.2.2.1
  have hM2 : RMB ((stS M1 (upd (M1.1 0) (3 * p + 2) (nI m + 1))).1 0) n se le (upd pu p (nI m)) L := by
    rw [stS_0, q2.s]
    refine RMBp hM ?_ (fun k hk => ?_) (fun i h1 h2 h3 => ?_)
    · rw [pk_un (by omega)]
      exact hM.1
    · rw [pk_un (by omega), pk_un (by omega), upd_at, upd_at]
      refine ⟨(hM.2.1 k hk).1, (hM.2.1 k hk).2.1, ?_⟩
      by_cases hkp : k = p
      · rw [if_pos (by omega), if_pos hkp]
      · rw [if_neg (by omega), if_neg hkp]
        exact (hM.2.1 k hk).2.2
    · rw [pk_un (by omega)]
  obtain ⟨M', y1, y2, y3, y4⟩ := yesNow_spec hA2 hM2
  obtain ⟨j, j1, j2⟩ := yes_nat hA2 y4
  refine ⟨P', nI j, M1, 0, ?_, q1, q2, Or.inr ⟨rfl, j, stS M' (M.1 0), j1, rfl, ?_, ?_⟩⟩
  · unfold X1_pullTo
    rw [e1, if_neg (by decide), e3, if_neg (by decide), bind_some' r1, if_pos rfl, rput_n _ _ (by omega) (by omega)]
    show Option.bind (X1_tellVotes (stR P 2 (upd (P.1 2) p (nI m)))) _ = _
    rw [bind_some' t1, t2.2.2.2.2.2, yes_eq t2.2.2.2.1 y4, j2]
  · have m2 : X7_of M1 (nI p) 2 = some (M1.1 0 (3 * p + 2)) := of_spec M1 (k := p) (c := 2) (by omega)
    unfold X7_yesWith
    rw [bind_some' m2, show 3 * nI p + (2 : Int32) = nI (3 * p + 2) from ix3 p 2, if_pos (ixg (by omega) (by omega)), nI_clamp (by omega)]
    show Option.bind (X7_yesNow (stS M1 (upd (M1.1 0) (3 * p + 2) (nI m + 1)))) _ = _
    rw [bind_some' y1]
    show some (stS M' (upd (M'.1 0) (3 * p + 2) (M1.1 0 (3 * p + 2))), sm (fun i => M'.1 6 i * se i) n) = _
    rw [y2.s, stS_0, upd_back, j2, q2.s]
  · refine ⟨fun i h4 h5 h6 h7 => ?_, ?_⟩
    · by_cases h0 : i = 0
      · subst h0
        rfl
      · have e9 : (stS M' (M.1 0)).1 i = M'.1 i := up_ne M'.1 _ h0
        have e10 : (stS M1 (upd (M1.1 0) (3 * p + 2) (nI m + 1))).1 i = M1.1 i := up_ne M1.1 _ h0
        rw [e9, y2.1 i h4 h5 h6 h7, e10, q2.1 i h4 h5 h6 h7]
    · show M'.2 = M.2
      rw [y2.2]
      exact q2.2
/-- what a try does to the best so far -/
def OUT (c bm : Int32) (mo p : Nat) (bm1 : Int32) (mo1 : Nat) : Prop := (c.toInt < 0 ∧ bm1 = bm ∧ mo1 = mo) ∨ ∃ y, y ≤ 108 ∧ c = nI y ∧ ((y ≤ mo ∧ bm1 = bm ∧ mo1 = mo) ∨ (mo < y ∧ bm1 = nI p ∧ mo1 = y))
theorem neg_le {x : Int32} {y : Nat} (hx : x.toInt < 0) (hy : y < 2 ^ 31) : x ≤ nI y := by
  rw [Int32.le_iff_toInt_le, nI_toInt hy]
  omega
theorem neg_nlt {x : Int32} {y : Nat} (hx : x.toInt < 0) (hy : y < 2 ^ 31) : ¬ nI y < x := by
  rw [Int32.lt_iff_toInt_lt, nI_toInt hy]
  omega
theorem neg_lt {x : Int32} {y : Nat} (hx : x.toInt < 0) (hy : y < 2 ^ 31) : x < nI y := by
  rw [Int32.lt_iff_toInt_lt, nI_toInt hy]
  omega
/-- one try on the reference's side -/
theorem bestM_step {M M1 : SMod} {n p m : Nat} {x1 bm rb rc : Int32} {mo fu : Nat} (hn : n ≤ 12) (h148 : M.1 0 148 = nI n) (hp : p < n) (hm : m ≤ 1) (hmo : mo ≤ 108) (hq : X7_barred M (nI p) (nI m) = some (M1, rb)) (hk : KeepS M M1) (hr : (¬ rb = 0 ∧ rc = -1000002) ∨ (rb = 0 ∧ ∃ y M2, y ≤ 108 ∧ rc = nI y ∧ X7_yesWith M1 (nI p) (nI m) = some (M2, nI y) ∧ KeepS M M2)) :
    ∃ M2 bm1 mo1, KeepS M M2 ∧ mo1 ≤ 108 ∧ X7_bestPull_L23 (fu + 1) M x1 bm (nI mo) (nI (2 * p + m)) = X7_bestPull_L23 fu M2 x1 bm1 (nI mo1) (nI (2 * p + m + 1)) ∧ OUT rc bm mo p bm1 mo1 := by
  have e148 : M.1 0 (Int32.toNatClampNeg 148) = nI n := h148
  have d1 : nI (2 * p + m) / 2 = nI p := by
    rw [show (2 : Int32) = nI 2 from rfl, pk_div (by omega) (by omega) (by omega)]
    congr 1
    omega
  have d2 : nI (2 * p + m) - nI (2 * p + m) / 2 * 2 = nI m := by
    have e := pk_rem (a := 2 * p + m) (d := 2) (by omega) (by omega) (by omega)
    rw [show (2 : Int32) = nI 2 from rfl, e]
    congr 1
    omega
  have d3 : 2 * nI n = nI (2 * n) := by rw [show (2 : Int32) = nI 2 from rfl, pk_mul]
  have go : X7_bestPull_L23 (fu + 1) M x1 bm (nI mo) (nI (2 * p + m)) = ((X7_bestPull_J50 M1 x1 bm (nI mo) (nI (2 * p + m)) rb).bind fun u_10 => (if u_10.2 ≤ nI mo then (if u_10.2 ≤ nI mo then X7_bestPull_L23 fu u_10.1 x1 bm (nI mo) (nI (2 * p + m + 1)) else X7_bestPull_L23 fu u_10.1 x1 bm u_10.2 (nI (2 * p + m + 1))) else (if u_10.2 ≤ nI mo then X7_bestPull_L23 fu u_10.1 x1 (nI p) (nI mo) (nI (2 * p + m + 1)) else X7_bestPull_L23 fu u_10.1 x1 (nI p) u_10.2 (nI (2 * p + m + 1))))) := by
    rw [X7_bestPull_L23, e148, d3, if_neg (nI_ge (by omega) (by omega)), d2, d1, bind_some' hq, nI_1]
  rcases hr with ⟨hr, hrc⟩ | ⟨hr, y, M2, h1, hrc, h2, h3⟩
  · refine ⟨M1, bm, mo, hk, hmo, ?_, Or.inl ⟨by rw [hrc]; decide, rfl, rfl⟩⟩
    rw [go]
    unfold X7_bestPull_J50
    rw [if_neg hr]
    show (if (-1 : Int32) ≤ nI mo then _ else _) = _
    have hneg : (-1 : Int32) ≤ nI mo := neg_le (by decide) (by omega)
    rw [if_pos hneg]
    show (if (-1 : Int32) ≤ nI mo then _ else _) = _
    rw [if_pos hneg]
  · have go2 : X7_bestPull_L23 (fu + 1) M x1 bm (nI mo) (nI (2 * p + m)) = if y ≤ mo then X7_bestPull_L23 fu M2 x1 bm (nI mo) (nI (2 * p + m + 1)) else X7_bestPull_L23 fu M2 x1 (nI p) (nI y) (nI (2 * p + m + 1)) := by
      rw [go]
      unfold X7_bestPull_J50
      rw [if_pos hr, d2, d1, bind_some' h2]
      show (if nI y ≤ nI mo then (if nI y ≤ nI mo then X7_bestPull_L23 fu M2 x1 bm (nI mo) (nI (2 * p + m + 1)) else _) else (if nI y ≤ nI mo then _ else X7_bestPull_L23 fu M2 x1 (nI p) (nI y) (nI (2 * p + m + 1)))) = _
      by_cases c : y ≤ mo
      · have ce : nI y ≤ nI mo := nI_le c (by omega)
        rw [if_pos ce, if_pos ce, if_pos c]
      · have ce : ¬ nI y ≤ nI mo := nI_ge (by omega) (by omega)
        rw [if_neg ce, if_neg ce, if_neg c]
    by_cases c : y ≤ mo
    · rw [if_pos c] at go2
      exact ⟨M2, bm, mo, h3, hmo, go2, Or.inr ⟨y, h1, hrc, Or.inl ⟨c, rfl, rfl⟩⟩⟩
    · rw [if_neg c] at go2
      exact ⟨M2, nI p, y, h3, h1, go2, Or.inr ⟨y, h1, hrc, Or.inr ⟨by omega, rfl, rfl⟩⟩⟩
/-- two tries, and the class's one step -/
theorem two_tries {c0 c1 bm bm1 bm2 : Int32} {mo mo1 mo2 p : Nat} (hmo : mo ≤ 108) (h0 : OUT c0 bm mo p bm1 mo1) (h1 : OUT c1 bm1 mo1 p bm2 mo2) : ((if c0 < c1 then c1 else c0) ≤ nI mo ∧ bm2 = bm ∧ mo2 = mo) ∨ (¬ (if c0 < c1 then c1 else c0) ≤ nI mo ∧ bm2 = nI p ∧ nI mo2 = (if c0 < c1 then c1 else c0)) := by
  rcases h0 with ⟨n0, rfl, rfl⟩ | ⟨y0, l0, rfl, ⟨z0, rfl, rfl⟩ | ⟨z0, rfl, rfl⟩⟩ <;> rcases h1 with ⟨n1, rfl, rfl⟩ | ⟨y1, l1, rfl, ⟨z1, rfl, rfl⟩ | ⟨z1, rfl, rfl⟩⟩
  · left
    split
    · exact ⟨neg_le n1 (by omega), rfl, rfl⟩
    · exact ⟨neg_le n0 (by omega), rfl, rfl⟩
  · left
    rw [if_pos (neg_lt n0 (by omega))]
    exact ⟨nI_le z1 (by omega), rfl, rfl⟩
  · right
    rw [if_pos (neg_lt n0 (by omega))]
    exact ⟨nI_ge z1 (by omega), rfl, rfl⟩
  · left
    rw [if_neg (neg_nlt n1 (by omega))]
    exact ⟨nI_le z0 (by omega), rfl, rfl⟩
  · left
    split
    · exact ⟨nI_le z1 (by omega), rfl, rfl⟩
    · exact ⟨nI_le z0 (by omega), rfl, rfl⟩
  · right
    rw [if_pos (nI_lt (by omega) (by omega))]
    exact ⟨nI_ge z1 (by omega), rfl, rfl⟩
  · right
    rw [if_neg (neg_nlt n1 (by omega))]
    exact ⟨nI_ge z0 (by omega), rfl, rfl⟩
  · right
    rw [if_neg (nI_nlt z1 (by omega))]
    exact ⟨nI_ge z0 (by omega), rfl, rfl⟩
  · right
    rw [if_pos (nI_lt z1 (by omega))]
    exact ⟨nI_ge (by omega) (by omega), rfl, rfl⟩
/-- what the better of two tries is -/
def BB (bc bm : Int32) : Prop := (bc = -1 ∧ bm = -1000004) ∨ ∃ b, b < 12 ∧ bc = nI b ∧ bm = nI b
/-- but the trial -/
def KT (K K' : SMain) : Prop := K'.1 = K.1 ∧ K'.2.1 = K.2.1 ∧ K'.2.2.1 = K.2.2.1 ∧ K'.2.2.2.1 = K.2.2.2.1 ∧ K'.2.2.2.2.2 = K.2.2.2.2.2
theorem seatsIf {K K' : SMain} {P' : SPar} {p w rc : Int32} (hK : KT K K') (h : X1_pullTo K.2.2.2.1 p w = some (P', rc)) : ∃ K2, X6_seatsIfPulled K' p w = some (K2, rc) ∧ KT K K2 := by
  refine ⟨(K'.1, K'.2.1, K'.2.2.1, K'.2.2.2.1, P', K'.2.2.2.2.2), ?_, hK⟩
  unfold X6_seatsIfPulled
  show Option.bind (X1_pullTo K'.2.2.2.1 p w) _ = _
  have h2 : X1_pullTo K'.2.2.2.1 p w = some (P', rc) := by rw [hK.2.2.2.1, h]
  rw [bind_some' h2]
  rfl
theorem best_loops {K : SMain} {n sp b : Nat} {se le pu : Nat → Int32} {L : List Str4} {g : Nat → Int32} (x1 : Int32) (hA : AW n se le pu L g) (hP : RC K.2.2.2.1 n se le pu L g) (s2 : K.2.2.2.1.2.1 1 = nI sp) (b2 : K.2.2.2.1.2.1 2 = nI b) (hsp : sp ≤ 12) :
    ∀ (d p : Nat) (K' : SMain) (M : SMod) (bc bm : Int32) (mo f1 f2 : Nat), p + d = n → KT K K' → RMB (M.1 0) n se le pu L → M.1 0 150 = nI sp → M.1 0 155 = nI b → BB bc bm → mo ≤ 108 → d < f1 → 2 * d < f2 →
    ∃ K'' M' bc' bm' mo', X6_bestPull_L25 f1 K' x1 bc (nI mo) (nI p) = some (K'', bc', nI mo') ∧ X7_bestPull_L23 f2 M x1 bm (nI mo) (nI (2 * p)) = some (M', bm', nI mo') ∧ KT K K'' ∧ KeepS M M' ∧ BB bc' bm' ∧ mo' ≤ 108 := by
  have hn := hA.1
  intro d
  induction d with
  | zero =>
    intro p K' M bc bm mo f1 f2 hd hK hM s3 b3 hbb hmo h1 h2
    obtain ⟨q1, rfl⟩ : ∃ q, f1 = q + 1 := ⟨f1 - 1, by omega⟩
    obtain ⟨q2, rfl⟩ : ∃ q, f2 = q + 1 := ⟨f2 - 1, by omega⟩
    have e148 : M.1 0 (Int32.toNatClampNeg 148) = nI n := hM.1
    have d3 : 2 * nI n = nI (2 * n) := by rw [show (2 : Int32) = nI 2 from rfl, pk_mul]
    have hpn : p = n := by omega
    subst hpn
    refine ⟨K', M, bc, bm, mo, ?_, ?_, hK, KeepS.rf M, hbb, hmo⟩
    · rw [X6_bestPull_L25, hK.2.2.2.1, hP.1.1, if_pos (nI_le (Nat.le_refl _) (by omega))]
    · rw [X7_bestPull_L23, e148, d3, if_pos (nI_le (Nat.le_refl _) (by omega))]
  | succ d ih =>
    intro p K' M bc bm mo f1 f2 hd hK hM s3 b3 hbb hmo h1 h2
    obtain ⟨q1, rfl⟩ : ∃ q, f1 = q + 1 := ⟨f1 - 1, by omega⟩
    obtain ⟨q2, rfl⟩ : ∃ q, f2 = q + 1 + 1 := ⟨f2 - 2, by omega⟩
    have hp : p < n := by omega
    obtain ⟨P0, c0, M0, r0, a1, a2, a3, a4⟩ := pullVal (m := 0) hA hP hM s2 s3 b2 b3 hsp hp (by omega)
    obtain ⟨M2, bm1, mo1, k1, k2, k3, k4⟩ := bestM_step (x1 := x1) (bm := bm) (fu := q2 + 1) hn hM.1 hp (show 0 ≤ 1 by omega) hmo a2 a3 a4
    have hM2 : RMB (M2.1 0) n se le pu L := by rw [k1.s]; exact hM
    obtain ⟨P1, c1, M3, r1, g1, g2, g3, g4⟩ := pullVal (m := 1) hA hP hM2 s2 (by rw [k1.s]; exact s3) b2 (by rw [k1.s]; exact b3) hsp hp (Nat.le_refl 1)
    obtain ⟨M4, bm2, mo2, l1, l2, l3, l4⟩ := bestM_step (x1 := x1) (bm := bm1) (fu := q2) hn hM2.1 hp (Nat.le_refl 1) k2 g2 g3 g4
    obtain ⟨K2, u1, u2⟩ := seatsIf hK a1
    obtain ⟨K3, v1, v2⟩ := seatsIf u2 (p := nI p) (w := nI 1) (P' := P1) (rc := c1) g1
    have hM4 : RMB (M4.1 0) n se le pu L := by rw [l1.s]; exact hM2
    have s4 : M4.1 0 150 = nI sp := by rw [l1.s, k1.s]; exact s3
    have b4 : M4.1 0 155 = nI b := by rw [l1.s, k1.s]; exact b3
    have hmod : X7_bestPull_L23 (q2 + 1 + 1) M x1 bm (nI mo) (nI (2 * p)) = X7_bestPull_L23 q2 M4 x1 bm2 (nI mo2) (nI (2 * (p + 1))) := k3.trans l3
    have go : X6_bestPull_L25 (q1 + 1) K' x1 bc (nI mo) (nI p) = (if (if c0 < c1 then c1 else c0) ≤ nI mo then X6_bestPull_L25 q1 K3 x1 bc (nI mo) (nI (p + 1)) else X6_bestPull_L25 q1 K3 x1 (nI p) (if c0 < c1 then c1 else c0) (nI (p + 1))) := by
      have u1 : X6_seatsIfPulled K' (nI p) 0 = some (K2, c0) := u1
      have v1 : X6_seatsIfPulled K2 (nI p) 1 = some (K3, c1) := v1
      rw [X6_bestPull_L25, hK.2.2.2.1, hP.1.1, if_neg (nI_ge hp (by omega)), bind_some' u1, bind_some' v1, nI_1]
    rcases two_tries hmo k4 l4 with ⟨w1, rfl, rfl⟩ | ⟨w1, rfl, w3⟩
    · rw [if_pos w1] at go
      obtain ⟨K'', M', bc', bm', mo', x1', x2', x3', x4', x5', x6'⟩ := ih (p + 1) K3 M4 bc bm2 mo2 q1 q2 (by omega) v2 hM4 s4 b4 hbb l2 (by omega) (by omega)
      exact ⟨K'', M', bc', bm', mo', go.trans x1', hmod.trans x2', x3', (k1.tr l1).tr x4', x5', x6'⟩
    · rw [if_neg w1, ← w3] at go
      obtain ⟨K'', M', bc', bm', mo', x1', x2', x3', x4', x5', x6'⟩ := ih (p + 1) K3 M4 (nI p) (nI p) mo2 q1 q2 (by omega) v2 hM4 s4 b4 (Or.inr ⟨p, by omega, rfl, rfl⟩) l2 (by omega) (by omega)
      exact ⟨K'', M', bc', bm', mo', go.trans x1', hmod.trans x2', x3', (k1.tr l1).tr x4', x5', x6'⟩
theorem o_bestPull : Op_bestPull Rel := by
  intro K M a0 h
  obtain ⟨n, se, le, pu, L, g, hA, hP, hM, hE⟩ := id h.1
  have hn := hA.1
  obtain ⟨⟨sp, s1, s2, s3⟩, ⟨b, b1, b2, b3⟩, -⟩ := id hE
  rcases inC a0 (a := 0) (b := 1) (by omega) (by omega) with ⟨m, -, hm, rfl, e3, e4⟩ | ⟨e3, e4⟩
  case inr =>
    have e3 : X6_isIn a0 0 1 = 0 := e3
    have e4 : X7_in a0 0 1 = 0 := e4
    refine ⟨(K, -1000001), (M, -1000001), ?_, ?_, rfl, h⟩
    · unfold X6_bestPull
      rw [e3, if_pos rfl]
    · unfold X7_bestPull
      rw [e4, if_pos rfl]
  have e3 : X6_isIn (nI m) 0 1 = 1 := e3
  have e4 : X7_in (nI m) 0 1 = 1 := e4
  obtain ⟨M1, y1, y2, y3, y4⟩ := yesNow_spec hA hM
  obtain ⟨ye, ye1, ye2⟩ := yes_nat hA y4
  have hye : K.2.2.2.1.2.1 4 = nI ye := by rw [hP.2.2.2.2.2, yes_eq hP.2.2.2.1 y4, ye2]
  obtain ⟨K2, M2, bc, bm, mo, c1, c2, c3, c4, c5, c6⟩ := best_loops (nI m) hA hP s2 b2 (by omega) n 0 K M1 (-1) (-1000004) ye FUEL FUEL (by omega) ⟨rfl, rfl, rfl, rfl, rfl⟩ (by rw [y2.s]; exact hM) (by rw [y2.s]; exact s3) (by rw [y2.s]; exact b3) (Or.inl ⟨rfl, rfl⟩) ye1 (by unfold FUEL; omega) (by unfold FUEL; omega)
  have c1 : X6_bestPull_L25 FUEL K (nI m) (-1) (nI ye) 0 = some (K2, bc, nI mo) := c1
  have c2 : X7_bestPull_L23 FUEL M1 (nI m) (-1000004) (nI ye) 0 = some (M2, bm, nI mo) := c2
  have hR : Rel K2 M2 := h.k (y2.tr c4) (by rw [c3.1]) (by rw [c3.1]) (by rw [c3.2.1]) (by rw [c3.2.1]) c3.2.2.2.1 c3.2.2.2.2
  have hcl : X6_bestPull K (nI m) = if bc = -1 then some (K2, -1000004) else if nI m = 0 then some (K2, bc) else some (K2, nI mo) := by
    unfold X6_bestPull
    rw [e3, if_neg (by decide), hye, bind_some' c1]
  have hmo : X7_bestPull M (nI m) = if 0 ≤ bm then (if nI m = 0 then some (M2, bm) else some (M2, nI mo)) else some (M2, -1000004) := by
    unfold X7_bestPull
    rw [e4, if_neg (by decide), bind_some' y1]
    show Option.bind (X7_bestPull_L23 FUEL M1 (nI m) (-1000004) (sm (fun i => M1.1 6 i * se i) n) 0) _ = _
    rw [ye2, bind_some' c2]
  rw [hcl, hmo]
  rcases c5 with ⟨rfl, rfl⟩ | ⟨q, q1, rfl, rfl⟩
  · rw [if_pos rfl, if_neg (by decide)]
    exact ⟨_, _, rfl, rfl, rfl, hR⟩
  · have hne : ¬ nI q = -1 := fun z => absurd (by rw [z]; decide : nI q < 0) (nI_pos (by omega))
    rw [if_neg hne, if_pos (nI_pos' (by omega))]
    split
    · exact ⟨_, _, rfl, rfl, rfl, hR⟩
    · exact ⟨_, _, rfl, rfl, rfl, hR⟩
