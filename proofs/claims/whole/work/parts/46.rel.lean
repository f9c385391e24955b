/-! the relation of a parliament and the reference's account -/
def ButV (P K : SPar) : Prop := (∀ i, i < 3 → K.1 i = P.1 i) ∧ (∀ i, i < 3 → K.2.1 i = P.2.1 i) ∧ K.2.2 = P.2.2
def RC (P : SPar) (n : Nat) (se le pu : Nat → Int32) (L : List Str4) (g : Nat → Int32) : Prop := RB P n se le pu ∧ RS P.2.2.1 L ∧ GR P (grp L) n ∧ Vt n se le pu (grp L) g (P.1 5) ∧ P.2.1 3 = sm se n ∧ P.2.1 4 = sm (fun i => P.1 5 i * se i) n
theorem ButV.RB {P K : SPar} {n : Nat} {se le pu : Nat → Int32} (h : ButV P K) (hP : RB P n se le pu) : RB K n se le pu := ⟨by rw [h.2.1 0 (by decide)]; exact hP.1, fun k hk => by rw [h.1 0 (by decide), h.1 1 (by decide), h.1 2 (by decide)]; exact hP.2 k hk⟩
theorem But34.V {P K : SPar} (h : But34 P K) : ButV P K := ⟨fun i hi => h.1 i (by omega) (by omega), fun i _ => by rw [h.2], by rw [h.2]⟩
theorem But5.V {P K : SPar} (h : But5 P K) : ButV P K := ⟨fun i hi => h.1 i (by omega), fun i hi => h.2.1 i (by omega) (by omega), h.2.2⟩
theorem ButV.tr {P Q R : SPar} (h1 : ButV P Q) (h2 : ButV Q R) : ButV P R := ⟨fun i a => (h2.1 i a).trans (h1.1 i a), fun i a => (h2.2.1 i a).trans (h1.2.1 i a), h2.2.2.trans h1.2.2⟩
theorem tellV_spec {P : SPar} {n : Nat} {se le pu : Nat → Int32} {L : List Str4} {g : Nat → Int32} (hA : AW n se le pu L g) (hP : RB P n se le pu) (hL : RS P.2.2.1 L) (hg : GR P (grp L) n) : ∃ P', X1_tellVotes P = some P' ∧ RC P' n se le pu L g ∧ ButV P P' := by
  obtain ⟨P2, h1, h2, h3, h4, h5⟩ := tellVotes_spec hA.1 hP hg (grp_le L)
  exact ⟨P2, h1, ⟨h2.RB hP, by rw [h2.2.2]; exact hL, h2.GR hg, VTi_Vt hA h3, h4, h5⟩, h2.V⟩
theorem tell_spec {P : SPar} {n : Nat} {se le pu : Nat → Int32} {L : List Str4} {g : Nat → Int32} (hA : AW n se le pu L g) (hP : RB P n se le pu) (hL : RS P.2.2.1 L) : ∃ P1 P2, X1_tellGroups P = some P1 ∧ X1_tellVotes P1 = some P2 ∧ RC P2 n se le pu L g ∧ ButV P P2 := by
  obtain ⟨P1, h1, h2, h3⟩ := tellGroups_spec hA.1 hP.1 hL hA.2.1
  obtain ⟨P2, g1, g2, g3⟩ := tellV_spec hA (h3.V.RB hP) (by rw [h3.V.2.2]; exact hL) h2
  exact ⟨P1, P2, h1, g1, g2, h3.V.tr g3⟩
/-- what is beside the puppets and strings -/
def EX (P : SPar) (s : Nat → Int32) (n : Nat) : Prop :=
  (∃ sp, (sp < n ∨ (n = 0 ∧ sp = 0)) ∧ P.2.1 1 = nI sp ∧ s 150 = nI sp) ∧ (∃ b, b ≤ 12 ∧ P.2.1 2 = nI b ∧ s 155 = nI b) ∧
  (∃ ss, ss ≤ 999 ∧ P.2.2.2.2 0 = nI ss ∧ s 151 = nI ss ∧ s 153 = nI (min ss 8)) ∧ P.2.2.2.2 1 = s 152 ∧ (∀ k, k < 32 → P.2.2.2.1 k = s (116 + k)) ∧ P.2.2.1.2 1 = s 154 ∧ (∀ k, n ≤ k → k < 12 → s (3 * k + 2) = 0)
def AB (P : SPar) (s : Nat → Int32) : Prop := ∃ n se le pu L g, AW n se le pu L g ∧ RC P n se le pu L g ∧ RMB s n se le pu L ∧ EX P s n
/-! the reference's history -/
def npst (past s : Nat → Int32) (t : Nat) : Nat → Int32 :=
  if t = 4 then fun k => if 468 ≤ k ∧ k < 624 then s (k - 468) else if k < 468 then past (k + 156) else past k
  else fun k => if 156 * t ≤ k ∧ k < 156 * t + 156 then s (k - 156 * t) else past k
def CH (M M' : SMod) : Prop := (∃ t, t ≤ 4 ∧ M.2 0 = nI t ∧ ((M.2 1 = 1 ∧ M'.1 1 = M.1 1 ∧ M'.2 = M.2) ∨ (M.2 1 = 0 ∧ M'.1 1 = npst (M.1 1) (M.1 0) t ∧ M'.2 = up M.2 0 (nI (min (t + 1) 4))))) ∧ M'.1 2 = M.1 2 ∧ M'.1 3 = M.1 3 ∧ M'.1 8 = M.1 8
def WM (M : SMod) : Prop := (∃ t, t ≤ 4 ∧ M.2 0 = nI t) ∧ (M.2 1 = 0 ∨ M.2 1 = 1)
def Keep0 (M M' : SMod) : Prop := (∀ i, i = 1 ∨ i = 2 ∨ i = 3 ∨ i = 8 → M'.1 i = M.1 i) ∧ M'.2 = M.2
theorem KeepS.k0 {M M' : SMod} (h : KeepS M M') : Keep0 M M' := ⟨fun i hi => h.1 i (by omega) (by omega) (by omega) (by omega), h.2⟩
theorem Keep0.tr {P Q R : SMod} (h1 : Keep0 P Q) (h2 : Keep0 Q R) : Keep0 P R := ⟨fun i a => (h2.1 i a).trans (h1.1 i a), h2.2.trans h1.2⟩
theorem CH.r {M Mc M' : SMod} (h : CH M Mc) (hk : Keep0 Mc M') : CH M M' := by
  obtain ⟨⟨t, h1, h2, h3⟩, h4, h5, h6⟩ := h
  refine ⟨⟨t, h1, h2, ?_⟩, (hk.1 2 (by decide)).trans h4, (hk.1 3 (by decide)).trans h5, (hk.1 8 (by decide)).trans h6⟩
  rw [hk.1 1 (by decide), hk.2]
  exact h3
theorem CH.l {M M1 Mc : SMod} (hk : KeepS M M1) (h : CH M1 Mc) : CH M Mc := by
  obtain ⟨⟨t, h1, h2, h3⟩, h4, h5, h6⟩ := h
  rw [hk.s, hk.1 1 (by decide) (by decide) (by decide) (by decide), hk.2] at h3
  rw [hk.2] at h2
  exact ⟨⟨t, h1, h2, h3⟩, h4.trans (hk.1 2 (by decide) (by decide) (by decide) (by decide)), h5.trans (hk.1 3 (by decide) (by decide) (by decide) (by decide)), h6.trans (hk.1 8 (by decide) (by decide) (by decide) (by decide))⟩
theorem WM.k {M M1 : SMod} (hk : KeepS M M1) (h : WM M) : WM M1 := by
  unfold WM
  rw [hk.2]
  exact h
theorem up_up {α : Type} (f : Nat → α) (k : Nat) (a b : α) : up (up f k a) k b = up f k b := by
  funext j
  rw [up_at, up_at, up_at]
  by_cases h : j = k
  · rw [if_pos h, if_pos h]
  · rw [if_neg h, if_neg h, if_neg h]
theorem up_self {α : Type} (f : Nat → α) (k : Nat) : up f k (f k) = f := by
  funext j
  rw [up_at]
  by_cases h : j = k
  · rw [if_pos h, h]
  · rw [if_neg h]
theorem ixg {k N : Nat} (h : k < N) (hN : N < 100000) : ¬ (nI k < 0 ∨ N ≤ Int32.toNatClampNeg (nI k)) := by
  rintro (h1 | h1)
  · exact nI_pos (by omega) h1
  · rw [nI_clamp (by omega)] at h1
    omega
theorem changes_shift (M : SMod) : X7_changes_L18 FUEL M 0 = some (up M.1 1 (fun j => if j < 468 then M.1 1 (j + 156) else M.1 1 j), M.2) := by
  obtain ⟨r, h1, h2⟩ := loop_FUEL (f := fun fu (K : SMod) i => X7_changes_L18 fu K i) (n := 468)
    (fun k K => K = (up M.1 1 (fun j => if j < k then M.1 1 (j + 156) else M.1 1 j), M.2)) (fun K => K = (up M.1 1 (fun j => if j < 468 then M.1 1 (j + 156) else M.1 1 j), M.2)) (by omega)
    (by
      rintro fu k K hk rfl
      right
      refine ⟨_, rfl, ?_⟩
      have e1 : nI k + 156 = nI (k + 156) := nI_add k 156
      show X7_changes_L18 (fu + 1) _ (nI k) = _
      rw [X7_changes_L18, if_neg (show ¬ (468 : Int32) ≤ nI k from nI_ge (b := 468) hk (by omega)), e1, if_pos (ixg (by omega) (by omega)), if_pos (ixg (by omega) (by omega)), nI_clamp (by omega), nI_clamp (by omega), nI_1]
      show X7_changes_L18 fu (up (up M.1 1 _) 1 (upd (fun j => if j < k then M.1 1 (j + 156) else M.1 1 j) k (if k + 156 < k then M.1 1 (k + 156 + 156) else M.1 1 (k + 156))), M.2) (nI (k + 1)) = _
      rw [up_up, if_neg (by omega)]
      congr 4
      funext j
      rw [upd_at]
      by_cases hj : j = k
      · rw [if_pos hj, if_pos (by omega), hj]
      · rw [if_neg hj]
        by_cases hj2 : j < k
        · rw [if_pos hj2, if_pos (by omega)]
        · rw [if_neg hj2, if_neg (by omega)])
    (by
      rintro fu K rfl
      refine ⟨_, rfl, ?_⟩
      show X7_changes_L18 (fu + 1) _ (nI 468) = _
      rw [X7_changes_L18, if_pos (show (468 : Int32) ≤ nI 468 from nI_le (a := 468) (Nat.le_refl _) (by omega))])
    (k := 0) (s := M) (x := 0) (by omega) rfl (by
      have : (fun j => if j < 0 then M.1 1 (j + 156) else M.1 1 j) = M.1 1 := by
        funext j
        exact if_neg (Nat.not_lt_zero j)
      rw [this, up_self])
  rw [← h1]
  exact h2
theorem changes_put (M : SMod) {t : Nat} (ht : t < 4) (hM : M.2 0 = nI t) : X7_changes_L59 FUEL M 0 = some (up M.1 1 (fun j => if 156 * t ≤ j ∧ j < 156 * t + 156 then M.1 0 (j - 156 * t) else M.1 1 j), M.2) := by
  obtain ⟨r, h1, h2⟩ := loop_FUEL (f := fun fu (K : SMod) i => X7_changes_L59 fu K i) (n := 156)
    (fun k K => K = (up M.1 1 (fun j => if 156 * t ≤ j ∧ j < 156 * t + k then M.1 0 (j - 156 * t) else M.1 1 j), M.2)) (fun K => K = (up M.1 1 (fun j => if 156 * t ≤ j ∧ j < 156 * t + 156 then M.1 0 (j - 156 * t) else M.1 1 j), M.2)) (by omega)
    (by
      rintro fu k K hk rfl
      right
      refine ⟨_, rfl, ?_⟩
      have e1 : 156 * nI t + nI k = nI (156 * t + k) := by rw [show (156 : Int32) = nI 156 from rfl, pk_mul, nI_add]
      show X7_changes_L59 (fu + 1) _ (nI k) = _
      rw [X7_changes_L59, hM, e1, if_neg (show ¬ (156 : Int32) ≤ nI k from nI_ge (b := 156) hk (by omega)), if_pos (ixg (by omega) (by omega)), if_pos (ixg (by omega) (by omega)), nI_clamp (by omega), nI_clamp (by omega), nI_1]
      show X7_changes_L59 fu (up (up M.1 1 _) 1 (upd (fun j => if 156 * t ≤ j ∧ j < 156 * t + k then M.1 0 (j - 156 * t) else M.1 1 j) (156 * t + k) (M.1 0 k)), M.2) (nI (k + 1)) = _
      rw [up_up]
      congr 4
      funext j
      rw [upd_at]
      by_cases hj : j = 156 * t + k
      · rw [if_pos hj, if_pos (by omega), hj, show 156 * t + k - 156 * t = k from by omega]
      · rw [if_neg hj]
        by_cases hj2 : 156 * t ≤ j ∧ j < 156 * t + k
        · rw [if_pos hj2, if_pos (by omega)]
        · rw [if_neg hj2, if_neg (by omega)])
    (by
      rintro fu K rfl
      refine ⟨_, rfl, ?_⟩
      show X7_changes_L59 (fu + 1) _ (nI 156) = _
      rw [X7_changes_L59, if_pos (show (156 : Int32) ≤ nI 156 from nI_le (a := 156) (Nat.le_refl _) (by omega))])
    (k := 0) (s := M) (x := 0) (by omega) rfl (by
      have : (fun j => if 156 * t ≤ j ∧ j < 156 * t + 0 then M.1 0 (j - 156 * t) else M.1 1 j) = M.1 1 := by
        funext j
        exact if_neg (by omega)
      rw [this, up_self])
  rw [← h1]
  exact h2
theorem changes_spec {M : SMod} (h : WM M) : ∃ Mc, X7_changes M = some Mc ∧ CH M Mc ∧ ∀ i, i ≠ 1 → Mc.1 i = M.1 i := by
  obtain ⟨⟨t, ht, hM⟩, hr⟩ := h
  unfold X7_changes
  rcases hr with hr | hr
  · rw [if_pos hr]
    by_cases h4 : t = 4
    · subst h4
      have e4 : X7_changes_J13 M 4 (M.2 0) = some (up M.1 1 (fun j => if j < 468 then M.1 1 (j + 156) else M.1 1 j), up M.2 0 (M.2 0 - 1)) := by
        unfold X7_changes_J13
        rw [if_pos (show M.2 0 = 4 from hM), bind_some' (changes_shift M)]
        rfl
      have h3 := changes_put (up M.1 1 (fun j => if j < 468 then M.1 1 (j + 156) else M.1 1 j), up M.2 0 (M.2 0 - 1)) (t := 3) (by omega) (by
        show M.2 0 - 1 = nI 3
        rw [hM]
        decide +kernel)
      rw [bind_some' e4, bind_some' h3]
      refine ⟨_, rfl, ⟨⟨4, Nat.le_refl 4, hM, Or.inr ⟨hr, ?_, ?_⟩⟩, rfl, rfl, rfl⟩, fun i hi => ?_⟩
      · show (fun j => if 156 * 3 ≤ j ∧ j < 156 * 3 + 156 then M.1 0 (j - 156 * 3) else if j < 468 then M.1 1 (j + 156) else M.1 1 j) = npst (M.1 1) (M.1 0) 4
        unfold npst
        rw [if_pos rfl]
      · show up (up M.2 0 (M.2 0 - 1)) 0 (M.2 0 - 1 + 1) = _
        rw [up_up, hM]
        rfl
      · show up (up M.1 1 _) 1 _ i = _
        rw [up_ne _ _ hi, up_ne _ _ hi]
    · have hne : ¬ M.2 0 = 4 := by
        rw [hM]
        intro z
        exact h4 ((nI_eq (b := 4) (by omega) (by omega)).mp z)
      have e4 : X7_changes_J13 M 4 (M.2 0) = some M := by
        unfold X7_changes_J13
        rw [if_neg hne]
      rw [bind_some' e4, bind_some' (changes_put M (by omega) hM)]
      refine ⟨_, rfl, ⟨⟨t, ht, hM, Or.inr ⟨hr, ?_, ?_⟩⟩, rfl, rfl, rfl⟩, fun i hi => ?_⟩
      · show (fun j => if 156 * t ≤ j ∧ j < 156 * t + 156 then M.1 0 (j - 156 * t) else M.1 1 j) = npst (M.1 1) (M.1 0) t
        unfold npst
        rw [if_neg h4]
      · show up M.2 0 (M.2 0 + 1) = _
        rw [hM, nI_1, Nat.min_eq_left (by omega)]
      · show up M.1 1 _ i = _
        rw [up_ne _ _ hi]
  · rw [if_neg (by rw [hr]; decide)]
    exact ⟨M, rfl, ⟨⟨t, ht, hM, Or.inl ⟨hr, rfl, rfl⟩⟩, rfl, rfl, rfl⟩, fun _ _ => rfl⟩
/-- what an order or a change does on both sides -/
def OPS (M : SMod) (cls : Option (SPar × Int32)) (mo : Option (SMod × Int32)) : Prop :=
  ∃ P' M' r, cls = some (P', r) ∧ mo = some (M', r) ∧ ((r < 0 ∧ KeepS M M') ∨ (0 ≤ r ∧ AB P' (M'.1 0) ∧ CH M M'))
/-! numbers in their ranges -/
theorem who (x : Int32) {n : Nat} (hn : n ≤ 1000) : (∃ p, p < n ∧ x = nI p ∧ (if x < 0 then (0 : Int32) else if nI n ≤ x then 0 else 1) = 1 ∧ X7_in x 0 (nI n - 1) = 1) ∨ ((if x < 0 then (0 : Int32) else if nI n ≤ x then 0 else 1) = 0 ∧ X7_in x 0 (nI n - 1) = 0) := by
  unfold X7_in
  rcases pk_ix x (n := n) (by omega) with h | h | ⟨p, h1, h2⟩
  · right
    rw [if_pos h, if_pos h]
    exact ⟨rfl, rfl⟩
  · by_cases h0 : x < 0
    · right
      rw [if_pos h0, if_pos h0]
      exact ⟨rfl, rfl⟩
    · right
      rw [if_neg h0, if_neg h0, if_pos h, if_pos]
      · exact ⟨rfl, rfl⟩
      · obtain ⟨j, h1, h2⟩ := nI_of h0
        rw [h2] at h ⊢
        have h3 := (nI_leI (by omega) (by omega)).mp h
        match n, h3, hn with
        | 0, _, _ =>
          rw [Int32.lt_iff_toInt_lt, nI_toInt (by omega)]
          have : (nI 0 - 1).toInt = -1 := by decide
          omega
        | m + 1, h3, _ =>
          rw [nI_pred]
          exact nI_lt (by omega) (by omega)
  · left
    subst h2
    refine ⟨p, h1, rfl, ?_, ?_⟩
    · rw [if_neg (nI_pos (by omega)), if_neg (nI_ge h1 (by omega))]
    · obtain ⟨m, rfl⟩ : ∃ m, n = m + 1 := ⟨n - 1, by omega⟩
      rw [if_neg (nI_pos (by omega)), nI_pred, if_neg (nI_nlt (by omega) (by omega))]
theorem inC (x : Int32) {a b : Nat} (hab : a ≤ b) (hb : b ≤ 1000) : (∃ m, a ≤ m ∧ m ≤ b ∧ x = nI m ∧ X6_isIn x (nI a) (nI b) = 1 ∧ X7_in x (nI a) (nI b) = 1) ∨ (X6_isIn x (nI a) (nI b) = 0 ∧ X7_in x (nI a) (nI b) = 0) := by
  have e : X6_isIn x (nI a) (nI b) = X7_in x (nI a) (nI b) := rfl
  rw [e]
  unfold X7_in
  by_cases h1 : x < nI a
  · rw [if_pos h1]
    exact Or.inr ⟨rfl, rfl⟩
  · by_cases h2 : nI b < x
    · rw [if_neg h1, if_pos h2]
      exact Or.inr ⟨rfl, rfl⟩
    · left
      rw [if_neg h1, if_neg h2]
      have h0 : ¬ x < 0 := by
        intro z
        refine h1 (Int32.lt_iff_toInt_lt.mpr ?_)
        have := Int32.lt_iff_toInt_lt.mp z
        rw [Int32.toInt_zero] at this
        rw [nI_toInt (by omega)]
        omega
      obtain ⟨j, h3, rfl⟩ := nI_of h0
      refine ⟨j, ?_, ?_, rfl, rfl, rfl⟩
      · rcases Nat.lt_or_ge j a with z | z
        · exact absurd (nI_lt z (by omega)) h1
        · exact z
      · rcases Nat.lt_or_ge b j with z | z
        · exact absurd (nI_lt z (by omega)) h2
        · exact z
