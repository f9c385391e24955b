/-! what turning a group brings -/
def jI (z : Int) : Int32 := Int32.ofInt z
theorem jI_add (a b : Int) : jI a + jI b = jI (a + b) := (Int32.ofInt_add a b).symm
theorem jI_sub (a b : Int) : jI a - jI b = jI (a - b) := (Int32.ofInt_sub a b).symm
theorem jI_mul (a b : Int) : jI a * jI b = jI (a * b) := (Int32.ofInt_mul a b).symm
theorem jI_neg (a : Int) : -jI a = jI (-a) := (Int32.ofInt_neg a).symm
theorem jI_n (n : Nat) : nI n = jI (n : Int) := (Int32.ofInt_eq_ofNat).symm
theorem jI_toInt {a : Int} (h1 : -100000 ≤ a) (h2 : a ≤ 100000) : (jI a).toInt = a := Int32.toInt_ofInt_of_le (by omega) (by omega)
theorem jI_le {a b : Int} (h1 : -100000 ≤ a) (h2 : a ≤ 100000) (h3 : -100000 ≤ b) (h4 : b ≤ 100000) : jI a ≤ jI b ↔ a ≤ b := by
  rw [Int32.le_iff_toInt_le, jI_toInt h1 h2, jI_toInt h3 h4]
theorem jI_lt {a b : Int} (h1 : -100000 ≤ a) (h2 : a ≤ 100000) (h3 : -100000 ≤ b) (h4 : b ≤ 100000) : jI a < jI b ↔ a < b := by
  rw [Int32.lt_iff_toInt_lt, jI_toInt h1 h2, jI_toInt h3 h4]
theorem jI_0 : (0 : Int32) = jI 0 := rfl
theorem jI_2 : (2 : Int32) = jI 2 := rfl
def smI (f : Nat → Int) : Nat → Int
  | 0 => 0
  | k + 1 => smI f k + f k
theorem sm_jI {f : Nat → Int32} {F : Nat → Int} : ∀ {n : Nat}, (∀ k, k < n → f k = jI (F k)) → sm f n = jI (smI F n) := by
  intro n
  induction n with
  | zero => intro _; rfl
  | succ n ih =>
    intro h
    show sm f n + f n = jI (smI F n + F n)
    rw [ih (fun k hk => h k (by omega)), h n (by omega), jI_add]
theorem smI_cong {f g : Nat → Int} : ∀ {n : Nat}, (∀ k, k < n → f k = g k) → smI f n = smI g n := by
  intro n
  induction n with
  | zero => intro _; rfl
  | succ n ih =>
    intro h
    show smI f n + f n = smI g n + g n
    rw [ih (fun k hk => h k (by omega)), h n (by omega)]
theorem smI_bd {f : Nat → Int} {B : Int} (hB : 0 ≤ B) : ∀ {n : Nat}, (∀ k, k < n → -B ≤ f k ∧ f k ≤ B) → -(B * n) ≤ smI f n ∧ smI f n ≤ B * n := by
  intro n
  induction n with
  | zero => intro _; exact ⟨by show -(B * 0) ≤ 0; omega, by show (0 : Int) ≤ B * 0; omega⟩
  | succ n ih =>
    intro h
    have h1 := ih (fun k hk => h k (by omega))
    have h2 := h n (by omega)
    have e : B * ((n + 1 : Nat) : Int) = B * n + B := by rw [Int.natCast_succ, Int.mul_add, Int.mul_one]
    rw [e]
    show -(B * n + B) ≤ smI f n + f n ∧ smI f n + f n ≤ B * n + B
    omega
theorem smI_lin {f a y : Nat → Int} : ∀ {n : Nat}, (∀ k, k < n → f k = a k - y k - y k) → smI f n = smI a n - smI y n - smI y n := by
  intro n
  induction n with
  | zero => intro _; rfl
  | succ n ih =>
    intro h
    have h1 := ih (fun k hk => h k (by omega))
    have h2 := h n (by omega)
    show smI f n + f n = (smI a n + a n) - (smI y n + y n) - (smI y n + y n)
    omega
theorem smI_zero {f : Nat → Int} : ∀ {n : Nat}, (∀ k, k < n → f k = 0) → smI f n = 0 := by
  intro n
  induction n with
  | zero => intro _; rfl
  | succ n ih =>
    intro h
    show smI f n + f n = 0
    rw [ih (fun k hk => h k (by omega)), h n (by omega)]
    rfl
/-- what turning the group of the lowest puppet k brings -/
def GI (n : Nat) (q : Grp) (v : Nat → Int32) (sI : Nat → Int) (k : Nat) (j : Nat) : Int := if q.1 j = k then (if v j = 1 then -(sI j) else sI j) else 0
theorem gs_none {c : Nat → Bool} : ∀ {n : Nat}, (∀ k, k < n → c k = false) → gs c n = 0 := by
  intro n
  induction n with
  | zero => intro _; rfl
  | succ n ih =>
    intro h
    have e : gs c (n + 1) = if c n then gs c n ||| (1 <<< (nI n &&& 31)) else gs c n := rfl
    rw [e, h n (by omega), if_neg (by decide), ih (fun k hk => h k (by omega))]
theorem yesVoters_spec {P : SPar} {n : Nat} (hn : n ≤ 12) (h0 : P.2.1 0 = nI n) (hv : ∀ k, k < n → (P.1 5 k = 0 ∨ P.1 5 k = 1)) : X1_yesVoters P = some (gs (fun k => decide (P.1 5 k = 1)) n) := by
  unfold X1_yesVoters
  refine bind_some' (loop_it (f := fun fu t i => X1_yesVoters_L4 fu P t i) (n := n) _ (fun t => t) (by omega) ?_ ?_ _)
  · intro fu k t hk
    have a5 : rget 12 (P.1 5) (nI k) = P.1 5 k := rget_n _ (by omega) (by omega)
    show X1_yesVoters_L4 (fu + 1) P t (nI k) = X1_yesVoters_L4 fu P (if decide (P.1 5 k = 1) = true then t ||| (1 <<< (nI k &&& 31)) else t) (nI (k + 1))
    rw [X1_yesVoters_L4, h0, if_neg (nI_ge hk (by omega)), a5, nI_1]
    rcases hv k hk with e | e
    · have e2 : (0 : Int32) <<< (nI k &&& 31) = 0 := by
        have : ∀ k : Nat, k < 12 → (0 : Int32) <<< (nI k &&& 31) = 0 := by decide +kernel
        exact this k (by omega)
      rw [e, e2, Int32.or_zero, if_neg (by decide)]
    · rw [e, if_pos (by decide)]
  · intro fu t
    show X1_yesVoters_L4 (fu + 1) P t (nI n) = _
    rw [X1_yesVoters_L4, h0, if_pos (nI_le (Nat.le_refl n) (by omega))]
/-- the class's number for the group of k is twice what turning it brings -/
theorem gainC_spec {P : SPar} {n k : Nat} {se le pu : Nat → Int32} {L : List Str4} {g : Nat → Int32} {sI : Nat → Int} (hA : AW n se le pu L g) (hP : RC P n se le pu L g) (hs : ∀ k, k < n → se k = jI (sI k)) :
    ∃ u1 u2, X1_seatsIn P (gs (fun j => decide ((grp L).1 j = k)) n &&& gs (fun j => decide (P.1 5 j = 1)) n) = some u1 ∧ X1_seatsIn P (gs (fun j => decide ((grp L).1 j = k)) n) = some u2 ∧ 2 * ((u2 - u1) - u1) = jI (2 * smI (GI n (grp L) (P.1 5) sI k) n) := by
  have hn := hA.1
  refine ⟨_, _, seatsIn_spec _ hn hP.1, seatsIn_spec _ hn hP.1, ?_⟩
  have ha : sm (fun j => if bt (gs (fun j => decide ((grp L).1 j = k)) n) j then se j else 0) n = jI (smI (fun j => if (grp L).1 j = k then sI j else 0) n) := by
    refine sm_jI (fun j hj => ?_)
    show (if bt (gs (fun j => decide ((grp L).1 j = k)) n) j = true then se j else 0) = jI (if (grp L).1 j = k then sI j else 0)
    rw [gs_bt hn, decide_eq_true hj, Bool.true_and]
    by_cases c : (grp L).1 j = k
    · rw [if_pos (decide_eq_true c), if_pos c, hs j hj]
    · rw [if_neg (by rw [decide_eq_false c]; decide), if_neg c]
      rfl
  have hy : sm (fun j => if bt (gs (fun j => decide ((grp L).1 j = k)) n &&& gs (fun j => decide (P.1 5 j = 1)) n) j then se j else 0) n = jI (smI (fun j => if (grp L).1 j = k then (if P.1 5 j = 1 then sI j else 0) else 0) n) := by
    refine sm_jI (fun j hj => ?_)
    show (if bt (gs (fun j => decide ((grp L).1 j = k)) n &&& gs (fun j => decide (P.1 5 j = 1)) n) j = true then se j else 0) = jI (if (grp L).1 j = k then (if P.1 5 j = 1 then sI j else 0) else 0)
    rw [bt_and, gs_bt hn, gs_bt hn, decide_eq_true hj, Bool.true_and, Bool.true_and]
    by_cases c : (grp L).1 j = k
    · by_cases c2 : P.1 5 j = 1
      · rw [decide_eq_true c, decide_eq_true c2, if_pos (by decide), if_pos c, if_pos c2, hs j hj]
      · rw [decide_eq_true c, decide_eq_false c2, if_neg (by decide), if_pos c, if_neg c2]
        rfl
    · rw [decide_eq_false c, Bool.false_and, if_neg (by decide), if_neg c]
      rfl
  have hl : smI (GI n (grp L) (P.1 5) sI k) n = smI (fun j => if (grp L).1 j = k then sI j else 0) n - smI (fun j => if (grp L).1 j = k then (if P.1 5 j = 1 then sI j else 0) else 0) n - smI (fun j => if (grp L).1 j = k then (if P.1 5 j = 1 then sI j else 0) else 0) n := by
    refine smI_lin (fun j hj => ?_)
    unfold GI
    by_cases c : (grp L).1 j = k
    · by_cases c2 : P.1 5 j = 1
      · rw [if_pos c, if_pos c, if_pos c, if_pos c2, if_pos c2]
        omega
      · rw [if_pos c, if_pos c, if_pos c, if_neg c2, if_neg c2]
        omega
    · rw [if_neg c, if_neg c, if_neg c]
      rfl
  rw [ha, hy, hl, jI_sub, jI_sub, jI_2, jI_mul]
/-- but the row of gains -/
def KeepG (M M' : SMod) : Prop := (∀ i, i ≠ 7 → M'.1 i = M.1 i) ∧ M'.2 = M.2
theorem KeepG.tr {P Q R : SMod} (h1 : KeepG P Q) (h2 : KeepG Q R) : KeepG P R := ⟨fun i a => (h2.1 i a).trans (h1.1 i a), h2.2.trans h1.2⟩
theorem KeepG.k {M M' : SMod} (h : KeepG M M') : KeepS M M' := ⟨fun i _ _ _ h7 => h.1 i h7, h.2⟩
def sm7 (M : SMod) (v : Nat → Int32) : SMod := (up M.1 7 v, M.2)
theorem sm7_k (M : SMod) (v : Nat → Int32) : KeepG M (sm7 M v) := ⟨fun i h7 => up_ne M.1 v h7, rfl⟩
theorem gainM_spec {M : SMod} {n k c : Nat} {se le pu : Nat → Int32} {L : List Str4} {q : Grp} {v : Nat → Int32} {sI : Nat → Int} (hn : n ≤ 12) (hM : RMB (M.1 0) n se le pu L) (hl : LK M q n) (hq : ∀ k, q.1 k ≤ k) (hv : ∀ j, j < n → M.1 6 j = v j) (hs : ∀ k, k < n → se k = jI (sI k)) (hk : k < n) (hc : c < 12) :
    ∃ M', X7_gains_L35 FUEL (sm7 M (upd (M.1 7) c 0)) (nI c) (nI k) (nI k) = some M' ∧ M' = sm7 M (upd (M.1 7) c (jI (smI (GI n q v sI k) n))) := by
  obtain ⟨r, h1, h2⟩ := loop_FUEL (f := fun fu (K : SMod) i => X7_gains_L35 fu K (nI c) (nI k) i) (n := n)
    (fun j K => k ≤ j ∧ K = sm7 M (upd (M.1 7) c (jI (smI (GI n q v sI k) j)))) (fun K => K = sm7 M (upd (M.1 7) c (jI (smI (GI n q v sI k) n)))) (by omega)
    (by
      rintro fu j K hj ⟨hkj, rfl⟩
      right
      refine ⟨_, ⟨by omega, rfl⟩, ?_⟩
      have e148 : (sm7 M (upd (M.1 7) c (jI (smI (GI n q v sI k) j)))).1 0 (Int32.toNatClampNeg 148) = nI n := hM.1
      have e0 : X7_of (sm7 M (upd (M.1 7) c (jI (smI (GI n q v sI k) j)))) (nI j) 0 = some (se j) := by rw [← (hM.2.1 j hj).1]; exact of_spec (sm7 M (upd (M.1 7) c (jI (smI (GI n q v sI k) j)))) (k := j) (c := 0) (by omega)
      have e4 : (sm7 M (upd (M.1 7) c (jI (smI (GI n q v sI k) j)))).1 4 j = nI (q.1 j) := (hl j hj).1
      have e6 : (sm7 M (upd (M.1 7) c (jI (smI (GI n q v sI k) j)))).1 6 j = v j := hv j hj
      have e7 : (sm7 M (upd (M.1 7) c (jI (smI (GI n q v sI k) j)))).1 7 c = jI (smI (GI n q v sI k) j) := pk_us
      have qj := hq j
      have hJ : X7_gains_J54 (sm7 M (upd (M.1 7) c (jI (smI (GI n q v sI k) j)))) (nI c) (nI k) (nI j) (nI k) (nI (q.1 j)) = some (jI (if q.1 j = k then sI j else 0)) := by
        unfold X7_gains_J54
        by_cases d : q.1 j = k
        · rw [if_pos (by rw [d]), if_pos d, bind_some' e0, hs j hj]
        · rw [if_neg (by rw [nI_eq (by omega) (by omega)]; exact d), if_neg d]
          rfl
      have hup : ∀ x y : Int32, (up (sm7 M (upd (M.1 7) c x)).1 7 (upd ((sm7 M (upd (M.1 7) c x)).1 7) c y), (sm7 M (upd (M.1 7) c x)).2) = sm7 M (upd (M.1 7) c y) := by
        intro x y
        show (up (up M.1 7 (upd (M.1 7) c x)) 7 (upd (upd (M.1 7) c x) c y), M.2) = _
        rw [up_up]
        have : upd (upd (M.1 7) c x) c y = upd (M.1 7) c y := by
          funext i
          rw [upd_at, upd_at, upd_at]
          by_cases hi : i = c
          · rw [if_pos hi, if_pos hi]
          · rw [if_neg hi, if_neg hi, if_neg hi]
        rw [this]
        rfl
      show X7_gains_L35 (fu + 1) _ (nI c) (nI k) (nI j) = X7_gains_L35 fu (sm7 M (upd (M.1 7) c (jI (smI (GI n q v sI k) j + GI n q v sI k j)))) (nI c) (nI k) (nI (j + 1))
      rw [X7_gains_L35, e148, if_neg (nI_ge hj (by omega)), if_pos (ixg (by omega) (by omega)), nI_clamp (by omega), e4, e6, bind_some' hJ, if_pos (ixg (by omega) (by omega)), nI_clamp (by omega), e7, nI_1, jI_neg, jI_add, jI_add, hup, hup]
      unfold bnd
      by_cases d2 : v j = 1
      · rw [if_pos d2]
        congr 5
        unfold GI
        by_cases d : q.1 j = k
        · rw [if_pos d, if_pos d, if_pos d2]
        · rw [if_neg d, if_neg d]
          rfl
      · rw [if_neg d2]
        congr 5
        unfold GI
        by_cases d : q.1 j = k
        · rw [if_pos d, if_pos d, if_neg d2]
        · rw [if_neg d, if_neg d])
    (by
      rintro fu K ⟨-, rfl⟩
      have e148 : (sm7 M (upd (M.1 7) c (jI (smI (GI n q v sI k) n)))).1 0 (Int32.toNatClampNeg 148) = nI n := hM.1
      refine ⟨_, rfl, ?_⟩
      show X7_gains_L35 (fu + 1) _ (nI c) (nI k) (nI n) = _
      rw [X7_gains_L35, e148, if_pos (nI_le (Nat.le_refl n) (by omega))])
    (k := k) (s := sm7 M (upd (M.1 7) c 0)) (x := nI k) (by omega) rfl ⟨Nat.le_refl k, by
      rw [smI_zero (fun j hj => by
        unfold GI
        have := hq j
        rw [if_neg (by omega)])]
      rfl⟩
  exact ⟨r, h2, h1⟩
