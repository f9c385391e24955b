/-! walks from puppet to puppet -/
def eb (x : Str4) : Int32 := (1 <<< (nI x.1 &&& 31)) ||| (1 <<< (nI x.2.1 &&& 31))
def Fs (L : List Str4) (x : Int32) : Int32 := it (fun k (t : Int32) => if x &&& eb (sg L k) = 0 then t else t ||| eb (sg L k)) L.length x
theorem further_spec {K : SStr} {n : Nat} {L : List Str4} (x : Int32) (hn : n ≤ 12) (hK : RS K L) (hin : InL L n) : X3_oneStringFurther K x = some (Fs L x) := by
  unfold X3_oneStringFurther
  have hlen := hK.2.1
  refine bind_some' (loop_it (f := fun fu t i => X3_oneStringFurther_L4 fu K x t i) (n := L.length) _ (fun t => t) (by omega) ?_ ?_ _)
  · intro fu k t hk
    have a0 : rget 20 (K.1 0) (nI k) = nI (sg L k).1 := by rw [rget_n _ (by omega) (by omega), (hK.2.2 k hk).1]
    have a1 : rget 20 (K.1 1) (nI k) = nI (sg L k).2.1 := by rw [rget_n _ (by omega) (by omega), (hK.2.2 k hk).2.1]
    show X3_oneStringFurther_L4 (fu + 1) K x t (nI k) = X3_oneStringFurther_L4 fu K x (if x &&& eb (sg L k) = 0 then t else t ||| eb (sg L k)) (nI (k + 1))
    rw [X3_oneStringFurther_L4, hK.1, if_neg (nI_ge hk (by omega)), a0, a1, nI_1]
    unfold eb
    split <;> rfl
  · intro fu t
    show X3_oneStringFurther_L4 (fu + 1) K x t (nI L.length) = _
    rw [X3_oneStringFurther_L4, hK.1, if_pos (nI_le (Nat.le_refl _) (by omega))]
theorem reached_spec {M : SMod} {n : Nat} {se le pu : Nat → Int32} {L : List Str4} (x : Int32) (hM : RMB (M.1 0) n se le pu L) : X7_reached M x = some (Fs L x) := by
  unfold X7_reached
  have hlen := hM.2.2.2.1
  refine bind_some' (loop_it (f := fun fu t i => X7_reached_L4 fu M x t i) (n := L.length) _ (fun t => t) (by omega) ?_ ?_ _)
  · intro fu k t hk
    have e149 : M.1 0 (Int32.toNatClampNeg 149) = nI L.length := hM.2.2.1
    have a0 : X7_tied M (nI k) 0 = some (nI (sg L k).1) := by rw [← (hM.2.2.2.2 k hk).1]; exact tied_spec M (k := k) (c := 0) (by omega)
    have a1 : X7_tied M (nI k) 1 = some (nI (sg L k).2.1) := by rw [← (hM.2.2.2.2 k hk).2.1]; exact tied_spec M (k := k) (c := 1) (by omega)
    show X7_reached_L4 (fu + 1) M x t (nI k) = X7_reached_L4 fu M x (if x &&& eb (sg L k) = 0 then t else t ||| eb (sg L k)) (nI (k + 1))
    rw [X7_reached_L4, e149, if_neg (nI_ge hk (by omega)), bind_some' a0, bind_some' a1, nI_1, Int32.or_zero]
    unfold eb
    split <;> rfl
  · intro fu t
    have e149 : M.1 0 (Int32.toNatClampNeg 149) = nI L.length := hM.2.2.1
    show X7_reached_L4 (fu + 1) M x t (nI L.length) = _
    rw [X7_reached_L4, e149, if_pos (nI_le (Nat.le_refl _) (by omega))]
theorem bt_ext {x y : Int32} (h : ∀ k, bt x k = bt y k) : x = y := by
  apply Int32.toBitVec_inj.mp
  exact BitVec.eq_of_getLsbD_eq (fun i _ => h i)
theorem eb_bt {x : Str4} {k : Nat} (h1 : x.1 < 12) (h2 : x.2.1 < 12) (hk : bt (eb x) k = true) : k < 12 := by
  unfold eb at hk
  rw [bt_or, bt_one h1, bt_one h2, Bool.or_eq_true, decide_eq_true_eq, decide_eq_true_eq] at hk
  omega
theorem it_grow {L : List Str4} {n : Nat} {x : Int32} (hn : n ≤ 12) (hin : InL L n) : ∀ m, m ≤ L.length → ∀ k, (bt x k = true → bt (it (fun k (t : Int32) => if x &&& eb (sg L k) = 0 then t else t ||| eb (sg L k)) m x) k = true) ∧ (bt (it (fun k (t : Int32) => if x &&& eb (sg L k) = 0 then t else t ||| eb (sg L k)) m x) k = true → bt x k = true ∨ k < 12) := by
  intro m
  induction m with
  | zero => intro _ k; exact ⟨fun z => z, fun z => Or.inl z⟩
  | succ m ih =>
    intro hm k
    obtain ⟨i1, i2⟩ := ih (by omega) k
    have hx := hin _ (sg_mem (show m < L.length by omega))
    have e : it (fun k (t : Int32) => if x &&& eb (sg L k) = 0 then t else t ||| eb (sg L k)) (m + 1) x = if x &&& eb (sg L m) = 0 then it (fun k (t : Int32) => if x &&& eb (sg L k) = 0 then t else t ||| eb (sg L k)) m x else it (fun k (t : Int32) => if x &&& eb (sg L k) = 0 then t else t ||| eb (sg L k)) m x ||| eb (sg L m) := rfl
    rw [e]
    split
    · exact ⟨i1, i2⟩
    · rw [bt_or, Bool.or_eq_true]
      refine ⟨fun z => Or.inl (i1 z), fun z => ?_⟩
      rcases z with z | z
      · exact i2 z
      · exact Or.inr (eb_bt (by omega) (by omega) z)
theorem Fs_up {L : List Str4} {n : Nat} {x : Int32} (hn : n ≤ 12) (hin : InL L n) {k : Nat} (h : bt x k = true) : bt (Fs L x) k = true := (it_grow hn hin L.length (Nat.le_refl _) k).1 h
theorem Fs_dn {L : List Str4} {n : Nat} {x : Int32} (hn : n ≤ 12) (hin : InL L n) {k : Nat} (h : bt (Fs L x) k = true) : bt x k = true ∨ k < 12 := (it_grow hn hin L.length (Nat.le_refl _) k).2 h
def cb (x : Int32) : Nat := sN (fun k => if bt x k then 1 else 0) 12
theorem Fs_cb {L : List Str4} {n : Nat} {x : Int32} (hn : n ≤ 12) (hin : InL L n) (h : Fs L x ≠ x) : cb x < cb (Fs L x) := by
  have hex : ∃ k, k < 12 ∧ bt (Fs L x) k = true ∧ bt x k = false := by
    apply Classical.byContradiction
    intro hno
    refine h (bt_ext (fun k => ?_))
    cases hk : bt x k with
    | true => exact Fs_up hn hin hk
    | false =>
      cases hk2 : bt (Fs L x) k with
      | false => rfl
      | true =>
        rcases Fs_dn hn hin hk2 with z | z
        · rw [hk] at z
          exact absurd z (by decide)
        · exact absurd ⟨k, z, hk2, hk⟩ hno
  obtain ⟨k, h1, h2, h3⟩ := hex
  unfold cb
  refine sN_lt (j := k) (fun i => ?_) ?_ 12 h1
  · cases hi : bt x i with
    | true => rw [Fs_up hn hin hi]; exact Nat.le_refl _
    | false => rw [if_neg (by decide)]; exact Nat.zero_le _
  · show (if bt x k = true then 1 else 0) < if bt (Fs L x) k = true then 1 else 0
    rw [h2, h3]
    decide
theorem cb_le (x : Int32) : cb x ≤ 12 := by
  have h : ∀ n, sN (fun k => if bt x k then 1 else 0) n ≤ n := by
    intro n
    induction n with
    | zero => exact Nat.le_refl 0
    | succ n ih =>
      show sN (fun k => if bt x k then 1 else 0) n + (if bt x n then 1 else 0) ≤ n + 1
      split <;> omega
  exact h 12
theorem cb_pos {x : Int32} {j : Nat} (hj : j < 12) (h : bt x j = true) : 1 ≤ cb x := by
  unfold cb
  have := sN_lt (f := fun _ => 0) (g := fun k => if bt x k then 1 else 0) (fun i => Nat.zero_le _) (j := j) (by rw [h]; decide) 12 hj
  omega
def fi (L : List Str4) (x : Int32) : Nat → Int32
  | 0 => x
  | t + 1 => Fs L (fi L x t)
theorem fi_grow {L : List Str4} {n : Nat} {x : Int32} (hn : n ≤ 12) (hin : InL L n) : ∀ T, (∀ t, t < T → fi L x (t + 1) ≠ fi L x t) → cb x + T ≤ cb (fi L x T) := by
  intro T
  induction T with
  | zero => intro _; exact Nat.le_refl _
  | succ T ih =>
    intro h
    have h1 := ih (fun t ht => h t (by omega))
    have h2 := Fs_cb hn hin (h T (by omega))
    show cb x + (T + 1) ≤ cb (Fs L (fi L x T))
    omega
theorem fi_T {L : List Str4} {n : Nat} {x : Int32} {j : Nat} (hn : n ≤ 12) (hin : InL L n) (hj : j < 12) (hx : bt x j = true) {T : Nat} (h : ∀ t, t < T → fi L x (t + 1) ≠ fi L x t) : T ≤ 11 := by
  have h1 := fi_grow hn hin T h
  have h2 := cb_le (fi L x T)
  have h3 := cb_pos hj hx
  omega
theorem fi_stay {L : List Str4} {x : Int32} {t : Nat} (h : fi L x (t + 1) = fi L x t) : ∀ d, fi L x (t + d) = fi L x t := by
  intro d
  induction d with
  | zero => rfl
  | succ d ih =>
    show Fs L (fi L x (t + d)) = _
    rw [ih]
    exact h
/-- the fewest strings from x to o -/
def BW (L : List Str4) (x : Int32) (o : Nat) (r : Int32) : Prop := (∃ m, m < 12 ∧ bt (fi L x m) o = true ∧ (∀ s, s < m → ¬ bt (fi L x s) o = true) ∧ r = nI m) ∨ ((∀ m, m < 12 → ¬ bt (fi L x m) o = true) ∧ r = -1000004)
theorem BW.one {L : List Str4} {x : Int32} {o : Nat} {r r' : Int32} (h : BW L x o r) (h' : BW L x o r') : r = r' := by
  rcases h with ⟨m, h1, h2, h3, rfl⟩ | ⟨h1, rfl⟩ <;> rcases h' with ⟨m', g1, g2, g3, rfl⟩ | ⟨g1, rfl⟩
  · rcases Nat.lt_trichotomy m m' with z | z | z
    · exact absurd h2 (g3 m z)
    · rw [z]
    · exact absurd g2 (h3 m' z)
  · exact absurd h2 (g1 m h1)
  · exact absurd g2 (h1 m' g1)
  · rfl
theorem o_between : Op_between Rel := by
  intro K M a0 a1 h
  obtain ⟨n, se, le, pu, L, g, hA, hP, hM, hE⟩ := id h.1
  have hn := hA.1
  rcases pupB hn hP.1.1 hM.1 a0 with ⟨p, hp, rfl, e1, e2⟩ | ⟨e1, e2⟩
  case inr =>
    refine ⟨-1000001, -1000001, ?_, ?_, rfl, h⟩
    · unfold X6_between
      rw [e1, if_pos rfl]
    · unfold X7_between
      rw [bind_some' e2, if_pos rfl]
  rcases pupB hn hP.1.1 hM.1 a1 with ⟨o, ho, rfl, e3, e4⟩ | ⟨e3, e4⟩
  case inr =>
    refine ⟨-1000001, -1000001, ?_, ?_, rfl, h⟩
    · unfold X6_between
      rw [e1, if_neg (by decide), e3, if_pos rfl]
    · unfold X7_between
      rw [bind_some' e2, if_neg (by decide), bind_some' e4, if_pos rfl]
  have hx0 : bt (1 <<< (nI p &&& 31)) p = true := by rw [bt_one (by omega), decide_eq_true rfl]
  generalize hx : (1 : Int32) <<< (nI p &&& 31) = x at hx0
  have hc : ∃ r, BW L x o r ∧ X6_between_L32 FUEL K (nI o) x 0 = some r := by
    obtain ⟨r, r1, r2⟩ := loop_FUEL (f := fun fu (s : Int32) i => X6_between_L32 fu K (nI o) s i) (n := 12) (fun k s => s = fi L x k ∧ ∀ j, j < k → ¬ bt (fi L x j) o = true) (BW L x o) (by omega)
      (by
        rintro fu k s hk ⟨rfl, hno⟩
        have go : X6_between_L32 (fu + 1) K (nI o) (fi L x k) (nI k) = if bt (fi L x k) o = true then some (nI k) else X6_between_L32 fu K (nI o) (fi L x (k + 1)) (nI (k + 1)) := by
          rw [X6_between_L32, if_neg (show ¬ (12 : Int32) ≤ nI k from nI_ge (b := 12) hk (by omega)), mem_bt (by omega), bind_some' (further_spec _ hn hP.2.1 hA.2.1), nI_1]
          cases hb : bt (fi L x k) o
          · rw [if_pos (show (if false = true then (1 : Int32) else 0) = 0 by decide), if_neg (by decide)]
            rfl
          · rw [if_pos rfl, if_neg (by decide), if_pos rfl]
        by_cases hb : bt (fi L x k) o = true
        · left
          refine ⟨nI k, Or.inl ⟨k, hk, hb, hno, rfl⟩, ?_⟩
          show X6_between_L32 (fu + 1) K (nI o) (fi L x k) (nI k) = _
          rw [go, if_pos hb]
        · right
          refine ⟨_, ⟨rfl, fun j hj => ?_⟩, ?_⟩
          · by_cases hjk : j = k
            · rw [hjk]
              exact hb
            · exact hno j (by omega)
          · show X6_between_L32 (fu + 1) K (nI o) (fi L x k) (nI k) = _
            rw [go, if_neg hb])
      (by
        rintro fu s ⟨rfl, hno⟩
        refine ⟨-1000004, Or.inr ⟨hno, rfl⟩, ?_⟩
        show X6_between_L32 (fu + 1) K (nI o) _ (nI 12) = _
        rw [X6_between_L32, if_pos (show (12 : Int32) ≤ nI 12 by decide)])
      (k := 0) (s := x) (x := 0) (by omega) rfl ⟨rfl, fun j hj => absurd hj (Nat.not_lt_zero j)⟩
    exact ⟨r, r1, r2⟩
  have hm : ∃ r, BW L x o r ∧ X7_between_L26 FUEL M (nI o) x 0 = some r := by
    obtain ⟨r, r1, r2⟩ := loop_FUEL (f := fun fu (s : Int32) i => X7_between_L26 fu M (nI o) s i) (n := 12) (fun k s => s = fi L x k ∧ (∀ j, j < k → ¬ bt (fi L x j) o = true) ∧ ∀ j, j < k → fi L x (j + 1) ≠ fi L x j) (BW L x o) (by omega)
      (by
        rintro fu k s hk ⟨rfl, hno, hfx⟩
        have go : X7_between_L26 (fu + 1) M (nI o) (fi L x k) (nI k) = if bt (fi L x k) o = true then some (nI k) else if fi L x (k + 1) = fi L x k then some (-1000004) else X7_between_L26 fu M (nI o) (fi L x (k + 1)) (nI (k + 1)) := by
          rw [X7_between_L26, at_bt (by omega), bind_some' (reached_spec _ hM), nI_1]
          cases hb : bt (fi L x k) o
          · rw [if_pos (show (if false = true then (1 : Int32) else 0) = 0 by decide), if_neg (show ¬ false = true by decide)]
            rfl
          · rw [if_pos rfl, if_neg (by decide), if_pos rfl]
        by_cases hb : bt (fi L x k) o = true
        · left
          refine ⟨nI k, Or.inl ⟨k, hk, hb, hno, rfl⟩, ?_⟩
          show X7_between_L26 (fu + 1) M (nI o) (fi L x k) (nI k) = _
          rw [go, if_pos hb]
        · by_cases hf : fi L x (k + 1) = fi L x k
          · left
            refine ⟨-1000004, Or.inr ⟨fun m _ => ?_, rfl⟩, ?_⟩
            · rcases Nat.lt_or_ge m k with z | z
              · exact hno m z
              · obtain ⟨d, rfl⟩ : ∃ d, m = k + d := ⟨m - k, by omega⟩
                rw [fi_stay hf d]
                exact hb
            · show X7_between_L26 (fu + 1) M (nI o) (fi L x k) (nI k) = _
              rw [go, if_neg hb, if_pos hf]
          · right
            refine ⟨_, ⟨rfl, fun j hj => ?_, fun j hj => ?_⟩, ?_⟩
            · by_cases hjk : j = k
              · rw [hjk]
                exact hb
              · exact hno j (by omega)
            · by_cases hjk : j = k
              · rw [hjk]
                exact hf
              · exact hfx j (by omega)
            · show X7_between_L26 (fu + 1) M (nI o) (fi L x k) (nI k) = _
              rw [go, if_neg hb, if_neg hf])
      (by
        rintro fu s ⟨rfl, hno, hfx⟩
        have := fi_T hn hA.2.1 (show p < 12 by omega) hx0 hfx
        omega)
      (k := 0) (s := x) (x := 0) (by omega) rfl ⟨rfl, fun j hj => absurd hj (Nat.not_lt_zero j), fun j hj => absurd hj (Nat.not_lt_zero j)⟩
    exact ⟨r, r1, r2⟩
  obtain ⟨r, c1, c2⟩ := hc
  obtain ⟨r', d1, d2⟩ := hm
  have hrr := c1.one d1
  subst hrr
  refine ⟨r, r, ?_, ?_, rfl, h⟩
  · unfold X6_between
    rw [e1, if_neg (by decide), e3, if_neg (by decide), hx, c2]
  · unfold X7_between
    rw [bind_some' e2, if_neg (by decide), bind_some' e4, if_neg (by decide), hx, d2]
/-! groups by walking -/
theorem walkFrom_spec {P : SPar} {n k : Nat} {L : List Str4} (hn : n ≤ 12) (hK : RS P.2.2.1 L) (hin : InL L n) : X1_walkFrom P (nI k) = some (fi L (1 <<< (nI k &&& 31)) 12) := by
  unfold X1_walkFrom
  generalize (1 : Int32) <<< (nI k &&& 31) = x
  have e : ∀ m, it (fun _ (t : Int32) => Fs L t) m x = fi L x m := by
    intro m
    induction m with
    | zero => rfl
    | succ m ih =>
      show Fs L (it (fun _ (t : Int32) => Fs L t) m x) = Fs L (fi L x m)
      rw [ih]
  rw [← e 12]
  refine bind_some' (loop_it (f := fun fu t i => X1_walkFrom_L6 fu P t i) (n := 12) _ (fun t => t) (by omega) ?_ ?_ _)
  · intro fu k t hk
    show X1_walkFrom_L6 (fu + 1) P t (nI k) = X1_walkFrom_L6 fu P (Fs L t) (nI (k + 1))
    rw [X1_walkFrom_L6, if_neg (show ¬ (12 : Int32) ≤ nI k from nI_ge (b := 12) hk (by omega)), bind_some' (further_spec _ hn hK hin), nI_1]
  · intro fu t
    show X1_walkFrom_L6 (fu + 1) P t (nI 12) = _
    rw [X1_walkFrom_L6, if_pos (show (12 : Int32) ≤ nI 12 by decide)]
theorem walk_fix {M : SMod} {n j : Nat} {se le pu : Nat → Int32} {L : List Str4} {x a b c : Int32} (hn : n ≤ 12) (hM : RMB (M.1 0) n se le pu L) (hin : InL L n) (hj : j < 12) (hx : bt x j = true) : ∀ (d t fu : Nat), t + d = 12 → d < fu → (∀ s, s < t → fi L x (s + 1) ≠ fi L x s) → X7_walked_L39 fu M a b c (fi L x t) (fi L x (t + 1)) = some (fi L x 12) := by
  intro d
  induction d with
  | zero =>
    intro t fu ht hf hfx
    have := fi_T hn hin hj hx hfx
    omega
  | succ d ih =>
    intro t fu ht hf hfx
    obtain ⟨q, rfl⟩ : ∃ q, fu = q + 1 := ⟨fu - 1, by omega⟩
    rw [X7_walked_L39]
    by_cases h : fi L x (t + 1) = fi L x t
    · rw [if_pos h, show 12 = t + (d + 1) from by omega, fi_stay h]
    · rw [if_neg h, bind_some' (reached_spec _ hM)]
      exact ih (t + 1) q (by omega) (by omega) (fun s hs => by
        by_cases hst : s = t
        · rw [hst]
          exact h
        · exact hfx s (by omega))
def cW (n : Nat) (L : List Str4) : Int32 × Int32 := it (fun k (t : Int32 × Int32) => if bt t.2 k then t else (t.1 + 1, t.2 ||| fi L (1 <<< (nI k &&& 31)) 12)) n (0, 0)
theorem walkingC_spec {P : SPar} {n : Nat} {L : List Str4} (hn : n ≤ 12) (h0 : P.2.1 0 = nI n) (hK : RS P.2.2.1 L) (hin : InL L n) : X1_groupsByWalking P = some (cW n L).1 := by
  unfold X1_groupsByWalking
  refine bind_some' (loop_it (f := fun fu (t : Int32 × Int32) i => X1_groupsByWalking_L6 fu P t.1 t.2 i) (n := n) (fun k (t : Int32 × Int32) => if bt t.2 k then t else (t.1 + 1, t.2 ||| fi L (1 <<< (nI k &&& 31)) 12)) (fun t => t.1) (by omega) ?_ ?_ (0, 0))
  · intro fu k t hk
    show X1_groupsByWalking_L6 (fu + 1) P t.1 t.2 (nI k) = X1_groupsByWalking_L6 fu P (if bt t.2 k then t else (t.1 + 1, t.2 ||| fi L (1 <<< (nI k &&& 31)) 12)).1 (if bt t.2 k then t else (t.1 + 1, t.2 ||| fi L (1 <<< (nI k &&& 31)) 12)).2 (nI (k + 1))
    rw [X1_groupsByWalking_L6, h0, if_neg (nI_ge hk (by omega)), mem_bt (by omega), bind_some' (walkFrom_spec hn hK hin), nI_1]
    cases hb : bt t.2 k
    · rw [if_pos (show (if false = true then (1 : Int32) else 0) = 0 by decide), if_neg (by decide)]
    · rw [if_pos rfl, if_neg (by decide), if_pos rfl]
  · intro fu t
    show X1_groupsByWalking_L6 (fu + 1) P t.1 t.2 (nI n) = _
    rw [X1_groupsByWalking_L6, h0, if_pos (nI_le (Nat.le_refl n) (by omega))]
theorem walked_spec {M : SMod} {n : Nat} {se le pu : Nat → Int32} {L : List Str4} (hn : n ≤ 12) (hM : RMB (M.1 0) n se le pu L) (hin : InL L n) : X7_walked M = some (cW n L).1 := by
  unfold X7_walked
  refine bind_some' (loop_it (f := fun fu (t : Int32 × Int32) i => X7_walked_L6 fu M t.2 t.1 i) (n := n) (fun k (t : Int32 × Int32) => if bt t.2 k then t else (t.1 + 1, t.2 ||| fi L (1 <<< (nI k &&& 31)) 12)) (fun t => t.1) (by omega) ?_ ?_ (0, 0))
  · intro fu k t hk
    have e148 : M.1 0 (Int32.toNatClampNeg 148) = nI n := hM.1
    have hx0 : bt (1 <<< (nI k &&& 31)) k = true := by rw [bt_one (by omega), decide_eq_true rfl]
    have hw := walk_fix (a := t.2) (b := t.1) (c := nI k) hn hM hin (show k < 12 by omega) hx0 12 0 FUEL (by omega) (by unfold FUEL; omega) (fun s hs => absurd hs (Nat.not_lt_zero s))
    have hw : X7_walked_L39 FUEL M t.2 t.1 (nI k) (1 <<< (nI k &&& 31)) (Fs L (1 <<< (nI k &&& 31))) = some (fi L (1 <<< (nI k &&& 31)) 12) := hw
    show X7_walked_L6 (fu + 1) M t.2 t.1 (nI k) = X7_walked_L6 fu M (if bt t.2 k then t else (t.1 + 1, t.2 ||| fi L (1 <<< (nI k &&& 31)) 12)).2 (if bt t.2 k then t else (t.1 + 1, t.2 ||| fi L (1 <<< (nI k &&& 31)) 12)).1 (nI (k + 1))
    rw [X7_walked_L6, e148, if_neg (nI_ge hk (by omega)), at_bt (by omega), bind_some' (reached_spec _ hM), bind_some' hw, nI_1]
    cases hb : bt t.2 k
    · rw [if_pos (show (if false = true then (1 : Int32) else 0) = 0 by decide), if_neg (by decide)]
    · rw [if_pos rfl, if_neg (by decide), if_pos rfl]
  · intro fu t
    have e148 : M.1 0 (Int32.toNatClampNeg 148) = nI n := hM.1
    show X7_walked_L6 (fu + 1) M t.2 t.1 (nI n) = _
    rw [X7_walked_L6, e148, if_pos (nI_le (Nat.le_refl n) (by omega))]
