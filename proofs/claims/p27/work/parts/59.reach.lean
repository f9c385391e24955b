/-! walks from puppet to puppet -/
def eb (x : Str4) : Int32 := (1 <<< (nI x.1 &&& 31)) ||| (1 <<< (nI x.2.1 &&& 31))
def Fs (L : List Str4) (x : Int32) : Int32 := it (fun k (t : Int32) => if x &&& eb (sg L k) = 0 then t else t ||| eb (sg L k)) L.length x
theorem further_spec {K : SStr} {n : Nat} {L : List Str4} (x : Int32) (hn : n ≤ 12) (hK : RS K L) (hin : InL L n) : X3_oneStringFurther K x = some (Fs L x) := by
  unfold X3_oneStringFurther
  have hlen := hK.2.1
  refine bind_some' (loop_it (f := fun fu t i => X3_oneStringFurther_L4 fu K x t i) (n := L.length) _ (fun t => t) (by omega) ?_ ?_ _)
  · intro fu k t hk
    have a0 : rget 20 (K.1 0) (nI k) = nI (sg L k).1 := by rw [rget_n _ (by omega) (by omega), (hK.2.2 k hk).1]
    have a1 : rget 20 (K.1 1) (nI k) = nI (sg L k).2.1 := by rw [rget_n _ (by omega) (by omega), (hK.2.2 k hk).2.1]
    show X3_oneStringFurther_L4 (fu + 1) K x t (nI k) = X3_oneStringFurther_L4 fu K x (if x &&& eb (sg L k) = 0 then t else t ||| eb (sg L k)) (nI (k + 1))
    rw [X3_oneStringFurther_L4, hK.1, if_neg (nI_ge hk (by omega)), a0, a1, nI_1]
    unfold eb
    split <;> rfl
  · intro fu t
    show X3_oneStringFurther_L4 (fu + 1) K x t (nI L.length) = _
    rw [X3_oneStringFurther_L4, hK.1, if_pos (nI_le (Nat.le_refl _) (by omega))]
theorem bt_ext {x y : Int32} (h : ∀ k, bt x k = bt y k) : x = y := by
  apply Int32.toBitVec_inj.mp
  exact BitVec.eq_of_getLsbD_eq (fun i _ => h i)
theorem eb_bt {x : Str4} {k : Nat} (h1 : x.1 < 12) (h2 : x.2.1 < 12) (hk : bt (eb x) k = true) : k < 12 := by
  unfold eb at hk
  rw [bt_or, bt_one h1, bt_one h2, Bool.or_eq_true, decide_eq_true_eq, decide_eq_true_eq] at hk
  omega
theorem it_grow {L : List Str4} {n : Nat} {x : Int32} (hn : n ≤ 12) (hin : InL L n) : ∀ m, m ≤ L.length → ∀ k, (bt x k = true → bt (it (fun k (t : Int32) => if x &&& eb (sg L k) = 0 then t else t ||| eb (sg L k)) m x) k = true) ∧ (bt (it (fun k (t : Int32) => if x &&& eb (sg L k) = 0 then t else t ||| eb (sg L k)) m x) k = true → bt x k = true ∨ k < 12) := by
  intro m
  induction m with
  | zero => intro _ k; exact ⟨fun z => z, fun z => Or.inl z⟩
  | succ m ih =>
    intro hm k
    obtain ⟨i1, i2⟩ := ih (by omega) k
    have hx := hin _ (sg_mem (show m < L.length by omega))
    have e : it (fun k (t : Int32) => if x &&& eb (sg L k) = 0 then t else t ||| eb (sg L k)) (m + 1) x = if x &&& eb (sg L m) = 0 then it (fun k (t : Int32) => if x &&& eb (sg L k) = 0 then t else t ||| eb (sg L k)) m x else it (fun k (t : Int32) => if x &&& eb (sg L k) = 0 then t else t ||| eb (sg L k)) m x ||| eb (sg L m) := rfl
    rw [e]
    split
    · exact ⟨i1, i2⟩
    · rw [bt_or, Bool.or_eq_true]
      refine ⟨fun z => Or.inl (i1 z), fun z => ?_⟩
      rcases z with z | z
      · exact i2 z
      · exact Or.inr (eb_bt (by omega) (by omega) z)
theorem Fs_up {L : List Str4} {n : Nat} {x : Int32} (hn : n ≤ 12) (hin : InL L n) {k : Nat} (h : bt x k = true) : bt (Fs L x) k = true := (it_grow hn hin L.length (Nat.le_refl _) k).1 h
theorem Fs_dn {L : List Str4} {n : Nat} {x : Int32} (hn : n ≤ 12) (hin : InL L n) {k : Nat} (h : bt (Fs L x) k = true) : bt x k = true ∨ k < 12 := (it_grow hn hin L.length (Nat.le_refl _) k).2 h
def cb (x : Int32) : Nat := sN (fun k => if bt x k then 1 else 0) 12
theorem Fs_cb {L : List Str4} {n : Nat} {x : Int32} (hn : n ≤ 12) (hin : InL L n) (h : Fs L x ≠ x) : cb x < cb (Fs L x) := by
  have hex : ∃ k, k < 12 ∧ bt (Fs L x) k = true ∧ bt x k = false := by
    apply Classical.byContradiction
    intro hno
    refine h (bt_ext (fun k => ?_))
    cases hk : bt x k with
    | true => exact Fs_up hn hin hk
    | false =>
      cases hk2 : bt (Fs L x) k with
      | false => rfl
      | true =>
        rcases Fs_dn hn hin hk2 with z | z
        · rw [hk] at z
          exact absurd z (by decide)
        · exact absurd ⟨k, z, hk2, hk⟩ hno
  obtain ⟨k, h1, h2, h3⟩ := hex
  unfold cb
  refine sN_lt (j := k) (fun i => ?_) ?_ 12 h1
  · cases hi : bt x i with
    | true => rw [Fs_up hn hin hi]; exact Nat.le_refl _
    | false => rw [if_neg (by decide)]; exact Nat.zero_le _
  · show (if bt x k = true then 1 else 0) < if bt (Fs L x) k = true then 1 else 0
    rw [h2, h3]
    decide
theorem cb_le (x : Int32) : cb x ≤ 12 := by
  have h : ∀ n, sN (fun k => if bt x k then 1 else 0) n ≤ n := by
    intro n
    induction n with
    | zero => exact Nat.le_refl 0
    | succ n ih =>
      show sN (fun k => if bt x k then 1 else 0) n + (if bt x n then 1 else 0) ≤ n + 1
      split <;> omega
  exact h 12
theorem cb_pos {x : Int32} {j : Nat} (hj : j < 12) (h : bt x j = true) : 1 ≤ cb x := by
  unfold cb
  have := sN_lt (f := fun _ => 0) (g := fun k => if bt x k then 1 else 0) (fun i => Nat.zero_le _) (j := j) (by rw [h]; decide) 12 hj
  omega
def fi (L : List Str4) (x : Int32) : Nat → Int32
  | 0 => x
  | t + 1 => Fs L (fi L x t)
theorem fi_grow {L : List Str4} {n : Nat} {x : Int32} (hn : n ≤ 12) (hin : InL L n) : ∀ T, (∀ t, t < T → fi L x (t + 1) ≠ fi L x t) → cb x + T ≤ cb (fi L x T) := by
  intro T
  induction T with
  | zero => intro _; exact Nat.le_refl _
  | succ T ih =>
    intro h
    have h1 := ih (fun t ht => h t (by omega))
    have h2 := Fs_cb hn hin (h T (by omega))
    show cb x + (T + 1) ≤ cb (Fs L (fi L x T))
    omega
theorem fi_T {L : List Str4} {n : Nat} {x : Int32} {j : Nat} (hn : n ≤ 12) (hin : InL L n) (hj : j < 12) (hx : bt x j = true) {T : Nat} (h : ∀ t, t < T → fi L x (t + 1) ≠ fi L x t) : T ≤ 11 := by
  have h1 := fi_grow hn hin T h
  have h2 := cb_le (fi L x T)
  have h3 := cb_pos hj hx
  omega
theorem fi_stay {L : List Str4} {x : Int32} {t : Nat} (h : fi L x (t + 1) = fi L x t) : ∀ d, fi L x (t + d) = fi L x t := by
  intro d
  induction d with
  | zero => rfl
  | succ d ih =>
    show Fs L (fi L x (t + d)) = _
    rw [ih]
    exact h
/-- the fewest strings from x to o -/
def BW (L : List Str4) (x : Int32) (o : Nat) (r : Int32) : Prop := (∃ m, m < 12 ∧ bt (fi L x m) o = true ∧ (∀ s, s < m → ¬ bt (fi L x s) o = true) ∧ r = nI m) ∨ ((∀ m, m < 12 → ¬ bt (fi L x m) o = true) ∧ r = -1000004)
theorem BW.one {L : List Str4} {x : Int32} {o : Nat} {r r' : Int32} (h : BW L x o r) (h' : BW L x o r') : r = r' := by
  rcases h with ⟨m, h1, h2, h3, rfl⟩ | ⟨h1, rfl⟩ <;> rcases h' with ⟨m', g1, g2, g3, rfl⟩ | ⟨g1, rfl⟩
  · rcases Nat.lt_trichotomy m m' with z | z | z
    · exact absurd h2 (g3 m z)
    · rw [z]
    · exact absurd g2 (h3 m' z)
  · exact absurd h2 (g1 m h1)
  · exact absurd g2 (h1 m' g1)
  · rfl
/-! groups by walking -/
theorem walkFrom_spec {P : SPar} {n k : Nat} {L : List Str4} (hn : n ≤ 12) (hK : RS P.2.2.1 L) (hin : InL L n) : X1_walkFrom P (nI k) = some (fi L (1 <<< (nI k &&& 31)) 12) := by
  unfold X1_walkFrom
  generalize (1 : Int32) <<< (nI k &&& 31) = x
  have e : ∀ m, it (fun _ (t : Int32) => Fs L t) m x = fi L x m := by
    intro m
    induction m with
    | zero => rfl
    | succ m ih =>
      show Fs L (it (fun _ (t : Int32) => Fs L t) m x) = Fs L (fi L x m)
      rw [ih]
  rw [← e 12]
  refine bind_some' (loop_it (f := fun fu t i => X1_walkFrom_L6 fu P t i) (n := 12) _ (fun t => t) (by omega) ?_ ?_ _)
  · intro fu k t hk
    show X1_walkFrom_L6 (fu + 1) P t (nI k) = X1_walkFrom_L6 fu P (Fs L t) (nI (k + 1))
    rw [X1_walkFrom_L6, if_neg (show ¬ (12 : Int32) ≤ nI k from nI_ge (b := 12) hk (by omega)), bind_some' (further_spec _ hn hK hin), nI_1]
  · intro fu t
    show X1_walkFrom_L6 (fu + 1) P t (nI 12) = _
    rw [X1_walkFrom_L6, if_pos (show (12 : Int32) ≤ nI 12 by decide)]
def cW (n : Nat) (L : List Str4) : Int32 × Int32 := it (fun k (t : Int32 × Int32) => if bt t.2 k then t else (t.1 + 1, t.2 ||| fi L (1 <<< (nI k &&& 31)) 12)) n (0, 0)
theorem walkingC_spec {P : SPar} {n : Nat} {L : List Str4} (hn : n ≤ 12) (h0 : P.2.1 0 = nI n) (hK : RS P.2.2.1 L) (hin : InL L n) : X1_groupsByWalking P = some (cW n L).1 := by
  unfold X1_groupsByWalking
  refine bind_some' (loop_it (f := fun fu (t : Int32 × Int32) i => X1_groupsByWalking_L6 fu P t.1 t.2 i) (n := n) (fun k (t : Int32 × Int32) => if bt t.2 k then t else (t.1 + 1, t.2 ||| fi L (1 <<< (nI k &&& 31)) 12)) (fun t => t.1) (by omega) ?_ ?_ (0, 0))
  · intro fu k t hk
    show X1_groupsByWalking_L6 (fu + 1) P t.1 t.2 (nI k) = X1_groupsByWalking_L6 fu P (if bt t.2 k then t else (t.1 + 1, t.2 ||| fi L (1 <<< (nI k &&& 31)) 12)).1 (if bt t.2 k then t else (t.1 + 1, t.2 ||| fi L (1 <<< (nI k &&& 31)) 12)).2 (nI (k + 1))
    rw [X1_groupsByWalking_L6, h0, if_neg (nI_ge hk (by omega)), mem_bt (by omega), bind_some' (walkFrom_spec hn hK hin), nI_1]
    cases hb : bt t.2 k
    · rw [if_pos (show (if false = true then (1 : Int32) else 0) = 0 by decide), if_neg (by decide)]
    · rw [if_pos rfl, if_neg (by decide), if_pos rfl]
  · intro fu t
    show X1_groupsByWalking_L6 (fu + 1) P t.1 t.2 (nI n) = _
    rw [X1_groupsByWalking_L6, h0, if_pos (nI_le (Nat.le_refl n) (by omega))]
