/-! pure ground: rows at their numbers, loops by an invariant -/
theorem rget_n {n k : Nat} (f : Nat → Int32) (h : k < n) (hn : n ≤ 1000) : rget n f (nI k) = f k := by
  unfold rget
  rw [if_neg (nI_pos (by omega)), if_neg (nI_ge h (by omega)), nI_clamp (by omega)]
theorem rput_n {n k : Nat} (f : Nat → Int32) (v : Int32) (h : k < n) (hn : n ≤ 1000) : rput n f (nI k) v = upd f k v := by
  unfold rput
  rw [if_neg (nI_pos (by omega)), if_neg (nI_ge h (by omega)), nI_clamp (by omega)]
/-- a loop that counts up to n; a state may end it -/
theorem loop_inv {σ ρ : Type} {f : Nat → σ → Int32 → Option ρ} {n : Nat} (inv : Nat → σ → Prop) (post : ρ → Prop)
    (hs : ∀ fu k s, k < n → inv k s → (∃ r, post r ∧ f (fu + 1) s (nI k) = some r) ∨ ∃ s', inv (k + 1) s' ∧ f (fu + 1) s (nI k) = f fu s' (nI (k + 1)))
    (hx : ∀ fu s, inv n s → ∃ r, post r ∧ f (fu + 1) s (nI n) = some r) :
    ∀ (d k : Nat) (s : σ) (fu : Nat), k + d = n → inv k s → d < fu → ∃ r, post r ∧ f fu s (nI k) = some r := by
  intro d
  induction d with
  | zero =>
    intro k s fu hk hi hf
    obtain ⟨g, rfl⟩ : ∃ g, fu = g + 1 := ⟨fu - 1, by omega⟩
    have : k = n := by omega
    subst this
    exact hx g s hi
  | succ d ih =>
    intro k s fu hk hi hf
    obtain ⟨g, rfl⟩ : ∃ g, fu = g + 1 := ⟨fu - 1, by omega⟩
    rcases hs g k s (by omega) hi with h | ⟨s', h1, h2⟩
    · exact h
    · obtain ⟨r, h3, h4⟩ := ih (k + 1) s' g (by omega) h1 (by omega)
      exact ⟨r, h3, h2.trans h4⟩
theorem loop_FUEL {σ ρ : Type} {f : Nat → σ → Int32 → Option ρ} {n : Nat} (inv : Nat → σ → Prop) (post : ρ → Prop) (hn : n ≤ 9000)
    (hs : ∀ fu k s, k < n → inv k s → (∃ r, post r ∧ f (fu + 1) s (nI k) = some r) ∨ ∃ s', inv (k + 1) s' ∧ f (fu + 1) s (nI k) = f fu s' (nI (k + 1)))
    (hx : ∀ fu s, inv n s → ∃ r, post r ∧ f (fu + 1) s (nI n) = some r) {k : Nat} {s : σ} {x : Int32} (hk : k ≤ n) (hx0 : x = nI k) (hi : inv k s) : ∃ r, post r ∧ f FUEL s x = some r := by
  subst hx0
  exact loop_inv inv post hs hx (n - k) k s FUEL (by omega) hi (by unfold FUEL; omega)
theorem up_at {α : Type} (f : Nat → α) (k j : Nat) (v : α) : up f k v j = if j = k then v else f j := by
  by_cases h : j = k
  · rw [if_pos h, h, up_eq]
  · rw [if_neg h, up_ne f v h]
theorem upd_at (f : Nat → Int32) (k j : Nat) (v : Int32) : upd f k v j = if j = k then v else f j := rfl
theorem bind_some' {α β : Type} {x : Option α} {a : α} {k : α → Option β} (h : x = some a) : x.bind k = k a := by rw [h]; rfl
theorem nI_zero : (0 : Int32) = nI 0 := rfl
theorem nI_one : (1 : Int32) = nI 1 := rfl
/-! strings and how they join puppets into groups -/
abbrev Str4 : Type := Nat × Nat × Int32 × Int32
abbrev Grp : Type := (Nat → Nat) × (Nat → Int32)
def jn (q : Grp) (x : Str4) : Grp :=
  if q.1 x.1 = q.1 x.2.1 then q else
    (fun k => if q.1 k = max (q.1 x.1) (q.1 x.2.1) then min (q.1 x.1) (q.1 x.2.1) else q.1 k,
     fun k => if q.1 k = max (q.1 x.1) (q.1 x.2.1) then q.2 k ^^^ ((q.2 x.1 ^^^ q.2 x.2.1) ^^^ x.2.2.1) else q.2 k)
def g0 : Grp := (fun k => k, fun _ => 0)
def grp (L : List Str4) : Grp := L.foldl jn g0
theorem jn_same {q : Grp} {x : Str4} (h : q.1 x.1 = q.1 x.2.1) : jn q x = q := by
  unfold jn
  rw [if_pos h]
theorem jn_1 {q : Grp} {x : Str4} (h : ¬ q.1 x.1 = q.1 x.2.1) (k : Nat) : (jn q x).1 k = if q.1 k = max (q.1 x.1) (q.1 x.2.1) then min (q.1 x.1) (q.1 x.2.1) else q.1 k := by
  unfold jn
  rw [if_neg h]
theorem jn_2 {q : Grp} {x : Str4} (h : ¬ q.1 x.1 = q.1 x.2.1) (k : Nat) : (jn q x).2 k = if q.1 k = max (q.1 x.1) (q.1 x.2.1) then q.2 k ^^^ ((q.2 x.1 ^^^ q.2 x.2.1) ^^^ x.2.2.1) else q.2 k := by
  unfold jn
  rw [if_neg h]
theorem jn_le {q : Grp} {x : Str4} (h : ∀ k, q.1 k ≤ k) : ∀ k, (jn q x).1 k ≤ k := by
  intro k
  by_cases hs : q.1 x.1 = q.1 x.2.1
  · rw [jn_same hs]
    exact h k
  · rw [jn_1 hs]
    have h1 := h k
    have h2 := Nat.min_le_left (q.1 x.1) (q.1 x.2.1)
    have h3 := Nat.le_max_left (q.1 x.1) (q.1 x.2.1)
    by_cases hc : q.1 k = max (q.1 x.1) (q.1 x.2.1)
    · rw [if_pos hc]
      omega
    · rw [if_neg hc]
      exact h1
theorem foldl_le {L : List Str4} : ∀ {q : Grp}, (∀ k, q.1 k ≤ k) → ∀ k, (L.foldl jn q).1 k ≤ k := by
  induction L with
  | nil => intro q h; exact h
  | cons x L ih => intro q h; exact ih (jn_le h)
theorem grp_le (L : List Str4) : ∀ k, (grp L).1 k ≤ k := foldl_le (fun k => Nat.le_refl k)
theorem grp_snoc (L : List Str4) (x : Str4) : grp (L ++ [x]) = jn (grp L) x := by
  unfold grp
  rw [List.foldl_append]
  rfl
/-- a parliament's rows tell groups q of n puppets -/
def GR (P : SPar) (q : Grp) (n : Nat) : Prop := ∀ k, k < n → P.1 3 k = nI (q.1 k) ∧ P.1 4 k = q.2 k
/-- nothing but the rows of groups differs -/
def But34 (P P' : SPar) : Prop := (∀ i, i ≠ 3 → i ≠ 4 → P'.1 i = P.1 i) ∧ P'.2 = P.2
theorem But34.rf (P : SPar) : But34 P P := ⟨fun _ _ _ => rfl, rfl⟩
theorem But34.tr {P Q R : SPar} (h1 : But34 P Q) (h2 : But34 Q R) : But34 P R := ⟨fun i a b => (h2.1 i a b).trans (h1.1 i a b), h2.2.trans h1.2⟩
theorem min_n {a b : Nat} (ha : a < 1000) (hb : b < 1000) : (if nI b < nI a then nI b else nI a) = nI (min a b) := by
  by_cases h : b < a
  · rw [if_pos (nI_lt h (by omega)), Nat.min_eq_right (by omega)]
  · rw [if_neg (nI_nlt (by omega) (by omega)), Nat.min_eq_left (by omega)]
theorem max_n {a b : Nat} (ha : a < 1000) (hb : b < 1000) : (if nI a < nI b then nI b else nI a) = nI (max a b) := by
  by_cases h : a < b
  · rw [if_pos (nI_lt h (by omega)), Nat.max_eq_right (by omega)]
  · rw [if_neg (nI_nlt (by omega) (by omega)), Nat.max_eq_left (by omega)]
/-- a parliament with other rows of groups -/
def st34 (K : SPar) (v3 v4 : Nat → Int32) : SPar := (up (up K.1 3 v3) 4 v4, K.2)
theorem st34_3 (K : SPar) (v3 v4 : Nat → Int32) : (st34 K v3 v4).1 3 = v3 := rfl
theorem st34_4 (K : SPar) (v3 v4 : Nat → Int32) : (st34 K v3 v4).1 4 = v4 := rfl
theorem st34_b (K : SPar) (v3 v4 : Nat → Int32) : But34 K (st34 K v3 v4) := ⟨fun i h3 h4 => by
  show up (up K.1 3 v3) 4 v4 i = K.1 i
  rw [up_ne _ _ h4, up_ne _ _ h3], rfl⟩
theorem joinBy_spec {P : SPar} {n j : Nat} {q : Grp} {x : Str4} (hn : n ≤ 12) (hP : P.2.1 0 = nI n) (hq : ∀ k, q.1 k ≤ k) (hg : GR P q n) (hj : j < 20) (h0 : P.2.2.1.1 0 j = nI x.1) (h1 : P.2.2.1.1 1 j = nI x.2.1) (h2 : P.2.2.1.1 2 j = x.2.2.1) (hx : x.1 < n) (hy : x.2.1 < n) :
    ∃ P', X1_joinBy P (nI j) = some P' ∧ GR P' (jn q x) n ∧ But34 P P' := by
  have qx := hq x.1
  have qy := hq x.2.1
  have e0 : rget 20 (P.2.2.1.1 0) (nI j) = nI x.1 := by rw [rget_n _ hj (by omega), h0]
  have e1 : rget 20 (P.2.2.1.1 1) (nI j) = nI x.2.1 := by rw [rget_n _ hj (by omega), h1]
  have e2 : rget 20 (P.2.2.1.1 2) (nI j) = x.2.2.1 := by rw [rget_n _ hj (by omega), h2]
  have a0 : rget 12 (P.1 3) (nI x.1) = nI (q.1 x.1) := by rw [rget_n _ (by omega) (by omega), (hg _ hx).1]
  have a1 : rget 12 (P.1 3) (nI x.2.1) = nI (q.1 x.2.1) := by rw [rget_n _ (by omega) (by omega), (hg _ hy).1]
  have b0 : rget 12 (P.1 4) (nI x.1) = q.2 x.1 := by rw [rget_n _ (by omega) (by omega), (hg _ hx).2]
  have b1 : rget 12 (P.1 4) (nI x.2.1) = q.2 x.2.1 := by rw [rget_n _ (by omega) (by omega), (hg _ hy).2]
  unfold X1_joinBy
  rw [e0, e1, e2, a0, a1, b0, b1, min_n (by omega) (by omega), max_n (by omega) (by omega)]
  by_cases hs : q.1 x.1 = q.1 x.2.1
  · have hm : min (q.1 x.1) (q.1 x.2.1) = max (q.1 x.1) (q.1 x.2.1) := by omega
    rw [if_pos (by rw [hm])]
    exact ⟨P, rfl, by unfold jn; rw [if_pos hs]; exact hg, But34.rf P⟩
  · rw [if_neg (by rw [nI_eq (by omega) (by omega)]; omega)]
    have hky := loop_FUEL (f := fun fu (K : SPar) i => X1_joinBy_L108 fu K (nI (min (q.1 x.1) (q.1 x.2.1))) (nI (max (q.1 x.1) (q.1 x.2.1))) ((q.2 x.1 ^^^ q.2 x.2.1) ^^^ x.2.2.1) i) (n := n)
      (fun k K => (∀ i, i < n → K.1 3 i = nI (if i < k then (jn q x).1 i else q.1 i) ∧ K.1 4 i = if i < k then (jn q x).2 i else q.2 i) ∧ But34 P K)
      (fun K => (∀ i, i < n → K.1 3 i = nI ((jn q x).1 i) ∧ K.1 4 i = (jn q x).2 i) ∧ But34 P K) (by omega)
      (by
        intro fu k K hk ⟨hi, hb⟩
        right
        have hKn : K.2.1 0 = nI n := by rw [hb.2, hP]
        have hk3 : rget 12 (K.1 3) (nI k) = nI (q.1 k) := by rw [rget_n _ (by omega) (by omega), (hi k hk).1, if_neg (by omega)]
        have hk4 : rget 12 (K.1 4) (nI k) = q.2 k := by rw [rget_n _ (by omega) (by omega), (hi k hk).2, if_neg (by omega)]
        have hqk := hq k
        show ∃ s', _ ∧ X1_joinBy_L108 (fu + 1) K _ _ _ (nI k) = _
        rw [X1_joinBy_L108, hKn, if_neg (nI_ge hk (by omega)), hk3, nI_1]
        by_cases hc : q.1 k = max (q.1 x.1) (q.1 x.2.1)
        · rw [if_pos (by rw [hc])]
          refine ⟨st34 K (rput 12 (K.1 3) (nI k) (nI (min (q.1 x.1) (q.1 x.2.1)))) (rput 12 (K.1 4) (nI k) (rget 12 (K.1 4) (nI k) ^^^ ((q.2 x.1 ^^^ q.2 x.2.1) ^^^ x.2.2.1))), ⟨?_, hb.tr (st34_b _ _ _)⟩, rfl⟩
          intro i hin
          rw [st34_3, st34_4, hk4, rput_n _ _ (by omega) (by omega), rput_n _ _ (by omega) (by omega), upd_at, upd_at]
          by_cases hik : i = k
          · subst hik
            rw [if_pos rfl, if_pos rfl, if_pos (Nat.lt_succ_self i), if_pos (Nat.lt_succ_self i), jn_1 hs, jn_2 hs, if_pos hc, if_pos hc]
            exact ⟨rfl, rfl⟩
          · rw [if_neg hik, if_neg hik]
            obtain ⟨z1, z2⟩ := hi i hin
            rw [z1, z2]
            by_cases hlt : i < k
            · rw [if_pos hlt, if_pos hlt, if_pos (Nat.lt_succ_of_lt hlt), if_pos (Nat.lt_succ_of_lt hlt)]
              exact ⟨rfl, rfl⟩
            · have hn1 : ¬ i < k + 1 := by omega
              rw [if_neg hlt, if_neg hlt, if_neg hn1, if_neg hn1]
              exact ⟨rfl, rfl⟩
        · rw [if_neg (by rw [nI_eq (by omega) (by omega)]; exact hc)]
          refine ⟨K, ⟨fun i hin => ?_, hb⟩, rfl⟩
          obtain ⟨z1, z2⟩ := hi i hin
          rw [z1, z2]
          by_cases hik : i = k
          · subst hik
            rw [if_neg (Nat.lt_irrefl i), if_neg (Nat.lt_irrefl i), if_pos (Nat.lt_succ_self i), if_pos (Nat.lt_succ_self i), jn_1 hs, jn_2 hs, if_neg hc, if_neg hc]
            exact ⟨rfl, rfl⟩
          · by_cases hlt : i < k
            · rw [if_pos hlt, if_pos hlt, if_pos (Nat.lt_succ_of_lt hlt), if_pos (Nat.lt_succ_of_lt hlt)]
              exact ⟨rfl, rfl⟩
            · have hn1 : ¬ i < k + 1 := by omega
              rw [if_neg hlt, if_neg hlt, if_neg hn1, if_neg hn1]
              exact ⟨rfl, rfl⟩)
      (by
        intro fu K ⟨hi, hb⟩
        have hKn : K.2.1 0 = nI n := by rw [hb.2, hP]
        refine ⟨K, ⟨fun i hin => ?_, hb⟩, ?_⟩
        · obtain ⟨z1, z2⟩ := hi i hin
          rw [if_pos hin] at z1 z2
          exact ⟨z1, z2⟩
        · show X1_joinBy_L108 (fu + 1) K _ _ _ (nI n) = _
          rw [X1_joinBy_L108, hKn, if_pos (nI_le (Nat.le_refl n) (by omega))])
      (k := 0) (s := P) (x := 0) (Nat.zero_le n) rfl ⟨fun i hin => by
        rw [if_neg (by omega), if_neg (by omega)]
        exact hg i hin, But34.rf P⟩
    obtain ⟨P', ⟨h3, h4⟩, h5⟩ := hky
    have h5 : X1_joinBy_L108 FUEL P (nI (min (q.1 x.1) (q.1 x.2.1))) (nI (max (q.1 x.1) (q.1 x.2.1))) ((q.2 x.1 ^^^ q.2 x.2.1) ^^^ x.2.2.1) 0 = some P' := h5
    rw [h5]
    exact ⟨P', rfl, h3, h4⟩

