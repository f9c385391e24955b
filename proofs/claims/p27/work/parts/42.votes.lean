def sm (f : Nat → Int32) : Nat → Int32
  | 0 => 0
  | k + 1 => sm f k + f k
theorem sm_cong {f g : Nat → Int32} : ∀ {k : Nat}, (∀ i, i < k → f i = g i) → sm f k = sm g k := by
  intro k
  induction k with
  | zero => intro _; rfl
  | succ k ih =>
    intro h
    show sm f k + f k = sm g k + g k
    rw [ih (fun i hi => h i (by omega)), h k (by omega)]
/-- the vote v i, by pulls, else by leanings -/
def VTi (n : Nat) (se le pu : Nat → Int32) (q : Grp) (v : Nat → Int32) (i : Nat) : Prop := ∃ r, PV n pu q i r ∧ v i = if r = -1 then (if q.1 i = i then ld n se le q i else v (q.1 i) ^^^ q.2 i) else r
def But5 (P K : SPar) : Prop := (∀ i, i ≠ 5 → K.1 i = P.1 i) ∧ (∀ i, i ≠ 3 → i ≠ 4 → K.2.1 i = P.2.1 i) ∧ K.2.2 = P.2.2
theorem But5.rf (P : SPar) : But5 P P := ⟨fun _ _ => rfl, fun _ _ _ => rfl, rfl⟩
theorem But5.tr {P Q R : SPar} (h1 : But5 P Q) (h2 : But5 Q R) : But5 P R := ⟨fun i a => (h2.1 i a).trans (h1.1 i a), fun i a b => (h2.2.1 i a b).trans (h1.2.1 i a b), h2.2.2.trans h1.2.2⟩
theorem But5.RB {P K : SPar} {n : Nat} {se le pu : Nat → Int32} (h : But5 P K) (hP : RB P n se le pu) : RB K n se le pu := ⟨by rw [h.2.1 0 (by decide) (by decide)]; exact hP.1, fun k hk => by rw [h.1 0 (by decide), h.1 1 (by decide), h.1 2 (by decide)]; exact hP.2 k hk⟩
theorem But5.GR {P K : SPar} {q : Grp} {n : Nat} (h : But5 P K) (hP : GR P q n) : GR K q n := fun k hk => by rw [h.1 3 (by decide), h.1 4 (by decide)]; exact hP k hk
/-- a parliament with another row of votes and other sums -/
def st5 (K : SPar) (v5 : Nat → Int32) (a y : Int32) : SPar := (up K.1 5 v5, up (up K.2.1 3 a) 4 y, K.2.2)
theorem st5_b (K : SPar) (v5 : Nat → Int32) (a y : Int32) : But5 K (st5 K v5 a y) := ⟨fun i h => up_ne K.1 v5 h, fun i h3 h4 => by
  show up (up K.2.1 3 a) 4 y i = K.2.1 i
  rw [up_ne _ _ h4, up_ne _ _ h3], rfl⟩
theorem PV_01 {n : Nat} {pu : Nat → Int32} {q : Grp} {k : Nat} {r : Int32} (h : PV n pu q k r) (hp : ∀ m, m < n → pu m = -1 ∨ pu m = 0 ∨ pu m = 1) (hq : ∀ m, q.2 m = 0 ∨ q.2 m = 1) : r = -1 ∨ r = 0 ∨ r = 1 := by
  rcases h with ⟨h, -⟩ | ⟨m, h1, h2, -, h4⟩
  · exact Or.inl h
  · right
    rw [h4]
    rcases hp m h1 with e | e | e
    · exact absurd e h2
    · rcases hq m with e2 | e2 <;> rcases hq k with e3 | e3 <;> rw [e, e2, e3] <;> decide
    · rcases hq m with e2 | e2 <;> rcases hq k with e3 | e3 <;> rw [e, e2, e3] <;> decide
theorem tellVotes_spec {P : SPar} {n : Nat} {se le pu : Nat → Int32} {q : Grp} (hn : n ≤ 12) (hP : RB P n se le pu) (hg : GR P q n) (hq : ∀ k, q.1 k ≤ k) : ∃ P', X1_tellVotes P = some P' ∧ But5 P P' ∧ (∀ i, i < n → VTi n se le pu q (P'.1 5) i) ∧ P'.2.1 3 = sm se n ∧ P'.2.1 4 = sm (fun i => P'.1 5 i * se i) n := by
  unfold X1_tellVotes
  obtain ⟨P', ⟨h1, h2, h3, h4⟩, h5⟩ := loop_FUEL (f := fun fu (K : SPar) i => X1_tellVotes_L12 fu K i) (n := n)
    (fun k K => (∀ i, i < k → VTi n se le pu q (K.1 5) i) ∧ K.2.1 3 = sm se k ∧ K.2.1 4 = sm (fun i => K.1 5 i * se i) k ∧ But5 P K)
    (fun K => (∀ i, i < n → VTi n se le pu q (K.1 5) i) ∧ K.2.1 3 = sm se n ∧ K.2.1 4 = sm (fun i => K.1 5 i * se i) n ∧ But5 P K) (by omega)
    (by
      intro fu k K hk ⟨hv, ha, hy, hb⟩
      right
      have hR := hb.RB hP
      have hG := hb.GR hg
      have qk := hq k
      obtain ⟨r, hr, he⟩ := pulledVote_spec (j := k) hn hR hG hq hk
      have a3 : rget 12 (K.1 3) (nI k) = nI (q.1 k) := by rw [rget_n _ (by omega) (by omega), (hG _ hk).1]
      have a4 : rget 12 (K.1 4) (nI k) = q.2 k := by rw [rget_n _ (by omega) (by omega), (hG _ hk).2]
      have a0 : rget 12 (K.1 0) (nI k) = se k := by rw [rget_n _ (by omega) (by omega), (hR.2 _ hk).1]
      have a5 : rget 12 (K.1 5) (nI (q.1 k)) = K.1 5 (q.1 k) := rget_n _ (by omega) (by omega)
      have hJ : X1_tellVotes_J28 K (nI k) r (-1) r = some (if r = -1 then (if q.1 k = k then ld n se le q k else K.1 5 (q.1 k) ^^^ q.2 k) else r) := by
        unfold X1_tellVotes_J28
        rw [a3, a4, a5]
        by_cases hr1 : r = -1
        · rw [if_pos hr1, if_pos hr1]
          by_cases hs : q.1 k = k
          · rw [if_pos (by rw [hs]), if_pos hs, hs, bind_some' (leadingVote_spec hn hR hG hq hk)]
          · rw [if_neg (by rw [nI_eq (by omega) (by omega)]; exact hs), if_neg hs]
        · rw [if_neg hr1, if_neg hr1]
      generalize hw : (if r = -1 then (if q.1 k = k then ld n se le q k else K.1 5 (q.1 k) ^^^ q.2 k) else r) = w at hJ
      refine ⟨st5 K (upd (K.1 5) k w) (K.2.1 3 + se k) (K.2.1 4 + w * se k), ⟨fun i hi => ?_, ?_, ?_, hb.tr (st5_b _ _ _ _)⟩, ?_⟩
      · show VTi n se le pu q (upd (K.1 5) k w) i
        by_cases hik : i = k
        · subst hik
          refine ⟨r, hr, ?_⟩
          rw [upd_at, if_pos rfl, ← hw]
          by_cases hs : q.1 i = i
          · rw [if_pos hs, if_pos hs]
          · rw [if_neg hs, if_neg hs, upd_at, if_neg hs]
        · obtain ⟨r2, g1, g2⟩ := hv i (by omega)
          refine ⟨r2, g1, ?_⟩
          have hqi := hq i
          have e1 : upd (K.1 5) k w (q.1 i) = K.1 5 (q.1 i) := by rw [upd_at, if_neg (by omega)]
          rw [upd_at, if_neg hik, e1]
          exact g2
      · show K.2.1 3 + se k = sm se k + se k
        rw [ha]
      · show K.2.1 4 + w * se k = sm (fun i => upd (K.1 5) k w i * se i) k + upd (K.1 5) k w k * se k
        rw [hy, upd_at, if_pos rfl]
        congr 1
        exact sm_cong (fun i hi => by rw [upd_at, if_neg (by omega)])
      · show X1_tellVotes_L12 (fu + 1) K (nI k) = _
        rw [X1_tellVotes_L12, hR.1, if_neg (nI_ge hk (by omega)), bind_some' he, bind_some' hJ]
        show X1_tellVotes_L12 fu (up K.1 5 (rput 12 (K.1 5) (nI k) w), up (up K.2.1 3 (K.2.1 3 + rget 12 (K.1 0) (nI k))) 4 (K.2.1 4 + w * rget 12 (K.1 0) (nI k)), K.2.2.1, K.2.2.2) (nI k + 1) = _
        rw [a0, rput_n _ _ (by omega) (by omega), nI_1]
        rfl)
    (by
      intro fu K hi
      have hR := hi.2.2.2.RB hP
      refine ⟨K, hi, ?_⟩
      show X1_tellVotes_L12 (fu + 1) K (nI n) = _
      rw [X1_tellVotes_L12, hR.1, if_pos (nI_le (Nat.le_refl n) (by omega))])
    (k := 0) (s := (P.1, up (up P.2.1 3 0) 4 0, P.2.2.1, P.2.2.2)) (x := 0) (Nat.zero_le n) rfl
    ⟨fun i h => absurd h (Nat.not_lt_zero i), rfl, rfl, fun _ _ => rfl, fun i h3 h4 => by
      show up (up P.2.1 3 0) 4 0 i = P.2.1 i
      rw [up_ne _ _ h4, up_ne _ _ h3], rfl⟩
  have h5 : X1_tellVotes_L12 FUEL (P.1, up (up P.2.1 3 0) 4 0, P.2.2.1, P.2.2.2) 0 = some P' := h5
  refine ⟨P', ?_, h4, h1, h2, h3⟩
  show (X1_tellVotes_L12 FUEL (P.1, up (up P.2.1 3 0) 4 0, P.2.2.1, P.2.2.2) 0).bind _ = _
  rw [bind_some' h5]

