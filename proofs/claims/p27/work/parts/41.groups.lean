/-! a parliament's strings, and how the class tells groups and votes -/
def sg (L : List Str4) (k : Nat) : Str4 := L.getD k (0, 1, 0, 0)
theorem sg_eq {L : List Str4} {k : Nat} (h : k < L.length) : sg L k = L[k] := by
  unfold sg
  rw [List.getD_eq_getElem?_getD, List.getElem?_eq_getElem h]
  rfl
theorem sg_mem {L : List Str4} {k : Nat} (h : k < L.length) : sg L k ∈ L := by
  rw [sg_eq h]
  exact List.getElem_mem h
def RS (K : SStr) (L : List Str4) : Prop := K.2 0 = nI L.length ∧ L.length ≤ 20 ∧ ∀ k, k < L.length → K.1 0 k = nI (sg L k).1 ∧ K.1 1 k = nI (sg L k).2.1 ∧ K.1 2 k = (sg L k).2.2.1 ∧ K.1 3 k = (sg L k).2.2.2
def InL (L : List Str4) (n : Nat) : Prop := ∀ x ∈ L, x.1 < x.2.1 ∧ x.2.1 < n ∧ (x.2.2.1 = 0 ∨ x.2.2.1 = 1)
theorem grp_take {L : List Str4} {k : Nat} (h : k < L.length) : grp (L.take (k + 1)) = jn (grp (L.take k)) (sg L k) := by
  rw [← List.take_append_getElem h, grp_snoc, sg_eq h]
theorem tellGroups_spec {P : SPar} {n : Nat} {L : List Str4} (hn : n ≤ 12) (hP : P.2.1 0 = nI n) (hL : RS P.2.2.1 L) (hin : InL L n) : ∃ P', X1_tellGroups P = some P' ∧ GR P' (grp L) n ∧ But34 P P' := by
  unfold X1_tellGroups
  obtain ⟨P1, ⟨h1, h2⟩, h3⟩ := loop_FUEL (f := fun fu (K : SPar) i => X1_tellGroups_L2 fu K i) (n := n)
    (fun k K => (∀ i, i < k → K.1 3 i = nI i ∧ K.1 4 i = 0) ∧ But34 P K) (fun K => (∀ i, i < n → K.1 3 i = nI i ∧ K.1 4 i = 0) ∧ But34 P K) (by omega)
    (by
      intro fu k K hk ⟨hi, hb⟩
      right
      have hKn : K.2.1 0 = nI n := by rw [hb.2, hP]
      refine ⟨st34 K (rput 12 (K.1 3) (nI k) (nI k)) (rput 12 (K.1 4) (nI k) 0), ⟨fun i hik => ?_, hb.tr (st34_b _ _ _)⟩, ?_⟩
      · rw [st34_3, st34_4, rput_n _ _ (by omega) (by omega), rput_n _ _ (by omega) (by omega), upd_at, upd_at]
        by_cases hc : i = k
        · rw [if_pos hc, if_pos hc, hc]
          exact ⟨rfl, rfl⟩
        · rw [if_neg hc, if_neg hc]
          exact hi i (by omega)
      · show X1_tellGroups_L2 (fu + 1) K (nI k) = _
        rw [X1_tellGroups_L2, hKn, if_neg (nI_ge hk (by omega)), nI_1]
        rfl)
    (by
      intro fu K ⟨hi, hb⟩
      have hKn : K.2.1 0 = nI n := by rw [hb.2, hP]
      refine ⟨K, ⟨hi, hb⟩, ?_⟩
      show X1_tellGroups_L2 (fu + 1) K (nI n) = _
      rw [X1_tellGroups_L2, hKn, if_pos (nI_le (Nat.le_refl n) (by omega))])
    (k := 0) (s := P) (x := 0) (Nat.zero_le n) rfl ⟨fun i h => absurd h (Nat.not_lt_zero i), But34.rf P⟩
  have h3 : X1_tellGroups_L2 FUEL P 0 = some P1 := h3
  rw [bind_some' h3]
  obtain ⟨P2, ⟨h4, h5⟩, h6⟩ := loop_FUEL (f := fun fu (K : SPar) i => X1_tellGroups_L36 fu K i) (n := L.length)
    (fun k K => GR K (grp (L.take k)) n ∧ But34 P K) (fun K => GR K (grp L) n ∧ But34 P K) (by have := hL.2.1; omega)
    (by
      intro fu k K hk ⟨hg, hb⟩
      right
      have hS : K.2.2.1 = P.2.2.1 := by rw [hb.2]
      have hKn : K.2.1 0 = nI n := by rw [hb.2, hP]
      obtain ⟨r0, r1, r2, -⟩ := hL.2.2 k hk
      have hx := hin _ (sg_mem hk)
      have hlen := hL.2.1
      obtain ⟨K2, g1, g2, g3⟩ := joinBy_spec (P := K) (j := k) (q := grp (L.take k)) (x := sg L k) hn hKn (grp_le _) hg (by omega) (by rw [hS]; exact r0) (by rw [hS]; exact r1) (by rw [hS]; exact r2) (by omega) hx.2.1
      refine ⟨K2, ⟨by rw [grp_take hk]; exact g2, hb.tr g3⟩, ?_⟩
      show X1_tellGroups_L36 (fu + 1) K (nI k) = _
      rw [X1_tellGroups_L36, hS, hL.1, if_neg (nI_ge hk (by omega)), bind_some' g1, nI_1])
    (by
      intro fu K ⟨hg, hb⟩
      have hS : K.2.2.1 = P.2.2.1 := by rw [hb.2]
      have hlen := hL.2.1
      rw [List.take_length] at hg
      refine ⟨K, ⟨hg, hb⟩, ?_⟩
      show X1_tellGroups_L36 (fu + 1) K (nI L.length) = _
      rw [X1_tellGroups_L36, hS, hL.1, if_pos (nI_le (Nat.le_refl _) (by omega))])
    (k := 0) (s := P1) (x := 0) (Nat.zero_le _) rfl ⟨fun i hi => ⟨(h1 i hi).1, (h1 i hi).2⟩, h2⟩
  have h6 : X1_tellGroups_L36 FUEL P1 0 = some P2 := h6
  rw [bind_some' h6]
  exact ⟨P2, rfl, h4, h5⟩
/-! votes -/
/-- how k votes by the pulls of its group: -1 without one -/
def PV (n : Nat) (pu : Nat → Int32) (q : Grp) (k : Nat) (r : Int32) : Prop := (r = -1 ∧ ∀ m, m < n → pu m ≠ -1 → q.1 m ≠ q.1 k) ∨ ∃ m, m < n ∧ pu m ≠ -1 ∧ q.1 m = q.1 k ∧ r = (pu m ^^^ q.2 m) ^^^ q.2 k
def ys (se le : Nat → Int32) (q : Grp) (j : Nat) : Nat → Int32
  | 0 => 0
  | i + 1 => ys se le q j i + (if q.1 i = j ∧ ¬ le i = q.2 i then se i else 0)
def ns (se le : Nat → Int32) (q : Grp) (j : Nat) : Nat → Int32
  | 0 => 0
  | i + 1 => ns se le q j i + (if q.1 i = j ∧ le i = q.2 i then se i else 0)
/-- how the lowest puppet of a group without a pull votes -/
def ld (n : Nat) (se le : Nat → Int32) (q : Grp) (j : Nat) : Int32 := if ys se le q j n = ns se le q j n then le j else if ys se le q j n ≤ ns se le q j n then 0 else 1
/-- the numbers of puppets that a parliament holds -/
def RB (P : SPar) (n : Nat) (se le pu : Nat → Int32) : Prop := P.2.1 0 = nI n ∧ ∀ k, k < n → P.1 0 k = se k ∧ P.1 1 k = le k ∧ P.1 2 k = pu k
theorem pulledVote_spec {P : SPar} {n j : Nat} {se le pu : Nat → Int32} {q : Grp} (hn : n ≤ 12) (hP : RB P n se le pu) (hg : GR P q n) (hq : ∀ k, q.1 k ≤ k) (hj : j < n) : ∃ r, PV n pu q j r ∧ X1_pulledVote P (nI j) = some r := by
  unfold X1_pulledVote
  have qj := hq j
  have aj : rget 12 (P.1 3) (nI j) = nI (q.1 j) := by rw [rget_n _ (by omega) (by omega), (hg _ hj).1]
  have bj : rget 12 (P.1 4) (nI j) = q.2 j := by rw [rget_n _ (by omega) (by omega), (hg _ hj).2]
  obtain ⟨r, h1, h2⟩ := loop_FUEL (f := fun fu (_ : Unit) i => X1_pulledVote_L2 fu P (nI j) i) (n := n)
    (fun k _ => ∀ m, m < k → pu m ≠ -1 → q.1 m ≠ q.1 j) (PV n pu q j) (by omega)
    (by
      intro fu k _ hk hi
      have qk := hq k
      have ak : rget 12 (P.1 3) (nI k) = nI (q.1 k) := by rw [rget_n _ (by omega) (by omega), (hg _ hk).1]
      have bk : rget 12 (P.1 4) (nI k) = q.2 k := by rw [rget_n _ (by omega) (by omega), (hg _ hk).2]
      have ck : rget 12 (P.1 2) (nI k) = pu k := by rw [rget_n _ (by omega) (by omega), (hP.2 _ hk).2.2]
      have go : X1_pulledVote_L2 (fu + 1) P (nI j) (nI k) = if pu k = -1 then X1_pulledVote_L2 fu P (nI j) (nI (k + 1)) else if nI (q.1 k) = nI (q.1 j) then some ((pu k ^^^ q.2 k) ^^^ q.2 j) else X1_pulledVote_L2 fu P (nI j) (nI (k + 1)) := by
        rw [X1_pulledVote_L2, hP.1, if_neg (nI_ge hk (by omega)), ck, ak, aj, bk, bj, nI_1]
      by_cases hp : pu k = -1
      · right
        refine ⟨(), fun m hm hpm => ?_, ?_⟩
        · by_cases hmk : m = k
          · subst hmk
            exact absurd hp hpm
          · exact hi m (by omega) hpm
        · show X1_pulledVote_L2 (fu + 1) P (nI j) (nI k) = _
          rw [go, if_pos hp]
      · by_cases hs : q.1 k = q.1 j
        · left
          refine ⟨_, Or.inr ⟨k, hk, hp, hs, rfl⟩, ?_⟩
          show X1_pulledVote_L2 (fu + 1) P (nI j) (nI k) = _
          rw [go, if_neg hp, if_pos (by rw [hs])]
        · right
          refine ⟨(), fun m hm hpm => ?_, ?_⟩
          · by_cases hmk : m = k
            · subst hmk
              exact hs
            · exact hi m (by omega) hpm
          · show X1_pulledVote_L2 (fu + 1) P (nI j) (nI k) = _
            rw [go, if_neg hp, if_neg (by rw [nI_eq (by omega) (by omega)]; exact hs)])
    (by
      intro fu _ hi
      refine ⟨-1, Or.inl ⟨rfl, hi⟩, ?_⟩
      show X1_pulledVote_L2 (fu + 1) P (nI j) (nI n) = _
      rw [X1_pulledVote_L2, hP.1, if_pos (nI_le (Nat.le_refl n) (by omega))])
    (k := 0) (s := ()) (x := 0) (Nat.zero_le n) rfl (fun m hm => absurd hm (Nat.not_lt_zero m))
  exact ⟨r, h1, h2⟩
theorem ys_low {se le : Nat → Int32} {q : Grp} {j : Nat} (hq : ∀ k, q.1 k ≤ k) : ∀ i, i ≤ j → ys se le q j i = 0 ∧ ns se le q j i = 0 := by
  intro i
  induction i with
  | zero => intro _; exact ⟨rfl, rfl⟩
  | succ i ih =>
    intro h
    have h1 := hq i
    have h2 : ¬ q.1 i = j := by omega
    obtain ⟨a, b⟩ := ih (by omega)
    constructor
    · show ys se le q j i + _ = 0
      rw [a, if_neg (fun z => h2 z.1)]
      rfl
    · show ns se le q j i + _ = 0
      rw [b, if_neg (fun z => h2 z.1)]
      rfl
theorem leadingVote_spec {P : SPar} {n j : Nat} {se le pu : Nat → Int32} {q : Grp} (hn : n ≤ 12) (hP : RB P n se le pu) (hg : GR P q n) (hq : ∀ k, q.1 k ≤ k) (hj : j < n) : X1_leadingVote P (nI j) = some (ld n se le q j) := by
  unfold X1_leadingVote
  obtain ⟨r, h1, h2⟩ := loop_FUEL (f := fun fu (y : Int32 × Int32) i => X1_leadingVote_L7 fu P (nI j) y.1 y.2 i) (n := n)
    (fun k y => y = (ys se le q j k, ns se le q j k)) (fun y => y = (ys se le q j n, ns se le q j n)) (by omega)
    (by
      intro fu k y hk hi
      subst hi
      right
      have qk := hq k
      have ak : rget 12 (P.1 3) (nI k) = nI (q.1 k) := by rw [rget_n _ (by omega) (by omega), (hg _ hk).1]
      have bk : rget 12 (P.1 4) (nI k) = q.2 k := by rw [rget_n _ (by omega) (by omega), (hg _ hk).2]
      have ck : rget 12 (P.1 1) (nI k) = le k := by rw [rget_n _ (by omega) (by omega), (hP.2 _ hk).2.1]
      have dk : rget 12 (P.1 0) (nI k) = se k := by rw [rget_n _ (by omega) (by omega), (hP.2 _ hk).1]
      refine ⟨_, rfl, ?_⟩
      show X1_leadingVote_L7 (fu + 1) P (nI j) (ys se le q j k) (ns se le q j k) (nI k) = X1_leadingVote_L7 fu P (nI j) (ys se le q j k + _) (ns se le q j k + _) (nI (k + 1))
      rw [X1_leadingVote_L7, hP.1, if_neg (nI_ge hk (by omega)), ak, bk, ck, dk, nI_1]
      by_cases hs : q.1 k = j
      · rw [if_pos (by rw [hs])]
        by_cases hl : le k = q.2 k
        · rw [if_pos hl, if_neg (fun z => z.2 hl), if_pos ⟨hs, hl⟩, Int32.add_zero]
        · rw [if_neg hl, if_pos ⟨hs, hl⟩, if_neg (fun z => hl z.2), Int32.add_zero]
      · rw [if_neg (by rw [nI_eq (by omega) (by omega)]; exact hs), if_neg (fun z => hs z.1), if_neg (fun z => hs z.1), Int32.add_zero, Int32.add_zero])
    (by
      intro fu y hi
      subst hi
      refine ⟨_, rfl, ?_⟩
      show X1_leadingVote_L7 (fu + 1) P (nI j) _ _ (nI n) = _
      rw [X1_leadingVote_L7, hP.1, if_pos (nI_le (Nat.le_refl n) (by omega))])
    (k := j) (s := (0, 0)) (x := nI j) (by omega) rfl (by rw [(ys_low hq j (Nat.le_refl j)).1, (ys_low hq j (Nat.le_refl j)).2])
  have h2 : X1_leadingVote_L7 FUEL P (nI j) 0 0 (nI j) = some r := h2
  rw [bind_some' h2, h1]
  have cj : rget 12 (P.1 1) (nI j) = le j := by rw [rget_n _ (by omega) (by omega), (hP.2 _ hj).2.1]
  rw [cj]
  unfold ld
  show (if ys se le q j n = ns se le q j n then _ else if ys se le q j n ≤ ns se le q j n then _ else _) = _
  split
  · rfl
  · split <;> rfl

