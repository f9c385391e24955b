/-! the reference's groups -/
def RMB (s : Nat → Int32) (n : Nat) (se le pu : Nat → Int32) (L : List Str4) : Prop := s 148 = nI n ∧ (∀ k, k < n → s (3 * k) = se k ∧ s (3 * k + 1) = le k ∧ s (3 * k + 2) = pu k + 1) ∧ s 149 = nI L.length ∧ L.length ≤ 20 ∧ ∀ k, k < L.length → s (36 + 4 * k) = nI (sg L k).1 ∧ s (36 + 4 * k + 1) = nI (sg L k).2.1 ∧ s (36 + 4 * k + 2) = (sg L k).2.2.1 ∧ s (36 + 4 * k + 3) = (sg L k).2.2.2
theorem ix_ok {k N : Nat} (h : k < N) (hN : N ≤ 1000) : ¬ (nI k < 0 ∨ N ≤ Int32.toNatClampNeg (nI k)) := by
  rintro (h1 | h1)
  · exact nI_pos (by omega) h1
  · rw [nI_clamp (by omega)] at h1
    omega
theorem ix_to {k : Nat} (h : k < 1000) : Int32.toNatClampNeg (nI k) = k := nI_clamp (by omega)
theorem ix3 (k c : Nat) : (3 * nI k) + nI c = nI (3 * k + c) := by
  rw [show (3 : Int32) = nI 3 from rfl, pk_mul, nI_add]
theorem ix4 (k c : Nat) : (36 + (4 * nI k)) + nI c = nI (36 + 4 * k + c) := by
  rw [show (4 : Int32) = nI 4 from rfl, pk_mul, show (36 : Int32) = nI 36 from rfl, nI_add, nI_add]
theorem of_spec (M : SMod) {k c : Nat} (h : 3 * k + c < 156) : X7_of M (nI k) (nI c) = some (M.1 0 (3 * k + c)) := by
  unfold X7_of
  rw [ix3, if_pos (ix_ok h (by omega)), ix_to (by omega)]
theorem tied_spec (M : SMod) {k c : Nat} (h : 36 + 4 * k + c < 156) : X7_tied M (nI k) (nI c) = some (M.1 0 (36 + 4 * k + c)) := by
  unfold X7_tied
  rw [ix4, if_pos (ix_ok h (by omega)), ix_to (by omega)]
/-- nothing but the reference's scratch rows differs -/
def KeepS (M M' : SMod) : Prop := (∀ i, i ≠ 4 → i ≠ 5 → i ≠ 6 → i ≠ 7 → M'.1 i = M.1 i) ∧ M'.2 = M.2
theorem KeepS.rf (M : SMod) : KeepS M M := ⟨fun _ _ _ _ _ => rfl, rfl⟩
theorem KeepS.tr {P Q R : SMod} (h1 : KeepS P Q) (h2 : KeepS Q R) : KeepS P R := ⟨fun i a b c d => (h2.1 i a b c d).trans (h1.1 i a b c d), h2.2.trans h1.2⟩
theorem KeepS.s {M M' : SMod} (h : KeepS M M') : M'.1 0 = M.1 0 := h.1 0 (by decide) (by decide) (by decide) (by decide)
def LK (M : SMod) (q : Grp) (n : Nat) : Prop := ∀ k, k < n → M.1 4 k = nI (q.1 k) ∧ M.1 5 k = q.2 k
def sm45 (M : SMod) (v4 v5 : Nat → Int32) : SMod := (up (up M.1 4 v4) 5 v5, M.2)
theorem sm45_k (M : SMod) (v4 v5 : Nat → Int32) : KeepS M (sm45 M v4 v5) := ⟨fun i h4 h5 _ _ => by
  show up (up M.1 4 v4) 5 v5 i = M.1 i
  rw [up_ne _ _ h5, up_ne _ _ h4], rfl⟩
/-- the reference's step at a string: who has the greater lowest puppet takes the other's -/
def stp (q : Grp) (x : Str4) : Grp :=
  if q.1 x.2.1 < q.1 x.1 then (fun k => if k = x.1 then q.1 x.2.1 else q.1 k, fun k => if k = x.1 then q.2 x.2.1 ^^^ x.2.2.1 else q.2 k)
  else (fun k => if k = x.2.1 then q.1 x.1 else q.1 k, fun k => if k = x.2.1 then q.2 x.1 ^^^ x.2.2.1 else q.2 k)
theorem isJoined_spec {M : SMod} {n : Nat} {q : Grp} {x : Str4} (hn : n ≤ 12) (hl : LK M q n) (hq : ∀ k, q.1 k ≤ k) (hab : x.1 < x.2.1) (hb : x.2.1 < n) :
    (q.1 x.1 = q.1 x.2.1 → X7_isJoined M (nI x.1) (nI x.2.1) x.2.2.1 = some (M, 0)) ∧ (¬ q.1 x.1 = q.1 x.2.1 → ∃ M', X7_isJoined M (nI x.1) (nI x.2.1) x.2.2.1 = some (M', 1) ∧ KeepS M M' ∧ LK M' (stp q x) n) := by
  have qa := hq x.1
  have qb := hq x.2.1
  have ha : x.1 < n := by omega
  have g1 := ix_ok (k := x.1) (N := 12) (by omega) (by omega)
  have g2 := ix_ok (k := x.2.1) (N := 12) (by omega) (by omega)
  have t1 := ix_to (k := x.1) (by omega)
  have t2 := ix_to (k := x.2.1) (by omega)
  have a4 : M.1 4 x.1 = nI (q.1 x.1) := (hl _ ha).1
  have b4 : M.1 4 x.2.1 = nI (q.1 x.2.1) := (hl _ hb).1
  unfold X7_isJoined
  rw [if_pos g1, if_pos g2, t1, t2, a4, b4]
  constructor
  · intro hs
    rw [if_pos (by rw [hs])]
  · intro hs
    rw [if_neg (by rw [nI_eq (by omega) (by omega)]; exact hs)]
    unfold X7_isJoined_J29 X7_isJoined_J42
    rcases Nat.lt_or_ge (q.1 x.2.1) (q.1 x.1) with hlt | hge
    · rw [if_pos (nI_le (Nat.le_of_lt hlt) (by omega))]
      rw [if_neg (show ¬ nI x.2.1 = nI x.1 by rw [nI_eq (by omega) (by omega)]; omega), if_pos g2, if_pos g1, t1, t2]
      refine ⟨sm45 M (upd (M.1 4) x.1 (M.1 4 x.2.1)) (upd (M.1 5) x.1 (M.1 5 x.2.1 ^^^ x.2.2.1)), rfl, sm45_k _ _ _, fun k hk => ?_⟩
      show upd (M.1 4) x.1 (M.1 4 x.2.1) k = _ ∧ upd (M.1 5) x.1 (M.1 5 x.2.1 ^^^ x.2.2.1) k = _
      unfold stp
      rw [if_pos hlt, upd_at, upd_at, b4, (hl _ hb).2, (hl _ hk).1, (hl _ hk).2]
      by_cases hkx : k = x.1
      · simp only [if_pos hkx]
        exact ⟨trivial, trivial⟩
      · simp only [if_neg hkx]
        exact ⟨trivial, trivial⟩
    · rw [if_neg (nI_ge (by omega) (by omega))]
      rw [if_pos rfl, if_pos g1, if_pos g2, t1, t2]
      refine ⟨sm45 M (upd (M.1 4) x.2.1 (M.1 4 x.1)) (upd (M.1 5) x.2.1 (M.1 5 x.1 ^^^ x.2.2.1)), rfl, sm45_k _ _ _, fun k hk => ?_⟩
      show upd (M.1 4) x.2.1 (M.1 4 x.1) k = _ ∧ upd (M.1 5) x.2.1 (M.1 5 x.1 ^^^ x.2.2.1) k = _
      unfold stp
      rw [if_neg (by omega), upd_at, upd_at, a4, (hl _ ha).2, (hl _ hk).1, (hl _ hk).2]
      by_cases hkx : k = x.2.1
      · simp only [if_pos hkx]
        exact ⟨trivial, trivial⟩
      · simp only [if_neg hkx]
        exact ⟨trivial, trivial⟩
def sN (f : Nat → Nat) : Nat → Nat
  | 0 => 0
  | k + 1 => sN f k + f k
theorem sN_le {f g : Nat → Nat} (h : ∀ i, f i ≤ g i) : ∀ n, sN f n ≤ sN g n := by
  intro n
  induction n with
  | zero => exact Nat.le_refl 0
  | succ n ih =>
    have := h n
    show sN f n + f n ≤ sN g n + g n
    omega
theorem sN_lt {f g : Nat → Nat} (h : ∀ i, f i ≤ g i) {j : Nat} (hj : f j < g j) : ∀ n, j < n → sN f n < sN g n := by
  intro n
  induction n with
  | zero => intro z; omega
  | succ n ih =>
    intro z
    have h1 := h n
    have h2 := sN_le h n
    show sN f n + f n < sN g n + g n
    by_cases hjn : j = n
    · subst hjn
      omega
    · have := ih (by omega)
      omega
theorem stp_Iv {L : List Str4} {g : Nat → Int32} {q : Grp} {x : Str4} (hx : x ∈ L) (hg : g x.1 ^^^ g x.2.1 = x.2.2.1) (h : Iv L g q) (hs : ¬ q.1 x.1 = q.1 x.2.1) : Iv L g (stp q x) ∧ (∀ k, (stp q x).1 k ≤ q.1 k) ∧ ((stp q x).1 x.1 < q.1 x.1 ∨ (stp q x).1 x.2.1 < q.1 x.2.1) := by
  have e := Con.ed hx
  unfold stp
  rcases Nat.lt_or_ge (q.1 x.2.1) (q.1 x.1) with hlt | hge
  · rw [if_pos hlt]
    refine ⟨⟨fun k => ?_, fun k => ?_, fun k => ?_⟩, fun k => ?_, Or.inl ?_⟩
    · show Con L k (if k = x.1 then q.1 x.2.1 else q.1 k)
      by_cases hk : k = x.1
      · rw [if_pos hk, hk]
        exact e.tr (h.1 x.2.1)
      · rw [if_neg hk]
        exact h.1 k
    · show (if k = x.1 then q.1 x.2.1 else q.1 k) ≤ k
      have := h.2.1 k
      by_cases hk : k = x.1
      · rw [if_pos hk]
        rw [← hk] at hlt
        omega
      · rw [if_neg hk]
        exact this
    · show (if k = x.1 then q.2 x.2.1 ^^^ x.2.2.1 else q.2 k) = g k ^^^ g (if k = x.1 then q.1 x.2.1 else q.1 k)
      by_cases hk : k = x.1
      · rw [if_pos hk, if_pos hk, h.2.2, ← hg, hk, Int32.xor_comm (g x.2.1 ^^^ g (q.1 x.2.1)) (g x.1 ^^^ g x.2.1), xor_cancel4]
      · rw [if_neg hk, if_neg hk]
        exact h.2.2 k
    · show (if k = x.1 then q.1 x.2.1 else q.1 k) ≤ q.1 k
      by_cases hk : k = x.1
      · rw [if_pos hk, hk]
        omega
      · rw [if_neg hk]
        exact Nat.le_refl _
    · show (if x.1 = x.1 then q.1 x.2.1 else q.1 x.1) < q.1 x.1
      rw [if_pos rfl]
      exact hlt
  · rw [if_neg (by omega)]
    refine ⟨⟨fun k => ?_, fun k => ?_, fun k => ?_⟩, fun k => ?_, Or.inr ?_⟩
    · show Con L k (if k = x.2.1 then q.1 x.1 else q.1 k)
      by_cases hk : k = x.2.1
      · rw [if_pos hk, hk]
        exact e.sy.tr (h.1 x.1)
      · rw [if_neg hk]
        exact h.1 k
    · show (if k = x.2.1 then q.1 x.1 else q.1 k) ≤ k
      have := h.2.1 k
      by_cases hk : k = x.2.1
      · rw [if_pos hk]
        rw [← hk] at hge
        omega
      · rw [if_neg hk]
        exact this
    · show (if k = x.2.1 then q.2 x.1 ^^^ x.2.2.1 else q.2 k) = g k ^^^ g (if k = x.2.1 then q.1 x.1 else q.1 k)
      by_cases hk : k = x.2.1
      · rw [if_pos hk, if_pos hk, h.2.2, ← hg, hk, Int32.xor_comm (g x.1 ^^^ g (q.1 x.1)) (g x.1 ^^^ g x.2.1), Int32.xor_comm (g x.1) (g x.2.1), xor_cancel4]
      · rw [if_neg hk, if_neg hk]
        exact h.2.2 k
    · show (if k = x.2.1 then q.1 x.1 else q.1 k) ≤ q.1 k
      by_cases hk : k = x.2.1
      · rw [if_pos hk, hk]
        exact hge
      · rw [if_neg hk]
        exact Nat.le_refl _
    · show (if x.2.1 = x.2.1 then q.1 x.1 else q.1 x.2.1) < q.1 x.2.1
      rw [if_pos rfl]
      omega
/-- one round over all strings but one -/
theorem round_spec {M : SMod} {n : Nat} {se le pu : Nat → Int32} {L L' : List Str4} {g : Nat → Int32} {q : Grp} {w : Int32} (hn : n ≤ 12) (hM : RMB (M.1 0) n se le pu L) (hin : InL L n) (hg : Pot L' g) (hw : ∀ k, k < L.length → ¬ nI k = w → sg L k ∈ L') (hw2 : ∀ x ∈ L', ∃ k, k < L.length ∧ ¬ nI k = w ∧ sg L k = x) (hl : LK M q n) (hv : Iv L' g q) :
    ∃ u : SMod × Int32, (∃ r, LK u.1 r n ∧ Iv L' g r ∧ ((u.2 = 0 ∧ ∀ x ∈ L', r.1 x.1 = r.1 x.2.1) ∨ (u.2 = 1 ∧ sN r.1 n < sN q.1 n)) ∧ KeepS M u.1) ∧ X7_looks_L44 FUEL M w 0 0 = some u := by
  have hlen := hM.2.2.2.1
  obtain ⟨u, ⟨r, h1, h2, h3, h4⟩, h5⟩ := loop_FUEL (f := fun fu (y : SMod × Int32) i => X7_looks_L44 fu y.1 w y.2 i) (n := L.length)
    (fun k y => ∃ r, LK y.1 r n ∧ Iv L' g r ∧ ((y.2 = 0 ∧ r = q ∧ ∀ i, i < k → ¬ nI i = w → r.1 (sg L i).1 = r.1 (sg L i).2.1) ∨ (y.2 = 1 ∧ sN r.1 n < sN q.1 n)) ∧ KeepS M y.1)
    (fun u => ∃ r, LK u.1 r n ∧ Iv L' g r ∧ ((u.2 = 0 ∧ ∀ x ∈ L', r.1 x.1 = r.1 x.2.1) ∨ (u.2 = 1 ∧ sN r.1 n < sN q.1 n)) ∧ KeepS M u.1) (by omega)
    (by
      intro fu k ⟨K, f⟩ hk ⟨r, hlr, hvr, hf, hb⟩
      right
      have hs : K.1 0 = M.1 0 := hb.s
      have e149 : K.1 0 (Int32.toNatClampNeg 149) = nI L.length := by rw [hs]; exact hM.2.2.1
      have hst := hM.2.2.2.2 k hk
      have hx := hin _ (sg_mem hk)
      have e0 : X7_tied K (nI k) 0 = some (nI (sg L k).1) := by rw [← hst.1, ← hs]; exact tied_spec K (k := k) (c := 0) (by omega)
      have e1 : X7_tied K (nI k) 1 = some (nI (sg L k).2.1) := by rw [← hst.2.1, ← hs]; exact tied_spec K (k := k) (c := 1) (by omega)
      have e2 : X7_tied K (nI k) 2 = some (sg L k).2.2.1 := by rw [← hst.2.2.1, ← hs]; exact tied_spec K (k := k) (c := 2) (by omega)
      have hle : ¬ nI L.length ≤ nI k := nI_ge hk (by omega)
      by_cases hkw : nI k = w
      · refine ⟨(K, f), ⟨r, hlr, hvr, ?_, hb⟩, ?_⟩
        · rcases hf with ⟨f0, rq, hall⟩ | hf
          · refine Or.inl ⟨f0, rq, fun i hi hiw => ?_⟩
            by_cases hik : i = k
            · subst hik
              exact absurd hkw hiw
            · exact hall i (by omega) hiw
          · exact Or.inr hf
        · show X7_looks_L44 (fu + 1) K w f (nI k) = X7_looks_L44 fu K w f (nI (k + 1))
          rw [X7_looks_L44, e149, if_neg hle, if_pos hkw, nI_1]
          rcases hf with ⟨f0, -⟩ | ⟨f1, -⟩
          · have f0 : f = 0 := f0
            rw [if_pos f0, f0]
          · have f1 : f = 1 := f1
            rw [f1, if_neg (by decide)]
      · obtain ⟨j1, j2⟩ := isJoined_spec (M := K) (q := r) (x := sg L k) hn hlr hvr.2.1 hx.1 hx.2.1
        by_cases hsame : r.1 (sg L k).1 = r.1 (sg L k).2.1
        · refine ⟨(K, f), ⟨r, hlr, hvr, ?_, hb⟩, ?_⟩
          · rcases hf with ⟨f0, rq, hall⟩ | hf
            · refine Or.inl ⟨f0, rq, fun i hi hiw => ?_⟩
              by_cases hik : i = k
              · subst hik
                exact hsame
              · exact hall i (by omega) hiw
            · exact Or.inr hf
          · show X7_looks_L44 (fu + 1) K w f (nI k) = X7_looks_L44 fu K w f (nI (k + 1))
            rw [X7_looks_L44, e149, if_neg hle, if_neg hkw, bind_some' e0, bind_some' e1, bind_some' e2, bind_some' (j1 hsame), nI_1]
            show (if (0 : Int32) = 0 then _ else _) = _
            rw [if_pos rfl]
            rcases hf with ⟨f0, -⟩ | ⟨f1, -⟩
            · have f0 : f = 0 := f0
              rw [if_pos f0, f0]
            · have f1 : f = 1 := f1
              rw [f1, if_neg (by decide)]
        · obtain ⟨K2, i1, i2, i3⟩ := j2 hsame
          have hmem := hw k hk hkw
          obtain ⟨s1, s2, s3⟩ := stp_Iv hmem (hg _ hmem) hvr hsame
          have hdec : sN (stp r (sg L k)).1 n < sN r.1 n := by
            rcases s3 with s3 | s3
            · exact sN_lt s2 s3 n (by omega)
            · exact sN_lt s2 s3 n hx.2.1
          refine ⟨(K2, 1), ⟨stp r (sg L k), i3, s1, Or.inr ⟨rfl, ?_⟩, hb.tr i2⟩, ?_⟩
          · rcases hf with ⟨-, rq, -⟩ | ⟨-, hlt⟩
            · rw [← rq]
              exact hdec
            · omega
          · show X7_looks_L44 (fu + 1) K w f (nI k) = X7_looks_L44 fu K2 w 1 (nI (k + 1))
            rw [X7_looks_L44, e149, if_neg hle, if_neg hkw, bind_some' e0, bind_some' e1, bind_some' e2, bind_some' i1, nI_1]
            show (if (1 : Int32) = 0 then _ else _) = _
            rw [if_neg (by decide)])
    (by
      intro fu ⟨K, f⟩ ⟨r, hlr, hvr, hf, hb⟩
      have hs : K.1 0 = M.1 0 := hb.s
      have e149 : K.1 0 (Int32.toNatClampNeg 149) = nI L.length := by rw [hs]; exact hM.2.2.1
      refine ⟨(K, f), ⟨r, hlr, hvr, ?_, hb⟩, ?_⟩
      · rcases hf with ⟨f0, rq, hall⟩ | hf
        · refine Or.inl ⟨f0, fun x hx => ?_⟩
          obtain ⟨k, hk, hkw, e⟩ := hw2 x hx
          rw [← e]
          exact hall k hk hkw
        · exact Or.inr hf
      · show X7_looks_L44 (fu + 1) K w f (nI L.length) = some (K, f)
        rw [X7_looks_L44, e149, if_pos (nI_le (Nat.le_refl _) (by omega))])
    (k := 0) (s := (M, 0)) (x := 0) (Nat.zero_le _) rfl ⟨q, hl, hv, Or.inl ⟨rfl, rfl, fun i hi => absurd hi (Nat.not_lt_zero i)⟩, KeepS.rf M⟩
  exact ⟨u, ⟨r, h1, h2, h3, h4⟩, h5⟩

theorem sN_id : ∀ n, n ≤ 12 → sN (fun k => k) n ≤ 66 := by
  intro n h
  rcases (by omega : n = 0 ∨ n = 1 ∨ n = 2 ∨ n = 3 ∨ n = 4 ∨ n = 5 ∨ n = 6 ∨ n = 7 ∨ n = 8 ∨ n = 9 ∨ n = 10 ∨ n = 11 ∨ n = 12) with rfl | rfl | rfl | rfl | rfl | rfl | rfl | rfl | rfl | rfl | rfl | rfl | rfl <;> decide
/-- rounds until nothing changes -/
theorem rounds_spec {n : Nat} {se le pu : Nat → Int32} {L L' : List Str4} {g : Nat → Int32} {w : Int32} (hn : n ≤ 12) (hin : InL L n) (hg : Pot L' g) (hw : ∀ k, k < L.length → ¬ nI k = w → sg L k ∈ L') (hw2 : ∀ x ∈ L', ∃ k, k < L.length ∧ ¬ nI k = w ∧ sg L k = x) :
    ∀ (d : Nat) (fu : Nat) (M : SMod) (q : Grp), RMB (M.1 0) n se le pu L → LK M q n → Iv L' g q → sN q.1 n ≤ d → d + 1 < fu → ∃ M' r, X7_looks_L36 fu M w 1 = some M' ∧ LK M' r n ∧ Iv L' g r ∧ (∀ x ∈ L', r.1 x.1 = r.1 x.2.1) ∧ KeepS M M' := by
  intro d
  induction d with
  | zero =>
    intro fu M q hM hl hv hd hf
    obtain ⟨f1, rfl⟩ : ∃ f, fu = f + 2 := ⟨fu - 2, by omega⟩
    obtain ⟨u, ⟨r, h1, h2, h3, h4⟩, h5⟩ := round_spec hn hM hin hg hw hw2 hl hv
    rcases h3 with ⟨h3, h6⟩ | ⟨-, h3⟩
    · refine ⟨u.1, r, ?_, h1, h2, h6, h4⟩
      rw [X7_looks_L36, if_neg (by decide), bind_some' h5, h3, X7_looks_L36, if_pos rfl]
    · omega
  | succ d ih =>
    intro fu M q hM hl hv hd hf
    obtain ⟨f1, rfl⟩ : ∃ f, fu = f + 2 := ⟨fu - 2, by omega⟩
    obtain ⟨u, ⟨r, h1, h2, h3, h4⟩, h5⟩ := round_spec hn hM hin hg hw hw2 hl hv
    rcases h3 with ⟨h3, h6⟩ | ⟨h3, h6⟩
    · refine ⟨u.1, r, ?_, h1, h2, h6, h4⟩
      rw [X7_looks_L36, if_neg (by decide), bind_some' h5, h3, X7_looks_L36, if_pos rfl]
    · obtain ⟨M', r', g1, g2, g3, g4, g5⟩ := ih (f1 + 1) u.1 r (by rw [h4.s]; exact hM) h1 h2 (by omega) (by omega)
      refine ⟨M', r', ?_, g2, g3, g4, h4.tr g5⟩
      rw [X7_looks_L36, if_neg (by decide), bind_some' h5, h3]
      exact g1
theorem looks_spec {M : SMod} {n : Nat} {se le pu : Nat → Int32} {L L' : List Str4} {g : Nat → Int32} {w : Int32} (hn : n ≤ 12) (hM : RMB (M.1 0) n se le pu L) (hin : InL L n) (hg : Pot L' g) (hw : ∀ k, k < L.length → ¬ nI k = w → sg L k ∈ L') (hw2 : ∀ x ∈ L', ∃ k, k < L.length ∧ ¬ nI k = w ∧ sg L k = x) :
    ∃ M', X7_looks M w = some M' ∧ LK M' (grp L') n ∧ KeepS M M' := by
  unfold X7_looks
  obtain ⟨M1, ⟨h1, h2⟩, h3⟩ := loop_FUEL (f := fun fu (K : SMod) i => X7_looks_L2 fu K w i) (n := n)
    (fun k K => (∀ i, i < k → K.1 4 i = nI i ∧ K.1 5 i = 0) ∧ KeepS M K) (fun K => (∀ i, i < n → K.1 4 i = nI i ∧ K.1 5 i = 0) ∧ KeepS M K) (by omega)
    (by
      intro fu k K hk ⟨hi, hb⟩
      right
      have e148 : K.1 0 (Int32.toNatClampNeg 148) = nI n := by rw [hb.s]; exact hM.1
      have g1 := ix_ok (k := k) (N := 12) (by omega) (by omega)
      have t1 := ix_to (k := k) (by omega)
      refine ⟨sm45 K (upd (K.1 4) k (nI k)) (upd (K.1 5) k 0), ⟨fun i hik => ?_, hb.tr (sm45_k _ _ _)⟩, ?_⟩
      · show upd (K.1 4) k (nI k) i = _ ∧ upd (K.1 5) k 0 i = _
        rw [upd_at, upd_at]
        by_cases hc : i = k
        · rw [if_pos hc, if_pos hc, hc]
          exact ⟨rfl, rfl⟩
        · rw [if_neg hc, if_neg hc]
          exact hi i (by omega)
      · show X7_looks_L2 (fu + 1) K w (nI k) = _
        rw [X7_looks_L2, e148, if_neg (nI_ge hk (by omega)), if_pos g1, t1, nI_1]
        rfl)
    (by
      intro fu K ⟨hi, hb⟩
      have e148 : K.1 0 (Int32.toNatClampNeg 148) = nI n := by rw [hb.s]; exact hM.1
      refine ⟨K, ⟨hi, hb⟩, ?_⟩
      show X7_looks_L2 (fu + 1) K w (nI n) = _
      rw [X7_looks_L2, e148, if_pos (nI_le (Nat.le_refl n) (by omega))])
    (k := 0) (s := M) (x := 0) (Nat.zero_le n) rfl ⟨fun i h => absurd h (Nat.not_lt_zero i), KeepS.rf M⟩
  have h3 : X7_looks_L2 FUEL M w 0 = some M1 := h3
  rw [bind_some' h3]
  obtain ⟨M2, r, g1, g2, g3, g4, g5⟩ := rounds_spec (L' := L') (g := g) (w := w) hn hin hg hw hw2 66 FUEL M1 g0 (by rw [h2.s]; exact hM) (fun k hk => h1 k hk) Iv.g0 (sN_id n hn) (by unfold FUEL; omega)
  rw [bind_some' g1]
  obtain ⟨a1, a2⟩ := grp_Iv hg
  refine ⟨M2, rfl, fun k hk => ?_, h2.tr g5⟩
  obtain ⟨e1, e2⟩ := g3.one a1 g4 a2 k
  rw [← e1, ← e2]
  exact g2 k hk
