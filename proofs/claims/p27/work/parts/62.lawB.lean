/-! a round over the strings, the rounds, all walks -/
theorem sN_leb {f g : Nat → Nat} : ∀ {n : Nat}, (∀ i, i < n → f i ≤ g i) → sN f n ≤ sN g n := by
  intro n
  induction n with
  | zero => intro _; exact Nat.le_refl 0
  | succ n ih =>
    intro h
    have h1 := h n (by omega)
    have h2 := ih (fun i hi => h i (by omega))
    show sN f n + f n ≤ sN g n + g n
    omega
theorem sN_ltb {f g : Nat → Nat} : ∀ {n : Nat}, (∀ i, i < n → f i ≤ g i) → ∀ {j : Nat}, j < n → f j < g j → sN f n < sN g n := by
  intro n
  induction n with
  | zero => intro _ j hj; omega
  | succ n ih =>
    intro h j hj hf
    have h1 := h n (by omega)
    have h2 := sN_leb (n := n) (fun i hi => h i (by omega))
    show sN f n + f n < sN g n + g n
    by_cases hjn : j = n
    · subst hjn
      omega
    · have := ih (fun i hi => h i (by omega)) (j := j) (by omega) hf
      omega
theorem sN_1 {f : Nat → Nat} : ∀ {n : Nat}, (∀ i, i < n → f i ≤ 1) → sN f n ≤ n := by
  intro n
  induction n with
  | zero => intro _; exact Nat.le_refl 0
  | succ n ih =>
    intro h
    have h1 := h n (by omega)
    have h2 := ih (fun i hi => h i (by omega))
    show sN f n + f n ≤ n + 1
    omega
/-- while the label k goes about -/
def IG (M : SLaw) (q : Grp) (n k : Nat) : Prop := ∀ j, j < n → (q.1 j < k → M 4 j = nI (q.1 j) ∧ M 4 (12 + j) = q.2 j) ∧ (q.1 j = k → M 4 j = -1 ∨ (M 4 j = nI k ∧ M 4 (12 + j) = q.2 j)) ∧ (k < q.1 j → M 4 j = -1)
/-- ahead of the label k -/
def OG (M : SLaw) (q : Grp) (n k : Nat) : Prop := ∀ j, j < n → (q.1 j < k → M 4 j = nI (q.1 j) ∧ M 4 (12 + j) = q.2 j) ∧ (k ≤ q.1 j → M 4 j = -1)
def cnt (M : SLaw) (n k : Nat) : Nat := sN (fun j => if M 4 j = nI k then 1 else 0) n
theorem cnt_n (M : SLaw) (n k : Nat) : cnt M n k ≤ n := sN_1 (fun i _ => by
  show (if M 4 i = nI k then 1 else 0) ≤ 1
  split <;> omega)
theorem nI_m1 {k : Nat} (h : k < 1000) : ¬ (-1 : Int32) = nI k := by
  intro z
  have h1 := congrArg Int32.toInt z
  rw [nI_toInt (by omega)] at h1
  have h2 : (-1 : Int32).toInt = -1 := by decide
  omega
theorem IG.lab {M : SLaw} {q : Grp} {n k j : Nat} (h : IG M q n k) (hj : j < n) (hq : q.1 j ≤ j) (hn : n ≤ 12) (hk : k < n) (hl : M 4 j = nI k) : q.1 j = k ∧ M 4 (12 + j) = q.2 j := by
  obtain ⟨h1, h2, h3⟩ := h j hj
  rcases (by omega : q.1 j < k ∨ q.1 j = k ∨ k < q.1 j) with c | c | c
  · have := (h1 c).1
    rw [hl] at this
    have := (nI_eq (by omega) (by omega)).mp this
    omega
  · refine ⟨c, ?_⟩
    rcases h2 c with e | e
    · rw [hl] at e
      exact absurd e.symm (nI_m1 (by omega))
    · exact e.2
  · have e := h3 c
    rw [hl] at e
    exact absurd e.symm (nI_m1 (by omega))
theorem xv {a u : Int32} (ha : a = 0 ∨ a = 1) (hu : u = 0 ∨ u = 1) : (if a = u then (0 : Int32) else 1) = a ^^^ u := by
  rcases ha with rfl | rfl <;> rcases hu with rfl | rfl <;> decide
/-- a label that goes over a string keeps what holds -/
theorem upS_ok {K : SLaw} {q : Grp} {g : Nat → Int32} {n k a b : Nat} {u : Int32} (hn : n ≤ 12) (hq : QF q g) (hI : IG K q n k) (hk : k < n) (ha : a < n) (hb : b < n) (hab : q.1 a = q.1 b) (hu : u = 0 ∨ u = 1) (hg : q.2 b = q.2 a ^^^ u) (hla : K 4 a = nI k) (hlb : ¬ K 4 b = nI k) :
    KG K (upS K a b (nI k) u) ∧ IG (upS K a b (nI k) u) q n k ∧ cnt K n k < cnt (upS K a b (nI k) u) n k ∧ ∀ j, j < n → K 4 j = nI k → upS K a b (nI k) u 4 j = nI k := by
  obtain ⟨e1, e2⟩ := hI.lab ha (hq.1 a) hn hk hla
  have hv : (if K 4 (12 + a) = u then (0 : Int32) else 1) = q.2 b := by rw [e2, xv (hq.2.2.2 a) hu, hg]
  have hat : ∀ j, j < n → upS K a b (nI k) u 4 j = if j = b then nI k else K 4 j := by
    intro j hj
    show upd (upd (K 4) b (nI k)) (12 + b) _ j = _
    rw [pk_un (by omega), upd_at]
  have hat2 : ∀ j, j < n → upS K a b (nI k) u 4 (12 + j) = if j = b then q.2 b else K 4 (12 + j) := by
    intro j hj
    show upd (upd (K 4) b (nI k)) (12 + b) (if K 4 (12 + a) = u then 0 else 1) (12 + j) = _
    rw [hv]
    by_cases c : j = b
    · rw [if_pos c, c, pk_us]
    · rw [if_neg c, pk_un (by omega), pk_un (by omega)]
  have hkeep : ∀ j, j < n → K 4 j = nI k → upS K a b (nI k) u 4 j = nI k := by
    intro j hj h
    rw [hat j hj]
    split
    · rfl
    · exact h
  refine ⟨(KG.u K _).tr (KG.u _ _), fun j hj => ?_, ?_, hkeep⟩
  · rw [hat j hj, hat2 j hj]
    by_cases c : j = b
    · rw [if_pos c, if_pos c, c, ← hab, e1]
      exact ⟨fun z => absurd z (Nat.lt_irrefl k), fun _ => Or.inr ⟨rfl, rfl⟩, fun z => absurd z (Nat.lt_irrefl k)⟩
    · rw [if_neg c, if_neg c]
      exact hI j hj
  · refine sN_ltb (fun i hi => ?_) (j := b) hb ?_
    · show (if K 4 i = nI k then 1 else 0) ≤ (if upS K a b (nI k) u 4 i = nI k then 1 else 0)
      by_cases c : K 4 i = nI k
      · rw [if_pos c, if_pos (hkeep i hi c)]
        exact Nat.le_refl 1
      · rw [if_neg c]
        exact Nat.zero_le _
    · show (if K 4 b = nI k then 1 else 0) < (if upS K a b (nI k) u 4 b = nI k then 1 else 0)
      rw [if_neg hlb, if_pos (by rw [hat b hb, if_pos rfl])]
      omega
/-- no string leads from the label to a puppet without it -/
def Cl (M : SLaw) (L : List Str4) (w : Int32) (k : Nat) : Prop := ∀ i, i < L.length → ¬ nI i = w → (M 4 (sg L i).1 = nI k ↔ M 4 (sg L i).2.1 = nI k)
theorem round_law {M : SLaw} {n k : Nat} {L L' : List Str4} {g : Nat → Int32} {w x5 x7 : Int32} (hn : n ≤ 12) (hin : InL L n) (hg : Pot L' g) (hin' : InL L' n) (hw : ∀ k, k < L.length → ¬ nI k = w → sg L k ∈ L') (hf : FS M L) (hk : k < n) (hI : IG M (grp L') n k) (hkk : M 4 k = nI k) :
    ∃ M', L_groups_L74 FUEL M w x5 (nI k) x7 0 = some M' ∧ KG M M' ∧ IG M' (grp L') n k ∧ M' 4 k = nI k ∧ ((cnt M n k < cnt M' n k ∧ ¬ Cl M L w k) ∨ (M' = M ∧ Cl M L w k)) := by
  have hq := grp_QF hin' hg
  have hcon := (grp_Iv hg).2
  obtain ⟨M', ⟨h1, h2, h3, h4⟩, h5⟩ := loop_FUEL (f := fun fu (K : SLaw) i => L_groups_L74 fu K w x5 (nI k) x7 i) (n := L.length)
    (fun i K => KG M K ∧ IG K (grp L') n k ∧ K 4 k = nI k ∧ ((cnt M n k < cnt K n k ∧ ¬ Cl M L w k) ∨ (K = M ∧ ∀ j, j < i → ¬ nI j = w → (M 4 (sg L j).1 = nI k ↔ M 4 (sg L j).2.1 = nI k))))
    (fun K => KG M K ∧ IG K (grp L') n k ∧ K 4 k = nI k ∧ ((cnt M n k < cnt K n k ∧ ¬ Cl M L w k) ∨ (K = M ∧ Cl M L w k))) (by have := hf.2.1; omega)
    (by
      intro fu i K hi ⟨i1, i2, i3, i4⟩
      right
      have hfK := i1.fs hf
      have hx := hin _ (sg_mem hi)
      have hlen := hf.2.1
      show ∃ s', _ ∧ L_groups_L74 (fu + 1) K w x5 (nI k) x7 (nI i) = L_groups_L74 fu s' w x5 (nI k) x7 (nI (i + 1))
      rw [L74_at hn hin hfK fu w x5 (nI k) x7 hi]
      by_cases c0 : nI i = w
      · rw [if_pos c0]
        refine ⟨K, ⟨i1, i2, i3, ?_⟩, rfl⟩
        rcases i4 with z | ⟨z1, z2⟩
        · exact Or.inl z
        · refine Or.inr ⟨z1, fun j hj hjw => ?_⟩
          by_cases c : j = i
          · subst c
            exact absurd c0 hjw
          · exact z2 j (by omega) hjw
      rw [if_neg c0]
      have hm := hw i hi c0
      have e1 := hcon _ hm
      have e2 := hg _ hm
      have hsx := sides_x hq e1
      have same : (K 4 (sg L i).1 = nI k ↔ K 4 (sg L i).2.1 = nI k) → ∃ s', (KG M s' ∧ IG s' (grp L') n k ∧ s' 4 k = nI k ∧ ((cnt M n k < cnt s' n k ∧ ¬ Cl M L w k) ∨ (s' = M ∧ ∀ j, j < i + 1 → ¬ nI j = w → (M 4 (sg L j).1 = nI k ↔ M 4 (sg L j).2.1 = nI k)))) ∧ L_groups_L74 fu K w x5 (nI k) x7 (nI (i + 1)) = L_groups_L74 fu s' w x5 (nI k) x7 (nI (i + 1)) := by
        intro hs
        refine ⟨K, ⟨i1, i2, i3, ?_⟩, rfl⟩
        rcases i4 with z | ⟨z1, z2⟩
        · exact Or.inl z
        · refine Or.inr ⟨z1, fun j hj hjw => ?_⟩
          by_cases c : j = i
          · subst c
            rw [z1] at hs
            exact hs
          · exact z2 j (by omega) hjw
      have diff : ∀ s', (KG K s' ∧ IG s' (grp L') n k ∧ cnt K n k < cnt s' n k ∧ ∀ j, j < n → K 4 j = nI k → s' 4 j = nI k) → ¬ (K 4 (sg L i).1 = nI k ↔ K 4 (sg L i).2.1 = nI k) → (KG M s' ∧ IG s' (grp L') n k ∧ s' 4 k = nI k ∧ ((cnt M n k < cnt s' n k ∧ ¬ Cl M L w k) ∨ (s' = M ∧ ∀ j, j < i + 1 → ¬ nI j = w → (M 4 (sg L j).1 = nI k ↔ M 4 (sg L j).2.1 = nI k)))) := by
        intro s' ⟨d1, d2, d3, d4⟩ hno
        refine ⟨i1.tr d1, d2, d4 k hk i3, Or.inl ?_⟩
        rcases i4 with ⟨z1, z2⟩ | ⟨z1, z2⟩
        · exact ⟨by omega, z2⟩
        · rw [z1] at d3 hno
          exact ⟨d3, fun z => hno (z i hi c0)⟩
      by_cases ca : K 4 (sg L i).1 = nI k
      · rw [if_pos ca]
        by_cases cab : K 4 (sg L i).1 = K 4 (sg L i).2.1
        · rw [if_pos cab]
          exact same ⟨fun _ => by rw [← cab]; exact ca, fun _ => ca⟩
        · rw [if_neg cab]
          have hnb : ¬ K 4 (sg L i).2.1 = nI k := fun z => cab (by rw [ca, z])
          refine ⟨_, diff _ (upS_ok hn hq i2 hk (by omega) hx.2.1 e1 hx.2.2 ?_ ca hnb) (fun z => hnb (z.mp ca)), rfl⟩
          rw [← e2, ← hsx, xor_q]
      · rw [if_neg ca]
        by_cases cb : K 4 (sg L i).2.1 = nI k
        · rw [if_pos cb, if_neg (fun z => ca (by rw [z, cb]))]
          refine ⟨_, diff _ (upS_ok hn hq i2 hk hx.2.1 (by omega) e1.symm hx.2.2 ?_ cb ca) (fun z => ca (z.mpr cb)), rfl⟩
          rw [← e2, ← hsx, xor_r]
        · rw [if_neg cb]
          exact same ⟨fun z => absurd z ca, fun z => absurd z cb⟩)
    (by
      intro fu K ⟨i1, i2, i3, i4⟩
      have hfK := i1.fs hf
      have hlen := hf.2.1
      refine ⟨K, ⟨i1, i2, i3, ?_⟩, ?_⟩
      · rcases i4 with z | ⟨z1, z2⟩
        · exact Or.inl z
        · exact Or.inr ⟨z1, z2⟩
      · show L_groups_L74 (fu + 1) K w x5 (nI k) x7 (nI L.length) = _
        rw [L_groups_L74, cl1, hfK.1, if_pos (nI_le (Nat.le_refl _) (by omega))])
    (k := 0) (s := M) (x := 0) (Nat.zero_le _) rfl ⟨KG.rf M, hI, hkk, Or.inr ⟨rfl, fun j hj => absurd hj (Nat.not_lt_zero j)⟩⟩
  exact ⟨M', h5, h1, h2, h3, h4⟩
theorem rounds_law {M : SLaw} {n k : Nat} {L L' : List Str4} {g : Nat → Int32} {w x5 : Int32} (hn : n ≤ 12) (hin : InL L n) (hg : Pot L' g) (hin' : InL L' n) (hw : ∀ k, k < L.length → ¬ nI k = w → sg L k ∈ L') (h0 : M 3 0 = nI n) (hf : FS M L) (hk : k < n) (hI : IG M (grp L') n k) (hkk : M 4 k = nI k) :
    ∃ M', L_groups_L63 FUEL M w x5 (nI k) 0 = some M' ∧ KG M M' ∧ IG M' (grp L') n k ∧ M' 4 k = nI k ∧ Cl M' L w k := by
  have h9 : 0 + 1 ≤ cnt M n k := by
    have : sN (fun _ => 0) n < cnt M n k := sN_ltb (fun i _ => Nat.zero_le _) (j := k) hk (by rw [if_pos hkk]; exact Nat.one_pos)
    omega
  obtain ⟨M', ⟨h1, h2, h3, h4⟩, h5⟩ := loop_FUEL (f := fun fu (K : SLaw) i => L_groups_L63 fu K w x5 (nI k) i) (n := n)
    (fun i K => KG M K ∧ IG K (grp L') n k ∧ K 4 k = nI k ∧ (i + 1 ≤ cnt K n k ∨ Cl K L w k))
    (fun K => KG M K ∧ IG K (grp L') n k ∧ K 4 k = nI k ∧ Cl K L w k) (by omega)
    (by
      intro fu i K hi ⟨i1, i2, i3, i4⟩
      right
      have hfK := i1.fs hf
      have h0K : K 3 0 = nI n := by rw [i1 3 (by decide)]; exact h0
      obtain ⟨K', r1, r2, r3, r4, r5⟩ := round_law (x5 := x5) (x7 := nI i) hn hin hg hin' hw hfK hk i2 i3
      refine ⟨K', ⟨i1.tr r2, r3, r4, ?_⟩, ?_⟩
      · rcases r5 with ⟨z1, z2⟩ | ⟨z1, z2⟩
        · rcases i4 with i4 | i4
          · exact Or.inl (by omega)
          · exact absurd i4 z2
        · rw [z1]
          exact Or.inr z2
      · show L_groups_L63 (fu + 1) K w x5 (nI k) (nI i) = _
        rw [L_groups_L63, cl0, h0K, if_neg (nI_ge hi (by omega)), bind_some' r1, nI_1])
    (by
      intro fu K ⟨i1, i2, i3, i4⟩
      have h0K : K 3 0 = nI n := by rw [i1 3 (by decide)]; exact h0
      refine ⟨K, ⟨i1, i2, i3, ?_⟩, ?_⟩
      · rcases i4 with z | z
        · have := cnt_n K n k
          omega
        · exact z
      · show L_groups_L63 (fu + 1) K w x5 (nI k) (nI n) = _
        rw [L_groups_L63, cl0, h0K, if_pos (nI_le (Nat.le_refl _) (by omega))])
    (k := 0) (s := M) (x := 0) (Nat.zero_le _) rfl ⟨KG.rf M, hI, hkk, Or.inl h9⟩
  exact ⟨M', h5, h1, h2, h3, h4⟩
theorem marks_law {M : SLaw} {n : Nat} (w c : Int32) (hn : n ≤ 12) (h0 : M 3 0 = nI n) : ∃ M', L_groups_L6 FUEL M w c 0 = some M' ∧ KG M M' ∧ ∀ k, k < n → M' 4 k = -1 := by
  obtain ⟨M', ⟨h1, h2⟩, h5⟩ := loop_FUEL (f := fun fu (K : SLaw) i => L_groups_L6 fu K w c i) (n := n)
    (fun i K => KG M K ∧ ∀ j, j < i → K 4 j = -1) (fun K => KG M K ∧ ∀ j, j < n → K 4 j = -1) (by omega)
    (by
      intro fu i K hi ⟨i1, i2⟩
      right
      have h0K : K 3 0 = nI n := by rw [i1 3 (by decide)]; exact h0
      refine ⟨up K 4 (upd (K 4) i (-1)), ⟨i1.tr (KG.u _ _), fun j hj => ?_⟩, ?_⟩
      · show upd (K 4) i (-1) j = -1
        rw [upd_at]
        split
        · rfl
        · exact i2 j (by omega)
      · show L_groups_L6 (fu + 1) K w c (nI i) = _
        rw [L_groups_L6, cl0, h0K, if_neg (nI_ge hi (by omega)), if_pos (ixg (by omega) (by omega)), nI_clamp (by omega), nI_1, bnd_at])
    (by
      intro fu K ⟨i1, i2⟩
      have h0K : K 3 0 = nI n := by rw [i1 3 (by decide)]; exact h0
      refine ⟨K, ⟨i1, i2⟩, ?_⟩
      show L_groups_L6 (fu + 1) K w c (nI n) = _
      rw [L_groups_L6, cl0, h0K, if_pos (nI_le (Nat.le_refl _) (by omega))])
    (k := 0) (s := M) (x := 0) (Nat.zero_le _) rfl ⟨KG.rf M, fun j hj => absurd hj (Nat.not_lt_zero j)⟩
  exact ⟨M', h5, h1, h2⟩
/-- the law's walks tell the groups -/
theorem groups_law {M : SLaw} {n : Nat} {L L' : List Str4} {g : Nat → Int32} {w : Int32} (hn : n ≤ 12) (hin : InL L n) (hg : Pot L' g) (hin' : InL L' n) (hw : ∀ k, k < L.length → ¬ nI k = w → sg L k ∈ L') (hw2 : ∀ x ∈ L', ∃ k, k < L.length ∧ ¬ nI k = w ∧ sg L k = x) (h0 : M 3 0 = nI n) (hf : FS M L) :
    ∃ M', L_groups M w = some (M', cG n (grp L')) ∧ KG M M' ∧ LG M' (grp L') n := by
  have hq := grp_QF hin' hg
  obtain ⟨M1, a1, a2, a3⟩ := marks_law (M := M) w 0 hn h0
  obtain ⟨⟨M', r⟩, ⟨h1, h2, h3⟩, h5⟩ := loop_FUEL (f := fun fu (s : SLaw × Int32) i => L_groups_L28 fu s.1 w s.2 i) (n := n)
    (fun i s => KG M s.1 ∧ OG s.1 (grp L') n i ∧ s.2 = cG i (grp L')) (fun s => KG M s.1 ∧ OG s.1 (grp L') n n ∧ s.2 = cG n (grp L')) (by omega)
    (by
      rintro fu k ⟨K, c⟩ hk ⟨i1, i2, rfl⟩
      have i1 : KG M K := i1
      have i2 : OG K (grp L') n k := i2
      right
      have h0K : K 3 0 = nI n := by rw [i1 3 (by decide)]; exact h0
      have qk := hq.1 k
      show ∃ s' : SLaw × Int32, _ ∧ L_groups_L28 (fu + 1) K w (cG k (grp L')) (nI k) = L_groups_L28 fu s'.1 w s'.2 (nI (k + 1))
      have hc : cG (k + 1) (grp L') = if (grp L').1 k = k then cG k (grp L') + 1 else cG k (grp L') := rfl
      rw [L_groups_L28, cl0, h0K, if_neg (nI_ge hk (by omega)), if_pos (ixg (by omega) (by omega)), nI_clamp (by omega)]
      by_cases ck : (grp L').1 k = k
      · have e4 : K 4 k = -1 := (i2 k hk).2 (by omega)
        rw [e4, if_neg (by decide), bnd_at, a12e, if_pos (ixg (by omega) (by omega)), nI_clamp (by omega), bnd_at, u44]
        have hkt : (grp L').2 k = 0 := by have := hq.top k; rw [ck] at this; exact this
        have hI : IG (up (up K 4 (upd (K 4) k (nI k))) 4 (upd (upd (K 4) k (nI k)) (12 + k) 0)) (grp L') n k := by
          intro j hj
          show (_ → upd (upd (K 4) k (nI k)) (12 + k) 0 j = _ ∧ upd (upd (K 4) k (nI k)) (12 + k) 0 (12 + j) = _) ∧ (_ → upd (upd (K 4) k (nI k)) (12 + k) 0 j = _ ∨ (upd (upd (K 4) k (nI k)) (12 + k) 0 j = _ ∧ upd (upd (K 4) k (nI k)) (12 + k) 0 (12 + j) = _)) ∧ (_ → upd (upd (K 4) k (nI k)) (12 + k) 0 j = _)
          by_cases cj : j = k
          · subst cj
            rw [pk_un (show j ≠ 12 + j by omega), pk_us, pk_us, ck]
            exact ⟨fun z => absurd z (Nat.lt_irrefl j), fun _ => Or.inr ⟨rfl, hkt.symm⟩, fun z => absurd z (Nat.lt_irrefl j)⟩
          · rw [pk_un (show j ≠ 12 + k by omega), pk_un cj, pk_un (show 12 + j ≠ 12 + k by omega), pk_un (show 12 + j ≠ k by omega)]
            obtain ⟨o1, o2⟩ := i2 j hj
            exact ⟨o1, fun z => Or.inl (o2 (by omega)), fun z => o2 (by omega)⟩
        have hKG : KG K (up (up K 4 (upd (K 4) k (nI k))) 4 (upd (upd (K 4) k (nI k)) (12 + k) 0)) := (KG.u _ _).tr (KG.u _ _)
        obtain ⟨K', r1, r2, r3, r4, r5⟩ := rounds_law (x5 := cG k (grp L') + 1) hn hin hg hin' hw (by rw [hKG 3 (by decide)]; exact h0K) ((i1.tr hKG).fs hf) hk hI (by
          show upd (upd (K 4) k (nI k)) (12 + k) 0 k = _
          rw [pk_un (by omega), pk_us])
        rw [bind_some' r1, nI_1]
        refine ⟨(K', cG (k + 1) (grp L')), ⟨(i1.tr hKG).tr r2, fun j hj => ?_, rfl⟩, ?_⟩
        · obtain ⟨s1, s2, s3⟩ := r3 j hj
          refine ⟨fun z => ?_, fun z => s3 (by omega)⟩
          by_cases cj : (grp L').1 j = k
          · have hcon : Con L' k j := (grp_con hg).mp (by rw [ck, cj])
            have hlab := hcon (fun a b => K' 4 a = nI k ↔ K' 4 b = nI k) (fun _ => Iff.rfl) (fun _ _ z => z.symm) (fun _ _ _ z z' => z.trans z') (fun x hx => by
              obtain ⟨i, hi1, hi2, hi3⟩ := hw2 x hx
              rw [← hi3]
              exact r5 i hi1 hi2)
            obtain ⟨-, t2⟩ := r3.lab hj (hq.1 j) hn hk (hlab.mp r4)
            exact ⟨by rw [cj]; exact hlab.mp r4, t2⟩
          · exact s1 (by omega)
        · rw [hc, if_pos ck]
      · obtain ⟨e4, -⟩ := (i2 k hk).1 (by omega)
        rw [e4, if_pos (nI_pos' (by omega)), nI_1]
        refine ⟨(K, cG (k + 1) (grp L')), ⟨i1, fun j hj => ?_, rfl⟩, by rw [hc, if_neg ck]⟩
        obtain ⟨o1, o2⟩ := i2 j hj
        refine ⟨fun z => o1 ?_, fun z => o2 (by omega)⟩
        have hne : (grp L').1 j ≠ k := by
          intro z2
          have := hq.2.1 j
          rw [z2] at this
          exact ck this
        omega)
    (by
      rintro fu ⟨K, c⟩ ⟨i1, i2, i3⟩
      have i1 : KG M K := i1
      have h0K : K 3 0 = nI n := by rw [i1 3 (by decide)]; exact h0
      refine ⟨(K, c), ⟨i1, i2, i3⟩, ?_⟩
      show L_groups_L28 (fu + 1) K w c (nI n) = _
      rw [L_groups_L28, cl0, h0K, if_pos (nI_le (Nat.le_refl _) (by omega))])
    (k := 0) (s := (M1, 0)) (x := 0) (Nat.zero_le _) rfl ⟨a2, fun j hj => ⟨fun z => absurd z (Nat.not_lt_zero _), fun _ => a3 j hj⟩, rfl⟩
  have h1 : KG M M' := h1
  have h2 : OG M' (grp L') n n := h2
  have h3 : r = cG n (grp L') := h3
  have h5 : L_groups_L28 FUEL M1 w 0 0 = some (M', r) := h5
  refine ⟨M', ?_, h1, fun k hk => (h2 k hk).1 (by have := hq.1 k; omega)⟩
  unfold L_groups
  rw [bind_some' a1, bind_some' h5, h3]
