/-! all sets of groups -/
theorem bt_n {s k : Nat} (hk : k < 32) : bt (nI s) k = s.testBit k := by
  unfold bt
  show (BitVec.ofNat 32 s).getLsbD k = _
  rw [BitVec.getLsbD_ofNat, decide_eq_true hk, Bool.true_and]
theorem lowT : ((List.range 4096).all (fun s => s == 0 || (List.range 12).any (fun i => s.testBit i && (List.range i).all (fun j => !s.testBit j) && (List.range 12).all (fun j => (s - 1).testBit j == (if j < i then true else if j == i then false else s.testBit j))))) = true := by decide +kernel
def pcn (c s : Nat) : Nat := sN (fun k => if s.testBit k then 1 else 0) c
theorem pcT : ((List.range 4096).all (fun s => J6_bitCount_0f7a4 (nI s) == nI (pcn 12 s))) = true := by decide +kernel
theorem low_of {s : Nat} (h0 : 1 ≤ s) (h1 : s < 4096) : ∃ i, i < 12 ∧ s.testBit i = true ∧ (∀ j, j < i → s.testBit j = false) ∧ ∀ j, j < 12 → (s - 1).testBit j = if j < i then true else if j = i then false else s.testBit j := by
  have z := List.all_eq_true.mp lowT s (List.mem_range.mpr h1)
  rw [Bool.or_eq_true, beq_iff_eq] at z
  rcases z with z | z
  · omega
  obtain ⟨i, hi, hz⟩ := List.any_eq_true.mp z
  rw [Bool.and_eq_true, Bool.and_eq_true] at hz
  obtain ⟨⟨a, b⟩, d⟩ := hz
  refine ⟨i, List.mem_range.mp hi, a, fun j hj => ?_, fun j hj => ?_⟩
  · have w := List.all_eq_true.mp b j (List.mem_range.mpr hj)
    rw [Bool.not_eq_true'] at w
    exact w
  · have w := List.all_eq_true.mp d j (List.mem_range.mpr hj)
    rw [beq_iff_eq] at w
    rw [w]
    by_cases e : j = i
    · rw [e, beq_self_eq_true, if_pos rfl, if_pos rfl]
    · rw [beq_eq_false_iff_ne.mpr e, if_neg (show ¬ (false = true) by decide), if_neg e]
def SI (G : Nat → Int) (c s : Nat) : Int := smI (fun k => if s.testBit k then G k else 0) c
theorem SI_bd {G : Nat → Int} {c s : Nat} (hc : c ≤ 12) (hG : ∀ i, i < c → -108 ≤ G i ∧ G i ≤ 108) : -1296 ≤ SI G c s ∧ SI G c s ≤ 1296 := by
  have h := smI_bd (f := fun k => if s.testBit k then G k else 0) (B := 108) (by omega) (n := c) (fun k hk => by
    have h9 := hG k hk
    show -108 ≤ (if s.testBit k then G k else 0) ∧ (if s.testBit k then G k else 0) ≤ 108
    split <;> omega)
  unfold SI
  omega
theorem SI_step {G : Nat → Int} {s i : Nat} (h1 : s.testBit i = true) (h2 : ∀ j, j < i → s.testBit j = false) (h3 : ∀ j, j < 12 → (s - 1).testBit j = if j < i then true else if j = i then false else s.testBit j) : ∀ m, m ≤ 12 → SI G m s - SI G m (s - 1) = if m ≤ i then - smI G m else G i - smI G i := by
  intro m
  induction m with
  | zero => intro _; rw [if_pos (Nat.zero_le i)]; rfl
  | succ m ih =>
    intro hm
    have e := ih (by omega)
    have e1 : SI G (m + 1) s = SI G m s + (if s.testBit m then G m else 0) := rfl
    have e2 : SI G (m + 1) (s - 1) = SI G m (s - 1) + (if (s - 1).testBit m then G m else 0) := rfl
    have e3 : smI G (m + 1) = smI G m + G m := rfl
    rw [e1, e2, h3 m (by omega)]
    rcases Nat.lt_trichotomy m i with d | d | d
    · rw [if_pos (by omega)] at e
      rw [h2 m d, if_neg (show ¬ (false = true) by decide), if_pos d, if_pos (show true = true from rfl), if_pos (show m + 1 ≤ i by omega), e3]
      omega
    · rw [if_pos (by omega)] at e
      rw [d, h1, if_pos (show true = true from rfl), if_neg (Nat.lt_irrefl i), if_pos (show i = i from rfl), if_neg (show ¬ (false = true) by decide), if_neg (show ¬ i + 1 ≤ i by omega)]
      rw [d] at e
      omega
    · rw [if_neg (by omega)] at e
      rw [if_neg (show ¬ m < i by omega), if_neg (show ¬ m = i by omega), if_neg (show ¬ m + 1 ≤ i by omega)]
      omega
theorem tb_hi {c s k : Nat} (hs : s < 2 ^ c) (hk : c ≤ k) : s.testBit k = false := Nat.testBit_lt_two_pow (Nat.lt_of_lt_of_le hs (Nat.pow_le_pow_right (by omega) hk))
theorem pcn_hi {c s : Nat} (hs : s < 2 ^ c) : ∀ d, pcn (c + d) s = pcn c s := by
  intro d
  induction d with
  | zero => rfl
  | succ d ih =>
    show pcn (c + d) s + (if s.testBit (c + d) then 1 else 0) = _
    rw [ih, tb_hi hs (by omega), if_neg (show ¬ (false = true) by decide), Nat.add_zero]
theorem pcn_le (c s : Nat) : pcn c s ≤ c := by
  induction c with
  | zero => exact Nat.le_refl 0
  | succ c ih =>
    show pcn c s + (if s.testBit c then 1 else 0) ≤ c + 1
    split <;> omega
theorem p2_le {c : Nat} (hc : c ≤ 12) : 2 ^ c ≤ 4096 := Nat.pow_le_pow_right (by omega) hc
theorem bits_n {c s : Nat} (hc : c ≤ 12) (hs : s < 2 ^ c) : J6_bitCount_0f7a4 (nI s) = nI (pcn c s) := by
  have h := p2_le hc
  have w := List.all_eq_true.mp pcT s (List.mem_range.mpr (by omega))
  rw [beq_iff_eq] at w
  have e := pcn_hi hs (12 - c)
  rw [show c + (12 - c) = 12 by omega] at e
  rw [w, e]
theorem p2_at {c : Nat} (hc : c ≤ 12) : (1 : Int32) <<< (nI c &&& 31) = nI (2 ^ c) := by
  have h : ∀ c : Nat, c < 13 → (1 : Int32) <<< (nI c &&& 31) = nI (2 ^ c) := by decide +kernel
  exact h c (by omega)
theorem inner_it {K : SMod} {w q : Int32} {c s : Nat} {G : Nat → Int} (hc : c ≤ 12) (hG : ∀ i, i < c → K.1 7 i = jI (G i)) : X7_bySets_L23 FUEL K w (nI c) q (nI s) 0 0 0 = some (jI (SI G c s), nI (pcn c s)) := by
  obtain ⟨r, h1, h2⟩ := loop_FUEL (f := fun fu (t : Int32 × Int32) i => X7_bySets_L23 fu K w (nI c) q (nI s) t.1 t.2 i) (n := c)
    (fun k t => t = (jI (SI G k s), nI (pcn k s))) (fun t => t = (jI (SI G c s), nI (pcn c s))) (by omega)
    (by
      rintro fu k t hk rfl
      right
      refine ⟨_, rfl, ?_⟩
      show X7_bySets_L23 (fu + 1) K w (nI c) q (nI s) (jI (SI G k s)) (nI (pcn k s)) (nI k) = X7_bySets_L23 fu K w (nI c) q (nI s) (jI (SI G k s + if s.testBit k then G k else 0)) (nI (pcn k s + if s.testBit k then 1 else 0)) (nI (k + 1))
      rw [X7_bySets_L23, if_neg (nI_ge hk (by omega)), at_bt (by omega), bt_n (by omega)]
      by_cases d : s.testBit k = true
      · rw [if_pos d, if_pos d, if_pos d, if_pos (show (1 : Int32) = 1 from rfl), if_pos (ixg (by omega) (by omega)), nI_clamp (by omega), hG k hk, jI_add, nI_1, nI_1]
      · rw [if_neg d, if_neg d, if_neg d, if_neg (show ¬ (0 : Int32) = 1 by decide), show jI (SI G k s) + 0 = jI (SI G k s + 0) from jI_add _ 0, show nI (pcn k s) + 0 = nI (pcn k s + 0) from nI_add _ 0, nI_1])
    (by
      rintro fu t rfl
      refine ⟨_, rfl, ?_⟩
      show X7_bySets_L23 (fu + 1) K w (nI c) q (nI s) _ _ (nI c) = _
      rw [X7_bySets_L23, if_pos (nI_le (Nat.le_refl c) (by omega))])
    (k := 0) (s := ((0 : Int32), (0 : Int32))) (x := 0) (by omega) rfl rfl
  rw [← h1]
  exact h2
theorem step_to {T : STrn} {c s : Nat} {G : Nat → Int} (hc : c ≤ 12) (h0 : T.2 0 = nI c) (hG : ∀ i, i < c → T.1 i = jI (2 * G i)) (hs0 : 1 ≤ s) (hs : s < 2 ^ c) : X5_stepTo T (nI s) = some (jI (2 * (SI G c s - SI G c (s - 1)))) := by
  have h4 := p2_le hc
  obtain ⟨i, hi, a1, a2, a3⟩ := low_of hs0 (by omega)
  have hic : i < c := by
    rcases Nat.lt_or_ge i c with d | d
    · exact d
    · rw [tb_hi hs d] at a1
      exact absurd a1 (by decide)
  rw [SI_step a1 a2 a3 c hc, if_neg (by omega)]
  obtain ⟨r, h1, h2⟩ := loop_FUEL (f := fun fu (t : Int32) k => X5_stepTo_L4 fu T (nI s) t k) (n := c)
    (fun k t => k ≤ i ∧ t = jI (-(2 * smI G k))) (fun t => t = jI (2 * (G i - smI G i))) (by omega)
    (by
      rintro fu k t hk ⟨hki, rfl⟩
      have ek : rget 12 T.1 (nI k) = jI (2 * G k) := by rw [rget_n _ (by omega) (by omega), hG k hk]
      by_cases d : k = i
      · left
        refine ⟨_, rfl, ?_⟩
        show X5_stepTo_L4 (fu + 1) T (nI s) (jI (-(2 * smI G k))) (nI k) = _
        rw [X5_stepTo_L4, h0, if_neg (nI_ge hk (by omega)), mem_bt (by omega), bt_n (by omega), d, if_pos a1, if_neg (show ¬ (1 : Int32) = 0 by decide), ← d, ek, jI_add, show -(2 * smI G k) + 2 * G k = 2 * (G k - smI G k) by omega]
      · right
        refine ⟨_, ⟨by omega, rfl⟩, ?_⟩
        show X5_stepTo_L4 (fu + 1) T (nI s) (jI (-(2 * smI G k))) (nI k) = X5_stepTo_L4 fu T (nI s) (jI (-(2 * (smI G k + G k)))) (nI (k + 1))
        rw [X5_stepTo_L4, h0, if_neg (nI_ge hk (by omega)), mem_bt (by omega), bt_n (by omega), a2 k (by omega), if_neg (show ¬ (false = true) by decide), if_pos (show (0 : Int32) = 0 from rfl), ek, jI_sub, nI_1, show -(2 * smI G k) - 2 * G k = -(2 * (smI G k + G k)) by omega])
    (by
      rintro fu t ⟨z, -⟩
      omega)
    (k := 0) (s := (0 : Int32)) (x := 0) (by omega) rfl ⟨by omega, rfl⟩
  unfold X5_stepTo
  rw [h2, h1]
def BRs (b1 b2 : Int32) : Prop := (b1 = -1 ∧ b2 = -1000004) ∨ ∃ m, m ≤ 12 ∧ b1 = nI m ∧ b2 = nI m
theorem sets_joint {T : STrn} {M : SMod} {c y a : Nat} {G : Nat → Int} (hg : GR2 T M c G) (hc : c ≤ 12) (hy : y ≤ 108) (ha : a ≤ 108) :
    ∀ (d s : Nat) (b1 b2 : Int32) (f1 f2 : Nat), s + d = 2 ^ c → 1 ≤ s → d < f1 → d < f2 → BRs b1 b2 →
    ∃ r1 r2, X5_fewestOfAllSets_L18 f1 T b1 (jI (2 * y - a + 2 * SI G c (s - 1))) (nI s) = some r1 ∧ X7_bySets_L6 f2 M (nI a / 2 + 1 - nI y) (nI c) b2 (nI s) = some r2 ∧ BRs r1 r2 := by
  have h4 := p2_le hc
  intro d
  induction d with
  | zero =>
    intro s b1 b2 f1 f2 hd hs h1 h2 hb
    obtain ⟨q1, rfl⟩ : ∃ q, f1 = q + 1 := ⟨f1 - 1, by omega⟩
    obtain ⟨q2, rfl⟩ : ∃ q, f2 = q + 1 := ⟨f2 - 1, by omega⟩
    refine ⟨b1, b2, ?_, ?_, hb⟩
    · rw [X5_fewestOfAllSets_L18, hg.1, p2_at hc, if_pos (nI_le (by omega) (by omega))]
    · rw [X7_bySets_L6, p2_at hc, if_pos (nI_le (by omega) (by omega))]
  | succ d ih =>
    intro s b1 b2 f1 f2 hd hs h1 h2 hb
    obtain ⟨q1, rfl⟩ : ∃ q, f1 = q + 1 := ⟨f1 - 1, by omega⟩
    obtain ⟨q2, rfl⟩ : ∃ q, f2 = q + 1 := ⟨f2 - 1, by omega⟩
    have hsc : s < 2 ^ c := by omega
    have hS := SI_bd (s := s) hc (fun i hi => (hg.2 i hi).1)
    obtain ⟨en, -⟩ := enough (S := SI G c s) hy ha ⟨by omega, by omega⟩
    have eC := step_to hc hg.1 (fun i hi => (hg.2 i hi).2.1) hs hsc
    have eM := inner_it (K := M) (w := nI a / 2 + 1 - nI y) (q := b2) (s := s) hc (fun i hi => (hg.2 i hi).2.2)
    have hp := pcn_le c s
    have goC : X5_fewestOfAllSets_L18 (q1 + 1) T b1 (jI (2 * y - a + 2 * SI G c (s - 1))) (nI s) = if jI (2 * y - a + 2 * SI G c s) ≤ 0 then X5_fewestOfAllSets_L18 q1 T b1 (jI (2 * y - a + 2 * SI G c s)) (nI (s + 1)) else (if b1 = -1 then X5_fewestOfAllSets_L18 q1 T (nI (pcn c s)) (jI (2 * y - a + 2 * SI G c s)) (nI (s + 1)) else (if b1 ≤ nI (pcn c s) then X5_fewestOfAllSets_L18 q1 T b1 (jI (2 * y - a + 2 * SI G c s)) (nI (s + 1)) else X5_fewestOfAllSets_L18 q1 T (nI (pcn c s)) (jI (2 * y - a + 2 * SI G c s)) (nI (s + 1)))) := by
      rw [X5_fewestOfAllSets_L18, hg.1, p2_at hc, if_neg (nI_ge hsc (by omega)), bind_some' eC, jI_add, nI_1, bits_n hc hsc, show (2 : Int) * y - a + 2 * SI G c (s - 1) + 2 * (SI G c s - SI G c (s - 1)) = 2 * y - a + 2 * SI G c s by omega]
    have goM : X7_bySets_L6 (q2 + 1) M (nI a / 2 + 1 - nI y) (nI c) b2 (nI s) = if jI (SI G c s) < nI a / 2 + 1 - nI y then X7_bySets_L6 q2 M (nI a / 2 + 1 - nI y) (nI c) b2 (nI (s + 1)) else (if b2 < 0 then X7_bySets_L6 q2 M (nI a / 2 + 1 - nI y) (nI c) (nI (pcn c s)) (nI (s + 1)) else (if b2 ≤ nI (pcn c s) then X7_bySets_L6 q2 M (nI a / 2 + 1 - nI y) (nI c) b2 (nI (s + 1)) else X7_bySets_L6 q2 M (nI a / 2 + 1 - nI y) (nI c) (nI (pcn c s)) (nI (s + 1)))) := by
      rw [X7_bySets_L6, p2_at hc, if_neg (nI_ge hsc (by omega)), bind_some' eM, nI_1]
    rw [goC, goM]
    have nx := fun b1 b2 hb => ih (s + 1) b1 b2 q1 q2 (by omega) (by omega) (by omega) (by omega) hb
    rw [show s + 1 - 1 = s by omega] at nx
    by_cases e : jI (2 * y - a + 2 * SI G c s) ≤ 0
    · rw [if_pos e, if_pos (en.mp e)]
      exact nx b1 b2 hb
    · rw [if_neg e, if_neg (fun z => e (en.mpr z))]
      have hbn : BRs (nI (pcn c s)) (nI (pcn c s)) := Or.inr ⟨_, by omega, rfl, rfl⟩
      rcases hb with ⟨rfl, rfl⟩ | ⟨m, hm, rfl, rfl⟩
      · rw [if_pos (show (-1 : Int32) = -1 from rfl), if_pos (show (-1000004 : Int32) < 0 by decide)]
        exact nx _ _ hbn
      · rw [if_neg (show ¬ nI m = -1 from fun z => nI_pos (n := m) (by omega) (by rw [z]; decide)), if_neg (nI_pos (by omega))]
        by_cases e2 : nI m ≤ nI (pcn c s)
        · rw [if_pos e2, if_pos e2]
          exact nx _ _ (Or.inr ⟨m, hm, rfl, rfl⟩)
        · rw [if_neg e2, if_neg e2]
          exact nx _ _ hbn
theorem sets_zero {M : SMod} {c : Nat} {w : Int32} {G : Nat → Int} (hG : ∀ i, i < c → M.1 7 i = jI (G i)) (hc : c ≤ 12) :
    ∀ (d s : Nat) (f2 : Nat), s + d = 2 ^ c → d < f2 → X7_bySets_L6 f2 M w (nI c) (nI 0) (nI s) = some (nI 0) := by
  have h4 := p2_le hc
  intro d
  induction d with
  | zero =>
    intro s f2 hd h2
    obtain ⟨q2, rfl⟩ : ∃ q, f2 = q + 1 := ⟨f2 - 1, by omega⟩
    rw [X7_bySets_L6, p2_at hc, if_pos (nI_le (by omega) (by omega))]
  | succ d ih =>
    intro s f2 hd h2
    obtain ⟨q2, rfl⟩ : ∃ q, f2 = q + 1 := ⟨f2 - 1, by omega⟩
    have hp := pcn_le c s
    rw [X7_bySets_L6, p2_at hc, if_neg (nI_ge (by omega) (by omega)), bind_some' (inner_it (s := s) hc hG), nI_1, ih (s + 1) q2 (by omega) (by omega), if_neg (nI_pos (n := 0) (by omega)), if_pos (nI_le (a := 0) (Nat.zero_le _) (by omega))]
    split <;> rfl
theorem bySets_both {T : STrn} {M : SMod} {c y a : Nat} {G : Nat → Int} (hg : GR2 T M c G) (hc : c ≤ 12) (hy : y ≤ 108) (ha : a ≤ 108) (h1 : T.2 1 = jI (2 * y - a)) : ∃ r1 r2, X5_fewestOfAllSets T = some r1 ∧ X7_bySets M (nI a / 2 + 1 - nI y) (nI c) = some r2 ∧ BRs r1 r2 := by
  have h4 := p2_le hc
  have hp := Nat.two_pow_pos c
  have z0 : SI G c 0 = 0 := smI_zero (fun k _ => by rw [Nat.zero_testBit, if_neg (show ¬ (false = true) by decide)])
  obtain ⟨en, -⟩ := enough (S := 0) hy ha ⟨by omega, by omega⟩
  rw [show (2 : Int) * y - a + 2 * 0 = 2 * y - a by omega] at en
  have eM := inner_it (K := M) (w := nI a / 2 + 1 - nI y) (q := -1000004) (s := 0) hc (fun i hi => (hg.2 i hi).2.2)
  rw [z0] at eM
  unfold X5_fewestOfAllSets X7_bySets
  rw [h1]
  have goM : X7_bySets_L6 FUEL M (nI a / 2 + 1 - nI y) (nI c) (-1000004) 0 = if jI 0 < nI a / 2 + 1 - nI y then X7_bySets_L6 9999 M (nI a / 2 + 1 - nI y) (nI c) (-1000004) (nI 1) else X7_bySets_L6 9999 M (nI a / 2 + 1 - nI y) (nI c) (nI (pcn c 0)) (nI 1) := by
    show X7_bySets_L6 (9999 + 1) M (nI a / 2 + 1 - nI y) (nI c) (-1000004) (nI 0) = _
    rw [X7_bySets_L6, p2_at hc, if_neg (nI_ge hp (by omega))]
    show Option.bind (X7_bySets_L23 FUEL M (nI a / 2 + 1 - nI y) (nI c) (-1000004) (nI 0) 0 0 0) _ = _
    rw [bind_some' eM, nI_1, if_pos (show (-1000004 : Int32) < 0 by decide)]
  by_cases e : jI (2 * y - a) ≤ 0
  · obtain ⟨r1, r2, g1, g2, g3⟩ := sets_joint hg hc hy ha (2 ^ c - 1) 1 (-1) (-1000004) FUEL 9999 (by omega) (by omega) (by unfold FUEL; omega) (by omega) (Or.inl ⟨rfl, rfl⟩)
    rw [show 1 - 1 = 0 from rfl, z0, show (2 : Int) * y - a + 2 * 0 = 2 * y - a by omega] at g1
    refine ⟨r1, r2, ?_, ?_, g3⟩
    · rw [if_pos e]
      exact bind_some' g1
    · rw [goM, if_pos (en.mp e)]
      exact bind_some' g2
  · have p0 : pcn c 0 = 0 := by
      clear en eM goM h1 e z0 hp h4 hg hc
      induction c with
      | zero => rfl
      | succ c ih =>
        show pcn c 0 + (if Nat.testBit 0 c then 1 else 0) = 0
        rw [ih, Nat.zero_testBit, if_neg (show ¬ (false = true) by decide)]
    refine ⟨0, nI 0, ?_, ?_, Or.inr ⟨0, by omega, rfl, rfl⟩⟩
    · rw [if_neg e]
    · rw [goM, if_neg (fun z => e (en.mpr z)), p0]
      exact bind_some' (sets_zero (fun i hi => (hg.2 i hi).2.2) hc (2 ^ c - 1) 1 9999 (by omega) (by omega))
