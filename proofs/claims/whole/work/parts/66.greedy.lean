/-! the best group, again and again -/
theorem bt_xor (x y : Int32) (k : Nat) : bt (x ^^^ y) k = (bt x k ^^ bt y k) := by
  unfold bt
  rw [Int32.toBitVec_xor, BitVec.getLsbD_xor]
def PC (tb : Nat → Bool) (G : Nat → Int) (k : Nat) (o : Int32) : Prop := (o = -1 ∧ ∀ i, i < k → tb i = true) ∨ ∃ b, b < k ∧ o = nI b ∧ tb b = false ∧ (∀ i, i < k → tb i = false → G i ≤ G b) ∧ ∀ i, i < b → tb i = false → G i < G b
def PM (tb : Nat → Bool) (G : Nat → Int) (k : Nat) (o : Int32) : Prop := (o = -1000004 ∧ ∀ i, i < k → tb i = false → G i ≤ 0) ∨ ∃ b, b < k ∧ o = nI b ∧ tb b = false ∧ 0 < G b ∧ (∀ i, i < k → tb i = false → G i ≤ G b) ∧ ∀ i, i < b → tb i = false → G i < G b
theorem best_both {tb : Nat → Bool} {G : Nat → Int} {k : Nat} {o1 o2 : Int32} (h1 : PC tb G k o1) (h2 : PM tb G k o2) : (o2 = -1000004 ∧ ∀ i, i < k → tb i = false → G i ≤ 0) ∨ ∃ b, b < k ∧ o1 = nI b ∧ o2 = nI b ∧ tb b = false ∧ 0 < G b := by
  rcases h2 with h2 | ⟨b, b1, b2, b3, b4, b5, b6⟩
  · exact Or.inl h2
  · right
    rcases h1 with ⟨-, h1⟩ | ⟨e, e1, e2, e3, e5, e6⟩
    · rw [h1 b b1] at b3
      exact absurd b3 (by decide)
    · refine ⟨b, b1, ?_, b2, b3, b4⟩
      rcases Nat.lt_trichotomy b e with d | d | d
      · have a1 := e6 b d b3
        have a2 := b5 e e1 e3
        omega
      · rw [d]
        exact e2
      · have a1 := b6 e d e3
        have a2 := e5 b b1 b3
        omega
theorem bestC {T : STrn} {c : Nat} {G : Nat → Int} (tu : Int32) (hc : c ≤ 12) (h0 : T.2 0 = nI c) (hG : ∀ i, i < c → (-108 ≤ G i ∧ G i ≤ 108) ∧ T.1 i = jI (2 * G i)) : ∃ o, X5_bestBut T tu = some o ∧ PC (bt tu) G c o := by
  obtain ⟨r, h1, h2⟩ := loop_FUEL (f := fun fu (t : Int32) i => X5_bestBut_L4 fu T tu t i) (n := c) (PC (bt tu) G) (PC (bt tu) G c) (by omega)
    (by
      intro fu k t hk hi
      right
      have ek : rget 12 T.1 (nI k) = jI (2 * G k) := by rw [rget_n _ (by omega) (by omega), (hG k hk).2]
      have gk := (hG k hk).1
      show ∃ s', PC (bt tu) G (k + 1) s' ∧ X5_bestBut_L4 (fu + 1) T tu t (nI k) = X5_bestBut_L4 fu T tu s' (nI (k + 1))
      rw [X5_bestBut_L4, h0, if_neg (nI_ge hk (by omega)), mem_bt (by omega), nI_1, ek]
      by_cases d : bt tu k = true
      · rw [if_pos d, if_neg (show ¬ (1 : Int32) = 0 by decide)]
        refine ⟨t, ?_, rfl⟩
        rcases hi with ⟨a1, a2⟩ | ⟨b, b1, b2, b3, b4, b5⟩
        · refine Or.inl ⟨a1, fun i hi => ?_⟩
          by_cases e : i = k
          · rw [e]
            exact d
          · exact a2 i (by omega)
        · refine Or.inr ⟨b, by omega, b2, b3, fun i hi h => ?_, b5⟩
          by_cases e : i = k
          · rw [e, d] at h
            exact absurd h (by decide)
          · exact b4 i (by omega) h
      · rw [if_neg d, if_pos (show (0 : Int32) = 0 from rfl)]
        have d2 : bt tu k = false := by
          rw [Bool.not_eq_true] at d
          exact d
        rcases hi with ⟨rfl, a2⟩ | ⟨b, b1, rfl, b3, b4, b5⟩
        · rw [if_pos (show (-1 : Int32) = -1 from rfl)]
          refine ⟨nI k, Or.inr ⟨k, by omega, rfl, d2, fun i hi h => ?_, fun i hi h => ?_⟩, rfl⟩
          · by_cases e : i = k
            · rw [e]
              omega
            · rw [a2 i (by omega)] at h
              exact absurd h (by decide)
          · rw [a2 i (by omega)] at h
            exact absurd h (by decide)
        · have eb : rget 12 T.1 (nI b) = jI (2 * G b) := by rw [rget_n _ (by omega) (by omega), (hG b (by omega)).2]
          have gb := (hG b (by omega)).1
          rw [if_neg (show ¬ nI b = -1 from fun z => nI_pos (n := b) (by omega) (by rw [z]; decide)), eb]
          by_cases e2 : G k ≤ G b
          · rw [if_pos ((jI_le (by omega) (by omega) (by omega) (by omega)).mpr (by omega))]
            refine ⟨nI b, Or.inr ⟨b, by omega, rfl, b3, fun i hi h => ?_, b5⟩, rfl⟩
            by_cases e : i = k
            · rw [e]
              exact e2
            · exact b4 i (by omega) h
          · rw [if_neg (fun z => e2 (by have := (jI_le (by omega) (by omega) (by omega) (by omega)).mp z; omega))]
            refine ⟨nI k, Or.inr ⟨k, by omega, rfl, d2, fun i hi h => ?_, fun i hi h => ?_⟩, rfl⟩
            · by_cases e : i = k
              · rw [e]
                omega
              · have := b4 i (by omega) h
                omega
            · have := b4 i (by omega) h
              omega)
    (by
      intro fu t hi
      refine ⟨t, hi, ?_⟩
      show X5_bestBut_L4 (fu + 1) T tu t (nI c) = _
      rw [X5_bestBut_L4, h0, if_pos (nI_le (Nat.le_refl c) (by omega))])
    (k := 0) (s := (-1 : Int32)) (x := 0) (by omega) rfl (Or.inl ⟨rfl, fun i hi => absurd hi (Nat.not_lt_zero i)⟩)
  exact ⟨r, bind_some' h2, h1⟩
theorem bestM {M : SMod} {c : Nat} {G : Nat → Int} {tu left w got t : Int32} (hc : c ≤ 12) (hG : ∀ i, i < c → (-108 ≤ G i ∧ G i ≤ 108) ∧ M.1 7 i = jI (G i)) (hl : ∀ k, k < c → bt left k = !bt tu k) : ∃ o, X7_greedy_L24 FUEL M w (nI c) got t left (-1000004) 0 = some o ∧ PM (bt tu) G c o := by
  obtain ⟨r, h1, h2⟩ := loop_FUEL (f := fun fu (s : Int32) i => X7_greedy_L24 fu M w (nI c) got t left s i) (n := c) (PM (bt tu) G) (PM (bt tu) G c) (by omega)
    (by
      intro fu k s hk hi
      right
      have ek : M.1 7 k = jI (G k) := (hG k hk).2
      have gk := (hG k hk).1
      show ∃ s', PM (bt tu) G (k + 1) s' ∧ X7_greedy_L24 (fu + 1) M w (nI c) got t left s (nI k) = X7_greedy_L24 fu M w (nI c) got t left s' (nI (k + 1))
      rw [X7_greedy_L24, if_neg (nI_ge hk (by omega)), at_bt (by omega), nI_1, hl k hk, if_pos (ixg (by omega) (by omega)), nI_clamp (by omega), ek]
      have skip : (bt tu k = false → G k ≤ 0) → PM (bt tu) G (k + 1) s := by
        intro h0
        rcases hi with ⟨a1, a2⟩ | ⟨b, b1, b2, b3, b4, b5, b6⟩
        · refine Or.inl ⟨a1, fun i hi h => ?_⟩
          by_cases e : i = k
          · subst e
            exact h0 h
          · exact a2 i (by omega) h
        · refine Or.inr ⟨b, by omega, b2, b3, b4, fun i hi h => ?_, b6⟩
          by_cases e : i = k
          · subst e
            have := h0 h
            omega
          · exact b5 i (by omega) h
      cases d : bt tu k
      · rw [if_pos (show (!false) = true from rfl), if_pos (show (1 : Int32) = 1 from rfl), jI_0]
        by_cases g0 : G k ≤ 0
        · rw [if_pos ((jI_le (by omega) (by omega) (by omega) (by omega)).mpr g0)]
          exact ⟨s, skip (fun _ => g0), rfl⟩
        · rw [if_neg (fun z => g0 ((jI_le (by omega) (by omega) (by omega) (by omega)).mp z)), ← jI_0]
          rcases hi with ⟨rfl, a2⟩ | ⟨b, b1, rfl, b3, b4, b5, b6⟩
          · rw [if_pos (show (-1000004 : Int32) < 0 by decide)]
            refine ⟨nI k, Or.inr ⟨k, by omega, rfl, d, by omega, fun i hi h => ?_, fun i hi h => ?_⟩, rfl⟩
            · by_cases e : i = k
              · rw [e]
                omega
              · have := a2 i (by omega) h
                omega
            · have := a2 i (by omega) h
              omega
          · have eb : M.1 7 b = jI (G b) := (hG b (by omega)).2
            have gb := (hG b (by omega)).1
            rw [if_neg (nI_pos (n := b) (by omega)), if_pos (ixg (k := b) (by omega) (by omega)), nI_clamp (n := b) (by omega), eb]
            by_cases e2 : G k ≤ G b
            · rw [if_pos ((jI_le (by omega) (by omega) (by omega) (by omega)).mpr e2)]
              refine ⟨nI b, Or.inr ⟨b, by omega, rfl, b3, b4, fun i hi h => ?_, b6⟩, rfl⟩
              by_cases e : i = k
              · rw [e]
                exact e2
              · exact b5 i (by omega) h
            · rw [if_neg (fun z => e2 ((jI_le (by omega) (by omega) (by omega) (by omega)).mp z))]
              refine ⟨nI k, Or.inr ⟨k, by omega, rfl, d, by omega, fun i hi h => ?_, fun i hi h => ?_⟩, rfl⟩
              · by_cases e : i = k
                · rw [e]
                  omega
                · have := b5 i (by omega) h
                  omega
              · have := b5 i (by omega) h
                omega
      · rw [if_neg (show ¬ (!true) = true by decide), if_neg (show ¬ (0 : Int32) = 1 by decide)]
        exact ⟨s, skip (fun h => absurd (d.symm.trans h) (by decide)), rfl⟩)
    (by
      intro fu s hi
      refine ⟨s, hi, ?_⟩
      show X7_greedy_L24 (fu + 1) M w (nI c) got t left s (nI c) = _
      rw [X7_greedy_L24, if_pos (nI_le (Nat.le_refl c) (by omega))])
    (k := 0) (s := (-1000004 : Int32)) (x := 0) (by omega) rfl (Or.inl ⟨rfl, fun i hi => absurd hi (Nat.not_lt_zero i)⟩)
  exact ⟨r, h2, h1⟩
/-- where no group brings more, the class turns on in vain -/
theorem only_C {T : STrn} {c : Nat} {G : Nat → Int} (hc : c ≤ 12) (h0 : T.2 0 = nI c) (hG : ∀ i, i < c → (-108 ≤ G i ∧ G i ≤ 108) ∧ T.1 i = jI (2 * G i)) :
    ∀ (d x : Nat) (tu : Int32) (R : Int) (f : Nat), x + d = c + 1 → d < f → (∀ i, i < c → bt tu i = false → G i ≤ 0) → -3000 - 216 * x ≤ R → R ≤ 0 → X5_fewestByTheBest_L18 f T (jI R) tu (nI x) = some (-1) := by
  intro d
  induction d with
  | zero =>
    intro x tu R f hd hf hz hr1 hr2
    obtain ⟨q, rfl⟩ : ∃ q, f = q + 1 := ⟨f - 1, by omega⟩
    rw [X5_fewestByTheBest_L18, h0, if_pos (nI_lt (by omega) (by omega))]
  | succ d ih =>
    intro x tu R f hd hf hz hr1 hr2
    obtain ⟨q, rfl⟩ : ∃ q, f = q + 1 := ⟨f - 1, by omega⟩
    obtain ⟨o, o1, o2⟩ := bestC tu hc h0 hG
    have hz2 : ∀ j : Int32, ∀ i, i < c → bt (tu ||| j) i = false → G i ≤ 0 := fun j i hi h => by
      rw [bt_or, Bool.or_eq_false_iff] at h
      exact hz i hi h.1
    rw [X5_fewestByTheBest_L18, h0, if_neg (nI_nlt (by omega) (by omega)), bind_some' o1, nI_1]
    rcases o2 with ⟨rfl, -⟩ | ⟨b, b1, rfl, b3, -, -⟩
    · have e : rget 12 T.1 (-1) = jI 0 := by
        unfold rget
        rw [if_pos (by decide)]
        rfl
      rw [e, jI_add, Int.add_zero, jI_0, if_pos ((jI_le (by omega) (by omega) (by omega) (by omega)).mpr hr2)]
      exact ih (x + 1) _ R q (by omega) (by omega) (hz2 _) (by omega) hr2
    · have e : rget 12 T.1 (nI b) = jI (2 * G b) := by rw [rget_n _ (by omega) (by omega), (hG b b1).2]
      have g1 := (hG b b1).1
      have g2 := hz b b1 b3
      rw [e, jI_add, jI_0, if_pos ((jI_le (by omega) (by omega) (by omega) (by omega)).mpr (by omega))]
      exact ih (x + 1) _ (R + 2 * G b) q (by omega) (by omega) (hz2 _) (by omega) (by omega)
theorem sN_one : ∀ n, sN (fun _ => 1) n = n := by
  intro n
  induction n with
  | zero => rfl
  | succ n ih =>
    show sN (fun _ => 1) n + 1 = n + 1
    rw [ih]
def tc (tu : Int32) (c : Nat) : Nat := sN (fun k => if bt tu k then 1 else 0) c
theorem tc_le (tu : Int32) (c : Nat) : tc tu c ≤ c := by
  have h := sN_le (f := fun k => if bt tu k then 1 else 0) (g := fun _ => 1) (fun i => by show (if bt tu i then 1 else 0) ≤ 1; split <;> omega) c
  rw [sN_one] at h
  exact h
theorem tc_full {tu : Int32} {c k : Nat} (h : tc tu c = c) (hk : k < c) : bt tu k = true := by
  cases d : bt tu k
  · have hlt := sN_lt (f := fun k => if bt tu k then 1 else 0) (g := fun _ => 1) (fun i => by show (if bt tu i then 1 else 0) ≤ 1; split <;> omega) (j := k) (by show (if bt tu k then 1 else 0) < 1; rw [d, if_neg (by decide)]; omega) c hk
    rw [sN_one] at hlt
    unfold tc at h
    omega
  · rfl
theorem sN_cg {f g : Nat → Nat} : ∀ {n : Nat}, (∀ k, k < n → f k = g k) → sN f n = sN g n := by
  intro n
  induction n with
  | zero => intro _; rfl
  | succ n ih =>
    intro h
    show sN f n + f n = sN g n + g n
    rw [ih (fun k hk => h k (by omega)), h n (by omega)]
theorem tc_more {tu j : Int32} {b : Nat} (hj : ∀ k, bt j k = decide (k = b)) (hb : bt tu b = false) : ∀ c, b < c → tc (tu ||| j) c = tc tu c + 1 := by
  intro c
  induction c with
  | zero => intro h; exact absurd h (Nat.not_lt_zero b)
  | succ c ih =>
    intro h
    show tc (tu ||| j) c + (if bt (tu ||| j) c then 1 else 0) = tc tu c + (if bt tu c then 1 else 0) + 1
    rw [bt_or, hj c]
    by_cases e : c = b
    · have hs : tc (tu ||| j) c = tc tu c := sN_cg (fun k hk => by
        show (if bt (tu ||| j) k then 1 else 0) = if bt tu k then 1 else 0
        rw [bt_or, hj k, decide_eq_false (show ¬ k = b by omega), Bool.or_false])
      rw [hs, decide_eq_true e, Bool.or_true, e, hb, if_pos (show true = true from rfl), if_neg (show ¬ (false = true) by decide)]
    · rw [ih (by omega), decide_eq_false e, Bool.or_false]
      omega
theorem greedy_joint {T : STrn} {M : SMod} {c y a : Nat} {G : Nat → Int} (hg : GR2 T M c G) (hc : c ≤ 12) (hy : y ≤ 108) (ha : a ≤ 108) :
    ∀ (d t : Nat) (tu left : Int32) (S : Int) (f1 f2 : Nat), t + d = c → d + 1 < f1 → d + 1 < f2 → (∀ k, k < c → bt left k = !bt tu k) → tc tu c = t → -(108 * t) ≤ S → S ≤ 108 * t → jI (2 * y - a + 2 * S) ≤ 0 →
    ∃ r1 r2, X5_fewestByTheBest_L18 f1 T (jI (2 * y - a + 2 * S)) tu (nI (t + 1)) = some r1 ∧ X7_greedy_L12 f2 M (nI a / 2 + 1 - nI y) (nI c) (jI S) (nI t) left = some r2 ∧ BRs r1 r2 := by
  have hGC : ∀ i, i < c → (-108 ≤ G i ∧ G i ≤ 108) ∧ T.1 i = jI (2 * G i) := fun i hi => ⟨(hg.2 i hi).1, (hg.2 i hi).2.1⟩
  have hGM : ∀ i, i < c → (-108 ≤ G i ∧ G i ≤ 108) ∧ M.1 7 i = jI (G i) := fun i hi => ⟨(hg.2 i hi).1, (hg.2 i hi).2.2⟩
  intro d
  induction d with
  | zero =>
    intro t tu left S f1 f2 hd h1 h2 hl ht hS1 hS2 he
    obtain ⟨q1, rfl⟩ : ∃ q, f1 = q + 1 := ⟨f1 - 1, by omega⟩
    obtain ⟨q2, rfl⟩ : ∃ q, f2 = q + 1 := ⟨f2 - 1, by omega⟩
    obtain ⟨en, en2⟩ := enough (S := S) hy ha ⟨by omega, by omega⟩
    obtain ⟨o2, m1, m2⟩ := bestM (M := M) (w := nI a / 2 + 1 - nI y) (got := jI S) (t := nI t) hc hGM hl
    refine ⟨-1, -1000004, ?_, ?_, Or.inl ⟨rfl, rfl⟩⟩
    · rw [X5_fewestByTheBest_L18, hg.1, if_pos (nI_lt (by omega) (by omega))]
    · have : o2 = -1000004 := by
        rcases m2 with ⟨h, -⟩ | ⟨b, b1, b2, b3, -⟩
        · exact h
        · rw [tc_full (by omega) b1] at b3
          exact absurd b3 (by decide)
      rw [X7_greedy_L12, if_neg (fun z => en2.mp z (en.mp he)), bind_some' m1, this, if_neg (by decide)]
  | succ d ih =>
    intro t tu left S f1 f2 hd h1 h2 hl ht hS1 hS2 he
    obtain ⟨en, en2⟩ := enough (S := S) hy ha ⟨by omega, by omega⟩
    obtain ⟨o1, c1, c2⟩ := bestC tu hc hg.1 hGC
    obtain ⟨o2, m1, m2⟩ := bestM (M := M) (w := nI a / 2 + 1 - nI y) (got := jI S) (t := nI t) hc hGM hl
    rcases best_both c2 m2 with ⟨rfl, hz⟩ | ⟨b, b1, rfl, rfl, b3, b4⟩
    · obtain ⟨q2, rfl⟩ : ∃ q, f2 = q + 1 := ⟨f2 - 1, by omega⟩
      rw [jI_0] at he
      have he2 := (jI_le (by omega) (by omega) (by omega) (by omega)).mp he
      refine ⟨-1, -1000004, only_C hc hg.1 hGC (d + 1) (t + 1) tu _ f1 (by omega) (by omega) hz (by omega) he2, ?_, Or.inl ⟨rfl, rfl⟩⟩
      rw [X7_greedy_L12, if_neg (fun z => en2.mp z (en.mp he)), bind_some' m1, if_neg (by decide)]
    · obtain ⟨q1, rfl⟩ : ∃ q, f1 = q + 1 := ⟨f1 - 1, by omega⟩
      obtain ⟨q2, rfl⟩ : ∃ q, f2 = q + 1 := ⟨f2 - 1, by omega⟩
      have gb := (hg.2 b b1).1
      have eC : rget 12 T.1 (nI b) = jI (2 * G b) := by rw [rget_n _ (by omega) (by omega), (hg.2 b b1).2.1]
      obtain ⟨fn, fn2⟩ := enough (S := S + G b) hy ha ⟨by omega, by omega⟩
      have e3 : (2 : Int) * y - a + 2 * S + 2 * G b = 2 * y - a + 2 * (S + G b) := by omega
      have goC : X5_fewestByTheBest_L18 (q1 + 1) T (jI (2 * y - a + 2 * S)) tu (nI (t + 1)) = if jI (2 * y - a + 2 * (S + G b)) ≤ 0 then X5_fewestByTheBest_L18 q1 T (jI (2 * y - a + 2 * (S + G b))) (tu ||| (1 <<< (nI b &&& 31))) (nI (t + 1 + 1)) else some (nI (t + 1)) := by
        rw [X5_fewestByTheBest_L18, hg.1, if_neg (nI_nlt (by omega) (by omega)), bind_some' c1, eC, jI_add, e3, nI_1]
      have goM : X7_greedy_L12 (q2 + 1) M (nI a / 2 + 1 - nI y) (nI c) (jI S) (nI t) left = X7_greedy_L12 q2 M (nI a / 2 + 1 - nI y) (nI c) (jI (S + G b)) (nI (t + 1)) (left ^^^ (1 <<< (nI b &&& 31))) := by
        rw [X7_greedy_L12, if_neg (fun z => en2.mp z (en.mp he)), bind_some' m1, if_pos (nI_pos' (by omega)), if_pos (ixg (by omega) (by omega)), nI_clamp (by omega), (hg.2 b b1).2.2, jI_add, nI_1]
      rw [goC, goM]
      have hj : ∀ k, bt (1 <<< (nI b &&& 31)) k = decide (k = b) := fun k => bt_one (by omega)
      by_cases e : jI (2 * y - a + 2 * (S + G b)) ≤ 0
      · rw [if_pos e]
        refine ih (t + 1) _ _ (S + G b) q1 q2 (by omega) (by omega) (by omega) (fun k hk => ?_) (by rw [tc_more hj b3 c b1, ht]) (by omega) (by omega) e
        rw [bt_xor, bt_or, hj, hl k hk]
        by_cases ek : k = b
        · rw [ek, b3, decide_eq_true rfl]
          rfl
        · rw [decide_eq_false ek, Bool.or_false, Bool.xor_false]
      · obtain ⟨q3, rfl⟩ : ∃ q, q2 = q + 1 := ⟨q2 - 1, by omega⟩
        refine ⟨nI (t + 1), nI (t + 1), ?_, ?_, Or.inr ⟨t + 1, by omega, rfl, rfl⟩⟩
        · rw [if_neg e]
        · rw [X7_greedy_L12, if_pos (fn2.mpr (fun z => e (fn.mpr z)))]
theorem left_at {c k : Nat} (hc : c ≤ 12) (hk : k < c) : bt ((1 <<< (nI c &&& 31)) - 1) k = true := by
  have h : ∀ c : Nat, c < 13 → ∀ k : Nat, k < c → bt ((1 <<< (nI c &&& 31)) - 1) k = true := by decide +kernel
  exact h c (by omega) k hk
theorem greedy_both {T : STrn} {M : SMod} {c y a : Nat} {G : Nat → Int} (hg : GR2 T M c G) (hc : c ≤ 12) (hy : y ≤ 108) (ha : a ≤ 108) (h1 : T.2 1 = jI (2 * y - a)) : ∃ r1 r2, X5_fewestByTheBest T = some r1 ∧ X7_greedy M (nI a / 2 + 1 - nI y) (nI c) = some r2 ∧ BRs r1 r2 := by
  obtain ⟨en, en2⟩ := enough (S := 0) hy ha ⟨by omega, by omega⟩
  have e0 : (2 : Int) * y - a + 2 * 0 = 2 * y - a := by omega
  have t0 : tc 0 c = 0 := by
    clear en en2 hg hc
    induction c with
    | zero => rfl
    | succ c ih =>
      show tc 0 c + (if bt 0 c then 1 else 0) = 0
      rw [ih, bt_zero, if_neg (show ¬ (false = true) by decide)]
  unfold X5_fewestByTheBest X7_greedy
  rw [h1]
  by_cases e : jI (2 * y - a) ≤ 0
  · obtain ⟨r1, r2, g1, g2, g3⟩ := greedy_joint hg hc hy ha c 0 0 ((1 <<< (nI c &&& 31)) - 1) 0 FUEL FUEL (by omega) (by unfold FUEL; omega) (by unfold FUEL; omega) (fun k hk => by rw [left_at hc hk, bt_zero]; rfl) t0 (by omega) (by omega) (by rw [e0]; exact e)
    rw [e0] at g1
    refine ⟨r1, r2, ?_, g2, g3⟩
    rw [if_pos e]
    exact g1
  · rw [e0] at en
    refine ⟨0, nI 0, ?_, ?_, Or.inr ⟨0, by omega, rfl, rfl⟩⟩
    · rw [if_neg e]
    · show X7_greedy_L12 (9999 + 1) M (nI a / 2 + 1 - nI y) (nI c) (jI 0) (nI 0) _ = _
      rw [X7_greedy_L12, if_pos (en2.mpr (fun z => e (en.mpr z)))]
theorem o_fewest : Op_fewest Rel := by
  intro K M a0 h
  obtain ⟨n, se, le, pu, L, g, hA, hP, hM, hE⟩ := id h.1
  have hn := hA.1
  rcases inC a0 (a := 0) (b := 1) (by omega) (by omega) with ⟨m, -, hm, rfl, e3, e4⟩ | ⟨e3, e4⟩
  case inr =>
    have e3 : X6_isIn a0 0 1 = 0 := e3
    have e4 : X7_in a0 0 1 = 0 := e4
    refine ⟨(K, -1000001), (M, -1000001), ?_, ?_, rfl, h⟩
    · unfold X6_fewest
      rw [e3, if_pos rfl]
    · unfold X7_fewest
      rw [e4, if_pos rfl]
  have e3 : X6_isIn (nI m) 0 1 = 1 := e3
  have e4 : X7_in (nI m) 0 1 = 1 := e4
  have e148 : M.1 0 (Int32.toNatClampNeg 148) = nI n := hM.1
  by_cases hn0 : n = 0
  · have en : nI n = 0 := by rw [hn0]; rfl
    refine ⟨(K, -1000004), (M, -1000004), ?_, ?_, rfl, h⟩
    · unfold X6_fewest
      rw [e3, if_neg (by decide), hP.1.1, if_pos en]
    · unfold X7_fewest
      rw [e4, if_neg (by decide), e148, if_pos en]
  have en : ¬ nI n = 0 := nI_ne0 (by omega) (by omega)
  obtain ⟨M1, y1, y2, y3, y4⟩ := yesNow_spec hA hM
  have hM1 : RMB (M1.1 0) n se le pu L := by rw [y2.s]; exact hM
  obtain ⟨y, a, h1, h2, h3, h4, h5⟩ := share_nat hA y4
  have hye : K.2.2.2.1.2.1 4 = nI y := by rw [hP.2.2.2.2.2, yes_eq hP.2.2.2.1 y4, h4]
  have hal : K.2.2.2.1.2.1 3 = nI a := by rw [hP.2.2.2.2.1, h5]
  have hsI : ∀ k, k < n → se k = jI ((fun k => (se k).toInt) k) ∧ 1 ≤ (fun k => (se k).toInt) k ∧ (fun k => (se k).toInt) k ≤ 9 := fun k hk => by
    obtain ⟨q, q1, q2, q3⟩ := (hA.2.2.2 k hk).1
    show se k = jI (se k).toInt ∧ 1 ≤ (se k).toInt ∧ (se k).toInt ≤ 9
    rw [q3, nI_toInt (by omega), jI_n]
    exact ⟨rfl, by omega, by omega⟩
  have hv : ∀ j, j < n → M1.1 6 j = K.2.2.2.1.1 5 j := fun j hj => y4.one hP.2.2.2.1 j hj
  obtain ⟨T', M', c, G, x1, x2, x3, x4, x5, x6⟩ := collect_loops (T := (K.2.2.1.1, up (up K.2.2.1.2 1 (jI (2 * y - a))) 0 0)) hA hP hM1 y3 hv hsI n 0 M1 0 (fun _ => 0) FUEL FUEL (by omega) (by omega) ⟨fun _ _ => rfl, rfl⟩ ⟨rfl, fun i hi => absurd hi (Nat.not_lt_zero i)⟩ (by unfold FUEL; omega) (by unfold FUEL; omega)
  have hcol : X5_collect K.2.2.1 K.2.2.2.1 = some T' := by
    unfold X5_collect
    rw [hye, hal, show (2 : Int32) * nI y - nI a = jI (2 * y - a) by rw [jI_2, jI_n, jI_n, jI_mul, jI_sub]]
    show Option.bind (X5_collect_L22 FUEL K.2.2.2.1 (K.2.2.1.1, up (up K.2.2.1.2 1 (jI (2 * y - a))) 0 0) 0) _ = _
    exact bind_some' x1
  have hgain : X7_gains M1 = some (M', nI c) := by
    unfold X7_gains
    exact bind_some' x2
  have hT1 : T'.2 1 = jI (2 * y - a) := by
    rw [x6]
    show up (up K.2.2.1.2 1 (jI (2 * y - a))) 0 0 1 = _
    rw [up_ne _ _ (show (1 : Nat) ≠ 0 by decide), up_eq]
  have hR : Rel (K.1, K.2.1, T', K.2.2.2.1, K.2.2.2.2.1, K.2.2.2.2.2) M' := h.k (y2.tr x4.k) rfl rfl rfl rfl rfl rfl
  have fin : ∀ r1 r2, BRs r1 r2 → (if r1 = -1 then some (((K.1, K.2.1, T', K.2.2.2.1, K.2.2.2.2.1, K.2.2.2.2.2) : SMain), (-1000004 : Int32)) else some ((K.1, K.2.1, T', K.2.2.2.1, K.2.2.2.2.1, K.2.2.2.2.2), r1)) = some ((K.1, K.2.1, T', K.2.2.2.1, K.2.2.2.2.1, K.2.2.2.2.2), r2) := by
    rintro r1 r2 (⟨rfl, rfl⟩ | ⟨q, hq, rfl, rfl⟩)
    · rw [if_pos rfl]
    · rw [if_neg (show ¬ nI q = -1 from fun z => nI_pos (n := q) (by omega) (by rw [z]; decide))]
  rcases (by omega : m = 0 ∨ m = 1) with rfl | rfl
  · obtain ⟨r1, r2, g1, g2, g3⟩ := greedy_both x5 (by omega) (by omega) h3 hT1
    refine ⟨((K.1, K.2.1, T', K.2.2.2.1, K.2.2.2.2.1, K.2.2.2.2.2), r2), (M', r2), ?_, ?_, rfl, hR⟩
    · unfold X6_fewest
      rw [e3, if_neg (show ¬ (1 : Int32) = 0 by decide), hP.1.1, if_neg en, bind_some' hcol, ← fin r1 r2 g3]
      simp only [bnd]
      rw [if_pos (show nI 0 = 0 from rfl), bind_some' g1]
    · unfold X7_fewest
      rw [e4, if_neg (show ¬ (1 : Int32) = 0 by decide), e148, if_neg en, bind_some' y1, bind_some' (seats_spec hn hM1), bind_some' hgain, if_pos (show nI 0 = 0 from rfl), h4, h5, bind_some' g2]
  · obtain ⟨r1, r2, g1, g2, g3⟩ := bySets_both x5 (by omega) (by omega) h3 hT1
    refine ⟨((K.1, K.2.1, T', K.2.2.2.1, K.2.2.2.2.1, K.2.2.2.2.2), r2), (M', r2), ?_, ?_, rfl, hR⟩
    · unfold X6_fewest
      rw [e3, if_neg (show ¬ (1 : Int32) = 0 by decide), hP.1.1, if_neg en, bind_some' hcol, ← fin r1 r2 g3]
      simp only [bnd]
      rw [if_neg (show ¬ nI 1 = 0 by decide), bind_some' g1]
    · unfold X7_fewest
      rw [e4, if_neg (show ¬ (1 : Int32) = 0 by decide), e148, if_neg en, bind_some' y1, bind_some' (seats_spec hn hM1), bind_some' hgain, if_neg (show ¬ nI 1 = 0 by decide), h4, h5, bind_some' g2]
