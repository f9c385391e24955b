/-! an order is read alike on both sides -/
theorem bnd_at {α β : Type} (e : α) (f : α → β) : bnd e f = f e := rfl
theorem bind_mk {α β : Type} {a : α} {k : α → Option β} : (some a).bind k = k a := rfl
def OF (u : SMod × Int32) : Option (SMod × Int32) := if u.2 = 0 then some (u.1, 0) else ((X7_sign u.1 59).bind fun u_29 => (if u_29.2 = 0 then some (u_29.1, 0) else some (u_29.1, 1)))
def RP (len n p : Nat) (K K' : STxt) (M M' : SMod) (r : Int32) (p' : Nat) : Prop := (r = 0 ∨ r = 1) ∧ KC K K' ∧ KN M M' ∧ p ≤ p' ∧ p' ≤ len ∧ K'.2.2 2 = nI p' ∧ M'.2 3 = nI p' ∧ (r = 1 → ∀ k, k < n → K'.2.1 k = M'.1 8 k)
theorem RP.tr {len n p q : Nat} {K K1 K' : STxt} {M M1 M' : SMod} {r : Int32} {p' : Nat} (h : RP len n q K1 K' M1 M' r p') (hk : KC K K1) (hm : KN M M1) (hp : p ≤ q) : RP len n p K K' M M' r p' := ⟨h.1, hk.tr h.2.1, hm.tr h.2.2.1, by have := h.2.2.2.1; omega, h.2.2.2.2⟩
theorem KC.p (K : STxt) (v : Int32) : KC K (K.1, K.2.1, up K.2.2 2 v) := ⟨rfl, rfl, rfl⟩
theorem KN.p (M : SMod) (v : Int32) : KN M (M.1, up M.2 3 v) := ⟨fun _ _ => rfl, fun i hi => up_ne M.2 _ hi⟩
theorem fin59 {ch : Nat → Nat} {len n p : Nat} {K : STxt} {M : SMod} (hb : TB ch len) (hK : TC ch len K) (hM : TM ch len M) (k2 : K.2.2 2 = nI p) (m3 : M.2 3 = nI p) (hp : p ≤ len) (hv : ∀ k, k < n → K.2.1 k = M.1 8 k) :
    ∃ K' M' r p', (bnd (X4_skip K 59).1 fun M_9 => (if ((X4_skip K 59).2 = 0 ∨ (X4_skip K 59).2 = 1) then some (M_9, (X4_skip K 59).2) else none)) = some (K', r) ∧ OF (M, 1) = some (M', r) ∧ RP len n p K K' M M' r p' := by
  unfold OF
  rw [if_neg (show ¬ (1 : Int32) = 0 by decide)]
  rcases sign_both (c := 59) hb hK hM k2 m3 hp (by omega) (by omega) with ⟨h1, e1, e2⟩ | ⟨e1, e2⟩
  · have e1 : X4_skip K 59 = ((K.1, K.2.1, up K.2.2 2 (nI (p + 1))), 1) := e1
    have e2 : X7_sign M 59 = some ((M.1, up M.2 3 (nI (p + 1))), 1) := e2
    refine ⟨(K.1, K.2.1, up K.2.2 2 (nI (p + 1))), (M.1, up M.2 3 (nI (p + 1))), 1, p + 1, ?_, ?_, Or.inr rfl, KC.p K _, KN.p M _, by omega, by omega, rfl, rfl, fun _ => hv⟩
    · rw [e1]
      simp only [bnd]
      exact if_pos (Or.inr trivial)
    · rw [bind_some' e2, if_neg (show ¬ (1 : Int32) = 0 by decide)]
  · have e1 : X4_skip K 59 = (K, 0) := e1
    have e2 : X7_sign M 59 = some ((M.1, up M.2 3 (nI p)), 0) := e2
    refine ⟨K, (M.1, up M.2 3 (nI p)), 0, p, ?_, ?_, Or.inl rfl, KC.rf K, KN.p M _, by omega, by omega, k2, rfl, fun z => absurd z (by decide)⟩
    · rw [e1]
      simp only [bnd]
      exact if_pos (Or.inl trivial)
    · rw [bind_some' e2, if_pos (show (0 : Int32) = 0 from rfl)]
theorem L72_stop {f : Nat} {M : SMod} {n x : Int32} : X7_parses_L72 (f + 1) M n 0 x = some (M, 0) := by
  rw [X7_parses_L72]
  by_cases h : n ≤ x
  · rw [if_pos h]
  · rw [if_neg h, if_pos rfl]
theorem OF_0 {M : SMod} : OF (M, 0) = some (M, 0) := by
  unfold OF
  rw [if_pos rfl]
theorem order_tail {ch : Nat → Nat} {len n : Nat} (hb : TB ch len) (hn : n ≤ 3) :
    ∀ (d x p : Nat) (K : STxt) (M : SMod) (f1 f2 : Nat), x + d = n → 1 ≤ x → TC ch len K → TM ch len M → K.2.2 2 = nI p → M.2 3 = nI p → p ≤ len → (∀ k, k < x → K.2.1 k = M.1 8 k) → d + 1 < f1 → d + 1 < f2 →
    ∃ K' M' r p', X4_readOrder_L40 f1 K (nI n) (nI x) = some (K', r) ∧ (X7_parses_L72 f2 M (nI n) 1 (nI x)).bind OF = some (M', r) ∧ RP len n p K K' M M' r p' := by
  have h60 := hb.1
  intro d
  induction d with
  | zero =>
    intro x p K M f1 f2 hd hx hK hM k2 m3 hp hv h1 h2
    obtain ⟨q1, rfl⟩ : ∃ q, f1 = q + 1 := ⟨f1 - 1, by omega⟩
    obtain ⟨q2, rfl⟩ : ∃ q, f2 = q + 1 := ⟨f2 - 1, by omega⟩
    have hxn : x = n := by omega
    subst hxn
    obtain ⟨K', M', r, p', a1, a2, a3⟩ := fin59 hb hK hM k2 m3 hp hv
    refine ⟨K', M', r, p', ?_, ?_, a3⟩
    · rw [X4_readOrder_L40, if_pos (nI_le (Nat.le_refl x) (by omega))]
      exact a1
    · rw [X7_parses_L72, if_pos (nI_le (Nat.le_refl x) (by omega))]
      exact a2
  | succ d ih =>
    intro x p K M f1 f2 hd hx hK hM k2 m3 hp hv h1 h2
    obtain ⟨q1, rfl⟩ : ∃ q, f1 = q + 1 := ⟨f1 - 1, by omega⟩
    obtain ⟨q2, rfl⟩ : ∃ q, f2 = q + 1 := ⟨f2 - 1, by omega⟩
    obtain ⟨q3, hq3⟩ : ∃ q, q2 = q + 1 := ⟨q2 - 1, by omega⟩
    rw [X4_readOrder_L40, if_neg (nI_ge (by omega) (by omega)), if_neg (nI_nle (by omega) (by omega)), X7_parses_L72, if_neg (nI_ge (by omega) (by omega)), if_neg (show ¬ (1 : Int32) = 0 by decide)]
    rcases sign_both (c := 44) hb hK hM k2 m3 hp (by omega) (by omega) with ⟨hpl, e1, e2⟩ | ⟨e1, e2⟩
    · have e1 : X4_skip K 44 = ((K.1, K.2.1, up K.2.2 2 (nI (p + 1))), 1) := e1
      have e2 : X7_sign M 44 = some ((M.1, up M.2 3 (nI (p + 1))), 1) := e2
      obtain ⟨K2, M2, r, p', a1, a2, a3, a4, a5, a6, a7, a8, a9, a10⟩ := num_both (x := x) hb (hK.k (KC.p K (nI (p + 1)))) (hM.k (KN.p M (nI (p + 1)))) (rfl) (rfl) (show p + 1 ≤ len by omega) (by omega)
      rw [e1, bind_some' e2]
      simp only [bnd]
      rw [if_neg (show ¬ (1 : Int32) = 0 by decide), if_neg (show ¬ (1 : Int32) = 0 by decide), bind_some' a1, bind_some' a2, nI_1]
      rcases a3 with rfl | rfl
      · rw [if_pos (show (0 : Int32) = 0 from rfl), if_pos (show (0 : Int32) = 0 from rfl), hq3, L72_stop]
        exact ⟨K2, M2, 0, p', rfl, OF_0, Or.inl rfl, (KC.p K _).tr a4, (KN.p M _).tr a5, by omega, a7, a8, a9, fun z => absurd z (by decide)⟩
      · rw [if_neg (show ¬ (1 : Int32) = 0 by decide), if_neg (show ¬ (1 : Int32) = 0 by decide)]
        obtain ⟨b1, b2⟩ := a10 rfl
        have kK := (KC.p K (nI (p + 1))).tr a4
        have kM := (KN.p M (nI (p + 1))).tr a5
        obtain ⟨K', M', r, p2, c1, c2, c3⟩ := ih (x + 1) p' K2 M2 q1 q2 (by omega) (by omega) (hK.k kK) (hM.k kM) a8 a9 a7 (fun k hk => by
          by_cases e : k = x
          · rw [e]
            exact b1
          · rw [(b2 k e).1, (b2 k e).2]
            exact hv k (by omega)) (by omega) (by omega)
        exact ⟨K', M', r, p2, c1, c2, c3.tr kK kM (by omega)⟩
    · have e1 : X4_skip K 44 = (K, 0) := e1
      have e2 : X7_sign M 44 = some ((M.1, up M.2 3 (nI p)), 0) := e2
      rw [e1, bind_some' e2]
      simp only [bnd]
      rw [if_pos trivial, if_pos trivial, hq3, L72_stop]
      exact ⟨K, _, 0, p, rfl, OF_0, Or.inl rfl, KC.rf K, KN.p M _, by omega, hp, k2, rfl, fun z => absurd z (by decide)⟩
def LN (c n : Nat) : Prop := (c = 97 ∧ n = 3) ∨ (c = 99 ∧ n = 1) ∨ (c = 107 ∧ n = 1) ∨ (c = 110 ∧ n = 1) ∨ (c = 112 ∧ n = 2) ∨ (c = 117 ∧ n = 3) ∨ (c = 118 ∧ n = 0) ∨ (c = 121 ∧ n = 1)
def nbOk (c n : Nat) : Bool := X4_numbersBehind (nI c) == nI n && X7_numbersOf (nI c) == nI n
theorem letters {c : Nat} (h : c ≤ 126) : (X4_numbersBehind (nI c) = -1 ∧ X7_numbersOf (nI c) = -1000004) ∨ ∃ n, LN c n ∧ X4_numbersBehind (nI c) = nI n ∧ X7_numbersOf (nI c) = nI n := by
  have ok : ∀ c n : Nat, nbOk c n = true → X4_numbersBehind (nI c) = nI n ∧ X7_numbersOf (nI c) = nI n := by
    intro c n h
    unfold nbOk at h
    rw [Bool.and_eq_true, beq_iff_eq, beq_iff_eq] at h
    exact h
  by_cases c1 : c = 97
  · subst c1; exact Or.inr ⟨3, Or.inl ⟨rfl, rfl⟩, ok 97 3 (by decide +kernel)⟩
  by_cases c2 : c = 99
  · subst c2; exact Or.inr ⟨1, Or.inr (Or.inl ⟨rfl, rfl⟩), ok 99 1 (by decide +kernel)⟩
  by_cases c3 : c = 107
  · subst c3; exact Or.inr ⟨1, Or.inr (Or.inr (Or.inl ⟨rfl, rfl⟩)), ok 107 1 (by decide +kernel)⟩
  by_cases c4 : c = 110
  · subst c4; exact Or.inr ⟨1, Or.inr (Or.inr (Or.inr (Or.inl ⟨rfl, rfl⟩))), ok 110 1 (by decide +kernel)⟩
  by_cases c5 : c = 112
  · subst c5; exact Or.inr ⟨2, Or.inr (Or.inr (Or.inr (Or.inr (Or.inl ⟨rfl, rfl⟩)))), ok 112 2 (by decide +kernel)⟩
  by_cases c6 : c = 117
  · subst c6; exact Or.inr ⟨3, Or.inr (Or.inr (Or.inr (Or.inr (Or.inr (Or.inl ⟨rfl, rfl⟩))))), ok 117 3 (by decide +kernel)⟩
  by_cases c7 : c = 118
  · subst c7; exact Or.inr ⟨0, Or.inr (Or.inr (Or.inr (Or.inr (Or.inr (Or.inr (Or.inl ⟨rfl, rfl⟩)))))), ok 118 0 (by decide +kernel)⟩
  by_cases c8 : c = 121
  · subst c8; exact Or.inr ⟨1, Or.inr (Or.inr (Or.inr (Or.inr (Or.inr (Or.inr (Or.inr ⟨rfl, rfl⟩)))))), ok 121 1 (by decide +kernel)⟩
  left
  have n1 : ¬ nI c = 97 := fun z => c1 ((nI_eq (b := 97) (by omega) (by omega)).mp z)
  have n2 : ¬ nI c = 99 := fun z => c2 ((nI_eq (b := 99) (by omega) (by omega)).mp z)
  have n3 : ¬ nI c = 107 := fun z => c3 ((nI_eq (b := 107) (by omega) (by omega)).mp z)
  have n4 : ¬ nI c = 110 := fun z => c4 ((nI_eq (b := 110) (by omega) (by omega)).mp z)
  have n5 : ¬ nI c = 112 := fun z => c5 ((nI_eq (b := 112) (by omega) (by omega)).mp z)
  have n6 : ¬ nI c = 117 := fun z => c6 ((nI_eq (b := 117) (by omega) (by omega)).mp z)
  have n7 : ¬ nI c = 118 := fun z => c7 ((nI_eq (b := 118) (by omega) (by omega)).mp z)
  have n8 : ¬ nI c = 121 := fun z => c8 ((nI_eq (b := 121) (by omega) (by omega)).mp z)
  unfold X4_numbersBehind X7_numbersOf
  rw [if_neg n1, if_neg n1, if_neg n2, if_neg n2, if_neg n3, if_neg n3, if_neg n4, if_neg n4, if_neg n5, if_neg n5, if_neg n6, if_neg n6, if_neg n7, if_neg n7, if_neg n8, if_neg n8]
  exact ⟨rfl, rfl⟩
theorem readOrder_both {ch : Nat → Nat} {len p : Nat} {K : STxt} {M : SMod} (hb : TB ch len) (hK : TC ch len K) (hM : TM ch len M) (m3 : M.2 3 = nI p) (hp : p < len) :
    ∃ K' M' r p', X4_readOrder K (nI p) = some (K', r) ∧ X7_parses M = some (M', r) ∧ (r = 0 ∨ r = 1) ∧ K'.1 = K.1 ∧ K'.2.2 0 = K.2.2 0 ∧ (∀ i, i ≠ 8 → M'.1 i = M.1 i) ∧ (∀ i, i ≠ 3 → i ≠ 8 → M'.2 i = M.2 i) ∧ p ≤ p' ∧ p' ≤ len ∧ K'.2.2 2 = nI p' ∧ M'.2 3 = nI p' ∧ (r = 1 → p < p' ∧ ∃ c n, LN c n ∧ K'.2.2 1 = nI c ∧ M'.2 8 = nI c ∧ ∀ k, k < n → K'.2.1 k = M'.1 8 k) := by
  have h60 := hb.1
  have hc := hb.2 p hp
  have eA : cA ch len p = ch p := by unfold cA; exact if_pos hp
  obtain ⟨c, hcc⟩ : ∃ c, c = ch p := ⟨_, rfl⟩
  rw [← hcc] at hc eA
  obtain ⟨K1, hK1⟩ : ∃ K1 : STxt, K1 = (K.1, K.2.1, up K.2.2 2 (nI p)) := ⟨_, rfl⟩
  have kK1 : KC K K1 := by rw [hK1]; exact KC.p K _
  have tK1 := hK.k kK1
  have k12 : K1.2.2 2 = nI p := by rw [hK1]; rfl
  have ec := current_spec hb tK1 k12 (by omega)
  rw [eA] at ec
  obtain ⟨K3, hK3⟩ : ∃ K3 : STxt, K3 = (K1.1, K1.2.1, up K1.2.2 1 (nI c)) := ⟨_, rfl⟩
  have k31 : K3.1 = K.1 := by rw [hK3]; exact kK1.1
  have k30 : K3.2.2 0 = K.2.2 0 := by rw [hK3]; show up K1.2.2 1 (nI c) 0 = _; rw [up_ne _ _ (by decide)]; exact kK1.2.1
  have k32 : K3.2.2 2 = nI p := by rw [hK3]; show up K1.2.2 1 (nI c) 2 = _; rw [up_ne _ _ (by decide)]; exact k12
  have k3l : K3.2.2 1 = nI c := by rw [hK3]; rfl
  obtain ⟨K6, hK6⟩ : ∃ K6 : STxt, K6 = (K3.1, K3.2.1, up K3.2.2 2 (nI (p + 1))) := ⟨_, rfl⟩
  have kK6 : KC K3 K6 := by rw [hK6]; exact KC.p K3 _
  have tK6 : TC ch len K6 := TC.k ⟨by rw [k30]; exact hK.1, by rw [k31]; exact hK.2⟩ kK6
  have k62 : K6.2.2 2 = nI (p + 1) := by rw [hK6]; rfl
  have goC : X4_readOrder K (nI p) = if X4_numbersBehind (nI c) = -1 then some (K3, 0) else X4_readOrder_L40 FUEL K6 (X4_numbersBehind (nI c)) 0 := by
    unfold X4_readOrder
    rw [← hK1, bnd_at, ec, ← hK3, bnd_at, k3l, k32, nI_1, ← hK6, bnd_at]
  have eAt : X7_isAt M 33 126 = _ := isAt_spec (a := 33) (b := 126) hb hM m3 (by omega) (by omega) (by omega) (by omega)
  rw [eA] at eAt
  obtain ⟨c', hc', hcs⟩ : ∃ c' : Nat, (c' = if 33 ≤ c ∧ c ≤ 126 then c else 0) ∧ X7_parses_J9 M (if 33 ≤ c ∧ c ≤ 126 then 1 else 0) = some (nI c') := by
    refine ⟨_, rfl, ?_⟩
    unfold X7_parses_J9
    by_cases d : 33 ≤ c ∧ c ≤ 126
    · rw [if_pos d, if_neg (show ¬ (1 : Int32) = 0 by decide), m3, if_pos (ixg (by omega) (by omega)), nI_clamp (by omega), hM.2 p hp, if_pos d, hcc]
    · rw [if_neg d, if_pos (show (0 : Int32) = 0 from rfl), if_neg d]
      rfl
  obtain ⟨M7, hM7⟩ : ∃ M7 : SMod, M7 = (M.1, up M.2 8 (nI c')) := ⟨_, rfl⟩
  have m78 : M7.2 8 = nI c' := by rw [hM7]; rfl
  have m7r : M7.1 = M.1 := by rw [hM7]
  have m7i : ∀ i, i ≠ 8 → M7.2 i = M.2 i := fun i hi => by rw [hM7]; exact up_ne M.2 _ hi
  obtain ⟨M10, hM10⟩ : ∃ M10 : SMod, M10 = (M7.1, up M7.2 3 (nI (p + 1))) := ⟨_, rfl⟩
  have kM10 : KN M7 M10 := by rw [hM10]; exact KN.p M7 _
  have tM10 : TM ch len M10 := TM.k ⟨by rw [m7i 2 (by decide)]; exact hM.1, by rw [m7r]; exact hM.2⟩ kM10
  have m103 : M10.2 3 = nI (p + 1) := by rw [hM10]; rfl
  have goM : X7_parses M = if 0 ≤ X7_numbersOf (nI c') then ((X7_parses_J53 M10 (X7_numbersOf (nI c')) (X7_numbersOf (nI c'))).bind fun u_16 => ((X7_parses_L72 FUEL u_16.1 (X7_numbersOf (nI c')) u_16.2 1).bind OF)) else some (M7, 0) := by
    unfold X7_parses
    rw [bind_some' eAt, bind_some' hcs, ← hM7, bnd_at, m78, m7i 3 (by decide), m3, nI_1, ← hM10, bnd_at]
    rfl
  rw [goC, goM]
  rcases letters (c := c) (by omega) with ⟨l1, l2⟩ | ⟨n, l0, l1, l2⟩
  · have l3 : X7_numbersOf (nI c') = -1000004 := by
      rw [hc']
      by_cases d : 33 ≤ c ∧ c ≤ 126
      · rw [if_pos d]
        exact l2
      · rw [if_neg d]
        decide +kernel
    rw [l1, l3, if_pos rfl, if_neg (show ¬ (0 : Int32) ≤ -1000004 by decide)]
    exact ⟨K3, M7, 0, p, rfl, rfl, Or.inl rfl, k31, k30, fun i _ => by rw [m7r], fun i _ h8 => m7i i h8, by omega, by omega, k32, by rw [m7i 3 (by decide)]; exact m3, fun z => absurd z (by decide)⟩
  have hcge : 97 ≤ c ∧ n ≤ 3 := by
    unfold LN at l0
    omega
  have hcc' : c' = c := by
    rw [hc', if_pos ⟨by omega, by omega⟩]
  rw [hcc', l1, l2, if_neg (show ¬ nI n = -1 from fun z => nI_pos (n := n) (by omega) (by rw [z]; decide)), if_pos (nI_pos' (by omega))]
  have body : ∃ K' M' r p', X4_readOrder_L40 FUEL K6 (nI n) 0 = some (K', r) ∧ ((X7_parses_J53 M10 (nI n) (nI n)).bind fun u_16 => ((X7_parses_L72 FUEL u_16.1 (nI n) u_16.2 1).bind OF)) = some (M', r) ∧ RP len n (p + 1) K6 K' M10 M' r p' := by
    by_cases hn0 : n = 0
    · subst hn0
      obtain ⟨K', M', r, p', a1, a2, a3⟩ := fin59 (n := 0) hb tK6 tM10 k62 m103 (by omega) (fun k hk => absurd hk (Nat.not_lt_zero k))
      refine ⟨K', M', r, p', ?_, ?_, a3⟩
      · show X4_readOrder_L40 (9999 + 1) K6 (nI 0) 0 = _
        rw [X4_readOrder_L40, if_pos (show nI 0 ≤ (0 : Int32) by decide)]
        exact a1
      · unfold X7_parses_J53
        rw [if_pos (show nI 0 = 0 from rfl), bind_mk]
        show (X7_parses_L72 (9999 + 1) M10 (nI 0) 1 1).bind OF = _
        rw [X7_parses_L72, if_pos (show nI 0 ≤ (1 : Int32) by decide)]
        exact a2
    · obtain ⟨K2, M2, r, p', a1, a2, a3, a4, a5, a6, a7, a8, a9, a10⟩ := num_both (x := 0) hb tK6 tM10 k62 m103 (by omega) (by omega)
      have a1 : X4_readNumber K6 0 = some (K2, r) := a1
      have a2 : X7_numbered M10 0 = some (M2, r) := a2
      have eC : X4_readOrder_L40 FUEL K6 (nI n) 0 = if r = 0 then some (K2, 0) else X4_readOrder_L40 9999 K2 (nI n) (nI 1) := by
        show X4_readOrder_L40 (9999 + 1) K6 (nI n) 0 = _
        rw [X4_readOrder_L40, if_neg (nI_nle (by omega) (by omega)), if_pos (by decide), bind_some' a1, show (0 : Int32) + 1 = nI 1 from nI_1 0]
      unfold X7_parses_J53
      rw [eC, if_neg (nI_ne0 (by omega) (by omega)), bind_some' a2]
      rcases a3 with rfl | rfl
      · rw [if_pos (show (0 : Int32) = 0 from rfl), if_pos (show (0 : Int32) = 0 from rfl), bind_mk]
        have e9 : X7_parses_L72 FUEL M2 (nI n) 0 1 = some (M2, 0) := L72_stop (f := 9999)
        refine ⟨K2, M2, 0, p', rfl, ?_, Or.inl rfl, a4, a5, a6, a7, a8, a9, fun z => absurd z (by decide)⟩
        show (X7_parses_L72 FUEL M2 (nI n) 0 1).bind OF = _
        rw [e9]
        exact OF_0
      · rw [if_neg (show ¬ (1 : Int32) = 0 by decide), if_neg (show ¬ (1 : Int32) = 0 by decide), bind_mk]
        obtain ⟨b1, b2⟩ := a10 rfl
        obtain ⟨K', M', r, p2, c1, c2, c3⟩ := order_tail hb hcge.2 (n - 1) 1 p' K2 M2 9999 FUEL (by omega) (by omega) (tK6.k a4) (tM10.k a5) a8 a9 a7 (fun k hk => by
          have e : k = 0 := by omega
          rw [e]
          exact b1) (by omega) (by unfold FUEL; omega)
        exact ⟨K', M', r, p2, c1, c2, c3.tr a4 a5 a6⟩
  obtain ⟨K', M', r, p', a1, a2, a3, a4, a5, a6, a7, a8, a9, a10⟩ := body
  refine ⟨K', M', r, p', a1, a2, a3, by rw [a4.1, kK6.1, k31], by rw [a4.2.1, kK6.2.1, k30], fun i hi => by rw [a5.1 i hi, kM10.1 i hi, m7r], fun i h3 h8 => by rw [a5.2 i h3, kM10.2 i h3, m7i i h8], by omega, a7, a8, a9, fun hr => ⟨by omega, c, n, l0, by rw [a4.2.2, kK6.2.2, k3l], by rw [a5.2 8 (by decide), kM10.2 8 (by decide), m78, hcc'], a10 hr⟩⟩
