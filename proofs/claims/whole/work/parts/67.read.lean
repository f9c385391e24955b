/-! an order's text -/
def cA (ch : Nat → Nat) (len p : Nat) : Nat := if p < len then ch p else 0
def TB (ch : Nat → Nat) (len : Nat) : Prop := len ≤ 60 ∧ ∀ k, k < len → 32 ≤ ch k ∧ ch k ≤ 126
def TC (ch : Nat → Nat) (len : Nat) (K : STxt) : Prop := K.2.2 0 = nI len ∧ ∀ k, k < len → K.1 k = nI (ch k)
def TM (ch : Nat → Nat) (len : Nat) (M : SMod) : Prop := M.2 2 = nI len ∧ ∀ k, k < len → M.1 3 k = nI (ch k)
def KC (K K' : STxt) : Prop := K'.1 = K.1 ∧ K'.2.2 0 = K.2.2 0 ∧ K'.2.2 1 = K.2.2 1
def KN (M M' : SMod) : Prop := (∀ i, i ≠ 8 → M'.1 i = M.1 i) ∧ ∀ i, i ≠ 3 → M'.2 i = M.2 i
theorem KC.rf (K : STxt) : KC K K := ⟨rfl, rfl, rfl⟩
theorem KC.tr {P Q R : STxt} (h1 : KC P Q) (h2 : KC Q R) : KC P R := ⟨h2.1.trans h1.1, h2.2.1.trans h1.2.1, h2.2.2.trans h1.2.2⟩
theorem KN.rf (M : SMod) : KN M M := ⟨fun _ _ => rfl, fun _ _ => rfl⟩
theorem KN.tr {P Q R : SMod} (h1 : KN P Q) (h2 : KN Q R) : KN P R := ⟨fun i a => (h2.1 i a).trans (h1.1 i a), fun i a => (h2.2 i a).trans (h1.2 i a)⟩
theorem TC.k {ch : Nat → Nat} {len : Nat} {K K' : STxt} (h : TC ch len K) (hk : KC K K') : TC ch len K' := ⟨by rw [hk.2.1]; exact h.1, by rw [hk.1]; exact h.2⟩
theorem TM.k {ch : Nat → Nat} {len : Nat} {M M' : SMod} (h : TM ch len M) (hk : KN M M') : TM ch len M' := ⟨by rw [hk.2 2 (by decide)]; exact h.1, by rw [hk.1 3 (by decide)]; exact h.2⟩
theorem cA_le {ch : Nat → Nat} {len : Nat} (hb : TB ch len) (p : Nat) : cA ch len p ≤ 126 := by
  unfold cA
  split
  · exact (hb.2 p (by assumption)).2
  · omega
theorem cA_in {ch : Nat → Nat} {len p : Nat} (h : 1 ≤ cA ch len p) : p < len ∧ cA ch len p = ch p := by
  unfold cA at h ⊢
  by_cases d : p < len
  · exact ⟨d, if_pos d⟩
  · rw [if_neg d] at h
    omega
theorem inR {c a b : Nat} (hc : c < 1000) (ha : a < 1000) (hb : b < 1000) : X7_in (nI c) (nI a) (nI b) = if a ≤ c ∧ c ≤ b then 1 else 0 := by
  unfold X7_in
  by_cases h1 : a ≤ c
  · rw [if_neg (nI_nlt h1 (by omega))]
    by_cases h2 : c ≤ b
    · rw [if_neg (nI_nlt h2 (by omega)), if_pos ⟨h1, h2⟩]
    · rw [if_pos (nI_lt (by omega) (by omega)), if_neg (fun z => h2 z.2)]
  · rw [if_pos (nI_lt (by omega) (by omega)), if_neg (fun z => h1 z.1)]
theorem current_spec {ch : Nat → Nat} {len p : Nat} {K : STxt} (hb : TB ch len) (hK : TC ch len K) (hp : K.2.2 2 = nI p) (hp2 : p < 1000) : X4_current K = nI (cA ch len p) := by
  have h60 := hb.1
  unfold X4_current cA
  rw [hK.1, hp]
  by_cases d : p < len
  · rw [if_neg (nI_ge d (by omega)), if_pos d, rget_n _ (by omega) (by omega), hK.2 p d]
  · rw [if_pos (nI_le (by omega) (by omega)), if_neg d]
    rfl
theorem isDigit_spec {c : Nat} (hc : c < 1000) : X4_isDigit (nI c) = some (if 48 ≤ c ∧ c ≤ 57 then 1 else 0) := by
  have e : X6_isIn (nI c) 48 57 = if 48 ≤ c ∧ c ≤ 57 then 1 else 0 := inR (a := 48) (b := 57) hc (by omega) (by omega)
  unfold X4_isDigit
  rw [e]
  by_cases h : 48 ≤ c ∧ c ≤ 57
  · rw [if_pos h, if_pos (by decide)]
  · rw [if_neg h, if_pos (by decide)]
theorem isAt_spec {ch : Nat → Nat} {len p a b : Nat} {M : SMod} (hb : TB ch len) (hM : TM ch len M) (hp : M.2 3 = nI p) (hp2 : p < 1000) (ha : 1 ≤ a) (ha2 : a < 1000) (hb2 : b < 1000) : X7_isAt M (nI a) (nI b) = some (if a ≤ cA ch len p ∧ cA ch len p ≤ b then 1 else 0) := by
  have h60 := hb.1
  unfold X7_isAt cA
  rw [hM.1, hp]
  by_cases d : p < len
  · have hc := hb.2 p d
    rw [if_neg (nI_ge d (by omega)), if_pos (ixg (by omega) (by omega)), nI_clamp (by omega), hM.2 p d, inR (by omega) ha2 hb2, if_pos d]
    by_cases h : a ≤ ch p ∧ ch p ≤ b
    · rw [if_pos h, if_neg (by decide)]
    · rw [if_neg h, if_pos rfl]
  · rw [if_pos (nI_le (by omega) (by omega)), if_neg d, if_neg (by omega)]
theorem sign_both {ch : Nat → Nat} {len p c : Nat} {K : STxt} {M : SMod} (hb : TB ch len) (hK : TC ch len K) (hM : TM ch len M) (k2 : K.2.2 2 = nI p) (m3 : M.2 3 = nI p) (hp : p ≤ len) (hc : 1 ≤ c) (hc2 : c < 1000) :
    (p < len ∧ X4_skip K (nI c) = ((K.1, K.2.1, up K.2.2 2 (nI (p + 1))), 1) ∧ X7_sign M (nI c) = some ((M.1, up M.2 3 (nI (p + 1))), 1)) ∨ (X4_skip K (nI c) = (K, 0) ∧ X7_sign M (nI c) = some ((M.1, up M.2 3 (nI p)), 0)) := by
  have h60 := hb.1
  have hle := cA_le hb p
  have ec := current_spec hb hK k2 (by omega)
  have ei := isAt_spec (a := c) (b := c) hb hM m3 (by omega) hc hc2 hc2
  unfold X4_skip X7_sign
  rw [ec]
  by_cases d : cA ch len p = c
  · left
    refine ⟨(cA_in (show 1 ≤ cA ch len p by omega)).1, ?_, ?_⟩
    · rw [if_pos (by rw [d]), k2, nI_1]
      rfl
    · rw [if_pos (show c ≤ cA ch len p ∧ cA ch len p ≤ c by omega)] at ei
      rw [bind_some' ei, if_neg (show ¬ (1 : Int32) = 0 by decide), m3, nI_1]
      simp only [bnd]
      exact if_pos (Or.inr trivial)
  · right
    refine ⟨?_, ?_⟩
    · rw [if_neg (by rw [nI_eq (by omega) (by omega)]; exact d)]
    · rw [if_neg (show ¬ (c ≤ cA ch len p ∧ cA ch len p ≤ c) by omega)] at ei
      rw [bind_some' ei, if_pos (show (0 : Int32) = 0 from rfl), m3, Int32.add_zero]
      simp only [bnd]
      exact if_pos (Or.inl trivial)
theorem num_stop {ch : Nat → Nat} {len s p x f : Nat} {M : SMod} (hb : TB ch len) (hM : TM ch len M) (m3 : M.2 3 = nI s) (hs : s < 1000) (hps : p ≤ s) (h : ¬ (48 ≤ cA ch len s ∧ cA ch len s ≤ 57) ∨ p + 2 ≤ s) : X7_numbered_L12 (f + 1) M (nI x) (nI p) = some M := by
  have ei : X7_isAt M 48 57 = _ := isAt_spec (a := 48) (b := 57) hb hM m3 (by omega) (by omega) (by omega) (by omega)
  rw [X7_numbered_L12, bind_some' ei]
  by_cases d : 48 ≤ cA ch len s ∧ cA ch len s ≤ 57
  · rw [if_pos d, if_neg (by decide), m3, pk_sub hps, if_pos (show (2 : Int32) ≤ nI (s - p) from nI_le (a := 2) (by omega) (by omega))]
  · rw [if_neg d, if_pos rfl]
theorem num_step {ch : Nat → Nat} {len s p x f : Nat} {M : SMod} (hb : TB ch len) (hM : TM ch len M) (m3 : M.2 3 = nI s) (hx : x < 3) (hps : p ≤ s) (h2 : s < p + 2) (hd : 48 ≤ cA ch len s ∧ cA ch len s ≤ 57) :
    X7_numbered_L12 (f + 1) M (nI x) (nI p) = X7_numbered_L12 f (up M.1 8 (upd (M.1 8) x ((10 * M.1 8 x + nI (cA ch len s)) - 48)), up M.2 3 (nI (s + 1))) (nI x) (nI p) := by
  have h60 := hb.1
  obtain ⟨hs, hc⟩ := cA_in (show 1 ≤ cA ch len s by omega)
  have ei : X7_isAt M 48 57 = _ := isAt_spec (a := 48) (b := 57) hb hM m3 (by omega) (by omega) (by omega) (by omega)
  rw [X7_numbered_L12, bind_some' ei, if_pos hd, if_neg (by decide), m3, pk_sub hps, if_neg (show ¬ (2 : Int32) ≤ nI (s - p) from nI_ge (b := 2) (by omega) (by omega)), if_pos (ixg (by omega) (by omega)), if_pos (ixg (by omega) (by omega)), nI_clamp (n := x) (by omega), nI_clamp (n := s) (by omega), hM.2 s hs, hc]
  show X7_numbered_L12 f (up M.1 8 (upd (M.1 8) x ((10 * M.1 8 x + nI (ch s)) - 48)), up M.2 3 (M.2 3 + 1)) (nI x) (nI p) = _
  rw [m3, nI_1]
theorem num_both {ch : Nat → Nat} {len p x : Nat} {K : STxt} {M : SMod} (hb : TB ch len) (hK : TC ch len K) (hM : TM ch len M) (k2 : K.2.2 2 = nI p) (m3 : M.2 3 = nI p) (hp : p ≤ len) (hx : x < 3) :
    ∃ K' M' r p', X4_readNumber K (nI x) = some (K', r) ∧ X7_numbered M (nI x) = some (M', r) ∧ (r = 0 ∨ r = 1) ∧ KC K K' ∧ KN M M' ∧ p ≤ p' ∧ p' ≤ len ∧ K'.2.2 2 = nI p' ∧ M'.2 3 = nI p' ∧ (r = 1 → K'.2.1 x = M'.1 8 x ∧ ∀ j, j ≠ x → K'.2.1 j = K.2.1 j ∧ M'.1 8 j = M.1 8 j) := by
  have h60 := hb.1
  have hle := cA_le hb p
  have hle1 := cA_le hb (p + 1)
  have ec := current_spec hb hK k2 (by omega)
  unfold X4_readNumber X7_numbered
  rw [ec, if_pos (ixg (by omega) (by omega)), nI_clamp (n := x) (by omega), bind_some' (isDigit_spec (by omega)), m3]
  obtain ⟨N, hN⟩ : ∃ N : SMod, N = (up M.1 8 (upd (M.1 8) x 0), M.2) := ⟨_, rfl⟩
  have kN : KN M N := by
    rw [hN]
    exact ⟨fun i hi => up_ne M.1 _ hi, fun i _ => rfl⟩
  have tN := hM.k kN
  have n3 : N.2 3 = nI p := by rw [hN]; exact m3
  have n8 : N.1 8 = upd (M.1 8) x 0 := by rw [hN]; rfl
  have goM : (bnd ((up M.1 8 (upd (M.1 8) x 0), M.2) : SMod) fun M_2 => (X7_numbered_L12 FUEL M_2 (nI x) (nI p)).bind fun u_14 => if u_14.2 3 ≤ nI p then some (u_14, (0 : Int32)) else some (u_14, 1)) = (X7_numbered_L12 (9997 + 1 + 1 + 1) N (nI x) (nI p)).bind fun u_14 => if u_14.2 3 ≤ nI p then some (u_14, (0 : Int32)) else some (u_14, 1) := by
    rw [hN]
    rfl
  rw [goM]
  by_cases d : 48 ≤ cA ch len p ∧ cA ch len p ≤ 57
  · obtain ⟨hpl, -⟩ := cA_in (show 1 ≤ cA ch len p by omega)
    obtain ⟨N2, hN2⟩ : ∃ N2 : SMod, N2 = (up N.1 8 (upd (N.1 8) x ((10 * N.1 8 x + nI (cA ch len p)) - 48)), up N.2 3 (nI (p + 1))) := ⟨_, rfl⟩
    have kN2 : KN N N2 := by
      rw [hN2]
      exact ⟨fun i hi => up_ne N.1 _ hi, fun i hi => up_ne N.2 _ hi⟩
    have tN2 := tN.k kN2
    have n23 : N2.2 3 = nI (p + 1) := by rw [hN2]; rfl
    have n28 : N2.1 8 = upd (N.1 8) x ((10 * N.1 8 x + nI (cA ch len p)) - 48) := by rw [hN2]; rfl
    have n28x : N2.1 8 x = nI (cA ch len p) - 48 := by
      rw [n28, pk_us, n8, pk_us, show (10 : Int32) * 0 = 0 by decide, Int32.zero_add]
    have n28j : ∀ j, j ≠ x → N2.1 8 j = M.1 8 j := fun j hj => by rw [n28, pk_un hj, n8, pk_un hj]
    have s1 : X7_numbered_L12 (9997 + 1 + 1 + 1) N (nI x) (nI p) = X7_numbered_L12 (9997 + 1 + 1) N2 (nI x) (nI p) := by
      rw [num_step hb tN n3 hx (by omega) (by omega) d, hN2]
    rw [s1, if_pos d]
    obtain ⟨K4, hK4⟩ : ∃ K4 : STxt, K4 = (K.1, K.2.1, up K.2.2 2 (nI (p + 1))) := ⟨_, rfl⟩
    have kK4 : KC K K4 := by
      rw [hK4]
      exact ⟨rfl, rfl, rfl⟩
    have tK4 := hK.k kK4
    have k42 : K4.2.2 2 = nI (p + 1) := by rw [hK4]; rfl
    have k41 : K4.2.1 = K.2.1 := by rw [hK4]
    have ec4 := current_spec hb tK4 k42 (by omega)
    rw [if_neg (show ¬ (1 : Int32) = 0 by decide), k2, nI_1, ← hK4]
    have goC : (bnd K4 fun M_4 => (X4_isDigit (X4_current M_4)).bind fun u_6 => if u_6 = 0 then (bnd (M_4.1, (rput 3 M_4.2.1 (nI x) ((nI (cA ch len p)) - 48)), M_4.2.2) fun M_9 => some (M_9, (1 : Int32))) else (bnd (M_4.1, M_4.2.1, (up M_4.2.2 2 ((M_4.2.2 2) + 1))) fun M_11 => (bnd (M_11.1, (rput 3 M_11.2.1 (nI x) (((10 * ((nI (cA ch len p)) - 48)) + (X4_current M_4)) - 48)), M_11.2.2) fun M_13 => some (M_13, 1)))) = if (48 ≤ cA ch len (p + 1) ∧ cA ch len (p + 1) ≤ 57) then some ((K.1, upd K.2.1 x (((10 * ((nI (cA ch len p)) - 48)) + nI (cA ch len (p + 1))) - 48), up K.2.2 2 (nI (p + 2))), 1) else some ((K.1, upd K.2.1 x (nI (cA ch len p) - 48), up K.2.2 2 (nI (p + 1))), 1) := by
      show ((X4_isDigit (X4_current K4)).bind fun u_6 => if u_6 = 0 then some ((K4.1, (rput 3 K4.2.1 (nI x) ((nI (cA ch len p)) - 48)), K4.2.2), (1 : Int32)) else some ((K4.1, (rput 3 K4.2.1 (nI x) (((10 * ((nI (cA ch len p)) - 48)) + (X4_current K4)) - 48)), (up K4.2.2 2 ((K4.2.2 2) + 1))), 1)) = _
      rw [ec4, bind_some' (isDigit_spec (by omega)), k42, nI_1, k41, rput_n _ _ hx (by omega), rput_n _ _ hx (by omega)]
      by_cases d2 : 48 ≤ cA ch len (p + 1) ∧ cA ch len (p + 1) ≤ 57
      · rw [if_pos d2, if_neg (show ¬ (1 : Int32) = 0 by decide), if_pos d2, hK4]
        show some ((K.1, _, up (up K.2.2 2 (nI (p + 1))) 2 (nI (p + 1 + 1))), (1 : Int32)) = _
        rw [up_up]
      · rw [if_neg d2, if_pos (show (0 : Int32) = 0 from rfl), if_neg d2, hK4]
    rw [goC]
    by_cases d2 : 48 ≤ cA ch len (p + 1) ∧ cA ch len (p + 1) ≤ 57
    · obtain ⟨hpl2, -⟩ := cA_in (show 1 ≤ cA ch len (p + 1) by omega)
      obtain ⟨N3, hN3⟩ : ∃ N3 : SMod, N3 = (up N2.1 8 (upd (N2.1 8) x ((10 * N2.1 8 x + nI (cA ch len (p + 1))) - 48)), up N2.2 3 (nI (p + 1 + 1))) := ⟨_, rfl⟩
      have kN3 : KN N2 N3 := by
        rw [hN3]
        exact ⟨fun i hi => up_ne N2.1 _ hi, fun i hi => up_ne N2.2 _ hi⟩
      have tN3 := tN2.k kN3
      have n33 : N3.2 3 = nI (p + 2) := by rw [hN3]; rfl
      have n38 : N3.1 8 = upd (N2.1 8) x ((10 * N2.1 8 x + nI (cA ch len (p + 1))) - 48) := by rw [hN3]; rfl
      have s2 : X7_numbered_L12 (9997 + 1 + 1) N2 (nI x) (nI p) = some N3 := by
        rw [num_step hb tN2 n23 hx (by omega) (by omega) d2, ← hN3]
        exact num_stop hb tN3 n33 (by omega) (by omega) (Or.inr (by omega))
      rw [if_pos d2, bind_some' s2, n33, if_neg (nI_ge (by omega) (by omega))]
      refine ⟨_, N3, 1, p + 2, rfl, rfl, Or.inr rfl, ⟨rfl, rfl, rfl⟩, kN.tr (kN2.tr kN3), by omega, by omega, rfl, n33, fun _ => ⟨?_, fun j hj => ⟨?_, ?_⟩⟩⟩
      · rw [n38, pk_us, n28x]
        exact pk_us
      · exact pk_un hj
      · rw [n38, pk_un hj, n28j j hj]
    · have s2 : X7_numbered_L12 (9997 + 1 + 1) N2 (nI x) (nI p) = some N2 := num_stop hb tN2 n23 (by omega) (by omega) (Or.inl d2)
      rw [if_neg d2, bind_some' s2, n23, if_neg (nI_ge (by omega) (by omega))]
      refine ⟨_, N2, 1, p + 1, rfl, rfl, Or.inr rfl, ⟨rfl, rfl, rfl⟩, kN.tr kN2, by omega, by omega, rfl, n23, fun _ => ⟨?_, fun j hj => ⟨?_, ?_⟩⟩⟩
      · rw [n28x]
        exact pk_us
      · exact pk_un hj
      · exact n28j j hj
  · have s1 : X7_numbered_L12 (9997 + 1 + 1 + 1) N (nI x) (nI p) = some N := num_stop hb tN n3 (by omega) (by omega) (Or.inl d)
    rw [if_neg d, if_pos (show (0 : Int32) = 0 from rfl), bind_some' s1, n3, if_pos (nI_le (Nat.le_refl p) (by omega))]
    exact ⟨K, N, 0, p, rfl, rfl, Or.inl rfl, KC.rf K, kN, by omega, hp, k2, n3, fun z => absurd z (by decide)⟩
