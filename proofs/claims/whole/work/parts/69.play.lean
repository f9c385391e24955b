/-! orders are obeyed, texts are played -/
theorem obey_both {K : SMain} {M : SMod} {c n : Nat} (hl : LN c n) (k1 : K.2.1.2.2 1 = nI c) (m8 : M.2 8 = nI c) (hv : ∀ k, k < n → K.2.1.2.1 k = M.1 8 k) (hab : AB K.2.2.2.2.1 (M.1 0)) (hW : WM M) :
    ∃ P' M' r, X6_obey K = some ((K.1, K.2.1, K.2.2.1, K.2.2.2.1, P', K.2.2.2.2.2), r) ∧ X7_does M = some (M', r) ∧ ((r < 0 ∧ KeepS M M') ∨ (0 ≤ r ∧ AB P' (M'.1 0) ∧ CH M M')) := by
  have r0 : rget 3 K.2.1.2.1 0 = K.2.1.2.1 0 := rget_n (k := 0) _ (by omega) (by omega)
  have r1 : rget 3 K.2.1.2.1 1 = K.2.1.2.1 1 := rget_n (k := 1) _ (by omega) (by omega)
  have r2 : rget 3 K.2.1.2.1 2 = K.2.1.2.1 2 := rget_n (k := 2) _ (by omega) (by omega)
  unfold X6_obey X7_does
  rw [k1, m8, r0, r1, r2]
  rcases hl with ⟨rfl, rfl⟩ | ⟨rfl, rfl⟩ | ⟨rfl, rfl⟩ | ⟨rfl, rfl⟩ | ⟨rfl, rfl⟩ | ⟨rfl, rfl⟩ | ⟨rfl, rfl⟩ | ⟨rfl, rfl⟩
  · obtain ⟨P', M', r, h1, h2, h3⟩ := op_tie (P := K.2.2.2.2.1) (M.1 8 0) (M.1 8 1) 0 (M.1 8 2) (Or.inl rfl) hab hW
    rw [hv 0 (by omega), hv 1 (by omega), hv 2 (by omega), if_pos (show nI 97 = 97 from rfl), if_pos (show nI 97 = 97 from rfl), if_neg (show ¬ nI 97 = 117 by decide)]
    exact ⟨P', M', r, bind_some' h1, bind_some' h2, h3⟩
  · obtain ⟨P', M', r, h1, h2, h3⟩ := op_cut (P := K.2.2.2.2.1) (M.1 8 0) hab hW
    rw [hv 0 (by omega), if_neg (show ¬ nI 99 = 97 by decide), if_neg (show ¬ nI 99 = 97 by decide), if_pos (show nI 99 = 99 from rfl), if_pos (show nI 99 = 99 from rfl)]
    exact ⟨P', M', r, bind_some' h1, bind_some' h2, h3⟩
  · obtain ⟨P', M', r, h1, h2, h3⟩ := op_cutDeal (P := K.2.2.2.2.1) (M.1 8 0) hab hW
    rw [hv 0 (by omega), if_neg (show ¬ nI 107 = 97 by decide), if_neg (show ¬ nI 107 = 97 by decide), if_neg (show ¬ nI 107 = 99 by decide), if_neg (show ¬ nI 107 = 99 by decide), if_pos (show nI 107 = 107 from rfl), if_pos (show nI 107 = 107 from rfl)]
    exact ⟨P', M', r, bind_some' h1, bind_some' h2, h3⟩
  · obtain ⟨P', M', r, h1, h2, h3⟩ := op_pull (P := K.2.2.2.2.1) (M.1 8 0) 0 hab hW
    rw [hv 0 (by omega), if_neg (show ¬ nI 110 = 97 by decide), if_neg (show ¬ nI 110 = 97 by decide), if_neg (show ¬ nI 110 = 99 by decide), if_neg (show ¬ nI 110 = 99 by decide), if_neg (show ¬ nI 110 = 107 by decide), if_neg (show ¬ nI 110 = 107 by decide), if_pos (show nI 110 = 110 from rfl), if_pos (show nI 110 = 110 from rfl), if_neg (show ¬ nI 110 = 121 by decide)]
    exact ⟨P', M', r, bind_some' h1, bind_some' h2, h3⟩
  · obtain ⟨P', M', r, h1, h2, h3⟩ := op_puppet (P := K.2.2.2.2.1) (M.1 8 0) (M.1 8 1) hab hW
    rw [hv 0 (by omega), hv 1 (by omega), if_neg (show ¬ nI 112 = 97 by decide), if_neg (show ¬ nI 112 = 97 by decide), if_neg (show ¬ nI 112 = 99 by decide), if_neg (show ¬ nI 112 = 99 by decide), if_neg (show ¬ nI 112 = 107 by decide), if_neg (show ¬ nI 112 = 107 by decide), if_neg (show ¬ nI 112 = 110 by decide), if_neg (show ¬ nI 112 = 110 by decide), if_pos (show nI 112 = 112 from rfl), if_pos (show nI 112 = 112 from rfl)]
    exact ⟨P', M', r, bind_some' h1, bind_some' h2, h3⟩
  · obtain ⟨P', M', r, h1, h2, h3⟩ := op_tie (P := K.2.2.2.2.1) (M.1 8 0) (M.1 8 1) 1 (M.1 8 2) (Or.inr rfl) hab hW
    rw [hv 0 (by omega), hv 1 (by omega), hv 2 (by omega), if_neg (show ¬ nI 117 = 97 by decide), if_neg (show ¬ nI 117 = 97 by decide), if_neg (show ¬ nI 117 = 99 by decide), if_neg (show ¬ nI 117 = 99 by decide), if_neg (show ¬ nI 117 = 107 by decide), if_neg (show ¬ nI 117 = 107 by decide), if_neg (show ¬ nI 117 = 110 by decide), if_neg (show ¬ nI 117 = 110 by decide), if_neg (show ¬ nI 117 = 112 by decide), if_neg (show ¬ nI 117 = 112 by decide), if_pos (show nI 117 = 117 from rfl), if_pos (show nI 117 = 117 from rfl), if_pos (show nI 117 = 117 from rfl)]
    exact ⟨P', M', r, bind_some' h1, bind_some' h2, h3⟩
  · obtain ⟨P', M', r, h1, h2, h3⟩ := op_session (P := K.2.2.2.2.1) hab hW
    rw [if_neg (show ¬ nI 118 = 97 by decide), if_neg (show ¬ nI 118 = 97 by decide), if_neg (show ¬ nI 118 = 99 by decide), if_neg (show ¬ nI 118 = 99 by decide), if_neg (show ¬ nI 118 = 107 by decide), if_neg (show ¬ nI 118 = 107 by decide), if_neg (show ¬ nI 118 = 110 by decide), if_neg (show ¬ nI 118 = 110 by decide), if_neg (show ¬ nI 118 = 112 by decide), if_neg (show ¬ nI 118 = 112 by decide), if_neg (show ¬ nI 118 = 117 by decide), if_neg (show ¬ nI 118 = 117 by decide), if_pos (show nI 118 = 118 from rfl), if_neg (show ¬ nI 118 = 121 by decide)]
    exact ⟨P', M', r, bind_some' h1, bind_some' h2, h3⟩
  · obtain ⟨P', M', r, h1, h2, h3⟩ := op_pull (P := K.2.2.2.2.1) (M.1 8 0) 1 hab hW
    rw [hv 0 (by omega), if_neg (show ¬ nI 121 = 97 by decide), if_neg (show ¬ nI 121 = 97 by decide), if_neg (show ¬ nI 121 = 99 by decide), if_neg (show ¬ nI 121 = 99 by decide), if_neg (show ¬ nI 121 = 107 by decide), if_neg (show ¬ nI 121 = 107 by decide), if_neg (show ¬ nI 121 = 110 by decide), if_neg (show ¬ nI 121 = 110 by decide), if_neg (show ¬ nI 121 = 112 by decide), if_neg (show ¬ nI 121 = 112 by decide), if_neg (show ¬ nI 121 = 117 by decide), if_neg (show ¬ nI 121 = 117 by decide), if_neg (show ¬ nI 121 = 118 by decide), if_pos (show nI 121 = 121 from rfl), if_pos (show nI 121 = 121 from rfl), if_pos (show nI 121 = 121 from rfl)]
    exact ⟨P', M', r, bind_some' h1, bind_some' h2, h3⟩
def KS (K0 K : SMain) : Prop := K.1 0 = K0.1 0 ∧ K.1 1 = K0.1 1 ∧ K.2.1.1 = K0.2.1.1 ∧ K.2.1.2.2 0 = K0.2.1.2.2 0 ∧ K.2.2.2.1 = K0.2.2.2.1 ∧ K.2.2.2.2.2 = K0.2.2.2.2.2
def MS (M0 M : SMod) : Prop := M.1 1 = M0.1 1 ∧ M.1 2 = M0.1 2 ∧ M.1 3 = M0.1 3 ∧ M.2 0 = M0.2 0 ∧ M.2 1 = M0.2 1 ∧ M.2 2 = M0.2 2
theorem KS.rf (K : SMain) : KS K K := ⟨rfl, rfl, rfl, rfl, rfl, rfl⟩
theorem MS.rf (M : SMod) : MS M M := ⟨rfl, rfl, rfl, rfl, rfl, rfl⟩
theorem KS.tr {P Q R : SMain} (h1 : KS P Q) (h2 : KS Q R) : KS P R := ⟨h2.1.trans h1.1, h2.2.1.trans h1.2.1, h2.2.2.1.trans h1.2.2.1, h2.2.2.2.1.trans h1.2.2.2.1, h2.2.2.2.2.1.trans h1.2.2.2.2.1, h2.2.2.2.2.2.trans h1.2.2.2.2.2⟩
theorem MS.tr {P Q R : SMod} (h1 : MS P Q) (h2 : MS Q R) : MS P R := ⟨h2.1.trans h1.1, h2.2.1.trans h1.2.1, h2.2.2.1.trans h1.2.2.1, h2.2.2.2.1.trans h1.2.2.2.1, h2.2.2.2.2.1.trans h1.2.2.2.2.1, h2.2.2.2.2.2.trans h1.2.2.2.2.2⟩
def VD (K' : SMain) (M' : SMod) (v : Int32) : Prop := (v = 0 ∨ v = 1) ∧ (v = 1 → AB K'.2.2.2.2.1 (M'.1 0) ∧ ∃ o, o ≤ 60 ∧ K'.1 2 = nI o ∧ M'.2 7 = nI o) ∧ (v = 0 → K'.1 3 = M'.2 4 ∧ K'.1 4 = M'.2 5 ∧ K'.1 5 = M'.2 6)
theorem L22_stop {f : Nat} {M : SMod} : X7_plays_L22 (f + 1) M 0 = some (M, 0) := by
  rw [X7_plays_L22]
  by_cases h : M.2 2 ≤ M.2 3
  · rw [if_pos h]
  · rw [if_neg h, if_pos rfl]
theorem tries_end {ch : Nat → Nat} {len o : Nat} {K : SMain} {M : SMod} {f1 f2 : Nat} (hK : TC ch len K.2.1) (hM : TM ch len M) (m3 : M.2 3 = nI len) (h60 : len ≤ 60) : X6_tryOrders_L20 (f1 + 1) K (nI len) (nI o) = some (K, 1) ∧ X7_plays_L22 (f2 + 1) M 1 = some (M, 1) := by
  constructor
  · rw [X6_tryOrders_L20, hK.1]
    by_cases h : 60 ≤ nI o
    · rw [if_pos h]
    · rw [if_neg h, if_pos (nI_le (Nat.le_refl len) (by omega))]
  · rw [X7_plays_L22, hM.1, m3, if_pos (nI_le (Nat.le_refl len) (by omega))]
theorem tries_both {ch : Nat → Nat} {len : Nat} (hb : TB ch len) :
    ∀ (d p o : Nat) (K : SMain) (M : SMod) (f1 f2 : Nat), len ≤ p + d → p ≤ len → o ≤ p → TC ch len K.2.1 → TM ch len M → M.2 3 = nI p → K.1 2 = nI o → M.2 7 = nI o → AB K.2.2.2.2.1 (M.1 0) → M.2 1 = 1 → (∃ t, t ≤ 4 ∧ M.2 0 = nI t) → d < f1 → d + 1 < f2 →
    ∃ K' M' v, X6_tryOrders_L20 f1 K (nI p) (nI o) = some (K', v) ∧ X7_plays_L22 f2 M 1 = some (M', v) ∧ KS K K' ∧ MS M M' ∧ VD K' M' v := by
  have h60 := hb.1
  have fin : ∀ (p o : Nat) (K : SMain) (M : SMod) (f1 f2 : Nat), p = len → o ≤ p → TC ch len K.2.1 → TM ch len M → M.2 3 = nI p → K.1 2 = nI o → M.2 7 = nI o → AB K.2.2.2.2.1 (M.1 0) → 0 < f1 → 0 < f2 → ∃ K' M' v, X6_tryOrders_L20 f1 K (nI p) (nI o) = some (K', v) ∧ X7_plays_L22 f2 M 1 = some (M', v) ∧ KS K K' ∧ MS M M' ∧ VD K' M' v := by
    intro p o K M f1 f2 hp ho hK hM m3 k2 m7 hab h1 h2
    obtain ⟨q1, rfl⟩ : ∃ q, f1 = q + 1 := ⟨f1 - 1, by omega⟩
    obtain ⟨q2, rfl⟩ : ∃ q, f2 = q + 1 := ⟨f2 - 1, by omega⟩
    subst hp
    obtain ⟨a1, a2⟩ := tries_end (o := o) (f1 := q1) (f2 := q2) hK hM m3 h60
    exact ⟨K, M, 1, a1, a2, KS.rf K, MS.rf M, Or.inr rfl, fun _ => ⟨hab, o, by omega, k2, m7⟩, fun z => absurd z (by decide)⟩
  intro d
  induction d with
  | zero =>
    intro p o K M f1 f2 hd hp ho hK hM m3 k2 m7 hab m1 m0 h1 h2
    exact fin p o K M f1 f2 (by omega) ho hK hM m3 k2 m7 hab (by omega) (by omega)
  | succ d ih =>
    intro p o K M f1 f2 hd hp ho hK hM m3 k2 m7 hab m1 m0 h1 h2
    by_cases hpl : p = len
    · exact fin p o K M f1 f2 hpl ho hK hM m3 k2 m7 hab (by omega) (by omega)
    obtain ⟨q1, rfl⟩ : ∃ q, f1 = q + 1 := ⟨f1 - 1, by omega⟩
    obtain ⟨q2, rfl⟩ : ∃ q, f2 = q + 1 := ⟨f2 - 1, by omega⟩
    obtain ⟨q3, hq3⟩ : ∃ q, q2 = q + 1 := ⟨q2 - 1, by omega⟩
    obtain ⟨MA, hMA⟩ : ∃ MA : SMod, MA = (M.1, up M.2 4 (nI p)) := ⟨_, rfl⟩
    have mAi : ∀ i, i ≠ 4 → MA.2 i = M.2 i := fun i hi => by rw [hMA]; exact up_ne M.2 _ hi
    have mAr : MA.1 = M.1 := by rw [hMA]
    have mA4 : MA.2 4 = nI p := by rw [hMA]; rfl
    have tMA : TM ch len MA := ⟨by rw [mAi 2 (by decide)]; exact hM.1, by rw [mAr]; exact hM.2⟩
    obtain ⟨T1, M1, r, p', a1, a2, a3, a4, a5, a6, a7, a8, a9, a10, a11, a12⟩ := readOrder_both hb hK tMA (by rw [mAi 3 (by decide)]; exact m3) (show p < len by omega)
    have goC : X6_tryOrders_L20 (q1 + 1) K (nI p) (nI o) = if r = 0 then some (((up (up (up K.1 3 (nI p)) 4 1) 5 (nI p' - nI p), T1, K.2.2.1, K.2.2.2.1, K.2.2.2.2.1, K.2.2.2.2.2) : SMain), (0 : Int32)) else (X6_obey (K.1, T1, K.2.2.1, K.2.2.2.1, K.2.2.2.2.1, K.2.2.2.2.2)).bind fun u_12 => (if (X6_isError u_12.2) = 0 then X6_tryOrders_L20 q1 ((up u_12.1.1 2 ((u_12.1.1 2) + 1)), u_12.1.2.1, u_12.1.2.2.1, u_12.1.2.2.2.1, u_12.1.2.2.2.2.1, u_12.1.2.2.2.2.2) (u_12.1.2.1.2.2 2) (nI (o + 1)) else some ((up (up (up u_12.1.1 3 (nI p)) 4 2) 5 u_12.2, u_12.1.2.1, u_12.1.2.2.1, u_12.1.2.2.2.1, u_12.1.2.2.2.2.1, u_12.1.2.2.2.2.2), 0)) := by
      rw [X6_tryOrders_L20, if_neg (show ¬ (60 : Int32) ≤ nI o from nI_ge (b := 60) (by omega) (by omega)), hK.1, if_neg (nI_ge (by omega) (by omega)), bind_some' a1, nI_1, ← a10]
      rfl
    have goM : X7_plays_L22 (q2 + 1) M 1 = (X7_plays_J51 M1 r r).bind fun u_18 => (if r = 0 then X7_plays_L22 q2 (u_18.1.1, up (up (up u_18.1.2 5 (X7_plays_J79 u_18.1 (X7_plays_J64 u_18.1 r u_18.2 r) r u_18.2 r)) 6 (u_18.1.2 3 - u_18.1.2 4)) 7 (u_18.1.2 7 + 1)) (X7_plays_J64 u_18.1 r u_18.2 r) else X7_plays_L22 q2 (u_18.1.1, up (up (up u_18.1.2 5 (X7_plays_J79 u_18.1 (X7_plays_J64 u_18.1 r u_18.2 r) r u_18.2 r)) 6 u_18.2) 7 (u_18.1.2 7 + 1)) (X7_plays_J64 u_18.1 r u_18.2 r)) := by
      rw [X7_plays_L22, hM.1, m3, if_neg (nI_ge (by omega) (by omega)), if_neg (show ¬ (1 : Int32) = 0 by decide), ← hMA]
      show Option.bind (X7_parses MA) _ = _
      rw [bind_some' a2]
      rfl
    rw [goC, goM]
    have hS1 : MS M M1 := ⟨by rw [a6 1 (by decide), mAr], by rw [a6 2 (by decide), mAr], by rw [a6 3 (by decide), mAr], by rw [a7 0 (by decide) (by decide), mAi 0 (by decide)], by rw [a7 1 (by decide) (by decide), mAi 1 (by decide)], by rw [a7 2 (by decide) (by decide), mAi 2 (by decide)]⟩
    have s0 : M1.1 0 = M.1 0 := by rw [a6 0 (by decide), mAr]
    have i4 : M1.2 4 = nI p := by rw [a7 4 (by decide) (by decide)]; exact mA4
    have i7 : M1.2 7 = nI o := by rw [a7 7 (by decide) (by decide), mAi 7 (by decide)]; exact m7
    have i1 : M1.2 1 = 1 := by rw [hS1.2.2.2.2.1]; exact m1
    obtain ⟨t, t4, ht⟩ := m0
    have i0 : M1.2 0 = nI t := by rw [hS1.2.2.2.1]; exact ht
    rcases a3 with rfl | rfl
    · have e79 : ∀ A B C, X7_plays_J79 A B 0 C 0 = 1 := fun A B C => by
        unfold X7_plays_J79
        rw [if_pos (show (0 : Int32) = 0 from rfl)]
      have e64 : ∀ A C, X7_plays_J64 A 0 C 0 = 0 := fun A C => by
        unfold X7_plays_J64
        rw [if_pos (show (0 : Int32) = 0 from rfl)]
      unfold X7_plays_J51
      rw [if_pos (show (0 : Int32) = 0 from rfl), if_pos (show (0 : Int32) = 0 from rfl)]
      refine ⟨_, (M1.1, up (up (up M1.2 5 1) 6 (nI p' - nI p)) 7 (nI o + 1)), 0, rfl, ?_, ⟨rfl, rfl, a4, a5, rfl, rfl⟩, hS1.tr ⟨rfl, rfl, rfl, rfl, rfl, rfl⟩, Or.inl rfl, fun z => absurd z (by decide), fun _ => ⟨?_, rfl, rfl⟩⟩
      · rw [bind_mk, if_pos (show (0 : Int32) = 0 from rfl), e79, e64, hq3, L22_stop]
        show some ((M1.1, up (up (up M1.2 5 1) 6 (M1.2 3 - M1.2 4)) 7 (M1.2 7 + 1)), (0 : Int32)) = _
        rw [a11, i4, i7]
      · exact i4.symm
    · obtain ⟨hpp, c, n, l0, b1, b2, b3⟩ := a12 rfl
      obtain ⟨P', M2, ra, g1, g2, g3⟩ := obey_both (K := (K.1, T1, K.2.2.1, K.2.2.2.1, K.2.2.2.2.1, K.2.2.2.2.2)) (M := M1) l0 b1 b2 b3 (by rw [s0]; exact hab) ⟨⟨t, t4, i0⟩, Or.inr i1⟩
      have h51 : X7_plays_J51 M1 1 1 = some (M2, ra) := by
        unfold X7_plays_J51
        rw [if_neg (show ¬ (1 : Int32) = 0 by decide), bind_some' g2]
      rw [if_neg (show ¬ (1 : Int32) = 0 by decide), bind_some' g1, bind_some' h51, if_neg (show ¬ (1 : Int32) = 0 by decide)]
      have eJ1 : ∀ A B C, X7_plays_J79 A B 1 C 1 = 2 := fun A B C => by
        unfold X7_plays_J79
        rw [if_neg (show ¬ (1 : Int32) = 0 by decide)]
      have eJ2 : X7_plays_J64 M2 1 ra 1 = if ra < 0 then 0 else 1 := by
        unfold X7_plays_J64
        rw [if_neg (show ¬ (1 : Int32) = 0 by decide)]
      rw [eJ1, eJ2]
      rcases g3 with ⟨g3, g4⟩ | ⟨g3, g4, g5⟩
      · have hE : ¬ X6_isError ra = 0 := by
          unfold X6_isError
          rw [if_neg (Int32.not_le.mpr g3)]
          decide
        have e2 : M2.2 = M1.2 := g4.2
        rw [if_neg hE, if_pos g3, hq3, L22_stop]
        refine ⟨_, _, 0, rfl, rfl, ⟨rfl, rfl, a4, a5, rfl, rfl⟩, hS1.tr ⟨?_, ?_, ?_, ?_, ?_, ?_⟩, Or.inl rfl, fun z => absurd z (by decide), fun _ => ⟨?_, rfl, rfl⟩⟩
        · exact g4.1 1 (by decide) (by decide) (by decide) (by decide)
        · exact g4.1 2 (by decide) (by decide) (by decide) (by decide)
        · exact g4.1 3 (by decide) (by decide) (by decide) (by decide)
        · show M2.2 0 = _
          rw [e2]
        · show M2.2 1 = _
          rw [e2]
        · show M2.2 2 = _
          rw [e2]
        · show nI p = M2.2 4
          rw [e2, i4]
      · have hE : X6_isError ra = 0 := by
          unfold X6_isError
          rw [if_pos g3]
        obtain ⟨⟨t', d1, d2, d3⟩, d4, d5, d6⟩ := g5
        have d3 : M2.1 1 = M1.1 1 ∧ M2.2 = M1.2 := by
          rcases d3 with ⟨-, z1, z2⟩ | ⟨z, -⟩
          · exact ⟨z1, z2⟩
          · rw [i1] at z
            exact absurd z (by decide)
        obtain ⟨d3, e2⟩ := d3
        rw [if_pos hE, if_neg (Int32.not_lt.mpr g3)]
        obtain ⟨KB, hKB⟩ : ∃ KB : SMain, KB = (up K.1 2 (K.1 2 + 1), T1, K.2.2.1, K.2.2.2.1, P', K.2.2.2.2.2) := ⟨_, rfl⟩
        obtain ⟨MB, hMB⟩ : ∃ MB : SMod, MB = (M2.1, up (up (up M2.2 5 2) 6 ra) 7 (M2.2 7 + 1)) := ⟨_, rfl⟩
        have kb : KS K KB := by
          rw [hKB]
          exact ⟨rfl, rfl, a4, a5, rfl, rfl⟩
        have mb : MS M MB := hS1.tr (by
          rw [hMB]
          refine ⟨d3, d4, d5, ?_, ?_, ?_⟩
          · show M2.2 0 = _
            rw [e2]
          · show M2.2 1 = _
            rw [e2]
          · show M2.2 2 = _
            rw [e2])
        obtain ⟨K', M', v, x1, x2, x3, x4, x5⟩ := ih p' (o + 1) KB MB q1 q2 (by omega) a9 (by omega) ⟨by rw [kb.2.2.2.1]; exact hK.1, by rw [kb.2.2.1]; exact hK.2⟩ ⟨by rw [mb.2.2.2.2.2]; exact hM.1, by rw [mb.2.2.1]; exact hM.2⟩
          (by rw [hMB]; show M2.2 3 = _; rw [e2]; exact a11) (by rw [hKB]; show K.1 2 + 1 = _; rw [k2, nI_1]) (by rw [hMB]; show M2.2 7 + 1 = _; rw [e2, i7, nI_1]) (by rw [hKB, hMB]; exact g4) (by rw [mb.2.2.2.2.1]; exact m1) ⟨t, t4, by rw [mb.2.2.2.1]; exact ht⟩ (by omega) (by omega)
        refine ⟨K', M', v, ?_, ?_, kb.tr x3, mb.tr x4, x5⟩
        · rw [← x1, hKB, ← a10]
        · rw [← x2, hMB]
def MZ (M0 M : SMod) : Prop := M.1 1 = M0.1 1 ∧ M.1 2 = M0.1 2 ∧ M.1 3 = M0.1 3 ∧ M.2 0 = M0.2 0 ∧ M.2 1 = 0 ∧ M.2 2 = M0.2 2
theorem plays_both {K : SMain} {M : SMod} (hab : AB K.2.2.2.1 (M.1 0)) (h0 : ∃ t, t ≤ 4 ∧ M.2 0 = nI t) (ht : TX K M) : ∃ K' M' v, X6_tryOrders K = some (K', v) ∧ X7_plays M = some (M', v) ∧ KS K K' ∧ MZ M M' ∧ VD K' M' v := by
  obtain ⟨len, c1, c2, c3, c4⟩ := ht
  have hch : ∀ k, k < len → 32 ≤ (fun k => Int32.toNatClampNeg (M.1 3 k)) k ∧ (fun k => Int32.toNatClampNeg (M.1 3 k)) k ≤ 126 ∧ K.2.1.1 k = nI ((fun k => Int32.toNatClampNeg (M.1 3 k)) k) ∧ M.1 3 k = nI ((fun k => Int32.toNatClampNeg (M.1 3 k)) k) := by
    intro k hk
    obtain ⟨c, e1, e2, e3, e4⟩ := c4 k hk
    show 32 ≤ Int32.toNatClampNeg (M.1 3 k) ∧ Int32.toNatClampNeg (M.1 3 k) ≤ 126 ∧ K.2.1.1 k = nI (Int32.toNatClampNeg (M.1 3 k)) ∧ M.1 3 k = nI (Int32.toNatClampNeg (M.1 3 k))
    rw [e4, nI_clamp (by omega)]
    exact ⟨e1, e2, e3, rfl⟩
  generalize (fun k => Int32.toNatClampNeg (M.1 3 k)) = ch at hch
  have hb : TB ch len := ⟨c1, fun k hk => ⟨(hch k hk).1, (hch k hk).2.1⟩⟩
  obtain ⟨K3, hK3⟩ : ∃ K3 : SMain, K3 = (up K.1 2 0, K.2.1, K.2.2.1, K.2.2.2.1, K.2.2.2.1, K.2.2.2.2.2) := ⟨_, rfl⟩
  obtain ⟨M7, hM7⟩ : ∃ M7 : SMod, M7 = (M.1, up (up (up (up M.2 1 1) 3 0) 4 0) 7 0) := ⟨_, rfl⟩
  have k3 : KS K K3 := by
    rw [hK3]
    exact ⟨rfl, rfl, rfl, rfl, rfl, rfl⟩
  have m7 : M7.1 = M.1 ∧ M7.2 0 = M.2 0 ∧ M7.2 1 = 1 ∧ M7.2 2 = M.2 2 ∧ M7.2 3 = nI 0 ∧ M7.2 7 = nI 0 := by
    rw [hM7]
    exact ⟨rfl, rfl, rfl, rfl, rfl, rfl⟩
  obtain ⟨K', M', v, x1, x2, x3, x4, x5⟩ := tries_both hb len 0 0 K3 M7 FUEL FUEL (by omega) (by omega) (by omega) ⟨by rw [k3.2.2.2.1]; exact c2, by rw [k3.2.2.1]; exact fun k hk => (hch k hk).2.2.1⟩ ⟨by rw [m7.2.2.2.1]; exact c3, by rw [m7.1]; exact fun k hk => (hch k hk).2.2.2⟩ m7.2.2.2.2.1 (by rw [hK3]; rfl) m7.2.2.2.2.2 (by rw [m7.1, hK3]; exact hab) m7.2.2.1 (by rw [m7.2.1]; exact h0) (by unfold FUEL; omega) (by unfold FUEL; omega)
  refine ⟨K', (M'.1, up M'.2 1 0), v, ?_, ?_, k3.tr x3, ⟨?_, ?_, ?_, ?_, rfl, ?_⟩, x5⟩
  · unfold X6_tryOrders
    show X6_tryOrders_L20 FUEL (up K.1 2 0, K.2.1, K.2.2.1, K.2.2.2.1, K.2.2.2.1, K.2.2.2.2.2) 0 0 = _
    rw [← hK3]
    exact x1
  · unfold X7_plays
    show Option.bind (X7_plays_L22 FUEL (M.1, up (up (up (up M.2 1 1) 3 0) 4 0) 7 0) 1) _ = _
    rw [← hM7, bind_some' x2]
    show (if (v = 0 ∨ v = 1) then some ((M'.1, up M'.2 1 0), v) else none) = _
    rw [if_pos x5.1]
  · show M'.1 1 = _
    rw [x4.1, m7.1]
  · show M'.1 2 = _
    rw [x4.2.1, m7.1]
  · show M'.1 3 = _
    rw [x4.2.2.1, m7.1]
  · show M'.2 0 = _
    rw [x4.2.2.2.1, m7.2.1]
  · show M'.2 2 = _
    rw [x4.2.2.2.2.2, m7.2.2.2.1]
theorem Rel.e {K K' : SMain} {M M' : SMod} (h : Rel K M) (hk : KS K K') (m0 : M'.1 0 = M.1 0) (m1 : M'.1 1 = M.1 1) (m3 : M'.1 3 = M.1 3) (i0 : M'.2 0 = M.2 0) (i1 : M'.2 1 = 0) (i2 : M'.2 2 = M.2 2) : Rel K' M' := by
  obtain ⟨a, ⟨o, t, b1, b2, b3, b4, b5, b6⟩, ⟨len, c1, c2, c3, c4⟩, d⟩ := h
  obtain ⟨k1, k2, k3, k4, k5, k6⟩ := hk
  exact ⟨by rw [k5, m0]; exact a, ⟨o, t, b1, b2, by rw [k1, b3], by rw [k2, b4], by rw [i0, b5], fun i hi => by rw [k6, m1]; exact b6 i hi⟩, ⟨len, c1, by rw [k4, c2], by rw [i2, c3], fun k hk2 => by rw [k3, m3]; exact c4 k hk2⟩, i1⟩
theorem play_first {K : SMain} {M : SMod} (h : Rel K M) : ∃ K' M' v, X6_tryOrders K = some (K', v) ∧ X7_plays (up M.1 2 (M.1 0), M.2) = some (M', v) ∧ Rel K' (up M'.1 0 (M'.1 2), M'.2) ∧ M'.1 2 = M.1 0 ∧ M'.1 3 = M.1 3 ∧ M'.2 0 = M.2 0 ∧ M'.2 1 = 0 ∧ M'.2 2 = M.2 2 ∧ VD K' M' v := by
  obtain ⟨K', M', v, x1, x2, x3, x4, x5⟩ := plays_both (K := K) (M := (up M.1 2 (M.1 0), M.2)) h.1 h.W.1 h.2.2.1
  obtain ⟨z1, z2, z3, z4, z5, z6⟩ := x4
  exact ⟨K', M', v, x1, x2, h.e x3 z2 z1 z3 z4 z5 z6, z2, z3, z4, z5, z6, x5⟩
theorem o_fault : Op_fault Rel := by
  intro K M a0 h
  rcases inC a0 (a := 0) (b := 2) (by omega) (by omega) with ⟨m, -, hm, rfl, e3, e4⟩ | ⟨e3, e4⟩
  case inr =>
    have e3 : X6_isIn a0 0 2 = 0 := e3
    have e4 : X7_in a0 0 2 = 0 := e4
    refine ⟨(K, -1000001), (M, -1000001), ?_, ?_, rfl, h⟩
    · unfold X6_fault
      rw [e3, if_pos rfl]
    · unfold X7_fault
      rw [e4, if_pos rfl]
  have e3 : X6_isIn (nI m) 0 2 = 1 := e3
  have e4 : X7_in (nI m) 0 2 = 1 := e4
  obtain ⟨K', M', v, x1, x2, x3, -, -, -, -, -, x5, x6, x7⟩ := play_first h
  unfold X6_fault X7_fault
  rw [e3, e4, if_neg (show ¬ (1 : Int32) = 0 by decide), if_neg (show ¬ (1 : Int32) = 0 by decide), bind_some' x1]
  show ∃ u w, _ ∧ Option.bind (X7_plays (up M.1 2 (M.1 0), M.2)) _ = some w ∧ _
  rw [bind_some' x2]
  show ∃ u w, (if v = 0 then (if nI m = 0 then some (K', K'.1 3) else (if nI m = 1 then some (K', K'.1 4) else some (K', K'.1 5))) else some (K', -1000004)) = some u ∧ (if v = 0 then (if nI m = 0 then some ((up M'.1 0 (M'.1 2), M'.2), M'.2 4) else (if nI m = 1 then some ((up M'.1 0 (M'.1 2), M'.2), M'.2 5) else some ((up M'.1 0 (M'.1 2), M'.2), M'.2 6))) else some ((up M'.1 0 (M'.1 2), M'.2), -1000004)) = some w ∧ u.2 = w.2 ∧ Rel u.1 w.1
  rcases x5 with rfl | rfl
  · obtain ⟨y1, y2, y3⟩ := x7 rfl
    rw [if_pos (show (0 : Int32) = 0 from rfl), if_pos (show (0 : Int32) = 0 from rfl)]
    by_cases q0 : nI m = 0
    · rw [if_pos q0, if_pos q0]
      exact ⟨_, _, rfl, rfl, y1, x3⟩
    · rw [if_neg q0, if_neg q0]
      by_cases q1 : nI m = 1
      · rw [if_pos q1, if_pos q1]
        exact ⟨_, _, rfl, rfl, y2, x3⟩
      · rw [if_neg q1, if_neg q1]
        exact ⟨_, _, rfl, rfl, y3, x3⟩
  · rw [if_neg (show ¬ (1 : Int32) = 0 by decide), if_neg (show ¬ (1 : Int32) = 0 by decide)]
    exact ⟨_, _, rfl, rfl, rfl, x3⟩
theorem o_play : Op_play Rel := by
  intro K M h
  obtain ⟨K', M', v, x1, x2, x3, z2, z3, z4, z5, z6, x5, x6, x7⟩ := play_first h
  obtain ⟨MR, hMR⟩ : ∃ MR : SMod, MR = (up M'.1 0 (M'.1 2), M'.2) := ⟨_, rfl⟩
  rw [← hMR] at x3
  unfold X6_play X7_play
  rw [bind_some' x1]
  show ∃ u w, _ ∧ Option.bind (X7_plays (up M.1 2 (M.1 0), M.2)) _ = some w ∧ _
  rw [bind_some' x2]
  show ∃ u w, (if v = 0 then ((X6_settle K' (-1000002)).bind fun u_4 => some (u_4.1, u_4.2)) else ((X6_settle K' (K'.1 2)).bind fun u_6 => some (u_6.1, u_6.2))) = some u ∧ (if v = 0 then some ((up M'.1 0 (M'.1 2), M'.2), -1000002) else ((X7_changes (up M'.1 0 (M'.1 2), M'.2)).bind fun u_8 => ((X7_plays u_8).bind fun u_10 => (if u_10.2 = 0 then some (u_10.1, (-1000004)) else some (u_10.1, (u_10.1.2 7)))))) = some w ∧ u.2 = w.2 ∧ Rel u.1 w.1
  rw [← hMR]
  rcases x5 with rfl | rfl
  · rw [if_pos (show (0 : Int32) = 0 from rfl), if_pos (show (0 : Int32) = 0 from rfl), bind_some' (settle_err (show (-1000002 : Int32) < 0 by decide))]
    exact ⟨_, _, rfl, rfl, rfl, x3⟩
  · obtain ⟨-, o, o60, o1, -⟩ := x6 rfl
    rw [if_neg (show ¬ (1 : Int32) = 0 by decide), if_neg (show ¬ (1 : Int32) = 0 by decide)]
    have r0 : MR.1 0 = M.1 0 := by rw [hMR]; exact z2
    have r3 : MR.1 3 = M.1 3 := by rw [hMR]; exact z3
    have ri : MR.2 = M'.2 := by rw [hMR]
    obtain ⟨Mc, g1, g2, g3⟩ := changes_spec x3.W
    obtain ⟨⟨t, d1, d2, d3⟩, d4, d5, d6⟩ := id g2
    have d3 : Mc.2 = up MR.2 0 (nI (min (t + 1) 4)) := by
      rcases d3 with ⟨z, -, -⟩ | ⟨-, -, z⟩
      · rw [ri, z5] at z
        exact absurd z (by decide)
      · exact z
    have c0 : Mc.2 0 = nI (min (t + 1) 4) := by rw [d3, up_eq]
    have c2 : Mc.2 2 = M.2 2 := by rw [d3, up_ne _ _ (by decide), ri, z6]
    obtain ⟨len, t1, t2, t3, t4⟩ := h.2.2.1
    obtain ⟨K2, M2, v2, y1, y2, y3, y4, y5, y6, y7⟩ := plays_both (K := K) (M := Mc) (by rw [g3 0 (by decide), r0]; exact h.1) ⟨min (t + 1) 4, by omega, c0⟩ ⟨len, t1, t2, by rw [c2, t3], fun k hk => by rw [d5, r3]; exact t4 k hk⟩
    rw [x1] at y1
    have y1 := Option.some.inj y1
    have ek : K2 = K' := (congrArg Prod.fst y1).symm
    have ev : v2 = 1 := (congrArg Prod.snd y1).symm
    subst ek
    subst ev
    obtain ⟨f1, o', o60', f2, f3⟩ := y6 rfl
    obtain ⟨w1, w2, w3, w4, w5, w6⟩ := y4
    obtain ⟨K3, s1, s2, s3⟩ := settle_ok (K := K2) (M := MR) (M' := (up Mc.1 0 (M2.1 0), Mc.2)) (r := K2.1 2) (by rw [f2]; exact nI_pos' (by omega)) x3 (g2.r ⟨fun i hi => up_ne Mc.1 _ (by omega), rfl⟩) f1
    rw [bind_some' s1, bind_some' g1, bind_some' y2, if_neg (show ¬ (1 : Int32) = 0 by decide)]
    refine ⟨(K3, K2.1 2), (M2, M2.2 7), rfl, rfl, ?_, ?_⟩
    · show K2.1 2 = M2.2 7
      rw [f2, f3]
    · exact s2.e (KS.rf K3) rfl w1 w3 w4 w5 w6
