/-! all votes, as the law tells them -/
theorem sgn_le {a b : Nat} (ha : a ≤ 108) (hb : b ≤ 108) : (nI a - nI b ≤ 0 ↔ a ≤ b) ∧ (0 ≤ nI a - nI b ↔ b ≤ a) := by
  have h := pk_sub_toInt (a := a) (b := b) (by omega) (by omega)
  rw [Int32.le_iff_toInt_le, Int32.le_iff_toInt_le, h, Int32.toInt_zero]
  omega
theorem yes_low {K : SLaw} {n k : Nat} {se le pu : Nat → Int32} {L : List Str4} {g : Nat → Int32} (x5 x6 : Int32) (hA : AW n se le pu L g) (hR : RL1 K n se le pu) (hL : LG K (grp L) n) (hk : k < n) (ck : (grp L).1 k = k) :
    ∃ v, L_yes_J36 K x5 x6 (nI k) (nI k) (nI ((grp L).1 k)) = some (up K 4 (upd (K 4) (24 + k) v)) ∧ (v = 0 ∨ v = 1) ∧ (hp n pu (grp L) k → v = g k) ∧ (¬ hp n pu (grp L) k → v = ld n se le (grp L) k) := by
  have hn := hA.1
  obtain ⟨r, r1, r2, r3⟩ := yes_in x5 x6 hA hR hL hk ck
  obtain ⟨y, y1, y2⟩ := ys_nat (j := k) (q := grp L) hA
  obtain ⟨z, z1, z2⟩ := ns_nat (j := k) (q := grp L) hA
  obtain ⟨s1, s2⟩ := sgn_le y1 z1
  have hl := (hR.2 k hk).2.1
  have hl01 := (hA.2.2.2 k hk).2.1
  unfold L_yes_J36
  rw [if_pos (by rw [ck]), bind_some' r1]
  rcases r3 with ⟨t1, t2⟩ | ⟨t1, t2, t3⟩
  · rw [t1, if_pos im1, r2, y2, z2]
    have e : ld n se le (grp L) k = if y = z then le k else if y ≤ z then 0 else 1 := by
      unfold ld
      rw [y2, z2]
      by_cases c : y = z
      · rw [if_pos (by rw [c]), if_pos c]
      · rw [if_neg (by rw [nI_eq (by omega) (by omega)]; exact c), if_neg c]
        by_cases c2 : y ≤ z
        · rw [if_pos (nI_le c2 (by omega)), if_pos c2]
        · rw [if_neg (nI_ge (by omega) (by omega)), if_neg c2]
    refine ⟨ld n se le (grp L) k, ?_, ld_01 hl01, fun c => absurd c t2, fun _ => rfl⟩
    rw [e]
    by_cases c : y ≤ z
    · rw [if_pos (s1.mpr c)]
      by_cases c2 : z ≤ y
      · rw [if_pos (s2.mpr c2), if_pos (show y = z by omega)]
        simp (disch := omega) only [m3e, nI_1, a24e, nI_clamp, gN, not_false_eq_true, ↓reduceIte, hl, bnd_at]
      · rw [if_neg (fun h => c2 (s2.mp h)), if_neg (show ¬ y = z by omega), if_pos c]
        simp (disch := omega) only [a24e, nI_clamp, gN, not_false_eq_true, ↓reduceIte, bnd_at]
    · rw [if_neg (fun h => c (s1.mp h)), if_neg (show ¬ y = z by omega), if_neg c]
      simp (disch := omega) only [a24e, nI_clamp, gN, not_false_eq_true, ↓reduceIte, bnd_at]
  · refine ⟨g k, ?_, t2, fun _ => rfl, fun c => absurd t3 c⟩
    rw [t1, if_neg (by rcases t2 with e | e <;> rw [e] <;> decide)]
    simp (disch := omega) only [a24e, nI_clamp, gN, not_false_eq_true, ↓reduceIte, bnd_at]
theorem vx {a b : Int32} (ha : a = 0 ∨ a = 1) (hb : b = 0 ∨ b = 1) : (if b = a then (0 : Int32) else 1) = b ^^^ a := by
  rcases ha with rfl | rfl <;> rcases hb with rfl | rfl <;> decide
theorem LG.u {M : SLaw} {q : Grp} {n k : Nat} (v : Int32) (hn : n ≤ 12) (h : LG M q n) : LG (up M 4 (upd (M 4) (24 + k) v)) q n := by
  intro j hj
  show upd (M 4) (24 + k) v j = _ ∧ upd (M 4) (24 + k) v (12 + j) = _
  rw [pk_un (by omega), pk_un (by omega)]
  exact h j hj
theorem votes_law {M : SLaw} {n : Nat} {se le pu : Nat → Int32} {L : List Str4} {g : Nat → Int32} (x6 : Int32) (hA : AW n se le pu L g) (hR : RL1 M n se le pu) (hL : LG M (grp L) n) (h6 : 0 < n → ¬ x6 ≤ 0) :
    ∃ M', L_yes_L17 FUEL M 0 x6 0 = some (M', sm (fun i => M' 4 (24 + i) * se i) n) ∧ KG M M' ∧ LG M' (grp L) n ∧ Vt n se le pu (grp L) g (fun i => M' 4 (24 + i)) := by
  have hn := hA.1
  have hq := hA.q
  obtain ⟨⟨M', r⟩, ⟨h1, h2, h3, h4⟩, h5⟩ := loop_FUEL (f := fun fu (s : SLaw × Int32) i => L_yes_L17 fu s.1 s.2 x6 i) (n := n)
    (fun k s => KG M s.1 ∧ LG s.1 (grp L) n ∧ (∀ i, i < k → Vk n se le pu (grp L) g (fun i => s.1 4 (24 + i)) i) ∧ s.2 = sm (fun i => s.1 4 (24 + i) * se i) k)
    (fun s => KG M s.1 ∧ LG s.1 (grp L) n ∧ (∀ i, i < n → Vk n se le pu (grp L) g (fun i => s.1 4 (24 + i)) i) ∧ s.2 = sm (fun i => s.1 4 (24 + i) * se i) n) (by omega)
    (by
      rintro fu k ⟨K, c⟩ hk ⟨i1, i2, i3, i4⟩
      have i1 : KG M K := i1
      have i2 : LG K (grp L) n := i2
      have i3 : ∀ i, i < k → Vk n se le pu (grp L) g (fun i => K 4 (24 + i)) i := i3
      have i4 : c = sm (fun i => K 4 (24 + i) * se i) k := i4
      right
      have hRK := i1.r1 hR
      have qk := hq.1 k
      obtain ⟨l1, l2⟩ := i2 k hk
      obtain ⟨p1, p2, p3⟩ := hRK.2 k hk
      show ∃ s' : SLaw × Int32, _ ∧ L_yes_L17 (fu + 1) K c x6 (nI k) = L_yes_L17 fu s'.1 s'.2 x6 (nI (k + 1))
      have step : ∀ v, (v = 0 ∨ v = 1) → Vk n se le pu (grp L) g (fun i => upd (K 4) (24 + k) v (24 + i)) k → ∃ s' : SLaw × Int32, s' = (up K 4 (upd (K 4) (24 + k) v), c + v * se k) ∧ KG M s'.1 ∧ LG s'.1 (grp L) n ∧ (∀ i, i < k + 1 → Vk n se le pu (grp L) g (fun i => s'.1 4 (24 + i)) i) ∧ s'.2 = sm (fun i => s'.1 4 (24 + i) * se i) (k + 1) := by
        intro v hv hvk
        refine ⟨_, rfl, i1.tr (KG.u _ _), i2.u v hn, fun i hi => ?_, ?_⟩
        · show Vk n se le pu (grp L) g (fun i => upd (K 4) (24 + k) v (24 + i)) i
          by_cases cik : i = k
          · rw [cik]
            exact hvk
          · have := i3 i (by omega)
            unfold Vk at this ⊢
            show (_ → upd (K 4) (24 + k) v (24 + i) = _) ∧ (_ → upd (K 4) (24 + k) v (24 + i) = _)
            rw [pk_un (by omega)]
            exact this
        · show c + v * se k = sm (fun i => upd (K 4) (24 + k) v (24 + i) * se i) k + upd (K 4) (24 + k) v (24 + k) * se k
          rw [pk_us, i4]
          congr 1
          exact sm_cong (fun i hi => by rw [pk_un (by omega)])
      have run : ∀ (U : SLaw) (v w : Int32), L_yes_J36 K c x6 (nI k) (nI k) (nI ((grp L).1 k)) = some U → U 3 = K 3 → U 0 = K 0 → U 4 k = nI ((grp L).1 k) → U 4 (12 + k) = (grp L).2 k → U 4 (24 + (grp L).1 k) = w → (w = 0 ∨ w = 1) → v = w ^^^ (grp L).2 k → up U 4 (upd (U 4) (24 + k) v) = up K 4 (upd (K 4) (24 + k) v) → L_yes_L17 (fu + 1) K c x6 (nI k) = L_yes_L17 fu (up K 4 (upd (K 4) (24 + k) v)) (c + v * se k) x6 (nI (k + 1)) := by
        intro U v w u1 u3 u0 uk u12 u24 hw hv hU
        have hJ : ∀ z, L_yes_J238 U c x6 (nI k) ((grp L).2 k) w z = v := by
          intro z
          unfold L_yes_J238
          rw [vx (hq.2.2.2 k) hw, hv]
        rw [L_yes_L17]
        simp (disch := omega) only [cl0, hRK.1, nI_ge, h6 (by omega), nI_clamp, gN, not_false_eq_true, ↓reduceIte, l1, u1, bs, uk, a24e, u24, a12e, u12, hJ, bnd_at, hU, u44, u40, u0, m3e, p1, pk_us, nI_1]
      by_cases ck : (grp L).1 k = k
      · obtain ⟨v, v1, v2, v3, v4⟩ := yes_low c x6 hA hRK i2 hk ck
        have hkt : (grp L).2 k = 0 := by have := hq.top k; rw [ck] at this; exact this
        obtain ⟨s', e0, e1⟩ := step v v2 (by
          unfold Vk
          show (_ → upd (K 4) (24 + k) v (24 + k) = _) ∧ (_ → upd (K 4) (24 + k) v (24 + k) = _)
          rw [pk_us, ck, hkt, Int32.xor_zero]
          exact ⟨v3, v4⟩)
        refine ⟨s', e1, ?_⟩
        rw [e0]
        refine run _ v v v1 rfl rfl ?_ ?_ ?_ v2 (by rw [hkt, Int32.xor_zero]) ?_
        · show upd (K 4) (24 + k) v k = _
          rw [pk_un (by omega), l1]
        · show upd (K 4) (24 + k) v (12 + k) = _
          rw [pk_un (by omega), l2]
        · show upd (K 4) (24 + k) v (24 + (grp L).1 k) = _
          rw [ck, pk_us]
        · show up (up K 4 (upd (K 4) (24 + k) v)) 4 (upd (upd (K 4) (24 + k) v) (24 + k) v) = _
          rw [up_up]
          congr 1
          funext j
          rw [upd_at, upd_at]
          split <;> rfl
      · have hlow := i3 ((grp L).1 k) (by omega)
        unfold Vk at hlow
        rw [hq.2.1 k, hq.top k, Int32.xor_zero] at hlow
        have hlow : (hp n pu (grp L) ((grp L).1 k) → K 4 (24 + (grp L).1 k) = g ((grp L).1 k)) ∧ (¬ hp n pu (grp L) ((grp L).1 k) → K 4 (24 + (grp L).1 k) = ld n se le (grp L) ((grp L).1 k)) := hlow
        have hw : K 4 (24 + (grp L).1 k) = 0 ∨ K 4 (24 + (grp L).1 k) = 1 := by
          rcases Classical.em (hp n pu (grp L) ((grp L).1 k)) with h | h
          · have e := hlow.1 h
            obtain ⟨m, m1, m2, m3⟩ := h
            have := (hp_g hA (k := (grp L).1 k) m1 m2 (by rw [m3, hq.2.1])).2
            rw [← e] at this
            exact this
          · have e := hlow.2 h
            have := ld_01 (n := n) (se := se) (q := grp L) (hA.2.2.2 ((grp L).1 k) (by omega)).2.1
            rw [← e] at this
            exact this
        obtain ⟨s', e0, e1⟩ := step (K 4 (24 + (grp L).1 k) ^^^ (grp L).2 k) (x01 hw (hq.2.2.2 k)) (by
          unfold Vk
          show (_ → upd (K 4) (24 + k) _ (24 + k) = _) ∧ (_ → upd (K 4) (24 + k) _ (24 + k) = _)
          rw [pk_us]
          refine ⟨fun h => ?_, fun h => by rw [← hlow.2 h]⟩
          rw [hlow.1 h, hq.2.2.1 k, xor_r])
        refine ⟨s', e1, ?_⟩
        rw [e0]
        refine run K _ _ ?_ rfl rfl l1 l2 rfl hw rfl rfl
        unfold L_yes_J36
        rw [if_neg (by rw [nI_eq (by omega) (by omega)]; exact ck)])
    (by
      rintro fu ⟨K, c⟩ ⟨i1, i2, i3, i4⟩
      have i1 : KG M K := i1
      have hRK := i1.r1 hR
      refine ⟨(K, c), ⟨i1, i2, i3, i4⟩, ?_⟩
      show L_yes_L17 (fu + 1) K c x6 (nI n) = _
      rw [L_yes_L17, cl0, hRK.1, if_pos (nI_le (Nat.le_refl _) (by omega))])
    (k := 0) (s := (M, 0)) (x := 0) (Nat.zero_le _) rfl ⟨KG.rf M, hL, fun i hi => absurd hi (Nat.not_lt_zero i), rfl⟩
  have h4 : r = sm (fun i => M' 4 (24 + i) * se i) n := h4
  have h5 : L_yes_L17 FUEL M 0 x6 0 = some (M', r) := h5
  refine ⟨M', ?_, h1, h2, h3⟩
  rw [h5, h4]
/-- strings L, all or all but one: what is left -/
def BT (L L' : List Str4) (w : Int32) : Prop := (∀ k, k < L.length → ¬ nI k = w → sg L k ∈ L') ∧ (∀ x ∈ L', ∃ k, k < L.length ∧ ¬ nI k = w ∧ sg L k = x) ∧ ∀ x ∈ L', x ∈ L
theorem groups_l {M : SLaw} {n : Nat} {se le pu : Nat → Int32} {L L' : List Str4} {g : Nat → Int32} {w : Int32} (hA : AW n se le pu L g) (hB : BT L L' w) (hR : RL1 M n se le pu) (hf : FS M L) : ∃ M', L_groups M w = some (M', cG n (grp L')) ∧ KG M M' ∧ LG M' (grp L') n := by
  have hA2 := hA.sub hB.2.2
  exact groups_law hA.1 hA.2.1 hA2.2.2.1 hA2.2.1 hB.1 hB.2.1 hR.1 hf
theorem yes_l {M : SLaw} {n : Nat} {se le pu : Nat → Int32} {L L' : List Str4} {g : Nat → Int32} {w : Int32} (hA : AW n se le pu L g) (hB : BT L L' w) (hR : RL1 M n se le pu) (hf : FS M L) : ∃ M', L_yes M w = some (M', sm (fun i => M' 4 (24 + i) * se i) n) ∧ KG M M' ∧ LG M' (grp L') n ∧ Vt n se le pu (grp L') g (fun i => M' 4 (24 + i)) := by
  have hn := hA.1
  have hA2 := hA.sub hB.2.2
  have hq := hA2.q
  obtain ⟨M1, a1, a2, a3⟩ := groups_l hA hB hR hf
  obtain ⟨m, m1, m2, m3, -⟩ := cG_nat (q := grp L') (n := n)
  obtain ⟨M', b1, b2, b3, b4⟩ := votes_law (cG n (grp L')) hA2 (a2.r1 hR) a3 (fun h0 => by
    have := m3 0 h0 (by have := hq.1 0; omega)
    rw [m2]
    exact nI_nle (by omega) (by omega))
  refine ⟨M', ?_, a2.tr b2, b3, b4⟩
  unfold L_yes
  rw [bind_some' a1, bind_some' b1]
theorem seats_l {M : SLaw} {n : Nat} {se le pu : Nat → Int32} (hn : n ≤ 12) (hR : RL1 M n se le pu) : L_seats M = some (sm se n) := by
  unfold L_seats
  rw [← it_sm]
  refine bind_some' (loop_it (f := fun fu t i => L_seats_L4 fu M t i) (n := n) _ (fun t => t) (by omega) ?_ ?_ _)
  · intro fu k t hk
    show L_seats_L4 (fu + 1) M t (nI k) = L_seats_L4 fu M (t + se k) (nI (k + 1))
    rw [L_seats_L4]
    simp (disch := omega) only [cl0, hR.1, nI_ge, m3e, nI_1, nI_clamp, gN, not_false_eq_true, ↓reduceIte, (hR.2 k hk).1]
  · intro fu t
    show L_seats_L4 (fu + 1) M t (nI n) = _
    rw [L_seats_L4, cl0, hR.1, if_pos (nI_le (Nat.le_refl _) (by omega))]
