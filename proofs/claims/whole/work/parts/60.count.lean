/-! count -/
theorem o_count : Op_count Rel := by
  intro K M a0 h
  obtain ⟨n, se, le, pu, L, g, hA, hP, hM, hE⟩ := id h.1
  obtain ⟨⟨sp, s1, s2, s3⟩, ⟨b, b1, b2, b3⟩, ⟨ss, e7, e8, e9, e10⟩, e11, e12, e13, e14⟩ := id hE
  obtain ⟨-, ⟨o, t, h1, h2, h3, h4, h5, h6⟩, ⟨len, c1, c2, c3, c4⟩, d⟩ := id h
  have hn := hA.1
  have hq := hA.q
  obtain ⟨M1, y1, y2, y3, y4⟩ := yesNow_spec hA hM
  have hM1 : RMB (M1.1 0) n se le pu L := by rw [y2.s]; exact hM
  have hs := y2.s
  have hR := h.m y2
  have hye : K.2.2.2.1.2.1 4 = sm (fun i => M1.1 6 i * se i) n := by rw [hP.2.2.2.2.2, yes_eq hP.2.2.2.1 y4]
  have hal : K.2.2.2.1.2.1 3 = sm se n := hP.2.2.2.2.1
  have e148 : M1.1 0 (Int32.toNatClampNeg 148) = nI n := hM1.1
  unfold X6_count X7_count
  rw [bind_some' y1, e148, hP.1.1]
  show ∃ u v, _ ∧ (if a0 = 0 then (if ¬ ((148 + a0) < 0 ∨ 156 ≤ Int32.toNatClampNeg (148 + a0)) then some (M1, M1.1 0 (Int32.toNatClampNeg (148 + a0))) else none) else _) = some v ∧ _
  by_cases z0 : a0 = 0
  · rw [if_pos z0, if_pos z0]
    subst z0
    exact ⟨_, (M1, nI n), rfl, show some (M1, M1.1 0 148) = some (M1, nI n) by rw [hM1.1], rfl, hR⟩
  rw [if_neg z0, if_neg z0]
  by_cases z1 : a0 = 1
  · rw [if_pos z1, if_pos z1]
    subst z1
    exact ⟨_, (M1, nI L.length), by rw [hP.2.1.1], show some (M1, M1.1 0 149) = some (M1, nI L.length) by rw [hM1.2.2.1], rfl, hR⟩
  rw [if_neg z1, if_neg z1]
  by_cases z2 : a0 = 2
  · rw [if_pos z2, if_pos z2]
    rw [bind_some' (groupsC_spec hn hP.1.1 hP.2.2.1 hq.1), bind_some' (groupsM_spec hn hM1.1 y3 hq.1)]
    exact ⟨_, _, rfl, rfl, rfl, hR⟩
  rw [if_neg z2, if_neg z2]
  by_cases z3 : a0 = 3
  · rw [if_pos z3, if_pos z3]
    rw [bind_some' (walkingC_spec hn hP.1.1 hP.2.1 hA.2.1), bind_some' (walked_spec hn hM1 hA.2.1)]
    exact ⟨_, _, rfl, rfl, rfl, hR⟩
  rw [if_neg z3, if_neg z3]
  by_cases z4 : a0 = 4
  · rw [if_pos z4, if_pos z4]
    rw [bind_some' (seats_spec hn hM1), hal]
    exact ⟨_, _, rfl, rfl, rfl, hR⟩
  rw [if_neg z4, if_neg z4]
  by_cases z5 : a0 = 5
  · rw [if_pos z5, if_pos z5]
    rw [hye]
    exact ⟨_, _, rfl, rfl, rfl, hR⟩
  rw [if_neg z5, if_neg z5]
  by_cases z6 : a0 = 6
  · rw [if_pos z6, if_pos z6]
    rw [bind_some' (seats_spec hn hM1), hal, hye]
    exact ⟨_, _, rfl, rfl, rfl, hR⟩
  rw [if_neg z6, if_neg z6]
  by_cases z7 : a0 = 7
  · rw [if_pos z7, if_pos z7]
    by_cases hn0 : n = 0
    · have en : nI n = 0 := by rw [hn0]; rfl
      rw [if_pos en, if_pos en]
      exact ⟨_, _, rfl, rfl, rfl, hR⟩
    · have en : ¬ nI n = 0 := nI_ne0 (by omega) (by omega)
      have hsp : sp < n := by omega
      obtain ⟨M2, p1, p2, p3, p4⟩ := isPassed_spec hA hM1 (by rw [hs]; exact s3) hsp
      have hw := wouldPass_spec hn hP s2 hsp
      have hv := hP.2.2.2.1
      rw [← hv.one p4 sp hsp, ← yes_eq hv p4] at p1
      have hp01 := wp01 (al := sm se n) (ye := sm (fun i => K.2.2.2.1.1 5 i * se i) n) (hv.b hA sp hsp)
      rw [if_neg en, if_neg en, bind_some' p1, hw]
      generalize wp (sm se n) (sm (fun i => K.2.2.2.1.1 5 i * se i) n) (K.2.2.2.1.1 5 sp) = p at hp01
      refine ⟨p, (M2, p), rfl, ?_, rfl, hR.m p2⟩
      show (if p = 0 then some (M2, 0) else some (M2, 1)) = _
      rcases hp01 with e | e
      · rw [e, if_pos rfl]
      · rw [e, if_neg (by decide)]
  rw [if_neg z7, if_neg z7]
  by_cases z8 : a0 = 8
  · rw [if_pos z8, if_pos z8]
    by_cases hn0 : n = 0
    · have en : nI n = 0 := by rw [hn0]; rfl
      rw [if_pos en, if_pos en]
      exact ⟨_, _, rfl, rfl, rfl, hR⟩
    · have en : ¬ nI n = 0 := nI_ne0 (by omega) (by omega)
      rw [if_neg en, if_neg en, s2]
      exact ⟨_, (M1, nI sp), rfl, show some (M1, M1.1 0 150) = some (M1, nI sp) by rw [hs, s3], rfl, hR⟩
  rw [if_neg z8, if_neg z8]
  by_cases z9 : a0 = 9
  · rw [if_pos z9, if_pos z9]
    rw [bind_some' (pulledPuppets_spec hn hP.1), bind_some' (pulledSet_spec hn hM1 (fun k hk => (hA.2.2.2 k hk).2.2.1))]
    exact ⟨_, _, rfl, rfl, rfl, hR⟩
  rw [if_neg z9, if_neg z9]
  by_cases z10 : a0 = 10
  · rw [if_pos z10, if_pos z10]
    subst z10
    exact ⟨_, (M1, nI ss), by rw [e8], show some (M1, M1.1 0 151) = some (M1, nI ss) by rw [hs, e9], rfl, hR⟩
  rw [if_neg z10, if_neg z10]
  by_cases z11 : a0 = 11
  · rw [if_pos z11, if_pos z11]
    subst z11
    exact ⟨_, (M1, M.1 0 152), by rw [e11], show some (M1, M1.1 0 152) = some (M1, M.1 0 152) by rw [hs], rfl, hR⟩
  rw [if_neg z11, if_neg z11]
  by_cases z12 : a0 = 12
  · rw [if_pos z12, if_pos z12]
    subst z12
    exact ⟨_, (M1, nI (min ss 8)), by rw [kept_spec e8 e7], show some (M1, M1.1 0 153) = some (M1, nI (min ss 8)) by rw [hs, e10], rfl, hR⟩
  rw [if_neg z12, if_neg z12]
  by_cases z13 : a0 = 13
  · rw [if_pos z13, if_pos z13]
    exact ⟨_, (M1, nI t), by rw [h4], show some (M1, M1.2 0) = some (M1, nI t) by rw [y2.2, h5], rfl, hR⟩
  rw [if_neg z13, if_neg z13]
  by_cases z14 : a0 = 14
  · rw [if_pos z14, if_pos z14]
    exact ⟨_, (M1, nI len), by rw [c2], show some (M1, M1.2 2) = some (M1, nI len) by rw [y2.2, c3], rfl, hR⟩
  rw [if_neg z14, if_neg z14]
  by_cases z15 : a0 = 15
  · rw [if_pos z15, if_pos z15]
    exact ⟨_, (M1, M.1 0 154), by rw [e13], show some (M1, M1.1 0 154) = some (M1, M.1 0 154) by rw [hs], rfl, hR⟩
  rw [if_neg z15, if_neg z15]
  by_cases z20 : a0 = 20
  · rw [if_pos z20, if_pos z20]
    exact ⟨_, (M1, nI b), by rw [b2], show some (M1, M1.1 0 155) = some (M1, nI b) by rw [hs, b3], rfl, hR⟩
  rw [if_neg z20, if_neg z20]
  exact ⟨_, _, rfl, rfl, rfl, hR⟩
