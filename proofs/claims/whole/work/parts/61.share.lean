/-! the share -/
def shOk (a y : Nat) : Bool := decide ((FP.fdiv (FP.i2f (nI y)) (FP.i2f (nI a))) &&& 0x7fffffff ≤ 0x7f800000) && decide (X6_bitsOf (FP.fdiv (FP.i2f (nI y)) (FP.i2f (nI a))) = some (Jxf58ca_floatToIntBits_5c35a (FP.fdiv (FP.i2f (nI y)) (FP.i2f (nI a)))))
def shRow (a : Nat) : Bool := (List.range (a + 1)).all (fun y => shOk a y)
theorem sh_t0 : (List.range' 1 40).all shRow = true := by decide +kernel
theorem sh_t1 : (List.range' 41 18).all shRow = true := by decide +kernel
theorem sh_t2 : (List.range' 59 14).all shRow = true := by decide +kernel
theorem sh_t3 : (List.range' 73 12).all shRow = true := by decide +kernel
theorem sh_t4 : (List.range' 85 10).all shRow = true := by decide +kernel
theorem sh_t5 : (List.range' 95 8).all shRow = true := by decide +kernel
theorem sh_t6 : (List.range' 103 6).all shRow = true := by decide +kernel
theorem sh_all {a y : Nat} (h1 : 1 ≤ a) (h2 : a ≤ 108) (h3 : y ≤ a) : shOk a y = true := by
  have row : shRow a = true := by
    rcases (by omega : (1 ≤ a ∧ a < 1 + 40) ∨ (41 ≤ a ∧ a < 41 + 18) ∨ (59 ≤ a ∧ a < 59 + 14) ∨ (73 ≤ a ∧ a < 73 + 12) ∨ (85 ≤ a ∧ a < 85 + 10) ∨ (95 ≤ a ∧ a < 95 + 8) ∨ (103 ≤ a ∧ a < 103 + 6)) with z | z | z | z | z | z | z
    · exact List.all_eq_true.mp sh_t0 a (List.mem_range'_1.mpr z)
    · exact List.all_eq_true.mp sh_t1 a (List.mem_range'_1.mpr z)
    · exact List.all_eq_true.mp sh_t2 a (List.mem_range'_1.mpr z)
    · exact List.all_eq_true.mp sh_t3 a (List.mem_range'_1.mpr z)
    · exact List.all_eq_true.mp sh_t4 a (List.mem_range'_1.mpr z)
    · exact List.all_eq_true.mp sh_t5 a (List.mem_range'_1.mpr z)
    · exact List.all_eq_true.mp sh_t6 a (List.mem_range'_1.mpr z)
  exact List.all_eq_true.mp row y (List.mem_range.mpr (by omega))
theorem sm_pair {f g : Nat → Int32} : ∀ {n : Nat}, (∀ k, k < n → ∃ i j, i ≤ j ∧ 1 ≤ j ∧ j ≤ 9 ∧ f k = nI i ∧ g k = nI j) → ∃ y a, y ≤ a ∧ n ≤ a ∧ a ≤ 9 * n ∧ sm f n = nI y ∧ sm g n = nI a := by
  intro n
  induction n with
  | zero => intro _; exact ⟨0, 0, by omega, by omega, by omega, rfl, rfl⟩
  | succ n ih =>
    intro h
    obtain ⟨y, a, h1, h2, h3, h4, h5⟩ := ih (fun k hk => h k (by omega))
    obtain ⟨i, j, g1, g2, g3, g4, g5⟩ := h n (by omega)
    refine ⟨y + i, a + j, by omega, by omega, by omega, ?_, ?_⟩
    · show sm f n + f n = _
      rw [h4, g4, nI_add]
    · show sm g n + g n = _
      rw [h5, g5, nI_add]
theorem share_nat {n : Nat} {se le pu : Nat → Int32} {L : List Str4} {g v : Nat → Int32} (hA : AW n se le pu L g) (h : Vt n se le pu (grp L) g v) : ∃ y a, y ≤ a ∧ n ≤ a ∧ a ≤ 108 ∧ sm (fun i => v i * se i) n = nI y ∧ sm se n = nI a := by
  have hn := hA.1
  obtain ⟨y, a, h1, h2, h3, h4, h5⟩ := sm_pair (f := fun i => v i * se i) (g := se) (n := n) (fun k hk => by
    obtain ⟨m, m1, m2, m3⟩ := (hA.2.2.2 k hk).1
    rcases h.b hA k hk with e | e
    · exact ⟨0, m, by omega, m1, m2, by show v k * se k = _; rw [e, Int32.zero_mul]; rfl, m3⟩
    · exact ⟨m, m, by omega, m1, m2, by show v k * se k = _; rw [e, Int32.one_mul, m3], m3⟩)
  exact ⟨y, a, h1, h2, by omega, h4, h5⟩
theorem o_share : Op_share Rel := by
  intro K M h
  obtain ⟨n, se, le, pu, L, g, hA, hP, hM, hE⟩ := id h.1
  have hn := hA.1
  obtain ⟨M1, y1, y2, y3, y4⟩ := yesNow_spec hA hM
  have hM1 : RMB (M1.1 0) n se le pu L := by rw [y2.s]; exact hM
  obtain ⟨y, a, h1, h2, h3, h4, h5⟩ := share_nat hA y4
  have hye : K.2.2.2.1.2.1 4 = nI y := by rw [hP.2.2.2.2.2, yes_eq hP.2.2.2.1 y4, h4]
  have hal : K.2.2.2.1.2.1 3 = nI a := by rw [hP.2.2.2.2.1, h5]
  have e148 : M1.1 0 (Int32.toNatClampNeg 148) = nI n := hM1.1
  unfold X6_share X7_share
  rw [bind_some' y1, bind_some' (seats_spec hn hM1), e148, hye, hal, h5]
  show ∃ u v, _ ∧ (if nI n = 0 then some (M1, -1000004) else if (FP.fdiv (FP.i2f (sm (fun i => M1.1 6 i * se i) n)) (FP.i2f (nI a))) &&& 0x7fffffff ≤ 0x7f800000 then some (M1, Jxf58ca_floatToIntBits_5c35a (FP.fdiv (FP.i2f (sm (fun i => M1.1 6 i * se i) n)) (FP.i2f (nI a)))) else none) = some v ∧ _
  rw [h4]
  by_cases hn0 : n = 0
  · have ha0 : sm se n = 0 := by rw [hn0]; rfl
    rw [ha0] at h5
    rw [← h5, if_neg (by decide), if_pos (show nI n = 0 by rw [hn0]; rfl)]
    exact ⟨_, _, rfl, rfl, rfl, h.m y2⟩
  · have hok := sh_all (a := a) (y := y) (by omega) h3 h1
    unfold shOk at hok
    rw [Bool.and_eq_true, decide_eq_true_eq, decide_eq_true_eq] at hok
    rw [if_pos (show (0 : Int32) < nI a from nI_lt (a := 0) (by omega) (by omega)), if_pos hok.1, bind_some' hok.2, if_neg (nI_ne0 (by omega) (by omega)), if_pos hok.1]
    exact ⟨_, _, rfl, rfl, rfl, h.m y2⟩
