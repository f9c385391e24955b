/-! a row of numbers: what its methods answer, told without a doubt -/
def rget (n : Nat) (f : Nat → Int32) (i : Int32) : Int32 := if i < 0 then 0 else if nI n ≤ i then 0 else f (Int32.toNatClampNeg i)
def rput (n : Nat) (f : Nat → Int32) (i v : Int32) : Nat → Int32 := if i < 0 then f else if nI n ≤ i then f else upd f (Int32.toNatClampNeg i) v
theorem row_in {n : Nat} {i : Int32} (hn : n < 2147483648) (h1 : ¬ i < 0) (h2 : ¬ nI n ≤ i) : ¬ (i < 0 ∨ n ≤ Int32.toNatClampNeg i) := by
  rcases pk_ix i (n := n) hn with h | h | ⟨j, hj, rfl⟩
  · exact absurd h h1
  · exact absurd h h2
  · rintro (h | h)
    · exact h1 h
    · rw [nI_clamp (by omega)] at h
      omega
theorem X2_get_eq {nn : Nat} (hn : nn < 2147483648) (K : Nat → Int32) (i : Int32) : X2_get nn K i = some (rget nn K i) := by
  unfold X2_get rget
  by_cases h1 : i < 0
  · rw [if_pos h1, if_pos h1]
  · rw [if_neg h1, if_neg h1]
    by_cases h2 : nI nn ≤ i
    · rw [if_pos h2, if_pos h2]
    · rw [if_neg h2, if_neg h2, if_pos (row_in hn h1 h2)]
theorem X2_put_eq {nn : Nat} (hn : nn < 2147483648) (K : Nat → Int32) (i v : Int32) : X2_put nn K i v = some (rput nn K i v) := by
  unfold X2_put rput
  by_cases h1 : i < 0
  · rw [if_pos h1, if_pos h1]
  · rw [if_neg h1, if_neg h1]
    by_cases h2 : nI nn ≤ i
    · rw [if_pos h2, if_pos h2]
    · rw [if_neg h2, if_neg h2, if_pos (row_in hn h1 h2)]
      rfl
theorem k_rget (l : Launch) (D : va_G) (cI cP : ClassId) (r d nn : Nat) (hn : nn < 2147483648) (K : Nat → Int32) (i : Int32) : MRd l yX2_get cX2_get 2 (some .int) rm_X2_get D cI cP [.ref r, .int i] (wRow cI r d nn K) (rget nn K i) := c_X2_get l D cI cP r d nn K i _ (X2_get_eq hn K i)
theorem k_rput (l : Launch) (D : va_G) (cI cP : ClassId) (r d nn : Nat) (hn : nn < 2147483648) (K : Nat → Int32) (i v : Int32) : MWv l yX2_put cX2_put 3 none rm_X2_put D cI cP [.ref r, .int i, .int v] (wRow cI r d nn K) (wRow cI r d nn (rput nn K i v)) := c_X2_put l D cI cP r d nn K i v _ (X2_put_eq hn K i v)
abbrev rm_X2_copyFrom : Room := { frames := 1, cells := 0, slots := 0, locals := 40 }
set_option maxHeartbeats 4000000 in
set_option maxRecDepth 100000 in
theorem k_rcopy (l : Launch) (D : va_G) (cI cP : ClassId) (r d r2 d2 nn : Nat) (hn : nn < 2147483648) (f g : Nat → Int32) : MWv l yX2_copyFrom cX2_copyFrom 2 none rm_X2_copyFrom D cI cP [.ref r, .ref r2] (wRow cI r d nn f ++ wRow cI r2 d2 nn g) (wRow cI r d nn g ++ wRow cI r2 d2 nn g) := by
  refine MWv.of (by decide +kernel) (Nat.le_of_ble_eq_true rfl) ?_
  intro p e s m args below meth c ls A F hX hP hD hA hS hl
  have F : Fx p s m args meth c RX2 cX2_copyFrom 2 none := F
  have hx := F.1
  have hb := F.2.1
  have hown := F.2.2.2.1
  have hts := F.2.2.2.2.1
  have hl : lv_has ls 2 [(0, .ref r), (1, .ref r2)] := hl
  have e1 : (if nI nn < nI nn then nI nn else nI nn) = nI nn := by split <;> rfl
  have e2 : (nI nn).toNatClampNeg = nn := nI_clamp hn
  refine lv_aload_n hx hb dX2_copyFrom_0 rfl (lv_at hl 1 rfl) ?_
  refine gX2_13 F hX hP 2 rfl (v := .ref d2) rfl dX2_copyFrom_1 ?_
  refine lv_iconst (v := 0) hx hb dX2_copyFrom_4 (by decide) ?_
  refine lv_aload_n hx hb dX2_copyFrom_5 rfl (lv_at hl 0 rfl) ?_
  refine gX2_13 F hX hP 0 rfl (v := .ref d) rfl dX2_copyFrom_6 ?_
  refine lv_iconst (v := 0) hx hb dX2_copyFrom_9 (by decide) ?_
  refine lv_aload_n hx hb dX2_copyFrom_10 rfl (lv_at hl 0 rfl) ?_
  refine gX2_13 F hX hP 0 rfl (v := .ref d) rfl dX2_copyFrom_11 ?_
  refine va_alen hx hb hX.1 hP 1 0 rfl rfl (v := nI nn) rfl dX2_copyFrom_14 ?_
  refine lv_aload_n hx hb dX2_copyFrom_15 rfl (lv_at hl 1 rfl) ?_
  refine gX2_13 F hX hP 2 rfl (v := .ref d2) rfl dX2_copyFrom_16 ?_
  refine va_alen hx hb hX.1 hP 3 0 rfl rfl (v := nI nn) rfl dX2_copyFrom_19 ?_
  refine va_mmin hx hb (F.2.2.1.trans hl.1.symm) hown (hts _ q_377) (hts _ q_352) (hts _ q_51) (hts _ q_353) (Nat.le_of_ble_eq_true rfl) (Nat.le_of_ble_eq_true rfl) (Nat.zero_le _) (Nat.zero_le _) dX2_copyFrom_20 ?_
  rw [e1]
  refine va_copyi hx hb (F.2.2.1.trans hl.1.symm) hown (hts _ q_378) (hts _ q_380) (hts _ q_379) (hts _ q_56) hX.1 hP hD hS 3 1 0 0 (a0 := d2) (n0 := nn) (n1 := nn) (f := g) (g := f) (ty := .int) rfl rfl rfl rfl rfl (by decide) (by decide) (nI_pos hn) (by rw [e2]; exact Nat.le_of_eq (Nat.zero_add nn)) (by rw [e2]; exact Nat.le_of_eq (Nat.zero_add nn)) (fun _ _ => rfl) (Nat.le_of_ble_eq_true rfl) (Nat.le_of_ble_eq_true rfl) dX2_copyFrom_23 (fun H locs hP hD hS => ?_)
  rw [e2] at hP
  have hP2 : va_P D vwCl (wRow cI r d nn g ++ wRow cI r2 d2 nn g) H := by
    refine vP_iff.mpr fun q hq => ?_
    have hq : q ∈ [(r, .inr (2, [.ref d])), (d, .inl (cI, nn, .inl g)), (r2, .inr (2, [.ref d2])), (d2, .inl (cI, nn, .inl g))] := hq
    rcases List.mem_cons.mp hq with rfl | hq
    · exact hP 0 _ rfl
    rcases List.mem_cons.mp hq with rfl | hq
    · have h1 := hP 1 _ rfl
      show H[d]? = some (vp_cell cI (nn, .inl g))
      rw [vp_congr (f := g) (g := va_cpy g f 0 0 nn) (fun i hi => by
        show g i = if 0 ≤ i ∧ i < 0 + nn then g (0 + (i - 0)) else f i
        rw [if_pos ⟨Nat.zero_le _, by omega⟩]
        congr 1
        omega)]
      exact h1
    rcases List.mem_cons.mp hq with rfl | hq
    · exact hP 2 _ rfl
    rcases List.mem_cons.mp hq with rfl | hq
    · exact hP 3 _ rfl
    · cases hq
  exact wr_v F hP2 hS dX2_copyFrom_26
