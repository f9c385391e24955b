def Jxf58ca_isNaN_12338 (x0 : UInt32) : Int32 := (if (Op.cmpValue (FP.fcmp x0 x0) .l) = 0 then 0 else 1)
abbrev rm_Jxf58ca_isNaN_12338 : Room := { frames := 0, cells := 0, slots := 0, locals := 0 }
set_option maxHeartbeats 4000000 in
set_option maxRecDepth 100000 in
theorem c_Jxf58ca_isNaN_12338 (l : Launch) (D : va_G) (cI cP : ClassId) (x0 : UInt32) (z : Int32) (hf : Jxf58ca_isNaN_12338 x0 = z) : MRd l yJxf58ca_isNaN_12338 cJxf58ca_isNaN_12338 1 (some .boolean) rm_Jxf58ca_isNaN_12338 D cI cP [.float x0] [] z := by
  refine MRd.ofF (by decide +kernel) (Nat.le_of_ble_eq_true rfl) ?_
  intro p e s m args below meth c ls F hX hP hS hl
  have F : Fx p s m args meth c RJxf58ca cJxf58ca_isNaN_12338 1 (some .boolean) := F
  have hx := F.1
  have hb := F.2.1
  have hown := F.2.2.2.1
  have hts := F.2.2.2.2.1
  have hA : ∀ q : Nat, s.heap.size ≤ q → (fun q : Nat => s.heap.size ≤ q) q := fun _ h => h
  have hl : lv_has ls 1 [(0, .float x0)] := hl
  unfold Jxf58ca_isNaN_12338 at hf
  refine lv_fload_n hx hb dJxf58ca_isNaN_12338_0 rfl (lv_at hl 0 rfl) ?_
  refine lv_fload_n hx hb dJxf58ca_isNaN_12338_1 rfl (lv_at hl 0 rfl) ?_
  refine lv_fcmp hx hb dJxf58ca_isNaN_12338_2 ?_
  refine lv_if_eq (tgt := 10) hx hb dJxf58ca_isNaN_12338_3 (by decide) (fun c_1 => ?_) (fun c_1 => ?_)
  · replace hf := (if_pos c_1).symm.trans hf
    refine lv_iconst (v := 0) hx hb dJxf58ca_isNaN_12338_10 (by decide) ?_
    exact rd_z F (by decide) hf hS dJxf58ca_isNaN_12338_11
  · replace hf := (if_neg c_1).symm.trans hf
    refine lv_iconst (v := 1) hx hb dJxf58ca_isNaN_12338_6 (by decide) ?_
    refine lv_goto (tgt := 11) hx hb dJxf58ca_isNaN_12338_7 (by decide) ?_
    exact rd_z F (by decide) hf hS dJxf58ca_isNaN_12338_11
def Jxf58ca_floatToIntBits_5c35a (x0 : UInt32) : Int32 := (if (Jxf58ca_isNaN_12338 x0) = 0 then (x0).toInt32 else 2143289344)
abbrev rm_Jxf58ca_floatToIntBits_5c35a : Room := { frames := 1, cells := 0, slots := 0, locals := 20 }
set_option maxHeartbeats 4000000 in
set_option maxRecDepth 100000 in
theorem c_Jxf58ca_floatToIntBits_5c35a (l : Launch) (D : va_G) (cI cP : ClassId) (x0 : UInt32) (z : Int32) (hf : Jxf58ca_floatToIntBits_5c35a x0 = z) : MRd l yJxf58ca_floatToIntBits_5c35a cJxf58ca_floatToIntBits_5c35a 1 (some .int) rm_Jxf58ca_floatToIntBits_5c35a D cI cP [.float x0] [] z := by
  refine MRd.ofF (by decide +kernel) (Nat.le_of_ble_eq_true rfl) ?_
  intro p e s m args below meth c ls F hX hP hS hl
  have F : Fx p s m args meth c RJxf58ca cJxf58ca_floatToIntBits_5c35a 1 (some .int) := F
  have hx := F.1
  have hb := F.2.1
  have hown := F.2.2.2.1
  have hts := F.2.2.2.2.1
  have hA : ∀ q : Nat, s.heap.size ≤ q → (fun q : Nat => s.heap.size ≤ q) q := fun _ h => h
  have hl : lv_has ls 1 [(0, .float x0)] := hl
  unfold Jxf58ca_floatToIntBits_5c35a at hf
  refine lv_fload_n hx hb dJxf58ca_floatToIntBits_5c35a_0 rfl (lv_at hl 0 rfl) ?_
  refine k_rd (runS F wdJxf58ca_59 (rm := rm_Jxf58ca_isNaN_12338) (As := [.float x0]) (rest := []) ⟨rfl, rfl⟩ ⟨Nat.le_of_ble_eq_true rfl, Nat.le_of_ble_eq_true rfl⟩ hl.1 rfl rfl (Nat.le_of_ble_eq_true rfl) dJxf58ca_floatToIntBits_5c35a_1 ⟨Nat.zero_le _, Nat.zero_le _⟩) (c_Jxf58ca_isNaN_12338 l D cI cP x0 _ rfl) hX trivial vP_nil hP hS hA (fun H locs hP hS => ?_)
  refine lv_if_ne (tgt := 12) hx hb dJxf58ca_floatToIntBits_5c35a_4 (by decide) (fun c_1 => ?_) (fun c_1 => ?_)
  · replace hf := (if_neg c_1).symm.trans hf
    refine lv_ldc (v := 2143289344) hx hb hown (hts _ q_1015) dJxf58ca_floatToIntBits_5c35a_12 ?_
    exact rd_i F hf hS dJxf58ca_floatToIntBits_5c35a_14
  · replace hf := (if_pos c_1).symm.trans hf
    refine lv_fload_n hx hb dJxf58ca_floatToIntBits_5c35a_7 rfl (lv_at hl 0 rfl) ?_
    refine vn_f2i hx hb (F.2.2.1.trans hl.1.symm) hown (hts _ q_1012) (hts _ q_1014) (hts _ q_1013) (hts _ q_111) (Nat.le_of_ble_eq_true rfl) (Nat.le_of_ble_eq_true rfl) dJxf58ca_floatToIntBits_5c35a_8 ?_
    exact rd_i F hf hS dJxf58ca_floatToIntBits_5c35a_11
def X7_share (K : SMod) : Option (SMod × Int32) := ((X7_yesNow K).bind fun u_1 => ((X7_seats u_1.1).bind fun u_3 => (if ((u_1.1.1 0) (Int32.toNatClampNeg 148)) = 0 then some (u_1.1, (-1000004)) else (if (FP.fdiv (FP.i2f u_1.2) (FP.i2f u_3)) &&& 0x7fffffff ≤ 0x7f800000 then some (u_1.1, (Jxf58ca_floatToIntBits_5c35a (FP.fdiv (FP.i2f u_1.2) (FP.i2f u_3)))) else none))))
abbrev rm_X7_share : Room := { frames := 4, cells := 0, slots := 0, locals := 90 }
set_option maxHeartbeats 4000000 in
set_option maxRecDepth 100000 in
theorem c_X7_share (l : Launch) (D : va_G) (cI cP : ClassId) (a : Nat → Nat) (K : SMod) (z : SMod × Int32) (hf : X7_share K  = some z) : MWi l yX7_share cX7_share 3 (some .int) rm_X7_share D cI cP [.ref (a 0)] (wMod cI a K) (wMod cI a z.1) z.2 := by
  refine MWi.of (by decide +kernel) (Nat.le_of_ble_eq_true rfl) ?_
  intro p e s m args below meth c ls A F hX hP hD hA hS hl
  have F : Fx p s m args meth c RX7 cX7_share 3 (some .int) := F
  have hx := F.1
  have hb := F.2.1
  have hown := F.2.2.2.1
  have hts := F.2.2.2.2.1
  have hl : lv_has ls 3 [(0, .ref (a 0))] := hl
  unfold X7_share at hf
  refine lv_aload_n hx hb dX7_share_0 rfl (lv_at hl 0 rfl) ?_
  obtain ⟨u_1, h_2, hf⟩ := ob hf
  refine k_wi (runV F wdX7_79 (rm := rm_X7_yesNow) (As := []) (rest := []) ⟨rfl, rfl⟩ ⟨Nat.le_of_ble_eq_true rfl, Nat.le_of_ble_eq_true rfl⟩ hl.1 rfl rfl (Nat.le_of_ble_eq_true rfl) dX7_share_1 ⟨Nat.zero_le _, Nat.zero_le _⟩) (c_X7_yesNow l D cI cP a K  _ h_2) hX (va_recv hX.1 hP (ci := 7) (q0 := 0) rfl rfl) (Cut.all rfl) hP hD hS hA (fun H locs hP hD hS => ?_)
  have hP : va_P D vwCl (wMod cI a u_1.1) H := hP
  have hD : va_D A (wMod cI a u_1.1) := hD
  refine lv_i2f hx hb dX7_share_4 ?_
  refine lv_fstore_n (lv' := [(1, .float (FP.i2f u_1.2)), (0, .ref (a 0))]) hx hb dX7_share_5 rfl hl (by decide) rfl (fun ls hl => ?_)
  refine lv_aload_n hx hb dX7_share_6 rfl (lv_at hl 1 rfl) ?_
  obtain ⟨u_3, h_4, hf⟩ := ob hf
  refine k_rd (runV F wdX7_82 (rm := rm_X7_seats) (As := []) (rest := []) ⟨rfl, rfl⟩ ⟨Nat.le_of_ble_eq_true rfl, Nat.le_of_ble_eq_true rfl⟩ hl.1 rfl rfl (Nat.le_of_ble_eq_true rfl) dX7_share_7 ⟨Nat.zero_le _, Nat.zero_le _⟩) (c_X7_seats l D cI cP a u_1.1  _ h_4) hX (va_recv hX.1 hP (ci := 7) (q0 := 0) rfl rfl) hP hP hS hA (fun H locs hP hS => ?_)
  refine lv_i2f hx hb dX7_share_10 ?_
  refine lv_fstore_n (lv' := [(2, .float (FP.i2f u_3)), (1, .float (FP.i2f u_1.2)), (0, .ref (a 0))]) hx hb dX7_share_11 rfl hl (by decide) rfl (fun ls hl => ?_)
  refine lv_aload_n hx hb dX7_share_12 rfl (lv_at hl 2 rfl) ?_
  refine gX7_7 F hX hP 0 rfl (v := .ref (a 1)) rfl dX7_share_13 ?_
  refine lv_sipush (v := 148) hx hb dX7_share_16 (by decide) ?_
  refine va_iald hx hb hX.1 hP 1 0 (n := 156) (f := (u_1.1.1 0)) rfl rfl (by decide : ¬ ((148 : Int32) < 0 ∨ 156 ≤ Int32.toNatClampNeg 148)) dX7_share_19 ?_
  refine lv_if_ne (tgt := 28) hx hb dX7_share_20 (by decide) (fun c_5 => ?_) (fun c_5 => ?_)
  · replace hf := (if_neg c_5).symm.trans hf
    refine lv_fload_n hx hb dX7_share_28 rfl (lv_at hl 1 rfl) ?_
    refine lv_fload_n hx hb dX7_share_29 rfl (lv_at hl 0 rfl) ?_
    have g_6 := og hf
    replace hf := (if_pos g_6).symm.trans hf
    refine lv_fdiv hx hb dX7_share_30 g_6 ?_
    refine k_rd (runS F wdX7_148 (rm := rm_Jxf58ca_floatToIntBits_5c35a) (As := [.float (FP.fdiv (FP.i2f u_1.2) (FP.i2f u_3))]) (rest := []) ⟨rfl, rfl⟩ ⟨Nat.le_of_ble_eq_true rfl, Nat.le_of_ble_eq_true rfl⟩ hl.1 rfl rfl (Nat.le_of_ble_eq_true rfl) dX7_share_31 ⟨Nat.zero_le _, Nat.zero_le _⟩) (c_Jxf58ca_floatToIntBits_5c35a l D cI cP (FP.fdiv (FP.i2f u_1.2) (FP.i2f u_3)) _ rfl) hX trivial vP_nil hP hS hA (fun H locs hP hS => ?_)
    obtain rfl := (Option.some.inj hf)
    exact wr_i F rfl hP hS dX7_share_34
  · replace hf := (if_pos c_5).symm.trans hf
    refine lv_ldc (v := (-1000004)) hx hb hown (hts _ q_838) dX7_share_23 ?_
    refine lv_goto (tgt := 34) hx hb dX7_share_25 (by decide) ?_
    obtain rfl := (Option.some.inj hf)
    exact wr_i F rfl hP hS dX7_share_34
def X7_pulledSet_L4 : Nat → SMod → Int32 → Int32 → Option (Int32)
  | 0, _, _, _ => none
  | fu + 1, K_4, x1_4, x2_4 => (if ((K_4.1 0) (Int32.toNatClampNeg 148)) ≤ x2_4 then some x1_4 else ((X7_of K_4 x2_4 2).bind fun u_2 => (if u_2 ≤ 0 then X7_pulledSet_L4 fu K_4 (x1_4 ||| 0) (x2_4 + 1) else X7_pulledSet_L4 fu K_4 (x1_4 ||| (1 <<< (x2_4 &&& 31))) (x2_4 + 1))))
def X7_pulledSet (K : SMod) : Option (Int32) := ((X7_pulledSet_L4 FUEL K 0 0).bind fun u_5 => some u_5)
abbrev rm_X7_pulledSet : Room := { frames := 1, cells := 0, slots := 0, locals := 22 }
set_option maxHeartbeats 4000000 in
set_option maxRecDepth 100000 in
theorem c_X7_pulledSet (l : Launch) (D : va_G) (cI cP : ClassId) (a : Nat → Nat) (K : SMod) (z : Int32) (hf : X7_pulledSet K  = some z) : MRd l yX7_pulledSet cX7_pulledSet 3 (some .int) rm_X7_pulledSet D cI cP [.ref (a 0)] (wMod cI a K) z := by
  refine MRd.of (by decide +kernel) (Nat.le_of_ble_eq_true rfl) ?_
  intro p e s m args below meth c ls F hX hP hS hl
  have F : Fx p s m args meth c RX7 cX7_pulledSet 3 (some .int) := F
  have hx := F.1
  have hb := F.2.1
  have hown := F.2.2.2.1
  have hts := F.2.2.2.2.1
  have hA : ∀ q : Nat, s.heap.size ≤ q → (fun q : Nat => s.heap.size ≤ q) q := fun _ h => h
  have hl : lv_has ls 3 [(0, .ref (a 0))] := hl
  unfold X7_pulledSet at hf
  refine lv_iconst (v := 0) hx hb dX7_pulledSet_0 (by decide) ?_
  refine lv_istore_n (lv' := [(1, .int 0), (0, .ref (a 0))]) hx hb dX7_pulledSet_1 rfl hl (by decide) rfl (fun ls hl => ?_)
  refine lv_iconst (v := 0) hx hb dX7_pulledSet_2 (by decide) ?_
  refine lv_istore_n (lv' := [(2, .int 0), (1, .int 0), (0, .ref (a 0))]) hx hb dX7_pulledSet_3 rfl hl (by decide) rfl (fun ls hl => ?_)
  have hL_4 : ∀ (fu : Nat) (K_4 : SMod) (x1_4 : Int32) (x2_4 : Int32) (v : Int32) (H : Heap) (locs : List Loc) (ls : Array Slot), X7_pulledSet_L4 fu K_4 x1_4 x2_4 = some v → va_P D vwCl (wMod cI a K_4) H → va_S (fun q : Nat => s.heap.size ≤ q) s.heap H locs → lv_has ls 3 [(0, .ref (a 0)), (1, .int x1_4), (2, .int x2_4)] → (∀ (H : Heap) (locs : List Loc) (ls : Array Slot), va_P D vwCl (wMod cI a K_4) H → va_S (fun q : Nat => s.heap.size ≤ q) s.heap H locs → lv_has ls 3 [(1, .int v)] → W p l e rm_X7_pulledSet s m args below meth c H locs 0 0 (QR below args s z) (F0 m 41 ls [])) → W p l e rm_X7_pulledSet s m args below meth c H locs 0 0 (QR below args s z) (F0 m 4 ls []) := by
    intro fu
    induction fu with
    | zero =>
      intro K_4 x1_4 x2_4 v H locs ls hf
      exact absurd hf (by simp [X7_pulledSet_L4])
    | succ fu ih =>
      intro K_4 x1_4 x2_4 v _ _ ls hf hP hS hl hk
      rw [X7_pulledSet_L4] at hf
      refine lv_iload_n hx hb dX7_pulledSet_4 rfl (lv_at hl 2 rfl) ?_
      refine lv_aload_n hx hb dX7_pulledSet_5 rfl (lv_at hl 0 rfl) ?_
      refine gX7_7 F hX hP 0 rfl (v := .ref (a 1)) rfl dX7_pulledSet_6 ?_
      refine lv_sipush (v := 148) hx hb dX7_pulledSet_9 (by decide) ?_
      refine va_iald hx hb hX.1 hP 1 0 (n := 156) (f := (K_4.1 0)) rfl rfl (by decide : ¬ ((148 : Int32) < 0 ∨ 156 ≤ Int32.toNatClampNeg 148)) dX7_pulledSet_12 ?_
      refine lv_icmp_ge (tgt := 41) hx hb dX7_pulledSet_13 (by decide) (fun c_1 => ?_) (fun c_1 => ?_)
      · replace hf := (if_pos c_1).symm.trans hf
        obtain rfl := Option.some.inj hf
        exact hk _ _ ls hP hS (lv_sub hl [1] rfl)
      · replace hf := (if_neg c_1).symm.trans hf
        refine lv_iload_n hx hb dX7_pulledSet_16 rfl (lv_at hl 1 rfl) ?_
        refine lv_aload_n hx hb dX7_pulledSet_17 rfl (lv_at hl 0 rfl) ?_
        refine lv_iload_n hx hb dX7_pulledSet_18 rfl (lv_at hl 2 rfl) ?_
        refine lv_iconst (v := 2) hx hb dX7_pulledSet_19 (by decide) ?_
        obtain ⟨u_2, h_3, hf⟩ := ob hf
        refine k_rd (runV F wdX7_61 (rm := rm_X7_of) (As := [.int x2_4, .int 2]) (rest := [.int x1_4]) ⟨rfl, rfl⟩ ⟨Nat.le_of_ble_eq_true rfl, Nat.le_of_ble_eq_true rfl⟩ hl.1 rfl rfl (Nat.le_of_ble_eq_true rfl) dX7_pulledSet_20 ⟨Nat.zero_le _, Nat.zero_le _⟩) (c_X7_of l D cI cP a K_4 x2_4 2 _ h_3) hX (va_recv hX.1 hP (ci := 7) (q0 := 0) rfl rfl) hP hP hS hA (fun H locs hP hS => ?_)
        refine lv_if_le (tgt := 32) hx hb dX7_pulledSet_23 (by decide) (fun c_4 => ?_) (fun c_4 => ?_)
        · replace hf := (if_pos c_4).symm.trans hf
          refine lv_iconst (v := 0) hx hb dX7_pulledSet_32 (by decide) ?_
          refine lv_ior hx hb dX7_pulledSet_33 ?_
          refine lv_istore_n (lv' := [(1, .int (x1_4 ||| 0)), (0, .ref (a 0)), (2, .int x2_4)]) hx hb dX7_pulledSet_34 rfl hl (by decide) rfl (fun ls hl => ?_)
          refine lv_iinc (v := (x2_4 + 1)) (lv' := [(2, .int (x2_4 + 1)), (1, .int (x1_4 ||| 0)), (0, .ref (a 0))]) hx hb dX7_pulledSet_35 hl (k := 2) rfl (by rfl) (by decide) rfl (fun ls hl => ?_)
          refine lv_goto (tgt := 4) hx hb dX7_pulledSet_38 (by decide) ?_
          exact ih K_4 (x1_4 ||| 0) (x2_4 + 1) _ _ _ ls hf hP hS (lv_sub hl [2, 1, 0] rfl) hk
        · replace hf := (if_neg c_4).symm.trans hf
          refine lv_iconst (v := 1) hx hb dX7_pulledSet_26 (by decide) ?_
          refine lv_iload_n hx hb dX7_pulledSet_27 rfl (lv_at hl 2 rfl) ?_
          refine lv_ishl hx hb dX7_pulledSet_28 ?_
          refine lv_goto (tgt := 33) hx hb dX7_pulledSet_29 (by decide) ?_
          refine lv_ior hx hb dX7_pulledSet_33 ?_
          refine lv_istore_n (lv' := [(1, .int (x1_4 ||| (1 <<< (x2_4 &&& 31)))), (0, .ref (a 0)), (2, .int x2_4)]) hx hb dX7_pulledSet_34 rfl hl (by decide) rfl (fun ls hl => ?_)
          refine lv_iinc (v := (x2_4 + 1)) (lv' := [(2, .int (x2_4 + 1)), (1, .int (x1_4 ||| (1 <<< (x2_4 &&& 31)))), (0, .ref (a 0))]) hx hb dX7_pulledSet_35 hl (k := 2) rfl (by rfl) (by decide) rfl (fun ls hl => ?_)
          refine lv_goto (tgt := 4) hx hb dX7_pulledSet_38 (by decide) ?_
          exact ih K_4 (x1_4 ||| (1 <<< (x2_4 &&& 31))) (x2_4 + 1) _ _ _ ls hf hP hS (lv_sub hl [2, 1, 0] rfl) hk
  obtain ⟨u_5, h_6, hf⟩ := ob hf
  refine hL_4 FUEL K 0 0 u_5 _ _ ls h_6 hP hS (lv_sub hl [2, 1, 0] rfl) (fun H locs ls hP hS hl => ?_)
  clear hL_4
  refine lv_iload_n hx hb dX7_pulledSet_41 rfl (lv_at hl 0 rfl) ?_
  exact rd_i F (Option.some.inj hf) hS dX7_pulledSet_42
def X7_walked_L39 : Nat → SMod → Int32 → Int32 → Int32 → Int32 → Int32 → Option (Int32)
  | 0, _, _, _, _, _, _ => none
  | fu + 1, K_39, x1_39, x2_39, x3_39, x4_39, x5_39 => (if x5_39 = x4_39 then some x4_39 else ((X7_reached K_39 x5_39).bind fun u_6 => X7_walked_L39 fu K_39 x1_39 x2_39 x3_39 x5_39 u_6))
def X7_walked_L6 : Nat → SMod → Int32 → Int32 → Int32 → Option (Int32)
  | 0, _, _, _, _ => none
  | fu + 1, K_6, x1_6, x2_6, x3_6 => (if ((K_6.1 0) (Int32.toNatClampNeg 148)) ≤ x3_6 then some x2_6 else (if ((x1_6 >>> (x3_6 &&& 31)) &&& 1) = 0 then ((X7_reached K_6 (1 <<< (x3_6 &&& 31))).bind fun u_3 => ((X7_walked_L39 FUEL K_6 x1_6 x2_6 x3_6 (1 <<< (x3_6 &&& 31)) u_3).bind fun u_8 => X7_walked_L6 fu K_6 (x1_6 ||| u_8) (x2_6 + 1) (x3_6 + 1))) else X7_walked_L6 fu K_6 x1_6 x2_6 (x3_6 + 1)))
def X7_walked (K : SMod) : Option (Int32) := ((X7_walked_L6 FUEL K 0 0 0).bind fun u_10 => some u_10)
abbrev rm_X7_walked : Room := { frames := 2, cells := 0, slots := 0, locals := 46 }
set_option maxHeartbeats 4000000 in
set_option maxRecDepth 100000 in
theorem c_X7_walked (l : Launch) (D : va_G) (cI cP : ClassId) (a : Nat → Nat) (K : SMod) (z : Int32) (hf : X7_walked K  = some z) : MRd l yX7_walked cX7_walked 6 (some .int) rm_X7_walked D cI cP [.ref (a 0)] (wMod cI a K) z := by
  refine MRd.of (by decide +kernel) (Nat.le_of_ble_eq_true rfl) ?_
  intro p e s m args below meth c ls F hX hP hS hl
  have F : Fx p s m args meth c RX7 cX7_walked 6 (some .int) := F
  have hx := F.1
  have hb := F.2.1
  have hown := F.2.2.2.1
  have hts := F.2.2.2.2.1
  have hA : ∀ q : Nat, s.heap.size ≤ q → (fun q : Nat => s.heap.size ≤ q) q := fun _ h => h
  have hl : lv_has ls 6 [(0, .ref (a 0))] := hl
  unfold X7_walked at hf
  refine lv_iconst (v := 0) hx hb dX7_walked_0 (by decide) ?_
  refine lv_istore_n (lv' := [(1, .int 0), (0, .ref (a 0))]) hx hb dX7_walked_1 rfl hl (by decide) rfl (fun ls hl => ?_)
  refine lv_iconst (v := 0) hx hb dX7_walked_2 (by decide) ?_
  refine lv_istore_n (lv' := [(2, .int 0), (1, .int 0), (0, .ref (a 0))]) hx hb dX7_walked_3 rfl hl (by decide) rfl (fun ls hl => ?_)
  refine lv_iconst (v := 0) hx hb dX7_walked_4 (by decide) ?_
  refine lv_istore_n (lv' := [(3, .int 0), (2, .int 0), (1, .int 0), (0, .ref (a 0))]) hx hb dX7_walked_5 rfl hl (by decide) rfl (fun ls hl => ?_)
  have hL_6 : ∀ (fu : Nat) (K_6 : SMod) (x1_6 : Int32) (x2_6 : Int32) (x3_6 : Int32) (v : Int32) (H : Heap) (locs : List Loc) (ls : Array Slot), X7_walked_L6 fu K_6 x1_6 x2_6 x3_6 = some v → va_P D vwCl (wMod cI a K_6) H → va_S (fun q : Nat => s.heap.size ≤ q) s.heap H locs → lv_has ls 6 [(0, .ref (a 0)), (1, .int x1_6), (2, .int x2_6), (3, .int x3_6)] → (∀ (H : Heap) (locs : List Loc) (ls : Array Slot), va_P D vwCl (wMod cI a K_6) H → va_S (fun q : Nat => s.heap.size ≤ q) s.heap H locs → lv_has ls 6 [(2, .int v)] → W p l e rm_X7_walked s m args below meth c H locs 0 0 (QR below args s z) (F0 m 75 ls [])) → W p l e rm_X7_walked s m args below meth c H locs 0 0 (QR below args s z) (F0 m 6 ls []) := by
    intro fu
    induction fu with
    | zero =>
      intro K_6 x1_6 x2_6 x3_6 v H locs ls hf
      exact absurd hf (by simp [X7_walked_L6])
    | succ fu ih =>
      intro K_6 x1_6 x2_6 x3_6 v _ _ ls hf hP hS hl hk
      rw [X7_walked_L6] at hf
      refine lv_iload_n hx hb dX7_walked_6 rfl (lv_at hl 3 rfl) ?_
      refine lv_aload_n hx hb dX7_walked_7 rfl (lv_at hl 0 rfl) ?_
      refine gX7_7 F hX hP 0 rfl (v := .ref (a 1)) rfl dX7_walked_8 ?_
      refine lv_sipush (v := 148) hx hb dX7_walked_11 (by decide) ?_
      refine va_iald hx hb hX.1 hP 1 0 (n := 156) (f := (K_6.1 0)) rfl rfl (by decide : ¬ ((148 : Int32) < 0 ∨ 156 ≤ Int32.toNatClampNeg 148)) dX7_walked_14 ?_
      refine lv_icmp_ge (tgt := 75) hx hb dX7_walked_15 (by decide) (fun c_1 => ?_) (fun c_1 => ?_)
      · replace hf := (if_pos c_1).symm.trans hf
        obtain rfl := Option.some.inj hf
        exact hk _ _ ls hP hS (lv_sub hl [2] rfl)
      · replace hf := (if_neg c_1).symm.trans hf
        refine lv_iload_n hx hb dX7_walked_18 rfl (lv_at hl 1 rfl) ?_
        refine lv_iload_n hx hb dX7_walked_19 rfl (lv_at hl 3 rfl) ?_
        refine lv_ishr hx hb dX7_walked_20 ?_
        refine lv_iconst (v := 1) hx hb dX7_walked_21 (by decide) ?_
        refine lv_iand hx hb dX7_walked_22 ?_
        refine lv_if_ne (tgt := 69) hx hb dX7_walked_23 (by decide) (fun c_2 => ?_) (fun c_2 => ?_)
        · replace hf := (if_neg c_2).symm.trans hf
          refine lv_iinc (v := (x3_6 + 1)) (lv' := [(3, .int (x3_6 + 1)), (0, .ref (a 0)), (1, .int x1_6), (2, .int x2_6)]) hx hb dX7_walked_69 hl (k := 3) rfl (by rfl) (by decide) rfl (fun ls hl => ?_)
          refine lv_goto (tgt := 6) hx hb dX7_walked_72 (by decide) ?_
          exact ih K_6 x1_6 x2_6 (x3_6 + 1) _ _ _ ls hf hP hS (lv_sub hl [1, 2, 3, 0] rfl) hk
        · replace hf := (if_pos c_2).symm.trans hf
          refine lv_iconst (v := 1) hx hb dX7_walked_26 (by decide) ?_
          refine lv_iload_n hx hb dX7_walked_27 rfl (lv_at hl 3 rfl) ?_
          refine lv_ishl hx hb dX7_walked_28 ?_
          refine lv_istore (lv' := [(4, .int (1 <<< (x3_6 &&& 31))), (0, .ref (a 0)), (1, .int x1_6), (2, .int x2_6), (3, .int x3_6)]) hx hb dX7_walked_29 hl (by decide) rfl (fun ls hl => ?_)
          refine lv_aload_n hx hb dX7_walked_31 rfl (lv_at hl 1 rfl) ?_
          refine lv_iload hx hb dX7_walked_32 (lv_at hl 0 rfl) ?_
          obtain ⟨u_3, h_4, hf⟩ := ob hf
          refine k_rd (runV F wdX7_130 (rm := rm_X7_reached) (As := [.int (1 <<< (x3_6 &&& 31))]) (rest := []) ⟨rfl, rfl⟩ ⟨Nat.le_of_ble_eq_true rfl, Nat.le_of_ble_eq_true rfl⟩ hl.1 rfl rfl (Nat.le_of_ble_eq_true rfl) dX7_walked_34 ⟨Nat.zero_le _, Nat.zero_le _⟩) (c_X7_reached l D cI cP a K_6 (1 <<< (x3_6 &&& 31)) _ h_4) hX (va_recv hX.1 hP (ci := 7) (q0 := 0) rfl rfl) hP hP hS hA (fun H locs hP hS => ?_)
          refine lv_istore (lv' := [(5, .int u_3), (4, .int (1 <<< (x3_6 &&& 31))), (0, .ref (a 0)), (1, .int x1_6), (2, .int x2_6), (3, .int x3_6)]) hx hb dX7_walked_37 hl (by decide) rfl (fun ls hl => ?_)
          have hL_39 : ∀ (fu : Nat) (K_39 : SMod) (x1_39 : Int32) (x2_39 : Int32) (x3_39 : Int32) (x4_39 : Int32) (x5_39 : Int32) (v : Int32) (H : Heap) (locs : List Loc) (ls : Array Slot), X7_walked_L39 fu K_39 x1_39 x2_39 x3_39 x4_39 x5_39 = some v → va_P D vwCl (wMod cI a K_39) H → va_S (fun q : Nat => s.heap.size ≤ q) s.heap H locs → lv_has ls 6 [(0, .ref (a 0)), (1, .int x1_39), (2, .int x2_39), (3, .int x3_39), (4, .int x4_39), (5, .int x5_39)] → (∀ (H : Heap) (locs : List Loc) (ls : Array Slot), va_P D vwCl (wMod cI a K_39) H → va_S (fun q : Nat => s.heap.size ≤ q) s.heap H locs → lv_has ls 6 [(0, .ref (a 0)), (1, .int x1_39), (2, .int x2_39), (3, .int x3_39), (4, .int v)] → W p l e rm_X7_walked s m args below meth c H locs 0 0 (QR below args s z) (F0 m 61 ls [])) → W p l e rm_X7_walked s m args below meth c H locs 0 0 (QR below args s z) (F0 m 39 ls []) := by
            intro fu
            induction fu with
            | zero =>
              intro K_39 x1_39 x2_39 x3_39 x4_39 x5_39 v H locs ls hf
              exact absurd hf (by simp [X7_walked_L39])
            | succ fu ih =>
              intro K_39 x1_39 x2_39 x3_39 x4_39 x5_39 v _ _ ls hf hP hS hl hk
              rw [X7_walked_L39] at hf
              refine lv_iload hx hb dX7_walked_39 (lv_at hl 5 rfl) ?_
              refine lv_iload hx hb dX7_walked_41 (lv_at hl 4 rfl) ?_
              refine lv_icmp_eq (tgt := 61) hx hb dX7_walked_43 (by decide) (fun c_5 => ?_) (fun c_5 => ?_)
              · replace hf := (if_pos c_5).symm.trans hf
                obtain rfl := Option.some.inj hf
                exact hk _ _ ls hP hS (lv_sub hl [0, 1, 2, 3, 4] rfl)
              · replace hf := (if_neg c_5).symm.trans hf
                refine lv_iload hx hb dX7_walked_46 (lv_at hl 5 rfl) ?_
                refine lv_istore (lv' := [(4, .int x5_39), (0, .ref (a 0)), (1, .int x1_39), (2, .int x2_39), (3, .int x3_39), (5, .int x5_39)]) hx hb dX7_walked_48 hl (by decide) rfl (fun ls hl => ?_)
                refine lv_aload_n hx hb dX7_walked_50 rfl (lv_at hl 1 rfl) ?_
                refine lv_iload hx hb dX7_walked_51 (lv_at hl 0 rfl) ?_
                obtain ⟨u_6, h_7, hf⟩ := ob hf
                refine k_rd (runV F wdX7_130 (rm := rm_X7_reached) (As := [.int x5_39]) (rest := []) ⟨rfl, rfl⟩ ⟨Nat.le_of_ble_eq_true rfl, Nat.le_of_ble_eq_true rfl⟩ hl.1 rfl rfl (Nat.le_of_ble_eq_true rfl) dX7_walked_53 ⟨Nat.zero_le _, Nat.zero_le _⟩) (c_X7_reached l D cI cP a K_39 x5_39 _ h_7) hX (va_recv hX.1 hP (ci := 7) (q0 := 0) rfl rfl) hP hP hS hA (fun H locs hP hS => ?_)
                refine lv_istore (lv' := [(5, .int u_6), (4, .int x5_39), (0, .ref (a 0)), (1, .int x1_39), (2, .int x2_39), (3, .int x3_39)]) hx hb dX7_walked_56 hl (by decide) rfl (fun ls hl => ?_)
                refine lv_goto (tgt := 39) hx hb dX7_walked_58 (by decide) ?_
                exact ih K_39 x1_39 x2_39 x3_39 x5_39 u_6 _ _ _ ls hf hP hS (lv_sub hl [2, 3, 4, 5, 1, 0] rfl) hk
          obtain ⟨u_8, h_9, hf⟩ := ob hf
          refine hL_39 FUEL K_6 x1_6 x2_6 x3_6 (1 <<< (x3_6 &&& 31)) u_3 u_8 _ _ ls h_9 hP hS (lv_sub hl [2, 3, 4, 5, 1, 0] rfl) (fun H locs ls hP hS hl => ?_)
          clear hL_39
          refine lv_iload_n hx hb dX7_walked_61 rfl (lv_at hl 1 rfl) ?_
          refine lv_iload hx hb dX7_walked_62 (lv_at hl 4 rfl) ?_
          refine lv_ior hx hb dX7_walked_64 ?_
          refine lv_istore_n (lv' := [(1, .int (x1_6 ||| u_8)), (0, .ref (a 0)), (2, .int x2_6), (3, .int x3_6), (4, .int u_8)]) hx hb dX7_walked_65 rfl hl (by decide) rfl (fun ls hl => ?_)
          refine lv_iinc (v := (x2_6 + 1)) (lv' := [(2, .int (x2_6 + 1)), (1, .int (x1_6 ||| u_8)), (0, .ref (a 0)), (3, .int x3_6), (4, .int u_8)]) hx hb dX7_walked_66 hl (k := 2) rfl (by rfl) (by decide) rfl (fun ls hl => ?_)
          refine lv_iinc (v := (x3_6 + 1)) (lv' := [(3, .int (x3_6 + 1)), (2, .int (x2_6 + 1)), (1, .int (x1_6 ||| u_8)), (0, .ref (a 0)), (4, .int u_8)]) hx hb dX7_walked_69 hl (k := 3) rfl (by rfl) (by decide) rfl (fun ls hl => ?_)
          refine lv_goto (tgt := 6) hx hb dX7_walked_72 (by decide) ?_
          exact ih K_6 (x1_6 ||| u_8) (x2_6 + 1) (x3_6 + 1) _ _ _ ls hf hP hS (lv_sub hl [3, 2, 1, 0] rfl) hk
  obtain ⟨u_10, h_11, hf⟩ := ob hf
  refine hL_6 FUEL K 0 0 0 u_10 _ _ ls h_11 hP hS (lv_sub hl [3, 2, 1, 0] rfl) (fun H locs ls hP hS hl => ?_)
  clear hL_6
  refine lv_iload_n hx hb dX7_walked_75 rfl (lv_at hl 0 rfl) ?_
  exact rd_i F (Option.some.inj hf) hS dX7_walked_76
def X7_count (K : SMod) (x1 : Int32) : Option (SMod × Int32) := ((X7_yesNow K).bind fun u_1 => (if x1 = 0 then (if ¬ ((148 + x1) < 0 ∨ 156 ≤ Int32.toNatClampNeg (148 + x1)) then some (u_1.1, ((u_1.1.1 0) (Int32.toNatClampNeg (148 + x1)))) else none) else (if x1 = 1 then (if ¬ ((148 + x1) < 0 ∨ 156 ≤ Int32.toNatClampNeg (148 + x1)) then some (u_1.1, ((u_1.1.1 0) (Int32.toNatClampNeg (148 + x1)))) else none) else (if x1 = 2 then ((X7_groups u_1.1).bind fun u_8 => some (u_1.1, u_8)) else (if x1 = 3 then ((X7_walked u_1.1).bind fun u_11 => some (u_1.1, u_11)) else (if x1 = 4 then ((X7_seats u_1.1).bind fun u_14 => some (u_1.1, u_14)) else (if x1 = 5 then some (u_1.1, u_1.2) else (if x1 = 6 then ((X7_seats u_1.1).bind fun u_18 => some (u_1.1, (u_18 - u_1.2))) else (if x1 = 7 then (if ((u_1.1.1 0) (Int32.toNatClampNeg 148)) = 0 then some (u_1.1, (-1000004)) else ((X7_isPassed u_1.1).bind fun u_22 => (if u_22.2 = 0 then some (u_22.1, 0) else some (u_22.1, 1)))) else (if x1 = 8 then (if ((u_1.1.1 0) (Int32.toNatClampNeg 148)) = 0 then some (u_1.1, (-1000004)) else some (u_1.1, ((u_1.1.1 0) (Int32.toNatClampNeg 150)))) else (if x1 = 9 then ((X7_pulledSet u_1.1).bind fun u_28 => some (u_1.1, u_28)) else (if x1 = 10 then (if ¬ (((151 + x1) - 10) < 0 ∨ 156 ≤ Int32.toNatClampNeg ((151 + x1) - 10)) then some (u_1.1, ((u_1.1.1 0) (Int32.toNatClampNeg ((151 + x1) - 10)))) else none) else (if x1 = 11 then (if ¬ (((151 + x1) - 10) < 0 ∨ 156 ≤ Int32.toNatClampNeg ((151 + x1) - 10)) then some (u_1.1, ((u_1.1.1 0) (Int32.toNatClampNeg ((151 + x1) - 10)))) else none) else (if x1 = 12 then (if ¬ (((151 + x1) - 10) < 0 ∨ 156 ≤ Int32.toNatClampNeg ((151 + x1) - 10)) then some (u_1.1, ((u_1.1.1 0) (Int32.toNatClampNeg ((151 + x1) - 10)))) else none) else (if x1 = 13 then some (u_1.1, (u_1.1.2 0)) else (if x1 = 14 then some (u_1.1, (u_1.1.2 2)) else (if x1 = 15 then some (u_1.1, ((u_1.1.1 0) (Int32.toNatClampNeg 154))) else (if x1 = 20 then some (u_1.1, ((u_1.1.1 0) (Int32.toNatClampNeg 155))) else some (u_1.1, (-1000001))))))))))))))))))))
abbrev rm_X7_count : Room := { frames := 5, cells := 0, slots := 0, locals := 112 }
set_option maxHeartbeats 4000000 in
set_option maxRecDepth 100000 in
theorem c_X7_count (l : Launch) (D : va_G) (cI cP : ClassId) (a : Nat → Nat) (K : SMod) (x1 : Int32) (z : SMod × Int32) (hf : X7_count K x1 = some z) : MWi l yX7_count cX7_count 3 (some .int) rm_X7_count D cI cP [.ref (a 0), .int x1] (wMod cI a K) (wMod cI a z.1) z.2 := by
  refine MWi.of (by decide +kernel) (Nat.le_of_ble_eq_true rfl) ?_
  intro p e s m args below meth c ls A F hX hP hD hA hS hl
  have F : Fx p s m args meth c RX7 cX7_count 3 (some .int) := F
  have hx := F.1
  have hb := F.2.1
  have hown := F.2.2.2.1
  have hts := F.2.2.2.2.1
  have hl : lv_has ls 3 [(0, .ref (a 0)), (1, .int x1)] := hl
  unfold X7_count at hf
  refine lv_aload_n hx hb dX7_count_0 rfl (lv_at hl 0 rfl) ?_
  obtain ⟨u_1, h_2, hf⟩ := ob hf
  refine k_wi (runV F wdX7_79 (rm := rm_X7_yesNow) (As := []) (rest := []) ⟨rfl, rfl⟩ ⟨Nat.le_of_ble_eq_true rfl, Nat.le_of_ble_eq_true rfl⟩ hl.1 rfl rfl (Nat.le_of_ble_eq_true rfl) dX7_count_1 ⟨Nat.zero_le _, Nat.zero_le _⟩) (c_X7_yesNow l D cI cP a K  _ h_2) hX (va_recv hX.1 hP (ci := 7) (q0 := 0) rfl rfl) (Cut.all rfl) hP hD hS hA (fun H locs hP hD hS => ?_)
  have hP : va_P D vwCl (wMod cI a u_1.1) H := hP
  have hD : va_D A (wMod cI a u_1.1) := hD
  refine lv_istore_n (lv' := [(2, .int u_1.2), (0, .ref (a 0)), (1, .int x1)]) hx hb dX7_count_4 rfl hl (by decide) rfl (fun ls hl => ?_)
  refine lv_iload_n hx hb dX7_count_5 rfl (lv_at hl 2 rfl) ?_
  rcases Decidable.em (x1 = 0) with c_3 | c_3
  · replace hf := (if_pos c_3).symm.trans hf
    refine lv_tableIn (off := 98) (tgt := 104) hx hb dX7_count_6 (by rw [c_3]; decide) (by rw [c_3]; decide) (by rw [c_3]; rfl) (by decide) ?_
    refine lv_aload_n hx hb dX7_count_104 rfl (lv_at hl 1 rfl) ?_
    refine gX7_7 F hX hP 0 rfl (v := .ref (a 1)) rfl dX7_count_105 ?_
    refine lv_sipush (v := 148) hx hb dX7_count_108 (by decide) ?_
    refine lv_iload_n hx hb dX7_count_111 rfl (lv_at hl 2 rfl) ?_
    refine lv_iadd hx hb dX7_count_112 ?_
    have g_4 := og hf
    replace hf := (if_pos g_4).symm.trans hf
    refine va_iald hx hb hX.1 hP 1 0 (n := 156) (f := (u_1.1.1 0)) rfl rfl g_4 dX7_count_113 ?_
    obtain rfl := (Option.some.inj hf)
    exact wr_i F rfl hP hS dX7_count_114
  replace hf := (if_neg c_3).symm.trans hf
  rcases Decidable.em (x1 = 1) with c_5 | c_5
  · replace hf := (if_pos c_5).symm.trans hf
    refine lv_tableIn (off := 98) (tgt := 104) hx hb dX7_count_6 (by rw [c_5]; decide) (by rw [c_5]; decide) (by rw [c_5]; rfl) (by decide) ?_
    refine lv_aload_n hx hb dX7_count_104 rfl (lv_at hl 1 rfl) ?_
    refine gX7_7 F hX hP 0 rfl (v := .ref (a 1)) rfl dX7_count_105 ?_
    refine lv_sipush (v := 148) hx hb dX7_count_108 (by decide) ?_
    refine lv_iload_n hx hb dX7_count_111 rfl (lv_at hl 2 rfl) ?_
    refine lv_iadd hx hb dX7_count_112 ?_
    have g_6 := og hf
    replace hf := (if_pos g_6).symm.trans hf
    refine va_iald hx hb hX.1 hP 1 0 (n := 156) (f := (u_1.1.1 0)) rfl rfl g_6 dX7_count_113 ?_
    obtain rfl := (Option.some.inj hf)
    exact wr_i F rfl hP hS dX7_count_114
  replace hf := (if_neg c_5).symm.trans hf
  rcases Decidable.em (x1 = 2) with c_7 | c_7
  · replace hf := (if_pos c_7).symm.trans hf
    refine lv_tableIn (off := 109) (tgt := 115) hx hb dX7_count_6 (by rw [c_7]; decide) (by rw [c_7]; decide) (by rw [c_7]; rfl) (by decide) ?_
    refine lv_aload_n hx hb dX7_count_115 rfl (lv_at hl 1 rfl) ?_
    obtain ⟨u_8, h_9, hf⟩ := ob hf
    refine k_rd (runV F wdX7_145 (rm := rm_X7_groups) (As := []) (rest := []) ⟨rfl, rfl⟩ ⟨Nat.le_of_ble_eq_true rfl, Nat.le_of_ble_eq_true rfl⟩ hl.1 rfl rfl (Nat.le_of_ble_eq_true rfl) dX7_count_116 ⟨Nat.zero_le _, Nat.zero_le _⟩) (c_X7_groups l D cI cP a u_1.1  _ h_9) hX (va_recv hX.1 hP (ci := 7) (q0 := 0) rfl rfl) hP hP hS hA (fun H locs hP hS => ?_)
    obtain rfl := (Option.some.inj hf)
    exact wr_i F rfl hP hS dX7_count_119
  replace hf := (if_neg c_7).symm.trans hf
  rcases Decidable.em (x1 = 3) with c_10 | c_10
  · replace hf := (if_pos c_10).symm.trans hf
    refine lv_tableIn (off := 114) (tgt := 120) hx hb dX7_count_6 (by rw [c_10]; decide) (by rw [c_10]; decide) (by rw [c_10]; rfl) (by decide) ?_
    refine lv_aload_n hx hb dX7_count_120 rfl (lv_at hl 1 rfl) ?_
    obtain ⟨u_11, h_12, hf⟩ := ob hf
    refine k_rd (runV F wdX7_154 (rm := rm_X7_walked) (As := []) (rest := []) ⟨rfl, rfl⟩ ⟨Nat.le_of_ble_eq_true rfl, Nat.le_of_ble_eq_true rfl⟩ hl.1 rfl rfl (Nat.le_of_ble_eq_true rfl) dX7_count_121 ⟨Nat.zero_le _, Nat.zero_le _⟩) (c_X7_walked l D cI cP a u_1.1  _ h_12) hX (va_recv hX.1 hP (ci := 7) (q0 := 0) rfl rfl) hP hP hS hA (fun H locs hP hS => ?_)
    obtain rfl := (Option.some.inj hf)
    exact wr_i F rfl hP hS dX7_count_124
  replace hf := (if_neg c_10).symm.trans hf
  rcases Decidable.em (x1 = 4) with c_13 | c_13
  · replace hf := (if_pos c_13).symm.trans hf
    refine lv_tableIn (off := 119) (tgt := 125) hx hb dX7_count_6 (by rw [c_13]; decide) (by rw [c_13]; decide) (by rw [c_13]; rfl) (by decide) ?_
    refine lv_aload_n hx hb dX7_count_125 rfl (lv_at hl 1 rfl) ?_
    obtain ⟨u_14, h_15, hf⟩ := ob hf
    refine k_rd (runV F wdX7_82 (rm := rm_X7_seats) (As := []) (rest := []) ⟨rfl, rfl⟩ ⟨Nat.le_of_ble_eq_true rfl, Nat.le_of_ble_eq_true rfl⟩ hl.1 rfl rfl (Nat.le_of_ble_eq_true rfl) dX7_count_126 ⟨Nat.zero_le _, Nat.zero_le _⟩) (c_X7_seats l D cI cP a u_1.1  _ h_15) hX (va_recv hX.1 hP (ci := 7) (q0 := 0) rfl rfl) hP hP hS hA (fun H locs hP hS => ?_)
    obtain rfl := (Option.some.inj hf)
    exact wr_i F rfl hP hS dX7_count_129
  replace hf := (if_neg c_13).symm.trans hf
  rcases Decidable.em (x1 = 5) with c_16 | c_16
  · replace hf := (if_pos c_16).symm.trans hf
    refine lv_tableIn (off := 124) (tgt := 130) hx hb dX7_count_6 (by rw [c_16]; decide) (by rw [c_16]; decide) (by rw [c_16]; rfl) (by decide) ?_
    refine lv_iload_n hx hb dX7_count_130 rfl (lv_at hl 0 rfl) ?_
    obtain rfl := (Option.some.inj hf)
    exact wr_i F rfl hP hS dX7_count_131
  replace hf := (if_neg c_16).symm.trans hf
  rcases Decidable.em (x1 = 6) with c_17 | c_17
  · replace hf := (if_pos c_17).symm.trans hf
    refine lv_tableIn (off := 126) (tgt := 132) hx hb dX7_count_6 (by rw [c_17]; decide) (by rw [c_17]; decide) (by rw [c_17]; rfl) (by decide) ?_
    refine lv_aload_n hx hb dX7_count_132 rfl (lv_at hl 1 rfl) ?_
    obtain ⟨u_18, h_19, hf⟩ := ob hf
    refine k_rd (runV F wdX7_82 (rm := rm_X7_seats) (As := []) (rest := []) ⟨rfl, rfl⟩ ⟨Nat.le_of_ble_eq_true rfl, Nat.le_of_ble_eq_true rfl⟩ hl.1 rfl rfl (Nat.le_of_ble_eq_true rfl) dX7_count_133 ⟨Nat.zero_le _, Nat.zero_le _⟩) (c_X7_seats l D cI cP a u_1.1  _ h_19) hX (va_recv hX.1 hP (ci := 7) (q0 := 0) rfl rfl) hP hP hS hA (fun H locs hP hS => ?_)
    refine lv_iload_n hx hb dX7_count_136 rfl (lv_at hl 0 rfl) ?_
    refine lv_isub hx hb dX7_count_137 ?_
    obtain rfl := (Option.some.inj hf)
    exact wr_i F rfl hP hS dX7_count_138
  replace hf := (if_neg c_17).symm.trans hf
  rcases Decidable.em (x1 = 7) with c_20 | c_20
  · replace hf := (if_pos c_20).symm.trans hf
    refine lv_tableIn (off := 133) (tgt := 139) hx hb dX7_count_6 (by rw [c_20]; decide) (by rw [c_20]; decide) (by rw [c_20]; rfl) (by decide) ?_
    refine lv_aload_n hx hb dX7_count_139 rfl (lv_at hl 1 rfl) ?_
    refine gX7_7 F hX hP 0 rfl (v := .ref (a 1)) rfl dX7_count_140 ?_
    refine lv_sipush (v := 148) hx hb dX7_count_143 (by decide) ?_
    refine va_iald hx hb hX.1 hP 1 0 (n := 156) (f := (u_1.1.1 0)) rfl rfl (by decide : ¬ ((148 : Int32) < 0 ∨ 156 ≤ Int32.toNatClampNeg 148)) dX7_count_146 ?_
    refine lv_if_ne (tgt := 155) hx hb dX7_count_147 (by decide) (fun c_21 => ?_) (fun c_21 => ?_)
    · replace hf := (if_neg c_21).symm.trans hf
      refine lv_aload_n hx hb dX7_count_155 rfl (lv_at hl 1 rfl) ?_
      obtain ⟨u_22, h_23, hf⟩ := ob hf
      refine k_wi (runV F wdX7_117 (rm := rm_X7_isPassed) (As := []) (rest := []) ⟨rfl, rfl⟩ ⟨Nat.le_of_ble_eq_true rfl, Nat.le_of_ble_eq_true rfl⟩ hl.1 rfl rfl (Nat.le_of_ble_eq_true rfl) dX7_count_156 ⟨Nat.zero_le _, Nat.zero_le _⟩) (c_X7_isPassed l D cI cP a u_1.1  _ h_23) hX (va_recv hX.1 hP (ci := 7) (q0 := 0) rfl rfl) (Cut.all rfl) hP hD hS hA (fun H locs hP hD hS => ?_)
      have hP : va_P D vwCl (wMod cI a u_22.1) H := hP
      have hD : va_D A (wMod cI a u_22.1) := hD
      refine lv_if_eq (tgt := 166) hx hb dX7_count_159 (by decide) (fun c_24 => ?_) (fun c_24 => ?_)
      · replace hf := (if_pos c_24).symm.trans hf
        refine lv_iconst (v := 0) hx hb dX7_count_166 (by decide) ?_
        obtain rfl := (Option.some.inj hf)
        exact wr_i F rfl hP hS dX7_count_167
      · replace hf := (if_neg c_24).symm.trans hf
        refine lv_iconst (v := 1) hx hb dX7_count_162 (by decide) ?_
        refine lv_goto (tgt := 167) hx hb dX7_count_163 (by decide) ?_
        obtain rfl := (Option.some.inj hf)
        exact wr_i F rfl hP hS dX7_count_167
    · replace hf := (if_pos c_21).symm.trans hf
      refine lv_ldc (v := (-1000004)) hx hb hown (hts _ q_838) dX7_count_150 ?_
      refine lv_goto (tgt := 167) hx hb dX7_count_152 (by decide) ?_
      obtain rfl := (Option.some.inj hf)
      exact wr_i F rfl hP hS dX7_count_167
  replace hf := (if_neg c_20).symm.trans hf
  rcases Decidable.em (x1 = 8) with c_25 | c_25
  · replace hf := (if_pos c_25).symm.trans hf
    refine lv_tableIn (off := 162) (tgt := 168) hx hb dX7_count_6 (by rw [c_25]; decide) (by rw [c_25]; decide) (by rw [c_25]; rfl) (by decide) ?_
    refine lv_aload_n hx hb dX7_count_168 rfl (lv_at hl 1 rfl) ?_
    refine gX7_7 F hX hP 0 rfl (v := .ref (a 1)) rfl dX7_count_169 ?_
    refine lv_sipush (v := 148) hx hb dX7_count_172 (by decide) ?_
    refine va_iald hx hb hX.1 hP 1 0 (n := 156) (f := (u_1.1.1 0)) rfl rfl (by decide : ¬ ((148 : Int32) < 0 ∨ 156 ≤ Int32.toNatClampNeg 148)) dX7_count_175 ?_
    refine lv_if_ne (tgt := 184) hx hb dX7_count_176 (by decide) (fun c_26 => ?_) (fun c_26 => ?_)
    · replace hf := (if_neg c_26).symm.trans hf
      refine lv_aload_n hx hb dX7_count_184 rfl (lv_at hl 1 rfl) ?_
      refine gX7_7 F hX hP 0 rfl (v := .ref (a 1)) rfl dX7_count_185 ?_
      refine lv_sipush (v := 150) hx hb dX7_count_188 (by decide) ?_
      refine va_iald hx hb hX.1 hP 1 0 (n := 156) (f := (u_1.1.1 0)) rfl rfl (by decide : ¬ ((150 : Int32) < 0 ∨ 156 ≤ Int32.toNatClampNeg 150)) dX7_count_191 ?_
      obtain rfl := (Option.some.inj hf)
      exact wr_i F rfl hP hS dX7_count_192
    · replace hf := (if_pos c_26).symm.trans hf
      refine lv_ldc (v := (-1000004)) hx hb hown (hts _ q_838) dX7_count_179 ?_
      refine lv_goto (tgt := 192) hx hb dX7_count_181 (by decide) ?_
      obtain rfl := (Option.some.inj hf)
      exact wr_i F rfl hP hS dX7_count_192
  replace hf := (if_neg c_25).symm.trans hf
  rcases Decidable.em (x1 = 9) with c_27 | c_27
  · replace hf := (if_pos c_27).symm.trans hf
    refine lv_tableIn (off := 187) (tgt := 193) hx hb dX7_count_6 (by rw [c_27]; decide) (by rw [c_27]; decide) (by rw [c_27]; rfl) (by decide) ?_
    refine lv_aload_n hx hb dX7_count_193 rfl (lv_at hl 1 rfl) ?_
    obtain ⟨u_28, h_29, hf⟩ := ob hf
    refine k_rd (runV F wdX7_157 (rm := rm_X7_pulledSet) (As := []) (rest := []) ⟨rfl, rfl⟩ ⟨Nat.le_of_ble_eq_true rfl, Nat.le_of_ble_eq_true rfl⟩ hl.1 rfl rfl (Nat.le_of_ble_eq_true rfl) dX7_count_194 ⟨Nat.zero_le _, Nat.zero_le _⟩) (c_X7_pulledSet l D cI cP a u_1.1  _ h_29) hX (va_recv hX.1 hP (ci := 7) (q0 := 0) rfl rfl) hP hP hS hA (fun H locs hP hS => ?_)
    obtain rfl := (Option.some.inj hf)
    exact wr_i F rfl hP hS dX7_count_197
  replace hf := (if_neg c_27).symm.trans hf
  rcases Decidable.em (x1 = 10) with c_30 | c_30
  · replace hf := (if_pos c_30).symm.trans hf
    refine lv_tableIn (off := 192) (tgt := 198) hx hb dX7_count_6 (by rw [c_30]; decide) (by rw [c_30]; decide) (by rw [c_30]; rfl) (by decide) ?_
    refine lv_aload_n hx hb dX7_count_198 rfl (lv_at hl 1 rfl) ?_
    refine gX7_7 F hX hP 0 rfl (v := .ref (a 1)) rfl dX7_count_199 ?_
    refine lv_sipush (v := 151) hx hb dX7_count_202 (by decide) ?_
    refine lv_iload_n hx hb dX7_count_205 rfl (lv_at hl 2 rfl) ?_
    refine lv_iadd hx hb dX7_count_206 ?_
    refine lv_bipush (v := 10) hx hb dX7_count_207 (by decide) ?_
    refine lv_isub hx hb dX7_count_209 ?_
    have g_31 := og hf
    replace hf := (if_pos g_31).symm.trans hf
    refine va_iald hx hb hX.1 hP 1 0 (n := 156) (f := (u_1.1.1 0)) rfl rfl g_31 dX7_count_210 ?_
    obtain rfl := (Option.some.inj hf)
    exact wr_i F rfl hP hS dX7_count_211
  replace hf := (if_neg c_30).symm.trans hf
  rcases Decidable.em (x1 = 11) with c_32 | c_32
  · replace hf := (if_pos c_32).symm.trans hf
    refine lv_tableIn (off := 192) (tgt := 198) hx hb dX7_count_6 (by rw [c_32]; decide) (by rw [c_32]; decide) (by rw [c_32]; rfl) (by decide) ?_
    refine lv_aload_n hx hb dX7_count_198 rfl (lv_at hl 1 rfl) ?_
    refine gX7_7 F hX hP 0 rfl (v := .ref (a 1)) rfl dX7_count_199 ?_
    refine lv_sipush (v := 151) hx hb dX7_count_202 (by decide) ?_
    refine lv_iload_n hx hb dX7_count_205 rfl (lv_at hl 2 rfl) ?_
    refine lv_iadd hx hb dX7_count_206 ?_
    refine lv_bipush (v := 10) hx hb dX7_count_207 (by decide) ?_
    refine lv_isub hx hb dX7_count_209 ?_
    have g_33 := og hf
    replace hf := (if_pos g_33).symm.trans hf
    refine va_iald hx hb hX.1 hP 1 0 (n := 156) (f := (u_1.1.1 0)) rfl rfl g_33 dX7_count_210 ?_
    obtain rfl := (Option.some.inj hf)
    exact wr_i F rfl hP hS dX7_count_211
  replace hf := (if_neg c_32).symm.trans hf
  rcases Decidable.em (x1 = 12) with c_34 | c_34
  · replace hf := (if_pos c_34).symm.trans hf
    refine lv_tableIn (off := 192) (tgt := 198) hx hb dX7_count_6 (by rw [c_34]; decide) (by rw [c_34]; decide) (by rw [c_34]; rfl) (by decide) ?_
    refine lv_aload_n hx hb dX7_count_198 rfl (lv_at hl 1 rfl) ?_
    refine gX7_7 F hX hP 0 rfl (v := .ref (a 1)) rfl dX7_count_199 ?_
    refine lv_sipush (v := 151) hx hb dX7_count_202 (by decide) ?_
    refine lv_iload_n hx hb dX7_count_205 rfl (lv_at hl 2 rfl) ?_
    refine lv_iadd hx hb dX7_count_206 ?_
    refine lv_bipush (v := 10) hx hb dX7_count_207 (by decide) ?_
    refine lv_isub hx hb dX7_count_209 ?_
    have g_35 := og hf
    replace hf := (if_pos g_35).symm.trans hf
    refine va_iald hx hb hX.1 hP 1 0 (n := 156) (f := (u_1.1.1 0)) rfl rfl g_35 dX7_count_210 ?_
    obtain rfl := (Option.some.inj hf)
    exact wr_i F rfl hP hS dX7_count_211
  replace hf := (if_neg c_34).symm.trans hf
  rcases Decidable.em (x1 = 13) with c_36 | c_36
  · replace hf := (if_pos c_36).symm.trans hf
    refine lv_tableIn (off := 206) (tgt := 212) hx hb dX7_count_6 (by rw [c_36]; decide) (by rw [c_36]; decide) (by rw [c_36]; rfl) (by decide) ?_
    refine lv_aload_n hx hb dX7_count_212 rfl (lv_at hl 1 rfl) ?_
    refine gX7_41 F hX hP 0 rfl (v := .int (u_1.1.2 0)) rfl dX7_count_213 ?_
    obtain rfl := (Option.some.inj hf)
    exact wr_i F rfl hP hS dX7_count_216
  replace hf := (if_neg c_36).symm.trans hf
  rcases Decidable.em (x1 = 14) with c_37 | c_37
  · replace hf := (if_pos c_37).symm.trans hf
    refine lv_tableIn (off := 211) (tgt := 217) hx hb dX7_count_6 (by rw [c_37]; decide) (by rw [c_37]; decide) (by rw [c_37]; rfl) (by decide) ?_
    refine lv_aload_n hx hb dX7_count_217 rfl (lv_at hl 1 rfl) ?_
    refine gX7_160 F hX hP 0 rfl (v := .int (u_1.1.2 2)) rfl dX7_count_218 ?_
    obtain rfl := (Option.some.inj hf)
    exact wr_i F rfl hP hS dX7_count_221
  replace hf := (if_neg c_37).symm.trans hf
  rcases Decidable.em (x1 = 15) with c_38 | c_38
  · replace hf := (if_pos c_38).symm.trans hf
    refine lv_tableIn (off := 216) (tgt := 222) hx hb dX7_count_6 (by rw [c_38]; decide) (by rw [c_38]; decide) (by rw [c_38]; rfl) (by decide) ?_
    refine lv_aload_n hx hb dX7_count_222 rfl (lv_at hl 1 rfl) ?_
    refine gX7_7 F hX hP 0 rfl (v := .ref (a 1)) rfl dX7_count_223 ?_
    refine lv_sipush (v := 154) hx hb dX7_count_226 (by decide) ?_
    refine va_iald hx hb hX.1 hP 1 0 (n := 156) (f := (u_1.1.1 0)) rfl rfl (by decide : ¬ ((154 : Int32) < 0 ∨ 156 ≤ Int32.toNatClampNeg 154)) dX7_count_229 ?_
    obtain rfl := (Option.some.inj hf)
    exact wr_i F rfl hP hS dX7_count_230
  replace hf := (if_neg c_38).symm.trans hf
  rcases Decidable.em (x1 = 20) with c_39 | c_39
  · replace hf := (if_pos c_39).symm.trans hf
    refine lv_tableIn (off := 225) (tgt := 231) hx hb dX7_count_6 (by rw [c_39]; decide) (by rw [c_39]; decide) (by rw [c_39]; rfl) (by decide) ?_
    refine lv_aload_n hx hb dX7_count_231 rfl (lv_at hl 1 rfl) ?_
    refine gX7_7 F hX hP 0 rfl (v := .ref (a 1)) rfl dX7_count_232 ?_
    refine lv_sipush (v := 155) hx hb dX7_count_235 (by decide) ?_
    refine va_iald hx hb hX.1 hP 1 0 (n := 156) (f := (u_1.1.1 0)) rfl rfl (by decide : ¬ ((155 : Int32) < 0 ∨ 156 ≤ Int32.toNatClampNeg 155)) dX7_count_238 ?_
    obtain rfl := (Option.some.inj hf)
    exact wr_i F rfl hP hS dX7_count_239
  replace hf := (if_neg c_39).symm.trans hf
  refine lv_tableD (tgt := 240) (cs := [0, 1, 2, 3, 4, 5, 6, 7, 8, 9, 10, 11, 12, 13, 14, 15, 20]) hx hb dX7_count_6 (by decide) (by decide) (by decide) (by simp [c_3, c_5, c_7, c_10, c_13, c_16, c_17, c_20, c_25, c_27, c_30, c_32, c_34, c_36, c_37, c_38, c_39]) ?_
  refine lv_ldc (v := (-1000001)) hx hb hown (hts _ q_855) dX7_count_240 ?_
  obtain rfl := (Option.some.inj hf)
  exact wr_i F rfl hP hS dX7_count_242
def X7_undo_L22 : Nat → SMod → Int32 → Option (SMod)
  | 0, _, _ => none
  | fu + 1, K_22, x1_22 => (if 156 ≤ x1_22 then some K_22 else (if ¬ (((156 * (K_22.2 0)) + x1_22) < 0 ∨ 624 ≤ Int32.toNatClampNeg ((156 * (K_22.2 0)) + x1_22)) then (if ¬ (x1_22 < 0 ∨ 156 ≤ Int32.toNatClampNeg x1_22) then (bnd ((up K_22.1 0 (upd (K_22.1 0) (Int32.toNatClampNeg x1_22) ((K_22.1 1) (Int32.toNatClampNeg ((156 * (K_22.2 0)) + x1_22))))), K_22.2) fun M_7 => X7_undo_L22 fu M_7 (x1_22 + 1)) else none) else none))
def X7_undo (K : SMod) : Option (SMod × Int32) := (if (K.2 0) = 0 then some (K, (-1000002)) else (bnd (K.1, (up K.2 0 ((K.2 0) - 1))) fun M_2 => ((X7_undo_L22 FUEL M_2 0).bind fun u_9 => some (u_9, (u_9.2 0)))))
abbrev rm_X7_undo : Room := { frames := 0, cells := 0, slots := 0, locals := 0 }
set_option maxHeartbeats 4000000 in
set_option maxRecDepth 100000 in
theorem c_X7_undo (l : Launch) (D : va_G) (cI cP : ClassId) (a : Nat → Nat) (K : SMod) (z : SMod × Int32) (hf : X7_undo K  = some z) : MWi l yX7_undo cX7_undo 2 (some .int) rm_X7_undo D cI cP [.ref (a 0)] (wMod cI a K) (wMod cI a z.1) z.2 := by
  refine MWi.of (by decide +kernel) (Nat.le_of_ble_eq_true rfl) ?_
  intro p e s m args below meth c ls A F hX hP hD hA hS hl
  have F : Fx p s m args meth c RX7 cX7_undo 2 (some .int) := F
  have hx := F.1
  have hb := F.2.1
  have hown := F.2.2.2.1
  have hts := F.2.2.2.2.1
  have hl : lv_has ls 2 [(0, .ref (a 0))] := hl
  unfold X7_undo at hf
  refine lv_aload_n hx hb dX7_undo_0 rfl (lv_at hl 0 rfl) ?_
  refine gX7_41 F hX hP 0 rfl (v := .int (K.2 0)) rfl dX7_undo_1 ?_
  refine lv_if_ne (tgt := 10) hx hb dX7_undo_4 (by decide) (fun c_1 => ?_) (fun c_1 => ?_)
  · replace hf := (if_neg c_1).symm.trans hf
    refine lv_aload_n hx hb dX7_undo_10 rfl (lv_at hl 0 rfl) ?_
    refine lv_dup hx hb dX7_undo_11 rfl ?_
    refine gX7_41 F hX hP 0 rfl (v := .int (K.2 0)) rfl dX7_undo_12 ?_
    refine lv_iconst (v := 1) hx hb dX7_undo_15 (by decide) ?_
    refine lv_isub hx hb dX7_undo_16 ?_
    refine pX7_41 F hX hP hD hS 0 rfl (Nat.le_of_ble_eq_true rfl) dX7_undo_17 (fun H locs hP hD hS => ?_)
    obtain ⟨M_2, e_3, hf⟩ := bnd_e hf
    have hP : va_P D vwCl (wMod cI a M_2) H := by rw [e_3]; exact hP
    have hD : va_D A (wMod cI a M_2) := by rw [e_3]; exact hD
    clear e_3
    refine lv_iconst (v := 0) hx hb dX7_undo_20 (by decide) ?_
    refine lv_istore_n (lv' := [(1, .int 0), (0, .ref (a 0))]) hx hb dX7_undo_21 rfl hl (by decide) rfl (fun ls hl => ?_)
    have hL_22 : ∀ (fu : Nat) (K_22 : SMod) (x1_22 : Int32) (v : SMod) (H : Heap) (locs : List Loc) (ls : Array Slot), X7_undo_L22 fu K_22 x1_22 = some v → va_P D vwCl (wMod cI a K_22) H → va_D A (wMod cI a K_22) → va_S A s.heap H locs → lv_has ls 2 [(0, .ref (a 0)), (1, .int x1_22)] → (∀ (H : Heap) (locs : List Loc) (ls : Array Slot), va_P D vwCl (wMod cI a v) H → va_D A (wMod cI a v) → va_S A s.heap H locs → lv_has ls 2 [(0, .ref (a 0))] → W p l e rm_X7_undo s m args below meth c H locs 0 0 (QWi D below args s A (wMod cI a z.1) z.2) (F0 m 56 ls [])) → W p l e rm_X7_undo s m args below meth c H locs 0 0 (QWi D below args s A (wMod cI a z.1) z.2) (F0 m 22 ls []) := by
      intro fu
      induction fu with
      | zero =>
        intro K_22 x1_22 v H locs ls hf
        exact absurd hf (by simp [X7_undo_L22])
      | succ fu ih =>
        intro K_22 x1_22 v _ _ ls hf hP hD hS hl hk
        rw [X7_undo_L22] at hf
        refine lv_iload_n hx hb dX7_undo_22 rfl (lv_at hl 1 rfl) ?_
        refine lv_sipush (v := 156) hx hb dX7_undo_23 (by decide) ?_
        refine lv_icmp_ge (tgt := 56) hx hb dX7_undo_26 (by decide) (fun c_4 => ?_) (fun c_4 => ?_)
        · replace hf := (if_pos c_4).symm.trans hf
          obtain rfl := Option.some.inj hf
          exact hk _ _ ls hP hD hS (lv_sub hl [0] rfl)
        · replace hf := (if_neg c_4).symm.trans hf
          refine lv_aload_n hx hb dX7_undo_29 rfl (lv_at hl 0 rfl) ?_
          refine gX7_7 F hX hP 0 rfl (v := .ref (a 1)) rfl dX7_undo_30 ?_
          refine lv_iload_n hx hb dX7_undo_33 rfl (lv_at hl 1 rfl) ?_
          refine lv_aload_n hx hb dX7_undo_34 rfl (lv_at hl 0 rfl) ?_
          refine gX7_13 F hX hP 0 rfl (v := .ref (a 2)) rfl dX7_undo_35 ?_
          refine lv_sipush (v := 156) hx hb dX7_undo_38 (by decide) ?_
          refine lv_aload_n hx hb dX7_undo_41 rfl (lv_at hl 0 rfl) ?_
          refine gX7_41 F hX hP 0 rfl (v := .int (K_22.2 0)) rfl dX7_undo_42 ?_
          refine lv_imul hx hb dX7_undo_45 ?_
          refine lv_iload_n hx hb dX7_undo_46 rfl (lv_at hl 1 rfl) ?_
          refine lv_iadd hx hb dX7_undo_47 ?_
          have g_5 := og hf
          replace hf := (if_pos g_5).symm.trans hf
          refine va_iald hx hb hX.1 hP 2 0 (n := 624) (f := (K_22.1 1)) rfl rfl g_5 dX7_undo_48 ?_
          have g_6 := og hf
          replace hf := (if_pos g_6).symm.trans hf
          refine va_iast hx hb hX.1 hP hD hS 1 0 (n := 156) (f := (K_22.1 0)) rfl rfl g_6 dX7_undo_49 (fun H locs hP hD hS => ?_)
          obtain ⟨M_7, e_8, hf⟩ := bnd_e hf
          have hP : va_P D vwCl (wMod cI a M_7) H := by rw [e_8]; exact hP
          have hD : va_D A (wMod cI a M_7) := by rw [e_8]; exact hD
          clear e_8
          refine lv_iinc (v := (x1_22 + 1)) (lv' := [(1, .int (x1_22 + 1)), (0, .ref (a 0))]) hx hb dX7_undo_50 hl (k := 1) rfl (by rfl) (by decide) rfl (fun ls hl => ?_)
          refine lv_goto (tgt := 22) hx hb dX7_undo_53 (by decide) ?_
          exact ih M_7 (x1_22 + 1) _ _ _ ls hf hP hD hS (lv_sub hl [1, 0] rfl) hk
    obtain ⟨u_9, h_10, hf⟩ := ob hf
    refine hL_22 FUEL M_2 0 u_9 _ _ ls h_10 hP hD hS (lv_sub hl [1, 0] rfl) (fun H locs ls hP hD hS hl => ?_)
    clear hL_22
    refine lv_aload_n hx hb dX7_undo_56 rfl (lv_at hl 0 rfl) ?_
    refine gX7_41 F hX hP 0 rfl (v := .int (u_9.2 0)) rfl dX7_undo_57 ?_
    obtain rfl := (Option.some.inj hf)
    exact wr_i F rfl hP hS dX7_undo_60
  · replace hf := (if_pos c_1).symm.trans hf
    refine lv_ldc (v := (-1000002)) hx hb hown (hts _ q_869) dX7_undo_7 ?_
    obtain rfl := (Option.some.inj hf)
    exact wr_i F rfl hP hS dX7_undo_9
def X7_type (K : SMod) (x1 : Int32) : Option (SMod × Int32) := (if (X7_in x1 32 126) = 0 then some (K, (-1000001)) else (if (K.2 2) = 60 then some (K, (-1000003)) else (if ¬ ((K.2 2) < 0 ∨ 60 ≤ Int32.toNatClampNeg (K.2 2)) then (bnd ((up K.1 3 (upd (K.1 3) (Int32.toNatClampNeg (K.2 2)) x1)), K.2) fun M_4 => (bnd (M_4.1, (up M_4.2 2 ((M_4.2 2) + 1))) fun M_6 => some (M_6, (M_6.2 2)))) else none)))
abbrev rm_X7_type : Room := { frames := 1, cells := 0, slots := 0, locals := 22 }
set_option maxHeartbeats 4000000 in
set_option maxRecDepth 100000 in
theorem c_X7_type (l : Launch) (D : va_G) (cI cP : ClassId) (a : Nat → Nat) (K : SMod) (x1 : Int32) (z : SMod × Int32) (hf : X7_type K x1 = some z) : MWi l yX7_type cX7_type 2 (some .int) rm_X7_type D cI cP [.ref (a 0), .int x1] (wMod cI a K) (wMod cI a z.1) z.2 := by
  refine MWi.of (by decide +kernel) (Nat.le_of_ble_eq_true rfl) ?_
  intro p e s m args below meth c ls A F hX hP hD hA hS hl
  have F : Fx p s m args meth c RX7 cX7_type 2 (some .int) := F
  have hx := F.1
  have hb := F.2.1
  have hown := F.2.2.2.1
  have hts := F.2.2.2.2.1
  have hl : lv_has ls 2 [(0, .ref (a 0)), (1, .int x1)] := hl
  unfold X7_type at hf
  refine lv_iload_n hx hb dX7_type_0 rfl (lv_at hl 1 rfl) ?_
  refine lv_bipush (v := 32) hx hb dX7_type_1 (by decide) ?_
  refine lv_bipush (v := 126) hx hb dX7_type_3 (by decide) ?_
  refine k_rd (runS F wdX7_45 (rm := rm_X7_in) (As := [.int x1, .int 32, .int 126]) (rest := []) ⟨rfl, rfl⟩ ⟨Nat.le_of_ble_eq_true rfl, Nat.le_of_ble_eq_true rfl⟩ hl.1 rfl rfl (Nat.le_of_ble_eq_true rfl) dX7_type_5 ⟨Nat.zero_le _, Nat.zero_le _⟩) (c_X7_in l D cI cP x1 32 126 _ rfl) hX trivial vP_nil hP hS hA (fun H locs hP hS => ?_)
  refine lv_if_ne (tgt := 14) hx hb dX7_type_8 (by decide) (fun c_1 => ?_) (fun c_1 => ?_)
  · replace hf := (if_neg c_1).symm.trans hf
    refine lv_aload_n hx hb dX7_type_14 rfl (lv_at hl 0 rfl) ?_
    refine gX7_160 F hX hP 0 rfl (v := .int (K.2 2)) rfl dX7_type_15 ?_
    refine lv_bipush (v := 60) hx hb dX7_type_18 (by decide) ?_
    refine lv_icmp_ne (tgt := 26) hx hb dX7_type_20 (by decide) (fun c_2 => ?_) (fun c_2 => ?_)
    · replace hf := (if_neg c_2).symm.trans hf
      refine lv_aload_n hx hb dX7_type_26 rfl (lv_at hl 0 rfl) ?_
      refine gX7_19 F hX hP 0 rfl (v := .ref (a 4)) rfl dX7_type_27 ?_
      refine lv_aload_n hx hb dX7_type_30 rfl (lv_at hl 0 rfl) ?_
      refine gX7_160 F hX hP 0 rfl (v := .int (K.2 2)) rfl dX7_type_31 ?_
      refine lv_iload_n hx hb dX7_type_34 rfl (lv_at hl 1 rfl) ?_
      have g_3 := og hf
      replace hf := (if_pos g_3).symm.trans hf
      refine va_iast hx hb hX.1 hP hD hS 4 0 (n := 60) (f := (K.1 3)) rfl rfl g_3 dX7_type_35 (fun H locs hP hD hS => ?_)
      obtain ⟨M_4, e_5, hf⟩ := bnd_e hf
      have hP : va_P D vwCl (wMod cI a M_4) H := by rw [e_5]; exact hP
      have hD : va_D A (wMod cI a M_4) := by rw [e_5]; exact hD
      clear e_5
      refine lv_aload_n hx hb dX7_type_36 rfl (lv_at hl 0 rfl) ?_
      refine lv_dup hx hb dX7_type_37 rfl ?_
      refine gX7_160 F hX hP 0 rfl (v := .int (M_4.2 2)) rfl dX7_type_38 ?_
      refine lv_iconst (v := 1) hx hb dX7_type_41 (by decide) ?_
      refine lv_iadd hx hb dX7_type_42 ?_
      refine pX7_160 F hX hP hD hS 0 rfl (Nat.le_of_ble_eq_true rfl) dX7_type_43 (fun H locs hP hD hS => ?_)
      obtain ⟨M_6, e_7, hf⟩ := bnd_e hf
      have hP : va_P D vwCl (wMod cI a M_6) H := by rw [e_7]; exact hP
      have hD : va_D A (wMod cI a M_6) := by rw [e_7]; exact hD
      clear e_7
      refine lv_aload_n hx hb dX7_type_46 rfl (lv_at hl 0 rfl) ?_
      refine gX7_160 F hX hP 0 rfl (v := .int (M_6.2 2)) rfl dX7_type_47 ?_
      obtain rfl := (Option.some.inj hf)
      exact wr_i F rfl hP hS dX7_type_50
    · replace hf := (if_pos c_2).symm.trans hf
      refine lv_ldc (v := (-1000003)) hx hb hown (hts _ q_860) dX7_type_23 ?_
      obtain rfl := (Option.some.inj hf)
      exact wr_i F rfl hP hS dX7_type_25
  · replace hf := (if_pos c_1).symm.trans hf
    refine lv_ldc (v := (-1000001)) hx hb hown (hts _ q_855) dX7_type_11 ?_
    obtain rfl := (Option.some.inj hf)
    exact wr_i F rfl hP hS dX7_type_13
def X7_clearText (K : SMod) : SMod × Int32 := (bnd (K.1, (up K.2 2 0)) fun M_1 => (M_1, (K.2 2)))
abbrev rm_X7_clearText : Room := { frames := 0, cells := 0, slots := 0, locals := 0 }
set_option maxHeartbeats 4000000 in
set_option maxRecDepth 100000 in
theorem c_X7_clearText (l : Launch) (D : va_G) (cI cP : ClassId) (a : Nat → Nat) (K : SMod) (z : SMod × Int32) (hf : X7_clearText K  = z) : MWi l yX7_clearText cX7_clearText 2 (some .int) rm_X7_clearText D cI cP [.ref (a 0)] (wMod cI a K) (wMod cI a z.1) z.2 := by
  refine MWi.of (by decide +kernel) (Nat.le_of_ble_eq_true rfl) ?_
  intro p e s m args below meth c ls A F hX hP hD hA hS hl
  have F : Fx p s m args meth c RX7 cX7_clearText 2 (some .int) := F
  have hx := F.1
  have hb := F.2.1
  have hown := F.2.2.2.1
  have hts := F.2.2.2.2.1
  have hl : lv_has ls 2 [(0, .ref (a 0))] := hl
  unfold X7_clearText at hf
  refine lv_aload_n hx hb dX7_clearText_0 rfl (lv_at hl 0 rfl) ?_
  refine gX7_160 F hX hP 0 rfl (v := .int (K.2 2)) rfl dX7_clearText_1 ?_
  refine lv_istore_n (lv' := [(1, .int (K.2 2)), (0, .ref (a 0))]) hx hb dX7_clearText_4 rfl hl (by decide) rfl (fun ls hl => ?_)
  refine lv_aload_n hx hb dX7_clearText_5 rfl (lv_at hl 1 rfl) ?_
  refine lv_iconst (v := 0) hx hb dX7_clearText_6 (by decide) ?_
  refine pX7_160 F hX hP hD hS 0 rfl (Nat.le_of_ble_eq_true rfl) dX7_clearText_7 (fun H locs hP hD hS => ?_)
  obtain ⟨M_1, e_2, hf⟩ := bnd_e hf
  have hP : va_P D vwCl (wMod cI a M_1) H := by rw [e_2]; exact hP
  have hD : va_D A (wMod cI a M_1) := by rw [e_2]; exact hD
  clear e_2
  refine lv_iload_n hx hb dX7_clearText_10 rfl (lv_at hl 0 rfl) ?_
  obtain rfl := hf
  exact wr_i F rfl hP hS dX7_clearText_11
def X7_isAt (K : SMod) (x1 : Int32) (x2 : Int32) : Option (Int32) := (if (K.2 2) ≤ (K.2 3) then some 0 else (if ¬ ((K.2 3) < 0 ∨ 60 ≤ Int32.toNatClampNeg (K.2 3)) then (if (X7_in ((K.1 3) (Int32.toNatClampNeg (K.2 3))) x1 x2) = 0 then some 0 else some 1) else none))
abbrev rm_X7_isAt : Room := { frames := 1, cells := 0, slots := 0, locals := 22 }
set_option maxHeartbeats 4000000 in
set_option maxRecDepth 100000 in
theorem c_X7_isAt (l : Launch) (D : va_G) (cI cP : ClassId) (a : Nat → Nat) (K : SMod) (x1 : Int32) (x2 : Int32) (z : Int32) (hf : X7_isAt K x1 x2 = some z) : MRd l yX7_isAt cX7_isAt 3 (some .boolean) rm_X7_isAt D cI cP [.ref (a 0), .int x1, .int x2] (wMod cI a K) z := by
  refine MRd.of (by decide +kernel) (Nat.le_of_ble_eq_true rfl) ?_
  intro p e s m args below meth c ls F hX hP hS hl
  have F : Fx p s m args meth c RX7 cX7_isAt 3 (some .boolean) := F
  have hx := F.1
  have hb := F.2.1
  have hown := F.2.2.2.1
  have hts := F.2.2.2.2.1
  have hA : ∀ q : Nat, s.heap.size ≤ q → (fun q : Nat => s.heap.size ≤ q) q := fun _ h => h
  have hl : lv_has ls 3 [(0, .ref (a 0)), (1, .int x1), (2, .int x2)] := hl
  unfold X7_isAt at hf
  refine lv_aload_n hx hb dX7_isAt_0 rfl (lv_at hl 0 rfl) ?_
  refine gX7_163 F hX hP 0 rfl (v := .int (K.2 3)) rfl dX7_isAt_1 ?_
  refine lv_aload_n hx hb dX7_isAt_4 rfl (lv_at hl 0 rfl) ?_
  refine gX7_160 F hX hP 0 rfl (v := .int (K.2 2)) rfl dX7_isAt_5 ?_
  refine lv_icmp_ge (tgt := 32) hx hb dX7_isAt_8 (by decide) (fun c_1 => ?_) (fun c_1 => ?_)
  · replace hf := (if_pos c_1).symm.trans hf
    refine lv_iconst (v := 0) hx hb dX7_isAt_32 (by decide) ?_
    exact rd_z F (by decide) (Option.some.inj hf) hS dX7_isAt_33
  · replace hf := (if_neg c_1).symm.trans hf
    refine lv_aload_n hx hb dX7_isAt_11 rfl (lv_at hl 0 rfl) ?_
    refine gX7_19 F hX hP 0 rfl (v := .ref (a 4)) rfl dX7_isAt_12 ?_
    refine lv_aload_n hx hb dX7_isAt_15 rfl (lv_at hl 0 rfl) ?_
    refine gX7_163 F hX hP 0 rfl (v := .int (K.2 3)) rfl dX7_isAt_16 ?_
    have g_2 := og hf
    replace hf := (if_pos g_2).symm.trans hf
    refine va_iald hx hb hX.1 hP 4 0 (n := 60) (f := (K.1 3)) rfl rfl g_2 dX7_isAt_19 ?_
    refine lv_iload_n hx hb dX7_isAt_20 rfl (lv_at hl 1 rfl) ?_
    refine lv_iload_n hx hb dX7_isAt_21 rfl (lv_at hl 2 rfl) ?_
    refine k_rd (runS F wdX7_45 (rm := rm_X7_in) (As := [.int ((K.1 3) (Int32.toNatClampNeg (K.2 3))), .int x1, .int x2]) (rest := []) ⟨rfl, rfl⟩ ⟨Nat.le_of_ble_eq_true rfl, Nat.le_of_ble_eq_true rfl⟩ hl.1 rfl rfl (Nat.le_of_ble_eq_true rfl) dX7_isAt_22 ⟨Nat.zero_le _, Nat.zero_le _⟩) (c_X7_in l D cI cP ((K.1 3) (Int32.toNatClampNeg (K.2 3))) x1 x2 _ rfl) hX trivial vP_nil hP hS hA (fun H locs hP hS => ?_)
    refine lv_if_eq (tgt := 32) hx hb dX7_isAt_25 (by decide) (fun c_3 => ?_) (fun c_3 => ?_)
    · replace hf := (if_pos c_3).symm.trans hf
      refine lv_iconst (v := 0) hx hb dX7_isAt_32 (by decide) ?_
      exact rd_z F (by decide) (Option.some.inj hf) hS dX7_isAt_33
    · replace hf := (if_neg c_3).symm.trans hf
      refine lv_iconst (v := 1) hx hb dX7_isAt_28 (by decide) ?_
      refine lv_goto (tgt := 33) hx hb dX7_isAt_29 (by decide) ?_
      exact rd_z F (by decide) (Option.some.inj hf) hS dX7_isAt_33
def X7_sign (K : SMod) (x1 : Int32) : Option (SMod × Int32) := ((X7_isAt K x1 x1).bind fun u_1 => (if u_1 = 0 then (bnd (K.1, (up K.2 3 ((K.2 3) + 0))) fun M_4 => (if (u_1 = 0 ∨ u_1 = 1) then some (M_4, u_1) else none)) else (bnd (K.1, (up K.2 3 ((K.2 3) + 1))) fun M_7 => (if (u_1 = 0 ∨ u_1 = 1) then some (M_7, u_1) else none))))
abbrev rm_X7_sign : Room := { frames := 2, cells := 0, slots := 0, locals := 44 }
set_option maxHeartbeats 4000000 in
set_option maxRecDepth 100000 in
theorem c_X7_sign (l : Launch) (D : va_G) (cI cP : ClassId) (a : Nat → Nat) (K : SMod) (x1 : Int32) (z : SMod × Int32) (hf : X7_sign K x1 = some z) : MWi l yX7_sign cX7_sign 3 (some .boolean) rm_X7_sign D cI cP [.ref (a 0), .int x1] (wMod cI a K) (wMod cI a z.1) z.2 := by
  refine MWi.of (by decide +kernel) (Nat.le_of_ble_eq_true rfl) ?_
  intro p e s m args below meth c ls A F hX hP hD hA hS hl
  have F : Fx p s m args meth c RX7 cX7_sign 3 (some .boolean) := F
  have hx := F.1
  have hb := F.2.1
  have hown := F.2.2.2.1
  have hts := F.2.2.2.2.1
  have hl : lv_has ls 3 [(0, .ref (a 0)), (1, .int x1)] := hl
  unfold X7_sign at hf
  refine lv_aload_n hx hb dX7_sign_0 rfl (lv_at hl 0 rfl) ?_
  refine lv_iload_n hx hb dX7_sign_1 rfl (lv_at hl 1 rfl) ?_
  refine lv_iload_n hx hb dX7_sign_2 rfl (lv_at hl 1 rfl) ?_
  obtain ⟨u_1, h_2, hf⟩ := ob hf
  refine k_rd (runV F wdX7_166 (rm := rm_X7_isAt) (As := [.int x1, .int x1]) (rest := []) ⟨rfl, rfl⟩ ⟨Nat.le_of_ble_eq_true rfl, Nat.le_of_ble_eq_true rfl⟩ hl.1 rfl rfl (Nat.le_of_ble_eq_true rfl) dX7_sign_3 ⟨Nat.zero_le _, Nat.zero_le _⟩) (c_X7_isAt l D cI cP a K x1 x1 _ h_2) hX (va_recv hX.1 hP (ci := 7) (q0 := 0) rfl rfl) hP hP hS hA (fun H locs hP hS => ?_)
  refine lv_istore_n (lv' := [(2, .int u_1), (0, .ref (a 0)), (1, .int x1)]) hx hb dX7_sign_6 rfl hl (by decide) rfl (fun ls hl => ?_)
  refine lv_aload_n hx hb dX7_sign_7 rfl (lv_at hl 1 rfl) ?_
  refine lv_dup hx hb dX7_sign_8 rfl ?_
  refine gX7_163 F hX hP 0 rfl (v := .int (K.2 3)) rfl dX7_sign_9 ?_
  refine lv_iload_n hx hb dX7_sign_12 rfl (lv_at hl 0 rfl) ?_
  refine lv_if_eq (tgt := 20) hx hb dX7_sign_13 (by decide) (fun c_3 => ?_) (fun c_3 => ?_)
  · replace hf := (if_pos c_3).symm.trans hf
    refine lv_iconst (v := 0) hx hb dX7_sign_20 (by decide) ?_
    refine lv_iadd hx hb dX7_sign_21 ?_
    refine pX7_163 F hX hP hD hS 0 rfl (Nat.le_of_ble_eq_true rfl) dX7_sign_22 (fun H locs hP hD hS => ?_)
    obtain ⟨M_4, e_5, hf⟩ := bnd_e hf
    have hP : va_P D vwCl (wMod cI a M_4) H := by rw [e_5]; exact hP
    have hD : va_D A (wMod cI a M_4) := by rw [e_5]; exact hD
    clear e_5
    refine lv_iload_n hx hb dX7_sign_25 rfl (lv_at hl 0 rfl) ?_
    have g_6 := og hf
    replace hf := (if_pos g_6).symm.trans hf
    obtain rfl := (Option.some.inj hf)
    exact wr_z F g_6 rfl hP hS dX7_sign_26
  · replace hf := (if_neg c_3).symm.trans hf
    refine lv_iconst (v := 1) hx hb dX7_sign_16 (by decide) ?_
    refine lv_goto (tgt := 21) hx hb dX7_sign_17 (by decide) ?_
    refine lv_iadd hx hb dX7_sign_21 ?_
    refine pX7_163 F hX hP hD hS 0 rfl (Nat.le_of_ble_eq_true rfl) dX7_sign_22 (fun H locs hP hD hS => ?_)
    obtain ⟨M_7, e_8, hf⟩ := bnd_e hf
    have hP : va_P D vwCl (wMod cI a M_7) H := by rw [e_8]; exact hP
    have hD : va_D A (wMod cI a M_7) := by rw [e_8]; exact hD
    clear e_8
    refine lv_iload_n hx hb dX7_sign_25 rfl (lv_at hl 0 rfl) ?_
    have g_9 := og hf
    replace hf := (if_pos g_9).symm.trans hf
    obtain rfl := (Option.some.inj hf)
    exact wr_z F g_9 rfl hP hS dX7_sign_26
def X7_numbered_L12 : Nat → SMod → Int32 → Int32 → Option (SMod)
  | 0, _, _, _ => none
  | fu + 1, K_12, x1_12, x2_12 => ((X7_isAt K_12 48 57).bind fun u_4 => (if u_4 = 0 then some K_12 else (if 2 ≤ ((K_12.2 3) - x2_12) then some K_12 else (if ¬ (x1_12 < 0 ∨ 3 ≤ Int32.toNatClampNeg x1_12) then (if ¬ ((K_12.2 3) < 0 ∨ 60 ≤ Int32.toNatClampNeg (K_12.2 3)) then (bnd ((up K_12.1 8 (upd (K_12.1 8) (Int32.toNatClampNeg x1_12) (((10 * ((K_12.1 8) (Int32.toNatClampNeg x1_12))) + ((K_12.1 3) (Int32.toNatClampNeg (K_12.2 3)))) - 48))), K_12.2) fun M_10 => (bnd (M_10.1, (up M_10.2 3 ((M_10.2 3) + 1))) fun M_12 => X7_numbered_L12 fu M_12 x1_12 x2_12)) else none) else none))))
def X7_numbered (K : SMod) (x1 : Int32) : Option (SMod × Int32) := (if ¬ (x1 < 0 ∨ 3 ≤ Int32.toNatClampNeg x1) then (bnd ((up K.1 8 (upd (K.1 8) (Int32.toNatClampNeg x1) 0)), K.2) fun M_2 => ((X7_numbered_L12 FUEL M_2 x1 (K.2 3)).bind fun u_14 => (if (u_14.2 3) ≤ (K.2 3) then some (u_14, 0) else some (u_14, 1)))) else none)
abbrev rm_X7_numbered : Room := { frames := 2, cells := 0, slots := 0, locals := 44 }
set_option maxHeartbeats 4000000 in
set_option maxRecDepth 100000 in
theorem c_X7_numbered (l : Launch) (D : va_G) (cI cP : ClassId) (a : Nat → Nat) (K : SMod) (x1 : Int32) (z : SMod × Int32) (hf : X7_numbered K x1 = some z) : MWi l yX7_numbered cX7_numbered 3 (some .boolean) rm_X7_numbered D cI cP [.ref (a 0), .int x1] (wMod cI a K) (wMod cI a z.1) z.2 := by
  refine MWi.of (by decide +kernel) (Nat.le_of_ble_eq_true rfl) ?_
  intro p e s m args below meth c ls A F hX hP hD hA hS hl
  have F : Fx p s m args meth c RX7 cX7_numbered 3 (some .boolean) := F
  have hx := F.1
  have hb := F.2.1
  have hown := F.2.2.2.1
  have hts := F.2.2.2.2.1
  have hl : lv_has ls 3 [(0, .ref (a 0)), (1, .int x1)] := hl
  unfold X7_numbered at hf
  refine lv_aload_n hx hb dX7_numbered_0 rfl (lv_at hl 0 rfl) ?_
  refine gX7_163 F hX hP 0 rfl (v := .int (K.2 3)) rfl dX7_numbered_1 ?_
  refine lv_istore_n (lv' := [(2, .int (K.2 3)), (0, .ref (a 0)), (1, .int x1)]) hx hb dX7_numbered_4 rfl hl (by decide) rfl (fun ls hl => ?_)
  refine lv_aload_n hx hb dX7_numbered_5 rfl (lv_at hl 1 rfl) ?_
  refine gX7_34 F hX hP 0 rfl (v := .ref (a 9)) rfl dX7_numbered_6 ?_
  refine lv_iload_n hx hb dX7_numbered_9 rfl (lv_at hl 2 rfl) ?_
  refine lv_iconst (v := 0) hx hb dX7_numbered_10 (by decide) ?_
  have g_1 := og hf
  replace hf := (if_pos g_1).symm.trans hf
  refine va_iast hx hb hX.1 hP hD hS 9 0 (n := 3) (f := (K.1 8)) rfl rfl g_1 dX7_numbered_11 (fun H locs hP hD hS => ?_)
  obtain ⟨M_2, e_3, hf⟩ := bnd_e hf
  have hP : va_P D vwCl (wMod cI a M_2) H := by rw [e_3]; exact hP
  have hD : va_D A (wMod cI a M_2) := by rw [e_3]; exact hD
  clear e_3
  have hL_12 : ∀ (fu : Nat) (K_12 : SMod) (x1_12 : Int32) (x2_12 : Int32) (v : SMod) (H : Heap) (locs : List Loc) (ls : Array Slot), X7_numbered_L12 fu K_12 x1_12 x2_12 = some v → va_P D vwCl (wMod cI a K_12) H → va_D A (wMod cI a K_12) → va_S A s.heap H locs → lv_has ls 3 [(0, .ref (a 0)), (1, .int x1_12), (2, .int x2_12)] → (∀ (H : Heap) (locs : List Loc) (ls : Array Slot), va_P D vwCl (wMod cI a v) H → va_D A (wMod cI a v) → va_S A s.heap H locs → lv_has ls 3 [(0, .ref (a 0)), (2, .int x2_12)] → W p l e rm_X7_numbered s m args below meth c H locs 0 0 (QWi D below args s A (wMod cI a z.1) z.2) (F0 m 74 ls [])) → W p l e rm_X7_numbered s m args below meth c H locs 0 0 (QWi D below args s A (wMod cI a z.1) z.2) (F0 m 12 ls []) := by
    intro fu
    induction fu with
    | zero =>
      intro K_12 x1_12 x2_12 v H locs ls hf
      exact absurd hf (by simp [X7_numbered_L12])
    | succ fu ih =>
      intro K_12 x1_12 x2_12 v _ _ ls hf hP hD hS hl hk
      rw [X7_numbered_L12] at hf
      refine lv_aload_n hx hb dX7_numbered_12 rfl (lv_at hl 0 rfl) ?_
      refine lv_bipush (v := 48) hx hb dX7_numbered_13 (by decide) ?_
      refine lv_bipush (v := 57) hx hb dX7_numbered_15 (by decide) ?_
      obtain ⟨u_4, h_5, hf⟩ := ob hf
      refine k_rd (runV F wdX7_166 (rm := rm_X7_isAt) (As := [.int 48, .int 57]) (rest := []) ⟨rfl, rfl⟩ ⟨Nat.le_of_ble_eq_true rfl, Nat.le_of_ble_eq_true rfl⟩ hl.1 rfl rfl (Nat.le_of_ble_eq_true rfl) dX7_numbered_17 ⟨Nat.zero_le _, Nat.zero_le _⟩) (c_X7_isAt l D cI cP a K_12 48 57 _ h_5) hX (va_recv hX.1 hP (ci := 7) (q0 := 0) rfl rfl) hP hP hS hA (fun H locs hP hS => ?_)
      refine lv_if_eq (tgt := 74) hx hb dX7_numbered_20 (by decide) (fun c_6 => ?_) (fun c_6 => ?_)
      · replace hf := (if_pos c_6).symm.trans hf
        obtain rfl := Option.some.inj hf
        exact hk _ _ ls hP hD hS (lv_sub hl [0, 2] rfl)
      · replace hf := (if_neg c_6).symm.trans hf
        refine lv_aload_n hx hb dX7_numbered_23 rfl (lv_at hl 0 rfl) ?_
        refine gX7_163 F hX hP 0 rfl (v := .int (K_12.2 3)) rfl dX7_numbered_24 ?_
        refine lv_iload_n hx hb dX7_numbered_27 rfl (lv_at hl 2 rfl) ?_
        refine lv_isub hx hb dX7_numbered_28 ?_
        refine lv_iconst (v := 2) hx hb dX7_numbered_29 (by decide) ?_
        refine lv_icmp_ge (tgt := 74) hx hb dX7_numbered_30 (by decide) (fun c_7 => ?_) (fun c_7 => ?_)
        · replace hf := (if_pos c_7).symm.trans hf
          obtain rfl := Option.some.inj hf
          exact hk _ _ ls hP hD hS (lv_sub hl [0, 2] rfl)
        · replace hf := (if_neg c_7).symm.trans hf
          refine lv_aload_n hx hb dX7_numbered_33 rfl (lv_at hl 0 rfl) ?_
          refine gX7_34 F hX hP 0 rfl (v := .ref (a 9)) rfl dX7_numbered_34 ?_
          refine lv_iload_n hx hb dX7_numbered_37 rfl (lv_at hl 1 rfl) ?_
          refine lv_bipush (v := 10) hx hb dX7_numbered_38 (by decide) ?_
          refine lv_aload_n hx hb dX7_numbered_40 rfl (lv_at hl 0 rfl) ?_
          refine gX7_34 F hX hP 0 rfl (v := .ref (a 9)) rfl dX7_numbered_41 ?_
          refine lv_iload_n hx hb dX7_numbered_44 rfl (lv_at hl 1 rfl) ?_
          have g_8 := og hf
          replace hf := (if_pos g_8).symm.trans hf
          refine va_iald hx hb hX.1 hP 9 0 (n := 3) (f := (K_12.1 8)) rfl rfl g_8 dX7_numbered_45 ?_
          refine lv_imul hx hb dX7_numbered_46 ?_
          refine lv_aload_n hx hb dX7_numbered_47 rfl (lv_at hl 0 rfl) ?_
          refine gX7_19 F hX hP 0 rfl (v := .ref (a 4)) rfl dX7_numbered_48 ?_
          refine lv_aload_n hx hb dX7_numbered_51 rfl (lv_at hl 0 rfl) ?_
          refine gX7_163 F hX hP 0 rfl (v := .int (K_12.2 3)) rfl dX7_numbered_52 ?_
          have g_9 := og hf
          replace hf := (if_pos g_9).symm.trans hf
          refine va_iald hx hb hX.1 hP 4 0 (n := 60) (f := (K_12.1 3)) rfl rfl g_9 dX7_numbered_55 ?_
          refine lv_iadd hx hb dX7_numbered_56 ?_
          refine lv_bipush (v := 48) hx hb dX7_numbered_57 (by decide) ?_
          refine lv_isub hx hb dX7_numbered_59 ?_
          refine va_iast hx hb hX.1 hP hD hS 9 0 (n := 3) (f := (K_12.1 8)) rfl rfl g_8 dX7_numbered_60 (fun H locs hP hD hS => ?_)
          obtain ⟨M_10, e_11, hf⟩ := bnd_e hf
          have hP : va_P D vwCl (wMod cI a M_10) H := by rw [e_11]; exact hP
          have hD : va_D A (wMod cI a M_10) := by rw [e_11]; exact hD
          clear e_11
          refine lv_aload_n hx hb dX7_numbered_61 rfl (lv_at hl 0 rfl) ?_
          refine lv_dup hx hb dX7_numbered_62 rfl ?_
          refine gX7_163 F hX hP 0 rfl (v := .int (M_10.2 3)) rfl dX7_numbered_63 ?_
          refine lv_iconst (v := 1) hx hb dX7_numbered_66 (by decide) ?_
          refine lv_iadd hx hb dX7_numbered_67 ?_
          refine pX7_163 F hX hP hD hS 0 rfl (Nat.le_of_ble_eq_true rfl) dX7_numbered_68 (fun H locs hP hD hS => ?_)
          obtain ⟨M_12, e_13, hf⟩ := bnd_e hf
          have hP : va_P D vwCl (wMod cI a M_12) H := by rw [e_13]; exact hP
          have hD : va_D A (wMod cI a M_12) := by rw [e_13]; exact hD
          clear e_13
          refine lv_goto (tgt := 12) hx hb dX7_numbered_71 (by decide) ?_
          exact ih M_12 x1_12 x2_12 _ _ _ ls hf hP hD hS hl hk
  obtain ⟨u_14, h_15, hf⟩ := ob hf
  refine hL_12 FUEL M_2 x1 (K.2 3) u_14 _ _ ls h_15 hP hD hS (lv_sub hl [1, 2, 0] rfl) (fun H locs ls hP hD hS hl => ?_)
  clear hL_12
  refine lv_aload_n hx hb dX7_numbered_74 rfl (lv_at hl 0 rfl) ?_
  refine gX7_163 F hX hP 0 rfl (v := .int (u_14.2 3)) rfl dX7_numbered_75 ?_
  refine lv_iload_n hx hb dX7_numbered_78 rfl (lv_at hl 1 rfl) ?_
  refine lv_icmp_le (tgt := 86) hx hb dX7_numbered_79 (by decide) (fun c_16 => ?_) (fun c_16 => ?_)
  · replace hf := (if_pos c_16).symm.trans hf
    refine lv_iconst (v := 0) hx hb dX7_numbered_86 (by decide) ?_
    obtain rfl := (Option.some.inj hf)
    exact wr_z F (by decide) rfl hP hS dX7_numbered_87
  · replace hf := (if_neg c_16).symm.trans hf
    refine lv_iconst (v := 1) hx hb dX7_numbered_82 (by decide) ?_
    refine lv_goto (tgt := 87) hx hb dX7_numbered_83 (by decide) ?_
    obtain rfl := (Option.some.inj hf)
    exact wr_z F (by decide) rfl hP hS dX7_numbered_87
def X7_parses_J9 (K_9 : SMod) (t0_9 : Int32) : Option (Int32) := (if t0_9 = 0 then some 0 else (if ¬ ((K_9.2 3) < 0 ∨ 60 ≤ Int32.toNatClampNeg (K_9.2 3)) then some ((K_9.1 3) (Int32.toNatClampNeg (K_9.2 3))) else none))
def X7_parses_J53 (K_53 : SMod) (x1_53 : Int32) (t0_53 : Int32) : Option (SMod × Int32) := (if t0_53 = 0 then some (K_53, 1) else ((X7_numbered K_53 0).bind fun u_13 => (if u_13.2 = 0 then some (u_13.1, 0) else some (u_13.1, 1))))
def X7_parses_L72 : Nat → SMod → Int32 → Int32 → Int32 → Option (SMod × Int32)
  | 0, _, _, _, _ => none
  | fu + 1, K_72, x1_72, x2_72, x3_72 => (if x1_72 ≤ x3_72 then some (K_72, x2_72) else (if x2_72 = 0 then some (K_72, x2_72) else ((X7_sign K_72 44).bind fun u_20 => (if u_20.2 = 0 then X7_parses_L72 fu u_20.1 x1_72 0 (x3_72 + 1) else ((X7_numbered u_20.1 x3_72).bind fun u_23 => (if u_23.2 = 0 then X7_parses_L72 fu u_23.1 x1_72 0 (x3_72 + 1) else X7_parses_L72 fu u_23.1 x1_72 1 (x3_72 + 1)))))))
def X7_parses (K : SMod) : Option (SMod × Int32) := ((X7_isAt K 33 126).bind fun u_1 => ((X7_parses_J9 K u_1).bind fun u_5 => (bnd (K.1, (up K.2 8 u_5)) fun M_7 => (if 0 ≤ (X7_numbersOf (M_7.2 8)) then (bnd (M_7.1, (up M_7.2 3 ((M_7.2 3) + 1))) fun M_10 => ((X7_parses_J53 M_10 (X7_numbersOf (M_7.2 8)) (X7_numbersOf (M_7.2 8))).bind fun u_16 => ((X7_parses_L72 FUEL u_16.1 (X7_numbersOf (M_7.2 8)) u_16.2 1).bind fun u_26 => (if u_26.2 = 0 then some (u_26.1, 0) else ((X7_sign u_26.1 59).bind fun u_29 => (if u_29.2 = 0 then some (u_29.1, 0) else some (u_29.1, 1))))))) else some (M_7, 0)))))
abbrev rm_X7_parses : Room := { frames := 3, cells := 0, slots := 0, locals := 66 }
set_option maxHeartbeats 4000000 in
set_option maxRecDepth 100000 in
theorem c_X7_parses (l : Launch) (D : va_G) (cI cP : ClassId) (a : Nat → Nat) (K : SMod) (z : SMod × Int32) (hf : X7_parses K  = some z) : MWi l yX7_parses cX7_parses 4 (some .boolean) rm_X7_parses D cI cP [.ref (a 0)] (wMod cI a K) (wMod cI a z.1) z.2 := by
  refine MWi.of (by decide +kernel) (Nat.le_of_ble_eq_true rfl) ?_
  intro p e s m args below meth c ls A F hX hP hD hA hS hl
  have F : Fx p s m args meth c RX7 cX7_parses 4 (some .boolean) := F
  have hx := F.1
  have hb := F.2.1
  have hown := F.2.2.2.1
  have hts := F.2.2.2.2.1
  have hl : lv_has ls 4 [(0, .ref (a 0))] := hl
  unfold X7_parses at hf
  refine lv_aload_n hx hb dX7_parses_0 rfl (lv_at hl 0 rfl) ?_
  refine lv_aload_n hx hb dX7_parses_1 rfl (lv_at hl 0 rfl) ?_
  refine lv_bipush (v := 33) hx hb dX7_parses_2 (by decide) ?_
  refine lv_bipush (v := 126) hx hb dX7_parses_4 (by decide) ?_
  obtain ⟨u_1, h_2, hf⟩ := ob hf
  refine k_rd (runV F wdX7_166 (rm := rm_X7_isAt) (As := [.int 33, .int 126]) (rest := [.ref (a 0)]) ⟨rfl, rfl⟩ ⟨Nat.le_of_ble_eq_true rfl, Nat.le_of_ble_eq_true rfl⟩ hl.1 rfl rfl (Nat.le_of_ble_eq_true rfl) dX7_parses_6 ⟨Nat.zero_le _, Nat.zero_le _⟩) (c_X7_isAt l D cI cP a K 33 126 _ h_2) hX (va_recv hX.1 hP (ci := 7) (q0 := 0) rfl rfl) hP hP hS hA (fun H locs hP hS => ?_)
  have hJ_9 : ∀ (K_9 : SMod) (t0_9 : Int32) (v : Int32) (H : Heap) (locs : List Loc) (ls : Array Slot), X7_parses_J9 K_9 t0_9 = some v → va_P D vwCl (wMod cI a K_9) H → va_D A (wMod cI a K_9) → va_S A s.heap H locs → lv_has ls 4 [(0, .ref (a 0))] → (∀ (H : Heap) (locs : List Loc) (ls : Array Slot), va_P D vwCl (wMod cI a K_9) H → va_D A (wMod cI a K_9) → va_S A s.heap H locs → lv_has ls 4 [(0, .ref (a 0))] → W p l e rm_X7_parses s m args below meth c H locs 0 0 (QWi D below args s A (wMod cI a z.1) z.2) (F0 m 25 ls [.int v, .ref (a 0)])) → W p l e rm_X7_parses s m args below meth c H locs 0 0 (QWi D below args s A (wMod cI a z.1) z.2) (F0 m 9 ls [.int t0_9, .ref (a 0)]) := by
    intro K_9 t0_9 v _ _ ls hf hP hD hS hl hk
    unfold X7_parses_J9 at hf
    refine lv_if_eq (tgt := 24) hx hb dX7_parses_9 (by decide) (fun c_3 => ?_) (fun c_3 => ?_)
    · replace hf := (if_pos c_3).symm.trans hf
      refine lv_iconst (v := 0) hx hb dX7_parses_24 (by decide) ?_
      obtain rfl := Option.some.inj hf
      exact hk _ _ ls hP hD hS hl
    · replace hf := (if_neg c_3).symm.trans hf
      refine lv_aload_n hx hb dX7_parses_12 rfl (lv_at hl 0 rfl) ?_
      refine gX7_19 F hX hP 0 rfl (v := .ref (a 4)) rfl dX7_parses_13 ?_
      refine lv_aload_n hx hb dX7_parses_16 rfl (lv_at hl 0 rfl) ?_
      refine gX7_163 F hX hP 0 rfl (v := .int (K_9.2 3)) rfl dX7_parses_17 ?_
      have g_4 := og hf
      replace hf := (if_pos g_4).symm.trans hf
      refine va_iald hx hb hX.1 hP 4 0 (n := 60) (f := (K_9.1 3)) rfl rfl g_4 dX7_parses_20 ?_
      refine lv_goto (tgt := 25) hx hb dX7_parses_21 (by decide) ?_
      obtain rfl := Option.some.inj hf
      exact hk _ _ ls hP hD hS hl
  obtain ⟨u_5, h_6, hf⟩ := ob hf
  refine hJ_9 K u_1 u_5 _ _ ls h_6 hP hD hS hl (fun H locs ls hP hD hS hl => ?_)
  clear hJ_9
  refine pX7_169 F hX hP hD hS 0 rfl (Nat.le_of_ble_eq_true rfl) dX7_parses_25 (fun H locs hP hD hS => ?_)
  obtain ⟨M_7, e_8, hf⟩ := bnd_e hf
  have hP : va_P D vwCl (wMod cI a M_7) H := by rw [e_8]; exact hP
  have hD : va_D A (wMod cI a M_7) := by rw [e_8]; exact hD
  clear e_8
  refine lv_aload_n hx hb dX7_parses_28 rfl (lv_at hl 0 rfl) ?_
  refine gX7_169 F hX hP 0 rfl (v := .int (M_7.2 8)) rfl dX7_parses_29 ?_
  refine k_rd (runS F wdX7_172 (rm := rm_X7_numbersOf) (As := [.int (M_7.2 8)]) (rest := []) ⟨rfl, rfl⟩ ⟨Nat.le_of_ble_eq_true rfl, Nat.le_of_ble_eq_true rfl⟩ hl.1 rfl rfl (Nat.le_of_ble_eq_true rfl) dX7_parses_32 ⟨Nat.zero_le _, Nat.zero_le _⟩) (c_X7_numbersOf l D cI cP (M_7.2 8) _ rfl) hX trivial vP_nil hP hS hA (fun H locs hP hS => ?_)
  refine lv_istore_n (lv' := [(1, .int (X7_numbersOf (M_7.2 8))), (0, .ref (a 0))]) hx hb dX7_parses_35 rfl hl (by decide) rfl (fun ls hl => ?_)
  refine lv_iload_n hx hb dX7_parses_36 rfl (lv_at hl 0 rfl) ?_
  refine lv_if_ge (tgt := 42) hx hb dX7_parses_37 (by decide) (fun c_9 => ?_) (fun c_9 => ?_)
  · replace hf := (if_pos c_9).symm.trans hf
    refine lv_aload_n hx hb dX7_parses_42 rfl (lv_at hl 1 rfl) ?_
    refine lv_dup hx hb dX7_parses_43 rfl ?_
    refine gX7_163 F hX hP 0 rfl (v := .int (M_7.2 3)) rfl dX7_parses_44 ?_
    refine lv_iconst (v := 1) hx hb dX7_parses_47 (by decide) ?_
    refine lv_iadd hx hb dX7_parses_48 ?_
    refine pX7_163 F hX hP hD hS 0 rfl (Nat.le_of_ble_eq_true rfl) dX7_parses_49 (fun H locs hP hD hS => ?_)
    obtain ⟨M_10, e_11, hf⟩ := bnd_e hf
    have hP : va_P D vwCl (wMod cI a M_10) H := by rw [e_11]; exact hP
    have hD : va_D A (wMod cI a M_10) := by rw [e_11]; exact hD
    clear e_11
    refine lv_iload_n hx hb dX7_parses_52 rfl (lv_at hl 0 rfl) ?_
    have hJ_53 : ∀ (K_53 : SMod) (x1_53 : Int32) (t0_53 : Int32) (v : SMod × Int32) (H : Heap) (locs : List Loc) (ls : Array Slot), X7_parses_J53 K_53 x1_53 t0_53 = some v → va_P D vwCl (wMod cI a K_53) H → va_D A (wMod cI a K_53) → va_S A s.heap H locs → lv_has ls 4 [(1, .int x1_53), (0, .ref (a 0))] → (∀ (H : Heap) (locs : List Loc) (ls : Array Slot), va_P D vwCl (wMod cI a v.1) H → va_D A (wMod cI a v.1) → va_S A s.heap H locs → lv_has ls 4 [(0, .ref (a 0)), (1, .int x1_53)] → W p l e rm_X7_parses s m args below meth c H locs 0 0 (QWi D below args s A (wMod cI a z.1) z.2) (F0 m 69 ls [.int v.2])) → W p l e rm_X7_parses s m args below meth c H locs 0 0 (QWi D below args s A (wMod cI a z.1) z.2) (F0 m 53 ls [.int t0_53]) := by
      intro K_53 x1_53 t0_53 v _ _ ls hf hP hD hS hl hk
      unfold X7_parses_J53 at hf
      refine lv_if_eq (tgt := 64) hx hb dX7_parses_53 (by decide) (fun c_12 => ?_) (fun c_12 => ?_)
      · replace hf := (if_pos c_12).symm.trans hf
        refine lv_iconst (v := 1) hx hb dX7_parses_64 (by decide) ?_
        refine lv_goto (tgt := 69) hx hb dX7_parses_65 (by decide) ?_
        obtain rfl := Option.some.inj hf
        exact hk _ _ ls hP hD hS (lv_sub hl [1, 0] rfl)
      · replace hf := (if_neg c_12).symm.trans hf
        refine lv_aload_n hx hb dX7_parses_56 rfl (lv_at hl 1 rfl) ?_
        refine lv_iconst (v := 0) hx hb dX7_parses_57 (by decide) ?_
        obtain ⟨u_13, h_14, hf⟩ := ob hf
        refine k_wi (runV F wdX7_175 (rm := rm_X7_numbered) (As := [.int 0]) (rest := []) ⟨rfl, rfl⟩ ⟨Nat.le_of_ble_eq_true rfl, Nat.le_of_ble_eq_true rfl⟩ hl.1 rfl rfl (Nat.le_of_ble_eq_true rfl) dX7_parses_58 ⟨Nat.zero_le _, Nat.zero_le _⟩) (c_X7_numbered l D cI cP a K_53 0 _ h_14) hX (va_recv hX.1 hP (ci := 7) (q0 := 0) rfl rfl) (Cut.all rfl) hP hD hS hA (fun H locs hP hD hS => ?_)
        have hP : va_P D vwCl (wMod cI a u_13.1) H := hP
        have hD : va_D A (wMod cI a u_13.1) := hD
        refine lv_if_eq (tgt := 68) hx hb dX7_parses_61 (by decide) (fun c_15 => ?_) (fun c_15 => ?_)
        · replace hf := (if_pos c_15).symm.trans hf
          refine lv_iconst (v := 0) hx hb dX7_parses_68 (by decide) ?_
          obtain rfl := Option.some.inj hf
          exact hk _ _ ls hP hD hS (lv_sub hl [1, 0] rfl)
        · replace hf := (if_neg c_15).symm.trans hf
          refine lv_iconst (v := 1) hx hb dX7_parses_64 (by decide) ?_
          refine lv_goto (tgt := 69) hx hb dX7_parses_65 (by decide) ?_
          obtain rfl := Option.some.inj hf
          exact hk _ _ ls hP hD hS (lv_sub hl [1, 0] rfl)
    obtain ⟨u_16, h_17, hf⟩ := ob hf
    refine hJ_53 M_10 (X7_numbersOf (M_7.2 8)) (X7_numbersOf (M_7.2 8)) u_16 _ _ ls h_17 hP hD hS hl (fun H locs ls hP hD hS hl => ?_)
    clear hJ_53
    refine lv_istore_n (lv' := [(2, .int u_16.2), (0, .ref (a 0)), (1, .int (X7_numbersOf (M_7.2 8)))]) hx hb dX7_parses_69 rfl hl (by decide) rfl (fun ls hl => ?_)
    refine lv_iconst (v := 1) hx hb dX7_parses_70 (by decide) ?_
    refine lv_istore_n (lv' := [(3, .int 1), (2, .int u_16.2), (0, .ref (a 0)), (1, .int (X7_numbersOf (M_7.2 8)))]) hx hb dX7_parses_71 rfl hl (by decide) rfl (fun ls hl => ?_)
    have hL_72 : ∀ (fu : Nat) (K_72 : SMod) (x1_72 : Int32) (x2_72 : Int32) (x3_72 : Int32) (v : SMod × Int32) (H : Heap) (locs : List Loc) (ls : Array Slot), X7_parses_L72 fu K_72 x1_72 x2_72 x3_72 = some v → va_P D vwCl (wMod cI a K_72) H → va_D A (wMod cI a K_72) → va_S A s.heap H locs → lv_has ls 4 [(0, .ref (a 0)), (1, .int x1_72), (2, .int x2_72), (3, .int x3_72)] → (∀ (H : Heap) (locs : List Loc) (ls : Array Slot), va_P D vwCl (wMod cI a v.1) H → va_D A (wMod cI a v.1) → va_S A s.heap H locs → lv_has ls 4 [(0, .ref (a 0)), (2, .int v.2)] → W p l e rm_X7_parses s m args below meth c H locs 0 0 (QWi D below args s A (wMod cI a z.1) z.2) (F0 m 110 ls [])) → W p l e rm_X7_parses s m args below meth c H locs 0 0 (QWi D below args s A (wMod cI a z.1) z.2) (F0 m 72 ls []) := by
      intro fu
      induction fu with
      | zero =>
        intro K_72 x1_72 x2_72 x3_72 v H locs ls hf
        exact absurd hf (by simp [X7_parses_L72])
      | succ fu ih =>
        intro K_72 x1_72 x2_72 x3_72 v _ _ ls hf hP hD hS hl hk
        rw [X7_parses_L72] at hf
        refine lv_iload_n hx hb dX7_parses_72 rfl (lv_at hl 3 rfl) ?_
        refine lv_iload_n hx hb dX7_parses_73 rfl (lv_at hl 1 rfl) ?_
        refine lv_icmp_ge (tgt := 110) hx hb dX7_parses_74 (by decide) (fun c_18 => ?_) (fun c_18 => ?_)
        · replace hf := (if_pos c_18).symm.trans hf
          obtain rfl := Option.some.inj hf
          exact hk _ _ ls hP hD hS (lv_sub hl [0, 2] rfl)
        · replace hf := (if_neg c_18).symm.trans hf
          refine lv_iload_n hx hb dX7_parses_77 rfl (lv_at hl 2 rfl) ?_
          refine lv_if_eq (tgt := 110) hx hb dX7_parses_78 (by decide) (fun c_19 => ?_) (fun c_19 => ?_)
          · replace hf := (if_pos c_19).symm.trans hf
            obtain rfl := Option.some.inj hf
            exact hk _ _ ls hP hD hS (lv_sub hl [0, 2] rfl)
          · replace hf := (if_neg c_19).symm.trans hf
            refine lv_aload_n hx hb dX7_parses_81 rfl (lv_at hl 0 rfl) ?_
            refine lv_bipush (v := 44) hx hb dX7_parses_82 (by decide) ?_
            obtain ⟨u_20, h_21, hf⟩ := ob hf
            refine k_wi (runV F wdX7_178 (rm := rm_X7_sign) (As := [.int 44]) (rest := []) ⟨rfl, rfl⟩ ⟨Nat.le_of_ble_eq_true rfl, Nat.le_of_ble_eq_true rfl⟩ hl.1 rfl rfl (Nat.le_of_ble_eq_true rfl) dX7_parses_84 ⟨Nat.zero_le _, Nat.zero_le _⟩) (c_X7_sign l D cI cP a K_72 44 _ h_21) hX (va_recv hX.1 hP (ci := 7) (q0 := 0) rfl rfl) (Cut.all rfl) hP hD hS hA (fun H locs hP hD hS => ?_)
            have hP : va_P D vwCl (wMod cI a u_20.1) H := hP
            have hD : va_D A (wMod cI a u_20.1) := hD
            refine lv_if_eq (tgt := 102) hx hb dX7_parses_87 (by decide) (fun c_22 => ?_) (fun c_22 => ?_)
            · replace hf := (if_pos c_22).symm.trans hf
              refine lv_iconst (v := 0) hx hb dX7_parses_102 (by decide) ?_
              refine lv_istore_n (lv' := [(2, .int 0), (0, .ref (a 0)), (1, .int x1_72), (3, .int x3_72)]) hx hb dX7_parses_103 rfl hl (by decide) rfl (fun ls hl => ?_)
              refine lv_iinc (v := (x3_72 + 1)) (lv' := [(3, .int (x3_72 + 1)), (2, .int 0), (0, .ref (a 0)), (1, .int x1_72)]) hx hb dX7_parses_104 hl (k := 3) rfl (by rfl) (by decide) rfl (fun ls hl => ?_)
              refine lv_goto (tgt := 72) hx hb dX7_parses_107 (by decide) ?_
              exact ih u_20.1 x1_72 0 (x3_72 + 1) _ _ _ ls hf hP hD hS (lv_sub hl [2, 3, 1, 0] rfl) hk
            · replace hf := (if_neg c_22).symm.trans hf
              refine lv_aload_n hx hb dX7_parses_90 rfl (lv_at hl 0 rfl) ?_
              refine lv_iload_n hx hb dX7_parses_91 rfl (lv_at hl 3 rfl) ?_
              obtain ⟨u_23, h_24, hf⟩ := ob hf
              refine k_wi (runV F wdX7_175 (rm := rm_X7_numbered) (As := [.int x3_72]) (rest := []) ⟨rfl, rfl⟩ ⟨Nat.le_of_ble_eq_true rfl, Nat.le_of_ble_eq_true rfl⟩ hl.1 rfl rfl (Nat.le_of_ble_eq_true rfl) dX7_parses_92 ⟨Nat.zero_le _, Nat.zero_le _⟩) (c_X7_numbered l D cI cP a u_20.1 x3_72 _ h_24) hX (va_recv hX.1 hP (ci := 7) (q0 := 0) rfl rfl) (Cut.all rfl) hP hD hS hA (fun H locs hP hD hS => ?_)
              have hP : va_P D vwCl (wMod cI a u_23.1) H := hP
              have hD : va_D A (wMod cI a u_23.1) := hD
              refine lv_if_eq (tgt := 102) hx hb dX7_parses_95 (by decide) (fun c_25 => ?_) (fun c_25 => ?_)
              · replace hf := (if_pos c_25).symm.trans hf
                refine lv_iconst (v := 0) hx hb dX7_parses_102 (by decide) ?_
                refine lv_istore_n (lv' := [(2, .int 0), (0, .ref (a 0)), (1, .int x1_72), (3, .int x3_72)]) hx hb dX7_parses_103 rfl hl (by decide) rfl (fun ls hl => ?_)
                refine lv_iinc (v := (x3_72 + 1)) (lv' := [(3, .int (x3_72 + 1)), (2, .int 0), (0, .ref (a 0)), (1, .int x1_72)]) hx hb dX7_parses_104 hl (k := 3) rfl (by rfl) (by decide) rfl (fun ls hl => ?_)
                refine lv_goto (tgt := 72) hx hb dX7_parses_107 (by decide) ?_
                exact ih u_23.1 x1_72 0 (x3_72 + 1) _ _ _ ls hf hP hD hS (lv_sub hl [2, 3, 1, 0] rfl) hk
              · replace hf := (if_neg c_25).symm.trans hf
                refine lv_iconst (v := 1) hx hb dX7_parses_98 (by decide) ?_
                refine lv_goto (tgt := 103) hx hb dX7_parses_99 (by decide) ?_
                refine lv_istore_n (lv' := [(2, .int 1), (0, .ref (a 0)), (1, .int x1_72), (3, .int x3_72)]) hx hb dX7_parses_103 rfl hl (by decide) rfl (fun ls hl => ?_)
                refine lv_iinc (v := (x3_72 + 1)) (lv' := [(3, .int (x3_72 + 1)), (2, .int 1), (0, .ref (a 0)), (1, .int x1_72)]) hx hb dX7_parses_104 hl (k := 3) rfl (by rfl) (by decide) rfl (fun ls hl => ?_)
                refine lv_goto (tgt := 72) hx hb dX7_parses_107 (by decide) ?_
                exact ih u_23.1 x1_72 1 (x3_72 + 1) _ _ _ ls hf hP hD hS (lv_sub hl [2, 3, 1, 0] rfl) hk
    obtain ⟨u_26, h_27, hf⟩ := ob hf
    refine hL_72 FUEL u_16.1 (X7_numbersOf (M_7.2 8)) u_16.2 1 u_26 _ _ ls h_27 hP hD hS (lv_sub hl [2, 3, 1, 0] rfl) (fun H locs ls hP hD hS hl => ?_)
    clear hL_72
    refine lv_iload_n hx hb dX7_parses_110 rfl (lv_at hl 1 rfl) ?_
    refine lv_if_eq (tgt := 127) hx hb dX7_parses_111 (by decide) (fun c_28 => ?_) (fun c_28 => ?_)
    · replace hf := (if_pos c_28).symm.trans hf
      refine lv_iconst (v := 0) hx hb dX7_parses_127 (by decide) ?_
      obtain rfl := (Option.some.inj hf)
      exact wr_z F (by decide) rfl hP hS dX7_parses_128
    · replace hf := (if_neg c_28).symm.trans hf
      refine lv_aload_n hx hb dX7_parses_114 rfl (lv_at hl 0 rfl) ?_
      refine lv_bipush (v := 59) hx hb dX7_parses_115 (by decide) ?_
      obtain ⟨u_29, h_30, hf⟩ := ob hf
      refine k_wi (runV F wdX7_178 (rm := rm_X7_sign) (As := [.int 59]) (rest := []) ⟨rfl, rfl⟩ ⟨Nat.le_of_ble_eq_true rfl, Nat.le_of_ble_eq_true rfl⟩ hl.1 rfl rfl (Nat.le_of_ble_eq_true rfl) dX7_parses_117 ⟨Nat.zero_le _, Nat.zero_le _⟩) (c_X7_sign l D cI cP a u_26.1 59 _ h_30) hX (va_recv hX.1 hP (ci := 7) (q0 := 0) rfl rfl) (Cut.all rfl) hP hD hS hA (fun H locs hP hD hS => ?_)
      have hP : va_P D vwCl (wMod cI a u_29.1) H := hP
      have hD : va_D A (wMod cI a u_29.1) := hD
      refine lv_if_eq (tgt := 127) hx hb dX7_parses_120 (by decide) (fun c_31 => ?_) (fun c_31 => ?_)
      · replace hf := (if_pos c_31).symm.trans hf
        refine lv_iconst (v := 0) hx hb dX7_parses_127 (by decide) ?_
        obtain rfl := (Option.some.inj hf)
        exact wr_z F (by decide) rfl hP hS dX7_parses_128
      · replace hf := (if_neg c_31).symm.trans hf
        refine lv_iconst (v := 1) hx hb dX7_parses_123 (by decide) ?_
        refine lv_goto (tgt := 128) hx hb dX7_parses_124 (by decide) ?_
        obtain rfl := (Option.some.inj hf)
        exact wr_z F (by decide) rfl hP hS dX7_parses_128
  · replace hf := (if_neg c_9).symm.trans hf
    refine lv_iconst (v := 0) hx hb dX7_parses_40 (by decide) ?_
    obtain rfl := (Option.some.inj hf)
    exact wr_z F (by decide) rfl hP hS dX7_parses_41
def X7_does (K : SMod) : Option (SMod × Int32) := (if (K.2 8) = 97 then (if (K.2 8) = 117 then ((X7_tie K ((K.1 8) (Int32.toNatClampNeg 0)) ((K.1 8) (Int32.toNatClampNeg 1)) 1 ((K.1 8) (Int32.toNatClampNeg 2))).bind fun u_5 => some (u_5.1, u_5.2)) else ((X7_tie K ((K.1 8) (Int32.toNatClampNeg 0)) ((K.1 8) (Int32.toNatClampNeg 1)) 0 ((K.1 8) (Int32.toNatClampNeg 2))).bind fun u_3 => some (u_3.1, u_3.2))) else (if (K.2 8) = 99 then ((X7_cut K ((K.1 8) (Int32.toNatClampNeg 0))).bind fun u_8 => some (u_8.1, u_8.2)) else (if (K.2 8) = 107 then ((X7_cutDeal K ((K.1 8) (Int32.toNatClampNeg 0))).bind fun u_11 => some (u_11.1, u_11.2)) else (if (K.2 8) = 110 then (if (K.2 8) = 121 then ((X7_pull K ((K.1 8) (Int32.toNatClampNeg 0)) 1).bind fun u_17 => some (u_17.1, u_17.2)) else ((X7_pull K ((K.1 8) (Int32.toNatClampNeg 0)) 0).bind fun u_15 => some (u_15.1, u_15.2))) else (if (K.2 8) = 112 then ((X7_puppet K ((K.1 8) (Int32.toNatClampNeg 0)) ((K.1 8) (Int32.toNatClampNeg 1))).bind fun u_20 => some (u_20.1, u_20.2)) else (if (K.2 8) = 117 then (if (K.2 8) = 117 then ((X7_tie K ((K.1 8) (Int32.toNatClampNeg 0)) ((K.1 8) (Int32.toNatClampNeg 1)) 1 ((K.1 8) (Int32.toNatClampNeg 2))).bind fun u_26 => some (u_26.1, u_26.2)) else ((X7_tie K ((K.1 8) (Int32.toNatClampNeg 0)) ((K.1 8) (Int32.toNatClampNeg 1)) 0 ((K.1 8) (Int32.toNatClampNeg 2))).bind fun u_24 => some (u_24.1, u_24.2))) else (if (K.2 8) = 121 then (if (K.2 8) = 121 then ((X7_pull K ((K.1 8) (Int32.toNatClampNeg 0)) 1).bind fun u_32 => some (u_32.1, u_32.2)) else ((X7_pull K ((K.1 8) (Int32.toNatClampNeg 0)) 0).bind fun u_30 => some (u_30.1, u_30.2))) else ((X7_session K).bind fun u_34 => some (u_34.1, u_34.2)))))))))
abbrev rm_X7_does : Room := { frames := 6, cells := 0, slots := 0, locals := 135 }
set_option maxHeartbeats 4000000 in
set_option maxRecDepth 100000 in
theorem c_X7_does (l : Launch) (D : va_G) (cI cP : ClassId) (a : Nat → Nat) (K : SMod) (z : SMod × Int32) (hf : X7_does K  = some z) : MWi l yX7_does cX7_does 1 (some .int) rm_X7_does D cI cP [.ref (a 0)] (wMod cI a K) (wMod cI a z.1) z.2 := by
  refine MWi.of (by decide +kernel) (Nat.le_of_ble_eq_true rfl) ?_
  intro p e s m args below meth c ls A F hX hP hD hA hS hl
  have F : Fx p s m args meth c RX7 cX7_does 1 (some .int) := F
  have hx := F.1
  have hb := F.2.1
  have hown := F.2.2.2.1
  have hts := F.2.2.2.2.1
  have hl : lv_has ls 1 [(0, .ref (a 0))] := hl
  unfold X7_does at hf
  refine lv_aload_n hx hb dX7_does_0 rfl (lv_at hl 0 rfl) ?_
  refine gX7_169 F hX hP 0 rfl (v := .int (K.2 8)) rfl dX7_does_1 ?_
  rcases Decidable.em ((K.2 8) = 97) with c_1 | c_1
  · replace hf := (if_pos c_1).symm.trans hf
    refine lv_tableIn (off := 133) (tgt := 137) hx hb dX7_does_4 (by rw [c_1]; decide) (by rw [c_1]; decide) (by rw [c_1]; rfl) (by decide) ?_
    refine lv_aload_n hx hb dX7_does_137 rfl (lv_at hl 0 rfl) ?_
    refine lv_aload_n hx hb dX7_does_138 rfl (lv_at hl 0 rfl) ?_
    refine gX7_34 F hX hP 0 rfl (v := .ref (a 9)) rfl dX7_does_139 ?_
    refine lv_iconst (v := 0) hx hb dX7_does_142 (by decide) ?_
    refine va_iald hx hb hX.1 hP 9 0 (n := 3) (f := (K.1 8)) rfl rfl (by decide : ¬ ((0 : Int32) < 0 ∨ 3 ≤ Int32.toNatClampNeg 0)) dX7_does_143 ?_
    refine lv_aload_n hx hb dX7_does_144 rfl (lv_at hl 0 rfl) ?_
    refine gX7_34 F hX hP 0 rfl (v := .ref (a 9)) rfl dX7_does_145 ?_
    refine lv_iconst (v := 1) hx hb dX7_does_148 (by decide) ?_
    refine va_iald hx hb hX.1 hP 9 0 (n := 3) (f := (K.1 8)) rfl rfl (by decide : ¬ ((1 : Int32) < 0 ∨ 3 ≤ Int32.toNatClampNeg 1)) dX7_does_149 ?_
    refine lv_aload_n hx hb dX7_does_150 rfl (lv_at hl 0 rfl) ?_
    refine gX7_169 F hX hP 0 rfl (v := .int (K.2 8)) rfl dX7_does_151 ?_
    refine lv_bipush (v := 117) hx hb dX7_does_154 (by decide) ?_
    refine lv_icmp_ne (tgt := 163) hx hb dX7_does_156 (by decide) (fun c_2 => ?_) (fun c_2 => ?_)
    · replace hf := (if_neg c_2).symm.trans hf
      refine lv_iconst (v := 0) hx hb dX7_does_163 (by decide) ?_
      refine lv_aload_n hx hb dX7_does_164 rfl (lv_at hl 0 rfl) ?_
      refine gX7_34 F hX hP 0 rfl (v := .ref (a 9)) rfl dX7_does_165 ?_
      refine lv_iconst (v := 2) hx hb dX7_does_168 (by decide) ?_
      refine va_iald hx hb hX.1 hP 9 0 (n := 3) (f := (K.1 8)) rfl rfl (by decide : ¬ ((2 : Int32) < 0 ∨ 3 ≤ Int32.toNatClampNeg 2)) dX7_does_169 ?_
      obtain ⟨u_3, h_4, hf⟩ := ob hf
      refine k_wi (runV F wdX7_184 (rm := rm_X7_tie) (As := [.int ((K.1 8) (Int32.toNatClampNeg 0)), .int ((K.1 8) (Int32.toNatClampNeg 1)), .int 0, .int ((K.1 8) (Int32.toNatClampNeg 2))]) (rest := []) ⟨rfl, rfl⟩ ⟨Nat.le_of_ble_eq_true rfl, Nat.le_of_ble_eq_true rfl⟩ hl.1 rfl rfl (Nat.le_of_ble_eq_true rfl) dX7_does_170 ⟨Nat.zero_le _, Nat.zero_le _⟩) (c_X7_tie l D cI cP a K ((K.1 8) (Int32.toNatClampNeg 0)) ((K.1 8) (Int32.toNatClampNeg 1)) 0 ((K.1 8) (Int32.toNatClampNeg 2)) _ h_4) hX (va_recv hX.1 hP (ci := 7) (q0 := 0) rfl rfl) (Cut.all rfl) hP hD hS hA (fun H locs hP hD hS => ?_)
      have hP : va_P D vwCl (wMod cI a u_3.1) H := hP
      have hD : va_D A (wMod cI a u_3.1) := hD
      obtain rfl := (Option.some.inj hf)
      exact wr_i F rfl hP hS dX7_does_173
    · replace hf := (if_pos c_2).symm.trans hf
      refine lv_iconst (v := 1) hx hb dX7_does_159 (by decide) ?_
      refine lv_goto (tgt := 164) hx hb dX7_does_160 (by decide) ?_
      refine lv_aload_n hx hb dX7_does_164 rfl (lv_at hl 0 rfl) ?_
      refine gX7_34 F hX hP 0 rfl (v := .ref (a 9)) rfl dX7_does_165 ?_
      refine lv_iconst (v := 2) hx hb dX7_does_168 (by decide) ?_
      refine va_iald hx hb hX.1 hP 9 0 (n := 3) (f := (K.1 8)) rfl rfl (by decide : ¬ ((2 : Int32) < 0 ∨ 3 ≤ Int32.toNatClampNeg 2)) dX7_does_169 ?_
      obtain ⟨u_5, h_6, hf⟩ := ob hf
      refine k_wi (runV F wdX7_184 (rm := rm_X7_tie) (As := [.int ((K.1 8) (Int32.toNatClampNeg 0)), .int ((K.1 8) (Int32.toNatClampNeg 1)), .int 1, .int ((K.1 8) (Int32.toNatClampNeg 2))]) (rest := []) ⟨rfl, rfl⟩ ⟨Nat.le_of_ble_eq_true rfl, Nat.le_of_ble_eq_true rfl⟩ hl.1 rfl rfl (Nat.le_of_ble_eq_true rfl) dX7_does_170 ⟨Nat.zero_le _, Nat.zero_le _⟩) (c_X7_tie l D cI cP a K ((K.1 8) (Int32.toNatClampNeg 0)) ((K.1 8) (Int32.toNatClampNeg 1)) 1 ((K.1 8) (Int32.toNatClampNeg 2)) _ h_6) hX (va_recv hX.1 hP (ci := 7) (q0 := 0) rfl rfl) (Cut.all rfl) hP hD hS hA (fun H locs hP hD hS => ?_)
      have hP : va_P D vwCl (wMod cI a u_5.1) H := hP
      have hD : va_D A (wMod cI a u_5.1) := hD
      obtain rfl := (Option.some.inj hf)
      exact wr_i F rfl hP hS dX7_does_173
  replace hf := (if_neg c_1).symm.trans hf
  rcases Decidable.em ((K.2 8) = 99) with c_7 | c_7
  · replace hf := (if_pos c_7).symm.trans hf
    refine lv_tableIn (off := 170) (tgt := 174) hx hb dX7_does_4 (by rw [c_7]; decide) (by rw [c_7]; decide) (by rw [c_7]; rfl) (by decide) ?_
    refine lv_aload_n hx hb dX7_does_174 rfl (lv_at hl 0 rfl) ?_
    refine lv_aload_n hx hb dX7_does_175 rfl (lv_at hl 0 rfl) ?_
    refine gX7_34 F hX hP 0 rfl (v := .ref (a 9)) rfl dX7_does_176 ?_
    refine lv_iconst (v := 0) hx hb dX7_does_179 (by decide) ?_
    refine va_iald hx hb hX.1 hP 9 0 (n := 3) (f := (K.1 8)) rfl rfl (by decide : ¬ ((0 : Int32) < 0 ∨ 3 ≤ Int32.toNatClampNeg 0)) dX7_does_180 ?_
    obtain ⟨u_8, h_9, hf⟩ := ob hf
    refine k_wi (runV F wdX7_188 (rm := rm_X7_cut) (As := [.int ((K.1 8) (Int32.toNatClampNeg 0))]) (rest := []) ⟨rfl, rfl⟩ ⟨Nat.le_of_ble_eq_true rfl, Nat.le_of_ble_eq_true rfl⟩ hl.1 rfl rfl (Nat.le_of_ble_eq_true rfl) dX7_does_181 ⟨Nat.zero_le _, Nat.zero_le _⟩) (c_X7_cut l D cI cP a K ((K.1 8) (Int32.toNatClampNeg 0)) _ h_9) hX (va_recv hX.1 hP (ci := 7) (q0 := 0) rfl rfl) (Cut.all rfl) hP hD hS hA (fun H locs hP hD hS => ?_)
    have hP : va_P D vwCl (wMod cI a u_8.1) H := hP
    have hD : va_D A (wMod cI a u_8.1) := hD
    obtain rfl := (Option.some.inj hf)
    exact wr_i F rfl hP hS dX7_does_184
  replace hf := (if_neg c_7).symm.trans hf
  rcases Decidable.em ((K.2 8) = 107) with c_10 | c_10
  · replace hf := (if_pos c_10).symm.trans hf
    refine lv_tableIn (off := 181) (tgt := 185) hx hb dX7_does_4 (by rw [c_10]; decide) (by rw [c_10]; decide) (by rw [c_10]; rfl) (by decide) ?_
    refine lv_aload_n hx hb dX7_does_185 rfl (lv_at hl 0 rfl) ?_
    refine lv_aload_n hx hb dX7_does_186 rfl (lv_at hl 0 rfl) ?_
    refine gX7_34 F hX hP 0 rfl (v := .ref (a 9)) rfl dX7_does_187 ?_
    refine lv_iconst (v := 0) hx hb dX7_does_190 (by decide) ?_
    refine va_iald hx hb hX.1 hP 9 0 (n := 3) (f := (K.1 8)) rfl rfl (by decide : ¬ ((0 : Int32) < 0 ∨ 3 ≤ Int32.toNatClampNeg 0)) dX7_does_191 ?_
    obtain ⟨u_11, h_12, hf⟩ := ob hf
    refine k_wi (runV F wdX7_191 (rm := rm_X7_cutDeal) (As := [.int ((K.1 8) (Int32.toNatClampNeg 0))]) (rest := []) ⟨rfl, rfl⟩ ⟨Nat.le_of_ble_eq_true rfl, Nat.le_of_ble_eq_true rfl⟩ hl.1 rfl rfl (Nat.le_of_ble_eq_true rfl) dX7_does_192 ⟨Nat.zero_le _, Nat.zero_le _⟩) (c_X7_cutDeal l D cI cP a K ((K.1 8) (Int32.toNatClampNeg 0)) _ h_12) hX (va_recv hX.1 hP (ci := 7) (q0 := 0) rfl rfl) (Cut.all rfl) hP hD hS hA (fun H locs hP hD hS => ?_)
    have hP : va_P D vwCl (wMod cI a u_11.1) H := hP
    have hD : va_D A (wMod cI a u_11.1) := hD
    obtain rfl := (Option.some.inj hf)
    exact wr_i F rfl hP hS dX7_does_195
  replace hf := (if_neg c_10).symm.trans hf
  rcases Decidable.em ((K.2 8) = 110) with c_13 | c_13
  · replace hf := (if_pos c_13).symm.trans hf
    refine lv_tableIn (off := 192) (tgt := 196) hx hb dX7_does_4 (by rw [c_13]; decide) (by rw [c_13]; decide) (by rw [c_13]; rfl) (by decide) ?_
    refine lv_aload_n hx hb dX7_does_196 rfl (lv_at hl 0 rfl) ?_
    refine lv_aload_n hx hb dX7_does_197 rfl (lv_at hl 0 rfl) ?_
    refine gX7_34 F hX hP 0 rfl (v := .ref (a 9)) rfl dX7_does_198 ?_
    refine lv_iconst (v := 0) hx hb dX7_does_201 (by decide) ?_
    refine va_iald hx hb hX.1 hP 9 0 (n := 3) (f := (K.1 8)) rfl rfl (by decide : ¬ ((0 : Int32) < 0 ∨ 3 ≤ Int32.toNatClampNeg 0)) dX7_does_202 ?_
    refine lv_aload_n hx hb dX7_does_203 rfl (lv_at hl 0 rfl) ?_
    refine gX7_169 F hX hP 0 rfl (v := .int (K.2 8)) rfl dX7_does_204 ?_
    refine lv_bipush (v := 121) hx hb dX7_does_207 (by decide) ?_
    refine lv_icmp_ne (tgt := 216) hx hb dX7_does_209 (by decide) (fun c_14 => ?_) (fun c_14 => ?_)
    · replace hf := (if_neg c_14).symm.trans hf
      refine lv_iconst (v := 0) hx hb dX7_does_216 (by decide) ?_
      obtain ⟨u_15, h_16, hf⟩ := ob hf
      refine k_wi (runV F wdX7_194 (rm := rm_X7_pull) (As := [.int ((K.1 8) (Int32.toNatClampNeg 0)), .int 0]) (rest := []) ⟨rfl, rfl⟩ ⟨Nat.le_of_ble_eq_true rfl, Nat.le_of_ble_eq_true rfl⟩ hl.1 rfl rfl (Nat.le_of_ble_eq_true rfl) dX7_does_217 ⟨Nat.zero_le _, Nat.zero_le _⟩) (c_X7_pull l D cI cP a K ((K.1 8) (Int32.toNatClampNeg 0)) 0 _ h_16) hX (va_recv hX.1 hP (ci := 7) (q0 := 0) rfl rfl) (Cut.all rfl) hP hD hS hA (fun H locs hP hD hS => ?_)
      have hP : va_P D vwCl (wMod cI a u_15.1) H := hP
      have hD : va_D A (wMod cI a u_15.1) := hD
      obtain rfl := (Option.some.inj hf)
      exact wr_i F rfl hP hS dX7_does_220
    · replace hf := (if_pos c_14).symm.trans hf
      refine lv_iconst (v := 1) hx hb dX7_does_212 (by decide) ?_
      refine lv_goto (tgt := 217) hx hb dX7_does_213 (by decide) ?_
      obtain ⟨u_17, h_18, hf⟩ := ob hf
      refine k_wi (runV F wdX7_194 (rm := rm_X7_pull) (As := [.int ((K.1 8) (Int32.toNatClampNeg 0)), .int 1]) (rest := []) ⟨rfl, rfl⟩ ⟨Nat.le_of_ble_eq_true rfl, Nat.le_of_ble_eq_true rfl⟩ hl.1 rfl rfl (Nat.le_of_ble_eq_true rfl) dX7_does_217 ⟨Nat.zero_le _, Nat.zero_le _⟩) (c_X7_pull l D cI cP a K ((K.1 8) (Int32.toNatClampNeg 0)) 1 _ h_18) hX (va_recv hX.1 hP (ci := 7) (q0 := 0) rfl rfl) (Cut.all rfl) hP hD hS hA (fun H locs hP hD hS => ?_)
      have hP : va_P D vwCl (wMod cI a u_17.1) H := hP
      have hD : va_D A (wMod cI a u_17.1) := hD
      obtain rfl := (Option.some.inj hf)
      exact wr_i F rfl hP hS dX7_does_220
  replace hf := (if_neg c_13).symm.trans hf
  rcases Decidable.em ((K.2 8) = 112) with c_19 | c_19
  · replace hf := (if_pos c_19).symm.trans hf
    refine lv_tableIn (off := 116) (tgt := 120) hx hb dX7_does_4 (by rw [c_19]; decide) (by rw [c_19]; decide) (by rw [c_19]; rfl) (by decide) ?_
    refine lv_aload_n hx hb dX7_does_120 rfl (lv_at hl 0 rfl) ?_
    refine lv_aload_n hx hb dX7_does_121 rfl (lv_at hl 0 rfl) ?_
    refine gX7_34 F hX hP 0 rfl (v := .ref (a 9)) rfl dX7_does_122 ?_
    refine lv_iconst (v := 0) hx hb dX7_does_125 (by decide) ?_
    refine va_iald hx hb hX.1 hP 9 0 (n := 3) (f := (K.1 8)) rfl rfl (by decide : ¬ ((0 : Int32) < 0 ∨ 3 ≤ Int32.toNatClampNeg 0)) dX7_does_126 ?_
    refine lv_aload_n hx hb dX7_does_127 rfl (lv_at hl 0 rfl) ?_
    refine gX7_34 F hX hP 0 rfl (v := .ref (a 9)) rfl dX7_does_128 ?_
    refine lv_iconst (v := 1) hx hb dX7_does_131 (by decide) ?_
    refine va_iald hx hb hX.1 hP 9 0 (n := 3) (f := (K.1 8)) rfl rfl (by decide : ¬ ((1 : Int32) < 0 ∨ 3 ≤ Int32.toNatClampNeg 1)) dX7_does_132 ?_
    obtain ⟨u_20, h_21, hf⟩ := ob hf
    refine k_wi (runV F wdX7_181 (rm := rm_X7_puppet) (As := [.int ((K.1 8) (Int32.toNatClampNeg 0)), .int ((K.1 8) (Int32.toNatClampNeg 1))]) (rest := []) ⟨rfl, rfl⟩ ⟨Nat.le_of_ble_eq_true rfl, Nat.le_of_ble_eq_true rfl⟩ hl.1 rfl rfl (Nat.le_of_ble_eq_true rfl) dX7_does_133 ⟨Nat.zero_le _, Nat.zero_le _⟩) (c_X7_puppet l D cI cP a K ((K.1 8) (Int32.toNatClampNeg 0)) ((K.1 8) (Int32.toNatClampNeg 1)) _ h_21) hX (va_recv hX.1 hP (ci := 7) (q0 := 0) rfl rfl) (Cut.all rfl) hP hD hS hA (fun H locs hP hD hS => ?_)
    have hP : va_P D vwCl (wMod cI a u_20.1) H := hP
    have hD : va_D A (wMod cI a u_20.1) := hD
    obtain rfl := (Option.some.inj hf)
    exact wr_i F rfl hP hS dX7_does_136
  replace hf := (if_neg c_19).symm.trans hf
  rcases Decidable.em ((K.2 8) = 117) with c_22 | c_22
  · replace hf := (if_pos c_22).symm.trans hf
    refine lv_tableIn (off := 133) (tgt := 137) hx hb dX7_does_4 (by rw [c_22]; decide) (by rw [c_22]; decide) (by rw [c_22]; rfl) (by decide) ?_
    refine lv_aload_n hx hb dX7_does_137 rfl (lv_at hl 0 rfl) ?_
    refine lv_aload_n hx hb dX7_does_138 rfl (lv_at hl 0 rfl) ?_
    refine gX7_34 F hX hP 0 rfl (v := .ref (a 9)) rfl dX7_does_139 ?_
    refine lv_iconst (v := 0) hx hb dX7_does_142 (by decide) ?_
    refine va_iald hx hb hX.1 hP 9 0 (n := 3) (f := (K.1 8)) rfl rfl (by decide : ¬ ((0 : Int32) < 0 ∨ 3 ≤ Int32.toNatClampNeg 0)) dX7_does_143 ?_
    refine lv_aload_n hx hb dX7_does_144 rfl (lv_at hl 0 rfl) ?_
    refine gX7_34 F hX hP 0 rfl (v := .ref (a 9)) rfl dX7_does_145 ?_
    refine lv_iconst (v := 1) hx hb dX7_does_148 (by decide) ?_
    refine va_iald hx hb hX.1 hP 9 0 (n := 3) (f := (K.1 8)) rfl rfl (by decide : ¬ ((1 : Int32) < 0 ∨ 3 ≤ Int32.toNatClampNeg 1)) dX7_does_149 ?_
    refine lv_aload_n hx hb dX7_does_150 rfl (lv_at hl 0 rfl) ?_
    refine gX7_169 F hX hP 0 rfl (v := .int (K.2 8)) rfl dX7_does_151 ?_
    refine lv_bipush (v := 117) hx hb dX7_does_154 (by decide) ?_
    refine lv_icmp_ne (tgt := 163) hx hb dX7_does_156 (by decide) (fun c_23 => ?_) (fun c_23 => ?_)
    · replace hf := (if_neg c_23).symm.trans hf
      refine lv_iconst (v := 0) hx hb dX7_does_163 (by decide) ?_
      refine lv_aload_n hx hb dX7_does_164 rfl (lv_at hl 0 rfl) ?_
      refine gX7_34 F hX hP 0 rfl (v := .ref (a 9)) rfl dX7_does_165 ?_
      refine lv_iconst (v := 2) hx hb dX7_does_168 (by decide) ?_
      refine va_iald hx hb hX.1 hP 9 0 (n := 3) (f := (K.1 8)) rfl rfl (by decide : ¬ ((2 : Int32) < 0 ∨ 3 ≤ Int32.toNatClampNeg 2)) dX7_does_169 ?_
      obtain ⟨u_24, h_25, hf⟩ := ob hf
      refine k_wi (runV F wdX7_184 (rm := rm_X7_tie) (As := [.int ((K.1 8) (Int32.toNatClampNeg 0)), .int ((K.1 8) (Int32.toNatClampNeg 1)), .int 0, .int ((K.1 8) (Int32.toNatClampNeg 2))]) (rest := []) ⟨rfl, rfl⟩ ⟨Nat.le_of_ble_eq_true rfl, Nat.le_of_ble_eq_true rfl⟩ hl.1 rfl rfl (Nat.le_of_ble_eq_true rfl) dX7_does_170 ⟨Nat.zero_le _, Nat.zero_le _⟩) (c_X7_tie l D cI cP a K ((K.1 8) (Int32.toNatClampNeg 0)) ((K.1 8) (Int32.toNatClampNeg 1)) 0 ((K.1 8) (Int32.toNatClampNeg 2)) _ h_25) hX (va_recv hX.1 hP (ci := 7) (q0 := 0) rfl rfl) (Cut.all rfl) hP hD hS hA (fun H locs hP hD hS => ?_)
      have hP : va_P D vwCl (wMod cI a u_24.1) H := hP
      have hD : va_D A (wMod cI a u_24.1) := hD
      obtain rfl := (Option.some.inj hf)
      exact wr_i F rfl hP hS dX7_does_173
    · replace hf := (if_pos c_23).symm.trans hf
      refine lv_iconst (v := 1) hx hb dX7_does_159 (by decide) ?_
      refine lv_goto (tgt := 164) hx hb dX7_does_160 (by decide) ?_
      refine lv_aload_n hx hb dX7_does_164 rfl (lv_at hl 0 rfl) ?_
      refine gX7_34 F hX hP 0 rfl (v := .ref (a 9)) rfl dX7_does_165 ?_
      refine lv_iconst (v := 2) hx hb dX7_does_168 (by decide) ?_
      refine va_iald hx hb hX.1 hP 9 0 (n := 3) (f := (K.1 8)) rfl rfl (by decide : ¬ ((2 : Int32) < 0 ∨ 3 ≤ Int32.toNatClampNeg 2)) dX7_does_169 ?_
      obtain ⟨u_26, h_27, hf⟩ := ob hf
      refine k_wi (runV F wdX7_184 (rm := rm_X7_tie) (As := [.int ((K.1 8) (Int32.toNatClampNeg 0)), .int ((K.1 8) (Int32.toNatClampNeg 1)), .int 1, .int ((K.1 8) (Int32.toNatClampNeg 2))]) (rest := []) ⟨rfl, rfl⟩ ⟨Nat.le_of_ble_eq_true rfl, Nat.le_of_ble_eq_true rfl⟩ hl.1 rfl rfl (Nat.le_of_ble_eq_true rfl) dX7_does_170 ⟨Nat.zero_le _, Nat.zero_le _⟩) (c_X7_tie l D cI cP a K ((K.1 8) (Int32.toNatClampNeg 0)) ((K.1 8) (Int32.toNatClampNeg 1)) 1 ((K.1 8) (Int32.toNatClampNeg 2)) _ h_27) hX (va_recv hX.1 hP (ci := 7) (q0 := 0) rfl rfl) (Cut.all rfl) hP hD hS hA (fun H locs hP hD hS => ?_)
      have hP : va_P D vwCl (wMod cI a u_26.1) H := hP
      have hD : va_D A (wMod cI a u_26.1) := hD
      obtain rfl := (Option.some.inj hf)
      exact wr_i F rfl hP hS dX7_does_173
  replace hf := (if_neg c_22).symm.trans hf
  rcases Decidable.em ((K.2 8) = 121) with c_28 | c_28
  · replace hf := (if_pos c_28).symm.trans hf
    refine lv_tableIn (off := 192) (tgt := 196) hx hb dX7_does_4 (by rw [c_28]; decide) (by rw [c_28]; decide) (by rw [c_28]; rfl) (by decide) ?_
    refine lv_aload_n hx hb dX7_does_196 rfl (lv_at hl 0 rfl) ?_
    refine lv_aload_n hx hb dX7_does_197 rfl (lv_at hl 0 rfl) ?_
    refine gX7_34 F hX hP 0 rfl (v := .ref (a 9)) rfl dX7_does_198 ?_
    refine lv_iconst (v := 0) hx hb dX7_does_201 (by decide) ?_
    refine va_iald hx hb hX.1 hP 9 0 (n := 3) (f := (K.1 8)) rfl rfl (by decide : ¬ ((0 : Int32) < 0 ∨ 3 ≤ Int32.toNatClampNeg 0)) dX7_does_202 ?_
    refine lv_aload_n hx hb dX7_does_203 rfl (lv_at hl 0 rfl) ?_
    refine gX7_169 F hX hP 0 rfl (v := .int (K.2 8)) rfl dX7_does_204 ?_
    refine lv_bipush (v := 121) hx hb dX7_does_207 (by decide) ?_
    refine lv_icmp_ne (tgt := 216) hx hb dX7_does_209 (by decide) (fun c_29 => ?_) (fun c_29 => ?_)
    · replace hf := (if_neg c_29).symm.trans hf
      refine lv_iconst (v := 0) hx hb dX7_does_216 (by decide) ?_
      obtain ⟨u_30, h_31, hf⟩ := ob hf
      refine k_wi (runV F wdX7_194 (rm := rm_X7_pull) (As := [.int ((K.1 8) (Int32.toNatClampNeg 0)), .int 0]) (rest := []) ⟨rfl, rfl⟩ ⟨Nat.le_of_ble_eq_true rfl, Nat.le_of_ble_eq_true rfl⟩ hl.1 rfl rfl (Nat.le_of_ble_eq_true rfl) dX7_does_217 ⟨Nat.zero_le _, Nat.zero_le _⟩) (c_X7_pull l D cI cP a K ((K.1 8) (Int32.toNatClampNeg 0)) 0 _ h_31) hX (va_recv hX.1 hP (ci := 7) (q0 := 0) rfl rfl) (Cut.all rfl) hP hD hS hA (fun H locs hP hD hS => ?_)
      have hP : va_P D vwCl (wMod cI a u_30.1) H := hP
      have hD : va_D A (wMod cI a u_30.1) := hD
      obtain rfl := (Option.some.inj hf)
      exact wr_i F rfl hP hS dX7_does_220
    · replace hf := (if_pos c_29).symm.trans hf
      refine lv_iconst (v := 1) hx hb dX7_does_212 (by decide) ?_
      refine lv_goto (tgt := 217) hx hb dX7_does_213 (by decide) ?_
      obtain ⟨u_32, h_33, hf⟩ := ob hf
      refine k_wi (runV F wdX7_194 (rm := rm_X7_pull) (As := [.int ((K.1 8) (Int32.toNatClampNeg 0)), .int 1]) (rest := []) ⟨rfl, rfl⟩ ⟨Nat.le_of_ble_eq_true rfl, Nat.le_of_ble_eq_true rfl⟩ hl.1 rfl rfl (Nat.le_of_ble_eq_true rfl) dX7_does_217 ⟨Nat.zero_le _, Nat.zero_le _⟩) (c_X7_pull l D cI cP a K ((K.1 8) (Int32.toNatClampNeg 0)) 1 _ h_33) hX (va_recv hX.1 hP (ci := 7) (q0 := 0) rfl rfl) (Cut.all rfl) hP hD hS hA (fun H locs hP hD hS => ?_)
      have hP : va_P D vwCl (wMod cI a u_32.1) H := hP
      have hD : va_D A (wMod cI a u_32.1) := hD
      obtain rfl := (Option.some.inj hf)
      exact wr_i F rfl hP hS dX7_does_220
  replace hf := (if_neg c_28).symm.trans hf
  refine lv_tableD (tgt := 221) (cs := [97, 99, 107, 110, 112, 117, 121]) hx hb dX7_does_4 (by decide) (by decide) (by decide) (by simp [c_1, c_7, c_10, c_13, c_19, c_22, c_28]) ?_
  refine lv_aload_n hx hb dX7_does_221 rfl (lv_at hl 0 rfl) ?_
  obtain ⟨u_34, h_35, hf⟩ := ob hf
  refine k_wi (runV F wdX7_197 (rm := rm_X7_session) (As := []) (rest := []) ⟨rfl, rfl⟩ ⟨Nat.le_of_ble_eq_true rfl, Nat.le_of_ble_eq_true rfl⟩ hl.1 rfl rfl (Nat.le_of_ble_eq_true rfl) dX7_does_222 ⟨Nat.zero_le _, Nat.zero_le _⟩) (c_X7_session l D cI cP a K  _ h_35) hX (va_recv hX.1 hP (ci := 7) (q0 := 0) rfl rfl) (Cut.all rfl) hP hD hS hA (fun H locs hP hD hS => ?_)
  have hP : va_P D vwCl (wMod cI a u_34.1) H := hP
  have hD : va_D A (wMod cI a u_34.1) := hD
  obtain rfl := (Option.some.inj hf)
  exact wr_i F rfl hP hS dX7_does_225
def X7_plays_J51 (K_51 : SMod) (x2_51 : Int32) (t0_51 : Int32) : Option (SMod × Int32) := (if t0_51 = 0 then some (K_51, 0) else ((X7_does K_51).bind fun u_16 => some (u_16.1, u_16.2)))
def X7_plays_J64 (K_64 : SMod) (x2_64 : Int32) (x3_64 : Int32) (t0_64 : Int32) : Int32 := (if t0_64 = 0 then 0 else (if x3_64 < 0 then 0 else 1))
def X7_plays_J79 (K_79 : SMod) (x1_79 : Int32) (x2_79 : Int32) (x3_79 : Int32) (t0_79 : Int32) : Int32 := (if t0_79 = 0 then 1 else 2)
def X7_plays_L22 : Nat → SMod → Int32 → Option (SMod × Int32)
  | 0, _, _ => none
  | fu + 1, K_22, x1_22 => (if (K_22.2 2) ≤ (K_22.2 3) then some (K_22, x1_22) else (if x1_22 = 0 then some (K_22, x1_22) else (bnd (K_22.1, (up K_22.2 4 (K_22.2 3))) fun M_11 => ((X7_parses M_11).bind fun u_13 => ((X7_plays_J51 u_13.1 u_13.2 u_13.2).bind fun u_18 => (bnd (u_18.1.1, (up u_18.1.2 5 (X7_plays_J79 u_18.1 (X7_plays_J64 u_18.1 u_13.2 u_18.2 u_13.2) u_13.2 u_18.2 u_13.2))) fun M_23 => (if u_13.2 = 0 then (bnd (M_23.1, (up M_23.2 6 ((M_23.2 3) - (M_23.2 4)))) fun M_26 => (bnd (M_26.1, (up M_26.2 7 ((M_26.2 7) + 1))) fun M_28 => X7_plays_L22 fu M_28 (X7_plays_J64 u_18.1 u_13.2 u_18.2 u_13.2))) else (bnd (M_23.1, (up M_23.2 6 u_18.2)) fun M_30 => (bnd (M_30.1, (up M_30.2 7 ((M_30.2 7) + 1))) fun M_32 => X7_plays_L22 fu M_32 (X7_plays_J64 u_18.1 u_13.2 u_18.2 u_13.2))))))))))
def X7_plays (K : SMod) : Option (SMod × Int32) := (bnd (K.1, (up K.2 1 1)) fun M_1 => (bnd (M_1.1, (up M_1.2 3 0)) fun M_3 => (bnd (M_3.1, (up M_3.2 4 0)) fun M_5 => (bnd (M_5.1, (up M_5.2 7 0)) fun M_7 => ((X7_plays_L22 FUEL M_7 1).bind fun u_34 => (bnd (u_34.1.1, (up u_34.1.2 1 0)) fun M_36 => (if (u_34.2 = 0 ∨ u_34.2 = 1) then some (M_36, u_34.2) else none)))))))
abbrev rm_X7_plays : Room := { frames := 7, cells := 0, slots := 0, locals := 155 }
set_option maxHeartbeats 4000000 in
set_option maxRecDepth 100000 in
theorem c_X7_plays (l : Launch) (D : va_G) (cI cP : ClassId) (a : Nat → Nat) (K : SMod) (z : SMod × Int32) (hf : X7_plays K  = some z) : MWi l yX7_plays cX7_plays 4 (some .boolean) rm_X7_plays D cI cP [.ref (a 0)] (wMod cI a K) (wMod cI a z.1) z.2 := by
  refine MWi.of (by decide +kernel) (Nat.le_of_ble_eq_true rfl) ?_
  intro p e s m args below meth c ls A F hX hP hD hA hS hl
  have F : Fx p s m args meth c RX7 cX7_plays 4 (some .boolean) := F
  have hx := F.1
  have hb := F.2.1
  have hown := F.2.2.2.1
  have hts := F.2.2.2.2.1
  have hl : lv_has ls 4 [(0, .ref (a 0))] := hl
  unfold X7_plays at hf
  refine lv_aload_n hx hb dX7_plays_0 rfl (lv_at hl 0 rfl) ?_
  refine lv_iconst (v := 1) hx hb dX7_plays_1 (by decide) ?_
  refine pX7_37 F hX hP hD hS 0 rfl rfl rfl (Nat.le_of_ble_eq_true rfl) dX7_plays_2 (fun H locs hP hD hS => ?_)
  obtain ⟨M_1, e_2, hf⟩ := bnd_e hf
  have hP : va_P D vwCl (wMod cI a M_1) H := by rw [e_2]; exact hP
  have hD : va_D A (wMod cI a M_1) := by rw [e_2]; exact hD
  clear e_2
  refine lv_aload_n hx hb dX7_plays_5 rfl (lv_at hl 0 rfl) ?_
  refine lv_iconst (v := 0) hx hb dX7_plays_6 (by decide) ?_
  refine pX7_163 F hX hP hD hS 0 rfl (Nat.le_of_ble_eq_true rfl) dX7_plays_7 (fun H locs hP hD hS => ?_)
  obtain ⟨M_3, e_4, hf⟩ := bnd_e hf
  have hP : va_P D vwCl (wMod cI a M_3) H := by rw [e_4]; exact hP
  have hD : va_D A (wMod cI a M_3) := by rw [e_4]; exact hD
  clear e_4
  refine lv_aload_n hx hb dX7_plays_10 rfl (lv_at hl 0 rfl) ?_
  refine lv_iconst (v := 0) hx hb dX7_plays_11 (by decide) ?_
  refine pX7_200 F hX hP hD hS 0 rfl (Nat.le_of_ble_eq_true rfl) dX7_plays_12 (fun H locs hP hD hS => ?_)
  obtain ⟨M_5, e_6, hf⟩ := bnd_e hf
  have hP : va_P D vwCl (wMod cI a M_5) H := by rw [e_6]; exact hP
  have hD : va_D A (wMod cI a M_5) := by rw [e_6]; exact hD
  clear e_6
  refine lv_aload_n hx hb dX7_plays_15 rfl (lv_at hl 0 rfl) ?_
  refine lv_iconst (v := 0) hx hb dX7_plays_16 (by decide) ?_
  refine pX7_203 F hX hP hD hS 0 rfl (Nat.le_of_ble_eq_true rfl) dX7_plays_17 (fun H locs hP hD hS => ?_)
  obtain ⟨M_7, e_8, hf⟩ := bnd_e hf
  have hP : va_P D vwCl (wMod cI a M_7) H := by rw [e_8]; exact hP
  have hD : va_D A (wMod cI a M_7) := by rw [e_8]; exact hD
  clear e_8
  refine lv_iconst (v := 1) hx hb dX7_plays_20 (by decide) ?_
  refine lv_istore_n (lv' := [(1, .int 1), (0, .ref (a 0))]) hx hb dX7_plays_21 rfl hl (by decide) rfl (fun ls hl => ?_)
  have hL_22 : ∀ (fu : Nat) (K_22 : SMod) (x1_22 : Int32) (v : SMod × Int32) (H : Heap) (locs : List Loc) (ls : Array Slot), X7_plays_L22 fu K_22 x1_22 = some v → va_P D vwCl (wMod cI a K_22) H → va_D A (wMod cI a K_22) → va_S A s.heap H locs → lv_has ls 4 [(0, .ref (a 0)), (1, .int x1_22)] → (∀ (H : Heap) (locs : List Loc) (ls : Array Slot), va_P D vwCl (wMod cI a v.1) H → va_D A (wMod cI a v.1) → va_S A s.heap H locs → lv_has ls 4 [(0, .ref (a 0)), (1, .int v.2)] → W p l e rm_X7_plays s m args below meth c H locs 0 0 (QWi D below args s A (wMod cI a z.1) z.2) (F0 m 124 ls [])) → W p l e rm_X7_plays s m args below meth c H locs 0 0 (QWi D below args s A (wMod cI a z.1) z.2) (F0 m 22 ls []) := by
    intro fu
    induction fu with
    | zero =>
      intro K_22 x1_22 v H locs ls hf
      exact absurd hf (by simp [X7_plays_L22])
    | succ fu ih =>
      intro K_22 x1_22 v _ _ ls hf hP hD hS hl hk
      rw [X7_plays_L22] at hf
      refine lv_aload_n hx hb dX7_plays_22 rfl (lv_at hl 0 rfl) ?_
      refine gX7_163 F hX hP 0 rfl (v := .int (K_22.2 3)) rfl dX7_plays_23 ?_
      refine lv_aload_n hx hb dX7_plays_26 rfl (lv_at hl 0 rfl) ?_
      refine gX7_160 F hX hP 0 rfl (v := .int (K_22.2 2)) rfl dX7_plays_27 ?_
      refine lv_icmp_ge (tgt := 124) hx hb dX7_plays_30 (by decide) (fun c_9 => ?_) (fun c_9 => ?_)
      · replace hf := (if_pos c_9).symm.trans hf
        obtain rfl := Option.some.inj hf
        exact hk _ _ ls hP hD hS hl
      · replace hf := (if_neg c_9).symm.trans hf
        refine lv_iload_n hx hb dX7_plays_33 rfl (lv_at hl 1 rfl) ?_
        refine lv_if_eq (tgt := 124) hx hb dX7_plays_34 (by decide) (fun c_10 => ?_) (fun c_10 => ?_)
        · replace hf := (if_pos c_10).symm.trans hf
          obtain rfl := Option.some.inj hf
          exact hk _ _ ls hP hD hS hl
        · replace hf := (if_neg c_10).symm.trans hf
          refine lv_aload_n hx hb dX7_plays_37 rfl (lv_at hl 0 rfl) ?_
          refine lv_aload_n hx hb dX7_plays_38 rfl (lv_at hl 0 rfl) ?_
          refine gX7_163 F hX hP 0 rfl (v := .int (K_22.2 3)) rfl dX7_plays_39 ?_
          refine pX7_200 F hX hP hD hS 0 rfl (Nat.le_of_ble_eq_true rfl) dX7_plays_42 (fun H locs hP hD hS => ?_)
          obtain ⟨M_11, e_12, hf⟩ := bnd_e hf
          have hP : va_P D vwCl (wMod cI a M_11) H := by rw [e_12]; exact hP
          have hD : va_D A (wMod cI a M_11) := by rw [e_12]; exact hD
          clear e_12
          refine lv_aload_n hx hb dX7_plays_45 rfl (lv_at hl 0 rfl) ?_
          obtain ⟨u_13, h_14, hf⟩ := ob hf
          refine k_wi (runV F wdX7_206 (rm := rm_X7_parses) (As := []) (rest := []) ⟨rfl, rfl⟩ ⟨Nat.le_of_ble_eq_true rfl, Nat.le_of_ble_eq_true rfl⟩ hl.1 rfl rfl (Nat.le_of_ble_eq_true rfl) dX7_plays_46 ⟨Nat.zero_le _, Nat.zero_le _⟩) (c_X7_parses l D cI cP a M_11  _ h_14) hX (va_recv hX.1 hP (ci := 7) (q0 := 0) rfl rfl) (Cut.all rfl) hP hD hS hA (fun H locs hP hD hS => ?_)
          have hP : va_P D vwCl (wMod cI a u_13.1) H := hP
          have hD : va_D A (wMod cI a u_13.1) := hD
          refine lv_istore_n (lv' := [(2, .int u_13.2), (0, .ref (a 0)), (1, .int x1_22)]) hx hb dX7_plays_49 rfl hl (by decide) rfl (fun ls hl => ?_)
          refine lv_iload_n hx hb dX7_plays_50 rfl (lv_at hl 0 rfl) ?_
          have hJ_51 : ∀ (K_51 : SMod) (x2_51 : Int32) (t0_51 : Int32) (v : SMod × Int32) (H : Heap) (locs : List Loc) (ls : Array Slot), X7_plays_J51 K_51 x2_51 t0_51 = some v → va_P D vwCl (wMod cI a K_51) H → va_D A (wMod cI a K_51) → va_S A s.heap H locs → lv_has ls 4 [(2, .int x2_51), (0, .ref (a 0))] → (∀ (H : Heap) (locs : List Loc) (ls : Array Slot), va_P D vwCl (wMod cI a v.1) H → va_D A (wMod cI a v.1) → va_S A s.heap H locs → lv_has ls 4 [(0, .ref (a 0)), (2, .int x2_51)] → W p l e rm_X7_plays s m args below meth c H locs 0 0 (QWi D below args s A (wMod cI a z.1) z.2) (F0 m 62 ls [.int v.2])) → W p l e rm_X7_plays s m args below meth c H locs 0 0 (QWi D below args s A (wMod cI a z.1) z.2) (F0 m 51 ls [.int t0_51]) := by
            intro K_51 x2_51 t0_51 v _ _ ls hf hP hD hS hl hk
            unfold X7_plays_J51 at hf
            refine lv_if_eq (tgt := 61) hx hb dX7_plays_51 (by decide) (fun c_15 => ?_) (fun c_15 => ?_)
            · replace hf := (if_pos c_15).symm.trans hf
              refine lv_iconst (v := 0) hx hb dX7_plays_61 (by decide) ?_
              obtain rfl := Option.some.inj hf
              exact hk _ _ ls hP hD hS (lv_sub hl [1, 0] rfl)
            · replace hf := (if_neg c_15).symm.trans hf
              refine lv_aload_n hx hb dX7_plays_54 rfl (lv_at hl 1 rfl) ?_
              obtain ⟨u_16, h_17, hf⟩ := ob hf
              refine k_wi (runV F wdX7_209 (rm := rm_X7_does) (As := []) (rest := []) ⟨rfl, rfl⟩ ⟨Nat.le_of_ble_eq_true rfl, Nat.le_of_ble_eq_true rfl⟩ hl.1 rfl rfl (Nat.le_of_ble_eq_true rfl) dX7_plays_55 ⟨Nat.zero_le _, Nat.zero_le _⟩) (c_X7_does l D cI cP a K_51  _ h_17) hX (va_recv hX.1 hP (ci := 7) (q0 := 0) rfl rfl) (Cut.all rfl) hP hD hS hA (fun H locs hP hD hS => ?_)
              have hP : va_P D vwCl (wMod cI a u_16.1) H := hP
              have hD : va_D A (wMod cI a u_16.1) := hD
              refine lv_goto (tgt := 62) hx hb dX7_plays_58 (by decide) ?_
              obtain rfl := Option.some.inj hf
              exact hk _ _ ls hP hD hS (lv_sub hl [1, 0] rfl)
          obtain ⟨u_18, h_19, hf⟩ := ob hf
          refine hJ_51 u_13.1 u_13.2 u_13.2 u_18 _ _ ls h_19 hP hD hS (lv_sub hl [0, 1] rfl) (fun H locs ls hP hD hS hl => ?_)
          clear hJ_51
          refine lv_istore_n (lv' := [(3, .int u_18.2), (0, .ref (a 0)), (2, .int u_13.2)]) hx hb dX7_plays_62 rfl hl (by decide) rfl (fun ls hl => ?_)
          refine lv_iload_n hx hb dX7_plays_63 rfl (lv_at hl 2 rfl) ?_
          have hJ_64 : ∀ (K_64 : SMod) (x2_64 : Int32) (x3_64 : Int32) (t0_64 : Int32) (v : Int32) (H : Heap) (locs : List Loc) (ls : Array Slot), X7_plays_J64 K_64 x2_64 x3_64 t0_64 = v → va_P D vwCl (wMod cI a K_64) H → va_D A (wMod cI a K_64) → va_S A s.heap H locs → lv_has ls 4 [(3, .int x3_64), (0, .ref (a 0)), (2, .int x2_64)] → (∀ (H : Heap) (locs : List Loc) (ls : Array Slot), va_P D vwCl (wMod cI a K_64) H → va_D A (wMod cI a K_64) → va_S A s.heap H locs → lv_has ls 4 [(0, .ref (a 0)), (2, .int x2_64), (3, .int x3_64)] → W p l e rm_X7_plays s m args below meth c H locs 0 0 (QWi D below args s A (wMod cI a z.1) z.2) (F0 m 76 ls [.int v])) → W p l e rm_X7_plays s m args below meth c H locs 0 0 (QWi D below args s A (wMod cI a z.1) z.2) (F0 m 64 ls [.int t0_64]) := by
            intro K_64 x2_64 x3_64 t0_64 v _ _ ls hf hP hD hS hl hk
            unfold X7_plays_J64 at hf
            refine lv_if_eq (tgt := 75) hx hb dX7_plays_64 (by decide) (fun c_20 => ?_) (fun c_20 => ?_)
            · replace hf := (if_pos c_20).symm.trans hf
              refine lv_iconst (v := 0) hx hb dX7_plays_75 (by decide) ?_
              obtain rfl := hf
              exact hk _ _ ls hP hD hS (lv_sub hl [1, 2, 0] rfl)
            · replace hf := (if_neg c_20).symm.trans hf
              refine lv_iload_n hx hb dX7_plays_67 rfl (lv_at hl 0 rfl) ?_
              refine lv_if_lt (tgt := 75) hx hb dX7_plays_68 (by decide) (fun c_21 => ?_) (fun c_21 => ?_)
              · replace hf := (if_pos c_21).symm.trans hf
                refine lv_iconst (v := 0) hx hb dX7_plays_75 (by decide) ?_
                obtain rfl := hf
                exact hk _ _ ls hP hD hS (lv_sub hl [1, 2, 0] rfl)
              · replace hf := (if_neg c_21).symm.trans hf
                refine lv_iconst (v := 1) hx hb dX7_plays_71 (by decide) ?_
                refine lv_goto (tgt := 76) hx hb dX7_plays_72 (by decide) ?_
                obtain rfl := hf
                exact hk _ _ ls hP hD hS (lv_sub hl [1, 2, 0] rfl)
          refine hJ_64 u_18.1 u_13.2 u_18.2 u_13.2 _ _ _ ls rfl hP hD hS hl (fun H locs ls hP hD hS hl => ?_)
          clear hJ_64
          refine lv_istore_n (lv' := [(1, .int (X7_plays_J64 u_18.1 u_13.2 u_18.2 u_13.2)), (0, .ref (a 0)), (2, .int u_13.2), (3, .int u_18.2)]) hx hb dX7_plays_76 rfl hl (by decide) rfl (fun ls hl => ?_)
          refine lv_aload_n hx hb dX7_plays_77 rfl (lv_at hl 1 rfl) ?_
          refine lv_iload_n hx hb dX7_plays_78 rfl (lv_at hl 2 rfl) ?_
          have hJ_79 : ∀ (K_79 : SMod) (x1_79 : Int32) (x2_79 : Int32) (x3_79 : Int32) (t0_79 : Int32) (v : Int32) (H : Heap) (locs : List Loc) (ls : Array Slot), X7_plays_J79 K_79 x1_79 x2_79 x3_79 t0_79 = v → va_P D vwCl (wMod cI a K_79) H → va_D A (wMod cI a K_79) → va_S A s.heap H locs → lv_has ls 4 [(1, .int x1_79), (0, .ref (a 0)), (2, .int x2_79), (3, .int x3_79)] → (∀ (H : Heap) (locs : List Loc) (ls : Array Slot), va_P D vwCl (wMod cI a K_79) H → va_D A (wMod cI a K_79) → va_S A s.heap H locs → lv_has ls 4 [(0, .ref (a 0)), (1, .int x1_79), (2, .int x2_79), (3, .int x3_79)] → W p l e rm_X7_plays s m args below meth c H locs 0 0 (QWi D below args s A (wMod cI a z.1) z.2) (F0 m 87 ls [.int v, .ref (a 0)])) → W p l e rm_X7_plays s m args below meth c H locs 0 0 (QWi D below args s A (wMod cI a z.1) z.2) (F0 m 79 ls [.int t0_79, .ref (a 0)]) := by
            intro K_79 x1_79 x2_79 x3_79 t0_79 v _ _ ls hf hP hD hS hl hk
            unfold X7_plays_J79 at hf
            refine lv_if_eq (tgt := 86) hx hb dX7_plays_79 (by decide) (fun c_22 => ?_) (fun c_22 => ?_)
            · replace hf := (if_pos c_22).symm.trans hf
              refine lv_iconst (v := 1) hx hb dX7_plays_86 (by decide) ?_
              obtain rfl := hf
              exact hk _ _ ls hP hD hS (lv_sub hl [1, 0, 2, 3] rfl)
            · replace hf := (if_neg c_22).symm.trans hf
              refine lv_iconst (v := 2) hx hb dX7_plays_82 (by decide) ?_
              refine lv_goto (tgt := 87) hx hb dX7_plays_83 (by decide) ?_
              obtain rfl := hf
              exact hk _ _ ls hP hD hS (lv_sub hl [1, 0, 2, 3] rfl)
          refine hJ_79 u_18.1 (X7_plays_J64 u_18.1 u_13.2 u_18.2 u_13.2) u_13.2 u_18.2 u_13.2 _ _ _ ls rfl hP hD hS hl (fun H locs ls hP hD hS hl => ?_)
          clear hJ_79
          refine pX7_212 F hX hP hD hS 0 rfl (Nat.le_of_ble_eq_true rfl) dX7_plays_87 (fun H locs hP hD hS => ?_)
          obtain ⟨M_23, e_24, hf⟩ := bnd_e hf
          have hP : va_P D vwCl (wMod cI a M_23) H := by rw [e_24]; exact hP
          have hD : va_D A (wMod cI a M_23) := by rw [e_24]; exact hD
          clear e_24
          refine lv_aload_n hx hb dX7_plays_90 rfl (lv_at hl 0 rfl) ?_
          refine lv_iload_n hx hb dX7_plays_91 rfl (lv_at hl 2 rfl) ?_
          refine lv_if_eq (tgt := 99) hx hb dX7_plays_92 (by decide) (fun c_25 => ?_) (fun c_25 => ?_)
          · replace hf := (if_pos c_25).symm.trans hf
            refine lv_aload_n hx hb dX7_plays_99 rfl (lv_at hl 0 rfl) ?_
            refine gX7_163 F hX hP 0 rfl (v := .int (M_23.2 3)) rfl dX7_plays_100 ?_
            refine lv_aload_n hx hb dX7_plays_103 rfl (lv_at hl 0 rfl) ?_
            refine gX7_200 F hX hP 0 rfl (v := .int (M_23.2 4)) rfl dX7_plays_104 ?_
            refine lv_isub hx hb dX7_plays_107 ?_
            refine pX7_215 F hX hP hD hS 0 rfl (Nat.le_of_ble_eq_true rfl) dX7_plays_108 (fun H locs hP hD hS => ?_)
            obtain ⟨M_26, e_27, hf⟩ := bnd_e hf
            have hP : va_P D vwCl (wMod cI a M_26) H := by rw [e_27]; exact hP
            have hD : va_D A (wMod cI a M_26) := by rw [e_27]; exact hD
            clear e_27
            refine lv_aload_n hx hb dX7_plays_111 rfl (lv_at hl 0 rfl) ?_
            refine lv_dup hx hb dX7_plays_112 rfl ?_
            refine gX7_203 F hX hP 0 rfl (v := .int (M_26.2 7)) rfl dX7_plays_113 ?_
            refine lv_iconst (v := 1) hx hb dX7_plays_116 (by decide) ?_
            refine lv_iadd hx hb dX7_plays_117 ?_
            refine pX7_203 F hX hP hD hS 0 rfl (Nat.le_of_ble_eq_true rfl) dX7_plays_118 (fun H locs hP hD hS => ?_)
            obtain ⟨M_28, e_29, hf⟩ := bnd_e hf
            have hP : va_P D vwCl (wMod cI a M_28) H := by rw [e_29]; exact hP
            have hD : va_D A (wMod cI a M_28) := by rw [e_29]; exact hD
            clear e_29
            refine lv_goto (tgt := 22) hx hb dX7_plays_121 (by decide) ?_
            exact ih M_28 (X7_plays_J64 u_18.1 u_13.2 u_18.2 u_13.2) _ _ _ ls hf hP hD hS (lv_sub hl [0, 1] rfl) hk
          · replace hf := (if_neg c_25).symm.trans hf
            refine lv_iload_n hx hb dX7_plays_95 rfl (lv_at hl 3 rfl) ?_
            refine lv_goto (tgt := 108) hx hb dX7_plays_96 (by decide) ?_
            refine pX7_215 F hX hP hD hS 0 rfl (Nat.le_of_ble_eq_true rfl) dX7_plays_108 (fun H locs hP hD hS => ?_)
            obtain ⟨M_30, e_31, hf⟩ := bnd_e hf
            have hP : va_P D vwCl (wMod cI a M_30) H := by rw [e_31]; exact hP
            have hD : va_D A (wMod cI a M_30) := by rw [e_31]; exact hD
            clear e_31
            refine lv_aload_n hx hb dX7_plays_111 rfl (lv_at hl 0 rfl) ?_
            refine lv_dup hx hb dX7_plays_112 rfl ?_
            refine gX7_203 F hX hP 0 rfl (v := .int (M_30.2 7)) rfl dX7_plays_113 ?_
            refine lv_iconst (v := 1) hx hb dX7_plays_116 (by decide) ?_
            refine lv_iadd hx hb dX7_plays_117 ?_
            refine pX7_203 F hX hP hD hS 0 rfl (Nat.le_of_ble_eq_true rfl) dX7_plays_118 (fun H locs hP hD hS => ?_)
            obtain ⟨M_32, e_33, hf⟩ := bnd_e hf
            have hP : va_P D vwCl (wMod cI a M_32) H := by rw [e_33]; exact hP
            have hD : va_D A (wMod cI a M_32) := by rw [e_33]; exact hD
            clear e_33
            refine lv_goto (tgt := 22) hx hb dX7_plays_121 (by decide) ?_
            exact ih M_32 (X7_plays_J64 u_18.1 u_13.2 u_18.2 u_13.2) _ _ _ ls hf hP hD hS (lv_sub hl [0, 1] rfl) hk
  obtain ⟨u_34, h_35, hf⟩ := ob hf
  refine hL_22 FUEL M_7 1 u_34 _ _ ls h_35 hP hD hS (lv_sub hl [1, 0] rfl) (fun H locs ls hP hD hS hl => ?_)
  clear hL_22
  refine lv_aload_n hx hb dX7_plays_124 rfl (lv_at hl 0 rfl) ?_
  refine lv_iconst (v := 0) hx hb dX7_plays_125 (by decide) ?_
  refine pX7_37 F hX hP hD hS 0 rfl rfl rfl (Nat.le_of_ble_eq_true rfl) dX7_plays_126 (fun H locs hP hD hS => ?_)
  obtain ⟨M_36, e_37, hf⟩ := bnd_e hf
  have hP : va_P D vwCl (wMod cI a M_36) H := by rw [e_37]; exact hP
  have hD : va_D A (wMod cI a M_36) := by rw [e_37]; exact hD
  clear e_37
  refine lv_iload_n hx hb dX7_plays_129 rfl (lv_at hl 1 rfl) ?_
  have g_38 := og hf
  replace hf := (if_pos g_38).symm.trans hf
  obtain rfl := (Option.some.inj hf)
  exact wr_z F g_38 rfl hP hS dX7_plays_130
def X7_fault (K : SMod) (x1 : Int32) : Option (SMod × Int32) := (if (X7_in x1 0 2) = 0 then some (K, (-1000001)) else (bnd ((up K.1 2 (K.1 0)), K.2) fun M_2 => ((X7_plays M_2).bind fun u_4 => (bnd ((up u_4.1.1 0 (u_4.1.1 2)), u_4.1.2) fun M_6 => (if u_4.2 = 0 then (if x1 = 0 then some (M_6, (M_6.2 4)) else (if x1 = 1 then some (M_6, (M_6.2 5)) else some (M_6, (M_6.2 6)))) else some (M_6, (-1000004)))))))
abbrev rm_X7_fault : Room := { frames := 8, cells := 0, slots := 0, locals := 178 }
set_option maxHeartbeats 4000000 in
set_option maxRecDepth 100000 in
theorem c_X7_fault (l : Launch) (D : va_G) (cI cP : ClassId) (a : Nat → Nat) (K : SMod) (x1 : Int32) (z : SMod × Int32) (hf : X7_fault K x1 = some z) : MWi l yX7_fault cX7_fault 3 (some .int) rm_X7_fault D cI cP [.ref (a 0), .int x1] (wMod cI a K) (wMod cI a z.1) z.2 := by
  refine MWi.of (by decide +kernel) (Nat.le_of_ble_eq_true rfl) ?_
  intro p e s m args below meth c ls A F hX hP hD hA hS hl
  have F : Fx p s m args meth c RX7 cX7_fault 3 (some .int) := F
  have hx := F.1
  have hb := F.2.1
  have hown := F.2.2.2.1
  have hts := F.2.2.2.2.1
  have hl : lv_has ls 3 [(0, .ref (a 0)), (1, .int x1)] := hl
  unfold X7_fault at hf
  refine lv_iload_n hx hb dX7_fault_0 rfl (lv_at hl 1 rfl) ?_
  refine lv_iconst (v := 0) hx hb dX7_fault_1 (by decide) ?_
  refine lv_iconst (v := 2) hx hb dX7_fault_2 (by decide) ?_
  refine k_rd (runS F wdX7_45 (rm := rm_X7_in) (As := [.int x1, .int 0, .int 2]) (rest := []) ⟨rfl, rfl⟩ ⟨Nat.le_of_ble_eq_true rfl, Nat.le_of_ble_eq_true rfl⟩ hl.1 rfl rfl (Nat.le_of_ble_eq_true rfl) dX7_fault_3 ⟨Nat.zero_le _, Nat.zero_le _⟩) (c_X7_in l D cI cP x1 0 2 _ rfl) hX trivial vP_nil hP hS hA (fun H locs hP hS => ?_)
  refine lv_if_ne (tgt := 12) hx hb dX7_fault_6 (by decide) (fun c_1 => ?_) (fun c_1 => ?_)
  · replace hf := (if_neg c_1).symm.trans hf
    refine lv_aload_n hx hb dX7_fault_12 rfl (lv_at hl 0 rfl) ?_
    refine gX7_7 F hX hP 0 rfl (v := .ref (a 1)) rfl dX7_fault_13 ?_
    refine lv_aload_n hx hb dX7_fault_16 rfl (lv_at hl 0 rfl) ?_
    refine gX7_16 F hX hP 0 rfl (v := .ref (a 3)) rfl dX7_fault_17 ?_
    refine k_wv (runS F wdX7_218 (rm := rm_X7_copies) (As := [.ref (a 1), .ref (a 3)]) (rest := []) ⟨rfl, rfl⟩ ⟨Nat.le_of_ble_eq_true rfl, Nat.le_of_ble_eq_true rfl⟩ hl.1 rfl rfl (Nat.le_of_ble_eq_true rfl) dX7_fault_20 ⟨Nat.zero_le _, Nat.zero_le _⟩) (c_X7_copies l D cI cP (a 1) (a 3) (K.1 0) (K.1 2)) hX trivial (Cut.two (Bs := (bMod cI a K)) (k := 3) (j := 1) rfl rfl (by decide) rfl) hP hD hS hA (fun H locs hP hD hS => ?_)
    obtain ⟨M_2, e_3, hf⟩ := bnd_e hf
    have hP : va_P D vwCl (wMod cI a M_2) H := by rw [e_3]; exact hP
    have hD : va_D A (wMod cI a M_2) := by rw [e_3]; exact hD
    clear e_3
    refine lv_aload_n hx hb dX7_fault_23 rfl (lv_at hl 0 rfl) ?_
    obtain ⟨u_4, h_5, hf⟩ := ob hf
    refine k_wi (runV F wdX7_222 (rm := rm_X7_plays) (As := []) (rest := []) ⟨rfl, rfl⟩ ⟨Nat.le_of_ble_eq_true rfl, Nat.le_of_ble_eq_true rfl⟩ hl.1 rfl rfl (Nat.le_of_ble_eq_true rfl) dX7_fault_24 ⟨Nat.zero_le _, Nat.zero_le _⟩) (c_X7_plays l D cI cP a M_2  _ h_5) hX (va_recv hX.1 hP (ci := 7) (q0 := 0) rfl rfl) (Cut.all rfl) hP hD hS hA (fun H locs hP hD hS => ?_)
    have hP : va_P D vwCl (wMod cI a u_4.1) H := hP
    have hD : va_D A (wMod cI a u_4.1) := hD
    refine lv_istore_n (lv' := [(2, .int u_4.2), (0, .ref (a 0)), (1, .int x1)]) hx hb dX7_fault_27 rfl hl (by decide) rfl (fun ls hl => ?_)
    refine lv_aload_n hx hb dX7_fault_28 rfl (lv_at hl 1 rfl) ?_
    refine gX7_16 F hX hP 0 rfl (v := .ref (a 3)) rfl dX7_fault_29 ?_
    refine lv_aload_n hx hb dX7_fault_32 rfl (lv_at hl 1 rfl) ?_
    refine gX7_7 F hX hP 0 rfl (v := .ref (a 1)) rfl dX7_fault_33 ?_
    refine k_wv (runS F wdX7_218 (rm := rm_X7_copies) (As := [.ref (a 3), .ref (a 1)]) (rest := []) ⟨rfl, rfl⟩ ⟨Nat.le_of_ble_eq_true rfl, Nat.le_of_ble_eq_true rfl⟩ hl.1 rfl rfl (Nat.le_of_ble_eq_true rfl) dX7_fault_36 ⟨Nat.zero_le _, Nat.zero_le _⟩) (c_X7_copies l D cI cP (a 3) (a 1) (u_4.1.1 2) (u_4.1.1 0)) hX trivial (Cut.two (Bs := (bMod cI a u_4.1)) (k := 1) (j := 3) rfl rfl (by decide) rfl) hP hD hS hA (fun H locs hP hD hS => ?_)
    obtain ⟨M_6, e_7, hf⟩ := bnd_e hf
    have hP : va_P D vwCl (wMod cI a M_6) H := by rw [e_7]; exact hP
    have hD : va_D A (wMod cI a M_6) := by rw [e_7]; exact hD
    clear e_7
    refine lv_iload_n hx hb dX7_fault_39 rfl (lv_at hl 0 rfl) ?_
    refine lv_if_eq (tgt := 48) hx hb dX7_fault_40 (by decide) (fun c_8 => ?_) (fun c_8 => ?_)
    · replace hf := (if_pos c_8).symm.trans hf
      refine lv_iload_n hx hb dX7_fault_48 rfl (lv_at hl 2 rfl) ?_
      refine lv_if_ne (tgt := 59) hx hb dX7_fault_49 (by decide) (fun c_9 => ?_) (fun c_9 => ?_)
      · replace hf := (if_neg c_9).symm.trans hf
        refine lv_iload_n hx hb dX7_fault_59 rfl (lv_at hl 2 rfl) ?_
        refine lv_iconst (v := 1) hx hb dX7_fault_60 (by decide) ?_
        refine lv_icmp_ne (tgt := 71) hx hb dX7_fault_61 (by decide) (fun c_10 => ?_) (fun c_10 => ?_)
        · replace hf := (if_neg c_10).symm.trans hf
          refine lv_aload_n hx hb dX7_fault_71 rfl (lv_at hl 1 rfl) ?_
          refine gX7_215 F hX hP 0 rfl (v := .int (M_6.2 6)) rfl dX7_fault_72 ?_
          obtain rfl := (Option.some.inj hf)
          exact wr_i F rfl hP hS dX7_fault_75
        · replace hf := (if_pos c_10).symm.trans hf
          refine lv_aload_n hx hb dX7_fault_64 rfl (lv_at hl 1 rfl) ?_
          refine gX7_212 F hX hP 0 rfl (v := .int (M_6.2 5)) rfl dX7_fault_65 ?_
          refine lv_goto (tgt := 75) hx hb dX7_fault_68 (by decide) ?_
          obtain rfl := (Option.some.inj hf)
          exact wr_i F rfl hP hS dX7_fault_75
      · replace hf := (if_pos c_9).symm.trans hf
        refine lv_aload_n hx hb dX7_fault_52 rfl (lv_at hl 1 rfl) ?_
        refine gX7_200 F hX hP 0 rfl (v := .int (M_6.2 4)) rfl dX7_fault_53 ?_
        refine lv_goto (tgt := 75) hx hb dX7_fault_56 (by decide) ?_
        obtain rfl := (Option.some.inj hf)
        exact wr_i F rfl hP hS dX7_fault_75
    · replace hf := (if_neg c_8).symm.trans hf
      refine lv_ldc (v := (-1000004)) hx hb hown (hts _ q_838) dX7_fault_43 ?_
      refine lv_goto (tgt := 75) hx hb dX7_fault_45 (by decide) ?_
      obtain rfl := (Option.some.inj hf)
      exact wr_i F rfl hP hS dX7_fault_75
  · replace hf := (if_pos c_1).symm.trans hf
    refine lv_ldc (v := (-1000001)) hx hb hown (hts _ q_855) dX7_fault_9 ?_
    obtain rfl := (Option.some.inj hf)
    exact wr_i F rfl hP hS dX7_fault_11
def X7_play (K : SMod) : Option (SMod × Int32) := (bnd ((up K.1 2 (K.1 0)), K.2) fun M_1 => ((X7_plays M_1).bind fun u_3 => (bnd ((up u_3.1.1 0 (u_3.1.1 2)), u_3.1.2) fun M_5 => (if u_3.2 = 0 then some (M_5, (-1000002)) else ((X7_changes M_5).bind fun u_8 => ((X7_plays u_8).bind fun u_10 => (if u_10.2 = 0 then some (u_10.1, (-1000004)) else some (u_10.1, (u_10.1.2 7)))))))))
abbrev rm_X7_play : Room := { frames := 8, cells := 0, slots := 0, locals := 178 }
set_option maxHeartbeats 4000000 in
set_option maxRecDepth 100000 in
theorem c_X7_play (l : Launch) (D : va_G) (cI cP : ClassId) (a : Nat → Nat) (K : SMod) (z : SMod × Int32) (hf : X7_play K  = some z) : MWi l yX7_play cX7_play 2 (some .int) rm_X7_play D cI cP [.ref (a 0)] (wMod cI a K) (wMod cI a z.1) z.2 := by
  refine MWi.of (by decide +kernel) (Nat.le_of_ble_eq_true rfl) ?_
  intro p e s m args below meth c ls A F hX hP hD hA hS hl
  have F : Fx p s m args meth c RX7 cX7_play 2 (some .int) := F
  have hx := F.1
  have hb := F.2.1
  have hown := F.2.2.2.1
  have hts := F.2.2.2.2.1
  have hl : lv_has ls 2 [(0, .ref (a 0))] := hl
  unfold X7_play at hf
  refine lv_aload_n hx hb dX7_play_0 rfl (lv_at hl 0 rfl) ?_
  refine gX7_7 F hX hP 0 rfl (v := .ref (a 1)) rfl dX7_play_1 ?_
  refine lv_aload_n hx hb dX7_play_4 rfl (lv_at hl 0 rfl) ?_
  refine gX7_16 F hX hP 0 rfl (v := .ref (a 3)) rfl dX7_play_5 ?_
  refine k_wv (runS F wdX7_218 (rm := rm_X7_copies) (As := [.ref (a 1), .ref (a 3)]) (rest := []) ⟨rfl, rfl⟩ ⟨Nat.le_of_ble_eq_true rfl, Nat.le_of_ble_eq_true rfl⟩ hl.1 rfl rfl (Nat.le_of_ble_eq_true rfl) dX7_play_8 ⟨Nat.zero_le _, Nat.zero_le _⟩) (c_X7_copies l D cI cP (a 1) (a 3) (K.1 0) (K.1 2)) hX trivial (Cut.two (Bs := (bMod cI a K)) (k := 3) (j := 1) rfl rfl (by decide) rfl) hP hD hS hA (fun H locs hP hD hS => ?_)
  obtain ⟨M_1, e_2, hf⟩ := bnd_e hf
  have hP : va_P D vwCl (wMod cI a M_1) H := by rw [e_2]; exact hP
  have hD : va_D A (wMod cI a M_1) := by rw [e_2]; exact hD
  clear e_2
  refine lv_aload_n hx hb dX7_play_11 rfl (lv_at hl 0 rfl) ?_
  obtain ⟨u_3, h_4, hf⟩ := ob hf
  refine k_wi (runV F wdX7_222 (rm := rm_X7_plays) (As := []) (rest := []) ⟨rfl, rfl⟩ ⟨Nat.le_of_ble_eq_true rfl, Nat.le_of_ble_eq_true rfl⟩ hl.1 rfl rfl (Nat.le_of_ble_eq_true rfl) dX7_play_12 ⟨Nat.zero_le _, Nat.zero_le _⟩) (c_X7_plays l D cI cP a M_1  _ h_4) hX (va_recv hX.1 hP (ci := 7) (q0 := 0) rfl rfl) (Cut.all rfl) hP hD hS hA (fun H locs hP hD hS => ?_)
  have hP : va_P D vwCl (wMod cI a u_3.1) H := hP
  have hD : va_D A (wMod cI a u_3.1) := hD
  refine lv_istore_n (lv' := [(1, .int u_3.2), (0, .ref (a 0))]) hx hb dX7_play_15 rfl hl (by decide) rfl (fun ls hl => ?_)
  refine lv_aload_n hx hb dX7_play_16 rfl (lv_at hl 1 rfl) ?_
  refine gX7_16 F hX hP 0 rfl (v := .ref (a 3)) rfl dX7_play_17 ?_
  refine lv_aload_n hx hb dX7_play_20 rfl (lv_at hl 1 rfl) ?_
  refine gX7_7 F hX hP 0 rfl (v := .ref (a 1)) rfl dX7_play_21 ?_
  refine k_wv (runS F wdX7_218 (rm := rm_X7_copies) (As := [.ref (a 3), .ref (a 1)]) (rest := []) ⟨rfl, rfl⟩ ⟨Nat.le_of_ble_eq_true rfl, Nat.le_of_ble_eq_true rfl⟩ hl.1 rfl rfl (Nat.le_of_ble_eq_true rfl) dX7_play_24 ⟨Nat.zero_le _, Nat.zero_le _⟩) (c_X7_copies l D cI cP (a 3) (a 1) (u_3.1.1 2) (u_3.1.1 0)) hX trivial (Cut.two (Bs := (bMod cI a u_3.1)) (k := 1) (j := 3) rfl rfl (by decide) rfl) hP hD hS hA (fun H locs hP hD hS => ?_)
  obtain ⟨M_5, e_6, hf⟩ := bnd_e hf
  have hP : va_P D vwCl (wMod cI a M_5) H := by rw [e_6]; exact hP
  have hD : va_D A (wMod cI a M_5) := by rw [e_6]; exact hD
  clear e_6
  refine lv_iload_n hx hb dX7_play_27 rfl (lv_at hl 0 rfl) ?_
  refine lv_if_ne (tgt := 34) hx hb dX7_play_28 (by decide) (fun c_7 => ?_) (fun c_7 => ?_)
  · replace hf := (if_neg c_7).symm.trans hf
    refine lv_aload_n hx hb dX7_play_34 rfl (lv_at hl 1 rfl) ?_
    obtain ⟨u_8, h_9, hf⟩ := ob hf
    refine k_wv (runV F wdX7_98 (rm := rm_X7_changes) (As := []) (rest := []) ⟨rfl, rfl⟩ ⟨Nat.le_of_ble_eq_true rfl, Nat.le_of_ble_eq_true rfl⟩ hl.1 rfl rfl (Nat.le_of_ble_eq_true rfl) dX7_play_35 ⟨Nat.zero_le _, Nat.zero_le _⟩) (c_X7_changes l D cI cP a M_5  _ h_9) hX (va_recv hX.1 hP (ci := 7) (q0 := 0) rfl rfl) (Cut.all rfl) hP hD hS hA (fun H locs hP hD hS => ?_)
    have hP : va_P D vwCl (wMod cI a u_8) H := hP
    have hD : va_D A (wMod cI a u_8) := hD
    refine lv_aload_n hx hb dX7_play_38 rfl (lv_at hl 1 rfl) ?_
    obtain ⟨u_10, h_11, hf⟩ := ob hf
    refine k_wi (runV F wdX7_222 (rm := rm_X7_plays) (As := []) (rest := []) ⟨rfl, rfl⟩ ⟨Nat.le_of_ble_eq_true rfl, Nat.le_of_ble_eq_true rfl⟩ hl.1 rfl rfl (Nat.le_of_ble_eq_true rfl) dX7_play_39 ⟨Nat.zero_le _, Nat.zero_le _⟩) (c_X7_plays l D cI cP a u_8  _ h_11) hX (va_recv hX.1 hP (ci := 7) (q0 := 0) rfl rfl) (Cut.all rfl) hP hD hS hA (fun H locs hP hD hS => ?_)
    have hP : va_P D vwCl (wMod cI a u_10.1) H := hP
    have hD : va_D A (wMod cI a u_10.1) := hD
    refine lv_if_eq (tgt := 52) hx hb dX7_play_42 (by decide) (fun c_12 => ?_) (fun c_12 => ?_)
    · replace hf := (if_pos c_12).symm.trans hf
      refine lv_ldc (v := (-1000004)) hx hb hown (hts _ q_838) dX7_play_52 ?_
      obtain rfl := (Option.some.inj hf)
      exact wr_i F rfl hP hS dX7_play_54
    · replace hf := (if_neg c_12).symm.trans hf
      refine lv_aload_n hx hb dX7_play_45 rfl (lv_at hl 1 rfl) ?_
      refine gX7_203 F hX hP 0 rfl (v := .int (u_10.1.2 7)) rfl dX7_play_46 ?_
      refine lv_goto (tgt := 54) hx hb dX7_play_49 (by decide) ?_
      obtain rfl := (Option.some.inj hf)
      exact wr_i F rfl hP hS dX7_play_54
  · replace hf := (if_pos c_7).symm.trans hf
    refine lv_ldc (v := (-1000002)) hx hb hown (hts _ q_869) dX7_play_31 ?_
    obtain rfl := (Option.some.inj hf)
    exact wr_i F rfl hP hS dX7_play_33
