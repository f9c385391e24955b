def X7_stringOfBoth_J2 (K_2 : SMod) (x1_2 : Int32) (x2_2 : Int32) (t0_2 : Int32) (t1_2 : Int32) : Int32 := (if t0_2 ≤ t1_2 then x2_2 else x1_2)
def X7_stringOfBoth_L14 : Nat → SMod → Int32 → Int32 → Int32 → Int32 → Option (Int32)
  | 0, _, _, _, _, _ => none
  | fu + 1, K_14, x1_14, x2_14, x3_14, x4_14 => (if ((K_14.1 0) (Int32.toNatClampNeg 149)) ≤ x4_14 then some (-1000004) else ((X7_tied K_14 x4_14 0).bind fun u_3 => (if u_3 = x3_14 then ((X7_tied K_14 x4_14 1).bind fun u_6 => (if u_6 = ((x1_14 + x2_14) - x3_14) then some x4_14 else X7_stringOfBoth_L14 fu K_14 x1_14 x2_14 x3_14 (x4_14 + 1))) else X7_stringOfBoth_L14 fu K_14 x1_14 x2_14 x3_14 (x4_14 + 1))))
def X7_stringOfBoth (K : SMod) (x1 : Int32) (x2 : Int32) : Option (Int32) := (X7_stringOfBoth_L14 FUEL K x1 x2 (X7_stringOfBoth_J2 K x1 x2 x2 x1) 0)
abbrev rm_X7_stringOfBoth : Room := { frames := 1, cells := 0, slots := 0, locals := 22 }
set_option maxHeartbeats 4000000 in
set_option maxRecDepth 100000 in
theorem c_X7_stringOfBoth (l : Launch) (D : va_G) (cI cP : ClassId) (a : Nat → Nat) (K : SMod) (x1 : Int32) (x2 : Int32) (z : Int32) (hf : X7_stringOfBoth K x1 x2 = some z) : MRd l yX7_stringOfBoth cX7_stringOfBoth 5 (some .int) rm_X7_stringOfBoth D cI cP [.ref (a 0), .int x1, .int x2] (wMod cI a K) z := by
  refine MRd.of (by decide +kernel) (Nat.le_of_ble_eq_true rfl) ?_
  intro p e s m args below meth c ls F hX hP hS hl
  have F : Fx p s m args meth c RX7 cX7_stringOfBoth 5 (some .int) := F
  have hx := F.1
  have hb := F.2.1
  have hown := F.2.2.2.1
  have hts := F.2.2.2.2.1
  have hA : ∀ q : Nat, s.heap.size ≤ q → (fun q : Nat => s.heap.size ≤ q) q := fun _ h => h
  have hl : lv_has ls 5 [(0, .ref (a 0)), (1, .int x1), (2, .int x2)] := hl
  unfold X7_stringOfBoth at hf
  refine lv_iload_n hx hb dX7_stringOfBoth_0 rfl (lv_at hl 1 rfl) ?_
  refine lv_iload_n hx hb dX7_stringOfBoth_1 rfl (lv_at hl 2 rfl) ?_
  have hJ_2 : ∀ (K_2 : SMod) (x1_2 : Int32) (x2_2 : Int32) (t0_2 : Int32) (t1_2 : Int32) (v : Int32) (H : Heap) (locs : List Loc) (ls : Array Slot), X7_stringOfBoth_J2 K_2 x1_2 x2_2 t0_2 t1_2 = v → va_P D vwCl (wMod cI a K_2) H → va_S (fun q : Nat => s.heap.size ≤ q) s.heap H locs → lv_has ls 5 [(0, .ref (a 0)), (1, .int x1_2), (2, .int x2_2)] → (∀ (H : Heap) (locs : List Loc) (ls : Array Slot), va_P D vwCl (wMod cI a K_2) H → va_S (fun q : Nat => s.heap.size ≤ q) s.heap H locs → lv_has ls 5 [(0, .ref (a 0)), (1, .int x1_2), (2, .int x2_2)] → W p l e rm_X7_stringOfBoth s m args below meth c H locs 0 0 (QR below args s z) (F0 m 10 ls [.int v])) → W p l e rm_X7_stringOfBoth s m args below meth c H locs 0 0 (QR below args s z) (F0 m 2 ls [.int t0_2, .int t1_2]) := by
    intro K_2 x1_2 x2_2 t0_2 t1_2 v _ _ ls hf hP hS hl hk
    unfold X7_stringOfBoth_J2 at hf
    refine lv_icmp_ge (tgt := 9) hx hb dX7_stringOfBoth_2 (by decide) (fun c_1 => ?_) (fun c_1 => ?_)
    · replace hf := (if_pos c_1).symm.trans hf
      refine lv_iload_n hx hb dX7_stringOfBoth_9 rfl (lv_at hl 2 rfl) ?_
      obtain rfl := hf
      exact hk _ _ ls hP hS hl
    · replace hf := (if_neg c_1).symm.trans hf
      refine lv_iload_n hx hb dX7_stringOfBoth_5 rfl (lv_at hl 1 rfl) ?_
      refine lv_goto (tgt := 10) hx hb dX7_stringOfBoth_6 (by decide) ?_
      obtain rfl := hf
      exact hk _ _ ls hP hS hl
  refine hJ_2 K x1 x2 x2 x1 _ _ _ ls rfl hP hS hl (fun H locs ls hP hS hl => ?_)
  clear hJ_2
  refine lv_istore_n (lv' := [(3, .int (X7_stringOfBoth_J2 K x1 x2 x2 x1)), (0, .ref (a 0)), (1, .int x1), (2, .int x2)]) hx hb dX7_stringOfBoth_10 rfl hl (by decide) rfl (fun ls hl => ?_)
  refine lv_iconst (v := 0) hx hb dX7_stringOfBoth_11 (by decide) ?_
  refine lv_istore (lv' := [(4, .int 0), (3, .int (X7_stringOfBoth_J2 K x1 x2 x2 x1)), (0, .ref (a 0)), (1, .int x1), (2, .int x2)]) hx hb dX7_stringOfBoth_12 hl (by decide) rfl (fun ls hl => ?_)
  have hL_14 : ∀ (fu : Nat) (K_14 : SMod) (x1_14 : Int32) (x2_14 : Int32) (x3_14 : Int32) (x4_14 : Int32) (H : Heap) (locs : List Loc) (ls : Array Slot), X7_stringOfBoth_L14 fu K_14 x1_14 x2_14 x3_14 x4_14 = some z → va_P D vwCl (wMod cI a K_14) H → va_S (fun q : Nat => s.heap.size ≤ q) s.heap H locs → lv_has ls 5 [(0, .ref (a 0)), (1, .int x1_14), (2, .int x2_14), (3, .int x3_14), (4, .int x4_14)] → W p l e rm_X7_stringOfBoth s m args below meth c H locs 0 0 (QR below args s z) (F0 m 14 ls []) := by
    intro fu
    induction fu with
    | zero =>
      intro K_14 x1_14 x2_14 x3_14 x4_14 H locs ls hf
      exact absurd hf (by simp [X7_stringOfBoth_L14])
    | succ fu ih =>
      intro K_14 x1_14 x2_14 x3_14 x4_14 _ _ ls hf hP hS hl
      rw [X7_stringOfBoth_L14] at hf
      refine lv_iload hx hb dX7_stringOfBoth_14 (lv_at hl 4 rfl) ?_
      refine lv_aload_n hx hb dX7_stringOfBoth_16 rfl (lv_at hl 0 rfl) ?_
      refine gX7_7 F hX hP 0 rfl (v := .ref (a 1)) rfl dX7_stringOfBoth_17 ?_
      refine lv_sipush (v := 149) hx hb dX7_stringOfBoth_20 (by decide) ?_
      refine va_iald hx hb hX.1 hP 1 0 (n := 156) (f := (K_14.1 0)) rfl rfl (by decide : ¬ ((149 : Int32) < 0 ∨ 156 ≤ Int32.toNatClampNeg 149)) dX7_stringOfBoth_23 ?_
      refine lv_icmp_ge (tgt := 62) hx hb dX7_stringOfBoth_24 (by decide) (fun c_2 => ?_) (fun c_2 => ?_)
      · replace hf := (if_pos c_2).symm.trans hf
        refine lv_ldc (v := (-1000004)) hx hb hown (hts _ q_838) dX7_stringOfBoth_62 ?_
        exact rd_i F (Option.some.inj hf) hS dX7_stringOfBoth_64
      · replace hf := (if_neg c_2).symm.trans hf
        refine lv_aload_n hx hb dX7_stringOfBoth_27 rfl (lv_at hl 0 rfl) ?_
        refine lv_iload hx hb dX7_stringOfBoth_28 (lv_at hl 4 rfl) ?_
        refine lv_iconst (v := 0) hx hb dX7_stringOfBoth_30 (by decide) ?_
        obtain ⟨u_3, h_4, hf⟩ := ob hf
        refine k_rd (runV F wdX7_53 (rm := rm_X7_tied) (As := [.int x4_14, .int 0]) (rest := []) ⟨rfl, rfl⟩ ⟨Nat.le_of_ble_eq_true rfl, Nat.le_of_ble_eq_true rfl⟩ hl.1 rfl rfl (Nat.le_of_ble_eq_true rfl) dX7_stringOfBoth_31 ⟨Nat.zero_le _, Nat.zero_le _⟩) (c_X7_tied l D cI cP a K_14 x4_14 0 _ h_4) hX (va_recv hX.1 hP (ci := 7) (q0 := 0) rfl rfl) hP hP hS hA (fun H locs hP hS => ?_)
        refine lv_iload_n hx hb dX7_stringOfBoth_34 rfl (lv_at hl 3 rfl) ?_
        refine lv_icmp_ne (tgt := 56) hx hb dX7_stringOfBoth_35 (by decide) (fun c_5 => ?_) (fun c_5 => ?_)
        · replace hf := (if_neg c_5).symm.trans hf
          refine lv_iinc (v := (x4_14 + 1)) (lv' := [(4, .int (x4_14 + 1)), (0, .ref (a 0)), (1, .int x1_14), (2, .int x2_14), (3, .int x3_14)]) hx hb dX7_stringOfBoth_56 hl (k := 4) rfl (by rfl) (by decide) rfl (fun ls hl => ?_)
          refine lv_goto (tgt := 14) hx hb dX7_stringOfBoth_59 (by decide) ?_
          exact ih K_14 x1_14 x2_14 x3_14 (x4_14 + 1) _ _ ls hf hP hS (lv_sub hl [1, 2, 3, 4, 0] rfl)
        · replace hf := (if_pos c_5).symm.trans hf
          refine lv_aload_n hx hb dX7_stringOfBoth_38 rfl (lv_at hl 0 rfl) ?_
          refine lv_iload hx hb dX7_stringOfBoth_39 (lv_at hl 4 rfl) ?_
          refine lv_iconst (v := 1) hx hb dX7_stringOfBoth_41 (by decide) ?_
          obtain ⟨u_6, h_7, hf⟩ := ob hf
          refine k_rd (runV F wdX7_53 (rm := rm_X7_tied) (As := [.int x4_14, .int 1]) (rest := []) ⟨rfl, rfl⟩ ⟨Nat.le_of_ble_eq_true rfl, Nat.le_of_ble_eq_true rfl⟩ hl.1 rfl rfl (Nat.le_of_ble_eq_true rfl) dX7_stringOfBoth_42 ⟨Nat.zero_le _, Nat.zero_le _⟩) (c_X7_tied l D cI cP a K_14 x4_14 1 _ h_7) hX (va_recv hX.1 hP (ci := 7) (q0 := 0) rfl rfl) hP hP hS hA (fun H locs hP hS => ?_)
          refine lv_iload_n hx hb dX7_stringOfBoth_45 rfl (lv_at hl 1 rfl) ?_
          refine lv_iload_n hx hb dX7_stringOfBoth_46 rfl (lv_at hl 2 rfl) ?_
          refine lv_iadd hx hb dX7_stringOfBoth_47 ?_
          refine lv_iload_n hx hb dX7_stringOfBoth_48 rfl (lv_at hl 3 rfl) ?_
          refine lv_isub hx hb dX7_stringOfBoth_49 ?_
          refine lv_icmp_ne (tgt := 56) hx hb dX7_stringOfBoth_50 (by decide) (fun c_8 => ?_) (fun c_8 => ?_)
          · replace hf := (if_neg c_8).symm.trans hf
            refine lv_iinc (v := (x4_14 + 1)) (lv' := [(4, .int (x4_14 + 1)), (0, .ref (a 0)), (1, .int x1_14), (2, .int x2_14), (3, .int x3_14)]) hx hb dX7_stringOfBoth_56 hl (k := 4) rfl (by rfl) (by decide) rfl (fun ls hl => ?_)
            refine lv_goto (tgt := 14) hx hb dX7_stringOfBoth_59 (by decide) ?_
            exact ih K_14 x1_14 x2_14 x3_14 (x4_14 + 1) _ _ ls hf hP hS (lv_sub hl [1, 2, 3, 4, 0] rfl)
          · replace hf := (if_pos c_8).symm.trans hf
            refine lv_iload hx hb dX7_stringOfBoth_53 (lv_at hl 4 rfl) ?_
            exact rd_i F (Option.some.inj hf) hS dX7_stringOfBoth_55
  exact hL_14 FUEL K x1 x2 (X7_stringOfBoth_J2 K x1 x2 x2 x1) 0 _ _ ls hf hP hS (lv_sub hl [2, 3, 4, 1, 0] rfl)
def X7_refused (K : SMod) (x1 : Int32) (x2 : Int32) (x3 : Int32) : Option (SMod × Int32) := ((X7_stringOfBoth K x1 x2).bind fun u_1 => (if u_1 < 0 then ((X7_looks K (-1000004)).bind fun u_4 => (if ¬ (x1 < 0 ∨ 12 ≤ Int32.toNatClampNeg x1) then (if ¬ (x2 < 0 ∨ 12 ≤ Int32.toNatClampNeg x2) then (if ((u_4.1 4) (Int32.toNatClampNeg x1)) = ((u_4.1 4) (Int32.toNatClampNeg x2)) then (if (((u_4.1 5) (Int32.toNatClampNeg x1)) ^^^ ((u_4.1 5) (Int32.toNatClampNeg x2))) = x3 then some (u_4, 0) else some (u_4, 2)) else ((X7_pulled u_4 ((u_4.1 4) (Int32.toNatClampNeg x1)) (-1000004)).bind fun u_9 => ((X7_pulled u_4 ((u_4.1 4) (Int32.toNatClampNeg x2)) (-1000004)).bind fun u_11 => (if u_9 < 0 then some (u_4, 0) else (if u_11 < 0 then some (u_4, 0) else (if (((u_9 ^^^ ((u_4.1 5) (Int32.toNatClampNeg x1))) ^^^ u_11) ^^^ ((u_4.1 5) (Int32.toNatClampNeg x2))) = x3 then some (u_4, 0) else some (u_4, 3))))))) else none) else none)) else some (K, 1)))
abbrev rm_X7_refused : Room := { frames := 2, cells := 0, slots := 0, locals := 48 }
set_option maxHeartbeats 4000000 in
set_option maxRecDepth 100000 in
theorem c_X7_refused (l : Launch) (D : va_G) (cI cP : ClassId) (a : Nat → Nat) (K : SMod) (x1 : Int32) (x2 : Int32) (x3 : Int32) (z : SMod × Int32) (hf : X7_refused K x1 x2 x3 = some z) : MWi l yX7_refused cX7_refused 6 (some .int) rm_X7_refused D cI cP [.ref (a 0), .int x1, .int x2, .int x3] (wMod cI a K) (wMod cI a z.1) z.2 := by
  refine MWi.of (by decide +kernel) (Nat.le_of_ble_eq_true rfl) ?_
  intro p e s m args below meth c ls A F hX hP hD hA hS hl
  have F : Fx p s m args meth c RX7 cX7_refused 6 (some .int) := F
  have hx := F.1
  have hb := F.2.1
  have hown := F.2.2.2.1
  have hts := F.2.2.2.2.1
  have hl : lv_has ls 6 [(0, .ref (a 0)), (1, .int x1), (2, .int x2), (3, .int x3)] := hl
  unfold X7_refused at hf
  refine lv_aload_n hx hb dX7_refused_0 rfl (lv_at hl 0 rfl) ?_
  refine lv_iload_n hx hb dX7_refused_1 rfl (lv_at hl 1 rfl) ?_
  refine lv_iload_n hx hb dX7_refused_2 rfl (lv_at hl 2 rfl) ?_
  obtain ⟨u_1, h_2, hf⟩ := ob hf
  refine k_rd (runV F wdX7_85 (rm := rm_X7_stringOfBoth) (As := [.int x1, .int x2]) (rest := []) ⟨rfl, rfl⟩ ⟨Nat.le_of_ble_eq_true rfl, Nat.le_of_ble_eq_true rfl⟩ hl.1 rfl rfl (Nat.le_of_ble_eq_true rfl) dX7_refused_3 ⟨Nat.zero_le _, Nat.zero_le _⟩) (c_X7_stringOfBoth l D cI cP a K x1 x2 _ h_2) hX (va_recv hX.1 hP (ci := 7) (q0 := 0) rfl rfl) hP hP hS hA (fun H locs hP hS => ?_)
  refine lv_if_lt (tgt := 11) hx hb dX7_refused_6 (by decide) (fun c_3 => ?_) (fun c_3 => ?_)
  · replace hf := (if_pos c_3).symm.trans hf
    refine lv_aload_n hx hb dX7_refused_11 rfl (lv_at hl 0 rfl) ?_
    refine lv_ldc (v := (-1000004)) hx hb hown (hts _ q_838) dX7_refused_12 ?_
    obtain ⟨u_4, h_5, hf⟩ := ob hf
    refine k_wv (runV F wdX7_71 (rm := rm_X7_looks) (As := [.int (-1000004)]) (rest := []) ⟨rfl, rfl⟩ ⟨Nat.le_of_ble_eq_true rfl, Nat.le_of_ble_eq_true rfl⟩ hl.1 rfl rfl (Nat.le_of_ble_eq_true rfl) dX7_refused_14 ⟨Nat.zero_le _, Nat.zero_le _⟩) (c_X7_looks l D cI cP a K (-1000004) _ h_5) hX (va_recv hX.1 hP (ci := 7) (q0 := 0) rfl rfl) (Cut.all rfl) hP hD hS hA (fun H locs hP hD hS => ?_)
    have hP : va_P D vwCl (wMod cI a u_4) H := hP
    have hD : va_D A (wMod cI a u_4) := hD
    refine lv_aload_n hx hb dX7_refused_17 rfl (lv_at hl 0 rfl) ?_
    refine gX7_22 F hX hP 0 rfl (v := .ref (a 5)) rfl dX7_refused_18 ?_
    refine lv_iload_n hx hb dX7_refused_21 rfl (lv_at hl 1 rfl) ?_
    have g_6 := og hf
    replace hf := (if_pos g_6).symm.trans hf
    refine va_iald hx hb hX.1 hP 5 0 (n := 12) (f := (u_4.1 4)) rfl rfl g_6 dX7_refused_22 ?_
    refine lv_aload_n hx hb dX7_refused_23 rfl (lv_at hl 0 rfl) ?_
    refine gX7_22 F hX hP 0 rfl (v := .ref (a 5)) rfl dX7_refused_24 ?_
    refine lv_iload_n hx hb dX7_refused_27 rfl (lv_at hl 2 rfl) ?_
    have g_7 := og hf
    replace hf := (if_pos g_7).symm.trans hf
    refine va_iald hx hb hX.1 hP 5 0 (n := 12) (f := (u_4.1 4)) rfl rfl g_7 dX7_refused_28 ?_
    refine lv_icmp_ne (tgt := 55) hx hb dX7_refused_29 (by decide) (fun c_8 => ?_) (fun c_8 => ?_)
    · replace hf := (if_neg c_8).symm.trans hf
      refine lv_aload_n hx hb dX7_refused_55 rfl (lv_at hl 0 rfl) ?_
      refine lv_aload_n hx hb dX7_refused_56 rfl (lv_at hl 0 rfl) ?_
      refine gX7_22 F hX hP 0 rfl (v := .ref (a 5)) rfl dX7_refused_57 ?_
      refine lv_iload_n hx hb dX7_refused_60 rfl (lv_at hl 1 rfl) ?_
      refine va_iald hx hb hX.1 hP 5 0 (n := 12) (f := (u_4.1 4)) rfl rfl g_6 dX7_refused_61 ?_
      refine lv_ldc (v := (-1000004)) hx hb hown (hts _ q_838) dX7_refused_62 ?_
      obtain ⟨u_9, h_10, hf⟩ := ob hf
      refine k_rd (runV F wdX7_64 (rm := rm_X7_pulled) (As := [.int ((u_4.1 4) (Int32.toNatClampNeg x1)), .int (-1000004)]) (rest := []) ⟨rfl, rfl⟩ ⟨Nat.le_of_ble_eq_true rfl, Nat.le_of_ble_eq_true rfl⟩ hl.1 rfl rfl (Nat.le_of_ble_eq_true rfl) dX7_refused_64 ⟨Nat.zero_le _, Nat.zero_le _⟩) (c_X7_pulled l D cI cP a u_4 ((u_4.1 4) (Int32.toNatClampNeg x1)) (-1000004) _ h_10) hX (va_recv hX.1 hP (ci := 7) (q0 := 0) rfl rfl) hP hP hS hA (fun H locs hP hS => ?_)
      refine lv_istore (lv' := [(4, .int u_9), (0, .ref (a 0)), (1, .int x1), (2, .int x2), (3, .int x3)]) hx hb dX7_refused_67 hl (by decide) rfl (fun ls hl => ?_)
      refine lv_aload_n hx hb dX7_refused_69 rfl (lv_at hl 1 rfl) ?_
      refine lv_aload_n hx hb dX7_refused_70 rfl (lv_at hl 1 rfl) ?_
      refine gX7_22 F hX hP 0 rfl (v := .ref (a 5)) rfl dX7_refused_71 ?_
      refine lv_iload_n hx hb dX7_refused_74 rfl (lv_at hl 3 rfl) ?_
      refine va_iald hx hb hX.1 hP 5 0 (n := 12) (f := (u_4.1 4)) rfl rfl g_7 dX7_refused_75 ?_
      refine lv_ldc (v := (-1000004)) hx hb hown (hts _ q_838) dX7_refused_76 ?_
      obtain ⟨u_11, h_12, hf⟩ := ob hf
      refine k_rd (runV F wdX7_64 (rm := rm_X7_pulled) (As := [.int ((u_4.1 4) (Int32.toNatClampNeg x2)), .int (-1000004)]) (rest := []) ⟨rfl, rfl⟩ ⟨Nat.le_of_ble_eq_true rfl, Nat.le_of_ble_eq_true rfl⟩ hl.1 rfl rfl (Nat.le_of_ble_eq_true rfl) dX7_refused_78 ⟨Nat.zero_le _, Nat.zero_le _⟩) (c_X7_pulled l D cI cP a u_4 ((u_4.1 4) (Int32.toNatClampNeg x2)) (-1000004) _ h_12) hX (va_recv hX.1 hP (ci := 7) (q0 := 0) rfl rfl) hP hP hS hA (fun H locs hP hS => ?_)
      refine lv_istore (lv' := [(5, .int u_11), (4, .int u_9), (0, .ref (a 0)), (1, .int x1), (2, .int x2), (3, .int x3)]) hx hb dX7_refused_81 hl (by decide) rfl (fun ls hl => ?_)
      refine lv_iload hx hb dX7_refused_83 (lv_at hl 1 rfl) ?_
      refine lv_if_lt (tgt := 120) hx hb dX7_refused_85 (by decide) (fun c_13 => ?_) (fun c_13 => ?_)
      · replace hf := (if_pos c_13).symm.trans hf
        refine lv_iconst (v := 0) hx hb dX7_refused_120 (by decide) ?_
        obtain rfl := (Option.some.inj hf)
        exact wr_i F rfl hP hS dX7_refused_121
      · replace hf := (if_neg c_13).symm.trans hf
        refine lv_iload hx hb dX7_refused_88 (lv_at hl 0 rfl) ?_
        refine lv_if_lt (tgt := 120) hx hb dX7_refused_90 (by decide) (fun c_14 => ?_) (fun c_14 => ?_)
        · replace hf := (if_pos c_14).symm.trans hf
          refine lv_iconst (v := 0) hx hb dX7_refused_120 (by decide) ?_
          obtain rfl := (Option.some.inj hf)
          exact wr_i F rfl hP hS dX7_refused_121
        · replace hf := (if_neg c_14).symm.trans hf
          refine lv_iload hx hb dX7_refused_93 (lv_at hl 1 rfl) ?_
          refine lv_aload_n hx hb dX7_refused_95 rfl (lv_at hl 2 rfl) ?_
          refine gX7_25 F hX hP 0 rfl (v := .ref (a 6)) rfl dX7_refused_96 ?_
          refine lv_iload_n hx hb dX7_refused_99 rfl (lv_at hl 3 rfl) ?_
          refine va_iald hx hb hX.1 hP 6 0 (n := 12) (f := (u_4.1 5)) rfl rfl g_6 dX7_refused_100 ?_
          refine lv_ixor hx hb dX7_refused_101 ?_
          refine lv_iload hx hb dX7_refused_102 (lv_at hl 0 rfl) ?_
          refine lv_ixor hx hb dX7_refused_104 ?_
          refine lv_aload_n hx hb dX7_refused_105 rfl (lv_at hl 2 rfl) ?_
          refine gX7_25 F hX hP 0 rfl (v := .ref (a 6)) rfl dX7_refused_106 ?_
          refine lv_iload_n hx hb dX7_refused_109 rfl (lv_at hl 4 rfl) ?_
          refine va_iald hx hb hX.1 hP 6 0 (n := 12) (f := (u_4.1 5)) rfl rfl g_7 dX7_refused_110 ?_
          refine lv_ixor hx hb dX7_refused_111 ?_
          refine lv_iload_n hx hb dX7_refused_112 rfl (lv_at hl 5 rfl) ?_
          refine lv_icmp_eq (tgt := 120) hx hb dX7_refused_113 (by decide) (fun c_15 => ?_) (fun c_15 => ?_)
          · replace hf := (if_pos c_15).symm.trans hf
            refine lv_iconst (v := 0) hx hb dX7_refused_120 (by decide) ?_
            obtain rfl := (Option.some.inj hf)
            exact wr_i F rfl hP hS dX7_refused_121
          · replace hf := (if_neg c_15).symm.trans hf
            refine lv_iconst (v := 3) hx hb dX7_refused_116 (by decide) ?_
            refine lv_goto (tgt := 121) hx hb dX7_refused_117 (by decide) ?_
            obtain rfl := (Option.some.inj hf)
            exact wr_i F rfl hP hS dX7_refused_121
    · replace hf := (if_pos c_8).symm.trans hf
      refine lv_aload_n hx hb dX7_refused_32 rfl (lv_at hl 0 rfl) ?_
      refine gX7_25 F hX hP 0 rfl (v := .ref (a 6)) rfl dX7_refused_33 ?_
      refine lv_iload_n hx hb dX7_refused_36 rfl (lv_at hl 1 rfl) ?_
      refine va_iald hx hb hX.1 hP 6 0 (n := 12) (f := (u_4.1 5)) rfl rfl g_6 dX7_refused_37 ?_
      refine lv_aload_n hx hb dX7_refused_38 rfl (lv_at hl 0 rfl) ?_
      refine gX7_25 F hX hP 0 rfl (v := .ref (a 6)) rfl dX7_refused_39 ?_
      refine lv_iload_n hx hb dX7_refused_42 rfl (lv_at hl 2 rfl) ?_
      refine va_iald hx hb hX.1 hP 6 0 (n := 12) (f := (u_4.1 5)) rfl rfl g_7 dX7_refused_43 ?_
      refine lv_ixor hx hb dX7_refused_44 ?_
      refine lv_iload_n hx hb dX7_refused_45 rfl (lv_at hl 3 rfl) ?_
      refine lv_icmp_ne (tgt := 53) hx hb dX7_refused_46 (by decide) (fun c_16 => ?_) (fun c_16 => ?_)
      · replace hf := (if_neg c_16).symm.trans hf
        refine lv_iconst (v := 2) hx hb dX7_refused_53 (by decide) ?_
        obtain rfl := (Option.some.inj hf)
        exact wr_i F rfl hP hS dX7_refused_54
      · replace hf := (if_pos c_16).symm.trans hf
        refine lv_iconst (v := 0) hx hb dX7_refused_49 (by decide) ?_
        refine lv_goto (tgt := 54) hx hb dX7_refused_50 (by decide) ?_
        obtain rfl := (Option.some.inj hf)
        exact wr_i F rfl hP hS dX7_refused_54
  · replace hf := (if_neg c_3).symm.trans hf
    refine lv_iconst (v := 1) hx hb dX7_refused_9 (by decide) ?_
    obtain rfl := (Option.some.inj hf)
    exact wr_i F rfl hP hS dX7_refused_10
def X7_whyTie (K : SMod) (x1 : Int32) (x2 : Int32) (x3 : Int32) : Option (SMod × Int32) := ((X7_isPair K x1 x2).bind fun u_1 => (if u_1 = 0 then some (K, (-1000001)) else (if x3 = 0 then ((X7_refused K x1 x2 0).bind fun u_5 => some (u_5.1, u_5.2)) else ((X7_refused K x1 x2 1).bind fun u_7 => some (u_7.1, u_7.2)))))
abbrev rm_X7_whyTie : Room := { frames := 3, cells := 0, slots := 0, locals := 73 }
set_option maxHeartbeats 4000000 in
set_option maxRecDepth 100000 in
theorem c_X7_whyTie (l : Launch) (D : va_G) (cI cP : ClassId) (a : Nat → Nat) (K : SMod) (x1 : Int32) (x2 : Int32) (x3 : Int32) (z : SMod × Int32) (hf : X7_whyTie K x1 x2 x3 = some z) : MWi l yX7_whyTie cX7_whyTie 4 (some .int) rm_X7_whyTie D cI cP [.ref (a 0), .int x1, .int x2, .int x3] (wMod cI a K) (wMod cI a z.1) z.2 := by
  refine MWi.of (by decide +kernel) (Nat.le_of_ble_eq_true rfl) ?_
  intro p e s m args below meth c ls A F hX hP hD hA hS hl
  have F : Fx p s m args meth c RX7 cX7_whyTie 4 (some .int) := F
  have hx := F.1
  have hb := F.2.1
  have hown := F.2.2.2.1
  have hts := F.2.2.2.2.1
  have hl : lv_has ls 4 [(0, .ref (a 0)), (1, .int x1), (2, .int x2), (3, .int x3)] := hl
  unfold X7_whyTie at hf
  refine lv_aload_n hx hb dX7_whyTie_0 rfl (lv_at hl 0 rfl) ?_
  refine lv_iload_n hx hb dX7_whyTie_1 rfl (lv_at hl 1 rfl) ?_
  refine lv_iload_n hx hb dX7_whyTie_2 rfl (lv_at hl 2 rfl) ?_
  obtain ⟨u_1, h_2, hf⟩ := ob hf
  refine k_rd (runV F wdX7_88 (rm := rm_X7_isPair) (As := [.int x1, .int x2]) (rest := []) ⟨rfl, rfl⟩ ⟨Nat.le_of_ble_eq_true rfl, Nat.le_of_ble_eq_true rfl⟩ hl.1 rfl rfl (Nat.le_of_ble_eq_true rfl) dX7_whyTie_3 ⟨Nat.zero_le _, Nat.zero_le _⟩) (c_X7_isPair l D cI cP a K x1 x2 _ h_2) hX (va_recv hX.1 hP (ci := 7) (q0 := 0) rfl rfl) hP hP hS hA (fun H locs hP hS => ?_)
  refine lv_if_eq (tgt := 27) hx hb dX7_whyTie_6 (by decide) (fun c_3 => ?_) (fun c_3 => ?_)
  · replace hf := (if_pos c_3).symm.trans hf
    refine lv_ldc (v := (-1000001)) hx hb hown (hts _ q_855) dX7_whyTie_27 ?_
    obtain rfl := (Option.some.inj hf)
    exact wr_i F rfl hP hS dX7_whyTie_29
  · replace hf := (if_neg c_3).symm.trans hf
    refine lv_aload_n hx hb dX7_whyTie_9 rfl (lv_at hl 0 rfl) ?_
    refine lv_iload_n hx hb dX7_whyTie_10 rfl (lv_at hl 1 rfl) ?_
    refine lv_iload_n hx hb dX7_whyTie_11 rfl (lv_at hl 2 rfl) ?_
    refine lv_iload_n hx hb dX7_whyTie_12 rfl (lv_at hl 3 rfl) ?_
    refine lv_if_eq (tgt := 20) hx hb dX7_whyTie_13 (by decide) (fun c_4 => ?_) (fun c_4 => ?_)
    · replace hf := (if_pos c_4).symm.trans hf
      refine lv_iconst (v := 0) hx hb dX7_whyTie_20 (by decide) ?_
      obtain ⟨u_5, h_6, hf⟩ := ob hf
      refine k_wi (runV F wdX7_92 (rm := rm_X7_refused) (As := [.int x1, .int x2, .int 0]) (rest := []) ⟨rfl, rfl⟩ ⟨Nat.le_of_ble_eq_true rfl, Nat.le_of_ble_eq_true rfl⟩ hl.1 rfl rfl (Nat.le_of_ble_eq_true rfl) dX7_whyTie_21 ⟨Nat.zero_le _, Nat.zero_le _⟩) (c_X7_refused l D cI cP a K x1 x2 0 _ h_6) hX (va_recv hX.1 hP (ci := 7) (q0 := 0) rfl rfl) (Cut.all rfl) hP hD hS hA (fun H locs hP hD hS => ?_)
      have hP : va_P D vwCl (wMod cI a u_5.1) H := hP
      have hD : va_D A (wMod cI a u_5.1) := hD
      refine lv_goto (tgt := 29) hx hb dX7_whyTie_24 (by decide) ?_
      obtain rfl := (Option.some.inj hf)
      exact wr_i F rfl hP hS dX7_whyTie_29
    · replace hf := (if_neg c_4).symm.trans hf
      refine lv_iconst (v := 1) hx hb dX7_whyTie_16 (by decide) ?_
      refine lv_goto (tgt := 21) hx hb dX7_whyTie_17 (by decide) ?_
      obtain ⟨u_7, h_8, hf⟩ := ob hf
      refine k_wi (runV F wdX7_92 (rm := rm_X7_refused) (As := [.int x1, .int x2, .int 1]) (rest := []) ⟨rfl, rfl⟩ ⟨Nat.le_of_ble_eq_true rfl, Nat.le_of_ble_eq_true rfl⟩ hl.1 rfl rfl (Nat.le_of_ble_eq_true rfl) dX7_whyTie_21 ⟨Nat.zero_le _, Nat.zero_le _⟩) (c_X7_refused l D cI cP a K x1 x2 1 _ h_8) hX (va_recv hX.1 hP (ci := 7) (q0 := 0) rfl rfl) (Cut.all rfl) hP hD hS hA (fun H locs hP hD hS => ?_)
      have hP : va_P D vwCl (wMod cI a u_7.1) H := hP
      have hD : va_D A (wMod cI a u_7.1) := hD
      refine lv_goto (tgt := 29) hx hb dX7_whyTie_24 (by decide) ?_
      obtain rfl := (Option.some.inj hf)
      exact wr_i F rfl hP hS dX7_whyTie_29
def X7_puppet (K : SMod) (x1 : Int32) (x2 : Int32) : Option (SMod × Int32) := (if (X7_in x1 1 9) = 0 then some (K, (-1000001)) else (if (X7_in x2 0 1) = 0 then some (K, (-1000001)) else (if ((K.1 0) (Int32.toNatClampNeg 148)) = 12 then some (K, (-1000003)) else ((X7_changes K).bind fun u_4 => (if ¬ (((3 * ((u_4.1 0) (Int32.toNatClampNeg 148))) + 0) < 0 ∨ 156 ≤ Int32.toNatClampNeg ((3 * ((u_4.1 0) (Int32.toNatClampNeg 148))) + 0)) then (bnd ((up u_4.1 0 (upd (u_4.1 0) (Int32.toNatClampNeg ((3 * ((u_4.1 0) (Int32.toNatClampNeg 148))) + 0)) x1)), u_4.2) fun M_7 => (if ¬ (((3 * ((u_4.1 0) (Int32.toNatClampNeg 148))) + 1) < 0 ∨ 156 ≤ Int32.toNatClampNeg ((3 * ((u_4.1 0) (Int32.toNatClampNeg 148))) + 1)) then (bnd ((up M_7.1 0 (upd (M_7.1 0) (Int32.toNatClampNeg ((3 * ((u_4.1 0) (Int32.toNatClampNeg 148))) + 1)) x2)), M_7.2) fun M_10 => (bnd ((up M_10.1 0 (upd (M_10.1 0) (Int32.toNatClampNeg 148) (((M_10.1 0) (Int32.toNatClampNeg 148)) + 1))), M_10.2) fun M_12 => some (M_12, ((u_4.1 0) (Int32.toNatClampNeg 148))))) else none)) else none)))))
abbrev rm_X7_puppet : Room := { frames := 1, cells := 0, slots := 0, locals := 22 }
set_option maxHeartbeats 4000000 in
set_option maxRecDepth 100000 in
theorem c_X7_puppet (l : Launch) (D : va_G) (cI cP : ClassId) (a : Nat → Nat) (K : SMod) (x1 : Int32) (x2 : Int32) (z : SMod × Int32) (hf : X7_puppet K x1 x2 = some z) : MWi l yX7_puppet cX7_puppet 4 (some .int) rm_X7_puppet D cI cP [.ref (a 0), .int x1, .int x2] (wMod cI a K) (wMod cI a z.1) z.2 := by
  refine MWi.of (by decide +kernel) (Nat.le_of_ble_eq_true rfl) ?_
  intro p e s m args below meth c ls A F hX hP hD hA hS hl
  have F : Fx p s m args meth c RX7 cX7_puppet 4 (some .int) := F
  have hx := F.1
  have hb := F.2.1
  have hown := F.2.2.2.1
  have hts := F.2.2.2.2.1
  have hl : lv_has ls 4 [(0, .ref (a 0)), (1, .int x1), (2, .int x2)] := hl
  unfold X7_puppet at hf
  refine lv_iload_n hx hb dX7_puppet_0 rfl (lv_at hl 1 rfl) ?_
  refine lv_iconst (v := 1) hx hb dX7_puppet_1 (by decide) ?_
  refine lv_bipush (v := 9) hx hb dX7_puppet_2 (by decide) ?_
  refine k_rd (runS F wdX7_45 (rm := rm_X7_in) (As := [.int x1, .int 1, .int 9]) (rest := []) ⟨rfl, rfl⟩ ⟨Nat.le_of_ble_eq_true rfl, Nat.le_of_ble_eq_true rfl⟩ hl.1 rfl rfl (Nat.le_of_ble_eq_true rfl) dX7_puppet_4 ⟨Nat.zero_le _, Nat.zero_le _⟩) (c_X7_in l D cI cP x1 1 9 _ rfl) hX trivial vP_nil hP hS hA (fun H locs hP hS => ?_)
  refine lv_if_eq (tgt := 19) hx hb dX7_puppet_7 (by decide) (fun c_1 => ?_) (fun c_1 => ?_)
  · replace hf := (if_pos c_1).symm.trans hf
    refine lv_ldc (v := (-1000001)) hx hb hown (hts _ q_855) dX7_puppet_19 ?_
    obtain rfl := (Option.some.inj hf)
    exact wr_i F rfl hP hS dX7_puppet_21
  · replace hf := (if_neg c_1).symm.trans hf
    refine lv_iload_n hx hb dX7_puppet_10 rfl (lv_at hl 2 rfl) ?_
    refine lv_iconst (v := 0) hx hb dX7_puppet_11 (by decide) ?_
    refine lv_iconst (v := 1) hx hb dX7_puppet_12 (by decide) ?_
    refine k_rd (runS F wdX7_45 (rm := rm_X7_in) (As := [.int x2, .int 0, .int 1]) (rest := []) ⟨rfl, rfl⟩ ⟨Nat.le_of_ble_eq_true rfl, Nat.le_of_ble_eq_true rfl⟩ hl.1 rfl rfl (Nat.le_of_ble_eq_true rfl) dX7_puppet_13 ⟨Nat.zero_le _, Nat.zero_le _⟩) (c_X7_in l D cI cP x2 0 1 _ rfl) hX trivial vP_nil hP hS hA (fun H locs hP hS => ?_)
    refine lv_if_ne (tgt := 22) hx hb dX7_puppet_16 (by decide) (fun c_2 => ?_) (fun c_2 => ?_)
    · replace hf := (if_neg c_2).symm.trans hf
      refine lv_aload_n hx hb dX7_puppet_22 rfl (lv_at hl 0 rfl) ?_
      refine gX7_7 F hX hP 0 rfl (v := .ref (a 1)) rfl dX7_puppet_23 ?_
      refine lv_sipush (v := 148) hx hb dX7_puppet_26 (by decide) ?_
      refine va_iald hx hb hX.1 hP 1 0 (n := 156) (f := (K.1 0)) rfl rfl (by decide : ¬ ((148 : Int32) < 0 ∨ 156 ≤ Int32.toNatClampNeg 148)) dX7_puppet_29 ?_
      refine lv_bipush (v := 12) hx hb dX7_puppet_30 (by decide) ?_
      refine lv_icmp_ne (tgt := 38) hx hb dX7_puppet_32 (by decide) (fun c_3 => ?_) (fun c_3 => ?_)
      · replace hf := (if_neg c_3).symm.trans hf
        refine lv_aload_n hx hb dX7_puppet_38 rfl (lv_at hl 0 rfl) ?_
        obtain ⟨u_4, h_5, hf⟩ := ob hf
        refine k_wv (runV F wdX7_98 (rm := rm_X7_changes) (As := []) (rest := []) ⟨rfl, rfl⟩ ⟨Nat.le_of_ble_eq_true rfl, Nat.le_of_ble_eq_true rfl⟩ hl.1 rfl rfl (Nat.le_of_ble_eq_true rfl) dX7_puppet_39 ⟨Nat.zero_le _, Nat.zero_le _⟩) (c_X7_changes l D cI cP a K  _ h_5) hX (va_recv hX.1 hP (ci := 7) (q0 := 0) rfl rfl) (Cut.all rfl) hP hD hS hA (fun H locs hP hD hS => ?_)
        have hP : va_P D vwCl (wMod cI a u_4) H := hP
        have hD : va_D A (wMod cI a u_4) := hD
        refine lv_aload_n hx hb dX7_puppet_42 rfl (lv_at hl 0 rfl) ?_
        refine gX7_7 F hX hP 0 rfl (v := .ref (a 1)) rfl dX7_puppet_43 ?_
        refine lv_sipush (v := 148) hx hb dX7_puppet_46 (by decide) ?_
        refine va_iald hx hb hX.1 hP 1 0 (n := 156) (f := (u_4.1 0)) rfl rfl (by decide : ¬ ((148 : Int32) < 0 ∨ 156 ≤ Int32.toNatClampNeg 148)) dX7_puppet_49 ?_
        refine lv_istore_n (lv' := [(3, .int ((u_4.1 0) (Int32.toNatClampNeg 148))), (0, .ref (a 0)), (1, .int x1), (2, .int x2)]) hx hb dX7_puppet_50 rfl hl (by decide) rfl (fun ls hl => ?_)
        refine lv_aload_n hx hb dX7_puppet_51 rfl (lv_at hl 1 rfl) ?_
        refine gX7_7 F hX hP 0 rfl (v := .ref (a 1)) rfl dX7_puppet_52 ?_
        refine lv_iconst (v := 3) hx hb dX7_puppet_55 (by decide) ?_
        refine lv_iload_n hx hb dX7_puppet_56 rfl (lv_at hl 0 rfl) ?_
        refine lv_imul hx hb dX7_puppet_57 ?_
        refine lv_iconst (v := 0) hx hb dX7_puppet_58 (by decide) ?_
        refine lv_iadd hx hb dX7_puppet_59 ?_
        refine lv_iload_n hx hb dX7_puppet_60 rfl (lv_at hl 2 rfl) ?_
        have g_6 := og hf
        replace hf := (if_pos g_6).symm.trans hf
        refine va_iast hx hb hX.1 hP hD hS 1 0 (n := 156) (f := (u_4.1 0)) rfl rfl g_6 dX7_puppet_61 (fun H locs hP hD hS => ?_)
        obtain ⟨M_7, e_8, hf⟩ := bnd_e hf
        have hP : va_P D vwCl (wMod cI a M_7) H := by rw [e_8]; exact hP
        have hD : va_D A (wMod cI a M_7) := by rw [e_8]; exact hD
        clear e_8
        refine lv_aload_n hx hb dX7_puppet_62 rfl (lv_at hl 1 rfl) ?_
        refine gX7_7 F hX hP 0 rfl (v := .ref (a 1)) rfl dX7_puppet_63 ?_
        refine lv_iconst (v := 3) hx hb dX7_puppet_66 (by decide) ?_
        refine lv_iload_n hx hb dX7_puppet_67 rfl (lv_at hl 0 rfl) ?_
        refine lv_imul hx hb dX7_puppet_68 ?_
        refine lv_iconst (v := 1) hx hb dX7_puppet_69 (by decide) ?_
        refine lv_iadd hx hb dX7_puppet_70 ?_
        refine lv_iload_n hx hb dX7_puppet_71 rfl (lv_at hl 3 rfl) ?_
        have g_9 := og hf
        replace hf := (if_pos g_9).symm.trans hf
        refine va_iast hx hb hX.1 hP hD hS 1 0 (n := 156) (f := (M_7.1 0)) rfl rfl g_9 dX7_puppet_72 (fun H locs hP hD hS => ?_)
        obtain ⟨M_10, e_11, hf⟩ := bnd_e hf
        have hP : va_P D vwCl (wMod cI a M_10) H := by rw [e_11]; exact hP
        have hD : va_D A (wMod cI a M_10) := by rw [e_11]; exact hD
        clear e_11
        refine lv_aload_n hx hb dX7_puppet_73 rfl (lv_at hl 1 rfl) ?_
        refine gX7_7 F hX hP 0 rfl (v := .ref (a 1)) rfl dX7_puppet_74 ?_
        refine lv_sipush (v := 148) hx hb dX7_puppet_77 (by decide) ?_
        refine lv_dup2_11 hx hb dX7_puppet_80 rfl rfl ?_
        refine va_iald hx hb hX.1 hP 1 0 (n := 156) (f := (M_10.1 0)) rfl rfl (by decide : ¬ ((148 : Int32) < 0 ∨ 156 ≤ Int32.toNatClampNeg 148)) dX7_puppet_81 ?_
        refine lv_iconst (v := 1) hx hb dX7_puppet_82 (by decide) ?_
        refine lv_iadd hx hb dX7_puppet_83 ?_
        refine va_iast hx hb hX.1 hP hD hS 1 0 (n := 156) (f := (M_10.1 0)) rfl rfl (by decide : ¬ ((148 : Int32) < 0 ∨ 156 ≤ Int32.toNatClampNeg 148)) dX7_puppet_84 (fun H locs hP hD hS => ?_)
        obtain ⟨M_12, e_13, hf⟩ := bnd_e hf
        have hP : va_P D vwCl (wMod cI a M_12) H := by rw [e_13]; exact hP
        have hD : va_D A (wMod cI a M_12) := by rw [e_13]; exact hD
        clear e_13
        refine lv_iload_n hx hb dX7_puppet_85 rfl (lv_at hl 0 rfl) ?_
        obtain rfl := (Option.some.inj hf)
        exact wr_i F rfl hP hS dX7_puppet_86
      · replace hf := (if_pos c_3).symm.trans hf
        refine lv_ldc (v := (-1000003)) hx hb hown (hts _ q_860) dX7_puppet_35 ?_
        obtain rfl := (Option.some.inj hf)
        exact wr_i F rfl hP hS dX7_puppet_37
    · replace hf := (if_pos c_2).symm.trans hf
      refine lv_ldc (v := (-1000001)) hx hb hown (hts _ q_855) dX7_puppet_19 ?_
      obtain rfl := (Option.some.inj hf)
      exact wr_i F rfl hP hS dX7_puppet_21
def X7_tie_J26 (K_26 : SMod) (x1_26 : Int32) (x2_26 : Int32) (x3_26 : Int32) (x4_26 : Int32) (t0_26 : Int32) (t1_26 : Int32) (t2_26 : Int32) : Int32 := (if t0_26 = 0 then 0 else 1)
def X7_tie_J88 (K_88 : SMod) (x1_88 : Int32) (x2_88 : Int32) (x3_88 : Int32) (x4_88 : Int32) (x5_88 : Int32) (t0_88 : Int32) (t1_88 : Int32) (t2_88 : Int32) : Int32 := (if t0_88 ≤ t1_88 then x2_88 else x1_88)
def X7_tie_J107 (K_107 : SMod) (x1_107 : Int32) (x2_107 : Int32) (x3_107 : Int32) (x4_107 : Int32) (x5_107 : Int32) (t0_107 : Int32) (t1_107 : Int32) (t2_107 : Int32) : Int32 := (if t0_107 ≤ t1_107 then x1_107 else x2_107)
def X7_tie_J125 (K_125 : SMod) (x4_125 : Int32) (x5_125 : Int32) (t0_125 : Int32) (t1_125 : Int32) : Int32 := (if t0_125 = 0 then 0 else 1)
def X7_tie (K : SMod) (x1 : Int32) (x2 : Int32) (x3 : Int32) (x4 : Int32) : Option (SMod × Int32) := ((X7_isPair K x1 x2).bind fun u_1 => (if u_1 = 0 then some (K, (-1000001)) else (if (X7_in x4 0 5) = 0 then some (K, (-1000001)) else ((X7_refused K x1 x2 (X7_tie_J26 K x1 x2 x3 x4 x3 x2 x1)).bind fun u_6 => (if u_6.2 ≤ 0 then (if ((u_6.1.1 0) (Int32.toNatClampNeg 149)) = 20 then some (u_6.1, (-1000003)) else ((X7_changes u_6.1).bind fun u_10 => (if ¬ (((36 + (4 * ((u_10.1 0) (Int32.toNatClampNeg 149)))) + 0) < 0 ∨ 156 ≤ Int32.toNatClampNeg ((36 + (4 * ((u_10.1 0) (Int32.toNatClampNeg 149)))) + 0)) then (bnd ((up u_10.1 0 (upd (u_10.1 0) (Int32.toNatClampNeg ((36 + (4 * ((u_10.1 0) (Int32.toNatClampNeg 149)))) + 0)) (X7_tie_J88 u_10 x1 x2 x3 x4 (36 + (4 * ((u_10.1 0) (Int32.toNatClampNeg 149)))) x2 x1 ((36 + (4 * ((u_10.1 0) (Int32.toNatClampNeg 149)))) + 0)))), u_10.2) fun M_14 => (if ¬ (((36 + (4 * ((u_10.1 0) (Int32.toNatClampNeg 149)))) + 1) < 0 ∨ 156 ≤ Int32.toNatClampNeg ((36 + (4 * ((u_10.1 0) (Int32.toNatClampNeg 149)))) + 1)) then (bnd ((up M_14.1 0 (upd (M_14.1 0) (Int32.toNatClampNeg ((36 + (4 * ((u_10.1 0) (Int32.toNatClampNeg 149)))) + 1)) (X7_tie_J107 M_14 x1 x2 x3 x4 (36 + (4 * ((u_10.1 0) (Int32.toNatClampNeg 149)))) x2 x1 ((36 + (4 * ((u_10.1 0) (Int32.toNatClampNeg 149)))) + 1)))), M_14.2) fun M_18 => (if ¬ (((36 + (4 * ((u_10.1 0) (Int32.toNatClampNeg 149)))) + 2) < 0 ∨ 156 ≤ Int32.toNatClampNeg ((36 + (4 * ((u_10.1 0) (Int32.toNatClampNeg 149)))) + 2)) then (bnd ((up M_18.1 0 (upd (M_18.1 0) (Int32.toNatClampNeg ((36 + (4 * ((u_10.1 0) (Int32.toNatClampNeg 149)))) + 2)) (X7_tie_J125 M_18 x4 (36 + (4 * ((u_10.1 0) (Int32.toNatClampNeg 149)))) x3 ((36 + (4 * ((u_10.1 0) (Int32.toNatClampNeg 149)))) + 2)))), M_18.2) fun M_22 => (if ¬ (((36 + (4 * ((u_10.1 0) (Int32.toNatClampNeg 149)))) + 3) < 0 ∨ 156 ≤ Int32.toNatClampNeg ((36 + (4 * ((u_10.1 0) (Int32.toNatClampNeg 149)))) + 3)) then (bnd ((up M_22.1 0 (upd (M_22.1 0) (Int32.toNatClampNeg ((36 + (4 * ((u_10.1 0) (Int32.toNatClampNeg 149)))) + 3)) x4)), M_22.2) fun M_25 => (bnd ((up M_25.1 0 (upd (M_25.1 0) (Int32.toNatClampNeg 149) (((M_25.1 0) (Int32.toNatClampNeg 149)) + 1))), M_25.2) fun M_27 => some (M_27, (((M_27.1 0) (Int32.toNatClampNeg 149)) - 1)))) else none)) else none)) else none)) else none))) else some (u_6.1, (-1000002)))))))
abbrev rm_X7_tie : Room := { frames := 3, cells := 0, slots := 0, locals := 73 }
set_option maxHeartbeats 4000000 in
set_option maxRecDepth 100000 in
theorem c_X7_tie (l : Launch) (D : va_G) (cI cP : ClassId) (a : Nat → Nat) (K : SMod) (x1 : Int32) (x2 : Int32) (x3 : Int32) (x4 : Int32) (z : SMod × Int32) (hf : X7_tie K x1 x2 x3 x4 = some z) : MWi l yX7_tie cX7_tie 6 (some .int) rm_X7_tie D cI cP [.ref (a 0), .int x1, .int x2, .int x3, .int x4] (wMod cI a K) (wMod cI a z.1) z.2 := by
  refine MWi.of (by decide +kernel) (Nat.le_of_ble_eq_true rfl) ?_
  intro p e s m args below meth c ls A F hX hP hD hA hS hl
  have F : Fx p s m args meth c RX7 cX7_tie 6 (some .int) := F
  have hx := F.1
  have hb := F.2.1
  have hown := F.2.2.2.1
  have hts := F.2.2.2.2.1
  have hl : lv_has ls 6 [(0, .ref (a 0)), (1, .int x1), (2, .int x2), (3, .int x3), (4, .int x4)] := hl
  unfold X7_tie at hf
  refine lv_aload_n hx hb dX7_tie_0 rfl (lv_at hl 0 rfl) ?_
  refine lv_iload_n hx hb dX7_tie_1 rfl (lv_at hl 1 rfl) ?_
  refine lv_iload_n hx hb dX7_tie_2 rfl (lv_at hl 2 rfl) ?_
  obtain ⟨u_1, h_2, hf⟩ := ob hf
  refine k_rd (runV F wdX7_88 (rm := rm_X7_isPair) (As := [.int x1, .int x2]) (rest := []) ⟨rfl, rfl⟩ ⟨Nat.le_of_ble_eq_true rfl, Nat.le_of_ble_eq_true rfl⟩ hl.1 rfl rfl (Nat.le_of_ble_eq_true rfl) dX7_tie_3 ⟨Nat.zero_le _, Nat.zero_le _⟩) (c_X7_isPair l D cI cP a K x1 x2 _ h_2) hX (va_recv hX.1 hP (ci := 7) (q0 := 0) rfl rfl) hP hP hS hA (fun H locs hP hS => ?_)
  refine lv_if_eq (tgt := 19) hx hb dX7_tie_6 (by decide) (fun c_3 => ?_) (fun c_3 => ?_)
  · replace hf := (if_pos c_3).symm.trans hf
    refine lv_ldc (v := (-1000001)) hx hb hown (hts _ q_855) dX7_tie_19 ?_
    obtain rfl := (Option.some.inj hf)
    exact wr_i F rfl hP hS dX7_tie_21
  · replace hf := (if_neg c_3).symm.trans hf
    refine lv_iload hx hb dX7_tie_9 (lv_at hl 4 rfl) ?_
    refine lv_iconst (v := 0) hx hb dX7_tie_11 (by decide) ?_
    refine lv_iconst (v := 5) hx hb dX7_tie_12 (by decide) ?_
    refine k_rd (runS F wdX7_45 (rm := rm_X7_in) (As := [.int x4, .int 0, .int 5]) (rest := []) ⟨rfl, rfl⟩ ⟨Nat.le_of_ble_eq_true rfl, Nat.le_of_ble_eq_true rfl⟩ hl.1 rfl rfl (Nat.le_of_ble_eq_true rfl) dX7_tie_13 ⟨Nat.zero_le _, Nat.zero_le _⟩) (c_X7_in l D cI cP x4 0 5 _ rfl) hX trivial vP_nil hP hS hA (fun H locs hP hS => ?_)
    refine lv_if_ne (tgt := 22) hx hb dX7_tie_16 (by decide) (fun c_4 => ?_) (fun c_4 => ?_)
    · replace hf := (if_neg c_4).symm.trans hf
      refine lv_aload_n hx hb dX7_tie_22 rfl (lv_at hl 0 rfl) ?_
      refine lv_iload_n hx hb dX7_tie_23 rfl (lv_at hl 1 rfl) ?_
      refine lv_iload_n hx hb dX7_tie_24 rfl (lv_at hl 2 rfl) ?_
      refine lv_iload_n hx hb dX7_tie_25 rfl (lv_at hl 3 rfl) ?_
      have hJ_26 : ∀ (K_26 : SMod) (x1_26 : Int32) (x2_26 : Int32) (x3_26 : Int32) (x4_26 : Int32) (t0_26 : Int32) (t1_26 : Int32) (t2_26 : Int32) (v : Int32) (H : Heap) (locs : List Loc) (ls : Array Slot), X7_tie_J26 K_26 x1_26 x2_26 x3_26 x4_26 t0_26 t1_26 t2_26 = v → va_P D vwCl (wMod cI a K_26) H → va_D A (wMod cI a K_26) → va_S A s.heap H locs → lv_has ls 6 [(0, .ref (a 0)), (1, .int x1_26), (2, .int x2_26), (3, .int x3_26), (4, .int x4_26)] → (∀ (H : Heap) (locs : List Loc) (ls : Array Slot), va_P D vwCl (wMod cI a K_26) H → va_D A (wMod cI a K_26) → va_S A s.heap H locs → lv_has ls 6 [(0, .ref (a 0)), (1, .int x1_26), (2, .int x2_26), (3, .int x3_26), (4, .int x4_26)] → W p l e rm_X7_tie s m args below meth c H locs 0 0 (QWi D below args s A (wMod cI a z.1) z.2) (F0 m 34 ls [.int v, .int t1_26, .int t2_26, .ref (a 0)])) → W p l e rm_X7_tie s m args below meth c H locs 0 0 (QWi D below args s A (wMod cI a z.1) z.2) (F0 m 26 ls [.int t0_26, .int t1_26, .int t2_26, .ref (a 0)]) := by
        intro K_26 x1_26 x2_26 x3_26 x4_26 t0_26 t1_26 t2_26 v _ _ ls hf hP hD hS hl hk
        unfold X7_tie_J26 at hf
        refine lv_if_eq (tgt := 33) hx hb dX7_tie_26 (by decide) (fun c_5 => ?_) (fun c_5 => ?_)
        · replace hf := (if_pos c_5).symm.trans hf
          refine lv_iconst (v := 0) hx hb dX7_tie_33 (by decide) ?_
          obtain rfl := hf
          exact hk _ _ ls hP hD hS hl
        · replace hf := (if_neg c_5).symm.trans hf
          refine lv_iconst (v := 1) hx hb dX7_tie_29 (by decide) ?_
          refine lv_goto (tgt := 34) hx hb dX7_tie_30 (by decide) ?_
          obtain rfl := hf
          exact hk _ _ ls hP hD hS hl
      refine hJ_26 K x1 x2 x3 x4 x3 x2 x1 _ _ _ ls rfl hP hD hS hl (fun H locs ls hP hD hS hl => ?_)
      clear hJ_26
      obtain ⟨u_6, h_7, hf⟩ := ob hf
      refine k_wi (runV F wdX7_92 (rm := rm_X7_refused) (As := [.int x1, .int x2, .int (X7_tie_J26 K x1 x2 x3 x4 x3 x2 x1)]) (rest := []) ⟨rfl, rfl⟩ ⟨Nat.le_of_ble_eq_true rfl, Nat.le_of_ble_eq_true rfl⟩ hl.1 rfl rfl (Nat.le_of_ble_eq_true rfl) dX7_tie_34 ⟨Nat.zero_le _, Nat.zero_le _⟩) (c_X7_refused l D cI cP a K x1 x2 (X7_tie_J26 K x1 x2 x3 x4 x3 x2 x1) _ h_7) hX (va_recv hX.1 hP (ci := 7) (q0 := 0) rfl rfl) (Cut.all rfl) hP hD hS hA (fun H locs hP hD hS => ?_)
      have hP : va_P D vwCl (wMod cI a u_6.1) H := hP
      have hD : va_D A (wMod cI a u_6.1) := hD
      refine lv_if_le (tgt := 43) hx hb dX7_tie_37 (by decide) (fun c_8 => ?_) (fun c_8 => ?_)
      · replace hf := (if_pos c_8).symm.trans hf
        refine lv_aload_n hx hb dX7_tie_43 rfl (lv_at hl 0 rfl) ?_
        refine gX7_7 F hX hP 0 rfl (v := .ref (a 1)) rfl dX7_tie_44 ?_
        refine lv_sipush (v := 149) hx hb dX7_tie_47 (by decide) ?_
        refine va_iald hx hb hX.1 hP 1 0 (n := 156) (f := (u_6.1.1 0)) rfl rfl (by decide : ¬ ((149 : Int32) < 0 ∨ 156 ≤ Int32.toNatClampNeg 149)) dX7_tie_50 ?_
        refine lv_bipush (v := 20) hx hb dX7_tie_51 (by decide) ?_
        refine lv_icmp_ne (tgt := 59) hx hb dX7_tie_53 (by decide) (fun c_9 => ?_) (fun c_9 => ?_)
        · replace hf := (if_neg c_9).symm.trans hf
          refine lv_aload_n hx hb dX7_tie_59 rfl (lv_at hl 0 rfl) ?_
          obtain ⟨u_10, h_11, hf⟩ := ob hf
          refine k_wv (runV F wdX7_98 (rm := rm_X7_changes) (As := []) (rest := []) ⟨rfl, rfl⟩ ⟨Nat.le_of_ble_eq_true rfl, Nat.le_of_ble_eq_true rfl⟩ hl.1 rfl rfl (Nat.le_of_ble_eq_true rfl) dX7_tie_60 ⟨Nat.zero_le _, Nat.zero_le _⟩) (c_X7_changes l D cI cP a u_6.1  _ h_11) hX (va_recv hX.1 hP (ci := 7) (q0 := 0) rfl rfl) (Cut.all rfl) hP hD hS hA (fun H locs hP hD hS => ?_)
          have hP : va_P D vwCl (wMod cI a u_10) H := hP
          have hD : va_D A (wMod cI a u_10) := hD
          refine lv_bipush (v := 36) hx hb dX7_tie_63 (by decide) ?_
          refine lv_iconst (v := 4) hx hb dX7_tie_65 (by decide) ?_
          refine lv_aload_n hx hb dX7_tie_66 rfl (lv_at hl 0 rfl) ?_
          refine gX7_7 F hX hP 0 rfl (v := .ref (a 1)) rfl dX7_tie_67 ?_
          refine lv_sipush (v := 149) hx hb dX7_tie_70 (by decide) ?_
          refine va_iald hx hb hX.1 hP 1 0 (n := 156) (f := (u_10.1 0)) rfl rfl (by decide : ¬ ((149 : Int32) < 0 ∨ 156 ≤ Int32.toNatClampNeg 149)) dX7_tie_73 ?_
          refine lv_imul hx hb dX7_tie_74 ?_
          refine lv_iadd hx hb dX7_tie_75 ?_
          refine lv_istore (lv' := [(5, .int (36 + (4 * ((u_10.1 0) (Int32.toNatClampNeg 149))))), (0, .ref (a 0)), (1, .int x1), (2, .int x2), (3, .int x3), (4, .int x4)]) hx hb dX7_tie_76 hl (by decide) rfl (fun ls hl => ?_)
          refine lv_aload_n hx hb dX7_tie_78 rfl (lv_at hl 1 rfl) ?_
          refine gX7_7 F hX hP 0 rfl (v := .ref (a 1)) rfl dX7_tie_79 ?_
          refine lv_iload hx hb dX7_tie_82 (lv_at hl 0 rfl) ?_
          refine lv_iconst (v := 0) hx hb dX7_tie_84 (by decide) ?_
          refine lv_iadd hx hb dX7_tie_85 ?_
          refine lv_iload_n hx hb dX7_tie_86 rfl (lv_at hl 2 rfl) ?_
          refine lv_iload_n hx hb dX7_tie_87 rfl (lv_at hl 3 rfl) ?_
          have hJ_88 : ∀ (K_88 : SMod) (x1_88 : Int32) (x2_88 : Int32) (x3_88 : Int32) (x4_88 : Int32) (x5_88 : Int32) (t0_88 : Int32) (t1_88 : Int32) (t2_88 : Int32) (v : Int32) (H : Heap) (locs : List Loc) (ls : Array Slot), X7_tie_J88 K_88 x1_88 x2_88 x3_88 x4_88 x5_88 t0_88 t1_88 t2_88 = v → va_P D vwCl (wMod cI a K_88) H → va_D A (wMod cI a K_88) → va_S A s.heap H locs → lv_has ls 6 [(5, .int x5_88), (0, .ref (a 0)), (1, .int x1_88), (2, .int x2_88), (3, .int x3_88), (4, .int x4_88)] → (∀ (H : Heap) (locs : List Loc) (ls : Array Slot), va_P D vwCl (wMod cI a K_88) H → va_D A (wMod cI a K_88) → va_S A s.heap H locs → lv_has ls 6 [(0, .ref (a 0)), (1, .int x1_88), (2, .int x2_88), (3, .int x3_88), (4, .int x4_88), (5, .int x5_88)] → W p l e rm_X7_tie s m args below meth c H locs 0 0 (QWi D below args s A (wMod cI a z.1) z.2) (F0 m 96 ls [.int v, .int t2_88, .ref (a 1)])) → W p l e rm_X7_tie s m args below meth c H locs 0 0 (QWi D below args s A (wMod cI a z.1) z.2) (F0 m 88 ls [.int t0_88, .int t1_88, .int t2_88, .ref (a 1)]) := by
            intro K_88 x1_88 x2_88 x3_88 x4_88 x5_88 t0_88 t1_88 t2_88 v _ _ ls hf hP hD hS hl hk
            unfold X7_tie_J88 at hf
            refine lv_icmp_ge (tgt := 95) hx hb dX7_tie_88 (by decide) (fun c_12 => ?_) (fun c_12 => ?_)
            · replace hf := (if_pos c_12).symm.trans hf
              refine lv_iload_n hx hb dX7_tie_95 rfl (lv_at hl 3 rfl) ?_
              obtain rfl := hf
              exact hk _ _ ls hP hD hS (lv_sub hl [1, 2, 3, 4, 5, 0] rfl)
            · replace hf := (if_neg c_12).symm.trans hf
              refine lv_iload_n hx hb dX7_tie_91 rfl (lv_at hl 2 rfl) ?_
              refine lv_goto (tgt := 96) hx hb dX7_tie_92 (by decide) ?_
              obtain rfl := hf
              exact hk _ _ ls hP hD hS (lv_sub hl [1, 2, 3, 4, 5, 0] rfl)
          refine hJ_88 u_10 x1 x2 x3 x4 (36 + (4 * ((u_10.1 0) (Int32.toNatClampNeg 149)))) x2 x1 ((36 + (4 * ((u_10.1 0) (Int32.toNatClampNeg 149)))) + 0) _ _ _ ls rfl hP hD hS hl (fun H locs ls hP hD hS hl => ?_)
          clear hJ_88
          have g_13 := og hf
          replace hf := (if_pos g_13).symm.trans hf
          refine va_iast hx hb hX.1 hP hD hS 1 0 (n := 156) (f := (u_10.1 0)) rfl rfl g_13 dX7_tie_96 (fun H locs hP hD hS => ?_)
          obtain ⟨M_14, e_15, hf⟩ := bnd_e hf
          have hP : va_P D vwCl (wMod cI a M_14) H := by rw [e_15]; exact hP
          have hD : va_D A (wMod cI a M_14) := by rw [e_15]; exact hD
          clear e_15
          refine lv_aload_n hx hb dX7_tie_97 rfl (lv_at hl 0 rfl) ?_
          refine gX7_7 F hX hP 0 rfl (v := .ref (a 1)) rfl dX7_tie_98 ?_
          refine lv_iload hx hb dX7_tie_101 (lv_at hl 5 rfl) ?_
          refine lv_iconst (v := 1) hx hb dX7_tie_103 (by decide) ?_
          refine lv_iadd hx hb dX7_tie_104 ?_
          refine lv_iload_n hx hb dX7_tie_105 rfl (lv_at hl 1 rfl) ?_
          refine lv_iload_n hx hb dX7_tie_106 rfl (lv_at hl 2 rfl) ?_
          have hJ_107 : ∀ (K_107 : SMod) (x1_107 : Int32) (x2_107 : Int32) (x3_107 : Int32) (x4_107 : Int32) (x5_107 : Int32) (t0_107 : Int32) (t1_107 : Int32) (t2_107 : Int32) (v : Int32) (H : Heap) (locs : List Loc) (ls : Array Slot), X7_tie_J107 K_107 x1_107 x2_107 x3_107 x4_107 x5_107 t0_107 t1_107 t2_107 = v → va_P D vwCl (wMod cI a K_107) H → va_D A (wMod cI a K_107) → va_S A s.heap H locs → lv_has ls 6 [(0, .ref (a 0)), (1, .int x1_107), (2, .int x2_107), (3, .int x3_107), (4, .int x4_107), (5, .int x5_107)] → (∀ (H : Heap) (locs : List Loc) (ls : Array Slot), va_P D vwCl (wMod cI a K_107) H → va_D A (wMod cI a K_107) → va_S A s.heap H locs → lv_has ls 6 [(0, .ref (a 0)), (3, .int x3_107), (4, .int x4_107), (5, .int x5_107)] → W p l e rm_X7_tie s m args below meth c H locs 0 0 (QWi D below args s A (wMod cI a z.1) z.2) (F0 m 115 ls [.int v, .int t2_107, .ref (a 1)])) → W p l e rm_X7_tie s m args below meth c H locs 0 0 (QWi D below args s A (wMod cI a z.1) z.2) (F0 m 107 ls [.int t0_107, .int t1_107, .int t2_107, .ref (a 1)]) := by
            intro K_107 x1_107 x2_107 x3_107 x4_107 x5_107 t0_107 t1_107 t2_107 v _ _ ls hf hP hD hS hl hk
            unfold X7_tie_J107 at hf
            refine lv_icmp_ge (tgt := 114) hx hb dX7_tie_107 (by decide) (fun c_16 => ?_) (fun c_16 => ?_)
            · replace hf := (if_pos c_16).symm.trans hf
              refine lv_iload_n hx hb dX7_tie_114 rfl (lv_at hl 1 rfl) ?_
              obtain rfl := hf
              exact hk _ _ ls hP hD hS (lv_sub hl [0, 3, 4, 5] rfl)
            · replace hf := (if_neg c_16).symm.trans hf
              refine lv_iload_n hx hb dX7_tie_110 rfl (lv_at hl 2 rfl) ?_
              refine lv_goto (tgt := 115) hx hb dX7_tie_111 (by decide) ?_
              obtain rfl := hf
              exact hk _ _ ls hP hD hS (lv_sub hl [0, 3, 4, 5] rfl)
          refine hJ_107 M_14 x1 x2 x3 x4 (36 + (4 * ((u_10.1 0) (Int32.toNatClampNeg 149)))) x2 x1 ((36 + (4 * ((u_10.1 0) (Int32.toNatClampNeg 149)))) + 1) _ _ _ ls rfl hP hD hS hl (fun H locs ls hP hD hS hl => ?_)
          clear hJ_107
          have g_17 := og hf
          replace hf := (if_pos g_17).symm.trans hf
          refine va_iast hx hb hX.1 hP hD hS 1 0 (n := 156) (f := (M_14.1 0)) rfl rfl g_17 dX7_tie_115 (fun H locs hP hD hS => ?_)
          obtain ⟨M_18, e_19, hf⟩ := bnd_e hf
          have hP : va_P D vwCl (wMod cI a M_18) H := by rw [e_19]; exact hP
          have hD : va_D A (wMod cI a M_18) := by rw [e_19]; exact hD
          clear e_19
          refine lv_aload_n hx hb dX7_tie_116 rfl (lv_at hl 0 rfl) ?_
          refine gX7_7 F hX hP 0 rfl (v := .ref (a 1)) rfl dX7_tie_117 ?_
          refine lv_iload hx hb dX7_tie_120 (lv_at hl 3 rfl) ?_
          refine lv_iconst (v := 2) hx hb dX7_tie_122 (by decide) ?_
          refine lv_iadd hx hb dX7_tie_123 ?_
          refine lv_iload_n hx hb dX7_tie_124 rfl (lv_at hl 1 rfl) ?_
          have hJ_125 : ∀ (K_125 : SMod) (x4_125 : Int32) (x5_125 : Int32) (t0_125 : Int32) (t1_125 : Int32) (v : Int32) (H : Heap) (locs : List Loc) (ls : Array Slot), X7_tie_J125 K_125 x4_125 x5_125 t0_125 t1_125 = v → va_P D vwCl (wMod cI a K_125) H → va_D A (wMod cI a K_125) → va_S A s.heap H locs → lv_has ls 6 [(0, .ref (a 0)), (4, .int x4_125), (5, .int x5_125)] → (∀ (H : Heap) (locs : List Loc) (ls : Array Slot), va_P D vwCl (wMod cI a K_125) H → va_D A (wMod cI a K_125) → va_S A s.heap H locs → lv_has ls 6 [(0, .ref (a 0)), (4, .int x4_125), (5, .int x5_125)] → W p l e rm_X7_tie s m args below meth c H locs 0 0 (QWi D below args s A (wMod cI a z.1) z.2) (F0 m 133 ls [.int v, .int t1_125, .ref (a 1)])) → W p l e rm_X7_tie s m args below meth c H locs 0 0 (QWi D below args s A (wMod cI a z.1) z.2) (F0 m 125 ls [.int t0_125, .int t1_125, .ref (a 1)]) := by
            intro K_125 x4_125 x5_125 t0_125 t1_125 v _ _ ls hf hP hD hS hl hk
            unfold X7_tie_J125 at hf
            refine lv_if_eq (tgt := 132) hx hb dX7_tie_125 (by decide) (fun c_20 => ?_) (fun c_20 => ?_)
            · replace hf := (if_pos c_20).symm.trans hf
              refine lv_iconst (v := 0) hx hb dX7_tie_132 (by decide) ?_
              obtain rfl := hf
              exact hk _ _ ls hP hD hS hl
            · replace hf := (if_neg c_20).symm.trans hf
              refine lv_iconst (v := 1) hx hb dX7_tie_128 (by decide) ?_
              refine lv_goto (tgt := 133) hx hb dX7_tie_129 (by decide) ?_
              obtain rfl := hf
              exact hk _ _ ls hP hD hS hl
          refine hJ_125 M_18 x4 (36 + (4 * ((u_10.1 0) (Int32.toNatClampNeg 149)))) x3 ((36 + (4 * ((u_10.1 0) (Int32.toNatClampNeg 149)))) + 2) _ _ _ ls rfl hP hD hS (lv_sub hl [0, 2, 3] rfl) (fun H locs ls hP hD hS hl => ?_)
          clear hJ_125
          have g_21 := og hf
          replace hf := (if_pos g_21).symm.trans hf
          refine va_iast hx hb hX.1 hP hD hS 1 0 (n := 156) (f := (M_18.1 0)) rfl rfl g_21 dX7_tie_133 (fun H locs hP hD hS => ?_)
          obtain ⟨M_22, e_23, hf⟩ := bnd_e hf
          have hP : va_P D vwCl (wMod cI a M_22) H := by rw [e_23]; exact hP
          have hD : va_D A (wMod cI a M_22) := by rw [e_23]; exact hD
          clear e_23
          refine lv_aload_n hx hb dX7_tie_134 rfl (lv_at hl 0 rfl) ?_
          refine gX7_7 F hX hP 0 rfl (v := .ref (a 1)) rfl dX7_tie_135 ?_
          refine lv_iload hx hb dX7_tie_138 (lv_at hl 2 rfl) ?_
          refine lv_iconst (v := 3) hx hb dX7_tie_140 (by decide) ?_
          refine lv_iadd hx hb dX7_tie_141 ?_
          refine lv_iload hx hb dX7_tie_142 (lv_at hl 1 rfl) ?_
          have g_24 := og hf
          replace hf := (if_pos g_24).symm.trans hf
          refine va_iast hx hb hX.1 hP hD hS 1 0 (n := 156) (f := (M_22.1 0)) rfl rfl g_24 dX7_tie_144 (fun H locs hP hD hS => ?_)
          obtain ⟨M_25, e_26, hf⟩ := bnd_e hf
          have hP : va_P D vwCl (wMod cI a M_25) H := by rw [e_26]; exact hP
          have hD : va_D A (wMod cI a M_25) := by rw [e_26]; exact hD
          clear e_26
          refine lv_aload_n hx hb dX7_tie_145 rfl (lv_at hl 0 rfl) ?_
          refine gX7_7 F hX hP 0 rfl (v := .ref (a 1)) rfl dX7_tie_146 ?_
          refine lv_sipush (v := 149) hx hb dX7_tie_149 (by decide) ?_
          refine lv_dup2_11 hx hb dX7_tie_152 rfl rfl ?_
          refine va_iald hx hb hX.1 hP 1 0 (n := 156) (f := (M_25.1 0)) rfl rfl (by decide : ¬ ((149 : Int32) < 0 ∨ 156 ≤ Int32.toNatClampNeg 149)) dX7_tie_153 ?_
          refine lv_iconst (v := 1) hx hb dX7_tie_154 (by decide) ?_
          refine lv_iadd hx hb dX7_tie_155 ?_
          refine va_iast hx hb hX.1 hP hD hS 1 0 (n := 156) (f := (M_25.1 0)) rfl rfl (by decide : ¬ ((149 : Int32) < 0 ∨ 156 ≤ Int32.toNatClampNeg 149)) dX7_tie_156 (fun H locs hP hD hS => ?_)
          obtain ⟨M_27, e_28, hf⟩ := bnd_e hf
          have hP : va_P D vwCl (wMod cI a M_27) H := by rw [e_28]; exact hP
          have hD : va_D A (wMod cI a M_27) := by rw [e_28]; exact hD
          clear e_28
          refine lv_aload_n hx hb dX7_tie_157 rfl (lv_at hl 0 rfl) ?_
          refine gX7_7 F hX hP 0 rfl (v := .ref (a 1)) rfl dX7_tie_158 ?_
          refine lv_sipush (v := 149) hx hb dX7_tie_161 (by decide) ?_
          refine va_iald hx hb hX.1 hP 1 0 (n := 156) (f := (M_27.1 0)) rfl rfl (by decide : ¬ ((149 : Int32) < 0 ∨ 156 ≤ Int32.toNatClampNeg 149)) dX7_tie_164 ?_
          refine lv_iconst (v := 1) hx hb dX7_tie_165 (by decide) ?_
          refine lv_isub hx hb dX7_tie_166 ?_
          obtain rfl := (Option.some.inj hf)
          exact wr_i F rfl hP hS dX7_tie_167
        · replace hf := (if_pos c_9).symm.trans hf
          refine lv_ldc (v := (-1000003)) hx hb hown (hts _ q_860) dX7_tie_56 ?_
          obtain rfl := (Option.some.inj hf)
          exact wr_i F rfl hP hS dX7_tie_58
      · replace hf := (if_neg c_8).symm.trans hf
        refine lv_ldc (v := (-1000002)) hx hb hown (hts _ q_869) dX7_tie_40 ?_
        obtain rfl := (Option.some.inj hf)
        exact wr_i F rfl hP hS dX7_tie_42
    · replace hf := (if_pos c_4).symm.trans hf
      refine lv_ldc (v := (-1000001)) hx hb hown (hts _ q_855) dX7_tie_19 ?_
      obtain rfl := (Option.some.inj hf)
      exact wr_i F rfl hP hS dX7_tie_21
def X7_cuts_L31 : Nat → SMod → Int32 → Option (SMod)
  | 0, _, _ => none
  | fu + 1, K_31, x2_31 => (if (36 + (4 * ((K_31.1 0) (Int32.toNatClampNeg 149)))) ≤ x2_31 then some K_31 else (if ¬ ((x2_31 + 4) < 0 ∨ 156 ≤ Int32.toNatClampNeg (x2_31 + 4)) then (if ¬ (x2_31 < 0 ∨ 156 ≤ Int32.toNatClampNeg x2_31) then (bnd ((up K_31.1 0 (upd (K_31.1 0) (Int32.toNatClampNeg x2_31) ((K_31.1 0) (Int32.toNatClampNeg (x2_31 + 4))))), K_31.2) fun M_8 => X7_cuts_L31 fu M_8 (x2_31 + 1)) else none) else none))
def X7_cuts (K : SMod) (x1 : Int32) : Option (SMod) := (bnd ((up K.1 0 (upd (K.1 0) (Int32.toNatClampNeg 149) (((K.1 0) (Int32.toNatClampNeg 149)) - 1))), K.2) fun M_1 => (bnd ((up M_1.1 0 (upd (M_1.1 0) (Int32.toNatClampNeg 154) (((M_1.1 0) (Int32.toNatClampNeg 154)) + 1))), M_1.2) fun M_3 => ((X7_cuts_L31 FUEL M_3 (36 + (4 * x1))).bind fun u_10 => some u_10)))
abbrev rm_X7_cuts : Room := { frames := 0, cells := 0, slots := 0, locals := 0 }
set_option maxHeartbeats 4000000 in
set_option maxRecDepth 100000 in
theorem c_X7_cuts (l : Launch) (D : va_G) (cI cP : ClassId) (a : Nat → Nat) (K : SMod) (x1 : Int32) (z : SMod) (hf : X7_cuts K x1 = some z) : MWv l yX7_cuts cX7_cuts 3 none rm_X7_cuts D cI cP [.ref (a 0), .int x1] (wMod cI a K) (wMod cI a z) := by
  refine MWv.of (by decide +kernel) (Nat.le_of_ble_eq_true rfl) ?_
  intro p e s m args below meth c ls A F hX hP hD hA hS hl
  have F : Fx p s m args meth c RX7 cX7_cuts 3 none := F
  have hx := F.1
  have hb := F.2.1
  have hown := F.2.2.2.1
  have hts := F.2.2.2.2.1
  have hl : lv_has ls 3 [(0, .ref (a 0)), (1, .int x1)] := hl
  unfold X7_cuts at hf
  refine lv_aload_n hx hb dX7_cuts_0 rfl (lv_at hl 0 rfl) ?_
  refine gX7_7 F hX hP 0 rfl (v := .ref (a 1)) rfl dX7_cuts_1 ?_
  refine lv_sipush (v := 149) hx hb dX7_cuts_4 (by decide) ?_
  refine lv_dup2_11 hx hb dX7_cuts_7 rfl rfl ?_
  refine va_iald hx hb hX.1 hP 1 0 (n := 156) (f := (K.1 0)) rfl rfl (by decide : ¬ ((149 : Int32) < 0 ∨ 156 ≤ Int32.toNatClampNeg 149)) dX7_cuts_8 ?_
  refine lv_iconst (v := 1) hx hb dX7_cuts_9 (by decide) ?_
  refine lv_isub hx hb dX7_cuts_10 ?_
  refine va_iast hx hb hX.1 hP hD hS 1 0 (n := 156) (f := (K.1 0)) rfl rfl (by decide : ¬ ((149 : Int32) < 0 ∨ 156 ≤ Int32.toNatClampNeg 149)) dX7_cuts_11 (fun H locs hP hD hS => ?_)
  obtain ⟨M_1, e_2, hf⟩ := bnd_e hf
  have hP : va_P D vwCl (wMod cI a M_1) H := by rw [e_2]; exact hP
  have hD : va_D A (wMod cI a M_1) := by rw [e_2]; exact hD
  clear e_2
  refine lv_aload_n hx hb dX7_cuts_12 rfl (lv_at hl 0 rfl) ?_
  refine gX7_7 F hX hP 0 rfl (v := .ref (a 1)) rfl dX7_cuts_13 ?_
  refine lv_sipush (v := 154) hx hb dX7_cuts_16 (by decide) ?_
  refine lv_dup2_11 hx hb dX7_cuts_19 rfl rfl ?_
  refine va_iald hx hb hX.1 hP 1 0 (n := 156) (f := (M_1.1 0)) rfl rfl (by decide : ¬ ((154 : Int32) < 0 ∨ 156 ≤ Int32.toNatClampNeg 154)) dX7_cuts_20 ?_
  refine lv_iconst (v := 1) hx hb dX7_cuts_21 (by decide) ?_
  refine lv_iadd hx hb dX7_cuts_22 ?_
  refine va_iast hx hb hX.1 hP hD hS 1 0 (n := 156) (f := (M_1.1 0)) rfl rfl (by decide : ¬ ((154 : Int32) < 0 ∨ 156 ≤ Int32.toNatClampNeg 154)) dX7_cuts_23 (fun H locs hP hD hS => ?_)
  obtain ⟨M_3, e_4, hf⟩ := bnd_e hf
  have hP : va_P D vwCl (wMod cI a M_3) H := by rw [e_4]; exact hP
  have hD : va_D A (wMod cI a M_3) := by rw [e_4]; exact hD
  clear e_4
  refine lv_bipush (v := 36) hx hb dX7_cuts_24 (by decide) ?_
  refine lv_iconst (v := 4) hx hb dX7_cuts_26 (by decide) ?_
  refine lv_iload_n hx hb dX7_cuts_27 rfl (lv_at hl 1 rfl) ?_
  refine lv_imul hx hb dX7_cuts_28 ?_
  refine lv_iadd hx hb dX7_cuts_29 ?_
  refine lv_istore_n (lv' := [(2, .int (36 + (4 * x1))), (0, .ref (a 0)), (1, .int x1)]) hx hb dX7_cuts_30 rfl hl (by decide) rfl (fun ls hl => ?_)
  have hL_31 : ∀ (fu : Nat) (K_31 : SMod) (x2_31 : Int32) (v : SMod) (H : Heap) (locs : List Loc) (ls : Array Slot), X7_cuts_L31 fu K_31 x2_31 = some v → va_P D vwCl (wMod cI a K_31) H → va_D A (wMod cI a K_31) → va_S A s.heap H locs → lv_has ls 3 [(0, .ref (a 0)), (2, .int x2_31)] → (∀ (H : Heap) (locs : List Loc) (ls : Array Slot), va_P D vwCl (wMod cI a v) H → va_D A (wMod cI a v) → va_S A s.heap H locs → lv_has ls 3 [] → W p l e rm_X7_cuts s m args below meth c H locs 0 0 (QWv D below args s A (wMod cI a z)) (F0 m 68 ls [])) → W p l e rm_X7_cuts s m args below meth c H locs 0 0 (QWv D below args s A (wMod cI a z)) (F0 m 31 ls []) := by
    intro fu
    induction fu with
    | zero =>
      intro K_31 x2_31 v H locs ls hf
      exact absurd hf (by simp [X7_cuts_L31])
    | succ fu ih =>
      intro K_31 x2_31 v _ _ ls hf hP hD hS hl hk
      rw [X7_cuts_L31] at hf
      refine lv_iload_n hx hb dX7_cuts_31 rfl (lv_at hl 1 rfl) ?_
      refine lv_bipush (v := 36) hx hb dX7_cuts_32 (by decide) ?_
      refine lv_iconst (v := 4) hx hb dX7_cuts_34 (by decide) ?_
      refine lv_aload_n hx hb dX7_cuts_35 rfl (lv_at hl 0 rfl) ?_
      refine gX7_7 F hX hP 0 rfl (v := .ref (a 1)) rfl dX7_cuts_36 ?_
      refine lv_sipush (v := 149) hx hb dX7_cuts_39 (by decide) ?_
      refine va_iald hx hb hX.1 hP 1 0 (n := 156) (f := (K_31.1 0)) rfl rfl (by decide : ¬ ((149 : Int32) < 0 ∨ 156 ≤ Int32.toNatClampNeg 149)) dX7_cuts_42 ?_
      refine lv_imul hx hb dX7_cuts_43 ?_
      refine lv_iadd hx hb dX7_cuts_44 ?_
      refine lv_icmp_ge (tgt := 68) hx hb dX7_cuts_45 (by decide) (fun c_5 => ?_) (fun c_5 => ?_)
      · replace hf := (if_pos c_5).symm.trans hf
        obtain rfl := Option.some.inj hf
        exact hk _ _ ls hP hD hS (lv_sub hl [] rfl)
      · replace hf := (if_neg c_5).symm.trans hf
        refine lv_aload_n hx hb dX7_cuts_48 rfl (lv_at hl 0 rfl) ?_
        refine gX7_7 F hX hP 0 rfl (v := .ref (a 1)) rfl dX7_cuts_49 ?_
        refine lv_iload_n hx hb dX7_cuts_52 rfl (lv_at hl 1 rfl) ?_
        refine lv_aload_n hx hb dX7_cuts_53 rfl (lv_at hl 0 rfl) ?_
        refine gX7_7 F hX hP 0 rfl (v := .ref (a 1)) rfl dX7_cuts_54 ?_
        refine lv_iload_n hx hb dX7_cuts_57 rfl (lv_at hl 1 rfl) ?_
        refine lv_iconst (v := 4) hx hb dX7_cuts_58 (by decide) ?_
        refine lv_iadd hx hb dX7_cuts_59 ?_
        have g_6 := og hf
        replace hf := (if_pos g_6).symm.trans hf
        refine va_iald hx hb hX.1 hP 1 0 (n := 156) (f := (K_31.1 0)) rfl rfl g_6 dX7_cuts_60 ?_
        have g_7 := og hf
        replace hf := (if_pos g_7).symm.trans hf
        refine va_iast hx hb hX.1 hP hD hS 1 0 (n := 156) (f := (K_31.1 0)) rfl rfl g_7 dX7_cuts_61 (fun H locs hP hD hS => ?_)
        obtain ⟨M_8, e_9, hf⟩ := bnd_e hf
        have hP : va_P D vwCl (wMod cI a M_8) H := by rw [e_9]; exact hP
        have hD : va_D A (wMod cI a M_8) := by rw [e_9]; exact hD
        clear e_9
        refine lv_iinc (v := (x2_31 + 1)) (lv' := [(2, .int (x2_31 + 1)), (0, .ref (a 0))]) hx hb dX7_cuts_62 hl (k := 1) rfl (by rfl) (by decide) rfl (fun ls hl => ?_)
        refine lv_goto (tgt := 31) hx hb dX7_cuts_65 (by decide) ?_
        exact ih M_8 (x2_31 + 1) _ _ _ ls hf hP hD hS (lv_sub hl [1, 0] rfl) hk
  obtain ⟨u_10, h_11, hf⟩ := ob hf
  refine hL_31 FUEL M_3 (36 + (4 * x1)) u_10 _ _ ls h_11 hP hD hS (lv_sub hl [1, 0] rfl) (fun H locs ls hP hD hS hl => ?_)
  clear hL_31
  obtain rfl := (Option.some.inj hf)
  exact wr_v F hP hS dX7_cuts_68
def X7_cut (K : SMod) (x1 : Int32) : Option (SMod × Int32) := ((X7_isString K x1).bind fun u_1 => (if u_1 = 0 then some (K, (-1000001)) else ((X7_changes K).bind fun u_4 => ((X7_cuts u_4 x1).bind fun u_6 => some (u_6, ((u_6.1 0) (Int32.toNatClampNeg 149)))))))
abbrev rm_X7_cut : Room := { frames := 2, cells := 0, slots := 0, locals := 43 }
set_option maxHeartbeats 4000000 in
set_option maxRecDepth 100000 in
theorem c_X7_cut (l : Launch) (D : va_G) (cI cP : ClassId) (a : Nat → Nat) (K : SMod) (x1 : Int32) (z : SMod × Int32) (hf : X7_cut K x1 = some z) : MWi l yX7_cut cX7_cut 2 (some .int) rm_X7_cut D cI cP [.ref (a 0), .int x1] (wMod cI a K) (wMod cI a z.1) z.2 := by
  refine MWi.of (by decide +kernel) (Nat.le_of_ble_eq_true rfl) ?_
  intro p e s m args below meth c ls A F hX hP hD hA hS hl
  have F : Fx p s m args meth c RX7 cX7_cut 2 (some .int) := F
  have hx := F.1
  have hb := F.2.1
  have hown := F.2.2.2.1
  have hts := F.2.2.2.2.1
  have hl : lv_has ls 2 [(0, .ref (a 0)), (1, .int x1)] := hl
  unfold X7_cut at hf
  refine lv_aload_n hx hb dX7_cut_0 rfl (lv_at hl 0 rfl) ?_
  refine lv_iload_n hx hb dX7_cut_1 rfl (lv_at hl 1 rfl) ?_
  obtain ⟨u_1, h_2, hf⟩ := ob hf
  refine k_rd (runV F wdX7_102 (rm := rm_X7_isString) (As := [.int x1]) (rest := []) ⟨rfl, rfl⟩ ⟨Nat.le_of_ble_eq_true rfl, Nat.le_of_ble_eq_true rfl⟩ hl.1 rfl rfl (Nat.le_of_ble_eq_true rfl) dX7_cut_2 ⟨Nat.zero_le _, Nat.zero_le _⟩) (c_X7_isString l D cI cP a K x1 _ h_2) hX (va_recv hX.1 hP (ci := 7) (q0 := 0) rfl rfl) hP hP hS hA (fun H locs hP hS => ?_)
  refine lv_if_ne (tgt := 11) hx hb dX7_cut_5 (by decide) (fun c_3 => ?_) (fun c_3 => ?_)
  · replace hf := (if_neg c_3).symm.trans hf
    refine lv_aload_n hx hb dX7_cut_11 rfl (lv_at hl 0 rfl) ?_
    obtain ⟨u_4, h_5, hf⟩ := ob hf
    refine k_wv (runV F wdX7_98 (rm := rm_X7_changes) (As := []) (rest := []) ⟨rfl, rfl⟩ ⟨Nat.le_of_ble_eq_true rfl, Nat.le_of_ble_eq_true rfl⟩ hl.1 rfl rfl (Nat.le_of_ble_eq_true rfl) dX7_cut_12 ⟨Nat.zero_le _, Nat.zero_le _⟩) (c_X7_changes l D cI cP a K  _ h_5) hX (va_recv hX.1 hP (ci := 7) (q0 := 0) rfl rfl) (Cut.all rfl) hP hD hS hA (fun H locs hP hD hS => ?_)
    have hP : va_P D vwCl (wMod cI a u_4) H := hP
    have hD : va_D A (wMod cI a u_4) := hD
    refine lv_aload_n hx hb dX7_cut_15 rfl (lv_at hl 0 rfl) ?_
    refine lv_iload_n hx hb dX7_cut_16 rfl (lv_at hl 1 rfl) ?_
    obtain ⟨u_6, h_7, hf⟩ := ob hf
    refine k_wv (runV F wdX7_105 (rm := rm_X7_cuts) (As := [.int x1]) (rest := []) ⟨rfl, rfl⟩ ⟨Nat.le_of_ble_eq_true rfl, Nat.le_of_ble_eq_true rfl⟩ hl.1 rfl rfl (Nat.le_of_ble_eq_true rfl) dX7_cut_17 ⟨Nat.zero_le _, Nat.zero_le _⟩) (c_X7_cuts l D cI cP a u_4 x1 _ h_7) hX (va_recv hX.1 hP (ci := 7) (q0 := 0) rfl rfl) (Cut.all rfl) hP hD hS hA (fun H locs hP hD hS => ?_)
    have hP : va_P D vwCl (wMod cI a u_6) H := hP
    have hD : va_D A (wMod cI a u_6) := hD
    refine lv_aload_n hx hb dX7_cut_20 rfl (lv_at hl 0 rfl) ?_
    refine gX7_7 F hX hP 0 rfl (v := .ref (a 1)) rfl dX7_cut_21 ?_
    refine lv_sipush (v := 149) hx hb dX7_cut_24 (by decide) ?_
    refine va_iald hx hb hX.1 hP 1 0 (n := 156) (f := (u_6.1 0)) rfl rfl (by decide : ¬ ((149 : Int32) < 0 ∨ 156 ≤ Int32.toNatClampNeg 149)) dX7_cut_27 ?_
    obtain rfl := (Option.some.inj hf)
    exact wr_i F rfl hP hS dX7_cut_28
  · replace hf := (if_pos c_3).symm.trans hf
    refine lv_ldc (v := (-1000001)) hx hb hown (hts _ q_855) dX7_cut_8 ?_
    obtain rfl := (Option.some.inj hf)
    exact wr_i F rfl hP hS dX7_cut_10
def X7_ofDeal_L4 : Nat → SMod → Int32 → Int32 → Int32 → Option (Int32)
  | 0, _, _, _, _ => none
  | fu + 1, K_4, x1_4, x2_4, x3_4 => (if ((K_4.1 0) (Int32.toNatClampNeg 149)) ≤ x3_4 then some x2_4 else ((X7_tied K_4 x3_4 3).bind fun u_2 => (if u_2 = x1_4 then X7_ofDeal_L4 fu K_4 x1_4 (x2_4 + 1) (x3_4 + 1) else X7_ofDeal_L4 fu K_4 x1_4 (x2_4 + 0) (x3_4 + 1))))
def X7_ofDeal (K : SMod) (x1 : Int32) : Option (Int32) := ((X7_ofDeal_L4 FUEL K x1 0 0).bind fun u_5 => some u_5)
abbrev rm_X7_ofDeal : Room := { frames := 1, cells := 0, slots := 0, locals := 22 }
set_option maxHeartbeats 4000000 in
set_option maxRecDepth 100000 in
theorem c_X7_ofDeal (l : Launch) (D : va_G) (cI cP : ClassId) (a : Nat → Nat) (K : SMod) (x1 : Int32) (z : Int32) (hf : X7_ofDeal K x1 = some z) : MRd l yX7_ofDeal cX7_ofDeal 4 (some .int) rm_X7_ofDeal D cI cP [.ref (a 0), .int x1] (wMod cI a K) z := by
  refine MRd.of (by decide +kernel) (Nat.le_of_ble_eq_true rfl) ?_
  intro p e s m args below meth c ls F hX hP hS hl
  have F : Fx p s m args meth c RX7 cX7_ofDeal 4 (some .int) := F
  have hx := F.1
  have hb := F.2.1
  have hown := F.2.2.2.1
  have hts := F.2.2.2.2.1
  have hA : ∀ q : Nat, s.heap.size ≤ q → (fun q : Nat => s.heap.size ≤ q) q := fun _ h => h
  have hl : lv_has ls 4 [(0, .ref (a 0)), (1, .int x1)] := hl
  unfold X7_ofDeal at hf
  refine lv_iconst (v := 0) hx hb dX7_ofDeal_0 (by decide) ?_
  refine lv_istore_n (lv' := [(2, .int 0), (0, .ref (a 0)), (1, .int x1)]) hx hb dX7_ofDeal_1 rfl hl (by decide) rfl (fun ls hl => ?_)
  refine lv_iconst (v := 0) hx hb dX7_ofDeal_2 (by decide) ?_
  refine lv_istore_n (lv' := [(3, .int 0), (2, .int 0), (0, .ref (a 0)), (1, .int x1)]) hx hb dX7_ofDeal_3 rfl hl (by decide) rfl (fun ls hl => ?_)
  have hL_4 : ∀ (fu : Nat) (K_4 : SMod) (x1_4 : Int32) (x2_4 : Int32) (x3_4 : Int32) (v : Int32) (H : Heap) (locs : List Loc) (ls : Array Slot), X7_ofDeal_L4 fu K_4 x1_4 x2_4 x3_4 = some v → va_P D vwCl (wMod cI a K_4) H → va_S (fun q : Nat => s.heap.size ≤ q) s.heap H locs → lv_has ls 4 [(0, .ref (a 0)), (1, .int x1_4), (2, .int x2_4), (3, .int x3_4)] → (∀ (H : Heap) (locs : List Loc) (ls : Array Slot), va_P D vwCl (wMod cI a K_4) H → va_S (fun q : Nat => s.heap.size ≤ q) s.heap H locs → lv_has ls 4 [(2, .int v)] → W p l e rm_X7_ofDeal s m args below meth c H locs 0 0 (QR below args s z) (F0 m 40 ls [])) → W p l e rm_X7_ofDeal s m args below meth c H locs 0 0 (QR below args s z) (F0 m 4 ls []) := by
    intro fu
    induction fu with
    | zero =>
      intro K_4 x1_4 x2_4 x3_4 v H locs ls hf
      exact absurd hf (by simp [X7_ofDeal_L4])
    | succ fu ih =>
      intro K_4 x1_4 x2_4 x3_4 v _ _ ls hf hP hS hl hk
      rw [X7_ofDeal_L4] at hf
      refine lv_iload_n hx hb dX7_ofDeal_4 rfl (lv_at hl 3 rfl) ?_
      refine lv_aload_n hx hb dX7_ofDeal_5 rfl (lv_at hl 0 rfl) ?_
      refine gX7_7 F hX hP 0 rfl (v := .ref (a 1)) rfl dX7_ofDeal_6 ?_
      refine lv_sipush (v := 149) hx hb dX7_ofDeal_9 (by decide) ?_
      refine va_iald hx hb hX.1 hP 1 0 (n := 156) (f := (K_4.1 0)) rfl rfl (by decide : ¬ ((149 : Int32) < 0 ∨ 156 ≤ Int32.toNatClampNeg 149)) dX7_ofDeal_12 ?_
      refine lv_icmp_ge (tgt := 40) hx hb dX7_ofDeal_13 (by decide) (fun c_1 => ?_) (fun c_1 => ?_)
      · replace hf := (if_pos c_1).symm.trans hf
        obtain rfl := Option.some.inj hf
        exact hk _ _ ls hP hS (lv_sub hl [2] rfl)
      · replace hf := (if_neg c_1).symm.trans hf
        refine lv_iload_n hx hb dX7_ofDeal_16 rfl (lv_at hl 2 rfl) ?_
        refine lv_aload_n hx hb dX7_ofDeal_17 rfl (lv_at hl 0 rfl) ?_
        refine lv_iload_n hx hb dX7_ofDeal_18 rfl (lv_at hl 3 rfl) ?_
        refine lv_iconst (v := 3) hx hb dX7_ofDeal_19 (by decide) ?_
        obtain ⟨u_2, h_3, hf⟩ := ob hf
        refine k_rd (runV F wdX7_53 (rm := rm_X7_tied) (As := [.int x3_4, .int 3]) (rest := [.int x2_4]) ⟨rfl, rfl⟩ ⟨Nat.le_of_ble_eq_true rfl, Nat.le_of_ble_eq_true rfl⟩ hl.1 rfl rfl (Nat.le_of_ble_eq_true rfl) dX7_ofDeal_20 ⟨Nat.zero_le _, Nat.zero_le _⟩) (c_X7_tied l D cI cP a K_4 x3_4 3 _ h_3) hX (va_recv hX.1 hP (ci := 7) (q0 := 0) rfl rfl) hP hP hS hA (fun H locs hP hS => ?_)
        refine lv_iload_n hx hb dX7_ofDeal_23 rfl (lv_at hl 1 rfl) ?_
        refine lv_icmp_ne (tgt := 31) hx hb dX7_ofDeal_24 (by decide) (fun c_4 => ?_) (fun c_4 => ?_)
        · replace hf := (if_neg c_4).symm.trans hf
          refine lv_iconst (v := 0) hx hb dX7_ofDeal_31 (by decide) ?_
          refine lv_iadd hx hb dX7_ofDeal_32 ?_
          refine lv_istore_n (lv' := [(2, .int (x2_4 + 0)), (0, .ref (a 0)), (1, .int x1_4), (3, .int x3_4)]) hx hb dX7_ofDeal_33 rfl hl (by decide) rfl (fun ls hl => ?_)
          refine lv_iinc (v := (x3_4 + 1)) (lv' := [(3, .int (x3_4 + 1)), (2, .int (x2_4 + 0)), (0, .ref (a 0)), (1, .int x1_4)]) hx hb dX7_ofDeal_34 hl (k := 3) rfl (by rfl) (by decide) rfl (fun ls hl => ?_)
          refine lv_goto (tgt := 4) hx hb dX7_ofDeal_37 (by decide) ?_
          exact ih K_4 x1_4 (x2_4 + 0) (x3_4 + 1) _ _ _ ls hf hP hS (lv_sub hl [2, 3, 1, 0] rfl) hk
        · replace hf := (if_pos c_4).symm.trans hf
          refine lv_iconst (v := 1) hx hb dX7_ofDeal_27 (by decide) ?_
          refine lv_goto (tgt := 32) hx hb dX7_ofDeal_28 (by decide) ?_
          refine lv_iadd hx hb dX7_ofDeal_32 ?_
          refine lv_istore_n (lv' := [(2, .int (x2_4 + 1)), (0, .ref (a 0)), (1, .int x1_4), (3, .int x3_4)]) hx hb dX7_ofDeal_33 rfl hl (by decide) rfl (fun ls hl => ?_)
          refine lv_iinc (v := (x3_4 + 1)) (lv' := [(3, .int (x3_4 + 1)), (2, .int (x2_4 + 1)), (0, .ref (a 0)), (1, .int x1_4)]) hx hb dX7_ofDeal_34 hl (k := 3) rfl (by rfl) (by decide) rfl (fun ls hl => ?_)
          refine lv_goto (tgt := 4) hx hb dX7_ofDeal_37 (by decide) ?_
          exact ih K_4 x1_4 (x2_4 + 1) (x3_4 + 1) _ _ _ ls hf hP hS (lv_sub hl [2, 3, 1, 0] rfl) hk
  obtain ⟨u_5, h_6, hf⟩ := ob hf
  refine hL_4 FUEL K x1 0 0 u_5 _ _ ls h_6 hP hS (lv_sub hl [2, 3, 1, 0] rfl) (fun H locs ls hP hS hl => ?_)
  clear hL_4
  refine lv_iload_n hx hb dX7_ofDeal_40 rfl (lv_at hl 0 rfl) ?_
  exact rd_i F (Option.some.inj hf) hS dX7_ofDeal_41
def X7_cutDeal_L40 : Nat → SMod → Int32 → Int32 → Int32 → Option (SMod)
  | 0, _, _, _, _ => none
  | fu + 1, K_40, x1_40, x2_40, x3_40 => (if x3_40 < 0 then some K_40 else ((X7_tied K_40 x3_40 3).bind fun u_8 => (if u_8 = x1_40 then ((X7_cuts K_40 x3_40).bind fun u_11 => X7_cutDeal_L40 fu u_11 x1_40 x2_40 (x3_40 + (-1))) else X7_cutDeal_L40 fu K_40 x1_40 x2_40 (x3_40 + (-1)))))
def X7_cutDeal (K : SMod) (x1 : Int32) : Option (SMod × Int32) := (if (X7_in x1 0 5) = 0 then some (K, (-1000001)) else ((X7_ofDeal K x1).bind fun u_2 => (if u_2 = 0 then some (K, (-1000002)) else ((X7_changes K).bind fun u_5 => ((X7_cutDeal_L40 FUEL u_5 x1 u_2 (((u_5.1 0) (Int32.toNatClampNeg 149)) - 1)).bind fun u_13 => some (u_13, u_2))))))
abbrev rm_X7_cutDeal : Room := { frames := 2, cells := 0, slots := 0, locals := 45 }
set_option maxHeartbeats 4000000 in
set_option maxRecDepth 100000 in
theorem c_X7_cutDeal (l : Launch) (D : va_G) (cI cP : ClassId) (a : Nat → Nat) (K : SMod) (x1 : Int32) (z : SMod × Int32) (hf : X7_cutDeal K x1 = some z) : MWi l yX7_cutDeal cX7_cutDeal 4 (some .int) rm_X7_cutDeal D cI cP [.ref (a 0), .int x1] (wMod cI a K) (wMod cI a z.1) z.2 := by
  refine MWi.of (by decide +kernel) (Nat.le_of_ble_eq_true rfl) ?_
  intro p e s m args below meth c ls A F hX hP hD hA hS hl
  have F : Fx p s m args meth c RX7 cX7_cutDeal 4 (some .int) := F
  have hx := F.1
  have hb := F.2.1
  have hown := F.2.2.2.1
  have hts := F.2.2.2.2.1
  have hl : lv_has ls 4 [(0, .ref (a 0)), (1, .int x1)] := hl
  unfold X7_cutDeal at hf
  refine lv_iload_n hx hb dX7_cutDeal_0 rfl (lv_at hl 1 rfl) ?_
  refine lv_iconst (v := 0) hx hb dX7_cutDeal_1 (by decide) ?_
  refine lv_iconst (v := 5) hx hb dX7_cutDeal_2 (by decide) ?_
  refine k_rd (runS F wdX7_45 (rm := rm_X7_in) (As := [.int x1, .int 0, .int 5]) (rest := []) ⟨rfl, rfl⟩ ⟨Nat.le_of_ble_eq_true rfl, Nat.le_of_ble_eq_true rfl⟩ hl.1 rfl rfl (Nat.le_of_ble_eq_true rfl) dX7_cutDeal_3 ⟨Nat.zero_le _, Nat.zero_le _⟩) (c_X7_in l D cI cP x1 0 5 _ rfl) hX trivial vP_nil hP hS hA (fun H locs hP hS => ?_)
  refine lv_if_ne (tgt := 12) hx hb dX7_cutDeal_6 (by decide) (fun c_1 => ?_) (fun c_1 => ?_)
  · replace hf := (if_neg c_1).symm.trans hf
    refine lv_aload_n hx hb dX7_cutDeal_12 rfl (lv_at hl 0 rfl) ?_
    refine lv_iload_n hx hb dX7_cutDeal_13 rfl (lv_at hl 1 rfl) ?_
    obtain ⟨u_2, h_3, hf⟩ := ob hf
    refine k_rd (runV F wdX7_108 (rm := rm_X7_ofDeal) (As := [.int x1]) (rest := []) ⟨rfl, rfl⟩ ⟨Nat.le_of_ble_eq_true rfl, Nat.le_of_ble_eq_true rfl⟩ hl.1 rfl rfl (Nat.le_of_ble_eq_true rfl) dX7_cutDeal_14 ⟨Nat.zero_le _, Nat.zero_le _⟩) (c_X7_ofDeal l D cI cP a K x1 _ h_3) hX (va_recv hX.1 hP (ci := 7) (q0 := 0) rfl rfl) hP hP hS hA (fun H locs hP hS => ?_)
    refine lv_istore_n (lv' := [(2, .int u_2), (0, .ref (a 0)), (1, .int x1)]) hx hb dX7_cutDeal_17 rfl hl (by decide) rfl (fun ls hl => ?_)
    refine lv_iload_n hx hb dX7_cutDeal_18 rfl (lv_at hl 0 rfl) ?_
    refine lv_if_ne (tgt := 25) hx hb dX7_cutDeal_19 (by decide) (fun c_4 => ?_) (fun c_4 => ?_)
    · replace hf := (if_neg c_4).symm.trans hf
      refine lv_aload_n hx hb dX7_cutDeal_25 rfl (lv_at hl 1 rfl) ?_
      obtain ⟨u_5, h_6, hf⟩ := ob hf
      refine k_wv (runV F wdX7_98 (rm := rm_X7_changes) (As := []) (rest := []) ⟨rfl, rfl⟩ ⟨Nat.le_of_ble_eq_true rfl, Nat.le_of_ble_eq_true rfl⟩ hl.1 rfl rfl (Nat.le_of_ble_eq_true rfl) dX7_cutDeal_26 ⟨Nat.zero_le _, Nat.zero_le _⟩) (c_X7_changes l D cI cP a K  _ h_6) hX (va_recv hX.1 hP (ci := 7) (q0 := 0) rfl rfl) (Cut.all rfl) hP hD hS hA (fun H locs hP hD hS => ?_)
      have hP : va_P D vwCl (wMod cI a u_5) H := hP
      have hD : va_D A (wMod cI a u_5) := hD
      refine lv_aload_n hx hb dX7_cutDeal_29 rfl (lv_at hl 1 rfl) ?_
      refine gX7_7 F hX hP 0 rfl (v := .ref (a 1)) rfl dX7_cutDeal_30 ?_
      refine lv_sipush (v := 149) hx hb dX7_cutDeal_33 (by decide) ?_
      refine va_iald hx hb hX.1 hP 1 0 (n := 156) (f := (u_5.1 0)) rfl rfl (by decide : ¬ ((149 : Int32) < 0 ∨ 156 ≤ Int32.toNatClampNeg 149)) dX7_cutDeal_36 ?_
      refine lv_iconst (v := 1) hx hb dX7_cutDeal_37 (by decide) ?_
      refine lv_isub hx hb dX7_cutDeal_38 ?_
      refine lv_istore_n (lv' := [(3, .int (((u_5.1 0) (Int32.toNatClampNeg 149)) - 1)), (2, .int u_2), (0, .ref (a 0)), (1, .int x1)]) hx hb dX7_cutDeal_39 rfl hl (by decide) rfl (fun ls hl => ?_)
      have hL_40 : ∀ (fu : Nat) (K_40 : SMod) (x1_40 : Int32) (x2_40 : Int32) (x3_40 : Int32) (v : SMod) (H : Heap) (locs : List Loc) (ls : Array Slot), X7_cutDeal_L40 fu K_40 x1_40 x2_40 x3_40 = some v → va_P D vwCl (wMod cI a K_40) H → va_D A (wMod cI a K_40) → va_S A s.heap H locs → lv_has ls 4 [(0, .ref (a 0)), (1, .int x1_40), (2, .int x2_40), (3, .int x3_40)] → (∀ (H : Heap) (locs : List Loc) (ls : Array Slot), va_P D vwCl (wMod cI a v) H → va_D A (wMod cI a v) → va_S A s.heap H locs → lv_has ls 4 [(2, .int x2_40)] → W p l e rm_X7_cutDeal s m args below meth c H locs 0 0 (QWi D below args s A (wMod cI a z.1) z.2) (F0 m 65 ls [])) → W p l e rm_X7_cutDeal s m args below meth c H locs 0 0 (QWi D below args s A (wMod cI a z.1) z.2) (F0 m 40 ls []) := by
        intro fu
        induction fu with
        | zero =>
          intro K_40 x1_40 x2_40 x3_40 v H locs ls hf
          exact absurd hf (by simp [X7_cutDeal_L40])
        | succ fu ih =>
          intro K_40 x1_40 x2_40 x3_40 v _ _ ls hf hP hD hS hl hk
          rw [X7_cutDeal_L40] at hf
          refine lv_iload_n hx hb dX7_cutDeal_40 rfl (lv_at hl 3 rfl) ?_
          refine lv_if_lt (tgt := 65) hx hb dX7_cutDeal_41 (by decide) (fun c_7 => ?_) (fun c_7 => ?_)
          · replace hf := (if_pos c_7).symm.trans hf
            obtain rfl := Option.some.inj hf
            exact hk _ _ ls hP hD hS (lv_sub hl [2] rfl)
          · replace hf := (if_neg c_7).symm.trans hf
            refine lv_aload_n hx hb dX7_cutDeal_44 rfl (lv_at hl 0 rfl) ?_
            refine lv_iload_n hx hb dX7_cutDeal_45 rfl (lv_at hl 3 rfl) ?_
            refine lv_iconst (v := 3) hx hb dX7_cutDeal_46 (by decide) ?_
            obtain ⟨u_8, h_9, hf⟩ := ob hf
            refine k_rd (runV F wdX7_53 (rm := rm_X7_tied) (As := [.int x3_40, .int 3]) (rest := []) ⟨rfl, rfl⟩ ⟨Nat.le_of_ble_eq_true rfl, Nat.le_of_ble_eq_true rfl⟩ hl.1 rfl rfl (Nat.le_of_ble_eq_true rfl) dX7_cutDeal_47 ⟨Nat.zero_le _, Nat.zero_le _⟩) (c_X7_tied l D cI cP a K_40 x3_40 3 _ h_9) hX (va_recv hX.1 hP (ci := 7) (q0 := 0) rfl rfl) hP hP hS hA (fun H locs hP hS => ?_)
            refine lv_iload_n hx hb dX7_cutDeal_50 rfl (lv_at hl 1 rfl) ?_
            refine lv_icmp_ne (tgt := 59) hx hb dX7_cutDeal_51 (by decide) (fun c_10 => ?_) (fun c_10 => ?_)
            · replace hf := (if_neg c_10).symm.trans hf
              refine lv_iinc (v := (x3_40 + (-1))) (lv' := [(3, .int (x3_40 + (-1))), (0, .ref (a 0)), (1, .int x1_40), (2, .int x2_40)]) hx hb dX7_cutDeal_59 hl (k := 3) rfl (by rfl) (by decide) rfl (fun ls hl => ?_)
              refine lv_goto (tgt := 40) hx hb dX7_cutDeal_62 (by decide) ?_
              exact ih K_40 x1_40 x2_40 (x3_40 + (-1)) _ _ _ ls hf hP hD hS (lv_sub hl [1, 2, 3, 0] rfl) hk
            · replace hf := (if_pos c_10).symm.trans hf
              refine lv_aload_n hx hb dX7_cutDeal_54 rfl (lv_at hl 0 rfl) ?_
              refine lv_iload_n hx hb dX7_cutDeal_55 rfl (lv_at hl 3 rfl) ?_
              obtain ⟨u_11, h_12, hf⟩ := ob hf
              refine k_wv (runV F wdX7_105 (rm := rm_X7_cuts) (As := [.int x3_40]) (rest := []) ⟨rfl, rfl⟩ ⟨Nat.le_of_ble_eq_true rfl, Nat.le_of_ble_eq_true rfl⟩ hl.1 rfl rfl (Nat.le_of_ble_eq_true rfl) dX7_cutDeal_56 ⟨Nat.zero_le _, Nat.zero_le _⟩) (c_X7_cuts l D cI cP a K_40 x3_40 _ h_12) hX (va_recv hX.1 hP (ci := 7) (q0 := 0) rfl rfl) (Cut.all rfl) hP hD hS hA (fun H locs hP hD hS => ?_)
              have hP : va_P D vwCl (wMod cI a u_11) H := hP
              have hD : va_D A (wMod cI a u_11) := hD
              refine lv_iinc (v := (x3_40 + (-1))) (lv' := [(3, .int (x3_40 + (-1))), (0, .ref (a 0)), (1, .int x1_40), (2, .int x2_40)]) hx hb dX7_cutDeal_59 hl (k := 3) rfl (by rfl) (by decide) rfl (fun ls hl => ?_)
              refine lv_goto (tgt := 40) hx hb dX7_cutDeal_62 (by decide) ?_
              exact ih u_11 x1_40 x2_40 (x3_40 + (-1)) _ _ _ ls hf hP hD hS (lv_sub hl [1, 2, 3, 0] rfl) hk
      obtain ⟨u_13, h_14, hf⟩ := ob hf
      refine hL_40 FUEL u_5 x1 u_2 (((u_5.1 0) (Int32.toNatClampNeg 149)) - 1) u_13 _ _ ls h_14 hP hD hS (lv_sub hl [2, 3, 1, 0] rfl) (fun H locs ls hP hD hS hl => ?_)
      clear hL_40
      refine lv_iload_n hx hb dX7_cutDeal_65 rfl (lv_at hl 0 rfl) ?_
      obtain rfl := (Option.some.inj hf)
      exact wr_i F rfl hP hS dX7_cutDeal_66
    · replace hf := (if_pos c_4).symm.trans hf
      refine lv_ldc (v := (-1000002)) hx hb hown (hts _ q_869) dX7_cutDeal_22 ?_
      obtain rfl := (Option.some.inj hf)
      exact wr_i F rfl hP hS dX7_cutDeal_24
  · replace hf := (if_pos c_1).symm.trans hf
    refine lv_ldc (v := (-1000001)) hx hb hown (hts _ q_855) dX7_cutDeal_9 ?_
    obtain rfl := (Option.some.inj hf)
    exact wr_i F rfl hP hS dX7_cutDeal_11
def X7_manyPulled_L4 : Nat → SMod → Int32 → Int32 → Int32 → Option (Int32)
  | 0, _, _, _, _ => none
  | fu + 1, K_4, x1_4, x2_4, x3_4 => (if ((K_4.1 0) (Int32.toNatClampNeg 148)) ≤ x3_4 then some x2_4 else (if x3_4 = x1_4 then X7_manyPulled_L4 fu K_4 x1_4 (x2_4 + 0) (x3_4 + 1) else ((X7_of K_4 x3_4 2).bind fun u_3 => (if u_3 ≤ 0 then X7_manyPulled_L4 fu K_4 x1_4 (x2_4 + 0) (x3_4 + 1) else X7_manyPulled_L4 fu K_4 x1_4 (x2_4 + 1) (x3_4 + 1)))))
def X7_manyPulled (K : SMod) (x1 : Int32) : Option (Int32) := ((X7_manyPulled_L4 FUEL K x1 0 0).bind fun u_6 => some u_6)
abbrev rm_X7_manyPulled : Room := { frames := 1, cells := 0, slots := 0, locals := 22 }
set_option maxHeartbeats 4000000 in
set_option maxRecDepth 100000 in
theorem c_X7_manyPulled (l : Launch) (D : va_G) (cI cP : ClassId) (a : Nat → Nat) (K : SMod) (x1 : Int32) (z : Int32) (hf : X7_manyPulled K x1 = some z) : MRd l yX7_manyPulled cX7_manyPulled 4 (some .int) rm_X7_manyPulled D cI cP [.ref (a 0), .int x1] (wMod cI a K) z := by
  refine MRd.of (by decide +kernel) (Nat.le_of_ble_eq_true rfl) ?_
  intro p e s m args below meth c ls F hX hP hS hl
  have F : Fx p s m args meth c RX7 cX7_manyPulled 4 (some .int) := F
  have hx := F.1
  have hb := F.2.1
  have hown := F.2.2.2.1
  have hts := F.2.2.2.2.1
  have hA : ∀ q : Nat, s.heap.size ≤ q → (fun q : Nat => s.heap.size ≤ q) q := fun _ h => h
  have hl : lv_has ls 4 [(0, .ref (a 0)), (1, .int x1)] := hl
  unfold X7_manyPulled at hf
  refine lv_iconst (v := 0) hx hb dX7_manyPulled_0 (by decide) ?_
  refine lv_istore_n (lv' := [(2, .int 0), (0, .ref (a 0)), (1, .int x1)]) hx hb dX7_manyPulled_1 rfl hl (by decide) rfl (fun ls hl => ?_)
  refine lv_iconst (v := 0) hx hb dX7_manyPulled_2 (by decide) ?_
  refine lv_istore_n (lv' := [(3, .int 0), (2, .int 0), (0, .ref (a 0)), (1, .int x1)]) hx hb dX7_manyPulled_3 rfl hl (by decide) rfl (fun ls hl => ?_)
  have hL_4 : ∀ (fu : Nat) (K_4 : SMod) (x1_4 : Int32) (x2_4 : Int32) (x3_4 : Int32) (v : Int32) (H : Heap) (locs : List Loc) (ls : Array Slot), X7_manyPulled_L4 fu K_4 x1_4 x2_4 x3_4 = some v → va_P D vwCl (wMod cI a K_4) H → va_S (fun q : Nat => s.heap.size ≤ q) s.heap H locs → lv_has ls 4 [(0, .ref (a 0)), (1, .int x1_4), (2, .int x2_4), (3, .int x3_4)] → (∀ (H : Heap) (locs : List Loc) (ls : Array Slot), va_P D vwCl (wMod cI a K_4) H → va_S (fun q : Nat => s.heap.size ≤ q) s.heap H locs → lv_has ls 4 [(2, .int v)] → W p l e rm_X7_manyPulled s m args below meth c H locs 0 0 (QR below args s z) (F0 m 44 ls [])) → W p l e rm_X7_manyPulled s m args below meth c H locs 0 0 (QR below args s z) (F0 m 4 ls []) := by
    intro fu
    induction fu with
    | zero =>
      intro K_4 x1_4 x2_4 x3_4 v H locs ls hf
      exact absurd hf (by simp [X7_manyPulled_L4])
    | succ fu ih =>
      intro K_4 x1_4 x2_4 x3_4 v _ _ ls hf hP hS hl hk
      rw [X7_manyPulled_L4] at hf
      refine lv_iload_n hx hb dX7_manyPulled_4 rfl (lv_at hl 3 rfl) ?_
      refine lv_aload_n hx hb dX7_manyPulled_5 rfl (lv_at hl 0 rfl) ?_
      refine gX7_7 F hX hP 0 rfl (v := .ref (a 1)) rfl dX7_manyPulled_6 ?_
      refine lv_sipush (v := 148) hx hb dX7_manyPulled_9 (by decide) ?_
      refine va_iald hx hb hX.1 hP 1 0 (n := 156) (f := (K_4.1 0)) rfl rfl (by decide : ¬ ((148 : Int32) < 0 ∨ 156 ≤ Int32.toNatClampNeg 148)) dX7_manyPulled_12 ?_
      refine lv_icmp_ge (tgt := 44) hx hb dX7_manyPulled_13 (by decide) (fun c_1 => ?_) (fun c_1 => ?_)
      · replace hf := (if_pos c_1).symm.trans hf
        obtain rfl := Option.some.inj hf
        exact hk _ _ ls hP hS (lv_sub hl [2] rfl)
      · replace hf := (if_neg c_1).symm.trans hf
        refine lv_iload_n hx hb dX7_manyPulled_16 rfl (lv_at hl 2 rfl) ?_
        refine lv_iload_n hx hb dX7_manyPulled_17 rfl (lv_at hl 3 rfl) ?_
        refine lv_iload_n hx hb dX7_manyPulled_18 rfl (lv_at hl 1 rfl) ?_
        refine lv_icmp_eq (tgt := 35) hx hb dX7_manyPulled_19 (by decide) (fun c_2 => ?_) (fun c_2 => ?_)
        · replace hf := (if_pos c_2).symm.trans hf
          refine lv_iconst (v := 0) hx hb dX7_manyPulled_35 (by decide) ?_
          refine lv_iadd hx hb dX7_manyPulled_36 ?_
          refine lv_istore_n (lv' := [(2, .int (x2_4 + 0)), (0, .ref (a 0)), (1, .int x1_4), (3, .int x3_4)]) hx hb dX7_manyPulled_37 rfl hl (by decide) rfl (fun ls hl => ?_)
          refine lv_iinc (v := (x3_4 + 1)) (lv' := [(3, .int (x3_4 + 1)), (2, .int (x2_4 + 0)), (0, .ref (a 0)), (1, .int x1_4)]) hx hb dX7_manyPulled_38 hl (k := 3) rfl (by rfl) (by decide) rfl (fun ls hl => ?_)
          refine lv_goto (tgt := 4) hx hb dX7_manyPulled_41 (by decide) ?_
          exact ih K_4 x1_4 (x2_4 + 0) (x3_4 + 1) _ _ _ ls hf hP hS (lv_sub hl [2, 3, 1, 0] rfl) hk
        · replace hf := (if_neg c_2).symm.trans hf
          refine lv_aload_n hx hb dX7_manyPulled_22 rfl (lv_at hl 0 rfl) ?_
          refine lv_iload_n hx hb dX7_manyPulled_23 rfl (lv_at hl 3 rfl) ?_
          refine lv_iconst (v := 2) hx hb dX7_manyPulled_24 (by decide) ?_
          obtain ⟨u_3, h_4, hf⟩ := ob hf
          refine k_rd (runV F wdX7_61 (rm := rm_X7_of) (As := [.int x3_4, .int 2]) (rest := [.int x2_4]) ⟨rfl, rfl⟩ ⟨Nat.le_of_ble_eq_true rfl, Nat.le_of_ble_eq_true rfl⟩ hl.1 rfl rfl (Nat.le_of_ble_eq_true rfl) dX7_manyPulled_25 ⟨Nat.zero_le _, Nat.zero_le _⟩) (c_X7_of l D cI cP a K_4 x3_4 2 _ h_4) hX (va_recv hX.1 hP (ci := 7) (q0 := 0) rfl rfl) hP hP hS hA (fun H locs hP hS => ?_)
          refine lv_if_le (tgt := 35) hx hb dX7_manyPulled_28 (by decide) (fun c_5 => ?_) (fun c_5 => ?_)
          · replace hf := (if_pos c_5).symm.trans hf
            refine lv_iconst (v := 0) hx hb dX7_manyPulled_35 (by decide) ?_
            refine lv_iadd hx hb dX7_manyPulled_36 ?_
            refine lv_istore_n (lv' := [(2, .int (x2_4 + 0)), (0, .ref (a 0)), (1, .int x1_4), (3, .int x3_4)]) hx hb dX7_manyPulled_37 rfl hl (by decide) rfl (fun ls hl => ?_)
            refine lv_iinc (v := (x3_4 + 1)) (lv' := [(3, .int (x3_4 + 1)), (2, .int (x2_4 + 0)), (0, .ref (a 0)), (1, .int x1_4)]) hx hb dX7_manyPulled_38 hl (k := 3) rfl (by rfl) (by decide) rfl (fun ls hl => ?_)
            refine lv_goto (tgt := 4) hx hb dX7_manyPulled_41 (by decide) ?_
            exact ih K_4 x1_4 (x2_4 + 0) (x3_4 + 1) _ _ _ ls hf hP hS (lv_sub hl [2, 3, 1, 0] rfl) hk
          · replace hf := (if_neg c_5).symm.trans hf
            refine lv_iconst (v := 1) hx hb dX7_manyPulled_31 (by decide) ?_
            refine lv_goto (tgt := 36) hx hb dX7_manyPulled_32 (by decide) ?_
            refine lv_iadd hx hb dX7_manyPulled_36 ?_
            refine lv_istore_n (lv' := [(2, .int (x2_4 + 1)), (0, .ref (a 0)), (1, .int x1_4), (3, .int x3_4)]) hx hb dX7_manyPulled_37 rfl hl (by decide) rfl (fun ls hl => ?_)
            refine lv_iinc (v := (x3_4 + 1)) (lv' := [(3, .int (x3_4 + 1)), (2, .int (x2_4 + 1)), (0, .ref (a 0)), (1, .int x1_4)]) hx hb dX7_manyPulled_38 hl (k := 3) rfl (by rfl) (by decide) rfl (fun ls hl => ?_)
            refine lv_goto (tgt := 4) hx hb dX7_manyPulled_41 (by decide) ?_
            exact ih K_4 x1_4 (x2_4 + 1) (x3_4 + 1) _ _ _ ls hf hP hS (lv_sub hl [2, 3, 1, 0] rfl) hk
  obtain ⟨u_6, h_7, hf⟩ := ob hf
  refine hL_4 FUEL K x1 0 0 u_6 _ _ ls h_7 hP hS (lv_sub hl [2, 3, 1, 0] rfl) (fun H locs ls hP hS hl => ?_)
  clear hL_4
  refine lv_iload_n hx hb dX7_manyPulled_44 rfl (lv_at hl 0 rfl) ?_
  exact rd_i F (Option.some.inj hf) hS dX7_manyPulled_45
def X7_barred (K : SMod) (x1 : Int32) (x2 : Int32) : Option (SMod × Int32) := (if x1 = ((K.1 0) (Int32.toNatClampNeg 150)) then some (K, 1) else ((X7_looks K (-1000004)).bind fun u_2 => (if ¬ (x1 < 0 ∨ 12 ≤ Int32.toNatClampNeg x1) then ((X7_pulled u_2 ((u_2.1 4) (Int32.toNatClampNeg x1)) x1).bind fun u_5 => (if u_5 < 0 then ((X7_manyPulled u_2 x1).bind fun u_8 => (if u_8 < ((u_2.1 0) (Int32.toNatClampNeg 155)) then some (u_2, 0) else some (u_2, 3))) else (if (u_5 ^^^ ((u_2.1 5) (Int32.toNatClampNeg x1))) = x2 then ((X7_manyPulled u_2 x1).bind fun u_12 => (if u_12 < ((u_2.1 0) (Int32.toNatClampNeg 155)) then some (u_2, 0) else some (u_2, 3))) else some (u_2, 2)))) else none)))
abbrev rm_X7_barred : Room := { frames := 2, cells := 0, slots := 0, locals := 48 }
set_option maxHeartbeats 4000000 in
set_option maxRecDepth 100000 in
theorem c_X7_barred (l : Launch) (D : va_G) (cI cP : ClassId) (a : Nat → Nat) (K : SMod) (x1 : Int32) (x2 : Int32) (z : SMod × Int32) (hf : X7_barred K x1 x2 = some z) : MWi l yX7_barred cX7_barred 4 (some .int) rm_X7_barred D cI cP [.ref (a 0), .int x1, .int x2] (wMod cI a K) (wMod cI a z.1) z.2 := by
  refine MWi.of (by decide +kernel) (Nat.le_of_ble_eq_true rfl) ?_
  intro p e s m args below meth c ls A F hX hP hD hA hS hl
  have F : Fx p s m args meth c RX7 cX7_barred 4 (some .int) := F
  have hx := F.1
  have hb := F.2.1
  have hown := F.2.2.2.1
  have hts := F.2.2.2.2.1
  have hl : lv_has ls 4 [(0, .ref (a 0)), (1, .int x1), (2, .int x2)] := hl
  unfold X7_barred at hf
  refine lv_iload_n hx hb dX7_barred_0 rfl (lv_at hl 1 rfl) ?_
  refine lv_aload_n hx hb dX7_barred_1 rfl (lv_at hl 0 rfl) ?_
  refine gX7_7 F hX hP 0 rfl (v := .ref (a 1)) rfl dX7_barred_2 ?_
  refine lv_sipush (v := 150) hx hb dX7_barred_5 (by decide) ?_
  refine va_iald hx hb hX.1 hP 1 0 (n := 156) (f := (K.1 0)) rfl rfl (by decide : ¬ ((150 : Int32) < 0 ∨ 156 ≤ Int32.toNatClampNeg 150)) dX7_barred_8 ?_
  refine lv_icmp_ne (tgt := 14) hx hb dX7_barred_9 (by decide) (fun c_1 => ?_) (fun c_1 => ?_)
  · replace hf := (if_neg c_1).symm.trans hf
    refine lv_aload_n hx hb dX7_barred_14 rfl (lv_at hl 0 rfl) ?_
    refine lv_ldc (v := (-1000004)) hx hb hown (hts _ q_838) dX7_barred_15 ?_
    obtain ⟨u_2, h_3, hf⟩ := ob hf
    refine k_wv (runV F wdX7_71 (rm := rm_X7_looks) (As := [.int (-1000004)]) (rest := []) ⟨rfl, rfl⟩ ⟨Nat.le_of_ble_eq_true rfl, Nat.le_of_ble_eq_true rfl⟩ hl.1 rfl rfl (Nat.le_of_ble_eq_true rfl) dX7_barred_17 ⟨Nat.zero_le _, Nat.zero_le _⟩) (c_X7_looks l D cI cP a K (-1000004) _ h_3) hX (va_recv hX.1 hP (ci := 7) (q0 := 0) rfl rfl) (Cut.all rfl) hP hD hS hA (fun H locs hP hD hS => ?_)
    have hP : va_P D vwCl (wMod cI a u_2) H := hP
    have hD : va_D A (wMod cI a u_2) := hD
    refine lv_aload_n hx hb dX7_barred_20 rfl (lv_at hl 0 rfl) ?_
    refine lv_aload_n hx hb dX7_barred_21 rfl (lv_at hl 0 rfl) ?_
    refine gX7_22 F hX hP 0 rfl (v := .ref (a 5)) rfl dX7_barred_22 ?_
    refine lv_iload_n hx hb dX7_barred_25 rfl (lv_at hl 1 rfl) ?_
    have g_4 := og hf
    replace hf := (if_pos g_4).symm.trans hf
    refine va_iald hx hb hX.1 hP 5 0 (n := 12) (f := (u_2.1 4)) rfl rfl g_4 dX7_barred_26 ?_
    refine lv_iload_n hx hb dX7_barred_27 rfl (lv_at hl 1 rfl) ?_
    obtain ⟨u_5, h_6, hf⟩ := ob hf
    refine k_rd (runV F wdX7_64 (rm := rm_X7_pulled) (As := [.int ((u_2.1 4) (Int32.toNatClampNeg x1)), .int x1]) (rest := []) ⟨rfl, rfl⟩ ⟨Nat.le_of_ble_eq_true rfl, Nat.le_of_ble_eq_true rfl⟩ hl.1 rfl rfl (Nat.le_of_ble_eq_true rfl) dX7_barred_28 ⟨Nat.zero_le _, Nat.zero_le _⟩) (c_X7_pulled l D cI cP a u_2 ((u_2.1 4) (Int32.toNatClampNeg x1)) x1 _ h_6) hX (va_recv hX.1 hP (ci := 7) (q0 := 0) rfl rfl) hP hP hS hA (fun H locs hP hS => ?_)
    refine lv_istore_n (lv' := [(3, .int u_5), (0, .ref (a 0)), (1, .int x1), (2, .int x2)]) hx hb dX7_barred_31 rfl hl (by decide) rfl (fun ls hl => ?_)
    refine lv_iload_n hx hb dX7_barred_32 rfl (lv_at hl 0 rfl) ?_
    refine lv_if_lt (tgt := 52) hx hb dX7_barred_33 (by decide) (fun c_7 => ?_) (fun c_7 => ?_)
    · replace hf := (if_pos c_7).symm.trans hf
      refine lv_aload_n hx hb dX7_barred_52 rfl (lv_at hl 1 rfl) ?_
      refine lv_iload_n hx hb dX7_barred_53 rfl (lv_at hl 2 rfl) ?_
      obtain ⟨u_8, h_9, hf⟩ := ob hf
      refine k_rd (runV F wdX7_111 (rm := rm_X7_manyPulled) (As := [.int x1]) (rest := []) ⟨rfl, rfl⟩ ⟨Nat.le_of_ble_eq_true rfl, Nat.le_of_ble_eq_true rfl⟩ hl.1 rfl rfl (Nat.le_of_ble_eq_true rfl) dX7_barred_54 ⟨Nat.zero_le _, Nat.zero_le _⟩) (c_X7_manyPulled l D cI cP a u_2 x1 _ h_9) hX (va_recv hX.1 hP (ci := 7) (q0 := 0) rfl rfl) hP hP hS hA (fun H locs hP hS => ?_)
      refine lv_aload_n hx hb dX7_barred_57 rfl (lv_at hl 1 rfl) ?_
      refine gX7_7 F hX hP 0 rfl (v := .ref (a 1)) rfl dX7_barred_58 ?_
      refine lv_sipush (v := 155) hx hb dX7_barred_61 (by decide) ?_
      refine va_iald hx hb hX.1 hP 1 0 (n := 156) (f := (u_2.1 0)) rfl rfl (by decide : ¬ ((155 : Int32) < 0 ∨ 156 ≤ Int32.toNatClampNeg 155)) dX7_barred_64 ?_
      refine lv_icmp_lt (tgt := 72) hx hb dX7_barred_65 (by decide) (fun c_10 => ?_) (fun c_10 => ?_)
      · replace hf := (if_pos c_10).symm.trans hf
        refine lv_iconst (v := 0) hx hb dX7_barred_72 (by decide) ?_
        obtain rfl := (Option.some.inj hf)
        exact wr_i F rfl hP hS dX7_barred_73
      · replace hf := (if_neg c_10).symm.trans hf
        refine lv_iconst (v := 3) hx hb dX7_barred_68 (by decide) ?_
        refine lv_goto (tgt := 73) hx hb dX7_barred_69 (by decide) ?_
        obtain rfl := (Option.some.inj hf)
        exact wr_i F rfl hP hS dX7_barred_73
    · replace hf := (if_neg c_7).symm.trans hf
      refine lv_iload_n hx hb dX7_barred_36 rfl (lv_at hl 0 rfl) ?_
      refine lv_aload_n hx hb dX7_barred_37 rfl (lv_at hl 1 rfl) ?_
      refine gX7_25 F hX hP 0 rfl (v := .ref (a 6)) rfl dX7_barred_38 ?_
      refine lv_iload_n hx hb dX7_barred_41 rfl (lv_at hl 2 rfl) ?_
      refine va_iald hx hb hX.1 hP 6 0 (n := 12) (f := (u_2.1 5)) rfl rfl g_4 dX7_barred_42 ?_
      refine lv_ixor hx hb dX7_barred_43 ?_
      refine lv_iload_n hx hb dX7_barred_44 rfl (lv_at hl 3 rfl) ?_
      refine lv_icmp_eq (tgt := 52) hx hb dX7_barred_45 (by decide) (fun c_11 => ?_) (fun c_11 => ?_)
      · replace hf := (if_pos c_11).symm.trans hf
        refine lv_aload_n hx hb dX7_barred_52 rfl (lv_at hl 1 rfl) ?_
        refine lv_iload_n hx hb dX7_barred_53 rfl (lv_at hl 2 rfl) ?_
        obtain ⟨u_12, h_13, hf⟩ := ob hf
        refine k_rd (runV F wdX7_111 (rm := rm_X7_manyPulled) (As := [.int x1]) (rest := []) ⟨rfl, rfl⟩ ⟨Nat.le_of_ble_eq_true rfl, Nat.le_of_ble_eq_true rfl⟩ hl.1 rfl rfl (Nat.le_of_ble_eq_true rfl) dX7_barred_54 ⟨Nat.zero_le _, Nat.zero_le _⟩) (c_X7_manyPulled l D cI cP a u_2 x1 _ h_13) hX (va_recv hX.1 hP (ci := 7) (q0 := 0) rfl rfl) hP hP hS hA (fun H locs hP hS => ?_)
        refine lv_aload_n hx hb dX7_barred_57 rfl (lv_at hl 1 rfl) ?_
        refine gX7_7 F hX hP 0 rfl (v := .ref (a 1)) rfl dX7_barred_58 ?_
        refine lv_sipush (v := 155) hx hb dX7_barred_61 (by decide) ?_
        refine va_iald hx hb hX.1 hP 1 0 (n := 156) (f := (u_2.1 0)) rfl rfl (by decide : ¬ ((155 : Int32) < 0 ∨ 156 ≤ Int32.toNatClampNeg 155)) dX7_barred_64 ?_
        refine lv_icmp_lt (tgt := 72) hx hb dX7_barred_65 (by decide) (fun c_14 => ?_) (fun c_14 => ?_)
        · replace hf := (if_pos c_14).symm.trans hf
          refine lv_iconst (v := 0) hx hb dX7_barred_72 (by decide) ?_
          obtain rfl := (Option.some.inj hf)
          exact wr_i F rfl hP hS dX7_barred_73
        · replace hf := (if_neg c_14).symm.trans hf
          refine lv_iconst (v := 3) hx hb dX7_barred_68 (by decide) ?_
          refine lv_goto (tgt := 73) hx hb dX7_barred_69 (by decide) ?_
          obtain rfl := (Option.some.inj hf)
          exact wr_i F rfl hP hS dX7_barred_73
      · replace hf := (if_neg c_11).symm.trans hf
        refine lv_iconst (v := 2) hx hb dX7_barred_48 (by decide) ?_
        refine lv_goto (tgt := 73) hx hb dX7_barred_49 (by decide) ?_
        obtain rfl := (Option.some.inj hf)
        exact wr_i F rfl hP hS dX7_barred_73
  · replace hf := (if_pos c_1).symm.trans hf
    refine lv_iconst (v := 1) hx hb dX7_barred_12 (by decide) ?_
    obtain rfl := (Option.some.inj hf)
    exact wr_i F rfl hP hS dX7_barred_13
def X7_whyPull (K : SMod) (x1 : Int32) (x2 : Int32) : Option (SMod × Int32) := ((X7_isPuppet K x1).bind fun u_1 => (if u_1 = 0 then some (K, (-1000001)) else (if (X7_in x2 0 1) = 0 then some (K, (-1000001)) else ((X7_barred K x1 x2).bind fun u_5 => some (u_5.1, u_5.2)))))
abbrev rm_X7_whyPull : Room := { frames := 3, cells := 0, slots := 0, locals := 71 }
set_option maxHeartbeats 4000000 in
set_option maxRecDepth 100000 in
theorem c_X7_whyPull (l : Launch) (D : va_G) (cI cP : ClassId) (a : Nat → Nat) (K : SMod) (x1 : Int32) (x2 : Int32) (z : SMod × Int32) (hf : X7_whyPull K x1 x2 = some z) : MWi l yX7_whyPull cX7_whyPull 3 (some .int) rm_X7_whyPull D cI cP [.ref (a 0), .int x1, .int x2] (wMod cI a K) (wMod cI a z.1) z.2 := by
  refine MWi.of (by decide +kernel) (Nat.le_of_ble_eq_true rfl) ?_
  intro p e s m args below meth c ls A F hX hP hD hA hS hl
  have F : Fx p s m args meth c RX7 cX7_whyPull 3 (some .int) := F
  have hx := F.1
  have hb := F.2.1
  have hown := F.2.2.2.1
  have hts := F.2.2.2.2.1
  have hl : lv_has ls 3 [(0, .ref (a 0)), (1, .int x1), (2, .int x2)] := hl
  unfold X7_whyPull at hf
  refine lv_aload_n hx hb dX7_whyPull_0 rfl (lv_at hl 0 rfl) ?_
  refine lv_iload_n hx hb dX7_whyPull_1 rfl (lv_at hl 1 rfl) ?_
  obtain ⟨u_1, h_2, hf⟩ := ob hf
  refine k_rd (runV F wdX7_49 (rm := rm_X7_isPuppet) (As := [.int x1]) (rest := []) ⟨rfl, rfl⟩ ⟨Nat.le_of_ble_eq_true rfl, Nat.le_of_ble_eq_true rfl⟩ hl.1 rfl rfl (Nat.le_of_ble_eq_true rfl) dX7_whyPull_2 ⟨Nat.zero_le _, Nat.zero_le _⟩) (c_X7_isPuppet l D cI cP a K x1 _ h_2) hX (va_recv hX.1 hP (ci := 7) (q0 := 0) rfl rfl) hP hP hS hA (fun H locs hP hS => ?_)
  refine lv_if_eq (tgt := 26) hx hb dX7_whyPull_5 (by decide) (fun c_3 => ?_) (fun c_3 => ?_)
  · replace hf := (if_pos c_3).symm.trans hf
    refine lv_ldc (v := (-1000001)) hx hb hown (hts _ q_855) dX7_whyPull_26 ?_
    obtain rfl := (Option.some.inj hf)
    exact wr_i F rfl hP hS dX7_whyPull_28
  · replace hf := (if_neg c_3).symm.trans hf
    refine lv_iload_n hx hb dX7_whyPull_8 rfl (lv_at hl 2 rfl) ?_
    refine lv_iconst (v := 0) hx hb dX7_whyPull_9 (by decide) ?_
    refine lv_iconst (v := 1) hx hb dX7_whyPull_10 (by decide) ?_
    refine k_rd (runS F wdX7_45 (rm := rm_X7_in) (As := [.int x2, .int 0, .int 1]) (rest := []) ⟨rfl, rfl⟩ ⟨Nat.le_of_ble_eq_true rfl, Nat.le_of_ble_eq_true rfl⟩ hl.1 rfl rfl (Nat.le_of_ble_eq_true rfl) dX7_whyPull_11 ⟨Nat.zero_le _, Nat.zero_le _⟩) (c_X7_in l D cI cP x2 0 1 _ rfl) hX trivial vP_nil hP hS hA (fun H locs hP hS => ?_)
    refine lv_if_eq (tgt := 26) hx hb dX7_whyPull_14 (by decide) (fun c_4 => ?_) (fun c_4 => ?_)
    · replace hf := (if_pos c_4).symm.trans hf
      refine lv_ldc (v := (-1000001)) hx hb hown (hts _ q_855) dX7_whyPull_26 ?_
      obtain rfl := (Option.some.inj hf)
      exact wr_i F rfl hP hS dX7_whyPull_28
    · replace hf := (if_neg c_4).symm.trans hf
      refine lv_aload_n hx hb dX7_whyPull_17 rfl (lv_at hl 0 rfl) ?_
      refine lv_iload_n hx hb dX7_whyPull_18 rfl (lv_at hl 1 rfl) ?_
      refine lv_iload_n hx hb dX7_whyPull_19 rfl (lv_at hl 2 rfl) ?_
      obtain ⟨u_5, h_6, hf⟩ := ob hf
      refine k_wi (runV F wdX7_114 (rm := rm_X7_barred) (As := [.int x1, .int x2]) (rest := []) ⟨rfl, rfl⟩ ⟨Nat.le_of_ble_eq_true rfl, Nat.le_of_ble_eq_true rfl⟩ hl.1 rfl rfl (Nat.le_of_ble_eq_true rfl) dX7_whyPull_20 ⟨Nat.zero_le _, Nat.zero_le _⟩) (c_X7_barred l D cI cP a K x1 x2 _ h_6) hX (va_recv hX.1 hP (ci := 7) (q0 := 0) rfl rfl) (Cut.all rfl) hP hD hS hA (fun H locs hP hD hS => ?_)
      have hP : va_P D vwCl (wMod cI a u_5.1) H := hP
      have hD : va_D A (wMod cI a u_5.1) := hD
      refine lv_goto (tgt := 28) hx hb dX7_whyPull_23 (by decide) ?_
      obtain rfl := (Option.some.inj hf)
      exact wr_i F rfl hP hS dX7_whyPull_28
def X7_pull (K : SMod) (x1 : Int32) (x2 : Int32) : Option (SMod × Int32) := ((X7_isPuppet K x1).bind fun u_1 => (if u_1 = 0 then some (K, (-1000001)) else (if (X7_in x2 0 1) = 0 then some (K, (-1000001)) else ((X7_barred K x1 x2).bind fun u_5 => (if u_5.2 ≤ 0 then ((X7_changes u_5.1).bind fun u_8 => (if ¬ (((3 * x1) + 2) < 0 ∨ 156 ≤ Int32.toNatClampNeg ((3 * x1) + 2)) then (bnd ((up u_8.1 0 (upd (u_8.1 0) (Int32.toNatClampNeg ((3 * x1) + 2)) (x2 + 1))), u_8.2) fun M_11 => ((X7_yesNow M_11).bind fun u_13 => some (u_13.1, u_13.2))) else none)) else some (u_5.1, (-1000002)))))))
abbrev rm_X7_pull : Room := { frames := 4, cells := 0, slots := 0, locals := 90 }
set_option maxHeartbeats 4000000 in
set_option maxRecDepth 100000 in
theorem c_X7_pull (l : Launch) (D : va_G) (cI cP : ClassId) (a : Nat → Nat) (K : SMod) (x1 : Int32) (x2 : Int32) (z : SMod × Int32) (hf : X7_pull K x1 x2 = some z) : MWi l yX7_pull cX7_pull 3 (some .int) rm_X7_pull D cI cP [.ref (a 0), .int x1, .int x2] (wMod cI a K) (wMod cI a z.1) z.2 := by
  refine MWi.of (by decide +kernel) (Nat.le_of_ble_eq_true rfl) ?_
  intro p e s m args below meth c ls A F hX hP hD hA hS hl
  have F : Fx p s m args meth c RX7 cX7_pull 3 (some .int) := F
  have hx := F.1
  have hb := F.2.1
  have hown := F.2.2.2.1
  have hts := F.2.2.2.2.1
  have hl : lv_has ls 3 [(0, .ref (a 0)), (1, .int x1), (2, .int x2)] := hl
  unfold X7_pull at hf
  refine lv_aload_n hx hb dX7_pull_0 rfl (lv_at hl 0 rfl) ?_
  refine lv_iload_n hx hb dX7_pull_1 rfl (lv_at hl 1 rfl) ?_
  obtain ⟨u_1, h_2, hf⟩ := ob hf
  refine k_rd (runV F wdX7_49 (rm := rm_X7_isPuppet) (As := [.int x1]) (rest := []) ⟨rfl, rfl⟩ ⟨Nat.le_of_ble_eq_true rfl, Nat.le_of_ble_eq_true rfl⟩ hl.1 rfl rfl (Nat.le_of_ble_eq_true rfl) dX7_pull_2 ⟨Nat.zero_le _, Nat.zero_le _⟩) (c_X7_isPuppet l D cI cP a K x1 _ h_2) hX (va_recv hX.1 hP (ci := 7) (q0 := 0) rfl rfl) hP hP hS hA (fun H locs hP hS => ?_)
  refine lv_if_eq (tgt := 17) hx hb dX7_pull_5 (by decide) (fun c_3 => ?_) (fun c_3 => ?_)
  · replace hf := (if_pos c_3).symm.trans hf
    refine lv_ldc (v := (-1000001)) hx hb hown (hts _ q_855) dX7_pull_17 ?_
    obtain rfl := (Option.some.inj hf)
    exact wr_i F rfl hP hS dX7_pull_19
  · replace hf := (if_neg c_3).symm.trans hf
    refine lv_iload_n hx hb dX7_pull_8 rfl (lv_at hl 2 rfl) ?_
    refine lv_iconst (v := 0) hx hb dX7_pull_9 (by decide) ?_
    refine lv_iconst (v := 1) hx hb dX7_pull_10 (by decide) ?_
    refine k_rd (runS F wdX7_45 (rm := rm_X7_in) (As := [.int x2, .int 0, .int 1]) (rest := []) ⟨rfl, rfl⟩ ⟨Nat.le_of_ble_eq_true rfl, Nat.le_of_ble_eq_true rfl⟩ hl.1 rfl rfl (Nat.le_of_ble_eq_true rfl) dX7_pull_11 ⟨Nat.zero_le _, Nat.zero_le _⟩) (c_X7_in l D cI cP x2 0 1 _ rfl) hX trivial vP_nil hP hS hA (fun H locs hP hS => ?_)
    refine lv_if_ne (tgt := 20) hx hb dX7_pull_14 (by decide) (fun c_4 => ?_) (fun c_4 => ?_)
    · replace hf := (if_neg c_4).symm.trans hf
      refine lv_aload_n hx hb dX7_pull_20 rfl (lv_at hl 0 rfl) ?_
      refine lv_iload_n hx hb dX7_pull_21 rfl (lv_at hl 1 rfl) ?_
      refine lv_iload_n hx hb dX7_pull_22 rfl (lv_at hl 2 rfl) ?_
      obtain ⟨u_5, h_6, hf⟩ := ob hf
      refine k_wi (runV F wdX7_114 (rm := rm_X7_barred) (As := [.int x1, .int x2]) (rest := []) ⟨rfl, rfl⟩ ⟨Nat.le_of_ble_eq_true rfl, Nat.le_of_ble_eq_true rfl⟩ hl.1 rfl rfl (Nat.le_of_ble_eq_true rfl) dX7_pull_23 ⟨Nat.zero_le _, Nat.zero_le _⟩) (c_X7_barred l D cI cP a K x1 x2 _ h_6) hX (va_recv hX.1 hP (ci := 7) (q0 := 0) rfl rfl) (Cut.all rfl) hP hD hS hA (fun H locs hP hD hS => ?_)
      have hP : va_P D vwCl (wMod cI a u_5.1) H := hP
      have hD : va_D A (wMod cI a u_5.1) := hD
      refine lv_if_le (tgt := 32) hx hb dX7_pull_26 (by decide) (fun c_7 => ?_) (fun c_7 => ?_)
      · replace hf := (if_pos c_7).symm.trans hf
        refine lv_aload_n hx hb dX7_pull_32 rfl (lv_at hl 0 rfl) ?_
        obtain ⟨u_8, h_9, hf⟩ := ob hf
        refine k_wv (runV F wdX7_98 (rm := rm_X7_changes) (As := []) (rest := []) ⟨rfl, rfl⟩ ⟨Nat.le_of_ble_eq_true rfl, Nat.le_of_ble_eq_true rfl⟩ hl.1 rfl rfl (Nat.le_of_ble_eq_true rfl) dX7_pull_33 ⟨Nat.zero_le _, Nat.zero_le _⟩) (c_X7_changes l D cI cP a u_5.1  _ h_9) hX (va_recv hX.1 hP (ci := 7) (q0 := 0) rfl rfl) (Cut.all rfl) hP hD hS hA (fun H locs hP hD hS => ?_)
        have hP : va_P D vwCl (wMod cI a u_8) H := hP
        have hD : va_D A (wMod cI a u_8) := hD
        refine lv_aload_n hx hb dX7_pull_36 rfl (lv_at hl 0 rfl) ?_
        refine gX7_7 F hX hP 0 rfl (v := .ref (a 1)) rfl dX7_pull_37 ?_
        refine lv_iconst (v := 3) hx hb dX7_pull_40 (by decide) ?_
        refine lv_iload_n hx hb dX7_pull_41 rfl (lv_at hl 1 rfl) ?_
        refine lv_imul hx hb dX7_pull_42 ?_
        refine lv_iconst (v := 2) hx hb dX7_pull_43 (by decide) ?_
        refine lv_iadd hx hb dX7_pull_44 ?_
        refine lv_iload_n hx hb dX7_pull_45 rfl (lv_at hl 2 rfl) ?_
        refine lv_iconst (v := 1) hx hb dX7_pull_46 (by decide) ?_
        refine lv_iadd hx hb dX7_pull_47 ?_
        have g_10 := og hf
        replace hf := (if_pos g_10).symm.trans hf
        refine va_iast hx hb hX.1 hP hD hS 1 0 (n := 156) (f := (u_8.1 0)) rfl rfl g_10 dX7_pull_48 (fun H locs hP hD hS => ?_)
        obtain ⟨M_11, e_12, hf⟩ := bnd_e hf
        have hP : va_P D vwCl (wMod cI a M_11) H := by rw [e_12]; exact hP
        have hD : va_D A (wMod cI a M_11) := by rw [e_12]; exact hD
        clear e_12
        refine lv_aload_n hx hb dX7_pull_49 rfl (lv_at hl 0 rfl) ?_
        obtain ⟨u_13, h_14, hf⟩ := ob hf
        refine k_wi (runV F wdX7_79 (rm := rm_X7_yesNow) (As := []) (rest := []) ⟨rfl, rfl⟩ ⟨Nat.le_of_ble_eq_true rfl, Nat.le_of_ble_eq_true rfl⟩ hl.1 rfl rfl (Nat.le_of_ble_eq_true rfl) dX7_pull_50 ⟨Nat.zero_le _, Nat.zero_le _⟩) (c_X7_yesNow l D cI cP a M_11  _ h_14) hX (va_recv hX.1 hP (ci := 7) (q0 := 0) rfl rfl) (Cut.all rfl) hP hD hS hA (fun H locs hP hD hS => ?_)
        have hP : va_P D vwCl (wMod cI a u_13.1) H := hP
        have hD : va_D A (wMod cI a u_13.1) := hD
        obtain rfl := (Option.some.inj hf)
        exact wr_i F rfl hP hS dX7_pull_53
      · replace hf := (if_neg c_7).symm.trans hf
        refine lv_ldc (v := (-1000002)) hx hb hown (hts _ q_869) dX7_pull_29 ?_
        obtain rfl := (Option.some.inj hf)
        exact wr_i F rfl hP hS dX7_pull_31
    · replace hf := (if_pos c_4).symm.trans hf
      refine lv_ldc (v := (-1000001)) hx hb hown (hts _ q_855) dX7_pull_17 ?_
      obtain rfl := (Option.some.inj hf)
      exact wr_i F rfl hP hS dX7_pull_19
def X7_release (K : SMod) (x1 : Int32) : Option (SMod × Int32) := ((X7_isPuppet K x1).bind fun u_1 => (if u_1 = 0 then some (K, (-1000001)) else ((X7_of K x1 2).bind fun u_4 => (if u_4 = 0 then some (K, (-1000002)) else ((X7_changes K).bind fun u_7 => ((X7_of u_7 x1 2).bind fun u_9 => (if ¬ (((3 * x1) + 2) < 0 ∨ 156 ≤ Int32.toNatClampNeg ((3 * x1) + 2)) then (bnd ((up u_7.1 0 (upd (u_7.1 0) (Int32.toNatClampNeg ((3 * x1) + 2)) 0)), u_7.2) fun M_12 => some (M_12, (u_9 - 1))) else none)))))))
abbrev rm_X7_release : Room := { frames := 2, cells := 0, slots := 0, locals := 43 }
set_option maxHeartbeats 4000000 in
set_option maxRecDepth 100000 in
theorem c_X7_release (l : Launch) (D : va_G) (cI cP : ClassId) (a : Nat → Nat) (K : SMod) (x1 : Int32) (z : SMod × Int32) (hf : X7_release K x1 = some z) : MWi l yX7_release cX7_release 3 (some .int) rm_X7_release D cI cP [.ref (a 0), .int x1] (wMod cI a K) (wMod cI a z.1) z.2 := by
  refine MWi.of (by decide +kernel) (Nat.le_of_ble_eq_true rfl) ?_
  intro p e s m args below meth c ls A F hX hP hD hA hS hl
  have F : Fx p s m args meth c RX7 cX7_release 3 (some .int) := F
  have hx := F.1
  have hb := F.2.1
  have hown := F.2.2.2.1
  have hts := F.2.2.2.2.1
  have hl : lv_has ls 3 [(0, .ref (a 0)), (1, .int x1)] := hl
  unfold X7_release at hf
  refine lv_aload_n hx hb dX7_release_0 rfl (lv_at hl 0 rfl) ?_
  refine lv_iload_n hx hb dX7_release_1 rfl (lv_at hl 1 rfl) ?_
  obtain ⟨u_1, h_2, hf⟩ := ob hf
  refine k_rd (runV F wdX7_49 (rm := rm_X7_isPuppet) (As := [.int x1]) (rest := []) ⟨rfl, rfl⟩ ⟨Nat.le_of_ble_eq_true rfl, Nat.le_of_ble_eq_true rfl⟩ hl.1 rfl rfl (Nat.le_of_ble_eq_true rfl) dX7_release_2 ⟨Nat.zero_le _, Nat.zero_le _⟩) (c_X7_isPuppet l D cI cP a K x1 _ h_2) hX (va_recv hX.1 hP (ci := 7) (q0 := 0) rfl rfl) hP hP hS hA (fun H locs hP hS => ?_)
  refine lv_if_ne (tgt := 11) hx hb dX7_release_5 (by decide) (fun c_3 => ?_) (fun c_3 => ?_)
  · replace hf := (if_neg c_3).symm.trans hf
    refine lv_aload_n hx hb dX7_release_11 rfl (lv_at hl 0 rfl) ?_
    refine lv_iload_n hx hb dX7_release_12 rfl (lv_at hl 1 rfl) ?_
    refine lv_iconst (v := 2) hx hb dX7_release_13 (by decide) ?_
    obtain ⟨u_4, h_5, hf⟩ := ob hf
    refine k_rd (runV F wdX7_61 (rm := rm_X7_of) (As := [.int x1, .int 2]) (rest := []) ⟨rfl, rfl⟩ ⟨Nat.le_of_ble_eq_true rfl, Nat.le_of_ble_eq_true rfl⟩ hl.1 rfl rfl (Nat.le_of_ble_eq_true rfl) dX7_release_14 ⟨Nat.zero_le _, Nat.zero_le _⟩) (c_X7_of l D cI cP a K x1 2 _ h_5) hX (va_recv hX.1 hP (ci := 7) (q0 := 0) rfl rfl) hP hP hS hA (fun H locs hP hS => ?_)
    refine lv_if_ne (tgt := 23) hx hb dX7_release_17 (by decide) (fun c_6 => ?_) (fun c_6 => ?_)
    · replace hf := (if_neg c_6).symm.trans hf
      refine lv_aload_n hx hb dX7_release_23 rfl (lv_at hl 0 rfl) ?_
      obtain ⟨u_7, h_8, hf⟩ := ob hf
      refine k_wv (runV F wdX7_98 (rm := rm_X7_changes) (As := []) (rest := []) ⟨rfl, rfl⟩ ⟨Nat.le_of_ble_eq_true rfl, Nat.le_of_ble_eq_true rfl⟩ hl.1 rfl rfl (Nat.le_of_ble_eq_true rfl) dX7_release_24 ⟨Nat.zero_le _, Nat.zero_le _⟩) (c_X7_changes l D cI cP a K  _ h_8) hX (va_recv hX.1 hP (ci := 7) (q0 := 0) rfl rfl) (Cut.all rfl) hP hD hS hA (fun H locs hP hD hS => ?_)
      have hP : va_P D vwCl (wMod cI a u_7) H := hP
      have hD : va_D A (wMod cI a u_7) := hD
      refine lv_aload_n hx hb dX7_release_27 rfl (lv_at hl 0 rfl) ?_
      refine lv_iload_n hx hb dX7_release_28 rfl (lv_at hl 1 rfl) ?_
      refine lv_iconst (v := 2) hx hb dX7_release_29 (by decide) ?_
      obtain ⟨u_9, h_10, hf⟩ := ob hf
      refine k_rd (runV F wdX7_61 (rm := rm_X7_of) (As := [.int x1, .int 2]) (rest := []) ⟨rfl, rfl⟩ ⟨Nat.le_of_ble_eq_true rfl, Nat.le_of_ble_eq_true rfl⟩ hl.1 rfl rfl (Nat.le_of_ble_eq_true rfl) dX7_release_30 ⟨Nat.zero_le _, Nat.zero_le _⟩) (c_X7_of l D cI cP a u_7 x1 2 _ h_10) hX (va_recv hX.1 hP (ci := 7) (q0 := 0) rfl rfl) hP hP hS hA (fun H locs hP hS => ?_)
      refine lv_iconst (v := 1) hx hb dX7_release_33 (by decide) ?_
      refine lv_isub hx hb dX7_release_34 ?_
      refine lv_istore_n (lv' := [(2, .int (u_9 - 1)), (0, .ref (a 0)), (1, .int x1)]) hx hb dX7_release_35 rfl hl (by decide) rfl (fun ls hl => ?_)
      refine lv_aload_n hx hb dX7_release_36 rfl (lv_at hl 1 rfl) ?_
      refine gX7_7 F hX hP 0 rfl (v := .ref (a 1)) rfl dX7_release_37 ?_
      refine lv_iconst (v := 3) hx hb dX7_release_40 (by decide) ?_
      refine lv_iload_n hx hb dX7_release_41 rfl (lv_at hl 2 rfl) ?_
      refine lv_imul hx hb dX7_release_42 ?_
      refine lv_iconst (v := 2) hx hb dX7_release_43 (by decide) ?_
      refine lv_iadd hx hb dX7_release_44 ?_
      refine lv_iconst (v := 0) hx hb dX7_release_45 (by decide) ?_
      have g_11 := og hf
      replace hf := (if_pos g_11).symm.trans hf
      refine va_iast hx hb hX.1 hP hD hS 1 0 (n := 156) (f := (u_7.1 0)) rfl rfl g_11 dX7_release_46 (fun H locs hP hD hS => ?_)
      obtain ⟨M_12, e_13, hf⟩ := bnd_e hf
      have hP : va_P D vwCl (wMod cI a M_12) H := by rw [e_13]; exact hP
      have hD : va_D A (wMod cI a M_12) := by rw [e_13]; exact hD
      clear e_13
      refine lv_iload_n hx hb dX7_release_47 rfl (lv_at hl 0 rfl) ?_
      obtain rfl := (Option.some.inj hf)
      exact wr_i F rfl hP hS dX7_release_48
    · replace hf := (if_pos c_6).symm.trans hf
      refine lv_ldc (v := (-1000002)) hx hb hown (hts _ q_869) dX7_release_20 ?_
      obtain rfl := (Option.some.inj hf)
      exact wr_i F rfl hP hS dX7_release_22
  · replace hf := (if_pos c_3).symm.trans hf
    refine lv_ldc (v := (-1000001)) hx hb hown (hts _ q_855) dX7_release_8 ?_
    obtain rfl := (Option.some.inj hf)
    exact wr_i F rfl hP hS dX7_release_10
def X7_session_L48 : Nat → SMod → Int32 → Int32 → Int32 → Option (SMod)
  | 0, _, _, _, _ => none
  | fu + 1, K_48, x1_48, x2_48, x3_48 => (if x3_48 < 4 then some K_48 else (if ¬ (((116 + x3_48) - 4) < 0 ∨ 156 ≤ Int32.toNatClampNeg ((116 + x3_48) - 4)) then (if ¬ ((116 + x3_48) < 0 ∨ 156 ≤ Int32.toNatClampNeg (116 + x3_48)) then (bnd ((up K_48.1 0 (upd (K_48.1 0) (Int32.toNatClampNeg (116 + x3_48)) ((K_48.1 0) (Int32.toNatClampNeg ((116 + x3_48) - 4))))), K_48.2) fun M_12 => X7_session_L48 fu M_12 x1_48 x2_48 (x3_48 + (-1))) else none) else none))
def X7_session_J107 (K_107 : SMod) (x1_107 : Int32) (t0_107 : Int32) (t1_107 : Int32) : Int32 := (if t0_107 = 0 then 0 else 1)
def X7_session_J150 (K_150 : SMod) (x1_150 : Int32) (t0_150 : Int32) (t1_150 : Int32) (t2_150 : Int32) (t3_150 : Int32) : Int32 := (if t0_150 ≤ t1_150 then 0 else 1)
def X7_session_J182 (K_182 : SMod) (x1_182 : Int32) (t0_182 : Int32) (t1_182 : Int32) (t2_182 : Int32) : Int32 := (if t0_182 = 0 then 0 else 1)
def X7_session_L221 : Nat → SMod → Int32 → Int32 → Option (SMod)
  | 0, _, _, _ => none
  | fu + 1, K_221, x1_221, x3_221 => (if ((K_221.1 0) (Int32.toNatClampNeg 148)) ≤ x3_221 then some K_221 else (if ¬ (((3 * x3_221) + 2) < 0 ∨ 156 ≤ Int32.toNatClampNeg ((3 * x3_221) + 2)) then (bnd ((up K_221.1 0 (upd (K_221.1 0) (Int32.toNatClampNeg ((3 * x3_221) + 2)) 0)), K_221.2) fun M_40 => X7_session_L221 fu M_40 x1_221 (x3_221 + 1)) else none))
def X7_session (K : SMod) : Option (SMod × Int32) := (if ((K.1 0) (Int32.toNatClampNeg 148)) = 0 then some (K, (-1000002)) else (if ((K.1 0) (Int32.toNatClampNeg 151)) = 999 then some (K, (-1000003)) else ((X7_changes K).bind fun u_3 => ((X7_isPassed u_3).bind fun u_5 => ((X7_votes u_5.1).bind fun u_7 => ((X7_session_L48 FUEL u_7.1 u_5.2 u_7.2 31).bind fun u_14 => (bnd ((up u_14.1 0 (upd (u_14.1 0) (Int32.toNatClampNeg 116) u_7.2)), u_14.2) fun M_16 => ((X7_seats M_16).bind fun u_18 => (bnd ((up M_16.1 0 (upd (M_16.1 0) (Int32.toNatClampNeg 117) (u_18 - u_7.2))), M_16.2) fun M_20 => (bnd ((up M_20.1 0 (upd (M_20.1 0) (Int32.toNatClampNeg 118) (X7_session_J107 M_20 u_5.2 u_5.2 118))), M_20.2) fun M_23 => (bnd ((up M_23.1 0 (upd (M_23.1 0) (Int32.toNatClampNeg 119) ((M_23.1 0) (Int32.toNatClampNeg 150)))), M_23.2) fun M_25 => (bnd ((up M_25.1 0 (upd (M_25.1 0) (Int32.toNatClampNeg 153) (((M_25.1 0) (Int32.toNatClampNeg 153)) + (X7_session_J150 M_25 u_5.2 8 ((M_25.1 0) (Int32.toNatClampNeg 153)) ((M_25.1 0) (Int32.toNatClampNeg 153)) 153)))), M_25.2) fun M_28 => (bnd ((up M_28.1 0 (upd (M_28.1 0) (Int32.toNatClampNeg 151) (((M_28.1 0) (Int32.toNatClampNeg 151)) + 1))), M_28.2) fun M_30 => (bnd ((up M_30.1 0 (upd (M_30.1 0) (Int32.toNatClampNeg 152) (((M_30.1 0) (Int32.toNatClampNeg 152)) + (X7_session_J182 M_30 u_5.2 u_5.2 ((M_30.1 0) (Int32.toNatClampNeg 152)) 152)))), M_30.2) fun M_33 => (if ¬ ((M_33.1 0) (Int32.toNatClampNeg 148)) = 0 then (bnd ((up M_33.1 0 (upd (M_33.1 0) (Int32.toNatClampNeg 150) ((((M_33.1 0) (Int32.toNatClampNeg 150)) + 1) - (((M_33.1 0) (Int32.toNatClampNeg 150)) + 1) / ((M_33.1 0) (Int32.toNatClampNeg 148)) * ((M_33.1 0) (Int32.toNatClampNeg 148))))), M_33.2) fun M_36 => ((X7_session_L221 FUEL M_36 u_5.2 0).bind fun u_42 => (if u_5.2 = 0 then some (u_42, 0) else some (u_42, 1)))) else none)))))))))))))))
abbrev rm_X7_session : Room := { frames := 5, cells := 0, slots := 0, locals := 112 }
set_option maxHeartbeats 4000000 in
set_option maxRecDepth 100000 in
theorem c_X7_session (l : Launch) (D : va_G) (cI cP : ClassId) (a : Nat → Nat) (K : SMod) (z : SMod × Int32) (hf : X7_session K  = some z) : MWi l yX7_session cX7_session 4 (some .int) rm_X7_session D cI cP [.ref (a 0)] (wMod cI a K) (wMod cI a z.1) z.2 := by
  refine MWi.of (by decide +kernel) (Nat.le_of_ble_eq_true rfl) ?_
  intro p e s m args below meth c ls A F hX hP hD hA hS hl
  have F : Fx p s m args meth c RX7 cX7_session 4 (some .int) := F
  have hx := F.1
  have hb := F.2.1
  have hown := F.2.2.2.1
  have hts := F.2.2.2.2.1
  have hl : lv_has ls 4 [(0, .ref (a 0))] := hl
  unfold X7_session at hf
  refine lv_aload_n hx hb dX7_session_0 rfl (lv_at hl 0 rfl) ?_
  refine gX7_7 F hX hP 0 rfl (v := .ref (a 1)) rfl dX7_session_1 ?_
  refine lv_sipush (v := 148) hx hb dX7_session_4 (by decide) ?_
  refine va_iald hx hb hX.1 hP 1 0 (n := 156) (f := (K.1 0)) rfl rfl (by decide : ¬ ((148 : Int32) < 0 ∨ 156 ≤ Int32.toNatClampNeg 148)) dX7_session_7 ?_
  refine lv_if_ne (tgt := 14) hx hb dX7_session_8 (by decide) (fun c_1 => ?_) (fun c_1 => ?_)
  · replace hf := (if_neg c_1).symm.trans hf
    refine lv_aload_n hx hb dX7_session_14 rfl (lv_at hl 0 rfl) ?_
    refine gX7_7 F hX hP 0 rfl (v := .ref (a 1)) rfl dX7_session_15 ?_
    refine lv_sipush (v := 151) hx hb dX7_session_18 (by decide) ?_
    refine va_iald hx hb hX.1 hP 1 0 (n := 156) (f := (K.1 0)) rfl rfl (by decide : ¬ ((151 : Int32) < 0 ∨ 156 ≤ Int32.toNatClampNeg 151)) dX7_session_21 ?_
    refine lv_sipush (v := 999) hx hb dX7_session_22 (by decide) ?_
    refine lv_icmp_ne (tgt := 31) hx hb dX7_session_25 (by decide) (fun c_2 => ?_) (fun c_2 => ?_)
    · replace hf := (if_neg c_2).symm.trans hf
      refine lv_aload_n hx hb dX7_session_31 rfl (lv_at hl 0 rfl) ?_
      obtain ⟨u_3, h_4, hf⟩ := ob hf
      refine k_wv (runV F wdX7_98 (rm := rm_X7_changes) (As := []) (rest := []) ⟨rfl, rfl⟩ ⟨Nat.le_of_ble_eq_true rfl, Nat.le_of_ble_eq_true rfl⟩ hl.1 rfl rfl (Nat.le_of_ble_eq_true rfl) dX7_session_32 ⟨Nat.zero_le _, Nat.zero_le _⟩) (c_X7_changes l D cI cP a K  _ h_4) hX (va_recv hX.1 hP (ci := 7) (q0 := 0) rfl rfl) (Cut.all rfl) hP hD hS hA (fun H locs hP hD hS => ?_)
      have hP : va_P D vwCl (wMod cI a u_3) H := hP
      have hD : va_D A (wMod cI a u_3) := hD
      refine lv_aload_n hx hb dX7_session_35 rfl (lv_at hl 0 rfl) ?_
      obtain ⟨u_5, h_6, hf⟩ := ob hf
      refine k_wi (runV F wdX7_117 (rm := rm_X7_isPassed) (As := []) (rest := []) ⟨rfl, rfl⟩ ⟨Nat.le_of_ble_eq_true rfl, Nat.le_of_ble_eq_true rfl⟩ hl.1 rfl rfl (Nat.le_of_ble_eq_true rfl) dX7_session_36 ⟨Nat.zero_le _, Nat.zero_le _⟩) (c_X7_isPassed l D cI cP a u_3  _ h_6) hX (va_recv hX.1 hP (ci := 7) (q0 := 0) rfl rfl) (Cut.all rfl) hP hD hS hA (fun H locs hP hD hS => ?_)
      have hP : va_P D vwCl (wMod cI a u_5.1) H := hP
      have hD : va_D A (wMod cI a u_5.1) := hD
      refine lv_istore_n (lv' := [(1, .int u_5.2), (0, .ref (a 0))]) hx hb dX7_session_39 rfl hl (by decide) rfl (fun ls hl => ?_)
      refine lv_aload_n hx hb dX7_session_40 rfl (lv_at hl 1 rfl) ?_
      obtain ⟨u_7, h_8, hf⟩ := ob hf
      refine k_wi (runV F wdX7_75 (rm := rm_X7_votes) (As := []) (rest := []) ⟨rfl, rfl⟩ ⟨Nat.le_of_ble_eq_true rfl, Nat.le_of_ble_eq_true rfl⟩ hl.1 rfl rfl (Nat.le_of_ble_eq_true rfl) dX7_session_41 ⟨Nat.zero_le _, Nat.zero_le _⟩) (c_X7_votes l D cI cP a u_5.1  _ h_8) hX (va_recv hX.1 hP (ci := 7) (q0 := 0) rfl rfl) (Cut.all rfl) hP hD hS hA (fun H locs hP hD hS => ?_)
      have hP : va_P D vwCl (wMod cI a u_7.1) H := hP
      have hD : va_D A (wMod cI a u_7.1) := hD
      refine lv_istore_n (lv' := [(2, .int u_7.2), (1, .int u_5.2), (0, .ref (a 0))]) hx hb dX7_session_44 rfl hl (by decide) rfl (fun ls hl => ?_)
      refine lv_bipush (v := 31) hx hb dX7_session_45 (by decide) ?_
      refine lv_istore_n (lv' := [(3, .int 31), (2, .int u_7.2), (1, .int u_5.2), (0, .ref (a 0))]) hx hb dX7_session_47 rfl hl (by decide) rfl (fun ls hl => ?_)
      have hL_48 : ∀ (fu : Nat) (K_48 : SMod) (x1_48 : Int32) (x2_48 : Int32) (x3_48 : Int32) (v : SMod) (H : Heap) (locs : List Loc) (ls : Array Slot), X7_session_L48 fu K_48 x1_48 x2_48 x3_48 = some v → va_P D vwCl (wMod cI a K_48) H → va_D A (wMod cI a K_48) → va_S A s.heap H locs → lv_has ls 4 [(0, .ref (a 0)), (1, .int x1_48), (2, .int x2_48), (3, .int x3_48)] → (∀ (H : Heap) (locs : List Loc) (ls : Array Slot), va_P D vwCl (wMod cI a v) H → va_D A (wMod cI a v) → va_S A s.heap H locs → lv_has ls 4 [(0, .ref (a 0)), (1, .int x1_48), (2, .int x2_48)] → W p l e rm_X7_session s m args below meth c H locs 0 0 (QWi D below args s A (wMod cI a z.1) z.2) (F0 m 79 ls [])) → W p l e rm_X7_session s m args below meth c H locs 0 0 (QWi D below args s A (wMod cI a z.1) z.2) (F0 m 48 ls []) := by
        intro fu
        induction fu with
        | zero =>
          intro K_48 x1_48 x2_48 x3_48 v H locs ls hf
          exact absurd hf (by simp [X7_session_L48])
        | succ fu ih =>
          intro K_48 x1_48 x2_48 x3_48 v _ _ ls hf hP hD hS hl hk
          rw [X7_session_L48] at hf
          refine lv_iload_n hx hb dX7_session_48 rfl (lv_at hl 3 rfl) ?_
          refine lv_iconst (v := 4) hx hb dX7_session_49 (by decide) ?_
          refine lv_icmp_lt (tgt := 79) hx hb dX7_session_50 (by decide) (fun c_9 => ?_) (fun c_9 => ?_)
          · replace hf := (if_pos c_9).symm.trans hf
            obtain rfl := Option.some.inj hf
            exact hk _ _ ls hP hD hS (lv_sub hl [0, 1, 2] rfl)
          · replace hf := (if_neg c_9).symm.trans hf
            refine lv_aload_n hx hb dX7_session_53 rfl (lv_at hl 0 rfl) ?_
            refine gX7_7 F hX hP 0 rfl (v := .ref (a 1)) rfl dX7_session_54 ?_
            refine lv_bipush (v := 116) hx hb dX7_session_57 (by decide) ?_
            refine lv_iload_n hx hb dX7_session_59 rfl (lv_at hl 3 rfl) ?_
            refine lv_iadd hx hb dX7_session_60 ?_
            refine lv_aload_n hx hb dX7_session_61 rfl (lv_at hl 0 rfl) ?_
            refine gX7_7 F hX hP 0 rfl (v := .ref (a 1)) rfl dX7_session_62 ?_
            refine lv_bipush (v := 116) hx hb dX7_session_65 (by decide) ?_
            refine lv_iload_n hx hb dX7_session_67 rfl (lv_at hl 3 rfl) ?_
            refine lv_iadd hx hb dX7_session_68 ?_
            refine lv_iconst (v := 4) hx hb dX7_session_69 (by decide) ?_
            refine lv_isub hx hb dX7_session_70 ?_
            have g_10 := og hf
            replace hf := (if_pos g_10).symm.trans hf
            refine va_iald hx hb hX.1 hP 1 0 (n := 156) (f := (K_48.1 0)) rfl rfl g_10 dX7_session_71 ?_
            have g_11 := og hf
            replace hf := (if_pos g_11).symm.trans hf
            refine va_iast hx hb hX.1 hP hD hS 1 0 (n := 156) (f := (K_48.1 0)) rfl rfl g_11 dX7_session_72 (fun H locs hP hD hS => ?_)
            obtain ⟨M_12, e_13, hf⟩ := bnd_e hf
            have hP : va_P D vwCl (wMod cI a M_12) H := by rw [e_13]; exact hP
            have hD : va_D A (wMod cI a M_12) := by rw [e_13]; exact hD
            clear e_13
            refine lv_iinc (v := (x3_48 + (-1))) (lv' := [(3, .int (x3_48 + (-1))), (0, .ref (a 0)), (1, .int x1_48), (2, .int x2_48)]) hx hb dX7_session_73 hl (k := 3) rfl (by rfl) (by decide) rfl (fun ls hl => ?_)
            refine lv_goto (tgt := 48) hx hb dX7_session_76 (by decide) ?_
            exact ih M_12 x1_48 x2_48 (x3_48 + (-1)) _ _ _ ls hf hP hD hS (lv_sub hl [1, 2, 3, 0] rfl) hk
      obtain ⟨u_14, h_15, hf⟩ := ob hf
      refine hL_48 FUEL u_7.1 u_5.2 u_7.2 31 u_14 _ _ ls h_15 hP hD hS (lv_sub hl [3, 2, 1, 0] rfl) (fun H locs ls hP hD hS hl => ?_)
      clear hL_48
      refine lv_aload_n hx hb dX7_session_79 rfl (lv_at hl 0 rfl) ?_
      refine gX7_7 F hX hP 0 rfl (v := .ref (a 1)) rfl dX7_session_80 ?_
      refine lv_bipush (v := 116) hx hb dX7_session_83 (by decide) ?_
      refine lv_iload_n hx hb dX7_session_85 rfl (lv_at hl 2 rfl) ?_
      refine va_iast hx hb hX.1 hP hD hS 1 0 (n := 156) (f := (u_14.1 0)) rfl rfl (by decide : ¬ ((116 : Int32) < 0 ∨ 156 ≤ Int32.toNatClampNeg 116)) dX7_session_86 (fun H locs hP hD hS => ?_)
      obtain ⟨M_16, e_17, hf⟩ := bnd_e hf
      have hP : va_P D vwCl (wMod cI a M_16) H := by rw [e_17]; exact hP
      have hD : va_D A (wMod cI a M_16) := by rw [e_17]; exact hD
      clear e_17
      refine lv_aload_n hx hb dX7_session_87 rfl (lv_at hl 0 rfl) ?_
      refine gX7_7 F hX hP 0 rfl (v := .ref (a 1)) rfl dX7_session_88 ?_
      refine lv_bipush (v := 117) hx hb dX7_session_91 (by decide) ?_
      refine lv_aload_n hx hb dX7_session_93 rfl (lv_at hl 0 rfl) ?_
      obtain ⟨u_18, h_19, hf⟩ := ob hf
      refine k_rd (runV F wdX7_82 (rm := rm_X7_seats) (As := []) (rest := [.int 117, .ref (a 1)]) ⟨rfl, rfl⟩ ⟨Nat.le_of_ble_eq_true rfl, Nat.le_of_ble_eq_true rfl⟩ hl.1 rfl rfl (Nat.le_of_ble_eq_true rfl) dX7_session_94 ⟨Nat.zero_le _, Nat.zero_le _⟩) (c_X7_seats l D cI cP a M_16  _ h_19) hX (va_recv hX.1 hP (ci := 7) (q0 := 0) rfl rfl) hP hP hS hA (fun H locs hP hS => ?_)
      refine lv_iload_n hx hb dX7_session_97 rfl (lv_at hl 2 rfl) ?_
      refine lv_isub hx hb dX7_session_98 ?_
      refine va_iast hx hb hX.1 hP hD hS 1 0 (n := 156) (f := (M_16.1 0)) rfl rfl (by decide : ¬ ((117 : Int32) < 0 ∨ 156 ≤ Int32.toNatClampNeg 117)) dX7_session_99 (fun H locs hP hD hS => ?_)
      obtain ⟨M_20, e_21, hf⟩ := bnd_e hf
      have hP : va_P D vwCl (wMod cI a M_20) H := by rw [e_21]; exact hP
      have hD : va_D A (wMod cI a M_20) := by rw [e_21]; exact hD
      clear e_21
      refine lv_aload_n hx hb dX7_session_100 rfl (lv_at hl 0 rfl) ?_
      refine gX7_7 F hX hP 0 rfl (v := .ref (a 1)) rfl dX7_session_101 ?_
      refine lv_bipush (v := 118) hx hb dX7_session_104 (by decide) ?_
      refine lv_iload_n hx hb dX7_session_106 rfl (lv_at hl 1 rfl) ?_
      have hJ_107 : ∀ (K_107 : SMod) (x1_107 : Int32) (t0_107 : Int32) (t1_107 : Int32) (v : Int32) (H : Heap) (locs : List Loc) (ls : Array Slot), X7_session_J107 K_107 x1_107 t0_107 t1_107 = v → va_P D vwCl (wMod cI a K_107) H → va_D A (wMod cI a K_107) → va_S A s.heap H locs → lv_has ls 4 [(0, .ref (a 0)), (1, .int x1_107)] → (∀ (H : Heap) (locs : List Loc) (ls : Array Slot), va_P D vwCl (wMod cI a K_107) H → va_D A (wMod cI a K_107) → va_S A s.heap H locs → lv_has ls 4 [(0, .ref (a 0)), (1, .int x1_107)] → W p l e rm_X7_session s m args below meth c H locs 0 0 (QWi D below args s A (wMod cI a z.1) z.2) (F0 m 115 ls [.int v, .int t1_107, .ref (a 1)])) → W p l e rm_X7_session s m args below meth c H locs 0 0 (QWi D below args s A (wMod cI a z.1) z.2) (F0 m 107 ls [.int t0_107, .int t1_107, .ref (a 1)]) := by
        intro K_107 x1_107 t0_107 t1_107 v _ _ ls hf hP hD hS hl hk
        unfold X7_session_J107 at hf
        refine lv_if_eq (tgt := 114) hx hb dX7_session_107 (by decide) (fun c_22 => ?_) (fun c_22 => ?_)
        · replace hf := (if_pos c_22).symm.trans hf
          refine lv_iconst (v := 0) hx hb dX7_session_114 (by decide) ?_
          obtain rfl := hf
          exact hk _ _ ls hP hD hS hl
        · replace hf := (if_neg c_22).symm.trans hf
          refine lv_iconst (v := 1) hx hb dX7_session_110 (by decide) ?_
          refine lv_goto (tgt := 115) hx hb dX7_session_111 (by decide) ?_
          obtain rfl := hf
          exact hk _ _ ls hP hD hS hl
      refine hJ_107 M_20 u_5.2 u_5.2 118 _ _ _ ls rfl hP hD hS (lv_sub hl [0, 1] rfl) (fun H locs ls hP hD hS hl => ?_)
      clear hJ_107
      refine va_iast hx hb hX.1 hP hD hS 1 0 (n := 156) (f := (M_20.1 0)) rfl rfl (by decide : ¬ ((118 : Int32) < 0 ∨ 156 ≤ Int32.toNatClampNeg 118)) dX7_session_115 (fun H locs hP hD hS => ?_)
      obtain ⟨M_23, e_24, hf⟩ := bnd_e hf
      have hP : va_P D vwCl (wMod cI a M_23) H := by rw [e_24]; exact hP
      have hD : va_D A (wMod cI a M_23) := by rw [e_24]; exact hD
      clear e_24
      refine lv_aload_n hx hb dX7_session_116 rfl (lv_at hl 0 rfl) ?_
      refine gX7_7 F hX hP 0 rfl (v := .ref (a 1)) rfl dX7_session_117 ?_
      refine lv_bipush (v := 119) hx hb dX7_session_120 (by decide) ?_
      refine lv_aload_n hx hb dX7_session_122 rfl (lv_at hl 0 rfl) ?_
      refine gX7_7 F hX hP 0 rfl (v := .ref (a 1)) rfl dX7_session_123 ?_
      refine lv_sipush (v := 150) hx hb dX7_session_126 (by decide) ?_
      refine va_iald hx hb hX.1 hP 1 0 (n := 156) (f := (M_23.1 0)) rfl rfl (by decide : ¬ ((150 : Int32) < 0 ∨ 156 ≤ Int32.toNatClampNeg 150)) dX7_session_129 ?_
      refine va_iast hx hb hX.1 hP hD hS 1 0 (n := 156) (f := (M_23.1 0)) rfl rfl (by decide : ¬ ((119 : Int32) < 0 ∨ 156 ≤ Int32.toNatClampNeg 119)) dX7_session_130 (fun H locs hP hD hS => ?_)
      obtain ⟨M_25, e_26, hf⟩ := bnd_e hf
      have hP : va_P D vwCl (wMod cI a M_25) H := by rw [e_26]; exact hP
      have hD : va_D A (wMod cI a M_25) := by rw [e_26]; exact hD
      clear e_26
      refine lv_aload_n hx hb dX7_session_131 rfl (lv_at hl 0 rfl) ?_
      refine gX7_7 F hX hP 0 rfl (v := .ref (a 1)) rfl dX7_session_132 ?_
      refine lv_sipush (v := 153) hx hb dX7_session_135 (by decide) ?_
      refine lv_dup2_11 hx hb dX7_session_138 rfl rfl ?_
      refine va_iald hx hb hX.1 hP 1 0 (n := 156) (f := (M_25.1 0)) rfl rfl (by decide : ¬ ((153 : Int32) < 0 ∨ 156 ≤ Int32.toNatClampNeg 153)) dX7_session_139 ?_
      refine lv_aload_n hx hb dX7_session_140 rfl (lv_at hl 0 rfl) ?_
      refine gX7_7 F hX hP 0 rfl (v := .ref (a 1)) rfl dX7_session_141 ?_
      refine lv_sipush (v := 153) hx hb dX7_session_144 (by decide) ?_
      refine va_iald hx hb hX.1 hP 1 0 (n := 156) (f := (M_25.1 0)) rfl rfl (by decide : ¬ ((153 : Int32) < 0 ∨ 156 ≤ Int32.toNatClampNeg 153)) dX7_session_147 ?_
      refine lv_bipush (v := 8) hx hb dX7_session_148 (by decide) ?_
      have hJ_150 : ∀ (K_150 : SMod) (x1_150 : Int32) (t0_150 : Int32) (t1_150 : Int32) (t2_150 : Int32) (t3_150 : Int32) (v : Int32) (H : Heap) (locs : List Loc) (ls : Array Slot), X7_session_J150 K_150 x1_150 t0_150 t1_150 t2_150 t3_150 = v → va_P D vwCl (wMod cI a K_150) H → va_D A (wMod cI a K_150) → va_S A s.heap H locs → lv_has ls 4 [(0, .ref (a 0)), (1, .int x1_150)] → (∀ (H : Heap) (locs : List Loc) (ls : Array Slot), va_P D vwCl (wMod cI a K_150) H → va_D A (wMod cI a K_150) → va_S A s.heap H locs → lv_has ls 4 [(0, .ref (a 0)), (1, .int x1_150)] → W p l e rm_X7_session s m args below meth c H locs 0 0 (QWi D below args s A (wMod cI a z.1) z.2) (F0 m 158 ls [.int v, .int t2_150, .int t3_150, .ref (a 1)])) → W p l e rm_X7_session s m args below meth c H locs 0 0 (QWi D below args s A (wMod cI a z.1) z.2) (F0 m 150 ls [.int t0_150, .int t1_150, .int t2_150, .int t3_150, .ref (a 1)]) := by
        intro K_150 x1_150 t0_150 t1_150 t2_150 t3_150 v _ _ ls hf hP hD hS hl hk
        unfold X7_session_J150 at hf
        refine lv_icmp_ge (tgt := 157) hx hb dX7_session_150 (by decide) (fun c_27 => ?_) (fun c_27 => ?_)
        · replace hf := (if_pos c_27).symm.trans hf
          refine lv_iconst (v := 0) hx hb dX7_session_157 (by decide) ?_
          obtain rfl := hf
          exact hk _ _ ls hP hD hS hl
        · replace hf := (if_neg c_27).symm.trans hf
          refine lv_iconst (v := 1) hx hb dX7_session_153 (by decide) ?_
          refine lv_goto (tgt := 158) hx hb dX7_session_154 (by decide) ?_
          obtain rfl := hf
          exact hk _ _ ls hP hD hS hl
      refine hJ_150 M_25 u_5.2 8 ((M_25.1 0) (Int32.toNatClampNeg 153)) ((M_25.1 0) (Int32.toNatClampNeg 153)) 153 _ _ _ ls rfl hP hD hS hl (fun H locs ls hP hD hS hl => ?_)
      clear hJ_150
      refine lv_iadd hx hb dX7_session_158 ?_
      refine va_iast hx hb hX.1 hP hD hS 1 0 (n := 156) (f := (M_25.1 0)) rfl rfl (by decide : ¬ ((153 : Int32) < 0 ∨ 156 ≤ Int32.toNatClampNeg 153)) dX7_session_159 (fun H locs hP hD hS => ?_)
      obtain ⟨M_28, e_29, hf⟩ := bnd_e hf
      have hP : va_P D vwCl (wMod cI a M_28) H := by rw [e_29]; exact hP
      have hD : va_D A (wMod cI a M_28) := by rw [e_29]; exact hD
      clear e_29
      refine lv_aload_n hx hb dX7_session_160 rfl (lv_at hl 0 rfl) ?_
      refine gX7_7 F hX hP 0 rfl (v := .ref (a 1)) rfl dX7_session_161 ?_
      refine lv_sipush (v := 151) hx hb dX7_session_164 (by decide) ?_
      refine lv_dup2_11 hx hb dX7_session_167 rfl rfl ?_
      refine va_iald hx hb hX.1 hP 1 0 (n := 156) (f := (M_28.1 0)) rfl rfl (by decide : ¬ ((151 : Int32) < 0 ∨ 156 ≤ Int32.toNatClampNeg 151)) dX7_session_168 ?_
      refine lv_iconst (v := 1) hx hb dX7_session_169 (by decide) ?_
      refine lv_iadd hx hb dX7_session_170 ?_
      refine va_iast hx hb hX.1 hP hD hS 1 0 (n := 156) (f := (M_28.1 0)) rfl rfl (by decide : ¬ ((151 : Int32) < 0 ∨ 156 ≤ Int32.toNatClampNeg 151)) dX7_session_171 (fun H locs hP hD hS => ?_)
      obtain ⟨M_30, e_31, hf⟩ := bnd_e hf
      have hP : va_P D vwCl (wMod cI a M_30) H := by rw [e_31]; exact hP
      have hD : va_D A (wMod cI a M_30) := by rw [e_31]; exact hD
      clear e_31
      refine lv_aload_n hx hb dX7_session_172 rfl (lv_at hl 0 rfl) ?_
      refine gX7_7 F hX hP 0 rfl (v := .ref (a 1)) rfl dX7_session_173 ?_
      refine lv_sipush (v := 152) hx hb dX7_session_176 (by decide) ?_
      refine lv_dup2_11 hx hb dX7_session_179 rfl rfl ?_
      refine va_iald hx hb hX.1 hP 1 0 (n := 156) (f := (M_30.1 0)) rfl rfl (by decide : ¬ ((152 : Int32) < 0 ∨ 156 ≤ Int32.toNatClampNeg 152)) dX7_session_180 ?_
      refine lv_iload_n hx hb dX7_session_181 rfl (lv_at hl 1 rfl) ?_
      have hJ_182 : ∀ (K_182 : SMod) (x1_182 : Int32) (t0_182 : Int32) (t1_182 : Int32) (t2_182 : Int32) (v : Int32) (H : Heap) (locs : List Loc) (ls : Array Slot), X7_session_J182 K_182 x1_182 t0_182 t1_182 t2_182 = v → va_P D vwCl (wMod cI a K_182) H → va_D A (wMod cI a K_182) → va_S A s.heap H locs → lv_has ls 4 [(0, .ref (a 0)), (1, .int x1_182)] → (∀ (H : Heap) (locs : List Loc) (ls : Array Slot), va_P D vwCl (wMod cI a K_182) H → va_D A (wMod cI a K_182) → va_S A s.heap H locs → lv_has ls 4 [(0, .ref (a 0)), (1, .int x1_182)] → W p l e rm_X7_session s m args below meth c H locs 0 0 (QWi D below args s A (wMod cI a z.1) z.2) (F0 m 190 ls [.int v, .int t1_182, .int t2_182, .ref (a 1)])) → W p l e rm_X7_session s m args below meth c H locs 0 0 (QWi D below args s A (wMod cI a z.1) z.2) (F0 m 182 ls [.int t0_182, .int t1_182, .int t2_182, .ref (a 1)]) := by
        intro K_182 x1_182 t0_182 t1_182 t2_182 v _ _ ls hf hP hD hS hl hk
        unfold X7_session_J182 at hf
        refine lv_if_eq (tgt := 189) hx hb dX7_session_182 (by decide) (fun c_32 => ?_) (fun c_32 => ?_)
        · replace hf := (if_pos c_32).symm.trans hf
          refine lv_iconst (v := 0) hx hb dX7_session_189 (by decide) ?_
          obtain rfl := hf
          exact hk _ _ ls hP hD hS hl
        · replace hf := (if_neg c_32).symm.trans hf
          refine lv_iconst (v := 1) hx hb dX7_session_185 (by decide) ?_
          refine lv_goto (tgt := 190) hx hb dX7_session_186 (by decide) ?_
          obtain rfl := hf
          exact hk _ _ ls hP hD hS hl
      refine hJ_182 M_30 u_5.2 u_5.2 ((M_30.1 0) (Int32.toNatClampNeg 152)) 152 _ _ _ ls rfl hP hD hS hl (fun H locs ls hP hD hS hl => ?_)
      clear hJ_182
      refine lv_iadd hx hb dX7_session_190 ?_
      refine va_iast hx hb hX.1 hP hD hS 1 0 (n := 156) (f := (M_30.1 0)) rfl rfl (by decide : ¬ ((152 : Int32) < 0 ∨ 156 ≤ Int32.toNatClampNeg 152)) dX7_session_191 (fun H locs hP hD hS => ?_)
      obtain ⟨M_33, e_34, hf⟩ := bnd_e hf
      have hP : va_P D vwCl (wMod cI a M_33) H := by rw [e_34]; exact hP
      have hD : va_D A (wMod cI a M_33) := by rw [e_34]; exact hD
      clear e_34
      refine lv_aload_n hx hb dX7_session_192 rfl (lv_at hl 0 rfl) ?_
      refine gX7_7 F hX hP 0 rfl (v := .ref (a 1)) rfl dX7_session_193 ?_
      refine lv_sipush (v := 150) hx hb dX7_session_196 (by decide) ?_
      refine lv_aload_n hx hb dX7_session_199 rfl (lv_at hl 0 rfl) ?_
      refine gX7_7 F hX hP 0 rfl (v := .ref (a 1)) rfl dX7_session_200 ?_
      refine lv_sipush (v := 150) hx hb dX7_session_203 (by decide) ?_
      refine va_iald hx hb hX.1 hP 1 0 (n := 156) (f := (M_33.1 0)) rfl rfl (by decide : ¬ ((150 : Int32) < 0 ∨ 156 ≤ Int32.toNatClampNeg 150)) dX7_session_206 ?_
      refine lv_iconst (v := 1) hx hb dX7_session_207 (by decide) ?_
      refine lv_iadd hx hb dX7_session_208 ?_
      refine lv_aload_n hx hb dX7_session_209 rfl (lv_at hl 0 rfl) ?_
      refine gX7_7 F hX hP 0 rfl (v := .ref (a 1)) rfl dX7_session_210 ?_
      refine lv_sipush (v := 148) hx hb dX7_session_213 (by decide) ?_
      refine va_iald hx hb hX.1 hP 1 0 (n := 156) (f := (M_33.1 0)) rfl rfl (by decide : ¬ ((148 : Int32) < 0 ∨ 156 ≤ Int32.toNatClampNeg 148)) dX7_session_216 ?_
      have g_35 := og hf
      replace hf := (if_pos g_35).symm.trans hf
      refine lv_irem hx hb dX7_session_217 g_35 ?_
      refine va_iast hx hb hX.1 hP hD hS 1 0 (n := 156) (f := (M_33.1 0)) rfl rfl (by decide : ¬ ((150 : Int32) < 0 ∨ 156 ≤ Int32.toNatClampNeg 150)) dX7_session_218 (fun H locs hP hD hS => ?_)
      obtain ⟨M_36, e_37, hf⟩ := bnd_e hf
      have hP : va_P D vwCl (wMod cI a M_36) H := by rw [e_37]; exact hP
      have hD : va_D A (wMod cI a M_36) := by rw [e_37]; exact hD
      clear e_37
      refine lv_iconst (v := 0) hx hb dX7_session_219 (by decide) ?_
      refine lv_istore_n (lv' := [(3, .int 0), (0, .ref (a 0)), (1, .int u_5.2)]) hx hb dX7_session_220 rfl hl (by decide) rfl (fun ls hl => ?_)
      have hL_221 : ∀ (fu : Nat) (K_221 : SMod) (x1_221 : Int32) (x3_221 : Int32) (v : SMod) (H : Heap) (locs : List Loc) (ls : Array Slot), X7_session_L221 fu K_221 x1_221 x3_221 = some v → va_P D vwCl (wMod cI a K_221) H → va_D A (wMod cI a K_221) → va_S A s.heap H locs → lv_has ls 4 [(0, .ref (a 0)), (1, .int x1_221), (3, .int x3_221)] → (∀ (H : Heap) (locs : List Loc) (ls : Array Slot), va_P D vwCl (wMod cI a v) H → va_D A (wMod cI a v) → va_S A s.heap H locs → lv_has ls 4 [(1, .int x1_221)] → W p l e rm_X7_session s m args below meth c H locs 0 0 (QWi D below args s A (wMod cI a z.1) z.2) (F0 m 250 ls [])) → W p l e rm_X7_session s m args below meth c H locs 0 0 (QWi D below args s A (wMod cI a z.1) z.2) (F0 m 221 ls []) := by
        intro fu
        induction fu with
        | zero =>
          intro K_221 x1_221 x3_221 v H locs ls hf
          exact absurd hf (by simp [X7_session_L221])
        | succ fu ih =>
          intro K_221 x1_221 x3_221 v _ _ ls hf hP hD hS hl hk
          rw [X7_session_L221] at hf
          refine lv_iload_n hx hb dX7_session_221 rfl (lv_at hl 2 rfl) ?_
          refine lv_aload_n hx hb dX7_session_222 rfl (lv_at hl 0 rfl) ?_
          refine gX7_7 F hX hP 0 rfl (v := .ref (a 1)) rfl dX7_session_223 ?_
          refine lv_sipush (v := 148) hx hb dX7_session_226 (by decide) ?_
          refine va_iald hx hb hX.1 hP 1 0 (n := 156) (f := (K_221.1 0)) rfl rfl (by decide : ¬ ((148 : Int32) < 0 ∨ 156 ≤ Int32.toNatClampNeg 148)) dX7_session_229 ?_
          refine lv_icmp_ge (tgt := 250) hx hb dX7_session_230 (by decide) (fun c_38 => ?_) (fun c_38 => ?_)
          · replace hf := (if_pos c_38).symm.trans hf
            obtain rfl := Option.some.inj hf
            exact hk _ _ ls hP hD hS (lv_sub hl [1] rfl)
          · replace hf := (if_neg c_38).symm.trans hf
            refine lv_aload_n hx hb dX7_session_233 rfl (lv_at hl 0 rfl) ?_
            refine gX7_7 F hX hP 0 rfl (v := .ref (a 1)) rfl dX7_session_234 ?_
            refine lv_iconst (v := 3) hx hb dX7_session_237 (by decide) ?_
            refine lv_iload_n hx hb dX7_session_238 rfl (lv_at hl 2 rfl) ?_
            refine lv_imul hx hb dX7_session_239 ?_
            refine lv_iconst (v := 2) hx hb dX7_session_240 (by decide) ?_
            refine lv_iadd hx hb dX7_session_241 ?_
            refine lv_iconst (v := 0) hx hb dX7_session_242 (by decide) ?_
            have g_39 := og hf
            replace hf := (if_pos g_39).symm.trans hf
            refine va_iast hx hb hX.1 hP hD hS 1 0 (n := 156) (f := (K_221.1 0)) rfl rfl g_39 dX7_session_243 (fun H locs hP hD hS => ?_)
            obtain ⟨M_40, e_41, hf⟩ := bnd_e hf
            have hP : va_P D vwCl (wMod cI a M_40) H := by rw [e_41]; exact hP
            have hD : va_D A (wMod cI a M_40) := by rw [e_41]; exact hD
            clear e_41
            refine lv_iinc (v := (x3_221 + 1)) (lv' := [(3, .int (x3_221 + 1)), (0, .ref (a 0)), (1, .int x1_221)]) hx hb dX7_session_244 hl (k := 2) rfl (by rfl) (by decide) rfl (fun ls hl => ?_)
            refine lv_goto (tgt := 221) hx hb dX7_session_247 (by decide) ?_
            exact ih M_40 x1_221 (x3_221 + 1) _ _ _ ls hf hP hD hS (lv_sub hl [1, 2, 0] rfl) hk
      obtain ⟨u_42, h_43, hf⟩ := ob hf
      refine hL_221 FUEL M_36 u_5.2 0 u_42 _ _ ls h_43 hP hD hS (lv_sub hl [1, 2, 0] rfl) (fun H locs ls hP hD hS hl => ?_)
      clear hL_221
      refine lv_iload_n hx hb dX7_session_250 rfl (lv_at hl 0 rfl) ?_
      refine lv_if_eq (tgt := 258) hx hb dX7_session_251 (by decide) (fun c_44 => ?_) (fun c_44 => ?_)
      · replace hf := (if_pos c_44).symm.trans hf
        refine lv_iconst (v := 0) hx hb dX7_session_258 (by decide) ?_
        obtain rfl := (Option.some.inj hf)
        exact wr_i F rfl hP hS dX7_session_259
      · replace hf := (if_neg c_44).symm.trans hf
        refine lv_iconst (v := 1) hx hb dX7_session_254 (by decide) ?_
        refine lv_goto (tgt := 259) hx hb dX7_session_255 (by decide) ?_
        obtain rfl := (Option.some.inj hf)
        exact wr_i F rfl hP hS dX7_session_259
    · replace hf := (if_pos c_2).symm.trans hf
      refine lv_ldc (v := (-1000003)) hx hb hown (hts _ q_860) dX7_session_28 ?_
      obtain rfl := (Option.some.inj hf)
      exact wr_i F rfl hP hS dX7_session_30
  · replace hf := (if_pos c_1).symm.trans hf
    refine lv_ldc (v := (-1000002)) hx hb hown (hts _ q_869) dX7_session_11 ?_
    obtain rfl := (Option.some.inj hf)
    exact wr_i F rfl hP hS dX7_session_13
def X7_set (K : SMod) (x1 : Int32) (x2 : Int32) : Option (SMod × Int32) := (if x1 = 0 then (if (X7_in x2 0 12) = 0 then some (K, (-1000001)) else ((X7_changes K).bind fun u_3 => (bnd ((up u_3.1 0 (upd (u_3.1 0) (Int32.toNatClampNeg 155) x2)), u_3.2) fun M_5 => some (M_5, ((u_3.1 0) (Int32.toNatClampNeg 155)))))) else some (K, (-1000001)))
abbrev rm_X7_set : Room := { frames := 1, cells := 0, slots := 0, locals := 22 }
set_option maxHeartbeats 4000000 in
set_option maxRecDepth 100000 in
theorem c_X7_set (l : Launch) (D : va_G) (cI cP : ClassId) (a : Nat → Nat) (K : SMod) (x1 : Int32) (x2 : Int32) (z : SMod × Int32) (hf : X7_set K x1 x2 = some z) : MWi l yX7_set cX7_set 4 (some .int) rm_X7_set D cI cP [.ref (a 0), .int x1, .int x2] (wMod cI a K) (wMod cI a z.1) z.2 := by
  refine MWi.of (by decide +kernel) (Nat.le_of_ble_eq_true rfl) ?_
  intro p e s m args below meth c ls A F hX hP hD hA hS hl
  have F : Fx p s m args meth c RX7 cX7_set 4 (some .int) := F
  have hx := F.1
  have hb := F.2.1
  have hown := F.2.2.2.1
  have hts := F.2.2.2.2.1
  have hl : lv_has ls 4 [(0, .ref (a 0)), (1, .int x1), (2, .int x2)] := hl
  unfold X7_set at hf
  refine lv_iload_n hx hb dX7_set_0 rfl (lv_at hl 1 rfl) ?_
  refine lv_if_ne (tgt := 14) hx hb dX7_set_1 (by decide) (fun c_1 => ?_) (fun c_1 => ?_)
  · replace hf := (if_neg c_1).symm.trans hf
    refine lv_ldc (v := (-1000001)) hx hb hown (hts _ q_855) dX7_set_14 ?_
    obtain rfl := (Option.some.inj hf)
    exact wr_i F rfl hP hS dX7_set_16
  · replace hf := (if_pos c_1).symm.trans hf
    refine lv_iload_n hx hb dX7_set_4 rfl (lv_at hl 2 rfl) ?_
    refine lv_iconst (v := 0) hx hb dX7_set_5 (by decide) ?_
    refine lv_bipush (v := 12) hx hb dX7_set_6 (by decide) ?_
    refine k_rd (runS F wdX7_45 (rm := rm_X7_in) (As := [.int x2, .int 0, .int 12]) (rest := []) ⟨rfl, rfl⟩ ⟨Nat.le_of_ble_eq_true rfl, Nat.le_of_ble_eq_true rfl⟩ hl.1 rfl rfl (Nat.le_of_ble_eq_true rfl) dX7_set_8 ⟨Nat.zero_le _, Nat.zero_le _⟩) (c_X7_in l D cI cP x2 0 12 _ rfl) hX trivial vP_nil hP hS hA (fun H locs hP hS => ?_)
    refine lv_if_ne (tgt := 17) hx hb dX7_set_11 (by decide) (fun c_2 => ?_) (fun c_2 => ?_)
    · replace hf := (if_neg c_2).symm.trans hf
      refine lv_aload_n hx hb dX7_set_17 rfl (lv_at hl 0 rfl) ?_
      obtain ⟨u_3, h_4, hf⟩ := ob hf
      refine k_wv (runV F wdX7_98 (rm := rm_X7_changes) (As := []) (rest := []) ⟨rfl, rfl⟩ ⟨Nat.le_of_ble_eq_true rfl, Nat.le_of_ble_eq_true rfl⟩ hl.1 rfl rfl (Nat.le_of_ble_eq_true rfl) dX7_set_18 ⟨Nat.zero_le _, Nat.zero_le _⟩) (c_X7_changes l D cI cP a K  _ h_4) hX (va_recv hX.1 hP (ci := 7) (q0 := 0) rfl rfl) (Cut.all rfl) hP hD hS hA (fun H locs hP hD hS => ?_)
      have hP : va_P D vwCl (wMod cI a u_3) H := hP
      have hD : va_D A (wMod cI a u_3) := hD
      refine lv_aload_n hx hb dX7_set_21 rfl (lv_at hl 0 rfl) ?_
      refine gX7_7 F hX hP 0 rfl (v := .ref (a 1)) rfl dX7_set_22 ?_
      refine lv_sipush (v := 155) hx hb dX7_set_25 (by decide) ?_
      refine va_iald hx hb hX.1 hP 1 0 (n := 156) (f := (u_3.1 0)) rfl rfl (by decide : ¬ ((155 : Int32) < 0 ∨ 156 ≤ Int32.toNatClampNeg 155)) dX7_set_28 ?_
      refine lv_istore_n (lv' := [(3, .int ((u_3.1 0) (Int32.toNatClampNeg 155))), (0, .ref (a 0)), (1, .int x1), (2, .int x2)]) hx hb dX7_set_29 rfl hl (by decide) rfl (fun ls hl => ?_)
      refine lv_aload_n hx hb dX7_set_30 rfl (lv_at hl 1 rfl) ?_
      refine gX7_7 F hX hP 0 rfl (v := .ref (a 1)) rfl dX7_set_31 ?_
      refine lv_sipush (v := 155) hx hb dX7_set_34 (by decide) ?_
      refine lv_iload_n hx hb dX7_set_37 rfl (lv_at hl 3 rfl) ?_
      refine va_iast hx hb hX.1 hP hD hS 1 0 (n := 156) (f := (u_3.1 0)) rfl rfl (by decide : ¬ ((155 : Int32) < 0 ∨ 156 ≤ Int32.toNatClampNeg 155)) dX7_set_38 (fun H locs hP hD hS => ?_)
      obtain ⟨M_5, e_6, hf⟩ := bnd_e hf
      have hP : va_P D vwCl (wMod cI a M_5) H := by rw [e_6]; exact hP
      have hD : va_D A (wMod cI a M_5) := by rw [e_6]; exact hD
      clear e_6
      refine lv_iload_n hx hb dX7_set_39 rfl (lv_at hl 0 rfl) ?_
      obtain rfl := (Option.some.inj hf)
      exact wr_i F rfl hP hS dX7_set_40
    · replace hf := (if_pos c_2).symm.trans hf
      refine lv_ldc (v := (-1000001)) hx hb hown (hts _ q_855) dX7_set_14 ?_
      obtain rfl := (Option.some.inj hf)
      exact wr_i F rfl hP hS dX7_set_16
