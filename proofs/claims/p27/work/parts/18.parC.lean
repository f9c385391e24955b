def X1_addPuppet (K : SPar) (x1 : Int32) (x2 : Int32) : Option (SPar × Int32) := (if (X6_isIn x1 1 9) = 0 then some (K, (-1000001)) else (if (X6_isIn x2 0 1) = 0 then some (K, (-1000001)) else (if (K.2.1 0) < 12 then (bnd ((up K.1 0 (rput 12 (K.1 0) (K.2.1 0) x1)), K.2.1, K.2.2.1, K.2.2.2) fun M_4 => (bnd ((up M_4.1 1 (rput 12 (M_4.1 1) (M_4.2.1 0) x2)), M_4.2.1, M_4.2.2.1, M_4.2.2.2) fun M_6 => (bnd ((up M_6.1 2 (rput 12 (M_6.1 2) (M_6.2.1 0) (-1))), M_6.2.1, M_6.2.2.1, M_6.2.2.2) fun M_8 => (bnd (M_8.1, (up M_8.2.1 0 ((M_8.2.1 0) + 1)), M_8.2.2.1, M_8.2.2.2) fun M_10 => ((X1_tellGroups M_10).bind fun u_12 => ((X1_tellVotes u_12).bind fun u_14 => some (u_14, ((u_14.2.1 0) - 1)))))))) else some (K, (-1000003)))))
abbrev rm_X1_addPuppet : Room := { frames := 3, cells := 0, slots := 0, locals := 70 }
set_option maxHeartbeats 4000000 in
set_option maxRecDepth 100000 in
theorem c_X1_addPuppet (l : Launch) (D : va_G) (cI cP : ClassId) (a : Nat → Nat) (K : SPar) (x1 : Int32) (x2 : Int32) (z : SPar × Int32) (hf : X1_addPuppet K x1 x2 = some z) : MWi l yX1_addPuppet cX1_addPuppet 3 (some .int) rm_X1_addPuppet D cI cP [.ref (a 0), .int x1, .int x2] (wPar cI a K) (wPar cI a z.1) z.2 := by
  refine MWi.of (by decide +kernel) (Nat.le_of_ble_eq_true rfl) ?_
  intro p e s m args below meth c ls A F hX hP hD hA hS hl
  have F : Fx p s m args meth c RX1 cX1_addPuppet 3 (some .int) := F
  have hx := F.1
  have hb := F.2.1
  have hown := F.2.2.2.1
  have hts := F.2.2.2.2.1
  have hl : lv_has ls 3 [(0, .ref (a 0)), (1, .int x1), (2, .int x2)] := hl
  unfold X1_addPuppet at hf
  refine lv_iload_n hx hb dX1_addPuppet_0 rfl (lv_at hl 1 rfl) ?_
  refine lv_iconst (v := 1) hx hb dX1_addPuppet_1 (by decide) ?_
  refine lv_bipush (v := 9) hx hb dX1_addPuppet_2 (by decide) ?_
  refine k_rd (runSN F hX wdX1_75 (rm := rm_X6_isIn) (As := [.int x1, .int 1, .int 9]) (rest := []) ⟨rfl, rfl⟩ ⟨Nat.le_of_ble_eq_true rfl, Nat.le_of_ble_eq_true rfl⟩ hl.1 rfl rfl (Nat.le_of_ble_eq_true rfl) dX1_addPuppet_4 ⟨Nat.zero_le _, Nat.zero_le _⟩) (c_X6_isIn l D cI cP x1 1 9 _ rfl) hX trivial vP_nil hP hS hA (fun H locs hP hS => ?_)
  refine lv_if_eq (tgt := 19) hx hb dX1_addPuppet_7 (by decide) (fun c_1 => ?_) (fun c_1 => ?_)
  · replace hf := (if_pos c_1).symm.trans hf
    refine lv_ldc (v := (-1000001)) hx hb hown (hts _ q_396) dX1_addPuppet_19 ?_
    obtain rfl := (Option.some.inj hf)
    exact wr_i F rfl hP hS dX1_addPuppet_21
  · replace hf := (if_neg c_1).symm.trans hf
    refine lv_iload_n hx hb dX1_addPuppet_10 rfl (lv_at hl 2 rfl) ?_
    refine lv_iconst (v := 0) hx hb dX1_addPuppet_11 (by decide) ?_
    refine lv_iconst (v := 1) hx hb dX1_addPuppet_12 (by decide) ?_
    refine k_rd (runSN F hX wdX1_75 (rm := rm_X6_isIn) (As := [.int x2, .int 0, .int 1]) (rest := []) ⟨rfl, rfl⟩ ⟨Nat.le_of_ble_eq_true rfl, Nat.le_of_ble_eq_true rfl⟩ hl.1 rfl rfl (Nat.le_of_ble_eq_true rfl) dX1_addPuppet_13 ⟨Nat.zero_le _, Nat.zero_le _⟩) (c_X6_isIn l D cI cP x2 0 1 _ rfl) hX trivial vP_nil hP hS hA (fun H locs hP hS => ?_)
    refine lv_if_ne (tgt := 22) hx hb dX1_addPuppet_16 (by decide) (fun c_2 => ?_) (fun c_2 => ?_)
    · replace hf := (if_neg c_2).symm.trans hf
      refine lv_aload_n hx hb dX1_addPuppet_22 rfl (lv_at hl 0 rfl) ?_
      refine gX1_63 F hX hP 0 rfl (v := .int (K.2.1 0)) rfl dX1_addPuppet_23 ?_
      refine lv_bipush (v := 12) hx hb dX1_addPuppet_26 (by decide) ?_
      refine lv_icmp_lt (tgt := 34) hx hb dX1_addPuppet_28 (by decide) (fun c_3 => ?_) (fun c_3 => ?_)
      · replace hf := (if_pos c_3).symm.trans hf
        refine lv_aload_n hx hb dX1_addPuppet_34 rfl (lv_at hl 0 rfl) ?_
        refine gX1_14 F hX hP 0 rfl (v := .ref (a 1)) rfl dX1_addPuppet_35 ?_
        refine lv_aload_n hx hb dX1_addPuppet_38 rfl (lv_at hl 0 rfl) ?_
        refine gX1_63 F hX hP 0 rfl (v := .int (K.2.1 0)) rfl dX1_addPuppet_39 ?_
        refine lv_iload_n hx hb dX1_addPuppet_42 rfl (lv_at hl 1 rfl) ?_
        refine k_wv (runVN F hX wdX1_81 (rm := rm_X2_put) (As := [.int (K.2.1 0), .int x1]) (rest := []) ⟨rfl, rfl⟩ ⟨Nat.le_of_ble_eq_true rfl, Nat.le_of_ble_eq_true rfl⟩ hl.1 rfl rfl (Nat.le_of_ble_eq_true rfl) dX1_addPuppet_43 ⟨Nat.zero_le _, Nat.zero_le _⟩) (k_rput l D cI cP (a 1) (a 2) 12 (by decide) (K.1 0) (K.2.1 0) x1) hX (va_recv hX.1 (va_blk (Bs := (bPar cI a K)) hP 1 rfl) (ci := 2) (q0 := 0) rfl rfl) (Cut.one (Bs := (bPar cI a K)) (k := 1) rfl rfl) hP hD hS hA (fun H locs hP hD hS => ?_)
        obtain ⟨M_4, e_5, hf⟩ := bnd_e hf
        have hP : va_P D vwCl (wPar cI a M_4) H := by rw [e_5]; exact hP
        have hD : va_D A (wPar cI a M_4) := by rw [e_5]; exact hD
        clear e_5
        refine lv_aload_n hx hb dX1_addPuppet_46 rfl (lv_at hl 0 rfl) ?_
        refine gX1_20 F hX hP 0 rfl (v := .ref (a 3)) rfl dX1_addPuppet_47 ?_
        refine lv_aload_n hx hb dX1_addPuppet_50 rfl (lv_at hl 0 rfl) ?_
        refine gX1_63 F hX hP 0 rfl (v := .int (M_4.2.1 0)) rfl dX1_addPuppet_51 ?_
        refine lv_iload_n hx hb dX1_addPuppet_54 rfl (lv_at hl 2 rfl) ?_
        refine k_wv (runVN F hX wdX1_81 (rm := rm_X2_put) (As := [.int (M_4.2.1 0), .int x2]) (rest := []) ⟨rfl, rfl⟩ ⟨Nat.le_of_ble_eq_true rfl, Nat.le_of_ble_eq_true rfl⟩ hl.1 rfl rfl (Nat.le_of_ble_eq_true rfl) dX1_addPuppet_55 ⟨Nat.zero_le _, Nat.zero_le _⟩) (k_rput l D cI cP (a 3) (a 4) 12 (by decide) (M_4.1 1) (M_4.2.1 0) x2) hX (va_recv hX.1 (va_blk (Bs := (bPar cI a M_4)) hP 2 rfl) (ci := 2) (q0 := 0) rfl rfl) (Cut.one (Bs := (bPar cI a M_4)) (k := 2) rfl rfl) hP hD hS hA (fun H locs hP hD hS => ?_)
        obtain ⟨M_6, e_7, hf⟩ := bnd_e hf
        have hP : va_P D vwCl (wPar cI a M_6) H := by rw [e_7]; exact hP
        have hD : va_D A (wPar cI a M_6) := by rw [e_7]; exact hD
        clear e_7
        refine lv_aload_n hx hb dX1_addPuppet_58 rfl (lv_at hl 0 rfl) ?_
        refine gX1_23 F hX hP 0 rfl (v := .ref (a 5)) rfl dX1_addPuppet_59 ?_
        refine lv_aload_n hx hb dX1_addPuppet_62 rfl (lv_at hl 0 rfl) ?_
        refine gX1_63 F hX hP 0 rfl (v := .int (M_6.2.1 0)) rfl dX1_addPuppet_63 ?_
        refine lv_iconst (v := (-1)) hx hb dX1_addPuppet_66 (by decide) ?_
        refine k_wv (runVN F hX wdX1_81 (rm := rm_X2_put) (As := [.int (M_6.2.1 0), .int (-1)]) (rest := []) ⟨rfl, rfl⟩ ⟨Nat.le_of_ble_eq_true rfl, Nat.le_of_ble_eq_true rfl⟩ hl.1 rfl rfl (Nat.le_of_ble_eq_true rfl) dX1_addPuppet_67 ⟨Nat.zero_le _, Nat.zero_le _⟩) (k_rput l D cI cP (a 5) (a 6) 12 (by decide) (M_6.1 2) (M_6.2.1 0) (-1)) hX (va_recv hX.1 (va_blk (Bs := (bPar cI a M_6)) hP 3 rfl) (ci := 2) (q0 := 0) rfl rfl) (Cut.one (Bs := (bPar cI a M_6)) (k := 3) rfl rfl) hP hD hS hA (fun H locs hP hD hS => ?_)
        obtain ⟨M_8, e_9, hf⟩ := bnd_e hf
        have hP : va_P D vwCl (wPar cI a M_8) H := by rw [e_9]; exact hP
        have hD : va_D A (wPar cI a M_8) := by rw [e_9]; exact hD
        clear e_9
        refine lv_aload_n hx hb dX1_addPuppet_70 rfl (lv_at hl 0 rfl) ?_
        refine lv_dup hx hb dX1_addPuppet_71 rfl ?_
        refine gX1_63 F hX hP 0 rfl (v := .int (M_8.2.1 0)) rfl dX1_addPuppet_72 ?_
        refine lv_iconst (v := 1) hx hb dX1_addPuppet_75 (by decide) ?_
        refine lv_iadd hx hb dX1_addPuppet_76 ?_
        refine pX1_63 F hX hP hD hS 0 rfl (Nat.le_of_ble_eq_true rfl) dX1_addPuppet_77 (fun H locs hP hD hS => ?_)
        obtain ⟨M_10, e_11, hf⟩ := bnd_e hf
        have hP : va_P D vwCl (wPar cI a M_10) H := by rw [e_11]; exact hP
        have hD : va_D A (wPar cI a M_10) := by rw [e_11]; exact hD
        clear e_11
        refine lv_aload_n hx hb dX1_addPuppet_80 rfl (lv_at hl 0 rfl) ?_
        obtain ⟨u_12, h_13, hf⟩ := ob hf
        refine k_wv (runV F wdX1_85 (rm := rm_X1_tellGroups) (As := []) (rest := []) ⟨rfl, rfl⟩ ⟨Nat.le_of_ble_eq_true rfl, Nat.le_of_ble_eq_true rfl⟩ hl.1 rfl rfl (Nat.le_of_ble_eq_true rfl) dX1_addPuppet_81 ⟨Nat.zero_le _, Nat.zero_le _⟩) (c_X1_tellGroups l D cI cP a M_10  _ h_13) hX (va_recv hX.1 hP (ci := 1) (q0 := 0) rfl rfl) (Cut.all rfl) hP hD hS hA (fun H locs hP hD hS => ?_)
        have hP : va_P D vwCl (wPar cI a u_12) H := hP
        have hD : va_D A (wPar cI a u_12) := hD
        refine lv_aload_n hx hb dX1_addPuppet_84 rfl (lv_at hl 0 rfl) ?_
        obtain ⟨u_14, h_15, hf⟩ := ob hf
        refine k_wv (runV F wdX1_88 (rm := rm_X1_tellVotes) (As := []) (rest := []) ⟨rfl, rfl⟩ ⟨Nat.le_of_ble_eq_true rfl, Nat.le_of_ble_eq_true rfl⟩ hl.1 rfl rfl (Nat.le_of_ble_eq_true rfl) dX1_addPuppet_85 ⟨Nat.zero_le _, Nat.zero_le _⟩) (c_X1_tellVotes l D cI cP a u_12  _ h_15) hX (va_recv hX.1 hP (ci := 1) (q0 := 0) rfl rfl) (Cut.all rfl) hP hD hS hA (fun H locs hP hD hS => ?_)
        have hP : va_P D vwCl (wPar cI a u_14) H := hP
        have hD : va_D A (wPar cI a u_14) := hD
        refine lv_aload_n hx hb dX1_addPuppet_88 rfl (lv_at hl 0 rfl) ?_
        refine gX1_63 F hX hP 0 rfl (v := .int (u_14.2.1 0)) rfl dX1_addPuppet_89 ?_
        refine lv_iconst (v := 1) hx hb dX1_addPuppet_92 (by decide) ?_
        refine lv_isub hx hb dX1_addPuppet_93 ?_
        obtain rfl := (Option.some.inj hf)
        exact wr_i F rfl hP hS dX1_addPuppet_94
      · replace hf := (if_neg c_3).symm.trans hf
        refine lv_ldc (v := (-1000003)) hx hb hown (hts _ q_503) dX1_addPuppet_31 ?_
        obtain rfl := (Option.some.inj hf)
        exact wr_i F rfl hP hS dX1_addPuppet_33
    · replace hf := (if_pos c_2).symm.trans hf
      refine lv_ldc (v := (-1000001)) hx hb hown (hts _ q_396) dX1_addPuppet_19 ?_
      obtain rfl := (Option.some.inj hf)
      exact wr_i F rfl hP hS dX1_addPuppet_21
def X1_addString (K : SPar) (x1 : Int32) (x2 : Int32) (x3 : Int32) (x4 : Int32) : Option (SPar × Int32) := (if (X1_arePair K x1 x2) = 0 then some (K, (-1000001)) else (if (X6_isIn x4 0 5) = 0 then some (K, (-1000001)) else ((X1_reasonAgainstString K x1 x2 x3).bind fun u_3 => (if u_3 = 0 then (if (K.2.2.1.2 0) < 20 then (bnd (K.1, K.2.1, (X3_append K.2.2.1 x1 x2 x3 x4).1, K.2.2.2) fun M_7 => ((X1_tellGroups M_7).bind fun u_9 => ((X1_tellVotes u_9).bind fun u_11 => some (u_11, (X3_append K.2.2.1 x1 x2 x3 x4).2)))) else some (K, (-1000003))) else some (K, (-1000002))))))
abbrev rm_X1_addString : Room := { frames := 3, cells := 0, slots := 0, locals := 72 }
set_option maxHeartbeats 4000000 in
set_option maxRecDepth 100000 in
theorem c_X1_addString (l : Launch) (D : va_G) (cI cP : ClassId) (a : Nat → Nat) (K : SPar) (x1 : Int32) (x2 : Int32) (x3 : Int32) (x4 : Int32) (z : SPar × Int32) (hf : X1_addString K x1 x2 x3 x4 = some z) : MWi l yX1_addString cX1_addString 6 (some .int) rm_X1_addString D cI cP [.ref (a 0), .int x1, .int x2, .int x3, .int x4] (wPar cI a K) (wPar cI a z.1) z.2 := by
  refine MWi.of (by decide +kernel) (Nat.le_of_ble_eq_true rfl) ?_
  intro p e s m args below meth c ls A F hX hP hD hA hS hl
  have F : Fx p s m args meth c RX1 cX1_addString 6 (some .int) := F
  have hx := F.1
  have hb := F.2.1
  have hown := F.2.2.2.1
  have hts := F.2.2.2.2.1
  have hl : lv_has ls 6 [(0, .ref (a 0)), (1, .int x1), (2, .int x2), (3, .int x3), (4, .int x4)] := hl
  unfold X1_addString at hf
  refine lv_aload_n hx hb dX1_addString_0 rfl (lv_at hl 0 rfl) ?_
  refine lv_iload_n hx hb dX1_addString_1 rfl (lv_at hl 1 rfl) ?_
  refine lv_iload_n hx hb dX1_addString_2 rfl (lv_at hl 2 rfl) ?_
  refine k_rd (runV F wdX1_91 (rm := rm_X1_arePair) (As := [.int x1, .int x2]) (rest := []) ⟨rfl, rfl⟩ ⟨Nat.le_of_ble_eq_true rfl, Nat.le_of_ble_eq_true rfl⟩ hl.1 rfl rfl (Nat.le_of_ble_eq_true rfl) dX1_addString_3 ⟨Nat.zero_le _, Nat.zero_le _⟩) (c_X1_arePair l D cI cP a K x1 x2 _ rfl) hX (va_recv hX.1 hP (ci := 1) (q0 := 0) rfl rfl) hP hP hS hA (fun H locs hP hS => ?_)
  refine lv_if_eq (tgt := 19) hx hb dX1_addString_6 (by decide) (fun c_1 => ?_) (fun c_1 => ?_)
  · replace hf := (if_pos c_1).symm.trans hf
    refine lv_ldc (v := (-1000001)) hx hb hown (hts _ q_396) dX1_addString_19 ?_
    obtain rfl := (Option.some.inj hf)
    exact wr_i F rfl hP hS dX1_addString_21
  · replace hf := (if_neg c_1).symm.trans hf
    refine lv_iload hx hb dX1_addString_9 (lv_at hl 4 rfl) ?_
    refine lv_iconst (v := 0) hx hb dX1_addString_11 (by decide) ?_
    refine lv_iconst (v := 5) hx hb dX1_addString_12 (by decide) ?_
    refine k_rd (runSN F hX wdX1_75 (rm := rm_X6_isIn) (As := [.int x4, .int 0, .int 5]) (rest := []) ⟨rfl, rfl⟩ ⟨Nat.le_of_ble_eq_true rfl, Nat.le_of_ble_eq_true rfl⟩ hl.1 rfl rfl (Nat.le_of_ble_eq_true rfl) dX1_addString_13 ⟨Nat.zero_le _, Nat.zero_le _⟩) (c_X6_isIn l D cI cP x4 0 5 _ rfl) hX trivial vP_nil hP hS hA (fun H locs hP hS => ?_)
    refine lv_if_ne (tgt := 22) hx hb dX1_addString_16 (by decide) (fun c_2 => ?_) (fun c_2 => ?_)
    · replace hf := (if_neg c_2).symm.trans hf
      refine lv_aload_n hx hb dX1_addString_22 rfl (lv_at hl 0 rfl) ?_
      refine lv_iload_n hx hb dX1_addString_23 rfl (lv_at hl 1 rfl) ?_
      refine lv_iload_n hx hb dX1_addString_24 rfl (lv_at hl 2 rfl) ?_
      refine lv_iload_n hx hb dX1_addString_25 rfl (lv_at hl 3 rfl) ?_
      obtain ⟨u_3, h_4, hf⟩ := ob hf
      refine k_rd (runV F wdX1_95 (rm := rm_X1_reasonAgainstString) (As := [.int x1, .int x2, .int x3]) (rest := []) ⟨rfl, rfl⟩ ⟨Nat.le_of_ble_eq_true rfl, Nat.le_of_ble_eq_true rfl⟩ hl.1 rfl rfl (Nat.le_of_ble_eq_true rfl) dX1_addString_26 ⟨Nat.zero_le _, Nat.zero_le _⟩) (c_X1_reasonAgainstString l D cI cP a K x1 x2 x3 _ h_4) hX (va_recv hX.1 hP (ci := 1) (q0 := 0) rfl rfl) hP hP hS hA (fun H locs hP hS => ?_)
      refine lv_if_eq (tgt := 35) hx hb dX1_addString_29 (by decide) (fun c_5 => ?_) (fun c_5 => ?_)
      · replace hf := (if_pos c_5).symm.trans hf
        refine lv_aload_n hx hb dX1_addString_35 rfl (lv_at hl 0 rfl) ?_
        refine gX1_38 F hX hP 0 rfl (v := .ref (a 13)) rfl dX1_addString_36 ?_
        refine gX1_100 F hX (va_blk (Bs := (bPar cI a K)) hP 7 rfl) 0 rfl (v := .int (K.2.2.1.2 0)) rfl dX1_addString_39 ?_
        refine lv_bipush (v := 20) hx hb dX1_addString_42 (by decide) ?_
        refine lv_icmp_lt (tgt := 50) hx hb dX1_addString_44 (by decide) (fun c_6 => ?_) (fun c_6 => ?_)
        · replace hf := (if_pos c_6).symm.trans hf
          refine lv_aload_n hx hb dX1_addString_50 rfl (lv_at hl 0 rfl) ?_
          refine gX1_38 F hX hP 0 rfl (v := .ref (a 13)) rfl dX1_addString_51 ?_
          refine lv_iload_n hx hb dX1_addString_54 rfl (lv_at hl 1 rfl) ?_
          refine lv_iload_n hx hb dX1_addString_55 rfl (lv_at hl 2 rfl) ?_
          refine lv_iload_n hx hb dX1_addString_56 rfl (lv_at hl 3 rfl) ?_
          refine lv_iload hx hb dX1_addString_57 (lv_at hl 4 rfl) ?_
          refine k_wi (runVN F hX wdX1_103 (rm := rm_X3_append) (As := [.int x1, .int x2, .int x3, .int x4]) (rest := []) ⟨rfl, rfl⟩ ⟨Nat.le_of_ble_eq_true rfl, Nat.le_of_ble_eq_true rfl⟩ hl.1 rfl rfl (Nat.le_of_ble_eq_true rfl) dX1_addString_59 ⟨Nat.zero_le _, Nat.zero_le _⟩) (c_X3_append l D cI cP (fun k => a (13 + k)) K.2.2.1 x1 x2 x3 x4 _ rfl) hX (va_recv hX.1 (va_blk (Bs := (bPar cI a K)) hP 7 rfl) (ci := 3) (q0 := 0) rfl rfl) (Cut.one (Bs := (bPar cI a K)) (k := 7) rfl rfl) hP hD hS hA (fun H locs hP hD hS => ?_)
          obtain ⟨M_7, e_8, hf⟩ := bnd_e hf
          have hP : va_P D vwCl (wPar cI a M_7) H := by rw [e_8]; exact hP
          have hD : va_D A (wPar cI a M_7) := by rw [e_8]; exact hD
          clear e_8
          refine lv_istore (lv' := [(5, .int ((X3_append K.2.2.1 x1 x2 x3 x4).2)), (0, .ref (a 0)), (1, .int x1), (2, .int x2), (3, .int x3), (4, .int x4)]) hx hb dX1_addString_62 hl (by decide) rfl (fun ls hl => ?_)
          refine lv_aload_n hx hb dX1_addString_64 rfl (lv_at hl 1 rfl) ?_
          obtain ⟨u_9, h_10, hf⟩ := ob hf
          refine k_wv (runV F wdX1_85 (rm := rm_X1_tellGroups) (As := []) (rest := []) ⟨rfl, rfl⟩ ⟨Nat.le_of_ble_eq_true rfl, Nat.le_of_ble_eq_true rfl⟩ hl.1 rfl rfl (Nat.le_of_ble_eq_true rfl) dX1_addString_65 ⟨Nat.zero_le _, Nat.zero_le _⟩) (c_X1_tellGroups l D cI cP a M_7  _ h_10) hX (va_recv hX.1 hP (ci := 1) (q0 := 0) rfl rfl) (Cut.all rfl) hP hD hS hA (fun H locs hP hD hS => ?_)
          have hP : va_P D vwCl (wPar cI a u_9) H := hP
          have hD : va_D A (wPar cI a u_9) := hD
          refine lv_aload_n hx hb dX1_addString_68 rfl (lv_at hl 1 rfl) ?_
          obtain ⟨u_11, h_12, hf⟩ := ob hf
          refine k_wv (runV F wdX1_88 (rm := rm_X1_tellVotes) (As := []) (rest := []) ⟨rfl, rfl⟩ ⟨Nat.le_of_ble_eq_true rfl, Nat.le_of_ble_eq_true rfl⟩ hl.1 rfl rfl (Nat.le_of_ble_eq_true rfl) dX1_addString_69 ⟨Nat.zero_le _, Nat.zero_le _⟩) (c_X1_tellVotes l D cI cP a u_9  _ h_12) hX (va_recv hX.1 hP (ci := 1) (q0 := 0) rfl rfl) (Cut.all rfl) hP hD hS hA (fun H locs hP hD hS => ?_)
          have hP : va_P D vwCl (wPar cI a u_11) H := hP
          have hD : va_D A (wPar cI a u_11) := hD
          refine lv_iload hx hb dX1_addString_72 (lv_at hl 0 rfl) ?_
          obtain rfl := (Option.some.inj hf)
          exact wr_i F rfl hP hS dX1_addString_74
        · replace hf := (if_neg c_6).symm.trans hf
          refine lv_ldc (v := (-1000003)) hx hb hown (hts _ q_503) dX1_addString_47 ?_
          obtain rfl := (Option.some.inj hf)
          exact wr_i F rfl hP hS dX1_addString_49
      · replace hf := (if_neg c_5).symm.trans hf
        refine lv_ldc (v := (-1000002)) hx hb hown (hts _ q_530) dX1_addString_32 ?_
        obtain rfl := (Option.some.inj hf)
        exact wr_i F rfl hP hS dX1_addString_34
    · replace hf := (if_pos c_2).symm.trans hf
      refine lv_ldc (v := (-1000001)) hx hb hown (hts _ q_396) dX1_addString_19 ?_
      obtain rfl := (Option.some.inj hf)
      exact wr_i F rfl hP hS dX1_addString_21
def X1_cutString (K : SPar) (x1 : Int32) : Option (SPar × Int32) := (if (X3_has K.2.2.1 x1) = 0 then some (K, (-1000001)) else ((X3_removeAt K.2.2.1 x1).bind fun u_2 => (bnd (K.1, K.2.1, u_2, K.2.2.2) fun M_4 => ((X1_tellGroups M_4).bind fun u_6 => ((X1_tellVotes u_6).bind fun u_8 => some (u_8, (u_8.2.2.1.2 0)))))))
abbrev rm_X1_cutString : Room := { frames := 3, cells := 0, slots := 0, locals := 70 }
set_option maxHeartbeats 4000000 in
set_option maxRecDepth 100000 in
theorem c_X1_cutString (l : Launch) (D : va_G) (cI cP : ClassId) (a : Nat → Nat) (K : SPar) (x1 : Int32) (z : SPar × Int32) (hf : X1_cutString K x1 = some z) : MWi l yX1_cutString cX1_cutString 2 (some .int) rm_X1_cutString D cI cP [.ref (a 0), .int x1] (wPar cI a K) (wPar cI a z.1) z.2 := by
  refine MWi.of (by decide +kernel) (Nat.le_of_ble_eq_true rfl) ?_
  intro p e s m args below meth c ls A F hX hP hD hA hS hl
  have F : Fx p s m args meth c RX1 cX1_cutString 2 (some .int) := F
  have hx := F.1
  have hb := F.2.1
  have hown := F.2.2.2.1
  have hts := F.2.2.2.2.1
  have hl : lv_has ls 2 [(0, .ref (a 0)), (1, .int x1)] := hl
  unfold X1_cutString at hf
  refine lv_aload_n hx hb dX1_cutString_0 rfl (lv_at hl 0 rfl) ?_
  refine gX1_38 F hX hP 0 rfl (v := .ref (a 13)) rfl dX1_cutString_1 ?_
  refine lv_iload_n hx hb dX1_cutString_4 rfl (lv_at hl 1 rfl) ?_
  refine k_rd (runVN F hX wdX1_107 (rm := rm_X3_has) (As := [.int x1]) (rest := []) ⟨rfl, rfl⟩ ⟨Nat.le_of_ble_eq_true rfl, Nat.le_of_ble_eq_true rfl⟩ hl.1 rfl rfl (Nat.le_of_ble_eq_true rfl) dX1_cutString_5 ⟨Nat.zero_le _, Nat.zero_le _⟩) (c_X3_has l D cI cP (fun k => a (13 + k)) K.2.2.1 x1 _ rfl) hX (va_recv hX.1 (va_blk (Bs := (bPar cI a K)) hP 7 rfl) (ci := 3) (q0 := 0) rfl rfl) (va_blk (Bs := (bPar cI a K)) hP 7 rfl) hP hS hA (fun H locs hP hS => ?_)
  refine lv_if_ne (tgt := 14) hx hb dX1_cutString_8 (by decide) (fun c_1 => ?_) (fun c_1 => ?_)
  · replace hf := (if_neg c_1).symm.trans hf
    refine lv_aload_n hx hb dX1_cutString_14 rfl (lv_at hl 0 rfl) ?_
    refine gX1_38 F hX hP 0 rfl (v := .ref (a 13)) rfl dX1_cutString_15 ?_
    refine lv_iload_n hx hb dX1_cutString_18 rfl (lv_at hl 1 rfl) ?_
    obtain ⟨u_2, h_3, hf⟩ := ob hf
    refine k_wv (runVN F hX wdX1_111 (rm := rm_X3_removeAt) (As := [.int x1]) (rest := []) ⟨rfl, rfl⟩ ⟨Nat.le_of_ble_eq_true rfl, Nat.le_of_ble_eq_true rfl⟩ hl.1 rfl rfl (Nat.le_of_ble_eq_true rfl) dX1_cutString_19 ⟨Nat.zero_le _, Nat.zero_le _⟩) (c_X3_removeAt l D cI cP (fun k => a (13 + k)) K.2.2.1 x1 _ h_3) hX (va_recv hX.1 (va_blk (Bs := (bPar cI a K)) hP 7 rfl) (ci := 3) (q0 := 0) rfl rfl) (Cut.one (Bs := (bPar cI a K)) (k := 7) rfl rfl) hP hD hS hA (fun H locs hP hD hS => ?_)
    obtain ⟨M_4, e_5, hf⟩ := bnd_e hf
    have hP : va_P D vwCl (wPar cI a M_4) H := by rw [e_5]; exact hP
    have hD : va_D A (wPar cI a M_4) := by rw [e_5]; exact hD
    clear e_5
    refine lv_aload_n hx hb dX1_cutString_22 rfl (lv_at hl 0 rfl) ?_
    obtain ⟨u_6, h_7, hf⟩ := ob hf
    refine k_wv (runV F wdX1_85 (rm := rm_X1_tellGroups) (As := []) (rest := []) ⟨rfl, rfl⟩ ⟨Nat.le_of_ble_eq_true rfl, Nat.le_of_ble_eq_true rfl⟩ hl.1 rfl rfl (Nat.le_of_ble_eq_true rfl) dX1_cutString_23 ⟨Nat.zero_le _, Nat.zero_le _⟩) (c_X1_tellGroups l D cI cP a M_4  _ h_7) hX (va_recv hX.1 hP (ci := 1) (q0 := 0) rfl rfl) (Cut.all rfl) hP hD hS hA (fun H locs hP hD hS => ?_)
    have hP : va_P D vwCl (wPar cI a u_6) H := hP
    have hD : va_D A (wPar cI a u_6) := hD
    refine lv_aload_n hx hb dX1_cutString_26 rfl (lv_at hl 0 rfl) ?_
    obtain ⟨u_8, h_9, hf⟩ := ob hf
    refine k_wv (runV F wdX1_88 (rm := rm_X1_tellVotes) (As := []) (rest := []) ⟨rfl, rfl⟩ ⟨Nat.le_of_ble_eq_true rfl, Nat.le_of_ble_eq_true rfl⟩ hl.1 rfl rfl (Nat.le_of_ble_eq_true rfl) dX1_cutString_27 ⟨Nat.zero_le _, Nat.zero_le _⟩) (c_X1_tellVotes l D cI cP a u_6  _ h_9) hX (va_recv hX.1 hP (ci := 1) (q0 := 0) rfl rfl) (Cut.all rfl) hP hD hS hA (fun H locs hP hD hS => ?_)
    have hP : va_P D vwCl (wPar cI a u_8) H := hP
    have hD : va_D A (wPar cI a u_8) := hD
    refine lv_aload_n hx hb dX1_cutString_30 rfl (lv_at hl 0 rfl) ?_
    refine gX1_38 F hX hP 0 rfl (v := .ref (a 13)) rfl dX1_cutString_31 ?_
    refine gX1_100 F hX (va_blk (Bs := (bPar cI a u_8)) hP 7 rfl) 0 rfl (v := .int (u_8.2.2.1.2 0)) rfl dX1_cutString_34 ?_
    obtain rfl := (Option.some.inj hf)
    exact wr_i F rfl hP hS dX1_cutString_37
  · replace hf := (if_pos c_1).symm.trans hf
    refine lv_ldc (v := (-1000001)) hx hb hown (hts _ q_396) dX1_cutString_11 ?_
    obtain rfl := (Option.some.inj hf)
    exact wr_i F rfl hP hS dX1_cutString_13
def X1_cutStringsOf (K : SPar) (x1 : Int32) : Option (SPar × Int32) := (if (X6_isIn x1 0 5) = 0 then some (K, (-1000001)) else ((X3_removeAllOf K.2.2.1 x1).bind fun u_2 => (bnd (K.1, K.2.1, u_2.1, K.2.2.2) fun M_4 => (if u_2.2 = 0 then some (M_4, (-1000002)) else ((X1_tellGroups M_4).bind fun u_7 => ((X1_tellVotes u_7).bind fun u_9 => some (u_9, u_2.2)))))))
abbrev rm_X1_cutStringsOf : Room := { frames := 3, cells := 0, slots := 0, locals := 70 }
set_option maxHeartbeats 4000000 in
set_option maxRecDepth 100000 in
theorem c_X1_cutStringsOf (l : Launch) (D : va_G) (cI cP : ClassId) (a : Nat → Nat) (K : SPar) (x1 : Int32) (z : SPar × Int32) (hf : X1_cutStringsOf K x1 = some z) : MWi l yX1_cutStringsOf cX1_cutStringsOf 3 (some .int) rm_X1_cutStringsOf D cI cP [.ref (a 0), .int x1] (wPar cI a K) (wPar cI a z.1) z.2 := by
  refine MWi.of (by decide +kernel) (Nat.le_of_ble_eq_true rfl) ?_
  intro p e s m args below meth c ls A F hX hP hD hA hS hl
  have F : Fx p s m args meth c RX1 cX1_cutStringsOf 3 (some .int) := F
  have hx := F.1
  have hb := F.2.1
  have hown := F.2.2.2.1
  have hts := F.2.2.2.2.1
  have hl : lv_has ls 3 [(0, .ref (a 0)), (1, .int x1)] := hl
  unfold X1_cutStringsOf at hf
  refine lv_iload_n hx hb dX1_cutStringsOf_0 rfl (lv_at hl 1 rfl) ?_
  refine lv_iconst (v := 0) hx hb dX1_cutStringsOf_1 (by decide) ?_
  refine lv_iconst (v := 5) hx hb dX1_cutStringsOf_2 (by decide) ?_
  refine k_rd (runSN F hX wdX1_75 (rm := rm_X6_isIn) (As := [.int x1, .int 0, .int 5]) (rest := []) ⟨rfl, rfl⟩ ⟨Nat.le_of_ble_eq_true rfl, Nat.le_of_ble_eq_true rfl⟩ hl.1 rfl rfl (Nat.le_of_ble_eq_true rfl) dX1_cutStringsOf_3 ⟨Nat.zero_le _, Nat.zero_le _⟩) (c_X6_isIn l D cI cP x1 0 5 _ rfl) hX trivial vP_nil hP hS hA (fun H locs hP hS => ?_)
  refine lv_if_ne (tgt := 12) hx hb dX1_cutStringsOf_6 (by decide) (fun c_1 => ?_) (fun c_1 => ?_)
  · replace hf := (if_neg c_1).symm.trans hf
    refine lv_aload_n hx hb dX1_cutStringsOf_12 rfl (lv_at hl 0 rfl) ?_
    refine gX1_38 F hX hP 0 rfl (v := .ref (a 13)) rfl dX1_cutStringsOf_13 ?_
    refine lv_iload_n hx hb dX1_cutStringsOf_16 rfl (lv_at hl 1 rfl) ?_
    obtain ⟨u_2, h_3, hf⟩ := ob hf
    refine k_wi (runVN F hX wdX1_114 (rm := rm_X3_removeAllOf) (As := [.int x1]) (rest := []) ⟨rfl, rfl⟩ ⟨Nat.le_of_ble_eq_true rfl, Nat.le_of_ble_eq_true rfl⟩ hl.1 rfl rfl (Nat.le_of_ble_eq_true rfl) dX1_cutStringsOf_17 ⟨Nat.zero_le _, Nat.zero_le _⟩) (c_X3_removeAllOf l D cI cP (fun k => a (13 + k)) K.2.2.1 x1 _ h_3) hX (va_recv hX.1 (va_blk (Bs := (bPar cI a K)) hP 7 rfl) (ci := 3) (q0 := 0) rfl rfl) (Cut.one (Bs := (bPar cI a K)) (k := 7) rfl rfl) hP hD hS hA (fun H locs hP hD hS => ?_)
    obtain ⟨M_4, e_5, hf⟩ := bnd_e hf
    have hP : va_P D vwCl (wPar cI a M_4) H := by rw [e_5]; exact hP
    have hD : va_D A (wPar cI a M_4) := by rw [e_5]; exact hD
    clear e_5
    refine lv_istore_n (lv' := [(2, .int u_2.2), (0, .ref (a 0)), (1, .int x1)]) hx hb dX1_cutStringsOf_20 rfl hl (by decide) rfl (fun ls hl => ?_)
    refine lv_iload_n hx hb dX1_cutStringsOf_21 rfl (lv_at hl 0 rfl) ?_
    refine lv_if_ne (tgt := 28) hx hb dX1_cutStringsOf_22 (by decide) (fun c_6 => ?_) (fun c_6 => ?_)
    · replace hf := (if_neg c_6).symm.trans hf
      refine lv_aload_n hx hb dX1_cutStringsOf_28 rfl (lv_at hl 1 rfl) ?_
      obtain ⟨u_7, h_8, hf⟩ := ob hf
      refine k_wv (runV F wdX1_85 (rm := rm_X1_tellGroups) (As := []) (rest := []) ⟨rfl, rfl⟩ ⟨Nat.le_of_ble_eq_true rfl, Nat.le_of_ble_eq_true rfl⟩ hl.1 rfl rfl (Nat.le_of_ble_eq_true rfl) dX1_cutStringsOf_29 ⟨Nat.zero_le _, Nat.zero_le _⟩) (c_X1_tellGroups l D cI cP a M_4  _ h_8) hX (va_recv hX.1 hP (ci := 1) (q0 := 0) rfl rfl) (Cut.all rfl) hP hD hS hA (fun H locs hP hD hS => ?_)
      have hP : va_P D vwCl (wPar cI a u_7) H := hP
      have hD : va_D A (wPar cI a u_7) := hD
      refine lv_aload_n hx hb dX1_cutStringsOf_32 rfl (lv_at hl 1 rfl) ?_
      obtain ⟨u_9, h_10, hf⟩ := ob hf
      refine k_wv (runV F wdX1_88 (rm := rm_X1_tellVotes) (As := []) (rest := []) ⟨rfl, rfl⟩ ⟨Nat.le_of_ble_eq_true rfl, Nat.le_of_ble_eq_true rfl⟩ hl.1 rfl rfl (Nat.le_of_ble_eq_true rfl) dX1_cutStringsOf_33 ⟨Nat.zero_le _, Nat.zero_le _⟩) (c_X1_tellVotes l D cI cP a u_7  _ h_10) hX (va_recv hX.1 hP (ci := 1) (q0 := 0) rfl rfl) (Cut.all rfl) hP hD hS hA (fun H locs hP hD hS => ?_)
      have hP : va_P D vwCl (wPar cI a u_9) H := hP
      have hD : va_D A (wPar cI a u_9) := hD
      refine lv_iload_n hx hb dX1_cutStringsOf_36 rfl (lv_at hl 0 rfl) ?_
      obtain rfl := (Option.some.inj hf)
      exact wr_i F rfl hP hS dX1_cutStringsOf_37
    · replace hf := (if_pos c_6).symm.trans hf
      refine lv_ldc (v := (-1000002)) hx hb hown (hts _ q_530) dX1_cutStringsOf_25 ?_
      obtain rfl := (Option.some.inj hf)
      exact wr_i F rfl hP hS dX1_cutStringsOf_27
  · replace hf := (if_pos c_1).symm.trans hf
    refine lv_ldc (v := (-1000001)) hx hb hown (hts _ q_396) dX1_cutStringsOf_9 ?_
    obtain rfl := (Option.some.inj hf)
    exact wr_i F rfl hP hS dX1_cutStringsOf_11
def X1_pullTo (K : SPar) (x1 : Int32) (x2 : Int32) : Option (SPar × Int32) := (if (X1_hasPuppet K x1) = 0 then some (K, (-1000001)) else (if (X6_isIn x2 0 1) = 0 then some (K, (-1000001)) else ((X1_reasonAgainstPull K x1 x2).bind fun u_3 => (if u_3 = 0 then (bnd ((up K.1 2 (rput 12 (K.1 2) x1 x2)), K.2.1, K.2.2.1, K.2.2.2) fun M_6 => ((X1_tellVotes M_6).bind fun u_8 => some (u_8, (u_8.2.1 4)))) else some (K, (-1000002))))))
abbrev rm_X1_pullTo : Room := { frames := 3, cells := 0, slots := 0, locals := 68 }
set_option maxHeartbeats 4000000 in
set_option maxRecDepth 100000 in
theorem c_X1_pullTo (l : Launch) (D : va_G) (cI cP : ClassId) (a : Nat → Nat) (K : SPar) (x1 : Int32) (x2 : Int32) (z : SPar × Int32) (hf : X1_pullTo K x1 x2 = some z) : MWi l yX1_pullTo cX1_pullTo 3 (some .int) rm_X1_pullTo D cI cP [.ref (a 0), .int x1, .int x2] (wPar cI a K) (wPar cI a z.1) z.2 := by
  refine MWi.of (by decide +kernel) (Nat.le_of_ble_eq_true rfl) ?_
  intro p e s m args below meth c ls A F hX hP hD hA hS hl
  have F : Fx p s m args meth c RX1 cX1_pullTo 3 (some .int) := F
  have hx := F.1
  have hb := F.2.1
  have hown := F.2.2.2.1
  have hts := F.2.2.2.2.1
  have hl : lv_has ls 3 [(0, .ref (a 0)), (1, .int x1), (2, .int x2)] := hl
  unfold X1_pullTo at hf
  refine lv_aload_n hx hb dX1_pullTo_0 rfl (lv_at hl 0 rfl) ?_
  refine lv_iload_n hx hb dX1_pullTo_1 rfl (lv_at hl 1 rfl) ?_
  refine k_rd (runV F wdX1_118 (rm := rm_X1_hasPuppet) (As := [.int x1]) (rest := []) ⟨rfl, rfl⟩ ⟨Nat.le_of_ble_eq_true rfl, Nat.le_of_ble_eq_true rfl⟩ hl.1 rfl rfl (Nat.le_of_ble_eq_true rfl) dX1_pullTo_2 ⟨Nat.zero_le _, Nat.zero_le _⟩) (c_X1_hasPuppet l D cI cP a K x1 _ rfl) hX (va_recv hX.1 hP (ci := 1) (q0 := 0) rfl rfl) hP hP hS hA (fun H locs hP hS => ?_)
  refine lv_if_eq (tgt := 17) hx hb dX1_pullTo_5 (by decide) (fun c_1 => ?_) (fun c_1 => ?_)
  · replace hf := (if_pos c_1).symm.trans hf
    refine lv_ldc (v := (-1000001)) hx hb hown (hts _ q_396) dX1_pullTo_17 ?_
    obtain rfl := (Option.some.inj hf)
    exact wr_i F rfl hP hS dX1_pullTo_19
  · replace hf := (if_neg c_1).symm.trans hf
    refine lv_iload_n hx hb dX1_pullTo_8 rfl (lv_at hl 2 rfl) ?_
    refine lv_iconst (v := 0) hx hb dX1_pullTo_9 (by decide) ?_
    refine lv_iconst (v := 1) hx hb dX1_pullTo_10 (by decide) ?_
    refine k_rd (runSN F hX wdX1_75 (rm := rm_X6_isIn) (As := [.int x2, .int 0, .int 1]) (rest := []) ⟨rfl, rfl⟩ ⟨Nat.le_of_ble_eq_true rfl, Nat.le_of_ble_eq_true rfl⟩ hl.1 rfl rfl (Nat.le_of_ble_eq_true rfl) dX1_pullTo_11 ⟨Nat.zero_le _, Nat.zero_le _⟩) (c_X6_isIn l D cI cP x2 0 1 _ rfl) hX trivial vP_nil hP hS hA (fun H locs hP hS => ?_)
    refine lv_if_ne (tgt := 20) hx hb dX1_pullTo_14 (by decide) (fun c_2 => ?_) (fun c_2 => ?_)
    · replace hf := (if_neg c_2).symm.trans hf
      refine lv_aload_n hx hb dX1_pullTo_20 rfl (lv_at hl 0 rfl) ?_
      refine lv_iload_n hx hb dX1_pullTo_21 rfl (lv_at hl 1 rfl) ?_
      refine lv_iload_n hx hb dX1_pullTo_22 rfl (lv_at hl 2 rfl) ?_
      obtain ⟨u_3, h_4, hf⟩ := ob hf
      refine k_rd (runV F wdX1_121 (rm := rm_X1_reasonAgainstPull) (As := [.int x1, .int x2]) (rest := []) ⟨rfl, rfl⟩ ⟨Nat.le_of_ble_eq_true rfl, Nat.le_of_ble_eq_true rfl⟩ hl.1 rfl rfl (Nat.le_of_ble_eq_true rfl) dX1_pullTo_23 ⟨Nat.zero_le _, Nat.zero_le _⟩) (c_X1_reasonAgainstPull l D cI cP a K x1 x2 _ h_4) hX (va_recv hX.1 hP (ci := 1) (q0 := 0) rfl rfl) hP hP hS hA (fun H locs hP hS => ?_)
      refine lv_if_eq (tgt := 32) hx hb dX1_pullTo_26 (by decide) (fun c_5 => ?_) (fun c_5 => ?_)
      · replace hf := (if_pos c_5).symm.trans hf
        refine lv_aload_n hx hb dX1_pullTo_32 rfl (lv_at hl 0 rfl) ?_
        refine gX1_23 F hX hP 0 rfl (v := .ref (a 5)) rfl dX1_pullTo_33 ?_
        refine lv_iload_n hx hb dX1_pullTo_36 rfl (lv_at hl 1 rfl) ?_
        refine lv_iload_n hx hb dX1_pullTo_37 rfl (lv_at hl 2 rfl) ?_
        refine k_wv (runVN F hX wdX1_81 (rm := rm_X2_put) (As := [.int x1, .int x2]) (rest := []) ⟨rfl, rfl⟩ ⟨Nat.le_of_ble_eq_true rfl, Nat.le_of_ble_eq_true rfl⟩ hl.1 rfl rfl (Nat.le_of_ble_eq_true rfl) dX1_pullTo_38 ⟨Nat.zero_le _, Nat.zero_le _⟩) (k_rput l D cI cP (a 5) (a 6) 12 (by decide) (K.1 2) x1 x2) hX (va_recv hX.1 (va_blk (Bs := (bPar cI a K)) hP 3 rfl) (ci := 2) (q0 := 0) rfl rfl) (Cut.one (Bs := (bPar cI a K)) (k := 3) rfl rfl) hP hD hS hA (fun H locs hP hD hS => ?_)
        obtain ⟨M_6, e_7, hf⟩ := bnd_e hf
        have hP : va_P D vwCl (wPar cI a M_6) H := by rw [e_7]; exact hP
        have hD : va_D A (wPar cI a M_6) := by rw [e_7]; exact hD
        clear e_7
        refine lv_aload_n hx hb dX1_pullTo_41 rfl (lv_at hl 0 rfl) ?_
        obtain ⟨u_8, h_9, hf⟩ := ob hf
        refine k_wv (runV F wdX1_88 (rm := rm_X1_tellVotes) (As := []) (rest := []) ⟨rfl, rfl⟩ ⟨Nat.le_of_ble_eq_true rfl, Nat.le_of_ble_eq_true rfl⟩ hl.1 rfl rfl (Nat.le_of_ble_eq_true rfl) dX1_pullTo_42 ⟨Nat.zero_le _, Nat.zero_le _⟩) (c_X1_tellVotes l D cI cP a M_6  _ h_9) hX (va_recv hX.1 hP (ci := 1) (q0 := 0) rfl rfl) (Cut.all rfl) hP hD hS hA (fun H locs hP hD hS => ?_)
        have hP : va_P D vwCl (wPar cI a u_8) H := hP
        have hD : va_D A (wPar cI a u_8) := hD
        refine lv_aload_n hx hb dX1_pullTo_45 rfl (lv_at hl 0 rfl) ?_
        refine gX1_72 F hX hP 0 rfl (v := .int (u_8.2.1 4)) rfl dX1_pullTo_46 ?_
        obtain rfl := (Option.some.inj hf)
        exact wr_i F rfl hP hS dX1_pullTo_49
      · replace hf := (if_neg c_5).symm.trans hf
        refine lv_ldc (v := (-1000002)) hx hb hown (hts _ q_530) dX1_pullTo_29 ?_
        obtain rfl := (Option.some.inj hf)
        exact wr_i F rfl hP hS dX1_pullTo_31
    · replace hf := (if_pos c_2).symm.trans hf
      refine lv_ldc (v := (-1000001)) hx hb hown (hts _ q_396) dX1_pullTo_17 ?_
      obtain rfl := (Option.some.inj hf)
      exact wr_i F rfl hP hS dX1_pullTo_19
def X1_letGo (K : SPar) (x1 : Int32) : Option (SPar × Int32) := (if (X1_hasPuppet K x1) = 0 then some (K, (-1000001)) else (if (X1_isPulled K x1) = 0 then some (K, (-1000002)) else (bnd ((up K.1 2 (rput 12 (K.1 2) x1 (-1))), K.2.1, K.2.2.1, K.2.2.2) fun M_3 => ((X1_tellVotes M_3).bind fun u_5 => some (u_5, (rget 12 (K.1 2) x1))))))
abbrev rm_X1_letGo : Room := { frames := 3, cells := 0, slots := 0, locals := 68 }
set_option maxHeartbeats 4000000 in
set_option maxRecDepth 100000 in
theorem c_X1_letGo (l : Launch) (D : va_G) (cI cP : ClassId) (a : Nat → Nat) (K : SPar) (x1 : Int32) (z : SPar × Int32) (hf : X1_letGo K x1 = some z) : MWi l yX1_letGo cX1_letGo 3 (some .int) rm_X1_letGo D cI cP [.ref (a 0), .int x1] (wPar cI a K) (wPar cI a z.1) z.2 := by
  refine MWi.of (by decide +kernel) (Nat.le_of_ble_eq_true rfl) ?_
  intro p e s m args below meth c ls A F hX hP hD hA hS hl
  have F : Fx p s m args meth c RX1 cX1_letGo 3 (some .int) := F
  have hx := F.1
  have hb := F.2.1
  have hown := F.2.2.2.1
  have hts := F.2.2.2.2.1
  have hl : lv_has ls 3 [(0, .ref (a 0)), (1, .int x1)] := hl
  unfold X1_letGo at hf
  refine lv_aload_n hx hb dX1_letGo_0 rfl (lv_at hl 0 rfl) ?_
  refine lv_iload_n hx hb dX1_letGo_1 rfl (lv_at hl 1 rfl) ?_
  refine k_rd (runV F wdX1_118 (rm := rm_X1_hasPuppet) (As := [.int x1]) (rest := []) ⟨rfl, rfl⟩ ⟨Nat.le_of_ble_eq_true rfl, Nat.le_of_ble_eq_true rfl⟩ hl.1 rfl rfl (Nat.le_of_ble_eq_true rfl) dX1_letGo_2 ⟨Nat.zero_le _, Nat.zero_le _⟩) (c_X1_hasPuppet l D cI cP a K x1 _ rfl) hX (va_recv hX.1 hP (ci := 1) (q0 := 0) rfl rfl) hP hP hS hA (fun H locs hP hS => ?_)
  refine lv_if_ne (tgt := 11) hx hb dX1_letGo_5 (by decide) (fun c_1 => ?_) (fun c_1 => ?_)
  · replace hf := (if_neg c_1).symm.trans hf
    refine lv_aload_n hx hb dX1_letGo_11 rfl (lv_at hl 0 rfl) ?_
    refine lv_iload_n hx hb dX1_letGo_12 rfl (lv_at hl 1 rfl) ?_
    refine k_rd (runV F wdX1_125 (rm := rm_X1_isPulled) (As := [.int x1]) (rest := []) ⟨rfl, rfl⟩ ⟨Nat.le_of_ble_eq_true rfl, Nat.le_of_ble_eq_true rfl⟩ hl.1 rfl rfl (Nat.le_of_ble_eq_true rfl) dX1_letGo_13 ⟨Nat.zero_le _, Nat.zero_le _⟩) (c_X1_isPulled l D cI cP a K x1 _ rfl) hX (va_recv hX.1 hP (ci := 1) (q0 := 0) rfl rfl) hP hP hS hA (fun H locs hP hS => ?_)
    refine lv_if_ne (tgt := 22) hx hb dX1_letGo_16 (by decide) (fun c_2 => ?_) (fun c_2 => ?_)
    · replace hf := (if_neg c_2).symm.trans hf
      refine lv_aload_n hx hb dX1_letGo_22 rfl (lv_at hl 0 rfl) ?_
      refine gX1_23 F hX hP 0 rfl (v := .ref (a 5)) rfl dX1_letGo_23 ?_
      refine lv_iload_n hx hb dX1_letGo_26 rfl (lv_at hl 1 rfl) ?_
      refine k_rd (runVN F hX wdX1_128 (rm := rm_X2_get) (As := [.int x1]) (rest := []) ⟨rfl, rfl⟩ ⟨Nat.le_of_ble_eq_true rfl, Nat.le_of_ble_eq_true rfl⟩ hl.1 rfl rfl (Nat.le_of_ble_eq_true rfl) dX1_letGo_27 ⟨Nat.zero_le _, Nat.zero_le _⟩) (k_rget l D cI cP (a 5) (a 6) 12 (by decide) (K.1 2) x1) hX (va_recv hX.1 (va_blk (Bs := (bPar cI a K)) hP 3 rfl) (ci := 2) (q0 := 0) rfl rfl) (va_blk (Bs := (bPar cI a K)) hP 3 rfl) hP hS hA (fun H locs hP hS => ?_)
      refine lv_istore_n (lv' := [(2, .int (rget 12 (K.1 2) x1)), (0, .ref (a 0)), (1, .int x1)]) hx hb dX1_letGo_30 rfl hl (by decide) rfl (fun ls hl => ?_)
      refine lv_aload_n hx hb dX1_letGo_31 rfl (lv_at hl 1 rfl) ?_
      refine gX1_23 F hX hP 0 rfl (v := .ref (a 5)) rfl dX1_letGo_32 ?_
      refine lv_iload_n hx hb dX1_letGo_35 rfl (lv_at hl 2 rfl) ?_
      refine lv_iconst (v := (-1)) hx hb dX1_letGo_36 (by decide) ?_
      refine k_wv (runVN F hX wdX1_81 (rm := rm_X2_put) (As := [.int x1, .int (-1)]) (rest := []) ⟨rfl, rfl⟩ ⟨Nat.le_of_ble_eq_true rfl, Nat.le_of_ble_eq_true rfl⟩ hl.1 rfl rfl (Nat.le_of_ble_eq_true rfl) dX1_letGo_37 ⟨Nat.zero_le _, Nat.zero_le _⟩) (k_rput l D cI cP (a 5) (a 6) 12 (by decide) (K.1 2) x1 (-1)) hX (va_recv hX.1 (va_blk (Bs := (bPar cI a K)) hP 3 rfl) (ci := 2) (q0 := 0) rfl rfl) (Cut.one (Bs := (bPar cI a K)) (k := 3) rfl rfl) hP hD hS hA (fun H locs hP hD hS => ?_)
      obtain ⟨M_3, e_4, hf⟩ := bnd_e hf
      have hP : va_P D vwCl (wPar cI a M_3) H := by rw [e_4]; exact hP
      have hD : va_D A (wPar cI a M_3) := by rw [e_4]; exact hD
      clear e_4
      refine lv_aload_n hx hb dX1_letGo_40 rfl (lv_at hl 1 rfl) ?_
      obtain ⟨u_5, h_6, hf⟩ := ob hf
      refine k_wv (runV F wdX1_88 (rm := rm_X1_tellVotes) (As := []) (rest := []) ⟨rfl, rfl⟩ ⟨Nat.le_of_ble_eq_true rfl, Nat.le_of_ble_eq_true rfl⟩ hl.1 rfl rfl (Nat.le_of_ble_eq_true rfl) dX1_letGo_41 ⟨Nat.zero_le _, Nat.zero_le _⟩) (c_X1_tellVotes l D cI cP a M_3  _ h_6) hX (va_recv hX.1 hP (ci := 1) (q0 := 0) rfl rfl) (Cut.all rfl) hP hD hS hA (fun H locs hP hD hS => ?_)
      have hP : va_P D vwCl (wPar cI a u_5) H := hP
      have hD : va_D A (wPar cI a u_5) := hD
      refine lv_iload_n hx hb dX1_letGo_44 rfl (lv_at hl 0 rfl) ?_
      obtain rfl := (Option.some.inj hf)
      exact wr_i F rfl hP hS dX1_letGo_45
    · replace hf := (if_pos c_2).symm.trans hf
      refine lv_ldc (v := (-1000002)) hx hb hown (hts _ q_530) dX1_letGo_19 ?_
      obtain rfl := (Option.some.inj hf)
      exact wr_i F rfl hP hS dX1_letGo_21
  · replace hf := (if_pos c_1).symm.trans hf
    refine lv_ldc (v := (-1000001)) hx hb hown (hts _ q_396) dX1_letGo_8 ?_
    obtain rfl := (Option.some.inj hf)
    exact wr_i F rfl hP hS dX1_letGo_10
def X1_holdSession_J67 (K_67 : SPar) (x1_67 : Int32) (t0_67 : Int32) (t1_67 : Int32) : Int32 := (if t0_67 ≤ t1_67 then 0 else ((K_67.2.1 1) + 1))
def X1_holdSession_L85 : Nat → SPar → Int32 → Int32 → Option (SPar)
  | 0, _, _, _ => none
  | fu + 1, K_85, x1_85, x2_85 => (if (K_85.2.1 0) ≤ x2_85 then some K_85 else (bnd ((up K_85.1 2 (rput 12 (K_85.1 2) x2_85 (-1))), K_85.2.1, K_85.2.2.1, K_85.2.2.2) fun M_11 => X1_holdSession_L85 fu M_11 x1_85 (x2_85 + 1)))
def X1_holdSession (K : SPar) : Option (SPar × Int32) := (if 0 < (K.2.1 0) then (if (K.2.2.2.2 0) < 999 then ((X0_enter K.2.2.2 (K.2.1 4) ((K.2.1 3) - (K.2.1 4)) (X1_wouldPass K) (K.2.1 1)).bind fun u_3 => (bnd (K.1, K.2.1, K.2.2.1, u_3) fun M_5 => (bnd (M_5.1, (up M_5.2.1 1 (X1_holdSession_J67 M_5 (X1_wouldPass K) (M_5.2.1 0) ((M_5.2.1 1) + 1))), M_5.2.2.1, M_5.2.2.2) fun M_8 => ((X1_holdSession_L85 FUEL M_8 (X1_wouldPass K) 0).bind fun u_13 => ((X1_tellVotes u_13).bind fun u_15 => some (u_15, (X1_wouldPass K))))))) else some (K, (-1000003))) else some (K, (-1000002)))
abbrev rm_X1_holdSession : Room := { frames := 3, cells := 0, slots := 0, locals := 68 }
set_option maxHeartbeats 4000000 in
set_option maxRecDepth 100000 in
theorem c_X1_holdSession (l : Launch) (D : va_G) (cI cP : ClassId) (a : Nat → Nat) (K : SPar) (z : SPar × Int32) (hf : X1_holdSession K  = some z) : MWi l yX1_holdSession cX1_holdSession 3 (some .int) rm_X1_holdSession D cI cP [.ref (a 0)] (wPar cI a K) (wPar cI a z.1) z.2 := by
  refine MWi.of (by decide +kernel) (Nat.le_of_ble_eq_true rfl) ?_
  intro p e s m args below meth c ls A F hX hP hD hA hS hl
  have F : Fx p s m args meth c RX1 cX1_holdSession 3 (some .int) := F
  have hx := F.1
  have hb := F.2.1
  have hown := F.2.2.2.1
  have hts := F.2.2.2.2.1
  have hl : lv_has ls 3 [(0, .ref (a 0))] := hl
  unfold X1_holdSession at hf
  refine lv_aload_n hx hb dX1_holdSession_0 rfl (lv_at hl 0 rfl) ?_
  refine gX1_63 F hX hP 0 rfl (v := .int (K.2.1 0)) rfl dX1_holdSession_1 ?_
  refine lv_if_gt (tgt := 10) hx hb dX1_holdSession_4 (by decide) (fun c_1 => ?_) (fun c_1 => ?_)
  · replace hf := (if_pos c_1).symm.trans hf
    refine lv_aload_n hx hb dX1_holdSession_10 rfl (lv_at hl 0 rfl) ?_
    refine gX1_45 F hX hP 0 rfl (v := .ref (a 22)) rfl dX1_holdSession_11 ?_
    refine gX1_131 F hX (va_blk (Bs := (bPar cI a K)) hP 8 rfl) 0 rfl (v := .int (K.2.2.2.2 0)) rfl dX1_holdSession_14 ?_
    refine lv_sipush (v := 999) hx hb dX1_holdSession_17 (by decide) ?_
    refine lv_icmp_lt (tgt := 26) hx hb dX1_holdSession_20 (by decide) (fun c_2 => ?_) (fun c_2 => ?_)
    · replace hf := (if_pos c_2).symm.trans hf
      refine lv_aload_n hx hb dX1_holdSession_26 rfl (lv_at hl 0 rfl) ?_
      refine k_rd (runV F wdX1_134 (rm := rm_X1_wouldPass) (As := []) (rest := []) ⟨rfl, rfl⟩ ⟨Nat.le_of_ble_eq_true rfl, Nat.le_of_ble_eq_true rfl⟩ hl.1 rfl rfl (Nat.le_of_ble_eq_true rfl) dX1_holdSession_27 ⟨Nat.zero_le _, Nat.zero_le _⟩) (c_X1_wouldPass l D cI cP a K  _ rfl) hX (va_recv hX.1 hP (ci := 1) (q0 := 0) rfl rfl) hP hP hS hA (fun H locs hP hS => ?_)
      refine lv_istore_n (lv' := [(1, .int (X1_wouldPass K)), (0, .ref (a 0))]) hx hb dX1_holdSession_30 rfl hl (by decide) rfl (fun ls hl => ?_)
      refine lv_aload_n hx hb dX1_holdSession_31 rfl (lv_at hl 1 rfl) ?_
      refine gX1_45 F hX hP 0 rfl (v := .ref (a 22)) rfl dX1_holdSession_32 ?_
      refine lv_aload_n hx hb dX1_holdSession_35 rfl (lv_at hl 1 rfl) ?_
      refine gX1_72 F hX hP 0 rfl (v := .int (K.2.1 4)) rfl dX1_holdSession_36 ?_
      refine lv_aload_n hx hb dX1_holdSession_39 rfl (lv_at hl 1 rfl) ?_
      refine gX1_69 F hX hP 0 rfl (v := .int (K.2.1 3)) rfl dX1_holdSession_40 ?_
      refine lv_aload_n hx hb dX1_holdSession_43 rfl (lv_at hl 1 rfl) ?_
      refine gX1_72 F hX hP 0 rfl (v := .int (K.2.1 4)) rfl dX1_holdSession_44 ?_
      refine lv_isub hx hb dX1_holdSession_47 ?_
      refine lv_iload_n hx hb dX1_holdSession_48 rfl (lv_at hl 0 rfl) ?_
      refine lv_aload_n hx hb dX1_holdSession_49 rfl (lv_at hl 1 rfl) ?_
      refine gX1_66 F hX hP 0 rfl (v := .int (K.2.1 1)) rfl dX1_holdSession_50 ?_
      obtain ⟨u_3, h_4, hf⟩ := ob hf
      refine k_wv (runVN F hX wdX1_138 (rm := rm_X0_enter) (As := [.int (K.2.1 4), .int ((K.2.1 3) - (K.2.1 4)), .int (X1_wouldPass K), .int (K.2.1 1)]) (rest := []) ⟨rfl, rfl⟩ ⟨Nat.le_of_ble_eq_true rfl, Nat.le_of_ble_eq_true rfl⟩ hl.1 rfl rfl (Nat.le_of_ble_eq_true rfl) dX1_holdSession_53 ⟨Nat.zero_le _, Nat.zero_le _⟩) (c_X0_enter l D cI cP (fun k => a (22 + k)) K.2.2.2 (K.2.1 4) ((K.2.1 3) - (K.2.1 4)) (X1_wouldPass K) (K.2.1 1) _ h_4) hX (va_recv hX.1 (va_blk (Bs := (bPar cI a K)) hP 8 rfl) (ci := 0) (q0 := 0) rfl rfl) (Cut.one (Bs := (bPar cI a K)) (k := 8) rfl rfl) hP hD hS hA (fun H locs hP hD hS => ?_)
      obtain ⟨M_5, e_6, hf⟩ := bnd_e hf
      have hP : va_P D vwCl (wPar cI a M_5) H := by rw [e_6]; exact hP
      have hD : va_D A (wPar cI a M_5) := by rw [e_6]; exact hD
      clear e_6
      refine lv_aload_n hx hb dX1_holdSession_56 rfl (lv_at hl 1 rfl) ?_
      refine lv_aload_n hx hb dX1_holdSession_57 rfl (lv_at hl 1 rfl) ?_
      refine gX1_66 F hX hP 0 rfl (v := .int (M_5.2.1 1)) rfl dX1_holdSession_58 ?_
      refine lv_iconst (v := 1) hx hb dX1_holdSession_61 (by decide) ?_
      refine lv_iadd hx hb dX1_holdSession_62 ?_
      refine lv_aload_n hx hb dX1_holdSession_63 rfl (lv_at hl 1 rfl) ?_
      refine gX1_63 F hX hP 0 rfl (v := .int (M_5.2.1 0)) rfl dX1_holdSession_64 ?_
      have hJ_67 : ∀ (K_67 : SPar) (x1_67 : Int32) (t0_67 : Int32) (t1_67 : Int32) (v : Int32) (H : Heap) (locs : List Loc) (ls : Array Slot), X1_holdSession_J67 K_67 x1_67 t0_67 t1_67 = v → va_P D vwCl (wPar cI a K_67) H → va_D A (wPar cI a K_67) → va_S A s.heap H locs → lv_has ls 3 [(1, .int x1_67), (0, .ref (a 0))] → (∀ (H : Heap) (locs : List Loc) (ls : Array Slot), va_P D vwCl (wPar cI a K_67) H → va_D A (wPar cI a K_67) → va_S A s.heap H locs → lv_has ls 3 [(0, .ref (a 0)), (1, .int x1_67)] → W p l e rm_X1_holdSession s m args below meth c H locs 0 0 (QWi D below args s A (wPar cI a z.1) z.2) (F0 m 80 ls [.int v, .ref (a 0)])) → W p l e rm_X1_holdSession s m args below meth c H locs 0 0 (QWi D below args s A (wPar cI a z.1) z.2) (F0 m 67 ls [.int t0_67, .int t1_67, .ref (a 0)]) := by
        intro K_67 x1_67 t0_67 t1_67 v _ _ ls hf hP hD hS hl hk
        unfold X1_holdSession_J67 at hf
        refine lv_icmp_ge (tgt := 79) hx hb dX1_holdSession_67 (by decide) (fun c_7 => ?_) (fun c_7 => ?_)
        · replace hf := (if_pos c_7).symm.trans hf
          refine lv_iconst (v := 0) hx hb dX1_holdSession_79 (by decide) ?_
          obtain rfl := hf
          exact hk _ _ ls hP hD hS (lv_sub hl [1, 0] rfl)
        · replace hf := (if_neg c_7).symm.trans hf
          refine lv_aload_n hx hb dX1_holdSession_70 rfl (lv_at hl 1 rfl) ?_
          refine gX1_66 F hX hP 0 rfl (v := .int (K_67.2.1 1)) rfl dX1_holdSession_71 ?_
          refine lv_iconst (v := 1) hx hb dX1_holdSession_74 (by decide) ?_
          refine lv_iadd hx hb dX1_holdSession_75 ?_
          refine lv_goto (tgt := 80) hx hb dX1_holdSession_76 (by decide) ?_
          obtain rfl := hf
          exact hk _ _ ls hP hD hS (lv_sub hl [1, 0] rfl)
      refine hJ_67 M_5 (X1_wouldPass K) (M_5.2.1 0) ((M_5.2.1 1) + 1) _ _ _ ls rfl hP hD hS hl (fun H locs ls hP hD hS hl => ?_)
      clear hJ_67
      refine pX1_66 F hX hP hD hS 0 rfl (Nat.le_of_ble_eq_true rfl) dX1_holdSession_80 (fun H locs hP hD hS => ?_)
      obtain ⟨M_8, e_9, hf⟩ := bnd_e hf
      have hP : va_P D vwCl (wPar cI a M_8) H := by rw [e_9]; exact hP
      have hD : va_D A (wPar cI a M_8) := by rw [e_9]; exact hD
      clear e_9
      refine lv_iconst (v := 0) hx hb dX1_holdSession_83 (by decide) ?_
      refine lv_istore_n (lv' := [(2, .int 0), (0, .ref (a 0)), (1, .int (X1_wouldPass K))]) hx hb dX1_holdSession_84 rfl hl (by decide) rfl (fun ls hl => ?_)
      have hL_85 : ∀ (fu : Nat) (K_85 : SPar) (x1_85 : Int32) (x2_85 : Int32) (v : SPar) (H : Heap) (locs : List Loc) (ls : Array Slot), X1_holdSession_L85 fu K_85 x1_85 x2_85 = some v → va_P D vwCl (wPar cI a K_85) H → va_D A (wPar cI a K_85) → va_S A s.heap H locs → lv_has ls 3 [(0, .ref (a 0)), (1, .int x1_85), (2, .int x2_85)] → (∀ (H : Heap) (locs : List Loc) (ls : Array Slot), va_P D vwCl (wPar cI a v) H → va_D A (wPar cI a v) → va_S A s.heap H locs → lv_has ls 3 [(0, .ref (a 0)), (1, .int x1_85)] → W p l e rm_X1_holdSession s m args below meth c H locs 0 0 (QWi D below args s A (wPar cI a z.1) z.2) (F0 m 108 ls [])) → W p l e rm_X1_holdSession s m args below meth c H locs 0 0 (QWi D below args s A (wPar cI a z.1) z.2) (F0 m 85 ls []) := by
        intro fu
        induction fu with
        | zero =>
          intro K_85 x1_85 x2_85 v H locs ls hf
          exact absurd hf (by simp [X1_holdSession_L85])
        | succ fu ih =>
          intro K_85 x1_85 x2_85 v _ _ ls hf hP hD hS hl hk
          rw [X1_holdSession_L85] at hf
          refine lv_iload_n hx hb dX1_holdSession_85 rfl (lv_at hl 2 rfl) ?_
          refine lv_aload_n hx hb dX1_holdSession_86 rfl (lv_at hl 0 rfl) ?_
          refine gX1_63 F hX hP 0 rfl (v := .int (K_85.2.1 0)) rfl dX1_holdSession_87 ?_
          refine lv_icmp_ge (tgt := 108) hx hb dX1_holdSession_90 (by decide) (fun c_10 => ?_) (fun c_10 => ?_)
          · replace hf := (if_pos c_10).symm.trans hf
            obtain rfl := Option.some.inj hf
            exact hk _ _ ls hP hD hS (lv_sub hl [0, 1] rfl)
          · replace hf := (if_neg c_10).symm.trans hf
            refine lv_aload_n hx hb dX1_holdSession_93 rfl (lv_at hl 0 rfl) ?_
            refine gX1_23 F hX hP 0 rfl (v := .ref (a 5)) rfl dX1_holdSession_94 ?_
            refine lv_iload_n hx hb dX1_holdSession_97 rfl (lv_at hl 2 rfl) ?_
            refine lv_iconst (v := (-1)) hx hb dX1_holdSession_98 (by decide) ?_
            refine k_wv (runVN F hX wdX1_81 (rm := rm_X2_put) (As := [.int x2_85, .int (-1)]) (rest := []) ⟨rfl, rfl⟩ ⟨Nat.le_of_ble_eq_true rfl, Nat.le_of_ble_eq_true rfl⟩ hl.1 rfl rfl (Nat.le_of_ble_eq_true rfl) dX1_holdSession_99 ⟨Nat.zero_le _, Nat.zero_le _⟩) (k_rput l D cI cP (a 5) (a 6) 12 (by decide) (K_85.1 2) x2_85 (-1)) hX (va_recv hX.1 (va_blk (Bs := (bPar cI a K_85)) hP 3 rfl) (ci := 2) (q0 := 0) rfl rfl) (Cut.one (Bs := (bPar cI a K_85)) (k := 3) rfl rfl) hP hD hS hA (fun H locs hP hD hS => ?_)
            obtain ⟨M_11, e_12, hf⟩ := bnd_e hf
            have hP : va_P D vwCl (wPar cI a M_11) H := by rw [e_12]; exact hP
            have hD : va_D A (wPar cI a M_11) := by rw [e_12]; exact hD
            clear e_12
            refine lv_iinc (v := (x2_85 + 1)) (lv' := [(2, .int (x2_85 + 1)), (0, .ref (a 0)), (1, .int x1_85)]) hx hb dX1_holdSession_102 hl (k := 2) rfl (by rfl) (by decide) rfl (fun ls hl => ?_)
            refine lv_goto (tgt := 85) hx hb dX1_holdSession_105 (by decide) ?_
            exact ih M_11 x1_85 (x2_85 + 1) _ _ _ ls hf hP hD hS (lv_sub hl [1, 2, 0] rfl) hk
      obtain ⟨u_13, h_14, hf⟩ := ob hf
      refine hL_85 FUEL M_8 (X1_wouldPass K) 0 u_13 _ _ ls h_14 hP hD hS (lv_sub hl [1, 2, 0] rfl) (fun H locs ls hP hD hS hl => ?_)
      clear hL_85
      refine lv_aload_n hx hb dX1_holdSession_108 rfl (lv_at hl 0 rfl) ?_
      obtain ⟨u_15, h_16, hf⟩ := ob hf
      refine k_wv (runV F wdX1_88 (rm := rm_X1_tellVotes) (As := []) (rest := []) ⟨rfl, rfl⟩ ⟨Nat.le_of_ble_eq_true rfl, Nat.le_of_ble_eq_true rfl⟩ hl.1 rfl rfl (Nat.le_of_ble_eq_true rfl) dX1_holdSession_109 ⟨Nat.zero_le _, Nat.zero_le _⟩) (c_X1_tellVotes l D cI cP a u_13  _ h_16) hX (va_recv hX.1 hP (ci := 1) (q0 := 0) rfl rfl) (Cut.all rfl) hP hD hS hA (fun H locs hP hD hS => ?_)
      have hP : va_P D vwCl (wPar cI a u_15) H := hP
      have hD : va_D A (wPar cI a u_15) := hD
      refine lv_iload_n hx hb dX1_holdSession_112 rfl (lv_at hl 1 rfl) ?_
      obtain rfl := (Option.some.inj hf)
      exact wr_i F rfl hP hS dX1_holdSession_113
    · replace hf := (if_neg c_2).symm.trans hf
      refine lv_ldc (v := (-1000003)) hx hb hown (hts _ q_503) dX1_holdSession_23 ?_
      obtain rfl := (Option.some.inj hf)
      exact wr_i F rfl hP hS dX1_holdSession_25
  · replace hf := (if_neg c_1).symm.trans hf
    refine lv_ldc (v := (-1000002)) hx hb hown (hts _ q_530) dX1_holdSession_7 ?_
    obtain rfl := (Option.some.inj hf)
    exact wr_i F rfl hP hS dX1_holdSession_9
def X1_bindPulls (K : SPar) (x1 : Int32) : SPar × Int32 := (if (X6_isIn x1 0 12) = 0 then (K, (-1000001)) else (bnd (K.1, (up K.2.1 2 x1), K.2.2.1, K.2.2.2) fun M_2 => (M_2, (K.2.1 2))))
abbrev rm_X1_bindPulls : Room := { frames := 1, cells := 0, slots := 0, locals := 22 }
set_option maxHeartbeats 4000000 in
set_option maxRecDepth 100000 in
theorem c_X1_bindPulls (l : Launch) (D : va_G) (cI cP : ClassId) (a : Nat → Nat) (K : SPar) (x1 : Int32) (z : SPar × Int32) (hf : X1_bindPulls K x1 = z) : MWi l yX1_bindPulls cX1_bindPulls 3 (some .int) rm_X1_bindPulls D cI cP [.ref (a 0), .int x1] (wPar cI a K) (wPar cI a z.1) z.2 := by
  refine MWi.of (by decide +kernel) (Nat.le_of_ble_eq_true rfl) ?_
  intro p e s m args below meth c ls A F hX hP hD hA hS hl
  have F : Fx p s m args meth c RX1 cX1_bindPulls 3 (some .int) := F
  have hx := F.1
  have hb := F.2.1
  have hown := F.2.2.2.1
  have hts := F.2.2.2.2.1
  have hl : lv_has ls 3 [(0, .ref (a 0)), (1, .int x1)] := hl
  unfold X1_bindPulls at hf
  refine lv_iload_n hx hb dX1_bindPulls_0 rfl (lv_at hl 1 rfl) ?_
  refine lv_iconst (v := 0) hx hb dX1_bindPulls_1 (by decide) ?_
  refine lv_bipush (v := 12) hx hb dX1_bindPulls_2 (by decide) ?_
  refine k_rd (runSN F hX wdX1_75 (rm := rm_X6_isIn) (As := [.int x1, .int 0, .int 12]) (rest := []) ⟨rfl, rfl⟩ ⟨Nat.le_of_ble_eq_true rfl, Nat.le_of_ble_eq_true rfl⟩ hl.1 rfl rfl (Nat.le_of_ble_eq_true rfl) dX1_bindPulls_4 ⟨Nat.zero_le _, Nat.zero_le _⟩) (c_X6_isIn l D cI cP x1 0 12 _ rfl) hX trivial vP_nil hP hS hA (fun H locs hP hS => ?_)
  refine lv_if_ne (tgt := 13) hx hb dX1_bindPulls_7 (by decide) (fun c_1 => ?_) (fun c_1 => ?_)
  · replace hf := (if_neg c_1).symm.trans hf
    refine lv_aload_n hx hb dX1_bindPulls_13 rfl (lv_at hl 0 rfl) ?_
    refine gX1_49 F hX hP 0 rfl (v := .int (K.2.1 2)) rfl dX1_bindPulls_14 ?_
    refine lv_istore_n (lv' := [(2, .int (K.2.1 2)), (0, .ref (a 0)), (1, .int x1)]) hx hb dX1_bindPulls_17 rfl hl (by decide) rfl (fun ls hl => ?_)
    refine lv_aload_n hx hb dX1_bindPulls_18 rfl (lv_at hl 1 rfl) ?_
    refine lv_iload_n hx hb dX1_bindPulls_19 rfl (lv_at hl 2 rfl) ?_
    refine pX1_49 F hX hP hD hS 0 rfl (Nat.le_of_ble_eq_true rfl) dX1_bindPulls_20 (fun H locs hP hD hS => ?_)
    obtain ⟨M_2, e_3, hf⟩ := bnd_e hf
    have hP : va_P D vwCl (wPar cI a M_2) H := by rw [e_3]; exact hP
    have hD : va_D A (wPar cI a M_2) := by rw [e_3]; exact hD
    clear e_3
    refine lv_iload_n hx hb dX1_bindPulls_23 rfl (lv_at hl 0 rfl) ?_
    obtain rfl := hf
    exact wr_i F rfl hP hS dX1_bindPulls_24
  · replace hf := (if_pos c_1).symm.trans hf
    refine lv_ldc (v := (-1000001)) hx hb hown (hts _ q_396) dX1_bindPulls_10 ?_
    obtain rfl := hf
    exact wr_i F rfl hP hS dX1_bindPulls_12
