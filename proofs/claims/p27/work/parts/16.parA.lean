def X1_copyFrom (K : SPar) (K2 : SPar) : SPar := (bnd ((up K.1 0 (K2.1 0)), K.2.1, K.2.2.1, K.2.2.2) fun M_1 => (bnd ((up M_1.1 1 (K2.1 1)), M_1.2.1, M_1.2.2.1, M_1.2.2.2) fun M_3 => (bnd ((up M_3.1 2 (K2.1 2)), M_3.2.1, M_3.2.2.1, M_3.2.2.2) fun M_5 => (bnd ((up M_5.1 3 (K2.1 3)), M_5.2.1, M_5.2.2.1, M_5.2.2.2) fun M_7 => (bnd ((up M_7.1 4 (K2.1 4)), M_7.2.1, M_7.2.2.1, M_7.2.2.2) fun M_9 => (bnd ((up M_9.1 5 (K2.1 5)), M_9.2.1, M_9.2.2.1, M_9.2.2.2) fun M_11 => (bnd (M_11.1, M_11.2.1, (X3_copyFrom M_11.2.2.1 K2.2.2.1), M_11.2.2.2) fun M_13 => (bnd (M_13.1, M_13.2.1, M_13.2.2.1, (X0_copyFrom M_13.2.2.2 K2.2.2.2)) fun M_15 => (bnd (M_15.1, (up M_15.2.1 0 (K2.2.1 0)), M_15.2.2.1, M_15.2.2.2) fun M_17 => (bnd (M_17.1, (up M_17.2.1 1 (K2.2.1 1)), M_17.2.2.1, M_17.2.2.2) fun M_19 => (bnd (M_19.1, (up M_19.2.1 2 (K2.2.1 2)), M_19.2.2.1, M_19.2.2.2) fun M_21 => (bnd (M_21.1, (up M_21.2.1 3 (K2.2.1 3)), M_21.2.2.1, M_21.2.2.2) fun M_23 => (bnd (M_23.1, (up M_23.2.1 4 (K2.2.1 4)), M_23.2.2.1, M_23.2.2.2) fun M_25 => M_25)))))))))))))
abbrev rm_X1_copyFrom : Room := { frames := 3, cells := 0, slots := 0, locals := 82 }
set_option maxHeartbeats 4000000 in
set_option maxRecDepth 100000 in
theorem c_X1_copyFrom (l : Launch) (D : va_G) (cI cP : ClassId) (a a2 : Nat → Nat) (K : SPar) (K2 : SPar) (z : SPar) (hf : X1_copyFrom K K2  = z) : MWv l yX1_copyFrom cX1_copyFrom 2 none rm_X1_copyFrom D cI cP [.ref (a 0), .ref (a2 0)] (wPar cI a K ++ wPar cI a2 K2) (wPar cI a z ++ wPar cI a2 K2) := by
  refine MWv.of (by decide +kernel) (Nat.le_of_ble_eq_true rfl) ?_
  intro p e s m args below meth c ls A F hX hP hD hA hS hl
  have F : Fx p s m args meth c RX1 cX1_copyFrom 2 none := F
  have hx := F.1
  have hb := F.2.1
  have hown := F.2.2.2.1
  have hts := F.2.2.2.2.1
  have hl : lv_has ls 2 [(0, .ref (a 0)), (1, .ref (a2 0))] := hl
  have hP : va_P D vwCl ((bPar cI a K ++ bPar cI a2 K2)).flatten s.heap := by rw [List.flatten_append]; exact hP
  have hD : va_D A ((bPar cI a K ++ bPar cI a2 K2)).flatten := by rw [List.flatten_append]; exact hD
  unfold X1_copyFrom at hf
  refine lv_aload_n hx hb dX1_copyFrom_0 rfl (lv_at hl 0 rfl) ?_
  refine gX1_14 F hX hP 0 rfl (v := .ref (a 1)) rfl dX1_copyFrom_1 ?_
  refine lv_aload_n hx hb dX1_copyFrom_4 rfl (lv_at hl 1 rfl) ?_
  refine gX1_14 F hX (vP_r hP) 0 rfl (v := .ref (a2 1)) rfl dX1_copyFrom_5 ?_
  refine k_wv (runVN F hX wdX1_53 (rm := rm_X2_copyFrom) (As := [.ref (a2 1)]) (rest := []) ⟨rfl, rfl⟩ ⟨Nat.le_of_ble_eq_true rfl, Nat.le_of_ble_eq_true rfl⟩ hl.1 rfl rfl (Nat.le_of_ble_eq_true rfl) dX1_copyFrom_8 ⟨Nat.zero_le _, Nat.zero_le _⟩) (k_rcopy l D cI cP (a 1) (a 2) (a2 1) (a2 2) 12 (by decide) (K.1 0) (K2.1 0)) hX (va_recv hX.1 (va_blk (Bs := (bPar cI a K ++ bPar cI a2 K2)) hP 1 rfl) (ci := 2) (q0 := 0) rfl rfl) (Cut.two (Bs := (bPar cI a K ++ bPar cI a2 K2)) (k := 1) (j := 10) rfl rfl (by decide) rfl) hP hD hS hA (fun H locs hP hD hS => ?_)
  obtain ⟨M_1, e_2, hf⟩ := bnd_e hf
  have hP : va_P D vwCl ((bPar cI a M_1 ++ bPar cI a2 K2)).flatten H := by rw [e_2]; exact hP
  have hD : va_D A ((bPar cI a M_1 ++ bPar cI a2 K2)).flatten := by rw [e_2]; exact hD
  clear e_2
  refine lv_aload_n hx hb dX1_copyFrom_11 rfl (lv_at hl 0 rfl) ?_
  refine gX1_20 F hX hP 0 rfl (v := .ref (a 3)) rfl dX1_copyFrom_12 ?_
  refine lv_aload_n hx hb dX1_copyFrom_15 rfl (lv_at hl 1 rfl) ?_
  refine gX1_20 F hX (vP_r hP) 0 rfl (v := .ref (a2 3)) rfl dX1_copyFrom_16 ?_
  refine k_wv (runVN F hX wdX1_53 (rm := rm_X2_copyFrom) (As := [.ref (a2 3)]) (rest := []) ⟨rfl, rfl⟩ ⟨Nat.le_of_ble_eq_true rfl, Nat.le_of_ble_eq_true rfl⟩ hl.1 rfl rfl (Nat.le_of_ble_eq_true rfl) dX1_copyFrom_19 ⟨Nat.zero_le _, Nat.zero_le _⟩) (k_rcopy l D cI cP (a 3) (a 4) (a2 3) (a2 4) 12 (by decide) (M_1.1 1) (K2.1 1)) hX (va_recv hX.1 (va_blk (Bs := (bPar cI a M_1 ++ bPar cI a2 K2)) hP 2 rfl) (ci := 2) (q0 := 0) rfl rfl) (Cut.two (Bs := (bPar cI a M_1 ++ bPar cI a2 K2)) (k := 2) (j := 11) rfl rfl (by decide) rfl) hP hD hS hA (fun H locs hP hD hS => ?_)
  obtain ⟨M_3, e_4, hf⟩ := bnd_e hf
  have hP : va_P D vwCl ((bPar cI a M_3 ++ bPar cI a2 K2)).flatten H := by rw [e_4]; exact hP
  have hD : va_D A ((bPar cI a M_3 ++ bPar cI a2 K2)).flatten := by rw [e_4]; exact hD
  clear e_4
  refine lv_aload_n hx hb dX1_copyFrom_22 rfl (lv_at hl 0 rfl) ?_
  refine gX1_23 F hX hP 0 rfl (v := .ref (a 5)) rfl dX1_copyFrom_23 ?_
  refine lv_aload_n hx hb dX1_copyFrom_26 rfl (lv_at hl 1 rfl) ?_
  refine gX1_23 F hX (vP_r hP) 0 rfl (v := .ref (a2 5)) rfl dX1_copyFrom_27 ?_
  refine k_wv (runVN F hX wdX1_53 (rm := rm_X2_copyFrom) (As := [.ref (a2 5)]) (rest := []) ⟨rfl, rfl⟩ ⟨Nat.le_of_ble_eq_true rfl, Nat.le_of_ble_eq_true rfl⟩ hl.1 rfl rfl (Nat.le_of_ble_eq_true rfl) dX1_copyFrom_30 ⟨Nat.zero_le _, Nat.zero_le _⟩) (k_rcopy l D cI cP (a 5) (a 6) (a2 5) (a2 6) 12 (by decide) (M_3.1 2) (K2.1 2)) hX (va_recv hX.1 (va_blk (Bs := (bPar cI a M_3 ++ bPar cI a2 K2)) hP 3 rfl) (ci := 2) (q0 := 0) rfl rfl) (Cut.two (Bs := (bPar cI a M_3 ++ bPar cI a2 K2)) (k := 3) (j := 12) rfl rfl (by decide) rfl) hP hD hS hA (fun H locs hP hD hS => ?_)
  obtain ⟨M_5, e_6, hf⟩ := bnd_e hf
  have hP : va_P D vwCl ((bPar cI a M_5 ++ bPar cI a2 K2)).flatten H := by rw [e_6]; exact hP
  have hD : va_D A ((bPar cI a M_5 ++ bPar cI a2 K2)).flatten := by rw [e_6]; exact hD
  clear e_6
  refine lv_aload_n hx hb dX1_copyFrom_33 rfl (lv_at hl 0 rfl) ?_
  refine gX1_26 F hX hP 0 rfl (v := .ref (a 7)) rfl dX1_copyFrom_34 ?_
  refine lv_aload_n hx hb dX1_copyFrom_37 rfl (lv_at hl 1 rfl) ?_
  refine gX1_26 F hX (vP_r hP) 0 rfl (v := .ref (a2 7)) rfl dX1_copyFrom_38 ?_
  refine k_wv (runVN F hX wdX1_53 (rm := rm_X2_copyFrom) (As := [.ref (a2 7)]) (rest := []) ⟨rfl, rfl⟩ ⟨Nat.le_of_ble_eq_true rfl, Nat.le_of_ble_eq_true rfl⟩ hl.1 rfl rfl (Nat.le_of_ble_eq_true rfl) dX1_copyFrom_41 ⟨Nat.zero_le _, Nat.zero_le _⟩) (k_rcopy l D cI cP (a 7) (a 8) (a2 7) (a2 8) 12 (by decide) (M_5.1 3) (K2.1 3)) hX (va_recv hX.1 (va_blk (Bs := (bPar cI a M_5 ++ bPar cI a2 K2)) hP 4 rfl) (ci := 2) (q0 := 0) rfl rfl) (Cut.two (Bs := (bPar cI a M_5 ++ bPar cI a2 K2)) (k := 4) (j := 13) rfl rfl (by decide) rfl) hP hD hS hA (fun H locs hP hD hS => ?_)
  obtain ⟨M_7, e_8, hf⟩ := bnd_e hf
  have hP : va_P D vwCl ((bPar cI a M_7 ++ bPar cI a2 K2)).flatten H := by rw [e_8]; exact hP
  have hD : va_D A ((bPar cI a M_7 ++ bPar cI a2 K2)).flatten := by rw [e_8]; exact hD
  clear e_8
  refine lv_aload_n hx hb dX1_copyFrom_44 rfl (lv_at hl 0 rfl) ?_
  refine gX1_29 F hX hP 0 rfl (v := .ref (a 9)) rfl dX1_copyFrom_45 ?_
  refine lv_aload_n hx hb dX1_copyFrom_48 rfl (lv_at hl 1 rfl) ?_
  refine gX1_29 F hX (vP_r hP) 0 rfl (v := .ref (a2 9)) rfl dX1_copyFrom_49 ?_
  refine k_wv (runVN F hX wdX1_53 (rm := rm_X2_copyFrom) (As := [.ref (a2 9)]) (rest := []) ⟨rfl, rfl⟩ ⟨Nat.le_of_ble_eq_true rfl, Nat.le_of_ble_eq_true rfl⟩ hl.1 rfl rfl (Nat.le_of_ble_eq_true rfl) dX1_copyFrom_52 ⟨Nat.zero_le _, Nat.zero_le _⟩) (k_rcopy l D cI cP (a 9) (a 10) (a2 9) (a2 10) 12 (by decide) (M_7.1 4) (K2.1 4)) hX (va_recv hX.1 (va_blk (Bs := (bPar cI a M_7 ++ bPar cI a2 K2)) hP 5 rfl) (ci := 2) (q0 := 0) rfl rfl) (Cut.two (Bs := (bPar cI a M_7 ++ bPar cI a2 K2)) (k := 5) (j := 14) rfl rfl (by decide) rfl) hP hD hS hA (fun H locs hP hD hS => ?_)
  obtain ⟨M_9, e_10, hf⟩ := bnd_e hf
  have hP : va_P D vwCl ((bPar cI a M_9 ++ bPar cI a2 K2)).flatten H := by rw [e_10]; exact hP
  have hD : va_D A ((bPar cI a M_9 ++ bPar cI a2 K2)).flatten := by rw [e_10]; exact hD
  clear e_10
  refine lv_aload_n hx hb dX1_copyFrom_55 rfl (lv_at hl 0 rfl) ?_
  refine gX1_32 F hX hP 0 rfl (v := .ref (a 11)) rfl dX1_copyFrom_56 ?_
  refine lv_aload_n hx hb dX1_copyFrom_59 rfl (lv_at hl 1 rfl) ?_
  refine gX1_32 F hX (vP_r hP) 0 rfl (v := .ref (a2 11)) rfl dX1_copyFrom_60 ?_
  refine k_wv (runVN F hX wdX1_53 (rm := rm_X2_copyFrom) (As := [.ref (a2 11)]) (rest := []) ⟨rfl, rfl⟩ ⟨Nat.le_of_ble_eq_true rfl, Nat.le_of_ble_eq_true rfl⟩ hl.1 rfl rfl (Nat.le_of_ble_eq_true rfl) dX1_copyFrom_63 ⟨Nat.zero_le _, Nat.zero_le _⟩) (k_rcopy l D cI cP (a 11) (a 12) (a2 11) (a2 12) 12 (by decide) (M_9.1 5) (K2.1 5)) hX (va_recv hX.1 (va_blk (Bs := (bPar cI a M_9 ++ bPar cI a2 K2)) hP 6 rfl) (ci := 2) (q0 := 0) rfl rfl) (Cut.two (Bs := (bPar cI a M_9 ++ bPar cI a2 K2)) (k := 6) (j := 15) rfl rfl (by decide) rfl) hP hD hS hA (fun H locs hP hD hS => ?_)
  obtain ⟨M_11, e_12, hf⟩ := bnd_e hf
  have hP : va_P D vwCl ((bPar cI a M_11 ++ bPar cI a2 K2)).flatten H := by rw [e_12]; exact hP
  have hD : va_D A ((bPar cI a M_11 ++ bPar cI a2 K2)).flatten := by rw [e_12]; exact hD
  clear e_12
  refine lv_aload_n hx hb dX1_copyFrom_66 rfl (lv_at hl 0 rfl) ?_
  refine gX1_38 F hX hP 0 rfl (v := .ref (a 13)) rfl dX1_copyFrom_67 ?_
  refine lv_aload_n hx hb dX1_copyFrom_70 rfl (lv_at hl 1 rfl) ?_
  refine gX1_38 F hX (vP_r hP) 0 rfl (v := .ref (a2 13)) rfl dX1_copyFrom_71 ?_
  refine k_wv (runVN F hX wdX1_57 (rm := rm_X3_copyFrom) (As := [.ref (a2 13)]) (rest := []) ⟨rfl, rfl⟩ ⟨Nat.le_of_ble_eq_true rfl, Nat.le_of_ble_eq_true rfl⟩ hl.1 rfl rfl (Nat.le_of_ble_eq_true rfl) dX1_copyFrom_74 ⟨Nat.zero_le _, Nat.zero_le _⟩) (c_X3_copyFrom l D cI cP (fun k => a (13 + k)) (fun k => a2 (13 + k)) M_11.2.2.1 K2.2.2.1 _ rfl) hX (va_recv hX.1 (va_blk (Bs := (bPar cI a M_11 ++ bPar cI a2 K2)) hP 7 rfl) (ci := 3) (q0 := 0) rfl rfl) (Cut.two (Bs := (bPar cI a M_11 ++ bPar cI a2 K2)) (k := 7) (j := 16) rfl rfl (by decide) rfl) hP hD hS hA (fun H locs hP hD hS => ?_)
  obtain ⟨M_13, e_14, hf⟩ := bnd_e hf
  have hP : va_P D vwCl ((bPar cI a M_13 ++ bPar cI a2 K2)).flatten H := by rw [e_14]; exact hP
  have hD : va_D A ((bPar cI a M_13 ++ bPar cI a2 K2)).flatten := by rw [e_14]; exact hD
  clear e_14
  refine lv_aload_n hx hb dX1_copyFrom_77 rfl (lv_at hl 0 rfl) ?_
  refine gX1_45 F hX hP 0 rfl (v := .ref (a 22)) rfl dX1_copyFrom_78 ?_
  refine lv_aload_n hx hb dX1_copyFrom_81 rfl (lv_at hl 1 rfl) ?_
  refine gX1_45 F hX (vP_r hP) 0 rfl (v := .ref (a2 22)) rfl dX1_copyFrom_82 ?_
  refine k_wv (runVN F hX wdX1_60 (rm := rm_X0_copyFrom) (As := [.ref (a2 22)]) (rest := []) ⟨rfl, rfl⟩ ⟨Nat.le_of_ble_eq_true rfl, Nat.le_of_ble_eq_true rfl⟩ hl.1 rfl rfl (Nat.le_of_ble_eq_true rfl) dX1_copyFrom_85 ⟨Nat.zero_le _, Nat.zero_le _⟩) (c_X0_copyFrom l D cI cP (fun k => a (22 + k)) (fun k => a2 (22 + k)) M_13.2.2.2 K2.2.2.2 _ rfl) hX (va_recv hX.1 (va_blk (Bs := (bPar cI a M_13 ++ bPar cI a2 K2)) hP 8 rfl) (ci := 0) (q0 := 0) rfl rfl) (Cut.two (Bs := (bPar cI a M_13 ++ bPar cI a2 K2)) (k := 8) (j := 17) rfl rfl (by decide) rfl) hP hD hS hA (fun H locs hP hD hS => ?_)
  obtain ⟨M_15, e_16, hf⟩ := bnd_e hf
  have hP : va_P D vwCl ((bPar cI a M_15 ++ bPar cI a2 K2)).flatten H := by rw [e_16]; exact hP
  have hD : va_D A ((bPar cI a M_15 ++ bPar cI a2 K2)).flatten := by rw [e_16]; exact hD
  clear e_16
  refine lv_aload_n hx hb dX1_copyFrom_88 rfl (lv_at hl 0 rfl) ?_
  refine lv_aload_n hx hb dX1_copyFrom_89 rfl (lv_at hl 1 rfl) ?_
  refine gX1_63 F hX (vP_r hP) 0 rfl (v := .int (K2.2.1 0)) rfl dX1_copyFrom_90 ?_
  refine pX1_63 F hX hP hD hS 0 rfl (Nat.le_of_ble_eq_true rfl) dX1_copyFrom_93 (fun H locs hP hD hS => ?_)
  obtain ⟨M_17, e_18, hf⟩ := bnd_e hf
  have hP : va_P D vwCl ((bPar cI a M_17 ++ bPar cI a2 K2)).flatten H := by rw [e_18]; exact hP
  have hD : va_D A ((bPar cI a M_17 ++ bPar cI a2 K2)).flatten := by rw [e_18]; exact hD
  clear e_18
  refine lv_aload_n hx hb dX1_copyFrom_96 rfl (lv_at hl 0 rfl) ?_
  refine lv_aload_n hx hb dX1_copyFrom_97 rfl (lv_at hl 1 rfl) ?_
  refine gX1_66 F hX (vP_r hP) 0 rfl (v := .int (K2.2.1 1)) rfl dX1_copyFrom_98 ?_
  refine pX1_66 F hX hP hD hS 0 rfl (Nat.le_of_ble_eq_true rfl) dX1_copyFrom_101 (fun H locs hP hD hS => ?_)
  obtain ⟨M_19, e_20, hf⟩ := bnd_e hf
  have hP : va_P D vwCl ((bPar cI a M_19 ++ bPar cI a2 K2)).flatten H := by rw [e_20]; exact hP
  have hD : va_D A ((bPar cI a M_19 ++ bPar cI a2 K2)).flatten := by rw [e_20]; exact hD
  clear e_20
  refine lv_aload_n hx hb dX1_copyFrom_104 rfl (lv_at hl 0 rfl) ?_
  refine lv_aload_n hx hb dX1_copyFrom_105 rfl (lv_at hl 1 rfl) ?_
  refine gX1_49 F hX (vP_r hP) 0 rfl (v := .int (K2.2.1 2)) rfl dX1_copyFrom_106 ?_
  refine pX1_49 F hX hP hD hS 0 rfl (Nat.le_of_ble_eq_true rfl) dX1_copyFrom_109 (fun H locs hP hD hS => ?_)
  obtain ⟨M_21, e_22, hf⟩ := bnd_e hf
  have hP : va_P D vwCl ((bPar cI a M_21 ++ bPar cI a2 K2)).flatten H := by rw [e_22]; exact hP
  have hD : va_D A ((bPar cI a M_21 ++ bPar cI a2 K2)).flatten := by rw [e_22]; exact hD
  clear e_22
  refine lv_aload_n hx hb dX1_copyFrom_112 rfl (lv_at hl 0 rfl) ?_
  refine lv_aload_n hx hb dX1_copyFrom_113 rfl (lv_at hl 1 rfl) ?_
  refine gX1_69 F hX (vP_r hP) 0 rfl (v := .int (K2.2.1 3)) rfl dX1_copyFrom_114 ?_
  refine pX1_69 F hX hP hD hS 0 rfl (Nat.le_of_ble_eq_true rfl) dX1_copyFrom_117 (fun H locs hP hD hS => ?_)
  obtain ⟨M_23, e_24, hf⟩ := bnd_e hf
  have hP : va_P D vwCl ((bPar cI a M_23 ++ bPar cI a2 K2)).flatten H := by rw [e_24]; exact hP
  have hD : va_D A ((bPar cI a M_23 ++ bPar cI a2 K2)).flatten := by rw [e_24]; exact hD
  clear e_24
  refine lv_aload_n hx hb dX1_copyFrom_120 rfl (lv_at hl 0 rfl) ?_
  refine lv_aload_n hx hb dX1_copyFrom_121 rfl (lv_at hl 1 rfl) ?_
  refine gX1_72 F hX (vP_r hP) 0 rfl (v := .int (K2.2.1 4)) rfl dX1_copyFrom_122 ?_
  refine pX1_72 F hX hP hD hS 0 rfl (Nat.le_of_ble_eq_true rfl) dX1_copyFrom_125 (fun H locs hP hD hS => ?_)
  obtain ⟨M_25, e_26, hf⟩ := bnd_e hf
  have hP : va_P D vwCl ((bPar cI a M_25 ++ bPar cI a2 K2)).flatten H := by rw [e_26]; exact hP
  have hD : va_D A ((bPar cI a M_25 ++ bPar cI a2 K2)).flatten := by rw [e_26]; exact hD
  clear e_26
  obtain rfl := hf
  rw [List.flatten_append] at hP
  exact wr_v F hP hS dX1_copyFrom_128
def X1_hasPuppet (K : SPar) (x1 : Int32) : Int32 := (if x1 < 0 then 0 else (if (K.2.1 0) ≤ x1 then 0 else 1))
abbrev rm_X1_hasPuppet : Room := { frames := 0, cells := 0, slots := 0, locals := 0 }
set_option maxHeartbeats 4000000 in
set_option maxRecDepth 100000 in
theorem c_X1_hasPuppet (l : Launch) (D : va_G) (cI cP : ClassId) (a : Nat → Nat) (K : SPar) (x1 : Int32) (z : Int32) (hf : X1_hasPuppet K x1 = z) : MRd l yX1_hasPuppet cX1_hasPuppet 2 (some .boolean) rm_X1_hasPuppet D cI cP [.ref (a 0), .int x1] (wPar cI a K) z := by
  refine MRd.of (by decide +kernel) (Nat.le_of_ble_eq_true rfl) ?_
  intro p e s m args below meth c ls F hX hP hS hl
  have F : Fx p s m args meth c RX1 cX1_hasPuppet 2 (some .boolean) := F
  have hx := F.1
  have hb := F.2.1
  have hown := F.2.2.2.1
  have hts := F.2.2.2.2.1
  have hA : ∀ q : Nat, s.heap.size ≤ q → (fun q : Nat => s.heap.size ≤ q) q := fun _ h => h
  have hl : lv_has ls 2 [(0, .ref (a 0)), (1, .int x1)] := hl
  unfold X1_hasPuppet at hf
  refine lv_iload_n hx hb dX1_hasPuppet_0 rfl (lv_at hl 1 rfl) ?_
  refine lv_if_lt (tgt := 16) hx hb dX1_hasPuppet_1 (by decide) (fun c_1 => ?_) (fun c_1 => ?_)
  · replace hf := (if_pos c_1).symm.trans hf
    refine lv_iconst (v := 0) hx hb dX1_hasPuppet_16 (by decide) ?_
    exact rd_z F (by decide) hf hS dX1_hasPuppet_17
  · replace hf := (if_neg c_1).symm.trans hf
    refine lv_iload_n hx hb dX1_hasPuppet_4 rfl (lv_at hl 1 rfl) ?_
    refine lv_aload_n hx hb dX1_hasPuppet_5 rfl (lv_at hl 0 rfl) ?_
    refine gX1_63 F hX hP 0 rfl (v := .int (K.2.1 0)) rfl dX1_hasPuppet_6 ?_
    refine lv_icmp_ge (tgt := 16) hx hb dX1_hasPuppet_9 (by decide) (fun c_2 => ?_) (fun c_2 => ?_)
    · replace hf := (if_pos c_2).symm.trans hf
      refine lv_iconst (v := 0) hx hb dX1_hasPuppet_16 (by decide) ?_
      exact rd_z F (by decide) hf hS dX1_hasPuppet_17
    · replace hf := (if_neg c_2).symm.trans hf
      refine lv_iconst (v := 1) hx hb dX1_hasPuppet_12 (by decide) ?_
      refine lv_goto (tgt := 17) hx hb dX1_hasPuppet_13 (by decide) ?_
      exact rd_z F (by decide) hf hS dX1_hasPuppet_17
def X1_arePair (K : SPar) (x1 : Int32) (x2 : Int32) : Int32 := (if (X1_hasPuppet K x1) = 0 then 0 else (if (X1_hasPuppet K x2) = 0 then 0 else (if x1 = x2 then 0 else 1)))
abbrev rm_X1_arePair : Room := { frames := 1, cells := 0, slots := 0, locals := 21 }
set_option maxHeartbeats 4000000 in
set_option maxRecDepth 100000 in
theorem c_X1_arePair (l : Launch) (D : va_G) (cI cP : ClassId) (a : Nat → Nat) (K : SPar) (x1 : Int32) (x2 : Int32) (z : Int32) (hf : X1_arePair K x1 x2 = z) : MRd l yX1_arePair cX1_arePair 3 (some .boolean) rm_X1_arePair D cI cP [.ref (a 0), .int x1, .int x2] (wPar cI a K) z := by
  refine MRd.of (by decide +kernel) (Nat.le_of_ble_eq_true rfl) ?_
  intro p e s m args below meth c ls F hX hP hS hl
  have F : Fx p s m args meth c RX1 cX1_arePair 3 (some .boolean) := F
  have hx := F.1
  have hb := F.2.1
  have hown := F.2.2.2.1
  have hts := F.2.2.2.2.1
  have hA : ∀ q : Nat, s.heap.size ≤ q → (fun q : Nat => s.heap.size ≤ q) q := fun _ h => h
  have hl : lv_has ls 3 [(0, .ref (a 0)), (1, .int x1), (2, .int x2)] := hl
  unfold X1_arePair at hf
  refine lv_aload_n hx hb dX1_arePair_0 rfl (lv_at hl 0 rfl) ?_
  refine lv_iload_n hx hb dX1_arePair_1 rfl (lv_at hl 1 rfl) ?_
  refine k_rd (runV F wdX1_118 (rm := rm_X1_hasPuppet) (As := [.int x1]) (rest := []) ⟨rfl, rfl⟩ ⟨Nat.le_of_ble_eq_true rfl, Nat.le_of_ble_eq_true rfl⟩ hl.1 rfl rfl (Nat.le_of_ble_eq_true rfl) dX1_arePair_2 ⟨Nat.zero_le _, Nat.zero_le _⟩) (c_X1_hasPuppet l D cI cP a K x1 _ rfl) hX (va_recv hX.1 hP (ci := 1) (q0 := 0) rfl rfl) hP hP hS hA (fun H locs hP hS => ?_)
  refine lv_if_eq (tgt := 25) hx hb dX1_arePair_5 (by decide) (fun c_1 => ?_) (fun c_1 => ?_)
  · replace hf := (if_pos c_1).symm.trans hf
    refine lv_iconst (v := 0) hx hb dX1_arePair_25 (by decide) ?_
    exact rd_z F (by decide) hf hS dX1_arePair_26
  · replace hf := (if_neg c_1).symm.trans hf
    refine lv_aload_n hx hb dX1_arePair_8 rfl (lv_at hl 0 rfl) ?_
    refine lv_iload_n hx hb dX1_arePair_9 rfl (lv_at hl 2 rfl) ?_
    refine k_rd (runV F wdX1_118 (rm := rm_X1_hasPuppet) (As := [.int x2]) (rest := []) ⟨rfl, rfl⟩ ⟨Nat.le_of_ble_eq_true rfl, Nat.le_of_ble_eq_true rfl⟩ hl.1 rfl rfl (Nat.le_of_ble_eq_true rfl) dX1_arePair_10 ⟨Nat.zero_le _, Nat.zero_le _⟩) (c_X1_hasPuppet l D cI cP a K x2 _ rfl) hX (va_recv hX.1 hP (ci := 1) (q0 := 0) rfl rfl) hP hP hS hA (fun H locs hP hS => ?_)
    refine lv_if_eq (tgt := 25) hx hb dX1_arePair_13 (by decide) (fun c_2 => ?_) (fun c_2 => ?_)
    · replace hf := (if_pos c_2).symm.trans hf
      refine lv_iconst (v := 0) hx hb dX1_arePair_25 (by decide) ?_
      exact rd_z F (by decide) hf hS dX1_arePair_26
    · replace hf := (if_neg c_2).symm.trans hf
      refine lv_iload_n hx hb dX1_arePair_16 rfl (lv_at hl 1 rfl) ?_
      refine lv_iload_n hx hb dX1_arePair_17 rfl (lv_at hl 2 rfl) ?_
      refine lv_icmp_eq (tgt := 25) hx hb dX1_arePair_18 (by decide) (fun c_3 => ?_) (fun c_3 => ?_)
      · replace hf := (if_pos c_3).symm.trans hf
        refine lv_iconst (v := 0) hx hb dX1_arePair_25 (by decide) ?_
        exact rd_z F (by decide) hf hS dX1_arePair_26
      · replace hf := (if_neg c_3).symm.trans hf
        refine lv_iconst (v := 1) hx hb dX1_arePair_21 (by decide) ?_
        refine lv_goto (tgt := 26) hx hb dX1_arePair_22 (by decide) ?_
        exact rd_z F (by decide) hf hS dX1_arePair_26
def X1_isPulled (K : SPar) (x1 : Int32) : Int32 := (if (rget 12 (K.1 2) x1) = (-1) then 0 else 1)
abbrev rm_X1_isPulled : Room := { frames := 1, cells := 0, slots := 0, locals := 21 }
set_option maxHeartbeats 4000000 in
set_option maxRecDepth 100000 in
theorem c_X1_isPulled (l : Launch) (D : va_G) (cI cP : ClassId) (a : Nat → Nat) (K : SPar) (x1 : Int32) (z : Int32) (hf : X1_isPulled K x1 = z) : MRd l yX1_isPulled cX1_isPulled 2 (some .boolean) rm_X1_isPulled D cI cP [.ref (a 0), .int x1] (wPar cI a K) z := by
  refine MRd.of (by decide +kernel) (Nat.le_of_ble_eq_true rfl) ?_
  intro p e s m args below meth c ls F hX hP hS hl
  have F : Fx p s m args meth c RX1 cX1_isPulled 2 (some .boolean) := F
  have hx := F.1
  have hb := F.2.1
  have hown := F.2.2.2.1
  have hts := F.2.2.2.2.1
  have hA : ∀ q : Nat, s.heap.size ≤ q → (fun q : Nat => s.heap.size ≤ q) q := fun _ h => h
  have hl : lv_has ls 2 [(0, .ref (a 0)), (1, .int x1)] := hl
  unfold X1_isPulled at hf
  refine lv_aload_n hx hb dX1_isPulled_0 rfl (lv_at hl 0 rfl) ?_
  refine gX1_23 F hX hP 0 rfl (v := .ref (a 5)) rfl dX1_isPulled_1 ?_
  refine lv_iload_n hx hb dX1_isPulled_4 rfl (lv_at hl 1 rfl) ?_
  refine k_rd (runVN F hX wdX1_128 (rm := rm_X2_get) (As := [.int x1]) (rest := []) ⟨rfl, rfl⟩ ⟨Nat.le_of_ble_eq_true rfl, Nat.le_of_ble_eq_true rfl⟩ hl.1 rfl rfl (Nat.le_of_ble_eq_true rfl) dX1_isPulled_5 ⟨Nat.zero_le _, Nat.zero_le _⟩) (k_rget l D cI cP (a 5) (a 6) 12 (by decide) (K.1 2) x1) hX (va_recv hX.1 (va_blk (Bs := (bPar cI a K)) hP 3 rfl) (ci := 2) (q0 := 0) rfl rfl) (va_blk (Bs := (bPar cI a K)) hP 3 rfl) hP hS hA (fun H locs hP hS => ?_)
  refine lv_iconst (v := (-1)) hx hb dX1_isPulled_8 (by decide) ?_
  refine lv_icmp_eq (tgt := 16) hx hb dX1_isPulled_9 (by decide) (fun c_1 => ?_) (fun c_1 => ?_)
  · replace hf := (if_pos c_1).symm.trans hf
    refine lv_iconst (v := 0) hx hb dX1_isPulled_16 (by decide) ?_
    exact rd_z F (by decide) hf hS dX1_isPulled_17
  · replace hf := (if_neg c_1).symm.trans hf
    refine lv_iconst (v := 1) hx hb dX1_isPulled_12 (by decide) ?_
    refine lv_goto (tgt := 17) hx hb dX1_isPulled_13 (by decide) ?_
    exact rd_z F (by decide) hf hS dX1_isPulled_17
def X1_hangTogether (K : SPar) (x1 : Int32) (x2 : Int32) : Int32 := (if (rget 12 (K.1 3) x1) = (rget 12 (K.1 3) x2) then 1 else 0)
abbrev rm_X1_hangTogether : Room := { frames := 1, cells := 0, slots := 0, locals := 21 }
set_option maxHeartbeats 4000000 in
set_option maxRecDepth 100000 in
theorem c_X1_hangTogether (l : Launch) (D : va_G) (cI cP : ClassId) (a : Nat → Nat) (K : SPar) (x1 : Int32) (x2 : Int32) (z : Int32) (hf : X1_hangTogether K x1 x2 = z) : MRd l yX1_hangTogether cX1_hangTogether 3 (some .boolean) rm_X1_hangTogether D cI cP [.ref (a 0), .int x1, .int x2] (wPar cI a K) z := by
  refine MRd.of (by decide +kernel) (Nat.le_of_ble_eq_true rfl) ?_
  intro p e s m args below meth c ls F hX hP hS hl
  have F : Fx p s m args meth c RX1 cX1_hangTogether 3 (some .boolean) := F
  have hx := F.1
  have hb := F.2.1
  have hown := F.2.2.2.1
  have hts := F.2.2.2.2.1
  have hA : ∀ q : Nat, s.heap.size ≤ q → (fun q : Nat => s.heap.size ≤ q) q := fun _ h => h
  have hl : lv_has ls 3 [(0, .ref (a 0)), (1, .int x1), (2, .int x2)] := hl
  unfold X1_hangTogether at hf
  refine lv_aload_n hx hb dX1_hangTogether_0 rfl (lv_at hl 0 rfl) ?_
  refine gX1_26 F hX hP 0 rfl (v := .ref (a 7)) rfl dX1_hangTogether_1 ?_
  refine lv_iload_n hx hb dX1_hangTogether_4 rfl (lv_at hl 1 rfl) ?_
  refine k_rd (runVN F hX wdX1_128 (rm := rm_X2_get) (As := [.int x1]) (rest := []) ⟨rfl, rfl⟩ ⟨Nat.le_of_ble_eq_true rfl, Nat.le_of_ble_eq_true rfl⟩ hl.1 rfl rfl (Nat.le_of_ble_eq_true rfl) dX1_hangTogether_5 ⟨Nat.zero_le _, Nat.zero_le _⟩) (k_rget l D cI cP (a 7) (a 8) 12 (by decide) (K.1 3) x1) hX (va_recv hX.1 (va_blk (Bs := (bPar cI a K)) hP 4 rfl) (ci := 2) (q0 := 0) rfl rfl) (va_blk (Bs := (bPar cI a K)) hP 4 rfl) hP hS hA (fun H locs hP hS => ?_)
  refine lv_aload_n hx hb dX1_hangTogether_8 rfl (lv_at hl 0 rfl) ?_
  refine gX1_26 F hX hP 0 rfl (v := .ref (a 7)) rfl dX1_hangTogether_9 ?_
  refine lv_iload_n hx hb dX1_hangTogether_12 rfl (lv_at hl 2 rfl) ?_
  refine k_rd (runVN F hX wdX1_128 (rm := rm_X2_get) (As := [.int x2]) (rest := [.int (rget 12 (K.1 3) x1)]) ⟨rfl, rfl⟩ ⟨Nat.le_of_ble_eq_true rfl, Nat.le_of_ble_eq_true rfl⟩ hl.1 rfl rfl (Nat.le_of_ble_eq_true rfl) dX1_hangTogether_13 ⟨Nat.zero_le _, Nat.zero_le _⟩) (k_rget l D cI cP (a 7) (a 8) 12 (by decide) (K.1 3) x2) hX (va_recv hX.1 (va_blk (Bs := (bPar cI a K)) hP 4 rfl) (ci := 2) (q0 := 0) rfl rfl) (va_blk (Bs := (bPar cI a K)) hP 4 rfl) hP hS hA (fun H locs hP hS => ?_)
  refine lv_icmp_ne (tgt := 23) hx hb dX1_hangTogether_16 (by decide) (fun c_1 => ?_) (fun c_1 => ?_)
  · replace hf := (if_neg c_1).symm.trans hf
    refine lv_iconst (v := 0) hx hb dX1_hangTogether_23 (by decide) ?_
    exact rd_z F (by decide) hf hS dX1_hangTogether_24
  · replace hf := (if_pos c_1).symm.trans hf
    refine lv_iconst (v := 1) hx hb dX1_hangTogether_19 (by decide) ?_
    refine lv_goto (tgt := 24) hx hb dX1_hangTogether_20 (by decide) ?_
    exact rd_z F (by decide) hf hS dX1_hangTogether_24
def X1_pulledVote_L2 : Nat → SPar → Int32 → Int32 → Option (Int32)
  | 0, _, _, _ => none
  | fu + 1, K_2, x1_2, x2_2 => (if (K_2.2.1 0) ≤ x2_2 then some (-1) else (if (rget 12 (K_2.1 2) x2_2) = (-1) then X1_pulledVote_L2 fu K_2 x1_2 (x2_2 + 1) else (if (rget 12 (K_2.1 3) x2_2) = (rget 12 (K_2.1 3) x1_2) then some (((rget 12 (K_2.1 2) x2_2) ^^^ (rget 12 (K_2.1 4) x2_2)) ^^^ (rget 12 (K_2.1 4) x1_2)) else X1_pulledVote_L2 fu K_2 x1_2 (x2_2 + 1))))
def X1_pulledVote (K : SPar) (x1 : Int32) : Option (Int32) := (X1_pulledVote_L2 FUEL K x1 0)
abbrev rm_X1_pulledVote : Room := { frames := 1, cells := 0, slots := 0, locals := 21 }
set_option maxHeartbeats 4000000 in
set_option maxRecDepth 100000 in
theorem c_X1_pulledVote (l : Launch) (D : va_G) (cI cP : ClassId) (a : Nat → Nat) (K : SPar) (x1 : Int32) (z : Int32) (hf : X1_pulledVote K x1 = some z) : MRd l yX1_pulledVote cX1_pulledVote 4 (some .int) rm_X1_pulledVote D cI cP [.ref (a 0), .int x1] (wPar cI a K) z := by
  refine MRd.of (by decide +kernel) (Nat.le_of_ble_eq_true rfl) ?_
  intro p e s m args below meth c ls F hX hP hS hl
  have F : Fx p s m args meth c RX1 cX1_pulledVote 4 (some .int) := F
  have hx := F.1
  have hb := F.2.1
  have hown := F.2.2.2.1
  have hts := F.2.2.2.2.1
  have hA : ∀ q : Nat, s.heap.size ≤ q → (fun q : Nat => s.heap.size ≤ q) q := fun _ h => h
  have hl : lv_has ls 4 [(0, .ref (a 0)), (1, .int x1)] := hl
  unfold X1_pulledVote at hf
  refine lv_iconst (v := 0) hx hb dX1_pulledVote_0 (by decide) ?_
  refine lv_istore_n (lv' := [(2, .int 0), (0, .ref (a 0)), (1, .int x1)]) hx hb dX1_pulledVote_1 rfl hl (by decide) rfl (fun ls hl => ?_)
  have hL_2 : ∀ (fu : Nat) (K_2 : SPar) (x1_2 : Int32) (x2_2 : Int32) (H : Heap) (locs : List Loc) (ls : Array Slot), X1_pulledVote_L2 fu K_2 x1_2 x2_2 = some z → va_P D vwCl (wPar cI a K_2) H → va_S (fun q : Nat => s.heap.size ≤ q) s.heap H locs → lv_has ls 4 [(0, .ref (a 0)), (1, .int x1_2), (2, .int x2_2)] → W p l e rm_X1_pulledVote s m args below meth c H locs 0 0 (QR below args s z) (F0 m 2 ls []) := by
    intro fu
    induction fu with
    | zero =>
      intro K_2 x1_2 x2_2 H locs ls hf
      exact absurd hf (by simp [X1_pulledVote_L2])
    | succ fu ih =>
      intro K_2 x1_2 x2_2 _ _ ls hf hP hS hl
      rw [X1_pulledVote_L2] at hf
      refine lv_iload_n hx hb dX1_pulledVote_2 rfl (lv_at hl 2 rfl) ?_
      refine lv_aload_n hx hb dX1_pulledVote_3 rfl (lv_at hl 0 rfl) ?_
      refine gX1_63 F hX hP 0 rfl (v := .int (K_2.2.1 0)) rfl dX1_pulledVote_4 ?_
      refine lv_icmp_ge (tgt := 69) hx hb dX1_pulledVote_7 (by decide) (fun c_1 => ?_) (fun c_1 => ?_)
      · replace hf := (if_pos c_1).symm.trans hf
        refine lv_iconst (v := (-1)) hx hb dX1_pulledVote_69 (by decide) ?_
        exact rd_i F (Option.some.inj hf) hS dX1_pulledVote_70
      · replace hf := (if_neg c_1).symm.trans hf
        refine lv_aload_n hx hb dX1_pulledVote_10 rfl (lv_at hl 0 rfl) ?_
        refine gX1_23 F hX hP 0 rfl (v := .ref (a 5)) rfl dX1_pulledVote_11 ?_
        refine lv_iload_n hx hb dX1_pulledVote_14 rfl (lv_at hl 2 rfl) ?_
        refine k_rd (runVN F hX wdX1_128 (rm := rm_X2_get) (As := [.int x2_2]) (rest := []) ⟨rfl, rfl⟩ ⟨Nat.le_of_ble_eq_true rfl, Nat.le_of_ble_eq_true rfl⟩ hl.1 rfl rfl (Nat.le_of_ble_eq_true rfl) dX1_pulledVote_15 ⟨Nat.zero_le _, Nat.zero_le _⟩) (k_rget l D cI cP (a 5) (a 6) 12 (by decide) (K_2.1 2) x2_2) hX (va_recv hX.1 (va_blk (Bs := (bPar cI a K_2)) hP 3 rfl) (ci := 2) (q0 := 0) rfl rfl) (va_blk (Bs := (bPar cI a K_2)) hP 3 rfl) hP hS hA (fun H locs hP hS => ?_)
        refine lv_istore_n (lv' := [(3, .int (rget 12 (K_2.1 2) x2_2)), (0, .ref (a 0)), (1, .int x1_2), (2, .int x2_2)]) hx hb dX1_pulledVote_18 rfl hl (by decide) rfl (fun ls hl => ?_)
        refine lv_iload_n hx hb dX1_pulledVote_19 rfl (lv_at hl 0 rfl) ?_
        refine lv_iconst (v := (-1)) hx hb dX1_pulledVote_20 (by decide) ?_
        refine lv_icmp_eq (tgt := 63) hx hb dX1_pulledVote_21 (by decide) (fun c_2 => ?_) (fun c_2 => ?_)
        · replace hf := (if_pos c_2).symm.trans hf
          refine lv_iinc (v := (x2_2 + 1)) (lv' := [(2, .int (x2_2 + 1)), (3, .int (rget 12 (K_2.1 2) x2_2)), (0, .ref (a 0)), (1, .int x1_2)]) hx hb dX1_pulledVote_63 hl (k := 3) rfl (by rfl) (by decide) rfl (fun ls hl => ?_)
          refine lv_goto (tgt := 2) hx hb dX1_pulledVote_66 (by decide) ?_
          exact ih K_2 x1_2 (x2_2 + 1) _ _ ls hf hP hS (lv_sub hl [2, 3, 0] rfl)
        · replace hf := (if_neg c_2).symm.trans hf
          refine lv_aload_n hx hb dX1_pulledVote_24 rfl (lv_at hl 1 rfl) ?_
          refine gX1_26 F hX hP 0 rfl (v := .ref (a 7)) rfl dX1_pulledVote_25 ?_
          refine lv_iload_n hx hb dX1_pulledVote_28 rfl (lv_at hl 3 rfl) ?_
          refine k_rd (runVN F hX wdX1_128 (rm := rm_X2_get) (As := [.int x2_2]) (rest := []) ⟨rfl, rfl⟩ ⟨Nat.le_of_ble_eq_true rfl, Nat.le_of_ble_eq_true rfl⟩ hl.1 rfl rfl (Nat.le_of_ble_eq_true rfl) dX1_pulledVote_29 ⟨Nat.zero_le _, Nat.zero_le _⟩) (k_rget l D cI cP (a 7) (a 8) 12 (by decide) (K_2.1 3) x2_2) hX (va_recv hX.1 (va_blk (Bs := (bPar cI a K_2)) hP 4 rfl) (ci := 2) (q0 := 0) rfl rfl) (va_blk (Bs := (bPar cI a K_2)) hP 4 rfl) hP hS hA (fun H locs hP hS => ?_)
          refine lv_aload_n hx hb dX1_pulledVote_32 rfl (lv_at hl 1 rfl) ?_
          refine gX1_26 F hX hP 0 rfl (v := .ref (a 7)) rfl dX1_pulledVote_33 ?_
          refine lv_iload_n hx hb dX1_pulledVote_36 rfl (lv_at hl 2 rfl) ?_
          refine k_rd (runVN F hX wdX1_128 (rm := rm_X2_get) (As := [.int x1_2]) (rest := [.int (rget 12 (K_2.1 3) x2_2)]) ⟨rfl, rfl⟩ ⟨Nat.le_of_ble_eq_true rfl, Nat.le_of_ble_eq_true rfl⟩ hl.1 rfl rfl (Nat.le_of_ble_eq_true rfl) dX1_pulledVote_37 ⟨Nat.zero_le _, Nat.zero_le _⟩) (k_rget l D cI cP (a 7) (a 8) 12 (by decide) (K_2.1 3) x1_2) hX (va_recv hX.1 (va_blk (Bs := (bPar cI a K_2)) hP 4 rfl) (ci := 2) (q0 := 0) rfl rfl) (va_blk (Bs := (bPar cI a K_2)) hP 4 rfl) hP hS hA (fun H locs hP hS => ?_)
          refine lv_icmp_ne (tgt := 63) hx hb dX1_pulledVote_40 (by decide) (fun c_3 => ?_) (fun c_3 => ?_)
          · replace hf := (if_neg c_3).symm.trans hf
            refine lv_iinc (v := (x2_2 + 1)) (lv' := [(2, .int (x2_2 + 1)), (3, .int (rget 12 (K_2.1 2) x2_2)), (0, .ref (a 0)), (1, .int x1_2)]) hx hb dX1_pulledVote_63 hl (k := 3) rfl (by rfl) (by decide) rfl (fun ls hl => ?_)
            refine lv_goto (tgt := 2) hx hb dX1_pulledVote_66 (by decide) ?_
            exact ih K_2 x1_2 (x2_2 + 1) _ _ ls hf hP hS (lv_sub hl [2, 3, 0] rfl)
          · replace hf := (if_pos c_3).symm.trans hf
            refine lv_iload_n hx hb dX1_pulledVote_43 rfl (lv_at hl 0 rfl) ?_
            refine lv_aload_n hx hb dX1_pulledVote_44 rfl (lv_at hl 1 rfl) ?_
            refine gX1_29 F hX hP 0 rfl (v := .ref (a 9)) rfl dX1_pulledVote_45 ?_
            refine lv_iload_n hx hb dX1_pulledVote_48 rfl (lv_at hl 3 rfl) ?_
            refine k_rd (runVN F hX wdX1_128 (rm := rm_X2_get) (As := [.int x2_2]) (rest := [.int (rget 12 (K_2.1 2) x2_2)]) ⟨rfl, rfl⟩ ⟨Nat.le_of_ble_eq_true rfl, Nat.le_of_ble_eq_true rfl⟩ hl.1 rfl rfl (Nat.le_of_ble_eq_true rfl) dX1_pulledVote_49 ⟨Nat.zero_le _, Nat.zero_le _⟩) (k_rget l D cI cP (a 9) (a 10) 12 (by decide) (K_2.1 4) x2_2) hX (va_recv hX.1 (va_blk (Bs := (bPar cI a K_2)) hP 5 rfl) (ci := 2) (q0 := 0) rfl rfl) (va_blk (Bs := (bPar cI a K_2)) hP 5 rfl) hP hS hA (fun H locs hP hS => ?_)
            refine lv_ixor hx hb dX1_pulledVote_52 ?_
            refine lv_aload_n hx hb dX1_pulledVote_53 rfl (lv_at hl 1 rfl) ?_
            refine gX1_29 F hX hP 0 rfl (v := .ref (a 9)) rfl dX1_pulledVote_54 ?_
            refine lv_iload_n hx hb dX1_pulledVote_57 rfl (lv_at hl 2 rfl) ?_
            refine k_rd (runVN F hX wdX1_128 (rm := rm_X2_get) (As := [.int x1_2]) (rest := [.int ((rget 12 (K_2.1 2) x2_2) ^^^ (rget 12 (K_2.1 4) x2_2))]) ⟨rfl, rfl⟩ ⟨Nat.le_of_ble_eq_true rfl, Nat.le_of_ble_eq_true rfl⟩ hl.1 rfl rfl (Nat.le_of_ble_eq_true rfl) dX1_pulledVote_58 ⟨Nat.zero_le _, Nat.zero_le _⟩) (k_rget l D cI cP (a 9) (a 10) 12 (by decide) (K_2.1 4) x1_2) hX (va_recv hX.1 (va_blk (Bs := (bPar cI a K_2)) hP 5 rfl) (ci := 2) (q0 := 0) rfl rfl) (va_blk (Bs := (bPar cI a K_2)) hP 5 rfl) hP hS hA (fun H locs hP hS => ?_)
            refine lv_ixor hx hb dX1_pulledVote_61 ?_
            exact rd_i F (Option.some.inj hf) hS dX1_pulledVote_62
  exact hL_2 FUEL K x1 0 _ _ ls hf hP hS (lv_sub hl [1, 2, 0] rfl)
def X1_leadingVote_L7 : Nat → SPar → Int32 → Int32 → Int32 → Int32 → Option (Int32 × Int32)
  | 0, _, _, _, _, _ => none
  | fu + 1, K_7, x1_7, x2_7, x3_7, x4_7 => (if (K_7.2.1 0) ≤ x4_7 then some (x2_7, x3_7) else (if (rget 12 (K_7.1 3) x4_7) = x1_7 then (if (rget 12 (K_7.1 1) x4_7) = (rget 12 (K_7.1 4) x4_7) then X1_leadingVote_L7 fu K_7 x1_7 x2_7 (x3_7 + (rget 12 (K_7.1 0) x4_7)) (x4_7 + 1) else X1_leadingVote_L7 fu K_7 x1_7 (x2_7 + (rget 12 (K_7.1 0) x4_7)) x3_7 (x4_7 + 1)) else X1_leadingVote_L7 fu K_7 x1_7 x2_7 x3_7 (x4_7 + 1)))
def X1_leadingVote (K : SPar) (x1 : Int32) : Option (Int32) := ((X1_leadingVote_L7 FUEL K x1 0 0 x1).bind fun u_4 => (if u_4.1 = u_4.2 then some (rget 12 (K.1 1) x1) else (if u_4.1 ≤ u_4.2 then some 0 else some 1)))
abbrev rm_X1_leadingVote : Room := { frames := 1, cells := 0, slots := 0, locals := 21 }
set_option maxHeartbeats 4000000 in
set_option maxRecDepth 100000 in
theorem c_X1_leadingVote (l : Launch) (D : va_G) (cI cP : ClassId) (a : Nat → Nat) (K : SPar) (x1 : Int32) (z : Int32) (hf : X1_leadingVote K x1 = some z) : MRd l yX1_leadingVote cX1_leadingVote 5 (some .int) rm_X1_leadingVote D cI cP [.ref (a 0), .int x1] (wPar cI a K) z := by
  refine MRd.of (by decide +kernel) (Nat.le_of_ble_eq_true rfl) ?_
  intro p e s m args below meth c ls F hX hP hS hl
  have F : Fx p s m args meth c RX1 cX1_leadingVote 5 (some .int) := F
  have hx := F.1
  have hb := F.2.1
  have hown := F.2.2.2.1
  have hts := F.2.2.2.2.1
  have hA : ∀ q : Nat, s.heap.size ≤ q → (fun q : Nat => s.heap.size ≤ q) q := fun _ h => h
  have hl : lv_has ls 5 [(0, .ref (a 0)), (1, .int x1)] := hl
  unfold X1_leadingVote at hf
  refine lv_iconst (v := 0) hx hb dX1_leadingVote_0 (by decide) ?_
  refine lv_istore_n (lv' := [(2, .int 0), (0, .ref (a 0)), (1, .int x1)]) hx hb dX1_leadingVote_1 rfl hl (by decide) rfl (fun ls hl => ?_)
  refine lv_iconst (v := 0) hx hb dX1_leadingVote_2 (by decide) ?_
  refine lv_istore_n (lv' := [(3, .int 0), (2, .int 0), (0, .ref (a 0)), (1, .int x1)]) hx hb dX1_leadingVote_3 rfl hl (by decide) rfl (fun ls hl => ?_)
  refine lv_iload_n hx hb dX1_leadingVote_4 rfl (lv_at hl 3 rfl) ?_
  refine lv_istore (lv' := [(4, .int x1), (3, .int 0), (2, .int 0), (0, .ref (a 0)), (1, .int x1)]) hx hb dX1_leadingVote_5 hl (by decide) rfl (fun ls hl => ?_)
  have hL_7 : ∀ (fu : Nat) (K_7 : SPar) (x1_7 : Int32) (x2_7 : Int32) (x3_7 : Int32) (x4_7 : Int32) (v : Int32 × Int32) (H : Heap) (locs : List Loc) (ls : Array Slot), X1_leadingVote_L7 fu K_7 x1_7 x2_7 x3_7 x4_7 = some v → va_P D vwCl (wPar cI a K_7) H → va_S (fun q : Nat => s.heap.size ≤ q) s.heap H locs → lv_has ls 5 [(0, .ref (a 0)), (1, .int x1_7), (2, .int x2_7), (3, .int x3_7), (4, .int x4_7)] → (∀ (H : Heap) (locs : List Loc) (ls : Array Slot), va_P D vwCl (wPar cI a K_7) H → va_S (fun q : Nat => s.heap.size ≤ q) s.heap H locs → lv_has ls 5 [(0, .ref (a 0)), (1, .int x1_7), (2, .int v.1), (3, .int v.2)] → W p l e rm_X1_leadingVote s m args below meth c H locs 0 0 (QR below args s z) (F0 m 86 ls [])) → W p l e rm_X1_leadingVote s m args below meth c H locs 0 0 (QR below args s z) (F0 m 7 ls []) := by
    intro fu
    induction fu with
    | zero =>
      intro K_7 x1_7 x2_7 x3_7 x4_7 v H locs ls hf
      exact absurd hf (by simp [X1_leadingVote_L7])
    | succ fu ih =>
      intro K_7 x1_7 x2_7 x3_7 x4_7 v _ _ ls hf hP hS hl hk
      rw [X1_leadingVote_L7] at hf
      refine lv_iload hx hb dX1_leadingVote_7 (lv_at hl 4 rfl) ?_
      refine lv_aload_n hx hb dX1_leadingVote_9 rfl (lv_at hl 0 rfl) ?_
      refine gX1_63 F hX hP 0 rfl (v := .int (K_7.2.1 0)) rfl dX1_leadingVote_10 ?_
      refine lv_icmp_ge (tgt := 86) hx hb dX1_leadingVote_13 (by decide) (fun c_1 => ?_) (fun c_1 => ?_)
      · replace hf := (if_pos c_1).symm.trans hf
        obtain rfl := Option.some.inj hf
        exact hk _ _ ls hP hS (lv_sub hl [0, 1, 2, 3] rfl)
      · replace hf := (if_neg c_1).symm.trans hf
        refine lv_aload_n hx hb dX1_leadingVote_16 rfl (lv_at hl 0 rfl) ?_
        refine gX1_26 F hX hP 0 rfl (v := .ref (a 7)) rfl dX1_leadingVote_17 ?_
        refine lv_iload hx hb dX1_leadingVote_20 (lv_at hl 4 rfl) ?_
        refine k_rd (runVN F hX wdX1_128 (rm := rm_X2_get) (As := [.int x4_7]) (rest := []) ⟨rfl, rfl⟩ ⟨Nat.le_of_ble_eq_true rfl, Nat.le_of_ble_eq_true rfl⟩ hl.1 rfl rfl (Nat.le_of_ble_eq_true rfl) dX1_leadingVote_22 ⟨Nat.zero_le _, Nat.zero_le _⟩) (k_rget l D cI cP (a 7) (a 8) 12 (by decide) (K_7.1 3) x4_7) hX (va_recv hX.1 (va_blk (Bs := (bPar cI a K_7)) hP 4 rfl) (ci := 2) (q0 := 0) rfl rfl) (va_blk (Bs := (bPar cI a K_7)) hP 4 rfl) hP hS hA (fun H locs hP hS => ?_)
        refine lv_iload_n hx hb dX1_leadingVote_25 rfl (lv_at hl 1 rfl) ?_
        refine lv_icmp_eq (tgt := 32) hx hb dX1_leadingVote_26 (by decide) (fun c_2 => ?_) (fun c_2 => ?_)
        · replace hf := (if_pos c_2).symm.trans hf
          refine lv_aload_n hx hb dX1_leadingVote_32 rfl (lv_at hl 0 rfl) ?_
          refine gX1_20 F hX hP 0 rfl (v := .ref (a 3)) rfl dX1_leadingVote_33 ?_
          refine lv_iload hx hb dX1_leadingVote_36 (lv_at hl 4 rfl) ?_
          refine k_rd (runVN F hX wdX1_128 (rm := rm_X2_get) (As := [.int x4_7]) (rest := []) ⟨rfl, rfl⟩ ⟨Nat.le_of_ble_eq_true rfl, Nat.le_of_ble_eq_true rfl⟩ hl.1 rfl rfl (Nat.le_of_ble_eq_true rfl) dX1_leadingVote_38 ⟨Nat.zero_le _, Nat.zero_le _⟩) (k_rget l D cI cP (a 3) (a 4) 12 (by decide) (K_7.1 1) x4_7) hX (va_recv hX.1 (va_blk (Bs := (bPar cI a K_7)) hP 2 rfl) (ci := 2) (q0 := 0) rfl rfl) (va_blk (Bs := (bPar cI a K_7)) hP 2 rfl) hP hS hA (fun H locs hP hS => ?_)
          refine lv_aload_n hx hb dX1_leadingVote_41 rfl (lv_at hl 0 rfl) ?_
          refine gX1_29 F hX hP 0 rfl (v := .ref (a 9)) rfl dX1_leadingVote_42 ?_
          refine lv_iload hx hb dX1_leadingVote_45 (lv_at hl 4 rfl) ?_
          refine k_rd (runVN F hX wdX1_128 (rm := rm_X2_get) (As := [.int x4_7]) (rest := [.int (rget 12 (K_7.1 1) x4_7)]) ⟨rfl, rfl⟩ ⟨Nat.le_of_ble_eq_true rfl, Nat.le_of_ble_eq_true rfl⟩ hl.1 rfl rfl (Nat.le_of_ble_eq_true rfl) dX1_leadingVote_47 ⟨Nat.zero_le _, Nat.zero_le _⟩) (k_rget l D cI cP (a 9) (a 10) 12 (by decide) (K_7.1 4) x4_7) hX (va_recv hX.1 (va_blk (Bs := (bPar cI a K_7)) hP 5 rfl) (ci := 2) (q0 := 0) rfl rfl) (va_blk (Bs := (bPar cI a K_7)) hP 5 rfl) hP hS hA (fun H locs hP hS => ?_)
          refine lv_icmp_eq (tgt := 68) hx hb dX1_leadingVote_50 (by decide) (fun c_3 => ?_) (fun c_3 => ?_)
          · replace hf := (if_pos c_3).symm.trans hf
            refine lv_iload_n hx hb dX1_leadingVote_68 rfl (lv_at hl 3 rfl) ?_
            refine lv_aload_n hx hb dX1_leadingVote_69 rfl (lv_at hl 0 rfl) ?_
            refine gX1_14 F hX hP 0 rfl (v := .ref (a 1)) rfl dX1_leadingVote_70 ?_
            refine lv_iload hx hb dX1_leadingVote_73 (lv_at hl 4 rfl) ?_
            refine k_rd (runVN F hX wdX1_128 (rm := rm_X2_get) (As := [.int x4_7]) (rest := [.int x3_7]) ⟨rfl, rfl⟩ ⟨Nat.le_of_ble_eq_true rfl, Nat.le_of_ble_eq_true rfl⟩ hl.1 rfl rfl (Nat.le_of_ble_eq_true rfl) dX1_leadingVote_75 ⟨Nat.zero_le _, Nat.zero_le _⟩) (k_rget l D cI cP (a 1) (a 2) 12 (by decide) (K_7.1 0) x4_7) hX (va_recv hX.1 (va_blk (Bs := (bPar cI a K_7)) hP 1 rfl) (ci := 2) (q0 := 0) rfl rfl) (va_blk (Bs := (bPar cI a K_7)) hP 1 rfl) hP hS hA (fun H locs hP hS => ?_)
            refine lv_iadd hx hb dX1_leadingVote_78 ?_
            refine lv_istore_n (lv' := [(3, .int (x3_7 + (rget 12 (K_7.1 0) x4_7))), (0, .ref (a 0)), (1, .int x1_7), (2, .int x2_7), (4, .int x4_7)]) hx hb dX1_leadingVote_79 rfl hl (by decide) rfl (fun ls hl => ?_)
            refine lv_iinc (v := (x4_7 + 1)) (lv' := [(4, .int (x4_7 + 1)), (3, .int (x3_7 + (rget 12 (K_7.1 0) x4_7))), (0, .ref (a 0)), (1, .int x1_7), (2, .int x2_7)]) hx hb dX1_leadingVote_80 hl (k := 4) rfl (by rfl) (by decide) rfl (fun ls hl => ?_)
            refine lv_goto (tgt := 7) hx hb dX1_leadingVote_83 (by decide) ?_
            exact ih K_7 x1_7 x2_7 (x3_7 + (rget 12 (K_7.1 0) x4_7)) (x4_7 + 1) _ _ _ ls hf hP hS (lv_sub hl [2, 3, 4, 1, 0] rfl) hk
          · replace hf := (if_neg c_3).symm.trans hf
            refine lv_iload_n hx hb dX1_leadingVote_53 rfl (lv_at hl 2 rfl) ?_
            refine lv_aload_n hx hb dX1_leadingVote_54 rfl (lv_at hl 0 rfl) ?_
            refine gX1_14 F hX hP 0 rfl (v := .ref (a 1)) rfl dX1_leadingVote_55 ?_
            refine lv_iload hx hb dX1_leadingVote_58 (lv_at hl 4 rfl) ?_
            refine k_rd (runVN F hX wdX1_128 (rm := rm_X2_get) (As := [.int x4_7]) (rest := [.int x2_7]) ⟨rfl, rfl⟩ ⟨Nat.le_of_ble_eq_true rfl, Nat.le_of_ble_eq_true rfl⟩ hl.1 rfl rfl (Nat.le_of_ble_eq_true rfl) dX1_leadingVote_60 ⟨Nat.zero_le _, Nat.zero_le _⟩) (k_rget l D cI cP (a 1) (a 2) 12 (by decide) (K_7.1 0) x4_7) hX (va_recv hX.1 (va_blk (Bs := (bPar cI a K_7)) hP 1 rfl) (ci := 2) (q0 := 0) rfl rfl) (va_blk (Bs := (bPar cI a K_7)) hP 1 rfl) hP hS hA (fun H locs hP hS => ?_)
            refine lv_iadd hx hb dX1_leadingVote_63 ?_
            refine lv_istore_n (lv' := [(2, .int (x2_7 + (rget 12 (K_7.1 0) x4_7))), (0, .ref (a 0)), (1, .int x1_7), (3, .int x3_7), (4, .int x4_7)]) hx hb dX1_leadingVote_64 rfl hl (by decide) rfl (fun ls hl => ?_)
            refine lv_goto (tgt := 80) hx hb dX1_leadingVote_65 (by decide) ?_
            refine lv_iinc (v := (x4_7 + 1)) (lv' := [(4, .int (x4_7 + 1)), (2, .int (x2_7 + (rget 12 (K_7.1 0) x4_7))), (0, .ref (a 0)), (1, .int x1_7), (3, .int x3_7)]) hx hb dX1_leadingVote_80 hl (k := 4) rfl (by rfl) (by decide) rfl (fun ls hl => ?_)
            refine lv_goto (tgt := 7) hx hb dX1_leadingVote_83 (by decide) ?_
            exact ih K_7 x1_7 (x2_7 + (rget 12 (K_7.1 0) x4_7)) x3_7 (x4_7 + 1) _ _ _ ls hf hP hS (lv_sub hl [2, 3, 1, 4, 0] rfl) hk
        · replace hf := (if_neg c_2).symm.trans hf
          refine lv_goto (tgt := 80) hx hb dX1_leadingVote_29 (by decide) ?_
          refine lv_iinc (v := (x4_7 + 1)) (lv' := [(4, .int (x4_7 + 1)), (0, .ref (a 0)), (1, .int x1_7), (2, .int x2_7), (3, .int x3_7)]) hx hb dX1_leadingVote_80 hl (k := 4) rfl (by rfl) (by decide) rfl (fun ls hl => ?_)
          refine lv_goto (tgt := 7) hx hb dX1_leadingVote_83 (by decide) ?_
          exact ih K_7 x1_7 x2_7 x3_7 (x4_7 + 1) _ _ _ ls hf hP hS (lv_sub hl [1, 2, 3, 4, 0] rfl) hk
  obtain ⟨u_4, h_5, hf⟩ := ob hf
  refine hL_7 FUEL K x1 0 0 x1 u_4 _ _ ls h_5 hP hS (lv_sub hl [3, 4, 2, 1, 0] rfl) (fun H locs ls hP hS hl => ?_)
  clear hL_7
  refine lv_iload_n hx hb dX1_leadingVote_86 rfl (lv_at hl 2 rfl) ?_
  refine lv_iload_n hx hb dX1_leadingVote_87 rfl (lv_at hl 3 rfl) ?_
  refine lv_icmp_ne (tgt := 100) hx hb dX1_leadingVote_88 (by decide) (fun c_6 => ?_) (fun c_6 => ?_)
  · replace hf := (if_neg c_6).symm.trans hf
    refine lv_iload_n hx hb dX1_leadingVote_100 rfl (lv_at hl 2 rfl) ?_
    refine lv_iload_n hx hb dX1_leadingVote_101 rfl (lv_at hl 3 rfl) ?_
    refine lv_icmp_le (tgt := 109) hx hb dX1_leadingVote_102 (by decide) (fun c_7 => ?_) (fun c_7 => ?_)
    · replace hf := (if_pos c_7).symm.trans hf
      refine lv_iconst (v := 0) hx hb dX1_leadingVote_109 (by decide) ?_
      exact rd_i F (Option.some.inj hf) hS dX1_leadingVote_110
    · replace hf := (if_neg c_7).symm.trans hf
      refine lv_iconst (v := 1) hx hb dX1_leadingVote_105 (by decide) ?_
      refine lv_goto (tgt := 110) hx hb dX1_leadingVote_106 (by decide) ?_
      exact rd_i F (Option.some.inj hf) hS dX1_leadingVote_110
  · replace hf := (if_pos c_6).symm.trans hf
    refine lv_aload_n hx hb dX1_leadingVote_91 rfl (lv_at hl 0 rfl) ?_
    refine gX1_20 F hX hP 0 rfl (v := .ref (a 3)) rfl dX1_leadingVote_92 ?_
    refine lv_iload_n hx hb dX1_leadingVote_95 rfl (lv_at hl 1 rfl) ?_
    refine k_rd (runVN F hX wdX1_128 (rm := rm_X2_get) (As := [.int x1]) (rest := []) ⟨rfl, rfl⟩ ⟨Nat.le_of_ble_eq_true rfl, Nat.le_of_ble_eq_true rfl⟩ hl.1 rfl rfl (Nat.le_of_ble_eq_true rfl) dX1_leadingVote_96 ⟨Nat.zero_le _, Nat.zero_le _⟩) (k_rget l D cI cP (a 3) (a 4) 12 (by decide) (K.1 1) x1) hX (va_recv hX.1 (va_blk (Bs := (bPar cI a K)) hP 2 rfl) (ci := 2) (q0 := 0) rfl rfl) (va_blk (Bs := (bPar cI a K)) hP 2 rfl) hP hS hA (fun H locs hP hS => ?_)
    exact rd_i F (Option.some.inj hf) hS dX1_leadingVote_99
def X1_joinBy_L108 : Nat → SPar → Int32 → Int32 → Int32 → Int32 → Option (SPar)
  | 0, _, _, _, _, _ => none
  | fu + 1, K_108, x4_108, x5_108, x6_108, x7_108 => (if (K_108.2.1 0) ≤ x7_108 then some K_108 else (if (rget 12 (K_108.1 3) x7_108) = x5_108 then (bnd ((up K_108.1 3 (rput 12 (K_108.1 3) x7_108 x4_108)), K_108.2.1, K_108.2.2.1, K_108.2.2.2) fun M_4 => (bnd ((up M_4.1 4 (rput 12 (M_4.1 4) x7_108 ((rget 12 (M_4.1 4) x7_108) ^^^ x6_108))), M_4.2.1, M_4.2.2.1, M_4.2.2.2) fun M_6 => X1_joinBy_L108 fu M_6 x4_108 x5_108 x6_108 (x7_108 + 1))) else X1_joinBy_L108 fu K_108 x4_108 x5_108 x6_108 (x7_108 + 1)))
def X1_joinBy (K : SPar) (x1 : Int32) : Option (SPar) := (if (if (rget 12 (K.1 3) (rget 20 (K.2.2.1.1 1) x1)) < (rget 12 (K.1 3) (rget 20 (K.2.2.1.1 0) x1)) then (rget 12 (K.1 3) (rget 20 (K.2.2.1.1 1) x1)) else (rget 12 (K.1 3) (rget 20 (K.2.2.1.1 0) x1))) = (if (rget 12 (K.1 3) (rget 20 (K.2.2.1.1 0) x1)) < (rget 12 (K.1 3) (rget 20 (K.2.2.1.1 1) x1)) then (rget 12 (K.1 3) (rget 20 (K.2.2.1.1 1) x1)) else (rget 12 (K.1 3) (rget 20 (K.2.2.1.1 0) x1))) then some K else ((X1_joinBy_L108 FUEL K (if (rget 12 (K.1 3) (rget 20 (K.2.2.1.1 1) x1)) < (rget 12 (K.1 3) (rget 20 (K.2.2.1.1 0) x1)) then (rget 12 (K.1 3) (rget 20 (K.2.2.1.1 1) x1)) else (rget 12 (K.1 3) (rget 20 (K.2.2.1.1 0) x1))) (if (rget 12 (K.1 3) (rget 20 (K.2.2.1.1 0) x1)) < (rget 12 (K.1 3) (rget 20 (K.2.2.1.1 1) x1)) then (rget 12 (K.1 3) (rget 20 (K.2.2.1.1 1) x1)) else (rget 12 (K.1 3) (rget 20 (K.2.2.1.1 0) x1))) (((rget 12 (K.1 4) (rget 20 (K.2.2.1.1 0) x1)) ^^^ (rget 12 (K.1 4) (rget 20 (K.2.2.1.1 1) x1))) ^^^ (rget 20 (K.2.2.1.1 2) x1)) 0).bind fun u_8 => some u_8))
abbrev rm_X1_joinBy : Room := { frames := 1, cells := 0, slots := 0, locals := 22 }
set_option maxHeartbeats 4000000 in
set_option maxRecDepth 100000 in
theorem c_X1_joinBy (l : Launch) (D : va_G) (cI cP : ClassId) (a : Nat → Nat) (K : SPar) (x1 : Int32) (z : SPar) (hf : X1_joinBy K x1 = some z) : MWv l yX1_joinBy cX1_joinBy 8 none rm_X1_joinBy D cI cP [.ref (a 0), .int x1] (wPar cI a K) (wPar cI a z) := by
  refine MWv.of (by decide +kernel) (Nat.le_of_ble_eq_true rfl) ?_
  intro p e s m args below meth c ls A F hX hP hD hA hS hl
  have F : Fx p s m args meth c RX1 cX1_joinBy 8 none := F
  have hx := F.1
  have hb := F.2.1
  have hown := F.2.2.2.1
  have hts := F.2.2.2.2.1
  have hl : lv_has ls 8 [(0, .ref (a 0)), (1, .int x1)] := hl
  unfold X1_joinBy at hf
  refine lv_aload_n hx hb dX1_joinBy_0 rfl (lv_at hl 0 rfl) ?_
  refine gX1_38 F hX hP 0 rfl (v := .ref (a 13)) rfl dX1_joinBy_1 ?_
  refine gX1_145 F hX (va_blk (Bs := (bPar cI a K)) hP 7 rfl) 0 rfl (v := .ref (a 14)) rfl dX1_joinBy_4 ?_
  refine lv_iload_n hx hb dX1_joinBy_7 rfl (lv_at hl 1 rfl) ?_
  refine k_rd (runVN F hX wdX1_128 (rm := rm_X2_get) (As := [.int x1]) (rest := []) ⟨rfl, rfl⟩ ⟨Nat.le_of_ble_eq_true rfl, Nat.le_of_ble_eq_true rfl⟩ hl.1 rfl rfl (Nat.le_of_ble_eq_true rfl) dX1_joinBy_8 ⟨Nat.zero_le _, Nat.zero_le _⟩) (k_rget l D cI cP (a 14) (a 15) 20 (by decide) (K.2.2.1.1 0) x1) hX (va_recv hX.1 (va_blk (Bs := (bStr cI (fun k => a (13 + k)) K.2.2.1)) (va_blk (Bs := (bPar cI a K)) hP 7 rfl) 1 rfl) (ci := 2) (q0 := 0) rfl rfl) (va_blk (Bs := (bStr cI (fun k => a (13 + k)) K.2.2.1)) (va_blk (Bs := (bPar cI a K)) hP 7 rfl) 1 rfl) hP hS hA (fun H locs hP hS => ?_)
  refine lv_istore_n (lv' := [(2, .int (rget 20 (K.2.2.1.1 0) x1)), (0, .ref (a 0)), (1, .int x1)]) hx hb dX1_joinBy_11 rfl hl (by decide) rfl (fun ls hl => ?_)
  refine lv_aload_n hx hb dX1_joinBy_12 rfl (lv_at hl 1 rfl) ?_
  refine gX1_38 F hX hP 0 rfl (v := .ref (a 13)) rfl dX1_joinBy_13 ?_
  refine gX1_148 F hX (va_blk (Bs := (bPar cI a K)) hP 7 rfl) 0 rfl (v := .ref (a 16)) rfl dX1_joinBy_16 ?_
  refine lv_iload_n hx hb dX1_joinBy_19 rfl (lv_at hl 2 rfl) ?_
  refine k_rd (runVN F hX wdX1_128 (rm := rm_X2_get) (As := [.int x1]) (rest := []) ⟨rfl, rfl⟩ ⟨Nat.le_of_ble_eq_true rfl, Nat.le_of_ble_eq_true rfl⟩ hl.1 rfl rfl (Nat.le_of_ble_eq_true rfl) dX1_joinBy_20 ⟨Nat.zero_le _, Nat.zero_le _⟩) (k_rget l D cI cP (a 16) (a 17) 20 (by decide) (K.2.2.1.1 1) x1) hX (va_recv hX.1 (va_blk (Bs := (bStr cI (fun k => a (13 + k)) K.2.2.1)) (va_blk (Bs := (bPar cI a K)) hP 7 rfl) 2 rfl) (ci := 2) (q0 := 0) rfl rfl) (va_blk (Bs := (bStr cI (fun k => a (13 + k)) K.2.2.1)) (va_blk (Bs := (bPar cI a K)) hP 7 rfl) 2 rfl) hP hS hA (fun H locs hP hS => ?_)
  refine lv_istore_n (lv' := [(3, .int (rget 20 (K.2.2.1.1 1) x1)), (2, .int (rget 20 (K.2.2.1.1 0) x1)), (0, .ref (a 0)), (1, .int x1)]) hx hb dX1_joinBy_23 rfl hl (by decide) rfl (fun ls hl => ?_)
  refine lv_aload_n hx hb dX1_joinBy_24 rfl (lv_at hl 2 rfl) ?_
  refine gX1_26 F hX hP 0 rfl (v := .ref (a 7)) rfl dX1_joinBy_25 ?_
  refine lv_iload_n hx hb dX1_joinBy_28 rfl (lv_at hl 1 rfl) ?_
  refine k_rd (runVN F hX wdX1_128 (rm := rm_X2_get) (As := [.int (rget 20 (K.2.2.1.1 0) x1)]) (rest := []) ⟨rfl, rfl⟩ ⟨Nat.le_of_ble_eq_true rfl, Nat.le_of_ble_eq_true rfl⟩ hl.1 rfl rfl (Nat.le_of_ble_eq_true rfl) dX1_joinBy_29 ⟨Nat.zero_le _, Nat.zero_le _⟩) (k_rget l D cI cP (a 7) (a 8) 12 (by decide) (K.1 3) (rget 20 (K.2.2.1.1 0) x1)) hX (va_recv hX.1 (va_blk (Bs := (bPar cI a K)) hP 4 rfl) (ci := 2) (q0 := 0) rfl rfl) (va_blk (Bs := (bPar cI a K)) hP 4 rfl) hP hS hA (fun H locs hP hS => ?_)
  refine lv_aload_n hx hb dX1_joinBy_32 rfl (lv_at hl 2 rfl) ?_
  refine gX1_26 F hX hP 0 rfl (v := .ref (a 7)) rfl dX1_joinBy_33 ?_
  refine lv_iload_n hx hb dX1_joinBy_36 rfl (lv_at hl 0 rfl) ?_
  refine k_rd (runVN F hX wdX1_128 (rm := rm_X2_get) (As := [.int (rget 20 (K.2.2.1.1 1) x1)]) (rest := [.int (rget 12 (K.1 3) (rget 20 (K.2.2.1.1 0) x1))]) ⟨rfl, rfl⟩ ⟨Nat.le_of_ble_eq_true rfl, Nat.le_of_ble_eq_true rfl⟩ hl.1 rfl rfl (Nat.le_of_ble_eq_true rfl) dX1_joinBy_37 ⟨Nat.zero_le _, Nat.zero_le _⟩) (k_rget l D cI cP (a 7) (a 8) 12 (by decide) (K.1 3) (rget 20 (K.2.2.1.1 1) x1)) hX (va_recv hX.1 (va_blk (Bs := (bPar cI a K)) hP 4 rfl) (ci := 2) (q0 := 0) rfl rfl) (va_blk (Bs := (bPar cI a K)) hP 4 rfl) hP hS hA (fun H locs hP hS => ?_)
  refine va_mmin hx hb (F.2.2.1.trans hl.1.symm) hown (hts _ q_417) (hts _ q_352) (hts _ q_51) (hts _ q_353) (Nat.le_of_ble_eq_true rfl) (Nat.le_of_ble_eq_true rfl) (Nat.zero_le _) (Nat.zero_le _) dX1_joinBy_40 ?_
  refine lv_istore (lv' := [(4, .int (if (rget 12 (K.1 3) (rget 20 (K.2.2.1.1 1) x1)) < (rget 12 (K.1 3) (rget 20 (K.2.2.1.1 0) x1)) then (rget 12 (K.1 3) (rget 20 (K.2.2.1.1 1) x1)) else (rget 12 (K.1 3) (rget 20 (K.2.2.1.1 0) x1)))), (3, .int (rget 20 (K.2.2.1.1 1) x1)), (2, .int (rget 20 (K.2.2.1.1 0) x1)), (0, .ref (a 0)), (1, .int x1)]) hx hb dX1_joinBy_43 hl (by decide) rfl (fun ls hl => ?_)
  refine lv_aload_n hx hb dX1_joinBy_45 rfl (lv_at hl 3 rfl) ?_
  refine gX1_26 F hX hP 0 rfl (v := .ref (a 7)) rfl dX1_joinBy_46 ?_
  refine lv_iload_n hx hb dX1_joinBy_49 rfl (lv_at hl 2 rfl) ?_
  refine k_rd (runVN F hX wdX1_128 (rm := rm_X2_get) (As := [.int (rget 20 (K.2.2.1.1 0) x1)]) (rest := []) ⟨rfl, rfl⟩ ⟨Nat.le_of_ble_eq_true rfl, Nat.le_of_ble_eq_true rfl⟩ hl.1 rfl rfl (Nat.le_of_ble_eq_true rfl) dX1_joinBy_50 ⟨Nat.zero_le _, Nat.zero_le _⟩) (k_rget l D cI cP (a 7) (a 8) 12 (by decide) (K.1 3) (rget 20 (K.2.2.1.1 0) x1)) hX (va_recv hX.1 (va_blk (Bs := (bPar cI a K)) hP 4 rfl) (ci := 2) (q0 := 0) rfl rfl) (va_blk (Bs := (bPar cI a K)) hP 4 rfl) hP hS hA (fun H locs hP hS => ?_)
  refine lv_aload_n hx hb dX1_joinBy_53 rfl (lv_at hl 3 rfl) ?_
  refine gX1_26 F hX hP 0 rfl (v := .ref (a 7)) rfl dX1_joinBy_54 ?_
  refine lv_iload_n hx hb dX1_joinBy_57 rfl (lv_at hl 1 rfl) ?_
  refine k_rd (runVN F hX wdX1_128 (rm := rm_X2_get) (As := [.int (rget 20 (K.2.2.1.1 1) x1)]) (rest := [.int (rget 12 (K.1 3) (rget 20 (K.2.2.1.1 0) x1))]) ⟨rfl, rfl⟩ ⟨Nat.le_of_ble_eq_true rfl, Nat.le_of_ble_eq_true rfl⟩ hl.1 rfl rfl (Nat.le_of_ble_eq_true rfl) dX1_joinBy_58 ⟨Nat.zero_le _, Nat.zero_le _⟩) (k_rget l D cI cP (a 7) (a 8) 12 (by decide) (K.1 3) (rget 20 (K.2.2.1.1 1) x1)) hX (va_recv hX.1 (va_blk (Bs := (bPar cI a K)) hP 4 rfl) (ci := 2) (q0 := 0) rfl rfl) (va_blk (Bs := (bPar cI a K)) hP 4 rfl) hP hS hA (fun H locs hP hS => ?_)
  refine va_mmax hx hb (F.2.2.1.trans hl.1.symm) hown (hts _ q_418) (hts _ q_78) (hts _ q_51) (hts _ q_79) (Nat.le_of_ble_eq_true rfl) (Nat.le_of_ble_eq_true rfl) (Nat.zero_le _) (Nat.zero_le _) dX1_joinBy_61 ?_
  refine lv_istore (lv' := [(5, .int (if (rget 12 (K.1 3) (rget 20 (K.2.2.1.1 0) x1)) < (rget 12 (K.1 3) (rget 20 (K.2.2.1.1 1) x1)) then (rget 12 (K.1 3) (rget 20 (K.2.2.1.1 1) x1)) else (rget 12 (K.1 3) (rget 20 (K.2.2.1.1 0) x1)))), (4, .int (if (rget 12 (K.1 3) (rget 20 (K.2.2.1.1 1) x1)) < (rget 12 (K.1 3) (rget 20 (K.2.2.1.1 0) x1)) then (rget 12 (K.1 3) (rget 20 (K.2.2.1.1 1) x1)) else (rget 12 (K.1 3) (rget 20 (K.2.2.1.1 0) x1)))), (3, .int (rget 20 (K.2.2.1.1 1) x1)), (2, .int (rget 20 (K.2.2.1.1 0) x1)), (0, .ref (a 0)), (1, .int x1)]) hx hb dX1_joinBy_64 hl (by decide) rfl (fun ls hl => ?_)
  refine lv_iload hx hb dX1_joinBy_66 (lv_at hl 1 rfl) ?_
  refine lv_iload hx hb dX1_joinBy_68 (lv_at hl 0 rfl) ?_
  refine lv_icmp_ne (tgt := 74) hx hb dX1_joinBy_70 (by decide) (fun c_1 => ?_) (fun c_1 => ?_)
  · replace hf := (if_neg c_1).symm.trans hf
    refine lv_aload_n hx hb dX1_joinBy_74 rfl (lv_at hl 4 rfl) ?_
    refine gX1_29 F hX hP 0 rfl (v := .ref (a 9)) rfl dX1_joinBy_75 ?_
    refine lv_iload_n hx hb dX1_joinBy_78 rfl (lv_at hl 3 rfl) ?_
    refine k_rd (runVN F hX wdX1_128 (rm := rm_X2_get) (As := [.int (rget 20 (K.2.2.1.1 0) x1)]) (rest := []) ⟨rfl, rfl⟩ ⟨Nat.le_of_ble_eq_true rfl, Nat.le_of_ble_eq_true rfl⟩ hl.1 rfl rfl (Nat.le_of_ble_eq_true rfl) dX1_joinBy_79 ⟨Nat.zero_le _, Nat.zero_le _⟩) (k_rget l D cI cP (a 9) (a 10) 12 (by decide) (K.1 4) (rget 20 (K.2.2.1.1 0) x1)) hX (va_recv hX.1 (va_blk (Bs := (bPar cI a K)) hP 5 rfl) (ci := 2) (q0 := 0) rfl rfl) (va_blk (Bs := (bPar cI a K)) hP 5 rfl) hP hS hA (fun H locs hP hS => ?_)
    refine lv_aload_n hx hb dX1_joinBy_82 rfl (lv_at hl 4 rfl) ?_
    refine gX1_29 F hX hP 0 rfl (v := .ref (a 9)) rfl dX1_joinBy_83 ?_
    refine lv_iload_n hx hb dX1_joinBy_86 rfl (lv_at hl 2 rfl) ?_
    refine k_rd (runVN F hX wdX1_128 (rm := rm_X2_get) (As := [.int (rget 20 (K.2.2.1.1 1) x1)]) (rest := [.int (rget 12 (K.1 4) (rget 20 (K.2.2.1.1 0) x1))]) ⟨rfl, rfl⟩ ⟨Nat.le_of_ble_eq_true rfl, Nat.le_of_ble_eq_true rfl⟩ hl.1 rfl rfl (Nat.le_of_ble_eq_true rfl) dX1_joinBy_87 ⟨Nat.zero_le _, Nat.zero_le _⟩) (k_rget l D cI cP (a 9) (a 10) 12 (by decide) (K.1 4) (rget 20 (K.2.2.1.1 1) x1)) hX (va_recv hX.1 (va_blk (Bs := (bPar cI a K)) hP 5 rfl) (ci := 2) (q0 := 0) rfl rfl) (va_blk (Bs := (bPar cI a K)) hP 5 rfl) hP hS hA (fun H locs hP hS => ?_)
    refine lv_ixor hx hb dX1_joinBy_90 ?_
    refine lv_aload_n hx hb dX1_joinBy_91 rfl (lv_at hl 4 rfl) ?_
    refine gX1_38 F hX hP 0 rfl (v := .ref (a 13)) rfl dX1_joinBy_92 ?_
    refine gX1_159 F hX (va_blk (Bs := (bPar cI a K)) hP 7 rfl) 0 rfl (v := .ref (a 18)) rfl dX1_joinBy_95 ?_
    refine lv_iload_n hx hb dX1_joinBy_98 rfl (lv_at hl 5 rfl) ?_
    refine k_rd (runVN F hX wdX1_128 (rm := rm_X2_get) (As := [.int x1]) (rest := [.int ((rget 12 (K.1 4) (rget 20 (K.2.2.1.1 0) x1)) ^^^ (rget 12 (K.1 4) (rget 20 (K.2.2.1.1 1) x1)))]) ⟨rfl, rfl⟩ ⟨Nat.le_of_ble_eq_true rfl, Nat.le_of_ble_eq_true rfl⟩ hl.1 rfl rfl (Nat.le_of_ble_eq_true rfl) dX1_joinBy_99 ⟨Nat.zero_le _, Nat.zero_le _⟩) (k_rget l D cI cP (a 18) (a 19) 20 (by decide) (K.2.2.1.1 2) x1) hX (va_recv hX.1 (va_blk (Bs := (bStr cI (fun k => a (13 + k)) K.2.2.1)) (va_blk (Bs := (bPar cI a K)) hP 7 rfl) 3 rfl) (ci := 2) (q0 := 0) rfl rfl) (va_blk (Bs := (bStr cI (fun k => a (13 + k)) K.2.2.1)) (va_blk (Bs := (bPar cI a K)) hP 7 rfl) 3 rfl) hP hS hA (fun H locs hP hS => ?_)
    refine lv_ixor hx hb dX1_joinBy_102 ?_
    refine lv_istore (lv' := [(6, .int (((rget 12 (K.1 4) (rget 20 (K.2.2.1.1 0) x1)) ^^^ (rget 12 (K.1 4) (rget 20 (K.2.2.1.1 1) x1))) ^^^ (rget 20 (K.2.2.1.1 2) x1))), (5, .int (if (rget 12 (K.1 3) (rget 20 (K.2.2.1.1 0) x1)) < (rget 12 (K.1 3) (rget 20 (K.2.2.1.1 1) x1)) then (rget 12 (K.1 3) (rget 20 (K.2.2.1.1 1) x1)) else (rget 12 (K.1 3) (rget 20 (K.2.2.1.1 0) x1)))), (4, .int (if (rget 12 (K.1 3) (rget 20 (K.2.2.1.1 1) x1)) < (rget 12 (K.1 3) (rget 20 (K.2.2.1.1 0) x1)) then (rget 12 (K.1 3) (rget 20 (K.2.2.1.1 1) x1)) else (rget 12 (K.1 3) (rget 20 (K.2.2.1.1 0) x1)))), (3, .int (rget 20 (K.2.2.1.1 1) x1)), (2, .int (rget 20 (K.2.2.1.1 0) x1)), (0, .ref (a 0)), (1, .int x1)]) hx hb dX1_joinBy_103 hl (by decide) rfl (fun ls hl => ?_)
    refine lv_iconst (v := 0) hx hb dX1_joinBy_105 (by decide) ?_
    refine lv_istore (lv' := [(7, .int 0), (6, .int (((rget 12 (K.1 4) (rget 20 (K.2.2.1.1 0) x1)) ^^^ (rget 12 (K.1 4) (rget 20 (K.2.2.1.1 1) x1))) ^^^ (rget 20 (K.2.2.1.1 2) x1))), (5, .int (if (rget 12 (K.1 3) (rget 20 (K.2.2.1.1 0) x1)) < (rget 12 (K.1 3) (rget 20 (K.2.2.1.1 1) x1)) then (rget 12 (K.1 3) (rget 20 (K.2.2.1.1 1) x1)) else (rget 12 (K.1 3) (rget 20 (K.2.2.1.1 0) x1)))), (4, .int (if (rget 12 (K.1 3) (rget 20 (K.2.2.1.1 1) x1)) < (rget 12 (K.1 3) (rget 20 (K.2.2.1.1 0) x1)) then (rget 12 (K.1 3) (rget 20 (K.2.2.1.1 1) x1)) else (rget 12 (K.1 3) (rget 20 (K.2.2.1.1 0) x1)))), (3, .int (rget 20 (K.2.2.1.1 1) x1)), (2, .int (rget 20 (K.2.2.1.1 0) x1)), (0, .ref (a 0)), (1, .int x1)]) hx hb dX1_joinBy_106 hl (by decide) rfl (fun ls hl => ?_)
    have hL_108 : ∀ (fu : Nat) (K_108 : SPar) (x4_108 : Int32) (x5_108 : Int32) (x6_108 : Int32) (x7_108 : Int32) (v : SPar) (H : Heap) (locs : List Loc) (ls : Array Slot), X1_joinBy_L108 fu K_108 x4_108 x5_108 x6_108 x7_108 = some v → va_P D vwCl (wPar cI a K_108) H → va_D A (wPar cI a K_108) → va_S A s.heap H locs → lv_has ls 8 [(0, .ref (a 0)), (4, .int x4_108), (5, .int x5_108), (6, .int x6_108), (7, .int x7_108)] → (∀ (H : Heap) (locs : List Loc) (ls : Array Slot), va_P D vwCl (wPar cI a v) H → va_D A (wPar cI a v) → va_S A s.heap H locs → lv_has ls 8 [] → W p l e rm_X1_joinBy s m args below meth c H locs 0 0 (QWv D below args s A (wPar cI a z)) (F0 m 169 ls [])) → W p l e rm_X1_joinBy s m args below meth c H locs 0 0 (QWv D below args s A (wPar cI a z)) (F0 m 108 ls []) := by
      intro fu
      induction fu with
      | zero =>
        intro K_108 x4_108 x5_108 x6_108 x7_108 v H locs ls hf
        exact absurd hf (by simp [X1_joinBy_L108])
      | succ fu ih =>
        intro K_108 x4_108 x5_108 x6_108 x7_108 v _ _ ls hf hP hD hS hl hk
        rw [X1_joinBy_L108] at hf
        refine lv_iload hx hb dX1_joinBy_108 (lv_at hl 4 rfl) ?_
        refine lv_aload_n hx hb dX1_joinBy_110 rfl (lv_at hl 0 rfl) ?_
        refine gX1_63 F hX hP 0 rfl (v := .int (K_108.2.1 0)) rfl dX1_joinBy_111 ?_
        refine lv_icmp_ge (tgt := 169) hx hb dX1_joinBy_114 (by decide) (fun c_2 => ?_) (fun c_2 => ?_)
        · replace hf := (if_pos c_2).symm.trans hf
          obtain rfl := Option.some.inj hf
          exact hk _ _ ls hP hD hS (lv_sub hl [] rfl)
        · replace hf := (if_neg c_2).symm.trans hf
          refine lv_aload_n hx hb dX1_joinBy_117 rfl (lv_at hl 0 rfl) ?_
          refine gX1_26 F hX hP 0 rfl (v := .ref (a 7)) rfl dX1_joinBy_118 ?_
          refine lv_iload hx hb dX1_joinBy_121 (lv_at hl 4 rfl) ?_
          refine k_rd (runVN F hX wdX1_128 (rm := rm_X2_get) (As := [.int x7_108]) (rest := []) ⟨rfl, rfl⟩ ⟨Nat.le_of_ble_eq_true rfl, Nat.le_of_ble_eq_true rfl⟩ hl.1 rfl rfl (Nat.le_of_ble_eq_true rfl) dX1_joinBy_123 ⟨Nat.zero_le _, Nat.zero_le _⟩) (k_rget l D cI cP (a 7) (a 8) 12 (by decide) (K_108.1 3) x7_108) hX (va_recv hX.1 (va_blk (Bs := (bPar cI a K_108)) hP 4 rfl) (ci := 2) (q0 := 0) rfl rfl) (va_blk (Bs := (bPar cI a K_108)) hP 4 rfl) hP hS hA (fun H locs hP hS => ?_)
          refine lv_iload hx hb dX1_joinBy_126 (lv_at hl 2 rfl) ?_
          refine lv_icmp_ne (tgt := 163) hx hb dX1_joinBy_128 (by decide) (fun c_3 => ?_) (fun c_3 => ?_)
          · replace hf := (if_neg c_3).symm.trans hf
            refine lv_iinc (v := (x7_108 + 1)) (lv' := [(7, .int (x7_108 + 1)), (0, .ref (a 0)), (4, .int x4_108), (5, .int x5_108), (6, .int x6_108)]) hx hb dX1_joinBy_163 hl (k := 4) rfl (by rfl) (by decide) rfl (fun ls hl => ?_)
            refine lv_goto (tgt := 108) hx hb dX1_joinBy_166 (by decide) ?_
            exact ih K_108 x4_108 x5_108 x6_108 (x7_108 + 1) _ _ _ ls hf hP hD hS (lv_sub hl [1, 2, 3, 4, 0] rfl) hk
          · replace hf := (if_pos c_3).symm.trans hf
            refine lv_aload_n hx hb dX1_joinBy_131 rfl (lv_at hl 0 rfl) ?_
            refine gX1_26 F hX hP 0 rfl (v := .ref (a 7)) rfl dX1_joinBy_132 ?_
            refine lv_iload hx hb dX1_joinBy_135 (lv_at hl 4 rfl) ?_
            refine lv_iload hx hb dX1_joinBy_137 (lv_at hl 1 rfl) ?_
            refine k_wv (runVN F hX wdX1_81 (rm := rm_X2_put) (As := [.int x7_108, .int x4_108]) (rest := []) ⟨rfl, rfl⟩ ⟨Nat.le_of_ble_eq_true rfl, Nat.le_of_ble_eq_true rfl⟩ hl.1 rfl rfl (Nat.le_of_ble_eq_true rfl) dX1_joinBy_139 ⟨Nat.zero_le _, Nat.zero_le _⟩) (k_rput l D cI cP (a 7) (a 8) 12 (by decide) (K_108.1 3) x7_108 x4_108) hX (va_recv hX.1 (va_blk (Bs := (bPar cI a K_108)) hP 4 rfl) (ci := 2) (q0 := 0) rfl rfl) (Cut.one (Bs := (bPar cI a K_108)) (k := 4) rfl rfl) hP hD hS hA (fun H locs hP hD hS => ?_)
            obtain ⟨M_4, e_5, hf⟩ := bnd_e hf
            have hP : va_P D vwCl (wPar cI a M_4) H := by rw [e_5]; exact hP
            have hD : va_D A (wPar cI a M_4) := by rw [e_5]; exact hD
            clear e_5
            refine lv_aload_n hx hb dX1_joinBy_142 rfl (lv_at hl 0 rfl) ?_
            refine gX1_29 F hX hP 0 rfl (v := .ref (a 9)) rfl dX1_joinBy_143 ?_
            refine lv_iload hx hb dX1_joinBy_146 (lv_at hl 4 rfl) ?_
            refine lv_aload_n hx hb dX1_joinBy_148 rfl (lv_at hl 0 rfl) ?_
            refine gX1_29 F hX hP 0 rfl (v := .ref (a 9)) rfl dX1_joinBy_149 ?_
            refine lv_iload hx hb dX1_joinBy_152 (lv_at hl 4 rfl) ?_
            refine k_rd (runVN F hX wdX1_128 (rm := rm_X2_get) (As := [.int x7_108]) (rest := [.int x7_108, .ref (a 9)]) ⟨rfl, rfl⟩ ⟨Nat.le_of_ble_eq_true rfl, Nat.le_of_ble_eq_true rfl⟩ hl.1 rfl rfl (Nat.le_of_ble_eq_true rfl) dX1_joinBy_154 ⟨Nat.zero_le _, Nat.zero_le _⟩) (k_rget l D cI cP (a 9) (a 10) 12 (by decide) (M_4.1 4) x7_108) hX (va_recv hX.1 (va_blk (Bs := (bPar cI a M_4)) hP 5 rfl) (ci := 2) (q0 := 0) rfl rfl) (va_blk (Bs := (bPar cI a M_4)) hP 5 rfl) hP hS hA (fun H locs hP hS => ?_)
            refine lv_iload hx hb dX1_joinBy_157 (lv_at hl 3 rfl) ?_
            refine lv_ixor hx hb dX1_joinBy_159 ?_
            refine k_wv (runVN F hX wdX1_81 (rm := rm_X2_put) (As := [.int x7_108, .int ((rget 12 (M_4.1 4) x7_108) ^^^ x6_108)]) (rest := []) ⟨rfl, rfl⟩ ⟨Nat.le_of_ble_eq_true rfl, Nat.le_of_ble_eq_true rfl⟩ hl.1 rfl rfl (Nat.le_of_ble_eq_true rfl) dX1_joinBy_160 ⟨Nat.zero_le _, Nat.zero_le _⟩) (k_rput l D cI cP (a 9) (a 10) 12 (by decide) (M_4.1 4) x7_108 ((rget 12 (M_4.1 4) x7_108) ^^^ x6_108)) hX (va_recv hX.1 (va_blk (Bs := (bPar cI a M_4)) hP 5 rfl) (ci := 2) (q0 := 0) rfl rfl) (Cut.one (Bs := (bPar cI a M_4)) (k := 5) rfl rfl) hP hD hS hA (fun H locs hP hD hS => ?_)
            obtain ⟨M_6, e_7, hf⟩ := bnd_e hf
            have hP : va_P D vwCl (wPar cI a M_6) H := by rw [e_7]; exact hP
            have hD : va_D A (wPar cI a M_6) := by rw [e_7]; exact hD
            clear e_7
            refine lv_iinc (v := (x7_108 + 1)) (lv' := [(7, .int (x7_108 + 1)), (0, .ref (a 0)), (4, .int x4_108), (5, .int x5_108), (6, .int x6_108)]) hx hb dX1_joinBy_163 hl (k := 4) rfl (by rfl) (by decide) rfl (fun ls hl => ?_)
            refine lv_goto (tgt := 108) hx hb dX1_joinBy_166 (by decide) ?_
            exact ih M_6 x4_108 x5_108 x6_108 (x7_108 + 1) _ _ _ ls hf hP hD hS (lv_sub hl [1, 2, 3, 4, 0] rfl) hk
    obtain ⟨u_8, h_9, hf⟩ := ob hf
    refine hL_108 FUEL K (if (rget 12 (K.1 3) (rget 20 (K.2.2.1.1 1) x1)) < (rget 12 (K.1 3) (rget 20 (K.2.2.1.1 0) x1)) then (rget 12 (K.1 3) (rget 20 (K.2.2.1.1 1) x1)) else (rget 12 (K.1 3) (rget 20 (K.2.2.1.1 0) x1))) (if (rget 12 (K.1 3) (rget 20 (K.2.2.1.1 0) x1)) < (rget 12 (K.1 3) (rget 20 (K.2.2.1.1 1) x1)) then (rget 12 (K.1 3) (rget 20 (K.2.2.1.1 1) x1)) else (rget 12 (K.1 3) (rget 20 (K.2.2.1.1 0) x1))) (((rget 12 (K.1 4) (rget 20 (K.2.2.1.1 0) x1)) ^^^ (rget 12 (K.1 4) (rget 20 (K.2.2.1.1 1) x1))) ^^^ (rget 20 (K.2.2.1.1 2) x1)) 0 u_8 _ _ ls h_9 hP hD hS (lv_sub hl [6, 3, 2, 1, 0] rfl) (fun H locs ls hP hD hS hl => ?_)
    clear hL_108
    obtain rfl := (Option.some.inj hf)
    exact wr_v F hP hS dX1_joinBy_169
  · replace hf := (if_pos c_1).symm.trans hf
    obtain rfl := (Option.some.inj hf)
    exact wr_v F hP hS dX1_joinBy_73
def X1_tellGroups_L2 : Nat → SPar → Int32 → Option (SPar)
  | 0, _, _ => none
  | fu + 1, K_2, x1_2 => (if (K_2.2.1 0) ≤ x1_2 then some K_2 else (bnd ((up K_2.1 3 (rput 12 (K_2.1 3) x1_2 x1_2)), K_2.2.1, K_2.2.2.1, K_2.2.2.2) fun M_2 => (bnd ((up M_2.1 4 (rput 12 (M_2.1 4) x1_2 0)), M_2.2.1, M_2.2.2.1, M_2.2.2.2) fun M_4 => X1_tellGroups_L2 fu M_4 (x1_2 + 1))))
def X1_tellGroups_L36 : Nat → SPar → Int32 → Option (SPar)
  | 0, _, _ => none
  | fu + 1, K_36, x1_36 => (if (K_36.2.2.1.2 0) ≤ x1_36 then some K_36 else ((X1_joinBy K_36 x1_36).bind fun u_9 => X1_tellGroups_L36 fu u_9 (x1_36 + 1)))
def X1_tellGroups (K : SPar) : Option (SPar) := ((X1_tellGroups_L2 FUEL K 0).bind fun u_6 => ((X1_tellGroups_L36 FUEL u_6 0).bind fun u_11 => some u_11))
abbrev rm_X1_tellGroups : Room := { frames := 2, cells := 0, slots := 0, locals := 49 }
set_option maxHeartbeats 4000000 in
set_option maxRecDepth 100000 in
theorem c_X1_tellGroups (l : Launch) (D : va_G) (cI cP : ClassId) (a : Nat → Nat) (K : SPar) (z : SPar) (hf : X1_tellGroups K  = some z) : MWv l yX1_tellGroups cX1_tellGroups 2 none rm_X1_tellGroups D cI cP [.ref (a 0)] (wPar cI a K) (wPar cI a z) := by
  refine MWv.of (by decide +kernel) (Nat.le_of_ble_eq_true rfl) ?_
  intro p e s m args below meth c ls A F hX hP hD hA hS hl
  have F : Fx p s m args meth c RX1 cX1_tellGroups 2 none := F
  have hx := F.1
  have hb := F.2.1
  have hown := F.2.2.2.1
  have hts := F.2.2.2.2.1
  have hl : lv_has ls 2 [(0, .ref (a 0))] := hl
  unfold X1_tellGroups at hf
  refine lv_iconst (v := 0) hx hb dX1_tellGroups_0 (by decide) ?_
  refine lv_istore_n (lv' := [(1, .int 0), (0, .ref (a 0))]) hx hb dX1_tellGroups_1 rfl hl (by decide) rfl (fun ls hl => ?_)
  have hL_2 : ∀ (fu : Nat) (K_2 : SPar) (x1_2 : Int32) (v : SPar) (H : Heap) (locs : List Loc) (ls : Array Slot), X1_tellGroups_L2 fu K_2 x1_2 = some v → va_P D vwCl (wPar cI a K_2) H → va_D A (wPar cI a K_2) → va_S A s.heap H locs → lv_has ls 2 [(0, .ref (a 0)), (1, .int x1_2)] → (∀ (H : Heap) (locs : List Loc) (ls : Array Slot), va_P D vwCl (wPar cI a v) H → va_D A (wPar cI a v) → va_S A s.heap H locs → lv_has ls 2 [(0, .ref (a 0))] → W p l e rm_X1_tellGroups s m args below meth c H locs 0 0 (QWv D below args s A (wPar cI a z)) (F0 m 34 ls [])) → W p l e rm_X1_tellGroups s m args below meth c H locs 0 0 (QWv D below args s A (wPar cI a z)) (F0 m 2 ls []) := by
    intro fu
    induction fu with
    | zero =>
      intro K_2 x1_2 v H locs ls hf
      exact absurd hf (by simp [X1_tellGroups_L2])
    | succ fu ih =>
      intro K_2 x1_2 v _ _ ls hf hP hD hS hl hk
      rw [X1_tellGroups_L2] at hf
      refine lv_iload_n hx hb dX1_tellGroups_2 rfl (lv_at hl 1 rfl) ?_
      refine lv_aload_n hx hb dX1_tellGroups_3 rfl (lv_at hl 0 rfl) ?_
      refine gX1_63 F hX hP 0 rfl (v := .int (K_2.2.1 0)) rfl dX1_tellGroups_4 ?_
      refine lv_icmp_ge (tgt := 34) hx hb dX1_tellGroups_7 (by decide) (fun c_1 => ?_) (fun c_1 => ?_)
      · replace hf := (if_pos c_1).symm.trans hf
        obtain rfl := Option.some.inj hf
        exact hk _ _ ls hP hD hS (lv_sub hl [0] rfl)
      · replace hf := (if_neg c_1).symm.trans hf
        refine lv_aload_n hx hb dX1_tellGroups_10 rfl (lv_at hl 0 rfl) ?_
        refine gX1_26 F hX hP 0 rfl (v := .ref (a 7)) rfl dX1_tellGroups_11 ?_
        refine lv_iload_n hx hb dX1_tellGroups_14 rfl (lv_at hl 1 rfl) ?_
        refine lv_iload_n hx hb dX1_tellGroups_15 rfl (lv_at hl 1 rfl) ?_
        refine k_wv (runVN F hX wdX1_81 (rm := rm_X2_put) (As := [.int x1_2, .int x1_2]) (rest := []) ⟨rfl, rfl⟩ ⟨Nat.le_of_ble_eq_true rfl, Nat.le_of_ble_eq_true rfl⟩ hl.1 rfl rfl (Nat.le_of_ble_eq_true rfl) dX1_tellGroups_16 ⟨Nat.zero_le _, Nat.zero_le _⟩) (k_rput l D cI cP (a 7) (a 8) 12 (by decide) (K_2.1 3) x1_2 x1_2) hX (va_recv hX.1 (va_blk (Bs := (bPar cI a K_2)) hP 4 rfl) (ci := 2) (q0 := 0) rfl rfl) (Cut.one (Bs := (bPar cI a K_2)) (k := 4) rfl rfl) hP hD hS hA (fun H locs hP hD hS => ?_)
        obtain ⟨M_2, e_3, hf⟩ := bnd_e hf
        have hP : va_P D vwCl (wPar cI a M_2) H := by rw [e_3]; exact hP
        have hD : va_D A (wPar cI a M_2) := by rw [e_3]; exact hD
        clear e_3
        refine lv_aload_n hx hb dX1_tellGroups_19 rfl (lv_at hl 0 rfl) ?_
        refine gX1_29 F hX hP 0 rfl (v := .ref (a 9)) rfl dX1_tellGroups_20 ?_
        refine lv_iload_n hx hb dX1_tellGroups_23 rfl (lv_at hl 1 rfl) ?_
        refine lv_iconst (v := 0) hx hb dX1_tellGroups_24 (by decide) ?_
        refine k_wv (runVN F hX wdX1_81 (rm := rm_X2_put) (As := [.int x1_2, .int 0]) (rest := []) ⟨rfl, rfl⟩ ⟨Nat.le_of_ble_eq_true rfl, Nat.le_of_ble_eq_true rfl⟩ hl.1 rfl rfl (Nat.le_of_ble_eq_true rfl) dX1_tellGroups_25 ⟨Nat.zero_le _, Nat.zero_le _⟩) (k_rput l D cI cP (a 9) (a 10) 12 (by decide) (M_2.1 4) x1_2 0) hX (va_recv hX.1 (va_blk (Bs := (bPar cI a M_2)) hP 5 rfl) (ci := 2) (q0 := 0) rfl rfl) (Cut.one (Bs := (bPar cI a M_2)) (k := 5) rfl rfl) hP hD hS hA (fun H locs hP hD hS => ?_)
        obtain ⟨M_4, e_5, hf⟩ := bnd_e hf
        have hP : va_P D vwCl (wPar cI a M_4) H := by rw [e_5]; exact hP
        have hD : va_D A (wPar cI a M_4) := by rw [e_5]; exact hD
        clear e_5
        refine lv_iinc (v := (x1_2 + 1)) (lv' := [(1, .int (x1_2 + 1)), (0, .ref (a 0))]) hx hb dX1_tellGroups_28 hl (k := 1) rfl (by rfl) (by decide) rfl (fun ls hl => ?_)
        refine lv_goto (tgt := 2) hx hb dX1_tellGroups_31 (by decide) ?_
        exact ih M_4 (x1_2 + 1) _ _ _ ls hf hP hD hS (lv_sub hl [1, 0] rfl) hk
  obtain ⟨u_6, h_7, hf⟩ := ob hf
  refine hL_2 FUEL K 0 u_6 _ _ ls h_7 hP hD hS (lv_sub hl [1, 0] rfl) (fun H locs ls hP hD hS hl => ?_)
  clear hL_2
  refine lv_iconst (v := 0) hx hb dX1_tellGroups_34 (by decide) ?_
  refine lv_istore_n (lv' := [(1, .int 0), (0, .ref (a 0))]) hx hb dX1_tellGroups_35 rfl hl (by decide) rfl (fun ls hl => ?_)
  have hL_36 : ∀ (fu : Nat) (K_36 : SPar) (x1_36 : Int32) (v : SPar) (H : Heap) (locs : List Loc) (ls : Array Slot), X1_tellGroups_L36 fu K_36 x1_36 = some v → va_P D vwCl (wPar cI a K_36) H → va_D A (wPar cI a K_36) → va_S A s.heap H locs → lv_has ls 2 [(0, .ref (a 0)), (1, .int x1_36)] → (∀ (H : Heap) (locs : List Loc) (ls : Array Slot), va_P D vwCl (wPar cI a v) H → va_D A (wPar cI a v) → va_S A s.heap H locs → lv_has ls 2 [] → W p l e rm_X1_tellGroups s m args below meth c H locs 0 0 (QWv D below args s A (wPar cI a z)) (F0 m 58 ls [])) → W p l e rm_X1_tellGroups s m args below meth c H locs 0 0 (QWv D below args s A (wPar cI a z)) (F0 m 36 ls []) := by
    intro fu
    induction fu with
    | zero =>
      intro K_36 x1_36 v H locs ls hf
      exact absurd hf (by simp [X1_tellGroups_L36])
    | succ fu ih =>
      intro K_36 x1_36 v _ _ ls hf hP hD hS hl hk
      rw [X1_tellGroups_L36] at hf
      refine lv_iload_n hx hb dX1_tellGroups_36 rfl (lv_at hl 1 rfl) ?_
      refine lv_aload_n hx hb dX1_tellGroups_37 rfl (lv_at hl 0 rfl) ?_
      refine gX1_38 F hX hP 0 rfl (v := .ref (a 13)) rfl dX1_tellGroups_38 ?_
      refine gX1_100 F hX (va_blk (Bs := (bPar cI a K_36)) hP 7 rfl) 0 rfl (v := .int (K_36.2.2.1.2 0)) rfl dX1_tellGroups_41 ?_
      refine lv_icmp_ge (tgt := 58) hx hb dX1_tellGroups_44 (by decide) (fun c_8 => ?_) (fun c_8 => ?_)
      · replace hf := (if_pos c_8).symm.trans hf
        obtain rfl := Option.some.inj hf
        exact hk _ _ ls hP hD hS (lv_sub hl [] rfl)
      · replace hf := (if_neg c_8).symm.trans hf
        refine lv_aload_n hx hb dX1_tellGroups_47 rfl (lv_at hl 0 rfl) ?_
        refine lv_iload_n hx hb dX1_tellGroups_48 rfl (lv_at hl 1 rfl) ?_
        obtain ⟨u_9, h_10, hf⟩ := ob hf
        refine k_wv (runV F wdX1_142 (rm := rm_X1_joinBy) (As := [.int x1_36]) (rest := []) ⟨rfl, rfl⟩ ⟨Nat.le_of_ble_eq_true rfl, Nat.le_of_ble_eq_true rfl⟩ hl.1 rfl rfl (Nat.le_of_ble_eq_true rfl) dX1_tellGroups_49 ⟨Nat.zero_le _, Nat.zero_le _⟩) (c_X1_joinBy l D cI cP a K_36 x1_36 _ h_10) hX (va_recv hX.1 hP (ci := 1) (q0 := 0) rfl rfl) (Cut.all rfl) hP hD hS hA (fun H locs hP hD hS => ?_)
        have hP : va_P D vwCl (wPar cI a u_9) H := hP
        have hD : va_D A (wPar cI a u_9) := hD
        refine lv_iinc (v := (x1_36 + 1)) (lv' := [(1, .int (x1_36 + 1)), (0, .ref (a 0))]) hx hb dX1_tellGroups_52 hl (k := 1) rfl (by rfl) (by decide) rfl (fun ls hl => ?_)
        refine lv_goto (tgt := 36) hx hb dX1_tellGroups_55 (by decide) ?_
        exact ih u_9 (x1_36 + 1) _ _ _ ls hf hP hD hS (lv_sub hl [1, 0] rfl) hk
  obtain ⟨u_11, h_12, hf⟩ := ob hf
  refine hL_36 FUEL u_6 0 u_11 _ _ ls h_12 hP hD hS (lv_sub hl [1, 0] rfl) (fun H locs ls hP hD hS hl => ?_)
  clear hL_36
  obtain rfl := (Option.some.inj hf)
  exact wr_v F hP hS dX1_tellGroups_58
def X1_tellVotes_J28 (K_28 : SPar) (x1_28 : Int32) (x2_28 : Int32) (t0_28 : Int32) (t1_28 : Int32) : Option (Int32) := (if t1_28 = t0_28 then (if (rget 12 (K_28.1 3) x1_28) = x1_28 then ((X1_leadingVote K_28 (rget 12 (K_28.1 3) x1_28)).bind fun u_10 => some u_10) else some ((rget 12 (K_28.1 5) (rget 12 (K_28.1 3) x1_28)) ^^^ (rget 12 (K_28.1 4) x1_28))) else some x2_28)
def X1_tellVotes_L12 : Nat → SPar → Int32 → Option (SPar)
  | 0, _, _ => none
  | fu + 1, K_12, x1_12 => (if (K_12.2.1 0) ≤ x1_12 then some K_12 else ((X1_pulledVote K_12 x1_12).bind fun u_6 => ((X1_tellVotes_J28 K_12 x1_12 u_6 (-1) u_6).bind fun u_12 => (bnd ((up K_12.1 5 (rput 12 (K_12.1 5) x1_12 u_12)), K_12.2.1, K_12.2.2.1, K_12.2.2.2) fun M_14 => (bnd (M_14.1, (up M_14.2.1 3 ((M_14.2.1 3) + (rget 12 (M_14.1 0) x1_12))), M_14.2.2.1, M_14.2.2.2) fun M_16 => (bnd (M_16.1, (up M_16.2.1 4 ((M_16.2.1 4) + (u_12 * (rget 12 (M_16.1 0) x1_12)))), M_16.2.2.1, M_16.2.2.2) fun M_18 => X1_tellVotes_L12 fu M_18 (x1_12 + 1)))))))
def X1_tellVotes (K : SPar) : Option (SPar) := (bnd (K.1, (up K.2.1 3 0), K.2.2.1, K.2.2.2) fun M_1 => (bnd (M_1.1, (up M_1.2.1 4 0), M_1.2.2.1, M_1.2.2.2) fun M_3 => ((X1_tellVotes_L12 FUEL M_3 0).bind fun u_20 => some u_20)))
abbrev rm_X1_tellVotes : Room := { frames := 2, cells := 0, slots := 0, locals := 45 }
set_option maxHeartbeats 4000000 in
set_option maxRecDepth 100000 in
theorem c_X1_tellVotes (l : Launch) (D : va_G) (cI cP : ClassId) (a : Nat → Nat) (K : SPar) (z : SPar) (hf : X1_tellVotes K  = some z) : MWv l yX1_tellVotes cX1_tellVotes 4 none rm_X1_tellVotes D cI cP [.ref (a 0)] (wPar cI a K) (wPar cI a z) := by
  refine MWv.of (by decide +kernel) (Nat.le_of_ble_eq_true rfl) ?_
  intro p e s m args below meth c ls A F hX hP hD hA hS hl
  have F : Fx p s m args meth c RX1 cX1_tellVotes 4 none := F
  have hx := F.1
  have hb := F.2.1
  have hown := F.2.2.2.1
  have hts := F.2.2.2.2.1
  have hl : lv_has ls 4 [(0, .ref (a 0))] := hl
  unfold X1_tellVotes at hf
  refine lv_aload_n hx hb dX1_tellVotes_0 rfl (lv_at hl 0 rfl) ?_
  refine lv_iconst (v := 0) hx hb dX1_tellVotes_1 (by decide) ?_
  refine pX1_69 F hX hP hD hS 0 rfl (Nat.le_of_ble_eq_true rfl) dX1_tellVotes_2 (fun H locs hP hD hS => ?_)
  obtain ⟨M_1, e_2, hf⟩ := bnd_e hf
  have hP : va_P D vwCl (wPar cI a M_1) H := by rw [e_2]; exact hP
  have hD : va_D A (wPar cI a M_1) := by rw [e_2]; exact hD
  clear e_2
  refine lv_aload_n hx hb dX1_tellVotes_5 rfl (lv_at hl 0 rfl) ?_
  refine lv_iconst (v := 0) hx hb dX1_tellVotes_6 (by decide) ?_
  refine pX1_72 F hX hP hD hS 0 rfl (Nat.le_of_ble_eq_true rfl) dX1_tellVotes_7 (fun H locs hP hD hS => ?_)
  obtain ⟨M_3, e_4, hf⟩ := bnd_e hf
  have hP : va_P D vwCl (wPar cI a M_3) H := by rw [e_4]; exact hP
  have hD : va_D A (wPar cI a M_3) := by rw [e_4]; exact hD
  clear e_4
  refine lv_iconst (v := 0) hx hb dX1_tellVotes_10 (by decide) ?_
  refine lv_istore_n (lv' := [(1, .int 0), (0, .ref (a 0))]) hx hb dX1_tellVotes_11 rfl hl (by decide) rfl (fun ls hl => ?_)
  have hL_12 : ∀ (fu : Nat) (K_12 : SPar) (x1_12 : Int32) (v : SPar) (H : Heap) (locs : List Loc) (ls : Array Slot), X1_tellVotes_L12 fu K_12 x1_12 = some v → va_P D vwCl (wPar cI a K_12) H → va_D A (wPar cI a K_12) → va_S A s.heap H locs → lv_has ls 4 [(0, .ref (a 0)), (1, .int x1_12)] → (∀ (H : Heap) (locs : List Loc) (ls : Array Slot), va_P D vwCl (wPar cI a v) H → va_D A (wPar cI a v) → va_S A s.heap H locs → lv_has ls 4 [] → W p l e rm_X1_tellVotes s m args below meth c H locs 0 0 (QWv D below args s A (wPar cI a z)) (F0 m 122 ls [])) → W p l e rm_X1_tellVotes s m args below meth c H locs 0 0 (QWv D below args s A (wPar cI a z)) (F0 m 12 ls []) := by
    intro fu
    induction fu with
    | zero =>
      intro K_12 x1_12 v H locs ls hf
      exact absurd hf (by simp [X1_tellVotes_L12])
    | succ fu ih =>
      intro K_12 x1_12 v _ _ ls hf hP hD hS hl hk
      rw [X1_tellVotes_L12] at hf
      refine lv_iload_n hx hb dX1_tellVotes_12 rfl (lv_at hl 1 rfl) ?_
      refine lv_aload_n hx hb dX1_tellVotes_13 rfl (lv_at hl 0 rfl) ?_
      refine gX1_63 F hX hP 0 rfl (v := .int (K_12.2.1 0)) rfl dX1_tellVotes_14 ?_
      refine lv_icmp_ge (tgt := 122) hx hb dX1_tellVotes_17 (by decide) (fun c_5 => ?_) (fun c_5 => ?_)
      · replace hf := (if_pos c_5).symm.trans hf
        obtain rfl := Option.some.inj hf
        exact hk _ _ ls hP hD hS (lv_sub hl [] rfl)
      · replace hf := (if_neg c_5).symm.trans hf
        refine lv_aload_n hx hb dX1_tellVotes_20 rfl (lv_at hl 0 rfl) ?_
        refine lv_iload_n hx hb dX1_tellVotes_21 rfl (lv_at hl 1 rfl) ?_
        obtain ⟨u_6, h_7, hf⟩ := ob hf
        refine k_rd (runV F wdX1_162 (rm := rm_X1_pulledVote) (As := [.int x1_12]) (rest := []) ⟨rfl, rfl⟩ ⟨Nat.le_of_ble_eq_true rfl, Nat.le_of_ble_eq_true rfl⟩ hl.1 rfl rfl (Nat.le_of_ble_eq_true rfl) dX1_tellVotes_22 ⟨Nat.zero_le _, Nat.zero_le _⟩) (c_X1_pulledVote l D cI cP a K_12 x1_12 _ h_7) hX (va_recv hX.1 hP (ci := 1) (q0 := 0) rfl rfl) hP hP hS hA (fun H locs hP hS => ?_)
        refine lv_istore_n (lv' := [(2, .int u_6), (0, .ref (a 0)), (1, .int x1_12)]) hx hb dX1_tellVotes_25 rfl hl (by decide) rfl (fun ls hl => ?_)
        refine lv_iload_n hx hb dX1_tellVotes_26 rfl (lv_at hl 0 rfl) ?_
        refine lv_iconst (v := (-1)) hx hb dX1_tellVotes_27 (by decide) ?_
        have hJ_28 : ∀ (K_28 : SPar) (x1_28 : Int32) (x2_28 : Int32) (t0_28 : Int32) (t1_28 : Int32) (v : Int32) (H : Heap) (locs : List Loc) (ls : Array Slot), X1_tellVotes_J28 K_28 x1_28 x2_28 t0_28 t1_28 = some v → va_P D vwCl (wPar cI a K_28) H → va_D A (wPar cI a K_28) → va_S A s.heap H locs → lv_has ls 4 [(2, .int x2_28), (0, .ref (a 0)), (1, .int x1_28)] → (∀ (H : Heap) (locs : List Loc) (ls : Array Slot), va_P D vwCl (wPar cI a K_28) H → va_D A (wPar cI a K_28) → va_S A s.heap H locs → lv_has ls 4 [(0, .ref (a 0)), (1, .int x1_28), (2, .int v)] → W p l e rm_X1_tellVotes s m args below meth c H locs 0 0 (QWv D below args s A (wPar cI a z)) (F0 m 71 ls [])) → W p l e rm_X1_tellVotes s m args below meth c H locs 0 0 (QWv D below args s A (wPar cI a z)) (F0 m 28 ls [.int t0_28, .int t1_28]) := by
          intro K_28 x1_28 x2_28 t0_28 t1_28 v _ _ ls hf hP hD hS hl hk
          unfold X1_tellVotes_J28 at hf
          refine lv_icmp_ne (tgt := 71) hx hb dX1_tellVotes_28 (by decide) (fun c_8 => ?_) (fun c_8 => ?_)
          · replace hf := (if_neg c_8).symm.trans hf
            obtain rfl := Option.some.inj hf
            exact hk _ _ ls hP hD hS (lv_sub hl [1, 2, 0] rfl)
          · replace hf := (if_pos c_8).symm.trans hf
            refine lv_aload_n hx hb dX1_tellVotes_31 rfl (lv_at hl 1 rfl) ?_
            refine gX1_26 F hX hP 0 rfl (v := .ref (a 7)) rfl dX1_tellVotes_32 ?_
            refine lv_iload_n hx hb dX1_tellVotes_35 rfl (lv_at hl 2 rfl) ?_
            refine k_rd (runVN F hX wdX1_128 (rm := rm_X2_get) (As := [.int x1_28]) (rest := []) ⟨rfl, rfl⟩ ⟨Nat.le_of_ble_eq_true rfl, Nat.le_of_ble_eq_true rfl⟩ hl.1 rfl rfl (Nat.le_of_ble_eq_true rfl) dX1_tellVotes_36 ⟨Nat.zero_le _, Nat.zero_le _⟩) (k_rget l D cI cP (a 7) (a 8) 12 (by decide) (K_28.1 3) x1_28) hX (va_recv hX.1 (va_blk (Bs := (bPar cI a K_28)) hP 4 rfl) (ci := 2) (q0 := 0) rfl rfl) (va_blk (Bs := (bPar cI a K_28)) hP 4 rfl) hP hS hA (fun H locs hP hS => ?_)
            refine lv_istore_n (lv' := [(3, .int (rget 12 (K_28.1 3) x1_28)), (2, .int x2_28), (0, .ref (a 0)), (1, .int x1_28)]) hx hb dX1_tellVotes_39 rfl hl (by decide) rfl (fun ls hl => ?_)
            refine lv_iload_n hx hb dX1_tellVotes_40 rfl (lv_at hl 0 rfl) ?_
            refine lv_iload_n hx hb dX1_tellVotes_41 rfl (lv_at hl 3 rfl) ?_
            refine lv_icmp_ne (tgt := 53) hx hb dX1_tellVotes_42 (by decide) (fun c_9 => ?_) (fun c_9 => ?_)
            · replace hf := (if_neg c_9).symm.trans hf
              refine lv_aload_n hx hb dX1_tellVotes_53 rfl (lv_at hl 2 rfl) ?_
              refine gX1_32 F hX hP 0 rfl (v := .ref (a 11)) rfl dX1_tellVotes_54 ?_
              refine lv_iload_n hx hb dX1_tellVotes_57 rfl (lv_at hl 0 rfl) ?_
              refine k_rd (runVN F hX wdX1_128 (rm := rm_X2_get) (As := [.int (rget 12 (K_28.1 3) x1_28)]) (rest := []) ⟨rfl, rfl⟩ ⟨Nat.le_of_ble_eq_true rfl, Nat.le_of_ble_eq_true rfl⟩ hl.1 rfl rfl (Nat.le_of_ble_eq_true rfl) dX1_tellVotes_58 ⟨Nat.zero_le _, Nat.zero_le _⟩) (k_rget l D cI cP (a 11) (a 12) 12 (by decide) (K_28.1 5) (rget 12 (K_28.1 3) x1_28)) hX (va_recv hX.1 (va_blk (Bs := (bPar cI a K_28)) hP 6 rfl) (ci := 2) (q0 := 0) rfl rfl) (va_blk (Bs := (bPar cI a K_28)) hP 6 rfl) hP hS hA (fun H locs hP hS => ?_)
              refine lv_aload_n hx hb dX1_tellVotes_61 rfl (lv_at hl 2 rfl) ?_
              refine gX1_29 F hX hP 0 rfl (v := .ref (a 9)) rfl dX1_tellVotes_62 ?_
              refine lv_iload_n hx hb dX1_tellVotes_65 rfl (lv_at hl 3 rfl) ?_
              refine k_rd (runVN F hX wdX1_128 (rm := rm_X2_get) (As := [.int x1_28]) (rest := [.int (rget 12 (K_28.1 5) (rget 12 (K_28.1 3) x1_28))]) ⟨rfl, rfl⟩ ⟨Nat.le_of_ble_eq_true rfl, Nat.le_of_ble_eq_true rfl⟩ hl.1 rfl rfl (Nat.le_of_ble_eq_true rfl) dX1_tellVotes_66 ⟨Nat.zero_le _, Nat.zero_le _⟩) (k_rget l D cI cP (a 9) (a 10) 12 (by decide) (K_28.1 4) x1_28) hX (va_recv hX.1 (va_blk (Bs := (bPar cI a K_28)) hP 5 rfl) (ci := 2) (q0 := 0) rfl rfl) (va_blk (Bs := (bPar cI a K_28)) hP 5 rfl) hP hS hA (fun H locs hP hS => ?_)
              refine lv_ixor hx hb dX1_tellVotes_69 ?_
              refine lv_istore_n (lv' := [(2, .int ((rget 12 (K_28.1 5) (rget 12 (K_28.1 3) x1_28)) ^^^ (rget 12 (K_28.1 4) x1_28))), (3, .int (rget 12 (K_28.1 3) x1_28)), (0, .ref (a 0)), (1, .int x1_28)]) hx hb dX1_tellVotes_70 rfl hl (by decide) rfl (fun ls hl => ?_)
              obtain rfl := Option.some.inj hf
              exact hk _ _ ls hP hD hS (lv_sub hl [2, 3, 0] rfl)
            · replace hf := (if_pos c_9).symm.trans hf
              refine lv_aload_n hx hb dX1_tellVotes_45 rfl (lv_at hl 2 rfl) ?_
              refine lv_iload_n hx hb dX1_tellVotes_46 rfl (lv_at hl 0 rfl) ?_
              obtain ⟨u_10, h_11, hf⟩ := ob hf
              refine k_rd (runV F wdX1_165 (rm := rm_X1_leadingVote) (As := [.int (rget 12 (K_28.1 3) x1_28)]) (rest := []) ⟨rfl, rfl⟩ ⟨Nat.le_of_ble_eq_true rfl, Nat.le_of_ble_eq_true rfl⟩ hl.1 rfl rfl (Nat.le_of_ble_eq_true rfl) dX1_tellVotes_47 ⟨Nat.zero_le _, Nat.zero_le _⟩) (c_X1_leadingVote l D cI cP a K_28 (rget 12 (K_28.1 3) x1_28) _ h_11) hX (va_recv hX.1 hP (ci := 1) (q0 := 0) rfl rfl) hP hP hS hA (fun H locs hP hS => ?_)
              refine lv_goto (tgt := 70) hx hb dX1_tellVotes_50 (by decide) ?_
              refine lv_istore_n (lv' := [(2, .int u_10), (3, .int (rget 12 (K_28.1 3) x1_28)), (0, .ref (a 0)), (1, .int x1_28)]) hx hb dX1_tellVotes_70 rfl hl (by decide) rfl (fun ls hl => ?_)
              obtain rfl := Option.some.inj hf
              exact hk _ _ ls hP hD hS (lv_sub hl [2, 3, 0] rfl)
        obtain ⟨u_12, h_13, hf⟩ := ob hf
        refine hJ_28 K_12 x1_12 u_6 (-1) u_6 u_12 _ _ ls h_13 hP hD hS hl (fun H locs ls hP hD hS hl => ?_)
        clear hJ_28
        refine lv_aload_n hx hb dX1_tellVotes_71 rfl (lv_at hl 0 rfl) ?_
        refine gX1_32 F hX hP 0 rfl (v := .ref (a 11)) rfl dX1_tellVotes_72 ?_
        refine lv_iload_n hx hb dX1_tellVotes_75 rfl (lv_at hl 1 rfl) ?_
        refine lv_iload_n hx hb dX1_tellVotes_76 rfl (lv_at hl 2 rfl) ?_
        refine k_wv (runVN F hX wdX1_81 (rm := rm_X2_put) (As := [.int x1_12, .int u_12]) (rest := []) ⟨rfl, rfl⟩ ⟨Nat.le_of_ble_eq_true rfl, Nat.le_of_ble_eq_true rfl⟩ hl.1 rfl rfl (Nat.le_of_ble_eq_true rfl) dX1_tellVotes_77 ⟨Nat.zero_le _, Nat.zero_le _⟩) (k_rput l D cI cP (a 11) (a 12) 12 (by decide) (K_12.1 5) x1_12 u_12) hX (va_recv hX.1 (va_blk (Bs := (bPar cI a K_12)) hP 6 rfl) (ci := 2) (q0 := 0) rfl rfl) (Cut.one (Bs := (bPar cI a K_12)) (k := 6) rfl rfl) hP hD hS hA (fun H locs hP hD hS => ?_)
        obtain ⟨M_14, e_15, hf⟩ := bnd_e hf
        have hP : va_P D vwCl (wPar cI a M_14) H := by rw [e_15]; exact hP
        have hD : va_D A (wPar cI a M_14) := by rw [e_15]; exact hD
        clear e_15
        refine lv_aload_n hx hb dX1_tellVotes_80 rfl (lv_at hl 0 rfl) ?_
        refine lv_dup hx hb dX1_tellVotes_81 rfl ?_
        refine gX1_69 F hX hP 0 rfl (v := .int (M_14.2.1 3)) rfl dX1_tellVotes_82 ?_
        refine lv_aload_n hx hb dX1_tellVotes_85 rfl (lv_at hl 0 rfl) ?_
        refine gX1_14 F hX hP 0 rfl (v := .ref (a 1)) rfl dX1_tellVotes_86 ?_
        refine lv_iload_n hx hb dX1_tellVotes_89 rfl (lv_at hl 1 rfl) ?_
        refine k_rd (runVN F hX wdX1_128 (rm := rm_X2_get) (As := [.int x1_12]) (rest := [.int (M_14.2.1 3), .ref (a 0)]) ⟨rfl, rfl⟩ ⟨Nat.le_of_ble_eq_true rfl, Nat.le_of_ble_eq_true rfl⟩ hl.1 rfl rfl (Nat.le_of_ble_eq_true rfl) dX1_tellVotes_90 ⟨Nat.zero_le _, Nat.zero_le _⟩) (k_rget l D cI cP (a 1) (a 2) 12 (by decide) (M_14.1 0) x1_12) hX (va_recv hX.1 (va_blk (Bs := (bPar cI a M_14)) hP 1 rfl) (ci := 2) (q0 := 0) rfl rfl) (va_blk (Bs := (bPar cI a M_14)) hP 1 rfl) hP hS hA (fun H locs hP hS => ?_)
        refine lv_iadd hx hb dX1_tellVotes_93 ?_
        refine pX1_69 F hX hP hD hS 0 rfl (Nat.le_of_ble_eq_true rfl) dX1_tellVotes_94 (fun H locs hP hD hS => ?_)
        obtain ⟨M_16, e_17, hf⟩ := bnd_e hf
        have hP : va_P D vwCl (wPar cI a M_16) H := by rw [e_17]; exact hP
        have hD : va_D A (wPar cI a M_16) := by rw [e_17]; exact hD
        clear e_17
        refine lv_aload_n hx hb dX1_tellVotes_97 rfl (lv_at hl 0 rfl) ?_
        refine lv_dup hx hb dX1_tellVotes_98 rfl ?_
        refine gX1_72 F hX hP 0 rfl (v := .int (M_16.2.1 4)) rfl dX1_tellVotes_99 ?_
        refine lv_iload_n hx hb dX1_tellVotes_102 rfl (lv_at hl 2 rfl) ?_
        refine lv_aload_n hx hb dX1_tellVotes_103 rfl (lv_at hl 0 rfl) ?_
        refine gX1_14 F hX hP 0 rfl (v := .ref (a 1)) rfl dX1_tellVotes_104 ?_
        refine lv_iload_n hx hb dX1_tellVotes_107 rfl (lv_at hl 1 rfl) ?_
        refine k_rd (runVN F hX wdX1_128 (rm := rm_X2_get) (As := [.int x1_12]) (rest := [.int u_12, .int (M_16.2.1 4), .ref (a 0)]) ⟨rfl, rfl⟩ ⟨Nat.le_of_ble_eq_true rfl, Nat.le_of_ble_eq_true rfl⟩ hl.1 rfl rfl (Nat.le_of_ble_eq_true rfl) dX1_tellVotes_108 ⟨Nat.zero_le _, Nat.zero_le _⟩) (k_rget l D cI cP (a 1) (a 2) 12 (by decide) (M_16.1 0) x1_12) hX (va_recv hX.1 (va_blk (Bs := (bPar cI a M_16)) hP 1 rfl) (ci := 2) (q0 := 0) rfl rfl) (va_blk (Bs := (bPar cI a M_16)) hP 1 rfl) hP hS hA (fun H locs hP hS => ?_)
        refine lv_imul hx hb dX1_tellVotes_111 ?_
        refine lv_iadd hx hb dX1_tellVotes_112 ?_
        refine pX1_72 F hX hP hD hS 0 rfl (Nat.le_of_ble_eq_true rfl) dX1_tellVotes_113 (fun H locs hP hD hS => ?_)
        obtain ⟨M_18, e_19, hf⟩ := bnd_e hf
        have hP : va_P D vwCl (wPar cI a M_18) H := by rw [e_19]; exact hP
        have hD : va_D A (wPar cI a M_18) := by rw [e_19]; exact hD
        clear e_19
        refine lv_iinc (v := (x1_12 + 1)) (lv' := [(1, .int (x1_12 + 1)), (0, .ref (a 0)), (2, .int u_12)]) hx hb dX1_tellVotes_116 hl (k := 1) rfl (by rfl) (by decide) rfl (fun ls hl => ?_)
        refine lv_goto (tgt := 12) hx hb dX1_tellVotes_119 (by decide) ?_
        exact ih M_18 (x1_12 + 1) _ _ _ ls hf hP hD hS (lv_sub hl [1, 0] rfl) hk
  obtain ⟨u_20, h_21, hf⟩ := ob hf
  refine hL_12 FUEL M_3 0 u_20 _ _ ls h_21 hP hD hS (lv_sub hl [1, 0] rfl) (fun H locs ls hP hD hS hl => ?_)
  clear hL_12
  obtain rfl := (Option.some.inj hf)
  exact wr_v F hP hS dX1_tellVotes_122
