def X3_copyFrom (K : SStr) (K2 : SStr) : SStr := (bnd ((up K.1 0 (K2.1 0)), K.2) fun M_1 => (bnd ((up M_1.1 1 (K2.1 1)), M_1.2) fun M_3 => (bnd ((up M_3.1 2 (K2.1 2)), M_3.2) fun M_5 => (bnd ((up M_5.1 3 (K2.1 3)), M_5.2) fun M_7 => (bnd (M_7.1, (up M_7.2 0 (K2.2 0))) fun M_9 => (bnd (M_9.1, (up M_9.2 1 (K2.2 1))) fun M_11 => M_11))))))
abbrev rm_X3_copyFrom : Room := { frames := 2, cells := 0, slots := 0, locals := 61 }
set_option maxHeartbeats 4000000 in
set_option maxRecDepth 100000 in
theorem c_X3_copyFrom (l : Launch) (D : va_G) (cI cP : ClassId) (a a2 : Nat → Nat) (K : SStr) (K2 : SStr) (z : SStr) (hf : X3_copyFrom K K2  = z) : MWv l yX3_copyFrom cX3_copyFrom 2 none rm_X3_copyFrom D cI cP [.ref (a 0), .ref (a2 0)] (wStr cI a K ++ wStr cI a2 K2) (wStr cI a z ++ wStr cI a2 K2) := by
  refine MWv.of (by decide +kernel) (Nat.le_of_ble_eq_true rfl) ?_
  intro p e s m args below meth c ls A F hX hP hD hA hS hl
  have F : Fx p s m args meth c RX3 cX3_copyFrom 2 none := F
  have hx := F.1
  have hb := F.2.1
  have hown := F.2.2.2.1
  have hts := F.2.2.2.2.1
  have hl : lv_has ls 2 [(0, .ref (a 0)), (1, .ref (a2 0))] := hl
  have hP : va_P D vwCl ((bStr cI a K ++ bStr cI a2 K2)).flatten s.heap := by rw [List.flatten_append]; exact hP
  have hD : va_D A ((bStr cI a K ++ bStr cI a2 K2)).flatten := by rw [List.flatten_append]; exact hD
  unfold X3_copyFrom at hf
  refine lv_aload_n hx hb dX3_copyFrom_0 rfl (lv_at hl 0 rfl) ?_
  refine gX3_14 F hX hP 0 rfl (v := .ref (a 1)) rfl dX3_copyFrom_1 ?_
  refine lv_aload_n hx hb dX3_copyFrom_4 rfl (lv_at hl 1 rfl) ?_
  refine gX3_14 F hX (vP_r hP) 0 rfl (v := .ref (a2 1)) rfl dX3_copyFrom_5 ?_
  refine k_wv (runVN F hX wdX3_29 (rm := rm_X2_copyFrom) (As := [.ref (a2 1)]) (rest := []) ⟨rfl, rfl⟩ ⟨Nat.le_of_ble_eq_true rfl, Nat.le_of_ble_eq_true rfl⟩ hl.1 rfl rfl (Nat.le_of_ble_eq_true rfl) dX3_copyFrom_8 ⟨Nat.zero_le _, Nat.zero_le _⟩) (k_rcopy l D cI cP (a 1) (a 2) (a2 1) (a2 2) 20 (by decide) (K.1 0) (K2.1 0)) hX (va_recv hX.1 (va_blk (Bs := (bStr cI a K ++ bStr cI a2 K2)) hP 1 rfl) (ci := 2) (q0 := 0) rfl rfl) (Cut.two (Bs := (bStr cI a K ++ bStr cI a2 K2)) (k := 1) (j := 6) rfl rfl (by decide) rfl) hP hD hS hA (fun H locs hP hD hS => ?_)
  obtain ⟨M_1, e_2, hf⟩ := bnd_e hf
  have hP : va_P D vwCl ((bStr cI a M_1 ++ bStr cI a2 K2)).flatten H := by rw [e_2]; exact hP
  have hD : va_D A ((bStr cI a M_1 ++ bStr cI a2 K2)).flatten := by rw [e_2]; exact hD
  clear e_2
  refine lv_aload_n hx hb dX3_copyFrom_11 rfl (lv_at hl 0 rfl) ?_
  refine gX3_20 F hX hP 0 rfl (v := .ref (a 3)) rfl dX3_copyFrom_12 ?_
  refine lv_aload_n hx hb dX3_copyFrom_15 rfl (lv_at hl 1 rfl) ?_
  refine gX3_20 F hX (vP_r hP) 0 rfl (v := .ref (a2 3)) rfl dX3_copyFrom_16 ?_
  refine k_wv (runVN F hX wdX3_29 (rm := rm_X2_copyFrom) (As := [.ref (a2 3)]) (rest := []) ⟨rfl, rfl⟩ ⟨Nat.le_of_ble_eq_true rfl, Nat.le_of_ble_eq_true rfl⟩ hl.1 rfl rfl (Nat.le_of_ble_eq_true rfl) dX3_copyFrom_19 ⟨Nat.zero_le _, Nat.zero_le _⟩) (k_rcopy l D cI cP (a 3) (a 4) (a2 3) (a2 4) 20 (by decide) (M_1.1 1) (K2.1 1)) hX (va_recv hX.1 (va_blk (Bs := (bStr cI a M_1 ++ bStr cI a2 K2)) hP 2 rfl) (ci := 2) (q0 := 0) rfl rfl) (Cut.two (Bs := (bStr cI a M_1 ++ bStr cI a2 K2)) (k := 2) (j := 7) rfl rfl (by decide) rfl) hP hD hS hA (fun H locs hP hD hS => ?_)
  obtain ⟨M_3, e_4, hf⟩ := bnd_e hf
  have hP : va_P D vwCl ((bStr cI a M_3 ++ bStr cI a2 K2)).flatten H := by rw [e_4]; exact hP
  have hD : va_D A ((bStr cI a M_3 ++ bStr cI a2 K2)).flatten := by rw [e_4]; exact hD
  clear e_4
  refine lv_aload_n hx hb dX3_copyFrom_22 rfl (lv_at hl 0 rfl) ?_
  refine gX3_23 F hX hP 0 rfl (v := .ref (a 5)) rfl dX3_copyFrom_23 ?_
  refine lv_aload_n hx hb dX3_copyFrom_26 rfl (lv_at hl 1 rfl) ?_
  refine gX3_23 F hX (vP_r hP) 0 rfl (v := .ref (a2 5)) rfl dX3_copyFrom_27 ?_
  refine k_wv (runVN F hX wdX3_29 (rm := rm_X2_copyFrom) (As := [.ref (a2 5)]) (rest := []) ⟨rfl, rfl⟩ ⟨Nat.le_of_ble_eq_true rfl, Nat.le_of_ble_eq_true rfl⟩ hl.1 rfl rfl (Nat.le_of_ble_eq_true rfl) dX3_copyFrom_30 ⟨Nat.zero_le _, Nat.zero_le _⟩) (k_rcopy l D cI cP (a 5) (a 6) (a2 5) (a2 6) 20 (by decide) (M_3.1 2) (K2.1 2)) hX (va_recv hX.1 (va_blk (Bs := (bStr cI a M_3 ++ bStr cI a2 K2)) hP 3 rfl) (ci := 2) (q0 := 0) rfl rfl) (Cut.two (Bs := (bStr cI a M_3 ++ bStr cI a2 K2)) (k := 3) (j := 8) rfl rfl (by decide) rfl) hP hD hS hA (fun H locs hP hD hS => ?_)
  obtain ⟨M_5, e_6, hf⟩ := bnd_e hf
  have hP : va_P D vwCl ((bStr cI a M_5 ++ bStr cI a2 K2)).flatten H := by rw [e_6]; exact hP
  have hD : va_D A ((bStr cI a M_5 ++ bStr cI a2 K2)).flatten := by rw [e_6]; exact hD
  clear e_6
  refine lv_aload_n hx hb dX3_copyFrom_33 rfl (lv_at hl 0 rfl) ?_
  refine gX3_26 F hX hP 0 rfl (v := .ref (a 7)) rfl dX3_copyFrom_34 ?_
  refine lv_aload_n hx hb dX3_copyFrom_37 rfl (lv_at hl 1 rfl) ?_
  refine gX3_26 F hX (vP_r hP) 0 rfl (v := .ref (a2 7)) rfl dX3_copyFrom_38 ?_
  refine k_wv (runVN F hX wdX3_29 (rm := rm_X2_copyFrom) (As := [.ref (a2 7)]) (rest := []) ⟨rfl, rfl⟩ ⟨Nat.le_of_ble_eq_true rfl, Nat.le_of_ble_eq_true rfl⟩ hl.1 rfl rfl (Nat.le_of_ble_eq_true rfl) dX3_copyFrom_41 ⟨Nat.zero_le _, Nat.zero_le _⟩) (k_rcopy l D cI cP (a 7) (a 8) (a2 7) (a2 8) 20 (by decide) (M_5.1 3) (K2.1 3)) hX (va_recv hX.1 (va_blk (Bs := (bStr cI a M_5 ++ bStr cI a2 K2)) hP 4 rfl) (ci := 2) (q0 := 0) rfl rfl) (Cut.two (Bs := (bStr cI a M_5 ++ bStr cI a2 K2)) (k := 4) (j := 9) rfl rfl (by decide) rfl) hP hD hS hA (fun H locs hP hD hS => ?_)
  obtain ⟨M_7, e_8, hf⟩ := bnd_e hf
  have hP : va_P D vwCl ((bStr cI a M_7 ++ bStr cI a2 K2)).flatten H := by rw [e_8]; exact hP
  have hD : va_D A ((bStr cI a M_7 ++ bStr cI a2 K2)).flatten := by rw [e_8]; exact hD
  clear e_8
  refine lv_aload_n hx hb dX3_copyFrom_44 rfl (lv_at hl 0 rfl) ?_
  refine lv_aload_n hx hb dX3_copyFrom_45 rfl (lv_at hl 1 rfl) ?_
  refine gX3_33 F hX (vP_r hP) 0 rfl (v := .int (K2.2 0)) rfl dX3_copyFrom_46 ?_
  refine pX3_33 F hX hP hD hS 0 rfl (Nat.le_of_ble_eq_true rfl) dX3_copyFrom_49 (fun H locs hP hD hS => ?_)
  obtain ⟨M_9, e_10, hf⟩ := bnd_e hf
  have hP : va_P D vwCl ((bStr cI a M_9 ++ bStr cI a2 K2)).flatten H := by rw [e_10]; exact hP
  have hD : va_D A ((bStr cI a M_9 ++ bStr cI a2 K2)).flatten := by rw [e_10]; exact hD
  clear e_10
  refine lv_aload_n hx hb dX3_copyFrom_52 rfl (lv_at hl 0 rfl) ?_
  refine lv_aload_n hx hb dX3_copyFrom_53 rfl (lv_at hl 1 rfl) ?_
  refine gX3_37 F hX (vP_r hP) 0 rfl (v := .int (K2.2 1)) rfl dX3_copyFrom_54 ?_
  refine pX3_37 F hX hP hD hS 0 rfl (Nat.le_of_ble_eq_true rfl) dX3_copyFrom_57 (fun H locs hP hD hS => ?_)
  obtain ⟨M_11, e_12, hf⟩ := bnd_e hf
  have hP : va_P D vwCl ((bStr cI a M_11 ++ bStr cI a2 K2)).flatten H := by rw [e_12]; exact hP
  have hD : va_D A ((bStr cI a M_11 ++ bStr cI a2 K2)).flatten := by rw [e_12]; exact hD
  clear e_12
  obtain rfl := hf
  rw [List.flatten_append] at hP
  exact wr_v F hP hS dX3_copyFrom_60
def X3_has (K : SStr) (x1 : Int32) : Int32 := (if x1 < 0 then 0 else (if (K.2 0) ≤ x1 then 0 else 1))
abbrev rm_X3_has : Room := { frames := 0, cells := 0, slots := 0, locals := 0 }
set_option maxHeartbeats 4000000 in
set_option maxRecDepth 100000 in
theorem c_X3_has (l : Launch) (D : va_G) (cI cP : ClassId) (a : Nat → Nat) (K : SStr) (x1 : Int32) (z : Int32) (hf : X3_has K x1 = z) : MRd l yX3_has cX3_has 2 (some .boolean) rm_X3_has D cI cP [.ref (a 0), .int x1] (wStr cI a K) z := by
  refine MRd.of (by decide +kernel) (Nat.le_of_ble_eq_true rfl) ?_
  intro p e s m args below meth c ls F hX hP hS hl
  have F : Fx p s m args meth c RX3 cX3_has 2 (some .boolean) := F
  have hx := F.1
  have hb := F.2.1
  have hown := F.2.2.2.1
  have hts := F.2.2.2.2.1
  have hA : ∀ q : Nat, s.heap.size ≤ q → (fun q : Nat => s.heap.size ≤ q) q := fun _ h => h
  have hl : lv_has ls 2 [(0, .ref (a 0)), (1, .int x1)] := hl
  unfold X3_has at hf
  refine lv_iload_n hx hb dX3_has_0 rfl (lv_at hl 1 rfl) ?_
  refine lv_if_lt (tgt := 16) hx hb dX3_has_1 (by decide) (fun c_1 => ?_) (fun c_1 => ?_)
  · replace hf := (if_pos c_1).symm.trans hf
    refine lv_iconst (v := 0) hx hb dX3_has_16 (by decide) ?_
    exact rd_z F (by decide) hf hS dX3_has_17
  · replace hf := (if_neg c_1).symm.trans hf
    refine lv_iload_n hx hb dX3_has_4 rfl (lv_at hl 1 rfl) ?_
    refine lv_aload_n hx hb dX3_has_5 rfl (lv_at hl 0 rfl) ?_
    refine gX3_33 F hX hP 0 rfl (v := .int (K.2 0)) rfl dX3_has_6 ?_
    refine lv_icmp_ge (tgt := 16) hx hb dX3_has_9 (by decide) (fun c_2 => ?_) (fun c_2 => ?_)
    · replace hf := (if_pos c_2).symm.trans hf
      refine lv_iconst (v := 0) hx hb dX3_has_16 (by decide) ?_
      exact rd_z F (by decide) hf hS dX3_has_17
    · replace hf := (if_neg c_2).symm.trans hf
      refine lv_iconst (v := 1) hx hb dX3_has_12 (by decide) ?_
      refine lv_goto (tgt := 17) hx hb dX3_has_13 (by decide) ?_
      exact rd_z F (by decide) hf hS dX3_has_17
def X3_append (K : SStr) (x1 : Int32) (x2 : Int32) (x3 : Int32) (x4 : Int32) : SStr × Int32 := (bnd ((up K.1 0 (rput 20 (K.1 0) (K.2 0) (if x2 < x1 then x2 else x1))), K.2) fun M_1 => (bnd ((up M_1.1 1 (rput 20 (M_1.1 1) (M_1.2 0) (if x1 < x2 then x2 else x1))), M_1.2) fun M_3 => (bnd ((up M_3.1 2 (rput 20 (M_3.1 2) (M_3.2 0) x3)), M_3.2) fun M_5 => (bnd ((up M_5.1 3 (rput 20 (M_5.1 3) (M_5.2 0) x4)), M_5.2) fun M_7 => (bnd (M_7.1, (up M_7.2 0 ((M_7.2 0) + 1))) fun M_9 => (M_9, ((M_9.2 0) - 1)))))))
abbrev rm_X3_append : Room := { frames := 1, cells := 0, slots := 0, locals := 22 }
set_option maxHeartbeats 4000000 in
set_option maxRecDepth 100000 in
theorem c_X3_append (l : Launch) (D : va_G) (cI cP : ClassId) (a : Nat → Nat) (K : SStr) (x1 : Int32) (x2 : Int32) (x3 : Int32) (x4 : Int32) (z : SStr × Int32) (hf : X3_append K x1 x2 x3 x4 = z) : MWi l yX3_append cX3_append 5 (some .int) rm_X3_append D cI cP [.ref (a 0), .int x1, .int x2, .int x3, .int x4] (wStr cI a K) (wStr cI a z.1) z.2 := by
  refine MWi.of (by decide +kernel) (Nat.le_of_ble_eq_true rfl) ?_
  intro p e s m args below meth c ls A F hX hP hD hA hS hl
  have F : Fx p s m args meth c RX3 cX3_append 5 (some .int) := F
  have hx := F.1
  have hb := F.2.1
  have hown := F.2.2.2.1
  have hts := F.2.2.2.2.1
  have hl : lv_has ls 5 [(0, .ref (a 0)), (1, .int x1), (2, .int x2), (3, .int x3), (4, .int x4)] := hl
  unfold X3_append at hf
  refine lv_aload_n hx hb dX3_append_0 rfl (lv_at hl 0 rfl) ?_
  refine gX3_14 F hX hP 0 rfl (v := .ref (a 1)) rfl dX3_append_1 ?_
  refine lv_aload_n hx hb dX3_append_4 rfl (lv_at hl 0 rfl) ?_
  refine gX3_33 F hX hP 0 rfl (v := .int (K.2 0)) rfl dX3_append_5 ?_
  refine lv_iload_n hx hb dX3_append_8 rfl (lv_at hl 1 rfl) ?_
  refine lv_iload_n hx hb dX3_append_9 rfl (lv_at hl 2 rfl) ?_
  refine va_mmin hx hb (F.2.2.1.trans hl.1.symm) hown (hts _ q_471) (hts _ q_352) (hts _ q_51) (hts _ q_353) (Nat.le_of_ble_eq_true rfl) (Nat.le_of_ble_eq_true rfl) (Nat.zero_le _) (Nat.zero_le _) dX3_append_10 ?_
  refine k_wv (runVN F hX wdX3_46 (rm := rm_X2_put) (As := [.int (K.2 0), .int (if x2 < x1 then x2 else x1)]) (rest := []) ⟨rfl, rfl⟩ ⟨Nat.le_of_ble_eq_true rfl, Nat.le_of_ble_eq_true rfl⟩ hl.1 rfl rfl (Nat.le_of_ble_eq_true rfl) dX3_append_13 ⟨Nat.zero_le _, Nat.zero_le _⟩) (k_rput l D cI cP (a 1) (a 2) 20 (by decide) (K.1 0) (K.2 0) (if x2 < x1 then x2 else x1)) hX (va_recv hX.1 (va_blk (Bs := (bStr cI a K)) hP 1 rfl) (ci := 2) (q0 := 0) rfl rfl) (Cut.one (Bs := (bStr cI a K)) (k := 1) rfl rfl) hP hD hS hA (fun H locs hP hD hS => ?_)
  obtain ⟨M_1, e_2, hf⟩ := bnd_e hf
  have hP : va_P D vwCl (wStr cI a M_1) H := by rw [e_2]; exact hP
  have hD : va_D A (wStr cI a M_1) := by rw [e_2]; exact hD
  clear e_2
  refine lv_aload_n hx hb dX3_append_16 rfl (lv_at hl 0 rfl) ?_
  refine gX3_20 F hX hP 0 rfl (v := .ref (a 3)) rfl dX3_append_17 ?_
  refine lv_aload_n hx hb dX3_append_20 rfl (lv_at hl 0 rfl) ?_
  refine gX3_33 F hX hP 0 rfl (v := .int (M_1.2 0)) rfl dX3_append_21 ?_
  refine lv_iload_n hx hb dX3_append_24 rfl (lv_at hl 1 rfl) ?_
  refine lv_iload_n hx hb dX3_append_25 rfl (lv_at hl 2 rfl) ?_
  refine va_mmax hx hb (F.2.2.1.trans hl.1.symm) hown (hts _ q_472) (hts _ q_78) (hts _ q_51) (hts _ q_79) (Nat.le_of_ble_eq_true rfl) (Nat.le_of_ble_eq_true rfl) (Nat.zero_le _) (Nat.zero_le _) dX3_append_26 ?_
  refine k_wv (runVN F hX wdX3_46 (rm := rm_X2_put) (As := [.int (M_1.2 0), .int (if x1 < x2 then x2 else x1)]) (rest := []) ⟨rfl, rfl⟩ ⟨Nat.le_of_ble_eq_true rfl, Nat.le_of_ble_eq_true rfl⟩ hl.1 rfl rfl (Nat.le_of_ble_eq_true rfl) dX3_append_29 ⟨Nat.zero_le _, Nat.zero_le _⟩) (k_rput l D cI cP (a 3) (a 4) 20 (by decide) (M_1.1 1) (M_1.2 0) (if x1 < x2 then x2 else x1)) hX (va_recv hX.1 (va_blk (Bs := (bStr cI a M_1)) hP 2 rfl) (ci := 2) (q0 := 0) rfl rfl) (Cut.one (Bs := (bStr cI a M_1)) (k := 2) rfl rfl) hP hD hS hA (fun H locs hP hD hS => ?_)
  obtain ⟨M_3, e_4, hf⟩ := bnd_e hf
  have hP : va_P D vwCl (wStr cI a M_3) H := by rw [e_4]; exact hP
  have hD : va_D A (wStr cI a M_3) := by rw [e_4]; exact hD
  clear e_4
  refine lv_aload_n hx hb dX3_append_32 rfl (lv_at hl 0 rfl) ?_
  refine gX3_23 F hX hP 0 rfl (v := .ref (a 5)) rfl dX3_append_33 ?_
  refine lv_aload_n hx hb dX3_append_36 rfl (lv_at hl 0 rfl) ?_
  refine gX3_33 F hX hP 0 rfl (v := .int (M_3.2 0)) rfl dX3_append_37 ?_
  refine lv_iload_n hx hb dX3_append_40 rfl (lv_at hl 3 rfl) ?_
  refine k_wv (runVN F hX wdX3_46 (rm := rm_X2_put) (As := [.int (M_3.2 0), .int x3]) (rest := []) ⟨rfl, rfl⟩ ⟨Nat.le_of_ble_eq_true rfl, Nat.le_of_ble_eq_true rfl⟩ hl.1 rfl rfl (Nat.le_of_ble_eq_true rfl) dX3_append_41 ⟨Nat.zero_le _, Nat.zero_le _⟩) (k_rput l D cI cP (a 5) (a 6) 20 (by decide) (M_3.1 2) (M_3.2 0) x3) hX (va_recv hX.1 (va_blk (Bs := (bStr cI a M_3)) hP 3 rfl) (ci := 2) (q0 := 0) rfl rfl) (Cut.one (Bs := (bStr cI a M_3)) (k := 3) rfl rfl) hP hD hS hA (fun H locs hP hD hS => ?_)
  obtain ⟨M_5, e_6, hf⟩ := bnd_e hf
  have hP : va_P D vwCl (wStr cI a M_5) H := by rw [e_6]; exact hP
  have hD : va_D A (wStr cI a M_5) := by rw [e_6]; exact hD
  clear e_6
  refine lv_aload_n hx hb dX3_append_44 rfl (lv_at hl 0 rfl) ?_
  refine gX3_26 F hX hP 0 rfl (v := .ref (a 7)) rfl dX3_append_45 ?_
  refine lv_aload_n hx hb dX3_append_48 rfl (lv_at hl 0 rfl) ?_
  refine gX3_33 F hX hP 0 rfl (v := .int (M_5.2 0)) rfl dX3_append_49 ?_
  refine lv_iload hx hb dX3_append_52 (lv_at hl 4 rfl) ?_
  refine k_wv (runVN F hX wdX3_46 (rm := rm_X2_put) (As := [.int (M_5.2 0), .int x4]) (rest := []) ⟨rfl, rfl⟩ ⟨Nat.le_of_ble_eq_true rfl, Nat.le_of_ble_eq_true rfl⟩ hl.1 rfl rfl (Nat.le_of_ble_eq_true rfl) dX3_append_54 ⟨Nat.zero_le _, Nat.zero_le _⟩) (k_rput l D cI cP (a 7) (a 8) 20 (by decide) (M_5.1 3) (M_5.2 0) x4) hX (va_recv hX.1 (va_blk (Bs := (bStr cI a M_5)) hP 4 rfl) (ci := 2) (q0 := 0) rfl rfl) (Cut.one (Bs := (bStr cI a M_5)) (k := 4) rfl rfl) hP hD hS hA (fun H locs hP hD hS => ?_)
  obtain ⟨M_7, e_8, hf⟩ := bnd_e hf
  have hP : va_P D vwCl (wStr cI a M_7) H := by rw [e_8]; exact hP
  have hD : va_D A (wStr cI a M_7) := by rw [e_8]; exact hD
  clear e_8
  refine lv_aload_n hx hb dX3_append_57 rfl (lv_at hl 0 rfl) ?_
  refine lv_dup hx hb dX3_append_58 rfl ?_
  refine gX3_33 F hX hP 0 rfl (v := .int (M_7.2 0)) rfl dX3_append_59 ?_
  refine lv_iconst (v := 1) hx hb dX3_append_62 (by decide) ?_
  refine lv_iadd hx hb dX3_append_63 ?_
  refine pX3_33 F hX hP hD hS 0 rfl (Nat.le_of_ble_eq_true rfl) dX3_append_64 (fun H locs hP hD hS => ?_)
  obtain ⟨M_9, e_10, hf⟩ := bnd_e hf
  have hP : va_P D vwCl (wStr cI a M_9) H := by rw [e_10]; exact hP
  have hD : va_D A (wStr cI a M_9) := by rw [e_10]; exact hD
  clear e_10
  refine lv_aload_n hx hb dX3_append_67 rfl (lv_at hl 0 rfl) ?_
  refine gX3_33 F hX hP 0 rfl (v := .int (M_9.2 0)) rfl dX3_append_68 ?_
  refine lv_iconst (v := 1) hx hb dX3_append_71 (by decide) ?_
  refine lv_isub hx hb dX3_append_72 ?_
  obtain rfl := hf
  exact wr_i F rfl hP hS dX3_append_73
def X3_removeAt (K : SStr) (x1 : Int32) : Option (SStr) := ((X2_removeAt 20 (K.1 0) x1).bind fun u_1 => (bnd ((up K.1 0 u_1), K.2) fun M_3 => ((X2_removeAt 20 (M_3.1 1) x1).bind fun u_5 => (bnd ((up M_3.1 1 u_5), M_3.2) fun M_7 => ((X2_removeAt 20 (M_7.1 2) x1).bind fun u_9 => (bnd ((up M_7.1 2 u_9), M_7.2) fun M_11 => ((X2_removeAt 20 (M_11.1 3) x1).bind fun u_13 => (bnd ((up M_11.1 3 u_13), M_11.2) fun M_15 => (bnd (M_15.1, (up M_15.2 0 ((M_15.2 0) - 1))) fun M_17 => (bnd (M_17.1, (up M_17.2 1 ((M_17.2 1) + 1))) fun M_19 => some M_19))))))))))
abbrev rm_X3_removeAt : Room := { frames := 1, cells := 0, slots := 0, locals := 22 }
set_option maxHeartbeats 4000000 in
set_option maxRecDepth 100000 in
theorem c_X3_removeAt (l : Launch) (D : va_G) (cI cP : ClassId) (a : Nat → Nat) (K : SStr) (x1 : Int32) (z : SStr) (hf : X3_removeAt K x1 = some z) : MWv l yX3_removeAt cX3_removeAt 2 none rm_X3_removeAt D cI cP [.ref (a 0), .int x1] (wStr cI a K) (wStr cI a z) := by
  refine MWv.of (by decide +kernel) (Nat.le_of_ble_eq_true rfl) ?_
  intro p e s m args below meth c ls A F hX hP hD hA hS hl
  have F : Fx p s m args meth c RX3 cX3_removeAt 2 none := F
  have hx := F.1
  have hb := F.2.1
  have hown := F.2.2.2.1
  have hts := F.2.2.2.2.1
  have hl : lv_has ls 2 [(0, .ref (a 0)), (1, .int x1)] := hl
  unfold X3_removeAt at hf
  refine lv_aload_n hx hb dX3_removeAt_0 rfl (lv_at hl 0 rfl) ?_
  refine gX3_14 F hX hP 0 rfl (v := .ref (a 1)) rfl dX3_removeAt_1 ?_
  refine lv_iload_n hx hb dX3_removeAt_4 rfl (lv_at hl 1 rfl) ?_
  obtain ⟨u_1, h_2, hf⟩ := ob hf
  refine k_wv (runVN F hX wdX3_53 (rm := rm_X2_removeAt) (As := [.int x1]) (rest := []) ⟨rfl, rfl⟩ ⟨Nat.le_of_ble_eq_true rfl, Nat.le_of_ble_eq_true rfl⟩ hl.1 rfl rfl (Nat.le_of_ble_eq_true rfl) dX3_removeAt_5 ⟨Nat.zero_le _, Nat.zero_le _⟩) (c_X2_removeAt l D cI cP (a 1) (a 2) 20 (K.1 0) x1 _ h_2) hX (va_recv hX.1 (va_blk (Bs := (bStr cI a K)) hP 1 rfl) (ci := 2) (q0 := 0) rfl rfl) (Cut.one (Bs := (bStr cI a K)) (k := 1) rfl rfl) hP hD hS hA (fun H locs hP hD hS => ?_)
  obtain ⟨M_3, e_4, hf⟩ := bnd_e hf
  have hP : va_P D vwCl (wStr cI a M_3) H := by rw [e_4]; exact hP
  have hD : va_D A (wStr cI a M_3) := by rw [e_4]; exact hD
  clear e_4
  refine lv_aload_n hx hb dX3_removeAt_8 rfl (lv_at hl 0 rfl) ?_
  refine gX3_20 F hX hP 0 rfl (v := .ref (a 3)) rfl dX3_removeAt_9 ?_
  refine lv_iload_n hx hb dX3_removeAt_12 rfl (lv_at hl 1 rfl) ?_
  obtain ⟨u_5, h_6, hf⟩ := ob hf
  refine k_wv (runVN F hX wdX3_53 (rm := rm_X2_removeAt) (As := [.int x1]) (rest := []) ⟨rfl, rfl⟩ ⟨Nat.le_of_ble_eq_true rfl, Nat.le_of_ble_eq_true rfl⟩ hl.1 rfl rfl (Nat.le_of_ble_eq_true rfl) dX3_removeAt_13 ⟨Nat.zero_le _, Nat.zero_le _⟩) (c_X2_removeAt l D cI cP (a 3) (a 4) 20 (M_3.1 1) x1 _ h_6) hX (va_recv hX.1 (va_blk (Bs := (bStr cI a M_3)) hP 2 rfl) (ci := 2) (q0 := 0) rfl rfl) (Cut.one (Bs := (bStr cI a M_3)) (k := 2) rfl rfl) hP hD hS hA (fun H locs hP hD hS => ?_)
  obtain ⟨M_7, e_8, hf⟩ := bnd_e hf
  have hP : va_P D vwCl (wStr cI a M_7) H := by rw [e_8]; exact hP
  have hD : va_D A (wStr cI a M_7) := by rw [e_8]; exact hD
  clear e_8
  refine lv_aload_n hx hb dX3_removeAt_16 rfl (lv_at hl 0 rfl) ?_
  refine gX3_23 F hX hP 0 rfl (v := .ref (a 5)) rfl dX3_removeAt_17 ?_
  refine lv_iload_n hx hb dX3_removeAt_20 rfl (lv_at hl 1 rfl) ?_
  obtain ⟨u_9, h_10, hf⟩ := ob hf
  refine k_wv (runVN F hX wdX3_53 (rm := rm_X2_removeAt) (As := [.int x1]) (rest := []) ⟨rfl, rfl⟩ ⟨Nat.le_of_ble_eq_true rfl, Nat.le_of_ble_eq_true rfl⟩ hl.1 rfl rfl (Nat.le_of_ble_eq_true rfl) dX3_removeAt_21 ⟨Nat.zero_le _, Nat.zero_le _⟩) (c_X2_removeAt l D cI cP (a 5) (a 6) 20 (M_7.1 2) x1 _ h_10) hX (va_recv hX.1 (va_blk (Bs := (bStr cI a M_7)) hP 3 rfl) (ci := 2) (q0 := 0) rfl rfl) (Cut.one (Bs := (bStr cI a M_7)) (k := 3) rfl rfl) hP hD hS hA (fun H locs hP hD hS => ?_)
  obtain ⟨M_11, e_12, hf⟩ := bnd_e hf
  have hP : va_P D vwCl (wStr cI a M_11) H := by rw [e_12]; exact hP
  have hD : va_D A (wStr cI a M_11) := by rw [e_12]; exact hD
  clear e_12
  refine lv_aload_n hx hb dX3_removeAt_24 rfl (lv_at hl 0 rfl) ?_
  refine gX3_26 F hX hP 0 rfl (v := .ref (a 7)) rfl dX3_removeAt_25 ?_
  refine lv_iload_n hx hb dX3_removeAt_28 rfl (lv_at hl 1 rfl) ?_
  obtain ⟨u_13, h_14, hf⟩ := ob hf
  refine k_wv (runVN F hX wdX3_53 (rm := rm_X2_removeAt) (As := [.int x1]) (rest := []) ⟨rfl, rfl⟩ ⟨Nat.le_of_ble_eq_true rfl, Nat.le_of_ble_eq_true rfl⟩ hl.1 rfl rfl (Nat.le_of_ble_eq_true rfl) dX3_removeAt_29 ⟨Nat.zero_le _, Nat.zero_le _⟩) (c_X2_removeAt l D cI cP (a 7) (a 8) 20 (M_11.1 3) x1 _ h_14) hX (va_recv hX.1 (va_blk (Bs := (bStr cI a M_11)) hP 4 rfl) (ci := 2) (q0 := 0) rfl rfl) (Cut.one (Bs := (bStr cI a M_11)) (k := 4) rfl rfl) hP hD hS hA (fun H locs hP hD hS => ?_)
  obtain ⟨M_15, e_16, hf⟩ := bnd_e hf
  have hP : va_P D vwCl (wStr cI a M_15) H := by rw [e_16]; exact hP
  have hD : va_D A (wStr cI a M_15) := by rw [e_16]; exact hD
  clear e_16
  refine lv_aload_n hx hb dX3_removeAt_32 rfl (lv_at hl 0 rfl) ?_
  refine lv_dup hx hb dX3_removeAt_33 rfl ?_
  refine gX3_33 F hX hP 0 rfl (v := .int (M_15.2 0)) rfl dX3_removeAt_34 ?_
  refine lv_iconst (v := 1) hx hb dX3_removeAt_37 (by decide) ?_
  refine lv_isub hx hb dX3_removeAt_38 ?_
  refine pX3_33 F hX hP hD hS 0 rfl (Nat.le_of_ble_eq_true rfl) dX3_removeAt_39 (fun H locs hP hD hS => ?_)
  obtain ⟨M_17, e_18, hf⟩ := bnd_e hf
  have hP : va_P D vwCl (wStr cI a M_17) H := by rw [e_18]; exact hP
  have hD : va_D A (wStr cI a M_17) := by rw [e_18]; exact hD
  clear e_18
  refine lv_aload_n hx hb dX3_removeAt_42 rfl (lv_at hl 0 rfl) ?_
  refine lv_dup hx hb dX3_removeAt_43 rfl ?_
  refine gX3_37 F hX hP 0 rfl (v := .int (M_17.2 1)) rfl dX3_removeAt_44 ?_
  refine lv_iconst (v := 1) hx hb dX3_removeAt_47 (by decide) ?_
  refine lv_iadd hx hb dX3_removeAt_48 ?_
  refine pX3_37 F hX hP hD hS 0 rfl (Nat.le_of_ble_eq_true rfl) dX3_removeAt_49 (fun H locs hP hD hS => ?_)
  obtain ⟨M_19, e_20, hf⟩ := bnd_e hf
  have hP : va_P D vwCl (wStr cI a M_19) H := by rw [e_20]; exact hP
  have hD : va_D A (wStr cI a M_19) := by rw [e_20]; exact hD
  clear e_20
  obtain rfl := (Option.some.inj hf)
  exact wr_v F hP hS dX3_removeAt_52
def X3_removeAllOf_L9 : Nat → SStr → Int32 → Int32 → Int32 → Option (SStr × Int32)
  | 0, _, _, _, _ => none
  | fu + 1, K_9, x1_9, x2_9, x3_9 => (if x3_9 < 0 then some (K_9, x2_9) else (if (rget 20 (K_9.1 3) x3_9) = x1_9 then ((X3_removeAt K_9 x3_9).bind fun u_3 => X3_removeAllOf_L9 fu u_3 x1_9 (x2_9 + 1) (x3_9 + (-1))) else X3_removeAllOf_L9 fu K_9 x1_9 x2_9 (x3_9 + (-1))))
def X3_removeAllOf (K : SStr) (x1 : Int32) : Option (SStr × Int32) := ((X3_removeAllOf_L9 FUEL K x1 0 ((K.2 0) - 1)).bind fun u_5 => some (u_5.1, u_5.2))
abbrev rm_X3_removeAllOf : Room := { frames := 2, cells := 0, slots := 0, locals := 43 }
set_option maxHeartbeats 4000000 in
set_option maxRecDepth 100000 in
theorem c_X3_removeAllOf (l : Launch) (D : va_G) (cI cP : ClassId) (a : Nat → Nat) (K : SStr) (x1 : Int32) (z : SStr × Int32) (hf : X3_removeAllOf K x1 = some z) : MWi l yX3_removeAllOf cX3_removeAllOf 4 (some .int) rm_X3_removeAllOf D cI cP [.ref (a 0), .int x1] (wStr cI a K) (wStr cI a z.1) z.2 := by
  refine MWi.of (by decide +kernel) (Nat.le_of_ble_eq_true rfl) ?_
  intro p e s m args below meth c ls A F hX hP hD hA hS hl
  have F : Fx p s m args meth c RX3 cX3_removeAllOf 4 (some .int) := F
  have hx := F.1
  have hb := F.2.1
  have hown := F.2.2.2.1
  have hts := F.2.2.2.2.1
  have hl : lv_has ls 4 [(0, .ref (a 0)), (1, .int x1)] := hl
  unfold X3_removeAllOf at hf
  refine lv_iconst (v := 0) hx hb dX3_removeAllOf_0 (by decide) ?_
  refine lv_istore_n (lv' := [(2, .int 0), (0, .ref (a 0)), (1, .int x1)]) hx hb dX3_removeAllOf_1 rfl hl (by decide) rfl (fun ls hl => ?_)
  refine lv_aload_n hx hb dX3_removeAllOf_2 rfl (lv_at hl 1 rfl) ?_
  refine gX3_33 F hX hP 0 rfl (v := .int (K.2 0)) rfl dX3_removeAllOf_3 ?_
  refine lv_iconst (v := 1) hx hb dX3_removeAllOf_6 (by decide) ?_
  refine lv_isub hx hb dX3_removeAllOf_7 ?_
  refine lv_istore_n (lv' := [(3, .int ((K.2 0) - 1)), (2, .int 0), (0, .ref (a 0)), (1, .int x1)]) hx hb dX3_removeAllOf_8 rfl hl (by decide) rfl (fun ls hl => ?_)
  have hL_9 : ∀ (fu : Nat) (K_9 : SStr) (x1_9 : Int32) (x2_9 : Int32) (x3_9 : Int32) (v : SStr × Int32) (H : Heap) (locs : List Loc) (ls : Array Slot), X3_removeAllOf_L9 fu K_9 x1_9 x2_9 x3_9 = some v → va_P D vwCl (wStr cI a K_9) H → va_D A (wStr cI a K_9) → va_S A s.heap H locs → lv_has ls 4 [(0, .ref (a 0)), (1, .int x1_9), (2, .int x2_9), (3, .int x3_9)] → (∀ (H : Heap) (locs : List Loc) (ls : Array Slot), va_P D vwCl (wStr cI a v.1) H → va_D A (wStr cI a v.1) → va_S A s.heap H locs → lv_has ls 4 [(2, .int v.2)] → W p l e rm_X3_removeAllOf s m args below meth c H locs 0 0 (QWi D below args s A (wStr cI a z.1) z.2) (F0 m 39 ls [])) → W p l e rm_X3_removeAllOf s m args below meth c H locs 0 0 (QWi D below args s A (wStr cI a z.1) z.2) (F0 m 9 ls []) := by
    intro fu
    induction fu with
    | zero =>
      intro K_9 x1_9 x2_9 x3_9 v H locs ls hf
      exact absurd hf (by simp [X3_removeAllOf_L9])
    | succ fu ih =>
      intro K_9 x1_9 x2_9 x3_9 v _ _ ls hf hP hD hS hl hk
      rw [X3_removeAllOf_L9] at hf
      refine lv_iload_n hx hb dX3_removeAllOf_9 rfl (lv_at hl 3 rfl) ?_
      refine lv_if_lt (tgt := 39) hx hb dX3_removeAllOf_10 (by decide) (fun c_1 => ?_) (fun c_1 => ?_)
      · replace hf := (if_pos c_1).symm.trans hf
        obtain rfl := Option.some.inj hf
        exact hk _ _ ls hP hD hS (lv_sub hl [2] rfl)
      · replace hf := (if_neg c_1).symm.trans hf
        refine lv_aload_n hx hb dX3_removeAllOf_13 rfl (lv_at hl 0 rfl) ?_
        refine gX3_26 F hX hP 0 rfl (v := .ref (a 7)) rfl dX3_removeAllOf_14 ?_
        refine lv_iload_n hx hb dX3_removeAllOf_17 rfl (lv_at hl 3 rfl) ?_
        refine k_rd (runVN F hX wdX3_56 (rm := rm_X2_get) (As := [.int x3_9]) (rest := []) ⟨rfl, rfl⟩ ⟨Nat.le_of_ble_eq_true rfl, Nat.le_of_ble_eq_true rfl⟩ hl.1 rfl rfl (Nat.le_of_ble_eq_true rfl) dX3_removeAllOf_18 ⟨Nat.zero_le _, Nat.zero_le _⟩) (k_rget l D cI cP (a 7) (a 8) 20 (by decide) (K_9.1 3) x3_9) hX (va_recv hX.1 (va_blk (Bs := (bStr cI a K_9)) hP 4 rfl) (ci := 2) (q0 := 0) rfl rfl) (va_blk (Bs := (bStr cI a K_9)) hP 4 rfl) hP hS hA (fun H locs hP hS => ?_)
        refine lv_iload_n hx hb dX3_removeAllOf_21 rfl (lv_at hl 1 rfl) ?_
        refine lv_icmp_ne (tgt := 33) hx hb dX3_removeAllOf_22 (by decide) (fun c_2 => ?_) (fun c_2 => ?_)
        · replace hf := (if_neg c_2).symm.trans hf
          refine lv_iinc (v := (x3_9 + (-1))) (lv' := [(3, .int (x3_9 + (-1))), (0, .ref (a 0)), (1, .int x1_9), (2, .int x2_9)]) hx hb dX3_removeAllOf_33 hl (k := 3) rfl (by rfl) (by decide) rfl (fun ls hl => ?_)
          refine lv_goto (tgt := 9) hx hb dX3_removeAllOf_36 (by decide) ?_
          exact ih K_9 x1_9 x2_9 (x3_9 + (-1)) _ _ _ ls hf hP hD hS (lv_sub hl [1, 2, 3, 0] rfl) hk
        · replace hf := (if_pos c_2).symm.trans hf
          refine lv_aload_n hx hb dX3_removeAllOf_25 rfl (lv_at hl 0 rfl) ?_
          refine lv_iload_n hx hb dX3_removeAllOf_26 rfl (lv_at hl 3 rfl) ?_
          obtain ⟨u_3, h_4, hf⟩ := ob hf
          refine k_wv (runV F wdX3_60 (rm := rm_X3_removeAt) (As := [.int x3_9]) (rest := []) ⟨rfl, rfl⟩ ⟨Nat.le_of_ble_eq_true rfl, Nat.le_of_ble_eq_true rfl⟩ hl.1 rfl rfl (Nat.le_of_ble_eq_true rfl) dX3_removeAllOf_27 ⟨Nat.zero_le _, Nat.zero_le _⟩) (c_X3_removeAt l D cI cP a K_9 x3_9 _ h_4) hX (va_recv hX.1 hP (ci := 3) (q0 := 0) rfl rfl) (Cut.all rfl) hP hD hS hA (fun H locs hP hD hS => ?_)
          have hP : va_P D vwCl (wStr cI a u_3) H := hP
          have hD : va_D A (wStr cI a u_3) := hD
          refine lv_iinc (v := (x2_9 + 1)) (lv' := [(2, .int (x2_9 + 1)), (0, .ref (a 0)), (1, .int x1_9), (3, .int x3_9)]) hx hb dX3_removeAllOf_30 hl (k := 2) rfl (by rfl) (by decide) rfl (fun ls hl => ?_)
          refine lv_iinc (v := (x3_9 + (-1))) (lv' := [(3, .int (x3_9 + (-1))), (2, .int (x2_9 + 1)), (0, .ref (a 0)), (1, .int x1_9)]) hx hb dX3_removeAllOf_33 hl (k := 3) rfl (by rfl) (by decide) rfl (fun ls hl => ?_)
          refine lv_goto (tgt := 9) hx hb dX3_removeAllOf_36 (by decide) ?_
          exact ih u_3 x1_9 (x2_9 + 1) (x3_9 + (-1)) _ _ _ ls hf hP hD hS (lv_sub hl [2, 3, 1, 0] rfl) hk
  obtain ⟨u_5, h_6, hf⟩ := ob hf
  refine hL_9 FUEL K x1 0 ((K.2 0) - 1) u_5 _ _ ls h_6 hP hD hS (lv_sub hl [2, 3, 1, 0] rfl) (fun H locs ls hP hD hS hl => ?_)
  clear hL_9
  refine lv_iload_n hx hb dX3_removeAllOf_39 rfl (lv_at hl 0 rfl) ?_
  obtain rfl := (Option.some.inj hf)
  exact wr_i F rfl hP hS dX3_removeAllOf_40
def X3_areTied_L16 : Nat → SStr → Int32 → Int32 → Int32 → Option (Int32)
  | 0, _, _, _, _ => none
  | fu + 1, K_16, x3_16, x4_16, x5_16 => (if (K_16.2 0) ≤ x5_16 then some 0 else (if (rget 20 (K_16.1 0) x5_16) = x3_16 then (if (rget 20 (K_16.1 1) x5_16) = x4_16 then some 1 else X3_areTied_L16 fu K_16 x3_16 x4_16 (x5_16 + 1)) else X3_areTied_L16 fu K_16 x3_16 x4_16 (x5_16 + 1)))
def X3_areTied (K : SStr) (x1 : Int32) (x2 : Int32) : Option (Int32) := (X3_areTied_L16 FUEL K (if x2 < x1 then x2 else x1) (if x1 < x2 then x2 else x1) 0)
abbrev rm_X3_areTied : Room := { frames := 1, cells := 0, slots := 0, locals := 21 }
set_option maxHeartbeats 4000000 in
set_option maxRecDepth 100000 in
theorem c_X3_areTied (l : Launch) (D : va_G) (cI cP : ClassId) (a : Nat → Nat) (K : SStr) (x1 : Int32) (x2 : Int32) (z : Int32) (hf : X3_areTied K x1 x2 = some z) : MRd l yX3_areTied cX3_areTied 6 (some .boolean) rm_X3_areTied D cI cP [.ref (a 0), .int x1, .int x2] (wStr cI a K) z := by
  refine MRd.of (by decide +kernel) (Nat.le_of_ble_eq_true rfl) ?_
  intro p e s m args below meth c ls F hX hP hS hl
  have F : Fx p s m args meth c RX3 cX3_areTied 6 (some .boolean) := F
  have hx := F.1
  have hb := F.2.1
  have hown := F.2.2.2.1
  have hts := F.2.2.2.2.1
  have hA : ∀ q : Nat, s.heap.size ≤ q → (fun q : Nat => s.heap.size ≤ q) q := fun _ h => h
  have hl : lv_has ls 6 [(0, .ref (a 0)), (1, .int x1), (2, .int x2)] := hl
  unfold X3_areTied at hf
  refine lv_iload_n hx hb dX3_areTied_0 rfl (lv_at hl 1 rfl) ?_
  refine lv_iload_n hx hb dX3_areTied_1 rfl (lv_at hl 2 rfl) ?_
  refine va_mmin hx hb (F.2.2.1.trans hl.1.symm) hown (hts _ q_471) (hts _ q_352) (hts _ q_51) (hts _ q_353) (Nat.le_of_ble_eq_true rfl) (Nat.le_of_ble_eq_true rfl) (Nat.zero_le _) (Nat.zero_le _) dX3_areTied_2 ?_
  refine lv_istore_n (lv' := [(3, .int (if x2 < x1 then x2 else x1)), (0, .ref (a 0)), (1, .int x1), (2, .int x2)]) hx hb dX3_areTied_5 rfl hl (by decide) rfl (fun ls hl => ?_)
  refine lv_iload_n hx hb dX3_areTied_6 rfl (lv_at hl 2 rfl) ?_
  refine lv_iload_n hx hb dX3_areTied_7 rfl (lv_at hl 3 rfl) ?_
  refine va_mmax hx hb (F.2.2.1.trans hl.1.symm) hown (hts _ q_472) (hts _ q_78) (hts _ q_51) (hts _ q_79) (Nat.le_of_ble_eq_true rfl) (Nat.le_of_ble_eq_true rfl) (Nat.zero_le _) (Nat.zero_le _) dX3_areTied_8 ?_
  refine lv_istore (lv' := [(4, .int (if x1 < x2 then x2 else x1)), (3, .int (if x2 < x1 then x2 else x1)), (0, .ref (a 0)), (1, .int x1), (2, .int x2)]) hx hb dX3_areTied_11 hl (by decide) rfl (fun ls hl => ?_)
  refine lv_iconst (v := 0) hx hb dX3_areTied_13 (by decide) ?_
  refine lv_istore (lv' := [(5, .int 0), (4, .int (if x1 < x2 then x2 else x1)), (3, .int (if x2 < x1 then x2 else x1)), (0, .ref (a 0)), (1, .int x1), (2, .int x2)]) hx hb dX3_areTied_14 hl (by decide) rfl (fun ls hl => ?_)
  have hL_16 : ∀ (fu : Nat) (K_16 : SStr) (x3_16 : Int32) (x4_16 : Int32) (x5_16 : Int32) (H : Heap) (locs : List Loc) (ls : Array Slot), X3_areTied_L16 fu K_16 x3_16 x4_16 x5_16 = some z → va_P D vwCl (wStr cI a K_16) H → va_S (fun q : Nat => s.heap.size ≤ q) s.heap H locs → lv_has ls 6 [(0, .ref (a 0)), (3, .int x3_16), (4, .int x4_16), (5, .int x5_16)] → W p l e rm_X3_areTied s m args below meth c H locs 0 0 (QR below args s z) (F0 m 16 ls []) := by
    intro fu
    induction fu with
    | zero =>
      intro K_16 x3_16 x4_16 x5_16 H locs ls hf
      exact absurd hf (by simp [X3_areTied_L16])
    | succ fu ih =>
      intro K_16 x3_16 x4_16 x5_16 _ _ ls hf hP hS hl
      rw [X3_areTied_L16] at hf
      refine lv_iload hx hb dX3_areTied_16 (lv_at hl 3 rfl) ?_
      refine lv_aload_n hx hb dX3_areTied_18 rfl (lv_at hl 0 rfl) ?_
      refine gX3_33 F hX hP 0 rfl (v := .int (K_16.2 0)) rfl dX3_areTied_19 ?_
      refine lv_icmp_ge (tgt := 60) hx hb dX3_areTied_22 (by decide) (fun c_1 => ?_) (fun c_1 => ?_)
      · replace hf := (if_pos c_1).symm.trans hf
        refine lv_iconst (v := 0) hx hb dX3_areTied_60 (by decide) ?_
        exact rd_z F (by decide) (Option.some.inj hf) hS dX3_areTied_61
      · replace hf := (if_neg c_1).symm.trans hf
        refine lv_aload_n hx hb dX3_areTied_25 rfl (lv_at hl 0 rfl) ?_
        refine gX3_14 F hX hP 0 rfl (v := .ref (a 1)) rfl dX3_areTied_26 ?_
        refine lv_iload hx hb dX3_areTied_29 (lv_at hl 3 rfl) ?_
        refine k_rd (runVN F hX wdX3_56 (rm := rm_X2_get) (As := [.int x5_16]) (rest := []) ⟨rfl, rfl⟩ ⟨Nat.le_of_ble_eq_true rfl, Nat.le_of_ble_eq_true rfl⟩ hl.1 rfl rfl (Nat.le_of_ble_eq_true rfl) dX3_areTied_31 ⟨Nat.zero_le _, Nat.zero_le _⟩) (k_rget l D cI cP (a 1) (a 2) 20 (by decide) (K_16.1 0) x5_16) hX (va_recv hX.1 (va_blk (Bs := (bStr cI a K_16)) hP 1 rfl) (ci := 2) (q0 := 0) rfl rfl) (va_blk (Bs := (bStr cI a K_16)) hP 1 rfl) hP hS hA (fun H locs hP hS => ?_)
        refine lv_iload_n hx hb dX3_areTied_34 rfl (lv_at hl 1 rfl) ?_
        refine lv_icmp_ne (tgt := 54) hx hb dX3_areTied_35 (by decide) (fun c_2 => ?_) (fun c_2 => ?_)
        · replace hf := (if_neg c_2).symm.trans hf
          refine lv_iinc (v := (x5_16 + 1)) (lv' := [(5, .int (x5_16 + 1)), (0, .ref (a 0)), (3, .int x3_16), (4, .int x4_16)]) hx hb dX3_areTied_54 hl (k := 3) rfl (by rfl) (by decide) rfl (fun ls hl => ?_)
          refine lv_goto (tgt := 16) hx hb dX3_areTied_57 (by decide) ?_
          exact ih K_16 x3_16 x4_16 (x5_16 + 1) _ _ ls hf hP hS (lv_sub hl [1, 2, 3, 0] rfl)
        · replace hf := (if_pos c_2).symm.trans hf
          refine lv_aload_n hx hb dX3_areTied_38 rfl (lv_at hl 0 rfl) ?_
          refine gX3_20 F hX hP 0 rfl (v := .ref (a 3)) rfl dX3_areTied_39 ?_
          refine lv_iload hx hb dX3_areTied_42 (lv_at hl 3 rfl) ?_
          refine k_rd (runVN F hX wdX3_56 (rm := rm_X2_get) (As := [.int x5_16]) (rest := []) ⟨rfl, rfl⟩ ⟨Nat.le_of_ble_eq_true rfl, Nat.le_of_ble_eq_true rfl⟩ hl.1 rfl rfl (Nat.le_of_ble_eq_true rfl) dX3_areTied_44 ⟨Nat.zero_le _, Nat.zero_le _⟩) (k_rget l D cI cP (a 3) (a 4) 20 (by decide) (K_16.1 1) x5_16) hX (va_recv hX.1 (va_blk (Bs := (bStr cI a K_16)) hP 2 rfl) (ci := 2) (q0 := 0) rfl rfl) (va_blk (Bs := (bStr cI a K_16)) hP 2 rfl) hP hS hA (fun H locs hP hS => ?_)
          refine lv_iload hx hb dX3_areTied_47 (lv_at hl 2 rfl) ?_
          refine lv_icmp_ne (tgt := 54) hx hb dX3_areTied_49 (by decide) (fun c_3 => ?_) (fun c_3 => ?_)
          · replace hf := (if_neg c_3).symm.trans hf
            refine lv_iinc (v := (x5_16 + 1)) (lv' := [(5, .int (x5_16 + 1)), (0, .ref (a 0)), (3, .int x3_16), (4, .int x4_16)]) hx hb dX3_areTied_54 hl (k := 3) rfl (by rfl) (by decide) rfl (fun ls hl => ?_)
            refine lv_goto (tgt := 16) hx hb dX3_areTied_57 (by decide) ?_
            exact ih K_16 x3_16 x4_16 (x5_16 + 1) _ _ ls hf hP hS (lv_sub hl [1, 2, 3, 0] rfl)
          · replace hf := (if_pos c_3).symm.trans hf
            refine lv_iconst (v := 1) hx hb dX3_areTied_52 (by decide) ?_
            exact rd_z F (by decide) (Option.some.inj hf) hS dX3_areTied_53
  exact hL_16 FUEL K (if x2 < x1 then x2 else x1) (if x1 < x2 then x2 else x1) 0 _ _ ls hf hP hS (lv_sub hl [3, 2, 1, 0] rfl)
def X3_howManyAt_L4 : Nat → SStr → Int32 → Int32 → Int32 → Option (Int32)
  | 0, _, _, _, _ => none
  | fu + 1, K_4, x1_4, x2_4, x3_4 => (if (K_4.2 0) ≤ x3_4 then some x2_4 else (if (rget 20 (K_4.1 0) x3_4) = x1_4 then X3_howManyAt_L4 fu K_4 x1_4 (x2_4 + 1) (x3_4 + 1) else (if (rget 20 (K_4.1 1) x3_4) = x1_4 then X3_howManyAt_L4 fu K_4 x1_4 (x2_4 + 1) (x3_4 + 1) else X3_howManyAt_L4 fu K_4 x1_4 x2_4 (x3_4 + 1))))
def X3_howManyAt (K : SStr) (x1 : Int32) : Option (Int32) := ((X3_howManyAt_L4 FUEL K x1 0 0).bind fun u_4 => some u_4)
abbrev rm_X3_howManyAt : Room := { frames := 1, cells := 0, slots := 0, locals := 21 }
set_option maxHeartbeats 4000000 in
set_option maxRecDepth 100000 in
theorem c_X3_howManyAt (l : Launch) (D : va_G) (cI cP : ClassId) (a : Nat → Nat) (K : SStr) (x1 : Int32) (z : Int32) (hf : X3_howManyAt K x1 = some z) : MRd l yX3_howManyAt cX3_howManyAt 4 (some .int) rm_X3_howManyAt D cI cP [.ref (a 0), .int x1] (wStr cI a K) z := by
  refine MRd.of (by decide +kernel) (Nat.le_of_ble_eq_true rfl) ?_
  intro p e s m args below meth c ls F hX hP hS hl
  have F : Fx p s m args meth c RX3 cX3_howManyAt 4 (some .int) := F
  have hx := F.1
  have hb := F.2.1
  have hown := F.2.2.2.1
  have hts := F.2.2.2.2.1
  have hA : ∀ q : Nat, s.heap.size ≤ q → (fun q : Nat => s.heap.size ≤ q) q := fun _ h => h
  have hl : lv_has ls 4 [(0, .ref (a 0)), (1, .int x1)] := hl
  unfold X3_howManyAt at hf
  refine lv_iconst (v := 0) hx hb dX3_howManyAt_0 (by decide) ?_
  refine lv_istore_n (lv' := [(2, .int 0), (0, .ref (a 0)), (1, .int x1)]) hx hb dX3_howManyAt_1 rfl hl (by decide) rfl (fun ls hl => ?_)
  refine lv_iconst (v := 0) hx hb dX3_howManyAt_2 (by decide) ?_
  refine lv_istore_n (lv' := [(3, .int 0), (2, .int 0), (0, .ref (a 0)), (1, .int x1)]) hx hb dX3_howManyAt_3 rfl hl (by decide) rfl (fun ls hl => ?_)
  have hL_4 : ∀ (fu : Nat) (K_4 : SStr) (x1_4 : Int32) (x2_4 : Int32) (x3_4 : Int32) (v : Int32) (H : Heap) (locs : List Loc) (ls : Array Slot), X3_howManyAt_L4 fu K_4 x1_4 x2_4 x3_4 = some v → va_P D vwCl (wStr cI a K_4) H → va_S (fun q : Nat => s.heap.size ≤ q) s.heap H locs → lv_has ls 4 [(0, .ref (a 0)), (1, .int x1_4), (2, .int x2_4), (3, .int x3_4)] → (∀ (H : Heap) (locs : List Loc) (ls : Array Slot), va_P D vwCl (wStr cI a K_4) H → va_S (fun q : Nat => s.heap.size ≤ q) s.heap H locs → lv_has ls 4 [(2, .int v)] → W p l e rm_X3_howManyAt s m args below meth c H locs 0 0 (QR below args s z) (F0 m 45 ls [])) → W p l e rm_X3_howManyAt s m args below meth c H locs 0 0 (QR below args s z) (F0 m 4 ls []) := by
    intro fu
    induction fu with
    | zero =>
      intro K_4 x1_4 x2_4 x3_4 v H locs ls hf
      exact absurd hf (by simp [X3_howManyAt_L4])
    | succ fu ih =>
      intro K_4 x1_4 x2_4 x3_4 v _ _ ls hf hP hS hl hk
      rw [X3_howManyAt_L4] at hf
      refine lv_iload_n hx hb dX3_howManyAt_4 rfl (lv_at hl 3 rfl) ?_
      refine lv_aload_n hx hb dX3_howManyAt_5 rfl (lv_at hl 0 rfl) ?_
      refine gX3_33 F hX hP 0 rfl (v := .int (K_4.2 0)) rfl dX3_howManyAt_6 ?_
      refine lv_icmp_ge (tgt := 45) hx hb dX3_howManyAt_9 (by decide) (fun c_1 => ?_) (fun c_1 => ?_)
      · replace hf := (if_pos c_1).symm.trans hf
        obtain rfl := Option.some.inj hf
        exact hk _ _ ls hP hS (lv_sub hl [2] rfl)
      · replace hf := (if_neg c_1).symm.trans hf
        refine lv_aload_n hx hb dX3_howManyAt_12 rfl (lv_at hl 0 rfl) ?_
        refine gX3_14 F hX hP 0 rfl (v := .ref (a 1)) rfl dX3_howManyAt_13 ?_
        refine lv_iload_n hx hb dX3_howManyAt_16 rfl (lv_at hl 3 rfl) ?_
        refine k_rd (runVN F hX wdX3_56 (rm := rm_X2_get) (As := [.int x3_4]) (rest := []) ⟨rfl, rfl⟩ ⟨Nat.le_of_ble_eq_true rfl, Nat.le_of_ble_eq_true rfl⟩ hl.1 rfl rfl (Nat.le_of_ble_eq_true rfl) dX3_howManyAt_17 ⟨Nat.zero_le _, Nat.zero_le _⟩) (k_rget l D cI cP (a 1) (a 2) 20 (by decide) (K_4.1 0) x3_4) hX (va_recv hX.1 (va_blk (Bs := (bStr cI a K_4)) hP 1 rfl) (ci := 2) (q0 := 0) rfl rfl) (va_blk (Bs := (bStr cI a K_4)) hP 1 rfl) hP hS hA (fun H locs hP hS => ?_)
        refine lv_iload_n hx hb dX3_howManyAt_20 rfl (lv_at hl 1 rfl) ?_
        refine lv_icmp_eq (tgt := 36) hx hb dX3_howManyAt_21 (by decide) (fun c_2 => ?_) (fun c_2 => ?_)
        · replace hf := (if_pos c_2).symm.trans hf
          refine lv_iinc (v := (x2_4 + 1)) (lv' := [(2, .int (x2_4 + 1)), (0, .ref (a 0)), (1, .int x1_4), (3, .int x3_4)]) hx hb dX3_howManyAt_36 hl (k := 2) rfl (by rfl) (by decide) rfl (fun ls hl => ?_)
          refine lv_iinc (v := (x3_4 + 1)) (lv' := [(3, .int (x3_4 + 1)), (2, .int (x2_4 + 1)), (0, .ref (a 0)), (1, .int x1_4)]) hx hb dX3_howManyAt_39 hl (k := 3) rfl (by rfl) (by decide) rfl (fun ls hl => ?_)
          refine lv_goto (tgt := 4) hx hb dX3_howManyAt_42 (by decide) ?_
          exact ih K_4 x1_4 (x2_4 + 1) (x3_4 + 1) _ _ _ ls hf hP hS (lv_sub hl [2, 3, 1, 0] rfl) hk
        · replace hf := (if_neg c_2).symm.trans hf
          refine lv_aload_n hx hb dX3_howManyAt_24 rfl (lv_at hl 0 rfl) ?_
          refine gX3_20 F hX hP 0 rfl (v := .ref (a 3)) rfl dX3_howManyAt_25 ?_
          refine lv_iload_n hx hb dX3_howManyAt_28 rfl (lv_at hl 3 rfl) ?_
          refine k_rd (runVN F hX wdX3_56 (rm := rm_X2_get) (As := [.int x3_4]) (rest := []) ⟨rfl, rfl⟩ ⟨Nat.le_of_ble_eq_true rfl, Nat.le_of_ble_eq_true rfl⟩ hl.1 rfl rfl (Nat.le_of_ble_eq_true rfl) dX3_howManyAt_29 ⟨Nat.zero_le _, Nat.zero_le _⟩) (k_rget l D cI cP (a 3) (a 4) 20 (by decide) (K_4.1 1) x3_4) hX (va_recv hX.1 (va_blk (Bs := (bStr cI a K_4)) hP 2 rfl) (ci := 2) (q0 := 0) rfl rfl) (va_blk (Bs := (bStr cI a K_4)) hP 2 rfl) hP hS hA (fun H locs hP hS => ?_)
          refine lv_iload_n hx hb dX3_howManyAt_32 rfl (lv_at hl 1 rfl) ?_
          refine lv_icmp_ne (tgt := 39) hx hb dX3_howManyAt_33 (by decide) (fun c_3 => ?_) (fun c_3 => ?_)
          · replace hf := (if_neg c_3).symm.trans hf
            refine lv_iinc (v := (x3_4 + 1)) (lv' := [(3, .int (x3_4 + 1)), (0, .ref (a 0)), (1, .int x1_4), (2, .int x2_4)]) hx hb dX3_howManyAt_39 hl (k := 3) rfl (by rfl) (by decide) rfl (fun ls hl => ?_)
            refine lv_goto (tgt := 4) hx hb dX3_howManyAt_42 (by decide) ?_
            exact ih K_4 x1_4 x2_4 (x3_4 + 1) _ _ _ ls hf hP hS (lv_sub hl [1, 2, 3, 0] rfl) hk
          · replace hf := (if_pos c_3).symm.trans hf
            refine lv_iinc (v := (x2_4 + 1)) (lv' := [(2, .int (x2_4 + 1)), (0, .ref (a 0)), (1, .int x1_4), (3, .int x3_4)]) hx hb dX3_howManyAt_36 hl (k := 2) rfl (by rfl) (by decide) rfl (fun ls hl => ?_)
            refine lv_iinc (v := (x3_4 + 1)) (lv' := [(3, .int (x3_4 + 1)), (2, .int (x2_4 + 1)), (0, .ref (a 0)), (1, .int x1_4)]) hx hb dX3_howManyAt_39 hl (k := 3) rfl (by rfl) (by decide) rfl (fun ls hl => ?_)
            refine lv_goto (tgt := 4) hx hb dX3_howManyAt_42 (by decide) ?_
            exact ih K_4 x1_4 (x2_4 + 1) (x3_4 + 1) _ _ _ ls hf hP hS (lv_sub hl [2, 3, 1, 0] rfl) hk
  obtain ⟨u_4, h_5, hf⟩ := ob hf
  refine hL_4 FUEL K x1 0 0 u_4 _ _ ls h_5 hP hS (lv_sub hl [2, 3, 1, 0] rfl) (fun H locs ls hP hS hl => ?_)
  clear hL_4
  refine lv_iload_n hx hb dX3_howManyAt_45 rfl (lv_at hl 0 rfl) ?_
  exact rd_i F (Option.some.inj hf) hS dX3_howManyAt_46
def X3_oneStringFurther_L4 : Nat → SStr → Int32 → Int32 → Int32 → Option (Int32)
  | 0, _, _, _, _ => none
  | fu + 1, K_4, x1_4, x2_4, x3_4 => (if (K_4.2 0) ≤ x3_4 then some x2_4 else (if (x1_4 &&& ((1 <<< ((rget 20 (K_4.1 0) x3_4) &&& 31)) ||| (1 <<< ((rget 20 (K_4.1 1) x3_4) &&& 31)))) = 0 then X3_oneStringFurther_L4 fu K_4 x1_4 x2_4 (x3_4 + 1) else X3_oneStringFurther_L4 fu K_4 x1_4 (x2_4 ||| ((1 <<< ((rget 20 (K_4.1 0) x3_4) &&& 31)) ||| (1 <<< ((rget 20 (K_4.1 1) x3_4) &&& 31)))) (x3_4 + 1)))
def X3_oneStringFurther (K : SStr) (x1 : Int32) : Option (Int32) := ((X3_oneStringFurther_L4 FUEL K x1 x1 0).bind fun u_3 => some u_3)
abbrev rm_X3_oneStringFurther : Room := { frames := 1, cells := 0, slots := 0, locals := 21 }
set_option maxHeartbeats 4000000 in
set_option maxRecDepth 100000 in
theorem c_X3_oneStringFurther (l : Launch) (D : va_G) (cI cP : ClassId) (a : Nat → Nat) (K : SStr) (x1 : Int32) (z : Int32) (hf : X3_oneStringFurther K x1 = some z) : MRd l yX3_oneStringFurther cX3_oneStringFurther 5 (some .int) rm_X3_oneStringFurther D cI cP [.ref (a 0), .int x1] (wStr cI a K) z := by
  refine MRd.of (by decide +kernel) (Nat.le_of_ble_eq_true rfl) ?_
  intro p e s m args below meth c ls F hX hP hS hl
  have F : Fx p s m args meth c RX3 cX3_oneStringFurther 5 (some .int) := F
  have hx := F.1
  have hb := F.2.1
  have hown := F.2.2.2.1
  have hts := F.2.2.2.2.1
  have hA : ∀ q : Nat, s.heap.size ≤ q → (fun q : Nat => s.heap.size ≤ q) q := fun _ h => h
  have hl : lv_has ls 5 [(0, .ref (a 0)), (1, .int x1)] := hl
  unfold X3_oneStringFurther at hf
  refine lv_iload_n hx hb dX3_oneStringFurther_0 rfl (lv_at hl 1 rfl) ?_
  refine lv_istore_n (lv' := [(2, .int x1), (0, .ref (a 0)), (1, .int x1)]) hx hb dX3_oneStringFurther_1 rfl hl (by decide) rfl (fun ls hl => ?_)
  refine lv_iconst (v := 0) hx hb dX3_oneStringFurther_2 (by decide) ?_
  refine lv_istore_n (lv' := [(3, .int 0), (2, .int x1), (0, .ref (a 0)), (1, .int x1)]) hx hb dX3_oneStringFurther_3 rfl hl (by decide) rfl (fun ls hl => ?_)
  have hL_4 : ∀ (fu : Nat) (K_4 : SStr) (x1_4 : Int32) (x2_4 : Int32) (x3_4 : Int32) (v : Int32) (H : Heap) (locs : List Loc) (ls : Array Slot), X3_oneStringFurther_L4 fu K_4 x1_4 x2_4 x3_4 = some v → va_P D vwCl (wStr cI a K_4) H → va_S (fun q : Nat => s.heap.size ≤ q) s.heap H locs → lv_has ls 5 [(0, .ref (a 0)), (1, .int x1_4), (2, .int x2_4), (3, .int x3_4)] → (∀ (H : Heap) (locs : List Loc) (ls : Array Slot), va_P D vwCl (wStr cI a K_4) H → va_S (fun q : Nat => s.heap.size ≤ q) s.heap H locs → lv_has ls 5 [(2, .int v)] → W p l e rm_X3_oneStringFurther s m args below meth c H locs 0 0 (QR below args s z) (F0 m 53 ls [])) → W p l e rm_X3_oneStringFurther s m args below meth c H locs 0 0 (QR below args s z) (F0 m 4 ls []) := by
    intro fu
    induction fu with
    | zero =>
      intro K_4 x1_4 x2_4 x3_4 v H locs ls hf
      exact absurd hf (by simp [X3_oneStringFurther_L4])
    | succ fu ih =>
      intro K_4 x1_4 x2_4 x3_4 v _ _ ls hf hP hS hl hk
      rw [X3_oneStringFurther_L4] at hf
      refine lv_iload_n hx hb dX3_oneStringFurther_4 rfl (lv_at hl 3 rfl) ?_
      refine lv_aload_n hx hb dX3_oneStringFurther_5 rfl (lv_at hl 0 rfl) ?_
      refine gX3_33 F hX hP 0 rfl (v := .int (K_4.2 0)) rfl dX3_oneStringFurther_6 ?_
      refine lv_icmp_ge (tgt := 53) hx hb dX3_oneStringFurther_9 (by decide) (fun c_1 => ?_) (fun c_1 => ?_)
      · replace hf := (if_pos c_1).symm.trans hf
        obtain rfl := Option.some.inj hf
        exact hk _ _ ls hP hS (lv_sub hl [2] rfl)
      · replace hf := (if_neg c_1).symm.trans hf
        refine lv_iconst (v := 1) hx hb dX3_oneStringFurther_12 (by decide) ?_
        refine lv_aload_n hx hb dX3_oneStringFurther_13 rfl (lv_at hl 0 rfl) ?_
        refine gX3_14 F hX hP 0 rfl (v := .ref (a 1)) rfl dX3_oneStringFurther_14 ?_
        refine lv_iload_n hx hb dX3_oneStringFurther_17 rfl (lv_at hl 3 rfl) ?_
        refine k_rd (runVN F hX wdX3_56 (rm := rm_X2_get) (As := [.int x3_4]) (rest := [.int 1]) ⟨rfl, rfl⟩ ⟨Nat.le_of_ble_eq_true rfl, Nat.le_of_ble_eq_true rfl⟩ hl.1 rfl rfl (Nat.le_of_ble_eq_true rfl) dX3_oneStringFurther_18 ⟨Nat.zero_le _, Nat.zero_le _⟩) (k_rget l D cI cP (a 1) (a 2) 20 (by decide) (K_4.1 0) x3_4) hX (va_recv hX.1 (va_blk (Bs := (bStr cI a K_4)) hP 1 rfl) (ci := 2) (q0 := 0) rfl rfl) (va_blk (Bs := (bStr cI a K_4)) hP 1 rfl) hP hS hA (fun H locs hP hS => ?_)
        refine lv_ishl hx hb dX3_oneStringFurther_21 ?_
        refine lv_iconst (v := 1) hx hb dX3_oneStringFurther_22 (by decide) ?_
        refine lv_aload_n hx hb dX3_oneStringFurther_23 rfl (lv_at hl 0 rfl) ?_
        refine gX3_20 F hX hP 0 rfl (v := .ref (a 3)) rfl dX3_oneStringFurther_24 ?_
        refine lv_iload_n hx hb dX3_oneStringFurther_27 rfl (lv_at hl 3 rfl) ?_
        refine k_rd (runVN F hX wdX3_56 (rm := rm_X2_get) (As := [.int x3_4]) (rest := [.int 1, .int (1 <<< ((rget 20 (K_4.1 0) x3_4) &&& 31))]) ⟨rfl, rfl⟩ ⟨Nat.le_of_ble_eq_true rfl, Nat.le_of_ble_eq_true rfl⟩ hl.1 rfl rfl (Nat.le_of_ble_eq_true rfl) dX3_oneStringFurther_28 ⟨Nat.zero_le _, Nat.zero_le _⟩) (k_rget l D cI cP (a 3) (a 4) 20 (by decide) (K_4.1 1) x3_4) hX (va_recv hX.1 (va_blk (Bs := (bStr cI a K_4)) hP 2 rfl) (ci := 2) (q0 := 0) rfl rfl) (va_blk (Bs := (bStr cI a K_4)) hP 2 rfl) hP hS hA (fun H locs hP hS => ?_)
        refine lv_ishl hx hb dX3_oneStringFurther_31 ?_
        refine lv_ior hx hb dX3_oneStringFurther_32 ?_
        refine lv_istore (lv' := [(4, .int ((1 <<< ((rget 20 (K_4.1 0) x3_4) &&& 31)) ||| (1 <<< ((rget 20 (K_4.1 1) x3_4) &&& 31)))), (0, .ref (a 0)), (1, .int x1_4), (2, .int x2_4), (3, .int x3_4)]) hx hb dX3_oneStringFurther_33 hl (by decide) rfl (fun ls hl => ?_)
        refine lv_iload_n hx hb dX3_oneStringFurther_35 rfl (lv_at hl 2 rfl) ?_
        refine lv_iload hx hb dX3_oneStringFurther_36 (lv_at hl 0 rfl) ?_
        refine lv_iand hx hb dX3_oneStringFurther_38 ?_
        refine lv_if_eq (tgt := 47) hx hb dX3_oneStringFurther_39 (by decide) (fun c_2 => ?_) (fun c_2 => ?_)
        · replace hf := (if_pos c_2).symm.trans hf
          refine lv_iinc (v := (x3_4 + 1)) (lv' := [(3, .int (x3_4 + 1)), (4, .int ((1 <<< ((rget 20 (K_4.1 0) x3_4) &&& 31)) ||| (1 <<< ((rget 20 (K_4.1 1) x3_4) &&& 31)))), (0, .ref (a 0)), (1, .int x1_4), (2, .int x2_4)]) hx hb dX3_oneStringFurther_47 hl (k := 4) rfl (by rfl) (by decide) rfl (fun ls hl => ?_)
          refine lv_goto (tgt := 4) hx hb dX3_oneStringFurther_50 (by decide) ?_
          exact ih K_4 x1_4 x2_4 (x3_4 + 1) _ _ _ ls hf hP hS (lv_sub hl [2, 3, 4, 0] rfl) hk
        · replace hf := (if_neg c_2).symm.trans hf
          refine lv_iload_n hx hb dX3_oneStringFurther_42 rfl (lv_at hl 3 rfl) ?_
          refine lv_iload hx hb dX3_oneStringFurther_43 (lv_at hl 0 rfl) ?_
          refine lv_ior hx hb dX3_oneStringFurther_45 ?_
          refine lv_istore_n (lv' := [(2, .int (x2_4 ||| ((1 <<< ((rget 20 (K_4.1 0) x3_4) &&& 31)) ||| (1 <<< ((rget 20 (K_4.1 1) x3_4) &&& 31))))), (4, .int ((1 <<< ((rget 20 (K_4.1 0) x3_4) &&& 31)) ||| (1 <<< ((rget 20 (K_4.1 1) x3_4) &&& 31)))), (0, .ref (a 0)), (1, .int x1_4), (3, .int x3_4)]) hx hb dX3_oneStringFurther_46 rfl hl (by decide) rfl (fun ls hl => ?_)
          refine lv_iinc (v := (x3_4 + 1)) (lv' := [(3, .int (x3_4 + 1)), (2, .int (x2_4 ||| ((1 <<< ((rget 20 (K_4.1 0) x3_4) &&& 31)) ||| (1 <<< ((rget 20 (K_4.1 1) x3_4) &&& 31))))), (4, .int ((1 <<< ((rget 20 (K_4.1 0) x3_4) &&& 31)) ||| (1 <<< ((rget 20 (K_4.1 1) x3_4) &&& 31)))), (0, .ref (a 0)), (1, .int x1_4)]) hx hb dX3_oneStringFurther_47 hl (k := 4) rfl (by rfl) (by decide) rfl (fun ls hl => ?_)
          refine lv_goto (tgt := 4) hx hb dX3_oneStringFurther_50 (by decide) ?_
          exact ih K_4 x1_4 (x2_4 ||| ((1 <<< ((rget 20 (K_4.1 0) x3_4) &&& 31)) ||| (1 <<< ((rget 20 (K_4.1 1) x3_4) &&& 31)))) (x3_4 + 1) _ _ _ ls hf hP hS (lv_sub hl [3, 4, 1, 0] rfl) hk
  obtain ⟨u_3, h_4, hf⟩ := ob hf
  refine hL_4 FUEL K x1 x1 0 u_3 _ _ ls h_4 hP hS (lv_sub hl [2, 3, 1, 0] rfl) (fun H locs ls hP hS hl => ?_)
  clear hL_4
  refine lv_iload_n hx hb dX3_oneStringFurther_53 rfl (lv_at hl 0 rfl) ?_
  exact rd_i F (Option.some.inj hf) hS dX3_oneStringFurther_54
