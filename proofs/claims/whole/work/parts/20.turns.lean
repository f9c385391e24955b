def J6_bitCount_0f7a4 (x0 : Int32) : Int32 := ((((((((x0 - (((Int32.toUInt32 x0) >>> ((Int32.toUInt32 1) &&& Int32.toUInt32 31)).toInt32 &&& 1431655765)) &&& 858993459) + (((Int32.toUInt32 (x0 - (((Int32.toUInt32 x0) >>> ((Int32.toUInt32 1) &&& Int32.toUInt32 31)).toInt32 &&& 1431655765))) >>> ((Int32.toUInt32 2) &&& Int32.toUInt32 31)).toInt32 &&& 858993459)) + ((Int32.toUInt32 (((x0 - (((Int32.toUInt32 x0) >>> ((Int32.toUInt32 1) &&& Int32.toUInt32 31)).toInt32 &&& 1431655765)) &&& 858993459) + (((Int32.toUInt32 (x0 - (((Int32.toUInt32 x0) >>> ((Int32.toUInt32 1) &&& Int32.toUInt32 31)).toInt32 &&& 1431655765))) >>> ((Int32.toUInt32 2) &&& Int32.toUInt32 31)).toInt32 &&& 858993459))) >>> ((Int32.toUInt32 4) &&& Int32.toUInt32 31)).toInt32) &&& 252645135) + ((Int32.toUInt32 (((((x0 - (((Int32.toUInt32 x0) >>> ((Int32.toUInt32 1) &&& Int32.toUInt32 31)).toInt32 &&& 1431655765)) &&& 858993459) + (((Int32.toUInt32 (x0 - (((Int32.toUInt32 x0) >>> ((Int32.toUInt32 1) &&& Int32.toUInt32 31)).toInt32 &&& 1431655765))) >>> ((Int32.toUInt32 2) &&& Int32.toUInt32 31)).toInt32 &&& 858993459)) + ((Int32.toUInt32 (((x0 - (((Int32.toUInt32 x0) >>> ((Int32.toUInt32 1) &&& Int32.toUInt32 31)).toInt32 &&& 1431655765)) &&& 858993459) + (((Int32.toUInt32 (x0 - (((Int32.toUInt32 x0) >>> ((Int32.toUInt32 1) &&& Int32.toUInt32 31)).toInt32 &&& 1431655765))) >>> ((Int32.toUInt32 2) &&& Int32.toUInt32 31)).toInt32 &&& 858993459))) >>> ((Int32.toUInt32 4) &&& Int32.toUInt32 31)).toInt32) &&& 252645135)) >>> ((Int32.toUInt32 8) &&& Int32.toUInt32 31)).toInt32) + ((Int32.toUInt32 ((((((x0 - (((Int32.toUInt32 x0) >>> ((Int32.toUInt32 1) &&& Int32.toUInt32 31)).toInt32 &&& 1431655765)) &&& 858993459) + (((Int32.toUInt32 (x0 - (((Int32.toUInt32 x0) >>> ((Int32.toUInt32 1) &&& Int32.toUInt32 31)).toInt32 &&& 1431655765))) >>> ((Int32.toUInt32 2) &&& Int32.toUInt32 31)).toInt32 &&& 858993459)) + ((Int32.toUInt32 (((x0 - (((Int32.toUInt32 x0) >>> ((Int32.toUInt32 1) &&& Int32.toUInt32 31)).toInt32 &&& 1431655765)) &&& 858993459) + (((Int32.toUInt32 (x0 - (((Int32.toUInt32 x0) >>> ((Int32.toUInt32 1) &&& Int32.toUInt32 31)).toInt32 &&& 1431655765))) >>> ((Int32.toUInt32 2) &&& Int32.toUInt32 31)).toInt32 &&& 858993459))) >>> ((Int32.toUInt32 4) &&& Int32.toUInt32 31)).toInt32) &&& 252645135) + ((Int32.toUInt32 (((((x0 - (((Int32.toUInt32 x0) >>> ((Int32.toUInt32 1) &&& Int32.toUInt32 31)).toInt32 &&& 1431655765)) &&& 858993459) + (((Int32.toUInt32 (x0 - (((Int32.toUInt32 x0) >>> ((Int32.toUInt32 1) &&& Int32.toUInt32 31)).toInt32 &&& 1431655765))) >>> ((Int32.toUInt32 2) &&& Int32.toUInt32 31)).toInt32 &&& 858993459)) + ((Int32.toUInt32 (((x0 - (((Int32.toUInt32 x0) >>> ((Int32.toUInt32 1) &&& Int32.toUInt32 31)).toInt32 &&& 1431655765)) &&& 858993459) + (((Int32.toUInt32 (x0 - (((Int32.toUInt32 x0) >>> ((Int32.toUInt32 1) &&& Int32.toUInt32 31)).toInt32 &&& 1431655765))) >>> ((Int32.toUInt32 2) &&& Int32.toUInt32 31)).toInt32 &&& 858993459))) >>> ((Int32.toUInt32 4) &&& Int32.toUInt32 31)).toInt32) &&& 252645135)) >>> ((Int32.toUInt32 8) &&& Int32.toUInt32 31)).toInt32)) >>> ((Int32.toUInt32 16) &&& Int32.toUInt32 31)).toInt32) &&& 63)
abbrev rm_J6_bitCount_0f7a4 : Room := { frames := 0, cells := 0, slots := 0, locals := 0 }
set_option maxHeartbeats 4000000 in
set_option maxRecDepth 100000 in
theorem c_J6_bitCount_0f7a4 (l : Launch) (D : va_G) (cI cP : ClassId) (x0 : Int32) (z : Int32) (hf : J6_bitCount_0f7a4 x0 = z) : MRd l yJ6_bitCount_0f7a4 cJ6_bitCount_0f7a4 1 (some .int) rm_J6_bitCount_0f7a4 D cI cP [.int x0] [] z := by
  refine MRd.of (by decide +kernel) (Nat.le_of_ble_eq_true rfl) ?_
  intro p e s m args below meth c ls F hX hP hS hl
  have F : Fx p s m args meth c RJ6 cJ6_bitCount_0f7a4 1 (some .int) := F
  have hx := F.1
  have hb := F.2.1
  have hown := F.2.2.2.1
  have hts := F.2.2.2.2.1
  have hA : ∀ q : Nat, s.heap.size ≤ q → (fun q : Nat => s.heap.size ≤ q) q := fun _ h => h
  have hl : lv_has ls 1 [(0, .int x0)] := hl
  unfold J6_bitCount_0f7a4 at hf
  refine lv_iload_n hx hb dJ6_bitCount_0f7a4_0 rfl (lv_at hl 0 rfl) ?_
  refine lv_iload_n hx hb dJ6_bitCount_0f7a4_1 rfl (lv_at hl 0 rfl) ?_
  refine lv_iconst (v := 1) hx hb dJ6_bitCount_0f7a4_2 (by decide) ?_
  refine lv_iushr hx hb dJ6_bitCount_0f7a4_3 rfl ?_
  refine lv_ldcw (v := 1431655765) hx hb hown (hts _ q_650) dJ6_bitCount_0f7a4_4 ?_
  refine lv_iand hx hb dJ6_bitCount_0f7a4_7 ?_
  refine lv_isub hx hb dJ6_bitCount_0f7a4_8 ?_
  refine lv_istore_n (lv' := [(0, .int (x0 - (((Int32.toUInt32 x0) >>> ((Int32.toUInt32 1) &&& Int32.toUInt32 31)).toInt32 &&& 1431655765)))]) hx hb dJ6_bitCount_0f7a4_9 rfl hl (by decide) rfl (fun ls hl => ?_)
  refine lv_iload_n hx hb dJ6_bitCount_0f7a4_10 rfl (lv_at hl 0 rfl) ?_
  refine lv_ldcw (v := 858993459) hx hb hown (hts _ q_651) dJ6_bitCount_0f7a4_11 ?_
  refine lv_iand hx hb dJ6_bitCount_0f7a4_14 ?_
  refine lv_iload_n hx hb dJ6_bitCount_0f7a4_15 rfl (lv_at hl 0 rfl) ?_
  refine lv_iconst (v := 2) hx hb dJ6_bitCount_0f7a4_16 (by decide) ?_
  refine lv_iushr hx hb dJ6_bitCount_0f7a4_17 rfl ?_
  refine lv_ldcw (v := 858993459) hx hb hown (hts _ q_651) dJ6_bitCount_0f7a4_18 ?_
  refine lv_iand hx hb dJ6_bitCount_0f7a4_21 ?_
  refine lv_iadd hx hb dJ6_bitCount_0f7a4_22 ?_
  refine lv_istore_n (lv' := [(0, .int (((x0 - (((Int32.toUInt32 x0) >>> ((Int32.toUInt32 1) &&& Int32.toUInt32 31)).toInt32 &&& 1431655765)) &&& 858993459) + (((Int32.toUInt32 (x0 - (((Int32.toUInt32 x0) >>> ((Int32.toUInt32 1) &&& Int32.toUInt32 31)).toInt32 &&& 1431655765))) >>> ((Int32.toUInt32 2) &&& Int32.toUInt32 31)).toInt32 &&& 858993459)))]) hx hb dJ6_bitCount_0f7a4_23 rfl hl (by decide) rfl (fun ls hl => ?_)
  refine lv_iload_n hx hb dJ6_bitCount_0f7a4_24 rfl (lv_at hl 0 rfl) ?_
  refine lv_iload_n hx hb dJ6_bitCount_0f7a4_25 rfl (lv_at hl 0 rfl) ?_
  refine lv_iconst (v := 4) hx hb dJ6_bitCount_0f7a4_26 (by decide) ?_
  refine lv_iushr hx hb dJ6_bitCount_0f7a4_27 rfl ?_
  refine lv_iadd hx hb dJ6_bitCount_0f7a4_28 ?_
  refine lv_ldcw (v := 252645135) hx hb hown (hts _ q_652) dJ6_bitCount_0f7a4_29 ?_
  refine lv_iand hx hb dJ6_bitCount_0f7a4_32 ?_
  refine lv_istore_n (lv' := [(0, .int (((((x0 - (((Int32.toUInt32 x0) >>> ((Int32.toUInt32 1) &&& Int32.toUInt32 31)).toInt32 &&& 1431655765)) &&& 858993459) + (((Int32.toUInt32 (x0 - (((Int32.toUInt32 x0) >>> ((Int32.toUInt32 1) &&& Int32.toUInt32 31)).toInt32 &&& 1431655765))) >>> ((Int32.toUInt32 2) &&& Int32.toUInt32 31)).toInt32 &&& 858993459)) + ((Int32.toUInt32 (((x0 - (((Int32.toUInt32 x0) >>> ((Int32.toUInt32 1) &&& Int32.toUInt32 31)).toInt32 &&& 1431655765)) &&& 858993459) + (((Int32.toUInt32 (x0 - (((Int32.toUInt32 x0) >>> ((Int32.toUInt32 1) &&& Int32.toUInt32 31)).toInt32 &&& 1431655765))) >>> ((Int32.toUInt32 2) &&& Int32.toUInt32 31)).toInt32 &&& 858993459))) >>> ((Int32.toUInt32 4) &&& Int32.toUInt32 31)).toInt32) &&& 252645135))]) hx hb dJ6_bitCount_0f7a4_33 rfl hl (by decide) rfl (fun ls hl => ?_)
  refine lv_iload_n hx hb dJ6_bitCount_0f7a4_34 rfl (lv_at hl 0 rfl) ?_
  refine lv_iload_n hx hb dJ6_bitCount_0f7a4_35 rfl (lv_at hl 0 rfl) ?_
  refine lv_bipush (v := 8) hx hb dJ6_bitCount_0f7a4_36 (by decide) ?_
  refine lv_iushr hx hb dJ6_bitCount_0f7a4_38 rfl ?_
  refine lv_iadd hx hb dJ6_bitCount_0f7a4_39 ?_
  refine lv_istore_n (lv' := [(0, .int ((((((x0 - (((Int32.toUInt32 x0) >>> ((Int32.toUInt32 1) &&& Int32.toUInt32 31)).toInt32 &&& 1431655765)) &&& 858993459) + (((Int32.toUInt32 (x0 - (((Int32.toUInt32 x0) >>> ((Int32.toUInt32 1) &&& Int32.toUInt32 31)).toInt32 &&& 1431655765))) >>> ((Int32.toUInt32 2) &&& Int32.toUInt32 31)).toInt32 &&& 858993459)) + ((Int32.toUInt32 (((x0 - (((Int32.toUInt32 x0) >>> ((Int32.toUInt32 1) &&& Int32.toUInt32 31)).toInt32 &&& 1431655765)) &&& 858993459) + (((Int32.toUInt32 (x0 - (((Int32.toUInt32 x0) >>> ((Int32.toUInt32 1) &&& Int32.toUInt32 31)).toInt32 &&& 1431655765))) >>> ((Int32.toUInt32 2) &&& Int32.toUInt32 31)).toInt32 &&& 858993459))) >>> ((Int32.toUInt32 4) &&& Int32.toUInt32 31)).toInt32) &&& 252645135) + ((Int32.toUInt32 (((((x0 - (((Int32.toUInt32 x0) >>> ((Int32.toUInt32 1) &&& Int32.toUInt32 31)).toInt32 &&& 1431655765)) &&& 858993459) + (((Int32.toUInt32 (x0 - (((Int32.toUInt32 x0) >>> ((Int32.toUInt32 1) &&& Int32.toUInt32 31)).toInt32 &&& 1431655765))) >>> ((Int32.toUInt32 2) &&& Int32.toUInt32 31)).toInt32 &&& 858993459)) + ((Int32.toUInt32 (((x0 - (((Int32.toUInt32 x0) >>> ((Int32.toUInt32 1) &&& Int32.toUInt32 31)).toInt32 &&& 1431655765)) &&& 858993459) + (((Int32.toUInt32 (x0 - (((Int32.toUInt32 x0) >>> ((Int32.toUInt32 1) &&& Int32.toUInt32 31)).toInt32 &&& 1431655765))) >>> ((Int32.toUInt32 2) &&& Int32.toUInt32 31)).toInt32 &&& 858993459))) >>> ((Int32.toUInt32 4) &&& Int32.toUInt32 31)).toInt32) &&& 252645135)) >>> ((Int32.toUInt32 8) &&& Int32.toUInt32 31)).toInt32))]) hx hb dJ6_bitCount_0f7a4_40 rfl hl (by decide) rfl (fun ls hl => ?_)
  refine lv_iload_n hx hb dJ6_bitCount_0f7a4_41 rfl (lv_at hl 0 rfl) ?_
  refine lv_iload_n hx hb dJ6_bitCount_0f7a4_42 rfl (lv_at hl 0 rfl) ?_
  refine lv_bipush (v := 16) hx hb dJ6_bitCount_0f7a4_43 (by decide) ?_
  refine lv_iushr hx hb dJ6_bitCount_0f7a4_45 rfl ?_
  refine lv_iadd hx hb dJ6_bitCount_0f7a4_46 ?_
  refine lv_istore_n (lv' := [(0, .int (((((((x0 - (((Int32.toUInt32 x0) >>> ((Int32.toUInt32 1) &&& Int32.toUInt32 31)).toInt32 &&& 1431655765)) &&& 858993459) + (((Int32.toUInt32 (x0 - (((Int32.toUInt32 x0) >>> ((Int32.toUInt32 1) &&& Int32.toUInt32 31)).toInt32 &&& 1431655765))) >>> ((Int32.toUInt32 2) &&& Int32.toUInt32 31)).toInt32 &&& 858993459)) + ((Int32.toUInt32 (((x0 - (((Int32.toUInt32 x0) >>> ((Int32.toUInt32 1) &&& Int32.toUInt32 31)).toInt32 &&& 1431655765)) &&& 858993459) + (((Int32.toUInt32 (x0 - (((Int32.toUInt32 x0) >>> ((Int32.toUInt32 1) &&& Int32.toUInt32 31)).toInt32 &&& 1431655765))) >>> ((Int32.toUInt32 2) &&& Int32.toUInt32 31)).toInt32 &&& 858993459))) >>> ((Int32.toUInt32 4) &&& Int32.toUInt32 31)).toInt32) &&& 252645135) + ((Int32.toUInt32 (((((x0 - (((Int32.toUInt32 x0) >>> ((Int32.toUInt32 1) &&& Int32.toUInt32 31)).toInt32 &&& 1431655765)) &&& 858993459) + (((Int32.toUInt32 (x0 - (((Int32.toUInt32 x0) >>> ((Int32.toUInt32 1) &&& Int32.toUInt32 31)).toInt32 &&& 1431655765))) >>> ((Int32.toUInt32 2) &&& Int32.toUInt32 31)).toInt32 &&& 858993459)) + ((Int32.toUInt32 (((x0 - (((Int32.toUInt32 x0) >>> ((Int32.toUInt32 1) &&& Int32.toUInt32 31)).toInt32 &&& 1431655765)) &&& 858993459) + (((Int32.toUInt32 (x0 - (((Int32.toUInt32 x0) >>> ((Int32.toUInt32 1) &&& Int32.toUInt32 31)).toInt32 &&& 1431655765))) >>> ((Int32.toUInt32 2) &&& Int32.toUInt32 31)).toInt32 &&& 858993459))) >>> ((Int32.toUInt32 4) &&& Int32.toUInt32 31)).toInt32) &&& 252645135)) >>> ((Int32.toUInt32 8) &&& Int32.toUInt32 31)).toInt32) + ((Int32.toUInt32 ((((((x0 - (((Int32.toUInt32 x0) >>> ((Int32.toUInt32 1) &&& Int32.toUInt32 31)).toInt32 &&& 1431655765)) &&& 858993459) + (((Int32.toUInt32 (x0 - (((Int32.toUInt32 x0) >>> ((Int32.toUInt32 1) &&& Int32.toUInt32 31)).toInt32 &&& 1431655765))) >>> ((Int32.toUInt32 2) &&& Int32.toUInt32 31)).toInt32 &&& 858993459)) + ((Int32.toUInt32 (((x0 - (((Int32.toUInt32 x0) >>> ((Int32.toUInt32 1) &&& Int32.toUInt32 31)).toInt32 &&& 1431655765)) &&& 858993459) + (((Int32.toUInt32 (x0 - (((Int32.toUInt32 x0) >>> ((Int32.toUInt32 1) &&& Int32.toUInt32 31)).toInt32 &&& 1431655765))) >>> ((Int32.toUInt32 2) &&& Int32.toUInt32 31)).toInt32 &&& 858993459))) >>> ((Int32.toUInt32 4) &&& Int32.toUInt32 31)).toInt32) &&& 252645135) + ((Int32.toUInt32 (((((x0 - (((Int32.toUInt32 x0) >>> ((Int32.toUInt32 1) &&& Int32.toUInt32 31)).toInt32 &&& 1431655765)) &&& 858993459) + (((Int32.toUInt32 (x0 - (((Int32.toUInt32 x0) >>> ((Int32.toUInt32 1) &&& Int32.toUInt32 31)).toInt32 &&& 1431655765))) >>> ((Int32.toUInt32 2) &&& Int32.toUInt32 31)).toInt32 &&& 858993459)) + ((Int32.toUInt32 (((x0 - (((Int32.toUInt32 x0) >>> ((Int32.toUInt32 1) &&& Int32.toUInt32 31)).toInt32 &&& 1431655765)) &&& 858993459) + (((Int32.toUInt32 (x0 - (((Int32.toUInt32 x0) >>> ((Int32.toUInt32 1) &&& Int32.toUInt32 31)).toInt32 &&& 1431655765))) >>> ((Int32.toUInt32 2) &&& Int32.toUInt32 31)).toInt32 &&& 858993459))) >>> ((Int32.toUInt32 4) &&& Int32.toUInt32 31)).toInt32) &&& 252645135)) >>> ((Int32.toUInt32 8) &&& Int32.toUInt32 31)).toInt32)) >>> ((Int32.toUInt32 16) &&& Int32.toUInt32 31)).toInt32))]) hx hb dJ6_bitCount_0f7a4_47 rfl hl (by decide) rfl (fun ls hl => ?_)
  refine lv_iload_n hx hb dJ6_bitCount_0f7a4_48 rfl (lv_at hl 0 rfl) ?_
  refine lv_bipush (v := 63) hx hb dJ6_bitCount_0f7a4_49 (by decide) ?_
  refine lv_iand hx hb dJ6_bitCount_0f7a4_51 ?_
  exact rd_i F hf hS dJ6_bitCount_0f7a4_52
def X5_collect_L22 : Nat → SPar → STrn → Int32 → Option (STrn)
  | 0, _, _, _ => none
  | fu + 1, K2, K_22, x2_22 => (if (K2.2.1 0) ≤ x2_22 then some K_22 else ((X1_membersOf K2 x2_22).bind fun u_6 => (if u_6 = 0 then X5_collect_L22 fu K2 K_22 (x2_22 + 1) else ((X1_yesVoters K2).bind fun u_9 => ((X1_seatsIn K2 (u_6 &&& u_9)).bind fun u_11 => ((X1_seatsIn K2 u_6).bind fun u_13 => (bnd ((rput 12 K_22.1 (K_22.2 0) (2 * ((u_13 - u_11) - u_11))), K_22.2) fun M_15 => (bnd (M_15.1, (up M_15.2 0 ((M_15.2 0) + 1))) fun M_17 => X5_collect_L22 fu K2 M_17 (x2_22 + 1)))))))))
def X5_collect (K : STrn) (K2 : SPar) : Option (STrn) := (bnd (K.1, (up K.2 1 ((2 * (K2.2.1 4)) - (K2.2.1 3)))) fun M_1 => (bnd (M_1.1, (up M_1.2 0 0)) fun M_3 => ((X5_collect_L22 FUEL K2 M_3 0).bind fun u_19 => some u_19)))
abbrev rm_X5_collect : Room := { frames := 2, cells := 0, slots := 0, locals := 44 }
set_option maxHeartbeats 4000000 in
set_option maxRecDepth 100000 in
theorem c_X5_collect (l : Launch) (D : va_G) (cI cP : ClassId) (a a2 : Nat → Nat) (K : STrn) (K2 : SPar) (z : STrn) (hf : X5_collect K K2  = some z) : MWv l yX5_collect cX5_collect 6 none rm_X5_collect D cI cP [.ref (a 0), .ref (a2 0)] (wTrn cI a K ++ wPar cI a2 K2) (wTrn cI a z ++ wPar cI a2 K2) := by
  refine MWv.of (by decide +kernel) (Nat.le_of_ble_eq_true rfl) ?_
  intro p e s m args below meth c ls A F hX hP hD hA hS hl
  have F : Fx p s m args meth c RX5 cX5_collect 6 none := F
  have hx := F.1
  have hb := F.2.1
  have hown := F.2.2.2.1
  have hts := F.2.2.2.2.1
  have hl : lv_has ls 6 [(0, .ref (a 0)), (1, .ref (a2 0))] := hl
  have hP : va_P D vwCl ((bTrn cI a K ++ bPar cI a2 K2)).flatten s.heap := by rw [List.flatten_append]; exact hP
  have hD : va_D A ((bTrn cI a K ++ bPar cI a2 K2)).flatten := by rw [List.flatten_append]; exact hD
  unfold X5_collect at hf
  refine lv_aload_n hx hb dX5_collect_0 rfl (lv_at hl 0 rfl) ?_
  refine lv_iconst (v := 2) hx hb dX5_collect_1 (by decide) ?_
  refine lv_aload_n hx hb dX5_collect_2 rfl (lv_at hl 1 rfl) ?_
  refine gX5_20 F hX (vP_r hP) 0 rfl (v := .int (K2.2.1 4)) rfl dX5_collect_3 ?_
  refine lv_imul hx hb dX5_collect_6 ?_
  refine lv_aload_n hx hb dX5_collect_7 rfl (lv_at hl 1 rfl) ?_
  refine gX5_26 F hX (vP_r hP) 0 rfl (v := .int (K2.2.1 3)) rfl dX5_collect_8 ?_
  refine lv_isub hx hb dX5_collect_11 ?_
  refine pX5_29 F hX hP hD hS 0 rfl (Nat.le_of_ble_eq_true rfl) dX5_collect_12 (fun H locs hP hD hS => ?_)
  obtain ⟨M_1, e_2, hf⟩ := bnd_e hf
  have hP : va_P D vwCl ((bTrn cI a M_1 ++ bPar cI a2 K2)).flatten H := by rw [e_2]; exact hP
  have hD : va_D A ((bTrn cI a M_1 ++ bPar cI a2 K2)).flatten := by rw [e_2]; exact hD
  clear e_2
  refine lv_aload_n hx hb dX5_collect_15 rfl (lv_at hl 0 rfl) ?_
  refine lv_iconst (v := 0) hx hb dX5_collect_16 (by decide) ?_
  refine pX5_32 F hX hP hD hS 0 rfl (Nat.le_of_ble_eq_true rfl) dX5_collect_17 (fun H locs hP hD hS => ?_)
  obtain ⟨M_3, e_4, hf⟩ := bnd_e hf
  have hP : va_P D vwCl ((bTrn cI a M_3 ++ bPar cI a2 K2)).flatten H := by rw [e_4]; exact hP
  have hD : va_D A ((bTrn cI a M_3 ++ bPar cI a2 K2)).flatten := by rw [e_4]; exact hD
  clear e_4
  refine lv_iconst (v := 0) hx hb dX5_collect_20 (by decide) ?_
  refine lv_istore_n (lv' := [(2, .int 0), (0, .ref (a 0)), (1, .ref (a2 0))]) hx hb dX5_collect_21 rfl hl (by decide) rfl (fun ls hl => ?_)
  have hL_22 : ∀ (fu : Nat) (K2 : SPar) (K_22 : STrn) (x2_22 : Int32) (v : STrn) (H : Heap) (locs : List Loc) (ls : Array Slot), X5_collect_L22 fu K2 K_22 x2_22 = some v → va_P D vwCl ((bTrn cI a K_22 ++ bPar cI a2 K2)).flatten H → va_D A ((bTrn cI a K_22 ++ bPar cI a2 K2)).flatten → va_S A s.heap H locs → lv_has ls 6 [(0, .ref (a 0)), (1, .ref (a2 0)), (2, .int x2_22)] → (∀ (H : Heap) (locs : List Loc) (ls : Array Slot), va_P D vwCl ((bTrn cI a v ++ bPar cI a2 K2)).flatten H → va_D A ((bTrn cI a v ++ bPar cI a2 K2)).flatten → va_S A s.heap H locs → lv_has ls 6 [] → W p l e rm_X5_collect s m args below meth c H locs 0 0 (QWv D below args s A (wTrn cI a z ++ wPar cI a2 K2)) (F0 m 96 ls [])) → W p l e rm_X5_collect s m args below meth c H locs 0 0 (QWv D below args s A (wTrn cI a z ++ wPar cI a2 K2)) (F0 m 22 ls []) := by
    intro fu
    induction fu with
    | zero =>
      intro K2 K_22 x2_22 v H locs ls hf
      exact absurd hf (by simp [X5_collect_L22])
    | succ fu ih =>
      intro K2 K_22 x2_22 v _ _ ls hf hP hD hS hl hk
      rw [X5_collect_L22] at hf
      refine lv_iload_n hx hb dX5_collect_22 rfl (lv_at hl 2 rfl) ?_
      refine lv_aload_n hx hb dX5_collect_23 rfl (lv_at hl 1 rfl) ?_
      refine gX5_35 F hX (vP_r hP) 0 rfl (v := .int (K2.2.1 0)) rfl dX5_collect_24 ?_
      refine lv_icmp_ge (tgt := 96) hx hb dX5_collect_27 (by decide) (fun c_5 => ?_) (fun c_5 => ?_)
      · replace hf := (if_pos c_5).symm.trans hf
        obtain rfl := Option.some.inj hf
        exact hk _ _ ls hP hD hS (lv_sub hl [] rfl)
      · replace hf := (if_neg c_5).symm.trans hf
        refine lv_aload_n hx hb dX5_collect_30 rfl (lv_at hl 1 rfl) ?_
        refine lv_iload_n hx hb dX5_collect_31 rfl (lv_at hl 2 rfl) ?_
        obtain ⟨u_6, h_7, hf⟩ := ob hf
        refine k_rd (runVN F hX wdX5_38 (rm := rm_X1_membersOf) (As := [.int x2_22]) (rest := []) ⟨rfl, rfl⟩ ⟨Nat.le_of_ble_eq_true rfl, Nat.le_of_ble_eq_true rfl⟩ hl.1 rfl rfl (Nat.le_of_ble_eq_true rfl) dX5_collect_32 ⟨Nat.zero_le _, Nat.zero_le _⟩) (c_X1_membersOf l D cI cP a2 K2 x2_22 _ h_7) hX (va_recv hX.1 (vP_r hP) (ci := 1) (q0 := 0) rfl rfl) (vP_r hP) hP hS hA (fun H locs hP hS => ?_)
        refine lv_istore_n (lv' := [(3, .int u_6), (0, .ref (a 0)), (1, .ref (a2 0)), (2, .int x2_22)]) hx hb dX5_collect_35 rfl hl (by decide) rfl (fun ls hl => ?_)
        refine lv_iload_n hx hb dX5_collect_36 rfl (lv_at hl 0 rfl) ?_
        refine lv_if_eq (tgt := 90) hx hb dX5_collect_37 (by decide) (fun c_8 => ?_) (fun c_8 => ?_)
        · replace hf := (if_pos c_8).symm.trans hf
          refine lv_iinc (v := (x2_22 + 1)) (lv' := [(2, .int (x2_22 + 1)), (3, .int u_6), (0, .ref (a 0)), (1, .ref (a2 0))]) hx hb dX5_collect_90 hl (k := 3) rfl (by rfl) (by decide) rfl (fun ls hl => ?_)
          refine lv_goto (tgt := 22) hx hb dX5_collect_93 (by decide) ?_
          exact ih K2 K_22 (x2_22 + 1) _ _ _ ls hf hP hD hS (lv_sub hl [2, 3, 0] rfl) hk
        · replace hf := (if_neg c_8).symm.trans hf
          refine lv_aload_n hx hb dX5_collect_40 rfl (lv_at hl 2 rfl) ?_
          refine lv_iload_n hx hb dX5_collect_41 rfl (lv_at hl 0 rfl) ?_
          refine lv_aload_n hx hb dX5_collect_42 rfl (lv_at hl 2 rfl) ?_
          obtain ⟨u_9, h_10, hf⟩ := ob hf
          refine k_rd (runVN F hX wdX5_42 (rm := rm_X1_yesVoters) (As := []) (rest := [.int u_6, .ref (a2 0)]) ⟨rfl, rfl⟩ ⟨Nat.le_of_ble_eq_true rfl, Nat.le_of_ble_eq_true rfl⟩ hl.1 rfl rfl (Nat.le_of_ble_eq_true rfl) dX5_collect_43 ⟨Nat.zero_le _, Nat.zero_le _⟩) (c_X1_yesVoters l D cI cP a2 K2  _ h_10) hX (va_recv hX.1 (vP_r hP) (ci := 1) (q0 := 0) rfl rfl) (vP_r hP) hP hS hA (fun H locs hP hS => ?_)
          refine lv_iand hx hb dX5_collect_46 ?_
          obtain ⟨u_11, h_12, hf⟩ := ob hf
          refine k_rd (runVN F hX wdX5_46 (rm := rm_X1_seatsIn) (As := [.int (u_6 &&& u_9)]) (rest := []) ⟨rfl, rfl⟩ ⟨Nat.le_of_ble_eq_true rfl, Nat.le_of_ble_eq_true rfl⟩ hl.1 rfl rfl (Nat.le_of_ble_eq_true rfl) dX5_collect_47 ⟨Nat.zero_le _, Nat.zero_le _⟩) (c_X1_seatsIn l D cI cP a2 K2 (u_6 &&& u_9) _ h_12) hX (va_recv hX.1 (vP_r hP) (ci := 1) (q0 := 0) rfl rfl) (vP_r hP) hP hS hA (fun H locs hP hS => ?_)
          refine lv_istore (lv' := [(4, .int u_11), (3, .int u_6), (0, .ref (a 0)), (1, .ref (a2 0)), (2, .int x2_22)]) hx hb dX5_collect_50 hl (by decide) rfl (fun ls hl => ?_)
          refine lv_aload_n hx hb dX5_collect_52 rfl (lv_at hl 3 rfl) ?_
          refine lv_iload_n hx hb dX5_collect_53 rfl (lv_at hl 1 rfl) ?_
          obtain ⟨u_13, h_14, hf⟩ := ob hf
          refine k_rd (runVN F hX wdX5_46 (rm := rm_X1_seatsIn) (As := [.int u_6]) (rest := []) ⟨rfl, rfl⟩ ⟨Nat.le_of_ble_eq_true rfl, Nat.le_of_ble_eq_true rfl⟩ hl.1 rfl rfl (Nat.le_of_ble_eq_true rfl) dX5_collect_54 ⟨Nat.zero_le _, Nat.zero_le _⟩) (c_X1_seatsIn l D cI cP a2 K2 u_6 _ h_14) hX (va_recv hX.1 (vP_r hP) (ci := 1) (q0 := 0) rfl rfl) (vP_r hP) hP hS hA (fun H locs hP hS => ?_)
          refine lv_istore (lv' := [(5, .int u_13), (4, .int u_11), (3, .int u_6), (0, .ref (a 0)), (1, .ref (a2 0)), (2, .int x2_22)]) hx hb dX5_collect_57 hl (by decide) rfl (fun ls hl => ?_)
          refine lv_aload_n hx hb dX5_collect_59 rfl (lv_at hl 3 rfl) ?_
          refine gX5_14 F hX hP 0 rfl (v := .ref (a 1)) rfl dX5_collect_60 ?_
          refine lv_aload_n hx hb dX5_collect_63 rfl (lv_at hl 3 rfl) ?_
          refine gX5_32 F hX hP 0 rfl (v := .int (K_22.2 0)) rfl dX5_collect_64 ?_
          refine lv_iconst (v := 2) hx hb dX5_collect_67 (by decide) ?_
          refine lv_iload hx hb dX5_collect_68 (lv_at hl 0 rfl) ?_
          refine lv_iload hx hb dX5_collect_70 (lv_at hl 1 rfl) ?_
          refine lv_isub hx hb dX5_collect_72 ?_
          refine lv_iload hx hb dX5_collect_73 (lv_at hl 1 rfl) ?_
          refine lv_isub hx hb dX5_collect_75 ?_
          refine lv_imul hx hb dX5_collect_76 ?_
          refine k_wv (runVN F hX wdX5_49 (rm := rm_X2_put) (As := [.int (K_22.2 0), .int (2 * ((u_13 - u_11) - u_11))]) (rest := []) ⟨rfl, rfl⟩ ⟨Nat.le_of_ble_eq_true rfl, Nat.le_of_ble_eq_true rfl⟩ hl.1 rfl rfl (Nat.le_of_ble_eq_true rfl) dX5_collect_77 ⟨Nat.zero_le _, Nat.zero_le _⟩) (k_rput l D cI cP (a 1) (a 2) 12 (by decide) K_22.1 (K_22.2 0) (2 * ((u_13 - u_11) - u_11))) hX (va_recv hX.1 (va_blk (Bs := (bTrn cI a K_22 ++ bPar cI a2 K2)) hP 1 rfl) (ci := 2) (q0 := 0) rfl rfl) (Cut.one (Bs := (bTrn cI a K_22 ++ bPar cI a2 K2)) (k := 1) rfl rfl) hP hD hS hA (fun H locs hP hD hS => ?_)
          obtain ⟨M_15, e_16, hf⟩ := bnd_e hf
          have hP : va_P D vwCl ((bTrn cI a M_15 ++ bPar cI a2 K2)).flatten H := by rw [e_16]; exact hP
          have hD : va_D A ((bTrn cI a M_15 ++ bPar cI a2 K2)).flatten := by rw [e_16]; exact hD
          clear e_16
          refine lv_aload_n hx hb dX5_collect_80 rfl (lv_at hl 3 rfl) ?_
          refine lv_dup hx hb dX5_collect_81 rfl ?_
          refine gX5_32 F hX hP 0 rfl (v := .int (M_15.2 0)) rfl dX5_collect_82 ?_
          refine lv_iconst (v := 1) hx hb dX5_collect_85 (by decide) ?_
          refine lv_iadd hx hb dX5_collect_86 ?_
          refine pX5_32 F hX hP hD hS 0 rfl (Nat.le_of_ble_eq_true rfl) dX5_collect_87 (fun H locs hP hD hS => ?_)
          obtain ⟨M_17, e_18, hf⟩ := bnd_e hf
          have hP : va_P D vwCl ((bTrn cI a M_17 ++ bPar cI a2 K2)).flatten H := by rw [e_18]; exact hP
          have hD : va_D A ((bTrn cI a M_17 ++ bPar cI a2 K2)).flatten := by rw [e_18]; exact hD
          clear e_18
          refine lv_iinc (v := (x2_22 + 1)) (lv' := [(2, .int (x2_22 + 1)), (5, .int u_13), (4, .int u_11), (3, .int u_6), (0, .ref (a 0)), (1, .ref (a2 0))]) hx hb dX5_collect_90 hl (k := 5) rfl (by rfl) (by decide) rfl (fun ls hl => ?_)
          refine lv_goto (tgt := 22) hx hb dX5_collect_93 (by decide) ?_
          exact ih K2 M_17 (x2_22 + 1) _ _ _ ls hf hP hD hS (lv_sub hl [4, 5, 0] rfl) hk
  obtain ⟨u_19, h_20, hf⟩ := ob hf
  refine hL_22 FUEL K2 M_3 0 u_19 _ _ ls h_20 hP hD hS (lv_sub hl [1, 2, 0] rfl) (fun H locs ls hP hD hS hl => ?_)
  clear hL_22
  obtain rfl := (Option.some.inj hf)
  rw [List.flatten_append] at hP
  exact wr_v F hP hS dX5_collect_96
def X5_bestBut_L4 : Nat → STrn → Int32 → Int32 → Int32 → Option (Int32)
  | 0, _, _, _, _ => none
  | fu + 1, K_4, x1_4, x2_4, x3_4 => (if (K_4.2 0) ≤ x3_4 then some x2_4 else (if (X6_isMember x1_4 x3_4) = 0 then (if x2_4 = (-1) then X5_bestBut_L4 fu K_4 x1_4 x3_4 (x3_4 + 1) else (if (rget 12 K_4.1 x3_4) ≤ (rget 12 K_4.1 x2_4) then X5_bestBut_L4 fu K_4 x1_4 x2_4 (x3_4 + 1) else X5_bestBut_L4 fu K_4 x1_4 x3_4 (x3_4 + 1))) else X5_bestBut_L4 fu K_4 x1_4 x2_4 (x3_4 + 1)))
def X5_bestBut (K : STrn) (x1 : Int32) : Option (Int32) := ((X5_bestBut_L4 FUEL K x1 (-1) 0).bind fun u_5 => some u_5)
abbrev rm_X5_bestBut : Room := { frames := 1, cells := 0, slots := 0, locals := 21 }
set_option maxHeartbeats 4000000 in
set_option maxRecDepth 100000 in
theorem c_X5_bestBut (l : Launch) (D : va_G) (cI cP : ClassId) (a : Nat → Nat) (K : STrn) (x1 : Int32) (z : Int32) (hf : X5_bestBut K x1 = some z) : MRd l yX5_bestBut cX5_bestBut 4 (some .int) rm_X5_bestBut D cI cP [.ref (a 0), .int x1] (wTrn cI a K) z := by
  refine MRd.of (by decide +kernel) (Nat.le_of_ble_eq_true rfl) ?_
  intro p e s m args below meth c ls F hX hP hS hl
  have F : Fx p s m args meth c RX5 cX5_bestBut 4 (some .int) := F
  have hx := F.1
  have hb := F.2.1
  have hown := F.2.2.2.1
  have hts := F.2.2.2.2.1
  have hA : ∀ q : Nat, s.heap.size ≤ q → (fun q : Nat => s.heap.size ≤ q) q := fun _ h => h
  have hl : lv_has ls 4 [(0, .ref (a 0)), (1, .int x1)] := hl
  unfold X5_bestBut at hf
  refine lv_iconst (v := (-1)) hx hb dX5_bestBut_0 (by decide) ?_
  refine lv_istore_n (lv' := [(2, .int (-1)), (0, .ref (a 0)), (1, .int x1)]) hx hb dX5_bestBut_1 rfl hl (by decide) rfl (fun ls hl => ?_)
  refine lv_iconst (v := 0) hx hb dX5_bestBut_2 (by decide) ?_
  refine lv_istore_n (lv' := [(3, .int 0), (2, .int (-1)), (0, .ref (a 0)), (1, .int x1)]) hx hb dX5_bestBut_3 rfl hl (by decide) rfl (fun ls hl => ?_)
  have hL_4 : ∀ (fu : Nat) (K_4 : STrn) (x1_4 : Int32) (x2_4 : Int32) (x3_4 : Int32) (v : Int32) (H : Heap) (locs : List Loc) (ls : Array Slot), X5_bestBut_L4 fu K_4 x1_4 x2_4 x3_4 = some v → va_P D vwCl (wTrn cI a K_4) H → va_S (fun q : Nat => s.heap.size ≤ q) s.heap H locs → lv_has ls 4 [(0, .ref (a 0)), (1, .int x1_4), (2, .int x2_4), (3, .int x3_4)] → (∀ (H : Heap) (locs : List Loc) (ls : Array Slot), va_P D vwCl (wTrn cI a K_4) H → va_S (fun q : Nat => s.heap.size ≤ q) s.heap H locs → lv_has ls 4 [(2, .int v)] → W p l e rm_X5_bestBut s m args below meth c H locs 0 0 (QR below args s z) (F0 m 55 ls [])) → W p l e rm_X5_bestBut s m args below meth c H locs 0 0 (QR below args s z) (F0 m 4 ls []) := by
    intro fu
    induction fu with
    | zero =>
      intro K_4 x1_4 x2_4 x3_4 v H locs ls hf
      exact absurd hf (by simp [X5_bestBut_L4])
    | succ fu ih =>
      intro K_4 x1_4 x2_4 x3_4 v _ _ ls hf hP hS hl hk
      rw [X5_bestBut_L4] at hf
      refine lv_iload_n hx hb dX5_bestBut_4 rfl (lv_at hl 3 rfl) ?_
      refine lv_aload_n hx hb dX5_bestBut_5 rfl (lv_at hl 0 rfl) ?_
      refine gX5_32 F hX hP 0 rfl (v := .int (K_4.2 0)) rfl dX5_bestBut_6 ?_
      refine lv_icmp_ge (tgt := 55) hx hb dX5_bestBut_9 (by decide) (fun c_1 => ?_) (fun c_1 => ?_)
      · replace hf := (if_pos c_1).symm.trans hf
        obtain rfl := Option.some.inj hf
        exact hk _ _ ls hP hS (lv_sub hl [2] rfl)
      · replace hf := (if_neg c_1).symm.trans hf
        refine lv_iload_n hx hb dX5_bestBut_12 rfl (lv_at hl 1 rfl) ?_
        refine lv_iload_n hx hb dX5_bestBut_13 rfl (lv_at hl 3 rfl) ?_
        refine k_rd (runSN F hX wdX5_59 (rm := rm_X6_isMember) (As := [.int x1_4, .int x3_4]) (rest := []) ⟨rfl, rfl⟩ ⟨Nat.le_of_ble_eq_true rfl, Nat.le_of_ble_eq_true rfl⟩ hl.1 rfl rfl (Nat.le_of_ble_eq_true rfl) dX5_bestBut_14 ⟨Nat.zero_le _, Nat.zero_le _⟩) (c_X6_isMember l D cI cP x1_4 x3_4 _ rfl) hX trivial vP_nil hP hS hA (fun H locs hP hS => ?_)
        refine lv_if_eq (tgt := 23) hx hb dX5_bestBut_17 (by decide) (fun c_2 => ?_) (fun c_2 => ?_)
        · replace hf := (if_pos c_2).symm.trans hf
          refine lv_iload_n hx hb dX5_bestBut_23 rfl (lv_at hl 2 rfl) ?_
          refine lv_iconst (v := (-1)) hx hb dX5_bestBut_24 (by decide) ?_
          refine lv_icmp_eq (tgt := 47) hx hb dX5_bestBut_25 (by decide) (fun c_3 => ?_) (fun c_3 => ?_)
          · replace hf := (if_pos c_3).symm.trans hf
            refine lv_iload_n hx hb dX5_bestBut_47 rfl (lv_at hl 3 rfl) ?_
            refine lv_istore_n (lv' := [(2, .int x3_4), (0, .ref (a 0)), (1, .int x1_4), (3, .int x3_4)]) hx hb dX5_bestBut_48 rfl hl (by decide) rfl (fun ls hl => ?_)
            refine lv_iinc (v := (x3_4 + 1)) (lv' := [(3, .int (x3_4 + 1)), (2, .int x3_4), (0, .ref (a 0)), (1, .int x1_4)]) hx hb dX5_bestBut_49 hl (k := 3) rfl (by rfl) (by decide) rfl (fun ls hl => ?_)
            refine lv_goto (tgt := 4) hx hb dX5_bestBut_52 (by decide) ?_
            exact ih K_4 x1_4 x3_4 (x3_4 + 1) _ _ _ ls hf hP hS (lv_sub hl [2, 3, 1, 0] rfl) hk
          · replace hf := (if_neg c_3).symm.trans hf
            refine lv_aload_n hx hb dX5_bestBut_28 rfl (lv_at hl 0 rfl) ?_
            refine gX5_14 F hX hP 0 rfl (v := .ref (a 1)) rfl dX5_bestBut_29 ?_
            refine lv_iload_n hx hb dX5_bestBut_32 rfl (lv_at hl 3 rfl) ?_
            refine k_rd (runVN F hX wdX5_56 (rm := rm_X2_get) (As := [.int x3_4]) (rest := []) ⟨rfl, rfl⟩ ⟨Nat.le_of_ble_eq_true rfl, Nat.le_of_ble_eq_true rfl⟩ hl.1 rfl rfl (Nat.le_of_ble_eq_true rfl) dX5_bestBut_33 ⟨Nat.zero_le _, Nat.zero_le _⟩) (k_rget l D cI cP (a 1) (a 2) 12 (by decide) K_4.1 x3_4) hX (va_recv hX.1 (va_blk (Bs := (bTrn cI a K_4)) hP 1 rfl) (ci := 2) (q0 := 0) rfl rfl) (va_blk (Bs := (bTrn cI a K_4)) hP 1 rfl) hP hS hA (fun H locs hP hS => ?_)
            refine lv_aload_n hx hb dX5_bestBut_36 rfl (lv_at hl 0 rfl) ?_
            refine gX5_14 F hX hP 0 rfl (v := .ref (a 1)) rfl dX5_bestBut_37 ?_
            refine lv_iload_n hx hb dX5_bestBut_40 rfl (lv_at hl 2 rfl) ?_
            refine k_rd (runVN F hX wdX5_56 (rm := rm_X2_get) (As := [.int x2_4]) (rest := [.int (rget 12 K_4.1 x3_4)]) ⟨rfl, rfl⟩ ⟨Nat.le_of_ble_eq_true rfl, Nat.le_of_ble_eq_true rfl⟩ hl.1 rfl rfl (Nat.le_of_ble_eq_true rfl) dX5_bestBut_41 ⟨Nat.zero_le _, Nat.zero_le _⟩) (k_rget l D cI cP (a 1) (a 2) 12 (by decide) K_4.1 x2_4) hX (va_recv hX.1 (va_blk (Bs := (bTrn cI a K_4)) hP 1 rfl) (ci := 2) (q0 := 0) rfl rfl) (va_blk (Bs := (bTrn cI a K_4)) hP 1 rfl) hP hS hA (fun H locs hP hS => ?_)
            refine lv_icmp_le (tgt := 49) hx hb dX5_bestBut_44 (by decide) (fun c_4 => ?_) (fun c_4 => ?_)
            · replace hf := (if_pos c_4).symm.trans hf
              refine lv_iinc (v := (x3_4 + 1)) (lv' := [(3, .int (x3_4 + 1)), (0, .ref (a 0)), (1, .int x1_4), (2, .int x2_4)]) hx hb dX5_bestBut_49 hl (k := 3) rfl (by rfl) (by decide) rfl (fun ls hl => ?_)
              refine lv_goto (tgt := 4) hx hb dX5_bestBut_52 (by decide) ?_
              exact ih K_4 x1_4 x2_4 (x3_4 + 1) _ _ _ ls hf hP hS (lv_sub hl [1, 2, 3, 0] rfl) hk
            · replace hf := (if_neg c_4).symm.trans hf
              refine lv_iload_n hx hb dX5_bestBut_47 rfl (lv_at hl 3 rfl) ?_
              refine lv_istore_n (lv' := [(2, .int x3_4), (0, .ref (a 0)), (1, .int x1_4), (3, .int x3_4)]) hx hb dX5_bestBut_48 rfl hl (by decide) rfl (fun ls hl => ?_)
              refine lv_iinc (v := (x3_4 + 1)) (lv' := [(3, .int (x3_4 + 1)), (2, .int x3_4), (0, .ref (a 0)), (1, .int x1_4)]) hx hb dX5_bestBut_49 hl (k := 3) rfl (by rfl) (by decide) rfl (fun ls hl => ?_)
              refine lv_goto (tgt := 4) hx hb dX5_bestBut_52 (by decide) ?_
              exact ih K_4 x1_4 x3_4 (x3_4 + 1) _ _ _ ls hf hP hS (lv_sub hl [2, 3, 1, 0] rfl) hk
        · replace hf := (if_neg c_2).symm.trans hf
          refine lv_goto (tgt := 49) hx hb dX5_bestBut_20 (by decide) ?_
          refine lv_iinc (v := (x3_4 + 1)) (lv' := [(3, .int (x3_4 + 1)), (0, .ref (a 0)), (1, .int x1_4), (2, .int x2_4)]) hx hb dX5_bestBut_49 hl (k := 3) rfl (by rfl) (by decide) rfl (fun ls hl => ?_)
          refine lv_goto (tgt := 4) hx hb dX5_bestBut_52 (by decide) ?_
          exact ih K_4 x1_4 x2_4 (x3_4 + 1) _ _ _ ls hf hP hS (lv_sub hl [1, 2, 3, 0] rfl) hk
  obtain ⟨u_5, h_6, hf⟩ := ob hf
  refine hL_4 FUEL K x1 (-1) 0 u_5 _ _ ls h_6 hP hS (lv_sub hl [2, 3, 1, 0] rfl) (fun H locs ls hP hS hl => ?_)
  clear hL_4
  refine lv_iload_n hx hb dX5_bestBut_55 rfl (lv_at hl 0 rfl) ?_
  exact rd_i F (Option.some.inj hf) hS dX5_bestBut_56
def X5_fewestByTheBest_L18 : Nat → STrn → Int32 → Int32 → Int32 → Option (Int32)
  | 0, _, _, _, _ => none
  | fu + 1, K_18, x1_18, x2_18, x3_18 => (if (K_18.2 0) < x3_18 then some (-1) else ((X5_bestBut K_18 x2_18).bind fun u_3 => (if (x1_18 + (rget 12 K_18.1 u_3)) ≤ 0 then X5_fewestByTheBest_L18 fu K_18 (x1_18 + (rget 12 K_18.1 u_3)) (x2_18 ||| (1 <<< (u_3 &&& 31))) (x3_18 + 1) else some x3_18)))
def X5_fewestByTheBest (K : STrn) : Option (Int32) := (if (K.2 1) ≤ 0 then (X5_fewestByTheBest_L18 FUEL K (K.2 1) 0 1) else some 0)
abbrev rm_X5_fewestByTheBest : Room := { frames := 2, cells := 0, slots := 0, locals := 44 }
set_option maxHeartbeats 4000000 in
set_option maxRecDepth 100000 in
theorem c_X5_fewestByTheBest (l : Launch) (D : va_G) (cI cP : ClassId) (a : Nat → Nat) (K : STrn) (z : Int32) (hf : X5_fewestByTheBest K  = some z) : MRd l yX5_fewestByTheBest cX5_fewestByTheBest 5 (some .int) rm_X5_fewestByTheBest D cI cP [.ref (a 0)] (wTrn cI a K) z := by
  refine MRd.of (by decide +kernel) (Nat.le_of_ble_eq_true rfl) ?_
  intro p e s m args below meth c ls F hX hP hS hl
  have F : Fx p s m args meth c RX5 cX5_fewestByTheBest 5 (some .int) := F
  have hx := F.1
  have hb := F.2.1
  have hown := F.2.2.2.1
  have hts := F.2.2.2.2.1
  have hA : ∀ q : Nat, s.heap.size ≤ q → (fun q : Nat => s.heap.size ≤ q) q := fun _ h => h
  have hl : lv_has ls 5 [(0, .ref (a 0))] := hl
  unfold X5_fewestByTheBest at hf
  refine lv_aload_n hx hb dX5_fewestByTheBest_0 rfl (lv_at hl 0 rfl) ?_
  refine gX5_29 F hX hP 0 rfl (v := .int (K.2 1)) rfl dX5_fewestByTheBest_1 ?_
  refine lv_if_le (tgt := 9) hx hb dX5_fewestByTheBest_4 (by decide) (fun c_1 => ?_) (fun c_1 => ?_)
  · replace hf := (if_pos c_1).symm.trans hf
    refine lv_aload_n hx hb dX5_fewestByTheBest_9 rfl (lv_at hl 0 rfl) ?_
    refine gX5_29 F hX hP 0 rfl (v := .int (K.2 1)) rfl dX5_fewestByTheBest_10 ?_
    refine lv_istore_n (lv' := [(1, .int (K.2 1)), (0, .ref (a 0))]) hx hb dX5_fewestByTheBest_13 rfl hl (by decide) rfl (fun ls hl => ?_)
    refine lv_iconst (v := 0) hx hb dX5_fewestByTheBest_14 (by decide) ?_
    refine lv_istore_n (lv' := [(2, .int 0), (1, .int (K.2 1)), (0, .ref (a 0))]) hx hb dX5_fewestByTheBest_15 rfl hl (by decide) rfl (fun ls hl => ?_)
    refine lv_iconst (v := 1) hx hb dX5_fewestByTheBest_16 (by decide) ?_
    refine lv_istore_n (lv' := [(3, .int 1), (2, .int 0), (1, .int (K.2 1)), (0, .ref (a 0))]) hx hb dX5_fewestByTheBest_17 rfl hl (by decide) rfl (fun ls hl => ?_)
    have hL_18 : ∀ (fu : Nat) (K_18 : STrn) (x1_18 : Int32) (x2_18 : Int32) (x3_18 : Int32) (H : Heap) (locs : List Loc) (ls : Array Slot), X5_fewestByTheBest_L18 fu K_18 x1_18 x2_18 x3_18 = some z → va_P D vwCl (wTrn cI a K_18) H → va_S (fun q : Nat => s.heap.size ≤ q) s.heap H locs → lv_has ls 5 [(0, .ref (a 0)), (1, .int x1_18), (2, .int x2_18), (3, .int x3_18)] → W p l e rm_X5_fewestByTheBest s m args below meth c H locs 0 0 (QR below args s z) (F0 m 18 ls []) := by
      intro fu
      induction fu with
      | zero =>
        intro K_18 x1_18 x2_18 x3_18 H locs ls hf
        exact absurd hf (by simp [X5_fewestByTheBest_L18])
      | succ fu ih =>
        intro K_18 x1_18 x2_18 x3_18 _ _ ls hf hP hS hl
        rw [X5_fewestByTheBest_L18] at hf
        refine lv_iload_n hx hb dX5_fewestByTheBest_18 rfl (lv_at hl 3 rfl) ?_
        refine lv_aload_n hx hb dX5_fewestByTheBest_19 rfl (lv_at hl 0 rfl) ?_
        refine gX5_32 F hX hP 0 rfl (v := .int (K_18.2 0)) rfl dX5_fewestByTheBest_20 ?_
        refine lv_icmp_gt (tgt := 64) hx hb dX5_fewestByTheBest_23 (by decide) (fun c_2 => ?_) (fun c_2 => ?_)
        · replace hf := (if_pos c_2).symm.trans hf
          refine lv_iconst (v := (-1)) hx hb dX5_fewestByTheBest_64 (by decide) ?_
          exact rd_i F (Option.some.inj hf) hS dX5_fewestByTheBest_65
        · replace hf := (if_neg c_2).symm.trans hf
          refine lv_aload_n hx hb dX5_fewestByTheBest_26 rfl (lv_at hl 0 rfl) ?_
          refine lv_iload_n hx hb dX5_fewestByTheBest_27 rfl (lv_at hl 2 rfl) ?_
          obtain ⟨u_3, h_4, hf⟩ := ob hf
          refine k_rd (runV F wdX5_53 (rm := rm_X5_bestBut) (As := [.int x2_18]) (rest := []) ⟨rfl, rfl⟩ ⟨Nat.le_of_ble_eq_true rfl, Nat.le_of_ble_eq_true rfl⟩ hl.1 rfl rfl (Nat.le_of_ble_eq_true rfl) dX5_fewestByTheBest_28 ⟨Nat.zero_le _, Nat.zero_le _⟩) (c_X5_bestBut l D cI cP a K_18 x2_18 _ h_4) hX (va_recv hX.1 hP (ci := 5) (q0 := 0) rfl rfl) hP hP hS hA (fun H locs hP hS => ?_)
          refine lv_istore (lv' := [(4, .int u_3), (0, .ref (a 0)), (1, .int x1_18), (2, .int x2_18), (3, .int x3_18)]) hx hb dX5_fewestByTheBest_31 hl (by decide) rfl (fun ls hl => ?_)
          refine lv_iload_n hx hb dX5_fewestByTheBest_33 rfl (lv_at hl 3 rfl) ?_
          refine lv_iconst (v := 1) hx hb dX5_fewestByTheBest_34 (by decide) ?_
          refine lv_iload hx hb dX5_fewestByTheBest_35 (lv_at hl 0 rfl) ?_
          refine lv_ishl hx hb dX5_fewestByTheBest_37 ?_
          refine lv_ior hx hb dX5_fewestByTheBest_38 ?_
          refine lv_istore_n (lv' := [(2, .int (x2_18 ||| (1 <<< (u_3 &&& 31)))), (4, .int u_3), (0, .ref (a 0)), (1, .int x1_18), (3, .int x3_18)]) hx hb dX5_fewestByTheBest_39 rfl hl (by decide) rfl (fun ls hl => ?_)
          refine lv_iload_n hx hb dX5_fewestByTheBest_40 rfl (lv_at hl 3 rfl) ?_
          refine lv_aload_n hx hb dX5_fewestByTheBest_41 rfl (lv_at hl 2 rfl) ?_
          refine gX5_14 F hX hP 0 rfl (v := .ref (a 1)) rfl dX5_fewestByTheBest_42 ?_
          refine lv_iload hx hb dX5_fewestByTheBest_45 (lv_at hl 1 rfl) ?_
          refine k_rd (runVN F hX wdX5_56 (rm := rm_X2_get) (As := [.int u_3]) (rest := [.int x1_18]) ⟨rfl, rfl⟩ ⟨Nat.le_of_ble_eq_true rfl, Nat.le_of_ble_eq_true rfl⟩ hl.1 rfl rfl (Nat.le_of_ble_eq_true rfl) dX5_fewestByTheBest_47 ⟨Nat.zero_le _, Nat.zero_le _⟩) (k_rget l D cI cP (a 1) (a 2) 12 (by decide) K_18.1 u_3) hX (va_recv hX.1 (va_blk (Bs := (bTrn cI a K_18)) hP 1 rfl) (ci := 2) (q0 := 0) rfl rfl) (va_blk (Bs := (bTrn cI a K_18)) hP 1 rfl) hP hS hA (fun H locs hP hS => ?_)
          refine lv_iadd hx hb dX5_fewestByTheBest_50 ?_
          refine lv_istore_n (lv' := [(1, .int (x1_18 + (rget 12 K_18.1 u_3))), (2, .int (x2_18 ||| (1 <<< (u_3 &&& 31)))), (4, .int u_3), (0, .ref (a 0)), (3, .int x3_18)]) hx hb dX5_fewestByTheBest_51 rfl hl (by decide) rfl (fun ls hl => ?_)
          refine lv_iload_n hx hb dX5_fewestByTheBest_52 rfl (lv_at hl 0 rfl) ?_
          refine lv_if_le (tgt := 58) hx hb dX5_fewestByTheBest_53 (by decide) (fun c_5 => ?_) (fun c_5 => ?_)
          · replace hf := (if_pos c_5).symm.trans hf
            refine lv_iinc (v := (x3_18 + 1)) (lv' := [(3, .int (x3_18 + 1)), (1, .int (x1_18 + (rget 12 K_18.1 u_3))), (2, .int (x2_18 ||| (1 <<< (u_3 &&& 31)))), (4, .int u_3), (0, .ref (a 0))]) hx hb dX5_fewestByTheBest_58 hl (k := 4) rfl (by rfl) (by decide) rfl (fun ls hl => ?_)
            refine lv_goto (tgt := 18) hx hb dX5_fewestByTheBest_61 (by decide) ?_
            exact ih K_18 (x1_18 + (rget 12 K_18.1 u_3)) (x2_18 ||| (1 <<< (u_3 &&& 31))) (x3_18 + 1) _ _ ls hf hP hS (lv_sub hl [4, 1, 2, 0] rfl)
          · replace hf := (if_neg c_5).symm.trans hf
            refine lv_iload_n hx hb dX5_fewestByTheBest_56 rfl (lv_at hl 4 rfl) ?_
            exact rd_i F (Option.some.inj hf) hS dX5_fewestByTheBest_57
    exact hL_18 FUEL K (K.2 1) 0 1 _ _ ls hf hP hS (lv_sub hl [3, 2, 1, 0] rfl)
  · replace hf := (if_neg c_1).symm.trans hf
    refine lv_iconst (v := 0) hx hb dX5_fewestByTheBest_7 (by decide) ?_
    exact rd_i F (Option.some.inj hf) hS dX5_fewestByTheBest_8
def X5_stepTo_L4 : Nat → STrn → Int32 → Int32 → Int32 → Option (Int32)
  | 0, _, _, _, _ => none
  | fu + 1, K_4, x1_4, x2_4, x3_4 => (if (K_4.2 0) ≤ x3_4 then some x2_4 else (if (X6_isMember x1_4 x3_4) = 0 then X5_stepTo_L4 fu K_4 x1_4 (x2_4 - (rget 12 K_4.1 x3_4)) (x3_4 + 1) else some (x2_4 + (rget 12 K_4.1 x3_4))))
def X5_stepTo (K : STrn) (x1 : Int32) : Option (Int32) := (X5_stepTo_L4 FUEL K x1 0 0)
abbrev rm_X5_stepTo : Room := { frames := 1, cells := 0, slots := 0, locals := 21 }
set_option maxHeartbeats 4000000 in
set_option maxRecDepth 100000 in
theorem c_X5_stepTo (l : Launch) (D : va_G) (cI cP : ClassId) (a : Nat → Nat) (K : STrn) (x1 : Int32) (z : Int32) (hf : X5_stepTo K x1 = some z) : MRd l yX5_stepTo cX5_stepTo 4 (some .int) rm_X5_stepTo D cI cP [.ref (a 0), .int x1] (wTrn cI a K) z := by
  refine MRd.of (by decide +kernel) (Nat.le_of_ble_eq_true rfl) ?_
  intro p e s m args below meth c ls F hX hP hS hl
  have F : Fx p s m args meth c RX5 cX5_stepTo 4 (some .int) := F
  have hx := F.1
  have hb := F.2.1
  have hown := F.2.2.2.1
  have hts := F.2.2.2.2.1
  have hA : ∀ q : Nat, s.heap.size ≤ q → (fun q : Nat => s.heap.size ≤ q) q := fun _ h => h
  have hl : lv_has ls 4 [(0, .ref (a 0)), (1, .int x1)] := hl
  unfold X5_stepTo at hf
  refine lv_iconst (v := 0) hx hb dX5_stepTo_0 (by decide) ?_
  refine lv_istore_n (lv' := [(2, .int 0), (0, .ref (a 0)), (1, .int x1)]) hx hb dX5_stepTo_1 rfl hl (by decide) rfl (fun ls hl => ?_)
  refine lv_iconst (v := 0) hx hb dX5_stepTo_2 (by decide) ?_
  refine lv_istore_n (lv' := [(3, .int 0), (2, .int 0), (0, .ref (a 0)), (1, .int x1)]) hx hb dX5_stepTo_3 rfl hl (by decide) rfl (fun ls hl => ?_)
  have hL_4 : ∀ (fu : Nat) (K_4 : STrn) (x1_4 : Int32) (x2_4 : Int32) (x3_4 : Int32) (H : Heap) (locs : List Loc) (ls : Array Slot), X5_stepTo_L4 fu K_4 x1_4 x2_4 x3_4 = some z → va_P D vwCl (wTrn cI a K_4) H → va_S (fun q : Nat => s.heap.size ≤ q) s.heap H locs → lv_has ls 4 [(0, .ref (a 0)), (1, .int x1_4), (2, .int x2_4), (3, .int x3_4)] → W p l e rm_X5_stepTo s m args below meth c H locs 0 0 (QR below args s z) (F0 m 4 ls []) := by
    intro fu
    induction fu with
    | zero =>
      intro K_4 x1_4 x2_4 x3_4 H locs ls hf
      exact absurd hf (by simp [X5_stepTo_L4])
    | succ fu ih =>
      intro K_4 x1_4 x2_4 x3_4 _ _ ls hf hP hS hl
      rw [X5_stepTo_L4] at hf
      refine lv_iload_n hx hb dX5_stepTo_4 rfl (lv_at hl 3 rfl) ?_
      refine lv_aload_n hx hb dX5_stepTo_5 rfl (lv_at hl 0 rfl) ?_
      refine gX5_32 F hX hP 0 rfl (v := .int (K_4.2 0)) rfl dX5_stepTo_6 ?_
      refine lv_icmp_ge (tgt := 48) hx hb dX5_stepTo_9 (by decide) (fun c_1 => ?_) (fun c_1 => ?_)
      · replace hf := (if_pos c_1).symm.trans hf
        refine lv_iload_n hx hb dX5_stepTo_48 rfl (lv_at hl 2 rfl) ?_
        exact rd_i F (Option.some.inj hf) hS dX5_stepTo_49
      · replace hf := (if_neg c_1).symm.trans hf
        refine lv_iload_n hx hb dX5_stepTo_12 rfl (lv_at hl 1 rfl) ?_
        refine lv_iload_n hx hb dX5_stepTo_13 rfl (lv_at hl 3 rfl) ?_
        refine k_rd (runSN F hX wdX5_59 (rm := rm_X6_isMember) (As := [.int x1_4, .int x3_4]) (rest := []) ⟨rfl, rfl⟩ ⟨Nat.le_of_ble_eq_true rfl, Nat.le_of_ble_eq_true rfl⟩ hl.1 rfl rfl (Nat.le_of_ble_eq_true rfl) dX5_stepTo_14 ⟨Nat.zero_le _, Nat.zero_le _⟩) (c_X6_isMember l D cI cP x1_4 x3_4 _ rfl) hX trivial vP_nil hP hS hA (fun H locs hP hS => ?_)
        refine lv_if_eq (tgt := 31) hx hb dX5_stepTo_17 (by decide) (fun c_2 => ?_) (fun c_2 => ?_)
        · replace hf := (if_pos c_2).symm.trans hf
          refine lv_iload_n hx hb dX5_stepTo_31 rfl (lv_at hl 2 rfl) ?_
          refine lv_aload_n hx hb dX5_stepTo_32 rfl (lv_at hl 0 rfl) ?_
          refine gX5_14 F hX hP 0 rfl (v := .ref (a 1)) rfl dX5_stepTo_33 ?_
          refine lv_iload_n hx hb dX5_stepTo_36 rfl (lv_at hl 3 rfl) ?_
          refine k_rd (runVN F hX wdX5_56 (rm := rm_X2_get) (As := [.int x3_4]) (rest := [.int x2_4]) ⟨rfl, rfl⟩ ⟨Nat.le_of_ble_eq_true rfl, Nat.le_of_ble_eq_true rfl⟩ hl.1 rfl rfl (Nat.le_of_ble_eq_true rfl) dX5_stepTo_37 ⟨Nat.zero_le _, Nat.zero_le _⟩) (k_rget l D cI cP (a 1) (a 2) 12 (by decide) K_4.1 x3_4) hX (va_recv hX.1 (va_blk (Bs := (bTrn cI a K_4)) hP 1 rfl) (ci := 2) (q0 := 0) rfl rfl) (va_blk (Bs := (bTrn cI a K_4)) hP 1 rfl) hP hS hA (fun H locs hP hS => ?_)
          refine lv_isub hx hb dX5_stepTo_40 ?_
          refine lv_istore_n (lv' := [(2, .int (x2_4 - (rget 12 K_4.1 x3_4))), (0, .ref (a 0)), (1, .int x1_4), (3, .int x3_4)]) hx hb dX5_stepTo_41 rfl hl (by decide) rfl (fun ls hl => ?_)
          refine lv_iinc (v := (x3_4 + 1)) (lv' := [(3, .int (x3_4 + 1)), (2, .int (x2_4 - (rget 12 K_4.1 x3_4))), (0, .ref (a 0)), (1, .int x1_4)]) hx hb dX5_stepTo_42 hl (k := 3) rfl (by rfl) (by decide) rfl (fun ls hl => ?_)
          refine lv_goto (tgt := 4) hx hb dX5_stepTo_45 (by decide) ?_
          exact ih K_4 x1_4 (x2_4 - (rget 12 K_4.1 x3_4)) (x3_4 + 1) _ _ ls hf hP hS (lv_sub hl [2, 3, 1, 0] rfl)
        · replace hf := (if_neg c_2).symm.trans hf
          refine lv_iload_n hx hb dX5_stepTo_20 rfl (lv_at hl 2 rfl) ?_
          refine lv_aload_n hx hb dX5_stepTo_21 rfl (lv_at hl 0 rfl) ?_
          refine gX5_14 F hX hP 0 rfl (v := .ref (a 1)) rfl dX5_stepTo_22 ?_
          refine lv_iload_n hx hb dX5_stepTo_25 rfl (lv_at hl 3 rfl) ?_
          refine k_rd (runVN F hX wdX5_56 (rm := rm_X2_get) (As := [.int x3_4]) (rest := [.int x2_4]) ⟨rfl, rfl⟩ ⟨Nat.le_of_ble_eq_true rfl, Nat.le_of_ble_eq_true rfl⟩ hl.1 rfl rfl (Nat.le_of_ble_eq_true rfl) dX5_stepTo_26 ⟨Nat.zero_le _, Nat.zero_le _⟩) (k_rget l D cI cP (a 1) (a 2) 12 (by decide) K_4.1 x3_4) hX (va_recv hX.1 (va_blk (Bs := (bTrn cI a K_4)) hP 1 rfl) (ci := 2) (q0 := 0) rfl rfl) (va_blk (Bs := (bTrn cI a K_4)) hP 1 rfl) hP hS hA (fun H locs hP hS => ?_)
          refine lv_iadd hx hb dX5_stepTo_29 ?_
          exact rd_i F (Option.some.inj hf) hS dX5_stepTo_30
  exact hL_4 FUEL K x1 0 0 _ _ ls hf hP hS (lv_sub hl [2, 3, 1, 0] rfl)
def X5_fewestOfAllSets_L18 : Nat → STrn → Int32 → Int32 → Int32 → Option (Int32)
  | 0, _, _, _, _ => none
  | fu + 1, K_18, x1_18, x2_18, x3_18 => (if (1 <<< ((K_18.2 0) &&& 31)) ≤ x3_18 then some x1_18 else ((X5_stepTo K_18 x3_18).bind fun u_3 => (if (x2_18 + u_3) ≤ 0 then X5_fewestOfAllSets_L18 fu K_18 x1_18 (x2_18 + u_3) (x3_18 + 1) else (if x1_18 = (-1) then X5_fewestOfAllSets_L18 fu K_18 (J6_bitCount_0f7a4 x3_18) (x2_18 + u_3) (x3_18 + 1) else (if x1_18 ≤ (J6_bitCount_0f7a4 x3_18) then X5_fewestOfAllSets_L18 fu K_18 x1_18 (x2_18 + u_3) (x3_18 + 1) else X5_fewestOfAllSets_L18 fu K_18 (J6_bitCount_0f7a4 x3_18) (x2_18 + u_3) (x3_18 + 1))))))
def X5_fewestOfAllSets (K : STrn) : Option (Int32) := (if (K.2 1) ≤ 0 then ((X5_fewestOfAllSets_L18 FUEL K (-1) (K.2 1) 1).bind fun u_8 => some u_8) else some 0)
abbrev rm_X5_fewestOfAllSets : Room := { frames := 2, cells := 0, slots := 0, locals := 44 }
set_option maxHeartbeats 4000000 in
set_option maxRecDepth 100000 in
theorem c_X5_fewestOfAllSets (l : Launch) (D : va_G) (cI cP : ClassId) (a : Nat → Nat) (K : STrn) (z : Int32) (hf : X5_fewestOfAllSets K  = some z) : MRd l yX5_fewestOfAllSets cX5_fewestOfAllSets 5 (some .int) rm_X5_fewestOfAllSets D cI cP [.ref (a 0)] (wTrn cI a K) z := by
  refine MRd.of (by decide +kernel) (Nat.le_of_ble_eq_true rfl) ?_
  intro p e s m args below meth c ls F hX hP hS hl
  have F : Fx p s m args meth c RX5 cX5_fewestOfAllSets 5 (some .int) := F
  have hx := F.1
  have hb := F.2.1
  have hown := F.2.2.2.1
  have hts := F.2.2.2.2.1
  have hA : ∀ q : Nat, s.heap.size ≤ q → (fun q : Nat => s.heap.size ≤ q) q := fun _ h => h
  have hl : lv_has ls 5 [(0, .ref (a 0))] := hl
  unfold X5_fewestOfAllSets at hf
  refine lv_aload_n hx hb dX5_fewestOfAllSets_0 rfl (lv_at hl 0 rfl) ?_
  refine gX5_29 F hX hP 0 rfl (v := .int (K.2 1)) rfl dX5_fewestOfAllSets_1 ?_
  refine lv_if_le (tgt := 9) hx hb dX5_fewestOfAllSets_4 (by decide) (fun c_1 => ?_) (fun c_1 => ?_)
  · replace hf := (if_pos c_1).symm.trans hf
    refine lv_iconst (v := (-1)) hx hb dX5_fewestOfAllSets_9 (by decide) ?_
    refine lv_istore_n (lv' := [(1, .int (-1)), (0, .ref (a 0))]) hx hb dX5_fewestOfAllSets_10 rfl hl (by decide) rfl (fun ls hl => ?_)
    refine lv_aload_n hx hb dX5_fewestOfAllSets_11 rfl (lv_at hl 1 rfl) ?_
    refine gX5_29 F hX hP 0 rfl (v := .int (K.2 1)) rfl dX5_fewestOfAllSets_12 ?_
    refine lv_istore_n (lv' := [(2, .int (K.2 1)), (1, .int (-1)), (0, .ref (a 0))]) hx hb dX5_fewestOfAllSets_15 rfl hl (by decide) rfl (fun ls hl => ?_)
    refine lv_iconst (v := 1) hx hb dX5_fewestOfAllSets_16 (by decide) ?_
    refine lv_istore_n (lv' := [(3, .int 1), (2, .int (K.2 1)), (1, .int (-1)), (0, .ref (a 0))]) hx hb dX5_fewestOfAllSets_17 rfl hl (by decide) rfl (fun ls hl => ?_)
    have hL_18 : ∀ (fu : Nat) (K_18 : STrn) (x1_18 : Int32) (x2_18 : Int32) (x3_18 : Int32) (v : Int32) (H : Heap) (locs : List Loc) (ls : Array Slot), X5_fewestOfAllSets_L18 fu K_18 x1_18 x2_18 x3_18 = some v → va_P D vwCl (wTrn cI a K_18) H → va_S (fun q : Nat => s.heap.size ≤ q) s.heap H locs → lv_has ls 5 [(0, .ref (a 0)), (1, .int x1_18), (2, .int x2_18), (3, .int x3_18)] → (∀ (H : Heap) (locs : List Loc) (ls : Array Slot), va_P D vwCl (wTrn cI a K_18) H → va_S (fun q : Nat => s.heap.size ≤ q) s.heap H locs → lv_has ls 5 [(1, .int v)] → W p l e rm_X5_fewestOfAllSets s m args below meth c H locs 0 0 (QR below args s z) (F0 m 66 ls [])) → W p l e rm_X5_fewestOfAllSets s m args below meth c H locs 0 0 (QR below args s z) (F0 m 18 ls []) := by
      intro fu
      induction fu with
      | zero =>
        intro K_18 x1_18 x2_18 x3_18 v H locs ls hf
        exact absurd hf (by simp [X5_fewestOfAllSets_L18])
      | succ fu ih =>
        intro K_18 x1_18 x2_18 x3_18 v _ _ ls hf hP hS hl hk
        rw [X5_fewestOfAllSets_L18] at hf
        refine lv_iload_n hx hb dX5_fewestOfAllSets_18 rfl (lv_at hl 3 rfl) ?_
        refine lv_iconst (v := 1) hx hb dX5_fewestOfAllSets_19 (by decide) ?_
        refine lv_aload_n hx hb dX5_fewestOfAllSets_20 rfl (lv_at hl 0 rfl) ?_
        refine gX5_32 F hX hP 0 rfl (v := .int (K_18.2 0)) rfl dX5_fewestOfAllSets_21 ?_
        refine lv_ishl hx hb dX5_fewestOfAllSets_24 ?_
        refine lv_icmp_ge (tgt := 66) hx hb dX5_fewestOfAllSets_25 (by decide) (fun c_2 => ?_) (fun c_2 => ?_)
        · replace hf := (if_pos c_2).symm.trans hf
          obtain rfl := Option.some.inj hf
          exact hk _ _ ls hP hS (lv_sub hl [1] rfl)
        · replace hf := (if_neg c_2).symm.trans hf
          refine lv_iload_n hx hb dX5_fewestOfAllSets_28 rfl (lv_at hl 2 rfl) ?_
          refine lv_aload_n hx hb dX5_fewestOfAllSets_29 rfl (lv_at hl 0 rfl) ?_
          refine lv_iload_n hx hb dX5_fewestOfAllSets_30 rfl (lv_at hl 3 rfl) ?_
          obtain ⟨u_3, h_4, hf⟩ := ob hf
          refine k_rd (runV F wdX5_63 (rm := rm_X5_stepTo) (As := [.int x3_18]) (rest := [.int x2_18]) ⟨rfl, rfl⟩ ⟨Nat.le_of_ble_eq_true rfl, Nat.le_of_ble_eq_true rfl⟩ hl.1 rfl rfl (Nat.le_of_ble_eq_true rfl) dX5_fewestOfAllSets_31 ⟨Nat.zero_le _, Nat.zero_le _⟩) (c_X5_stepTo l D cI cP a K_18 x3_18 _ h_4) hX (va_recv hX.1 hP (ci := 5) (q0 := 0) rfl rfl) hP hP hS hA (fun H locs hP hS => ?_)
          refine lv_iadd hx hb dX5_fewestOfAllSets_34 ?_
          refine lv_istore_n (lv' := [(2, .int (x2_18 + u_3)), (0, .ref (a 0)), (1, .int x1_18), (3, .int x3_18)]) hx hb dX5_fewestOfAllSets_35 rfl hl (by decide) rfl (fun ls hl => ?_)
          refine lv_iload_n hx hb dX5_fewestOfAllSets_36 rfl (lv_at hl 3 rfl) ?_
          refine k_rd (runS F wdX5_66 (rm := rm_J6_bitCount_0f7a4) (As := [.int x3_18]) (rest := []) ⟨rfl, rfl⟩ ⟨Nat.le_of_ble_eq_true rfl, Nat.le_of_ble_eq_true rfl⟩ hl.1 rfl rfl (Nat.le_of_ble_eq_true rfl) dX5_fewestOfAllSets_37 ⟨Nat.zero_le _, Nat.zero_le _⟩) (c_J6_bitCount_0f7a4 l D cI cP x3_18 _ rfl) hX trivial vP_nil hP hS hA (fun H locs hP hS => ?_)
          refine lv_istore (lv' := [(4, .int (J6_bitCount_0f7a4 x3_18)), (2, .int (x2_18 + u_3)), (0, .ref (a 0)), (1, .int x1_18), (3, .int x3_18)]) hx hb dX5_fewestOfAllSets_40 hl (by decide) rfl (fun ls hl => ?_)
          refine lv_iload_n hx hb dX5_fewestOfAllSets_42 rfl (lv_at hl 1 rfl) ?_
          refine lv_if_le (tgt := 60) hx hb dX5_fewestOfAllSets_43 (by decide) (fun c_5 => ?_) (fun c_5 => ?_)
          · replace hf := (if_pos c_5).symm.trans hf
            refine lv_iinc (v := (x3_18 + 1)) (lv' := [(3, .int (x3_18 + 1)), (4, .int (J6_bitCount_0f7a4 x3_18)), (2, .int (x2_18 + u_3)), (0, .ref (a 0)), (1, .int x1_18)]) hx hb dX5_fewestOfAllSets_60 hl (k := 4) rfl (by rfl) (by decide) rfl (fun ls hl => ?_)
            refine lv_goto (tgt := 18) hx hb dX5_fewestOfAllSets_63 (by decide) ?_
            exact ih K_18 x1_18 (x2_18 + u_3) (x3_18 + 1) _ _ _ ls hf hP hS (lv_sub hl [3, 4, 2, 0] rfl) hk
          · replace hf := (if_neg c_5).symm.trans hf
            refine lv_iload_n hx hb dX5_fewestOfAllSets_46 rfl (lv_at hl 3 rfl) ?_
            refine lv_iconst (v := (-1)) hx hb dX5_fewestOfAllSets_47 (by decide) ?_
            refine lv_icmp_eq (tgt := 57) hx hb dX5_fewestOfAllSets_48 (by decide) (fun c_6 => ?_) (fun c_6 => ?_)
            · replace hf := (if_pos c_6).symm.trans hf
              refine lv_iload hx hb dX5_fewestOfAllSets_57 (lv_at hl 0 rfl) ?_
              refine lv_istore_n (lv' := [(1, .int (J6_bitCount_0f7a4 x3_18)), (4, .int (J6_bitCount_0f7a4 x3_18)), (2, .int (x2_18 + u_3)), (0, .ref (a 0)), (3, .int x3_18)]) hx hb dX5_fewestOfAllSets_59 rfl hl (by decide) rfl (fun ls hl => ?_)
              refine lv_iinc (v := (x3_18 + 1)) (lv' := [(3, .int (x3_18 + 1)), (1, .int (J6_bitCount_0f7a4 x3_18)), (4, .int (J6_bitCount_0f7a4 x3_18)), (2, .int (x2_18 + u_3)), (0, .ref (a 0))]) hx hb dX5_fewestOfAllSets_60 hl (k := 4) rfl (by rfl) (by decide) rfl (fun ls hl => ?_)
              refine lv_goto (tgt := 18) hx hb dX5_fewestOfAllSets_63 (by decide) ?_
              exact ih K_18 (J6_bitCount_0f7a4 x3_18) (x2_18 + u_3) (x3_18 + 1) _ _ _ ls hf hP hS (lv_sub hl [4, 1, 3, 0] rfl) hk
            · replace hf := (if_neg c_6).symm.trans hf
              refine lv_iload hx hb dX5_fewestOfAllSets_51 (lv_at hl 0 rfl) ?_
              refine lv_iload_n hx hb dX5_fewestOfAllSets_53 rfl (lv_at hl 3 rfl) ?_
              refine lv_icmp_ge (tgt := 60) hx hb dX5_fewestOfAllSets_54 (by decide) (fun c_7 => ?_) (fun c_7 => ?_)
              · replace hf := (if_pos c_7).symm.trans hf
                refine lv_iinc (v := (x3_18 + 1)) (lv' := [(3, .int (x3_18 + 1)), (4, .int (J6_bitCount_0f7a4 x3_18)), (2, .int (x2_18 + u_3)), (0, .ref (a 0)), (1, .int x1_18)]) hx hb dX5_fewestOfAllSets_60 hl (k := 4) rfl (by rfl) (by decide) rfl (fun ls hl => ?_)
                refine lv_goto (tgt := 18) hx hb dX5_fewestOfAllSets_63 (by decide) ?_
                exact ih K_18 x1_18 (x2_18 + u_3) (x3_18 + 1) _ _ _ ls hf hP hS (lv_sub hl [3, 4, 2, 0] rfl) hk
              · replace hf := (if_neg c_7).symm.trans hf
                refine lv_iload hx hb dX5_fewestOfAllSets_57 (lv_at hl 0 rfl) ?_
                refine lv_istore_n (lv' := [(1, .int (J6_bitCount_0f7a4 x3_18)), (4, .int (J6_bitCount_0f7a4 x3_18)), (2, .int (x2_18 + u_3)), (0, .ref (a 0)), (3, .int x3_18)]) hx hb dX5_fewestOfAllSets_59 rfl hl (by decide) rfl (fun ls hl => ?_)
                refine lv_iinc (v := (x3_18 + 1)) (lv' := [(3, .int (x3_18 + 1)), (1, .int (J6_bitCount_0f7a4 x3_18)), (4, .int (J6_bitCount_0f7a4 x3_18)), (2, .int (x2_18 + u_3)), (0, .ref (a 0))]) hx hb dX5_fewestOfAllSets_60 hl (k := 4) rfl (by rfl) (by decide) rfl (fun ls hl => ?_)
                refine lv_goto (tgt := 18) hx hb dX5_fewestOfAllSets_63 (by decide) ?_
                exact ih K_18 (J6_bitCount_0f7a4 x3_18) (x2_18 + u_3) (x3_18 + 1) _ _ _ ls hf hP hS (lv_sub hl [4, 1, 3, 0] rfl) hk
    obtain ⟨u_8, h_9, hf⟩ := ob hf
    refine hL_18 FUEL K (-1) (K.2 1) 1 u_8 _ _ ls h_9 hP hS (lv_sub hl [3, 2, 1, 0] rfl) (fun H locs ls hP hS hl => ?_)
    clear hL_18
    refine lv_iload_n hx hb dX5_fewestOfAllSets_66 rfl (lv_at hl 0 rfl) ?_
    exact rd_i F (Option.some.inj hf) hS dX5_fewestOfAllSets_67
  · replace hf := (if_neg c_1).symm.trans hf
    refine lv_iconst (v := 0) hx hb dX5_fewestOfAllSets_7 (by decide) ?_
    exact rd_i F (Option.some.inj hf) hS dX5_fewestOfAllSets_8
