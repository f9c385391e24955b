def X4_append (K : STxt) (x1 : Int32) : STxt × Int32 := (if (K.2.2 0) < 60 then (bnd ((rput 60 K.1 (K.2.2 0) x1), K.2.1, K.2.2) fun M_2 => (bnd (M_2.1, M_2.2.1, (up M_2.2.2 0 ((M_2.2.2 0) + 1))) fun M_4 => (M_4, 1))) else (K, 0))
abbrev rm_X4_append : Room := { frames := 1, cells := 0, slots := 0, locals := 22 }
set_option maxHeartbeats 4000000 in
set_option maxRecDepth 100000 in
theorem c_X4_append (l : Launch) (D : va_G) (cI cP : ClassId) (a : Nat → Nat) (K : STxt) (x1 : Int32) (z : STxt × Int32) (hf : X4_append K x1 = z) : MWi l yX4_append cX4_append 2 (some .boolean) rm_X4_append D cI cP [.ref (a 0), .int x1] (wTxt cI a K) (wTxt cI a z.1) z.2 := by
  refine MWi.of (by decide +kernel) (Nat.le_of_ble_eq_true rfl) ?_
  intro p e s m args below meth c ls A F hX hP hD hA hS hl
  have F : Fx p s m args meth c RX4 cX4_append 2 (some .boolean) := F
  have hx := F.1
  have hb := F.2.1
  have hown := F.2.2.2.1
  have hts := F.2.2.2.2.1
  have hl : lv_has ls 2 [(0, .ref (a 0)), (1, .int x1)] := hl
  unfold X4_append at hf
  refine lv_aload_n hx hb dX4_append_0 rfl (lv_at hl 0 rfl) ?_
  refine gX4_23 F hX hP 0 rfl (v := .int (K.2.2 0)) rfl dX4_append_1 ?_
  refine lv_bipush (v := 60) hx hb dX4_append_4 (by decide) ?_
  refine lv_icmp_lt (tgt := 11) hx hb dX4_append_6 (by decide) (fun c_1 => ?_) (fun c_1 => ?_)
  · replace hf := (if_pos c_1).symm.trans hf
    refine lv_aload_n hx hb dX4_append_11 rfl (lv_at hl 0 rfl) ?_
    refine gX4_14 F hX hP 0 rfl (v := .ref (a 1)) rfl dX4_append_12 ?_
    refine lv_aload_n hx hb dX4_append_15 rfl (lv_at hl 0 rfl) ?_
    refine gX4_23 F hX hP 0 rfl (v := .int (K.2.2 0)) rfl dX4_append_16 ?_
    refine lv_iload_n hx hb dX4_append_19 rfl (lv_at hl 1 rfl) ?_
    refine k_wv (runVN F hX wdX4_27 (rm := rm_X2_put) (As := [.int (K.2.2 0), .int x1]) (rest := []) ⟨rfl, rfl⟩ ⟨Nat.le_of_ble_eq_true rfl, Nat.le_of_ble_eq_true rfl⟩ hl.1 rfl rfl (Nat.le_of_ble_eq_true rfl) dX4_append_20 ⟨Nat.zero_le _, Nat.zero_le _⟩) (k_rput l D cI cP (a 1) (a 2) 60 (by decide) K.1 (K.2.2 0) x1) hX (va_recv hX.1 (va_blk (Bs := (bTxt cI a K)) hP 1 rfl) (ci := 2) (q0 := 0) rfl rfl) (Cut.one (Bs := (bTxt cI a K)) (k := 1) rfl rfl) hP hD hS hA (fun H locs hP hD hS => ?_)
    obtain ⟨M_2, e_3, hf⟩ := bnd_e hf
    have hP : va_P D vwCl (wTxt cI a M_2) H := by rw [e_3]; exact hP
    have hD : va_D A (wTxt cI a M_2) := by rw [e_3]; exact hD
    clear e_3
    refine lv_aload_n hx hb dX4_append_23 rfl (lv_at hl 0 rfl) ?_
    refine lv_dup hx hb dX4_append_24 rfl ?_
    refine gX4_23 F hX hP 0 rfl (v := .int (M_2.2.2 0)) rfl dX4_append_25 ?_
    refine lv_iconst (v := 1) hx hb dX4_append_28 (by decide) ?_
    refine lv_iadd hx hb dX4_append_29 ?_
    refine pX4_23 F hX hP hD hS 0 rfl (Nat.le_of_ble_eq_true rfl) dX4_append_30 (fun H locs hP hD hS => ?_)
    obtain ⟨M_4, e_5, hf⟩ := bnd_e hf
    have hP : va_P D vwCl (wTxt cI a M_4) H := by rw [e_5]; exact hP
    have hD : va_D A (wTxt cI a M_4) := by rw [e_5]; exact hD
    clear e_5
    refine lv_iconst (v := 1) hx hb dX4_append_33 (by decide) ?_
    obtain rfl := hf
    exact wr_z F (by decide) rfl hP hS dX4_append_34
  · replace hf := (if_neg c_1).symm.trans hf
    refine lv_iconst (v := 0) hx hb dX4_append_9 (by decide) ?_
    obtain rfl := hf
    exact wr_z F (by decide) rfl hP hS dX4_append_10
def X4_current (K : STxt) : Int32 := (if (K.2.2 0) ≤ (K.2.2 2) then 0 else (rget 60 K.1 (K.2.2 2)))
abbrev rm_X4_current : Room := { frames := 1, cells := 0, slots := 0, locals := 21 }
set_option maxHeartbeats 4000000 in
set_option maxRecDepth 100000 in
theorem c_X4_current (l : Launch) (D : va_G) (cI cP : ClassId) (a : Nat → Nat) (K : STxt) (z : Int32) (hf : X4_current K  = z) : MRd l yX4_current cX4_current 1 (some .int) rm_X4_current D cI cP [.ref (a 0)] (wTxt cI a K) z := by
  refine MRd.of (by decide +kernel) (Nat.le_of_ble_eq_true rfl) ?_
  intro p e s m args below meth c ls F hX hP hS hl
  have F : Fx p s m args meth c RX4 cX4_current 1 (some .int) := F
  have hx := F.1
  have hb := F.2.1
  have hown := F.2.2.2.1
  have hts := F.2.2.2.2.1
  have hA : ∀ q : Nat, s.heap.size ≤ q → (fun q : Nat => s.heap.size ≤ q) q := fun _ h => h
  have hl : lv_has ls 1 [(0, .ref (a 0))] := hl
  unfold X4_current at hf
  refine lv_aload_n hx hb dX4_current_0 rfl (lv_at hl 0 rfl) ?_
  refine gX4_31 F hX hP 0 rfl (v := .int (K.2.2 2)) rfl dX4_current_1 ?_
  refine lv_aload_n hx hb dX4_current_4 rfl (lv_at hl 0 rfl) ?_
  refine gX4_23 F hX hP 0 rfl (v := .int (K.2.2 0)) rfl dX4_current_5 ?_
  refine lv_icmp_ge (tgt := 25) hx hb dX4_current_8 (by decide) (fun c_1 => ?_) (fun c_1 => ?_)
  · replace hf := (if_pos c_1).symm.trans hf
    refine lv_iconst (v := 0) hx hb dX4_current_25 (by decide) ?_
    exact rd_i F hf hS dX4_current_26
  · replace hf := (if_neg c_1).symm.trans hf
    refine lv_aload_n hx hb dX4_current_11 rfl (lv_at hl 0 rfl) ?_
    refine gX4_14 F hX hP 0 rfl (v := .ref (a 1)) rfl dX4_current_12 ?_
    refine lv_aload_n hx hb dX4_current_15 rfl (lv_at hl 0 rfl) ?_
    refine gX4_31 F hX hP 0 rfl (v := .int (K.2.2 2)) rfl dX4_current_16 ?_
    refine k_rd (runVN F hX wdX4_34 (rm := rm_X2_get) (As := [.int (K.2.2 2)]) (rest := []) ⟨rfl, rfl⟩ ⟨Nat.le_of_ble_eq_true rfl, Nat.le_of_ble_eq_true rfl⟩ hl.1 rfl rfl (Nat.le_of_ble_eq_true rfl) dX4_current_19 ⟨Nat.zero_le _, Nat.zero_le _⟩) (k_rget l D cI cP (a 1) (a 2) 60 (by decide) K.1 (K.2.2 2)) hX (va_recv hX.1 (va_blk (Bs := (bTxt cI a K)) hP 1 rfl) (ci := 2) (q0 := 0) rfl rfl) (va_blk (Bs := (bTxt cI a K)) hP 1 rfl) hP hS hA (fun H locs hP hS => ?_)
    refine lv_goto (tgt := 26) hx hb dX4_current_22 (by decide) ?_
    exact rd_i F hf hS dX4_current_26
def X4_skip (K : STxt) (x1 : Int32) : STxt × Int32 := (if (X4_current K) = x1 then (bnd (K.1, K.2.1, (up K.2.2 2 ((K.2.2 2) + 1))) fun M_2 => (M_2, 1)) else (K, 0))
abbrev rm_X4_skip : Room := { frames := 2, cells := 0, slots := 0, locals := 41 }
set_option maxHeartbeats 4000000 in
set_option maxRecDepth 100000 in
theorem c_X4_skip (l : Launch) (D : va_G) (cI cP : ClassId) (a : Nat → Nat) (K : STxt) (x1 : Int32) (z : STxt × Int32) (hf : X4_skip K x1 = z) : MWi l yX4_skip cX4_skip 2 (some .boolean) rm_X4_skip D cI cP [.ref (a 0), .int x1] (wTxt cI a K) (wTxt cI a z.1) z.2 := by
  refine MWi.of (by decide +kernel) (Nat.le_of_ble_eq_true rfl) ?_
  intro p e s m args below meth c ls A F hX hP hD hA hS hl
  have F : Fx p s m args meth c RX4 cX4_skip 2 (some .boolean) := F
  have hx := F.1
  have hb := F.2.1
  have hown := F.2.2.2.1
  have hts := F.2.2.2.2.1
  have hl : lv_has ls 2 [(0, .ref (a 0)), (1, .int x1)] := hl
  unfold X4_skip at hf
  refine lv_aload_n hx hb dX4_skip_0 rfl (lv_at hl 0 rfl) ?_
  refine k_rd (runV F wdX4_38 (rm := rm_X4_current) (As := []) (rest := []) ⟨rfl, rfl⟩ ⟨Nat.le_of_ble_eq_true rfl, Nat.le_of_ble_eq_true rfl⟩ hl.1 rfl rfl (Nat.le_of_ble_eq_true rfl) dX4_skip_1 ⟨Nat.zero_le _, Nat.zero_le _⟩) (c_X4_current l D cI cP a K  _ rfl) hX (va_recv hX.1 hP (ci := 4) (q0 := 0) rfl rfl) hP hP hS hA (fun H locs hP hS => ?_)
  refine lv_iload_n hx hb dX4_skip_4 rfl (lv_at hl 1 rfl) ?_
  refine lv_icmp_eq (tgt := 10) hx hb dX4_skip_5 (by decide) (fun c_1 => ?_) (fun c_1 => ?_)
  · replace hf := (if_pos c_1).symm.trans hf
    refine lv_aload_n hx hb dX4_skip_10 rfl (lv_at hl 0 rfl) ?_
    refine lv_dup hx hb dX4_skip_11 rfl ?_
    refine gX4_31 F hX hP 0 rfl (v := .int (K.2.2 2)) rfl dX4_skip_12 ?_
    refine lv_iconst (v := 1) hx hb dX4_skip_15 (by decide) ?_
    refine lv_iadd hx hb dX4_skip_16 ?_
    refine pX4_31 F hX hP hD hS 0 rfl (Nat.le_of_ble_eq_true rfl) dX4_skip_17 (fun H locs hP hD hS => ?_)
    obtain ⟨M_2, e_3, hf⟩ := bnd_e hf
    have hP : va_P D vwCl (wTxt cI a M_2) H := by rw [e_3]; exact hP
    have hD : va_D A (wTxt cI a M_2) := by rw [e_3]; exact hD
    clear e_3
    refine lv_iconst (v := 1) hx hb dX4_skip_20 (by decide) ?_
    obtain rfl := hf
    exact wr_z F (by decide) rfl hP hS dX4_skip_21
  · replace hf := (if_neg c_1).symm.trans hf
    refine lv_iconst (v := 0) hx hb dX4_skip_8 (by decide) ?_
    obtain rfl := hf
    exact wr_z F (by decide) rfl hP hS dX4_skip_9
def X4_readNumber (K : STxt) (x1 : Int32) : Option (STxt × Int32) := ((X4_isDigit (X4_current K)).bind fun u_1 => (if u_1 = 0 then some (K, 0) else (bnd (K.1, K.2.1, (up K.2.2 2 ((K.2.2 2) + 1))) fun M_4 => ((X4_isDigit (X4_current M_4)).bind fun u_6 => (if u_6 = 0 then (bnd (M_4.1, (rput 3 M_4.2.1 x1 ((X4_current K) - 48)), M_4.2.2) fun M_9 => some (M_9, 1)) else (bnd (M_4.1, M_4.2.1, (up M_4.2.2 2 ((M_4.2.2 2) + 1))) fun M_11 => (bnd (M_11.1, (rput 3 M_11.2.1 x1 (((10 * ((X4_current K) - 48)) + (X4_current M_4)) - 48)), M_11.2.2) fun M_13 => some (M_13, 1))))))))
abbrev rm_X4_readNumber : Room := { frames := 2, cells := 0, slots := 0, locals := 42 }
set_option maxHeartbeats 4000000 in
set_option maxRecDepth 100000 in
theorem c_X4_readNumber (l : Launch) (D : va_G) (cI cP : ClassId) (a : Nat → Nat) (K : STxt) (x1 : Int32) (z : STxt × Int32) (hf : X4_readNumber K x1 = some z) : MWi l yX4_readNumber cX4_readNumber 3 (some .boolean) rm_X4_readNumber D cI cP [.ref (a 0), .int x1] (wTxt cI a K) (wTxt cI a z.1) z.2 := by
  refine MWi.of (by decide +kernel) (Nat.le_of_ble_eq_true rfl) ?_
  intro p e s m args below meth c ls A F hX hP hD hA hS hl
  have F : Fx p s m args meth c RX4 cX4_readNumber 3 (some .boolean) := F
  have hx := F.1
  have hb := F.2.1
  have hown := F.2.2.2.1
  have hts := F.2.2.2.2.1
  have hl : lv_has ls 3 [(0, .ref (a 0)), (1, .int x1)] := hl
  unfold X4_readNumber at hf
  refine lv_aload_n hx hb dX4_readNumber_0 rfl (lv_at hl 0 rfl) ?_
  refine k_rd (runV F wdX4_38 (rm := rm_X4_current) (As := []) (rest := []) ⟨rfl, rfl⟩ ⟨Nat.le_of_ble_eq_true rfl, Nat.le_of_ble_eq_true rfl⟩ hl.1 rfl rfl (Nat.le_of_ble_eq_true rfl) dX4_readNumber_1 ⟨Nat.zero_le _, Nat.zero_le _⟩) (c_X4_current l D cI cP a K  _ rfl) hX (va_recv hX.1 hP (ci := 4) (q0 := 0) rfl rfl) hP hP hS hA (fun H locs hP hS => ?_)
  obtain ⟨u_1, h_2, hf⟩ := ob hf
  refine k_rd (runS F wdX4_55 (rm := rm_X4_isDigit) (As := [.int (X4_current K)]) (rest := []) ⟨rfl, rfl⟩ ⟨Nat.le_of_ble_eq_true rfl, Nat.le_of_ble_eq_true rfl⟩ hl.1 rfl rfl (Nat.le_of_ble_eq_true rfl) dX4_readNumber_4 ⟨Nat.zero_le _, Nat.zero_le _⟩) (c_X4_isDigit l D cI cP (X4_current K) _ h_2) hX trivial vP_nil hP hS hA (fun H locs hP hS => ?_)
  refine lv_if_ne (tgt := 12) hx hb dX4_readNumber_7 (by decide) (fun c_3 => ?_) (fun c_3 => ?_)
  · replace hf := (if_neg c_3).symm.trans hf
    refine lv_aload_n hx hb dX4_readNumber_12 rfl (lv_at hl 0 rfl) ?_
    refine k_rd (runV F wdX4_38 (rm := rm_X4_current) (As := []) (rest := []) ⟨rfl, rfl⟩ ⟨Nat.le_of_ble_eq_true rfl, Nat.le_of_ble_eq_true rfl⟩ hl.1 rfl rfl (Nat.le_of_ble_eq_true rfl) dX4_readNumber_13 ⟨Nat.zero_le _, Nat.zero_le _⟩) (c_X4_current l D cI cP a K  _ rfl) hX (va_recv hX.1 hP (ci := 4) (q0 := 0) rfl rfl) hP hP hS hA (fun H locs hP hS => ?_)
    refine lv_bipush (v := 48) hx hb dX4_readNumber_16 (by decide) ?_
    refine lv_isub hx hb dX4_readNumber_18 ?_
    refine lv_istore_n (lv' := [(2, .int ((X4_current K) - 48)), (0, .ref (a 0)), (1, .int x1)]) hx hb dX4_readNumber_19 rfl hl (by decide) rfl (fun ls hl => ?_)
    refine lv_aload_n hx hb dX4_readNumber_20 rfl (lv_at hl 1 rfl) ?_
    refine lv_dup hx hb dX4_readNumber_21 rfl ?_
    refine gX4_31 F hX hP 0 rfl (v := .int (K.2.2 2)) rfl dX4_readNumber_22 ?_
    refine lv_iconst (v := 1) hx hb dX4_readNumber_25 (by decide) ?_
    refine lv_iadd hx hb dX4_readNumber_26 ?_
    refine pX4_31 F hX hP hD hS 0 rfl (Nat.le_of_ble_eq_true rfl) dX4_readNumber_27 (fun H locs hP hD hS => ?_)
    obtain ⟨M_4, e_5, hf⟩ := bnd_e hf
    have hP : va_P D vwCl (wTxt cI a M_4) H := by rw [e_5]; exact hP
    have hD : va_D A (wTxt cI a M_4) := by rw [e_5]; exact hD
    clear e_5
    refine lv_aload_n hx hb dX4_readNumber_30 rfl (lv_at hl 1 rfl) ?_
    refine k_rd (runV F wdX4_38 (rm := rm_X4_current) (As := []) (rest := []) ⟨rfl, rfl⟩ ⟨Nat.le_of_ble_eq_true rfl, Nat.le_of_ble_eq_true rfl⟩ hl.1 rfl rfl (Nat.le_of_ble_eq_true rfl) dX4_readNumber_31 ⟨Nat.zero_le _, Nat.zero_le _⟩) (c_X4_current l D cI cP a M_4  _ rfl) hX (va_recv hX.1 hP (ci := 4) (q0 := 0) rfl rfl) hP hP hS hA (fun H locs hP hS => ?_)
    obtain ⟨u_6, h_7, hf⟩ := ob hf
    refine k_rd (runS F wdX4_55 (rm := rm_X4_isDigit) (As := [.int (X4_current M_4)]) (rest := []) ⟨rfl, rfl⟩ ⟨Nat.le_of_ble_eq_true rfl, Nat.le_of_ble_eq_true rfl⟩ hl.1 rfl rfl (Nat.le_of_ble_eq_true rfl) dX4_readNumber_34 ⟨Nat.zero_le _, Nat.zero_le _⟩) (c_X4_isDigit l D cI cP (X4_current M_4) _ h_7) hX trivial vP_nil hP hS hA (fun H locs hP hS => ?_)
    refine lv_if_eq (tgt := 63) hx hb dX4_readNumber_37 (by decide) (fun c_8 => ?_) (fun c_8 => ?_)
    · replace hf := (if_pos c_8).symm.trans hf
      refine lv_aload_n hx hb dX4_readNumber_63 rfl (lv_at hl 1 rfl) ?_
      refine gX4_20 F hX hP 0 rfl (v := .ref (a 3)) rfl dX4_readNumber_64 ?_
      refine lv_iload_n hx hb dX4_readNumber_67 rfl (lv_at hl 2 rfl) ?_
      refine lv_iload_n hx hb dX4_readNumber_68 rfl (lv_at hl 0 rfl) ?_
      refine k_wv (runVN F hX wdX4_27 (rm := rm_X2_put) (As := [.int x1, .int ((X4_current K) - 48)]) (rest := []) ⟨rfl, rfl⟩ ⟨Nat.le_of_ble_eq_true rfl, Nat.le_of_ble_eq_true rfl⟩ hl.1 rfl rfl (Nat.le_of_ble_eq_true rfl) dX4_readNumber_69 ⟨Nat.zero_le _, Nat.zero_le _⟩) (k_rput l D cI cP (a 3) (a 4) 3 (by decide) M_4.2.1 x1 ((X4_current K) - 48)) hX (va_recv hX.1 (va_blk (Bs := (bTxt cI a M_4)) hP 2 rfl) (ci := 2) (q0 := 0) rfl rfl) (Cut.one (Bs := (bTxt cI a M_4)) (k := 2) rfl rfl) hP hD hS hA (fun H locs hP hD hS => ?_)
      obtain ⟨M_9, e_10, hf⟩ := bnd_e hf
      have hP : va_P D vwCl (wTxt cI a M_9) H := by rw [e_10]; exact hP
      have hD : va_D A (wTxt cI a M_9) := by rw [e_10]; exact hD
      clear e_10
      refine lv_iconst (v := 1) hx hb dX4_readNumber_72 (by decide) ?_
      obtain rfl := (Option.some.inj hf)
      exact wr_z F (by decide) rfl hP hS dX4_readNumber_73
    · replace hf := (if_neg c_8).symm.trans hf
      refine lv_bipush (v := 10) hx hb dX4_readNumber_40 (by decide) ?_
      refine lv_iload_n hx hb dX4_readNumber_42 rfl (lv_at hl 0 rfl) ?_
      refine lv_imul hx hb dX4_readNumber_43 ?_
      refine lv_aload_n hx hb dX4_readNumber_44 rfl (lv_at hl 1 rfl) ?_
      refine k_rd (runV F wdX4_38 (rm := rm_X4_current) (As := []) (rest := [.int (10 * ((X4_current K) - 48))]) ⟨rfl, rfl⟩ ⟨Nat.le_of_ble_eq_true rfl, Nat.le_of_ble_eq_true rfl⟩ hl.1 rfl rfl (Nat.le_of_ble_eq_true rfl) dX4_readNumber_45 ⟨Nat.zero_le _, Nat.zero_le _⟩) (c_X4_current l D cI cP a M_4  _ rfl) hX (va_recv hX.1 hP (ci := 4) (q0 := 0) rfl rfl) hP hP hS hA (fun H locs hP hS => ?_)
      refine lv_iadd hx hb dX4_readNumber_48 ?_
      refine lv_bipush (v := 48) hx hb dX4_readNumber_49 (by decide) ?_
      refine lv_isub hx hb dX4_readNumber_51 ?_
      refine lv_istore_n (lv' := [(2, .int (((10 * ((X4_current K) - 48)) + (X4_current M_4)) - 48)), (0, .ref (a 0)), (1, .int x1)]) hx hb dX4_readNumber_52 rfl hl (by decide) rfl (fun ls hl => ?_)
      refine lv_aload_n hx hb dX4_readNumber_53 rfl (lv_at hl 1 rfl) ?_
      refine lv_dup hx hb dX4_readNumber_54 rfl ?_
      refine gX4_31 F hX hP 0 rfl (v := .int (M_4.2.2 2)) rfl dX4_readNumber_55 ?_
      refine lv_iconst (v := 1) hx hb dX4_readNumber_58 (by decide) ?_
      refine lv_iadd hx hb dX4_readNumber_59 ?_
      refine pX4_31 F hX hP hD hS 0 rfl (Nat.le_of_ble_eq_true rfl) dX4_readNumber_60 (fun H locs hP hD hS => ?_)
      obtain ⟨M_11, e_12, hf⟩ := bnd_e hf
      have hP : va_P D vwCl (wTxt cI a M_11) H := by rw [e_12]; exact hP
      have hD : va_D A (wTxt cI a M_11) := by rw [e_12]; exact hD
      clear e_12
      refine lv_aload_n hx hb dX4_readNumber_63 rfl (lv_at hl 1 rfl) ?_
      refine gX4_20 F hX hP 0 rfl (v := .ref (a 3)) rfl dX4_readNumber_64 ?_
      refine lv_iload_n hx hb dX4_readNumber_67 rfl (lv_at hl 2 rfl) ?_
      refine lv_iload_n hx hb dX4_readNumber_68 rfl (lv_at hl 0 rfl) ?_
      refine k_wv (runVN F hX wdX4_27 (rm := rm_X2_put) (As := [.int x1, .int (((10 * ((X4_current K) - 48)) + (X4_current M_4)) - 48)]) (rest := []) ⟨rfl, rfl⟩ ⟨Nat.le_of_ble_eq_true rfl, Nat.le_of_ble_eq_true rfl⟩ hl.1 rfl rfl (Nat.le_of_ble_eq_true rfl) dX4_readNumber_69 ⟨Nat.zero_le _, Nat.zero_le _⟩) (k_rput l D cI cP (a 3) (a 4) 3 (by decide) M_11.2.1 x1 (((10 * ((X4_current K) - 48)) + (X4_current M_4)) - 48)) hX (va_recv hX.1 (va_blk (Bs := (bTxt cI a M_11)) hP 2 rfl) (ci := 2) (q0 := 0) rfl rfl) (Cut.one (Bs := (bTxt cI a M_11)) (k := 2) rfl rfl) hP hD hS hA (fun H locs hP hD hS => ?_)
      obtain ⟨M_13, e_14, hf⟩ := bnd_e hf
      have hP : va_P D vwCl (wTxt cI a M_13) H := by rw [e_14]; exact hP
      have hD : va_D A (wTxt cI a M_13) := by rw [e_14]; exact hD
      clear e_14
      refine lv_iconst (v := 1) hx hb dX4_readNumber_72 (by decide) ?_
      obtain rfl := (Option.some.inj hf)
      exact wr_z F (by decide) rfl hP hS dX4_readNumber_73
  · replace hf := (if_pos c_3).symm.trans hf
    refine lv_iconst (v := 0) hx hb dX4_readNumber_10 (by decide) ?_
    obtain rfl := (Option.some.inj hf)
    exact wr_z F (by decide) rfl hP hS dX4_readNumber_11
def X4_readOrder_L40 : Nat → STxt → Int32 → Int32 → Option (STxt × Int32)
  | 0, _, _, _ => none
  | fu + 1, K_40, x2_40, x3_40 => (if x2_40 ≤ x3_40 then (bnd (X4_skip K_40 59).1 fun M_9 => (if ((X4_skip K_40 59).2 = 0 ∨ (X4_skip K_40 59).2 = 1) then some (M_9, (X4_skip K_40 59).2) else none)) else (if x3_40 ≤ 0 then ((X4_readNumber K_40 x3_40).bind fun u_13 => (if u_13.2 = 0 then some (u_13.1, 0) else X4_readOrder_L40 fu u_13.1 x2_40 (x3_40 + 1))) else (bnd (X4_skip K_40 44).1 fun M_16 => (if (X4_skip K_40 44).2 = 0 then some (M_16, 0) else ((X4_readNumber M_16 x3_40).bind fun u_19 => (if u_19.2 = 0 then some (u_19.1, 0) else X4_readOrder_L40 fu u_19.1 x2_40 (x3_40 + 1)))))))
def X4_readOrder (K : STxt) (x1 : Int32) : Option (STxt × Int32) := (bnd (K.1, K.2.1, (up K.2.2 2 x1)) fun M_1 => (bnd (M_1.1, M_1.2.1, (up M_1.2.2 1 (X4_current M_1))) fun M_3 => (if (X4_numbersBehind (M_3.2.2 1)) = (-1) then some (M_3, 0) else (bnd (M_3.1, M_3.2.1, (up M_3.2.2 2 ((M_3.2.2 2) + 1))) fun M_6 => (X4_readOrder_L40 FUEL M_6 (X4_numbersBehind (M_3.2.2 1)) 0)))))
abbrev rm_X4_readOrder : Room := { frames := 3, cells := 0, slots := 0, locals := 64 }
set_option maxHeartbeats 4000000 in
set_option maxRecDepth 100000 in
theorem c_X4_readOrder (l : Launch) (D : va_G) (cI cP : ClassId) (a : Nat → Nat) (K : STxt) (x1 : Int32) (z : STxt × Int32) (hf : X4_readOrder K x1 = some z) : MWi l yX4_readOrder cX4_readOrder 4 (some .boolean) rm_X4_readOrder D cI cP [.ref (a 0), .int x1] (wTxt cI a K) (wTxt cI a z.1) z.2 := by
  refine MWi.of (by decide +kernel) (Nat.le_of_ble_eq_true rfl) ?_
  intro p e s m args below meth c ls A F hX hP hD hA hS hl
  have F : Fx p s m args meth c RX4 cX4_readOrder 4 (some .boolean) := F
  have hx := F.1
  have hb := F.2.1
  have hown := F.2.2.2.1
  have hts := F.2.2.2.2.1
  have hl : lv_has ls 4 [(0, .ref (a 0)), (1, .int x1)] := hl
  unfold X4_readOrder at hf
  refine lv_aload_n hx hb dX4_readOrder_0 rfl (lv_at hl 0 rfl) ?_
  refine lv_iload_n hx hb dX4_readOrder_1 rfl (lv_at hl 1 rfl) ?_
  refine pX4_31 F hX hP hD hS 0 rfl (Nat.le_of_ble_eq_true rfl) dX4_readOrder_2 (fun H locs hP hD hS => ?_)
  obtain ⟨M_1, e_2, hf⟩ := bnd_e hf
  have hP : va_P D vwCl (wTxt cI a M_1) H := by rw [e_2]; exact hP
  have hD : va_D A (wTxt cI a M_1) := by rw [e_2]; exact hD
  clear e_2
  refine lv_aload_n hx hb dX4_readOrder_5 rfl (lv_at hl 0 rfl) ?_
  refine lv_aload_n hx hb dX4_readOrder_6 rfl (lv_at hl 0 rfl) ?_
  refine k_rd (runV F wdX4_38 (rm := rm_X4_current) (As := []) (rest := [.ref (a 0)]) ⟨rfl, rfl⟩ ⟨Nat.le_of_ble_eq_true rfl, Nat.le_of_ble_eq_true rfl⟩ hl.1 rfl rfl (Nat.le_of_ble_eq_true rfl) dX4_readOrder_7 ⟨Nat.zero_le _, Nat.zero_le _⟩) (c_X4_current l D cI cP a M_1  _ rfl) hX (va_recv hX.1 hP (ci := 4) (q0 := 0) rfl rfl) hP hP hS hA (fun H locs hP hS => ?_)
  refine pX4_42 F hX hP hD hS 0 rfl (Nat.le_of_ble_eq_true rfl) dX4_readOrder_10 (fun H locs hP hD hS => ?_)
  obtain ⟨M_3, e_4, hf⟩ := bnd_e hf
  have hP : va_P D vwCl (wTxt cI a M_3) H := by rw [e_4]; exact hP
  have hD : va_D A (wTxt cI a M_3) := by rw [e_4]; exact hD
  clear e_4
  refine lv_aload_n hx hb dX4_readOrder_13 rfl (lv_at hl 0 rfl) ?_
  refine gX4_42 F hX hP 0 rfl (v := .int (M_3.2.2 1)) rfl dX4_readOrder_14 ?_
  refine k_rd (runS F wdX4_45 (rm := rm_X4_numbersBehind) (As := [.int (M_3.2.2 1)]) (rest := []) ⟨rfl, rfl⟩ ⟨Nat.le_of_ble_eq_true rfl, Nat.le_of_ble_eq_true rfl⟩ hl.1 rfl rfl (Nat.le_of_ble_eq_true rfl) dX4_readOrder_17 ⟨Nat.zero_le _, Nat.zero_le _⟩) (c_X4_numbersBehind l D cI cP (M_3.2.2 1) _ rfl) hX trivial vP_nil hP hS hA (fun H locs hP hS => ?_)
  refine lv_istore_n (lv' := [(2, .int (X4_numbersBehind (M_3.2.2 1))), (0, .ref (a 0)), (1, .int x1)]) hx hb dX4_readOrder_20 rfl hl (by decide) rfl (fun ls hl => ?_)
  refine lv_iload_n hx hb dX4_readOrder_21 rfl (lv_at hl 0 rfl) ?_
  refine lv_iconst (v := (-1)) hx hb dX4_readOrder_22 (by decide) ?_
  refine lv_icmp_ne (tgt := 28) hx hb dX4_readOrder_23 (by decide) (fun c_5 => ?_) (fun c_5 => ?_)
  · replace hf := (if_neg c_5).symm.trans hf
    refine lv_aload_n hx hb dX4_readOrder_28 rfl (lv_at hl 1 rfl) ?_
    refine lv_dup hx hb dX4_readOrder_29 rfl ?_
    refine gX4_31 F hX hP 0 rfl (v := .int (M_3.2.2 2)) rfl dX4_readOrder_30 ?_
    refine lv_iconst (v := 1) hx hb dX4_readOrder_33 (by decide) ?_
    refine lv_iadd hx hb dX4_readOrder_34 ?_
    refine pX4_31 F hX hP hD hS 0 rfl (Nat.le_of_ble_eq_true rfl) dX4_readOrder_35 (fun H locs hP hD hS => ?_)
    obtain ⟨M_6, e_7, hf⟩ := bnd_e hf
    have hP : va_P D vwCl (wTxt cI a M_6) H := by rw [e_7]; exact hP
    have hD : va_D A (wTxt cI a M_6) := by rw [e_7]; exact hD
    clear e_7
    refine lv_iconst (v := 0) hx hb dX4_readOrder_38 (by decide) ?_
    refine lv_istore_n (lv' := [(3, .int 0), (2, .int (X4_numbersBehind (M_3.2.2 1))), (0, .ref (a 0)), (1, .int x1)]) hx hb dX4_readOrder_39 rfl hl (by decide) rfl (fun ls hl => ?_)
    have hL_40 : ∀ (fu : Nat) (K_40 : STxt) (x2_40 : Int32) (x3_40 : Int32) (H : Heap) (locs : List Loc) (ls : Array Slot), X4_readOrder_L40 fu K_40 x2_40 x3_40 = some z → va_P D vwCl (wTxt cI a K_40) H → va_D A (wTxt cI a K_40) → va_S A s.heap H locs → lv_has ls 4 [(0, .ref (a 0)), (2, .int x2_40), (3, .int x3_40)] → W p l e rm_X4_readOrder s m args below meth c H locs 0 0 (QWi D below args s A (wTxt cI a z.1) z.2) (F0 m 40 ls []) := by
      intro fu
      induction fu with
      | zero =>
        intro K_40 x2_40 x3_40 H locs ls hf
        exact absurd hf (by simp [X4_readOrder_L40])
      | succ fu ih =>
        intro K_40 x2_40 x3_40 _ _ ls hf hP hD hS hl
        rw [X4_readOrder_L40] at hf
        refine lv_iload_n hx hb dX4_readOrder_40 rfl (lv_at hl 2 rfl) ?_
        refine lv_iload_n hx hb dX4_readOrder_41 rfl (lv_at hl 1 rfl) ?_
        refine lv_icmp_ge (tgt := 74) hx hb dX4_readOrder_42 (by decide) (fun c_8 => ?_) (fun c_8 => ?_)
        · replace hf := (if_pos c_8).symm.trans hf
          refine lv_aload_n hx hb dX4_readOrder_74 rfl (lv_at hl 0 rfl) ?_
          refine lv_bipush (v := 59) hx hb dX4_readOrder_75 (by decide) ?_
          refine k_wi (runV F wdX4_48 (rm := rm_X4_skip) (As := [.int 59]) (rest := []) ⟨rfl, rfl⟩ ⟨Nat.le_of_ble_eq_true rfl, Nat.le_of_ble_eq_true rfl⟩ hl.1 rfl rfl (Nat.le_of_ble_eq_true rfl) dX4_readOrder_77 ⟨Nat.zero_le _, Nat.zero_le _⟩) (c_X4_skip l D cI cP a K_40 59 _ rfl) hX (va_recv hX.1 hP (ci := 4) (q0 := 0) rfl rfl) (Cut.all rfl) hP hD hS hA (fun H locs hP hD hS => ?_)
          obtain ⟨M_9, e_10, hf⟩ := bnd_e hf
          have hP : va_P D vwCl (wTxt cI a M_9) H := by rw [e_10]; exact hP
          have hD : va_D A (wTxt cI a M_9) := by rw [e_10]; exact hD
          clear e_10
          have g_11 := og hf
          replace hf := (if_pos g_11).symm.trans hf
          obtain rfl := (Option.some.inj hf)
          exact wr_z F g_11 rfl hP hS dX4_readOrder_80
        · replace hf := (if_neg c_8).symm.trans hf
          refine lv_iload_n hx hb dX4_readOrder_45 rfl (lv_at hl 2 rfl) ?_
          refine lv_if_le (tgt := 58) hx hb dX4_readOrder_46 (by decide) (fun c_12 => ?_) (fun c_12 => ?_)
          · replace hf := (if_pos c_12).symm.trans hf
            refine lv_aload_n hx hb dX4_readOrder_58 rfl (lv_at hl 0 rfl) ?_
            refine lv_iload_n hx hb dX4_readOrder_59 rfl (lv_at hl 2 rfl) ?_
            obtain ⟨u_13, h_14, hf⟩ := ob hf
            refine k_wi (runV F wdX4_52 (rm := rm_X4_readNumber) (As := [.int x3_40]) (rest := []) ⟨rfl, rfl⟩ ⟨Nat.le_of_ble_eq_true rfl, Nat.le_of_ble_eq_true rfl⟩ hl.1 rfl rfl (Nat.le_of_ble_eq_true rfl) dX4_readOrder_60 ⟨Nat.zero_le _, Nat.zero_le _⟩) (c_X4_readNumber l D cI cP a K_40 x3_40 _ h_14) hX (va_recv hX.1 hP (ci := 4) (q0 := 0) rfl rfl) (Cut.all rfl) hP hD hS hA (fun H locs hP hD hS => ?_)
            have hP : va_P D vwCl (wTxt cI a u_13.1) H := hP
            have hD : va_D A (wTxt cI a u_13.1) := hD
            refine lv_if_ne (tgt := 68) hx hb dX4_readOrder_63 (by decide) (fun c_15 => ?_) (fun c_15 => ?_)
            · replace hf := (if_neg c_15).symm.trans hf
              refine lv_iinc (v := (x3_40 + 1)) (lv' := [(3, .int (x3_40 + 1)), (0, .ref (a 0)), (2, .int x2_40)]) hx hb dX4_readOrder_68 hl (k := 2) rfl (by rfl) (by decide) rfl (fun ls hl => ?_)
              refine lv_goto (tgt := 40) hx hb dX4_readOrder_71 (by decide) ?_
              exact ih u_13.1 x2_40 (x3_40 + 1) _ _ ls hf hP hD hS (lv_sub hl [1, 2, 0] rfl)
            · replace hf := (if_pos c_15).symm.trans hf
              refine lv_iconst (v := 0) hx hb dX4_readOrder_66 (by decide) ?_
              obtain rfl := (Option.some.inj hf)
              exact wr_z F (by decide) rfl hP hS dX4_readOrder_67
          · replace hf := (if_neg c_12).symm.trans hf
            refine lv_aload_n hx hb dX4_readOrder_49 rfl (lv_at hl 0 rfl) ?_
            refine lv_bipush (v := 44) hx hb dX4_readOrder_50 (by decide) ?_
            refine k_wi (runV F wdX4_48 (rm := rm_X4_skip) (As := [.int 44]) (rest := []) ⟨rfl, rfl⟩ ⟨Nat.le_of_ble_eq_true rfl, Nat.le_of_ble_eq_true rfl⟩ hl.1 rfl rfl (Nat.le_of_ble_eq_true rfl) dX4_readOrder_52 ⟨Nat.zero_le _, Nat.zero_le _⟩) (c_X4_skip l D cI cP a K_40 44 _ rfl) hX (va_recv hX.1 hP (ci := 4) (q0 := 0) rfl rfl) (Cut.all rfl) hP hD hS hA (fun H locs hP hD hS => ?_)
            obtain ⟨M_16, e_17, hf⟩ := bnd_e hf
            have hP : va_P D vwCl (wTxt cI a M_16) H := by rw [e_17]; exact hP
            have hD : va_D A (wTxt cI a M_16) := by rw [e_17]; exact hD
            clear e_17
            refine lv_if_eq (tgt := 66) hx hb dX4_readOrder_55 (by decide) (fun c_18 => ?_) (fun c_18 => ?_)
            · replace hf := (if_pos c_18).symm.trans hf
              refine lv_iconst (v := 0) hx hb dX4_readOrder_66 (by decide) ?_
              obtain rfl := (Option.some.inj hf)
              exact wr_z F (by decide) rfl hP hS dX4_readOrder_67
            · replace hf := (if_neg c_18).symm.trans hf
              refine lv_aload_n hx hb dX4_readOrder_58 rfl (lv_at hl 0 rfl) ?_
              refine lv_iload_n hx hb dX4_readOrder_59 rfl (lv_at hl 2 rfl) ?_
              obtain ⟨u_19, h_20, hf⟩ := ob hf
              refine k_wi (runV F wdX4_52 (rm := rm_X4_readNumber) (As := [.int x3_40]) (rest := []) ⟨rfl, rfl⟩ ⟨Nat.le_of_ble_eq_true rfl, Nat.le_of_ble_eq_true rfl⟩ hl.1 rfl rfl (Nat.le_of_ble_eq_true rfl) dX4_readOrder_60 ⟨Nat.zero_le _, Nat.zero_le _⟩) (c_X4_readNumber l D cI cP a M_16 x3_40 _ h_20) hX (va_recv hX.1 hP (ci := 4) (q0 := 0) rfl rfl) (Cut.all rfl) hP hD hS hA (fun H locs hP hD hS => ?_)
              have hP : va_P D vwCl (wTxt cI a u_19.1) H := hP
              have hD : va_D A (wTxt cI a u_19.1) := hD
              refine lv_if_ne (tgt := 68) hx hb dX4_readOrder_63 (by decide) (fun c_21 => ?_) (fun c_21 => ?_)
              · replace hf := (if_neg c_21).symm.trans hf
                refine lv_iinc (v := (x3_40 + 1)) (lv' := [(3, .int (x3_40 + 1)), (0, .ref (a 0)), (2, .int x2_40)]) hx hb dX4_readOrder_68 hl (k := 2) rfl (by rfl) (by decide) rfl (fun ls hl => ?_)
                refine lv_goto (tgt := 40) hx hb dX4_readOrder_71 (by decide) ?_
                exact ih u_19.1 x2_40 (x3_40 + 1) _ _ ls hf hP hD hS (lv_sub hl [1, 2, 0] rfl)
              · replace hf := (if_pos c_21).symm.trans hf
                refine lv_iconst (v := 0) hx hb dX4_readOrder_66 (by decide) ?_
                obtain rfl := (Option.some.inj hf)
                exact wr_z F (by decide) rfl hP hS dX4_readOrder_67
    exact hL_40 FUEL M_6 (X4_numbersBehind (M_3.2.2 1)) 0 _ _ ls hf hP hD hS (lv_sub hl [2, 1, 0] rfl)
  · replace hf := (if_pos c_5).symm.trans hf
    refine lv_iconst (v := 0) hx hb dX4_readOrder_26 (by decide) ?_
    obtain rfl := (Option.some.inj hf)
    exact wr_z F (by decide) rfl hP hS dX4_readOrder_27
