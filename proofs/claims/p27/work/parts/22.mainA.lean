def X6_remember_J5 (K_5 : SMain) (t0_5 : Int32) (t1_5 : Int32) : SMain := (if t1_5 = t0_5 then (bnd ((up K_5.1 0 (((K_5.1 0) + 1) - ((K_5.1 0) + 1) / 4 * 4)), K_5.2.1, K_5.2.2.1, K_5.2.2.2.1, K_5.2.2.2.2.1, K_5.2.2.2.2.2) fun M_2 => (bnd ((up M_2.1 1 ((M_2.1 1) - 1)), M_2.2.1, M_2.2.2.1, M_2.2.2.2.1, M_2.2.2.2.2.1, M_2.2.2.2.2.2) fun M_4 => M_4)) else K_5)
def X6_remember (K : SMain) : Option (SMain) := ((pastIx (X6_remember_J5 K 4 (K.1 1)) ((X6_remember_J5 K 4 (K.1 1)).1 1)).bind fun j_6 => (bnd ((X6_remember_J5 K 4 (K.1 1)).1, (X6_remember_J5 K 4 (K.1 1)).2.1, (X6_remember_J5 K 4 (K.1 1)).2.2.1, (X6_remember_J5 K 4 (K.1 1)).2.2.2.1, (X6_remember_J5 K 4 (K.1 1)).2.2.2.2.1, (up (X6_remember_J5 K 4 (K.1 1)).2.2.2.2.2 j_6 (X6_remember_J5 K 4 (K.1 1)).2.2.2.1)) fun M_8 => (bnd ((up M_8.1 1 ((M_8.1 1) + 1)), M_8.2.1, M_8.2.2.1, M_8.2.2.2.1, M_8.2.2.2.2.1, M_8.2.2.2.2.2) fun M_10 => some M_10)))
abbrev rm_X6_remember : Room := { frames := 4, cells := 0, slots := 0, locals := 103 }
set_option maxHeartbeats 4000000 in
set_option maxRecDepth 100000 in
theorem c_X6_remember (l : Launch) (D : va_G) (cI cP : ClassId) (o h : Nat) (tx tn : Nat → Nat) (Ad : Nat → Nat → Nat) (K : SMain) (z : SMain) (hf : X6_remember K  = some z) : MWv l yX6_remember cX6_remember 2 none rm_X6_remember D cI cP [.ref o] (wMain cI cP o h tx tn Ad K) (wMain cI cP o h tx tn Ad z) := by
  refine MWv.of (by decide +kernel) (Nat.le_of_ble_eq_true rfl) ?_
  intro p e s m args below meth c ls A F hX hP hD hA hS hl
  have F : Fx p s m args meth c RX6 cX6_remember 2 none := F
  have hx := F.1
  have hb := F.2.1
  have hown := F.2.2.2.1
  have hts := F.2.2.2.2.1
  have hl : lv_has ls 2 [(0, .ref o)] := hl
  unfold X6_remember at hf
  refine lv_aload_n hx hb dX6_remember_0 rfl (lv_at hl 0 rfl) ?_
  refine gX6_230 F hX hP 0 rfl (v := .int (K.1 1)) rfl dX6_remember_1 ?_
  refine lv_iconst (v := 4) hx hb dX6_remember_4 (by decide) ?_
  have hJ_5 : ∀ (K_5 : SMain) (t0_5 : Int32) (t1_5 : Int32) (v : SMain) (H : Heap) (locs : List Loc) (ls : Array Slot), X6_remember_J5 K_5 t0_5 t1_5 = v → va_P D vwCl (wMain cI cP o h tx tn Ad K_5) H → va_D A (wMain cI cP o h tx tn Ad K_5) → va_S A s.heap H locs → lv_has ls 2 [(0, .ref o)] → (∀ (H : Heap) (locs : List Loc) (ls : Array Slot), va_P D vwCl (wMain cI cP o h tx tn Ad v) H → va_D A (wMain cI cP o h tx tn Ad v) → va_S A s.heap H locs → lv_has ls 2 [(0, .ref o)] → W p l e rm_X6_remember s m args below meth c H locs 0 0 (QWv D below args s A (wMain cI cP o h tx tn Ad z)) (F0 m 30 ls [])) → W p l e rm_X6_remember s m args below meth c H locs 0 0 (QWv D below args s A (wMain cI cP o h tx tn Ad z)) (F0 m 5 ls [.int t0_5, .int t1_5]) := by
    intro K_5 t0_5 t1_5 v _ _ ls hf hP hD hS hl hk
    unfold X6_remember_J5 at hf
    refine lv_icmp_ne (tgt := 30) hx hb dX6_remember_5 (by decide) (fun c_1 => ?_) (fun c_1 => ?_)
    · replace hf := (if_neg c_1).symm.trans hf
      obtain rfl := hf
      exact hk _ _ ls hP hD hS hl
    · replace hf := (if_pos c_1).symm.trans hf
      refine lv_aload_n hx hb dX6_remember_8 rfl (lv_at hl 0 rfl) ?_
      refine lv_aload_n hx hb dX6_remember_9 rfl (lv_at hl 0 rfl) ?_
      refine gX6_291 F hX hP 0 rfl (v := .int (K_5.1 0)) rfl dX6_remember_10 ?_
      refine lv_iconst (v := 1) hx hb dX6_remember_13 (by decide) ?_
      refine lv_iadd hx hb dX6_remember_14 ?_
      refine lv_iconst (v := 4) hx hb dX6_remember_15 (by decide) ?_
      refine lv_irem hx hb dX6_remember_16 (by decide) ?_
      refine pX6_291 F hX hP hD hS 0 rfl (Nat.le_of_ble_eq_true rfl) dX6_remember_17 (fun H locs hP hD hS => ?_)
      obtain ⟨M_2, e_3, hf⟩ := bnd_e hf
      have hP : va_P D vwCl (wMain cI cP o h tx tn Ad M_2) H := by rw [e_3]; exact hP
      have hD : va_D A (wMain cI cP o h tx tn Ad M_2) := by rw [e_3]; exact hD
      clear e_3
      refine lv_aload_n hx hb dX6_remember_20 rfl (lv_at hl 0 rfl) ?_
      refine lv_dup hx hb dX6_remember_21 rfl ?_
      refine gX6_230 F hX hP 0 rfl (v := .int (M_2.1 1)) rfl dX6_remember_22 ?_
      refine lv_iconst (v := 1) hx hb dX6_remember_25 (by decide) ?_
      refine lv_isub hx hb dX6_remember_26 ?_
      refine pX6_230 F hX hP hD hS 0 rfl (Nat.le_of_ble_eq_true rfl) dX6_remember_27 (fun H locs hP hD hS => ?_)
      obtain ⟨M_4, e_5, hf⟩ := bnd_e hf
      have hP : va_P D vwCl (wMain cI cP o h tx tn Ad M_4) H := by rw [e_5]; exact hP
      have hD : va_D A (wMain cI cP o h tx tn Ad M_4) := by rw [e_5]; exact hD
      clear e_5
      obtain rfl := hf
      exact hk _ _ ls hP hD hS hl
  refine hJ_5 K 4 (K.1 1) _ _ _ ls rfl hP hD hS hl (fun H locs ls hP hD hS hl => ?_)
  clear hJ_5
  refine lv_aload_n hx hb dX6_remember_30 rfl (lv_at hl 0 rfl) ?_
  refine lv_aload_n hx hb dX6_remember_31 rfl (lv_at hl 0 rfl) ?_
  refine gX6_230 F hX hP 0 rfl (v := .int ((X6_remember_J5 K 4 (K.1 1)).1 1)) rfl dX6_remember_32 ?_
  obtain ⟨j_6, hj_7, hf⟩ := ob hf
  have hj_74 := pastIx_lt hj_7
  refine k_ra (runV F wdX6_243 (rm := rm_X6_pastState) (As := [.int ((X6_remember_J5 K 4 (K.1 1)).1 1)]) (rest := []) ⟨rfl, rfl⟩ ⟨Nat.le_of_ble_eq_true rfl, Nat.le_of_ble_eq_true rfl⟩ hl.1 rfl rfl (Nat.le_of_ble_eq_true rfl) dX6_remember_35 ⟨Nat.zero_le _, Nat.zero_le _⟩) (c_X6_pastState l D cI cP o h tx tn Ad (X6_remember_J5 K 4 (K.1 1)) ((X6_remember_J5 K 4 (K.1 1)).1 1) _ hj_7) hX (va_recv hX.1 hP (ci := 6) (q0 := 0) rfl rfl) hP hP hS hA (fun H locs hP hS => ?_)
  refine lv_astore_n (lv' := [(1, .ref (Ad (2 + j_6) 0)), (0, .ref o)]) hx hb dX6_remember_38 rfl hl (by decide) rfl (fun ls hl => ?_)
  refine lv_aload_n hx hb dX6_remember_39 rfl (lv_at hl 0 rfl) ?_
  refine lv_ifnull hx hb dX6_remember_40 ?_
  refine lv_aload_n hx hb dX6_remember_43 rfl (lv_at hl 0 rfl) ?_
  refine lv_aload_n hx hb dX6_remember_44 rfl (lv_at hl 1 rfl) ?_
  refine gX6_10 F hX hP 0 rfl (v := .ref (Ad 0 0)) rfl dX6_remember_45 ?_
  refine k_wv (runVN F hX wdX6_37 (rm := rm_X1_copyFrom) (As := [.ref (Ad 0 0)]) (rest := []) ⟨rfl, rfl⟩ ⟨Nat.le_of_ble_eq_true rfl, Nat.le_of_ble_eq_true rfl⟩ hl.1 rfl rfl (Nat.le_of_ble_eq_true rfl) dX6_remember_48 ⟨Nat.zero_le _, Nat.zero_le _⟩) (k_pcopy l D cI cP (Ad (2 + j_6)) (Ad 0) ((X6_remember_J5 K 4 (K.1 1)).2.2.2.2.2 j_6) ((X6_remember_J5 K 4 (K.1 1)).2.2.2.1)) hX (va_recv hX.1 (va_blk (Bs := (bMain cI cP o h tx tn Ad (X6_remember_J5 K 4 (K.1 1)))) hP (6 + j_6) (past_get hj_74)) (ci := 1) (q0 := 0) rfl rfl) (Cut.two (Bs := (bMain cI cP o h tx tn Ad (X6_remember_J5 K 4 (K.1 1)))) (k := 6 + j_6) (j := 4) (past_get hj_74) rfl (by omega) rfl) hP hD hS hA (fun H locs hP hD hS => ?_)
  rw [past_set hj_74] at hP hD
  obtain ⟨M_8, e_9, hf⟩ := bnd_e hf
  have hP : va_P D vwCl (wMain cI cP o h tx tn Ad M_8) H := by rw [e_9]; exact hP
  have hD : va_D A (wMain cI cP o h tx tn Ad M_8) := by rw [e_9]; exact hD
  clear e_9
  refine lv_aload_n hx hb dX6_remember_51 rfl (lv_at hl 1 rfl) ?_
  refine lv_dup hx hb dX6_remember_52 rfl ?_
  refine gX6_230 F hX hP 0 rfl (v := .int (M_8.1 1)) rfl dX6_remember_53 ?_
  refine lv_iconst (v := 1) hx hb dX6_remember_56 (by decide) ?_
  refine lv_iadd hx hb dX6_remember_57 ?_
  refine pX6_230 F hX hP hD hS 0 rfl (Nat.le_of_ble_eq_true rfl) dX6_remember_58 (fun H locs hP hD hS => ?_)
  obtain ⟨M_10, e_11, hf⟩ := bnd_e hf
  have hP : va_P D vwCl (wMain cI cP o h tx tn Ad M_10) H := by rw [e_11]; exact hP
  have hD : va_D A (wMain cI cP o h tx tn Ad M_10) := by rw [e_11]; exact hD
  clear e_11
  obtain rfl := (Option.some.inj hf)
  exact wr_v F hP hS dX6_remember_61
def X6_settle (K : SMain) (x1 : Int32) : Option (SMain × Int32) := (if (X6_isError x1) = 0 then ((X6_remember K).bind fun u_2 => (bnd (u_2.1, u_2.2.1, u_2.2.2.1, u_2.2.2.2.2.1, u_2.2.2.2.2.1, u_2.2.2.2.2.2) fun M_4 => some (M_4, x1))) else some (K, x1))
abbrev rm_X6_settle : Room := { frames := 5, cells := 0, slots := 0, locals := 124 }
set_option maxHeartbeats 4000000 in
set_option maxRecDepth 100000 in
theorem c_X6_settle (l : Launch) (D : va_G) (cI cP : ClassId) (o h : Nat) (tx tn : Nat → Nat) (Ad : Nat → Nat → Nat) (K : SMain) (x1 : Int32) (z : SMain × Int32) (hf : X6_settle K x1 = some z) : MWi l yX6_settle cX6_settle 2 (some .int) rm_X6_settle D cI cP [.ref o, .int x1] (wMain cI cP o h tx tn Ad K) (wMain cI cP o h tx tn Ad z.1) z.2 := by
  refine MWi.of (by decide +kernel) (Nat.le_of_ble_eq_true rfl) ?_
  intro p e s m args below meth c ls A F hX hP hD hA hS hl
  have F : Fx p s m args meth c RX6 cX6_settle 2 (some .int) := F
  have hx := F.1
  have hb := F.2.1
  have hown := F.2.2.2.1
  have hts := F.2.2.2.2.1
  have hl : lv_has ls 2 [(0, .ref o), (1, .int x1)] := hl
  unfold X6_settle at hf
  refine lv_iload_n hx hb dX6_settle_0 rfl (lv_at hl 1 rfl) ?_
  refine k_rd (runS F wdX6_279 (rm := rm_X6_isError) (As := [.int x1]) (rest := []) ⟨rfl, rfl⟩ ⟨Nat.le_of_ble_eq_true rfl, Nat.le_of_ble_eq_true rfl⟩ hl.1 rfl rfl (Nat.le_of_ble_eq_true rfl) dX6_settle_1 ⟨Nat.zero_le _, Nat.zero_le _⟩) (c_X6_isError l D cI cP x1 _ rfl) hX trivial vP_nil hP hS hA (fun H locs hP hS => ?_)
  refine lv_if_ne (tgt := 22) hx hb dX6_settle_4 (by decide) (fun c_1 => ?_) (fun c_1 => ?_)
  · replace hf := (if_neg c_1).symm.trans hf
    refine lv_iload_n hx hb dX6_settle_22 rfl (lv_at hl 1 rfl) ?_
    obtain rfl := (Option.some.inj hf)
    exact wr_i F rfl hP hS dX6_settle_23
  · replace hf := (if_pos c_1).symm.trans hf
    refine lv_aload_n hx hb dX6_settle_7 rfl (lv_at hl 0 rfl) ?_
    obtain ⟨u_2, h_3, hf⟩ := ob hf
    refine k_wv (runV F wdX6_288 (rm := rm_X6_remember) (As := []) (rest := []) ⟨rfl, rfl⟩ ⟨Nat.le_of_ble_eq_true rfl, Nat.le_of_ble_eq_true rfl⟩ hl.1 rfl rfl (Nat.le_of_ble_eq_true rfl) dX6_settle_8 ⟨Nat.zero_le _, Nat.zero_le _⟩) (c_X6_remember l D cI cP o h tx tn Ad K  _ h_3) hX (va_recv hX.1 hP (ci := 6) (q0 := 0) rfl rfl) (Cut.all rfl) hP hD hS hA (fun H locs hP hD hS => ?_)
    have hP : va_P D vwCl (wMain cI cP o h tx tn Ad u_2) H := hP
    have hD : va_D A (wMain cI cP o h tx tn Ad u_2) := hD
    refine lv_aload_n hx hb dX6_settle_11 rfl (lv_at hl 0 rfl) ?_
    refine gX6_10 F hX hP 0 rfl (v := .ref (Ad 0 0)) rfl dX6_settle_12 ?_
    refine lv_aload_n hx hb dX6_settle_15 rfl (lv_at hl 0 rfl) ?_
    refine gX6_16 F hX hP 0 rfl (v := .ref (Ad 1 0)) rfl dX6_settle_16 ?_
    refine k_wv (runVN F hX wdX6_37 (rm := rm_X1_copyFrom) (As := [.ref (Ad 1 0)]) (rest := []) ⟨rfl, rfl⟩ ⟨Nat.le_of_ble_eq_true rfl, Nat.le_of_ble_eq_true rfl⟩ hl.1 rfl rfl (Nat.le_of_ble_eq_true rfl) dX6_settle_19 ⟨Nat.zero_le _, Nat.zero_le _⟩) (k_pcopy l D cI cP (Ad 0) (Ad 1) u_2.2.2.2.1 u_2.2.2.2.2.1) hX (va_recv hX.1 (va_blk (Bs := (bMain cI cP o h tx tn Ad u_2)) hP 4 rfl) (ci := 1) (q0 := 0) rfl rfl) (Cut.two (Bs := (bMain cI cP o h tx tn Ad u_2)) (k := 4) (j := 5) rfl rfl (by decide) rfl) hP hD hS hA (fun H locs hP hD hS => ?_)
    obtain ⟨M_4, e_5, hf⟩ := bnd_e hf
    have hP : va_P D vwCl (wMain cI cP o h tx tn Ad M_4) H := by rw [e_5]; exact hP
    have hD : va_D A (wMain cI cP o h tx tn Ad M_4) := by rw [e_5]; exact hD
    clear e_5
    refine lv_iload_n hx hb dX6_settle_22 rfl (lv_at hl 1 rfl) ?_
    obtain rfl := (Option.some.inj hf)
    exact wr_i F rfl hP hS dX6_settle_23
def X6_puppet (K : SMain) (x1 : Int32) (x2 : Int32) : Option (SMain × Int32) := (bnd (K.1, K.2.1, K.2.2.1, K.2.2.2.1, K.2.2.2.1, K.2.2.2.2.2) fun M_1 => ((X1_addPuppet M_1.2.2.2.2.1 x1 x2).bind fun u_3 => (bnd (M_1.1, M_1.2.1, M_1.2.2.1, M_1.2.2.2.1, u_3.1, M_1.2.2.2.2.2) fun M_5 => ((X6_settle M_5 u_3.2).bind fun u_7 => some (u_7.1, u_7.2)))))
abbrev rm_X6_puppet : Room := { frames := 6, cells := 0, slots := 0, locals := 145 }
set_option maxHeartbeats 4000000 in
set_option maxRecDepth 100000 in
theorem c_X6_puppet (l : Launch) (D : va_G) (cI cP : ClassId) (o h : Nat) (tx tn : Nat → Nat) (Ad : Nat → Nat → Nat) (K : SMain) (x1 : Int32) (x2 : Int32) (z : SMain × Int32) (hf : X6_puppet K x1 x2 = some z) : MWi l yX6_puppet cX6_puppet 3 (some .int) rm_X6_puppet D cI cP [.ref o, .int x1, .int x2] (wMain cI cP o h tx tn Ad K) (wMain cI cP o h tx tn Ad z.1) z.2 := by
  refine MWi.of (by decide +kernel) (Nat.le_of_ble_eq_true rfl) ?_
  intro p e s m args below meth c ls A F hX hP hD hA hS hl
  have F : Fx p s m args meth c RX6 cX6_puppet 3 (some .int) := F
  have hx := F.1
  have hb := F.2.1
  have hown := F.2.2.2.1
  have hts := F.2.2.2.2.1
  have hl : lv_has ls 3 [(0, .ref o), (1, .int x1), (2, .int x2)] := hl
  unfold X6_puppet at hf
  refine lv_aload_n hx hb dX6_puppet_0 rfl (lv_at hl 0 rfl) ?_
  refine gX6_16 F hX hP 0 rfl (v := .ref (Ad 1 0)) rfl dX6_puppet_1 ?_
  refine lv_aload_n hx hb dX6_puppet_4 rfl (lv_at hl 0 rfl) ?_
  refine gX6_10 F hX hP 0 rfl (v := .ref (Ad 0 0)) rfl dX6_puppet_5 ?_
  refine k_wv (runVN F hX wdX6_37 (rm := rm_X1_copyFrom) (As := [.ref (Ad 0 0)]) (rest := []) ⟨rfl, rfl⟩ ⟨Nat.le_of_ble_eq_true rfl, Nat.le_of_ble_eq_true rfl⟩ hl.1 rfl rfl (Nat.le_of_ble_eq_true rfl) dX6_puppet_8 ⟨Nat.zero_le _, Nat.zero_le _⟩) (k_pcopy l D cI cP (Ad 1) (Ad 0) K.2.2.2.2.1 K.2.2.2.1) hX (va_recv hX.1 (va_blk (Bs := (bMain cI cP o h tx tn Ad K)) hP 5 rfl) (ci := 1) (q0 := 0) rfl rfl) (Cut.two (Bs := (bMain cI cP o h tx tn Ad K)) (k := 5) (j := 4) rfl rfl (by decide) rfl) hP hD hS hA (fun H locs hP hD hS => ?_)
  obtain ⟨M_1, e_2, hf⟩ := bnd_e hf
  have hP : va_P D vwCl (wMain cI cP o h tx tn Ad M_1) H := by rw [e_2]; exact hP
  have hD : va_D A (wMain cI cP o h tx tn Ad M_1) := by rw [e_2]; exact hD
  clear e_2
  refine lv_aload_n hx hb dX6_puppet_11 rfl (lv_at hl 0 rfl) ?_
  refine lv_aload_n hx hb dX6_puppet_12 rfl (lv_at hl 0 rfl) ?_
  refine gX6_16 F hX hP 0 rfl (v := .ref (Ad 1 0)) rfl dX6_puppet_13 ?_
  refine lv_iload_n hx hb dX6_puppet_16 rfl (lv_at hl 1 rfl) ?_
  refine lv_iload_n hx hb dX6_puppet_17 rfl (lv_at hl 2 rfl) ?_
  obtain ⟨u_3, h_4, hf⟩ := ob hf
  refine k_wi (runVN F hX wdX6_41 (rm := rm_X1_addPuppet) (As := [.int x1, .int x2]) (rest := [.ref o]) ⟨rfl, rfl⟩ ⟨Nat.le_of_ble_eq_true rfl, Nat.le_of_ble_eq_true rfl⟩ hl.1 rfl rfl (Nat.le_of_ble_eq_true rfl) dX6_puppet_18 ⟨Nat.zero_le _, Nat.zero_le _⟩) (c_X1_addPuppet l D cI cP (Ad 1) M_1.2.2.2.2.1 x1 x2 _ h_4) hX (va_recv hX.1 (va_blk (Bs := (bMain cI cP o h tx tn Ad M_1)) hP 5 rfl) (ci := 1) (q0 := 0) rfl rfl) (Cut.one (Bs := (bMain cI cP o h tx tn Ad M_1)) (k := 5) rfl rfl) hP hD hS hA (fun H locs hP hD hS => ?_)
  obtain ⟨M_5, e_6, hf⟩ := bnd_e hf
  have hP : va_P D vwCl (wMain cI cP o h tx tn Ad M_5) H := by rw [e_6]; exact hP
  have hD : va_D A (wMain cI cP o h tx tn Ad M_5) := by rw [e_6]; exact hD
  clear e_6
  obtain ⟨u_7, h_8, hf⟩ := ob hf
  refine k_wi (runV F wdX6_45 (rm := rm_X6_settle) (As := [.int u_3.2]) (rest := []) ⟨rfl, rfl⟩ ⟨Nat.le_of_ble_eq_true rfl, Nat.le_of_ble_eq_true rfl⟩ hl.1 rfl rfl (Nat.le_of_ble_eq_true rfl) dX6_puppet_21 ⟨Nat.zero_le _, Nat.zero_le _⟩) (c_X6_settle l D cI cP o h tx tn Ad M_5 u_3.2 _ h_8) hX (va_recv hX.1 hP (ci := 6) (q0 := 0) rfl rfl) (Cut.all rfl) hP hD hS hA (fun H locs hP hD hS => ?_)
  have hP : va_P D vwCl (wMain cI cP o h tx tn Ad u_7.1) H := hP
  have hD : va_D A (wMain cI cP o h tx tn Ad u_7.1) := hD
  obtain rfl := (Option.some.inj hf)
  exact wr_i F rfl hP hS dX6_puppet_24
def X6_tie (K : SMain) (x1 : Int32) (x2 : Int32) (x3 : Int32) (x4 : Int32) : Option (SMain × Int32) := (bnd (K.1, K.2.1, K.2.2.1, K.2.2.2.1, K.2.2.2.1, K.2.2.2.2.2) fun M_1 => (if x3 = 0 then ((X1_addString M_1.2.2.2.2.1 x1 x2 0 x4).bind fun u_4 => (bnd (M_1.1, M_1.2.1, M_1.2.2.1, M_1.2.2.2.1, u_4.1, M_1.2.2.2.2.2) fun M_6 => ((X6_settle M_6 u_4.2).bind fun u_8 => some (u_8.1, u_8.2)))) else ((X1_addString M_1.2.2.2.2.1 x1 x2 1 x4).bind fun u_10 => (bnd (M_1.1, M_1.2.1, M_1.2.2.1, M_1.2.2.2.1, u_10.1, M_1.2.2.2.2.2) fun M_12 => ((X6_settle M_12 u_10.2).bind fun u_14 => some (u_14.1, u_14.2))))))
abbrev rm_X6_tie : Room := { frames := 6, cells := 0, slots := 0, locals := 145 }
set_option maxHeartbeats 4000000 in
set_option maxRecDepth 100000 in
theorem c_X6_tie (l : Launch) (D : va_G) (cI cP : ClassId) (o h : Nat) (tx tn : Nat → Nat) (Ad : Nat → Nat → Nat) (K : SMain) (x1 : Int32) (x2 : Int32) (x3 : Int32) (x4 : Int32) (z : SMain × Int32) (hf : X6_tie K x1 x2 x3 x4 = some z) : MWi l yX6_tie cX6_tie 5 (some .int) rm_X6_tie D cI cP [.ref o, .int x1, .int x2, .int x3, .int x4] (wMain cI cP o h tx tn Ad K) (wMain cI cP o h tx tn Ad z.1) z.2 := by
  refine MWi.of (by decide +kernel) (Nat.le_of_ble_eq_true rfl) ?_
  intro p e s m args below meth c ls A F hX hP hD hA hS hl
  have F : Fx p s m args meth c RX6 cX6_tie 5 (some .int) := F
  have hx := F.1
  have hb := F.2.1
  have hown := F.2.2.2.1
  have hts := F.2.2.2.2.1
  have hl : lv_has ls 5 [(0, .ref o), (1, .int x1), (2, .int x2), (3, .int x3), (4, .int x4)] := hl
  unfold X6_tie at hf
  refine lv_aload_n hx hb dX6_tie_0 rfl (lv_at hl 0 rfl) ?_
  refine gX6_16 F hX hP 0 rfl (v := .ref (Ad 1 0)) rfl dX6_tie_1 ?_
  refine lv_aload_n hx hb dX6_tie_4 rfl (lv_at hl 0 rfl) ?_
  refine gX6_10 F hX hP 0 rfl (v := .ref (Ad 0 0)) rfl dX6_tie_5 ?_
  refine k_wv (runVN F hX wdX6_37 (rm := rm_X1_copyFrom) (As := [.ref (Ad 0 0)]) (rest := []) ⟨rfl, rfl⟩ ⟨Nat.le_of_ble_eq_true rfl, Nat.le_of_ble_eq_true rfl⟩ hl.1 rfl rfl (Nat.le_of_ble_eq_true rfl) dX6_tie_8 ⟨Nat.zero_le _, Nat.zero_le _⟩) (k_pcopy l D cI cP (Ad 1) (Ad 0) K.2.2.2.2.1 K.2.2.2.1) hX (va_recv hX.1 (va_blk (Bs := (bMain cI cP o h tx tn Ad K)) hP 5 rfl) (ci := 1) (q0 := 0) rfl rfl) (Cut.two (Bs := (bMain cI cP o h tx tn Ad K)) (k := 5) (j := 4) rfl rfl (by decide) rfl) hP hD hS hA (fun H locs hP hD hS => ?_)
  obtain ⟨M_1, e_2, hf⟩ := bnd_e hf
  have hP : va_P D vwCl (wMain cI cP o h tx tn Ad M_1) H := by rw [e_2]; exact hP
  have hD : va_D A (wMain cI cP o h tx tn Ad M_1) := by rw [e_2]; exact hD
  clear e_2
  refine lv_aload_n hx hb dX6_tie_11 rfl (lv_at hl 0 rfl) ?_
  refine lv_aload_n hx hb dX6_tie_12 rfl (lv_at hl 0 rfl) ?_
  refine gX6_16 F hX hP 0 rfl (v := .ref (Ad 1 0)) rfl dX6_tie_13 ?_
  refine lv_iload_n hx hb dX6_tie_16 rfl (lv_at hl 1 rfl) ?_
  refine lv_iload_n hx hb dX6_tie_17 rfl (lv_at hl 2 rfl) ?_
  refine lv_iload_n hx hb dX6_tie_18 rfl (lv_at hl 3 rfl) ?_
  refine lv_if_eq (tgt := 26) hx hb dX6_tie_19 (by decide) (fun c_3 => ?_) (fun c_3 => ?_)
  · replace hf := (if_pos c_3).symm.trans hf
    refine lv_iconst (v := 0) hx hb dX6_tie_26 (by decide) ?_
    refine lv_iload hx hb dX6_tie_27 (lv_at hl 4 rfl) ?_
    obtain ⟨u_4, h_5, hf⟩ := ob hf
    refine k_wi (runVN F hX wdX6_49 (rm := rm_X1_addString) (As := [.int x1, .int x2, .int 0, .int x4]) (rest := [.ref o]) ⟨rfl, rfl⟩ ⟨Nat.le_of_ble_eq_true rfl, Nat.le_of_ble_eq_true rfl⟩ hl.1 rfl rfl (Nat.le_of_ble_eq_true rfl) dX6_tie_29 ⟨Nat.zero_le _, Nat.zero_le _⟩) (c_X1_addString l D cI cP (Ad 1) M_1.2.2.2.2.1 x1 x2 0 x4 _ h_5) hX (va_recv hX.1 (va_blk (Bs := (bMain cI cP o h tx tn Ad M_1)) hP 5 rfl) (ci := 1) (q0 := 0) rfl rfl) (Cut.one (Bs := (bMain cI cP o h tx tn Ad M_1)) (k := 5) rfl rfl) hP hD hS hA (fun H locs hP hD hS => ?_)
    obtain ⟨M_6, e_7, hf⟩ := bnd_e hf
    have hP : va_P D vwCl (wMain cI cP o h tx tn Ad M_6) H := by rw [e_7]; exact hP
    have hD : va_D A (wMain cI cP o h tx tn Ad M_6) := by rw [e_7]; exact hD
    clear e_7
    obtain ⟨u_8, h_9, hf⟩ := ob hf
    refine k_wi (runV F wdX6_45 (rm := rm_X6_settle) (As := [.int u_4.2]) (rest := []) ⟨rfl, rfl⟩ ⟨Nat.le_of_ble_eq_true rfl, Nat.le_of_ble_eq_true rfl⟩ hl.1 rfl rfl (Nat.le_of_ble_eq_true rfl) dX6_tie_32 ⟨Nat.zero_le _, Nat.zero_le _⟩) (c_X6_settle l D cI cP o h tx tn Ad M_6 u_4.2 _ h_9) hX (va_recv hX.1 hP (ci := 6) (q0 := 0) rfl rfl) (Cut.all rfl) hP hD hS hA (fun H locs hP hD hS => ?_)
    have hP : va_P D vwCl (wMain cI cP o h tx tn Ad u_8.1) H := hP
    have hD : va_D A (wMain cI cP o h tx tn Ad u_8.1) := hD
    obtain rfl := (Option.some.inj hf)
    exact wr_i F rfl hP hS dX6_tie_35
  · replace hf := (if_neg c_3).symm.trans hf
    refine lv_iconst (v := 1) hx hb dX6_tie_22 (by decide) ?_
    refine lv_goto (tgt := 27) hx hb dX6_tie_23 (by decide) ?_
    refine lv_iload hx hb dX6_tie_27 (lv_at hl 4 rfl) ?_
    obtain ⟨u_10, h_11, hf⟩ := ob hf
    refine k_wi (runVN F hX wdX6_49 (rm := rm_X1_addString) (As := [.int x1, .int x2, .int 1, .int x4]) (rest := [.ref o]) ⟨rfl, rfl⟩ ⟨Nat.le_of_ble_eq_true rfl, Nat.le_of_ble_eq_true rfl⟩ hl.1 rfl rfl (Nat.le_of_ble_eq_true rfl) dX6_tie_29 ⟨Nat.zero_le _, Nat.zero_le _⟩) (c_X1_addString l D cI cP (Ad 1) M_1.2.2.2.2.1 x1 x2 1 x4 _ h_11) hX (va_recv hX.1 (va_blk (Bs := (bMain cI cP o h tx tn Ad M_1)) hP 5 rfl) (ci := 1) (q0 := 0) rfl rfl) (Cut.one (Bs := (bMain cI cP o h tx tn Ad M_1)) (k := 5) rfl rfl) hP hD hS hA (fun H locs hP hD hS => ?_)
    obtain ⟨M_12, e_13, hf⟩ := bnd_e hf
    have hP : va_P D vwCl (wMain cI cP o h tx tn Ad M_12) H := by rw [e_13]; exact hP
    have hD : va_D A (wMain cI cP o h tx tn Ad M_12) := by rw [e_13]; exact hD
    clear e_13
    obtain ⟨u_14, h_15, hf⟩ := ob hf
    refine k_wi (runV F wdX6_45 (rm := rm_X6_settle) (As := [.int u_10.2]) (rest := []) ⟨rfl, rfl⟩ ⟨Nat.le_of_ble_eq_true rfl, Nat.le_of_ble_eq_true rfl⟩ hl.1 rfl rfl (Nat.le_of_ble_eq_true rfl) dX6_tie_32 ⟨Nat.zero_le _, Nat.zero_le _⟩) (c_X6_settle l D cI cP o h tx tn Ad M_12 u_10.2 _ h_15) hX (va_recv hX.1 hP (ci := 6) (q0 := 0) rfl rfl) (Cut.all rfl) hP hD hS hA (fun H locs hP hD hS => ?_)
    have hP : va_P D vwCl (wMain cI cP o h tx tn Ad u_14.1) H := hP
    have hD : va_D A (wMain cI cP o h tx tn Ad u_14.1) := hD
    obtain rfl := (Option.some.inj hf)
    exact wr_i F rfl hP hS dX6_tie_35
def X6_cut (K : SMain) (x1 : Int32) : Option (SMain × Int32) := (bnd (K.1, K.2.1, K.2.2.1, K.2.2.2.1, K.2.2.2.1, K.2.2.2.2.2) fun M_1 => ((X1_cutString M_1.2.2.2.2.1 x1).bind fun u_3 => (bnd (M_1.1, M_1.2.1, M_1.2.2.1, M_1.2.2.2.1, u_3.1, M_1.2.2.2.2.2) fun M_5 => ((X6_settle M_5 u_3.2).bind fun u_7 => some (u_7.1, u_7.2)))))
abbrev rm_X6_cut : Room := { frames := 6, cells := 0, slots := 0, locals := 145 }
set_option maxHeartbeats 4000000 in
set_option maxRecDepth 100000 in
theorem c_X6_cut (l : Launch) (D : va_G) (cI cP : ClassId) (o h : Nat) (tx tn : Nat → Nat) (Ad : Nat → Nat → Nat) (K : SMain) (x1 : Int32) (z : SMain × Int32) (hf : X6_cut K x1 = some z) : MWi l yX6_cut cX6_cut 2 (some .int) rm_X6_cut D cI cP [.ref o, .int x1] (wMain cI cP o h tx tn Ad K) (wMain cI cP o h tx tn Ad z.1) z.2 := by
  refine MWi.of (by decide +kernel) (Nat.le_of_ble_eq_true rfl) ?_
  intro p e s m args below meth c ls A F hX hP hD hA hS hl
  have F : Fx p s m args meth c RX6 cX6_cut 2 (some .int) := F
  have hx := F.1
  have hb := F.2.1
  have hown := F.2.2.2.1
  have hts := F.2.2.2.2.1
  have hl : lv_has ls 2 [(0, .ref o), (1, .int x1)] := hl
  unfold X6_cut at hf
  refine lv_aload_n hx hb dX6_cut_0 rfl (lv_at hl 0 rfl) ?_
  refine gX6_16 F hX hP 0 rfl (v := .ref (Ad 1 0)) rfl dX6_cut_1 ?_
  refine lv_aload_n hx hb dX6_cut_4 rfl (lv_at hl 0 rfl) ?_
  refine gX6_10 F hX hP 0 rfl (v := .ref (Ad 0 0)) rfl dX6_cut_5 ?_
  refine k_wv (runVN F hX wdX6_37 (rm := rm_X1_copyFrom) (As := [.ref (Ad 0 0)]) (rest := []) ⟨rfl, rfl⟩ ⟨Nat.le_of_ble_eq_true rfl, Nat.le_of_ble_eq_true rfl⟩ hl.1 rfl rfl (Nat.le_of_ble_eq_true rfl) dX6_cut_8 ⟨Nat.zero_le _, Nat.zero_le _⟩) (k_pcopy l D cI cP (Ad 1) (Ad 0) K.2.2.2.2.1 K.2.2.2.1) hX (va_recv hX.1 (va_blk (Bs := (bMain cI cP o h tx tn Ad K)) hP 5 rfl) (ci := 1) (q0 := 0) rfl rfl) (Cut.two (Bs := (bMain cI cP o h tx tn Ad K)) (k := 5) (j := 4) rfl rfl (by decide) rfl) hP hD hS hA (fun H locs hP hD hS => ?_)
  obtain ⟨M_1, e_2, hf⟩ := bnd_e hf
  have hP : va_P D vwCl (wMain cI cP o h tx tn Ad M_1) H := by rw [e_2]; exact hP
  have hD : va_D A (wMain cI cP o h tx tn Ad M_1) := by rw [e_2]; exact hD
  clear e_2
  refine lv_aload_n hx hb dX6_cut_11 rfl (lv_at hl 0 rfl) ?_
  refine lv_aload_n hx hb dX6_cut_12 rfl (lv_at hl 0 rfl) ?_
  refine gX6_16 F hX hP 0 rfl (v := .ref (Ad 1 0)) rfl dX6_cut_13 ?_
  refine lv_iload_n hx hb dX6_cut_16 rfl (lv_at hl 1 rfl) ?_
  obtain ⟨u_3, h_4, hf⟩ := ob hf
  refine k_wi (runVN F hX wdX6_53 (rm := rm_X1_cutString) (As := [.int x1]) (rest := [.ref o]) ⟨rfl, rfl⟩ ⟨Nat.le_of_ble_eq_true rfl, Nat.le_of_ble_eq_true rfl⟩ hl.1 rfl rfl (Nat.le_of_ble_eq_true rfl) dX6_cut_17 ⟨Nat.zero_le _, Nat.zero_le _⟩) (c_X1_cutString l D cI cP (Ad 1) M_1.2.2.2.2.1 x1 _ h_4) hX (va_recv hX.1 (va_blk (Bs := (bMain cI cP o h tx tn Ad M_1)) hP 5 rfl) (ci := 1) (q0 := 0) rfl rfl) (Cut.one (Bs := (bMain cI cP o h tx tn Ad M_1)) (k := 5) rfl rfl) hP hD hS hA (fun H locs hP hD hS => ?_)
  obtain ⟨M_5, e_6, hf⟩ := bnd_e hf
  have hP : va_P D vwCl (wMain cI cP o h tx tn Ad M_5) H := by rw [e_6]; exact hP
  have hD : va_D A (wMain cI cP o h tx tn Ad M_5) := by rw [e_6]; exact hD
  clear e_6
  obtain ⟨u_7, h_8, hf⟩ := ob hf
  refine k_wi (runV F wdX6_45 (rm := rm_X6_settle) (As := [.int u_3.2]) (rest := []) ⟨rfl, rfl⟩ ⟨Nat.le_of_ble_eq_true rfl, Nat.le_of_ble_eq_true rfl⟩ hl.1 rfl rfl (Nat.le_of_ble_eq_true rfl) dX6_cut_20 ⟨Nat.zero_le _, Nat.zero_le _⟩) (c_X6_settle l D cI cP o h tx tn Ad M_5 u_3.2 _ h_8) hX (va_recv hX.1 hP (ci := 6) (q0 := 0) rfl rfl) (Cut.all rfl) hP hD hS hA (fun H locs hP hD hS => ?_)
  have hP : va_P D vwCl (wMain cI cP o h tx tn Ad u_7.1) H := hP
  have hD : va_D A (wMain cI cP o h tx tn Ad u_7.1) := hD
  obtain rfl := (Option.some.inj hf)
  exact wr_i F rfl hP hS dX6_cut_23
def X6_cutDeal (K : SMain) (x1 : Int32) : Option (SMain × Int32) := (bnd (K.1, K.2.1, K.2.2.1, K.2.2.2.1, K.2.2.2.1, K.2.2.2.2.2) fun M_1 => ((X1_cutStringsOf M_1.2.2.2.2.1 x1).bind fun u_3 => (bnd (M_1.1, M_1.2.1, M_1.2.2.1, M_1.2.2.2.1, u_3.1, M_1.2.2.2.2.2) fun M_5 => ((X6_settle M_5 u_3.2).bind fun u_7 => some (u_7.1, u_7.2)))))
abbrev rm_X6_cutDeal : Room := { frames := 6, cells := 0, slots := 0, locals := 145 }
set_option maxHeartbeats 4000000 in
set_option maxRecDepth 100000 in
theorem c_X6_cutDeal (l : Launch) (D : va_G) (cI cP : ClassId) (o h : Nat) (tx tn : Nat → Nat) (Ad : Nat → Nat → Nat) (K : SMain) (x1 : Int32) (z : SMain × Int32) (hf : X6_cutDeal K x1 = some z) : MWi l yX6_cutDeal cX6_cutDeal 2 (some .int) rm_X6_cutDeal D cI cP [.ref o, .int x1] (wMain cI cP o h tx tn Ad K) (wMain cI cP o h tx tn Ad z.1) z.2 := by
  refine MWi.of (by decide +kernel) (Nat.le_of_ble_eq_true rfl) ?_
  intro p e s m args below meth c ls A F hX hP hD hA hS hl
  have F : Fx p s m args meth c RX6 cX6_cutDeal 2 (some .int) := F
  have hx := F.1
  have hb := F.2.1
  have hown := F.2.2.2.1
  have hts := F.2.2.2.2.1
  have hl : lv_has ls 2 [(0, .ref o), (1, .int x1)] := hl
  unfold X6_cutDeal at hf
  refine lv_aload_n hx hb dX6_cutDeal_0 rfl (lv_at hl 0 rfl) ?_
  refine gX6_16 F hX hP 0 rfl (v := .ref (Ad 1 0)) rfl dX6_cutDeal_1 ?_
  refine lv_aload_n hx hb dX6_cutDeal_4 rfl (lv_at hl 0 rfl) ?_
  refine gX6_10 F hX hP 0 rfl (v := .ref (Ad 0 0)) rfl dX6_cutDeal_5 ?_
  refine k_wv (runVN F hX wdX6_37 (rm := rm_X1_copyFrom) (As := [.ref (Ad 0 0)]) (rest := []) ⟨rfl, rfl⟩ ⟨Nat.le_of_ble_eq_true rfl, Nat.le_of_ble_eq_true rfl⟩ hl.1 rfl rfl (Nat.le_of_ble_eq_true rfl) dX6_cutDeal_8 ⟨Nat.zero_le _, Nat.zero_le _⟩) (k_pcopy l D cI cP (Ad 1) (Ad 0) K.2.2.2.2.1 K.2.2.2.1) hX (va_recv hX.1 (va_blk (Bs := (bMain cI cP o h tx tn Ad K)) hP 5 rfl) (ci := 1) (q0 := 0) rfl rfl) (Cut.two (Bs := (bMain cI cP o h tx tn Ad K)) (k := 5) (j := 4) rfl rfl (by decide) rfl) hP hD hS hA (fun H locs hP hD hS => ?_)
  obtain ⟨M_1, e_2, hf⟩ := bnd_e hf
  have hP : va_P D vwCl (wMain cI cP o h tx tn Ad M_1) H := by rw [e_2]; exact hP
  have hD : va_D A (wMain cI cP o h tx tn Ad M_1) := by rw [e_2]; exact hD
  clear e_2
  refine lv_aload_n hx hb dX6_cutDeal_11 rfl (lv_at hl 0 rfl) ?_
  refine lv_aload_n hx hb dX6_cutDeal_12 rfl (lv_at hl 0 rfl) ?_
  refine gX6_16 F hX hP 0 rfl (v := .ref (Ad 1 0)) rfl dX6_cutDeal_13 ?_
  refine lv_iload_n hx hb dX6_cutDeal_16 rfl (lv_at hl 1 rfl) ?_
  obtain ⟨u_3, h_4, hf⟩ := ob hf
  refine k_wi (runVN F hX wdX6_56 (rm := rm_X1_cutStringsOf) (As := [.int x1]) (rest := [.ref o]) ⟨rfl, rfl⟩ ⟨Nat.le_of_ble_eq_true rfl, Nat.le_of_ble_eq_true rfl⟩ hl.1 rfl rfl (Nat.le_of_ble_eq_true rfl) dX6_cutDeal_17 ⟨Nat.zero_le _, Nat.zero_le _⟩) (c_X1_cutStringsOf l D cI cP (Ad 1) M_1.2.2.2.2.1 x1 _ h_4) hX (va_recv hX.1 (va_blk (Bs := (bMain cI cP o h tx tn Ad M_1)) hP 5 rfl) (ci := 1) (q0 := 0) rfl rfl) (Cut.one (Bs := (bMain cI cP o h tx tn Ad M_1)) (k := 5) rfl rfl) hP hD hS hA (fun H locs hP hD hS => ?_)
  obtain ⟨M_5, e_6, hf⟩ := bnd_e hf
  have hP : va_P D vwCl (wMain cI cP o h tx tn Ad M_5) H := by rw [e_6]; exact hP
  have hD : va_D A (wMain cI cP o h tx tn Ad M_5) := by rw [e_6]; exact hD
  clear e_6
  obtain ⟨u_7, h_8, hf⟩ := ob hf
  refine k_wi (runV F wdX6_45 (rm := rm_X6_settle) (As := [.int u_3.2]) (rest := []) ⟨rfl, rfl⟩ ⟨Nat.le_of_ble_eq_true rfl, Nat.le_of_ble_eq_true rfl⟩ hl.1 rfl rfl (Nat.le_of_ble_eq_true rfl) dX6_cutDeal_20 ⟨Nat.zero_le _, Nat.zero_le _⟩) (c_X6_settle l D cI cP o h tx tn Ad M_5 u_3.2 _ h_8) hX (va_recv hX.1 hP (ci := 6) (q0 := 0) rfl rfl) (Cut.all rfl) hP hD hS hA (fun H locs hP hD hS => ?_)
  have hP : va_P D vwCl (wMain cI cP o h tx tn Ad u_7.1) H := hP
  have hD : va_D A (wMain cI cP o h tx tn Ad u_7.1) := hD
  obtain rfl := (Option.some.inj hf)
  exact wr_i F rfl hP hS dX6_cutDeal_23
def X6_pull (K : SMain) (x1 : Int32) (x2 : Int32) : Option (SMain × Int32) := (bnd (K.1, K.2.1, K.2.2.1, K.2.2.2.1, K.2.2.2.1, K.2.2.2.2.2) fun M_1 => ((X1_pullTo M_1.2.2.2.2.1 x1 x2).bind fun u_3 => (bnd (M_1.1, M_1.2.1, M_1.2.2.1, M_1.2.2.2.1, u_3.1, M_1.2.2.2.2.2) fun M_5 => ((X6_settle M_5 u_3.2).bind fun u_7 => some (u_7.1, u_7.2)))))
abbrev rm_X6_pull : Room := { frames := 6, cells := 0, slots := 0, locals := 145 }
set_option maxHeartbeats 4000000 in
set_option maxRecDepth 100000 in
theorem c_X6_pull (l : Launch) (D : va_G) (cI cP : ClassId) (o h : Nat) (tx tn : Nat → Nat) (Ad : Nat → Nat → Nat) (K : SMain) (x1 : Int32) (x2 : Int32) (z : SMain × Int32) (hf : X6_pull K x1 x2 = some z) : MWi l yX6_pull cX6_pull 3 (some .int) rm_X6_pull D cI cP [.ref o, .int x1, .int x2] (wMain cI cP o h tx tn Ad K) (wMain cI cP o h tx tn Ad z.1) z.2 := by
  refine MWi.of (by decide +kernel) (Nat.le_of_ble_eq_true rfl) ?_
  intro p e s m args below meth c ls A F hX hP hD hA hS hl
  have F : Fx p s m args meth c RX6 cX6_pull 3 (some .int) := F
  have hx := F.1
  have hb := F.2.1
  have hown := F.2.2.2.1
  have hts := F.2.2.2.2.1
  have hl : lv_has ls 3 [(0, .ref o), (1, .int x1), (2, .int x2)] := hl
  unfold X6_pull at hf
  refine lv_aload_n hx hb dX6_pull_0 rfl (lv_at hl 0 rfl) ?_
  refine gX6_16 F hX hP 0 rfl (v := .ref (Ad 1 0)) rfl dX6_pull_1 ?_
  refine lv_aload_n hx hb dX6_pull_4 rfl (lv_at hl 0 rfl) ?_
  refine gX6_10 F hX hP 0 rfl (v := .ref (Ad 0 0)) rfl dX6_pull_5 ?_
  refine k_wv (runVN F hX wdX6_37 (rm := rm_X1_copyFrom) (As := [.ref (Ad 0 0)]) (rest := []) ⟨rfl, rfl⟩ ⟨Nat.le_of_ble_eq_true rfl, Nat.le_of_ble_eq_true rfl⟩ hl.1 rfl rfl (Nat.le_of_ble_eq_true rfl) dX6_pull_8 ⟨Nat.zero_le _, Nat.zero_le _⟩) (k_pcopy l D cI cP (Ad 1) (Ad 0) K.2.2.2.2.1 K.2.2.2.1) hX (va_recv hX.1 (va_blk (Bs := (bMain cI cP o h tx tn Ad K)) hP 5 rfl) (ci := 1) (q0 := 0) rfl rfl) (Cut.two (Bs := (bMain cI cP o h tx tn Ad K)) (k := 5) (j := 4) rfl rfl (by decide) rfl) hP hD hS hA (fun H locs hP hD hS => ?_)
  obtain ⟨M_1, e_2, hf⟩ := bnd_e hf
  have hP : va_P D vwCl (wMain cI cP o h tx tn Ad M_1) H := by rw [e_2]; exact hP
  have hD : va_D A (wMain cI cP o h tx tn Ad M_1) := by rw [e_2]; exact hD
  clear e_2
  refine lv_aload_n hx hb dX6_pull_11 rfl (lv_at hl 0 rfl) ?_
  refine lv_aload_n hx hb dX6_pull_12 rfl (lv_at hl 0 rfl) ?_
  refine gX6_16 F hX hP 0 rfl (v := .ref (Ad 1 0)) rfl dX6_pull_13 ?_
  refine lv_iload_n hx hb dX6_pull_16 rfl (lv_at hl 1 rfl) ?_
  refine lv_iload_n hx hb dX6_pull_17 rfl (lv_at hl 2 rfl) ?_
  obtain ⟨u_3, h_4, hf⟩ := ob hf
  refine k_wi (runVN F hX wdX6_59 (rm := rm_X1_pullTo) (As := [.int x1, .int x2]) (rest := [.ref o]) ⟨rfl, rfl⟩ ⟨Nat.le_of_ble_eq_true rfl, Nat.le_of_ble_eq_true rfl⟩ hl.1 rfl rfl (Nat.le_of_ble_eq_true rfl) dX6_pull_18 ⟨Nat.zero_le _, Nat.zero_le _⟩) (c_X1_pullTo l D cI cP (Ad 1) M_1.2.2.2.2.1 x1 x2 _ h_4) hX (va_recv hX.1 (va_blk (Bs := (bMain cI cP o h tx tn Ad M_1)) hP 5 rfl) (ci := 1) (q0 := 0) rfl rfl) (Cut.one (Bs := (bMain cI cP o h tx tn Ad M_1)) (k := 5) rfl rfl) hP hD hS hA (fun H locs hP hD hS => ?_)
  obtain ⟨M_5, e_6, hf⟩ := bnd_e hf
  have hP : va_P D vwCl (wMain cI cP o h tx tn Ad M_5) H := by rw [e_6]; exact hP
  have hD : va_D A (wMain cI cP o h tx tn Ad M_5) := by rw [e_6]; exact hD
  clear e_6
  obtain ⟨u_7, h_8, hf⟩ := ob hf
  refine k_wi (runV F wdX6_45 (rm := rm_X6_settle) (As := [.int u_3.2]) (rest := []) ⟨rfl, rfl⟩ ⟨Nat.le_of_ble_eq_true rfl, Nat.le_of_ble_eq_true rfl⟩ hl.1 rfl rfl (Nat.le_of_ble_eq_true rfl) dX6_pull_21 ⟨Nat.zero_le _, Nat.zero_le _⟩) (c_X6_settle l D cI cP o h tx tn Ad M_5 u_3.2 _ h_8) hX (va_recv hX.1 hP (ci := 6) (q0 := 0) rfl rfl) (Cut.all rfl) hP hD hS hA (fun H locs hP hD hS => ?_)
  have hP : va_P D vwCl (wMain cI cP o h tx tn Ad u_7.1) H := hP
  have hD : va_D A (wMain cI cP o h tx tn Ad u_7.1) := hD
  obtain rfl := (Option.some.inj hf)
  exact wr_i F rfl hP hS dX6_pull_24
def X6_release (K : SMain) (x1 : Int32) : Option (SMain × Int32) := (bnd (K.1, K.2.1, K.2.2.1, K.2.2.2.1, K.2.2.2.1, K.2.2.2.2.2) fun M_1 => ((X1_letGo M_1.2.2.2.2.1 x1).bind fun u_3 => (bnd (M_1.1, M_1.2.1, M_1.2.2.1, M_1.2.2.2.1, u_3.1, M_1.2.2.2.2.2) fun M_5 => ((X6_settle M_5 u_3.2).bind fun u_7 => some (u_7.1, u_7.2)))))
abbrev rm_X6_release : Room := { frames := 6, cells := 0, slots := 0, locals := 145 }
set_option maxHeartbeats 4000000 in
set_option maxRecDepth 100000 in
theorem c_X6_release (l : Launch) (D : va_G) (cI cP : ClassId) (o h : Nat) (tx tn : Nat → Nat) (Ad : Nat → Nat → Nat) (K : SMain) (x1 : Int32) (z : SMain × Int32) (hf : X6_release K x1 = some z) : MWi l yX6_release cX6_release 2 (some .int) rm_X6_release D cI cP [.ref o, .int x1] (wMain cI cP o h tx tn Ad K) (wMain cI cP o h tx tn Ad z.1) z.2 := by
  refine MWi.of (by decide +kernel) (Nat.le_of_ble_eq_true rfl) ?_
  intro p e s m args below meth c ls A F hX hP hD hA hS hl
  have F : Fx p s m args meth c RX6 cX6_release 2 (some .int) := F
  have hx := F.1
  have hb := F.2.1
  have hown := F.2.2.2.1
  have hts := F.2.2.2.2.1
  have hl : lv_has ls 2 [(0, .ref o), (1, .int x1)] := hl
  unfold X6_release at hf
  refine lv_aload_n hx hb dX6_release_0 rfl (lv_at hl 0 rfl) ?_
  refine gX6_16 F hX hP 0 rfl (v := .ref (Ad 1 0)) rfl dX6_release_1 ?_
  refine lv_aload_n hx hb dX6_release_4 rfl (lv_at hl 0 rfl) ?_
  refine gX6_10 F hX hP 0 rfl (v := .ref (Ad 0 0)) rfl dX6_release_5 ?_
  refine k_wv (runVN F hX wdX6_37 (rm := rm_X1_copyFrom) (As := [.ref (Ad 0 0)]) (rest := []) ⟨rfl, rfl⟩ ⟨Nat.le_of_ble_eq_true rfl, Nat.le_of_ble_eq_true rfl⟩ hl.1 rfl rfl (Nat.le_of_ble_eq_true rfl) dX6_release_8 ⟨Nat.zero_le _, Nat.zero_le _⟩) (k_pcopy l D cI cP (Ad 1) (Ad 0) K.2.2.2.2.1 K.2.2.2.1) hX (va_recv hX.1 (va_blk (Bs := (bMain cI cP o h tx tn Ad K)) hP 5 rfl) (ci := 1) (q0 := 0) rfl rfl) (Cut.two (Bs := (bMain cI cP o h tx tn Ad K)) (k := 5) (j := 4) rfl rfl (by decide) rfl) hP hD hS hA (fun H locs hP hD hS => ?_)
  obtain ⟨M_1, e_2, hf⟩ := bnd_e hf
  have hP : va_P D vwCl (wMain cI cP o h tx tn Ad M_1) H := by rw [e_2]; exact hP
  have hD : va_D A (wMain cI cP o h tx tn Ad M_1) := by rw [e_2]; exact hD
  clear e_2
  refine lv_aload_n hx hb dX6_release_11 rfl (lv_at hl 0 rfl) ?_
  refine lv_aload_n hx hb dX6_release_12 rfl (lv_at hl 0 rfl) ?_
  refine gX6_16 F hX hP 0 rfl (v := .ref (Ad 1 0)) rfl dX6_release_13 ?_
  refine lv_iload_n hx hb dX6_release_16 rfl (lv_at hl 1 rfl) ?_
  obtain ⟨u_3, h_4, hf⟩ := ob hf
  refine k_wi (runVN F hX wdX6_62 (rm := rm_X1_letGo) (As := [.int x1]) (rest := [.ref o]) ⟨rfl, rfl⟩ ⟨Nat.le_of_ble_eq_true rfl, Nat.le_of_ble_eq_true rfl⟩ hl.1 rfl rfl (Nat.le_of_ble_eq_true rfl) dX6_release_17 ⟨Nat.zero_le _, Nat.zero_le _⟩) (c_X1_letGo l D cI cP (Ad 1) M_1.2.2.2.2.1 x1 _ h_4) hX (va_recv hX.1 (va_blk (Bs := (bMain cI cP o h tx tn Ad M_1)) hP 5 rfl) (ci := 1) (q0 := 0) rfl rfl) (Cut.one (Bs := (bMain cI cP o h tx tn Ad M_1)) (k := 5) rfl rfl) hP hD hS hA (fun H locs hP hD hS => ?_)
  obtain ⟨M_5, e_6, hf⟩ := bnd_e hf
  have hP : va_P D vwCl (wMain cI cP o h tx tn Ad M_5) H := by rw [e_6]; exact hP
  have hD : va_D A (wMain cI cP o h tx tn Ad M_5) := by rw [e_6]; exact hD
  clear e_6
  obtain ⟨u_7, h_8, hf⟩ := ob hf
  refine k_wi (runV F wdX6_45 (rm := rm_X6_settle) (As := [.int u_3.2]) (rest := []) ⟨rfl, rfl⟩ ⟨Nat.le_of_ble_eq_true rfl, Nat.le_of_ble_eq_true rfl⟩ hl.1 rfl rfl (Nat.le_of_ble_eq_true rfl) dX6_release_20 ⟨Nat.zero_le _, Nat.zero_le _⟩) (c_X6_settle l D cI cP o h tx tn Ad M_5 u_3.2 _ h_8) hX (va_recv hX.1 hP (ci := 6) (q0 := 0) rfl rfl) (Cut.all rfl) hP hD hS hA (fun H locs hP hD hS => ?_)
  have hP : va_P D vwCl (wMain cI cP o h tx tn Ad u_7.1) H := hP
  have hD : va_D A (wMain cI cP o h tx tn Ad u_7.1) := hD
  obtain rfl := (Option.some.inj hf)
  exact wr_i F rfl hP hS dX6_release_23
def X6_session (K : SMain) : Option (SMain × Int32) := (bnd (K.1, K.2.1, K.2.2.1, K.2.2.2.1, K.2.2.2.1, K.2.2.2.2.2) fun M_1 => ((X1_holdSession M_1.2.2.2.2.1).bind fun u_3 => (bnd (M_1.1, M_1.2.1, M_1.2.2.1, M_1.2.2.2.1, u_3.1, M_1.2.2.2.2.2) fun M_5 => ((X6_settle M_5 u_3.2).bind fun u_7 => some (u_7.1, u_7.2)))))
abbrev rm_X6_session : Room := { frames := 6, cells := 0, slots := 0, locals := 145 }
set_option maxHeartbeats 4000000 in
set_option maxRecDepth 100000 in
theorem c_X6_session (l : Launch) (D : va_G) (cI cP : ClassId) (o h : Nat) (tx tn : Nat → Nat) (Ad : Nat → Nat → Nat) (K : SMain) (z : SMain × Int32) (hf : X6_session K  = some z) : MWi l yX6_session cX6_session 1 (some .int) rm_X6_session D cI cP [.ref o] (wMain cI cP o h tx tn Ad K) (wMain cI cP o h tx tn Ad z.1) z.2 := by
  refine MWi.of (by decide +kernel) (Nat.le_of_ble_eq_true rfl) ?_
  intro p e s m args below meth c ls A F hX hP hD hA hS hl
  have F : Fx p s m args meth c RX6 cX6_session 1 (some .int) := F
  have hx := F.1
  have hb := F.2.1
  have hown := F.2.2.2.1
  have hts := F.2.2.2.2.1
  have hl : lv_has ls 1 [(0, .ref o)] := hl
  unfold X6_session at hf
  refine lv_aload_n hx hb dX6_session_0 rfl (lv_at hl 0 rfl) ?_
  refine gX6_16 F hX hP 0 rfl (v := .ref (Ad 1 0)) rfl dX6_session_1 ?_
  refine lv_aload_n hx hb dX6_session_4 rfl (lv_at hl 0 rfl) ?_
  refine gX6_10 F hX hP 0 rfl (v := .ref (Ad 0 0)) rfl dX6_session_5 ?_
  refine k_wv (runVN F hX wdX6_37 (rm := rm_X1_copyFrom) (As := [.ref (Ad 0 0)]) (rest := []) ⟨rfl, rfl⟩ ⟨Nat.le_of_ble_eq_true rfl, Nat.le_of_ble_eq_true rfl⟩ hl.1 rfl rfl (Nat.le_of_ble_eq_true rfl) dX6_session_8 ⟨Nat.zero_le _, Nat.zero_le _⟩) (k_pcopy l D cI cP (Ad 1) (Ad 0) K.2.2.2.2.1 K.2.2.2.1) hX (va_recv hX.1 (va_blk (Bs := (bMain cI cP o h tx tn Ad K)) hP 5 rfl) (ci := 1) (q0 := 0) rfl rfl) (Cut.two (Bs := (bMain cI cP o h tx tn Ad K)) (k := 5) (j := 4) rfl rfl (by decide) rfl) hP hD hS hA (fun H locs hP hD hS => ?_)
  obtain ⟨M_1, e_2, hf⟩ := bnd_e hf
  have hP : va_P D vwCl (wMain cI cP o h tx tn Ad M_1) H := by rw [e_2]; exact hP
  have hD : va_D A (wMain cI cP o h tx tn Ad M_1) := by rw [e_2]; exact hD
  clear e_2
  refine lv_aload_n hx hb dX6_session_11 rfl (lv_at hl 0 rfl) ?_
  refine lv_aload_n hx hb dX6_session_12 rfl (lv_at hl 0 rfl) ?_
  refine gX6_16 F hX hP 0 rfl (v := .ref (Ad 1 0)) rfl dX6_session_13 ?_
  obtain ⟨u_3, h_4, hf⟩ := ob hf
  refine k_wi (runVN F hX wdX6_65 (rm := rm_X1_holdSession) (As := []) (rest := [.ref o]) ⟨rfl, rfl⟩ ⟨Nat.le_of_ble_eq_true rfl, Nat.le_of_ble_eq_true rfl⟩ hl.1 rfl rfl (Nat.le_of_ble_eq_true rfl) dX6_session_16 ⟨Nat.zero_le _, Nat.zero_le _⟩) (c_X1_holdSession l D cI cP (Ad 1) M_1.2.2.2.2.1  _ h_4) hX (va_recv hX.1 (va_blk (Bs := (bMain cI cP o h tx tn Ad M_1)) hP 5 rfl) (ci := 1) (q0 := 0) rfl rfl) (Cut.one (Bs := (bMain cI cP o h tx tn Ad M_1)) (k := 5) rfl rfl) hP hD hS hA (fun H locs hP hD hS => ?_)
  obtain ⟨M_5, e_6, hf⟩ := bnd_e hf
  have hP : va_P D vwCl (wMain cI cP o h tx tn Ad M_5) H := by rw [e_6]; exact hP
  have hD : va_D A (wMain cI cP o h tx tn Ad M_5) := by rw [e_6]; exact hD
  clear e_6
  obtain ⟨u_7, h_8, hf⟩ := ob hf
  refine k_wi (runV F wdX6_45 (rm := rm_X6_settle) (As := [.int u_3.2]) (rest := []) ⟨rfl, rfl⟩ ⟨Nat.le_of_ble_eq_true rfl, Nat.le_of_ble_eq_true rfl⟩ hl.1 rfl rfl (Nat.le_of_ble_eq_true rfl) dX6_session_19 ⟨Nat.zero_le _, Nat.zero_le _⟩) (c_X6_settle l D cI cP o h tx tn Ad M_5 u_3.2 _ h_8) hX (va_recv hX.1 hP (ci := 6) (q0 := 0) rfl rfl) (Cut.all rfl) hP hD hS hA (fun H locs hP hD hS => ?_)
  have hP : va_P D vwCl (wMain cI cP o h tx tn Ad u_7.1) H := hP
  have hD : va_D A (wMain cI cP o h tx tn Ad u_7.1) := hD
  obtain rfl := (Option.some.inj hf)
  exact wr_i F rfl hP hS dX6_session_22
def X6_set (K : SMain) (x1 : Int32) (x2 : Int32) : Option (SMain × Int32) := (if x1 = 0 then (bnd (K.1, K.2.1, K.2.2.1, K.2.2.2.1, K.2.2.2.1, K.2.2.2.2.2) fun M_2 => (bnd (M_2.1, M_2.2.1, M_2.2.2.1, M_2.2.2.2.1, (X1_bindPulls M_2.2.2.2.2.1 x2).1, M_2.2.2.2.2.2) fun M_4 => ((X6_settle M_4 ((X1_bindPulls M_2.2.2.2.2.1 x2).2)).bind fun u_6 => some (u_6.1, u_6.2)))) else some (K, (-1000001)))
abbrev rm_X6_set : Room := { frames := 6, cells := 0, slots := 0, locals := 145 }
set_option maxHeartbeats 4000000 in
set_option maxRecDepth 100000 in
theorem c_X6_set (l : Launch) (D : va_G) (cI cP : ClassId) (o h : Nat) (tx tn : Nat → Nat) (Ad : Nat → Nat → Nat) (K : SMain) (x1 : Int32) (x2 : Int32) (z : SMain × Int32) (hf : X6_set K x1 x2 = some z) : MWi l yX6_set cX6_set 3 (some .int) rm_X6_set D cI cP [.ref o, .int x1, .int x2] (wMain cI cP o h tx tn Ad K) (wMain cI cP o h tx tn Ad z.1) z.2 := by
  refine MWi.of (by decide +kernel) (Nat.le_of_ble_eq_true rfl) ?_
  intro p e s m args below meth c ls A F hX hP hD hA hS hl
  have F : Fx p s m args meth c RX6 cX6_set 3 (some .int) := F
  have hx := F.1
  have hb := F.2.1
  have hown := F.2.2.2.1
  have hts := F.2.2.2.2.1
  have hl : lv_has ls 3 [(0, .ref o), (1, .int x1), (2, .int x2)] := hl
  unfold X6_set at hf
  refine lv_iload_n hx hb dX6_set_0 rfl (lv_at hl 1 rfl) ?_
  refine lv_if_eq (tgt := 7) hx hb dX6_set_1 (by decide) (fun c_1 => ?_) (fun c_1 => ?_)
  · replace hf := (if_pos c_1).symm.trans hf
    refine lv_aload_n hx hb dX6_set_7 rfl (lv_at hl 0 rfl) ?_
    refine gX6_16 F hX hP 0 rfl (v := .ref (Ad 1 0)) rfl dX6_set_8 ?_
    refine lv_aload_n hx hb dX6_set_11 rfl (lv_at hl 0 rfl) ?_
    refine gX6_10 F hX hP 0 rfl (v := .ref (Ad 0 0)) rfl dX6_set_12 ?_
    refine k_wv (runVN F hX wdX6_37 (rm := rm_X1_copyFrom) (As := [.ref (Ad 0 0)]) (rest := []) ⟨rfl, rfl⟩ ⟨Nat.le_of_ble_eq_true rfl, Nat.le_of_ble_eq_true rfl⟩ hl.1 rfl rfl (Nat.le_of_ble_eq_true rfl) dX6_set_15 ⟨Nat.zero_le _, Nat.zero_le _⟩) (k_pcopy l D cI cP (Ad 1) (Ad 0) K.2.2.2.2.1 K.2.2.2.1) hX (va_recv hX.1 (va_blk (Bs := (bMain cI cP o h tx tn Ad K)) hP 5 rfl) (ci := 1) (q0 := 0) rfl rfl) (Cut.two (Bs := (bMain cI cP o h tx tn Ad K)) (k := 5) (j := 4) rfl rfl (by decide) rfl) hP hD hS hA (fun H locs hP hD hS => ?_)
    obtain ⟨M_2, e_3, hf⟩ := bnd_e hf
    have hP : va_P D vwCl (wMain cI cP o h tx tn Ad M_2) H := by rw [e_3]; exact hP
    have hD : va_D A (wMain cI cP o h tx tn Ad M_2) := by rw [e_3]; exact hD
    clear e_3
    refine lv_aload_n hx hb dX6_set_18 rfl (lv_at hl 0 rfl) ?_
    refine lv_aload_n hx hb dX6_set_19 rfl (lv_at hl 0 rfl) ?_
    refine gX6_16 F hX hP 0 rfl (v := .ref (Ad 1 0)) rfl dX6_set_20 ?_
    refine lv_iload_n hx hb dX6_set_23 rfl (lv_at hl 2 rfl) ?_
    refine k_wi (runVN F hX wdX6_70 (rm := rm_X1_bindPulls) (As := [.int x2]) (rest := [.ref o]) ⟨rfl, rfl⟩ ⟨Nat.le_of_ble_eq_true rfl, Nat.le_of_ble_eq_true rfl⟩ hl.1 rfl rfl (Nat.le_of_ble_eq_true rfl) dX6_set_24 ⟨Nat.zero_le _, Nat.zero_le _⟩) (c_X1_bindPulls l D cI cP (Ad 1) M_2.2.2.2.2.1 x2 _ rfl) hX (va_recv hX.1 (va_blk (Bs := (bMain cI cP o h tx tn Ad M_2)) hP 5 rfl) (ci := 1) (q0 := 0) rfl rfl) (Cut.one (Bs := (bMain cI cP o h tx tn Ad M_2)) (k := 5) rfl rfl) hP hD hS hA (fun H locs hP hD hS => ?_)
    obtain ⟨M_4, e_5, hf⟩ := bnd_e hf
    have hP : va_P D vwCl (wMain cI cP o h tx tn Ad M_4) H := by rw [e_5]; exact hP
    have hD : va_D A (wMain cI cP o h tx tn Ad M_4) := by rw [e_5]; exact hD
    clear e_5
    obtain ⟨u_6, h_7, hf⟩ := ob hf
    refine k_wi (runV F wdX6_45 (rm := rm_X6_settle) (As := [.int ((X1_bindPulls M_2.2.2.2.2.1 x2).2)]) (rest := []) ⟨rfl, rfl⟩ ⟨Nat.le_of_ble_eq_true rfl, Nat.le_of_ble_eq_true rfl⟩ hl.1 rfl rfl (Nat.le_of_ble_eq_true rfl) dX6_set_27 ⟨Nat.zero_le _, Nat.zero_le _⟩) (c_X6_settle l D cI cP o h tx tn Ad M_4 ((X1_bindPulls M_2.2.2.2.2.1 x2).2) _ h_7) hX (va_recv hX.1 hP (ci := 6) (q0 := 0) rfl rfl) (Cut.all rfl) hP hD hS hA (fun H locs hP hD hS => ?_)
    have hP : va_P D vwCl (wMain cI cP o h tx tn Ad u_6.1) H := hP
    have hD : va_D A (wMain cI cP o h tx tn Ad u_6.1) := hD
    obtain rfl := (Option.some.inj hf)
    exact wr_i F rfl hP hS dX6_set_30
  · replace hf := (if_neg c_1).symm.trans hf
    refine lv_ldc (v := (-1000001)) hx hb hown (hts _ q_289) dX6_set_4 ?_
    obtain rfl := (Option.some.inj hf)
    exact wr_i F rfl hP hS dX6_set_6
