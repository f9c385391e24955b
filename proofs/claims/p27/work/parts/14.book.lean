def X0_copyFrom (K : SBook) (K2 : SBook) : SBook := (bnd (K2.1, K.2) fun M_1 => (bnd (M_1.1, (up M_1.2 0 (K2.2 0))) fun M_3 => (bnd (M_3.1, (up M_3.2 1 (K2.2 1))) fun M_5 => M_5)))
abbrev rm_X0_copyFrom : Room := { frames := 2, cells := 0, slots := 0, locals := 61 }
set_option maxHeartbeats 4000000 in
set_option maxRecDepth 100000 in
theorem c_X0_copyFrom (l : Launch) (D : va_G) (cI cP : ClassId) (a a2 : Nat → Nat) (K : SBook) (K2 : SBook) (z : SBook) (hf : X0_copyFrom K K2  = z) : MWv l yX0_copyFrom cX0_copyFrom 2 none rm_X0_copyFrom D cI cP [.ref (a 0), .ref (a2 0)] (wBook cI a K ++ wBook cI a2 K2) (wBook cI a z ++ wBook cI a2 K2) := by
  refine MWv.of (by decide +kernel) (Nat.le_of_ble_eq_true rfl) ?_
  intro p e s m args below meth c ls A F hX hP hD hA hS hl
  have F : Fx p s m args meth c RX0 cX0_copyFrom 2 none := F
  have hx := F.1
  have hb := F.2.1
  have hown := F.2.2.2.1
  have hts := F.2.2.2.2.1
  have hl : lv_has ls 2 [(0, .ref (a 0)), (1, .ref (a2 0))] := hl
  have hP : va_P D vwCl ((bBook cI a K ++ bBook cI a2 K2)).flatten s.heap := by rw [List.flatten_append]; exact hP
  have hD : va_D A ((bBook cI a K ++ bBook cI a2 K2)).flatten := by rw [List.flatten_append]; exact hD
  unfold X0_copyFrom at hf
  refine lv_aload_n hx hb dX0_copyFrom_0 rfl (lv_at hl 0 rfl) ?_
  refine gX0_14 F hX hP 0 rfl (v := .ref (a 1)) rfl dX0_copyFrom_1 ?_
  refine lv_aload_n hx hb dX0_copyFrom_4 rfl (lv_at hl 1 rfl) ?_
  refine gX0_14 F hX (vP_r hP) 0 rfl (v := .ref (a2 1)) rfl dX0_copyFrom_5 ?_
  refine k_wv (runVN F hX wdX0_20 (rm := rm_X2_copyFrom) (As := [.ref (a2 1)]) (rest := []) ⟨rfl, rfl⟩ ⟨Nat.le_of_ble_eq_true rfl, Nat.le_of_ble_eq_true rfl⟩ hl.1 rfl rfl (Nat.le_of_ble_eq_true rfl) dX0_copyFrom_8 ⟨Nat.zero_le _, Nat.zero_le _⟩) (k_rcopy l D cI cP (a 1) (a 2) (a2 1) (a2 2) 32 (by decide) K.1 K2.1) hX (va_recv hX.1 (va_blk (Bs := (bBook cI a K ++ bBook cI a2 K2)) hP 1 rfl) (ci := 2) (q0 := 0) rfl rfl) (Cut.two (Bs := (bBook cI a K ++ bBook cI a2 K2)) (k := 1) (j := 3) rfl rfl (by decide) rfl) hP hD hS hA (fun H locs hP hD hS => ?_)
  obtain ⟨M_1, e_2, hf⟩ := bnd_e hf
  have hP : va_P D vwCl ((bBook cI a M_1 ++ bBook cI a2 K2)).flatten H := by rw [e_2]; exact hP
  have hD : va_D A ((bBook cI a M_1 ++ bBook cI a2 K2)).flatten := by rw [e_2]; exact hD
  clear e_2
  refine lv_aload_n hx hb dX0_copyFrom_11 rfl (lv_at hl 0 rfl) ?_
  refine lv_aload_n hx hb dX0_copyFrom_12 rfl (lv_at hl 1 rfl) ?_
  refine gX0_24 F hX (vP_r hP) 0 rfl (v := .int (K2.2 0)) rfl dX0_copyFrom_13 ?_
  refine pX0_24 F hX hP hD hS 0 rfl (Nat.le_of_ble_eq_true rfl) dX0_copyFrom_16 (fun H locs hP hD hS => ?_)
  obtain ⟨M_3, e_4, hf⟩ := bnd_e hf
  have hP : va_P D vwCl ((bBook cI a M_3 ++ bBook cI a2 K2)).flatten H := by rw [e_4]; exact hP
  have hD : va_D A ((bBook cI a M_3 ++ bBook cI a2 K2)).flatten := by rw [e_4]; exact hD
  clear e_4
  refine lv_aload_n hx hb dX0_copyFrom_19 rfl (lv_at hl 0 rfl) ?_
  refine lv_aload_n hx hb dX0_copyFrom_20 rfl (lv_at hl 1 rfl) ?_
  refine gX0_28 F hX (vP_r hP) 0 rfl (v := .int (K2.2 1)) rfl dX0_copyFrom_21 ?_
  refine pX0_28 F hX hP hD hS 0 rfl (Nat.le_of_ble_eq_true rfl) dX0_copyFrom_24 (fun H locs hP hD hS => ?_)
  obtain ⟨M_5, e_6, hf⟩ := bnd_e hf
  have hP : va_P D vwCl ((bBook cI a M_5 ++ bBook cI a2 K2)).flatten H := by rw [e_6]; exact hP
  have hD : va_D A ((bBook cI a M_5 ++ bBook cI a2 K2)).flatten := by rw [e_6]; exact hD
  clear e_6
  obtain rfl := hf
  rw [List.flatten_append] at hP
  exact wr_v F hP hS dX0_copyFrom_27
def X0_kept (K : SBook) : Int32 := (if 8 < (K.2 0) then 8 else (K.2 0))
abbrev rm_X0_kept : Room := { frames := 1, cells := 0, slots := 0, locals := 13 }
set_option maxHeartbeats 4000000 in
set_option maxRecDepth 100000 in
theorem c_X0_kept (l : Launch) (D : va_G) (cI cP : ClassId) (a : Nat → Nat) (K : SBook) (z : Int32) (hf : X0_kept K  = z) : MRd l yX0_kept cX0_kept 1 (some .int) rm_X0_kept D cI cP [.ref (a 0)] (wBook cI a K) z := by
  refine MRd.of (by decide +kernel) (Nat.le_of_ble_eq_true rfl) ?_
  intro p e s m args below meth c ls F hX hP hS hl
  have F : Fx p s m args meth c RX0 cX0_kept 1 (some .int) := F
  have hx := F.1
  have hb := F.2.1
  have hown := F.2.2.2.1
  have hts := F.2.2.2.2.1
  have hA : ∀ q : Nat, s.heap.size ≤ q → (fun q : Nat => s.heap.size ≤ q) q := fun _ h => h
  have hl : lv_has ls 1 [(0, .ref (a 0))] := hl
  unfold X0_kept at hf
  refine lv_aload_n hx hb dX0_kept_0 rfl (lv_at hl 0 rfl) ?_
  refine gX0_24 F hX hP 0 rfl (v := .int (K.2 0)) rfl dX0_kept_1 ?_
  refine lv_bipush (v := 8) hx hb dX0_kept_4 (by decide) ?_
  refine va_mmin hx hb (F.2.2.1.trans hl.1.symm) hown (hts _ q_351) (hts _ q_352) (hts _ q_51) (hts _ q_353) (Nat.le_of_ble_eq_true rfl) (Nat.le_of_ble_eq_true rfl) (Nat.zero_le _) (Nat.zero_le _) dX0_kept_6 ?_
  exact rd_i F hf hS dX0_kept_9
def X0_entry (K : SBook) (x1 : Int32) (x2 : Int32) : Int32 := (rget 32 K.1 ((x1 * 4) + x2))
abbrev rm_X0_entry : Room := { frames := 1, cells := 0, slots := 0, locals := 21 }
set_option maxHeartbeats 4000000 in
set_option maxRecDepth 100000 in
theorem c_X0_entry (l : Launch) (D : va_G) (cI cP : ClassId) (a : Nat → Nat) (K : SBook) (x1 : Int32) (x2 : Int32) (z : Int32) (hf : X0_entry K x1 x2 = z) : MRd l yX0_entry cX0_entry 3 (some .int) rm_X0_entry D cI cP [.ref (a 0), .int x1, .int x2] (wBook cI a K) z := by
  refine MRd.of (by decide +kernel) (Nat.le_of_ble_eq_true rfl) ?_
  intro p e s m args below meth c ls F hX hP hS hl
  have F : Fx p s m args meth c RX0 cX0_entry 3 (some .int) := F
  have hx := F.1
  have hb := F.2.1
  have hown := F.2.2.2.1
  have hts := F.2.2.2.2.1
  have hA : ∀ q : Nat, s.heap.size ≤ q → (fun q : Nat => s.heap.size ≤ q) q := fun _ h => h
  have hl : lv_has ls 3 [(0, .ref (a 0)), (1, .int x1), (2, .int x2)] := hl
  unfold X0_entry at hf
  refine lv_aload_n hx hb dX0_entry_0 rfl (lv_at hl 0 rfl) ?_
  refine gX0_14 F hX hP 0 rfl (v := .ref (a 1)) rfl dX0_entry_1 ?_
  refine lv_iload_n hx hb dX0_entry_4 rfl (lv_at hl 1 rfl) ?_
  refine lv_iconst (v := 4) hx hb dX0_entry_5 (by decide) ?_
  refine lv_imul hx hb dX0_entry_6 ?_
  refine lv_iload_n hx hb dX0_entry_7 rfl (lv_at hl 2 rfl) ?_
  refine lv_iadd hx hb dX0_entry_8 ?_
  refine k_rd (runVN F hX wdX0_37 (rm := rm_X2_get) (As := [.int ((x1 * 4) + x2)]) (rest := []) ⟨rfl, rfl⟩ ⟨Nat.le_of_ble_eq_true rfl, Nat.le_of_ble_eq_true rfl⟩ hl.1 rfl rfl (Nat.le_of_ble_eq_true rfl) dX0_entry_9 ⟨Nat.zero_le _, Nat.zero_le _⟩) (k_rget l D cI cP (a 1) (a 2) 32 (by decide) K.1 ((x1 * 4) + x2)) hX (va_recv hX.1 (va_blk (Bs := (bBook cI a K)) hP 1 rfl) (ci := 2) (q0 := 0) rfl rfl) (va_blk (Bs := (bBook cI a K)) hP 1 rfl) hP hS hA (fun H locs hP hS => ?_)
  exact rd_i F hf hS dX0_entry_12
def X0_enter_L4 : Nat → SBook → Int32 → Int32 → Int32 → Int32 → Int32 → Option (SBook)
  | 0, _, _, _, _, _, _ => none
  | fu + 1, K_4, x1_4, x2_4, x3_4, x4_4, x5_4 => (if x5_4 < 4 then some K_4 else (bnd ((rput 32 K_4.1 x5_4 (rget 32 K_4.1 (x5_4 - 4))), K_4.2) fun M_2 => X0_enter_L4 fu M_2 x1_4 x2_4 x3_4 x4_4 (x5_4 + (-1))))
def X0_enter (K : SBook) (x1 : Int32) (x2 : Int32) (x3 : Int32) (x4 : Int32) : Option (SBook) := ((X0_enter_L4 FUEL K x1 x2 x3 x4 31).bind fun u_4 => (bnd ((rput 32 u_4.1 0 x1), u_4.2) fun M_6 => (bnd ((rput 32 M_6.1 1 x2), M_6.2) fun M_8 => (bnd ((rput 32 M_8.1 2 x3), M_8.2) fun M_10 => (bnd ((rput 32 M_10.1 3 x4), M_10.2) fun M_12 => (bnd (M_12.1, (up M_12.2 0 ((M_12.2 0) + 1))) fun M_14 => (bnd (M_14.1, (up M_14.2 1 ((M_14.2 1) + x3))) fun M_16 => some M_16)))))))
abbrev rm_X0_enter : Room := { frames := 1, cells := 0, slots := 0, locals := 22 }
set_option maxHeartbeats 4000000 in
set_option maxRecDepth 100000 in
theorem c_X0_enter (l : Launch) (D : va_G) (cI cP : ClassId) (a : Nat → Nat) (K : SBook) (x1 : Int32) (x2 : Int32) (x3 : Int32) (x4 : Int32) (z : SBook) (hf : X0_enter K x1 x2 x3 x4 = some z) : MWv l yX0_enter cX0_enter 6 none rm_X0_enter D cI cP [.ref (a 0), .int x1, .int x2, .int x3, .int x4] (wBook cI a K) (wBook cI a z) := by
  refine MWv.of (by decide +kernel) (Nat.le_of_ble_eq_true rfl) ?_
  intro p e s m args below meth c ls A F hX hP hD hA hS hl
  have F : Fx p s m args meth c RX0 cX0_enter 6 none := F
  have hx := F.1
  have hb := F.2.1
  have hown := F.2.2.2.1
  have hts := F.2.2.2.2.1
  have hl : lv_has ls 6 [(0, .ref (a 0)), (1, .int x1), (2, .int x2), (3, .int x3), (4, .int x4)] := hl
  unfold X0_enter at hf
  refine lv_bipush (v := 31) hx hb dX0_enter_0 (by decide) ?_
  refine lv_istore (lv' := [(5, .int 31), (0, .ref (a 0)), (1, .int x1), (2, .int x2), (3, .int x3), (4, .int x4)]) hx hb dX0_enter_2 hl (by decide) rfl (fun ls hl => ?_)
  have hL_4 : ∀ (fu : Nat) (K_4 : SBook) (x1_4 : Int32) (x2_4 : Int32) (x3_4 : Int32) (x4_4 : Int32) (x5_4 : Int32) (v : SBook) (H : Heap) (locs : List Loc) (ls : Array Slot), X0_enter_L4 fu K_4 x1_4 x2_4 x3_4 x4_4 x5_4 = some v → va_P D vwCl (wBook cI a K_4) H → va_D A (wBook cI a K_4) → va_S A s.heap H locs → lv_has ls 6 [(0, .ref (a 0)), (1, .int x1_4), (2, .int x2_4), (3, .int x3_4), (4, .int x4_4), (5, .int x5_4)] → (∀ (H : Heap) (locs : List Loc) (ls : Array Slot), va_P D vwCl (wBook cI a v) H → va_D A (wBook cI a v) → va_S A s.heap H locs → lv_has ls 6 [(0, .ref (a 0)), (1, .int x1_4), (2, .int x2_4), (3, .int x3_4), (4, .int x4_4)] → W p l e rm_X0_enter s m args below meth c H locs 0 0 (QWv D below args s A (wBook cI a z)) (F0 m 36 ls [])) → W p l e rm_X0_enter s m args below meth c H locs 0 0 (QWv D below args s A (wBook cI a z)) (F0 m 4 ls []) := by
    intro fu
    induction fu with
    | zero =>
      intro K_4 x1_4 x2_4 x3_4 x4_4 x5_4 v H locs ls hf
      exact absurd hf (by simp [X0_enter_L4])
    | succ fu ih =>
      intro K_4 x1_4 x2_4 x3_4 x4_4 x5_4 v _ _ ls hf hP hD hS hl hk
      rw [X0_enter_L4] at hf
      refine lv_iload hx hb dX0_enter_4 (lv_at hl 5 rfl) ?_
      refine lv_iconst (v := 4) hx hb dX0_enter_6 (by decide) ?_
      refine lv_icmp_lt (tgt := 36) hx hb dX0_enter_7 (by decide) (fun c_1 => ?_) (fun c_1 => ?_)
      · replace hf := (if_pos c_1).symm.trans hf
        obtain rfl := Option.some.inj hf
        exact hk _ _ ls hP hD hS (lv_sub hl [0, 1, 2, 3, 4] rfl)
      · replace hf := (if_neg c_1).symm.trans hf
        refine lv_aload_n hx hb dX0_enter_10 rfl (lv_at hl 0 rfl) ?_
        refine gX0_14 F hX hP 0 rfl (v := .ref (a 1)) rfl dX0_enter_11 ?_
        refine lv_iload hx hb dX0_enter_14 (lv_at hl 5 rfl) ?_
        refine lv_aload_n hx hb dX0_enter_16 rfl (lv_at hl 0 rfl) ?_
        refine gX0_14 F hX hP 0 rfl (v := .ref (a 1)) rfl dX0_enter_17 ?_
        refine lv_iload hx hb dX0_enter_20 (lv_at hl 5 rfl) ?_
        refine lv_iconst (v := 4) hx hb dX0_enter_22 (by decide) ?_
        refine lv_isub hx hb dX0_enter_23 ?_
        refine k_rd (runVN F hX wdX0_37 (rm := rm_X2_get) (As := [.int (x5_4 - 4)]) (rest := [.int x5_4, .ref (a 1)]) ⟨rfl, rfl⟩ ⟨Nat.le_of_ble_eq_true rfl, Nat.le_of_ble_eq_true rfl⟩ hl.1 rfl rfl (Nat.le_of_ble_eq_true rfl) dX0_enter_24 ⟨Nat.zero_le _, Nat.zero_le _⟩) (k_rget l D cI cP (a 1) (a 2) 32 (by decide) K_4.1 (x5_4 - 4)) hX (va_recv hX.1 (va_blk (Bs := (bBook cI a K_4)) hP 1 rfl) (ci := 2) (q0 := 0) rfl rfl) (va_blk (Bs := (bBook cI a K_4)) hP 1 rfl) hP hS hA (fun H locs hP hS => ?_)
        refine k_wv (runVN F hX wdX0_41 (rm := rm_X2_put) (As := [.int x5_4, .int (rget 32 K_4.1 (x5_4 - 4))]) (rest := []) ⟨rfl, rfl⟩ ⟨Nat.le_of_ble_eq_true rfl, Nat.le_of_ble_eq_true rfl⟩ hl.1 rfl rfl (Nat.le_of_ble_eq_true rfl) dX0_enter_27 ⟨Nat.zero_le _, Nat.zero_le _⟩) (k_rput l D cI cP (a 1) (a 2) 32 (by decide) K_4.1 x5_4 (rget 32 K_4.1 (x5_4 - 4))) hX (va_recv hX.1 (va_blk (Bs := (bBook cI a K_4)) hP 1 rfl) (ci := 2) (q0 := 0) rfl rfl) (Cut.one (Bs := (bBook cI a K_4)) (k := 1) rfl rfl) hP hD hS hA (fun H locs hP hD hS => ?_)
        obtain ⟨M_2, e_3, hf⟩ := bnd_e hf
        have hP : va_P D vwCl (wBook cI a M_2) H := by rw [e_3]; exact hP
        have hD : va_D A (wBook cI a M_2) := by rw [e_3]; exact hD
        clear e_3
        refine lv_iinc (v := (x5_4 + (-1))) (lv' := [(5, .int (x5_4 + (-1))), (0, .ref (a 0)), (1, .int x1_4), (2, .int x2_4), (3, .int x3_4), (4, .int x4_4)]) hx hb dX0_enter_30 hl (k := 5) rfl (by rfl) (by decide) rfl (fun ls hl => ?_)
        refine lv_goto (tgt := 4) hx hb dX0_enter_33 (by decide) ?_
        exact ih M_2 x1_4 x2_4 x3_4 x4_4 (x5_4 + (-1)) _ _ _ ls hf hP hD hS (lv_sub hl [1, 2, 3, 4, 5, 0] rfl) hk
  obtain ⟨u_4, h_5, hf⟩ := ob hf
  refine hL_4 FUEL K x1 x2 x3 x4 31 u_4 _ _ ls h_5 hP hD hS (lv_sub hl [1, 2, 3, 4, 5, 0] rfl) (fun H locs ls hP hD hS hl => ?_)
  clear hL_4
  refine lv_aload_n hx hb dX0_enter_36 rfl (lv_at hl 0 rfl) ?_
  refine gX0_14 F hX hP 0 rfl (v := .ref (a 1)) rfl dX0_enter_37 ?_
  refine lv_iconst (v := 0) hx hb dX0_enter_40 (by decide) ?_
  refine lv_iload_n hx hb dX0_enter_41 rfl (lv_at hl 1 rfl) ?_
  refine k_wv (runVN F hX wdX0_41 (rm := rm_X2_put) (As := [.int 0, .int x1]) (rest := []) ⟨rfl, rfl⟩ ⟨Nat.le_of_ble_eq_true rfl, Nat.le_of_ble_eq_true rfl⟩ hl.1 rfl rfl (Nat.le_of_ble_eq_true rfl) dX0_enter_42 ⟨Nat.zero_le _, Nat.zero_le _⟩) (k_rput l D cI cP (a 1) (a 2) 32 (by decide) u_4.1 0 x1) hX (va_recv hX.1 (va_blk (Bs := (bBook cI a u_4)) hP 1 rfl) (ci := 2) (q0 := 0) rfl rfl) (Cut.one (Bs := (bBook cI a u_4)) (k := 1) rfl rfl) hP hD hS hA (fun H locs hP hD hS => ?_)
  obtain ⟨M_6, e_7, hf⟩ := bnd_e hf
  have hP : va_P D vwCl (wBook cI a M_6) H := by rw [e_7]; exact hP
  have hD : va_D A (wBook cI a M_6) := by rw [e_7]; exact hD
  clear e_7
  refine lv_aload_n hx hb dX0_enter_45 rfl (lv_at hl 0 rfl) ?_
  refine gX0_14 F hX hP 0 rfl (v := .ref (a 1)) rfl dX0_enter_46 ?_
  refine lv_iconst (v := 1) hx hb dX0_enter_49 (by decide) ?_
  refine lv_iload_n hx hb dX0_enter_50 rfl (lv_at hl 2 rfl) ?_
  refine k_wv (runVN F hX wdX0_41 (rm := rm_X2_put) (As := [.int 1, .int x2]) (rest := []) ⟨rfl, rfl⟩ ⟨Nat.le_of_ble_eq_true rfl, Nat.le_of_ble_eq_true rfl⟩ hl.1 rfl rfl (Nat.le_of_ble_eq_true rfl) dX0_enter_51 ⟨Nat.zero_le _, Nat.zero_le _⟩) (k_rput l D cI cP (a 1) (a 2) 32 (by decide) M_6.1 1 x2) hX (va_recv hX.1 (va_blk (Bs := (bBook cI a M_6)) hP 1 rfl) (ci := 2) (q0 := 0) rfl rfl) (Cut.one (Bs := (bBook cI a M_6)) (k := 1) rfl rfl) hP hD hS hA (fun H locs hP hD hS => ?_)
  obtain ⟨M_8, e_9, hf⟩ := bnd_e hf
  have hP : va_P D vwCl (wBook cI a M_8) H := by rw [e_9]; exact hP
  have hD : va_D A (wBook cI a M_8) := by rw [e_9]; exact hD
  clear e_9
  refine lv_aload_n hx hb dX0_enter_54 rfl (lv_at hl 0 rfl) ?_
  refine gX0_14 F hX hP 0 rfl (v := .ref (a 1)) rfl dX0_enter_55 ?_
  refine lv_iconst (v := 2) hx hb dX0_enter_58 (by decide) ?_
  refine lv_iload_n hx hb dX0_enter_59 rfl (lv_at hl 3 rfl) ?_
  refine k_wv (runVN F hX wdX0_41 (rm := rm_X2_put) (As := [.int 2, .int x3]) (rest := []) ⟨rfl, rfl⟩ ⟨Nat.le_of_ble_eq_true rfl, Nat.le_of_ble_eq_true rfl⟩ hl.1 rfl rfl (Nat.le_of_ble_eq_true rfl) dX0_enter_60 ⟨Nat.zero_le _, Nat.zero_le _⟩) (k_rput l D cI cP (a 1) (a 2) 32 (by decide) M_8.1 2 x3) hX (va_recv hX.1 (va_blk (Bs := (bBook cI a M_8)) hP 1 rfl) (ci := 2) (q0 := 0) rfl rfl) (Cut.one (Bs := (bBook cI a M_8)) (k := 1) rfl rfl) hP hD hS hA (fun H locs hP hD hS => ?_)
  obtain ⟨M_10, e_11, hf⟩ := bnd_e hf
  have hP : va_P D vwCl (wBook cI a M_10) H := by rw [e_11]; exact hP
  have hD : va_D A (wBook cI a M_10) := by rw [e_11]; exact hD
  clear e_11
  refine lv_aload_n hx hb dX0_enter_63 rfl (lv_at hl 0 rfl) ?_
  refine gX0_14 F hX hP 0 rfl (v := .ref (a 1)) rfl dX0_enter_64 ?_
  refine lv_iconst (v := 3) hx hb dX0_enter_67 (by decide) ?_
  refine lv_iload hx hb dX0_enter_68 (lv_at hl 4 rfl) ?_
  refine k_wv (runVN F hX wdX0_41 (rm := rm_X2_put) (As := [.int 3, .int x4]) (rest := []) ⟨rfl, rfl⟩ ⟨Nat.le_of_ble_eq_true rfl, Nat.le_of_ble_eq_true rfl⟩ hl.1 rfl rfl (Nat.le_of_ble_eq_true rfl) dX0_enter_70 ⟨Nat.zero_le _, Nat.zero_le _⟩) (k_rput l D cI cP (a 1) (a 2) 32 (by decide) M_10.1 3 x4) hX (va_recv hX.1 (va_blk (Bs := (bBook cI a M_10)) hP 1 rfl) (ci := 2) (q0 := 0) rfl rfl) (Cut.one (Bs := (bBook cI a M_10)) (k := 1) rfl rfl) hP hD hS hA (fun H locs hP hD hS => ?_)
  obtain ⟨M_12, e_13, hf⟩ := bnd_e hf
  have hP : va_P D vwCl (wBook cI a M_12) H := by rw [e_13]; exact hP
  have hD : va_D A (wBook cI a M_12) := by rw [e_13]; exact hD
  clear e_13
  refine lv_aload_n hx hb dX0_enter_73 rfl (lv_at hl 0 rfl) ?_
  refine lv_dup hx hb dX0_enter_74 rfl ?_
  refine gX0_24 F hX hP 0 rfl (v := .int (M_12.2 0)) rfl dX0_enter_75 ?_
  refine lv_iconst (v := 1) hx hb dX0_enter_78 (by decide) ?_
  refine lv_iadd hx hb dX0_enter_79 ?_
  refine pX0_24 F hX hP hD hS 0 rfl (Nat.le_of_ble_eq_true rfl) dX0_enter_80 (fun H locs hP hD hS => ?_)
  obtain ⟨M_14, e_15, hf⟩ := bnd_e hf
  have hP : va_P D vwCl (wBook cI a M_14) H := by rw [e_15]; exact hP
  have hD : va_D A (wBook cI a M_14) := by rw [e_15]; exact hD
  clear e_15
  refine lv_aload_n hx hb dX0_enter_83 rfl (lv_at hl 0 rfl) ?_
  refine lv_dup hx hb dX0_enter_84 rfl ?_
  refine gX0_28 F hX hP 0 rfl (v := .int (M_14.2 1)) rfl dX0_enter_85 ?_
  refine lv_iload_n hx hb dX0_enter_88 rfl (lv_at hl 3 rfl) ?_
  refine lv_iadd hx hb dX0_enter_89 ?_
  refine pX0_28 F hX hP hD hS 0 rfl (Nat.le_of_ble_eq_true rfl) dX0_enter_90 (fun H locs hP hD hS => ?_)
  obtain ⟨M_16, e_17, hf⟩ := bnd_e hf
  have hP : va_P D vwCl (wBook cI a M_16) H := by rw [e_17]; exact hP
  have hD : va_D A (wBook cI a M_16) := by rw [e_17]; exact hD
  clear e_17
  obtain rfl := (Option.some.inj hf)
  exact wr_v F hP hS dX0_enter_93
