def X7_tiesOf_L4 : Nat → SMod → Int32 → Int32 → Int32 → Option (Int32)
  | 0, _, _, _, _ => none
  | fu + 1, K_4, x1_4, x2_4, x3_4 => (if ((K_4.1 0) (Int32.toNatClampNeg 149)) ≤ x3_4 then some x2_4 else ((X7_tied K_4 x3_4 0).bind fun u_2 => (if u_2 = x1_4 then X7_tiesOf_L4 fu K_4 x1_4 (x2_4 + 1) (x3_4 + 1) else ((X7_tied K_4 x3_4 1).bind fun u_5 => (if u_5 = x1_4 then X7_tiesOf_L4 fu K_4 x1_4 (x2_4 + 1) (x3_4 + 1) else X7_tiesOf_L4 fu K_4 x1_4 (x2_4 + 0) (x3_4 + 1))))))
def X7_tiesOf (K : SMod) (x1 : Int32) : Option (Int32) := ((X7_tiesOf_L4 FUEL K x1 0 0).bind fun u_8 => some u_8)
abbrev rm_X7_tiesOf : Room := { frames := 1, cells := 0, slots := 0, locals := 22 }
set_option maxHeartbeats 4000000 in
set_option maxRecDepth 100000 in
theorem c_X7_tiesOf (l : Launch) (D : va_G) (cI cP : ClassId) (a : Nat → Nat) (K : SMod) (x1 : Int32) (z : Int32) (hf : X7_tiesOf K x1 = some z) : MRd l yX7_tiesOf cX7_tiesOf 4 (some .int) rm_X7_tiesOf D cI cP [.ref (a 0), .int x1] (wMod cI a K) z := by
  refine MRd.of (by decide +kernel) (Nat.le_of_ble_eq_true rfl) ?_
  intro p e s m args below meth c ls F hX hP hS hl
  have F : Fx p s m args meth c RX7 cX7_tiesOf 4 (some .int) := F
  have hx := F.1
  have hb := F.2.1
  have hown := F.2.2.2.1
  have hts := F.2.2.2.2.1
  have hA : ∀ q : Nat, s.heap.size ≤ q → (fun q : Nat => s.heap.size ≤ q) q := fun _ h => h
  have hl : lv_has ls 4 [(0, .ref (a 0)), (1, .int x1)] := hl
  unfold X7_tiesOf at hf
  refine lv_iconst (v := 0) hx hb dX7_tiesOf_0 (by decide) ?_
  refine lv_istore_n (lv' := [(2, .int 0), (0, .ref (a 0)), (1, .int x1)]) hx hb dX7_tiesOf_1 rfl hl (by decide) rfl (fun ls hl => ?_)
  refine lv_iconst (v := 0) hx hb dX7_tiesOf_2 (by decide) ?_
  refine lv_istore_n (lv' := [(3, .int 0), (2, .int 0), (0, .ref (a 0)), (1, .int x1)]) hx hb dX7_tiesOf_3 rfl hl (by decide) rfl (fun ls hl => ?_)
  have hL_4 : ∀ (fu : Nat) (K_4 : SMod) (x1_4 : Int32) (x2_4 : Int32) (x3_4 : Int32) (v : Int32) (H : Heap) (locs : List Loc) (ls : Array Slot), X7_tiesOf_L4 fu K_4 x1_4 x2_4 x3_4 = some v → va_P D vwCl (wMod cI a K_4) H → va_S (fun q : Nat => s.heap.size ≤ q) s.heap H locs → lv_has ls 4 [(0, .ref (a 0)), (1, .int x1_4), (2, .int x2_4), (3, .int x3_4)] → (∀ (H : Heap) (locs : List Loc) (ls : Array Slot), va_P D vwCl (wMod cI a K_4) H → va_S (fun q : Nat => s.heap.size ≤ q) s.heap H locs → lv_has ls 4 [(2, .int v)] → W p l e rm_X7_tiesOf s m args below meth c H locs 0 0 (QR below args s z) (F0 m 50 ls [])) → W p l e rm_X7_tiesOf s m args below meth c H locs 0 0 (QR below args s z) (F0 m 4 ls []) := by
    intro fu
    induction fu with
    | zero =>
      intro K_4 x1_4 x2_4 x3_4 v H locs ls hf
      exact absurd hf (by simp [X7_tiesOf_L4])
    | succ fu ih =>
      intro K_4 x1_4 x2_4 x3_4 v _ _ ls hf hP hS hl hk
      rw [X7_tiesOf_L4] at hf
      refine lv_iload_n hx hb dX7_tiesOf_4 rfl (lv_at hl 3 rfl) ?_
      refine lv_aload_n hx hb dX7_tiesOf_5 rfl (lv_at hl 0 rfl) ?_
      refine gX7_7 F hX hP 0 rfl (v := .ref (a 1)) rfl dX7_tiesOf_6 ?_
      refine lv_sipush (v := 149) hx hb dX7_tiesOf_9 (by decide) ?_
      refine va_iald hx hb hX.1 hP 1 0 (n := 156) (f := (K_4.1 0)) rfl rfl (by decide : ¬ ((149 : Int32) < 0 ∨ 156 ≤ Int32.toNatClampNeg 149)) dX7_tiesOf_12 ?_
      refine lv_icmp_ge (tgt := 50) hx hb dX7_tiesOf_13 (by decide) (fun c_1 => ?_) (fun c_1 => ?_)
      · replace hf := (if_pos c_1).symm.trans hf
        obtain rfl := Option.some.inj hf
        exact hk _ _ ls hP hS (lv_sub hl [2] rfl)
      · replace hf := (if_neg c_1).symm.trans hf
        refine lv_iload_n hx hb dX7_tiesOf_16 rfl (lv_at hl 2 rfl) ?_
        refine lv_aload_n hx hb dX7_tiesOf_17 rfl (lv_at hl 0 rfl) ?_
        refine lv_iload_n hx hb dX7_tiesOf_18 rfl (lv_at hl 3 rfl) ?_
        refine lv_iconst (v := 0) hx hb dX7_tiesOf_19 (by decide) ?_
        obtain ⟨u_2, h_3, hf⟩ := ob hf
        refine k_rd (runV F wdX7_53 (rm := rm_X7_tied) (As := [.int x3_4, .int 0]) (rest := [.int x2_4]) ⟨rfl, rfl⟩ ⟨Nat.le_of_ble_eq_true rfl, Nat.le_of_ble_eq_true rfl⟩ hl.1 rfl rfl (Nat.le_of_ble_eq_true rfl) dX7_tiesOf_20 ⟨Nat.zero_le _, Nat.zero_le _⟩) (c_X7_tied l D cI cP a K_4 x3_4 0 _ h_3) hX (va_recv hX.1 hP (ci := 7) (q0 := 0) rfl rfl) hP hP hS hA (fun H locs hP hS => ?_)
        refine lv_iload_n hx hb dX7_tiesOf_23 rfl (lv_at hl 1 rfl) ?_
        refine lv_icmp_eq (tgt := 37) hx hb dX7_tiesOf_24 (by decide) (fun c_4 => ?_) (fun c_4 => ?_)
        · replace hf := (if_pos c_4).symm.trans hf
          refine lv_iconst (v := 1) hx hb dX7_tiesOf_37 (by decide) ?_
          refine lv_goto (tgt := 42) hx hb dX7_tiesOf_38 (by decide) ?_
          refine lv_iadd hx hb dX7_tiesOf_42 ?_
          refine lv_istore_n (lv' := [(2, .int (x2_4 + 1)), (0, .ref (a 0)), (1, .int x1_4), (3, .int x3_4)]) hx hb dX7_tiesOf_43 rfl hl (by decide) rfl (fun ls hl => ?_)
          refine lv_iinc (v := (x3_4 + 1)) (lv' := [(3, .int (x3_4 + 1)), (2, .int (x2_4 + 1)), (0, .ref (a 0)), (1, .int x1_4)]) hx hb dX7_tiesOf_44 hl (k := 3) rfl (by rfl) (by decide) rfl (fun ls hl => ?_)
          refine lv_goto (tgt := 4) hx hb dX7_tiesOf_47 (by decide) ?_
          exact ih K_4 x1_4 (x2_4 + 1) (x3_4 + 1) _ _ _ ls hf hP hS (lv_sub hl [2, 3, 1, 0] rfl) hk
        · replace hf := (if_neg c_4).symm.trans hf
          refine lv_aload_n hx hb dX7_tiesOf_27 rfl (lv_at hl 0 rfl) ?_
          refine lv_iload_n hx hb dX7_tiesOf_28 rfl (lv_at hl 3 rfl) ?_
          refine lv_iconst (v := 1) hx hb dX7_tiesOf_29 (by decide) ?_
          obtain ⟨u_5, h_6, hf⟩ := ob hf
          refine k_rd (runV F wdX7_53 (rm := rm_X7_tied) (As := [.int x3_4, .int 1]) (rest := [.int x2_4]) ⟨rfl, rfl⟩ ⟨Nat.le_of_ble_eq_true rfl, Nat.le_of_ble_eq_true rfl⟩ hl.1 rfl rfl (Nat.le_of_ble_eq_true rfl) dX7_tiesOf_30 ⟨Nat.zero_le _, Nat.zero_le _⟩) (c_X7_tied l D cI cP a K_4 x3_4 1 _ h_6) hX (va_recv hX.1 hP (ci := 7) (q0 := 0) rfl rfl) hP hP hS hA (fun H locs hP hS => ?_)
          refine lv_iload_n hx hb dX7_tiesOf_33 rfl (lv_at hl 1 rfl) ?_
          refine lv_icmp_ne (tgt := 41) hx hb dX7_tiesOf_34 (by decide) (fun c_7 => ?_) (fun c_7 => ?_)
          · replace hf := (if_neg c_7).symm.trans hf
            refine lv_iconst (v := 0) hx hb dX7_tiesOf_41 (by decide) ?_
            refine lv_iadd hx hb dX7_tiesOf_42 ?_
            refine lv_istore_n (lv' := [(2, .int (x2_4 + 0)), (0, .ref (a 0)), (1, .int x1_4), (3, .int x3_4)]) hx hb dX7_tiesOf_43 rfl hl (by decide) rfl (fun ls hl => ?_)
            refine lv_iinc (v := (x3_4 + 1)) (lv' := [(3, .int (x3_4 + 1)), (2, .int (x2_4 + 0)), (0, .ref (a 0)), (1, .int x1_4)]) hx hb dX7_tiesOf_44 hl (k := 3) rfl (by rfl) (by decide) rfl (fun ls hl => ?_)
            refine lv_goto (tgt := 4) hx hb dX7_tiesOf_47 (by decide) ?_
            exact ih K_4 x1_4 (x2_4 + 0) (x3_4 + 1) _ _ _ ls hf hP hS (lv_sub hl [2, 3, 1, 0] rfl) hk
          · replace hf := (if_pos c_7).symm.trans hf
            refine lv_iconst (v := 1) hx hb dX7_tiesOf_37 (by decide) ?_
            refine lv_goto (tgt := 42) hx hb dX7_tiesOf_38 (by decide) ?_
            refine lv_iadd hx hb dX7_tiesOf_42 ?_
            refine lv_istore_n (lv' := [(2, .int (x2_4 + 1)), (0, .ref (a 0)), (1, .int x1_4), (3, .int x3_4)]) hx hb dX7_tiesOf_43 rfl hl (by decide) rfl (fun ls hl => ?_)
            refine lv_iinc (v := (x3_4 + 1)) (lv' := [(3, .int (x3_4 + 1)), (2, .int (x2_4 + 1)), (0, .ref (a 0)), (1, .int x1_4)]) hx hb dX7_tiesOf_44 hl (k := 3) rfl (by rfl) (by decide) rfl (fun ls hl => ?_)
            refine lv_goto (tgt := 4) hx hb dX7_tiesOf_47 (by decide) ?_
            exact ih K_4 x1_4 (x2_4 + 1) (x3_4 + 1) _ _ _ ls hf hP hS (lv_sub hl [2, 3, 1, 0] rfl) hk
  obtain ⟨u_8, h_9, hf⟩ := ob hf
  refine hL_4 FUEL K x1 0 0 u_8 _ _ ls h_9 hP hS (lv_sub hl [2, 3, 1, 0] rfl) (fun H locs ls hP hS hl => ?_)
  clear hL_4
  refine lv_iload_n hx hb dX7_tiesOf_50 rfl (lv_at hl 0 rfl) ?_
  exact rd_i F (Option.some.inj hf) hS dX7_tiesOf_51
def X7_groupOf_L4 : Nat → SMod → Int32 → Int32 → Int32 → Option (Int32)
  | 0, _, _, _, _ => none
  | fu + 1, K_4, x1_4, x2_4, x3_4 => (if ((K_4.1 0) (Int32.toNatClampNeg 148)) ≤ x3_4 then some x2_4 else (if ¬ (x3_4 < 0 ∨ 12 ≤ Int32.toNatClampNeg x3_4) then (if ¬ (x1_4 < 0 ∨ 12 ≤ Int32.toNatClampNeg x1_4) then (if ((K_4.1 4) (Int32.toNatClampNeg x3_4)) = ((K_4.1 4) (Int32.toNatClampNeg x1_4)) then X7_groupOf_L4 fu K_4 x1_4 (x2_4 ||| (1 <<< (x3_4 &&& 31))) (x3_4 + 1) else X7_groupOf_L4 fu K_4 x1_4 (x2_4 ||| 0) (x3_4 + 1)) else none) else none))
def X7_groupOf (K : SMod) (x1 : Int32) : Option (Int32) := ((X7_groupOf_L4 FUEL K x1 0 0).bind fun u_5 => some u_5)
abbrev rm_X7_groupOf : Room := { frames := 0, cells := 0, slots := 0, locals := 0 }
set_option maxHeartbeats 4000000 in
set_option maxRecDepth 100000 in
theorem c_X7_groupOf (l : Launch) (D : va_G) (cI cP : ClassId) (a : Nat → Nat) (K : SMod) (x1 : Int32) (z : Int32) (hf : X7_groupOf K x1 = some z) : MRd l yX7_groupOf cX7_groupOf 4 (some .int) rm_X7_groupOf D cI cP [.ref (a 0), .int x1] (wMod cI a K) z := by
  refine MRd.of (by decide +kernel) (Nat.le_of_ble_eq_true rfl) ?_
  intro p e s m args below meth c ls F hX hP hS hl
  have F : Fx p s m args meth c RX7 cX7_groupOf 4 (some .int) := F
  have hx := F.1
  have hb := F.2.1
  have hown := F.2.2.2.1
  have hts := F.2.2.2.2.1
  have hA : ∀ q : Nat, s.heap.size ≤ q → (fun q : Nat => s.heap.size ≤ q) q := fun _ h => h
  have hl : lv_has ls 4 [(0, .ref (a 0)), (1, .int x1)] := hl
  unfold X7_groupOf at hf
  refine lv_iconst (v := 0) hx hb dX7_groupOf_0 (by decide) ?_
  refine lv_istore_n (lv' := [(2, .int 0), (0, .ref (a 0)), (1, .int x1)]) hx hb dX7_groupOf_1 rfl hl (by decide) rfl (fun ls hl => ?_)
  refine lv_iconst (v := 0) hx hb dX7_groupOf_2 (by decide) ?_
  refine lv_istore_n (lv' := [(3, .int 0), (2, .int 0), (0, .ref (a 0)), (1, .int x1)]) hx hb dX7_groupOf_3 rfl hl (by decide) rfl (fun ls hl => ?_)
  have hL_4 : ∀ (fu : Nat) (K_4 : SMod) (x1_4 : Int32) (x2_4 : Int32) (x3_4 : Int32) (v : Int32) (H : Heap) (locs : List Loc) (ls : Array Slot), X7_groupOf_L4 fu K_4 x1_4 x2_4 x3_4 = some v → va_P D vwCl (wMod cI a K_4) H → va_S (fun q : Nat => s.heap.size ≤ q) s.heap H locs → lv_has ls 4 [(0, .ref (a 0)), (1, .int x1_4), (2, .int x2_4), (3, .int x3_4)] → (∀ (H : Heap) (locs : List Loc) (ls : Array Slot), va_P D vwCl (wMod cI a K_4) H → va_S (fun q : Nat => s.heap.size ≤ q) s.heap H locs → lv_has ls 4 [(2, .int v)] → W p l e rm_X7_groupOf s m args below meth c H locs 0 0 (QR below args s z) (F0 m 47 ls [])) → W p l e rm_X7_groupOf s m args below meth c H locs 0 0 (QR below args s z) (F0 m 4 ls []) := by
    intro fu
    induction fu with
    | zero =>
      intro K_4 x1_4 x2_4 x3_4 v H locs ls hf
      exact absurd hf (by simp [X7_groupOf_L4])
    | succ fu ih =>
      intro K_4 x1_4 x2_4 x3_4 v _ _ ls hf hP hS hl hk
      rw [X7_groupOf_L4] at hf
      refine lv_iload_n hx hb dX7_groupOf_4 rfl (lv_at hl 3 rfl) ?_
      refine lv_aload_n hx hb dX7_groupOf_5 rfl (lv_at hl 0 rfl) ?_
      refine gX7_7 F hX hP 0 rfl (v := .ref (a 1)) rfl dX7_groupOf_6 ?_
      refine lv_sipush (v := 148) hx hb dX7_groupOf_9 (by decide) ?_
      refine va_iald hx hb hX.1 hP 1 0 (n := 156) (f := (K_4.1 0)) rfl rfl (by decide : ¬ ((148 : Int32) < 0 ∨ 156 ≤ Int32.toNatClampNeg 148)) dX7_groupOf_12 ?_
      refine lv_icmp_ge (tgt := 47) hx hb dX7_groupOf_13 (by decide) (fun c_1 => ?_) (fun c_1 => ?_)
      · replace hf := (if_pos c_1).symm.trans hf
        obtain rfl := Option.some.inj hf
        exact hk _ _ ls hP hS (lv_sub hl [2] rfl)
      · replace hf := (if_neg c_1).symm.trans hf
        refine lv_iload_n hx hb dX7_groupOf_16 rfl (lv_at hl 2 rfl) ?_
        refine lv_aload_n hx hb dX7_groupOf_17 rfl (lv_at hl 0 rfl) ?_
        refine gX7_22 F hX hP 0 rfl (v := .ref (a 5)) rfl dX7_groupOf_18 ?_
        refine lv_iload_n hx hb dX7_groupOf_21 rfl (lv_at hl 3 rfl) ?_
        have g_2 := og hf
        replace hf := (if_pos g_2).symm.trans hf
        refine va_iald hx hb hX.1 hP 5 0 (n := 12) (f := (K_4.1 4)) rfl rfl g_2 dX7_groupOf_22 ?_
        refine lv_aload_n hx hb dX7_groupOf_23 rfl (lv_at hl 0 rfl) ?_
        refine gX7_22 F hX hP 0 rfl (v := .ref (a 5)) rfl dX7_groupOf_24 ?_
        refine lv_iload_n hx hb dX7_groupOf_27 rfl (lv_at hl 1 rfl) ?_
        have g_3 := og hf
        replace hf := (if_pos g_3).symm.trans hf
        refine va_iald hx hb hX.1 hP 5 0 (n := 12) (f := (K_4.1 4)) rfl rfl g_3 dX7_groupOf_28 ?_
        refine lv_icmp_ne (tgt := 38) hx hb dX7_groupOf_29 (by decide) (fun c_4 => ?_) (fun c_4 => ?_)
        · replace hf := (if_neg c_4).symm.trans hf
          refine lv_iconst (v := 0) hx hb dX7_groupOf_38 (by decide) ?_
          refine lv_ior hx hb dX7_groupOf_39 ?_
          refine lv_istore_n (lv' := [(2, .int (x2_4 ||| 0)), (0, .ref (a 0)), (1, .int x1_4), (3, .int x3_4)]) hx hb dX7_groupOf_40 rfl hl (by decide) rfl (fun ls hl => ?_)
          refine lv_iinc (v := (x3_4 + 1)) (lv' := [(3, .int (x3_4 + 1)), (2, .int (x2_4 ||| 0)), (0, .ref (a 0)), (1, .int x1_4)]) hx hb dX7_groupOf_41 hl (k := 3) rfl (by rfl) (by decide) rfl (fun ls hl => ?_)
          refine lv_goto (tgt := 4) hx hb dX7_groupOf_44 (by decide) ?_
          exact ih K_4 x1_4 (x2_4 ||| 0) (x3_4 + 1) _ _ _ ls hf hP hS (lv_sub hl [2, 3, 1, 0] rfl) hk
        · replace hf := (if_pos c_4).symm.trans hf
          refine lv_iconst (v := 1) hx hb dX7_groupOf_32 (by decide) ?_
          refine lv_iload_n hx hb dX7_groupOf_33 rfl (lv_at hl 3 rfl) ?_
          refine lv_ishl hx hb dX7_groupOf_34 ?_
          refine lv_goto (tgt := 39) hx hb dX7_groupOf_35 (by decide) ?_
          refine lv_ior hx hb dX7_groupOf_39 ?_
          refine lv_istore_n (lv' := [(2, .int (x2_4 ||| (1 <<< (x3_4 &&& 31)))), (0, .ref (a 0)), (1, .int x1_4), (3, .int x3_4)]) hx hb dX7_groupOf_40 rfl hl (by decide) rfl (fun ls hl => ?_)
          refine lv_iinc (v := (x3_4 + 1)) (lv' := [(3, .int (x3_4 + 1)), (2, .int (x2_4 ||| (1 <<< (x3_4 &&& 31)))), (0, .ref (a 0)), (1, .int x1_4)]) hx hb dX7_groupOf_41 hl (k := 3) rfl (by rfl) (by decide) rfl (fun ls hl => ?_)
          refine lv_goto (tgt := 4) hx hb dX7_groupOf_44 (by decide) ?_
          exact ih K_4 x1_4 (x2_4 ||| (1 <<< (x3_4 &&& 31))) (x3_4 + 1) _ _ _ ls hf hP hS (lv_sub hl [2, 3, 1, 0] rfl) hk
  obtain ⟨u_5, h_6, hf⟩ := ob hf
  refine hL_4 FUEL K x1 0 0 u_5 _ _ ls h_6 hP hS (lv_sub hl [2, 3, 1, 0] rfl) (fun H locs ls hP hS hl => ?_)
  clear hL_4
  refine lv_iload_n hx hb dX7_groupOf_47 rfl (lv_at hl 0 rfl) ?_
  exact rd_i F (Option.some.inj hf) hS dX7_groupOf_48
def X7_groupSeats_L4 : Nat → SMod → Int32 → Int32 → Int32 → Option (Int32)
  | 0, _, _, _, _ => none
  | fu + 1, K_4, x1_4, x2_4, x3_4 => (if ((K_4.1 0) (Int32.toNatClampNeg 148)) ≤ x3_4 then some x2_4 else (if ¬ (x3_4 < 0 ∨ 12 ≤ Int32.toNatClampNeg x3_4) then (if ¬ (x1_4 < 0 ∨ 12 ≤ Int32.toNatClampNeg x1_4) then (if ((K_4.1 4) (Int32.toNatClampNeg x3_4)) = ((K_4.1 4) (Int32.toNatClampNeg x1_4)) then ((X7_of K_4 x3_4 0).bind fun u_5 => X7_groupSeats_L4 fu K_4 x1_4 (x2_4 + u_5) (x3_4 + 1)) else X7_groupSeats_L4 fu K_4 x1_4 (x2_4 + 0) (x3_4 + 1)) else none) else none))
def X7_groupSeats (K : SMod) (x1 : Int32) : Option (Int32) := ((X7_groupSeats_L4 FUEL K x1 0 0).bind fun u_7 => some u_7)
abbrev rm_X7_groupSeats : Room := { frames := 1, cells := 0, slots := 0, locals := 22 }
set_option maxHeartbeats 4000000 in
set_option maxRecDepth 100000 in
theorem c_X7_groupSeats (l : Launch) (D : va_G) (cI cP : ClassId) (a : Nat → Nat) (K : SMod) (x1 : Int32) (z : Int32) (hf : X7_groupSeats K x1 = some z) : MRd l yX7_groupSeats cX7_groupSeats 4 (some .int) rm_X7_groupSeats D cI cP [.ref (a 0), .int x1] (wMod cI a K) z := by
  refine MRd.of (by decide +kernel) (Nat.le_of_ble_eq_true rfl) ?_
  intro p e s m args below meth c ls F hX hP hS hl
  have F : Fx p s m args meth c RX7 cX7_groupSeats 4 (some .int) := F
  have hx := F.1
  have hb := F.2.1
  have hown := F.2.2.2.1
  have hts := F.2.2.2.2.1
  have hA : ∀ q : Nat, s.heap.size ≤ q → (fun q : Nat => s.heap.size ≤ q) q := fun _ h => h
  have hl : lv_has ls 4 [(0, .ref (a 0)), (1, .int x1)] := hl
  unfold X7_groupSeats at hf
  refine lv_iconst (v := 0) hx hb dX7_groupSeats_0 (by decide) ?_
  refine lv_istore_n (lv' := [(2, .int 0), (0, .ref (a 0)), (1, .int x1)]) hx hb dX7_groupSeats_1 rfl hl (by decide) rfl (fun ls hl => ?_)
  refine lv_iconst (v := 0) hx hb dX7_groupSeats_2 (by decide) ?_
  refine lv_istore_n (lv' := [(3, .int 0), (2, .int 0), (0, .ref (a 0)), (1, .int x1)]) hx hb dX7_groupSeats_3 rfl hl (by decide) rfl (fun ls hl => ?_)
  have hL_4 : ∀ (fu : Nat) (K_4 : SMod) (x1_4 : Int32) (x2_4 : Int32) (x3_4 : Int32) (v : Int32) (H : Heap) (locs : List Loc) (ls : Array Slot), X7_groupSeats_L4 fu K_4 x1_4 x2_4 x3_4 = some v → va_P D vwCl (wMod cI a K_4) H → va_S (fun q : Nat => s.heap.size ≤ q) s.heap H locs → lv_has ls 4 [(0, .ref (a 0)), (1, .int x1_4), (2, .int x2_4), (3, .int x3_4)] → (∀ (H : Heap) (locs : List Loc) (ls : Array Slot), va_P D vwCl (wMod cI a K_4) H → va_S (fun q : Nat => s.heap.size ≤ q) s.heap H locs → lv_has ls 4 [(2, .int v)] → W p l e rm_X7_groupSeats s m args below meth c H locs 0 0 (QR below args s z) (F0 m 50 ls [])) → W p l e rm_X7_groupSeats s m args below meth c H locs 0 0 (QR below args s z) (F0 m 4 ls []) := by
    intro fu
    induction fu with
    | zero =>
      intro K_4 x1_4 x2_4 x3_4 v H locs ls hf
      exact absurd hf (by simp [X7_groupSeats_L4])
    | succ fu ih =>
      intro K_4 x1_4 x2_4 x3_4 v _ _ ls hf hP hS hl hk
      rw [X7_groupSeats_L4] at hf
      refine lv_iload_n hx hb dX7_groupSeats_4 rfl (lv_at hl 3 rfl) ?_
      refine lv_aload_n hx hb dX7_groupSeats_5 rfl (lv_at hl 0 rfl) ?_
      refine gX7_7 F hX hP 0 rfl (v := .ref (a 1)) rfl dX7_groupSeats_6 ?_
      refine lv_sipush (v := 148) hx hb dX7_groupSeats_9 (by decide) ?_
      refine va_iald hx hb hX.1 hP 1 0 (n := 156) (f := (K_4.1 0)) rfl rfl (by decide : ¬ ((148 : Int32) < 0 ∨ 156 ≤ Int32.toNatClampNeg 148)) dX7_groupSeats_12 ?_
      refine lv_icmp_ge (tgt := 50) hx hb dX7_groupSeats_13 (by decide) (fun c_1 => ?_) (fun c_1 => ?_)
      · replace hf := (if_pos c_1).symm.trans hf
        obtain rfl := Option.some.inj hf
        exact hk _ _ ls hP hS (lv_sub hl [2] rfl)
      · replace hf := (if_neg c_1).symm.trans hf
        refine lv_iload_n hx hb dX7_groupSeats_16 rfl (lv_at hl 2 rfl) ?_
        refine lv_aload_n hx hb dX7_groupSeats_17 rfl (lv_at hl 0 rfl) ?_
        refine gX7_22 F hX hP 0 rfl (v := .ref (a 5)) rfl dX7_groupSeats_18 ?_
        refine lv_iload_n hx hb dX7_groupSeats_21 rfl (lv_at hl 3 rfl) ?_
        have g_2 := og hf
        replace hf := (if_pos g_2).symm.trans hf
        refine va_iald hx hb hX.1 hP 5 0 (n := 12) (f := (K_4.1 4)) rfl rfl g_2 dX7_groupSeats_22 ?_
        refine lv_aload_n hx hb dX7_groupSeats_23 rfl (lv_at hl 0 rfl) ?_
        refine gX7_22 F hX hP 0 rfl (v := .ref (a 5)) rfl dX7_groupSeats_24 ?_
        refine lv_iload_n hx hb dX7_groupSeats_27 rfl (lv_at hl 1 rfl) ?_
        have g_3 := og hf
        replace hf := (if_pos g_3).symm.trans hf
        refine va_iald hx hb hX.1 hP 5 0 (n := 12) (f := (K_4.1 4)) rfl rfl g_3 dX7_groupSeats_28 ?_
        refine lv_icmp_ne (tgt := 41) hx hb dX7_groupSeats_29 (by decide) (fun c_4 => ?_) (fun c_4 => ?_)
        · replace hf := (if_neg c_4).symm.trans hf
          refine lv_iconst (v := 0) hx hb dX7_groupSeats_41 (by decide) ?_
          refine lv_iadd hx hb dX7_groupSeats_42 ?_
          refine lv_istore_n (lv' := [(2, .int (x2_4 + 0)), (0, .ref (a 0)), (1, .int x1_4), (3, .int x3_4)]) hx hb dX7_groupSeats_43 rfl hl (by decide) rfl (fun ls hl => ?_)
          refine lv_iinc (v := (x3_4 + 1)) (lv' := [(3, .int (x3_4 + 1)), (2, .int (x2_4 + 0)), (0, .ref (a 0)), (1, .int x1_4)]) hx hb dX7_groupSeats_44 hl (k := 3) rfl (by rfl) (by decide) rfl (fun ls hl => ?_)
          refine lv_goto (tgt := 4) hx hb dX7_groupSeats_47 (by decide) ?_
          exact ih K_4 x1_4 (x2_4 + 0) (x3_4 + 1) _ _ _ ls hf hP hS (lv_sub hl [2, 3, 1, 0] rfl) hk
        · replace hf := (if_pos c_4).symm.trans hf
          refine lv_aload_n hx hb dX7_groupSeats_32 rfl (lv_at hl 0 rfl) ?_
          refine lv_iload_n hx hb dX7_groupSeats_33 rfl (lv_at hl 3 rfl) ?_
          refine lv_iconst (v := 0) hx hb dX7_groupSeats_34 (by decide) ?_
          obtain ⟨u_5, h_6, hf⟩ := ob hf
          refine k_rd (runV F wdX7_61 (rm := rm_X7_of) (As := [.int x3_4, .int 0]) (rest := [.int x2_4]) ⟨rfl, rfl⟩ ⟨Nat.le_of_ble_eq_true rfl, Nat.le_of_ble_eq_true rfl⟩ hl.1 rfl rfl (Nat.le_of_ble_eq_true rfl) dX7_groupSeats_35 ⟨Nat.zero_le _, Nat.zero_le _⟩) (c_X7_of l D cI cP a K_4 x3_4 0 _ h_6) hX (va_recv hX.1 hP (ci := 7) (q0 := 0) rfl rfl) hP hP hS hA (fun H locs hP hS => ?_)
          refine lv_goto (tgt := 42) hx hb dX7_groupSeats_38 (by decide) ?_
          refine lv_iadd hx hb dX7_groupSeats_42 ?_
          refine lv_istore_n (lv' := [(2, .int (x2_4 + u_5)), (0, .ref (a 0)), (1, .int x1_4), (3, .int x3_4)]) hx hb dX7_groupSeats_43 rfl hl (by decide) rfl (fun ls hl => ?_)
          refine lv_iinc (v := (x3_4 + 1)) (lv' := [(3, .int (x3_4 + 1)), (2, .int (x2_4 + u_5)), (0, .ref (a 0)), (1, .int x1_4)]) hx hb dX7_groupSeats_44 hl (k := 3) rfl (by rfl) (by decide) rfl (fun ls hl => ?_)
          refine lv_goto (tgt := 4) hx hb dX7_groupSeats_47 (by decide) ?_
          exact ih K_4 x1_4 (x2_4 + u_5) (x3_4 + 1) _ _ _ ls hf hP hS (lv_sub hl [2, 3, 1, 0] rfl) hk
  obtain ⟨u_7, h_8, hf⟩ := ob hf
  refine hL_4 FUEL K x1 0 0 u_7 _ _ ls h_8 hP hS (lv_sub hl [2, 3, 1, 0] rfl) (fun H locs ls hP hS hl => ?_)
  clear hL_4
  refine lv_iload_n hx hb dX7_groupSeats_50 rfl (lv_at hl 0 rfl) ?_
  exact rd_i F (Option.some.inj hf) hS dX7_groupSeats_51
def X7_puppetOf (K : SMod) (x1 : Int32) (x2 : Int32) : Option (SMod × Int32) := ((X7_isPuppet K x1).bind fun u_1 => (if u_1 = 0 then some (K, (-1000001)) else (if (X7_in x2 0 8) = 0 then some (K, (-1000001)) else ((X7_yesNow K).bind fun u_5 => (if 0 ≤ u_5.2 then (if x2 = 2 then ((X7_of u_5.1 x1 2).bind fun u_9 => (if u_9 ≤ 0 then some (u_5.1, (-1000004)) else ((X7_of u_5.1 x1 2).bind fun u_12 => some (u_5.1, (u_12 - 1))))) else (if x2 = 3 then (if ¬ (x1 < 0 ∨ 12 ≤ Int32.toNatClampNeg x1) then some (u_5.1, ((u_5.1.1 6) (Int32.toNatClampNeg x1))) else none) else (if x2 = 4 then (if ¬ (x1 < 0 ∨ 12 ≤ Int32.toNatClampNeg x1) then some (u_5.1, ((u_5.1.1 4) (Int32.toNatClampNeg x1))) else none) else (if x2 = 5 then (if ¬ (x1 < 0 ∨ 12 ≤ Int32.toNatClampNeg x1) then some (u_5.1, ((u_5.1.1 5) (Int32.toNatClampNeg x1))) else none) else (if x2 = 6 then ((X7_tiesOf u_5.1 x1).bind fun u_21 => some (u_5.1, u_21)) else (if x2 = 7 then ((X7_groupOf u_5.1 x1).bind fun u_24 => some (u_5.1, u_24)) else (if x2 = 8 then ((X7_groupSeats u_5.1 x1).bind fun u_27 => some (u_5.1, u_27)) else ((X7_of u_5.1 x1 x2).bind fun u_29 => some (u_5.1, u_29))))))))) else some (u_5.1, (-1000004)))))))
abbrev rm_X7_puppetOf : Room := { frames := 4, cells := 0, slots := 0, locals := 90 }
set_option maxHeartbeats 4000000 in
set_option maxRecDepth 100000 in
theorem c_X7_puppetOf (l : Launch) (D : va_G) (cI cP : ClassId) (a : Nat → Nat) (K : SMod) (x1 : Int32) (x2 : Int32) (z : SMod × Int32) (hf : X7_puppetOf K x1 x2 = some z) : MWi l yX7_puppetOf cX7_puppetOf 3 (some .int) rm_X7_puppetOf D cI cP [.ref (a 0), .int x1, .int x2] (wMod cI a K) (wMod cI a z.1) z.2 := by
  refine MWi.of (by decide +kernel) (Nat.le_of_ble_eq_true rfl) ?_
  intro p e s m args below meth c ls A F hX hP hD hA hS hl
  have F : Fx p s m args meth c RX7 cX7_puppetOf 3 (some .int) := F
  have hx := F.1
  have hb := F.2.1
  have hown := F.2.2.2.1
  have hts := F.2.2.2.2.1
  have hl : lv_has ls 3 [(0, .ref (a 0)), (1, .int x1), (2, .int x2)] := hl
  unfold X7_puppetOf at hf
  refine lv_aload_n hx hb dX7_puppetOf_0 rfl (lv_at hl 0 rfl) ?_
  refine lv_iload_n hx hb dX7_puppetOf_1 rfl (lv_at hl 1 rfl) ?_
  obtain ⟨u_1, h_2, hf⟩ := ob hf
  refine k_rd (runV F wdX7_49 (rm := rm_X7_isPuppet) (As := [.int x1]) (rest := []) ⟨rfl, rfl⟩ ⟨Nat.le_of_ble_eq_true rfl, Nat.le_of_ble_eq_true rfl⟩ hl.1 rfl rfl (Nat.le_of_ble_eq_true rfl) dX7_puppetOf_2 ⟨Nat.zero_le _, Nat.zero_le _⟩) (c_X7_isPuppet l D cI cP a K x1 _ h_2) hX (va_recv hX.1 hP (ci := 7) (q0 := 0) rfl rfl) hP hP hS hA (fun H locs hP hS => ?_)
  refine lv_if_eq (tgt := 18) hx hb dX7_puppetOf_5 (by decide) (fun c_3 => ?_) (fun c_3 => ?_)
  · replace hf := (if_pos c_3).symm.trans hf
    refine lv_ldc (v := (-1000001)) hx hb hown (hts _ q_855) dX7_puppetOf_18 ?_
    obtain rfl := (Option.some.inj hf)
    exact wr_i F rfl hP hS dX7_puppetOf_20
  · replace hf := (if_neg c_3).symm.trans hf
    refine lv_iload_n hx hb dX7_puppetOf_8 rfl (lv_at hl 2 rfl) ?_
    refine lv_iconst (v := 0) hx hb dX7_puppetOf_9 (by decide) ?_
    refine lv_bipush (v := 8) hx hb dX7_puppetOf_10 (by decide) ?_
    refine k_rd (runS F wdX7_45 (rm := rm_X7_in) (As := [.int x2, .int 0, .int 8]) (rest := []) ⟨rfl, rfl⟩ ⟨Nat.le_of_ble_eq_true rfl, Nat.le_of_ble_eq_true rfl⟩ hl.1 rfl rfl (Nat.le_of_ble_eq_true rfl) dX7_puppetOf_12 ⟨Nat.zero_le _, Nat.zero_le _⟩) (c_X7_in l D cI cP x2 0 8 _ rfl) hX trivial vP_nil hP hS hA (fun H locs hP hS => ?_)
    refine lv_if_ne (tgt := 21) hx hb dX7_puppetOf_15 (by decide) (fun c_4 => ?_) (fun c_4 => ?_)
    · replace hf := (if_neg c_4).symm.trans hf
      refine lv_aload_n hx hb dX7_puppetOf_21 rfl (lv_at hl 0 rfl) ?_
      obtain ⟨u_5, h_6, hf⟩ := ob hf
      refine k_wi (runV F wdX7_79 (rm := rm_X7_yesNow) (As := []) (rest := []) ⟨rfl, rfl⟩ ⟨Nat.le_of_ble_eq_true rfl, Nat.le_of_ble_eq_true rfl⟩ hl.1 rfl rfl (Nat.le_of_ble_eq_true rfl) dX7_puppetOf_22 ⟨Nat.zero_le _, Nat.zero_le _⟩) (c_X7_yesNow l D cI cP a K  _ h_6) hX (va_recv hX.1 hP (ci := 7) (q0 := 0) rfl rfl) (Cut.all rfl) hP hD hS hA (fun H locs hP hD hS => ?_)
      have hP : va_P D vwCl (wMod cI a u_5.1) H := hP
      have hD : va_D A (wMod cI a u_5.1) := hD
      refine lv_if_ge (tgt := 31) hx hb dX7_puppetOf_25 (by decide) (fun c_7 => ?_) (fun c_7 => ?_)
      · replace hf := (if_pos c_7).symm.trans hf
        refine lv_iload_n hx hb dX7_puppetOf_31 rfl (lv_at hl 2 rfl) ?_
        rcases Decidable.em (x2 = 2) with c_8 | c_8
        · replace hf := (if_pos c_8).symm.trans hf
          refine lv_tableIn (off := 44) (tgt := 76) hx hb dX7_puppetOf_32 (by rw [c_8]; decide) (by rw [c_8]; decide) (by rw [c_8]; rfl) (by decide) ?_
          refine lv_aload_n hx hb dX7_puppetOf_76 rfl (lv_at hl 0 rfl) ?_
          refine lv_iload_n hx hb dX7_puppetOf_77 rfl (lv_at hl 1 rfl) ?_
          refine lv_iconst (v := 2) hx hb dX7_puppetOf_78 (by decide) ?_
          obtain ⟨u_9, h_10, hf⟩ := ob hf
          refine k_rd (runV F wdX7_61 (rm := rm_X7_of) (As := [.int x1, .int 2]) (rest := []) ⟨rfl, rfl⟩ ⟨Nat.le_of_ble_eq_true rfl, Nat.le_of_ble_eq_true rfl⟩ hl.1 rfl rfl (Nat.le_of_ble_eq_true rfl) dX7_puppetOf_79 ⟨Nat.zero_le _, Nat.zero_le _⟩) (c_X7_of l D cI cP a u_5.1 x1 2 _ h_10) hX (va_recv hX.1 hP (ci := 7) (q0 := 0) rfl rfl) hP hP hS hA (fun H locs hP hS => ?_)
          refine lv_if_le (tgt := 96) hx hb dX7_puppetOf_82 (by decide) (fun c_11 => ?_) (fun c_11 => ?_)
          · replace hf := (if_pos c_11).symm.trans hf
            refine lv_ldc (v := (-1000004)) hx hb hown (hts _ q_838) dX7_puppetOf_96 ?_
            obtain rfl := (Option.some.inj hf)
            exact wr_i F rfl hP hS dX7_puppetOf_98
          · replace hf := (if_neg c_11).symm.trans hf
            refine lv_aload_n hx hb dX7_puppetOf_85 rfl (lv_at hl 0 rfl) ?_
            refine lv_iload_n hx hb dX7_puppetOf_86 rfl (lv_at hl 1 rfl) ?_
            refine lv_iconst (v := 2) hx hb dX7_puppetOf_87 (by decide) ?_
            obtain ⟨u_12, h_13, hf⟩ := ob hf
            refine k_rd (runV F wdX7_61 (rm := rm_X7_of) (As := [.int x1, .int 2]) (rest := []) ⟨rfl, rfl⟩ ⟨Nat.le_of_ble_eq_true rfl, Nat.le_of_ble_eq_true rfl⟩ hl.1 rfl rfl (Nat.le_of_ble_eq_true rfl) dX7_puppetOf_88 ⟨Nat.zero_le _, Nat.zero_le _⟩) (c_X7_of l D cI cP a u_5.1 x1 2 _ h_13) hX (va_recv hX.1 hP (ci := 7) (q0 := 0) rfl rfl) hP hP hS hA (fun H locs hP hS => ?_)
            refine lv_iconst (v := 1) hx hb dX7_puppetOf_91 (by decide) ?_
            refine lv_isub hx hb dX7_puppetOf_92 ?_
            refine lv_goto (tgt := 98) hx hb dX7_puppetOf_93 (by decide) ?_
            obtain rfl := (Option.some.inj hf)
            exact wr_i F rfl hP hS dX7_puppetOf_98
        replace hf := (if_neg c_8).symm.trans hf
        rcases Decidable.em (x2 = 3) with c_14 | c_14
        · replace hf := (if_pos c_14).symm.trans hf
          refine lv_tableIn (off := 67) (tgt := 99) hx hb dX7_puppetOf_32 (by rw [c_14]; decide) (by rw [c_14]; decide) (by rw [c_14]; rfl) (by decide) ?_
          refine lv_aload_n hx hb dX7_puppetOf_99 rfl (lv_at hl 0 rfl) ?_
          refine gX7_28 F hX hP 0 rfl (v := .ref (a 7)) rfl dX7_puppetOf_100 ?_
          refine lv_iload_n hx hb dX7_puppetOf_103 rfl (lv_at hl 1 rfl) ?_
          have g_15 := og hf
          replace hf := (if_pos g_15).symm.trans hf
          refine va_iald hx hb hX.1 hP 7 0 (n := 12) (f := (u_5.1.1 6)) rfl rfl g_15 dX7_puppetOf_104 ?_
          obtain rfl := (Option.some.inj hf)
          exact wr_i F rfl hP hS dX7_puppetOf_105
        replace hf := (if_neg c_14).symm.trans hf
        rcases Decidable.em (x2 = 4) with c_16 | c_16
        · replace hf := (if_pos c_16).symm.trans hf
          refine lv_tableIn (off := 74) (tgt := 106) hx hb dX7_puppetOf_32 (by rw [c_16]; decide) (by rw [c_16]; decide) (by rw [c_16]; rfl) (by decide) ?_
          refine lv_aload_n hx hb dX7_puppetOf_106 rfl (lv_at hl 0 rfl) ?_
          refine gX7_22 F hX hP 0 rfl (v := .ref (a 5)) rfl dX7_puppetOf_107 ?_
          refine lv_iload_n hx hb dX7_puppetOf_110 rfl (lv_at hl 1 rfl) ?_
          have g_17 := og hf
          replace hf := (if_pos g_17).symm.trans hf
          refine va_iald hx hb hX.1 hP 5 0 (n := 12) (f := (u_5.1.1 4)) rfl rfl g_17 dX7_puppetOf_111 ?_
          obtain rfl := (Option.some.inj hf)
          exact wr_i F rfl hP hS dX7_puppetOf_112
        replace hf := (if_neg c_16).symm.trans hf
        rcases Decidable.em (x2 = 5) with c_18 | c_18
        · replace hf := (if_pos c_18).symm.trans hf
          refine lv_tableIn (off := 81) (tgt := 113) hx hb dX7_puppetOf_32 (by rw [c_18]; decide) (by rw [c_18]; decide) (by rw [c_18]; rfl) (by decide) ?_
          refine lv_aload_n hx hb dX7_puppetOf_113 rfl (lv_at hl 0 rfl) ?_
          refine gX7_25 F hX hP 0 rfl (v := .ref (a 6)) rfl dX7_puppetOf_114 ?_
          refine lv_iload_n hx hb dX7_puppetOf_117 rfl (lv_at hl 1 rfl) ?_
          have g_19 := og hf
          replace hf := (if_pos g_19).symm.trans hf
          refine va_iald hx hb hX.1 hP 6 0 (n := 12) (f := (u_5.1.1 5)) rfl rfl g_19 dX7_puppetOf_118 ?_
          obtain rfl := (Option.some.inj hf)
          exact wr_i F rfl hP hS dX7_puppetOf_119
        replace hf := (if_neg c_18).symm.trans hf
        rcases Decidable.em (x2 = 6) with c_20 | c_20
        · replace hf := (if_pos c_20).symm.trans hf
          refine lv_tableIn (off := 88) (tgt := 120) hx hb dX7_puppetOf_32 (by rw [c_20]; decide) (by rw [c_20]; decide) (by rw [c_20]; rfl) (by decide) ?_
          refine lv_aload_n hx hb dX7_puppetOf_120 rfl (lv_at hl 0 rfl) ?_
          refine lv_iload_n hx hb dX7_puppetOf_121 rfl (lv_at hl 1 rfl) ?_
          obtain ⟨u_21, h_22, hf⟩ := ob hf
          refine k_rd (runV F wdX7_121 (rm := rm_X7_tiesOf) (As := [.int x1]) (rest := []) ⟨rfl, rfl⟩ ⟨Nat.le_of_ble_eq_true rfl, Nat.le_of_ble_eq_true rfl⟩ hl.1 rfl rfl (Nat.le_of_ble_eq_true rfl) dX7_puppetOf_122 ⟨Nat.zero_le _, Nat.zero_le _⟩) (c_X7_tiesOf l D cI cP a u_5.1 x1 _ h_22) hX (va_recv hX.1 hP (ci := 7) (q0 := 0) rfl rfl) hP hP hS hA (fun H locs hP hS => ?_)
          obtain rfl := (Option.some.inj hf)
          exact wr_i F rfl hP hS dX7_puppetOf_125
        replace hf := (if_neg c_20).symm.trans hf
        rcases Decidable.em (x2 = 7) with c_23 | c_23
        · replace hf := (if_pos c_23).symm.trans hf
          refine lv_tableIn (off := 94) (tgt := 126) hx hb dX7_puppetOf_32 (by rw [c_23]; decide) (by rw [c_23]; decide) (by rw [c_23]; rfl) (by decide) ?_
          refine lv_aload_n hx hb dX7_puppetOf_126 rfl (lv_at hl 0 rfl) ?_
          refine lv_iload_n hx hb dX7_puppetOf_127 rfl (lv_at hl 1 rfl) ?_
          obtain ⟨u_24, h_25, hf⟩ := ob hf
          refine k_rd (runV F wdX7_124 (rm := rm_X7_groupOf) (As := [.int x1]) (rest := []) ⟨rfl, rfl⟩ ⟨Nat.le_of_ble_eq_true rfl, Nat.le_of_ble_eq_true rfl⟩ hl.1 rfl rfl (Nat.le_of_ble_eq_true rfl) dX7_puppetOf_128 ⟨Nat.zero_le _, Nat.zero_le _⟩) (c_X7_groupOf l D cI cP a u_5.1 x1 _ h_25) hX (va_recv hX.1 hP (ci := 7) (q0 := 0) rfl rfl) hP hP hS hA (fun H locs hP hS => ?_)
          obtain rfl := (Option.some.inj hf)
          exact wr_i F rfl hP hS dX7_puppetOf_131
        replace hf := (if_neg c_23).symm.trans hf
        rcases Decidable.em (x2 = 8) with c_26 | c_26
        · replace hf := (if_pos c_26).symm.trans hf
          refine lv_tableIn (off := 100) (tgt := 132) hx hb dX7_puppetOf_32 (by rw [c_26]; decide) (by rw [c_26]; decide) (by rw [c_26]; rfl) (by decide) ?_
          refine lv_aload_n hx hb dX7_puppetOf_132 rfl (lv_at hl 0 rfl) ?_
          refine lv_iload_n hx hb dX7_puppetOf_133 rfl (lv_at hl 1 rfl) ?_
          obtain ⟨u_27, h_28, hf⟩ := ob hf
          refine k_rd (runV F wdX7_127 (rm := rm_X7_groupSeats) (As := [.int x1]) (rest := []) ⟨rfl, rfl⟩ ⟨Nat.le_of_ble_eq_true rfl, Nat.le_of_ble_eq_true rfl⟩ hl.1 rfl rfl (Nat.le_of_ble_eq_true rfl) dX7_puppetOf_134 ⟨Nat.zero_le _, Nat.zero_le _⟩) (c_X7_groupSeats l D cI cP a u_5.1 x1 _ h_28) hX (va_recv hX.1 hP (ci := 7) (q0 := 0) rfl rfl) hP hP hS hA (fun H locs hP hS => ?_)
          obtain rfl := (Option.some.inj hf)
          exact wr_i F rfl hP hS dX7_puppetOf_137
        replace hf := (if_neg c_26).symm.trans hf
        refine lv_tableD (tgt := 138) (cs := [2, 3, 4, 5, 6, 7, 8]) hx hb dX7_puppetOf_32 (by decide) (by decide) (by decide) (by simp [c_8, c_14, c_16, c_18, c_20, c_23, c_26]) ?_
        refine lv_aload_n hx hb dX7_puppetOf_138 rfl (lv_at hl 0 rfl) ?_
        refine lv_iload_n hx hb dX7_puppetOf_139 rfl (lv_at hl 1 rfl) ?_
        refine lv_iload_n hx hb dX7_puppetOf_140 rfl (lv_at hl 2 rfl) ?_
        obtain ⟨u_29, h_30, hf⟩ := ob hf
        refine k_rd (runV F wdX7_61 (rm := rm_X7_of) (As := [.int x1, .int x2]) (rest := []) ⟨rfl, rfl⟩ ⟨Nat.le_of_ble_eq_true rfl, Nat.le_of_ble_eq_true rfl⟩ hl.1 rfl rfl (Nat.le_of_ble_eq_true rfl) dX7_puppetOf_141 ⟨Nat.zero_le _, Nat.zero_le _⟩) (c_X7_of l D cI cP a u_5.1 x1 x2 _ h_30) hX (va_recv hX.1 hP (ci := 7) (q0 := 0) rfl rfl) hP hP hS hA (fun H locs hP hS => ?_)
        obtain rfl := (Option.some.inj hf)
        exact wr_i F rfl hP hS dX7_puppetOf_144
      · replace hf := (if_neg c_7).symm.trans hf
        refine lv_ldc (v := (-1000004)) hx hb hown (hts _ q_838) dX7_puppetOf_28 ?_
        obtain rfl := (Option.some.inj hf)
        exact wr_i F rfl hP hS dX7_puppetOf_30
    · replace hf := (if_pos c_4).symm.trans hf
      refine lv_ldc (v := (-1000001)) hx hb hown (hts _ q_855) dX7_puppetOf_18 ?_
      obtain rfl := (Option.some.inj hf)
      exact wr_i F rfl hP hS dX7_puppetOf_20
def X7_stringOf (K : SMod) (x1 : Int32) (x2 : Int32) : Option (SMod × Int32) := ((X7_isString K x1).bind fun u_1 => (if u_1 = 0 then some (K, (-1000001)) else (if (X7_in x2 0 4) = 0 then some (K, (-1000001)) else (if 4 ≤ x2 then ((X7_looks K x1).bind fun u_6 => ((X7_tied u_6 x1 0).bind fun u_8 => (if ¬ (u_8 < 0 ∨ 12 ≤ Int32.toNatClampNeg u_8) then ((X7_tied u_6 x1 1).bind fun u_11 => (if ¬ (u_11 < 0 ∨ 12 ≤ Int32.toNatClampNeg u_11) then (if ((u_6.1 4) (Int32.toNatClampNeg u_8)) = ((u_6.1 4) (Int32.toNatClampNeg u_11)) then some (u_6, 1) else some (u_6, 0)) else none)) else none))) else ((X7_tied K x1 x2).bind fun u_15 => some (K, u_15))))))
abbrev rm_X7_stringOf : Room := { frames := 2, cells := 0, slots := 0, locals := 48 }
set_option maxHeartbeats 4000000 in
set_option maxRecDepth 100000 in
theorem c_X7_stringOf (l : Launch) (D : va_G) (cI cP : ClassId) (a : Nat → Nat) (K : SMod) (x1 : Int32) (x2 : Int32) (z : SMod × Int32) (hf : X7_stringOf K x1 x2 = some z) : MWi l yX7_stringOf cX7_stringOf 3 (some .int) rm_X7_stringOf D cI cP [.ref (a 0), .int x1, .int x2] (wMod cI a K) (wMod cI a z.1) z.2 := by
  refine MWi.of (by decide +kernel) (Nat.le_of_ble_eq_true rfl) ?_
  intro p e s m args below meth c ls A F hX hP hD hA hS hl
  have F : Fx p s m args meth c RX7 cX7_stringOf 3 (some .int) := F
  have hx := F.1
  have hb := F.2.1
  have hown := F.2.2.2.1
  have hts := F.2.2.2.2.1
  have hl : lv_has ls 3 [(0, .ref (a 0)), (1, .int x1), (2, .int x2)] := hl
  unfold X7_stringOf at hf
  refine lv_aload_n hx hb dX7_stringOf_0 rfl (lv_at hl 0 rfl) ?_
  refine lv_iload_n hx hb dX7_stringOf_1 rfl (lv_at hl 1 rfl) ?_
  obtain ⟨u_1, h_2, hf⟩ := ob hf
  refine k_rd (runV F wdX7_102 (rm := rm_X7_isString) (As := [.int x1]) (rest := []) ⟨rfl, rfl⟩ ⟨Nat.le_of_ble_eq_true rfl, Nat.le_of_ble_eq_true rfl⟩ hl.1 rfl rfl (Nat.le_of_ble_eq_true rfl) dX7_stringOf_2 ⟨Nat.zero_le _, Nat.zero_le _⟩) (c_X7_isString l D cI cP a K x1 _ h_2) hX (va_recv hX.1 hP (ci := 7) (q0 := 0) rfl rfl) hP hP hS hA (fun H locs hP hS => ?_)
  refine lv_if_eq (tgt := 17) hx hb dX7_stringOf_5 (by decide) (fun c_3 => ?_) (fun c_3 => ?_)
  · replace hf := (if_pos c_3).symm.trans hf
    refine lv_ldc (v := (-1000001)) hx hb hown (hts _ q_855) dX7_stringOf_17 ?_
    obtain rfl := (Option.some.inj hf)
    exact wr_i F rfl hP hS dX7_stringOf_19
  · replace hf := (if_neg c_3).symm.trans hf
    refine lv_iload_n hx hb dX7_stringOf_8 rfl (lv_at hl 2 rfl) ?_
    refine lv_iconst (v := 0) hx hb dX7_stringOf_9 (by decide) ?_
    refine lv_iconst (v := 4) hx hb dX7_stringOf_10 (by decide) ?_
    refine k_rd (runS F wdX7_45 (rm := rm_X7_in) (As := [.int x2, .int 0, .int 4]) (rest := []) ⟨rfl, rfl⟩ ⟨Nat.le_of_ble_eq_true rfl, Nat.le_of_ble_eq_true rfl⟩ hl.1 rfl rfl (Nat.le_of_ble_eq_true rfl) dX7_stringOf_11 ⟨Nat.zero_le _, Nat.zero_le _⟩) (c_X7_in l D cI cP x2 0 4 _ rfl) hX trivial vP_nil hP hS hA (fun H locs hP hS => ?_)
    refine lv_if_ne (tgt := 20) hx hb dX7_stringOf_14 (by decide) (fun c_4 => ?_) (fun c_4 => ?_)
    · replace hf := (if_neg c_4).symm.trans hf
      refine lv_iload_n hx hb dX7_stringOf_20 rfl (lv_at hl 2 rfl) ?_
      refine lv_iconst (v := 4) hx hb dX7_stringOf_21 (by decide) ?_
      refine lv_icmp_ge (tgt := 32) hx hb dX7_stringOf_22 (by decide) (fun c_5 => ?_) (fun c_5 => ?_)
      · replace hf := (if_pos c_5).symm.trans hf
        refine lv_aload_n hx hb dX7_stringOf_32 rfl (lv_at hl 0 rfl) ?_
        refine lv_iload_n hx hb dX7_stringOf_33 rfl (lv_at hl 1 rfl) ?_
        obtain ⟨u_6, h_7, hf⟩ := ob hf
        refine k_wv (runV F wdX7_71 (rm := rm_X7_looks) (As := [.int x1]) (rest := []) ⟨rfl, rfl⟩ ⟨Nat.le_of_ble_eq_true rfl, Nat.le_of_ble_eq_true rfl⟩ hl.1 rfl rfl (Nat.le_of_ble_eq_true rfl) dX7_stringOf_34 ⟨Nat.zero_le _, Nat.zero_le _⟩) (c_X7_looks l D cI cP a K x1 _ h_7) hX (va_recv hX.1 hP (ci := 7) (q0 := 0) rfl rfl) (Cut.all rfl) hP hD hS hA (fun H locs hP hD hS => ?_)
        have hP : va_P D vwCl (wMod cI a u_6) H := hP
        have hD : va_D A (wMod cI a u_6) := hD
        refine lv_aload_n hx hb dX7_stringOf_37 rfl (lv_at hl 0 rfl) ?_
        refine gX7_22 F hX hP 0 rfl (v := .ref (a 5)) rfl dX7_stringOf_38 ?_
        refine lv_aload_n hx hb dX7_stringOf_41 rfl (lv_at hl 0 rfl) ?_
        refine lv_iload_n hx hb dX7_stringOf_42 rfl (lv_at hl 1 rfl) ?_
        refine lv_iconst (v := 0) hx hb dX7_stringOf_43 (by decide) ?_
        obtain ⟨u_8, h_9, hf⟩ := ob hf
        refine k_rd (runV F wdX7_53 (rm := rm_X7_tied) (As := [.int x1, .int 0]) (rest := [.ref (a 5)]) ⟨rfl, rfl⟩ ⟨Nat.le_of_ble_eq_true rfl, Nat.le_of_ble_eq_true rfl⟩ hl.1 rfl rfl (Nat.le_of_ble_eq_true rfl) dX7_stringOf_44 ⟨Nat.zero_le _, Nat.zero_le _⟩) (c_X7_tied l D cI cP a u_6 x1 0 _ h_9) hX (va_recv hX.1 hP (ci := 7) (q0 := 0) rfl rfl) hP hP hS hA (fun H locs hP hS => ?_)
        have g_10 := og hf
        replace hf := (if_pos g_10).symm.trans hf
        refine va_iald hx hb hX.1 hP 5 0 (n := 12) (f := (u_6.1 4)) rfl rfl g_10 dX7_stringOf_47 ?_
        refine lv_aload_n hx hb dX7_stringOf_48 rfl (lv_at hl 0 rfl) ?_
        refine gX7_22 F hX hP 0 rfl (v := .ref (a 5)) rfl dX7_stringOf_49 ?_
        refine lv_aload_n hx hb dX7_stringOf_52 rfl (lv_at hl 0 rfl) ?_
        refine lv_iload_n hx hb dX7_stringOf_53 rfl (lv_at hl 1 rfl) ?_
        refine lv_iconst (v := 1) hx hb dX7_stringOf_54 (by decide) ?_
        obtain ⟨u_11, h_12, hf⟩ := ob hf
        refine k_rd (runV F wdX7_53 (rm := rm_X7_tied) (As := [.int x1, .int 1]) (rest := [.ref (a 5), .int ((u_6.1 4) (Int32.toNatClampNeg u_8))]) ⟨rfl, rfl⟩ ⟨Nat.le_of_ble_eq_true rfl, Nat.le_of_ble_eq_true rfl⟩ hl.1 rfl rfl (Nat.le_of_ble_eq_true rfl) dX7_stringOf_55 ⟨Nat.zero_le _, Nat.zero_le _⟩) (c_X7_tied l D cI cP a u_6 x1 1 _ h_12) hX (va_recv hX.1 hP (ci := 7) (q0 := 0) rfl rfl) hP hP hS hA (fun H locs hP hS => ?_)
        have g_13 := og hf
        replace hf := (if_pos g_13).symm.trans hf
        refine va_iald hx hb hX.1 hP 5 0 (n := 12) (f := (u_6.1 4)) rfl rfl g_13 dX7_stringOf_58 ?_
        refine lv_icmp_ne (tgt := 66) hx hb dX7_stringOf_59 (by decide) (fun c_14 => ?_) (fun c_14 => ?_)
        · replace hf := (if_neg c_14).symm.trans hf
          refine lv_iconst (v := 0) hx hb dX7_stringOf_66 (by decide) ?_
          obtain rfl := (Option.some.inj hf)
          exact wr_i F rfl hP hS dX7_stringOf_67
        · replace hf := (if_pos c_14).symm.trans hf
          refine lv_iconst (v := 1) hx hb dX7_stringOf_62 (by decide) ?_
          refine lv_goto (tgt := 67) hx hb dX7_stringOf_63 (by decide) ?_
          obtain rfl := (Option.some.inj hf)
          exact wr_i F rfl hP hS dX7_stringOf_67
      · replace hf := (if_neg c_5).symm.trans hf
        refine lv_aload_n hx hb dX7_stringOf_25 rfl (lv_at hl 0 rfl) ?_
        refine lv_iload_n hx hb dX7_stringOf_26 rfl (lv_at hl 1 rfl) ?_
        refine lv_iload_n hx hb dX7_stringOf_27 rfl (lv_at hl 2 rfl) ?_
        obtain ⟨u_15, h_16, hf⟩ := ob hf
        refine k_rd (runV F wdX7_53 (rm := rm_X7_tied) (As := [.int x1, .int x2]) (rest := []) ⟨rfl, rfl⟩ ⟨Nat.le_of_ble_eq_true rfl, Nat.le_of_ble_eq_true rfl⟩ hl.1 rfl rfl (Nat.le_of_ble_eq_true rfl) dX7_stringOf_28 ⟨Nat.zero_le _, Nat.zero_le _⟩) (c_X7_tied l D cI cP a K x1 x2 _ h_16) hX (va_recv hX.1 hP (ci := 7) (q0 := 0) rfl rfl) hP hP hS hA (fun H locs hP hS => ?_)
        obtain rfl := (Option.some.inj hf)
        exact wr_i F rfl hP hS dX7_stringOf_31
    · replace hf := (if_pos c_4).symm.trans hf
      refine lv_ldc (v := (-1000001)) hx hb hown (hts _ q_855) dX7_stringOf_17 ?_
      obtain rfl := (Option.some.inj hf)
      exact wr_i F rfl hP hS dX7_stringOf_19
def X7_reached_L4 : Nat → SMod → Int32 → Int32 → Int32 → Option (Int32)
  | 0, _, _, _, _ => none
  | fu + 1, K_4, x1_4, x2_4, x3_4 => (if ((K_4.1 0) (Int32.toNatClampNeg 149)) ≤ x3_4 then some x2_4 else ((X7_tied K_4 x3_4 0).bind fun u_2 => ((X7_tied K_4 x3_4 1).bind fun u_4 => (if (x1_4 &&& ((1 <<< (u_2 &&& 31)) ||| (1 <<< (u_4 &&& 31)))) = 0 then X7_reached_L4 fu K_4 x1_4 (x2_4 ||| 0) (x3_4 + 1) else X7_reached_L4 fu K_4 x1_4 (x2_4 ||| ((1 <<< (u_2 &&& 31)) ||| (1 <<< (u_4 &&& 31)))) (x3_4 + 1)))))
def X7_reached (K : SMod) (x1 : Int32) : Option (Int32) := ((X7_reached_L4 FUEL K x1 x1 0).bind fun u_7 => some u_7)
abbrev rm_X7_reached : Room := { frames := 1, cells := 0, slots := 0, locals := 22 }
set_option maxHeartbeats 4000000 in
set_option maxRecDepth 100000 in
theorem c_X7_reached (l : Launch) (D : va_G) (cI cP : ClassId) (a : Nat → Nat) (K : SMod) (x1 : Int32) (z : Int32) (hf : X7_reached K x1 = some z) : MRd l yX7_reached cX7_reached 5 (some .int) rm_X7_reached D cI cP [.ref (a 0), .int x1] (wMod cI a K) z := by
  refine MRd.of (by decide +kernel) (Nat.le_of_ble_eq_true rfl) ?_
  intro p e s m args below meth c ls F hX hP hS hl
  have F : Fx p s m args meth c RX7 cX7_reached 5 (some .int) := F
  have hx := F.1
  have hb := F.2.1
  have hown := F.2.2.2.1
  have hts := F.2.2.2.2.1
  have hA : ∀ q : Nat, s.heap.size ≤ q → (fun q : Nat => s.heap.size ≤ q) q := fun _ h => h
  have hl : lv_has ls 5 [(0, .ref (a 0)), (1, .int x1)] := hl
  unfold X7_reached at hf
  refine lv_iload_n hx hb dX7_reached_0 rfl (lv_at hl 1 rfl) ?_
  refine lv_istore_n (lv' := [(2, .int x1), (0, .ref (a 0)), (1, .int x1)]) hx hb dX7_reached_1 rfl hl (by decide) rfl (fun ls hl => ?_)
  refine lv_iconst (v := 0) hx hb dX7_reached_2 (by decide) ?_
  refine lv_istore_n (lv' := [(3, .int 0), (2, .int x1), (0, .ref (a 0)), (1, .int x1)]) hx hb dX7_reached_3 rfl hl (by decide) rfl (fun ls hl => ?_)
  have hL_4 : ∀ (fu : Nat) (K_4 : SMod) (x1_4 : Int32) (x2_4 : Int32) (x3_4 : Int32) (v : Int32) (H : Heap) (locs : List Loc) (ls : Array Slot), X7_reached_L4 fu K_4 x1_4 x2_4 x3_4 = some v → va_P D vwCl (wMod cI a K_4) H → va_S (fun q : Nat => s.heap.size ≤ q) s.heap H locs → lv_has ls 5 [(0, .ref (a 0)), (1, .int x1_4), (2, .int x2_4), (3, .int x3_4)] → (∀ (H : Heap) (locs : List Loc) (ls : Array Slot), va_P D vwCl (wMod cI a K_4) H → va_S (fun q : Nat => s.heap.size ≤ q) s.heap H locs → lv_has ls 5 [(2, .int v)] → W p l e rm_X7_reached s m args below meth c H locs 0 0 (QR below args s z) (F0 m 57 ls [])) → W p l e rm_X7_reached s m args below meth c H locs 0 0 (QR below args s z) (F0 m 4 ls []) := by
    intro fu
    induction fu with
    | zero =>
      intro K_4 x1_4 x2_4 x3_4 v H locs ls hf
      exact absurd hf (by simp [X7_reached_L4])
    | succ fu ih =>
      intro K_4 x1_4 x2_4 x3_4 v _ _ ls hf hP hS hl hk
      rw [X7_reached_L4] at hf
      refine lv_iload_n hx hb dX7_reached_4 rfl (lv_at hl 3 rfl) ?_
      refine lv_aload_n hx hb dX7_reached_5 rfl (lv_at hl 0 rfl) ?_
      refine gX7_7 F hX hP 0 rfl (v := .ref (a 1)) rfl dX7_reached_6 ?_
      refine lv_sipush (v := 149) hx hb dX7_reached_9 (by decide) ?_
      refine va_iald hx hb hX.1 hP 1 0 (n := 156) (f := (K_4.1 0)) rfl rfl (by decide : ¬ ((149 : Int32) < 0 ∨ 156 ≤ Int32.toNatClampNeg 149)) dX7_reached_12 ?_
      refine lv_icmp_ge (tgt := 57) hx hb dX7_reached_13 (by decide) (fun c_1 => ?_) (fun c_1 => ?_)
      · replace hf := (if_pos c_1).symm.trans hf
        obtain rfl := Option.some.inj hf
        exact hk _ _ ls hP hS (lv_sub hl [2] rfl)
      · replace hf := (if_neg c_1).symm.trans hf
        refine lv_iconst (v := 1) hx hb dX7_reached_16 (by decide) ?_
        refine lv_aload_n hx hb dX7_reached_17 rfl (lv_at hl 0 rfl) ?_
        refine lv_iload_n hx hb dX7_reached_18 rfl (lv_at hl 3 rfl) ?_
        refine lv_iconst (v := 0) hx hb dX7_reached_19 (by decide) ?_
        obtain ⟨u_2, h_3, hf⟩ := ob hf
        refine k_rd (runV F wdX7_53 (rm := rm_X7_tied) (As := [.int x3_4, .int 0]) (rest := [.int 1]) ⟨rfl, rfl⟩ ⟨Nat.le_of_ble_eq_true rfl, Nat.le_of_ble_eq_true rfl⟩ hl.1 rfl rfl (Nat.le_of_ble_eq_true rfl) dX7_reached_20 ⟨Nat.zero_le _, Nat.zero_le _⟩) (c_X7_tied l D cI cP a K_4 x3_4 0 _ h_3) hX (va_recv hX.1 hP (ci := 7) (q0 := 0) rfl rfl) hP hP hS hA (fun H locs hP hS => ?_)
        refine lv_ishl hx hb dX7_reached_23 ?_
        refine lv_iconst (v := 1) hx hb dX7_reached_24 (by decide) ?_
        refine lv_aload_n hx hb dX7_reached_25 rfl (lv_at hl 0 rfl) ?_
        refine lv_iload_n hx hb dX7_reached_26 rfl (lv_at hl 3 rfl) ?_
        refine lv_iconst (v := 1) hx hb dX7_reached_27 (by decide) ?_
        obtain ⟨u_4, h_5, hf⟩ := ob hf
        refine k_rd (runV F wdX7_53 (rm := rm_X7_tied) (As := [.int x3_4, .int 1]) (rest := [.int 1, .int (1 <<< (u_2 &&& 31))]) ⟨rfl, rfl⟩ ⟨Nat.le_of_ble_eq_true rfl, Nat.le_of_ble_eq_true rfl⟩ hl.1 rfl rfl (Nat.le_of_ble_eq_true rfl) dX7_reached_28 ⟨Nat.zero_le _, Nat.zero_le _⟩) (c_X7_tied l D cI cP a K_4 x3_4 1 _ h_5) hX (va_recv hX.1 hP (ci := 7) (q0 := 0) rfl rfl) hP hP hS hA (fun H locs hP hS => ?_)
        refine lv_ishl hx hb dX7_reached_31 ?_
        refine lv_ior hx hb dX7_reached_32 ?_
        refine lv_istore (lv' := [(4, .int ((1 <<< (u_2 &&& 31)) ||| (1 <<< (u_4 &&& 31)))), (0, .ref (a 0)), (1, .int x1_4), (2, .int x2_4), (3, .int x3_4)]) hx hb dX7_reached_33 hl (by decide) rfl (fun ls hl => ?_)
        refine lv_iload_n hx hb dX7_reached_35 rfl (lv_at hl 3 rfl) ?_
        refine lv_iload_n hx hb dX7_reached_36 rfl (lv_at hl 2 rfl) ?_
        refine lv_iload hx hb dX7_reached_37 (lv_at hl 0 rfl) ?_
        refine lv_iand hx hb dX7_reached_39 ?_
        refine lv_if_eq (tgt := 48) hx hb dX7_reached_40 (by decide) (fun c_6 => ?_) (fun c_6 => ?_)
        · replace hf := (if_pos c_6).symm.trans hf
          refine lv_iconst (v := 0) hx hb dX7_reached_48 (by decide) ?_
          refine lv_ior hx hb dX7_reached_49 ?_
          refine lv_istore_n (lv' := [(2, .int (x2_4 ||| 0)), (4, .int ((1 <<< (u_2 &&& 31)) ||| (1 <<< (u_4 &&& 31)))), (0, .ref (a 0)), (1, .int x1_4), (3, .int x3_4)]) hx hb dX7_reached_50 rfl hl (by decide) rfl (fun ls hl => ?_)
          refine lv_iinc (v := (x3_4 + 1)) (lv' := [(3, .int (x3_4 + 1)), (2, .int (x2_4 ||| 0)), (4, .int ((1 <<< (u_2 &&& 31)) ||| (1 <<< (u_4 &&& 31)))), (0, .ref (a 0)), (1, .int x1_4)]) hx hb dX7_reached_51 hl (k := 4) rfl (by rfl) (by decide) rfl (fun ls hl => ?_)
          refine lv_goto (tgt := 4) hx hb dX7_reached_54 (by decide) ?_
          exact ih K_4 x1_4 (x2_4 ||| 0) (x3_4 + 1) _ _ _ ls hf hP hS (lv_sub hl [3, 4, 1, 0] rfl) hk
        · replace hf := (if_neg c_6).symm.trans hf
          refine lv_iload hx hb dX7_reached_43 (lv_at hl 0 rfl) ?_
          refine lv_goto (tgt := 49) hx hb dX7_reached_45 (by decide) ?_
          refine lv_ior hx hb dX7_reached_49 ?_
          refine lv_istore_n (lv' := [(2, .int (x2_4 ||| ((1 <<< (u_2 &&& 31)) ||| (1 <<< (u_4 &&& 31))))), (4, .int ((1 <<< (u_2 &&& 31)) ||| (1 <<< (u_4 &&& 31)))), (0, .ref (a 0)), (1, .int x1_4), (3, .int x3_4)]) hx hb dX7_reached_50 rfl hl (by decide) rfl (fun ls hl => ?_)
          refine lv_iinc (v := (x3_4 + 1)) (lv' := [(3, .int (x3_4 + 1)), (2, .int (x2_4 ||| ((1 <<< (u_2 &&& 31)) ||| (1 <<< (u_4 &&& 31))))), (4, .int ((1 <<< (u_2 &&& 31)) ||| (1 <<< (u_4 &&& 31)))), (0, .ref (a 0)), (1, .int x1_4)]) hx hb dX7_reached_51 hl (k := 4) rfl (by rfl) (by decide) rfl (fun ls hl => ?_)
          refine lv_goto (tgt := 4) hx hb dX7_reached_54 (by decide) ?_
          exact ih K_4 x1_4 (x2_4 ||| ((1 <<< (u_2 &&& 31)) ||| (1 <<< (u_4 &&& 31)))) (x3_4 + 1) _ _ _ ls hf hP hS (lv_sub hl [3, 4, 1, 0] rfl) hk
  obtain ⟨u_7, h_8, hf⟩ := ob hf
  refine hL_4 FUEL K x1 x1 0 u_7 _ _ ls h_8 hP hS (lv_sub hl [2, 3, 1, 0] rfl) (fun H locs ls hP hS hl => ?_)
  clear hL_4
  refine lv_iload_n hx hb dX7_reached_57 rfl (lv_at hl 0 rfl) ?_
  exact rd_i F (Option.some.inj hf) hS dX7_reached_58
def X7_between_L26 : Nat → SMod → Int32 → Int32 → Int32 → Option (Int32)
  | 0, _, _, _, _ => none
  | fu + 1, K_26, x2_26, x3_26, x4_26 => (if ((x3_26 >>> (x2_26 &&& 31)) &&& 1) = 0 then ((X7_reached K_26 x3_26).bind fun u_8 => (if u_8 = x3_26 then some (-1000004) else X7_between_L26 fu K_26 x2_26 u_8 (x4_26 + 1))) else some x4_26)
def X7_between (K : SMod) (x1 : Int32) (x2 : Int32) : Option (Int32) := ((X7_isPuppet K x1).bind fun u_1 => (if u_1 = 0 then some (-1000001) else ((X7_isPuppet K x2).bind fun u_4 => (if u_4 = 0 then some (-1000001) else (X7_between_L26 FUEL K x2 (1 <<< (x1 &&& 31)) 0)))))
abbrev rm_X7_between : Room := { frames := 2, cells := 0, slots := 0, locals := 46 }
set_option maxHeartbeats 4000000 in
set_option maxRecDepth 100000 in
theorem c_X7_between (l : Launch) (D : va_G) (cI cP : ClassId) (a : Nat → Nat) (K : SMod) (x1 : Int32) (x2 : Int32) (z : Int32) (hf : X7_between K x1 x2 = some z) : MRd l yX7_between cX7_between 6 (some .int) rm_X7_between D cI cP [.ref (a 0), .int x1, .int x2] (wMod cI a K) z := by
  refine MRd.of (by decide +kernel) (Nat.le_of_ble_eq_true rfl) ?_
  intro p e s m args below meth c ls F hX hP hS hl
  have F : Fx p s m args meth c RX7 cX7_between 6 (some .int) := F
  have hx := F.1
  have hb := F.2.1
  have hown := F.2.2.2.1
  have hts := F.2.2.2.2.1
  have hA : ∀ q : Nat, s.heap.size ≤ q → (fun q : Nat => s.heap.size ≤ q) q := fun _ h => h
  have hl : lv_has ls 6 [(0, .ref (a 0)), (1, .int x1), (2, .int x2)] := hl
  unfold X7_between at hf
  refine lv_aload_n hx hb dX7_between_0 rfl (lv_at hl 0 rfl) ?_
  refine lv_iload_n hx hb dX7_between_1 rfl (lv_at hl 1 rfl) ?_
  obtain ⟨u_1, h_2, hf⟩ := ob hf
  refine k_rd (runV F wdX7_49 (rm := rm_X7_isPuppet) (As := [.int x1]) (rest := []) ⟨rfl, rfl⟩ ⟨Nat.le_of_ble_eq_true rfl, Nat.le_of_ble_eq_true rfl⟩ hl.1 rfl rfl (Nat.le_of_ble_eq_true rfl) dX7_between_2 ⟨Nat.zero_le _, Nat.zero_le _⟩) (c_X7_isPuppet l D cI cP a K x1 _ h_2) hX (va_recv hX.1 hP (ci := 7) (q0 := 0) rfl rfl) hP hP hS hA (fun H locs hP hS => ?_)
  refine lv_if_eq (tgt := 16) hx hb dX7_between_5 (by decide) (fun c_3 => ?_) (fun c_3 => ?_)
  · replace hf := (if_pos c_3).symm.trans hf
    refine lv_ldc (v := (-1000001)) hx hb hown (hts _ q_855) dX7_between_16 ?_
    exact rd_i F (Option.some.inj hf) hS dX7_between_18
  · replace hf := (if_neg c_3).symm.trans hf
    refine lv_aload_n hx hb dX7_between_8 rfl (lv_at hl 0 rfl) ?_
    refine lv_iload_n hx hb dX7_between_9 rfl (lv_at hl 2 rfl) ?_
    obtain ⟨u_4, h_5, hf⟩ := ob hf
    refine k_rd (runV F wdX7_49 (rm := rm_X7_isPuppet) (As := [.int x2]) (rest := []) ⟨rfl, rfl⟩ ⟨Nat.le_of_ble_eq_true rfl, Nat.le_of_ble_eq_true rfl⟩ hl.1 rfl rfl (Nat.le_of_ble_eq_true rfl) dX7_between_10 ⟨Nat.zero_le _, Nat.zero_le _⟩) (c_X7_isPuppet l D cI cP a K x2 _ h_5) hX (va_recv hX.1 hP (ci := 7) (q0 := 0) rfl rfl) hP hP hS hA (fun H locs hP hS => ?_)
    refine lv_if_ne (tgt := 19) hx hb dX7_between_13 (by decide) (fun c_6 => ?_) (fun c_6 => ?_)
    · replace hf := (if_neg c_6).symm.trans hf
      refine lv_iconst (v := 1) hx hb dX7_between_19 (by decide) ?_
      refine lv_iload_n hx hb dX7_between_20 rfl (lv_at hl 1 rfl) ?_
      refine lv_ishl hx hb dX7_between_21 ?_
      refine lv_istore_n (lv' := [(3, .int (1 <<< (x1 &&& 31))), (0, .ref (a 0)), (1, .int x1), (2, .int x2)]) hx hb dX7_between_22 rfl hl (by decide) rfl (fun ls hl => ?_)
      refine lv_iconst (v := 0) hx hb dX7_between_23 (by decide) ?_
      refine lv_istore (lv' := [(4, .int 0), (3, .int (1 <<< (x1 &&& 31))), (0, .ref (a 0)), (1, .int x1), (2, .int x2)]) hx hb dX7_between_24 hl (by decide) rfl (fun ls hl => ?_)
      have hL_26 : ∀ (fu : Nat) (K_26 : SMod) (x2_26 : Int32) (x3_26 : Int32) (x4_26 : Int32) (H : Heap) (locs : List Loc) (ls : Array Slot), X7_between_L26 fu K_26 x2_26 x3_26 x4_26 = some z → va_P D vwCl (wMod cI a K_26) H → va_S (fun q : Nat => s.heap.size ≤ q) s.heap H locs → lv_has ls 6 [(0, .ref (a 0)), (2, .int x2_26), (3, .int x3_26), (4, .int x4_26)] → W p l e rm_X7_between s m args below meth c H locs 0 0 (QR below args s z) (F0 m 26 ls []) := by
        intro fu
        induction fu with
        | zero =>
          intro K_26 x2_26 x3_26 x4_26 H locs ls hf
          exact absurd hf (by simp [X7_between_L26])
        | succ fu ih =>
          intro K_26 x2_26 x3_26 x4_26 _ _ ls hf hP hS hl
          rw [X7_between_L26] at hf
          refine lv_iload_n hx hb dX7_between_26 rfl (lv_at hl 2 rfl) ?_
          refine lv_iload_n hx hb dX7_between_27 rfl (lv_at hl 1 rfl) ?_
          refine lv_ishr hx hb dX7_between_28 ?_
          refine lv_iconst (v := 1) hx hb dX7_between_29 (by decide) ?_
          refine lv_iand hx hb dX7_between_30 ?_
          refine lv_if_ne (tgt := 59) hx hb dX7_between_31 (by decide) (fun c_7 => ?_) (fun c_7 => ?_)
          · replace hf := (if_neg c_7).symm.trans hf
            refine lv_iload hx hb dX7_between_59 (lv_at hl 3 rfl) ?_
            exact rd_i F (Option.some.inj hf) hS dX7_between_61
          · replace hf := (if_pos c_7).symm.trans hf
            refine lv_aload_n hx hb dX7_between_34 rfl (lv_at hl 0 rfl) ?_
            refine lv_iload_n hx hb dX7_between_35 rfl (lv_at hl 2 rfl) ?_
            obtain ⟨u_8, h_9, hf⟩ := ob hf
            refine k_rd (runV F wdX7_130 (rm := rm_X7_reached) (As := [.int x3_26]) (rest := []) ⟨rfl, rfl⟩ ⟨Nat.le_of_ble_eq_true rfl, Nat.le_of_ble_eq_true rfl⟩ hl.1 rfl rfl (Nat.le_of_ble_eq_true rfl) dX7_between_36 ⟨Nat.zero_le _, Nat.zero_le _⟩) (c_X7_reached l D cI cP a K_26 x3_26 _ h_9) hX (va_recv hX.1 hP (ci := 7) (q0 := 0) rfl rfl) hP hP hS hA (fun H locs hP hS => ?_)
            refine lv_istore (lv' := [(5, .int u_8), (0, .ref (a 0)), (2, .int x2_26), (3, .int x3_26), (4, .int x4_26)]) hx hb dX7_between_39 hl (by decide) rfl (fun ls hl => ?_)
            refine lv_iload hx hb dX7_between_41 (lv_at hl 0 rfl) ?_
            refine lv_iload_n hx hb dX7_between_43 rfl (lv_at hl 3 rfl) ?_
            refine lv_icmp_ne (tgt := 50) hx hb dX7_between_44 (by decide) (fun c_10 => ?_) (fun c_10 => ?_)
            · replace hf := (if_neg c_10).symm.trans hf
              refine lv_iload hx hb dX7_between_50 (lv_at hl 0 rfl) ?_
              refine lv_istore_n (lv' := [(3, .int u_8), (5, .int u_8), (0, .ref (a 0)), (2, .int x2_26), (4, .int x4_26)]) hx hb dX7_between_52 rfl hl (by decide) rfl (fun ls hl => ?_)
              refine lv_iinc (v := (x4_26 + 1)) (lv' := [(4, .int (x4_26 + 1)), (3, .int u_8), (5, .int u_8), (0, .ref (a 0)), (2, .int x2_26)]) hx hb dX7_between_53 hl (k := 4) rfl (by rfl) (by decide) rfl (fun ls hl => ?_)
              refine lv_goto (tgt := 26) hx hb dX7_between_56 (by decide) ?_
              exact ih K_26 x2_26 u_8 (x4_26 + 1) _ _ ls hf hP hS (lv_sub hl [3, 4, 1, 0] rfl)
            · replace hf := (if_pos c_10).symm.trans hf
              refine lv_ldc (v := (-1000004)) hx hb hown (hts _ q_838) dX7_between_47 ?_
              exact rd_i F (Option.some.inj hf) hS dX7_between_49
      exact hL_26 FUEL K x2 (1 <<< (x1 &&& 31)) 0 _ _ ls hf hP hS (lv_sub hl [2, 4, 1, 0] rfl)
    · replace hf := (if_pos c_6).symm.trans hf
      refine lv_ldc (v := (-1000001)) hx hb hown (hts _ q_855) dX7_between_16 ?_
      exact rd_i F (Option.some.inj hf) hS dX7_between_18
def X7_book (K : SMod) (x1 : Int32) (x2 : Int32) : Option (Int32) := (if x1 < 0 then some (-1000001) else (if (X7_in x2 0 3) = 0 then some (-1000001) else (if ((K.1 0) (Int32.toNatClampNeg 153)) ≤ x1 then some (-1000004) else (if ¬ (((116 + (4 * x1)) + x2) < 0 ∨ 156 ≤ Int32.toNatClampNeg ((116 + (4 * x1)) + x2)) then some ((K.1 0) (Int32.toNatClampNeg ((116 + (4 * x1)) + x2))) else none))))
abbrev rm_X7_book : Room := { frames := 1, cells := 0, slots := 0, locals := 22 }
set_option maxHeartbeats 4000000 in
set_option maxRecDepth 100000 in
theorem c_X7_book (l : Launch) (D : va_G) (cI cP : ClassId) (a : Nat → Nat) (K : SMod) (x1 : Int32) (x2 : Int32) (z : Int32) (hf : X7_book K x1 x2 = some z) : MRd l yX7_book cX7_book 3 (some .int) rm_X7_book D cI cP [.ref (a 0), .int x1, .int x2] (wMod cI a K) z := by
  refine MRd.of (by decide +kernel) (Nat.le_of_ble_eq_true rfl) ?_
  intro p e s m args below meth c ls F hX hP hS hl
  have F : Fx p s m args meth c RX7 cX7_book 3 (some .int) := F
  have hx := F.1
  have hb := F.2.1
  have hown := F.2.2.2.1
  have hts := F.2.2.2.2.1
  have hA : ∀ q : Nat, s.heap.size ≤ q → (fun q : Nat => s.heap.size ≤ q) q := fun _ h => h
  have hl : lv_has ls 3 [(0, .ref (a 0)), (1, .int x1), (2, .int x2)] := hl
  unfold X7_book at hf
  refine lv_iload_n hx hb dX7_book_0 rfl (lv_at hl 1 rfl) ?_
  refine lv_if_lt (tgt := 13) hx hb dX7_book_1 (by decide) (fun c_1 => ?_) (fun c_1 => ?_)
  · replace hf := (if_pos c_1).symm.trans hf
    refine lv_ldc (v := (-1000001)) hx hb hown (hts _ q_855) dX7_book_13 ?_
    exact rd_i F (Option.some.inj hf) hS dX7_book_15
  · replace hf := (if_neg c_1).symm.trans hf
    refine lv_iload_n hx hb dX7_book_4 rfl (lv_at hl 2 rfl) ?_
    refine lv_iconst (v := 0) hx hb dX7_book_5 (by decide) ?_
    refine lv_iconst (v := 3) hx hb dX7_book_6 (by decide) ?_
    refine k_rd (runS F wdX7_45 (rm := rm_X7_in) (As := [.int x2, .int 0, .int 3]) (rest := []) ⟨rfl, rfl⟩ ⟨Nat.le_of_ble_eq_true rfl, Nat.le_of_ble_eq_true rfl⟩ hl.1 rfl rfl (Nat.le_of_ble_eq_true rfl) dX7_book_7 ⟨Nat.zero_le _, Nat.zero_le _⟩) (c_X7_in l D cI cP x2 0 3 _ rfl) hX trivial vP_nil hP hS hA (fun H locs hP hS => ?_)
    refine lv_if_ne (tgt := 16) hx hb dX7_book_10 (by decide) (fun c_2 => ?_) (fun c_2 => ?_)
    · replace hf := (if_neg c_2).symm.trans hf
      refine lv_iload_n hx hb dX7_book_16 rfl (lv_at hl 1 rfl) ?_
      refine lv_aload_n hx hb dX7_book_17 rfl (lv_at hl 0 rfl) ?_
      refine gX7_7 F hX hP 0 rfl (v := .ref (a 1)) rfl dX7_book_18 ?_
      refine lv_sipush (v := 153) hx hb dX7_book_21 (by decide) ?_
      refine va_iald hx hb hX.1 hP 1 0 (n := 156) (f := (K.1 0)) rfl rfl (by decide : ¬ ((153 : Int32) < 0 ∨ 156 ≤ Int32.toNatClampNeg 153)) dX7_book_24 ?_
      refine lv_icmp_ge (tgt := 44) hx hb dX7_book_25 (by decide) (fun c_3 => ?_) (fun c_3 => ?_)
      · replace hf := (if_pos c_3).symm.trans hf
        refine lv_ldc (v := (-1000004)) hx hb hown (hts _ q_838) dX7_book_44 ?_
        exact rd_i F (Option.some.inj hf) hS dX7_book_46
      · replace hf := (if_neg c_3).symm.trans hf
        refine lv_aload_n hx hb dX7_book_28 rfl (lv_at hl 0 rfl) ?_
        refine gX7_7 F hX hP 0 rfl (v := .ref (a 1)) rfl dX7_book_29 ?_
        refine lv_bipush (v := 116) hx hb dX7_book_32 (by decide) ?_
        refine lv_iconst (v := 4) hx hb dX7_book_34 (by decide) ?_
        refine lv_iload_n hx hb dX7_book_35 rfl (lv_at hl 1 rfl) ?_
        refine lv_imul hx hb dX7_book_36 ?_
        refine lv_iadd hx hb dX7_book_37 ?_
        refine lv_iload_n hx hb dX7_book_38 rfl (lv_at hl 2 rfl) ?_
        refine lv_iadd hx hb dX7_book_39 ?_
        have g_4 := og hf
        replace hf := (if_pos g_4).symm.trans hf
        refine va_iald hx hb hX.1 hP 1 0 (n := 156) (f := (K.1 0)) rfl rfl g_4 dX7_book_40 ?_
        refine lv_goto (tgt := 46) hx hb dX7_book_41 (by decide) ?_
        exact rd_i F (Option.some.inj hf) hS dX7_book_46
    · replace hf := (if_pos c_2).symm.trans hf
      refine lv_ldc (v := (-1000001)) hx hb hown (hts _ q_855) dX7_book_13 ?_
      exact rd_i F (Option.some.inj hf) hS dX7_book_15
def X7_yesWith (K : SMod) (x1 : Int32) (x2 : Int32) : Option (SMod × Int32) := ((X7_of K x1 2).bind fun u_1 => (if ¬ (((3 * x1) + 2) < 0 ∨ 156 ≤ Int32.toNatClampNeg ((3 * x1) + 2)) then (bnd ((up K.1 0 (upd (K.1 0) (Int32.toNatClampNeg ((3 * x1) + 2)) (x2 + 1))), K.2) fun M_4 => ((X7_yesNow M_4).bind fun u_6 => (bnd ((up u_6.1.1 0 (upd (u_6.1.1 0) (Int32.toNatClampNeg ((3 * x1) + 2)) u_1)), u_6.1.2) fun M_8 => some (M_8, u_6.2)))) else none))
abbrev rm_X7_yesWith : Room := { frames := 4, cells := 0, slots := 0, locals := 90 }
set_option maxHeartbeats 4000000 in
set_option maxRecDepth 100000 in
theorem c_X7_yesWith (l : Launch) (D : va_G) (cI cP : ClassId) (a : Nat → Nat) (K : SMod) (x1 : Int32) (x2 : Int32) (z : SMod × Int32) (hf : X7_yesWith K x1 x2 = some z) : MWi l yX7_yesWith cX7_yesWith 5 (some .int) rm_X7_yesWith D cI cP [.ref (a 0), .int x1, .int x2] (wMod cI a K) (wMod cI a z.1) z.2 := by
  refine MWi.of (by decide +kernel) (Nat.le_of_ble_eq_true rfl) ?_
  intro p e s m args below meth c ls A F hX hP hD hA hS hl
  have F : Fx p s m args meth c RX7 cX7_yesWith 5 (some .int) := F
  have hx := F.1
  have hb := F.2.1
  have hown := F.2.2.2.1
  have hts := F.2.2.2.2.1
  have hl : lv_has ls 5 [(0, .ref (a 0)), (1, .int x1), (2, .int x2)] := hl
  unfold X7_yesWith at hf
  refine lv_aload_n hx hb dX7_yesWith_0 rfl (lv_at hl 0 rfl) ?_
  refine lv_iload_n hx hb dX7_yesWith_1 rfl (lv_at hl 1 rfl) ?_
  refine lv_iconst (v := 2) hx hb dX7_yesWith_2 (by decide) ?_
  obtain ⟨u_1, h_2, hf⟩ := ob hf
  refine k_rd (runV F wdX7_61 (rm := rm_X7_of) (As := [.int x1, .int 2]) (rest := []) ⟨rfl, rfl⟩ ⟨Nat.le_of_ble_eq_true rfl, Nat.le_of_ble_eq_true rfl⟩ hl.1 rfl rfl (Nat.le_of_ble_eq_true rfl) dX7_yesWith_3 ⟨Nat.zero_le _, Nat.zero_le _⟩) (c_X7_of l D cI cP a K x1 2 _ h_2) hX (va_recv hX.1 hP (ci := 7) (q0 := 0) rfl rfl) hP hP hS hA (fun H locs hP hS => ?_)
  refine lv_istore_n (lv' := [(3, .int u_1), (0, .ref (a 0)), (1, .int x1), (2, .int x2)]) hx hb dX7_yesWith_6 rfl hl (by decide) rfl (fun ls hl => ?_)
  refine lv_aload_n hx hb dX7_yesWith_7 rfl (lv_at hl 1 rfl) ?_
  refine gX7_7 F hX hP 0 rfl (v := .ref (a 1)) rfl dX7_yesWith_8 ?_
  refine lv_iconst (v := 3) hx hb dX7_yesWith_11 (by decide) ?_
  refine lv_iload_n hx hb dX7_yesWith_12 rfl (lv_at hl 2 rfl) ?_
  refine lv_imul hx hb dX7_yesWith_13 ?_
  refine lv_iconst (v := 2) hx hb dX7_yesWith_14 (by decide) ?_
  refine lv_iadd hx hb dX7_yesWith_15 ?_
  refine lv_iload_n hx hb dX7_yesWith_16 rfl (lv_at hl 3 rfl) ?_
  refine lv_iconst (v := 1) hx hb dX7_yesWith_17 (by decide) ?_
  refine lv_iadd hx hb dX7_yesWith_18 ?_
  have g_3 := og hf
  replace hf := (if_pos g_3).symm.trans hf
  refine va_iast hx hb hX.1 hP hD hS 1 0 (n := 156) (f := (K.1 0)) rfl rfl g_3 dX7_yesWith_19 (fun H locs hP hD hS => ?_)
  obtain ⟨M_4, e_5, hf⟩ := bnd_e hf
  have hP : va_P D vwCl (wMod cI a M_4) H := by rw [e_5]; exact hP
  have hD : va_D A (wMod cI a M_4) := by rw [e_5]; exact hD
  clear e_5
  refine lv_aload_n hx hb dX7_yesWith_20 rfl (lv_at hl 1 rfl) ?_
  obtain ⟨u_6, h_7, hf⟩ := ob hf
  refine k_wi (runV F wdX7_79 (rm := rm_X7_yesNow) (As := []) (rest := []) ⟨rfl, rfl⟩ ⟨Nat.le_of_ble_eq_true rfl, Nat.le_of_ble_eq_true rfl⟩ hl.1 rfl rfl (Nat.le_of_ble_eq_true rfl) dX7_yesWith_21 ⟨Nat.zero_le _, Nat.zero_le _⟩) (c_X7_yesNow l D cI cP a M_4  _ h_7) hX (va_recv hX.1 hP (ci := 7) (q0 := 0) rfl rfl) (Cut.all rfl) hP hD hS hA (fun H locs hP hD hS => ?_)
  have hP : va_P D vwCl (wMod cI a u_6.1) H := hP
  have hD : va_D A (wMod cI a u_6.1) := hD
  refine lv_istore (lv' := [(4, .int u_6.2), (3, .int u_1), (0, .ref (a 0)), (1, .int x1), (2, .int x2)]) hx hb dX7_yesWith_24 hl (by decide) rfl (fun ls hl => ?_)
  refine lv_aload_n hx hb dX7_yesWith_26 rfl (lv_at hl 2 rfl) ?_
  refine gX7_7 F hX hP 0 rfl (v := .ref (a 1)) rfl dX7_yesWith_27 ?_
  refine lv_iconst (v := 3) hx hb dX7_yesWith_30 (by decide) ?_
  refine lv_iload_n hx hb dX7_yesWith_31 rfl (lv_at hl 3 rfl) ?_
  refine lv_imul hx hb dX7_yesWith_32 ?_
  refine lv_iconst (v := 2) hx hb dX7_yesWith_33 (by decide) ?_
  refine lv_iadd hx hb dX7_yesWith_34 ?_
  refine lv_iload_n hx hb dX7_yesWith_35 rfl (lv_at hl 1 rfl) ?_
  refine va_iast hx hb hX.1 hP hD hS 1 0 (n := 156) (f := (u_6.1.1 0)) rfl rfl g_3 dX7_yesWith_36 (fun H locs hP hD hS => ?_)
  obtain ⟨M_8, e_9, hf⟩ := bnd_e hf
  have hP : va_P D vwCl (wMod cI a M_8) H := by rw [e_9]; exact hP
  have hD : va_D A (wMod cI a M_8) := by rw [e_9]; exact hD
  clear e_9
  refine lv_iload hx hb dX7_yesWith_37 (lv_at hl 0 rfl) ?_
  obtain rfl := (Option.some.inj hf)
  exact wr_i F rfl hP hS dX7_yesWith_39
def X7_bestPull_J50 (K_50 : SMod) (x1_50 : Int32) (x2_50 : Int32) (x3_50 : Int32) (x4_50 : Int32) (t0_50 : Int32) : Option (SMod × Int32) := (if t0_50 = 0 then ((X7_yesWith K_50 (x4_50 / 2) (x4_50 - x4_50 / 2 * 2)).bind fun u_8 => some (u_8.1, u_8.2)) else some (K_50, (-1)))
def X7_bestPull_L23 : Nat → SMod → Int32 → Int32 → Int32 → Int32 → Option (SMod × Int32 × Int32)
  | 0, _, _, _, _, _ => none
  | fu + 1, K_23, x1_23, x2_23, x3_23, x4_23 => (if (2 * ((K_23.1 0) (Int32.toNatClampNeg 148))) ≤ x4_23 then some (K_23, x2_23, x3_23) else ((X7_barred K_23 (x4_23 / 2) (x4_23 - x4_23 / 2 * 2)).bind fun u_5 => ((X7_bestPull_J50 u_5.1 x1_23 x2_23 x3_23 x4_23 u_5.2).bind fun u_10 => (if u_10.2 ≤ x3_23 then (if u_10.2 ≤ x3_23 then X7_bestPull_L23 fu u_10.1 x1_23 x2_23 x3_23 (x4_23 + 1) else X7_bestPull_L23 fu u_10.1 x1_23 x2_23 u_10.2 (x4_23 + 1)) else (if u_10.2 ≤ x3_23 then X7_bestPull_L23 fu u_10.1 x1_23 (x4_23 / 2) x3_23 (x4_23 + 1) else X7_bestPull_L23 fu u_10.1 x1_23 (x4_23 / 2) u_10.2 (x4_23 + 1))))))
def X7_bestPull (K : SMod) (x1 : Int32) : Option (SMod × Int32) := (if (X7_in x1 0 1) = 0 then some (K, (-1000001)) else ((X7_yesNow K).bind fun u_2 => ((X7_bestPull_L23 FUEL u_2.1 x1 (-1000004) u_2.2 0).bind fun u_15 => (if 0 ≤ u_15.2.1 then (if x1 = 0 then some (u_15.1, u_15.2.1) else some (u_15.1, u_15.2.2)) else some (u_15.1, (-1000004))))))
abbrev rm_X7_bestPull : Room := { frames := 5, cells := 0, slots := 0, locals := 114 }
set_option maxHeartbeats 4000000 in
set_option maxRecDepth 100000 in
theorem c_X7_bestPull (l : Launch) (D : va_G) (cI cP : ClassId) (a : Nat → Nat) (K : SMod) (x1 : Int32) (z : SMod × Int32) (hf : X7_bestPull K x1 = some z) : MWi l yX7_bestPull cX7_bestPull 6 (some .int) rm_X7_bestPull D cI cP [.ref (a 0), .int x1] (wMod cI a K) (wMod cI a z.1) z.2 := by
  refine MWi.of (by decide +kernel) (Nat.le_of_ble_eq_true rfl) ?_
  intro p e s m args below meth c ls A F hX hP hD hA hS hl
  have F : Fx p s m args meth c RX7 cX7_bestPull 6 (some .int) := F
  have hx := F.1
  have hb := F.2.1
  have hown := F.2.2.2.1
  have hts := F.2.2.2.2.1
  have hl : lv_has ls 6 [(0, .ref (a 0)), (1, .int x1)] := hl
  unfold X7_bestPull at hf
  refine lv_iload_n hx hb dX7_bestPull_0 rfl (lv_at hl 1 rfl) ?_
  refine lv_iconst (v := 0) hx hb dX7_bestPull_1 (by decide) ?_
  refine lv_iconst (v := 1) hx hb dX7_bestPull_2 (by decide) ?_
  refine k_rd (runS F wdX7_45 (rm := rm_X7_in) (As := [.int x1, .int 0, .int 1]) (rest := []) ⟨rfl, rfl⟩ ⟨Nat.le_of_ble_eq_true rfl, Nat.le_of_ble_eq_true rfl⟩ hl.1 rfl rfl (Nat.le_of_ble_eq_true rfl) dX7_bestPull_3 ⟨Nat.zero_le _, Nat.zero_le _⟩) (c_X7_in l D cI cP x1 0 1 _ rfl) hX trivial vP_nil hP hS hA (fun H locs hP hS => ?_)
  refine lv_if_ne (tgt := 12) hx hb dX7_bestPull_6 (by decide) (fun c_1 => ?_) (fun c_1 => ?_)
  · replace hf := (if_neg c_1).symm.trans hf
    refine lv_ldc (v := (-1000004)) hx hb hown (hts _ q_838) dX7_bestPull_12 ?_
    refine lv_istore_n (lv' := [(2, .int (-1000004)), (0, .ref (a 0)), (1, .int x1)]) hx hb dX7_bestPull_14 rfl hl (by decide) rfl (fun ls hl => ?_)
    refine lv_aload_n hx hb dX7_bestPull_15 rfl (lv_at hl 1 rfl) ?_
    obtain ⟨u_2, h_3, hf⟩ := ob hf
    refine k_wi (runV F wdX7_79 (rm := rm_X7_yesNow) (As := []) (rest := []) ⟨rfl, rfl⟩ ⟨Nat.le_of_ble_eq_true rfl, Nat.le_of_ble_eq_true rfl⟩ hl.1 rfl rfl (Nat.le_of_ble_eq_true rfl) dX7_bestPull_16 ⟨Nat.zero_le _, Nat.zero_le _⟩) (c_X7_yesNow l D cI cP a K  _ h_3) hX (va_recv hX.1 hP (ci := 7) (q0 := 0) rfl rfl) (Cut.all rfl) hP hD hS hA (fun H locs hP hD hS => ?_)
    have hP : va_P D vwCl (wMod cI a u_2.1) H := hP
    have hD : va_D A (wMod cI a u_2.1) := hD
    refine lv_istore_n (lv' := [(3, .int u_2.2), (2, .int (-1000004)), (0, .ref (a 0)), (1, .int x1)]) hx hb dX7_bestPull_19 rfl hl (by decide) rfl (fun ls hl => ?_)
    refine lv_iconst (v := 0) hx hb dX7_bestPull_20 (by decide) ?_
    refine lv_istore (lv' := [(4, .int 0), (3, .int u_2.2), (2, .int (-1000004)), (0, .ref (a 0)), (1, .int x1)]) hx hb dX7_bestPull_21 hl (by decide) rfl (fun ls hl => ?_)
    have hL_23 : ∀ (fu : Nat) (K_23 : SMod) (x1_23 : Int32) (x2_23 : Int32) (x3_23 : Int32) (x4_23 : Int32) (v : SMod × Int32 × Int32) (H : Heap) (locs : List Loc) (ls : Array Slot), X7_bestPull_L23 fu K_23 x1_23 x2_23 x3_23 x4_23 = some v → va_P D vwCl (wMod cI a K_23) H → va_D A (wMod cI a K_23) → va_S A s.heap H locs → lv_has ls 6 [(0, .ref (a 0)), (1, .int x1_23), (2, .int x2_23), (3, .int x3_23), (4, .int x4_23)] → (∀ (H : Heap) (locs : List Loc) (ls : Array Slot), va_P D vwCl (wMod cI a v.1) H → va_D A (wMod cI a v.1) → va_S A s.heap H locs → lv_has ls 6 [(1, .int x1_23), (2, .int v.2.1), (3, .int v.2.2)] → W p l e rm_X7_bestPull s m args below meth c H locs 0 0 (QWi D below args s A (wMod cI a z.1) z.2) (F0 m 105 ls [])) → W p l e rm_X7_bestPull s m args below meth c H locs 0 0 (QWi D below args s A (wMod cI a z.1) z.2) (F0 m 23 ls []) := by
      intro fu
      induction fu with
      | zero =>
        intro K_23 x1_23 x2_23 x3_23 x4_23 v H locs ls hf
        exact absurd hf (by simp [X7_bestPull_L23])
      | succ fu ih =>
        intro K_23 x1_23 x2_23 x3_23 x4_23 v _ _ ls hf hP hD hS hl hk
        rw [X7_bestPull_L23] at hf
        refine lv_iload hx hb dX7_bestPull_23 (lv_at hl 4 rfl) ?_
        refine lv_iconst (v := 2) hx hb dX7_bestPull_25 (by decide) ?_
        refine lv_aload_n hx hb dX7_bestPull_26 rfl (lv_at hl 0 rfl) ?_
        refine gX7_7 F hX hP 0 rfl (v := .ref (a 1)) rfl dX7_bestPull_27 ?_
        refine lv_sipush (v := 148) hx hb dX7_bestPull_30 (by decide) ?_
        refine va_iald hx hb hX.1 hP 1 0 (n := 156) (f := (K_23.1 0)) rfl rfl (by decide : ¬ ((148 : Int32) < 0 ∨ 156 ≤ Int32.toNatClampNeg 148)) dX7_bestPull_33 ?_
        refine lv_imul hx hb dX7_bestPull_34 ?_
        refine lv_icmp_ge (tgt := 105) hx hb dX7_bestPull_35 (by decide) (fun c_4 => ?_) (fun c_4 => ?_)
        · replace hf := (if_pos c_4).symm.trans hf
          obtain rfl := Option.some.inj hf
          exact hk _ _ ls hP hD hS (lv_sub hl [1, 2, 3] rfl)
        · replace hf := (if_neg c_4).symm.trans hf
          refine lv_aload_n hx hb dX7_bestPull_38 rfl (lv_at hl 0 rfl) ?_
          refine lv_iload hx hb dX7_bestPull_39 (lv_at hl 4 rfl) ?_
          refine lv_iconst (v := 2) hx hb dX7_bestPull_41 (by decide) ?_
          refine lv_idiv hx hb dX7_bestPull_42 (by decide) ?_
          refine lv_iload hx hb dX7_bestPull_43 (lv_at hl 4 rfl) ?_
          refine lv_iconst (v := 2) hx hb dX7_bestPull_45 (by decide) ?_
          refine lv_irem hx hb dX7_bestPull_46 (by decide) ?_
          obtain ⟨u_5, h_6, hf⟩ := ob hf
          refine k_wi (runV F wdX7_114 (rm := rm_X7_barred) (As := [.int (x4_23 / 2), .int (x4_23 - x4_23 / 2 * 2)]) (rest := []) ⟨rfl, rfl⟩ ⟨Nat.le_of_ble_eq_true rfl, Nat.le_of_ble_eq_true rfl⟩ hl.1 rfl rfl (Nat.le_of_ble_eq_true rfl) dX7_bestPull_47 ⟨Nat.zero_le _, Nat.zero_le _⟩) (c_X7_barred l D cI cP a K_23 (x4_23 / 2) (x4_23 - x4_23 / 2 * 2) _ h_6) hX (va_recv hX.1 hP (ci := 7) (q0 := 0) rfl rfl) (Cut.all rfl) hP hD hS hA (fun H locs hP hD hS => ?_)
          have hP : va_P D vwCl (wMod cI a u_5.1) H := hP
          have hD : va_D A (wMod cI a u_5.1) := hD
          have hJ_50 : ∀ (K_50 : SMod) (x1_50 : Int32) (x2_50 : Int32) (x3_50 : Int32) (x4_50 : Int32) (t0_50 : Int32) (v : SMod × Int32) (H : Heap) (locs : List Loc) (ls : Array Slot), X7_bestPull_J50 K_50 x1_50 x2_50 x3_50 x4_50 t0_50 = some v → va_P D vwCl (wMod cI a K_50) H → va_D A (wMod cI a K_50) → va_S A s.heap H locs → lv_has ls 6 [(0, .ref (a 0)), (1, .int x1_50), (2, .int x2_50), (3, .int x3_50), (4, .int x4_50)] → (∀ (H : Heap) (locs : List Loc) (ls : Array Slot), va_P D vwCl (wMod cI a v.1) H → va_D A (wMod cI a v.1) → va_S A s.heap H locs → lv_has ls 6 [(0, .ref (a 0)), (1, .int x1_50), (2, .int x2_50), (3, .int x3_50), (4, .int x4_50)] → W p l e rm_X7_bestPull s m args below meth c H locs 0 0 (QWi D below args s A (wMod cI a z.1) z.2) (F0 m 69 ls [.int v.2])) → W p l e rm_X7_bestPull s m args below meth c H locs 0 0 (QWi D below args s A (wMod cI a z.1) z.2) (F0 m 50 ls [.int t0_50]) := by
            intro K_50 x1_50 x2_50 x3_50 x4_50 t0_50 v _ _ ls hf hP hD hS hl hk
            unfold X7_bestPull_J50 at hf
            refine lv_if_ne (tgt := 68) hx hb dX7_bestPull_50 (by decide) (fun c_7 => ?_) (fun c_7 => ?_)
            · replace hf := (if_neg c_7).symm.trans hf
              refine lv_iconst (v := (-1)) hx hb dX7_bestPull_68 (by decide) ?_
              obtain rfl := Option.some.inj hf
              exact hk _ _ ls hP hD hS hl
            · replace hf := (if_pos c_7).symm.trans hf
              refine lv_aload_n hx hb dX7_bestPull_53 rfl (lv_at hl 0 rfl) ?_
              refine lv_iload hx hb dX7_bestPull_54 (lv_at hl 4 rfl) ?_
              refine lv_iconst (v := 2) hx hb dX7_bestPull_56 (by decide) ?_
              refine lv_idiv hx hb dX7_bestPull_57 (by decide) ?_
              refine lv_iload hx hb dX7_bestPull_58 (lv_at hl 4 rfl) ?_
              refine lv_iconst (v := 2) hx hb dX7_bestPull_60 (by decide) ?_
              refine lv_irem hx hb dX7_bestPull_61 (by decide) ?_
              obtain ⟨u_8, h_9, hf⟩ := ob hf
              refine k_wi (runV F wdX7_133 (rm := rm_X7_yesWith) (As := [.int (x4_50 / 2), .int (x4_50 - x4_50 / 2 * 2)]) (rest := []) ⟨rfl, rfl⟩ ⟨Nat.le_of_ble_eq_true rfl, Nat.le_of_ble_eq_true rfl⟩ hl.1 rfl rfl (Nat.le_of_ble_eq_true rfl) dX7_bestPull_62 ⟨Nat.zero_le _, Nat.zero_le _⟩) (c_X7_yesWith l D cI cP a K_50 (x4_50 / 2) (x4_50 - x4_50 / 2 * 2) _ h_9) hX (va_recv hX.1 hP (ci := 7) (q0 := 0) rfl rfl) (Cut.all rfl) hP hD hS hA (fun H locs hP hD hS => ?_)
              have hP : va_P D vwCl (wMod cI a u_8.1) H := hP
              have hD : va_D A (wMod cI a u_8.1) := hD
              refine lv_goto (tgt := 69) hx hb dX7_bestPull_65 (by decide) ?_
              obtain rfl := Option.some.inj hf
              exact hk _ _ ls hP hD hS hl
          obtain ⟨u_10, h_11, hf⟩ := ob hf
          refine hJ_50 u_5.1 x1_23 x2_23 x3_23 x4_23 u_5.2 u_10 _ _ ls h_11 hP hD hS hl (fun H locs ls hP hD hS hl => ?_)
          clear hJ_50
          refine lv_istore (lv' := [(5, .int u_10.2), (0, .ref (a 0)), (1, .int x1_23), (2, .int x2_23), (3, .int x3_23), (4, .int x4_23)]) hx hb dX7_bestPull_69 hl (by decide) rfl (fun ls hl => ?_)
          refine lv_iload hx hb dX7_bestPull_71 (lv_at hl 0 rfl) ?_
          refine lv_iload_n hx hb dX7_bestPull_73 rfl (lv_at hl 4 rfl) ?_
          refine lv_icmp_le (tgt := 84) hx hb dX7_bestPull_74 (by decide) (fun c_12 => ?_) (fun c_12 => ?_)
          · replace hf := (if_pos c_12).symm.trans hf
            refine lv_iload_n hx hb dX7_bestPull_84 rfl (lv_at hl 3 rfl) ?_
            refine lv_istore_n (lv' := [(2, .int x2_23), (5, .int u_10.2), (0, .ref (a 0)), (1, .int x1_23), (3, .int x3_23), (4, .int x4_23)]) hx hb dX7_bestPull_85 rfl hl (by decide) rfl (fun ls hl => ?_)
            refine lv_iload hx hb dX7_bestPull_86 (lv_at hl 1 rfl) ?_
            refine lv_iload_n hx hb dX7_bestPull_88 rfl (lv_at hl 4 rfl) ?_
            refine lv_icmp_le (tgt := 97) hx hb dX7_bestPull_89 (by decide) (fun c_13 => ?_) (fun c_13 => ?_)
            · replace hf := (if_pos c_13).symm.trans hf
              refine lv_iload_n hx hb dX7_bestPull_97 rfl (lv_at hl 4 rfl) ?_
              refine lv_istore_n (lv' := [(3, .int x3_23), (2, .int x2_23), (5, .int u_10.2), (0, .ref (a 0)), (1, .int x1_23), (4, .int x4_23)]) hx hb dX7_bestPull_98 rfl hl (by decide) rfl (fun ls hl => ?_)
              refine lv_iinc (v := (x4_23 + 1)) (lv' := [(4, .int (x4_23 + 1)), (3, .int x3_23), (2, .int x2_23), (5, .int u_10.2), (0, .ref (a 0)), (1, .int x1_23)]) hx hb dX7_bestPull_99 hl (k := 5) rfl (by rfl) (by decide) rfl (fun ls hl => ?_)
              refine lv_goto (tgt := 23) hx hb dX7_bestPull_102 (by decide) ?_
              exact ih u_10.1 x1_23 x2_23 x3_23 (x4_23 + 1) _ _ _ ls hf hP hD hS (lv_sub hl [4, 5, 2, 1, 0] rfl) hk
            · replace hf := (if_neg c_13).symm.trans hf
              refine lv_iload hx hb dX7_bestPull_92 (lv_at hl 1 rfl) ?_
              refine lv_goto (tgt := 98) hx hb dX7_bestPull_94 (by decide) ?_
              refine lv_istore_n (lv' := [(3, .int u_10.2), (2, .int x2_23), (5, .int u_10.2), (0, .ref (a 0)), (1, .int x1_23), (4, .int x4_23)]) hx hb dX7_bestPull_98 rfl hl (by decide) rfl (fun ls hl => ?_)
              refine lv_iinc (v := (x4_23 + 1)) (lv' := [(4, .int (x4_23 + 1)), (3, .int u_10.2), (2, .int x2_23), (5, .int u_10.2), (0, .ref (a 0)), (1, .int x1_23)]) hx hb dX7_bestPull_99 hl (k := 5) rfl (by rfl) (by decide) rfl (fun ls hl => ?_)
              refine lv_goto (tgt := 23) hx hb dX7_bestPull_102 (by decide) ?_
              exact ih u_10.1 x1_23 x2_23 u_10.2 (x4_23 + 1) _ _ _ ls hf hP hD hS (lv_sub hl [4, 5, 2, 1, 0] rfl) hk
          · replace hf := (if_neg c_12).symm.trans hf
            refine lv_iload hx hb dX7_bestPull_77 (lv_at hl 5 rfl) ?_
            refine lv_iconst (v := 2) hx hb dX7_bestPull_79 (by decide) ?_
            refine lv_idiv hx hb dX7_bestPull_80 (by decide) ?_
            refine lv_goto (tgt := 85) hx hb dX7_bestPull_81 (by decide) ?_
            refine lv_istore_n (lv' := [(2, .int (x4_23 / 2)), (5, .int u_10.2), (0, .ref (a 0)), (1, .int x1_23), (3, .int x3_23), (4, .int x4_23)]) hx hb dX7_bestPull_85 rfl hl (by decide) rfl (fun ls hl => ?_)
            refine lv_iload hx hb dX7_bestPull_86 (lv_at hl 1 rfl) ?_
            refine lv_iload_n hx hb dX7_bestPull_88 rfl (lv_at hl 4 rfl) ?_
            refine lv_icmp_le (tgt := 97) hx hb dX7_bestPull_89 (by decide) (fun c_14 => ?_) (fun c_14 => ?_)
            · replace hf := (if_pos c_14).symm.trans hf
              refine lv_iload_n hx hb dX7_bestPull_97 rfl (lv_at hl 4 rfl) ?_
              refine lv_istore_n (lv' := [(3, .int x3_23), (2, .int (x4_23 / 2)), (5, .int u_10.2), (0, .ref (a 0)), (1, .int x1_23), (4, .int x4_23)]) hx hb dX7_bestPull_98 rfl hl (by decide) rfl (fun ls hl => ?_)
              refine lv_iinc (v := (x4_23 + 1)) (lv' := [(4, .int (x4_23 + 1)), (3, .int x3_23), (2, .int (x4_23 / 2)), (5, .int u_10.2), (0, .ref (a 0)), (1, .int x1_23)]) hx hb dX7_bestPull_99 hl (k := 5) rfl (by rfl) (by decide) rfl (fun ls hl => ?_)
              refine lv_goto (tgt := 23) hx hb dX7_bestPull_102 (by decide) ?_
              exact ih u_10.1 x1_23 (x4_23 / 2) x3_23 (x4_23 + 1) _ _ _ ls hf hP hD hS (lv_sub hl [4, 5, 2, 1, 0] rfl) hk
            · replace hf := (if_neg c_14).symm.trans hf
              refine lv_iload hx hb dX7_bestPull_92 (lv_at hl 1 rfl) ?_
              refine lv_goto (tgt := 98) hx hb dX7_bestPull_94 (by decide) ?_
              refine lv_istore_n (lv' := [(3, .int u_10.2), (2, .int (x4_23 / 2)), (5, .int u_10.2), (0, .ref (a 0)), (1, .int x1_23), (4, .int x4_23)]) hx hb dX7_bestPull_98 rfl hl (by decide) rfl (fun ls hl => ?_)
              refine lv_iinc (v := (x4_23 + 1)) (lv' := [(4, .int (x4_23 + 1)), (3, .int u_10.2), (2, .int (x4_23 / 2)), (5, .int u_10.2), (0, .ref (a 0)), (1, .int x1_23)]) hx hb dX7_bestPull_99 hl (k := 5) rfl (by rfl) (by decide) rfl (fun ls hl => ?_)
              refine lv_goto (tgt := 23) hx hb dX7_bestPull_102 (by decide) ?_
              exact ih u_10.1 x1_23 (x4_23 / 2) u_10.2 (x4_23 + 1) _ _ _ ls hf hP hD hS (lv_sub hl [4, 5, 2, 1, 0] rfl) hk
    obtain ⟨u_15, h_16, hf⟩ := ob hf
    refine hL_23 FUEL u_2.1 x1 (-1000004) u_2.2 0 u_15 _ _ ls h_16 hP hD hS (lv_sub hl [3, 4, 2, 1, 0] rfl) (fun H locs ls hP hD hS hl => ?_)
    clear hL_23
    refine lv_iload_n hx hb dX7_bestPull_105 rfl (lv_at hl 1 rfl) ?_
    refine lv_if_ge (tgt := 114) hx hb dX7_bestPull_106 (by decide) (fun c_17 => ?_) (fun c_17 => ?_)
    · replace hf := (if_pos c_17).symm.trans hf
      refine lv_iload_n hx hb dX7_bestPull_114 rfl (lv_at hl 0 rfl) ?_
      refine lv_if_ne (tgt := 122) hx hb dX7_bestPull_115 (by decide) (fun c_18 => ?_) (fun c_18 => ?_)
      · replace hf := (if_neg c_18).symm.trans hf
        refine lv_iload_n hx hb dX7_bestPull_122 rfl (lv_at hl 2 rfl) ?_
        obtain rfl := (Option.some.inj hf)
        exact wr_i F rfl hP hS dX7_bestPull_123
      · replace hf := (if_pos c_18).symm.trans hf
        refine lv_iload_n hx hb dX7_bestPull_118 rfl (lv_at hl 1 rfl) ?_
        refine lv_goto (tgt := 123) hx hb dX7_bestPull_119 (by decide) ?_
        obtain rfl := (Option.some.inj hf)
        exact wr_i F rfl hP hS dX7_bestPull_123
    · replace hf := (if_neg c_17).symm.trans hf
      refine lv_ldc (v := (-1000004)) hx hb hown (hts _ q_838) dX7_bestPull_109 ?_
      refine lv_goto (tgt := 123) hx hb dX7_bestPull_111 (by decide) ?_
      obtain rfl := (Option.some.inj hf)
      exact wr_i F rfl hP hS dX7_bestPull_123
  · replace hf := (if_pos c_1).symm.trans hf
    refine lv_ldc (v := (-1000001)) hx hb hown (hts _ q_855) dX7_bestPull_9 ?_
    obtain rfl := (Option.some.inj hf)
    exact wr_i F rfl hP hS dX7_bestPull_11
def X7_gains_J54 (K_54 : SMod) (x1_54 : Int32) (x2_54 : Int32) (x3_54 : Int32) (t0_54 : Int32) (t1_54 : Int32) : Option (Int32) := (if t1_54 = t0_54 then ((X7_of K_54 x3_54 0).bind fun u_10 => some u_10) else some 0)
def X7_gains_L35 : Nat → SMod → Int32 → Int32 → Int32 → Option (SMod)
  | 0, _, _, _, _ => none
  | fu + 1, K_35, x1_35, x2_35, x3_35 => (if ((K_35.1 0) (Int32.toNatClampNeg 148)) ≤ x3_35 then some K_35 else (if ¬ (x3_35 < 0 ∨ 12 ≤ Int32.toNatClampNeg x3_35) then ((X7_gains_J54 K_35 x1_35 x2_35 x3_35 x2_35 ((K_35.1 4) (Int32.toNatClampNeg x3_35))).bind fun u_12 => (if ¬ (x1_35 < 0 ∨ 12 ≤ Int32.toNatClampNeg x1_35) then (if ((K_35.1 6) (Int32.toNatClampNeg x3_35)) = 1 then (bnd ((up K_35.1 7 (upd (K_35.1 7) (Int32.toNatClampNeg x1_35) (((K_35.1 7) (Int32.toNatClampNeg x1_35)) + (-u_12)))), K_35.2) fun M_18 => X7_gains_L35 fu M_18 x1_35 x2_35 (x3_35 + 1)) else (bnd ((up K_35.1 7 (upd (K_35.1 7) (Int32.toNatClampNeg x1_35) (((K_35.1 7) (Int32.toNatClampNeg x1_35)) + u_12))), K_35.2) fun M_16 => X7_gains_L35 fu M_16 x1_35 x2_35 (x3_35 + 1))) else none)) else none))
def X7_gains_L4 : Nat → SMod → Int32 → Int32 → Option (SMod × Int32)
  | 0, _, _, _ => none
  | fu + 1, K_4, x1_4, x2_4 => (if ((K_4.1 0) (Int32.toNatClampNeg 148)) ≤ x2_4 then some (K_4, x1_4) else (if ¬ (x2_4 < 0 ∨ 12 ≤ Int32.toNatClampNeg x2_4) then (if ((K_4.1 4) (Int32.toNatClampNeg x2_4)) = x2_4 then (if ¬ (x1_4 < 0 ∨ 12 ≤ Int32.toNatClampNeg x1_4) then (bnd ((up K_4.1 7 (upd (K_4.1 7) (Int32.toNatClampNeg x1_4) 0)), K_4.2) fun M_5 => ((X7_gains_L35 FUEL M_5 x1_4 x2_4 x2_4).bind fun u_20 => X7_gains_L4 fu u_20 (x1_4 + 1) (x2_4 + 1))) else none) else X7_gains_L4 fu K_4 x1_4 (x2_4 + 1)) else none))
def X7_gains (K : SMod) : Option (SMod × Int32) := ((X7_gains_L4 FUEL K 0 0).bind fun u_22 => some (u_22.1, u_22.2))
abbrev rm_X7_gains : Room := { frames := 1, cells := 0, slots := 0, locals := 22 }
set_option maxHeartbeats 4000000 in
set_option maxRecDepth 100000 in
theorem c_X7_gains (l : Launch) (D : va_G) (cI cP : ClassId) (a : Nat → Nat) (K : SMod) (z : SMod × Int32) (hf : X7_gains K  = some z) : MWi l yX7_gains cX7_gains 5 (some .int) rm_X7_gains D cI cP [.ref (a 0)] (wMod cI a K) (wMod cI a z.1) z.2 := by
  refine MWi.of (by decide +kernel) (Nat.le_of_ble_eq_true rfl) ?_
  intro p e s m args below meth c ls A F hX hP hD hA hS hl
  have F : Fx p s m args meth c RX7 cX7_gains 5 (some .int) := F
  have hx := F.1
  have hb := F.2.1
  have hown := F.2.2.2.1
  have hts := F.2.2.2.2.1
  have hl : lv_has ls 5 [(0, .ref (a 0))] := hl
  unfold X7_gains at hf
  refine lv_iconst (v := 0) hx hb dX7_gains_0 (by decide) ?_
  refine lv_istore_n (lv' := [(1, .int 0), (0, .ref (a 0))]) hx hb dX7_gains_1 rfl hl (by decide) rfl (fun ls hl => ?_)
  refine lv_iconst (v := 0) hx hb dX7_gains_2 (by decide) ?_
  refine lv_istore_n (lv' := [(2, .int 0), (1, .int 0), (0, .ref (a 0))]) hx hb dX7_gains_3 rfl hl (by decide) rfl (fun ls hl => ?_)
  have hL_4 : ∀ (fu : Nat) (K_4 : SMod) (x1_4 : Int32) (x2_4 : Int32) (v : SMod × Int32) (H : Heap) (locs : List Loc) (ls : Array Slot), X7_gains_L4 fu K_4 x1_4 x2_4 = some v → va_P D vwCl (wMod cI a K_4) H → va_D A (wMod cI a K_4) → va_S A s.heap H locs → lv_has ls 5 [(0, .ref (a 0)), (1, .int x1_4), (2, .int x2_4)] → (∀ (H : Heap) (locs : List Loc) (ls : Array Slot), va_P D vwCl (wMod cI a v.1) H → va_D A (wMod cI a v.1) → va_S A s.heap H locs → lv_has ls 5 [(1, .int v.2)] → W p l e rm_X7_gains s m args below meth c H locs 0 0 (QWi D below args s A (wMod cI a z.1) z.2) (F0 m 111 ls [])) → W p l e rm_X7_gains s m args below meth c H locs 0 0 (QWi D below args s A (wMod cI a z.1) z.2) (F0 m 4 ls []) := by
    intro fu
    induction fu with
    | zero =>
      intro K_4 x1_4 x2_4 v H locs ls hf
      exact absurd hf (by simp [X7_gains_L4])
    | succ fu ih =>
      intro K_4 x1_4 x2_4 v _ _ ls hf hP hD hS hl hk
      rw [X7_gains_L4] at hf
      refine lv_iload_n hx hb dX7_gains_4 rfl (lv_at hl 2 rfl) ?_
      refine lv_aload_n hx hb dX7_gains_5 rfl (lv_at hl 0 rfl) ?_
      refine gX7_7 F hX hP 0 rfl (v := .ref (a 1)) rfl dX7_gains_6 ?_
      refine lv_sipush (v := 148) hx hb dX7_gains_9 (by decide) ?_
      refine va_iald hx hb hX.1 hP 1 0 (n := 156) (f := (K_4.1 0)) rfl rfl (by decide : ¬ ((148 : Int32) < 0 ∨ 156 ≤ Int32.toNatClampNeg 148)) dX7_gains_12 ?_
      refine lv_icmp_ge (tgt := 111) hx hb dX7_gains_13 (by decide) (fun c_1 => ?_) (fun c_1 => ?_)
      · replace hf := (if_pos c_1).symm.trans hf
        obtain rfl := Option.some.inj hf
        exact hk _ _ ls hP hD hS (lv_sub hl [1] rfl)
      · replace hf := (if_neg c_1).symm.trans hf
        refine lv_aload_n hx hb dX7_gains_16 rfl (lv_at hl 0 rfl) ?_
        refine gX7_22 F hX hP 0 rfl (v := .ref (a 5)) rfl dX7_gains_17 ?_
        refine lv_iload_n hx hb dX7_gains_20 rfl (lv_at hl 2 rfl) ?_
        have g_2 := og hf
        replace hf := (if_pos g_2).symm.trans hf
        refine va_iald hx hb hX.1 hP 5 0 (n := 12) (f := (K_4.1 4)) rfl rfl g_2 dX7_gains_21 ?_
        refine lv_iload_n hx hb dX7_gains_22 rfl (lv_at hl 2 rfl) ?_
        refine lv_icmp_ne (tgt := 105) hx hb dX7_gains_23 (by decide) (fun c_3 => ?_) (fun c_3 => ?_)
        · replace hf := (if_neg c_3).symm.trans hf
          refine lv_iinc (v := (x2_4 + 1)) (lv' := [(2, .int (x2_4 + 1)), (0, .ref (a 0)), (1, .int x1_4)]) hx hb dX7_gains_105 hl (k := 2) rfl (by rfl) (by decide) rfl (fun ls hl => ?_)
          refine lv_goto (tgt := 4) hx hb dX7_gains_108 (by decide) ?_
          exact ih K_4 x1_4 (x2_4 + 1) _ _ _ ls hf hP hD hS (lv_sub hl [1, 2, 0] rfl) hk
        · replace hf := (if_pos c_3).symm.trans hf
          refine lv_aload_n hx hb dX7_gains_26 rfl (lv_at hl 0 rfl) ?_
          refine gX7_31 F hX hP 0 rfl (v := .ref (a 8)) rfl dX7_gains_27 ?_
          refine lv_iload_n hx hb dX7_gains_30 rfl (lv_at hl 1 rfl) ?_
          refine lv_iconst (v := 0) hx hb dX7_gains_31 (by decide) ?_
          have g_4 := og hf
          replace hf := (if_pos g_4).symm.trans hf
          refine va_iast hx hb hX.1 hP hD hS 8 0 (n := 12) (f := (K_4.1 7)) rfl rfl g_4 dX7_gains_32 (fun H locs hP hD hS => ?_)
          obtain ⟨M_5, e_6, hf⟩ := bnd_e hf
          have hP : va_P D vwCl (wMod cI a M_5) H := by rw [e_6]; exact hP
          have hD : va_D A (wMod cI a M_5) := by rw [e_6]; exact hD
          clear e_6
          refine lv_iload_n hx hb dX7_gains_33 rfl (lv_at hl 2 rfl) ?_
          refine lv_istore_n (lv' := [(3, .int x2_4), (0, .ref (a 0)), (1, .int x1_4), (2, .int x2_4)]) hx hb dX7_gains_34 rfl hl (by decide) rfl (fun ls hl => ?_)
          have hL_35 : ∀ (fu : Nat) (K_35 : SMod) (x1_35 : Int32) (x2_35 : Int32) (x3_35 : Int32) (v : SMod) (H : Heap) (locs : List Loc) (ls : Array Slot), X7_gains_L35 fu K_35 x1_35 x2_35 x3_35 = some v → va_P D vwCl (wMod cI a K_35) H → va_D A (wMod cI a K_35) → va_S A s.heap H locs → lv_has ls 5 [(0, .ref (a 0)), (1, .int x1_35), (2, .int x2_35), (3, .int x3_35)] → (∀ (H : Heap) (locs : List Loc) (ls : Array Slot), va_P D vwCl (wMod cI a v) H → va_D A (wMod cI a v) → va_S A s.heap H locs → lv_has ls 5 [(0, .ref (a 0)), (1, .int x1_35), (2, .int x2_35)] → W p l e rm_X7_gains s m args below meth c H locs 0 0 (QWi D below args s A (wMod cI a z.1) z.2) (F0 m 102 ls [])) → W p l e rm_X7_gains s m args below meth c H locs 0 0 (QWi D below args s A (wMod cI a z.1) z.2) (F0 m 35 ls []) := by
            intro fu
            induction fu with
            | zero =>
              intro K_35 x1_35 x2_35 x3_35 v H locs ls hf
              exact absurd hf (by simp [X7_gains_L35])
            | succ fu ih =>
              intro K_35 x1_35 x2_35 x3_35 v _ _ ls hf hP hD hS hl hk
              rw [X7_gains_L35] at hf
              refine lv_iload_n hx hb dX7_gains_35 rfl (lv_at hl 3 rfl) ?_
              refine lv_aload_n hx hb dX7_gains_36 rfl (lv_at hl 0 rfl) ?_
              refine gX7_7 F hX hP 0 rfl (v := .ref (a 1)) rfl dX7_gains_37 ?_
              refine lv_sipush (v := 148) hx hb dX7_gains_40 (by decide) ?_
              refine va_iald hx hb hX.1 hP 1 0 (n := 156) (f := (K_35.1 0)) rfl rfl (by decide : ¬ ((148 : Int32) < 0 ∨ 156 ≤ Int32.toNatClampNeg 148)) dX7_gains_43 ?_
              refine lv_icmp_ge (tgt := 102) hx hb dX7_gains_44 (by decide) (fun c_7 => ?_) (fun c_7 => ?_)
              · replace hf := (if_pos c_7).symm.trans hf
                obtain rfl := Option.some.inj hf
                exact hk _ _ ls hP hD hS (lv_sub hl [0, 1, 2] rfl)
              · replace hf := (if_neg c_7).symm.trans hf
                refine lv_aload_n hx hb dX7_gains_47 rfl (lv_at hl 0 rfl) ?_
                refine gX7_22 F hX hP 0 rfl (v := .ref (a 5)) rfl dX7_gains_48 ?_
                refine lv_iload_n hx hb dX7_gains_51 rfl (lv_at hl 3 rfl) ?_
                have g_8 := og hf
                replace hf := (if_pos g_8).symm.trans hf
                refine va_iald hx hb hX.1 hP 5 0 (n := 12) (f := (K_35.1 4)) rfl rfl g_8 dX7_gains_52 ?_
                refine lv_iload_n hx hb dX7_gains_53 rfl (lv_at hl 2 rfl) ?_
                have hJ_54 : ∀ (K_54 : SMod) (x1_54 : Int32) (x2_54 : Int32) (x3_54 : Int32) (t0_54 : Int32) (t1_54 : Int32) (v : Int32) (H : Heap) (locs : List Loc) (ls : Array Slot), X7_gains_J54 K_54 x1_54 x2_54 x3_54 t0_54 t1_54 = some v → va_P D vwCl (wMod cI a K_54) H → va_D A (wMod cI a K_54) → va_S A s.heap H locs → lv_has ls 5 [(0, .ref (a 0)), (1, .int x1_54), (2, .int x2_54), (3, .int x3_54)] → (∀ (H : Heap) (locs : List Loc) (ls : Array Slot), va_P D vwCl (wMod cI a K_54) H → va_D A (wMod cI a K_54) → va_S A s.heap H locs → lv_has ls 5 [(0, .ref (a 0)), (1, .int x1_54), (2, .int x2_54), (3, .int x3_54)] → W p l e rm_X7_gains s m args below meth c H locs 0 0 (QWi D below args s A (wMod cI a z.1) z.2) (F0 m 67 ls [.int v])) → W p l e rm_X7_gains s m args below meth c H locs 0 0 (QWi D below args s A (wMod cI a z.1) z.2) (F0 m 54 ls [.int t0_54, .int t1_54]) := by
                  intro K_54 x1_54 x2_54 x3_54 t0_54 t1_54 v _ _ ls hf hP hD hS hl hk
                  unfold X7_gains_J54 at hf
                  refine lv_icmp_ne (tgt := 66) hx hb dX7_gains_54 (by decide) (fun c_9 => ?_) (fun c_9 => ?_)
                  · replace hf := (if_neg c_9).symm.trans hf
                    refine lv_iconst (v := 0) hx hb dX7_gains_66 (by decide) ?_
                    obtain rfl := Option.some.inj hf
                    exact hk _ _ ls hP hD hS hl
                  · replace hf := (if_pos c_9).symm.trans hf
                    refine lv_aload_n hx hb dX7_gains_57 rfl (lv_at hl 0 rfl) ?_
                    refine lv_iload_n hx hb dX7_gains_58 rfl (lv_at hl 3 rfl) ?_
                    refine lv_iconst (v := 0) hx hb dX7_gains_59 (by decide) ?_
                    obtain ⟨u_10, h_11, hf⟩ := ob hf
                    refine k_rd (runV F wdX7_61 (rm := rm_X7_of) (As := [.int x3_54, .int 0]) (rest := []) ⟨rfl, rfl⟩ ⟨Nat.le_of_ble_eq_true rfl, Nat.le_of_ble_eq_true rfl⟩ hl.1 rfl rfl (Nat.le_of_ble_eq_true rfl) dX7_gains_60 ⟨Nat.zero_le _, Nat.zero_le _⟩) (c_X7_of l D cI cP a K_54 x3_54 0 _ h_11) hX (va_recv hX.1 hP (ci := 7) (q0 := 0) rfl rfl) hP hP hS hA (fun H locs hP hS => ?_)
                    refine lv_goto (tgt := 67) hx hb dX7_gains_63 (by decide) ?_
                    obtain rfl := Option.some.inj hf
                    exact hk _ _ ls hP hD hS hl
                obtain ⟨u_12, h_13, hf⟩ := ob hf
                refine hJ_54 K_35 x1_35 x2_35 x3_35 x2_35 ((K_35.1 4) (Int32.toNatClampNeg x3_35)) u_12 _ _ ls h_13 hP hD hS hl (fun H locs ls hP hD hS hl => ?_)
                clear hJ_54
                refine lv_istore (lv' := [(4, .int u_12), (0, .ref (a 0)), (1, .int x1_35), (2, .int x2_35), (3, .int x3_35)]) hx hb dX7_gains_67 hl (by decide) rfl (fun ls hl => ?_)
                refine lv_aload_n hx hb dX7_gains_69 rfl (lv_at hl 1 rfl) ?_
                refine gX7_31 F hX hP 0 rfl (v := .ref (a 8)) rfl dX7_gains_70 ?_
                refine lv_iload_n hx hb dX7_gains_73 rfl (lv_at hl 2 rfl) ?_
                refine lv_dup2_11 hx hb dX7_gains_74 rfl rfl ?_
                have g_14 := og hf
                replace hf := (if_pos g_14).symm.trans hf
                refine va_iald hx hb hX.1 hP 8 0 (n := 12) (f := (K_35.1 7)) rfl rfl g_14 dX7_gains_75 ?_
                refine lv_aload_n hx hb dX7_gains_76 rfl (lv_at hl 1 rfl) ?_
                refine gX7_28 F hX hP 0 rfl (v := .ref (a 7)) rfl dX7_gains_77 ?_
                refine lv_iload_n hx hb dX7_gains_80 rfl (lv_at hl 4 rfl) ?_
                refine va_iald hx hb hX.1 hP 7 0 (n := 12) (f := (K_35.1 6)) rfl rfl g_8 dX7_gains_81 ?_
                refine lv_iconst (v := 1) hx hb dX7_gains_82 (by decide) ?_
                refine lv_icmp_ne (tgt := 92) hx hb dX7_gains_83 (by decide) (fun c_15 => ?_) (fun c_15 => ?_)
                · replace hf := (if_neg c_15).symm.trans hf
                  refine lv_iload hx hb dX7_gains_92 (lv_at hl 0 rfl) ?_
                  refine lv_iadd hx hb dX7_gains_94 ?_
                  refine va_iast hx hb hX.1 hP hD hS 8 0 (n := 12) (f := (K_35.1 7)) rfl rfl g_14 dX7_gains_95 (fun H locs hP hD hS => ?_)
                  obtain ⟨M_16, e_17, hf⟩ := bnd_e hf
                  have hP : va_P D vwCl (wMod cI a M_16) H := by rw [e_17]; exact hP
                  have hD : va_D A (wMod cI a M_16) := by rw [e_17]; exact hD
                  clear e_17
                  refine lv_iinc (v := (x3_35 + 1)) (lv' := [(3, .int (x3_35 + 1)), (4, .int u_12), (0, .ref (a 0)), (1, .int x1_35), (2, .int x2_35)]) hx hb dX7_gains_96 hl (k := 4) rfl (by rfl) (by decide) rfl (fun ls hl => ?_)
                  refine lv_goto (tgt := 35) hx hb dX7_gains_99 (by decide) ?_
                  exact ih M_16 x1_35 x2_35 (x3_35 + 1) _ _ _ ls hf hP hD hS (lv_sub hl [2, 3, 4, 0] rfl) hk
                · replace hf := (if_pos c_15).symm.trans hf
                  refine lv_iload hx hb dX7_gains_86 (lv_at hl 0 rfl) ?_
                  refine lv_ineg hx hb dX7_gains_88 ?_
                  refine lv_goto (tgt := 94) hx hb dX7_gains_89 (by decide) ?_
                  refine lv_iadd hx hb dX7_gains_94 ?_
                  refine va_iast hx hb hX.1 hP hD hS 8 0 (n := 12) (f := (K_35.1 7)) rfl rfl g_14 dX7_gains_95 (fun H locs hP hD hS => ?_)
                  obtain ⟨M_18, e_19, hf⟩ := bnd_e hf
                  have hP : va_P D vwCl (wMod cI a M_18) H := by rw [e_19]; exact hP
                  have hD : va_D A (wMod cI a M_18) := by rw [e_19]; exact hD
                  clear e_19
                  refine lv_iinc (v := (x3_35 + 1)) (lv' := [(3, .int (x3_35 + 1)), (4, .int u_12), (0, .ref (a 0)), (1, .int x1_35), (2, .int x2_35)]) hx hb dX7_gains_96 hl (k := 4) rfl (by rfl) (by decide) rfl (fun ls hl => ?_)
                  refine lv_goto (tgt := 35) hx hb dX7_gains_99 (by decide) ?_
                  exact ih M_18 x1_35 x2_35 (x3_35 + 1) _ _ _ ls hf hP hD hS (lv_sub hl [2, 3, 4, 0] rfl) hk
          obtain ⟨u_20, h_21, hf⟩ := ob hf
          refine hL_35 FUEL M_5 x1_4 x2_4 x2_4 u_20 _ _ ls h_21 hP hD hS (lv_sub hl [1, 2, 3, 0] rfl) (fun H locs ls hP hD hS hl => ?_)
          clear hL_35
          refine lv_iinc (v := (x1_4 + 1)) (lv' := [(1, .int (x1_4 + 1)), (0, .ref (a 0)), (2, .int x2_4)]) hx hb dX7_gains_102 hl (k := 1) rfl (by rfl) (by decide) rfl (fun ls hl => ?_)
          refine lv_iinc (v := (x2_4 + 1)) (lv' := [(2, .int (x2_4 + 1)), (1, .int (x1_4 + 1)), (0, .ref (a 0))]) hx hb dX7_gains_105 hl (k := 2) rfl (by rfl) (by decide) rfl (fun ls hl => ?_)
          refine lv_goto (tgt := 4) hx hb dX7_gains_108 (by decide) ?_
          exact ih u_20 (x1_4 + 1) (x2_4 + 1) _ _ _ ls hf hP hD hS (lv_sub hl [2, 1, 0] rfl) hk
  obtain ⟨u_22, h_23, hf⟩ := ob hf
  refine hL_4 FUEL K 0 0 u_22 _ _ ls h_23 hP hD hS (lv_sub hl [2, 1, 0] rfl) (fun H locs ls hP hD hS hl => ?_)
  clear hL_4
  refine lv_iload_n hx hb dX7_gains_111 rfl (lv_at hl 0 rfl) ?_
  obtain rfl := (Option.some.inj hf)
  exact wr_i F rfl hP hS dX7_gains_112
def X7_greedy_L24 : Nat → SMod → Int32 → Int32 → Int32 → Int32 → Int32 → Int32 → Int32 → Option (Int32)
  | 0, _, _, _, _, _, _, _, _ => none
  | fu + 1, K_24, x1_24, x2_24, x3_24, x4_24, x5_24, x6_24, x7_24 => (if x2_24 ≤ x7_24 then some x6_24 else (if ((x5_24 >>> (x7_24 &&& 31)) &&& 1) = 1 then (if ¬ (x7_24 < 0 ∨ 12 ≤ Int32.toNatClampNeg x7_24) then (if ((K_24.1 7) (Int32.toNatClampNeg x7_24)) ≤ 0 then X7_greedy_L24 fu K_24 x1_24 x2_24 x3_24 x4_24 x5_24 x6_24 (x7_24 + 1) else (if x6_24 < 0 then X7_greedy_L24 fu K_24 x1_24 x2_24 x3_24 x4_24 x5_24 x7_24 (x7_24 + 1) else (if ¬ (x6_24 < 0 ∨ 12 ≤ Int32.toNatClampNeg x6_24) then (if ((K_24.1 7) (Int32.toNatClampNeg x7_24)) ≤ ((K_24.1 7) (Int32.toNatClampNeg x6_24)) then X7_greedy_L24 fu K_24 x1_24 x2_24 x3_24 x4_24 x5_24 x6_24 (x7_24 + 1) else X7_greedy_L24 fu K_24 x1_24 x2_24 x3_24 x4_24 x5_24 x7_24 (x7_24 + 1)) else none))) else none) else X7_greedy_L24 fu K_24 x1_24 x2_24 x3_24 x4_24 x5_24 x6_24 (x7_24 + 1)))
def X7_greedy_L12 : Nat → SMod → Int32 → Int32 → Int32 → Int32 → Int32 → Option (Int32)
  | 0, _, _, _, _, _, _ => none
  | fu + 1, K_12, x1_12, x2_12, x3_12, x4_12, x5_12 => (if x1_12 ≤ x3_12 then some x4_12 else ((X7_greedy_L24 FUEL K_12 x1_12 x2_12 x3_12 x4_12 x5_12 (-1000004) 0).bind fun u_9 => (if 0 ≤ u_9 then (if ¬ (u_9 < 0 ∨ 12 ≤ Int32.toNatClampNeg u_9) then X7_greedy_L12 fu K_12 x1_12 x2_12 (x3_12 + ((K_12.1 7) (Int32.toNatClampNeg u_9))) (x4_12 + 1) (x5_12 ^^^ (1 <<< (u_9 &&& 31))) else none) else some (-1000004))))
def X7_greedy (K : SMod) (x1 : Int32) (x2 : Int32) : Option (Int32) := (X7_greedy_L12 FUEL K x1 x2 0 0 ((1 <<< (x2 &&& 31)) - 1))
abbrev rm_X7_greedy : Room := { frames := 0, cells := 0, slots := 0, locals := 0 }
set_option maxHeartbeats 4000000 in
set_option maxRecDepth 100000 in
theorem c_X7_greedy (l : Launch) (D : va_G) (cI cP : ClassId) (a : Nat → Nat) (K : SMod) (x1 : Int32) (x2 : Int32) (z : Int32) (hf : X7_greedy K x1 x2 = some z) : MRd l yX7_greedy cX7_greedy 8 (some .int) rm_X7_greedy D cI cP [.ref (a 0), .int x1, .int x2] (wMod cI a K) z := by
  refine MRd.of (by decide +kernel) (Nat.le_of_ble_eq_true rfl) ?_
  intro p e s m args below meth c ls F hX hP hS hl
  have F : Fx p s m args meth c RX7 cX7_greedy 8 (some .int) := F
  have hx := F.1
  have hb := F.2.1
  have hown := F.2.2.2.1
  have hts := F.2.2.2.2.1
  have hA : ∀ q : Nat, s.heap.size ≤ q → (fun q : Nat => s.heap.size ≤ q) q := fun _ h => h
  have hl : lv_has ls 8 [(0, .ref (a 0)), (1, .int x1), (2, .int x2)] := hl
  unfold X7_greedy at hf
  refine lv_iconst (v := 0) hx hb dX7_greedy_0 (by decide) ?_
  refine lv_istore_n (lv' := [(3, .int 0), (0, .ref (a 0)), (1, .int x1), (2, .int x2)]) hx hb dX7_greedy_1 rfl hl (by decide) rfl (fun ls hl => ?_)
  refine lv_iconst (v := 0) hx hb dX7_greedy_2 (by decide) ?_
  refine lv_istore (lv' := [(4, .int 0), (3, .int 0), (0, .ref (a 0)), (1, .int x1), (2, .int x2)]) hx hb dX7_greedy_3 hl (by decide) rfl (fun ls hl => ?_)
  refine lv_iconst (v := 1) hx hb dX7_greedy_5 (by decide) ?_
  refine lv_iload_n hx hb dX7_greedy_6 rfl (lv_at hl 4 rfl) ?_
  refine lv_ishl hx hb dX7_greedy_7 ?_
  refine lv_iconst (v := 1) hx hb dX7_greedy_8 (by decide) ?_
  refine lv_isub hx hb dX7_greedy_9 ?_
  refine lv_istore (lv' := [(5, .int ((1 <<< (x2 &&& 31)) - 1)), (4, .int 0), (3, .int 0), (0, .ref (a 0)), (1, .int x1), (2, .int x2)]) hx hb dX7_greedy_10 hl (by decide) rfl (fun ls hl => ?_)
  have hL_12 : ∀ (fu : Nat) (K_12 : SMod) (x1_12 : Int32) (x2_12 : Int32) (x3_12 : Int32) (x4_12 : Int32) (x5_12 : Int32) (H : Heap) (locs : List Loc) (ls : Array Slot), X7_greedy_L12 fu K_12 x1_12 x2_12 x3_12 x4_12 x5_12 = some z → va_P D vwCl (wMod cI a K_12) H → va_S (fun q : Nat => s.heap.size ≤ q) s.heap H locs → lv_has ls 8 [(0, .ref (a 0)), (1, .int x1_12), (2, .int x2_12), (3, .int x3_12), (4, .int x4_12), (5, .int x5_12)] → W p l e rm_X7_greedy s m args below meth c H locs 0 0 (QR below args s z) (F0 m 12 ls []) := by
    intro fu
    induction fu with
    | zero =>
      intro K_12 x1_12 x2_12 x3_12 x4_12 x5_12 H locs ls hf
      exact absurd hf (by simp [X7_greedy_L12])
    | succ fu ih =>
      intro K_12 x1_12 x2_12 x3_12 x4_12 x5_12 _ _ ls hf hP hS hl
      rw [X7_greedy_L12] at hf
      refine lv_iload_n hx hb dX7_greedy_12 rfl (lv_at hl 3 rfl) ?_
      refine lv_iload_n hx hb dX7_greedy_13 rfl (lv_at hl 1 rfl) ?_
      refine lv_icmp_ge (tgt := 121) hx hb dX7_greedy_14 (by decide) (fun c_1 => ?_) (fun c_1 => ?_)
      · replace hf := (if_pos c_1).symm.trans hf
        refine lv_iload hx hb dX7_greedy_121 (lv_at hl 4 rfl) ?_
        exact rd_i F (Option.some.inj hf) hS dX7_greedy_123
      · replace hf := (if_neg c_1).symm.trans hf
        refine lv_ldc (v := (-1000004)) hx hb hown (hts _ q_838) dX7_greedy_17 ?_
        refine lv_istore (lv' := [(6, .int (-1000004)), (0, .ref (a 0)), (1, .int x1_12), (2, .int x2_12), (3, .int x3_12), (4, .int x4_12), (5, .int x5_12)]) hx hb dX7_greedy_19 hl (by decide) rfl (fun ls hl => ?_)
        refine lv_iconst (v := 0) hx hb dX7_greedy_21 (by decide) ?_
        refine lv_istore (lv' := [(7, .int 0), (6, .int (-1000004)), (0, .ref (a 0)), (1, .int x1_12), (2, .int x2_12), (3, .int x3_12), (4, .int x4_12), (5, .int x5_12)]) hx hb dX7_greedy_22 hl (by decide) rfl (fun ls hl => ?_)
        have hL_24 : ∀ (fu : Nat) (K_24 : SMod) (x1_24 : Int32) (x2_24 : Int32) (x3_24 : Int32) (x4_24 : Int32) (x5_24 : Int32) (x6_24 : Int32) (x7_24 : Int32) (v : Int32) (H : Heap) (locs : List Loc) (ls : Array Slot), X7_greedy_L24 fu K_24 x1_24 x2_24 x3_24 x4_24 x5_24 x6_24 x7_24 = some v → va_P D vwCl (wMod cI a K_24) H → va_S (fun q : Nat => s.heap.size ≤ q) s.heap H locs → lv_has ls 8 [(0, .ref (a 0)), (1, .int x1_24), (2, .int x2_24), (3, .int x3_24), (4, .int x4_24), (5, .int x5_24), (6, .int x6_24), (7, .int x7_24)] → (∀ (H : Heap) (locs : List Loc) (ls : Array Slot), va_P D vwCl (wMod cI a K_24) H → va_S (fun q : Nat => s.heap.size ≤ q) s.heap H locs → lv_has ls 8 [(0, .ref (a 0)), (1, .int x1_24), (2, .int x2_24), (3, .int x3_24), (4, .int x4_24), (5, .int x5_24), (6, .int v)] → W p l e rm_X7_greedy s m args below meth c H locs 0 0 (QR below args s z) (F0 m 88 ls [])) → W p l e rm_X7_greedy s m args below meth c H locs 0 0 (QR below args s z) (F0 m 24 ls []) := by
          intro fu
          induction fu with
          | zero =>
            intro K_24 x1_24 x2_24 x3_24 x4_24 x5_24 x6_24 x7_24 v H locs ls hf
            exact absurd hf (by simp [X7_greedy_L24])
          | succ fu ih =>
            intro K_24 x1_24 x2_24 x3_24 x4_24 x5_24 x6_24 x7_24 v _ _ ls hf hP hS hl hk
            rw [X7_greedy_L24] at hf
            refine lv_iload hx hb dX7_greedy_24 (lv_at hl 7 rfl) ?_
            refine lv_iload_n hx hb dX7_greedy_26 rfl (lv_at hl 2 rfl) ?_
            refine lv_icmp_ge (tgt := 88) hx hb dX7_greedy_27 (by decide) (fun c_2 => ?_) (fun c_2 => ?_)
            · replace hf := (if_pos c_2).symm.trans hf
              obtain rfl := Option.some.inj hf
              exact hk _ _ ls hP hS (lv_sub hl [0, 1, 2, 3, 4, 5, 6] rfl)
            · replace hf := (if_neg c_2).symm.trans hf
              refine lv_iload hx hb dX7_greedy_30 (lv_at hl 5 rfl) ?_
              refine lv_iload hx hb dX7_greedy_32 (lv_at hl 7 rfl) ?_
              refine lv_ishr hx hb dX7_greedy_34 ?_
              refine lv_iconst (v := 1) hx hb dX7_greedy_35 (by decide) ?_
              refine lv_iand hx hb dX7_greedy_36 ?_
              refine lv_iconst (v := 1) hx hb dX7_greedy_37 (by decide) ?_
              refine lv_icmp_ne (tgt := 78) hx hb dX7_greedy_38 (by decide) (fun c_3 => ?_) (fun c_3 => ?_)
              · replace hf := (if_neg c_3).symm.trans hf
                refine lv_iload hx hb dX7_greedy_78 (lv_at hl 6 rfl) ?_
                refine lv_istore (lv' := [(6, .int x6_24), (0, .ref (a 0)), (1, .int x1_24), (2, .int x2_24), (3, .int x3_24), (4, .int x4_24), (5, .int x5_24), (7, .int x7_24)]) hx hb dX7_greedy_80 hl (by decide) rfl (fun ls hl => ?_)
                refine lv_iinc (v := (x7_24 + 1)) (lv' := [(7, .int (x7_24 + 1)), (6, .int x6_24), (0, .ref (a 0)), (1, .int x1_24), (2, .int x2_24), (3, .int x3_24), (4, .int x4_24), (5, .int x5_24)]) hx hb dX7_greedy_82 hl (k := 7) rfl (by rfl) (by decide) rfl (fun ls hl => ?_)
                refine lv_goto (tgt := 24) hx hb dX7_greedy_85 (by decide) ?_
                exact ih K_24 x1_24 x2_24 x3_24 x4_24 x5_24 x6_24 (x7_24 + 1) _ _ _ ls hf hP hS (lv_sub hl [2, 3, 4, 5, 6, 7, 1, 0] rfl) hk
              · replace hf := (if_pos c_3).symm.trans hf
                refine lv_aload_n hx hb dX7_greedy_41 rfl (lv_at hl 0 rfl) ?_
                refine gX7_31 F hX hP 0 rfl (v := .ref (a 8)) rfl dX7_greedy_42 ?_
                refine lv_iload hx hb dX7_greedy_45 (lv_at hl 7 rfl) ?_
                have g_4 := og hf
                replace hf := (if_pos g_4).symm.trans hf
                refine va_iald hx hb hX.1 hP 8 0 (n := 12) (f := (K_24.1 7)) rfl rfl g_4 dX7_greedy_47 ?_
                refine lv_if_le (tgt := 78) hx hb dX7_greedy_48 (by decide) (fun c_5 => ?_) (fun c_5 => ?_)
                · replace hf := (if_pos c_5).symm.trans hf
                  refine lv_iload hx hb dX7_greedy_78 (lv_at hl 6 rfl) ?_
                  refine lv_istore (lv' := [(6, .int x6_24), (0, .ref (a 0)), (1, .int x1_24), (2, .int x2_24), (3, .int x3_24), (4, .int x4_24), (5, .int x5_24), (7, .int x7_24)]) hx hb dX7_greedy_80 hl (by decide) rfl (fun ls hl => ?_)
                  refine lv_iinc (v := (x7_24 + 1)) (lv' := [(7, .int (x7_24 + 1)), (6, .int x6_24), (0, .ref (a 0)), (1, .int x1_24), (2, .int x2_24), (3, .int x3_24), (4, .int x4_24), (5, .int x5_24)]) hx hb dX7_greedy_82 hl (k := 7) rfl (by rfl) (by decide) rfl (fun ls hl => ?_)
                  refine lv_goto (tgt := 24) hx hb dX7_greedy_85 (by decide) ?_
                  exact ih K_24 x1_24 x2_24 x3_24 x4_24 x5_24 x6_24 (x7_24 + 1) _ _ _ ls hf hP hS (lv_sub hl [2, 3, 4, 5, 6, 7, 1, 0] rfl) hk
                · replace hf := (if_neg c_5).symm.trans hf
                  refine lv_iload hx hb dX7_greedy_51 (lv_at hl 6 rfl) ?_
                  refine lv_if_lt (tgt := 73) hx hb dX7_greedy_53 (by decide) (fun c_6 => ?_) (fun c_6 => ?_)
                  · replace hf := (if_pos c_6).symm.trans hf
                    refine lv_iload hx hb dX7_greedy_73 (lv_at hl 7 rfl) ?_
                    refine lv_goto (tgt := 80) hx hb dX7_greedy_75 (by decide) ?_
                    refine lv_istore (lv' := [(6, .int x7_24), (0, .ref (a 0)), (1, .int x1_24), (2, .int x2_24), (3, .int x3_24), (4, .int x4_24), (5, .int x5_24), (7, .int x7_24)]) hx hb dX7_greedy_80 hl (by decide) rfl (fun ls hl => ?_)
                    refine lv_iinc (v := (x7_24 + 1)) (lv' := [(7, .int (x7_24 + 1)), (6, .int x7_24), (0, .ref (a 0)), (1, .int x1_24), (2, .int x2_24), (3, .int x3_24), (4, .int x4_24), (5, .int x5_24)]) hx hb dX7_greedy_82 hl (k := 7) rfl (by rfl) (by decide) rfl (fun ls hl => ?_)
                    refine lv_goto (tgt := 24) hx hb dX7_greedy_85 (by decide) ?_
                    exact ih K_24 x1_24 x2_24 x3_24 x4_24 x5_24 x7_24 (x7_24 + 1) _ _ _ ls hf hP hS (lv_sub hl [2, 3, 4, 5, 6, 7, 1, 0] rfl) hk
                  · replace hf := (if_neg c_6).symm.trans hf
                    refine lv_aload_n hx hb dX7_greedy_56 rfl (lv_at hl 0 rfl) ?_
                    refine gX7_31 F hX hP 0 rfl (v := .ref (a 8)) rfl dX7_greedy_57 ?_
                    refine lv_iload hx hb dX7_greedy_60 (lv_at hl 7 rfl) ?_
                    refine va_iald hx hb hX.1 hP 8 0 (n := 12) (f := (K_24.1 7)) rfl rfl g_4 dX7_greedy_62 ?_
                    refine lv_aload_n hx hb dX7_greedy_63 rfl (lv_at hl 0 rfl) ?_
                    refine gX7_31 F hX hP 0 rfl (v := .ref (a 8)) rfl dX7_greedy_64 ?_
                    refine lv_iload hx hb dX7_greedy_67 (lv_at hl 6 rfl) ?_
                    have g_7 := og hf
                    replace hf := (if_pos g_7).symm.trans hf
                    refine va_iald hx hb hX.1 hP 8 0 (n := 12) (f := (K_24.1 7)) rfl rfl g_7 dX7_greedy_69 ?_
                    refine lv_icmp_le (tgt := 78) hx hb dX7_greedy_70 (by decide) (fun c_8 => ?_) (fun c_8 => ?_)
                    · replace hf := (if_pos c_8).symm.trans hf
                      refine lv_iload hx hb dX7_greedy_78 (lv_at hl 6 rfl) ?_
                      refine lv_istore (lv' := [(6, .int x6_24), (0, .ref (a 0)), (1, .int x1_24), (2, .int x2_24), (3, .int x3_24), (4, .int x4_24), (5, .int x5_24), (7, .int x7_24)]) hx hb dX7_greedy_80 hl (by decide) rfl (fun ls hl => ?_)
                      refine lv_iinc (v := (x7_24 + 1)) (lv' := [(7, .int (x7_24 + 1)), (6, .int x6_24), (0, .ref (a 0)), (1, .int x1_24), (2, .int x2_24), (3, .int x3_24), (4, .int x4_24), (5, .int x5_24)]) hx hb dX7_greedy_82 hl (k := 7) rfl (by rfl) (by decide) rfl (fun ls hl => ?_)
                      refine lv_goto (tgt := 24) hx hb dX7_greedy_85 (by decide) ?_
                      exact ih K_24 x1_24 x2_24 x3_24 x4_24 x5_24 x6_24 (x7_24 + 1) _ _ _ ls hf hP hS (lv_sub hl [2, 3, 4, 5, 6, 7, 1, 0] rfl) hk
                    · replace hf := (if_neg c_8).symm.trans hf
                      refine lv_iload hx hb dX7_greedy_73 (lv_at hl 7 rfl) ?_
                      refine lv_goto (tgt := 80) hx hb dX7_greedy_75 (by decide) ?_
                      refine lv_istore (lv' := [(6, .int x7_24), (0, .ref (a 0)), (1, .int x1_24), (2, .int x2_24), (3, .int x3_24), (4, .int x4_24), (5, .int x5_24), (7, .int x7_24)]) hx hb dX7_greedy_80 hl (by decide) rfl (fun ls hl => ?_)
                      refine lv_iinc (v := (x7_24 + 1)) (lv' := [(7, .int (x7_24 + 1)), (6, .int x7_24), (0, .ref (a 0)), (1, .int x1_24), (2, .int x2_24), (3, .int x3_24), (4, .int x4_24), (5, .int x5_24)]) hx hb dX7_greedy_82 hl (k := 7) rfl (by rfl) (by decide) rfl (fun ls hl => ?_)
                      refine lv_goto (tgt := 24) hx hb dX7_greedy_85 (by decide) ?_
                      exact ih K_24 x1_24 x2_24 x3_24 x4_24 x5_24 x7_24 (x7_24 + 1) _ _ _ ls hf hP hS (lv_sub hl [2, 3, 4, 5, 6, 7, 1, 0] rfl) hk
        obtain ⟨u_9, h_10, hf⟩ := ob hf
        refine hL_24 FUEL K_12 x1_12 x2_12 x3_12 x4_12 x5_12 (-1000004) 0 u_9 _ _ ls h_10 hP hS (lv_sub hl [2, 3, 4, 5, 6, 7, 1, 0] rfl) (fun H locs ls hP hS hl => ?_)
        clear hL_24
        refine lv_iload hx hb dX7_greedy_88 (lv_at hl 6 rfl) ?_
        refine lv_if_ge (tgt := 96) hx hb dX7_greedy_90 (by decide) (fun c_11 => ?_) (fun c_11 => ?_)
        · replace hf := (if_pos c_11).symm.trans hf
          refine lv_iload hx hb dX7_greedy_96 (lv_at hl 5 rfl) ?_
          refine lv_iconst (v := 1) hx hb dX7_greedy_98 (by decide) ?_
          refine lv_iload hx hb dX7_greedy_99 (lv_at hl 6 rfl) ?_
          refine lv_ishl hx hb dX7_greedy_101 ?_
          refine lv_ixor hx hb dX7_greedy_102 ?_
          refine lv_istore (lv' := [(5, .int (x5_12 ^^^ (1 <<< (u_9 &&& 31)))), (0, .ref (a 0)), (1, .int x1_12), (2, .int x2_12), (3, .int x3_12), (4, .int x4_12), (6, .int u_9)]) hx hb dX7_greedy_103 hl (by decide) rfl (fun ls hl => ?_)
          refine lv_iload_n hx hb dX7_greedy_105 rfl (lv_at hl 4 rfl) ?_
          refine lv_aload_n hx hb dX7_greedy_106 rfl (lv_at hl 1 rfl) ?_
          refine gX7_31 F hX hP 0 rfl (v := .ref (a 8)) rfl dX7_greedy_107 ?_
          refine lv_iload hx hb dX7_greedy_110 (lv_at hl 6 rfl) ?_
          have g_12 := og hf
          replace hf := (if_pos g_12).symm.trans hf
          refine va_iald hx hb hX.1 hP 8 0 (n := 12) (f := (K_12.1 7)) rfl rfl g_12 dX7_greedy_112 ?_
          refine lv_iadd hx hb dX7_greedy_113 ?_
          refine lv_istore_n (lv' := [(3, .int (x3_12 + ((K_12.1 7) (Int32.toNatClampNeg u_9)))), (5, .int (x5_12 ^^^ (1 <<< (u_9 &&& 31)))), (0, .ref (a 0)), (1, .int x1_12), (2, .int x2_12), (4, .int x4_12), (6, .int u_9)]) hx hb dX7_greedy_114 rfl hl (by decide) rfl (fun ls hl => ?_)
          refine lv_iinc (v := (x4_12 + 1)) (lv' := [(4, .int (x4_12 + 1)), (3, .int (x3_12 + ((K_12.1 7) (Int32.toNatClampNeg u_9)))), (5, .int (x5_12 ^^^ (1 <<< (u_9 &&& 31)))), (0, .ref (a 0)), (1, .int x1_12), (2, .int x2_12), (6, .int u_9)]) hx hb dX7_greedy_115 hl (k := 5) rfl (by rfl) (by decide) rfl (fun ls hl => ?_)
          refine lv_goto (tgt := 12) hx hb dX7_greedy_118 (by decide) ?_
          exact ih K_12 x1_12 x2_12 (x3_12 + ((K_12.1 7) (Int32.toNatClampNeg u_9))) (x4_12 + 1) (x5_12 ^^^ (1 <<< (u_9 &&& 31))) _ _ ls hf hP hS (lv_sub hl [3, 4, 5, 1, 0, 2] rfl)
        · replace hf := (if_neg c_11).symm.trans hf
          refine lv_ldc (v := (-1000004)) hx hb hown (hts _ q_838) dX7_greedy_93 ?_
          exact rd_i F (Option.some.inj hf) hS dX7_greedy_95
  exact hL_12 FUEL K x1 x2 0 0 ((1 <<< (x2 &&& 31)) - 1) _ _ ls hf hP hS (lv_sub hl [3, 4, 5, 2, 1, 0] rfl)
def X7_bySets_L23 : Nat → SMod → Int32 → Int32 → Int32 → Int32 → Int32 → Int32 → Int32 → Option (Int32 × Int32)
  | 0, _, _, _, _, _, _, _, _ => none
  | fu + 1, K_23, x1_23, x2_23, x3_23, x4_23, x5_23, x6_23, x7_23 => (if x2_23 ≤ x7_23 then some (x5_23, x6_23) else (if ((x4_23 >>> (x7_23 &&& 31)) &&& 1) = 1 then (if ¬ (x7_23 < 0 ∨ 12 ≤ Int32.toNatClampNeg x7_23) then X7_bySets_L23 fu K_23 x1_23 x2_23 x3_23 x4_23 (x5_23 + ((K_23.1 7) (Int32.toNatClampNeg x7_23))) (x6_23 + ((x4_23 >>> (x7_23 &&& 31)) &&& 1)) (x7_23 + 1) else none) else X7_bySets_L23 fu K_23 x1_23 x2_23 x3_23 x4_23 (x5_23 + 0) (x6_23 + ((x4_23 >>> (x7_23 &&& 31)) &&& 1)) (x7_23 + 1)))
def X7_bySets_L6 : Nat → SMod → Int32 → Int32 → Int32 → Int32 → Option (Int32)
  | 0, _, _, _, _, _ => none
  | fu + 1, K_6, x1_6, x2_6, x3_6, x4_6 => (if (1 <<< (x2_6 &&& 31)) ≤ x4_6 then some x3_6 else ((X7_bySets_L23 FUEL K_6 x1_6 x2_6 x3_6 x4_6 0 0 0).bind fun u_5 => (if u_5.1 < x1_6 then X7_bySets_L6 fu K_6 x1_6 x2_6 x3_6 (x4_6 + 1) else (if x3_6 < 0 then X7_bySets_L6 fu K_6 x1_6 x2_6 u_5.2 (x4_6 + 1) else (if x3_6 ≤ u_5.2 then X7_bySets_L6 fu K_6 x1_6 x2_6 x3_6 (x4_6 + 1) else X7_bySets_L6 fu K_6 x1_6 x2_6 u_5.2 (x4_6 + 1))))))
def X7_bySets (K : SMod) (x1 : Int32) (x2 : Int32) : Option (Int32) := ((X7_bySets_L6 FUEL K x1 x2 (-1000004) 0).bind fun u_10 => some u_10)
abbrev rm_X7_bySets : Room := { frames := 0, cells := 0, slots := 0, locals := 0 }
set_option maxHeartbeats 4000000 in
set_option maxRecDepth 100000 in
theorem c_X7_bySets (l : Launch) (D : va_G) (cI cP : ClassId) (a : Nat → Nat) (K : SMod) (x1 : Int32) (x2 : Int32) (z : Int32) (hf : X7_bySets K x1 x2 = some z) : MRd l yX7_bySets cX7_bySets 8 (some .int) rm_X7_bySets D cI cP [.ref (a 0), .int x1, .int x2] (wMod cI a K) z := by
  refine MRd.of (by decide +kernel) (Nat.le_of_ble_eq_true rfl) ?_
  intro p e s m args below meth c ls F hX hP hS hl
  have F : Fx p s m args meth c RX7 cX7_bySets 8 (some .int) := F
  have hx := F.1
  have hb := F.2.1
  have hown := F.2.2.2.1
  have hts := F.2.2.2.2.1
  have hA : ∀ q : Nat, s.heap.size ≤ q → (fun q : Nat => s.heap.size ≤ q) q := fun _ h => h
  have hl : lv_has ls 8 [(0, .ref (a 0)), (1, .int x1), (2, .int x2)] := hl
  unfold X7_bySets at hf
  refine lv_ldc (v := (-1000004)) hx hb hown (hts _ q_838) dX7_bySets_0 ?_
  refine lv_istore_n (lv' := [(3, .int (-1000004)), (0, .ref (a 0)), (1, .int x1), (2, .int x2)]) hx hb dX7_bySets_2 rfl hl (by decide) rfl (fun ls hl => ?_)
  refine lv_iconst (v := 0) hx hb dX7_bySets_3 (by decide) ?_
  refine lv_istore (lv' := [(4, .int 0), (3, .int (-1000004)), (0, .ref (a 0)), (1, .int x1), (2, .int x2)]) hx hb dX7_bySets_4 hl (by decide) rfl (fun ls hl => ?_)
  have hL_6 : ∀ (fu : Nat) (K_6 : SMod) (x1_6 : Int32) (x2_6 : Int32) (x3_6 : Int32) (x4_6 : Int32) (v : Int32) (H : Heap) (locs : List Loc) (ls : Array Slot), X7_bySets_L6 fu K_6 x1_6 x2_6 x3_6 x4_6 = some v → va_P D vwCl (wMod cI a K_6) H → va_S (fun q : Nat => s.heap.size ≤ q) s.heap H locs → lv_has ls 8 [(0, .ref (a 0)), (1, .int x1_6), (2, .int x2_6), (3, .int x3_6), (4, .int x4_6)] → (∀ (H : Heap) (locs : List Loc) (ls : Array Slot), va_P D vwCl (wMod cI a K_6) H → va_S (fun q : Nat => s.heap.size ≤ q) s.heap H locs → lv_has ls 8 [(3, .int v)] → W p l e rm_X7_bySets s m args below meth c H locs 0 0 (QR below args s z) (F0 m 103 ls [])) → W p l e rm_X7_bySets s m args below meth c H locs 0 0 (QR below args s z) (F0 m 6 ls []) := by
    intro fu
    induction fu with
    | zero =>
      intro K_6 x1_6 x2_6 x3_6 x4_6 v H locs ls hf
      exact absurd hf (by simp [X7_bySets_L6])
    | succ fu ih =>
      intro K_6 x1_6 x2_6 x3_6 x4_6 v _ _ ls hf hP hS hl hk
      rw [X7_bySets_L6] at hf
      refine lv_iload hx hb dX7_bySets_6 (lv_at hl 4 rfl) ?_
      refine lv_iconst (v := 1) hx hb dX7_bySets_8 (by decide) ?_
      refine lv_iload_n hx hb dX7_bySets_9 rfl (lv_at hl 2 rfl) ?_
      refine lv_ishl hx hb dX7_bySets_10 ?_
      refine lv_icmp_ge (tgt := 103) hx hb dX7_bySets_11 (by decide) (fun c_1 => ?_) (fun c_1 => ?_)
      · replace hf := (if_pos c_1).symm.trans hf
        obtain rfl := Option.some.inj hf
        exact hk _ _ ls hP hS (lv_sub hl [3] rfl)
      · replace hf := (if_neg c_1).symm.trans hf
        refine lv_iconst (v := 0) hx hb dX7_bySets_14 (by decide) ?_
        refine lv_istore (lv' := [(5, .int 0), (0, .ref (a 0)), (1, .int x1_6), (2, .int x2_6), (3, .int x3_6), (4, .int x4_6)]) hx hb dX7_bySets_15 hl (by decide) rfl (fun ls hl => ?_)
        refine lv_iconst (v := 0) hx hb dX7_bySets_17 (by decide) ?_
        refine lv_istore (lv' := [(6, .int 0), (5, .int 0), (0, .ref (a 0)), (1, .int x1_6), (2, .int x2_6), (3, .int x3_6), (4, .int x4_6)]) hx hb dX7_bySets_18 hl (by decide) rfl (fun ls hl => ?_)
        refine lv_iconst (v := 0) hx hb dX7_bySets_20 (by decide) ?_
        refine lv_istore (lv' := [(7, .int 0), (6, .int 0), (5, .int 0), (0, .ref (a 0)), (1, .int x1_6), (2, .int x2_6), (3, .int x3_6), (4, .int x4_6)]) hx hb dX7_bySets_21 hl (by decide) rfl (fun ls hl => ?_)
        have hL_23 : ∀ (fu : Nat) (K_23 : SMod) (x1_23 : Int32) (x2_23 : Int32) (x3_23 : Int32) (x4_23 : Int32) (x5_23 : Int32) (x6_23 : Int32) (x7_23 : Int32) (v : Int32 × Int32) (H : Heap) (locs : List Loc) (ls : Array Slot), X7_bySets_L23 fu K_23 x1_23 x2_23 x3_23 x4_23 x5_23 x6_23 x7_23 = some v → va_P D vwCl (wMod cI a K_23) H → va_S (fun q : Nat => s.heap.size ≤ q) s.heap H locs → lv_has ls 8 [(0, .ref (a 0)), (1, .int x1_23), (2, .int x2_23), (3, .int x3_23), (4, .int x4_23), (5, .int x5_23), (6, .int x6_23), (7, .int x7_23)] → (∀ (H : Heap) (locs : List Loc) (ls : Array Slot), va_P D vwCl (wMod cI a K_23) H → va_S (fun q : Nat => s.heap.size ≤ q) s.heap H locs → lv_has ls 8 [(0, .ref (a 0)), (1, .int x1_23), (2, .int x2_23), (3, .int x3_23), (4, .int x4_23), (5, .int v.1), (6, .int v.2)] → W p l e rm_X7_bySets s m args below meth c H locs 0 0 (QR below args s z) (F0 m 74 ls [])) → W p l e rm_X7_bySets s m args below meth c H locs 0 0 (QR below args s z) (F0 m 23 ls []) := by
          intro fu
          induction fu with
          | zero =>
            intro K_23 x1_23 x2_23 x3_23 x4_23 x5_23 x6_23 x7_23 v H locs ls hf
            exact absurd hf (by simp [X7_bySets_L23])
          | succ fu ih =>
            intro K_23 x1_23 x2_23 x3_23 x4_23 x5_23 x6_23 x7_23 v _ _ ls hf hP hS hl hk
            rw [X7_bySets_L23] at hf
            refine lv_iload hx hb dX7_bySets_23 (lv_at hl 7 rfl) ?_
            refine lv_iload_n hx hb dX7_bySets_25 rfl (lv_at hl 2 rfl) ?_
            refine lv_icmp_ge (tgt := 74) hx hb dX7_bySets_26 (by decide) (fun c_2 => ?_) (fun c_2 => ?_)
            · replace hf := (if_pos c_2).symm.trans hf
              obtain rfl := Option.some.inj hf
              exact hk _ _ ls hP hS (lv_sub hl [0, 1, 2, 3, 4, 5, 6] rfl)
            · replace hf := (if_neg c_2).symm.trans hf
              refine lv_iload hx hb dX7_bySets_29 (lv_at hl 5 rfl) ?_
              refine lv_iload hx hb dX7_bySets_31 (lv_at hl 4 rfl) ?_
              refine lv_iload hx hb dX7_bySets_33 (lv_at hl 7 rfl) ?_
              refine lv_ishr hx hb dX7_bySets_35 ?_
              refine lv_iconst (v := 1) hx hb dX7_bySets_36 (by decide) ?_
              refine lv_iand hx hb dX7_bySets_37 ?_
              refine lv_iconst (v := 1) hx hb dX7_bySets_38 (by decide) ?_
              refine lv_icmp_ne (tgt := 52) hx hb dX7_bySets_39 (by decide) (fun c_3 => ?_) (fun c_3 => ?_)
              · replace hf := (if_neg c_3).symm.trans hf
                refine lv_iconst (v := 0) hx hb dX7_bySets_52 (by decide) ?_
                refine lv_iadd hx hb dX7_bySets_53 ?_
                refine lv_istore (lv' := [(5, .int (x5_23 + 0)), (0, .ref (a 0)), (1, .int x1_23), (2, .int x2_23), (3, .int x3_23), (4, .int x4_23), (6, .int x6_23), (7, .int x7_23)]) hx hb dX7_bySets_54 hl (by decide) rfl (fun ls hl => ?_)
                refine lv_iload hx hb dX7_bySets_56 (lv_at hl 6 rfl) ?_
                refine lv_iload hx hb dX7_bySets_58 (lv_at hl 5 rfl) ?_
                refine lv_iload hx hb dX7_bySets_60 (lv_at hl 7 rfl) ?_
                refine lv_ishr hx hb dX7_bySets_62 ?_
                refine lv_iconst (v := 1) hx hb dX7_bySets_63 (by decide) ?_
                refine lv_iand hx hb dX7_bySets_64 ?_
                refine lv_iadd hx hb dX7_bySets_65 ?_
                refine lv_istore (lv' := [(6, .int (x6_23 + ((x4_23 >>> (x7_23 &&& 31)) &&& 1))), (5, .int (x5_23 + 0)), (0, .ref (a 0)), (1, .int x1_23), (2, .int x2_23), (3, .int x3_23), (4, .int x4_23), (7, .int x7_23)]) hx hb dX7_bySets_66 hl (by decide) rfl (fun ls hl => ?_)
                refine lv_iinc (v := (x7_23 + 1)) (lv' := [(7, .int (x7_23 + 1)), (6, .int (x6_23 + ((x4_23 >>> (x7_23 &&& 31)) &&& 1))), (5, .int (x5_23 + 0)), (0, .ref (a 0)), (1, .int x1_23), (2, .int x2_23), (3, .int x3_23), (4, .int x4_23)]) hx hb dX7_bySets_68 hl (k := 7) rfl (by rfl) (by decide) rfl (fun ls hl => ?_)
                refine lv_goto (tgt := 23) hx hb dX7_bySets_71 (by decide) ?_
                exact ih K_23 x1_23 x2_23 x3_23 x4_23 (x5_23 + 0) (x6_23 + ((x4_23 >>> (x7_23 &&& 31)) &&& 1)) (x7_23 + 1) _ _ _ ls hf hP hS (lv_sub hl [3, 4, 5, 6, 7, 2, 1, 0] rfl) hk
              · replace hf := (if_pos c_3).symm.trans hf
                refine lv_aload_n hx hb dX7_bySets_42 rfl (lv_at hl 0 rfl) ?_
                refine gX7_31 F hX hP 0 rfl (v := .ref (a 8)) rfl dX7_bySets_43 ?_
                refine lv_iload hx hb dX7_bySets_46 (lv_at hl 7 rfl) ?_
                have g_4 := og hf
                replace hf := (if_pos g_4).symm.trans hf
                refine va_iald hx hb hX.1 hP 8 0 (n := 12) (f := (K_23.1 7)) rfl rfl g_4 dX7_bySets_48 ?_
                refine lv_goto (tgt := 53) hx hb dX7_bySets_49 (by decide) ?_
                refine lv_iadd hx hb dX7_bySets_53 ?_
                refine lv_istore (lv' := [(5, .int (x5_23 + ((K_23.1 7) (Int32.toNatClampNeg x7_23)))), (0, .ref (a 0)), (1, .int x1_23), (2, .int x2_23), (3, .int x3_23), (4, .int x4_23), (6, .int x6_23), (7, .int x7_23)]) hx hb dX7_bySets_54 hl (by decide) rfl (fun ls hl => ?_)
                refine lv_iload hx hb dX7_bySets_56 (lv_at hl 6 rfl) ?_
                refine lv_iload hx hb dX7_bySets_58 (lv_at hl 5 rfl) ?_
                refine lv_iload hx hb dX7_bySets_60 (lv_at hl 7 rfl) ?_
                refine lv_ishr hx hb dX7_bySets_62 ?_
                refine lv_iconst (v := 1) hx hb dX7_bySets_63 (by decide) ?_
                refine lv_iand hx hb dX7_bySets_64 ?_
                refine lv_iadd hx hb dX7_bySets_65 ?_
                refine lv_istore (lv' := [(6, .int (x6_23 + ((x4_23 >>> (x7_23 &&& 31)) &&& 1))), (5, .int (x5_23 + ((K_23.1 7) (Int32.toNatClampNeg x7_23)))), (0, .ref (a 0)), (1, .int x1_23), (2, .int x2_23), (3, .int x3_23), (4, .int x4_23), (7, .int x7_23)]) hx hb dX7_bySets_66 hl (by decide) rfl (fun ls hl => ?_)
                refine lv_iinc (v := (x7_23 + 1)) (lv' := [(7, .int (x7_23 + 1)), (6, .int (x6_23 + ((x4_23 >>> (x7_23 &&& 31)) &&& 1))), (5, .int (x5_23 + ((K_23.1 7) (Int32.toNatClampNeg x7_23)))), (0, .ref (a 0)), (1, .int x1_23), (2, .int x2_23), (3, .int x3_23), (4, .int x4_23)]) hx hb dX7_bySets_68 hl (k := 7) rfl (by rfl) (by decide) rfl (fun ls hl => ?_)
                refine lv_goto (tgt := 23) hx hb dX7_bySets_71 (by decide) ?_
                exact ih K_23 x1_23 x2_23 x3_23 x4_23 (x5_23 + ((K_23.1 7) (Int32.toNatClampNeg x7_23))) (x6_23 + ((x4_23 >>> (x7_23 &&& 31)) &&& 1)) (x7_23 + 1) _ _ _ ls hf hP hS (lv_sub hl [3, 4, 5, 6, 7, 2, 1, 0] rfl) hk
        obtain ⟨u_5, h_6, hf⟩ := ob hf
        refine hL_23 FUEL K_6 x1_6 x2_6 x3_6 x4_6 0 0 0 u_5 _ _ ls h_6 hP hS (lv_sub hl [3, 4, 5, 6, 7, 2, 1, 0] rfl) (fun H locs ls hP hS hl => ?_)
        clear hL_23
        refine lv_iload hx hb dX7_bySets_74 (lv_at hl 5 rfl) ?_
        refine lv_iload_n hx hb dX7_bySets_76 rfl (lv_at hl 1 rfl) ?_
        refine lv_icmp_lt (tgt := 95) hx hb dX7_bySets_77 (by decide) (fun c_7 => ?_) (fun c_7 => ?_)
        · replace hf := (if_pos c_7).symm.trans hf
          refine lv_iload_n hx hb dX7_bySets_95 rfl (lv_at hl 3 rfl) ?_
          refine lv_istore_n (lv' := [(3, .int x3_6), (0, .ref (a 0)), (1, .int x1_6), (2, .int x2_6), (4, .int x4_6), (5, .int u_5.1), (6, .int u_5.2)]) hx hb dX7_bySets_96 rfl hl (by decide) rfl (fun ls hl => ?_)
          refine lv_iinc (v := (x4_6 + 1)) (lv' := [(4, .int (x4_6 + 1)), (3, .int x3_6), (0, .ref (a 0)), (1, .int x1_6), (2, .int x2_6), (5, .int u_5.1), (6, .int u_5.2)]) hx hb dX7_bySets_97 hl (k := 4) rfl (by rfl) (by decide) rfl (fun ls hl => ?_)
          refine lv_goto (tgt := 6) hx hb dX7_bySets_100 (by decide) ?_
          exact ih K_6 x1_6 x2_6 x3_6 (x4_6 + 1) _ _ _ ls hf hP hS (lv_sub hl [2, 3, 4, 1, 0] rfl) hk
        · replace hf := (if_neg c_7).symm.trans hf
          refine lv_iload_n hx hb dX7_bySets_80 rfl (lv_at hl 3 rfl) ?_
          refine lv_if_lt (tgt := 90) hx hb dX7_bySets_81 (by decide) (fun c_8 => ?_) (fun c_8 => ?_)
          · replace hf := (if_pos c_8).symm.trans hf
            refine lv_iload hx hb dX7_bySets_90 (lv_at hl 6 rfl) ?_
            refine lv_goto (tgt := 96) hx hb dX7_bySets_92 (by decide) ?_
            refine lv_istore_n (lv' := [(3, .int u_5.2), (0, .ref (a 0)), (1, .int x1_6), (2, .int x2_6), (4, .int x4_6), (5, .int u_5.1), (6, .int u_5.2)]) hx hb dX7_bySets_96 rfl hl (by decide) rfl (fun ls hl => ?_)
            refine lv_iinc (v := (x4_6 + 1)) (lv' := [(4, .int (x4_6 + 1)), (3, .int u_5.2), (0, .ref (a 0)), (1, .int x1_6), (2, .int x2_6), (5, .int u_5.1), (6, .int u_5.2)]) hx hb dX7_bySets_97 hl (k := 4) rfl (by rfl) (by decide) rfl (fun ls hl => ?_)
            refine lv_goto (tgt := 6) hx hb dX7_bySets_100 (by decide) ?_
            exact ih K_6 x1_6 x2_6 u_5.2 (x4_6 + 1) _ _ _ ls hf hP hS (lv_sub hl [2, 3, 4, 1, 0] rfl) hk
          · replace hf := (if_neg c_8).symm.trans hf
            refine lv_iload hx hb dX7_bySets_84 (lv_at hl 6 rfl) ?_
            refine lv_iload_n hx hb dX7_bySets_86 rfl (lv_at hl 3 rfl) ?_
            refine lv_icmp_ge (tgt := 95) hx hb dX7_bySets_87 (by decide) (fun c_9 => ?_) (fun c_9 => ?_)
            · replace hf := (if_pos c_9).symm.trans hf
              refine lv_iload_n hx hb dX7_bySets_95 rfl (lv_at hl 3 rfl) ?_
              refine lv_istore_n (lv' := [(3, .int x3_6), (0, .ref (a 0)), (1, .int x1_6), (2, .int x2_6), (4, .int x4_6), (5, .int u_5.1), (6, .int u_5.2)]) hx hb dX7_bySets_96 rfl hl (by decide) rfl (fun ls hl => ?_)
              refine lv_iinc (v := (x4_6 + 1)) (lv' := [(4, .int (x4_6 + 1)), (3, .int x3_6), (0, .ref (a 0)), (1, .int x1_6), (2, .int x2_6), (5, .int u_5.1), (6, .int u_5.2)]) hx hb dX7_bySets_97 hl (k := 4) rfl (by rfl) (by decide) rfl (fun ls hl => ?_)
              refine lv_goto (tgt := 6) hx hb dX7_bySets_100 (by decide) ?_
              exact ih K_6 x1_6 x2_6 x3_6 (x4_6 + 1) _ _ _ ls hf hP hS (lv_sub hl [2, 3, 4, 1, 0] rfl) hk
            · replace hf := (if_neg c_9).symm.trans hf
              refine lv_iload hx hb dX7_bySets_90 (lv_at hl 6 rfl) ?_
              refine lv_goto (tgt := 96) hx hb dX7_bySets_92 (by decide) ?_
              refine lv_istore_n (lv' := [(3, .int u_5.2), (0, .ref (a 0)), (1, .int x1_6), (2, .int x2_6), (4, .int x4_6), (5, .int u_5.1), (6, .int u_5.2)]) hx hb dX7_bySets_96 rfl hl (by decide) rfl (fun ls hl => ?_)
              refine lv_iinc (v := (x4_6 + 1)) (lv' := [(4, .int (x4_6 + 1)), (3, .int u_5.2), (0, .ref (a 0)), (1, .int x1_6), (2, .int x2_6), (5, .int u_5.1), (6, .int u_5.2)]) hx hb dX7_bySets_97 hl (k := 4) rfl (by rfl) (by decide) rfl (fun ls hl => ?_)
              refine lv_goto (tgt := 6) hx hb dX7_bySets_100 (by decide) ?_
              exact ih K_6 x1_6 x2_6 u_5.2 (x4_6 + 1) _ _ _ ls hf hP hS (lv_sub hl [2, 3, 4, 1, 0] rfl) hk
  obtain ⟨u_10, h_11, hf⟩ := ob hf
  refine hL_6 FUEL K x1 x2 (-1000004) 0 u_10 _ _ ls h_11 hP hS (lv_sub hl [2, 3, 4, 1, 0] rfl) (fun H locs ls hP hS hl => ?_)
  clear hL_6
  refine lv_iload_n hx hb dX7_bySets_103 rfl (lv_at hl 0 rfl) ?_
  exact rd_i F (Option.some.inj hf) hS dX7_bySets_104
def X7_fewest (K : SMod) (x1 : Int32) : Option (SMod × Int32) := (if (X7_in x1 0 1) = 0 then some (K, (-1000001)) else (if ((K.1 0) (Int32.toNatClampNeg 148)) = 0 then some (K, (-1000004)) else ((X7_yesNow K).bind fun u_3 => ((X7_seats u_3.1).bind fun u_5 => ((X7_gains u_3.1).bind fun u_7 => (if x1 = 0 then ((X7_greedy u_7.1 (((u_5 / 2) + 1) - u_3.2) u_7.2).bind fun u_12 => some (u_7.1, u_12)) else ((X7_bySets u_7.1 (((u_5 / 2) + 1) - u_3.2) u_7.2).bind fun u_10 => some (u_7.1, u_10))))))))
abbrev rm_X7_fewest : Room := { frames := 4, cells := 0, slots := 0, locals := 90 }
set_option maxHeartbeats 4000000 in
set_option maxRecDepth 100000 in
theorem c_X7_fewest (l : Launch) (D : va_G) (cI cP : ClassId) (a : Nat → Nat) (K : SMod) (x1 : Int32) (z : SMod × Int32) (hf : X7_fewest K x1 = some z) : MWi l yX7_fewest cX7_fewest 5 (some .int) rm_X7_fewest D cI cP [.ref (a 0), .int x1] (wMod cI a K) (wMod cI a z.1) z.2 := by
  refine MWi.of (by decide +kernel) (Nat.le_of_ble_eq_true rfl) ?_
  intro p e s m args below meth c ls A F hX hP hD hA hS hl
  have F : Fx p s m args meth c RX7 cX7_fewest 5 (some .int) := F
  have hx := F.1
  have hb := F.2.1
  have hown := F.2.2.2.1
  have hts := F.2.2.2.2.1
  have hl : lv_has ls 5 [(0, .ref (a 0)), (1, .int x1)] := hl
  unfold X7_fewest at hf
  refine lv_iload_n hx hb dX7_fewest_0 rfl (lv_at hl 1 rfl) ?_
  refine lv_iconst (v := 0) hx hb dX7_fewest_1 (by decide) ?_
  refine lv_iconst (v := 1) hx hb dX7_fewest_2 (by decide) ?_
  refine k_rd (runS F wdX7_45 (rm := rm_X7_in) (As := [.int x1, .int 0, .int 1]) (rest := []) ⟨rfl, rfl⟩ ⟨Nat.le_of_ble_eq_true rfl, Nat.le_of_ble_eq_true rfl⟩ hl.1 rfl rfl (Nat.le_of_ble_eq_true rfl) dX7_fewest_3 ⟨Nat.zero_le _, Nat.zero_le _⟩) (c_X7_in l D cI cP x1 0 1 _ rfl) hX trivial vP_nil hP hS hA (fun H locs hP hS => ?_)
  refine lv_if_ne (tgt := 12) hx hb dX7_fewest_6 (by decide) (fun c_1 => ?_) (fun c_1 => ?_)
  · replace hf := (if_neg c_1).symm.trans hf
    refine lv_aload_n hx hb dX7_fewest_12 rfl (lv_at hl 0 rfl) ?_
    refine gX7_7 F hX hP 0 rfl (v := .ref (a 1)) rfl dX7_fewest_13 ?_
    refine lv_sipush (v := 148) hx hb dX7_fewest_16 (by decide) ?_
    refine va_iald hx hb hX.1 hP 1 0 (n := 156) (f := (K.1 0)) rfl rfl (by decide : ¬ ((148 : Int32) < 0 ∨ 156 ≤ Int32.toNatClampNeg 148)) dX7_fewest_19 ?_
    refine lv_if_ne (tgt := 26) hx hb dX7_fewest_20 (by decide) (fun c_2 => ?_) (fun c_2 => ?_)
    · replace hf := (if_neg c_2).symm.trans hf
      refine lv_aload_n hx hb dX7_fewest_26 rfl (lv_at hl 0 rfl) ?_
      obtain ⟨u_3, h_4, hf⟩ := ob hf
      refine k_wi (runV F wdX7_79 (rm := rm_X7_yesNow) (As := []) (rest := []) ⟨rfl, rfl⟩ ⟨Nat.le_of_ble_eq_true rfl, Nat.le_of_ble_eq_true rfl⟩ hl.1 rfl rfl (Nat.le_of_ble_eq_true rfl) dX7_fewest_27 ⟨Nat.zero_le _, Nat.zero_le _⟩) (c_X7_yesNow l D cI cP a K  _ h_4) hX (va_recv hX.1 hP (ci := 7) (q0 := 0) rfl rfl) (Cut.all rfl) hP hD hS hA (fun H locs hP hD hS => ?_)
      have hP : va_P D vwCl (wMod cI a u_3.1) H := hP
      have hD : va_D A (wMod cI a u_3.1) := hD
      refine lv_istore_n (lv' := [(2, .int u_3.2), (0, .ref (a 0)), (1, .int x1)]) hx hb dX7_fewest_30 rfl hl (by decide) rfl (fun ls hl => ?_)
      refine lv_aload_n hx hb dX7_fewest_31 rfl (lv_at hl 1 rfl) ?_
      obtain ⟨u_5, h_6, hf⟩ := ob hf
      refine k_rd (runV F wdX7_82 (rm := rm_X7_seats) (As := []) (rest := []) ⟨rfl, rfl⟩ ⟨Nat.le_of_ble_eq_true rfl, Nat.le_of_ble_eq_true rfl⟩ hl.1 rfl rfl (Nat.le_of_ble_eq_true rfl) dX7_fewest_32 ⟨Nat.zero_le _, Nat.zero_le _⟩) (c_X7_seats l D cI cP a u_3.1  _ h_6) hX (va_recv hX.1 hP (ci := 7) (q0 := 0) rfl rfl) hP hP hS hA (fun H locs hP hS => ?_)
      refine lv_iconst (v := 2) hx hb dX7_fewest_35 (by decide) ?_
      refine lv_idiv hx hb dX7_fewest_36 (by decide) ?_
      refine lv_iconst (v := 1) hx hb dX7_fewest_37 (by decide) ?_
      refine lv_iadd hx hb dX7_fewest_38 ?_
      refine lv_iload_n hx hb dX7_fewest_39 rfl (lv_at hl 0 rfl) ?_
      refine lv_isub hx hb dX7_fewest_40 ?_
      refine lv_istore_n (lv' := [(3, .int (((u_5 / 2) + 1) - u_3.2)), (2, .int u_3.2), (0, .ref (a 0)), (1, .int x1)]) hx hb dX7_fewest_41 rfl hl (by decide) rfl (fun ls hl => ?_)
      refine lv_aload_n hx hb dX7_fewest_42 rfl (lv_at hl 2 rfl) ?_
      obtain ⟨u_7, h_8, hf⟩ := ob hf
      refine k_wi (runV F wdX7_136 (rm := rm_X7_gains) (As := []) (rest := []) ⟨rfl, rfl⟩ ⟨Nat.le_of_ble_eq_true rfl, Nat.le_of_ble_eq_true rfl⟩ hl.1 rfl rfl (Nat.le_of_ble_eq_true rfl) dX7_fewest_43 ⟨Nat.zero_le _, Nat.zero_le _⟩) (c_X7_gains l D cI cP a u_3.1  _ h_8) hX (va_recv hX.1 hP (ci := 7) (q0 := 0) rfl rfl) (Cut.all rfl) hP hD hS hA (fun H locs hP hD hS => ?_)
      have hP : va_P D vwCl (wMod cI a u_7.1) H := hP
      have hD : va_D A (wMod cI a u_7.1) := hD
      refine lv_istore (lv' := [(4, .int u_7.2), (3, .int (((u_5 / 2) + 1) - u_3.2)), (2, .int u_3.2), (0, .ref (a 0)), (1, .int x1)]) hx hb dX7_fewest_46 hl (by decide) rfl (fun ls hl => ?_)
      refine lv_iload_n hx hb dX7_fewest_48 rfl (lv_at hl 4 rfl) ?_
      refine lv_if_ne (tgt := 62) hx hb dX7_fewest_49 (by decide) (fun c_9 => ?_) (fun c_9 => ?_)
      · replace hf := (if_neg c_9).symm.trans hf
        refine lv_aload_n hx hb dX7_fewest_62 rfl (lv_at hl 3 rfl) ?_
        refine lv_iload_n hx hb dX7_fewest_63 rfl (lv_at hl 1 rfl) ?_
        refine lv_iload hx hb dX7_fewest_64 (lv_at hl 0 rfl) ?_
        obtain ⟨u_10, h_11, hf⟩ := ob hf
        refine k_rd (runV F wdX7_142 (rm := rm_X7_bySets) (As := [.int (((u_5 / 2) + 1) - u_3.2), .int u_7.2]) (rest := []) ⟨rfl, rfl⟩ ⟨Nat.le_of_ble_eq_true rfl, Nat.le_of_ble_eq_true rfl⟩ hl.1 rfl rfl (Nat.le_of_ble_eq_true rfl) dX7_fewest_66 ⟨Nat.zero_le _, Nat.zero_le _⟩) (c_X7_bySets l D cI cP a u_7.1 (((u_5 / 2) + 1) - u_3.2) u_7.2 _ h_11) hX (va_recv hX.1 hP (ci := 7) (q0 := 0) rfl rfl) hP hP hS hA (fun H locs hP hS => ?_)
        obtain rfl := (Option.some.inj hf)
        exact wr_i F rfl hP hS dX7_fewest_69
      · replace hf := (if_pos c_9).symm.trans hf
        refine lv_aload_n hx hb dX7_fewest_52 rfl (lv_at hl 3 rfl) ?_
        refine lv_iload_n hx hb dX7_fewest_53 rfl (lv_at hl 1 rfl) ?_
        refine lv_iload hx hb dX7_fewest_54 (lv_at hl 0 rfl) ?_
        obtain ⟨u_12, h_13, hf⟩ := ob hf
        refine k_rd (runV F wdX7_139 (rm := rm_X7_greedy) (As := [.int (((u_5 / 2) + 1) - u_3.2), .int u_7.2]) (rest := []) ⟨rfl, rfl⟩ ⟨Nat.le_of_ble_eq_true rfl, Nat.le_of_ble_eq_true rfl⟩ hl.1 rfl rfl (Nat.le_of_ble_eq_true rfl) dX7_fewest_56 ⟨Nat.zero_le _, Nat.zero_le _⟩) (c_X7_greedy l D cI cP a u_7.1 (((u_5 / 2) + 1) - u_3.2) u_7.2 _ h_13) hX (va_recv hX.1 hP (ci := 7) (q0 := 0) rfl rfl) hP hP hS hA (fun H locs hP hS => ?_)
        refine lv_goto (tgt := 69) hx hb dX7_fewest_59 (by decide) ?_
        obtain rfl := (Option.some.inj hf)
        exact wr_i F rfl hP hS dX7_fewest_69
    · replace hf := (if_pos c_2).symm.trans hf
      refine lv_ldc (v := (-1000004)) hx hb hown (hts _ q_838) dX7_fewest_23 ?_
      obtain rfl := (Option.some.inj hf)
      exact wr_i F rfl hP hS dX7_fewest_25
  · replace hf := (if_pos c_1).symm.trans hf
    refine lv_ldc (v := (-1000001)) hx hb hown (hts _ q_855) dX7_fewest_9 ?_
    obtain rfl := (Option.some.inj hf)
    exact wr_i F rfl hP hS dX7_fewest_11
def X7_ifCut (K : SMod) (x1 : Int32) (x2 : Int32) : Option (SMod × Int32) := ((X7_isString K x1).bind fun u_1 => (if u_1 = 0 then some (K, (-1000001)) else (if (X7_in x2 0 1) = 0 then some (K, (-1000001)) else ((X7_looks K x1).bind fun u_5 => (if x2 = 0 then ((X7_votes u_5).bind fun u_10 => some (u_10.1, u_10.2)) else ((X7_groups u_5).bind fun u_8 => some (u_5, u_8)))))))
abbrev rm_X7_ifCut : Room := { frames := 3, cells := 0, slots := 0, locals := 70 }
set_option maxHeartbeats 4000000 in
set_option maxRecDepth 100000 in
theorem c_X7_ifCut (l : Launch) (D : va_G) (cI cP : ClassId) (a : Nat → Nat) (K : SMod) (x1 : Int32) (x2 : Int32) (z : SMod × Int32) (hf : X7_ifCut K x1 x2 = some z) : MWi l yX7_ifCut cX7_ifCut 3 (some .int) rm_X7_ifCut D cI cP [.ref (a 0), .int x1, .int x2] (wMod cI a K) (wMod cI a z.1) z.2 := by
  refine MWi.of (by decide +kernel) (Nat.le_of_ble_eq_true rfl) ?_
  intro p e s m args below meth c ls A F hX hP hD hA hS hl
  have F : Fx p s m args meth c RX7 cX7_ifCut 3 (some .int) := F
  have hx := F.1
  have hb := F.2.1
  have hown := F.2.2.2.1
  have hts := F.2.2.2.2.1
  have hl : lv_has ls 3 [(0, .ref (a 0)), (1, .int x1), (2, .int x2)] := hl
  unfold X7_ifCut at hf
  refine lv_aload_n hx hb dX7_ifCut_0 rfl (lv_at hl 0 rfl) ?_
  refine lv_iload_n hx hb dX7_ifCut_1 rfl (lv_at hl 1 rfl) ?_
  obtain ⟨u_1, h_2, hf⟩ := ob hf
  refine k_rd (runV F wdX7_102 (rm := rm_X7_isString) (As := [.int x1]) (rest := []) ⟨rfl, rfl⟩ ⟨Nat.le_of_ble_eq_true rfl, Nat.le_of_ble_eq_true rfl⟩ hl.1 rfl rfl (Nat.le_of_ble_eq_true rfl) dX7_ifCut_2 ⟨Nat.zero_le _, Nat.zero_le _⟩) (c_X7_isString l D cI cP a K x1 _ h_2) hX (va_recv hX.1 hP (ci := 7) (q0 := 0) rfl rfl) hP hP hS hA (fun H locs hP hS => ?_)
  refine lv_if_eq (tgt := 17) hx hb dX7_ifCut_5 (by decide) (fun c_3 => ?_) (fun c_3 => ?_)
  · replace hf := (if_pos c_3).symm.trans hf
    refine lv_ldc (v := (-1000001)) hx hb hown (hts _ q_855) dX7_ifCut_17 ?_
    obtain rfl := (Option.some.inj hf)
    exact wr_i F rfl hP hS dX7_ifCut_19
  · replace hf := (if_neg c_3).symm.trans hf
    refine lv_iload_n hx hb dX7_ifCut_8 rfl (lv_at hl 2 rfl) ?_
    refine lv_iconst (v := 0) hx hb dX7_ifCut_9 (by decide) ?_
    refine lv_iconst (v := 1) hx hb dX7_ifCut_10 (by decide) ?_
    refine k_rd (runS F wdX7_45 (rm := rm_X7_in) (As := [.int x2, .int 0, .int 1]) (rest := []) ⟨rfl, rfl⟩ ⟨Nat.le_of_ble_eq_true rfl, Nat.le_of_ble_eq_true rfl⟩ hl.1 rfl rfl (Nat.le_of_ble_eq_true rfl) dX7_ifCut_11 ⟨Nat.zero_le _, Nat.zero_le _⟩) (c_X7_in l D cI cP x2 0 1 _ rfl) hX trivial vP_nil hP hS hA (fun H locs hP hS => ?_)
    refine lv_if_ne (tgt := 20) hx hb dX7_ifCut_14 (by decide) (fun c_4 => ?_) (fun c_4 => ?_)
    · replace hf := (if_neg c_4).symm.trans hf
      refine lv_aload_n hx hb dX7_ifCut_20 rfl (lv_at hl 0 rfl) ?_
      refine lv_iload_n hx hb dX7_ifCut_21 rfl (lv_at hl 1 rfl) ?_
      obtain ⟨u_5, h_6, hf⟩ := ob hf
      refine k_wv (runV F wdX7_71 (rm := rm_X7_looks) (As := [.int x1]) (rest := []) ⟨rfl, rfl⟩ ⟨Nat.le_of_ble_eq_true rfl, Nat.le_of_ble_eq_true rfl⟩ hl.1 rfl rfl (Nat.le_of_ble_eq_true rfl) dX7_ifCut_22 ⟨Nat.zero_le _, Nat.zero_le _⟩) (c_X7_looks l D cI cP a K x1 _ h_6) hX (va_recv hX.1 hP (ci := 7) (q0 := 0) rfl rfl) (Cut.all rfl) hP hD hS hA (fun H locs hP hD hS => ?_)
      have hP : va_P D vwCl (wMod cI a u_5) H := hP
      have hD : va_D A (wMod cI a u_5) := hD
      refine lv_iload_n hx hb dX7_ifCut_25 rfl (lv_at hl 2 rfl) ?_
      refine lv_if_ne (tgt := 36) hx hb dX7_ifCut_26 (by decide) (fun c_7 => ?_) (fun c_7 => ?_)
      · replace hf := (if_neg c_7).symm.trans hf
        refine lv_aload_n hx hb dX7_ifCut_36 rfl (lv_at hl 0 rfl) ?_
        obtain ⟨u_8, h_9, hf⟩ := ob hf
        refine k_rd (runV F wdX7_145 (rm := rm_X7_groups) (As := []) (rest := []) ⟨rfl, rfl⟩ ⟨Nat.le_of_ble_eq_true rfl, Nat.le_of_ble_eq_true rfl⟩ hl.1 rfl rfl (Nat.le_of_ble_eq_true rfl) dX7_ifCut_37 ⟨Nat.zero_le _, Nat.zero_le _⟩) (c_X7_groups l D cI cP a u_5  _ h_9) hX (va_recv hX.1 hP (ci := 7) (q0 := 0) rfl rfl) hP hP hS hA (fun H locs hP hS => ?_)
        obtain rfl := (Option.some.inj hf)
        exact wr_i F rfl hP hS dX7_ifCut_40
      · replace hf := (if_pos c_7).symm.trans hf
        refine lv_aload_n hx hb dX7_ifCut_29 rfl (lv_at hl 0 rfl) ?_
        obtain ⟨u_10, h_11, hf⟩ := ob hf
        refine k_wi (runV F wdX7_75 (rm := rm_X7_votes) (As := []) (rest := []) ⟨rfl, rfl⟩ ⟨Nat.le_of_ble_eq_true rfl, Nat.le_of_ble_eq_true rfl⟩ hl.1 rfl rfl (Nat.le_of_ble_eq_true rfl) dX7_ifCut_30 ⟨Nat.zero_le _, Nat.zero_le _⟩) (c_X7_votes l D cI cP a u_5  _ h_11) hX (va_recv hX.1 hP (ci := 7) (q0 := 0) rfl rfl) (Cut.all rfl) hP hD hS hA (fun H locs hP hD hS => ?_)
        have hP : va_P D vwCl (wMod cI a u_10.1) H := hP
        have hD : va_D A (wMod cI a u_10.1) := hD
        refine lv_goto (tgt := 40) hx hb dX7_ifCut_33 (by decide) ?_
        obtain rfl := (Option.some.inj hf)
        exact wr_i F rfl hP hS dX7_ifCut_40
    · replace hf := (if_pos c_4).symm.trans hf
      refine lv_ldc (v := (-1000001)) hx hb hown (hts _ q_855) dX7_ifCut_17 ?_
      obtain rfl := (Option.some.inj hf)
      exact wr_i F rfl hP hS dX7_ifCut_19
