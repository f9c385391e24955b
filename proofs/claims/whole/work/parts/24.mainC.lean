def X6_bitsOf_L13 : Nat → UInt32 → Int32 → Option (UInt32 × Int32)
  | 0, _, _ => none
  | fu + 1, x1_13, x2_13 => (if x2_13 ≤ 1 then some (x1_13, x2_13) else (if 0 ≤ (Op.cmpValue (FP.fcmp x1_13 FP.fconst1) .g) then some (x1_13, x2_13) else (if (FP.fmul x1_13 FP.fconst2) &&& 0x7fffffff ≤ 0x7f800000 then X6_bitsOf_L13 fu (FP.fmul x1_13 FP.fconst2) (x2_13 + (-1)) else none)))
def X6_bitsOf (x0 : UInt32) : Option (Int32) := (if 0 < (Op.cmpValue (FP.fcmp x0 FP.fconst0) .g) then ((X6_bitsOf_L13 FUEL x0 127).bind fun u_5 => (if (FP.fsub u_5.1 FP.fconst1) &&& 0x7fffffff ≤ 0x7f800000 then (if (FP.fmul (FP.fsub u_5.1 FP.fconst1) 1258291200) &&& 0x7fffffff ≤ 0x7f800000 then some ((u_5.2 <<< (23 &&& 31)) ||| (FP.f2i (FP.fmul (FP.fsub u_5.1 FP.fconst1) 1258291200))) else none) else none)) else some 0)
abbrev rm_X6_bitsOf : Room := { frames := 0, cells := 0, slots := 0, locals := 0 }
set_option maxHeartbeats 4000000 in
set_option maxRecDepth 100000 in
theorem c_X6_bitsOf (l : Launch) (D : va_G) (cI cP : ClassId) (x0 : UInt32) (z : Int32) (hf : X6_bitsOf x0 = some z) : MRd l yX6_bitsOf cX6_bitsOf 4 (some .int) rm_X6_bitsOf D cI cP [.float x0] [] z := by
  refine MRd.of (by decide +kernel) (Nat.le_of_ble_eq_true rfl) ?_
  intro p e s m args below meth c ls F hX hP hS hl
  have F : Fx p s m args meth c RX6 cX6_bitsOf 4 (some .int) := F
  have hx := F.1
  have hb := F.2.1
  have hown := F.2.2.2.1
  have hts := F.2.2.2.2.1
  have hA : ∀ q : Nat, s.heap.size ≤ q → (fun q : Nat => s.heap.size ≤ q) q := fun _ h => h
  have hl : lv_has ls 4 [(0, .float x0)] := hl
  unfold X6_bitsOf at hf
  refine lv_fload_n hx hb dX6_bitsOf_0 rfl (lv_at hl 0 rfl) ?_
  refine lv_fconst0 hx hb dX6_bitsOf_1 ?_
  refine lv_fcmp hx hb dX6_bitsOf_2 ?_
  refine lv_if_gt (tgt := 8) hx hb dX6_bitsOf_3 (by decide) (fun c_1 => ?_) (fun c_1 => ?_)
  · replace hf := (if_pos c_1).symm.trans hf
    refine lv_fload_n hx hb dX6_bitsOf_8 rfl (lv_at hl 0 rfl) ?_
    refine lv_fstore_n (lv' := [(1, .float x0), (0, .float x0)]) hx hb dX6_bitsOf_9 rfl hl (by decide) rfl (fun ls hl => ?_)
    refine lv_bipush (v := 127) hx hb dX6_bitsOf_10 (by decide) ?_
    refine lv_istore_n (lv' := [(2, .int 127), (1, .float x0), (0, .float x0)]) hx hb dX6_bitsOf_12 rfl hl (by decide) rfl (fun ls hl => ?_)
    have hL_13 : ∀ (fu : Nat) (x1_13 : UInt32) (x2_13 : Int32) (v : UInt32 × Int32) (H : Heap) (locs : List Loc) (ls : Array Slot), X6_bitsOf_L13 fu x1_13 x2_13 = some v → va_P D vwCl [] H → va_S (fun q : Nat => s.heap.size ≤ q) s.heap H locs → lv_has ls 4 [(1, .float x1_13), (2, .int x2_13)] → (∀ (H : Heap) (locs : List Loc) (ls : Array Slot), va_P D vwCl [] H → va_S (fun q : Nat => s.heap.size ≤ q) s.heap H locs → lv_has ls 4 [(1, .float v.1), (2, .int v.2)] → W p l e rm_X6_bitsOf s m args below meth c H locs 0 0 (QR below args s z) (F0 m 34 ls [])) → W p l e rm_X6_bitsOf s m args below meth c H locs 0 0 (QR below args s z) (F0 m 13 ls []) := by
      intro fu
      induction fu with
      | zero =>
        intro x1_13 x2_13 v H locs ls hf
        exact absurd hf (by simp [X6_bitsOf_L13])
      | succ fu ih =>
        intro x1_13 x2_13 v _ _ ls hf hP hS hl hk
        rw [X6_bitsOf_L13] at hf
        refine lv_iload_n hx hb dX6_bitsOf_13 rfl (lv_at hl 1 rfl) ?_
        refine lv_iconst (v := 1) hx hb dX6_bitsOf_14 (by decide) ?_
        refine lv_icmp_le (tgt := 34) hx hb dX6_bitsOf_15 (by decide) (fun c_2 => ?_) (fun c_2 => ?_)
        · replace hf := (if_pos c_2).symm.trans hf
          obtain rfl := Option.some.inj hf
          exact hk _ _ ls hP hS hl
        · replace hf := (if_neg c_2).symm.trans hf
          refine lv_fload_n hx hb dX6_bitsOf_18 rfl (lv_at hl 0 rfl) ?_
          refine lv_fconst1 hx hb dX6_bitsOf_19 ?_
          refine lv_fcmp hx hb dX6_bitsOf_20 ?_
          refine lv_if_ge (tgt := 34) hx hb dX6_bitsOf_21 (by decide) (fun c_3 => ?_) (fun c_3 => ?_)
          · replace hf := (if_pos c_3).symm.trans hf
            obtain rfl := Option.some.inj hf
            exact hk _ _ ls hP hS hl
          · replace hf := (if_neg c_3).symm.trans hf
            refine lv_fload_n hx hb dX6_bitsOf_24 rfl (lv_at hl 0 rfl) ?_
            refine lv_fconst2 hx hb dX6_bitsOf_25 ?_
            have g_4 := og hf
            replace hf := (if_pos g_4).symm.trans hf
            refine lv_fmul hx hb dX6_bitsOf_26 g_4 ?_
            refine lv_fstore_n (lv' := [(1, .float (FP.fmul x1_13 FP.fconst2)), (2, .int x2_13)]) hx hb dX6_bitsOf_27 rfl hl (by decide) rfl (fun ls hl => ?_)
            refine lv_iinc (v := (x2_13 + (-1))) (lv' := [(2, .int (x2_13 + (-1))), (1, .float (FP.fmul x1_13 FP.fconst2))]) hx hb dX6_bitsOf_28 hl (k := 1) rfl (by rfl) (by decide) rfl (fun ls hl => ?_)
            refine lv_goto (tgt := 13) hx hb dX6_bitsOf_31 (by decide) ?_
            exact ih (FP.fmul x1_13 FP.fconst2) (x2_13 + (-1)) _ _ _ ls hf hP hS (lv_sub hl [1, 0] rfl) hk
    obtain ⟨u_5, h_6, hf⟩ := ob hf
    refine hL_13 FUEL x0 127 u_5 _ _ ls h_6 hP hS (lv_sub hl [1, 0] rfl) (fun H locs ls hP hS hl => ?_)
    clear hL_13
    refine lv_fload_n hx hb dX6_bitsOf_34 rfl (lv_at hl 0 rfl) ?_
    refine lv_fconst1 hx hb dX6_bitsOf_35 ?_
    have g_7 := og hf
    replace hf := (if_pos g_7).symm.trans hf
    refine lv_fsub hx hb dX6_bitsOf_36 g_7 ?_
    refine lv_ldcf (v := 1258291200) hx hb hown (hts _ q_668) dX6_bitsOf_37 ?_
    have g_8 := og hf
    replace hf := (if_pos g_8).symm.trans hf
    refine lv_fmul hx hb dX6_bitsOf_39 g_8 ?_
    refine lv_f2i hx hb dX6_bitsOf_40 ?_
    refine lv_istore_n (lv' := [(3, .int (FP.f2i (FP.fmul (FP.fsub u_5.1 FP.fconst1) 1258291200))), (1, .float u_5.1), (2, .int u_5.2)]) hx hb dX6_bitsOf_41 rfl hl (by decide) rfl (fun ls hl => ?_)
    refine lv_iload_n hx hb dX6_bitsOf_42 rfl (lv_at hl 2 rfl) ?_
    refine lv_bipush (v := 23) hx hb dX6_bitsOf_43 (by decide) ?_
    refine lv_ishl hx hb dX6_bitsOf_45 ?_
    refine lv_iload_n hx hb dX6_bitsOf_46 rfl (lv_at hl 0 rfl) ?_
    refine lv_ior hx hb dX6_bitsOf_47 ?_
    exact rd_i F (Option.some.inj hf) hS dX6_bitsOf_48
  · replace hf := (if_neg c_1).symm.trans hf
    refine lv_iconst (v := 0) hx hb dX6_bitsOf_6 (by decide) ?_
    exact rd_i F (Option.some.inj hf) hS dX6_bitsOf_7
def X6_share (K : SMain) : Option (Int32) := (if 0 < (K.2.2.2.1.2.1 3) then (if (FP.fdiv (FP.i2f (K.2.2.2.1.2.1 4)) (FP.i2f (K.2.2.2.1.2.1 3))) &&& 0x7fffffff ≤ 0x7f800000 then ((X6_bitsOf (FP.fdiv (FP.i2f (K.2.2.2.1.2.1 4)) (FP.i2f (K.2.2.2.1.2.1 3)))).bind fun u_3 => some u_3) else none) else some (-1000004))
abbrev rm_X6_share : Room := { frames := 1, cells := 0, slots := 0, locals := 23 }
set_option maxHeartbeats 4000000 in
set_option maxRecDepth 100000 in
theorem c_X6_share (l : Launch) (D : va_G) (cI cP : ClassId) (o h : Nat) (tx tn : Nat → Nat) (Ad : Nat → Nat → Nat) (K : SMain) (z : Int32) (hf : X6_share K  = some z) : MRd l yX6_share cX6_share 2 (some .int) rm_X6_share D cI cP [.ref o] (wMain cI cP o h tx tn Ad K) z := by
  refine MRd.of (by decide +kernel) (Nat.le_of_ble_eq_true rfl) ?_
  intro p e s m args below meth c ls F hX hP hS hl
  have F : Fx p s m args meth c RX6 cX6_share 2 (some .int) := F
  have hx := F.1
  have hb := F.2.1
  have hown := F.2.2.2.1
  have hts := F.2.2.2.2.1
  have hA : ∀ q : Nat, s.heap.size ≤ q → (fun q : Nat => s.heap.size ≤ q) q := fun _ h => h
  have hl : lv_has ls 2 [(0, .ref o)] := hl
  unfold X6_share at hf
  refine lv_aload_n hx hb dX6_share_0 rfl (lv_at hl 0 rfl) ?_
  refine gX6_10 F hX hP 0 rfl (v := .ref (Ad 0 0)) rfl dX6_share_1 ?_
  refine gX6_201 F hX (va_blk (Bs := (bMain cI cP o h tx tn Ad K)) hP 4 rfl) 0 rfl (v := .int (K.2.2.2.1.2.1 3)) rfl dX6_share_4 ?_
  refine lv_istore_n (lv' := [(1, .int (K.2.2.2.1.2.1 3)), (0, .ref o)]) hx hb dX6_share_7 rfl hl (by decide) rfl (fun ls hl => ?_)
  refine lv_iload_n hx hb dX6_share_8 rfl (lv_at hl 0 rfl) ?_
  refine lv_if_gt (tgt := 15) hx hb dX6_share_9 (by decide) (fun c_1 => ?_) (fun c_1 => ?_)
  · replace hf := (if_pos c_1).symm.trans hf
    refine lv_aload_n hx hb dX6_share_15 rfl (lv_at hl 1 rfl) ?_
    refine gX6_10 F hX hP 0 rfl (v := .ref (Ad 0 0)) rfl dX6_share_16 ?_
    refine gX6_174 F hX (va_blk (Bs := (bMain cI cP o h tx tn Ad K)) hP 4 rfl) 0 rfl (v := .int (K.2.2.2.1.2.1 4)) rfl dX6_share_19 ?_
    refine lv_i2f hx hb dX6_share_22 ?_
    refine lv_iload_n hx hb dX6_share_23 rfl (lv_at hl 0 rfl) ?_
    refine lv_i2f hx hb dX6_share_24 ?_
    have g_2 := og hf
    replace hf := (if_pos g_2).symm.trans hf
    refine lv_fdiv hx hb dX6_share_25 g_2 ?_
    obtain ⟨u_3, h_4, hf⟩ := ob hf
    refine k_rd (runS F wdX6_204 (rm := rm_X6_bitsOf) (As := [.float (FP.fdiv (FP.i2f (K.2.2.2.1.2.1 4)) (FP.i2f (K.2.2.2.1.2.1 3)))]) (rest := []) ⟨rfl, rfl⟩ ⟨Nat.le_of_ble_eq_true rfl, Nat.le_of_ble_eq_true rfl⟩ hl.1 rfl rfl (Nat.le_of_ble_eq_true rfl) dX6_share_26 ⟨Nat.zero_le _, Nat.zero_le _⟩) (c_X6_bitsOf l D cI cP (FP.fdiv (FP.i2f (K.2.2.2.1.2.1 4)) (FP.i2f (K.2.2.2.1.2.1 3))) _ h_4) hX trivial vP_nil hP hS hA (fun H locs hP hS => ?_)
    exact rd_i F (Option.some.inj hf) hS dX6_share_29
  · replace hf := (if_neg c_1).symm.trans hf
    refine lv_ldc (v := (-1000004)) hx hb hown (hts _ q_545) dX6_share_12 ?_
    exact rd_i F (Option.some.inj hf) hS dX6_share_14
def X6_count (K : SMain) (x1 : Int32) : Option (Int32) := (if x1 = 0 then some (K.2.2.2.1.2.1 0) else (if x1 = 1 then some (K.2.2.2.1.2.2.1.2 0) else (if x1 = 2 then ((X1_groupsByJoining K.2.2.2.1).bind fun u_4 => some u_4) else (if x1 = 3 then ((X1_groupsByWalking K.2.2.2.1).bind fun u_7 => some u_7) else (if x1 = 4 then some (K.2.2.2.1.2.1 3) else (if x1 = 5 then some (K.2.2.2.1.2.1 4) else (if x1 = 6 then some ((K.2.2.2.1.2.1 3) - (K.2.2.2.1.2.1 4)) else (if x1 = 7 then (if (K.2.2.2.1.2.1 0) = 0 then some (-1000004) else some (X1_wouldPass K.2.2.2.1)) else (if x1 = 8 then (if (K.2.2.2.1.2.1 0) = 0 then some (-1000004) else some (K.2.2.2.1.2.1 1)) else (if x1 = 9 then ((X1_pulledPuppets K.2.2.2.1).bind fun u_17 => some u_17) else (if x1 = 10 then some (K.2.2.2.1.2.2.2.2 0) else (if x1 = 11 then some (K.2.2.2.1.2.2.2.2 1) else (if x1 = 12 then some (X0_kept K.2.2.2.1.2.2.2) else (if x1 = 13 then some (K.1 1) else (if x1 = 14 then some (K.2.1.2.2 0) else (if x1 = 15 then some (K.2.2.2.1.2.2.1.2 1) else (if x1 = 20 then some (K.2.2.2.1.2.1 2) else some (-1000001))))))))))))))))))
abbrev rm_X6_count : Room := { frames := 4, cells := 0, slots := 0, locals := 91 }
set_option maxHeartbeats 4000000 in
set_option maxRecDepth 100000 in
theorem c_X6_count (l : Launch) (D : va_G) (cI cP : ClassId) (o h : Nat) (tx tn : Nat → Nat) (Ad : Nat → Nat → Nat) (K : SMain) (x1 : Int32) (z : Int32) (hf : X6_count K x1 = some z) : MRd l yX6_count cX6_count 2 (some .int) rm_X6_count D cI cP [.ref o, .int x1] (wMain cI cP o h tx tn Ad K) z := by
  refine MRd.of (by decide +kernel) (Nat.le_of_ble_eq_true rfl) ?_
  intro p e s m args below meth c ls F hX hP hS hl
  have F : Fx p s m args meth c RX6 cX6_count 2 (some .int) := F
  have hx := F.1
  have hb := F.2.1
  have hown := F.2.2.2.1
  have hts := F.2.2.2.2.1
  have hA : ∀ q : Nat, s.heap.size ≤ q → (fun q : Nat => s.heap.size ≤ q) q := fun _ h => h
  have hl : lv_has ls 2 [(0, .ref o), (1, .int x1)] := hl
  unfold X6_count at hf
  refine lv_iload_n hx hb dX6_count_0 rfl (lv_at hl 1 rfl) ?_
  rcases Decidable.em (x1 = 0) with c_1 | c_1
  · replace hf := (if_pos c_1).symm.trans hf
    refine lv_tableIn (off := 99) (tgt := 100) hx hb dX6_count_1 (by rw [c_1]; decide) (by rw [c_1]; decide) (by rw [c_1]; rfl) (by decide) ?_
    refine lv_aload_n hx hb dX6_count_100 rfl (lv_at hl 0 rfl) ?_
    refine gX6_10 F hX hP 0 rfl (v := .ref (Ad 0 0)) rfl dX6_count_101 ?_
    refine gX6_178 F hX (va_blk (Bs := (bMain cI cP o h tx tn Ad K)) hP 4 rfl) 0 rfl (v := .int (K.2.2.2.1.2.1 0)) rfl dX6_count_104 ?_
    exact rd_i F (Option.some.inj hf) hS dX6_count_107
  replace hf := (if_neg c_1).symm.trans hf
  rcases Decidable.em (x1 = 1) with c_2 | c_2
  · replace hf := (if_pos c_2).symm.trans hf
    refine lv_tableIn (off := 107) (tgt := 108) hx hb dX6_count_1 (by rw [c_2]; decide) (by rw [c_2]; decide) (by rw [c_2]; rfl) (by decide) ?_
    refine lv_aload_n hx hb dX6_count_108 rfl (lv_at hl 0 rfl) ?_
    refine gX6_10 F hX hP 0 rfl (v := .ref (Ad 0 0)) rfl dX6_count_109 ?_
    refine gX6_105 F hX (va_blk (Bs := (bMain cI cP o h tx tn Ad K)) hP 4 rfl) 0 rfl (v := .ref (Ad 0 13)) rfl dX6_count_112 ?_
    refine gX6_209 F hX (va_blk (Bs := (bPar cI (Ad 0) K.2.2.2.1)) (va_blk (Bs := (bMain cI cP o h tx tn Ad K)) hP 4 rfl) 7 rfl) 0 rfl (v := .int (K.2.2.2.1.2.2.1.2 0)) rfl dX6_count_115 ?_
    exact rd_i F (Option.some.inj hf) hS dX6_count_118
  replace hf := (if_neg c_2).symm.trans hf
  rcases Decidable.em (x1 = 2) with c_3 | c_3
  · replace hf := (if_pos c_3).symm.trans hf
    refine lv_tableIn (off := 118) (tgt := 119) hx hb dX6_count_1 (by rw [c_3]; decide) (by rw [c_3]; decide) (by rw [c_3]; rfl) (by decide) ?_
    refine lv_aload_n hx hb dX6_count_119 rfl (lv_at hl 0 rfl) ?_
    refine gX6_10 F hX hP 0 rfl (v := .ref (Ad 0 0)) rfl dX6_count_120 ?_
    obtain ⟨u_4, h_5, hf⟩ := ob hf
    refine k_rd (runVN F hX wdX6_198 (rm := rm_X1_groupsByJoining) (As := []) (rest := []) ⟨rfl, rfl⟩ ⟨Nat.le_of_ble_eq_true rfl, Nat.le_of_ble_eq_true rfl⟩ hl.1 rfl rfl (Nat.le_of_ble_eq_true rfl) dX6_count_123 ⟨Nat.zero_le _, Nat.zero_le _⟩) (c_X1_groupsByJoining l D cI cP (Ad 0) K.2.2.2.1  _ h_5) hX (va_recv hX.1 (va_blk (Bs := (bMain cI cP o h tx tn Ad K)) hP 4 rfl) (ci := 1) (q0 := 0) rfl rfl) (va_blk (Bs := (bMain cI cP o h tx tn Ad K)) hP 4 rfl) hP hS hA (fun H locs hP hS => ?_)
    exact rd_i F (Option.some.inj hf) hS dX6_count_126
  replace hf := (if_neg c_3).symm.trans hf
  rcases Decidable.em (x1 = 3) with c_6 | c_6
  · replace hf := (if_pos c_6).symm.trans hf
    refine lv_tableIn (off := 126) (tgt := 127) hx hb dX6_count_1 (by rw [c_6]; decide) (by rw [c_6]; decide) (by rw [c_6]; rfl) (by decide) ?_
    refine lv_aload_n hx hb dX6_count_127 rfl (lv_at hl 0 rfl) ?_
    refine gX6_10 F hX hP 0 rfl (v := .ref (Ad 0 0)) rfl dX6_count_128 ?_
    obtain ⟨u_7, h_8, hf⟩ := ob hf
    refine k_rd (runVN F hX wdX6_212 (rm := rm_X1_groupsByWalking) (As := []) (rest := []) ⟨rfl, rfl⟩ ⟨Nat.le_of_ble_eq_true rfl, Nat.le_of_ble_eq_true rfl⟩ hl.1 rfl rfl (Nat.le_of_ble_eq_true rfl) dX6_count_131 ⟨Nat.zero_le _, Nat.zero_le _⟩) (c_X1_groupsByWalking l D cI cP (Ad 0) K.2.2.2.1  _ h_8) hX (va_recv hX.1 (va_blk (Bs := (bMain cI cP o h tx tn Ad K)) hP 4 rfl) (ci := 1) (q0 := 0) rfl rfl) (va_blk (Bs := (bMain cI cP o h tx tn Ad K)) hP 4 rfl) hP hS hA (fun H locs hP hS => ?_)
    exact rd_i F (Option.some.inj hf) hS dX6_count_134
  replace hf := (if_neg c_6).symm.trans hf
  rcases Decidable.em (x1 = 4) with c_9 | c_9
  · replace hf := (if_pos c_9).symm.trans hf
    refine lv_tableIn (off := 134) (tgt := 135) hx hb dX6_count_1 (by rw [c_9]; decide) (by rw [c_9]; decide) (by rw [c_9]; rfl) (by decide) ?_
    refine lv_aload_n hx hb dX6_count_135 rfl (lv_at hl 0 rfl) ?_
    refine gX6_10 F hX hP 0 rfl (v := .ref (Ad 0 0)) rfl dX6_count_136 ?_
    refine gX6_201 F hX (va_blk (Bs := (bMain cI cP o h tx tn Ad K)) hP 4 rfl) 0 rfl (v := .int (K.2.2.2.1.2.1 3)) rfl dX6_count_139 ?_
    exact rd_i F (Option.some.inj hf) hS dX6_count_142
  replace hf := (if_neg c_9).symm.trans hf
  rcases Decidable.em (x1 = 5) with c_10 | c_10
  · replace hf := (if_pos c_10).symm.trans hf
    refine lv_tableIn (off := 142) (tgt := 143) hx hb dX6_count_1 (by rw [c_10]; decide) (by rw [c_10]; decide) (by rw [c_10]; rfl) (by decide) ?_
    refine lv_aload_n hx hb dX6_count_143 rfl (lv_at hl 0 rfl) ?_
    refine gX6_10 F hX hP 0 rfl (v := .ref (Ad 0 0)) rfl dX6_count_144 ?_
    refine gX6_174 F hX (va_blk (Bs := (bMain cI cP o h tx tn Ad K)) hP 4 rfl) 0 rfl (v := .int (K.2.2.2.1.2.1 4)) rfl dX6_count_147 ?_
    exact rd_i F (Option.some.inj hf) hS dX6_count_150
  replace hf := (if_neg c_10).symm.trans hf
  rcases Decidable.em (x1 = 6) with c_11 | c_11
  · replace hf := (if_pos c_11).symm.trans hf
    refine lv_tableIn (off := 150) (tgt := 151) hx hb dX6_count_1 (by rw [c_11]; decide) (by rw [c_11]; decide) (by rw [c_11]; rfl) (by decide) ?_
    refine lv_aload_n hx hb dX6_count_151 rfl (lv_at hl 0 rfl) ?_
    refine gX6_10 F hX hP 0 rfl (v := .ref (Ad 0 0)) rfl dX6_count_152 ?_
    refine gX6_201 F hX (va_blk (Bs := (bMain cI cP o h tx tn Ad K)) hP 4 rfl) 0 rfl (v := .int (K.2.2.2.1.2.1 3)) rfl dX6_count_155 ?_
    refine lv_aload_n hx hb dX6_count_158 rfl (lv_at hl 0 rfl) ?_
    refine gX6_10 F hX hP 0 rfl (v := .ref (Ad 0 0)) rfl dX6_count_159 ?_
    refine gX6_174 F hX (va_blk (Bs := (bMain cI cP o h tx tn Ad K)) hP 4 rfl) 0 rfl (v := .int (K.2.2.2.1.2.1 4)) rfl dX6_count_162 ?_
    refine lv_isub hx hb dX6_count_165 ?_
    exact rd_i F (Option.some.inj hf) hS dX6_count_166
  replace hf := (if_neg c_11).symm.trans hf
  rcases Decidable.em (x1 = 7) with c_12 | c_12
  · replace hf := (if_pos c_12).symm.trans hf
    refine lv_tableIn (off := 166) (tgt := 167) hx hb dX6_count_1 (by rw [c_12]; decide) (by rw [c_12]; decide) (by rw [c_12]; rfl) (by decide) ?_
    refine lv_aload_n hx hb dX6_count_167 rfl (lv_at hl 0 rfl) ?_
    refine gX6_10 F hX hP 0 rfl (v := .ref (Ad 0 0)) rfl dX6_count_168 ?_
    refine gX6_178 F hX (va_blk (Bs := (bMain cI cP o h tx tn Ad K)) hP 4 rfl) 0 rfl (v := .int (K.2.2.2.1.2.1 0)) rfl dX6_count_171 ?_
    refine lv_if_ne (tgt := 182) hx hb dX6_count_174 (by decide) (fun c_13 => ?_) (fun c_13 => ?_)
    · replace hf := (if_neg c_13).symm.trans hf
      refine lv_aload_n hx hb dX6_count_182 rfl (lv_at hl 0 rfl) ?_
      refine gX6_10 F hX hP 0 rfl (v := .ref (Ad 0 0)) rfl dX6_count_183 ?_
      refine k_rd (runVN F hX wdX6_215 (rm := rm_X1_wouldPass) (As := []) (rest := []) ⟨rfl, rfl⟩ ⟨Nat.le_of_ble_eq_true rfl, Nat.le_of_ble_eq_true rfl⟩ hl.1 rfl rfl (Nat.le_of_ble_eq_true rfl) dX6_count_186 ⟨Nat.zero_le _, Nat.zero_le _⟩) (c_X1_wouldPass l D cI cP (Ad 0) K.2.2.2.1  _ rfl) hX (va_recv hX.1 (va_blk (Bs := (bMain cI cP o h tx tn Ad K)) hP 4 rfl) (ci := 1) (q0 := 0) rfl rfl) (va_blk (Bs := (bMain cI cP o h tx tn Ad K)) hP 4 rfl) hP hS hA (fun H locs hP hS => ?_)
      exact rd_i F (Option.some.inj hf) hS dX6_count_189
    · replace hf := (if_pos c_13).symm.trans hf
      refine lv_ldc (v := (-1000004)) hx hb hown (hts _ q_545) dX6_count_177 ?_
      refine lv_goto (tgt := 189) hx hb dX6_count_179 (by decide) ?_
      exact rd_i F (Option.some.inj hf) hS dX6_count_189
  replace hf := (if_neg c_12).symm.trans hf
  rcases Decidable.em (x1 = 8) with c_14 | c_14
  · replace hf := (if_pos c_14).symm.trans hf
    refine lv_tableIn (off := 189) (tgt := 190) hx hb dX6_count_1 (by rw [c_14]; decide) (by rw [c_14]; decide) (by rw [c_14]; rfl) (by decide) ?_
    refine lv_aload_n hx hb dX6_count_190 rfl (lv_at hl 0 rfl) ?_
    refine gX6_10 F hX hP 0 rfl (v := .ref (Ad 0 0)) rfl dX6_count_191 ?_
    refine gX6_178 F hX (va_blk (Bs := (bMain cI cP o h tx tn Ad K)) hP 4 rfl) 0 rfl (v := .int (K.2.2.2.1.2.1 0)) rfl dX6_count_194 ?_
    refine lv_if_ne (tgt := 205) hx hb dX6_count_197 (by decide) (fun c_15 => ?_) (fun c_15 => ?_)
    · replace hf := (if_neg c_15).symm.trans hf
      refine lv_aload_n hx hb dX6_count_205 rfl (lv_at hl 0 rfl) ?_
      refine gX6_10 F hX hP 0 rfl (v := .ref (Ad 0 0)) rfl dX6_count_206 ?_
      refine gX6_218 F hX (va_blk (Bs := (bMain cI cP o h tx tn Ad K)) hP 4 rfl) 0 rfl (v := .int (K.2.2.2.1.2.1 1)) rfl dX6_count_209 ?_
      exact rd_i F (Option.some.inj hf) hS dX6_count_212
    · replace hf := (if_pos c_15).symm.trans hf
      refine lv_ldc (v := (-1000004)) hx hb hown (hts _ q_545) dX6_count_200 ?_
      refine lv_goto (tgt := 212) hx hb dX6_count_202 (by decide) ?_
      exact rd_i F (Option.some.inj hf) hS dX6_count_212
  replace hf := (if_neg c_14).symm.trans hf
  rcases Decidable.em (x1 = 9) with c_16 | c_16
  · replace hf := (if_pos c_16).symm.trans hf
    refine lv_tableIn (off := 212) (tgt := 213) hx hb dX6_count_1 (by rw [c_16]; decide) (by rw [c_16]; decide) (by rw [c_16]; rfl) (by decide) ?_
    refine lv_aload_n hx hb dX6_count_213 rfl (lv_at hl 0 rfl) ?_
    refine gX6_10 F hX hP 0 rfl (v := .ref (Ad 0 0)) rfl dX6_count_214 ?_
    obtain ⟨u_17, h_18, hf⟩ := ob hf
    refine k_rd (runVN F hX wdX6_221 (rm := rm_X1_pulledPuppets) (As := []) (rest := []) ⟨rfl, rfl⟩ ⟨Nat.le_of_ble_eq_true rfl, Nat.le_of_ble_eq_true rfl⟩ hl.1 rfl rfl (Nat.le_of_ble_eq_true rfl) dX6_count_217 ⟨Nat.zero_le _, Nat.zero_le _⟩) (c_X1_pulledPuppets l D cI cP (Ad 0) K.2.2.2.1  _ h_18) hX (va_recv hX.1 (va_blk (Bs := (bMain cI cP o h tx tn Ad K)) hP 4 rfl) (ci := 1) (q0 := 0) rfl rfl) (va_blk (Bs := (bMain cI cP o h tx tn Ad K)) hP 4 rfl) hP hS hA (fun H locs hP hS => ?_)
    exact rd_i F (Option.some.inj hf) hS dX6_count_220
  replace hf := (if_neg c_16).symm.trans hf
  rcases Decidable.em (x1 = 10) with c_19 | c_19
  · replace hf := (if_pos c_19).symm.trans hf
    refine lv_tableIn (off := 220) (tgt := 221) hx hb dX6_count_1 (by rw [c_19]; decide) (by rw [c_19]; decide) (by rw [c_19]; rfl) (by decide) ?_
    refine lv_aload_n hx hb dX6_count_221 rfl (lv_at hl 0 rfl) ?_
    refine gX6_10 F hX hP 0 rfl (v := .ref (Ad 0 0)) rfl dX6_count_222 ?_
    refine gX6_152 F hX (va_blk (Bs := (bMain cI cP o h tx tn Ad K)) hP 4 rfl) 0 rfl (v := .ref (Ad 0 22)) rfl dX6_count_225 ?_
    refine gX6_224 F hX (va_blk (Bs := (bPar cI (Ad 0) K.2.2.2.1)) (va_blk (Bs := (bMain cI cP o h tx tn Ad K)) hP 4 rfl) 8 rfl) 0 rfl (v := .int (K.2.2.2.1.2.2.2.2 0)) rfl dX6_count_228 ?_
    exact rd_i F (Option.some.inj hf) hS dX6_count_231
  replace hf := (if_neg c_19).symm.trans hf
  rcases Decidable.em (x1 = 11) with c_20 | c_20
  · replace hf := (if_pos c_20).symm.trans hf
    refine lv_tableIn (off := 231) (tgt := 232) hx hb dX6_count_1 (by rw [c_20]; decide) (by rw [c_20]; decide) (by rw [c_20]; rfl) (by decide) ?_
    refine lv_aload_n hx hb dX6_count_232 rfl (lv_at hl 0 rfl) ?_
    refine gX6_10 F hX hP 0 rfl (v := .ref (Ad 0 0)) rfl dX6_count_233 ?_
    refine gX6_152 F hX (va_blk (Bs := (bMain cI cP o h tx tn Ad K)) hP 4 rfl) 0 rfl (v := .ref (Ad 0 22)) rfl dX6_count_236 ?_
    refine gX6_227 F hX (va_blk (Bs := (bPar cI (Ad 0) K.2.2.2.1)) (va_blk (Bs := (bMain cI cP o h tx tn Ad K)) hP 4 rfl) 8 rfl) 0 rfl (v := .int (K.2.2.2.1.2.2.2.2 1)) rfl dX6_count_239 ?_
    exact rd_i F (Option.some.inj hf) hS dX6_count_242
  replace hf := (if_neg c_20).symm.trans hf
  rcases Decidable.em (x1 = 12) with c_21 | c_21
  · replace hf := (if_pos c_21).symm.trans hf
    refine lv_tableIn (off := 242) (tgt := 243) hx hb dX6_count_1 (by rw [c_21]; decide) (by rw [c_21]; decide) (by rw [c_21]; rfl) (by decide) ?_
    refine lv_aload_n hx hb dX6_count_243 rfl (lv_at hl 0 rfl) ?_
    refine gX6_10 F hX hP 0 rfl (v := .ref (Ad 0 0)) rfl dX6_count_244 ?_
    refine gX6_152 F hX (va_blk (Bs := (bMain cI cP o h tx tn Ad K)) hP 4 rfl) 0 rfl (v := .ref (Ad 0 22)) rfl dX6_count_247 ?_
    refine k_rd (runVN F hX wdX6_156 (rm := rm_X0_kept) (As := []) (rest := []) ⟨rfl, rfl⟩ ⟨Nat.le_of_ble_eq_true rfl, Nat.le_of_ble_eq_true rfl⟩ hl.1 rfl rfl (Nat.le_of_ble_eq_true rfl) dX6_count_250 ⟨Nat.zero_le _, Nat.zero_le _⟩) (c_X0_kept l D cI cP (fun k => (Ad 0) (22 + k)) K.2.2.2.1.2.2.2  _ rfl) hX (va_recv hX.1 (va_blk (Bs := (bPar cI (Ad 0) K.2.2.2.1)) (va_blk (Bs := (bMain cI cP o h tx tn Ad K)) hP 4 rfl) 8 rfl) (ci := 0) (q0 := 0) rfl rfl) (va_blk (Bs := (bPar cI (Ad 0) K.2.2.2.1)) (va_blk (Bs := (bMain cI cP o h tx tn Ad K)) hP 4 rfl) 8 rfl) hP hS hA (fun H locs hP hS => ?_)
    exact rd_i F (Option.some.inj hf) hS dX6_count_253
  replace hf := (if_neg c_21).symm.trans hf
  rcases Decidable.em (x1 = 13) with c_22 | c_22
  · replace hf := (if_pos c_22).symm.trans hf
    refine lv_tableIn (off := 253) (tgt := 254) hx hb dX6_count_1 (by rw [c_22]; decide) (by rw [c_22]; decide) (by rw [c_22]; rfl) (by decide) ?_
    refine lv_aload_n hx hb dX6_count_254 rfl (lv_at hl 0 rfl) ?_
    refine gX6_230 F hX hP 0 rfl (v := .int (K.1 1)) rfl dX6_count_255 ?_
    exact rd_i F (Option.some.inj hf) hS dX6_count_258
  replace hf := (if_neg c_22).symm.trans hf
  rcases Decidable.em (x1 = 14) with c_23 | c_23
  · replace hf := (if_pos c_23).symm.trans hf
    refine lv_tableIn (off := 258) (tgt := 259) hx hb dX6_count_1 (by rw [c_23]; decide) (by rw [c_23]; decide) (by rw [c_23]; rfl) (by decide) ?_
    refine lv_aload_n hx hb dX6_count_259 rfl (lv_at hl 0 rfl) ?_
    refine gX6_33 F hX hP 0 rfl (v := .ref (tx 0)) rfl dX6_count_260 ?_
    refine gX6_233 F hX (va_blk (Bs := (bMain cI cP o h tx tn Ad K)) hP 2 rfl) 0 rfl (v := .int (K.2.1.2.2 0)) rfl dX6_count_263 ?_
    exact rd_i F (Option.some.inj hf) hS dX6_count_266
  replace hf := (if_neg c_23).symm.trans hf
  rcases Decidable.em (x1 = 15) with c_24 | c_24
  · replace hf := (if_pos c_24).symm.trans hf
    refine lv_tableIn (off := 266) (tgt := 267) hx hb dX6_count_1 (by rw [c_24]; decide) (by rw [c_24]; decide) (by rw [c_24]; rfl) (by decide) ?_
    refine lv_aload_n hx hb dX6_count_267 rfl (lv_at hl 0 rfl) ?_
    refine gX6_10 F hX hP 0 rfl (v := .ref (Ad 0 0)) rfl dX6_count_268 ?_
    refine gX6_105 F hX (va_blk (Bs := (bMain cI cP o h tx tn Ad K)) hP 4 rfl) 0 rfl (v := .ref (Ad 0 13)) rfl dX6_count_271 ?_
    refine gX6_236 F hX (va_blk (Bs := (bPar cI (Ad 0) K.2.2.2.1)) (va_blk (Bs := (bMain cI cP o h tx tn Ad K)) hP 4 rfl) 7 rfl) 0 rfl (v := .int (K.2.2.2.1.2.2.1.2 1)) rfl dX6_count_274 ?_
    exact rd_i F (Option.some.inj hf) hS dX6_count_277
  replace hf := (if_neg c_24).symm.trans hf
  rcases Decidable.em (x1 = 20) with c_25 | c_25
  · replace hf := (if_pos c_25).symm.trans hf
    refine lv_tableIn (off := 277) (tgt := 278) hx hb dX6_count_1 (by rw [c_25]; decide) (by rw [c_25]; decide) (by rw [c_25]; rfl) (by decide) ?_
    refine lv_aload_n hx hb dX6_count_278 rfl (lv_at hl 0 rfl) ?_
    refine gX6_10 F hX hP 0 rfl (v := .ref (Ad 0 0)) rfl dX6_count_279 ?_
    refine gX6_239 F hX (va_blk (Bs := (bMain cI cP o h tx tn Ad K)) hP 4 rfl) 0 rfl (v := .int (K.2.2.2.1.2.1 2)) rfl dX6_count_282 ?_
    exact rd_i F (Option.some.inj hf) hS dX6_count_285
  replace hf := (if_neg c_25).symm.trans hf
  refine lv_tableD (tgt := 286) (cs := [0, 1, 2, 3, 4, 5, 6, 7, 8, 9, 10, 11, 12, 13, 14, 15, 20]) hx hb dX6_count_1 (by decide) (by decide) (by decide) (by simp [c_1, c_2, c_3, c_6, c_9, c_10, c_11, c_12, c_14, c_16, c_19, c_20, c_21, c_22, c_23, c_24, c_25]) ?_
  refine lv_ldc (v := (-1000001)) hx hb hown (hts _ q_533) dX6_count_286 ?_
  exact rd_i F (Option.some.inj hf) hS dX6_count_288
def X6_undo (K : SMain) : Option (SMain × Int32) := (if (K.1 1) = 0 then some (K, (-1000002)) else ((pastIx K ((K.1 1) - 1)).bind fun j_2 => (bnd (K.1, K.2.1, K.2.2.1, (K.2.2.2.2.2 j_2), K.2.2.2.2.1, K.2.2.2.2.2) fun M_4 => (bnd ((up M_4.1 1 ((M_4.1 1) - 1)), M_4.2.1, M_4.2.2.1, M_4.2.2.2.1, M_4.2.2.2.2.1, M_4.2.2.2.2.2) fun M_6 => some (M_6, (M_6.1 1))))))
abbrev rm_X6_undo : Room := { frames := 4, cells := 0, slots := 0, locals := 103 }
set_option maxHeartbeats 4000000 in
set_option maxRecDepth 100000 in
theorem c_X6_undo (l : Launch) (D : va_G) (cI cP : ClassId) (o h : Nat) (tx tn : Nat → Nat) (Ad : Nat → Nat → Nat) (K : SMain) (z : SMain × Int32) (hf : X6_undo K  = some z) : MWi l yX6_undo cX6_undo 2 (some .int) rm_X6_undo D cI cP [.ref o] (wMain cI cP o h tx tn Ad K) (wMain cI cP o h tx tn Ad z.1) z.2 := by
  refine MWi.of (by decide +kernel) (Nat.le_of_ble_eq_true rfl) ?_
  intro p e s m args below meth c ls A F hX hP hD hA hS hl
  have F : Fx p s m args meth c RX6 cX6_undo 2 (some .int) := F
  have hx := F.1
  have hb := F.2.1
  have hown := F.2.2.2.1
  have hts := F.2.2.2.2.1
  have hl : lv_has ls 2 [(0, .ref o)] := hl
  unfold X6_undo at hf
  refine lv_aload_n hx hb dX6_undo_0 rfl (lv_at hl 0 rfl) ?_
  refine gX6_230 F hX hP 0 rfl (v := .int (K.1 1)) rfl dX6_undo_1 ?_
  refine lv_if_ne (tgt := 10) hx hb dX6_undo_4 (by decide) (fun c_1 => ?_) (fun c_1 => ?_)
  · replace hf := (if_neg c_1).symm.trans hf
    refine lv_aload_n hx hb dX6_undo_10 rfl (lv_at hl 0 rfl) ?_
    refine lv_aload_n hx hb dX6_undo_11 rfl (lv_at hl 0 rfl) ?_
    refine gX6_230 F hX hP 0 rfl (v := .int (K.1 1)) rfl dX6_undo_12 ?_
    refine lv_iconst (v := 1) hx hb dX6_undo_15 (by decide) ?_
    refine lv_isub hx hb dX6_undo_16 ?_
    obtain ⟨j_2, hj_3, hf⟩ := ob hf
    have hj_34 := pastIx_lt hj_3
    refine k_ra (runV F wdX6_243 (rm := rm_X6_pastState) (As := [.int ((K.1 1) - 1)]) (rest := []) ⟨rfl, rfl⟩ ⟨Nat.le_of_ble_eq_true rfl, Nat.le_of_ble_eq_true rfl⟩ hl.1 rfl rfl (Nat.le_of_ble_eq_true rfl) dX6_undo_17 ⟨Nat.zero_le _, Nat.zero_le _⟩) (c_X6_pastState l D cI cP o h tx tn Ad K ((K.1 1) - 1) _ hj_3) hX (va_recv hX.1 hP (ci := 6) (q0 := 0) rfl rfl) hP hP hS hA (fun H locs hP hS => ?_)
    refine lv_astore_n (lv' := [(1, .ref (Ad (2 + j_2) 0)), (0, .ref o)]) hx hb dX6_undo_20 rfl hl (by decide) rfl (fun ls hl => ?_)
    refine lv_aload_n hx hb dX6_undo_21 rfl (lv_at hl 0 rfl) ?_
    refine lv_ifnull hx hb dX6_undo_22 ?_
    refine lv_aload_n hx hb dX6_undo_25 rfl (lv_at hl 1 rfl) ?_
    refine gX6_10 F hX hP 0 rfl (v := .ref (Ad 0 0)) rfl dX6_undo_26 ?_
    refine lv_aload_n hx hb dX6_undo_29 rfl (lv_at hl 0 rfl) ?_
    refine k_wv (runVN F hX wdX6_37 (rm := rm_X1_copyFrom) (As := [.ref (Ad (2 + j_2) 0)]) (rest := []) ⟨rfl, rfl⟩ ⟨Nat.le_of_ble_eq_true rfl, Nat.le_of_ble_eq_true rfl⟩ hl.1 rfl rfl (Nat.le_of_ble_eq_true rfl) dX6_undo_30 ⟨Nat.zero_le _, Nat.zero_le _⟩) (k_pcopy l D cI cP (Ad 0) (Ad (2 + j_2)) K.2.2.2.1 (K.2.2.2.2.2 j_2)) hX (va_recv hX.1 (va_blk (Bs := (bMain cI cP o h tx tn Ad K)) hP 4 rfl) (ci := 1) (q0 := 0) rfl rfl) (Cut.two (Bs := (bMain cI cP o h tx tn Ad K)) (k := 4) (j := 6 + j_2) rfl (past_get hj_34) (by omega) rfl) hP hD hS hA (fun H locs hP hD hS => ?_)
    obtain ⟨M_4, e_5, hf⟩ := bnd_e hf
    have hP : va_P D vwCl (wMain cI cP o h tx tn Ad M_4) H := by rw [e_5]; exact hP
    have hD : va_D A (wMain cI cP o h tx tn Ad M_4) := by rw [e_5]; exact hD
    clear e_5
    refine lv_aload_n hx hb dX6_undo_33 rfl (lv_at hl 1 rfl) ?_
    refine lv_dup hx hb dX6_undo_34 rfl ?_
    refine gX6_230 F hX hP 0 rfl (v := .int (M_4.1 1)) rfl dX6_undo_35 ?_
    refine lv_iconst (v := 1) hx hb dX6_undo_38 (by decide) ?_
    refine lv_isub hx hb dX6_undo_39 ?_
    refine pX6_230 F hX hP hD hS 0 rfl (Nat.le_of_ble_eq_true rfl) dX6_undo_40 (fun H locs hP hD hS => ?_)
    obtain ⟨M_6, e_7, hf⟩ := bnd_e hf
    have hP : va_P D vwCl (wMain cI cP o h tx tn Ad M_6) H := by rw [e_7]; exact hP
    have hD : va_D A (wMain cI cP o h tx tn Ad M_6) := by rw [e_7]; exact hD
    clear e_7
    refine lv_aload_n hx hb dX6_undo_43 rfl (lv_at hl 1 rfl) ?_
    refine gX6_230 F hX hP 0 rfl (v := .int (M_6.1 1)) rfl dX6_undo_44 ?_
    obtain rfl := (Option.some.inj hf)
    exact wr_i F rfl hP hS dX6_undo_47
  · replace hf := (if_pos c_1).symm.trans hf
    refine lv_ldc (v := (-1000002)) hx hb hown (hts _ q_691) dX6_undo_7 ?_
    obtain rfl := (Option.some.inj hf)
    exact wr_i F rfl hP hS dX6_undo_9
def X6_type (K : SMain) (x1 : Int32) : SMain × Int32 := (if (X6_isIn x1 32 126) = 0 then (K, (-1000001)) else (bnd (K.1, (X4_append K.2.1 x1).1, K.2.2.1, K.2.2.2.1, K.2.2.2.2.1, K.2.2.2.2.2) fun M_2 => (if (X4_append K.2.1 x1).2 = 0 then (M_2, (-1000003)) else (M_2, (M_2.2.1.2.2 0)))))
abbrev rm_X6_type : Room := { frames := 2, cells := 0, slots := 0, locals := 43 }
set_option maxHeartbeats 4000000 in
set_option maxRecDepth 100000 in
theorem c_X6_type (l : Launch) (D : va_G) (cI cP : ClassId) (o h : Nat) (tx tn : Nat → Nat) (Ad : Nat → Nat → Nat) (K : SMain) (x1 : Int32) (z : SMain × Int32) (hf : X6_type K x1 = z) : MWi l yX6_type cX6_type 2 (some .int) rm_X6_type D cI cP [.ref o, .int x1] (wMain cI cP o h tx tn Ad K) (wMain cI cP o h tx tn Ad z.1) z.2 := by
  refine MWi.of (by decide +kernel) (Nat.le_of_ble_eq_true rfl) ?_
  intro p e s m args below meth c ls A F hX hP hD hA hS hl
  have F : Fx p s m args meth c RX6 cX6_type 2 (some .int) := F
  have hx := F.1
  have hb := F.2.1
  have hown := F.2.2.2.1
  have hts := F.2.2.2.2.1
  have hl : lv_has ls 2 [(0, .ref o), (1, .int x1)] := hl
  unfold X6_type at hf
  refine lv_iload_n hx hb dX6_type_0 rfl (lv_at hl 1 rfl) ?_
  refine lv_bipush (v := 32) hx hb dX6_type_1 (by decide) ?_
  refine lv_bipush (v := 126) hx hb dX6_type_3 (by decide) ?_
  refine k_rd (runS F wdX6_148 (rm := rm_X6_isIn) (As := [.int x1, .int 32, .int 126]) (rest := []) ⟨rfl, rfl⟩ ⟨Nat.le_of_ble_eq_true rfl, Nat.le_of_ble_eq_true rfl⟩ hl.1 rfl rfl (Nat.le_of_ble_eq_true rfl) dX6_type_5 ⟨Nat.zero_le _, Nat.zero_le _⟩) (c_X6_isIn l D cI cP x1 32 126 _ rfl) hX trivial vP_nil hP hS hA (fun H locs hP hS => ?_)
  refine lv_if_ne (tgt := 14) hx hb dX6_type_8 (by decide) (fun c_1 => ?_) (fun c_1 => ?_)
  · replace hf := (if_neg c_1).symm.trans hf
    refine lv_aload_n hx hb dX6_type_14 rfl (lv_at hl 0 rfl) ?_
    refine gX6_33 F hX hP 0 rfl (v := .ref (tx 0)) rfl dX6_type_15 ?_
    refine lv_iload_n hx hb dX6_type_18 rfl (lv_at hl 1 rfl) ?_
    refine k_wi (runVN F hX wdX6_247 (rm := rm_X4_append) (As := [.int x1]) (rest := []) ⟨rfl, rfl⟩ ⟨Nat.le_of_ble_eq_true rfl, Nat.le_of_ble_eq_true rfl⟩ hl.1 rfl rfl (Nat.le_of_ble_eq_true rfl) dX6_type_19 ⟨Nat.zero_le _, Nat.zero_le _⟩) (c_X4_append l D cI cP tx K.2.1 x1 _ rfl) hX (va_recv hX.1 (va_blk (Bs := (bMain cI cP o h tx tn Ad K)) hP 2 rfl) (ci := 4) (q0 := 0) rfl rfl) (Cut.one (Bs := (bMain cI cP o h tx tn Ad K)) (k := 2) rfl rfl) hP hD hS hA (fun H locs hP hD hS => ?_)
    obtain ⟨M_2, e_3, hf⟩ := bnd_e hf
    have hP : va_P D vwCl (wMain cI cP o h tx tn Ad M_2) H := by rw [e_3]; exact hP
    have hD : va_D A (wMain cI cP o h tx tn Ad M_2) := by rw [e_3]; exact hD
    clear e_3
    refine lv_if_eq (tgt := 35) hx hb dX6_type_22 (by decide) (fun c_4 => ?_) (fun c_4 => ?_)
    · replace hf := (if_pos c_4).symm.trans hf
      refine lv_ldc (v := (-1000003)) hx hb hown (hts _ q_701) dX6_type_35 ?_
      obtain rfl := hf
      exact wr_i F rfl hP hS dX6_type_37
    · replace hf := (if_neg c_4).symm.trans hf
      refine lv_aload_n hx hb dX6_type_25 rfl (lv_at hl 0 rfl) ?_
      refine gX6_33 F hX hP 0 rfl (v := .ref (tx 0)) rfl dX6_type_26 ?_
      refine gX6_233 F hX (va_blk (Bs := (bMain cI cP o h tx tn Ad M_2)) hP 2 rfl) 0 rfl (v := .int (M_2.2.1.2.2 0)) rfl dX6_type_29 ?_
      refine lv_goto (tgt := 37) hx hb dX6_type_32 (by decide) ?_
      obtain rfl := hf
      exact wr_i F rfl hP hS dX6_type_37
  · replace hf := (if_pos c_1).symm.trans hf
    refine lv_ldc (v := (-1000001)) hx hb hown (hts _ q_533) dX6_type_11 ?_
    obtain rfl := hf
    exact wr_i F rfl hP hS dX6_type_13
def X6_clearText (K : SMain) : SMain × Int32 := (bnd (K.1, (K.2.1.1, K.2.1.2.1, (up K.2.1.2.2 0 0)), K.2.2.1, K.2.2.2.1, K.2.2.2.2.1, K.2.2.2.2.2) fun M_1 => (M_1, (K.2.1.2.2 0)))
abbrev rm_X6_clearText : Room := { frames := 0, cells := 0, slots := 0, locals := 0 }
set_option maxHeartbeats 4000000 in
set_option maxRecDepth 100000 in
theorem c_X6_clearText (l : Launch) (D : va_G) (cI cP : ClassId) (o h : Nat) (tx tn : Nat → Nat) (Ad : Nat → Nat → Nat) (K : SMain) (z : SMain × Int32) (hf : X6_clearText K  = z) : MWi l yX6_clearText cX6_clearText 2 (some .int) rm_X6_clearText D cI cP [.ref o] (wMain cI cP o h tx tn Ad K) (wMain cI cP o h tx tn Ad z.1) z.2 := by
  refine MWi.of (by decide +kernel) (Nat.le_of_ble_eq_true rfl) ?_
  intro p e s m args below meth c ls A F hX hP hD hA hS hl
  have F : Fx p s m args meth c RX6 cX6_clearText 2 (some .int) := F
  have hx := F.1
  have hb := F.2.1
  have hown := F.2.2.2.1
  have hts := F.2.2.2.2.1
  have hl : lv_has ls 2 [(0, .ref o)] := hl
  unfold X6_clearText at hf
  refine lv_aload_n hx hb dX6_clearText_0 rfl (lv_at hl 0 rfl) ?_
  refine gX6_33 F hX hP 0 rfl (v := .ref (tx 0)) rfl dX6_clearText_1 ?_
  refine gX6_233 F hX (va_blk (Bs := (bMain cI cP o h tx tn Ad K)) hP 2 rfl) 0 rfl (v := .int (K.2.1.2.2 0)) rfl dX6_clearText_4 ?_
  refine lv_istore_n (lv' := [(1, .int (K.2.1.2.2 0)), (0, .ref o)]) hx hb dX6_clearText_7 rfl hl (by decide) rfl (fun ls hl => ?_)
  refine lv_aload_n hx hb dX6_clearText_8 rfl (lv_at hl 1 rfl) ?_
  refine gX6_33 F hX hP 0 rfl (v := .ref (tx 0)) rfl dX6_clearText_9 ?_
  refine lv_iconst (v := 0) hx hb dX6_clearText_12 (by decide) ?_
  refine pX6_233 F hX hP hD hS 2 rfl (Nat.le_of_ble_eq_true rfl) dX6_clearText_13 (fun H locs hP hD hS => ?_)
  obtain ⟨M_1, e_2, hf⟩ := bnd_e hf
  have hP : va_P D vwCl (wMain cI cP o h tx tn Ad M_1) H := by rw [e_2]; exact hP
  have hD : va_D A (wMain cI cP o h tx tn Ad M_1) := by rw [e_2]; exact hD
  clear e_2
  refine lv_iload_n hx hb dX6_clearText_16 rfl (lv_at hl 0 rfl) ?_
  obtain rfl := hf
  exact wr_i F rfl hP hS dX6_clearText_17
def X6_foundFault (K : SMain) (x1 : Int32) (x2 : Int32) (x3 : Int32) : SMain × Int32 := (bnd ((up K.1 3 x1), K.2.1, K.2.2.1, K.2.2.2.1, K.2.2.2.2.1, K.2.2.2.2.2) fun M_1 => (bnd ((up M_1.1 4 x2), M_1.2.1, M_1.2.2.1, M_1.2.2.2.1, M_1.2.2.2.2.1, M_1.2.2.2.2.2) fun M_3 => (bnd ((up M_3.1 5 x3), M_3.2.1, M_3.2.2.1, M_3.2.2.2.1, M_3.2.2.2.2.1, M_3.2.2.2.2.2) fun M_5 => (M_5, 0))))
abbrev rm_X6_foundFault : Room := { frames := 0, cells := 0, slots := 0, locals := 0 }
set_option maxHeartbeats 4000000 in
set_option maxRecDepth 100000 in
theorem c_X6_foundFault (l : Launch) (D : va_G) (cI cP : ClassId) (o h : Nat) (tx tn : Nat → Nat) (Ad : Nat → Nat → Nat) (K : SMain) (x1 : Int32) (x2 : Int32) (x3 : Int32) (z : SMain × Int32) (hf : X6_foundFault K x1 x2 x3 = z) : MWi l yX6_foundFault cX6_foundFault 4 (some .boolean) rm_X6_foundFault D cI cP [.ref o, .int x1, .int x2, .int x3] (wMain cI cP o h tx tn Ad K) (wMain cI cP o h tx tn Ad z.1) z.2 := by
  refine MWi.of (by decide +kernel) (Nat.le_of_ble_eq_true rfl) ?_
  intro p e s m args below meth c ls A F hX hP hD hA hS hl
  have F : Fx p s m args meth c RX6 cX6_foundFault 4 (some .boolean) := F
  have hx := F.1
  have hb := F.2.1
  have hown := F.2.2.2.1
  have hts := F.2.2.2.2.1
  have hl : lv_has ls 4 [(0, .ref o), (1, .int x1), (2, .int x2), (3, .int x3)] := hl
  unfold X6_foundFault at hf
  refine lv_aload_n hx hb dX6_foundFault_0 rfl (lv_at hl 0 rfl) ?_
  refine lv_iload_n hx hb dX6_foundFault_1 rfl (lv_at hl 1 rfl) ?_
  refine pX6_255 F hX hP hD hS 0 rfl (Nat.le_of_ble_eq_true rfl) dX6_foundFault_2 (fun H locs hP hD hS => ?_)
  obtain ⟨M_1, e_2, hf⟩ := bnd_e hf
  have hP : va_P D vwCl (wMain cI cP o h tx tn Ad M_1) H := by rw [e_2]; exact hP
  have hD : va_D A (wMain cI cP o h tx tn Ad M_1) := by rw [e_2]; exact hD
  clear e_2
  refine lv_aload_n hx hb dX6_foundFault_5 rfl (lv_at hl 0 rfl) ?_
  refine lv_iload_n hx hb dX6_foundFault_6 rfl (lv_at hl 2 rfl) ?_
  refine pX6_258 F hX hP hD hS 0 rfl (Nat.le_of_ble_eq_true rfl) dX6_foundFault_7 (fun H locs hP hD hS => ?_)
  obtain ⟨M_3, e_4, hf⟩ := bnd_e hf
  have hP : va_P D vwCl (wMain cI cP o h tx tn Ad M_3) H := by rw [e_4]; exact hP
  have hD : va_D A (wMain cI cP o h tx tn Ad M_3) := by rw [e_4]; exact hD
  clear e_4
  refine lv_aload_n hx hb dX6_foundFault_10 rfl (lv_at hl 0 rfl) ?_
  refine lv_iload_n hx hb dX6_foundFault_11 rfl (lv_at hl 3 rfl) ?_
  refine pX6_261 F hX hP hD hS 0 rfl (Nat.le_of_ble_eq_true rfl) dX6_foundFault_12 (fun H locs hP hD hS => ?_)
  obtain ⟨M_5, e_6, hf⟩ := bnd_e hf
  have hP : va_P D vwCl (wMain cI cP o h tx tn Ad M_5) H := by rw [e_6]; exact hP
  have hD : va_D A (wMain cI cP o h tx tn Ad M_5) := by rw [e_6]; exact hD
  clear e_6
  refine lv_iconst (v := 0) hx hb dX6_foundFault_15 (by decide) ?_
  obtain rfl := hf
  exact wr_z F (by decide) rfl hP hS dX6_foundFault_16
def X6_obey (K : SMain) : Option (SMain × Int32) := (if (K.2.1.2.2 1) = 97 then ((X1_addString K.2.2.2.2.1 (rget 3 K.2.1.2.1 0) (rget 3 K.2.1.2.1 1) 0 (rget 3 K.2.1.2.1 2)).bind fun u_2 => (bnd (K.1, K.2.1, K.2.2.1, K.2.2.2.1, u_2.1, K.2.2.2.2.2) fun M_4 => some (M_4, u_2.2))) else (if (K.2.1.2.2 1) = 99 then ((X1_cutString K.2.2.2.2.1 (rget 3 K.2.1.2.1 0)).bind fun u_7 => (bnd (K.1, K.2.1, K.2.2.1, K.2.2.2.1, u_7.1, K.2.2.2.2.2) fun M_9 => some (M_9, u_7.2))) else (if (K.2.1.2.2 1) = 107 then ((X1_cutStringsOf K.2.2.2.2.1 (rget 3 K.2.1.2.1 0)).bind fun u_12 => (bnd (K.1, K.2.1, K.2.2.1, K.2.2.2.1, u_12.1, K.2.2.2.2.2) fun M_14 => some (M_14, u_12.2))) else (if (K.2.1.2.2 1) = 110 then ((X1_pullTo K.2.2.2.2.1 (rget 3 K.2.1.2.1 0) 0).bind fun u_17 => (bnd (K.1, K.2.1, K.2.2.1, K.2.2.2.1, u_17.1, K.2.2.2.2.2) fun M_19 => some (M_19, u_17.2))) else (if (K.2.1.2.2 1) = 112 then ((X1_addPuppet K.2.2.2.2.1 (rget 3 K.2.1.2.1 0) (rget 3 K.2.1.2.1 1)).bind fun u_22 => (bnd (K.1, K.2.1, K.2.2.1, K.2.2.2.1, u_22.1, K.2.2.2.2.2) fun M_24 => some (M_24, u_22.2))) else (if (K.2.1.2.2 1) = 117 then ((X1_addString K.2.2.2.2.1 (rget 3 K.2.1.2.1 0) (rget 3 K.2.1.2.1 1) 1 (rget 3 K.2.1.2.1 2)).bind fun u_27 => (bnd (K.1, K.2.1, K.2.2.1, K.2.2.2.1, u_27.1, K.2.2.2.2.2) fun M_29 => some (M_29, u_27.2))) else (if (K.2.1.2.2 1) = 118 then ((X1_holdSession K.2.2.2.2.1).bind fun u_32 => (bnd (K.1, K.2.1, K.2.2.1, K.2.2.2.1, u_32.1, K.2.2.2.2.2) fun M_34 => some (M_34, u_32.2))) else (if (K.2.1.2.2 1) = 121 then ((X1_pullTo K.2.2.2.2.1 (rget 3 K.2.1.2.1 0) 1).bind fun u_37 => (bnd (K.1, K.2.1, K.2.2.1, K.2.2.2.1, u_37.1, K.2.2.2.2.2) fun M_39 => some (M_39, u_37.2))) else some (K, (-1000002))))))))))
abbrev rm_X6_obey : Room := { frames := 4, cells := 0, slots := 0, locals := 97 }
set_option maxHeartbeats 4000000 in
set_option maxRecDepth 100000 in
theorem c_X6_obey (l : Launch) (D : va_G) (cI cP : ClassId) (o h : Nat) (tx tn : Nat → Nat) (Ad : Nat → Nat → Nat) (K : SMain) (z : SMain × Int32) (hf : X6_obey K  = some z) : MWi l yX6_obey cX6_obey 4 (some .int) rm_X6_obey D cI cP [.ref o] (wMain cI cP o h tx tn Ad K) (wMain cI cP o h tx tn Ad z.1) z.2 := by
  refine MWi.of (by decide +kernel) (Nat.le_of_ble_eq_true rfl) ?_
  intro p e s m args below meth c ls A F hX hP hD hA hS hl
  have F : Fx p s m args meth c RX6 cX6_obey 4 (some .int) := F
  have hx := F.1
  have hb := F.2.1
  have hown := F.2.2.2.1
  have hts := F.2.2.2.2.1
  have hl : lv_has ls 4 [(0, .ref o)] := hl
  unfold X6_obey at hf
  refine lv_aload_n hx hb dX6_obey_0 rfl (lv_at hl 0 rfl) ?_
  refine gX6_33 F hX hP 0 rfl (v := .ref (tx 0)) rfl dX6_obey_1 ?_
  refine gX6_282 F hX (va_blk (Bs := (bMain cI cP o h tx tn Ad K)) hP 2 rfl) 0 rfl (v := .ref (tx 3)) rfl dX6_obey_4 ?_
  refine lv_iconst (v := 0) hx hb dX6_obey_7 (by decide) ?_
  refine k_rd (runVN F hX wdX6_81 (rm := rm_X2_get) (As := [.int 0]) (rest := []) ⟨rfl, rfl⟩ ⟨Nat.le_of_ble_eq_true rfl, Nat.le_of_ble_eq_true rfl⟩ hl.1 rfl rfl (Nat.le_of_ble_eq_true rfl) dX6_obey_8 ⟨Nat.zero_le _, Nat.zero_le _⟩) (k_rget l D cI cP (tx 3) (tx 4) 3 (by decide) K.2.1.2.1 0) hX (va_recv hX.1 (va_blk (Bs := (bTxt cI tx K.2.1)) (va_blk (Bs := (bMain cI cP o h tx tn Ad K)) hP 2 rfl) 2 rfl) (ci := 2) (q0 := 0) rfl rfl) (va_blk (Bs := (bTxt cI tx K.2.1)) (va_blk (Bs := (bMain cI cP o h tx tn Ad K)) hP 2 rfl) 2 rfl) hP hS hA (fun H locs hP hS => ?_)
  refine lv_istore_n (lv' := [(1, .int (rget 3 K.2.1.2.1 0)), (0, .ref o)]) hx hb dX6_obey_11 rfl hl (by decide) rfl (fun ls hl => ?_)
  refine lv_aload_n hx hb dX6_obey_12 rfl (lv_at hl 1 rfl) ?_
  refine gX6_33 F hX hP 0 rfl (v := .ref (tx 0)) rfl dX6_obey_13 ?_
  refine gX6_282 F hX (va_blk (Bs := (bMain cI cP o h tx tn Ad K)) hP 2 rfl) 0 rfl (v := .ref (tx 3)) rfl dX6_obey_16 ?_
  refine lv_iconst (v := 1) hx hb dX6_obey_19 (by decide) ?_
  refine k_rd (runVN F hX wdX6_81 (rm := rm_X2_get) (As := [.int 1]) (rest := []) ⟨rfl, rfl⟩ ⟨Nat.le_of_ble_eq_true rfl, Nat.le_of_ble_eq_true rfl⟩ hl.1 rfl rfl (Nat.le_of_ble_eq_true rfl) dX6_obey_20 ⟨Nat.zero_le _, Nat.zero_le _⟩) (k_rget l D cI cP (tx 3) (tx 4) 3 (by decide) K.2.1.2.1 1) hX (va_recv hX.1 (va_blk (Bs := (bTxt cI tx K.2.1)) (va_blk (Bs := (bMain cI cP o h tx tn Ad K)) hP 2 rfl) 2 rfl) (ci := 2) (q0 := 0) rfl rfl) (va_blk (Bs := (bTxt cI tx K.2.1)) (va_blk (Bs := (bMain cI cP o h tx tn Ad K)) hP 2 rfl) 2 rfl) hP hS hA (fun H locs hP hS => ?_)
  refine lv_istore_n (lv' := [(2, .int (rget 3 K.2.1.2.1 1)), (1, .int (rget 3 K.2.1.2.1 0)), (0, .ref o)]) hx hb dX6_obey_23 rfl hl (by decide) rfl (fun ls hl => ?_)
  refine lv_aload_n hx hb dX6_obey_24 rfl (lv_at hl 2 rfl) ?_
  refine gX6_33 F hX hP 0 rfl (v := .ref (tx 0)) rfl dX6_obey_25 ?_
  refine gX6_282 F hX (va_blk (Bs := (bMain cI cP o h tx tn Ad K)) hP 2 rfl) 0 rfl (v := .ref (tx 3)) rfl dX6_obey_28 ?_
  refine lv_iconst (v := 2) hx hb dX6_obey_31 (by decide) ?_
  refine k_rd (runVN F hX wdX6_81 (rm := rm_X2_get) (As := [.int 2]) (rest := []) ⟨rfl, rfl⟩ ⟨Nat.le_of_ble_eq_true rfl, Nat.le_of_ble_eq_true rfl⟩ hl.1 rfl rfl (Nat.le_of_ble_eq_true rfl) dX6_obey_32 ⟨Nat.zero_le _, Nat.zero_le _⟩) (k_rget l D cI cP (tx 3) (tx 4) 3 (by decide) K.2.1.2.1 2) hX (va_recv hX.1 (va_blk (Bs := (bTxt cI tx K.2.1)) (va_blk (Bs := (bMain cI cP o h tx tn Ad K)) hP 2 rfl) 2 rfl) (ci := 2) (q0 := 0) rfl rfl) (va_blk (Bs := (bTxt cI tx K.2.1)) (va_blk (Bs := (bMain cI cP o h tx tn Ad K)) hP 2 rfl) 2 rfl) hP hS hA (fun H locs hP hS => ?_)
  refine lv_istore_n (lv' := [(3, .int (rget 3 K.2.1.2.1 2)), (2, .int (rget 3 K.2.1.2.1 1)), (1, .int (rget 3 K.2.1.2.1 0)), (0, .ref o)]) hx hb dX6_obey_35 rfl hl (by decide) rfl (fun ls hl => ?_)
  refine lv_aload_n hx hb dX6_obey_36 rfl (lv_at hl 3 rfl) ?_
  refine gX6_33 F hX hP 0 rfl (v := .ref (tx 0)) rfl dX6_obey_37 ?_
  refine gX6_285 F hX (va_blk (Bs := (bMain cI cP o h tx tn Ad K)) hP 2 rfl) 0 rfl (v := .int (K.2.1.2.2 1)) rfl dX6_obey_40 ?_
  rcases Decidable.em ((K.2.1.2.2 1) = 97) with c_1 | c_1
  · replace hf := (if_pos c_1).symm.trans hf
    refine lv_tableIn (off := 123) (tgt := 166) hx hb dX6_obey_43 (by rw [c_1]; decide) (by rw [c_1]; decide) (by rw [c_1]; rfl) (by decide) ?_
    refine lv_aload_n hx hb dX6_obey_166 rfl (lv_at hl 3 rfl) ?_
    refine gX6_16 F hX hP 0 rfl (v := .ref (Ad 1 0)) rfl dX6_obey_167 ?_
    refine lv_iload_n hx hb dX6_obey_170 rfl (lv_at hl 2 rfl) ?_
    refine lv_iload_n hx hb dX6_obey_171 rfl (lv_at hl 1 rfl) ?_
    refine lv_iconst (v := 0) hx hb dX6_obey_172 (by decide) ?_
    refine lv_iload_n hx hb dX6_obey_173 rfl (lv_at hl 0 rfl) ?_
    obtain ⟨u_2, h_3, hf⟩ := ob hf
    refine k_wi (runVN F hX wdX6_49 (rm := rm_X1_addString) (As := [.int (rget 3 K.2.1.2.1 0), .int (rget 3 K.2.1.2.1 1), .int 0, .int (rget 3 K.2.1.2.1 2)]) (rest := []) ⟨rfl, rfl⟩ ⟨Nat.le_of_ble_eq_true rfl, Nat.le_of_ble_eq_true rfl⟩ hl.1 rfl rfl (Nat.le_of_ble_eq_true rfl) dX6_obey_174 ⟨Nat.zero_le _, Nat.zero_le _⟩) (c_X1_addString l D cI cP (Ad 1) K.2.2.2.2.1 (rget 3 K.2.1.2.1 0) (rget 3 K.2.1.2.1 1) 0 (rget 3 K.2.1.2.1 2) _ h_3) hX (va_recv hX.1 (va_blk (Bs := (bMain cI cP o h tx tn Ad K)) hP 5 rfl) (ci := 1) (q0 := 0) rfl rfl) (Cut.one (Bs := (bMain cI cP o h tx tn Ad K)) (k := 5) rfl rfl) hP hD hS hA (fun H locs hP hD hS => ?_)
    obtain ⟨M_4, e_5, hf⟩ := bnd_e hf
    have hP : va_P D vwCl (wMain cI cP o h tx tn Ad M_4) H := by rw [e_5]; exact hP
    have hD : va_D A (wMain cI cP o h tx tn Ad M_4) := by rw [e_5]; exact hD
    clear e_5
    obtain rfl := (Option.some.inj hf)
    exact wr_i F rfl hP hS dX6_obey_177
  replace hf := (if_neg c_1).symm.trans hf
  rcases Decidable.em ((K.2.1.2.2 1) = 99) with c_6 | c_6
  · replace hf := (if_pos c_6).symm.trans hf
    refine lv_tableIn (off := 147) (tgt := 190) hx hb dX6_obey_43 (by rw [c_6]; decide) (by rw [c_6]; decide) (by rw [c_6]; rfl) (by decide) ?_
    refine lv_aload_n hx hb dX6_obey_190 rfl (lv_at hl 3 rfl) ?_
    refine gX6_16 F hX hP 0 rfl (v := .ref (Ad 1 0)) rfl dX6_obey_191 ?_
    refine lv_iload_n hx hb dX6_obey_194 rfl (lv_at hl 2 rfl) ?_
    obtain ⟨u_7, h_8, hf⟩ := ob hf
    refine k_wi (runVN F hX wdX6_53 (rm := rm_X1_cutString) (As := [.int (rget 3 K.2.1.2.1 0)]) (rest := []) ⟨rfl, rfl⟩ ⟨Nat.le_of_ble_eq_true rfl, Nat.le_of_ble_eq_true rfl⟩ hl.1 rfl rfl (Nat.le_of_ble_eq_true rfl) dX6_obey_195 ⟨Nat.zero_le _, Nat.zero_le _⟩) (c_X1_cutString l D cI cP (Ad 1) K.2.2.2.2.1 (rget 3 K.2.1.2.1 0) _ h_8) hX (va_recv hX.1 (va_blk (Bs := (bMain cI cP o h tx tn Ad K)) hP 5 rfl) (ci := 1) (q0 := 0) rfl rfl) (Cut.one (Bs := (bMain cI cP o h tx tn Ad K)) (k := 5) rfl rfl) hP hD hS hA (fun H locs hP hD hS => ?_)
    obtain ⟨M_9, e_10, hf⟩ := bnd_e hf
    have hP : va_P D vwCl (wMain cI cP o h tx tn Ad M_9) H := by rw [e_10]; exact hP
    have hD : va_D A (wMain cI cP o h tx tn Ad M_9) := by rw [e_10]; exact hD
    clear e_10
    obtain rfl := (Option.some.inj hf)
    exact wr_i F rfl hP hS dX6_obey_198
  replace hf := (if_neg c_6).symm.trans hf
  rcases Decidable.em ((K.2.1.2.2 1) = 107) with c_11 | c_11
  · replace hf := (if_pos c_11).symm.trans hf
    refine lv_tableIn (off := 156) (tgt := 199) hx hb dX6_obey_43 (by rw [c_11]; decide) (by rw [c_11]; decide) (by rw [c_11]; rfl) (by decide) ?_
    refine lv_aload_n hx hb dX6_obey_199 rfl (lv_at hl 3 rfl) ?_
    refine gX6_16 F hX hP 0 rfl (v := .ref (Ad 1 0)) rfl dX6_obey_200 ?_
    refine lv_iload_n hx hb dX6_obey_203 rfl (lv_at hl 2 rfl) ?_
    obtain ⟨u_12, h_13, hf⟩ := ob hf
    refine k_wi (runVN F hX wdX6_56 (rm := rm_X1_cutStringsOf) (As := [.int (rget 3 K.2.1.2.1 0)]) (rest := []) ⟨rfl, rfl⟩ ⟨Nat.le_of_ble_eq_true rfl, Nat.le_of_ble_eq_true rfl⟩ hl.1 rfl rfl (Nat.le_of_ble_eq_true rfl) dX6_obey_204 ⟨Nat.zero_le _, Nat.zero_le _⟩) (c_X1_cutStringsOf l D cI cP (Ad 1) K.2.2.2.2.1 (rget 3 K.2.1.2.1 0) _ h_13) hX (va_recv hX.1 (va_blk (Bs := (bMain cI cP o h tx tn Ad K)) hP 5 rfl) (ci := 1) (q0 := 0) rfl rfl) (Cut.one (Bs := (bMain cI cP o h tx tn Ad K)) (k := 5) rfl rfl) hP hD hS hA (fun H locs hP hD hS => ?_)
    obtain ⟨M_14, e_15, hf⟩ := bnd_e hf
    have hP : va_P D vwCl (wMain cI cP o h tx tn Ad M_14) H := by rw [e_15]; exact hP
    have hD : va_D A (wMain cI cP o h tx tn Ad M_14) := by rw [e_15]; exact hD
    clear e_15
    obtain rfl := (Option.some.inj hf)
    exact wr_i F rfl hP hS dX6_obey_207
  replace hf := (if_neg c_11).symm.trans hf
  rcases Decidable.em ((K.2.1.2.2 1) = 110) with c_16 | c_16
  · replace hf := (if_pos c_16).symm.trans hf
    refine lv_tableIn (off := 175) (tgt := 218) hx hb dX6_obey_43 (by rw [c_16]; decide) (by rw [c_16]; decide) (by rw [c_16]; rfl) (by decide) ?_
    refine lv_aload_n hx hb dX6_obey_218 rfl (lv_at hl 3 rfl) ?_
    refine gX6_16 F hX hP 0 rfl (v := .ref (Ad 1 0)) rfl dX6_obey_219 ?_
    refine lv_iload_n hx hb dX6_obey_222 rfl (lv_at hl 2 rfl) ?_
    refine lv_iconst (v := 0) hx hb dX6_obey_223 (by decide) ?_
    obtain ⟨u_17, h_18, hf⟩ := ob hf
    refine k_wi (runVN F hX wdX6_59 (rm := rm_X1_pullTo) (As := [.int (rget 3 K.2.1.2.1 0), .int 0]) (rest := []) ⟨rfl, rfl⟩ ⟨Nat.le_of_ble_eq_true rfl, Nat.le_of_ble_eq_true rfl⟩ hl.1 rfl rfl (Nat.le_of_ble_eq_true rfl) dX6_obey_224 ⟨Nat.zero_le _, Nat.zero_le _⟩) (c_X1_pullTo l D cI cP (Ad 1) K.2.2.2.2.1 (rget 3 K.2.1.2.1 0) 0 _ h_18) hX (va_recv hX.1 (va_blk (Bs := (bMain cI cP o h tx tn Ad K)) hP 5 rfl) (ci := 1) (q0 := 0) rfl rfl) (Cut.one (Bs := (bMain cI cP o h tx tn Ad K)) (k := 5) rfl rfl) hP hD hS hA (fun H locs hP hD hS => ?_)
    obtain ⟨M_19, e_20, hf⟩ := bnd_e hf
    have hP : va_P D vwCl (wMain cI cP o h tx tn Ad M_19) H := by rw [e_20]; exact hP
    have hD : va_D A (wMain cI cP o h tx tn Ad M_19) := by rw [e_20]; exact hD
    clear e_20
    obtain rfl := (Option.some.inj hf)
    exact wr_i F rfl hP hS dX6_obey_227
  replace hf := (if_neg c_16).symm.trans hf
  rcases Decidable.em ((K.2.1.2.2 1) = 112) with c_21 | c_21
  · replace hf := (if_pos c_21).symm.trans hf
    refine lv_tableIn (off := 113) (tgt := 156) hx hb dX6_obey_43 (by rw [c_21]; decide) (by rw [c_21]; decide) (by rw [c_21]; rfl) (by decide) ?_
    refine lv_aload_n hx hb dX6_obey_156 rfl (lv_at hl 3 rfl) ?_
    refine gX6_16 F hX hP 0 rfl (v := .ref (Ad 1 0)) rfl dX6_obey_157 ?_
    refine lv_iload_n hx hb dX6_obey_160 rfl (lv_at hl 2 rfl) ?_
    refine lv_iload_n hx hb dX6_obey_161 rfl (lv_at hl 1 rfl) ?_
    obtain ⟨u_22, h_23, hf⟩ := ob hf
    refine k_wi (runVN F hX wdX6_41 (rm := rm_X1_addPuppet) (As := [.int (rget 3 K.2.1.2.1 0), .int (rget 3 K.2.1.2.1 1)]) (rest := []) ⟨rfl, rfl⟩ ⟨Nat.le_of_ble_eq_true rfl, Nat.le_of_ble_eq_true rfl⟩ hl.1 rfl rfl (Nat.le_of_ble_eq_true rfl) dX6_obey_162 ⟨Nat.zero_le _, Nat.zero_le _⟩) (c_X1_addPuppet l D cI cP (Ad 1) K.2.2.2.2.1 (rget 3 K.2.1.2.1 0) (rget 3 K.2.1.2.1 1) _ h_23) hX (va_recv hX.1 (va_blk (Bs := (bMain cI cP o h tx tn Ad K)) hP 5 rfl) (ci := 1) (q0 := 0) rfl rfl) (Cut.one (Bs := (bMain cI cP o h tx tn Ad K)) (k := 5) rfl rfl) hP hD hS hA (fun H locs hP hD hS => ?_)
    obtain ⟨M_24, e_25, hf⟩ := bnd_e hf
    have hP : va_P D vwCl (wMain cI cP o h tx tn Ad M_24) H := by rw [e_25]; exact hP
    have hD : va_D A (wMain cI cP o h tx tn Ad M_24) := by rw [e_25]; exact hD
    clear e_25
    obtain rfl := (Option.some.inj hf)
    exact wr_i F rfl hP hS dX6_obey_165
  replace hf := (if_neg c_21).symm.trans hf
  rcases Decidable.em ((K.2.1.2.2 1) = 117) with c_26 | c_26
  · replace hf := (if_pos c_26).symm.trans hf
    refine lv_tableIn (off := 135) (tgt := 178) hx hb dX6_obey_43 (by rw [c_26]; decide) (by rw [c_26]; decide) (by rw [c_26]; rfl) (by decide) ?_
    refine lv_aload_n hx hb dX6_obey_178 rfl (lv_at hl 3 rfl) ?_
    refine gX6_16 F hX hP 0 rfl (v := .ref (Ad 1 0)) rfl dX6_obey_179 ?_
    refine lv_iload_n hx hb dX6_obey_182 rfl (lv_at hl 2 rfl) ?_
    refine lv_iload_n hx hb dX6_obey_183 rfl (lv_at hl 1 rfl) ?_
    refine lv_iconst (v := 1) hx hb dX6_obey_184 (by decide) ?_
    refine lv_iload_n hx hb dX6_obey_185 rfl (lv_at hl 0 rfl) ?_
    obtain ⟨u_27, h_28, hf⟩ := ob hf
    refine k_wi (runVN F hX wdX6_49 (rm := rm_X1_addString) (As := [.int (rget 3 K.2.1.2.1 0), .int (rget 3 K.2.1.2.1 1), .int 1, .int (rget 3 K.2.1.2.1 2)]) (rest := []) ⟨rfl, rfl⟩ ⟨Nat.le_of_ble_eq_true rfl, Nat.le_of_ble_eq_true rfl⟩ hl.1 rfl rfl (Nat.le_of_ble_eq_true rfl) dX6_obey_186 ⟨Nat.zero_le _, Nat.zero_le _⟩) (c_X1_addString l D cI cP (Ad 1) K.2.2.2.2.1 (rget 3 K.2.1.2.1 0) (rget 3 K.2.1.2.1 1) 1 (rget 3 K.2.1.2.1 2) _ h_28) hX (va_recv hX.1 (va_blk (Bs := (bMain cI cP o h tx tn Ad K)) hP 5 rfl) (ci := 1) (q0 := 0) rfl rfl) (Cut.one (Bs := (bMain cI cP o h tx tn Ad K)) (k := 5) rfl rfl) hP hD hS hA (fun H locs hP hD hS => ?_)
    obtain ⟨M_29, e_30, hf⟩ := bnd_e hf
    have hP : va_P D vwCl (wMain cI cP o h tx tn Ad M_29) H := by rw [e_30]; exact hP
    have hD : va_D A (wMain cI cP o h tx tn Ad M_29) := by rw [e_30]; exact hD
    clear e_30
    obtain rfl := (Option.some.inj hf)
    exact wr_i F rfl hP hS dX6_obey_189
  replace hf := (if_neg c_26).symm.trans hf
  rcases Decidable.em ((K.2.1.2.2 1) = 118) with c_31 | c_31
  · replace hf := (if_pos c_31).symm.trans hf
    refine lv_tableIn (off := 185) (tgt := 228) hx hb dX6_obey_43 (by rw [c_31]; decide) (by rw [c_31]; decide) (by rw [c_31]; rfl) (by decide) ?_
    refine lv_aload_n hx hb dX6_obey_228 rfl (lv_at hl 3 rfl) ?_
    refine gX6_16 F hX hP 0 rfl (v := .ref (Ad 1 0)) rfl dX6_obey_229 ?_
    obtain ⟨u_32, h_33, hf⟩ := ob hf
    refine k_wi (runVN F hX wdX6_65 (rm := rm_X1_holdSession) (As := []) (rest := []) ⟨rfl, rfl⟩ ⟨Nat.le_of_ble_eq_true rfl, Nat.le_of_ble_eq_true rfl⟩ hl.1 rfl rfl (Nat.le_of_ble_eq_true rfl) dX6_obey_232 ⟨Nat.zero_le _, Nat.zero_le _⟩) (c_X1_holdSession l D cI cP (Ad 1) K.2.2.2.2.1  _ h_33) hX (va_recv hX.1 (va_blk (Bs := (bMain cI cP o h tx tn Ad K)) hP 5 rfl) (ci := 1) (q0 := 0) rfl rfl) (Cut.one (Bs := (bMain cI cP o h tx tn Ad K)) (k := 5) rfl rfl) hP hD hS hA (fun H locs hP hD hS => ?_)
    obtain ⟨M_34, e_35, hf⟩ := bnd_e hf
    have hP : va_P D vwCl (wMain cI cP o h tx tn Ad M_34) H := by rw [e_35]; exact hP
    have hD : va_D A (wMain cI cP o h tx tn Ad M_34) := by rw [e_35]; exact hD
    clear e_35
    obtain rfl := (Option.some.inj hf)
    exact wr_i F rfl hP hS dX6_obey_235
  replace hf := (if_neg c_31).symm.trans hf
  rcases Decidable.em ((K.2.1.2.2 1) = 121) with c_36 | c_36
  · replace hf := (if_pos c_36).symm.trans hf
    refine lv_tableIn (off := 165) (tgt := 208) hx hb dX6_obey_43 (by rw [c_36]; decide) (by rw [c_36]; decide) (by rw [c_36]; rfl) (by decide) ?_
    refine lv_aload_n hx hb dX6_obey_208 rfl (lv_at hl 3 rfl) ?_
    refine gX6_16 F hX hP 0 rfl (v := .ref (Ad 1 0)) rfl dX6_obey_209 ?_
    refine lv_iload_n hx hb dX6_obey_212 rfl (lv_at hl 2 rfl) ?_
    refine lv_iconst (v := 1) hx hb dX6_obey_213 (by decide) ?_
    obtain ⟨u_37, h_38, hf⟩ := ob hf
    refine k_wi (runVN F hX wdX6_59 (rm := rm_X1_pullTo) (As := [.int (rget 3 K.2.1.2.1 0), .int 1]) (rest := []) ⟨rfl, rfl⟩ ⟨Nat.le_of_ble_eq_true rfl, Nat.le_of_ble_eq_true rfl⟩ hl.1 rfl rfl (Nat.le_of_ble_eq_true rfl) dX6_obey_214 ⟨Nat.zero_le _, Nat.zero_le _⟩) (c_X1_pullTo l D cI cP (Ad 1) K.2.2.2.2.1 (rget 3 K.2.1.2.1 0) 1 _ h_38) hX (va_recv hX.1 (va_blk (Bs := (bMain cI cP o h tx tn Ad K)) hP 5 rfl) (ci := 1) (q0 := 0) rfl rfl) (Cut.one (Bs := (bMain cI cP o h tx tn Ad K)) (k := 5) rfl rfl) hP hD hS hA (fun H locs hP hD hS => ?_)
    obtain ⟨M_39, e_40, hf⟩ := bnd_e hf
    have hP : va_P D vwCl (wMain cI cP o h tx tn Ad M_39) H := by rw [e_40]; exact hP
    have hD : va_D A (wMain cI cP o h tx tn Ad M_39) := by rw [e_40]; exact hD
    clear e_40
    obtain rfl := (Option.some.inj hf)
    exact wr_i F rfl hP hS dX6_obey_217
  replace hf := (if_neg c_36).symm.trans hf
  refine lv_tableD (tgt := 236) (cs := [97, 99, 107, 110, 112, 117, 118, 121]) hx hb dX6_obey_43 (by decide) (by decide) (by decide) (by simp [c_1, c_6, c_11, c_16, c_21, c_26, c_31, c_36]) ?_
  refine lv_ldc (v := (-1000002)) hx hb hown (hts _ q_691) dX6_obey_236 ?_
  obtain rfl := (Option.some.inj hf)
  exact wr_i F rfl hP hS dX6_obey_238
def X6_tryOrders_L20 : Nat → SMain → Int32 → Int32 → Option (SMain × Int32)
  | 0, _, _, _ => none
  | fu + 1, K_20, x1_20, x2_20 => (if 60 ≤ x2_20 then some (K_20, 1) else (if (K_20.2.1.2.2 0) ≤ x1_20 then some (K_20, 1) else ((X4_readOrder K_20.2.1 x1_20).bind fun u_7 => (bnd (K_20.1, u_7.1, K_20.2.2.1, K_20.2.2.2.1, K_20.2.2.2.2.1, K_20.2.2.2.2.2) fun M_9 => (if u_7.2 = 0 then (bnd (X6_foundFault M_9 x1_20 1 ((M_9.2.1.2.2 2) - x1_20)).1 fun M_20 => (if ((X6_foundFault M_9 x1_20 1 ((M_9.2.1.2.2 2) - x1_20)).2 = 0 ∨ (X6_foundFault M_9 x1_20 1 ((M_9.2.1.2.2 2) - x1_20)).2 = 1) then some (M_20, (X6_foundFault M_9 x1_20 1 ((M_9.2.1.2.2 2) - x1_20)).2) else none)) else ((X6_obey M_9).bind fun u_12 => (if (X6_isError u_12.2) = 0 then (bnd ((up u_12.1.1 2 ((u_12.1.1 2) + 1)), u_12.1.2.1, u_12.1.2.2.1, u_12.1.2.2.2.1, u_12.1.2.2.2.2.1, u_12.1.2.2.2.2.2) fun M_15 => X6_tryOrders_L20 fu M_15 (M_15.2.1.2.2 2) (x2_20 + 1)) else (bnd (X6_foundFault u_12.1 x1_20 2 u_12.2).1 fun M_17 => (if ((X6_foundFault u_12.1 x1_20 2 u_12.2).2 = 0 ∨ (X6_foundFault u_12.1 x1_20 2 u_12.2).2 = 1) then some (M_17, (X6_foundFault u_12.1 x1_20 2 u_12.2).2) else none)))))))))
def X6_tryOrders (K : SMain) : Option (SMain × Int32) := (bnd (K.1, K.2.1, K.2.2.1, K.2.2.2.1, K.2.2.2.1, K.2.2.2.2.2) fun M_1 => (bnd ((up M_1.1 2 0), M_1.2.1, M_1.2.2.1, M_1.2.2.2.1, M_1.2.2.2.2.1, M_1.2.2.2.2.2) fun M_3 => (X6_tryOrders_L20 FUEL M_3 0 0)))
abbrev rm_X6_tryOrders : Room := { frames := 5, cells := 0, slots := 0, locals := 120 }
set_option maxHeartbeats 4000000 in
set_option maxRecDepth 100000 in
theorem c_X6_tryOrders (l : Launch) (D : va_G) (cI cP : ClassId) (o h : Nat) (tx tn : Nat → Nat) (Ad : Nat → Nat → Nat) (K : SMain) (z : SMain × Int32) (hf : X6_tryOrders K  = some z) : MWi l yX6_tryOrders cX6_tryOrders 4 (some .boolean) rm_X6_tryOrders D cI cP [.ref o] (wMain cI cP o h tx tn Ad K) (wMain cI cP o h tx tn Ad z.1) z.2 := by
  refine MWi.of (by decide +kernel) (Nat.le_of_ble_eq_true rfl) ?_
  intro p e s m args below meth c ls A F hX hP hD hA hS hl
  have F : Fx p s m args meth c RX6 cX6_tryOrders 4 (some .boolean) := F
  have hx := F.1
  have hb := F.2.1
  have hown := F.2.2.2.1
  have hts := F.2.2.2.2.1
  have hl : lv_has ls 4 [(0, .ref o)] := hl
  unfold X6_tryOrders at hf
  refine lv_aload_n hx hb dX6_tryOrders_0 rfl (lv_at hl 0 rfl) ?_
  refine gX6_16 F hX hP 0 rfl (v := .ref (Ad 1 0)) rfl dX6_tryOrders_1 ?_
  refine lv_aload_n hx hb dX6_tryOrders_4 rfl (lv_at hl 0 rfl) ?_
  refine gX6_10 F hX hP 0 rfl (v := .ref (Ad 0 0)) rfl dX6_tryOrders_5 ?_
  refine k_wv (runVN F hX wdX6_37 (rm := rm_X1_copyFrom) (As := [.ref (Ad 0 0)]) (rest := []) ⟨rfl, rfl⟩ ⟨Nat.le_of_ble_eq_true rfl, Nat.le_of_ble_eq_true rfl⟩ hl.1 rfl rfl (Nat.le_of_ble_eq_true rfl) dX6_tryOrders_8 ⟨Nat.zero_le _, Nat.zero_le _⟩) (k_pcopy l D cI cP (Ad 1) (Ad 0) K.2.2.2.2.1 K.2.2.2.1) hX (va_recv hX.1 (va_blk (Bs := (bMain cI cP o h tx tn Ad K)) hP 5 rfl) (ci := 1) (q0 := 0) rfl rfl) (Cut.two (Bs := (bMain cI cP o h tx tn Ad K)) (k := 5) (j := 4) rfl rfl (by decide) rfl) hP hD hS hA (fun H locs hP hD hS => ?_)
  obtain ⟨M_1, e_2, hf⟩ := bnd_e hf
  have hP : va_P D vwCl (wMain cI cP o h tx tn Ad M_1) H := by rw [e_2]; exact hP
  have hD : va_D A (wMain cI cP o h tx tn Ad M_1) := by rw [e_2]; exact hD
  clear e_2
  refine lv_aload_n hx hb dX6_tryOrders_11 rfl (lv_at hl 0 rfl) ?_
  refine lv_iconst (v := 0) hx hb dX6_tryOrders_12 (by decide) ?_
  refine pX6_264 F hX hP hD hS 0 rfl (Nat.le_of_ble_eq_true rfl) dX6_tryOrders_13 (fun H locs hP hD hS => ?_)
  obtain ⟨M_3, e_4, hf⟩ := bnd_e hf
  have hP : va_P D vwCl (wMain cI cP o h tx tn Ad M_3) H := by rw [e_4]; exact hP
  have hD : va_D A (wMain cI cP o h tx tn Ad M_3) := by rw [e_4]; exact hD
  clear e_4
  refine lv_iconst (v := 0) hx hb dX6_tryOrders_16 (by decide) ?_
  refine lv_istore_n (lv' := [(1, .int 0), (0, .ref o)]) hx hb dX6_tryOrders_17 rfl hl (by decide) rfl (fun ls hl => ?_)
  refine lv_iconst (v := 0) hx hb dX6_tryOrders_18 (by decide) ?_
  refine lv_istore_n (lv' := [(2, .int 0), (1, .int 0), (0, .ref o)]) hx hb dX6_tryOrders_19 rfl hl (by decide) rfl (fun ls hl => ?_)
  have hL_20 : ∀ (fu : Nat) (K_20 : SMain) (x1_20 : Int32) (x2_20 : Int32) (H : Heap) (locs : List Loc) (ls : Array Slot), X6_tryOrders_L20 fu K_20 x1_20 x2_20 = some z → va_P D vwCl (wMain cI cP o h tx tn Ad K_20) H → va_D A (wMain cI cP o h tx tn Ad K_20) → va_S A s.heap H locs → lv_has ls 4 [(0, .ref o), (1, .int x1_20), (2, .int x2_20)] → W p l e rm_X6_tryOrders s m args below meth c H locs 0 0 (QWi D below args s A (wMain cI cP o h tx tn Ad z.1) z.2) (F0 m 20 ls []) := by
    intro fu
    induction fu with
    | zero =>
      intro K_20 x1_20 x2_20 H locs ls hf
      exact absurd hf (by simp [X6_tryOrders_L20])
    | succ fu ih =>
      intro K_20 x1_20 x2_20 _ _ ls hf hP hD hS hl
      rw [X6_tryOrders_L20] at hf
      refine lv_iload_n hx hb dX6_tryOrders_20 rfl (lv_at hl 2 rfl) ?_
      refine lv_bipush (v := 60) hx hb dX6_tryOrders_21 (by decide) ?_
      refine lv_icmp_ge (tgt := 108) hx hb dX6_tryOrders_23 (by decide) (fun c_5 => ?_) (fun c_5 => ?_)
      · replace hf := (if_pos c_5).symm.trans hf
        refine lv_iconst (v := 1) hx hb dX6_tryOrders_108 (by decide) ?_
        obtain rfl := (Option.some.inj hf)
        exact wr_z F (by decide) rfl hP hS dX6_tryOrders_109
      · replace hf := (if_neg c_5).symm.trans hf
        refine lv_iload_n hx hb dX6_tryOrders_26 rfl (lv_at hl 1 rfl) ?_
        refine lv_aload_n hx hb dX6_tryOrders_27 rfl (lv_at hl 0 rfl) ?_
        refine gX6_33 F hX hP 0 rfl (v := .ref (tx 0)) rfl dX6_tryOrders_28 ?_
        refine gX6_233 F hX (va_blk (Bs := (bMain cI cP o h tx tn Ad K_20)) hP 2 rfl) 0 rfl (v := .int (K_20.2.1.2.2 0)) rfl dX6_tryOrders_31 ?_
        refine lv_icmp_ge (tgt := 108) hx hb dX6_tryOrders_34 (by decide) (fun c_6 => ?_) (fun c_6 => ?_)
        · replace hf := (if_pos c_6).symm.trans hf
          refine lv_iconst (v := 1) hx hb dX6_tryOrders_108 (by decide) ?_
          obtain rfl := (Option.some.inj hf)
          exact wr_z F (by decide) rfl hP hS dX6_tryOrders_109
        · replace hf := (if_neg c_6).symm.trans hf
          refine lv_aload_n hx hb dX6_tryOrders_37 rfl (lv_at hl 0 rfl) ?_
          refine gX6_33 F hX hP 0 rfl (v := .ref (tx 0)) rfl dX6_tryOrders_38 ?_
          refine lv_iload_n hx hb dX6_tryOrders_41 rfl (lv_at hl 1 rfl) ?_
          obtain ⟨u_7, h_8, hf⟩ := ob hf
          refine k_wi (runVN F hX wdX6_267 (rm := rm_X4_readOrder) (As := [.int x1_20]) (rest := []) ⟨rfl, rfl⟩ ⟨Nat.le_of_ble_eq_true rfl, Nat.le_of_ble_eq_true rfl⟩ hl.1 rfl rfl (Nat.le_of_ble_eq_true rfl) dX6_tryOrders_42 ⟨Nat.zero_le _, Nat.zero_le _⟩) (c_X4_readOrder l D cI cP tx K_20.2.1 x1_20 _ h_8) hX (va_recv hX.1 (va_blk (Bs := (bMain cI cP o h tx tn Ad K_20)) hP 2 rfl) (ci := 4) (q0 := 0) rfl rfl) (Cut.one (Bs := (bMain cI cP o h tx tn Ad K_20)) (k := 2) rfl rfl) hP hD hS hA (fun H locs hP hD hS => ?_)
          obtain ⟨M_9, e_10, hf⟩ := bnd_e hf
          have hP : va_P D vwCl (wMain cI cP o h tx tn Ad M_9) H := by rw [e_10]; exact hP
          have hD : va_D A (wMain cI cP o h tx tn Ad M_9) := by rw [e_10]; exact hD
          clear e_10
          refine lv_if_ne (tgt := 64) hx hb dX6_tryOrders_45 (by decide) (fun c_11 => ?_) (fun c_11 => ?_)
          · replace hf := (if_neg c_11).symm.trans hf
            refine lv_aload_n hx hb dX6_tryOrders_64 rfl (lv_at hl 0 rfl) ?_
            obtain ⟨u_12, h_13, hf⟩ := ob hf
            refine k_wi (runV F wdX6_276 (rm := rm_X6_obey) (As := []) (rest := []) ⟨rfl, rfl⟩ ⟨Nat.le_of_ble_eq_true rfl, Nat.le_of_ble_eq_true rfl⟩ hl.1 rfl rfl (Nat.le_of_ble_eq_true rfl) dX6_tryOrders_65 ⟨Nat.zero_le _, Nat.zero_le _⟩) (c_X6_obey l D cI cP o h tx tn Ad M_9  _ h_13) hX (va_recv hX.1 hP (ci := 6) (q0 := 0) rfl rfl) (Cut.all rfl) hP hD hS hA (fun H locs hP hD hS => ?_)
            have hP : va_P D vwCl (wMain cI cP o h tx tn Ad u_12.1) H := hP
            have hD : va_D A (wMain cI cP o h tx tn Ad u_12.1) := hD
            refine lv_istore_n (lv' := [(3, .int u_12.2), (0, .ref o), (1, .int x1_20), (2, .int x2_20)]) hx hb dX6_tryOrders_68 rfl hl (by decide) rfl (fun ls hl => ?_)
            refine lv_iload_n hx hb dX6_tryOrders_69 rfl (lv_at hl 0 rfl) ?_
            refine k_rd (runS F wdX6_279 (rm := rm_X6_isError) (As := [.int u_12.2]) (rest := []) ⟨rfl, rfl⟩ ⟨Nat.le_of_ble_eq_true rfl, Nat.le_of_ble_eq_true rfl⟩ hl.1 rfl rfl (Nat.le_of_ble_eq_true rfl) dX6_tryOrders_70 ⟨Nat.zero_le _, Nat.zero_le _⟩) (c_X6_isError l D cI cP u_12.2 _ rfl) hX trivial vP_nil hP hS hA (fun H locs hP hS => ?_)
            refine lv_if_eq (tgt := 84) hx hb dX6_tryOrders_73 (by decide) (fun c_14 => ?_) (fun c_14 => ?_)
            · replace hf := (if_pos c_14).symm.trans hf
              refine lv_aload_n hx hb dX6_tryOrders_84 rfl (lv_at hl 1 rfl) ?_
              refine lv_dup hx hb dX6_tryOrders_85 rfl ?_
              refine gX6_264 F hX hP 0 rfl (v := .int (u_12.1.1 2)) rfl dX6_tryOrders_86 ?_
              refine lv_iconst (v := 1) hx hb dX6_tryOrders_89 (by decide) ?_
              refine lv_iadd hx hb dX6_tryOrders_90 ?_
              refine pX6_264 F hX hP hD hS 0 rfl (Nat.le_of_ble_eq_true rfl) dX6_tryOrders_91 (fun H locs hP hD hS => ?_)
              obtain ⟨M_15, e_16, hf⟩ := bnd_e hf
              have hP : va_P D vwCl (wMain cI cP o h tx tn Ad M_15) H := by rw [e_16]; exact hP
              have hD : va_D A (wMain cI cP o h tx tn Ad M_15) := by rw [e_16]; exact hD
              clear e_16
              refine lv_aload_n hx hb dX6_tryOrders_94 rfl (lv_at hl 1 rfl) ?_
              refine gX6_33 F hX hP 0 rfl (v := .ref (tx 0)) rfl dX6_tryOrders_95 ?_
              refine gX6_270 F hX (va_blk (Bs := (bMain cI cP o h tx tn Ad M_15)) hP 2 rfl) 0 rfl (v := .int (M_15.2.1.2.2 2)) rfl dX6_tryOrders_98 ?_
              refine lv_istore_n (lv' := [(1, .int (M_15.2.1.2.2 2)), (3, .int u_12.2), (0, .ref o), (2, .int x2_20)]) hx hb dX6_tryOrders_101 rfl hl (by decide) rfl (fun ls hl => ?_)
              refine lv_iinc (v := (x2_20 + 1)) (lv' := [(2, .int (x2_20 + 1)), (1, .int (M_15.2.1.2.2 2)), (3, .int u_12.2), (0, .ref o)]) hx hb dX6_tryOrders_102 hl (k := 3) rfl (by rfl) (by decide) rfl (fun ls hl => ?_)
              refine lv_goto (tgt := 20) hx hb dX6_tryOrders_105 (by decide) ?_
              exact ih M_15 (M_15.2.1.2.2 2) (x2_20 + 1) _ _ ls hf hP hD hS (lv_sub hl [3, 1, 0] rfl)
            · replace hf := (if_neg c_14).symm.trans hf
              refine lv_aload_n hx hb dX6_tryOrders_76 rfl (lv_at hl 1 rfl) ?_
              refine lv_iload_n hx hb dX6_tryOrders_77 rfl (lv_at hl 2 rfl) ?_
              refine lv_iconst (v := 2) hx hb dX6_tryOrders_78 (by decide) ?_
              refine lv_iload_n hx hb dX6_tryOrders_79 rfl (lv_at hl 0 rfl) ?_
              refine k_wi (runV F wdX6_273 (rm := rm_X6_foundFault) (As := [.int x1_20, .int 2, .int u_12.2]) (rest := []) ⟨rfl, rfl⟩ ⟨Nat.le_of_ble_eq_true rfl, Nat.le_of_ble_eq_true rfl⟩ hl.1 rfl rfl (Nat.le_of_ble_eq_true rfl) dX6_tryOrders_80 ⟨Nat.zero_le _, Nat.zero_le _⟩) (c_X6_foundFault l D cI cP o h tx tn Ad u_12.1 x1_20 2 u_12.2 _ rfl) hX (va_recv hX.1 hP (ci := 6) (q0 := 0) rfl rfl) (Cut.all rfl) hP hD hS hA (fun H locs hP hD hS => ?_)
              obtain ⟨M_17, e_18, hf⟩ := bnd_e hf
              have hP : va_P D vwCl (wMain cI cP o h tx tn Ad M_17) H := by rw [e_18]; exact hP
              have hD : va_D A (wMain cI cP o h tx tn Ad M_17) := by rw [e_18]; exact hD
              clear e_18
              have g_19 := og hf
              replace hf := (if_pos g_19).symm.trans hf
              obtain rfl := (Option.some.inj hf)
              exact wr_z F g_19 rfl hP hS dX6_tryOrders_83
          · replace hf := (if_pos c_11).symm.trans hf
            refine lv_aload_n hx hb dX6_tryOrders_48 rfl (lv_at hl 0 rfl) ?_
            refine lv_iload_n hx hb dX6_tryOrders_49 rfl (lv_at hl 1 rfl) ?_
            refine lv_iconst (v := 1) hx hb dX6_tryOrders_50 (by decide) ?_
            refine lv_aload_n hx hb dX6_tryOrders_51 rfl (lv_at hl 0 rfl) ?_
            refine gX6_33 F hX hP 0 rfl (v := .ref (tx 0)) rfl dX6_tryOrders_52 ?_
            refine gX6_270 F hX (va_blk (Bs := (bMain cI cP o h tx tn Ad M_9)) hP 2 rfl) 0 rfl (v := .int (M_9.2.1.2.2 2)) rfl dX6_tryOrders_55 ?_
            refine lv_iload_n hx hb dX6_tryOrders_58 rfl (lv_at hl 1 rfl) ?_
            refine lv_isub hx hb dX6_tryOrders_59 ?_
            refine k_wi (runV F wdX6_273 (rm := rm_X6_foundFault) (As := [.int x1_20, .int 1, .int ((M_9.2.1.2.2 2) - x1_20)]) (rest := []) ⟨rfl, rfl⟩ ⟨Nat.le_of_ble_eq_true rfl, Nat.le_of_ble_eq_true rfl⟩ hl.1 rfl rfl (Nat.le_of_ble_eq_true rfl) dX6_tryOrders_60 ⟨Nat.zero_le _, Nat.zero_le _⟩) (c_X6_foundFault l D cI cP o h tx tn Ad M_9 x1_20 1 ((M_9.2.1.2.2 2) - x1_20) _ rfl) hX (va_recv hX.1 hP (ci := 6) (q0 := 0) rfl rfl) (Cut.all rfl) hP hD hS hA (fun H locs hP hD hS => ?_)
            obtain ⟨M_20, e_21, hf⟩ := bnd_e hf
            have hP : va_P D vwCl (wMain cI cP o h tx tn Ad M_20) H := by rw [e_21]; exact hP
            have hD : va_D A (wMain cI cP o h tx tn Ad M_20) := by rw [e_21]; exact hD
            clear e_21
            have g_22 := og hf
            replace hf := (if_pos g_22).symm.trans hf
            obtain rfl := (Option.some.inj hf)
            exact wr_z F g_22 rfl hP hS dX6_tryOrders_63
  exact hL_20 FUEL M_3 0 0 _ _ ls hf hP hD hS (lv_sub hl [2, 1, 0] rfl)
def X6_fault (K : SMain) (x1 : Int32) : Option (SMain × Int32) := (if (X6_isIn x1 0 2) = 0 then some (K, (-1000001)) else ((X6_tryOrders K).bind fun u_2 => (if u_2.2 = 0 then (if x1 = 0 then some (u_2.1, (u_2.1.1 3)) else (if x1 = 1 then some (u_2.1, (u_2.1.1 4)) else some (u_2.1, (u_2.1.1 5)))) else some (u_2.1, (-1000004)))))
abbrev rm_X6_fault : Room := { frames := 6, cells := 0, slots := 0, locals := 143 }
set_option maxHeartbeats 4000000 in
set_option maxRecDepth 100000 in
theorem c_X6_fault (l : Launch) (D : va_G) (cI cP : ClassId) (o h : Nat) (tx tn : Nat → Nat) (Ad : Nat → Nat → Nat) (K : SMain) (x1 : Int32) (z : SMain × Int32) (hf : X6_fault K x1 = some z) : MWi l yX6_fault cX6_fault 2 (some .int) rm_X6_fault D cI cP [.ref o, .int x1] (wMain cI cP o h tx tn Ad K) (wMain cI cP o h tx tn Ad z.1) z.2 := by
  refine MWi.of (by decide +kernel) (Nat.le_of_ble_eq_true rfl) ?_
  intro p e s m args below meth c ls A F hX hP hD hA hS hl
  have F : Fx p s m args meth c RX6 cX6_fault 2 (some .int) := F
  have hx := F.1
  have hb := F.2.1
  have hown := F.2.2.2.1
  have hts := F.2.2.2.2.1
  have hl : lv_has ls 2 [(0, .ref o), (1, .int x1)] := hl
  unfold X6_fault at hf
  refine lv_iload_n hx hb dX6_fault_0 rfl (lv_at hl 1 rfl) ?_
  refine lv_iconst (v := 0) hx hb dX6_fault_1 (by decide) ?_
  refine lv_iconst (v := 2) hx hb dX6_fault_2 (by decide) ?_
  refine k_rd (runS F wdX6_148 (rm := rm_X6_isIn) (As := [.int x1, .int 0, .int 2]) (rest := []) ⟨rfl, rfl⟩ ⟨Nat.le_of_ble_eq_true rfl, Nat.le_of_ble_eq_true rfl⟩ hl.1 rfl rfl (Nat.le_of_ble_eq_true rfl) dX6_fault_3 ⟨Nat.zero_le _, Nat.zero_le _⟩) (c_X6_isIn l D cI cP x1 0 2 _ rfl) hX trivial vP_nil hP hS hA (fun H locs hP hS => ?_)
  refine lv_if_ne (tgt := 12) hx hb dX6_fault_6 (by decide) (fun c_1 => ?_) (fun c_1 => ?_)
  · replace hf := (if_neg c_1).symm.trans hf
    refine lv_aload_n hx hb dX6_fault_12 rfl (lv_at hl 0 rfl) ?_
    obtain ⟨u_2, h_3, hf⟩ := ob hf
    refine k_wi (runV F wdX6_251 (rm := rm_X6_tryOrders) (As := []) (rest := []) ⟨rfl, rfl⟩ ⟨Nat.le_of_ble_eq_true rfl, Nat.le_of_ble_eq_true rfl⟩ hl.1 rfl rfl (Nat.le_of_ble_eq_true rfl) dX6_fault_13 ⟨Nat.zero_le _, Nat.zero_le _⟩) (c_X6_tryOrders l D cI cP o h tx tn Ad K  _ h_3) hX (va_recv hX.1 hP (ci := 6) (q0 := 0) rfl rfl) (Cut.all rfl) hP hD hS hA (fun H locs hP hD hS => ?_)
    have hP : va_P D vwCl (wMain cI cP o h tx tn Ad u_2.1) H := hP
    have hD : va_D A (wMain cI cP o h tx tn Ad u_2.1) := hD
    refine lv_if_eq (tgt := 22) hx hb dX6_fault_16 (by decide) (fun c_4 => ?_) (fun c_4 => ?_)
    · replace hf := (if_pos c_4).symm.trans hf
      refine lv_iload_n hx hb dX6_fault_22 rfl (lv_at hl 1 rfl) ?_
      rcases Decidable.em (x1 = 0) with c_5 | c_5
      · replace hf := (if_pos c_5).symm.trans hf
        refine lv_lookup (off := 25) (tgt := 48) hx hb dX6_fault_23 (by decide) (by rw [c_5]; decide) (by decide) ?_
        refine lv_aload_n hx hb dX6_fault_48 rfl (lv_at hl 0 rfl) ?_
        refine gX6_255 F hX hP 0 rfl (v := .int (u_2.1.1 3)) rfl dX6_fault_49 ?_
        obtain rfl := (Option.some.inj hf)
        exact wr_i F rfl hP hS dX6_fault_52
      replace hf := (if_neg c_5).symm.trans hf
      rcases Decidable.em (x1 = 1) with c_6 | c_6
      · replace hf := (if_pos c_6).symm.trans hf
        refine lv_lookup (off := 30) (tgt := 53) hx hb dX6_fault_23 (by decide) (by rw [c_6]; decide) (by decide) ?_
        refine lv_aload_n hx hb dX6_fault_53 rfl (lv_at hl 0 rfl) ?_
        refine gX6_258 F hX hP 0 rfl (v := .int (u_2.1.1 4)) rfl dX6_fault_54 ?_
        obtain rfl := (Option.some.inj hf)
        exact wr_i F rfl hP hS dX6_fault_57
      replace hf := (if_neg c_6).symm.trans hf
      refine lv_lookup (off := 35) (tgt := 58) hx hb dX6_fault_23 (by decide) (by show Op.lookupswitch.offset [(0, 25), (1, 30)] 35 (Int32.toInt x1) = 35; rw [lv_osw c_5 (by decide), lv_osw c_6 (by decide)]; rfl) (by decide) ?_
      refine lv_aload_n hx hb dX6_fault_58 rfl (lv_at hl 0 rfl) ?_
      refine gX6_261 F hX hP 0 rfl (v := .int (u_2.1.1 5)) rfl dX6_fault_59 ?_
      obtain rfl := (Option.some.inj hf)
      exact wr_i F rfl hP hS dX6_fault_62
    · replace hf := (if_neg c_4).symm.trans hf
      refine lv_ldc (v := (-1000004)) hx hb hown (hts _ q_545) dX6_fault_19 ?_
      obtain rfl := (Option.some.inj hf)
      exact wr_i F rfl hP hS dX6_fault_21
  · replace hf := (if_pos c_1).symm.trans hf
    refine lv_ldc (v := (-1000001)) hx hb hown (hts _ q_533) dX6_fault_9 ?_
    obtain rfl := (Option.some.inj hf)
    exact wr_i F rfl hP hS dX6_fault_11
def X6_play (K : SMain) : Option (SMain × Int32) := ((X6_tryOrders K).bind fun u_1 => (if u_1.2 = 0 then ((X6_settle u_1.1 (-1000002)).bind fun u_4 => some (u_4.1, u_4.2)) else ((X6_settle u_1.1 (u_1.1.1 2)).bind fun u_6 => some (u_6.1, u_6.2))))
abbrev rm_X6_play : Room := { frames := 6, cells := 0, slots := 0, locals := 145 }
set_option maxHeartbeats 4000000 in
set_option maxRecDepth 100000 in
theorem c_X6_play (l : Launch) (D : va_G) (cI cP : ClassId) (o h : Nat) (tx tn : Nat → Nat) (Ad : Nat → Nat → Nat) (K : SMain) (z : SMain × Int32) (hf : X6_play K  = some z) : MWi l yX6_play cX6_play 1 (some .int) rm_X6_play D cI cP [.ref o] (wMain cI cP o h tx tn Ad K) (wMain cI cP o h tx tn Ad z.1) z.2 := by
  refine MWi.of (by decide +kernel) (Nat.le_of_ble_eq_true rfl) ?_
  intro p e s m args below meth c ls A F hX hP hD hA hS hl
  have F : Fx p s m args meth c RX6 cX6_play 1 (some .int) := F
  have hx := F.1
  have hb := F.2.1
  have hown := F.2.2.2.1
  have hts := F.2.2.2.2.1
  have hl : lv_has ls 1 [(0, .ref o)] := hl
  unfold X6_play at hf
  refine lv_aload_n hx hb dX6_play_0 rfl (lv_at hl 0 rfl) ?_
  refine lv_aload_n hx hb dX6_play_1 rfl (lv_at hl 0 rfl) ?_
  obtain ⟨u_1, h_2, hf⟩ := ob hf
  refine k_wi (runV F wdX6_251 (rm := rm_X6_tryOrders) (As := []) (rest := [.ref o]) ⟨rfl, rfl⟩ ⟨Nat.le_of_ble_eq_true rfl, Nat.le_of_ble_eq_true rfl⟩ hl.1 rfl rfl (Nat.le_of_ble_eq_true rfl) dX6_play_2 ⟨Nat.zero_le _, Nat.zero_le _⟩) (c_X6_tryOrders l D cI cP o h tx tn Ad K  _ h_2) hX (va_recv hX.1 hP (ci := 6) (q0 := 0) rfl rfl) (Cut.all rfl) hP hD hS hA (fun H locs hP hD hS => ?_)
  have hP : va_P D vwCl (wMain cI cP o h tx tn Ad u_1.1) H := hP
  have hD : va_D A (wMain cI cP o h tx tn Ad u_1.1) := hD
  refine lv_if_eq (tgt := 15) hx hb dX6_play_5 (by decide) (fun c_3 => ?_) (fun c_3 => ?_)
  · replace hf := (if_pos c_3).symm.trans hf
    refine lv_ldc (v := (-1000002)) hx hb hown (hts _ q_691) dX6_play_15 ?_
    obtain ⟨u_4, h_5, hf⟩ := ob hf
    refine k_wi (runV F wdX6_45 (rm := rm_X6_settle) (As := [.int (-1000002)]) (rest := []) ⟨rfl, rfl⟩ ⟨Nat.le_of_ble_eq_true rfl, Nat.le_of_ble_eq_true rfl⟩ hl.1 rfl rfl (Nat.le_of_ble_eq_true rfl) dX6_play_17 ⟨Nat.zero_le _, Nat.zero_le _⟩) (c_X6_settle l D cI cP o h tx tn Ad u_1.1 (-1000002) _ h_5) hX (va_recv hX.1 hP (ci := 6) (q0 := 0) rfl rfl) (Cut.all rfl) hP hD hS hA (fun H locs hP hD hS => ?_)
    have hP : va_P D vwCl (wMain cI cP o h tx tn Ad u_4.1) H := hP
    have hD : va_D A (wMain cI cP o h tx tn Ad u_4.1) := hD
    obtain rfl := (Option.some.inj hf)
    exact wr_i F rfl hP hS dX6_play_20
  · replace hf := (if_neg c_3).symm.trans hf
    refine lv_aload_n hx hb dX6_play_8 rfl (lv_at hl 0 rfl) ?_
    refine gX6_264 F hX hP 0 rfl (v := .int (u_1.1.1 2)) rfl dX6_play_9 ?_
    refine lv_goto (tgt := 17) hx hb dX6_play_12 (by decide) ?_
    obtain ⟨u_6, h_7, hf⟩ := ob hf
    refine k_wi (runV F wdX6_45 (rm := rm_X6_settle) (As := [.int (u_1.1.1 2)]) (rest := []) ⟨rfl, rfl⟩ ⟨Nat.le_of_ble_eq_true rfl, Nat.le_of_ble_eq_true rfl⟩ hl.1 rfl rfl (Nat.le_of_ble_eq_true rfl) dX6_play_17 ⟨Nat.zero_le _, Nat.zero_le _⟩) (c_X6_settle l D cI cP o h tx tn Ad u_1.1 (u_1.1.1 2) _ h_7) hX (va_recv hX.1 hP (ci := 6) (q0 := 0) rfl rfl) (Cut.all rfl) hP hD hS hA (fun H locs hP hD hS => ?_)
    have hP : va_P D vwCl (wMain cI cP o h tx tn Ad u_6.1) H := hP
    have hD : va_D A (wMain cI cP o h tx tn Ad u_6.1) := hD
    obtain rfl := (Option.some.inj hf)
    exact wr_i F rfl hP hS dX6_play_20
