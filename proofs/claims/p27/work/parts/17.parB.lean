def X1_reasonAgainstString (K : SPar) (x1 : Int32) (x2 : Int32) (x3 : Int32) : Option (Int32) := ((X3_areTied K.2.2.1 x1 x2).bind fun u_1 => (if u_1 = 0 then (if (X1_hangTogether K x1 x2) = 0 then ((X1_pulledVote K x1).bind fun u_5 => ((X1_pulledVote K x2).bind fun u_7 => (if u_5 = (-1) then some 0 else (if u_7 = (-1) then some 0 else (if (u_5 ^^^ u_7) = x3 then some 0 else some 3))))) else (if ((rget 12 (K.1 4) x1) ^^^ (rget 12 (K.1 4) x2)) = x3 then some 0 else some 2)) else some 1))
abbrev rm_X1_reasonAgainstString : Room := { frames := 2, cells := 0, slots := 0, locals := 46 }
set_option maxHeartbeats 4000000 in
set_option maxRecDepth 100000 in
theorem c_X1_reasonAgainstString (l : Launch) (D : va_G) (cI cP : ClassId) (a : Nat → Nat) (K : SPar) (x1 : Int32) (x2 : Int32) (x3 : Int32) (z : Int32) (hf : X1_reasonAgainstString K x1 x2 x3 = some z) : MRd l yX1_reasonAgainstString cX1_reasonAgainstString 7 (some .int) rm_X1_reasonAgainstString D cI cP [.ref (a 0), .int x1, .int x2, .int x3] (wPar cI a K) z := by
  refine MRd.of (by decide +kernel) (Nat.le_of_ble_eq_true rfl) ?_
  intro p e s m args below meth c ls F hX hP hS hl
  have F : Fx p s m args meth c RX1 cX1_reasonAgainstString 7 (some .int) := F
  have hx := F.1
  have hb := F.2.1
  have hown := F.2.2.2.1
  have hts := F.2.2.2.2.1
  have hA : ∀ q : Nat, s.heap.size ≤ q → (fun q : Nat => s.heap.size ≤ q) q := fun _ h => h
  have hl : lv_has ls 7 [(0, .ref (a 0)), (1, .int x1), (2, .int x2), (3, .int x3)] := hl
  unfold X1_reasonAgainstString at hf
  refine lv_aload_n hx hb dX1_reasonAgainstString_0 rfl (lv_at hl 0 rfl) ?_
  refine gX1_38 F hX hP 0 rfl (v := .ref (a 13)) rfl dX1_reasonAgainstString_1 ?_
  refine lv_iload_n hx hb dX1_reasonAgainstString_4 rfl (lv_at hl 1 rfl) ?_
  refine lv_iload_n hx hb dX1_reasonAgainstString_5 rfl (lv_at hl 2 rfl) ?_
  obtain ⟨u_1, h_2, hf⟩ := ob hf
  refine k_rd (runVN F hX wdX1_168 (rm := rm_X3_areTied) (As := [.int x1, .int x2]) (rest := []) ⟨rfl, rfl⟩ ⟨Nat.le_of_ble_eq_true rfl, Nat.le_of_ble_eq_true rfl⟩ hl.1 rfl rfl (Nat.le_of_ble_eq_true rfl) dX1_reasonAgainstString_6 ⟨Nat.zero_le _, Nat.zero_le _⟩) (c_X3_areTied l D cI cP (fun k => a (13 + k)) K.2.2.1 x1 x2 _ h_2) hX (va_recv hX.1 (va_blk (Bs := (bPar cI a K)) hP 7 rfl) (ci := 3) (q0 := 0) rfl rfl) (va_blk (Bs := (bPar cI a K)) hP 7 rfl) hP hS hA (fun H locs hP hS => ?_)
  refine lv_if_eq (tgt := 14) hx hb dX1_reasonAgainstString_9 (by decide) (fun c_3 => ?_) (fun c_3 => ?_)
  · replace hf := (if_pos c_3).symm.trans hf
    refine lv_aload_n hx hb dX1_reasonAgainstString_14 rfl (lv_at hl 0 rfl) ?_
    refine lv_iload_n hx hb dX1_reasonAgainstString_15 rfl (lv_at hl 1 rfl) ?_
    refine lv_iload_n hx hb dX1_reasonAgainstString_16 rfl (lv_at hl 2 rfl) ?_
    refine k_rd (runV F wdX1_171 (rm := rm_X1_hangTogether) (As := [.int x1, .int x2]) (rest := []) ⟨rfl, rfl⟩ ⟨Nat.le_of_ble_eq_true rfl, Nat.le_of_ble_eq_true rfl⟩ hl.1 rfl rfl (Nat.le_of_ble_eq_true rfl) dX1_reasonAgainstString_17 ⟨Nat.zero_le _, Nat.zero_le _⟩) (c_X1_hangTogether l D cI cP a K x1 x2 _ rfl) hX (va_recv hX.1 hP (ci := 1) (q0 := 0) rfl rfl) hP hP hS hA (fun H locs hP hS => ?_)
    refine lv_if_eq (tgt := 50) hx hb dX1_reasonAgainstString_20 (by decide) (fun c_4 => ?_) (fun c_4 => ?_)
    · replace hf := (if_pos c_4).symm.trans hf
      refine lv_aload_n hx hb dX1_reasonAgainstString_50 rfl (lv_at hl 0 rfl) ?_
      refine lv_iload_n hx hb dX1_reasonAgainstString_51 rfl (lv_at hl 1 rfl) ?_
      obtain ⟨u_5, h_6, hf⟩ := ob hf
      refine k_rd (runV F wdX1_162 (rm := rm_X1_pulledVote) (As := [.int x1]) (rest := []) ⟨rfl, rfl⟩ ⟨Nat.le_of_ble_eq_true rfl, Nat.le_of_ble_eq_true rfl⟩ hl.1 rfl rfl (Nat.le_of_ble_eq_true rfl) dX1_reasonAgainstString_52 ⟨Nat.zero_le _, Nat.zero_le _⟩) (c_X1_pulledVote l D cI cP a K x1 _ h_6) hX (va_recv hX.1 hP (ci := 1) (q0 := 0) rfl rfl) hP hP hS hA (fun H locs hP hS => ?_)
      refine lv_istore (lv' := [(4, .int u_5), (0, .ref (a 0)), (1, .int x1), (2, .int x2), (3, .int x3)]) hx hb dX1_reasonAgainstString_55 hl (by decide) rfl (fun ls hl => ?_)
      refine lv_aload_n hx hb dX1_reasonAgainstString_57 rfl (lv_at hl 1 rfl) ?_
      refine lv_iload_n hx hb dX1_reasonAgainstString_58 rfl (lv_at hl 3 rfl) ?_
      obtain ⟨u_7, h_8, hf⟩ := ob hf
      refine k_rd (runV F wdX1_162 (rm := rm_X1_pulledVote) (As := [.int x2]) (rest := []) ⟨rfl, rfl⟩ ⟨Nat.le_of_ble_eq_true rfl, Nat.le_of_ble_eq_true rfl⟩ hl.1 rfl rfl (Nat.le_of_ble_eq_true rfl) dX1_reasonAgainstString_59 ⟨Nat.zero_le _, Nat.zero_le _⟩) (c_X1_pulledVote l D cI cP a K x2 _ h_8) hX (va_recv hX.1 hP (ci := 1) (q0 := 0) rfl rfl) hP hP hS hA (fun H locs hP hS => ?_)
      refine lv_istore (lv' := [(5, .int u_7), (4, .int u_5), (0, .ref (a 0)), (1, .int x1), (2, .int x2), (3, .int x3)]) hx hb dX1_reasonAgainstString_62 hl (by decide) rfl (fun ls hl => ?_)
      refine lv_iload hx hb dX1_reasonAgainstString_64 (lv_at hl 1 rfl) ?_
      refine lv_iconst (v := (-1)) hx hb dX1_reasonAgainstString_66 (by decide) ?_
      refine lv_icmp_eq (tgt := 80) hx hb dX1_reasonAgainstString_67 (by decide) (fun c_9 => ?_) (fun c_9 => ?_)
      · replace hf := (if_pos c_9).symm.trans hf
        refine lv_iconst (v := 0) hx hb dX1_reasonAgainstString_80 (by decide) ?_
        refine lv_istore (lv' := [(6, .int 0), (5, .int u_7), (4, .int u_5), (0, .ref (a 0)), (1, .int x1), (2, .int x2), (3, .int x3)]) hx hb dX1_reasonAgainstString_81 hl (by decide) rfl (fun ls hl => ?_)
        refine lv_iload hx hb dX1_reasonAgainstString_83 (lv_at hl 0 rfl) ?_
        refine lv_if_eq (tgt := 101) hx hb dX1_reasonAgainstString_85 (by decide) (fun _ => ?_) (fun c0 => absurd c0 (by decide))
        refine lv_iconst (v := 0) hx hb dX1_reasonAgainstString_101 (by decide) ?_
        exact rd_i F (Option.some.inj hf) hS dX1_reasonAgainstString_102
      · replace hf := (if_neg c_9).symm.trans hf
        refine lv_iload hx hb dX1_reasonAgainstString_70 (lv_at hl 0 rfl) ?_
        refine lv_iconst (v := (-1)) hx hb dX1_reasonAgainstString_72 (by decide) ?_
        refine lv_icmp_eq (tgt := 80) hx hb dX1_reasonAgainstString_73 (by decide) (fun c_10 => ?_) (fun c_10 => ?_)
        · replace hf := (if_pos c_10).symm.trans hf
          refine lv_iconst (v := 0) hx hb dX1_reasonAgainstString_80 (by decide) ?_
          refine lv_istore (lv' := [(6, .int 0), (5, .int u_7), (4, .int u_5), (0, .ref (a 0)), (1, .int x1), (2, .int x2), (3, .int x3)]) hx hb dX1_reasonAgainstString_81 hl (by decide) rfl (fun ls hl => ?_)
          refine lv_iload hx hb dX1_reasonAgainstString_83 (lv_at hl 0 rfl) ?_
          refine lv_if_eq (tgt := 101) hx hb dX1_reasonAgainstString_85 (by decide) (fun _ => ?_) (fun c0 => absurd c0 (by decide))
          refine lv_iconst (v := 0) hx hb dX1_reasonAgainstString_101 (by decide) ?_
          exact rd_i F (Option.some.inj hf) hS dX1_reasonAgainstString_102
        · replace hf := (if_neg c_10).symm.trans hf
          refine lv_iconst (v := 1) hx hb dX1_reasonAgainstString_76 (by decide) ?_
          refine lv_goto (tgt := 81) hx hb dX1_reasonAgainstString_77 (by decide) ?_
          refine lv_istore (lv' := [(6, .int 1), (5, .int u_7), (4, .int u_5), (0, .ref (a 0)), (1, .int x1), (2, .int x2), (3, .int x3)]) hx hb dX1_reasonAgainstString_81 hl (by decide) rfl (fun ls hl => ?_)
          refine lv_iload hx hb dX1_reasonAgainstString_83 (lv_at hl 0 rfl) ?_
          refine lv_if_eq (tgt := 101) hx hb dX1_reasonAgainstString_85 (by decide) (fun c0 => absurd c0 (by decide)) (fun _ => ?_)
          refine lv_iload hx hb dX1_reasonAgainstString_88 (lv_at hl 2 rfl) ?_
          refine lv_iload hx hb dX1_reasonAgainstString_90 (lv_at hl 1 rfl) ?_
          refine lv_ixor hx hb dX1_reasonAgainstString_92 ?_
          refine lv_iload_n hx hb dX1_reasonAgainstString_93 rfl (lv_at hl 6 rfl) ?_
          refine lv_icmp_eq (tgt := 101) hx hb dX1_reasonAgainstString_94 (by decide) (fun c_11 => ?_) (fun c_11 => ?_)
          · replace hf := (if_pos c_11).symm.trans hf
            refine lv_iconst (v := 0) hx hb dX1_reasonAgainstString_101 (by decide) ?_
            exact rd_i F (Option.some.inj hf) hS dX1_reasonAgainstString_102
          · replace hf := (if_neg c_11).symm.trans hf
            refine lv_iconst (v := 3) hx hb dX1_reasonAgainstString_97 (by decide) ?_
            refine lv_goto (tgt := 102) hx hb dX1_reasonAgainstString_98 (by decide) ?_
            exact rd_i F (Option.some.inj hf) hS dX1_reasonAgainstString_102
    · replace hf := (if_neg c_4).symm.trans hf
      refine lv_aload_n hx hb dX1_reasonAgainstString_23 rfl (lv_at hl 0 rfl) ?_
      refine gX1_29 F hX hP 0 rfl (v := .ref (a 9)) rfl dX1_reasonAgainstString_24 ?_
      refine lv_iload_n hx hb dX1_reasonAgainstString_27 rfl (lv_at hl 1 rfl) ?_
      refine k_rd (runVN F hX wdX1_128 (rm := rm_X2_get) (As := [.int x1]) (rest := []) ⟨rfl, rfl⟩ ⟨Nat.le_of_ble_eq_true rfl, Nat.le_of_ble_eq_true rfl⟩ hl.1 rfl rfl (Nat.le_of_ble_eq_true rfl) dX1_reasonAgainstString_28 ⟨Nat.zero_le _, Nat.zero_le _⟩) (k_rget l D cI cP (a 9) (a 10) 12 (by decide) (K.1 4) x1) hX (va_recv hX.1 (va_blk (Bs := (bPar cI a K)) hP 5 rfl) (ci := 2) (q0 := 0) rfl rfl) (va_blk (Bs := (bPar cI a K)) hP 5 rfl) hP hS hA (fun H locs hP hS => ?_)
      refine lv_aload_n hx hb dX1_reasonAgainstString_31 rfl (lv_at hl 0 rfl) ?_
      refine gX1_29 F hX hP 0 rfl (v := .ref (a 9)) rfl dX1_reasonAgainstString_32 ?_
      refine lv_iload_n hx hb dX1_reasonAgainstString_35 rfl (lv_at hl 2 rfl) ?_
      refine k_rd (runVN F hX wdX1_128 (rm := rm_X2_get) (As := [.int x2]) (rest := [.int (rget 12 (K.1 4) x1)]) ⟨rfl, rfl⟩ ⟨Nat.le_of_ble_eq_true rfl, Nat.le_of_ble_eq_true rfl⟩ hl.1 rfl rfl (Nat.le_of_ble_eq_true rfl) dX1_reasonAgainstString_36 ⟨Nat.zero_le _, Nat.zero_le _⟩) (k_rget l D cI cP (a 9) (a 10) 12 (by decide) (K.1 4) x2) hX (va_recv hX.1 (va_blk (Bs := (bPar cI a K)) hP 5 rfl) (ci := 2) (q0 := 0) rfl rfl) (va_blk (Bs := (bPar cI a K)) hP 5 rfl) hP hS hA (fun H locs hP hS => ?_)
      refine lv_ixor hx hb dX1_reasonAgainstString_39 ?_
      refine lv_iload_n hx hb dX1_reasonAgainstString_40 rfl (lv_at hl 3 rfl) ?_
      refine lv_icmp_ne (tgt := 48) hx hb dX1_reasonAgainstString_41 (by decide) (fun c_12 => ?_) (fun c_12 => ?_)
      · replace hf := (if_neg c_12).symm.trans hf
        refine lv_iconst (v := 2) hx hb dX1_reasonAgainstString_48 (by decide) ?_
        exact rd_i F (Option.some.inj hf) hS dX1_reasonAgainstString_49
      · replace hf := (if_pos c_12).symm.trans hf
        refine lv_iconst (v := 0) hx hb dX1_reasonAgainstString_44 (by decide) ?_
        refine lv_goto (tgt := 49) hx hb dX1_reasonAgainstString_45 (by decide) ?_
        exact rd_i F (Option.some.inj hf) hS dX1_reasonAgainstString_49
  · replace hf := (if_neg c_3).symm.trans hf
    refine lv_iconst (v := 1) hx hb dX1_reasonAgainstString_12 (by decide) ?_
    exact rd_i F (Option.some.inj hf) hS dX1_reasonAgainstString_13
def X1_reasonAgainstPull_L15 : Nat → SPar → Int32 → Int32 → Int32 → Int32 → Option (Int32)
  | 0, _, _, _, _, _ => none
  | fu + 1, K_15, x1_15, x2_15, x3_15, x4_15 => (if (K_15.2.1 0) ≤ x4_15 then (if x3_15 < (K_15.2.1 2) then some 0 else some 3) else (if x4_15 = x1_15 then X1_reasonAgainstPull_L15 fu K_15 x1_15 x2_15 x3_15 (x4_15 + 1) else (if (X1_isPulled K_15 x4_15) = 0 then X1_reasonAgainstPull_L15 fu K_15 x1_15 x2_15 x3_15 (x4_15 + 1) else (if (X1_hangTogether K_15 x4_15 x1_15) = 0 then X1_reasonAgainstPull_L15 fu K_15 x1_15 x2_15 (x3_15 + 1) (x4_15 + 1) else (if (((rget 12 (K_15.1 2) x4_15) ^^^ (rget 12 (K_15.1 4) x4_15)) ^^^ (rget 12 (K_15.1 4) x1_15)) = x2_15 then X1_reasonAgainstPull_L15 fu K_15 x1_15 x2_15 (x3_15 + 1) (x4_15 + 1) else some 2)))))
def X1_reasonAgainstPull (K : SPar) (x1 : Int32) (x2 : Int32) : Option (Int32) := (if x1 = (K.2.1 1) then some 1 else (X1_reasonAgainstPull_L15 FUEL K x1 x2 0 0))
abbrev rm_X1_reasonAgainstPull : Room := { frames := 2, cells := 0, slots := 0, locals := 43 }
set_option maxHeartbeats 4000000 in
set_option maxRecDepth 100000 in
theorem c_X1_reasonAgainstPull (l : Launch) (D : va_G) (cI cP : ClassId) (a : Nat → Nat) (K : SPar) (x1 : Int32) (x2 : Int32) (z : Int32) (hf : X1_reasonAgainstPull K x1 x2 = some z) : MRd l yX1_reasonAgainstPull cX1_reasonAgainstPull 6 (some .int) rm_X1_reasonAgainstPull D cI cP [.ref (a 0), .int x1, .int x2] (wPar cI a K) z := by
  refine MRd.of (by decide +kernel) (Nat.le_of_ble_eq_true rfl) ?_
  intro p e s m args below meth c ls F hX hP hS hl
  have F : Fx p s m args meth c RX1 cX1_reasonAgainstPull 6 (some .int) := F
  have hx := F.1
  have hb := F.2.1
  have hown := F.2.2.2.1
  have hts := F.2.2.2.2.1
  have hA : ∀ q : Nat, s.heap.size ≤ q → (fun q : Nat => s.heap.size ≤ q) q := fun _ h => h
  have hl : lv_has ls 6 [(0, .ref (a 0)), (1, .int x1), (2, .int x2)] := hl
  unfold X1_reasonAgainstPull at hf
  refine lv_iload_n hx hb dX1_reasonAgainstPull_0 rfl (lv_at hl 1 rfl) ?_
  refine lv_aload_n hx hb dX1_reasonAgainstPull_1 rfl (lv_at hl 0 rfl) ?_
  refine gX1_66 F hX hP 0 rfl (v := .int (K.2.1 1)) rfl dX1_reasonAgainstPull_2 ?_
  refine lv_icmp_ne (tgt := 10) hx hb dX1_reasonAgainstPull_5 (by decide) (fun c_1 => ?_) (fun c_1 => ?_)
  · replace hf := (if_neg c_1).symm.trans hf
    refine lv_iconst (v := 0) hx hb dX1_reasonAgainstPull_10 (by decide) ?_
    refine lv_istore_n (lv' := [(3, .int 0), (0, .ref (a 0)), (1, .int x1), (2, .int x2)]) hx hb dX1_reasonAgainstPull_11 rfl hl (by decide) rfl (fun ls hl => ?_)
    refine lv_iconst (v := 0) hx hb dX1_reasonAgainstPull_12 (by decide) ?_
    refine lv_istore (lv' := [(4, .int 0), (3, .int 0), (0, .ref (a 0)), (1, .int x1), (2, .int x2)]) hx hb dX1_reasonAgainstPull_13 hl (by decide) rfl (fun ls hl => ?_)
    have hL_15 : ∀ (fu : Nat) (K_15 : SPar) (x1_15 : Int32) (x2_15 : Int32) (x3_15 : Int32) (x4_15 : Int32) (H : Heap) (locs : List Loc) (ls : Array Slot), X1_reasonAgainstPull_L15 fu K_15 x1_15 x2_15 x3_15 x4_15 = some z → va_P D vwCl (wPar cI a K_15) H → va_S (fun q : Nat => s.heap.size ≤ q) s.heap H locs → lv_has ls 6 [(0, .ref (a 0)), (1, .int x1_15), (2, .int x2_15), (3, .int x3_15), (4, .int x4_15)] → W p l e rm_X1_reasonAgainstPull s m args below meth c H locs 0 0 (QR below args s z) (F0 m 15 ls []) := by
      intro fu
      induction fu with
      | zero =>
        intro K_15 x1_15 x2_15 x3_15 x4_15 H locs ls hf
        exact absurd hf (by simp [X1_reasonAgainstPull_L15])
      | succ fu ih =>
        intro K_15 x1_15 x2_15 x3_15 x4_15 _ _ ls hf hP hS hl
        rw [X1_reasonAgainstPull_L15] at hf
        refine lv_iload hx hb dX1_reasonAgainstPull_15 (lv_at hl 4 rfl) ?_
        refine lv_aload_n hx hb dX1_reasonAgainstPull_17 rfl (lv_at hl 0 rfl) ?_
        refine gX1_63 F hX hP 0 rfl (v := .int (K_15.2.1 0)) rfl dX1_reasonAgainstPull_18 ?_
        refine lv_icmp_ge (tgt := 99) hx hb dX1_reasonAgainstPull_21 (by decide) (fun c_2 => ?_) (fun c_2 => ?_)
        · replace hf := (if_pos c_2).symm.trans hf
          refine lv_iload_n hx hb dX1_reasonAgainstPull_99 rfl (lv_at hl 3 rfl) ?_
          refine lv_aload_n hx hb dX1_reasonAgainstPull_100 rfl (lv_at hl 0 rfl) ?_
          refine gX1_49 F hX hP 0 rfl (v := .int (K_15.2.1 2)) rfl dX1_reasonAgainstPull_101 ?_
          refine lv_icmp_lt (tgt := 111) hx hb dX1_reasonAgainstPull_104 (by decide) (fun c_3 => ?_) (fun c_3 => ?_)
          · replace hf := (if_pos c_3).symm.trans hf
            refine lv_iconst (v := 0) hx hb dX1_reasonAgainstPull_111 (by decide) ?_
            exact rd_i F (Option.some.inj hf) hS dX1_reasonAgainstPull_112
          · replace hf := (if_neg c_3).symm.trans hf
            refine lv_iconst (v := 3) hx hb dX1_reasonAgainstPull_107 (by decide) ?_
            refine lv_goto (tgt := 112) hx hb dX1_reasonAgainstPull_108 (by decide) ?_
            exact rd_i F (Option.some.inj hf) hS dX1_reasonAgainstPull_112
        · replace hf := (if_neg c_2).symm.trans hf
          refine lv_iload hx hb dX1_reasonAgainstPull_24 (lv_at hl 4 rfl) ?_
          refine lv_iload_n hx hb dX1_reasonAgainstPull_26 rfl (lv_at hl 1 rfl) ?_
          refine lv_icmp_eq (tgt := 93) hx hb dX1_reasonAgainstPull_27 (by decide) (fun c_4 => ?_) (fun c_4 => ?_)
          · replace hf := (if_pos c_4).symm.trans hf
            refine lv_iinc (v := (x4_15 + 1)) (lv' := [(4, .int (x4_15 + 1)), (0, .ref (a 0)), (1, .int x1_15), (2, .int x2_15), (3, .int x3_15)]) hx hb dX1_reasonAgainstPull_93 hl (k := 4) rfl (by rfl) (by decide) rfl (fun ls hl => ?_)
            refine lv_goto (tgt := 15) hx hb dX1_reasonAgainstPull_96 (by decide) ?_
            exact ih K_15 x1_15 x2_15 x3_15 (x4_15 + 1) _ _ ls hf hP hS (lv_sub hl [1, 2, 3, 4, 0] rfl)
          · replace hf := (if_neg c_4).symm.trans hf
            refine lv_aload_n hx hb dX1_reasonAgainstPull_30 rfl (lv_at hl 0 rfl) ?_
            refine lv_iload hx hb dX1_reasonAgainstPull_31 (lv_at hl 4 rfl) ?_
            refine k_rd (runV F wdX1_125 (rm := rm_X1_isPulled) (As := [.int x4_15]) (rest := []) ⟨rfl, rfl⟩ ⟨Nat.le_of_ble_eq_true rfl, Nat.le_of_ble_eq_true rfl⟩ hl.1 rfl rfl (Nat.le_of_ble_eq_true rfl) dX1_reasonAgainstPull_33 ⟨Nat.zero_le _, Nat.zero_le _⟩) (c_X1_isPulled l D cI cP a K_15 x4_15 _ rfl) hX (va_recv hX.1 hP (ci := 1) (q0 := 0) rfl rfl) hP hP hS hA (fun H locs hP hS => ?_)
            refine lv_if_ne (tgt := 42) hx hb dX1_reasonAgainstPull_36 (by decide) (fun c_5 => ?_) (fun c_5 => ?_)
            · replace hf := (if_neg c_5).symm.trans hf
              refine lv_iinc (v := (x3_15 + 1)) (lv' := [(3, .int (x3_15 + 1)), (0, .ref (a 0)), (1, .int x1_15), (2, .int x2_15), (4, .int x4_15)]) hx hb dX1_reasonAgainstPull_42 hl (k := 3) rfl (by rfl) (by decide) rfl (fun ls hl => ?_)
              refine lv_aload_n hx hb dX1_reasonAgainstPull_45 rfl (lv_at hl 1 rfl) ?_
              refine gX1_23 F hX hP 0 rfl (v := .ref (a 5)) rfl dX1_reasonAgainstPull_46 ?_
              refine lv_iload hx hb dX1_reasonAgainstPull_49 (lv_at hl 4 rfl) ?_
              refine k_rd (runVN F hX wdX1_128 (rm := rm_X2_get) (As := [.int x4_15]) (rest := []) ⟨rfl, rfl⟩ ⟨Nat.le_of_ble_eq_true rfl, Nat.le_of_ble_eq_true rfl⟩ hl.1 rfl rfl (Nat.le_of_ble_eq_true rfl) dX1_reasonAgainstPull_51 ⟨Nat.zero_le _, Nat.zero_le _⟩) (k_rget l D cI cP (a 5) (a 6) 12 (by decide) (K_15.1 2) x4_15) hX (va_recv hX.1 (va_blk (Bs := (bPar cI a K_15)) hP 3 rfl) (ci := 2) (q0 := 0) rfl rfl) (va_blk (Bs := (bPar cI a K_15)) hP 3 rfl) hP hS hA (fun H locs hP hS => ?_)
              refine lv_aload_n hx hb dX1_reasonAgainstPull_54 rfl (lv_at hl 1 rfl) ?_
              refine gX1_29 F hX hP 0 rfl (v := .ref (a 9)) rfl dX1_reasonAgainstPull_55 ?_
              refine lv_iload hx hb dX1_reasonAgainstPull_58 (lv_at hl 4 rfl) ?_
              refine k_rd (runVN F hX wdX1_128 (rm := rm_X2_get) (As := [.int x4_15]) (rest := [.int (rget 12 (K_15.1 2) x4_15)]) ⟨rfl, rfl⟩ ⟨Nat.le_of_ble_eq_true rfl, Nat.le_of_ble_eq_true rfl⟩ hl.1 rfl rfl (Nat.le_of_ble_eq_true rfl) dX1_reasonAgainstPull_60 ⟨Nat.zero_le _, Nat.zero_le _⟩) (k_rget l D cI cP (a 9) (a 10) 12 (by decide) (K_15.1 4) x4_15) hX (va_recv hX.1 (va_blk (Bs := (bPar cI a K_15)) hP 5 rfl) (ci := 2) (q0 := 0) rfl rfl) (va_blk (Bs := (bPar cI a K_15)) hP 5 rfl) hP hS hA (fun H locs hP hS => ?_)
              refine lv_ixor hx hb dX1_reasonAgainstPull_63 ?_
              refine lv_aload_n hx hb dX1_reasonAgainstPull_64 rfl (lv_at hl 1 rfl) ?_
              refine gX1_29 F hX hP 0 rfl (v := .ref (a 9)) rfl dX1_reasonAgainstPull_65 ?_
              refine lv_iload_n hx hb dX1_reasonAgainstPull_68 rfl (lv_at hl 2 rfl) ?_
              refine k_rd (runVN F hX wdX1_128 (rm := rm_X2_get) (As := [.int x1_15]) (rest := [.int ((rget 12 (K_15.1 2) x4_15) ^^^ (rget 12 (K_15.1 4) x4_15))]) ⟨rfl, rfl⟩ ⟨Nat.le_of_ble_eq_true rfl, Nat.le_of_ble_eq_true rfl⟩ hl.1 rfl rfl (Nat.le_of_ble_eq_true rfl) dX1_reasonAgainstPull_69 ⟨Nat.zero_le _, Nat.zero_le _⟩) (k_rget l D cI cP (a 9) (a 10) 12 (by decide) (K_15.1 4) x1_15) hX (va_recv hX.1 (va_blk (Bs := (bPar cI a K_15)) hP 5 rfl) (ci := 2) (q0 := 0) rfl rfl) (va_blk (Bs := (bPar cI a K_15)) hP 5 rfl) hP hS hA (fun H locs hP hS => ?_)
              refine lv_ixor hx hb dX1_reasonAgainstPull_72 ?_
              refine lv_istore (lv' := [(5, .int (((rget 12 (K_15.1 2) x4_15) ^^^ (rget 12 (K_15.1 4) x4_15)) ^^^ (rget 12 (K_15.1 4) x1_15))), (3, .int (x3_15 + 1)), (0, .ref (a 0)), (1, .int x1_15), (2, .int x2_15), (4, .int x4_15)]) hx hb dX1_reasonAgainstPull_73 hl (by decide) rfl (fun ls hl => ?_)
              refine lv_aload_n hx hb dX1_reasonAgainstPull_75 rfl (lv_at hl 2 rfl) ?_
              refine lv_iload hx hb dX1_reasonAgainstPull_76 (lv_at hl 5 rfl) ?_
              refine lv_iload_n hx hb dX1_reasonAgainstPull_78 rfl (lv_at hl 3 rfl) ?_
              refine k_rd (runV F wdX1_171 (rm := rm_X1_hangTogether) (As := [.int x4_15, .int x1_15]) (rest := []) ⟨rfl, rfl⟩ ⟨Nat.le_of_ble_eq_true rfl, Nat.le_of_ble_eq_true rfl⟩ hl.1 rfl rfl (Nat.le_of_ble_eq_true rfl) dX1_reasonAgainstPull_79 ⟨Nat.zero_le _, Nat.zero_le _⟩) (c_X1_hangTogether l D cI cP a K_15 x4_15 x1_15 _ rfl) hX (va_recv hX.1 hP (ci := 1) (q0 := 0) rfl rfl) hP hP hS hA (fun H locs hP hS => ?_)
              refine lv_if_eq (tgt := 93) hx hb dX1_reasonAgainstPull_82 (by decide) (fun c_6 => ?_) (fun c_6 => ?_)
              · replace hf := (if_pos c_6).symm.trans hf
                refine lv_iinc (v := (x4_15 + 1)) (lv' := [(4, .int (x4_15 + 1)), (5, .int (((rget 12 (K_15.1 2) x4_15) ^^^ (rget 12 (K_15.1 4) x4_15)) ^^^ (rget 12 (K_15.1 4) x1_15))), (3, .int (x3_15 + 1)), (0, .ref (a 0)), (1, .int x1_15), (2, .int x2_15)]) hx hb dX1_reasonAgainstPull_93 hl (k := 5) rfl (by rfl) (by decide) rfl (fun ls hl => ?_)
                refine lv_goto (tgt := 15) hx hb dX1_reasonAgainstPull_96 (by decide) ?_
                exact ih K_15 x1_15 x2_15 (x3_15 + 1) (x4_15 + 1) _ _ ls hf hP hS (lv_sub hl [3, 4, 5, 2, 0] rfl)
              · replace hf := (if_neg c_6).symm.trans hf
                refine lv_iload hx hb dX1_reasonAgainstPull_85 (lv_at hl 0 rfl) ?_
                refine lv_iload_n hx hb dX1_reasonAgainstPull_87 rfl (lv_at hl 4 rfl) ?_
                refine lv_icmp_eq (tgt := 93) hx hb dX1_reasonAgainstPull_88 (by decide) (fun c_7 => ?_) (fun c_7 => ?_)
                · replace hf := (if_pos c_7).symm.trans hf
                  refine lv_iinc (v := (x4_15 + 1)) (lv' := [(4, .int (x4_15 + 1)), (5, .int (((rget 12 (K_15.1 2) x4_15) ^^^ (rget 12 (K_15.1 4) x4_15)) ^^^ (rget 12 (K_15.1 4) x1_15))), (3, .int (x3_15 + 1)), (0, .ref (a 0)), (1, .int x1_15), (2, .int x2_15)]) hx hb dX1_reasonAgainstPull_93 hl (k := 5) rfl (by rfl) (by decide) rfl (fun ls hl => ?_)
                  refine lv_goto (tgt := 15) hx hb dX1_reasonAgainstPull_96 (by decide) ?_
                  exact ih K_15 x1_15 x2_15 (x3_15 + 1) (x4_15 + 1) _ _ ls hf hP hS (lv_sub hl [3, 4, 5, 2, 0] rfl)
                · replace hf := (if_neg c_7).symm.trans hf
                  refine lv_iconst (v := 2) hx hb dX1_reasonAgainstPull_91 (by decide) ?_
                  exact rd_i F (Option.some.inj hf) hS dX1_reasonAgainstPull_92
            · replace hf := (if_pos c_5).symm.trans hf
              refine lv_goto (tgt := 93) hx hb dX1_reasonAgainstPull_39 (by decide) ?_
              refine lv_iinc (v := (x4_15 + 1)) (lv' := [(4, .int (x4_15 + 1)), (0, .ref (a 0)), (1, .int x1_15), (2, .int x2_15), (3, .int x3_15)]) hx hb dX1_reasonAgainstPull_93 hl (k := 4) rfl (by rfl) (by decide) rfl (fun ls hl => ?_)
              refine lv_goto (tgt := 15) hx hb dX1_reasonAgainstPull_96 (by decide) ?_
              exact ih K_15 x1_15 x2_15 x3_15 (x4_15 + 1) _ _ ls hf hP hS (lv_sub hl [1, 2, 3, 4, 0] rfl)
    exact hL_15 FUEL K x1 x2 0 0 _ _ ls hf hP hS (lv_sub hl [2, 3, 4, 1, 0] rfl)
  · replace hf := (if_pos c_1).symm.trans hf
    refine lv_iconst (v := 1) hx hb dX1_reasonAgainstPull_8 (by decide) ?_
    exact rd_i F (Option.some.inj hf) hS dX1_reasonAgainstPull_9
def X1_wouldPass (K : SPar) : Int32 := (if (K.2.1 4) = ((K.2.1 3) - (K.2.1 4)) then (rget 12 (K.1 5) (K.2.1 1)) else (if (K.2.1 4) ≤ ((K.2.1 3) - (K.2.1 4)) then 0 else 1))
abbrev rm_X1_wouldPass : Room := { frames := 1, cells := 0, slots := 0, locals := 21 }
set_option maxHeartbeats 4000000 in
set_option maxRecDepth 100000 in
theorem c_X1_wouldPass (l : Launch) (D : va_G) (cI cP : ClassId) (a : Nat → Nat) (K : SPar) (z : Int32) (hf : X1_wouldPass K  = z) : MRd l yX1_wouldPass cX1_wouldPass 2 (some .int) rm_X1_wouldPass D cI cP [.ref (a 0)] (wPar cI a K) z := by
  refine MRd.of (by decide +kernel) (Nat.le_of_ble_eq_true rfl) ?_
  intro p e s m args below meth c ls F hX hP hS hl
  have F : Fx p s m args meth c RX1 cX1_wouldPass 2 (some .int) := F
  have hx := F.1
  have hb := F.2.1
  have hown := F.2.2.2.1
  have hts := F.2.2.2.2.1
  have hA : ∀ q : Nat, s.heap.size ≤ q → (fun q : Nat => s.heap.size ≤ q) q := fun _ h => h
  have hl : lv_has ls 2 [(0, .ref (a 0))] := hl
  unfold X1_wouldPass at hf
  refine lv_aload_n hx hb dX1_wouldPass_0 rfl (lv_at hl 0 rfl) ?_
  refine gX1_69 F hX hP 0 rfl (v := .int (K.2.1 3)) rfl dX1_wouldPass_1 ?_
  refine lv_aload_n hx hb dX1_wouldPass_4 rfl (lv_at hl 0 rfl) ?_
  refine gX1_72 F hX hP 0 rfl (v := .int (K.2.1 4)) rfl dX1_wouldPass_5 ?_
  refine lv_isub hx hb dX1_wouldPass_8 ?_
  refine lv_istore_n (lv' := [(1, .int ((K.2.1 3) - (K.2.1 4))), (0, .ref (a 0))]) hx hb dX1_wouldPass_9 rfl hl (by decide) rfl (fun ls hl => ?_)
  refine lv_aload_n hx hb dX1_wouldPass_10 rfl (lv_at hl 1 rfl) ?_
  refine gX1_72 F hX hP 0 rfl (v := .int (K.2.1 4)) rfl dX1_wouldPass_11 ?_
  refine lv_iload_n hx hb dX1_wouldPass_14 rfl (lv_at hl 0 rfl) ?_
  refine lv_icmp_ne (tgt := 30) hx hb dX1_wouldPass_15 (by decide) (fun c_1 => ?_) (fun c_1 => ?_)
  · replace hf := (if_neg c_1).symm.trans hf
    refine lv_aload_n hx hb dX1_wouldPass_30 rfl (lv_at hl 1 rfl) ?_
    refine gX1_72 F hX hP 0 rfl (v := .int (K.2.1 4)) rfl dX1_wouldPass_31 ?_
    refine lv_iload_n hx hb dX1_wouldPass_34 rfl (lv_at hl 0 rfl) ?_
    refine lv_icmp_le (tgt := 42) hx hb dX1_wouldPass_35 (by decide) (fun c_2 => ?_) (fun c_2 => ?_)
    · replace hf := (if_pos c_2).symm.trans hf
      refine lv_iconst (v := 0) hx hb dX1_wouldPass_42 (by decide) ?_
      exact rd_i F hf hS dX1_wouldPass_43
    · replace hf := (if_neg c_2).symm.trans hf
      refine lv_iconst (v := 1) hx hb dX1_wouldPass_38 (by decide) ?_
      refine lv_goto (tgt := 43) hx hb dX1_wouldPass_39 (by decide) ?_
      exact rd_i F hf hS dX1_wouldPass_43
  · replace hf := (if_pos c_1).symm.trans hf
    refine lv_aload_n hx hb dX1_wouldPass_18 rfl (lv_at hl 1 rfl) ?_
    refine gX1_32 F hX hP 0 rfl (v := .ref (a 11)) rfl dX1_wouldPass_19 ?_
    refine lv_aload_n hx hb dX1_wouldPass_22 rfl (lv_at hl 1 rfl) ?_
    refine gX1_66 F hX hP 0 rfl (v := .int (K.2.1 1)) rfl dX1_wouldPass_23 ?_
    refine k_rd (runVN F hX wdX1_128 (rm := rm_X2_get) (As := [.int (K.2.1 1)]) (rest := []) ⟨rfl, rfl⟩ ⟨Nat.le_of_ble_eq_true rfl, Nat.le_of_ble_eq_true rfl⟩ hl.1 rfl rfl (Nat.le_of_ble_eq_true rfl) dX1_wouldPass_26 ⟨Nat.zero_le _, Nat.zero_le _⟩) (k_rget l D cI cP (a 11) (a 12) 12 (by decide) (K.1 5) (K.2.1 1)) hX (va_recv hX.1 (va_blk (Bs := (bPar cI a K)) hP 6 rfl) (ci := 2) (q0 := 0) rfl rfl) (va_blk (Bs := (bPar cI a K)) hP 6 rfl) hP hS hA (fun H locs hP hS => ?_)
    exact rd_i F hf hS dX1_wouldPass_29
def X1_seatsIn_L4 : Nat → SPar → Int32 → Int32 → Int32 → Option (Int32)
  | 0, _, _, _, _ => none
  | fu + 1, K_4, x1_4, x2_4, x3_4 => (if (K_4.2.1 0) ≤ x3_4 then some x2_4 else (if (X6_isMember x1_4 x3_4) = 0 then X1_seatsIn_L4 fu K_4 x1_4 x2_4 (x3_4 + 1) else X1_seatsIn_L4 fu K_4 x1_4 (x2_4 + (rget 12 (K_4.1 0) x3_4)) (x3_4 + 1)))
def X1_seatsIn (K : SPar) (x1 : Int32) : Option (Int32) := ((X1_seatsIn_L4 FUEL K x1 0 0).bind fun u_3 => some u_3)
abbrev rm_X1_seatsIn : Room := { frames := 1, cells := 0, slots := 0, locals := 21 }
set_option maxHeartbeats 4000000 in
set_option maxRecDepth 100000 in
theorem c_X1_seatsIn (l : Launch) (D : va_G) (cI cP : ClassId) (a : Nat → Nat) (K : SPar) (x1 : Int32) (z : Int32) (hf : X1_seatsIn K x1 = some z) : MRd l yX1_seatsIn cX1_seatsIn 4 (some .int) rm_X1_seatsIn D cI cP [.ref (a 0), .int x1] (wPar cI a K) z := by
  refine MRd.of (by decide +kernel) (Nat.le_of_ble_eq_true rfl) ?_
  intro p e s m args below meth c ls F hX hP hS hl
  have F : Fx p s m args meth c RX1 cX1_seatsIn 4 (some .int) := F
  have hx := F.1
  have hb := F.2.1
  have hown := F.2.2.2.1
  have hts := F.2.2.2.2.1
  have hA : ∀ q : Nat, s.heap.size ≤ q → (fun q : Nat => s.heap.size ≤ q) q := fun _ h => h
  have hl : lv_has ls 4 [(0, .ref (a 0)), (1, .int x1)] := hl
  unfold X1_seatsIn at hf
  refine lv_iconst (v := 0) hx hb dX1_seatsIn_0 (by decide) ?_
  refine lv_istore_n (lv' := [(2, .int 0), (0, .ref (a 0)), (1, .int x1)]) hx hb dX1_seatsIn_1 rfl hl (by decide) rfl (fun ls hl => ?_)
  refine lv_iconst (v := 0) hx hb dX1_seatsIn_2 (by decide) ?_
  refine lv_istore_n (lv' := [(3, .int 0), (2, .int 0), (0, .ref (a 0)), (1, .int x1)]) hx hb dX1_seatsIn_3 rfl hl (by decide) rfl (fun ls hl => ?_)
  have hL_4 : ∀ (fu : Nat) (K_4 : SPar) (x1_4 : Int32) (x2_4 : Int32) (x3_4 : Int32) (v : Int32) (H : Heap) (locs : List Loc) (ls : Array Slot), X1_seatsIn_L4 fu K_4 x1_4 x2_4 x3_4 = some v → va_P D vwCl (wPar cI a K_4) H → va_S (fun q : Nat => s.heap.size ≤ q) s.heap H locs → lv_has ls 4 [(0, .ref (a 0)), (1, .int x1_4), (2, .int x2_4), (3, .int x3_4)] → (∀ (H : Heap) (locs : List Loc) (ls : Array Slot), va_P D vwCl (wPar cI a K_4) H → va_S (fun q : Nat => s.heap.size ≤ q) s.heap H locs → lv_has ls 4 [(2, .int v)] → W p l e rm_X1_seatsIn s m args below meth c H locs 0 0 (QR below args s z) (F0 m 37 ls [])) → W p l e rm_X1_seatsIn s m args below meth c H locs 0 0 (QR below args s z) (F0 m 4 ls []) := by
    intro fu
    induction fu with
    | zero =>
      intro K_4 x1_4 x2_4 x3_4 v H locs ls hf
      exact absurd hf (by simp [X1_seatsIn_L4])
    | succ fu ih =>
      intro K_4 x1_4 x2_4 x3_4 v _ _ ls hf hP hS hl hk
      rw [X1_seatsIn_L4] at hf
      refine lv_iload_n hx hb dX1_seatsIn_4 rfl (lv_at hl 3 rfl) ?_
      refine lv_aload_n hx hb dX1_seatsIn_5 rfl (lv_at hl 0 rfl) ?_
      refine gX1_63 F hX hP 0 rfl (v := .int (K_4.2.1 0)) rfl dX1_seatsIn_6 ?_
      refine lv_icmp_ge (tgt := 37) hx hb dX1_seatsIn_9 (by decide) (fun c_1 => ?_) (fun c_1 => ?_)
      · replace hf := (if_pos c_1).symm.trans hf
        obtain rfl := Option.some.inj hf
        exact hk _ _ ls hP hS (lv_sub hl [2] rfl)
      · replace hf := (if_neg c_1).symm.trans hf
        refine lv_iload_n hx hb dX1_seatsIn_12 rfl (lv_at hl 1 rfl) ?_
        refine lv_iload_n hx hb dX1_seatsIn_13 rfl (lv_at hl 3 rfl) ?_
        refine k_rd (runSN F hX wdX1_174 (rm := rm_X6_isMember) (As := [.int x1_4, .int x3_4]) (rest := []) ⟨rfl, rfl⟩ ⟨Nat.le_of_ble_eq_true rfl, Nat.le_of_ble_eq_true rfl⟩ hl.1 rfl rfl (Nat.le_of_ble_eq_true rfl) dX1_seatsIn_14 ⟨Nat.zero_le _, Nat.zero_le _⟩) (c_X6_isMember l D cI cP x1_4 x3_4 _ rfl) hX trivial vP_nil hP hS hA (fun H locs hP hS => ?_)
        refine lv_if_eq (tgt := 31) hx hb dX1_seatsIn_17 (by decide) (fun c_2 => ?_) (fun c_2 => ?_)
        · replace hf := (if_pos c_2).symm.trans hf
          refine lv_iinc (v := (x3_4 + 1)) (lv' := [(3, .int (x3_4 + 1)), (0, .ref (a 0)), (1, .int x1_4), (2, .int x2_4)]) hx hb dX1_seatsIn_31 hl (k := 3) rfl (by rfl) (by decide) rfl (fun ls hl => ?_)
          refine lv_goto (tgt := 4) hx hb dX1_seatsIn_34 (by decide) ?_
          exact ih K_4 x1_4 x2_4 (x3_4 + 1) _ _ _ ls hf hP hS (lv_sub hl [1, 2, 3, 0] rfl) hk
        · replace hf := (if_neg c_2).symm.trans hf
          refine lv_iload_n hx hb dX1_seatsIn_20 rfl (lv_at hl 2 rfl) ?_
          refine lv_aload_n hx hb dX1_seatsIn_21 rfl (lv_at hl 0 rfl) ?_
          refine gX1_14 F hX hP 0 rfl (v := .ref (a 1)) rfl dX1_seatsIn_22 ?_
          refine lv_iload_n hx hb dX1_seatsIn_25 rfl (lv_at hl 3 rfl) ?_
          refine k_rd (runVN F hX wdX1_128 (rm := rm_X2_get) (As := [.int x3_4]) (rest := [.int x2_4]) ⟨rfl, rfl⟩ ⟨Nat.le_of_ble_eq_true rfl, Nat.le_of_ble_eq_true rfl⟩ hl.1 rfl rfl (Nat.le_of_ble_eq_true rfl) dX1_seatsIn_26 ⟨Nat.zero_le _, Nat.zero_le _⟩) (k_rget l D cI cP (a 1) (a 2) 12 (by decide) (K_4.1 0) x3_4) hX (va_recv hX.1 (va_blk (Bs := (bPar cI a K_4)) hP 1 rfl) (ci := 2) (q0 := 0) rfl rfl) (va_blk (Bs := (bPar cI a K_4)) hP 1 rfl) hP hS hA (fun H locs hP hS => ?_)
          refine lv_iadd hx hb dX1_seatsIn_29 ?_
          refine lv_istore_n (lv' := [(2, .int (x2_4 + (rget 12 (K_4.1 0) x3_4))), (0, .ref (a 0)), (1, .int x1_4), (3, .int x3_4)]) hx hb dX1_seatsIn_30 rfl hl (by decide) rfl (fun ls hl => ?_)
          refine lv_iinc (v := (x3_4 + 1)) (lv' := [(3, .int (x3_4 + 1)), (2, .int (x2_4 + (rget 12 (K_4.1 0) x3_4))), (0, .ref (a 0)), (1, .int x1_4)]) hx hb dX1_seatsIn_31 hl (k := 3) rfl (by rfl) (by decide) rfl (fun ls hl => ?_)
          refine lv_goto (tgt := 4) hx hb dX1_seatsIn_34 (by decide) ?_
          exact ih K_4 x1_4 (x2_4 + (rget 12 (K_4.1 0) x3_4)) (x3_4 + 1) _ _ _ ls hf hP hS (lv_sub hl [2, 3, 1, 0] rfl) hk
  obtain ⟨u_3, h_4, hf⟩ := ob hf
  refine hL_4 FUEL K x1 0 0 u_3 _ _ ls h_4 hP hS (lv_sub hl [2, 3, 1, 0] rfl) (fun H locs ls hP hS hl => ?_)
  clear hL_4
  refine lv_iload_n hx hb dX1_seatsIn_37 rfl (lv_at hl 0 rfl) ?_
  exact rd_i F (Option.some.inj hf) hS dX1_seatsIn_38
def X1_pulledPuppets_L4 : Nat → SPar → Int32 → Int32 → Option (Int32)
  | 0, _, _, _ => none
  | fu + 1, K_4, x1_4, x2_4 => (if (K_4.2.1 0) ≤ x2_4 then some x1_4 else (if (X1_isPulled K_4 x2_4) = 0 then X1_pulledPuppets_L4 fu K_4 x1_4 (x2_4 + 1) else X1_pulledPuppets_L4 fu K_4 (x1_4 ||| (1 <<< (x2_4 &&& 31))) (x2_4 + 1)))
def X1_pulledPuppets (K : SPar) : Option (Int32) := ((X1_pulledPuppets_L4 FUEL K 0 0).bind fun u_3 => some u_3)
abbrev rm_X1_pulledPuppets : Room := { frames := 2, cells := 0, slots := 0, locals := 42 }
set_option maxHeartbeats 4000000 in
set_option maxRecDepth 100000 in
theorem c_X1_pulledPuppets (l : Launch) (D : va_G) (cI cP : ClassId) (a : Nat → Nat) (K : SPar) (z : Int32) (hf : X1_pulledPuppets K  = some z) : MRd l yX1_pulledPuppets cX1_pulledPuppets 3 (some .int) rm_X1_pulledPuppets D cI cP [.ref (a 0)] (wPar cI a K) z := by
  refine MRd.of (by decide +kernel) (Nat.le_of_ble_eq_true rfl) ?_
  intro p e s m args below meth c ls F hX hP hS hl
  have F : Fx p s m args meth c RX1 cX1_pulledPuppets 3 (some .int) := F
  have hx := F.1
  have hb := F.2.1
  have hown := F.2.2.2.1
  have hts := F.2.2.2.2.1
  have hA : ∀ q : Nat, s.heap.size ≤ q → (fun q : Nat => s.heap.size ≤ q) q := fun _ h => h
  have hl : lv_has ls 3 [(0, .ref (a 0))] := hl
  unfold X1_pulledPuppets at hf
  refine lv_iconst (v := 0) hx hb dX1_pulledPuppets_0 (by decide) ?_
  refine lv_istore_n (lv' := [(1, .int 0), (0, .ref (a 0))]) hx hb dX1_pulledPuppets_1 rfl hl (by decide) rfl (fun ls hl => ?_)
  refine lv_iconst (v := 0) hx hb dX1_pulledPuppets_2 (by decide) ?_
  refine lv_istore_n (lv' := [(2, .int 0), (1, .int 0), (0, .ref (a 0))]) hx hb dX1_pulledPuppets_3 rfl hl (by decide) rfl (fun ls hl => ?_)
  have hL_4 : ∀ (fu : Nat) (K_4 : SPar) (x1_4 : Int32) (x2_4 : Int32) (v : Int32) (H : Heap) (locs : List Loc) (ls : Array Slot), X1_pulledPuppets_L4 fu K_4 x1_4 x2_4 = some v → va_P D vwCl (wPar cI a K_4) H → va_S (fun q : Nat => s.heap.size ≤ q) s.heap H locs → lv_has ls 3 [(0, .ref (a 0)), (1, .int x1_4), (2, .int x2_4)] → (∀ (H : Heap) (locs : List Loc) (ls : Array Slot), va_P D vwCl (wPar cI a K_4) H → va_S (fun q : Nat => s.heap.size ≤ q) s.heap H locs → lv_has ls 3 [(1, .int v)] → W p l e rm_X1_pulledPuppets s m args below meth c H locs 0 0 (QR below args s z) (F0 m 32 ls [])) → W p l e rm_X1_pulledPuppets s m args below meth c H locs 0 0 (QR below args s z) (F0 m 4 ls []) := by
    intro fu
    induction fu with
    | zero =>
      intro K_4 x1_4 x2_4 v H locs ls hf
      exact absurd hf (by simp [X1_pulledPuppets_L4])
    | succ fu ih =>
      intro K_4 x1_4 x2_4 v _ _ ls hf hP hS hl hk
      rw [X1_pulledPuppets_L4] at hf
      refine lv_iload_n hx hb dX1_pulledPuppets_4 rfl (lv_at hl 2 rfl) ?_
      refine lv_aload_n hx hb dX1_pulledPuppets_5 rfl (lv_at hl 0 rfl) ?_
      refine gX1_63 F hX hP 0 rfl (v := .int (K_4.2.1 0)) rfl dX1_pulledPuppets_6 ?_
      refine lv_icmp_ge (tgt := 32) hx hb dX1_pulledPuppets_9 (by decide) (fun c_1 => ?_) (fun c_1 => ?_)
      · replace hf := (if_pos c_1).symm.trans hf
        obtain rfl := Option.some.inj hf
        exact hk _ _ ls hP hS (lv_sub hl [1] rfl)
      · replace hf := (if_neg c_1).symm.trans hf
        refine lv_aload_n hx hb dX1_pulledPuppets_12 rfl (lv_at hl 0 rfl) ?_
        refine lv_iload_n hx hb dX1_pulledPuppets_13 rfl (lv_at hl 2 rfl) ?_
        refine k_rd (runV F wdX1_125 (rm := rm_X1_isPulled) (As := [.int x2_4]) (rest := []) ⟨rfl, rfl⟩ ⟨Nat.le_of_ble_eq_true rfl, Nat.le_of_ble_eq_true rfl⟩ hl.1 rfl rfl (Nat.le_of_ble_eq_true rfl) dX1_pulledPuppets_14 ⟨Nat.zero_le _, Nat.zero_le _⟩) (c_X1_isPulled l D cI cP a K_4 x2_4 _ rfl) hX (va_recv hX.1 hP (ci := 1) (q0 := 0) rfl rfl) hP hP hS hA (fun H locs hP hS => ?_)
        refine lv_if_eq (tgt := 26) hx hb dX1_pulledPuppets_17 (by decide) (fun c_2 => ?_) (fun c_2 => ?_)
        · replace hf := (if_pos c_2).symm.trans hf
          refine lv_iinc (v := (x2_4 + 1)) (lv' := [(2, .int (x2_4 + 1)), (0, .ref (a 0)), (1, .int x1_4)]) hx hb dX1_pulledPuppets_26 hl (k := 2) rfl (by rfl) (by decide) rfl (fun ls hl => ?_)
          refine lv_goto (tgt := 4) hx hb dX1_pulledPuppets_29 (by decide) ?_
          exact ih K_4 x1_4 (x2_4 + 1) _ _ _ ls hf hP hS (lv_sub hl [1, 2, 0] rfl) hk
        · replace hf := (if_neg c_2).symm.trans hf
          refine lv_iload_n hx hb dX1_pulledPuppets_20 rfl (lv_at hl 1 rfl) ?_
          refine lv_iconst (v := 1) hx hb dX1_pulledPuppets_21 (by decide) ?_
          refine lv_iload_n hx hb dX1_pulledPuppets_22 rfl (lv_at hl 2 rfl) ?_
          refine lv_ishl hx hb dX1_pulledPuppets_23 ?_
          refine lv_ior hx hb dX1_pulledPuppets_24 ?_
          refine lv_istore_n (lv' := [(1, .int (x1_4 ||| (1 <<< (x2_4 &&& 31)))), (0, .ref (a 0)), (2, .int x2_4)]) hx hb dX1_pulledPuppets_25 rfl hl (by decide) rfl (fun ls hl => ?_)
          refine lv_iinc (v := (x2_4 + 1)) (lv' := [(2, .int (x2_4 + 1)), (1, .int (x1_4 ||| (1 <<< (x2_4 &&& 31)))), (0, .ref (a 0))]) hx hb dX1_pulledPuppets_26 hl (k := 2) rfl (by rfl) (by decide) rfl (fun ls hl => ?_)
          refine lv_goto (tgt := 4) hx hb dX1_pulledPuppets_29 (by decide) ?_
          exact ih K_4 (x1_4 ||| (1 <<< (x2_4 &&& 31))) (x2_4 + 1) _ _ _ ls hf hP hS (lv_sub hl [2, 1, 0] rfl) hk
  obtain ⟨u_3, h_4, hf⟩ := ob hf
  refine hL_4 FUEL K 0 0 u_3 _ _ ls h_4 hP hS (lv_sub hl [2, 1, 0] rfl) (fun H locs ls hP hS hl => ?_)
  clear hL_4
  refine lv_iload_n hx hb dX1_pulledPuppets_32 rfl (lv_at hl 0 rfl) ?_
  exact rd_i F (Option.some.inj hf) hS dX1_pulledPuppets_33
def X1_membersOf_L4 : Nat → SPar → Int32 → Int32 → Int32 → Option (Int32)
  | 0, _, _, _, _ => none
  | fu + 1, K_4, x1_4, x2_4, x3_4 => (if (K_4.2.1 0) ≤ x3_4 then some x2_4 else (if (rget 12 (K_4.1 3) x3_4) = x1_4 then X1_membersOf_L4 fu K_4 x1_4 (x2_4 ||| (1 <<< (x3_4 &&& 31))) (x3_4 + 1) else X1_membersOf_L4 fu K_4 x1_4 x2_4 (x3_4 + 1)))
def X1_membersOf (K : SPar) (x1 : Int32) : Option (Int32) := ((X1_membersOf_L4 FUEL K x1 0 0).bind fun u_3 => some u_3)
abbrev rm_X1_membersOf : Room := { frames := 1, cells := 0, slots := 0, locals := 21 }
set_option maxHeartbeats 4000000 in
set_option maxRecDepth 100000 in
theorem c_X1_membersOf (l : Launch) (D : va_G) (cI cP : ClassId) (a : Nat → Nat) (K : SPar) (x1 : Int32) (z : Int32) (hf : X1_membersOf K x1 = some z) : MRd l yX1_membersOf cX1_membersOf 4 (some .int) rm_X1_membersOf D cI cP [.ref (a 0), .int x1] (wPar cI a K) z := by
  refine MRd.of (by decide +kernel) (Nat.le_of_ble_eq_true rfl) ?_
  intro p e s m args below meth c ls F hX hP hS hl
  have F : Fx p s m args meth c RX1 cX1_membersOf 4 (some .int) := F
  have hx := F.1
  have hb := F.2.1
  have hown := F.2.2.2.1
  have hts := F.2.2.2.2.1
  have hA : ∀ q : Nat, s.heap.size ≤ q → (fun q : Nat => s.heap.size ≤ q) q := fun _ h => h
  have hl : lv_has ls 4 [(0, .ref (a 0)), (1, .int x1)] := hl
  unfold X1_membersOf at hf
  refine lv_iconst (v := 0) hx hb dX1_membersOf_0 (by decide) ?_
  refine lv_istore_n (lv' := [(2, .int 0), (0, .ref (a 0)), (1, .int x1)]) hx hb dX1_membersOf_1 rfl hl (by decide) rfl (fun ls hl => ?_)
  refine lv_iconst (v := 0) hx hb dX1_membersOf_2 (by decide) ?_
  refine lv_istore_n (lv' := [(3, .int 0), (2, .int 0), (0, .ref (a 0)), (1, .int x1)]) hx hb dX1_membersOf_3 rfl hl (by decide) rfl (fun ls hl => ?_)
  have hL_4 : ∀ (fu : Nat) (K_4 : SPar) (x1_4 : Int32) (x2_4 : Int32) (x3_4 : Int32) (v : Int32) (H : Heap) (locs : List Loc) (ls : Array Slot), X1_membersOf_L4 fu K_4 x1_4 x2_4 x3_4 = some v → va_P D vwCl (wPar cI a K_4) H → va_S (fun q : Nat => s.heap.size ≤ q) s.heap H locs → lv_has ls 4 [(0, .ref (a 0)), (1, .int x1_4), (2, .int x2_4), (3, .int x3_4)] → (∀ (H : Heap) (locs : List Loc) (ls : Array Slot), va_P D vwCl (wPar cI a K_4) H → va_S (fun q : Nat => s.heap.size ≤ q) s.heap H locs → lv_has ls 4 [(2, .int v)] → W p l e rm_X1_membersOf s m args below meth c H locs 0 0 (QR below args s z) (F0 m 36 ls [])) → W p l e rm_X1_membersOf s m args below meth c H locs 0 0 (QR below args s z) (F0 m 4 ls []) := by
    intro fu
    induction fu with
    | zero =>
      intro K_4 x1_4 x2_4 x3_4 v H locs ls hf
      exact absurd hf (by simp [X1_membersOf_L4])
    | succ fu ih =>
      intro K_4 x1_4 x2_4 x3_4 v _ _ ls hf hP hS hl hk
      rw [X1_membersOf_L4] at hf
      refine lv_iload_n hx hb dX1_membersOf_4 rfl (lv_at hl 3 rfl) ?_
      refine lv_aload_n hx hb dX1_membersOf_5 rfl (lv_at hl 0 rfl) ?_
      refine gX1_63 F hX hP 0 rfl (v := .int (K_4.2.1 0)) rfl dX1_membersOf_6 ?_
      refine lv_icmp_ge (tgt := 36) hx hb dX1_membersOf_9 (by decide) (fun c_1 => ?_) (fun c_1 => ?_)
      · replace hf := (if_pos c_1).symm.trans hf
        obtain rfl := Option.some.inj hf
        exact hk _ _ ls hP hS (lv_sub hl [2] rfl)
      · replace hf := (if_neg c_1).symm.trans hf
        refine lv_aload_n hx hb dX1_membersOf_12 rfl (lv_at hl 0 rfl) ?_
        refine gX1_26 F hX hP 0 rfl (v := .ref (a 7)) rfl dX1_membersOf_13 ?_
        refine lv_iload_n hx hb dX1_membersOf_16 rfl (lv_at hl 3 rfl) ?_
        refine k_rd (runVN F hX wdX1_128 (rm := rm_X2_get) (As := [.int x3_4]) (rest := []) ⟨rfl, rfl⟩ ⟨Nat.le_of_ble_eq_true rfl, Nat.le_of_ble_eq_true rfl⟩ hl.1 rfl rfl (Nat.le_of_ble_eq_true rfl) dX1_membersOf_17 ⟨Nat.zero_le _, Nat.zero_le _⟩) (k_rget l D cI cP (a 7) (a 8) 12 (by decide) (K_4.1 3) x3_4) hX (va_recv hX.1 (va_blk (Bs := (bPar cI a K_4)) hP 4 rfl) (ci := 2) (q0 := 0) rfl rfl) (va_blk (Bs := (bPar cI a K_4)) hP 4 rfl) hP hS hA (fun H locs hP hS => ?_)
        refine lv_iload_n hx hb dX1_membersOf_20 rfl (lv_at hl 1 rfl) ?_
        refine lv_icmp_ne (tgt := 30) hx hb dX1_membersOf_21 (by decide) (fun c_2 => ?_) (fun c_2 => ?_)
        · replace hf := (if_neg c_2).symm.trans hf
          refine lv_iinc (v := (x3_4 + 1)) (lv' := [(3, .int (x3_4 + 1)), (0, .ref (a 0)), (1, .int x1_4), (2, .int x2_4)]) hx hb dX1_membersOf_30 hl (k := 3) rfl (by rfl) (by decide) rfl (fun ls hl => ?_)
          refine lv_goto (tgt := 4) hx hb dX1_membersOf_33 (by decide) ?_
          exact ih K_4 x1_4 x2_4 (x3_4 + 1) _ _ _ ls hf hP hS (lv_sub hl [1, 2, 3, 0] rfl) hk
        · replace hf := (if_pos c_2).symm.trans hf
          refine lv_iload_n hx hb dX1_membersOf_24 rfl (lv_at hl 2 rfl) ?_
          refine lv_iconst (v := 1) hx hb dX1_membersOf_25 (by decide) ?_
          refine lv_iload_n hx hb dX1_membersOf_26 rfl (lv_at hl 3 rfl) ?_
          refine lv_ishl hx hb dX1_membersOf_27 ?_
          refine lv_ior hx hb dX1_membersOf_28 ?_
          refine lv_istore_n (lv' := [(2, .int (x2_4 ||| (1 <<< (x3_4 &&& 31)))), (0, .ref (a 0)), (1, .int x1_4), (3, .int x3_4)]) hx hb dX1_membersOf_29 rfl hl (by decide) rfl (fun ls hl => ?_)
          refine lv_iinc (v := (x3_4 + 1)) (lv' := [(3, .int (x3_4 + 1)), (2, .int (x2_4 ||| (1 <<< (x3_4 &&& 31)))), (0, .ref (a 0)), (1, .int x1_4)]) hx hb dX1_membersOf_30 hl (k := 3) rfl (by rfl) (by decide) rfl (fun ls hl => ?_)
          refine lv_goto (tgt := 4) hx hb dX1_membersOf_33 (by decide) ?_
          exact ih K_4 x1_4 (x2_4 ||| (1 <<< (x3_4 &&& 31))) (x3_4 + 1) _ _ _ ls hf hP hS (lv_sub hl [2, 3, 1, 0] rfl) hk
  obtain ⟨u_3, h_4, hf⟩ := ob hf
  refine hL_4 FUEL K x1 0 0 u_3 _ _ ls h_4 hP hS (lv_sub hl [2, 3, 1, 0] rfl) (fun H locs ls hP hS hl => ?_)
  clear hL_4
  refine lv_iload_n hx hb dX1_membersOf_36 rfl (lv_at hl 0 rfl) ?_
  exact rd_i F (Option.some.inj hf) hS dX1_membersOf_37
def X1_groupsByJoining_L4 : Nat → SPar → Int32 → Int32 → Option (Int32)
  | 0, _, _, _ => none
  | fu + 1, K_4, x1_4, x2_4 => (if (K_4.2.1 0) ≤ x2_4 then some x1_4 else (if (rget 12 (K_4.1 3) x2_4) = x2_4 then X1_groupsByJoining_L4 fu K_4 (x1_4 + 1) (x2_4 + 1) else X1_groupsByJoining_L4 fu K_4 x1_4 (x2_4 + 1)))
def X1_groupsByJoining (K : SPar) : Option (Int32) := ((X1_groupsByJoining_L4 FUEL K 0 0).bind fun u_3 => some u_3)
abbrev rm_X1_groupsByJoining : Room := { frames := 1, cells := 0, slots := 0, locals := 21 }
set_option maxHeartbeats 4000000 in
set_option maxRecDepth 100000 in
theorem c_X1_groupsByJoining (l : Launch) (D : va_G) (cI cP : ClassId) (a : Nat → Nat) (K : SPar) (z : Int32) (hf : X1_groupsByJoining K  = some z) : MRd l yX1_groupsByJoining cX1_groupsByJoining 3 (some .int) rm_X1_groupsByJoining D cI cP [.ref (a 0)] (wPar cI a K) z := by
  refine MRd.of (by decide +kernel) (Nat.le_of_ble_eq_true rfl) ?_
  intro p e s m args below meth c ls F hX hP hS hl
  have F : Fx p s m args meth c RX1 cX1_groupsByJoining 3 (some .int) := F
  have hx := F.1
  have hb := F.2.1
  have hown := F.2.2.2.1
  have hts := F.2.2.2.2.1
  have hA : ∀ q : Nat, s.heap.size ≤ q → (fun q : Nat => s.heap.size ≤ q) q := fun _ h => h
  have hl : lv_has ls 3 [(0, .ref (a 0))] := hl
  unfold X1_groupsByJoining at hf
  refine lv_iconst (v := 0) hx hb dX1_groupsByJoining_0 (by decide) ?_
  refine lv_istore_n (lv' := [(1, .int 0), (0, .ref (a 0))]) hx hb dX1_groupsByJoining_1 rfl hl (by decide) rfl (fun ls hl => ?_)
  refine lv_iconst (v := 0) hx hb dX1_groupsByJoining_2 (by decide) ?_
  refine lv_istore_n (lv' := [(2, .int 0), (1, .int 0), (0, .ref (a 0))]) hx hb dX1_groupsByJoining_3 rfl hl (by decide) rfl (fun ls hl => ?_)
  have hL_4 : ∀ (fu : Nat) (K_4 : SPar) (x1_4 : Int32) (x2_4 : Int32) (v : Int32) (H : Heap) (locs : List Loc) (ls : Array Slot), X1_groupsByJoining_L4 fu K_4 x1_4 x2_4 = some v → va_P D vwCl (wPar cI a K_4) H → va_S (fun q : Nat => s.heap.size ≤ q) s.heap H locs → lv_has ls 3 [(0, .ref (a 0)), (1, .int x1_4), (2, .int x2_4)] → (∀ (H : Heap) (locs : List Loc) (ls : Array Slot), va_P D vwCl (wPar cI a K_4) H → va_S (fun q : Nat => s.heap.size ≤ q) s.heap H locs → lv_has ls 3 [(1, .int v)] → W p l e rm_X1_groupsByJoining s m args below meth c H locs 0 0 (QR below args s z) (F0 m 33 ls [])) → W p l e rm_X1_groupsByJoining s m args below meth c H locs 0 0 (QR below args s z) (F0 m 4 ls []) := by
    intro fu
    induction fu with
    | zero =>
      intro K_4 x1_4 x2_4 v H locs ls hf
      exact absurd hf (by simp [X1_groupsByJoining_L4])
    | succ fu ih =>
      intro K_4 x1_4 x2_4 v _ _ ls hf hP hS hl hk
      rw [X1_groupsByJoining_L4] at hf
      refine lv_iload_n hx hb dX1_groupsByJoining_4 rfl (lv_at hl 2 rfl) ?_
      refine lv_aload_n hx hb dX1_groupsByJoining_5 rfl (lv_at hl 0 rfl) ?_
      refine gX1_63 F hX hP 0 rfl (v := .int (K_4.2.1 0)) rfl dX1_groupsByJoining_6 ?_
      refine lv_icmp_ge (tgt := 33) hx hb dX1_groupsByJoining_9 (by decide) (fun c_1 => ?_) (fun c_1 => ?_)
      · replace hf := (if_pos c_1).symm.trans hf
        obtain rfl := Option.some.inj hf
        exact hk _ _ ls hP hS (lv_sub hl [1] rfl)
      · replace hf := (if_neg c_1).symm.trans hf
        refine lv_aload_n hx hb dX1_groupsByJoining_12 rfl (lv_at hl 0 rfl) ?_
        refine gX1_26 F hX hP 0 rfl (v := .ref (a 7)) rfl dX1_groupsByJoining_13 ?_
        refine lv_iload_n hx hb dX1_groupsByJoining_16 rfl (lv_at hl 2 rfl) ?_
        refine k_rd (runVN F hX wdX1_128 (rm := rm_X2_get) (As := [.int x2_4]) (rest := []) ⟨rfl, rfl⟩ ⟨Nat.le_of_ble_eq_true rfl, Nat.le_of_ble_eq_true rfl⟩ hl.1 rfl rfl (Nat.le_of_ble_eq_true rfl) dX1_groupsByJoining_17 ⟨Nat.zero_le _, Nat.zero_le _⟩) (k_rget l D cI cP (a 7) (a 8) 12 (by decide) (K_4.1 3) x2_4) hX (va_recv hX.1 (va_blk (Bs := (bPar cI a K_4)) hP 4 rfl) (ci := 2) (q0 := 0) rfl rfl) (va_blk (Bs := (bPar cI a K_4)) hP 4 rfl) hP hS hA (fun H locs hP hS => ?_)
        refine lv_iload_n hx hb dX1_groupsByJoining_20 rfl (lv_at hl 2 rfl) ?_
        refine lv_icmp_ne (tgt := 27) hx hb dX1_groupsByJoining_21 (by decide) (fun c_2 => ?_) (fun c_2 => ?_)
        · replace hf := (if_neg c_2).symm.trans hf
          refine lv_iinc (v := (x2_4 + 1)) (lv' := [(2, .int (x2_4 + 1)), (0, .ref (a 0)), (1, .int x1_4)]) hx hb dX1_groupsByJoining_27 hl (k := 2) rfl (by rfl) (by decide) rfl (fun ls hl => ?_)
          refine lv_goto (tgt := 4) hx hb dX1_groupsByJoining_30 (by decide) ?_
          exact ih K_4 x1_4 (x2_4 + 1) _ _ _ ls hf hP hS (lv_sub hl [1, 2, 0] rfl) hk
        · replace hf := (if_pos c_2).symm.trans hf
          refine lv_iinc (v := (x1_4 + 1)) (lv' := [(1, .int (x1_4 + 1)), (0, .ref (a 0)), (2, .int x2_4)]) hx hb dX1_groupsByJoining_24 hl (k := 1) rfl (by rfl) (by decide) rfl (fun ls hl => ?_)
          refine lv_iinc (v := (x2_4 + 1)) (lv' := [(2, .int (x2_4 + 1)), (1, .int (x1_4 + 1)), (0, .ref (a 0))]) hx hb dX1_groupsByJoining_27 hl (k := 2) rfl (by rfl) (by decide) rfl (fun ls hl => ?_)
          refine lv_goto (tgt := 4) hx hb dX1_groupsByJoining_30 (by decide) ?_
          exact ih K_4 (x1_4 + 1) (x2_4 + 1) _ _ _ ls hf hP hS (lv_sub hl [2, 1, 0] rfl) hk
  obtain ⟨u_3, h_4, hf⟩ := ob hf
  refine hL_4 FUEL K 0 0 u_3 _ _ ls h_4 hP hS (lv_sub hl [2, 1, 0] rfl) (fun H locs ls hP hS hl => ?_)
  clear hL_4
  refine lv_iload_n hx hb dX1_groupsByJoining_33 rfl (lv_at hl 0 rfl) ?_
  exact rd_i F (Option.some.inj hf) hS dX1_groupsByJoining_34
def X1_walkFrom_L6 : Nat → SPar → Int32 → Int32 → Option (Int32)
  | 0, _, _, _ => none
  | fu + 1, K_6, x2_6, x3_6 => (if 12 ≤ x3_6 then some x2_6 else ((X3_oneStringFurther K_6.2.2.1 x2_6).bind fun u_2 => X1_walkFrom_L6 fu K_6 u_2 (x3_6 + 1)))
def X1_walkFrom (K : SPar) (x1 : Int32) : Option (Int32) := ((X1_walkFrom_L6 FUEL K (1 <<< (x1 &&& 31)) 0).bind fun u_4 => some u_4)
abbrev rm_X1_walkFrom : Room := { frames := 2, cells := 0, slots := 0, locals := 45 }
set_option maxHeartbeats 4000000 in
set_option maxRecDepth 100000 in
theorem c_X1_walkFrom (l : Launch) (D : va_G) (cI cP : ClassId) (a : Nat → Nat) (K : SPar) (x1 : Int32) (z : Int32) (hf : X1_walkFrom K x1 = some z) : MRd l yX1_walkFrom cX1_walkFrom 4 (some .int) rm_X1_walkFrom D cI cP [.ref (a 0), .int x1] (wPar cI a K) z := by
  refine MRd.of (by decide +kernel) (Nat.le_of_ble_eq_true rfl) ?_
  intro p e s m args below meth c ls F hX hP hS hl
  have F : Fx p s m args meth c RX1 cX1_walkFrom 4 (some .int) := F
  have hx := F.1
  have hb := F.2.1
  have hown := F.2.2.2.1
  have hts := F.2.2.2.2.1
  have hA : ∀ q : Nat, s.heap.size ≤ q → (fun q : Nat => s.heap.size ≤ q) q := fun _ h => h
  have hl : lv_has ls 4 [(0, .ref (a 0)), (1, .int x1)] := hl
  unfold X1_walkFrom at hf
  refine lv_iconst (v := 1) hx hb dX1_walkFrom_0 (by decide) ?_
  refine lv_iload_n hx hb dX1_walkFrom_1 rfl (lv_at hl 1 rfl) ?_
  refine lv_ishl hx hb dX1_walkFrom_2 ?_
  refine lv_istore_n (lv' := [(2, .int (1 <<< (x1 &&& 31))), (0, .ref (a 0)), (1, .int x1)]) hx hb dX1_walkFrom_3 rfl hl (by decide) rfl (fun ls hl => ?_)
  refine lv_iconst (v := 0) hx hb dX1_walkFrom_4 (by decide) ?_
  refine lv_istore_n (lv' := [(3, .int 0), (2, .int (1 <<< (x1 &&& 31))), (0, .ref (a 0)), (1, .int x1)]) hx hb dX1_walkFrom_5 rfl hl (by decide) rfl (fun ls hl => ?_)
  have hL_6 : ∀ (fu : Nat) (K_6 : SPar) (x2_6 : Int32) (x3_6 : Int32) (v : Int32) (H : Heap) (locs : List Loc) (ls : Array Slot), X1_walkFrom_L6 fu K_6 x2_6 x3_6 = some v → va_P D vwCl (wPar cI a K_6) H → va_S (fun q : Nat => s.heap.size ≤ q) s.heap H locs → lv_has ls 4 [(0, .ref (a 0)), (2, .int x2_6), (3, .int x3_6)] → (∀ (H : Heap) (locs : List Loc) (ls : Array Slot), va_P D vwCl (wPar cI a K_6) H → va_S (fun q : Nat => s.heap.size ≤ q) s.heap H locs → lv_has ls 4 [(2, .int v)] → W p l e rm_X1_walkFrom s m args below meth c H locs 0 0 (QR below args s z) (F0 m 27 ls [])) → W p l e rm_X1_walkFrom s m args below meth c H locs 0 0 (QR below args s z) (F0 m 6 ls []) := by
    intro fu
    induction fu with
    | zero =>
      intro K_6 x2_6 x3_6 v H locs ls hf
      exact absurd hf (by simp [X1_walkFrom_L6])
    | succ fu ih =>
      intro K_6 x2_6 x3_6 v _ _ ls hf hP hS hl hk
      rw [X1_walkFrom_L6] at hf
      refine lv_iload_n hx hb dX1_walkFrom_6 rfl (lv_at hl 2 rfl) ?_
      refine lv_bipush (v := 12) hx hb dX1_walkFrom_7 (by decide) ?_
      refine lv_icmp_ge (tgt := 27) hx hb dX1_walkFrom_9 (by decide) (fun c_1 => ?_) (fun c_1 => ?_)
      · replace hf := (if_pos c_1).symm.trans hf
        obtain rfl := Option.some.inj hf
        exact hk _ _ ls hP hS (lv_sub hl [1] rfl)
      · replace hf := (if_neg c_1).symm.trans hf
        refine lv_aload_n hx hb dX1_walkFrom_12 rfl (lv_at hl 0 rfl) ?_
        refine gX1_38 F hX hP 0 rfl (v := .ref (a 13)) rfl dX1_walkFrom_13 ?_
        refine lv_iload_n hx hb dX1_walkFrom_16 rfl (lv_at hl 1 rfl) ?_
        obtain ⟨u_2, h_3, hf⟩ := ob hf
        refine k_rd (runVN F hX wdX1_180 (rm := rm_X3_oneStringFurther) (As := [.int x2_6]) (rest := []) ⟨rfl, rfl⟩ ⟨Nat.le_of_ble_eq_true rfl, Nat.le_of_ble_eq_true rfl⟩ hl.1 rfl rfl (Nat.le_of_ble_eq_true rfl) dX1_walkFrom_17 ⟨Nat.zero_le _, Nat.zero_le _⟩) (c_X3_oneStringFurther l D cI cP (fun k => a (13 + k)) K_6.2.2.1 x2_6 _ h_3) hX (va_recv hX.1 (va_blk (Bs := (bPar cI a K_6)) hP 7 rfl) (ci := 3) (q0 := 0) rfl rfl) (va_blk (Bs := (bPar cI a K_6)) hP 7 rfl) hP hS hA (fun H locs hP hS => ?_)
        refine lv_istore_n (lv' := [(2, .int u_2), (0, .ref (a 0)), (3, .int x3_6)]) hx hb dX1_walkFrom_20 rfl hl (by decide) rfl (fun ls hl => ?_)
        refine lv_iinc (v := (x3_6 + 1)) (lv' := [(3, .int (x3_6 + 1)), (2, .int u_2), (0, .ref (a 0))]) hx hb dX1_walkFrom_21 hl (k := 2) rfl (by rfl) (by decide) rfl (fun ls hl => ?_)
        refine lv_goto (tgt := 6) hx hb dX1_walkFrom_24 (by decide) ?_
        exact ih K_6 u_2 (x3_6 + 1) _ _ _ ls hf hP hS (lv_sub hl [2, 1, 0] rfl) hk
  obtain ⟨u_4, h_5, hf⟩ := ob hf
  refine hL_6 FUEL K (1 <<< (x1 &&& 31)) 0 u_4 _ _ ls h_5 hP hS (lv_sub hl [2, 1, 0] rfl) (fun H locs ls hP hS hl => ?_)
  clear hL_6
  refine lv_iload_n hx hb dX1_walkFrom_27 rfl (lv_at hl 0 rfl) ?_
  exact rd_i F (Option.some.inj hf) hS dX1_walkFrom_28
def X1_groupsByWalking_L6 : Nat → SPar → Int32 → Int32 → Int32 → Option (Int32)
  | 0, _, _, _, _ => none
  | fu + 1, K_6, x1_6, x2_6, x3_6 => (if (K_6.2.1 0) ≤ x3_6 then some x1_6 else (if (X6_isMember x2_6 x3_6) = 0 then ((X1_walkFrom K_6 x3_6).bind fun u_3 => X1_groupsByWalking_L6 fu K_6 (x1_6 + 1) (x2_6 ||| u_3) (x3_6 + 1)) else X1_groupsByWalking_L6 fu K_6 x1_6 x2_6 (x3_6 + 1)))
def X1_groupsByWalking (K : SPar) : Option (Int32) := ((X1_groupsByWalking_L6 FUEL K 0 0 0).bind fun u_5 => some u_5)
abbrev rm_X1_groupsByWalking : Room := { frames := 3, cells := 0, slots := 0, locals := 68 }
set_option maxHeartbeats 4000000 in
set_option maxRecDepth 100000 in
theorem c_X1_groupsByWalking (l : Launch) (D : va_G) (cI cP : ClassId) (a : Nat → Nat) (K : SPar) (z : Int32) (hf : X1_groupsByWalking K  = some z) : MRd l yX1_groupsByWalking cX1_groupsByWalking 4 (some .int) rm_X1_groupsByWalking D cI cP [.ref (a 0)] (wPar cI a K) z := by
  refine MRd.of (by decide +kernel) (Nat.le_of_ble_eq_true rfl) ?_
  intro p e s m args below meth c ls F hX hP hS hl
  have F : Fx p s m args meth c RX1 cX1_groupsByWalking 4 (some .int) := F
  have hx := F.1
  have hb := F.2.1
  have hown := F.2.2.2.1
  have hts := F.2.2.2.2.1
  have hA : ∀ q : Nat, s.heap.size ≤ q → (fun q : Nat => s.heap.size ≤ q) q := fun _ h => h
  have hl : lv_has ls 4 [(0, .ref (a 0))] := hl
  unfold X1_groupsByWalking at hf
  refine lv_iconst (v := 0) hx hb dX1_groupsByWalking_0 (by decide) ?_
  refine lv_istore_n (lv' := [(1, .int 0), (0, .ref (a 0))]) hx hb dX1_groupsByWalking_1 rfl hl (by decide) rfl (fun ls hl => ?_)
  refine lv_iconst (v := 0) hx hb dX1_groupsByWalking_2 (by decide) ?_
  refine lv_istore_n (lv' := [(2, .int 0), (1, .int 0), (0, .ref (a 0))]) hx hb dX1_groupsByWalking_3 rfl hl (by decide) rfl (fun ls hl => ?_)
  refine lv_iconst (v := 0) hx hb dX1_groupsByWalking_4 (by decide) ?_
  refine lv_istore_n (lv' := [(3, .int 0), (2, .int 0), (1, .int 0), (0, .ref (a 0))]) hx hb dX1_groupsByWalking_5 rfl hl (by decide) rfl (fun ls hl => ?_)
  have hL_6 : ∀ (fu : Nat) (K_6 : SPar) (x1_6 : Int32) (x2_6 : Int32) (x3_6 : Int32) (v : Int32) (H : Heap) (locs : List Loc) (ls : Array Slot), X1_groupsByWalking_L6 fu K_6 x1_6 x2_6 x3_6 = some v → va_P D vwCl (wPar cI a K_6) H → va_S (fun q : Nat => s.heap.size ≤ q) s.heap H locs → lv_has ls 4 [(0, .ref (a 0)), (1, .int x1_6), (2, .int x2_6), (3, .int x3_6)] → (∀ (H : Heap) (locs : List Loc) (ls : Array Slot), va_P D vwCl (wPar cI a K_6) H → va_S (fun q : Nat => s.heap.size ≤ q) s.heap H locs → lv_has ls 4 [(1, .int v)] → W p l e rm_X1_groupsByWalking s m args below meth c H locs 0 0 (QR below args s z) (F0 m 39 ls [])) → W p l e rm_X1_groupsByWalking s m args below meth c H locs 0 0 (QR below args s z) (F0 m 6 ls []) := by
    intro fu
    induction fu with
    | zero =>
      intro K_6 x1_6 x2_6 x3_6 v H locs ls hf
      exact absurd hf (by simp [X1_groupsByWalking_L6])
    | succ fu ih =>
      intro K_6 x1_6 x2_6 x3_6 v _ _ ls hf hP hS hl hk
      rw [X1_groupsByWalking_L6] at hf
      refine lv_iload_n hx hb dX1_groupsByWalking_6 rfl (lv_at hl 3 rfl) ?_
      refine lv_aload_n hx hb dX1_groupsByWalking_7 rfl (lv_at hl 0 rfl) ?_
      refine gX1_63 F hX hP 0 rfl (v := .int (K_6.2.1 0)) rfl dX1_groupsByWalking_8 ?_
      refine lv_icmp_ge (tgt := 39) hx hb dX1_groupsByWalking_11 (by decide) (fun c_1 => ?_) (fun c_1 => ?_)
      · replace hf := (if_pos c_1).symm.trans hf
        obtain rfl := Option.some.inj hf
        exact hk _ _ ls hP hS (lv_sub hl [1] rfl)
      · replace hf := (if_neg c_1).symm.trans hf
        refine lv_iload_n hx hb dX1_groupsByWalking_14 rfl (lv_at hl 2 rfl) ?_
        refine lv_iload_n hx hb dX1_groupsByWalking_15 rfl (lv_at hl 3 rfl) ?_
        refine k_rd (runSN F hX wdX1_174 (rm := rm_X6_isMember) (As := [.int x2_6, .int x3_6]) (rest := []) ⟨rfl, rfl⟩ ⟨Nat.le_of_ble_eq_true rfl, Nat.le_of_ble_eq_true rfl⟩ hl.1 rfl rfl (Nat.le_of_ble_eq_true rfl) dX1_groupsByWalking_16 ⟨Nat.zero_le _, Nat.zero_le _⟩) (c_X6_isMember l D cI cP x2_6 x3_6 _ rfl) hX trivial vP_nil hP hS hA (fun H locs hP hS => ?_)
        refine lv_if_ne (tgt := 33) hx hb dX1_groupsByWalking_19 (by decide) (fun c_2 => ?_) (fun c_2 => ?_)
        · replace hf := (if_neg c_2).symm.trans hf
          refine lv_iinc (v := (x3_6 + 1)) (lv' := [(3, .int (x3_6 + 1)), (0, .ref (a 0)), (1, .int x1_6), (2, .int x2_6)]) hx hb dX1_groupsByWalking_33 hl (k := 3) rfl (by rfl) (by decide) rfl (fun ls hl => ?_)
          refine lv_goto (tgt := 6) hx hb dX1_groupsByWalking_36 (by decide) ?_
          exact ih K_6 x1_6 x2_6 (x3_6 + 1) _ _ _ ls hf hP hS (lv_sub hl [1, 2, 3, 0] rfl) hk
        · replace hf := (if_pos c_2).symm.trans hf
          refine lv_iload_n hx hb dX1_groupsByWalking_22 rfl (lv_at hl 2 rfl) ?_
          refine lv_aload_n hx hb dX1_groupsByWalking_23 rfl (lv_at hl 0 rfl) ?_
          refine lv_iload_n hx hb dX1_groupsByWalking_24 rfl (lv_at hl 3 rfl) ?_
          obtain ⟨u_3, h_4, hf⟩ := ob hf
          refine k_rd (runV F wdX1_177 (rm := rm_X1_walkFrom) (As := [.int x3_6]) (rest := [.int x2_6]) ⟨rfl, rfl⟩ ⟨Nat.le_of_ble_eq_true rfl, Nat.le_of_ble_eq_true rfl⟩ hl.1 rfl rfl (Nat.le_of_ble_eq_true rfl) dX1_groupsByWalking_25 ⟨Nat.zero_le _, Nat.zero_le _⟩) (c_X1_walkFrom l D cI cP a K_6 x3_6 _ h_4) hX (va_recv hX.1 hP (ci := 1) (q0 := 0) rfl rfl) hP hP hS hA (fun H locs hP hS => ?_)
          refine lv_ior hx hb dX1_groupsByWalking_28 ?_
          refine lv_istore_n (lv' := [(2, .int (x2_6 ||| u_3)), (0, .ref (a 0)), (1, .int x1_6), (3, .int x3_6)]) hx hb dX1_groupsByWalking_29 rfl hl (by decide) rfl (fun ls hl => ?_)
          refine lv_iinc (v := (x1_6 + 1)) (lv' := [(1, .int (x1_6 + 1)), (2, .int (x2_6 ||| u_3)), (0, .ref (a 0)), (3, .int x3_6)]) hx hb dX1_groupsByWalking_30 hl (k := 2) rfl (by rfl) (by decide) rfl (fun ls hl => ?_)
          refine lv_iinc (v := (x3_6 + 1)) (lv' := [(3, .int (x3_6 + 1)), (1, .int (x1_6 + 1)), (2, .int (x2_6 ||| u_3)), (0, .ref (a 0))]) hx hb dX1_groupsByWalking_33 hl (k := 3) rfl (by rfl) (by decide) rfl (fun ls hl => ?_)
          refine lv_goto (tgt := 6) hx hb dX1_groupsByWalking_36 (by decide) ?_
          exact ih K_6 (x1_6 + 1) (x2_6 ||| u_3) (x3_6 + 1) _ _ _ ls hf hP hS (lv_sub hl [3, 1, 2, 0] rfl) hk
  obtain ⟨u_5, h_6, hf⟩ := ob hf
  refine hL_6 FUEL K 0 0 0 u_5 _ _ ls h_6 hP hS (lv_sub hl [3, 2, 1, 0] rfl) (fun H locs ls hP hS hl => ?_)
  clear hL_6
  refine lv_iload_n hx hb dX1_groupsByWalking_39 rfl (lv_at hl 0 rfl) ?_
  exact rd_i F (Option.some.inj hf) hS dX1_groupsByWalking_40
