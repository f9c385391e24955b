def X6_puppetOf (K : SMain) (x1 : Int32) (x2 : Int32) : Option (Int32) := (if (X1_hasPuppet K.2.2.2.1 x1) = 0 then some (-1000001) else (if x2 = 0 then some (rget 12 (K.2.2.2.1.1 0) x1) else (if x2 = 1 then some (rget 12 (K.2.2.2.1.1 1) x1) else (if x2 = 2 then (if (X1_isPulled K.2.2.2.1 x1) = 0 then some (-1000004) else some (rget 12 (K.2.2.2.1.1 2) x1)) else (if x2 = 3 then some (rget 12 (K.2.2.2.1.1 5) x1) else (if x2 = 4 then some (rget 12 (K.2.2.2.1.1 3) x1) else (if x2 = 5 then some (rget 12 (K.2.2.2.1.1 4) x1) else (if x2 = 6 then ((X3_howManyAt K.2.2.2.1.2.2.1 x1).bind fun u_10 => some u_10) else (if x2 = 7 then ((X1_membersOf K.2.2.2.1 (rget 12 (K.2.2.2.1.1 3) x1)).bind fun u_13 => some u_13) else (if x2 = 8 then ((X1_membersOf K.2.2.2.1 (rget 12 (K.2.2.2.1.1 3) x1)).bind fun u_16 => ((X1_seatsIn K.2.2.2.1 u_16).bind fun u_18 => some u_18)) else some (-1000001)))))))))))
abbrev rm_X6_puppetOf : Room := { frames := 2, cells := 0, slots := 0, locals := 44 }
set_option maxHeartbeats 4000000 in
set_option maxRecDepth 100000 in
theorem c_X6_puppetOf (l : Launch) (D : va_G) (cI cP : ClassId) (o h : Nat) (tx tn : Nat → Nat) (Ad : Nat → Nat → Nat) (K : SMain) (x1 : Int32) (x2 : Int32) (z : Int32) (hf : X6_puppetOf K x1 x2 = some z) : MRd l yX6_puppetOf cX6_puppetOf 4 (some .int) rm_X6_puppetOf D cI cP [.ref o, .int x1, .int x2] (wMain cI cP o h tx tn Ad K) z := by
  refine MRd.of (by decide +kernel) (Nat.le_of_ble_eq_true rfl) ?_
  intro p e s m args below meth c ls F hX hP hS hl
  have F : Fx p s m args meth c RX6 cX6_puppetOf 4 (some .int) := F
  have hx := F.1
  have hb := F.2.1
  have hown := F.2.2.2.1
  have hts := F.2.2.2.2.1
  have hA : ∀ q : Nat, s.heap.size ≤ q → (fun q : Nat => s.heap.size ≤ q) q := fun _ h => h
  have hl : lv_has ls 4 [(0, .ref o), (1, .int x1), (2, .int x2)] := hl
  unfold X6_puppetOf at hf
  refine lv_aload_n hx hb dX6_puppetOf_0 rfl (lv_at hl 0 rfl) ?_
  refine gX6_10 F hX hP 0 rfl (v := .ref (Ad 0 0)) rfl dX6_puppetOf_1 ?_
  refine lv_iload_n hx hb dX6_puppetOf_4 rfl (lv_at hl 1 rfl) ?_
  refine k_rd (runVN F hX wdX6_73 (rm := rm_X1_hasPuppet) (As := [.int x1]) (rest := []) ⟨rfl, rfl⟩ ⟨Nat.le_of_ble_eq_true rfl, Nat.le_of_ble_eq_true rfl⟩ hl.1 rfl rfl (Nat.le_of_ble_eq_true rfl) dX6_puppetOf_5 ⟨Nat.zero_le _, Nat.zero_le _⟩) (c_X1_hasPuppet l D cI cP (Ad 0) K.2.2.2.1 x1 _ rfl) hX (va_recv hX.1 (va_blk (Bs := (bMain cI cP o h tx tn Ad K)) hP 4 rfl) (ci := 1) (q0 := 0) rfl rfl) (va_blk (Bs := (bMain cI cP o h tx tn Ad K)) hP 4 rfl) hP hS hA (fun H locs hP hS => ?_)
  refine lv_if_ne (tgt := 14) hx hb dX6_puppetOf_8 (by decide) (fun c_1 => ?_) (fun c_1 => ?_)
  · replace hf := (if_neg c_1).symm.trans hf
    refine lv_aload_n hx hb dX6_puppetOf_14 rfl (lv_at hl 0 rfl) ?_
    refine gX6_10 F hX hP 0 rfl (v := .ref (Ad 0 0)) rfl dX6_puppetOf_15 ?_
    refine gX6_77 F hX (va_blk (Bs := (bMain cI cP o h tx tn Ad K)) hP 4 rfl) 0 rfl (v := .ref (Ad 0 7)) rfl dX6_puppetOf_18 ?_
    refine lv_iload_n hx hb dX6_puppetOf_21 rfl (lv_at hl 1 rfl) ?_
    refine k_rd (runVN F hX wdX6_81 (rm := rm_X2_get) (As := [.int x1]) (rest := []) ⟨rfl, rfl⟩ ⟨Nat.le_of_ble_eq_true rfl, Nat.le_of_ble_eq_true rfl⟩ hl.1 rfl rfl (Nat.le_of_ble_eq_true rfl) dX6_puppetOf_22 ⟨Nat.zero_le _, Nat.zero_le _⟩) (k_rget l D cI cP (Ad 0 7) (Ad 0 8) 12 (by decide) (K.2.2.2.1.1 3) x1) hX (va_recv hX.1 (va_blk (Bs := (bPar cI (Ad 0) K.2.2.2.1)) (va_blk (Bs := (bMain cI cP o h tx tn Ad K)) hP 4 rfl) 4 rfl) (ci := 2) (q0 := 0) rfl rfl) (va_blk (Bs := (bPar cI (Ad 0) K.2.2.2.1)) (va_blk (Bs := (bMain cI cP o h tx tn Ad K)) hP 4 rfl) 4 rfl) hP hS hA (fun H locs hP hS => ?_)
    refine lv_istore_n (lv' := [(3, .int (rget 12 (K.2.2.2.1.1 3) x1)), (0, .ref o), (1, .int x1), (2, .int x2)]) hx hb dX6_puppetOf_25 rfl hl (by decide) rfl (fun ls hl => ?_)
    refine lv_iload_n hx hb dX6_puppetOf_26 rfl (lv_at hl 3 rfl) ?_
    rcases Decidable.em (x2 = 0) with c_2 | c_2
    · replace hf := (if_pos c_2).symm.trans hf
      refine lv_tableIn (off := 49) (tgt := 76) hx hb dX6_puppetOf_27 (by rw [c_2]; decide) (by rw [c_2]; decide) (by rw [c_2]; rfl) (by decide) ?_
      refine lv_aload_n hx hb dX6_puppetOf_76 rfl (lv_at hl 1 rfl) ?_
      refine gX6_10 F hX hP 0 rfl (v := .ref (Ad 0 0)) rfl dX6_puppetOf_77 ?_
      refine gX6_86 F hX (va_blk (Bs := (bMain cI cP o h tx tn Ad K)) hP 4 rfl) 0 rfl (v := .ref (Ad 0 1)) rfl dX6_puppetOf_80 ?_
      refine lv_iload_n hx hb dX6_puppetOf_83 rfl (lv_at hl 2 rfl) ?_
      refine k_rd (runVN F hX wdX6_81 (rm := rm_X2_get) (As := [.int x1]) (rest := []) ⟨rfl, rfl⟩ ⟨Nat.le_of_ble_eq_true rfl, Nat.le_of_ble_eq_true rfl⟩ hl.1 rfl rfl (Nat.le_of_ble_eq_true rfl) dX6_puppetOf_84 ⟨Nat.zero_le _, Nat.zero_le _⟩) (k_rget l D cI cP (Ad 0 1) (Ad 0 2) 12 (by decide) (K.2.2.2.1.1 0) x1) hX (va_recv hX.1 (va_blk (Bs := (bPar cI (Ad 0) K.2.2.2.1)) (va_blk (Bs := (bMain cI cP o h tx tn Ad K)) hP 4 rfl) 1 rfl) (ci := 2) (q0 := 0) rfl rfl) (va_blk (Bs := (bPar cI (Ad 0) K.2.2.2.1)) (va_blk (Bs := (bMain cI cP o h tx tn Ad K)) hP 4 rfl) 1 rfl) hP hS hA (fun H locs hP hS => ?_)
      exact rd_i F (Option.some.inj hf) hS dX6_puppetOf_87
    replace hf := (if_neg c_2).symm.trans hf
    rcases Decidable.em (x2 = 1) with c_3 | c_3
    · replace hf := (if_pos c_3).symm.trans hf
      refine lv_tableIn (off := 61) (tgt := 88) hx hb dX6_puppetOf_27 (by rw [c_3]; decide) (by rw [c_3]; decide) (by rw [c_3]; rfl) (by decide) ?_
      refine lv_aload_n hx hb dX6_puppetOf_88 rfl (lv_at hl 1 rfl) ?_
      refine gX6_10 F hX hP 0 rfl (v := .ref (Ad 0 0)) rfl dX6_puppetOf_89 ?_
      refine gX6_89 F hX (va_blk (Bs := (bMain cI cP o h tx tn Ad K)) hP 4 rfl) 0 rfl (v := .ref (Ad 0 3)) rfl dX6_puppetOf_92 ?_
      refine lv_iload_n hx hb dX6_puppetOf_95 rfl (lv_at hl 2 rfl) ?_
      refine k_rd (runVN F hX wdX6_81 (rm := rm_X2_get) (As := [.int x1]) (rest := []) ⟨rfl, rfl⟩ ⟨Nat.le_of_ble_eq_true rfl, Nat.le_of_ble_eq_true rfl⟩ hl.1 rfl rfl (Nat.le_of_ble_eq_true rfl) dX6_puppetOf_96 ⟨Nat.zero_le _, Nat.zero_le _⟩) (k_rget l D cI cP (Ad 0 3) (Ad 0 4) 12 (by decide) (K.2.2.2.1.1 1) x1) hX (va_recv hX.1 (va_blk (Bs := (bPar cI (Ad 0) K.2.2.2.1)) (va_blk (Bs := (bMain cI cP o h tx tn Ad K)) hP 4 rfl) 2 rfl) (ci := 2) (q0 := 0) rfl rfl) (va_blk (Bs := (bPar cI (Ad 0) K.2.2.2.1)) (va_blk (Bs := (bMain cI cP o h tx tn Ad K)) hP 4 rfl) 2 rfl) hP hS hA (fun H locs hP hS => ?_)
      exact rd_i F (Option.some.inj hf) hS dX6_puppetOf_99
    replace hf := (if_neg c_3).symm.trans hf
    rcases Decidable.em (x2 = 2) with c_4 | c_4
    · replace hf := (if_pos c_4).symm.trans hf
      refine lv_tableIn (off := 73) (tgt := 100) hx hb dX6_puppetOf_27 (by rw [c_4]; decide) (by rw [c_4]; decide) (by rw [c_4]; rfl) (by decide) ?_
      refine lv_aload_n hx hb dX6_puppetOf_100 rfl (lv_at hl 1 rfl) ?_
      refine gX6_10 F hX hP 0 rfl (v := .ref (Ad 0 0)) rfl dX6_puppetOf_101 ?_
      refine lv_iload_n hx hb dX6_puppetOf_104 rfl (lv_at hl 2 rfl) ?_
      refine k_rd (runVN F hX wdX6_92 (rm := rm_X1_isPulled) (As := [.int x1]) (rest := []) ⟨rfl, rfl⟩ ⟨Nat.le_of_ble_eq_true rfl, Nat.le_of_ble_eq_true rfl⟩ hl.1 rfl rfl (Nat.le_of_ble_eq_true rfl) dX6_puppetOf_105 ⟨Nat.zero_le _, Nat.zero_le _⟩) (c_X1_isPulled l D cI cP (Ad 0) K.2.2.2.1 x1 _ rfl) hX (va_recv hX.1 (va_blk (Bs := (bMain cI cP o h tx tn Ad K)) hP 4 rfl) (ci := 1) (q0 := 0) rfl rfl) (va_blk (Bs := (bMain cI cP o h tx tn Ad K)) hP 4 rfl) hP hS hA (fun H locs hP hS => ?_)
      refine lv_if_eq (tgt := 125) hx hb dX6_puppetOf_108 (by decide) (fun c_5 => ?_) (fun c_5 => ?_)
      · replace hf := (if_pos c_5).symm.trans hf
        refine lv_ldc (v := (-1000004)) hx hb hown (hts _ q_299) dX6_puppetOf_125 ?_
        exact rd_i F (Option.some.inj hf) hS dX6_puppetOf_127
      · replace hf := (if_neg c_5).symm.trans hf
        refine lv_aload_n hx hb dX6_puppetOf_111 rfl (lv_at hl 1 rfl) ?_
        refine gX6_10 F hX hP 0 rfl (v := .ref (Ad 0 0)) rfl dX6_puppetOf_112 ?_
        refine gX6_95 F hX (va_blk (Bs := (bMain cI cP o h tx tn Ad K)) hP 4 rfl) 0 rfl (v := .ref (Ad 0 5)) rfl dX6_puppetOf_115 ?_
        refine lv_iload_n hx hb dX6_puppetOf_118 rfl (lv_at hl 2 rfl) ?_
        refine k_rd (runVN F hX wdX6_81 (rm := rm_X2_get) (As := [.int x1]) (rest := []) ⟨rfl, rfl⟩ ⟨Nat.le_of_ble_eq_true rfl, Nat.le_of_ble_eq_true rfl⟩ hl.1 rfl rfl (Nat.le_of_ble_eq_true rfl) dX6_puppetOf_119 ⟨Nat.zero_le _, Nat.zero_le _⟩) (k_rget l D cI cP (Ad 0 5) (Ad 0 6) 12 (by decide) (K.2.2.2.1.1 2) x1) hX (va_recv hX.1 (va_blk (Bs := (bPar cI (Ad 0) K.2.2.2.1)) (va_blk (Bs := (bMain cI cP o h tx tn Ad K)) hP 4 rfl) 3 rfl) (ci := 2) (q0 := 0) rfl rfl) (va_blk (Bs := (bPar cI (Ad 0) K.2.2.2.1)) (va_blk (Bs := (bMain cI cP o h tx tn Ad K)) hP 4 rfl) 3 rfl) hP hS hA (fun H locs hP hS => ?_)
        refine lv_goto (tgt := 127) hx hb dX6_puppetOf_122 (by decide) ?_
        exact rd_i F (Option.some.inj hf) hS dX6_puppetOf_127
    replace hf := (if_neg c_4).symm.trans hf
    rcases Decidable.em (x2 = 3) with c_6 | c_6
    · replace hf := (if_pos c_6).symm.trans hf
      refine lv_tableIn (off := 101) (tgt := 128) hx hb dX6_puppetOf_27 (by rw [c_6]; decide) (by rw [c_6]; decide) (by rw [c_6]; rfl) (by decide) ?_
      refine lv_aload_n hx hb dX6_puppetOf_128 rfl (lv_at hl 1 rfl) ?_
      refine gX6_10 F hX hP 0 rfl (v := .ref (Ad 0 0)) rfl dX6_puppetOf_129 ?_
      refine gX6_99 F hX (va_blk (Bs := (bMain cI cP o h tx tn Ad K)) hP 4 rfl) 0 rfl (v := .ref (Ad 0 11)) rfl dX6_puppetOf_132 ?_
      refine lv_iload_n hx hb dX6_puppetOf_135 rfl (lv_at hl 2 rfl) ?_
      refine k_rd (runVN F hX wdX6_81 (rm := rm_X2_get) (As := [.int x1]) (rest := []) ⟨rfl, rfl⟩ ⟨Nat.le_of_ble_eq_true rfl, Nat.le_of_ble_eq_true rfl⟩ hl.1 rfl rfl (Nat.le_of_ble_eq_true rfl) dX6_puppetOf_136 ⟨Nat.zero_le _, Nat.zero_le _⟩) (k_rget l D cI cP (Ad 0 11) (Ad 0 12) 12 (by decide) (K.2.2.2.1.1 5) x1) hX (va_recv hX.1 (va_blk (Bs := (bPar cI (Ad 0) K.2.2.2.1)) (va_blk (Bs := (bMain cI cP o h tx tn Ad K)) hP 4 rfl) 6 rfl) (ci := 2) (q0 := 0) rfl rfl) (va_blk (Bs := (bPar cI (Ad 0) K.2.2.2.1)) (va_blk (Bs := (bMain cI cP o h tx tn Ad K)) hP 4 rfl) 6 rfl) hP hS hA (fun H locs hP hS => ?_)
      exact rd_i F (Option.some.inj hf) hS dX6_puppetOf_139
    replace hf := (if_neg c_6).symm.trans hf
    rcases Decidable.em (x2 = 4) with c_7 | c_7
    · replace hf := (if_pos c_7).symm.trans hf
      refine lv_tableIn (off := 113) (tgt := 140) hx hb dX6_puppetOf_27 (by rw [c_7]; decide) (by rw [c_7]; decide) (by rw [c_7]; rfl) (by decide) ?_
      refine lv_iload_n hx hb dX6_puppetOf_140 rfl (lv_at hl 0 rfl) ?_
      exact rd_i F (Option.some.inj hf) hS dX6_puppetOf_141
    replace hf := (if_neg c_7).symm.trans hf
    rcases Decidable.em (x2 = 5) with c_8 | c_8
    · replace hf := (if_pos c_8).symm.trans hf
      refine lv_tableIn (off := 115) (tgt := 142) hx hb dX6_puppetOf_27 (by rw [c_8]; decide) (by rw [c_8]; decide) (by rw [c_8]; rfl) (by decide) ?_
      refine lv_aload_n hx hb dX6_puppetOf_142 rfl (lv_at hl 1 rfl) ?_
      refine gX6_10 F hX hP 0 rfl (v := .ref (Ad 0 0)) rfl dX6_puppetOf_143 ?_
      refine gX6_102 F hX (va_blk (Bs := (bMain cI cP o h tx tn Ad K)) hP 4 rfl) 0 rfl (v := .ref (Ad 0 9)) rfl dX6_puppetOf_146 ?_
      refine lv_iload_n hx hb dX6_puppetOf_149 rfl (lv_at hl 2 rfl) ?_
      refine k_rd (runVN F hX wdX6_81 (rm := rm_X2_get) (As := [.int x1]) (rest := []) ⟨rfl, rfl⟩ ⟨Nat.le_of_ble_eq_true rfl, Nat.le_of_ble_eq_true rfl⟩ hl.1 rfl rfl (Nat.le_of_ble_eq_true rfl) dX6_puppetOf_150 ⟨Nat.zero_le _, Nat.zero_le _⟩) (k_rget l D cI cP (Ad 0 9) (Ad 0 10) 12 (by decide) (K.2.2.2.1.1 4) x1) hX (va_recv hX.1 (va_blk (Bs := (bPar cI (Ad 0) K.2.2.2.1)) (va_blk (Bs := (bMain cI cP o h tx tn Ad K)) hP 4 rfl) 5 rfl) (ci := 2) (q0 := 0) rfl rfl) (va_blk (Bs := (bPar cI (Ad 0) K.2.2.2.1)) (va_blk (Bs := (bMain cI cP o h tx tn Ad K)) hP 4 rfl) 5 rfl) hP hS hA (fun H locs hP hS => ?_)
      exact rd_i F (Option.some.inj hf) hS dX6_puppetOf_153
    replace hf := (if_neg c_8).symm.trans hf
    rcases Decidable.em (x2 = 6) with c_9 | c_9
    · replace hf := (if_pos c_9).symm.trans hf
      refine lv_tableIn (off := 127) (tgt := 154) hx hb dX6_puppetOf_27 (by rw [c_9]; decide) (by rw [c_9]; decide) (by rw [c_9]; rfl) (by decide) ?_
      refine lv_aload_n hx hb dX6_puppetOf_154 rfl (lv_at hl 1 rfl) ?_
      refine gX6_10 F hX hP 0 rfl (v := .ref (Ad 0 0)) rfl dX6_puppetOf_155 ?_
      refine gX6_105 F hX (va_blk (Bs := (bMain cI cP o h tx tn Ad K)) hP 4 rfl) 0 rfl (v := .ref (Ad 0 13)) rfl dX6_puppetOf_158 ?_
      refine lv_iload_n hx hb dX6_puppetOf_161 rfl (lv_at hl 2 rfl) ?_
      obtain ⟨u_10, h_11, hf⟩ := ob hf
      refine k_rd (runVN F hX wdX6_109 (rm := rm_X3_howManyAt) (As := [.int x1]) (rest := []) ⟨rfl, rfl⟩ ⟨Nat.le_of_ble_eq_true rfl, Nat.le_of_ble_eq_true rfl⟩ hl.1 rfl rfl (Nat.le_of_ble_eq_true rfl) dX6_puppetOf_162 ⟨Nat.zero_le _, Nat.zero_le _⟩) (c_X3_howManyAt l D cI cP (fun k => (Ad 0) (13 + k)) K.2.2.2.1.2.2.1 x1 _ h_11) hX (va_recv hX.1 (va_blk (Bs := (bPar cI (Ad 0) K.2.2.2.1)) (va_blk (Bs := (bMain cI cP o h tx tn Ad K)) hP 4 rfl) 7 rfl) (ci := 3) (q0 := 0) rfl rfl) (va_blk (Bs := (bPar cI (Ad 0) K.2.2.2.1)) (va_blk (Bs := (bMain cI cP o h tx tn Ad K)) hP 4 rfl) 7 rfl) hP hS hA (fun H locs hP hS => ?_)
      exact rd_i F (Option.some.inj hf) hS dX6_puppetOf_165
    replace hf := (if_neg c_9).symm.trans hf
    rcases Decidable.em (x2 = 7) with c_12 | c_12
    · replace hf := (if_pos c_12).symm.trans hf
      refine lv_tableIn (off := 139) (tgt := 166) hx hb dX6_puppetOf_27 (by rw [c_12]; decide) (by rw [c_12]; decide) (by rw [c_12]; rfl) (by decide) ?_
      refine lv_aload_n hx hb dX6_puppetOf_166 rfl (lv_at hl 1 rfl) ?_
      refine gX6_10 F hX hP 0 rfl (v := .ref (Ad 0 0)) rfl dX6_puppetOf_167 ?_
      refine lv_iload_n hx hb dX6_puppetOf_170 rfl (lv_at hl 0 rfl) ?_
      obtain ⟨u_13, h_14, hf⟩ := ob hf
      refine k_rd (runVN F hX wdX6_114 (rm := rm_X1_membersOf) (As := [.int (rget 12 (K.2.2.2.1.1 3) x1)]) (rest := []) ⟨rfl, rfl⟩ ⟨Nat.le_of_ble_eq_true rfl, Nat.le_of_ble_eq_true rfl⟩ hl.1 rfl rfl (Nat.le_of_ble_eq_true rfl) dX6_puppetOf_171 ⟨Nat.zero_le _, Nat.zero_le _⟩) (c_X1_membersOf l D cI cP (Ad 0) K.2.2.2.1 (rget 12 (K.2.2.2.1.1 3) x1) _ h_14) hX (va_recv hX.1 (va_blk (Bs := (bMain cI cP o h tx tn Ad K)) hP 4 rfl) (ci := 1) (q0 := 0) rfl rfl) (va_blk (Bs := (bMain cI cP o h tx tn Ad K)) hP 4 rfl) hP hS hA (fun H locs hP hS => ?_)
      exact rd_i F (Option.some.inj hf) hS dX6_puppetOf_174
    replace hf := (if_neg c_12).symm.trans hf
    rcases Decidable.em (x2 = 8) with c_15 | c_15
    · replace hf := (if_pos c_15).symm.trans hf
      refine lv_tableIn (off := 148) (tgt := 175) hx hb dX6_puppetOf_27 (by rw [c_15]; decide) (by rw [c_15]; decide) (by rw [c_15]; rfl) (by decide) ?_
      refine lv_aload_n hx hb dX6_puppetOf_175 rfl (lv_at hl 1 rfl) ?_
      refine gX6_10 F hX hP 0 rfl (v := .ref (Ad 0 0)) rfl dX6_puppetOf_176 ?_
      refine lv_aload_n hx hb dX6_puppetOf_179 rfl (lv_at hl 1 rfl) ?_
      refine gX6_10 F hX hP 0 rfl (v := .ref (Ad 0 0)) rfl dX6_puppetOf_180 ?_
      refine lv_iload_n hx hb dX6_puppetOf_183 rfl (lv_at hl 0 rfl) ?_
      obtain ⟨u_16, h_17, hf⟩ := ob hf
      refine k_rd (runVN F hX wdX6_114 (rm := rm_X1_membersOf) (As := [.int (rget 12 (K.2.2.2.1.1 3) x1)]) (rest := [.ref (Ad 0 0)]) ⟨rfl, rfl⟩ ⟨Nat.le_of_ble_eq_true rfl, Nat.le_of_ble_eq_true rfl⟩ hl.1 rfl rfl (Nat.le_of_ble_eq_true rfl) dX6_puppetOf_184 ⟨Nat.zero_le _, Nat.zero_le _⟩) (c_X1_membersOf l D cI cP (Ad 0) K.2.2.2.1 (rget 12 (K.2.2.2.1.1 3) x1) _ h_17) hX (va_recv hX.1 (va_blk (Bs := (bMain cI cP o h tx tn Ad K)) hP 4 rfl) (ci := 1) (q0 := 0) rfl rfl) (va_blk (Bs := (bMain cI cP o h tx tn Ad K)) hP 4 rfl) hP hS hA (fun H locs hP hS => ?_)
      obtain ⟨u_18, h_19, hf⟩ := ob hf
      refine k_rd (runVN F hX wdX6_117 (rm := rm_X1_seatsIn) (As := [.int u_16]) (rest := []) ⟨rfl, rfl⟩ ⟨Nat.le_of_ble_eq_true rfl, Nat.le_of_ble_eq_true rfl⟩ hl.1 rfl rfl (Nat.le_of_ble_eq_true rfl) dX6_puppetOf_187 ⟨Nat.zero_le _, Nat.zero_le _⟩) (c_X1_seatsIn l D cI cP (Ad 0) K.2.2.2.1 u_16 _ h_19) hX (va_recv hX.1 (va_blk (Bs := (bMain cI cP o h tx tn Ad K)) hP 4 rfl) (ci := 1) (q0 := 0) rfl rfl) (va_blk (Bs := (bMain cI cP o h tx tn Ad K)) hP 4 rfl) hP hS hA (fun H locs hP hS => ?_)
      exact rd_i F (Option.some.inj hf) hS dX6_puppetOf_190
    replace hf := (if_neg c_15).symm.trans hf
    refine lv_tableD (tgt := 191) (cs := [0, 1, 2, 3, 4, 5, 6, 7, 8]) hx hb dX6_puppetOf_27 (by decide) (by decide) (by decide) (by simp [c_2, c_3, c_4, c_6, c_7, c_8, c_9, c_12, c_15]) ?_
    refine lv_ldc (v := (-1000001)) hx hb hown (hts _ q_289) dX6_puppetOf_191 ?_
    exact rd_i F (Option.some.inj hf) hS dX6_puppetOf_193
  · replace hf := (if_pos c_1).symm.trans hf
    refine lv_ldc (v := (-1000001)) hx hb hown (hts _ q_289) dX6_puppetOf_11 ?_
    exact rd_i F (Option.some.inj hf) hS dX6_puppetOf_13
def X6_hangTogetherWithout (K : SMain) (x1 : Int32) : Option (SMain × Int32) := (bnd (K.1, K.2.1, K.2.2.1, K.2.2.2.1, K.2.2.2.1, K.2.2.2.2.2) fun M_1 => ((X1_cutString M_1.2.2.2.2.1 x1).bind fun u_3 => (bnd (M_1.1, M_1.2.1, M_1.2.2.1, M_1.2.2.2.1, u_3.1, M_1.2.2.2.2.2) fun M_5 => (if ((X1_hangTogether M_5.2.2.2.2.1 (rget 20 (M_5.2.2.2.1.2.2.1.1 0) x1) (rget 20 (M_5.2.2.2.1.2.2.1.1 1) x1)) = 0 ∨ (X1_hangTogether M_5.2.2.2.2.1 (rget 20 (M_5.2.2.2.1.2.2.1.1 0) x1) (rget 20 (M_5.2.2.2.1.2.2.1.1 1) x1)) = 1) then some (M_5, (X1_hangTogether M_5.2.2.2.2.1 (rget 20 (M_5.2.2.2.1.2.2.1.1 0) x1) (rget 20 (M_5.2.2.2.1.2.2.1.1 1) x1))) else none))))
abbrev rm_X6_hangTogetherWithout : Room := { frames := 4, cells := 0, slots := 0, locals := 103 }
set_option maxHeartbeats 4000000 in
set_option maxRecDepth 100000 in
theorem c_X6_hangTogetherWithout (l : Launch) (D : va_G) (cI cP : ClassId) (o h : Nat) (tx tn : Nat → Nat) (Ad : Nat → Nat → Nat) (K : SMain) (x1 : Int32) (z : SMain × Int32) (hf : X6_hangTogetherWithout K x1 = some z) : MWi l yX6_hangTogetherWithout cX6_hangTogetherWithout 2 (some .boolean) rm_X6_hangTogetherWithout D cI cP [.ref o, .int x1] (wMain cI cP o h tx tn Ad K) (wMain cI cP o h tx tn Ad z.1) z.2 := by
  refine MWi.of (by decide +kernel) (Nat.le_of_ble_eq_true rfl) ?_
  intro p e s m args below meth c ls A F hX hP hD hA hS hl
  have F : Fx p s m args meth c RX6 cX6_hangTogetherWithout 2 (some .boolean) := F
  have hx := F.1
  have hb := F.2.1
  have hown := F.2.2.2.1
  have hts := F.2.2.2.2.1
  have hl : lv_has ls 2 [(0, .ref o), (1, .int x1)] := hl
  unfold X6_hangTogetherWithout at hf
  refine lv_aload_n hx hb dX6_hangTogetherWithout_0 rfl (lv_at hl 0 rfl) ?_
  refine gX6_16 F hX hP 0 rfl (v := .ref (Ad 1 0)) rfl dX6_hangTogetherWithout_1 ?_
  refine lv_aload_n hx hb dX6_hangTogetherWithout_4 rfl (lv_at hl 0 rfl) ?_
  refine gX6_10 F hX hP 0 rfl (v := .ref (Ad 0 0)) rfl dX6_hangTogetherWithout_5 ?_
  refine k_wv (runVN F hX wdX6_37 (rm := rm_X1_copyFrom) (As := [.ref (Ad 0 0)]) (rest := []) ⟨rfl, rfl⟩ ⟨Nat.le_of_ble_eq_true rfl, Nat.le_of_ble_eq_true rfl⟩ hl.1 rfl rfl (Nat.le_of_ble_eq_true rfl) dX6_hangTogetherWithout_8 ⟨Nat.zero_le _, Nat.zero_le _⟩) (k_pcopy l D cI cP (Ad 1) (Ad 0) K.2.2.2.2.1 K.2.2.2.1) hX (va_recv hX.1 (va_blk (Bs := (bMain cI cP o h tx tn Ad K)) hP 5 rfl) (ci := 1) (q0 := 0) rfl rfl) (Cut.two (Bs := (bMain cI cP o h tx tn Ad K)) (k := 5) (j := 4) rfl rfl (by decide) rfl) hP hD hS hA (fun H locs hP hD hS => ?_)
  obtain ⟨M_1, e_2, hf⟩ := bnd_e hf
  have hP : va_P D vwCl (wMain cI cP o h tx tn Ad M_1) H := by rw [e_2]; exact hP
  have hD : va_D A (wMain cI cP o h tx tn Ad M_1) := by rw [e_2]; exact hD
  clear e_2
  refine lv_aload_n hx hb dX6_hangTogetherWithout_11 rfl (lv_at hl 0 rfl) ?_
  refine gX6_16 F hX hP 0 rfl (v := .ref (Ad 1 0)) rfl dX6_hangTogetherWithout_12 ?_
  refine lv_iload_n hx hb dX6_hangTogetherWithout_15 rfl (lv_at hl 1 rfl) ?_
  obtain ⟨u_3, h_4, hf⟩ := ob hf
  refine k_wi (runVN F hX wdX6_53 (rm := rm_X1_cutString) (As := [.int x1]) (rest := []) ⟨rfl, rfl⟩ ⟨Nat.le_of_ble_eq_true rfl, Nat.le_of_ble_eq_true rfl⟩ hl.1 rfl rfl (Nat.le_of_ble_eq_true rfl) dX6_hangTogetherWithout_16 ⟨Nat.zero_le _, Nat.zero_le _⟩) (c_X1_cutString l D cI cP (Ad 1) M_1.2.2.2.2.1 x1 _ h_4) hX (va_recv hX.1 (va_blk (Bs := (bMain cI cP o h tx tn Ad M_1)) hP 5 rfl) (ci := 1) (q0 := 0) rfl rfl) (Cut.one (Bs := (bMain cI cP o h tx tn Ad M_1)) (k := 5) rfl rfl) hP hD hS hA (fun H locs hP hD hS => ?_)
  obtain ⟨M_5, e_6, hf⟩ := bnd_e hf
  have hP : va_P D vwCl (wMain cI cP o h tx tn Ad M_5) H := by rw [e_6]; exact hP
  have hD : va_D A (wMain cI cP o h tx tn Ad M_5) := by rw [e_6]; exact hD
  clear e_6
  refine lv_pop hx hb dX6_hangTogetherWithout_19 rfl ?_
  refine lv_aload_n hx hb dX6_hangTogetherWithout_20 rfl (lv_at hl 0 rfl) ?_
  refine gX6_16 F hX hP 0 rfl (v := .ref (Ad 1 0)) rfl dX6_hangTogetherWithout_21 ?_
  refine lv_aload_n hx hb dX6_hangTogetherWithout_24 rfl (lv_at hl 0 rfl) ?_
  refine gX6_10 F hX hP 0 rfl (v := .ref (Ad 0 0)) rfl dX6_hangTogetherWithout_25 ?_
  refine gX6_105 F hX (va_blk (Bs := (bMain cI cP o h tx tn Ad M_5)) hP 4 rfl) 0 rfl (v := .ref (Ad 0 13)) rfl dX6_hangTogetherWithout_28 ?_
  refine gX6_123 F hX (va_blk (Bs := (bPar cI (Ad 0) M_5.2.2.2.1)) (va_blk (Bs := (bMain cI cP o h tx tn Ad M_5)) hP 4 rfl) 7 rfl) 0 rfl (v := .ref (Ad 0 14)) rfl dX6_hangTogetherWithout_31 ?_
  refine lv_iload_n hx hb dX6_hangTogetherWithout_34 rfl (lv_at hl 1 rfl) ?_
  refine k_rd (runVN F hX wdX6_81 (rm := rm_X2_get) (As := [.int x1]) (rest := [.ref (Ad 1 0)]) ⟨rfl, rfl⟩ ⟨Nat.le_of_ble_eq_true rfl, Nat.le_of_ble_eq_true rfl⟩ hl.1 rfl rfl (Nat.le_of_ble_eq_true rfl) dX6_hangTogetherWithout_35 ⟨Nat.zero_le _, Nat.zero_le _⟩) (k_rget l D cI cP (Ad 0 14) (Ad 0 15) 20 (by decide) (M_5.2.2.2.1.2.2.1.1 0) x1) hX (va_recv hX.1 (va_blk (Bs := (bStr cI (fun k => (Ad 0) (13 + k)) M_5.2.2.2.1.2.2.1)) (va_blk (Bs := (bPar cI (Ad 0) M_5.2.2.2.1)) (va_blk (Bs := (bMain cI cP o h tx tn Ad M_5)) hP 4 rfl) 7 rfl) 1 rfl) (ci := 2) (q0 := 0) rfl rfl) (va_blk (Bs := (bStr cI (fun k => (Ad 0) (13 + k)) M_5.2.2.2.1.2.2.1)) (va_blk (Bs := (bPar cI (Ad 0) M_5.2.2.2.1)) (va_blk (Bs := (bMain cI cP o h tx tn Ad M_5)) hP 4 rfl) 7 rfl) 1 rfl) hP hS hA (fun H locs hP hS => ?_)
  refine lv_aload_n hx hb dX6_hangTogetherWithout_38 rfl (lv_at hl 0 rfl) ?_
  refine gX6_10 F hX hP 0 rfl (v := .ref (Ad 0 0)) rfl dX6_hangTogetherWithout_39 ?_
  refine gX6_105 F hX (va_blk (Bs := (bMain cI cP o h tx tn Ad M_5)) hP 4 rfl) 0 rfl (v := .ref (Ad 0 13)) rfl dX6_hangTogetherWithout_42 ?_
  refine gX6_126 F hX (va_blk (Bs := (bPar cI (Ad 0) M_5.2.2.2.1)) (va_blk (Bs := (bMain cI cP o h tx tn Ad M_5)) hP 4 rfl) 7 rfl) 0 rfl (v := .ref (Ad 0 16)) rfl dX6_hangTogetherWithout_45 ?_
  refine lv_iload_n hx hb dX6_hangTogetherWithout_48 rfl (lv_at hl 1 rfl) ?_
  refine k_rd (runVN F hX wdX6_81 (rm := rm_X2_get) (As := [.int x1]) (rest := [.int (rget 20 (M_5.2.2.2.1.2.2.1.1 0) x1), .ref (Ad 1 0)]) ⟨rfl, rfl⟩ ⟨Nat.le_of_ble_eq_true rfl, Nat.le_of_ble_eq_true rfl⟩ hl.1 rfl rfl (Nat.le_of_ble_eq_true rfl) dX6_hangTogetherWithout_49 ⟨Nat.zero_le _, Nat.zero_le _⟩) (k_rget l D cI cP (Ad 0 16) (Ad 0 17) 20 (by decide) (M_5.2.2.2.1.2.2.1.1 1) x1) hX (va_recv hX.1 (va_blk (Bs := (bStr cI (fun k => (Ad 0) (13 + k)) M_5.2.2.2.1.2.2.1)) (va_blk (Bs := (bPar cI (Ad 0) M_5.2.2.2.1)) (va_blk (Bs := (bMain cI cP o h tx tn Ad M_5)) hP 4 rfl) 7 rfl) 2 rfl) (ci := 2) (q0 := 0) rfl rfl) (va_blk (Bs := (bStr cI (fun k => (Ad 0) (13 + k)) M_5.2.2.2.1.2.2.1)) (va_blk (Bs := (bPar cI (Ad 0) M_5.2.2.2.1)) (va_blk (Bs := (bMain cI cP o h tx tn Ad M_5)) hP 4 rfl) 7 rfl) 2 rfl) hP hS hA (fun H locs hP hS => ?_)
  refine k_rd (runVN F hX wdX6_138 (rm := rm_X1_hangTogether) (As := [.int (rget 20 (M_5.2.2.2.1.2.2.1.1 0) x1), .int (rget 20 (M_5.2.2.2.1.2.2.1.1 1) x1)]) (rest := []) ⟨rfl, rfl⟩ ⟨Nat.le_of_ble_eq_true rfl, Nat.le_of_ble_eq_true rfl⟩ hl.1 rfl rfl (Nat.le_of_ble_eq_true rfl) dX6_hangTogetherWithout_52 ⟨Nat.zero_le _, Nat.zero_le _⟩) (c_X1_hangTogether l D cI cP (Ad 1) M_5.2.2.2.2.1 (rget 20 (M_5.2.2.2.1.2.2.1.1 0) x1) (rget 20 (M_5.2.2.2.1.2.2.1.1 1) x1) _ rfl) hX (va_recv hX.1 (va_blk (Bs := (bMain cI cP o h tx tn Ad M_5)) hP 5 rfl) (ci := 1) (q0 := 0) rfl rfl) (va_blk (Bs := (bMain cI cP o h tx tn Ad M_5)) hP 5 rfl) hP hS hA (fun H locs hP hS => ?_)
  have g_7 := og hf
  replace hf := (if_pos g_7).symm.trans hf
  obtain rfl := (Option.some.inj hf)
  exact wr_z F g_7 rfl hP hS dX6_hangTogetherWithout_55
def X6_stringOf (K : SMain) (x1 : Int32) (x2 : Int32) : Option (SMain × Int32) := (if (X3_has K.2.2.2.1.2.2.1 x1) = 0 then some (K, (-1000001)) else (if x2 = 0 then some (K, (rget 20 (K.2.2.2.1.2.2.1.1 0) x1)) else (if x2 = 1 then some (K, (rget 20 (K.2.2.2.1.2.2.1.1 1) x1)) else (if x2 = 2 then some (K, (rget 20 (K.2.2.2.1.2.2.1.1 2) x1)) else (if x2 = 3 then some (K, (rget 20 (K.2.2.2.1.2.2.1.1 3) x1)) else (if x2 = 4 then ((X6_hangTogetherWithout K x1).bind fun u_7 => (if u_7.2 = 0 then some (u_7.1, 0) else some (u_7.1, 1))) else some (K, (-1000001))))))))
abbrev rm_X6_stringOf : Room := { frames := 5, cells := 0, slots := 0, locals := 124 }
set_option maxHeartbeats 4000000 in
set_option maxRecDepth 100000 in
theorem c_X6_stringOf (l : Launch) (D : va_G) (cI cP : ClassId) (o h : Nat) (tx tn : Nat → Nat) (Ad : Nat → Nat → Nat) (K : SMain) (x1 : Int32) (x2 : Int32) (z : SMain × Int32) (hf : X6_stringOf K x1 x2 = some z) : MWi l yX6_stringOf cX6_stringOf 3 (some .int) rm_X6_stringOf D cI cP [.ref o, .int x1, .int x2] (wMain cI cP o h tx tn Ad K) (wMain cI cP o h tx tn Ad z.1) z.2 := by
  refine MWi.of (by decide +kernel) (Nat.le_of_ble_eq_true rfl) ?_
  intro p e s m args below meth c ls A F hX hP hD hA hS hl
  have F : Fx p s m args meth c RX6 cX6_stringOf 3 (some .int) := F
  have hx := F.1
  have hb := F.2.1
  have hown := F.2.2.2.1
  have hts := F.2.2.2.2.1
  have hl : lv_has ls 3 [(0, .ref o), (1, .int x1), (2, .int x2)] := hl
  unfold X6_stringOf at hf
  refine lv_aload_n hx hb dX6_stringOf_0 rfl (lv_at hl 0 rfl) ?_
  refine gX6_10 F hX hP 0 rfl (v := .ref (Ad 0 0)) rfl dX6_stringOf_1 ?_
  refine gX6_105 F hX (va_blk (Bs := (bMain cI cP o h tx tn Ad K)) hP 4 rfl) 0 rfl (v := .ref (Ad 0 13)) rfl dX6_stringOf_4 ?_
  refine lv_iload_n hx hb dX6_stringOf_7 rfl (lv_at hl 1 rfl) ?_
  refine k_rd (runVN F hX wdX6_120 (rm := rm_X3_has) (As := [.int x1]) (rest := []) ⟨rfl, rfl⟩ ⟨Nat.le_of_ble_eq_true rfl, Nat.le_of_ble_eq_true rfl⟩ hl.1 rfl rfl (Nat.le_of_ble_eq_true rfl) dX6_stringOf_8 ⟨Nat.zero_le _, Nat.zero_le _⟩) (c_X3_has l D cI cP (fun k => (Ad 0) (13 + k)) K.2.2.2.1.2.2.1 x1 _ rfl) hX (va_recv hX.1 (va_blk (Bs := (bPar cI (Ad 0) K.2.2.2.1)) (va_blk (Bs := (bMain cI cP o h tx tn Ad K)) hP 4 rfl) 7 rfl) (ci := 3) (q0 := 0) rfl rfl) (va_blk (Bs := (bPar cI (Ad 0) K.2.2.2.1)) (va_blk (Bs := (bMain cI cP o h tx tn Ad K)) hP 4 rfl) 7 rfl) hP hS hA (fun H locs hP hS => ?_)
  refine lv_if_ne (tgt := 17) hx hb dX6_stringOf_11 (by decide) (fun c_1 => ?_) (fun c_1 => ?_)
  · replace hf := (if_neg c_1).symm.trans hf
    refine lv_iload_n hx hb dX6_stringOf_17 rfl (lv_at hl 2 rfl) ?_
    rcases Decidable.em (x2 = 0) with c_2 | c_2
    · replace hf := (if_pos c_2).symm.trans hf
      refine lv_tableIn (off := 34) (tgt := 52) hx hb dX6_stringOf_18 (by rw [c_2]; decide) (by rw [c_2]; decide) (by rw [c_2]; rfl) (by decide) ?_
      refine lv_aload_n hx hb dX6_stringOf_52 rfl (lv_at hl 0 rfl) ?_
      refine gX6_10 F hX hP 0 rfl (v := .ref (Ad 0 0)) rfl dX6_stringOf_53 ?_
      refine gX6_105 F hX (va_blk (Bs := (bMain cI cP o h tx tn Ad K)) hP 4 rfl) 0 rfl (v := .ref (Ad 0 13)) rfl dX6_stringOf_56 ?_
      refine gX6_123 F hX (va_blk (Bs := (bPar cI (Ad 0) K.2.2.2.1)) (va_blk (Bs := (bMain cI cP o h tx tn Ad K)) hP 4 rfl) 7 rfl) 0 rfl (v := .ref (Ad 0 14)) rfl dX6_stringOf_59 ?_
      refine lv_iload_n hx hb dX6_stringOf_62 rfl (lv_at hl 1 rfl) ?_
      refine k_rd (runVN F hX wdX6_81 (rm := rm_X2_get) (As := [.int x1]) (rest := []) ⟨rfl, rfl⟩ ⟨Nat.le_of_ble_eq_true rfl, Nat.le_of_ble_eq_true rfl⟩ hl.1 rfl rfl (Nat.le_of_ble_eq_true rfl) dX6_stringOf_63 ⟨Nat.zero_le _, Nat.zero_le _⟩) (k_rget l D cI cP (Ad 0 14) (Ad 0 15) 20 (by decide) (K.2.2.2.1.2.2.1.1 0) x1) hX (va_recv hX.1 (va_blk (Bs := (bStr cI (fun k => (Ad 0) (13 + k)) K.2.2.2.1.2.2.1)) (va_blk (Bs := (bPar cI (Ad 0) K.2.2.2.1)) (va_blk (Bs := (bMain cI cP o h tx tn Ad K)) hP 4 rfl) 7 rfl) 1 rfl) (ci := 2) (q0 := 0) rfl rfl) (va_blk (Bs := (bStr cI (fun k => (Ad 0) (13 + k)) K.2.2.2.1.2.2.1)) (va_blk (Bs := (bPar cI (Ad 0) K.2.2.2.1)) (va_blk (Bs := (bMain cI cP o h tx tn Ad K)) hP 4 rfl) 7 rfl) 1 rfl) hP hS hA (fun H locs hP hS => ?_)
      obtain rfl := (Option.some.inj hf)
      exact wr_i F rfl hP hS dX6_stringOf_66
    replace hf := (if_neg c_2).symm.trans hf
    rcases Decidable.em (x2 = 1) with c_3 | c_3
    · replace hf := (if_pos c_3).symm.trans hf
      refine lv_tableIn (off := 49) (tgt := 67) hx hb dX6_stringOf_18 (by rw [c_3]; decide) (by rw [c_3]; decide) (by rw [c_3]; rfl) (by decide) ?_
      refine lv_aload_n hx hb dX6_stringOf_67 rfl (lv_at hl 0 rfl) ?_
      refine gX6_10 F hX hP 0 rfl (v := .ref (Ad 0 0)) rfl dX6_stringOf_68 ?_
      refine gX6_105 F hX (va_blk (Bs := (bMain cI cP o h tx tn Ad K)) hP 4 rfl) 0 rfl (v := .ref (Ad 0 13)) rfl dX6_stringOf_71 ?_
      refine gX6_126 F hX (va_blk (Bs := (bPar cI (Ad 0) K.2.2.2.1)) (va_blk (Bs := (bMain cI cP o h tx tn Ad K)) hP 4 rfl) 7 rfl) 0 rfl (v := .ref (Ad 0 16)) rfl dX6_stringOf_74 ?_
      refine lv_iload_n hx hb dX6_stringOf_77 rfl (lv_at hl 1 rfl) ?_
      refine k_rd (runVN F hX wdX6_81 (rm := rm_X2_get) (As := [.int x1]) (rest := []) ⟨rfl, rfl⟩ ⟨Nat.le_of_ble_eq_true rfl, Nat.le_of_ble_eq_true rfl⟩ hl.1 rfl rfl (Nat.le_of_ble_eq_true rfl) dX6_stringOf_78 ⟨Nat.zero_le _, Nat.zero_le _⟩) (k_rget l D cI cP (Ad 0 16) (Ad 0 17) 20 (by decide) (K.2.2.2.1.2.2.1.1 1) x1) hX (va_recv hX.1 (va_blk (Bs := (bStr cI (fun k => (Ad 0) (13 + k)) K.2.2.2.1.2.2.1)) (va_blk (Bs := (bPar cI (Ad 0) K.2.2.2.1)) (va_blk (Bs := (bMain cI cP o h tx tn Ad K)) hP 4 rfl) 7 rfl) 2 rfl) (ci := 2) (q0 := 0) rfl rfl) (va_blk (Bs := (bStr cI (fun k => (Ad 0) (13 + k)) K.2.2.2.1.2.2.1)) (va_blk (Bs := (bPar cI (Ad 0) K.2.2.2.1)) (va_blk (Bs := (bMain cI cP o h tx tn Ad K)) hP 4 rfl) 7 rfl) 2 rfl) hP hS hA (fun H locs hP hS => ?_)
      obtain rfl := (Option.some.inj hf)
      exact wr_i F rfl hP hS dX6_stringOf_81
    replace hf := (if_neg c_3).symm.trans hf
    rcases Decidable.em (x2 = 2) with c_4 | c_4
    · replace hf := (if_pos c_4).symm.trans hf
      refine lv_tableIn (off := 64) (tgt := 82) hx hb dX6_stringOf_18 (by rw [c_4]; decide) (by rw [c_4]; decide) (by rw [c_4]; rfl) (by decide) ?_
      refine lv_aload_n hx hb dX6_stringOf_82 rfl (lv_at hl 0 rfl) ?_
      refine gX6_10 F hX hP 0 rfl (v := .ref (Ad 0 0)) rfl dX6_stringOf_83 ?_
      refine gX6_105 F hX (va_blk (Bs := (bMain cI cP o h tx tn Ad K)) hP 4 rfl) 0 rfl (v := .ref (Ad 0 13)) rfl dX6_stringOf_86 ?_
      refine gX6_129 F hX (va_blk (Bs := (bPar cI (Ad 0) K.2.2.2.1)) (va_blk (Bs := (bMain cI cP o h tx tn Ad K)) hP 4 rfl) 7 rfl) 0 rfl (v := .ref (Ad 0 18)) rfl dX6_stringOf_89 ?_
      refine lv_iload_n hx hb dX6_stringOf_92 rfl (lv_at hl 1 rfl) ?_
      refine k_rd (runVN F hX wdX6_81 (rm := rm_X2_get) (As := [.int x1]) (rest := []) ⟨rfl, rfl⟩ ⟨Nat.le_of_ble_eq_true rfl, Nat.le_of_ble_eq_true rfl⟩ hl.1 rfl rfl (Nat.le_of_ble_eq_true rfl) dX6_stringOf_93 ⟨Nat.zero_le _, Nat.zero_le _⟩) (k_rget l D cI cP (Ad 0 18) (Ad 0 19) 20 (by decide) (K.2.2.2.1.2.2.1.1 2) x1) hX (va_recv hX.1 (va_blk (Bs := (bStr cI (fun k => (Ad 0) (13 + k)) K.2.2.2.1.2.2.1)) (va_blk (Bs := (bPar cI (Ad 0) K.2.2.2.1)) (va_blk (Bs := (bMain cI cP o h tx tn Ad K)) hP 4 rfl) 7 rfl) 3 rfl) (ci := 2) (q0 := 0) rfl rfl) (va_blk (Bs := (bStr cI (fun k => (Ad 0) (13 + k)) K.2.2.2.1.2.2.1)) (va_blk (Bs := (bPar cI (Ad 0) K.2.2.2.1)) (va_blk (Bs := (bMain cI cP o h tx tn Ad K)) hP 4 rfl) 7 rfl) 3 rfl) hP hS hA (fun H locs hP hS => ?_)
      obtain rfl := (Option.some.inj hf)
      exact wr_i F rfl hP hS dX6_stringOf_96
    replace hf := (if_neg c_4).symm.trans hf
    rcases Decidable.em (x2 = 3) with c_5 | c_5
    · replace hf := (if_pos c_5).symm.trans hf
      refine lv_tableIn (off := 79) (tgt := 97) hx hb dX6_stringOf_18 (by rw [c_5]; decide) (by rw [c_5]; decide) (by rw [c_5]; rfl) (by decide) ?_
      refine lv_aload_n hx hb dX6_stringOf_97 rfl (lv_at hl 0 rfl) ?_
      refine gX6_10 F hX hP 0 rfl (v := .ref (Ad 0 0)) rfl dX6_stringOf_98 ?_
      refine gX6_105 F hX (va_blk (Bs := (bMain cI cP o h tx tn Ad K)) hP 4 rfl) 0 rfl (v := .ref (Ad 0 13)) rfl dX6_stringOf_101 ?_
      refine gX6_132 F hX (va_blk (Bs := (bPar cI (Ad 0) K.2.2.2.1)) (va_blk (Bs := (bMain cI cP o h tx tn Ad K)) hP 4 rfl) 7 rfl) 0 rfl (v := .ref (Ad 0 20)) rfl dX6_stringOf_104 ?_
      refine lv_iload_n hx hb dX6_stringOf_107 rfl (lv_at hl 1 rfl) ?_
      refine k_rd (runVN F hX wdX6_81 (rm := rm_X2_get) (As := [.int x1]) (rest := []) ⟨rfl, rfl⟩ ⟨Nat.le_of_ble_eq_true rfl, Nat.le_of_ble_eq_true rfl⟩ hl.1 rfl rfl (Nat.le_of_ble_eq_true rfl) dX6_stringOf_108 ⟨Nat.zero_le _, Nat.zero_le _⟩) (k_rget l D cI cP (Ad 0 20) (Ad 0 21) 20 (by decide) (K.2.2.2.1.2.2.1.1 3) x1) hX (va_recv hX.1 (va_blk (Bs := (bStr cI (fun k => (Ad 0) (13 + k)) K.2.2.2.1.2.2.1)) (va_blk (Bs := (bPar cI (Ad 0) K.2.2.2.1)) (va_blk (Bs := (bMain cI cP o h tx tn Ad K)) hP 4 rfl) 7 rfl) 4 rfl) (ci := 2) (q0 := 0) rfl rfl) (va_blk (Bs := (bStr cI (fun k => (Ad 0) (13 + k)) K.2.2.2.1.2.2.1)) (va_blk (Bs := (bPar cI (Ad 0) K.2.2.2.1)) (va_blk (Bs := (bMain cI cP o h tx tn Ad K)) hP 4 rfl) 7 rfl) 4 rfl) hP hS hA (fun H locs hP hS => ?_)
      obtain rfl := (Option.some.inj hf)
      exact wr_i F rfl hP hS dX6_stringOf_111
    replace hf := (if_neg c_5).symm.trans hf
    rcases Decidable.em (x2 = 4) with c_6 | c_6
    · replace hf := (if_pos c_6).symm.trans hf
      refine lv_tableIn (off := 94) (tgt := 112) hx hb dX6_stringOf_18 (by rw [c_6]; decide) (by rw [c_6]; decide) (by rw [c_6]; rfl) (by decide) ?_
      refine lv_aload_n hx hb dX6_stringOf_112 rfl (lv_at hl 0 rfl) ?_
      refine lv_iload_n hx hb dX6_stringOf_113 rfl (lv_at hl 1 rfl) ?_
      obtain ⟨u_7, h_8, hf⟩ := ob hf
      refine k_wi (runV F wdX6_135 (rm := rm_X6_hangTogetherWithout) (As := [.int x1]) (rest := []) ⟨rfl, rfl⟩ ⟨Nat.le_of_ble_eq_true rfl, Nat.le_of_ble_eq_true rfl⟩ hl.1 rfl rfl (Nat.le_of_ble_eq_true rfl) dX6_stringOf_114 ⟨Nat.zero_le _, Nat.zero_le _⟩) (c_X6_hangTogetherWithout l D cI cP o h tx tn Ad K x1 _ h_8) hX (va_recv hX.1 hP (ci := 6) (q0 := 0) rfl rfl) (Cut.all rfl) hP hD hS hA (fun H locs hP hD hS => ?_)
      have hP : va_P D vwCl (wMain cI cP o h tx tn Ad u_7.1) H := hP
      have hD : va_D A (wMain cI cP o h tx tn Ad u_7.1) := hD
      refine lv_if_eq (tgt := 124) hx hb dX6_stringOf_117 (by decide) (fun c_9 => ?_) (fun c_9 => ?_)
      · replace hf := (if_pos c_9).symm.trans hf
        refine lv_iconst (v := 0) hx hb dX6_stringOf_124 (by decide) ?_
        obtain rfl := (Option.some.inj hf)
        exact wr_i F rfl hP hS dX6_stringOf_125
      · replace hf := (if_neg c_9).symm.trans hf
        refine lv_iconst (v := 1) hx hb dX6_stringOf_120 (by decide) ?_
        refine lv_goto (tgt := 125) hx hb dX6_stringOf_121 (by decide) ?_
        obtain rfl := (Option.some.inj hf)
        exact wr_i F rfl hP hS dX6_stringOf_125
    replace hf := (if_neg c_6).symm.trans hf
    refine lv_tableD (tgt := 126) (cs := [0, 1, 2, 3, 4]) hx hb dX6_stringOf_18 (by decide) (by decide) (by decide) (by simp [c_2, c_3, c_4, c_5, c_6]) ?_
    refine lv_ldc (v := (-1000001)) hx hb hown (hts _ q_289) dX6_stringOf_126 ?_
    obtain rfl := (Option.some.inj hf)
    exact wr_i F rfl hP hS dX6_stringOf_128
  · replace hf := (if_pos c_1).symm.trans hf
    refine lv_ldc (v := (-1000001)) hx hb hown (hts _ q_289) dX6_stringOf_14 ?_
    obtain rfl := (Option.some.inj hf)
    exact wr_i F rfl hP hS dX6_stringOf_16
def X6_book (K : SMain) (x1 : Int32) (x2 : Int32) : Int32 := (if x1 < 0 then (-1000001) else (if (X6_isIn x2 0 3) = 0 then (-1000001) else (if (X0_kept K.2.2.2.1.2.2.2) ≤ x1 then (-1000004) else (X0_entry K.2.2.2.1.2.2.2 x1 x2))))
abbrev rm_X6_book : Room := { frames := 2, cells := 0, slots := 0, locals := 43 }
set_option maxHeartbeats 4000000 in
set_option maxRecDepth 100000 in
theorem c_X6_book (l : Launch) (D : va_G) (cI cP : ClassId) (o h : Nat) (tx tn : Nat → Nat) (Ad : Nat → Nat → Nat) (K : SMain) (x1 : Int32) (x2 : Int32) (z : Int32) (hf : X6_book K x1 x2 = z) : MRd l yX6_book cX6_book 3 (some .int) rm_X6_book D cI cP [.ref o, .int x1, .int x2] (wMain cI cP o h tx tn Ad K) z := by
  refine MRd.of (by decide +kernel) (Nat.le_of_ble_eq_true rfl) ?_
  intro p e s m args below meth c ls F hX hP hS hl
  have F : Fx p s m args meth c RX6 cX6_book 3 (some .int) := F
  have hx := F.1
  have hb := F.2.1
  have hown := F.2.2.2.1
  have hts := F.2.2.2.2.1
  have hA : ∀ q : Nat, s.heap.size ≤ q → (fun q : Nat => s.heap.size ≤ q) q := fun _ h => h
  have hl : lv_has ls 3 [(0, .ref o), (1, .int x1), (2, .int x2)] := hl
  unfold X6_book at hf
  refine lv_iload_n hx hb dX6_book_0 rfl (lv_at hl 1 rfl) ?_
  refine lv_if_lt (tgt := 13) hx hb dX6_book_1 (by decide) (fun c_1 => ?_) (fun c_1 => ?_)
  · replace hf := (if_pos c_1).symm.trans hf
    refine lv_ldc (v := (-1000001)) hx hb hown (hts _ q_289) dX6_book_13 ?_
    exact rd_i F hf hS dX6_book_15
  · replace hf := (if_neg c_1).symm.trans hf
    refine lv_iload_n hx hb dX6_book_4 rfl (lv_at hl 2 rfl) ?_
    refine lv_iconst (v := 0) hx hb dX6_book_5 (by decide) ?_
    refine lv_iconst (v := 3) hx hb dX6_book_6 (by decide) ?_
    refine k_rd (runS F wdX6_148 (rm := rm_X6_isIn) (As := [.int x2, .int 0, .int 3]) (rest := []) ⟨rfl, rfl⟩ ⟨Nat.le_of_ble_eq_true rfl, Nat.le_of_ble_eq_true rfl⟩ hl.1 rfl rfl (Nat.le_of_ble_eq_true rfl) dX6_book_7 ⟨Nat.zero_le _, Nat.zero_le _⟩) (c_X6_isIn l D cI cP x2 0 3 _ rfl) hX trivial vP_nil hP hS hA (fun H locs hP hS => ?_)
    refine lv_if_ne (tgt := 16) hx hb dX6_book_10 (by decide) (fun c_2 => ?_) (fun c_2 => ?_)
    · replace hf := (if_neg c_2).symm.trans hf
      refine lv_iload_n hx hb dX6_book_16 rfl (lv_at hl 1 rfl) ?_
      refine lv_aload_n hx hb dX6_book_17 rfl (lv_at hl 0 rfl) ?_
      refine gX6_10 F hX hP 0 rfl (v := .ref (Ad 0 0)) rfl dX6_book_18 ?_
      refine gX6_152 F hX (va_blk (Bs := (bMain cI cP o h tx tn Ad K)) hP 4 rfl) 0 rfl (v := .ref (Ad 0 22)) rfl dX6_book_21 ?_
      refine k_rd (runVN F hX wdX6_156 (rm := rm_X0_kept) (As := []) (rest := [.int x1]) ⟨rfl, rfl⟩ ⟨Nat.le_of_ble_eq_true rfl, Nat.le_of_ble_eq_true rfl⟩ hl.1 rfl rfl (Nat.le_of_ble_eq_true rfl) dX6_book_24 ⟨Nat.zero_le _, Nat.zero_le _⟩) (c_X0_kept l D cI cP (fun k => (Ad 0) (22 + k)) K.2.2.2.1.2.2.2  _ rfl) hX (va_recv hX.1 (va_blk (Bs := (bPar cI (Ad 0) K.2.2.2.1)) (va_blk (Bs := (bMain cI cP o h tx tn Ad K)) hP 4 rfl) 8 rfl) (ci := 0) (q0 := 0) rfl rfl) (va_blk (Bs := (bPar cI (Ad 0) K.2.2.2.1)) (va_blk (Bs := (bMain cI cP o h tx tn Ad K)) hP 4 rfl) 8 rfl) hP hS hA (fun H locs hP hS => ?_)
      refine lv_icmp_ge (tgt := 45) hx hb dX6_book_27 (by decide) (fun c_3 => ?_) (fun c_3 => ?_)
      · replace hf := (if_pos c_3).symm.trans hf
        refine lv_ldc (v := (-1000004)) hx hb hown (hts _ q_299) dX6_book_45 ?_
        exact rd_i F hf hS dX6_book_47
      · replace hf := (if_neg c_3).symm.trans hf
        refine lv_aload_n hx hb dX6_book_30 rfl (lv_at hl 0 rfl) ?_
        refine gX6_10 F hX hP 0 rfl (v := .ref (Ad 0 0)) rfl dX6_book_31 ?_
        refine gX6_152 F hX (va_blk (Bs := (bMain cI cP o h tx tn Ad K)) hP 4 rfl) 0 rfl (v := .ref (Ad 0 22)) rfl dX6_book_34 ?_
        refine lv_iload_n hx hb dX6_book_37 rfl (lv_at hl 1 rfl) ?_
        refine lv_iload_n hx hb dX6_book_38 rfl (lv_at hl 2 rfl) ?_
        refine k_rd (runVN F hX wdX6_161 (rm := rm_X0_entry) (As := [.int x1, .int x2]) (rest := []) ⟨rfl, rfl⟩ ⟨Nat.le_of_ble_eq_true rfl, Nat.le_of_ble_eq_true rfl⟩ hl.1 rfl rfl (Nat.le_of_ble_eq_true rfl) dX6_book_39 ⟨Nat.zero_le _, Nat.zero_le _⟩) (c_X0_entry l D cI cP (fun k => (Ad 0) (22 + k)) K.2.2.2.1.2.2.2 x1 x2 _ rfl) hX (va_recv hX.1 (va_blk (Bs := (bPar cI (Ad 0) K.2.2.2.1)) (va_blk (Bs := (bMain cI cP o h tx tn Ad K)) hP 4 rfl) 8 rfl) (ci := 0) (q0 := 0) rfl rfl) (va_blk (Bs := (bPar cI (Ad 0) K.2.2.2.1)) (va_blk (Bs := (bMain cI cP o h tx tn Ad K)) hP 4 rfl) 8 rfl) hP hS hA (fun H locs hP hS => ?_)
        refine lv_goto (tgt := 47) hx hb dX6_book_42 (by decide) ?_
        exact rd_i F hf hS dX6_book_47
    · replace hf := (if_pos c_2).symm.trans hf
      refine lv_ldc (v := (-1000001)) hx hb hown (hts _ q_289) dX6_book_13 ?_
      exact rd_i F hf hS dX6_book_15
def X6_whyTie (K : SMain) (x1 : Int32) (x2 : Int32) (x3 : Int32) : Option (Int32) := (if (X1_arePair K.2.2.2.1 x1 x2) = 0 then some (-1000001) else (if x3 = 0 then ((X1_reasonAgainstString K.2.2.2.1 x1 x2 0).bind fun u_3 => some u_3) else ((X1_reasonAgainstString K.2.2.2.1 x1 x2 1).bind fun u_5 => some u_5)))
abbrev rm_X6_whyTie : Room := { frames := 3, cells := 0, slots := 0, locals := 72 }
set_option maxHeartbeats 4000000 in
set_option maxRecDepth 100000 in
theorem c_X6_whyTie (l : Launch) (D : va_G) (cI cP : ClassId) (o h : Nat) (tx tn : Nat → Nat) (Ad : Nat → Nat → Nat) (K : SMain) (x1 : Int32) (x2 : Int32) (x3 : Int32) (z : Int32) (hf : X6_whyTie K x1 x2 x3 = some z) : MRd l yX6_whyTie cX6_whyTie 4 (some .int) rm_X6_whyTie D cI cP [.ref o, .int x1, .int x2, .int x3] (wMain cI cP o h tx tn Ad K) z := by
  refine MRd.of (by decide +kernel) (Nat.le_of_ble_eq_true rfl) ?_
  intro p e s m args below meth c ls F hX hP hS hl
  have F : Fx p s m args meth c RX6 cX6_whyTie 4 (some .int) := F
  have hx := F.1
  have hb := F.2.1
  have hown := F.2.2.2.1
  have hts := F.2.2.2.2.1
  have hA : ∀ q : Nat, s.heap.size ≤ q → (fun q : Nat => s.heap.size ≤ q) q := fun _ h => h
  have hl : lv_has ls 4 [(0, .ref o), (1, .int x1), (2, .int x2), (3, .int x3)] := hl
  unfold X6_whyTie at hf
  refine lv_aload_n hx hb dX6_whyTie_0 rfl (lv_at hl 0 rfl) ?_
  refine gX6_10 F hX hP 0 rfl (v := .ref (Ad 0 0)) rfl dX6_whyTie_1 ?_
  refine lv_iload_n hx hb dX6_whyTie_4 rfl (lv_at hl 1 rfl) ?_
  refine lv_iload_n hx hb dX6_whyTie_5 rfl (lv_at hl 2 rfl) ?_
  refine k_rd (runVN F hX wdX6_164 (rm := rm_X1_arePair) (As := [.int x1, .int x2]) (rest := []) ⟨rfl, rfl⟩ ⟨Nat.le_of_ble_eq_true rfl, Nat.le_of_ble_eq_true rfl⟩ hl.1 rfl rfl (Nat.le_of_ble_eq_true rfl) dX6_whyTie_6 ⟨Nat.zero_le _, Nat.zero_le _⟩) (c_X1_arePair l D cI cP (Ad 0) K.2.2.2.1 x1 x2 _ rfl) hX (va_recv hX.1 (va_blk (Bs := (bMain cI cP o h tx tn Ad K)) hP 4 rfl) (ci := 1) (q0 := 0) rfl rfl) (va_blk (Bs := (bMain cI cP o h tx tn Ad K)) hP 4 rfl) hP hS hA (fun H locs hP hS => ?_)
  refine lv_if_ne (tgt := 15) hx hb dX6_whyTie_9 (by decide) (fun c_1 => ?_) (fun c_1 => ?_)
  · replace hf := (if_neg c_1).symm.trans hf
    refine lv_aload_n hx hb dX6_whyTie_15 rfl (lv_at hl 0 rfl) ?_
    refine gX6_10 F hX hP 0 rfl (v := .ref (Ad 0 0)) rfl dX6_whyTie_16 ?_
    refine lv_iload_n hx hb dX6_whyTie_19 rfl (lv_at hl 1 rfl) ?_
    refine lv_iload_n hx hb dX6_whyTie_20 rfl (lv_at hl 2 rfl) ?_
    refine lv_iload_n hx hb dX6_whyTie_21 rfl (lv_at hl 3 rfl) ?_
    refine lv_if_eq (tgt := 29) hx hb dX6_whyTie_22 (by decide) (fun c_2 => ?_) (fun c_2 => ?_)
    · replace hf := (if_pos c_2).symm.trans hf
      refine lv_iconst (v := 0) hx hb dX6_whyTie_29 (by decide) ?_
      obtain ⟨u_3, h_4, hf⟩ := ob hf
      refine k_rd (runVN F hX wdX6_167 (rm := rm_X1_reasonAgainstString) (As := [.int x1, .int x2, .int 0]) (rest := []) ⟨rfl, rfl⟩ ⟨Nat.le_of_ble_eq_true rfl, Nat.le_of_ble_eq_true rfl⟩ hl.1 rfl rfl (Nat.le_of_ble_eq_true rfl) dX6_whyTie_30 ⟨Nat.zero_le _, Nat.zero_le _⟩) (c_X1_reasonAgainstString l D cI cP (Ad 0) K.2.2.2.1 x1 x2 0 _ h_4) hX (va_recv hX.1 (va_blk (Bs := (bMain cI cP o h tx tn Ad K)) hP 4 rfl) (ci := 1) (q0 := 0) rfl rfl) (va_blk (Bs := (bMain cI cP o h tx tn Ad K)) hP 4 rfl) hP hS hA (fun H locs hP hS => ?_)
      exact rd_i F (Option.some.inj hf) hS dX6_whyTie_33
    · replace hf := (if_neg c_2).symm.trans hf
      refine lv_iconst (v := 1) hx hb dX6_whyTie_25 (by decide) ?_
      refine lv_goto (tgt := 30) hx hb dX6_whyTie_26 (by decide) ?_
      obtain ⟨u_5, h_6, hf⟩ := ob hf
      refine k_rd (runVN F hX wdX6_167 (rm := rm_X1_reasonAgainstString) (As := [.int x1, .int x2, .int 1]) (rest := []) ⟨rfl, rfl⟩ ⟨Nat.le_of_ble_eq_true rfl, Nat.le_of_ble_eq_true rfl⟩ hl.1 rfl rfl (Nat.le_of_ble_eq_true rfl) dX6_whyTie_30 ⟨Nat.zero_le _, Nat.zero_le _⟩) (c_X1_reasonAgainstString l D cI cP (Ad 0) K.2.2.2.1 x1 x2 1 _ h_6) hX (va_recv hX.1 (va_blk (Bs := (bMain cI cP o h tx tn Ad K)) hP 4 rfl) (ci := 1) (q0 := 0) rfl rfl) (va_blk (Bs := (bMain cI cP o h tx tn Ad K)) hP 4 rfl) hP hS hA (fun H locs hP hS => ?_)
      exact rd_i F (Option.some.inj hf) hS dX6_whyTie_33
  · replace hf := (if_pos c_1).symm.trans hf
    refine lv_ldc (v := (-1000001)) hx hb hown (hts _ q_289) dX6_whyTie_12 ?_
    exact rd_i F (Option.some.inj hf) hS dX6_whyTie_14
def X6_whyPull (K : SMain) (x1 : Int32) (x2 : Int32) : Option (Int32) := (if (X1_hasPuppet K.2.2.2.1 x1) = 0 then some (-1000001) else (if (X6_isIn x2 0 1) = 0 then some (-1000001) else ((X1_reasonAgainstPull K.2.2.2.1 x1 x2).bind fun u_3 => some u_3)))
abbrev rm_X6_whyPull : Room := { frames := 3, cells := 0, slots := 0, locals := 68 }
set_option maxHeartbeats 4000000 in
set_option maxRecDepth 100000 in
theorem c_X6_whyPull (l : Launch) (D : va_G) (cI cP : ClassId) (o h : Nat) (tx tn : Nat → Nat) (Ad : Nat → Nat → Nat) (K : SMain) (x1 : Int32) (x2 : Int32) (z : Int32) (hf : X6_whyPull K x1 x2 = some z) : MRd l yX6_whyPull cX6_whyPull 3 (some .int) rm_X6_whyPull D cI cP [.ref o, .int x1, .int x2] (wMain cI cP o h tx tn Ad K) z := by
  refine MRd.of (by decide +kernel) (Nat.le_of_ble_eq_true rfl) ?_
  intro p e s m args below meth c ls F hX hP hS hl
  have F : Fx p s m args meth c RX6 cX6_whyPull 3 (some .int) := F
  have hx := F.1
  have hb := F.2.1
  have hown := F.2.2.2.1
  have hts := F.2.2.2.2.1
  have hA : ∀ q : Nat, s.heap.size ≤ q → (fun q : Nat => s.heap.size ≤ q) q := fun _ h => h
  have hl : lv_has ls 3 [(0, .ref o), (1, .int x1), (2, .int x2)] := hl
  unfold X6_whyPull at hf
  refine lv_aload_n hx hb dX6_whyPull_0 rfl (lv_at hl 0 rfl) ?_
  refine gX6_10 F hX hP 0 rfl (v := .ref (Ad 0 0)) rfl dX6_whyPull_1 ?_
  refine lv_iload_n hx hb dX6_whyPull_4 rfl (lv_at hl 1 rfl) ?_
  refine k_rd (runVN F hX wdX6_73 (rm := rm_X1_hasPuppet) (As := [.int x1]) (rest := []) ⟨rfl, rfl⟩ ⟨Nat.le_of_ble_eq_true rfl, Nat.le_of_ble_eq_true rfl⟩ hl.1 rfl rfl (Nat.le_of_ble_eq_true rfl) dX6_whyPull_5 ⟨Nat.zero_le _, Nat.zero_le _⟩) (c_X1_hasPuppet l D cI cP (Ad 0) K.2.2.2.1 x1 _ rfl) hX (va_recv hX.1 (va_blk (Bs := (bMain cI cP o h tx tn Ad K)) hP 4 rfl) (ci := 1) (q0 := 0) rfl rfl) (va_blk (Bs := (bMain cI cP o h tx tn Ad K)) hP 4 rfl) hP hS hA (fun H locs hP hS => ?_)
  refine lv_if_eq (tgt := 20) hx hb dX6_whyPull_8 (by decide) (fun c_1 => ?_) (fun c_1 => ?_)
  · replace hf := (if_pos c_1).symm.trans hf
    refine lv_ldc (v := (-1000001)) hx hb hown (hts _ q_289) dX6_whyPull_20 ?_
    exact rd_i F (Option.some.inj hf) hS dX6_whyPull_22
  · replace hf := (if_neg c_1).symm.trans hf
    refine lv_iload_n hx hb dX6_whyPull_11 rfl (lv_at hl 2 rfl) ?_
    refine lv_iconst (v := 0) hx hb dX6_whyPull_12 (by decide) ?_
    refine lv_iconst (v := 1) hx hb dX6_whyPull_13 (by decide) ?_
    refine k_rd (runS F wdX6_148 (rm := rm_X6_isIn) (As := [.int x2, .int 0, .int 1]) (rest := []) ⟨rfl, rfl⟩ ⟨Nat.le_of_ble_eq_true rfl, Nat.le_of_ble_eq_true rfl⟩ hl.1 rfl rfl (Nat.le_of_ble_eq_true rfl) dX6_whyPull_14 ⟨Nat.zero_le _, Nat.zero_le _⟩) (c_X6_isIn l D cI cP x2 0 1 _ rfl) hX trivial vP_nil hP hS hA (fun H locs hP hS => ?_)
    refine lv_if_ne (tgt := 23) hx hb dX6_whyPull_17 (by decide) (fun c_2 => ?_) (fun c_2 => ?_)
    · replace hf := (if_neg c_2).symm.trans hf
      refine lv_aload_n hx hb dX6_whyPull_23 rfl (lv_at hl 0 rfl) ?_
      refine gX6_10 F hX hP 0 rfl (v := .ref (Ad 0 0)) rfl dX6_whyPull_24 ?_
      refine lv_iload_n hx hb dX6_whyPull_27 rfl (lv_at hl 1 rfl) ?_
      refine lv_iload_n hx hb dX6_whyPull_28 rfl (lv_at hl 2 rfl) ?_
      obtain ⟨u_3, h_4, hf⟩ := ob hf
      refine k_rd (runVN F hX wdX6_171 (rm := rm_X1_reasonAgainstPull) (As := [.int x1, .int x2]) (rest := []) ⟨rfl, rfl⟩ ⟨Nat.le_of_ble_eq_true rfl, Nat.le_of_ble_eq_true rfl⟩ hl.1 rfl rfl (Nat.le_of_ble_eq_true rfl) dX6_whyPull_29 ⟨Nat.zero_le _, Nat.zero_le _⟩) (c_X1_reasonAgainstPull l D cI cP (Ad 0) K.2.2.2.1 x1 x2 _ h_4) hX (va_recv hX.1 (va_blk (Bs := (bMain cI cP o h tx tn Ad K)) hP 4 rfl) (ci := 1) (q0 := 0) rfl rfl) (va_blk (Bs := (bMain cI cP o h tx tn Ad K)) hP 4 rfl) hP hS hA (fun H locs hP hS => ?_)
      exact rd_i F (Option.some.inj hf) hS dX6_whyPull_32
    · replace hf := (if_pos c_2).symm.trans hf
      refine lv_ldc (v := (-1000001)) hx hb hown (hts _ q_289) dX6_whyPull_20 ?_
      exact rd_i F (Option.some.inj hf) hS dX6_whyPull_22
def X6_ifCut (K : SMain) (x1 : Int32) (x2 : Int32) : Option (SMain × Int32) := (if (X3_has K.2.2.2.1.2.2.1 x1) = 0 then some (K, (-1000001)) else (if (X6_isIn x2 0 1) = 0 then some (K, (-1000001)) else (bnd (K.1, K.2.1, K.2.2.1, K.2.2.2.1, K.2.2.2.1, K.2.2.2.2.2) fun M_3 => ((X1_cutString M_3.2.2.2.2.1 x1).bind fun u_5 => (bnd (M_3.1, M_3.2.1, M_3.2.2.1, M_3.2.2.2.1, u_5.1, M_3.2.2.2.2.2) fun M_7 => (if x2 = 0 then some (M_7, (M_7.2.2.2.2.1.2.1 4)) else ((X1_groupsByJoining M_7.2.2.2.2.1).bind fun u_10 => some (M_7, u_10))))))))
abbrev rm_X6_ifCut : Room := { frames := 4, cells := 0, slots := 0, locals := 103 }
set_option maxHeartbeats 4000000 in
set_option maxRecDepth 100000 in
theorem c_X6_ifCut (l : Launch) (D : va_G) (cI cP : ClassId) (o h : Nat) (tx tn : Nat → Nat) (Ad : Nat → Nat → Nat) (K : SMain) (x1 : Int32) (x2 : Int32) (z : SMain × Int32) (hf : X6_ifCut K x1 x2 = some z) : MWi l yX6_ifCut cX6_ifCut 3 (some .int) rm_X6_ifCut D cI cP [.ref o, .int x1, .int x2] (wMain cI cP o h tx tn Ad K) (wMain cI cP o h tx tn Ad z.1) z.2 := by
  refine MWi.of (by decide +kernel) (Nat.le_of_ble_eq_true rfl) ?_
  intro p e s m args below meth c ls A F hX hP hD hA hS hl
  have F : Fx p s m args meth c RX6 cX6_ifCut 3 (some .int) := F
  have hx := F.1
  have hb := F.2.1
  have hown := F.2.2.2.1
  have hts := F.2.2.2.2.1
  have hl : lv_has ls 3 [(0, .ref o), (1, .int x1), (2, .int x2)] := hl
  unfold X6_ifCut at hf
  refine lv_aload_n hx hb dX6_ifCut_0 rfl (lv_at hl 0 rfl) ?_
  refine gX6_10 F hX hP 0 rfl (v := .ref (Ad 0 0)) rfl dX6_ifCut_1 ?_
  refine gX6_105 F hX (va_blk (Bs := (bMain cI cP o h tx tn Ad K)) hP 4 rfl) 0 rfl (v := .ref (Ad 0 13)) rfl dX6_ifCut_4 ?_
  refine lv_iload_n hx hb dX6_ifCut_7 rfl (lv_at hl 1 rfl) ?_
  refine k_rd (runVN F hX wdX6_120 (rm := rm_X3_has) (As := [.int x1]) (rest := []) ⟨rfl, rfl⟩ ⟨Nat.le_of_ble_eq_true rfl, Nat.le_of_ble_eq_true rfl⟩ hl.1 rfl rfl (Nat.le_of_ble_eq_true rfl) dX6_ifCut_8 ⟨Nat.zero_le _, Nat.zero_le _⟩) (c_X3_has l D cI cP (fun k => (Ad 0) (13 + k)) K.2.2.2.1.2.2.1 x1 _ rfl) hX (va_recv hX.1 (va_blk (Bs := (bPar cI (Ad 0) K.2.2.2.1)) (va_blk (Bs := (bMain cI cP o h tx tn Ad K)) hP 4 rfl) 7 rfl) (ci := 3) (q0 := 0) rfl rfl) (va_blk (Bs := (bPar cI (Ad 0) K.2.2.2.1)) (va_blk (Bs := (bMain cI cP o h tx tn Ad K)) hP 4 rfl) 7 rfl) hP hS hA (fun H locs hP hS => ?_)
  refine lv_if_eq (tgt := 23) hx hb dX6_ifCut_11 (by decide) (fun c_1 => ?_) (fun c_1 => ?_)
  · replace hf := (if_pos c_1).symm.trans hf
    refine lv_ldc (v := (-1000001)) hx hb hown (hts _ q_289) dX6_ifCut_23 ?_
    obtain rfl := (Option.some.inj hf)
    exact wr_i F rfl hP hS dX6_ifCut_25
  · replace hf := (if_neg c_1).symm.trans hf
    refine lv_iload_n hx hb dX6_ifCut_14 rfl (lv_at hl 2 rfl) ?_
    refine lv_iconst (v := 0) hx hb dX6_ifCut_15 (by decide) ?_
    refine lv_iconst (v := 1) hx hb dX6_ifCut_16 (by decide) ?_
    refine k_rd (runS F wdX6_148 (rm := rm_X6_isIn) (As := [.int x2, .int 0, .int 1]) (rest := []) ⟨rfl, rfl⟩ ⟨Nat.le_of_ble_eq_true rfl, Nat.le_of_ble_eq_true rfl⟩ hl.1 rfl rfl (Nat.le_of_ble_eq_true rfl) dX6_ifCut_17 ⟨Nat.zero_le _, Nat.zero_le _⟩) (c_X6_isIn l D cI cP x2 0 1 _ rfl) hX trivial vP_nil hP hS hA (fun H locs hP hS => ?_)
    refine lv_if_ne (tgt := 26) hx hb dX6_ifCut_20 (by decide) (fun c_2 => ?_) (fun c_2 => ?_)
    · replace hf := (if_neg c_2).symm.trans hf
      refine lv_aload_n hx hb dX6_ifCut_26 rfl (lv_at hl 0 rfl) ?_
      refine gX6_16 F hX hP 0 rfl (v := .ref (Ad 1 0)) rfl dX6_ifCut_27 ?_
      refine lv_aload_n hx hb dX6_ifCut_30 rfl (lv_at hl 0 rfl) ?_
      refine gX6_10 F hX hP 0 rfl (v := .ref (Ad 0 0)) rfl dX6_ifCut_31 ?_
      refine k_wv (runVN F hX wdX6_37 (rm := rm_X1_copyFrom) (As := [.ref (Ad 0 0)]) (rest := []) ⟨rfl, rfl⟩ ⟨Nat.le_of_ble_eq_true rfl, Nat.le_of_ble_eq_true rfl⟩ hl.1 rfl rfl (Nat.le_of_ble_eq_true rfl) dX6_ifCut_34 ⟨Nat.zero_le _, Nat.zero_le _⟩) (k_pcopy l D cI cP (Ad 1) (Ad 0) K.2.2.2.2.1 K.2.2.2.1) hX (va_recv hX.1 (va_blk (Bs := (bMain cI cP o h tx tn Ad K)) hP 5 rfl) (ci := 1) (q0 := 0) rfl rfl) (Cut.two (Bs := (bMain cI cP o h tx tn Ad K)) (k := 5) (j := 4) rfl rfl (by decide) rfl) hP hD hS hA (fun H locs hP hD hS => ?_)
      obtain ⟨M_3, e_4, hf⟩ := bnd_e hf
      have hP : va_P D vwCl (wMain cI cP o h tx tn Ad M_3) H := by rw [e_4]; exact hP
      have hD : va_D A (wMain cI cP o h tx tn Ad M_3) := by rw [e_4]; exact hD
      clear e_4
      refine lv_aload_n hx hb dX6_ifCut_37 rfl (lv_at hl 0 rfl) ?_
      refine gX6_16 F hX hP 0 rfl (v := .ref (Ad 1 0)) rfl dX6_ifCut_38 ?_
      refine lv_iload_n hx hb dX6_ifCut_41 rfl (lv_at hl 1 rfl) ?_
      obtain ⟨u_5, h_6, hf⟩ := ob hf
      refine k_wi (runVN F hX wdX6_53 (rm := rm_X1_cutString) (As := [.int x1]) (rest := []) ⟨rfl, rfl⟩ ⟨Nat.le_of_ble_eq_true rfl, Nat.le_of_ble_eq_true rfl⟩ hl.1 rfl rfl (Nat.le_of_ble_eq_true rfl) dX6_ifCut_42 ⟨Nat.zero_le _, Nat.zero_le _⟩) (c_X1_cutString l D cI cP (Ad 1) M_3.2.2.2.2.1 x1 _ h_6) hX (va_recv hX.1 (va_blk (Bs := (bMain cI cP o h tx tn Ad M_3)) hP 5 rfl) (ci := 1) (q0 := 0) rfl rfl) (Cut.one (Bs := (bMain cI cP o h tx tn Ad M_3)) (k := 5) rfl rfl) hP hD hS hA (fun H locs hP hD hS => ?_)
      obtain ⟨M_7, e_8, hf⟩ := bnd_e hf
      have hP : va_P D vwCl (wMain cI cP o h tx tn Ad M_7) H := by rw [e_8]; exact hP
      have hD : va_D A (wMain cI cP o h tx tn Ad M_7) := by rw [e_8]; exact hD
      clear e_8
      refine lv_pop hx hb dX6_ifCut_45 rfl ?_
      refine lv_iload_n hx hb dX6_ifCut_46 rfl (lv_at hl 2 rfl) ?_
      refine lv_if_ne (tgt := 60) hx hb dX6_ifCut_47 (by decide) (fun c_9 => ?_) (fun c_9 => ?_)
      · replace hf := (if_neg c_9).symm.trans hf
        refine lv_aload_n hx hb dX6_ifCut_60 rfl (lv_at hl 0 rfl) ?_
        refine gX6_16 F hX hP 0 rfl (v := .ref (Ad 1 0)) rfl dX6_ifCut_61 ?_
        obtain ⟨u_10, h_11, hf⟩ := ob hf
        refine k_rd (runVN F hX wdX6_198 (rm := rm_X1_groupsByJoining) (As := []) (rest := []) ⟨rfl, rfl⟩ ⟨Nat.le_of_ble_eq_true rfl, Nat.le_of_ble_eq_true rfl⟩ hl.1 rfl rfl (Nat.le_of_ble_eq_true rfl) dX6_ifCut_64 ⟨Nat.zero_le _, Nat.zero_le _⟩) (c_X1_groupsByJoining l D cI cP (Ad 1) M_7.2.2.2.2.1  _ h_11) hX (va_recv hX.1 (va_blk (Bs := (bMain cI cP o h tx tn Ad M_7)) hP 5 rfl) (ci := 1) (q0 := 0) rfl rfl) (va_blk (Bs := (bMain cI cP o h tx tn Ad M_7)) hP 5 rfl) hP hS hA (fun H locs hP hS => ?_)
        obtain rfl := (Option.some.inj hf)
        exact wr_i F rfl hP hS dX6_ifCut_67
      · replace hf := (if_pos c_9).symm.trans hf
        refine lv_aload_n hx hb dX6_ifCut_50 rfl (lv_at hl 0 rfl) ?_
        refine gX6_16 F hX hP 0 rfl (v := .ref (Ad 1 0)) rfl dX6_ifCut_51 ?_
        refine gX6_174 F hX (va_blk (Bs := (bMain cI cP o h tx tn Ad M_7)) hP 5 rfl) 0 rfl (v := .int (M_7.2.2.2.2.1.2.1 4)) rfl dX6_ifCut_54 ?_
        refine lv_goto (tgt := 67) hx hb dX6_ifCut_57 (by decide) ?_
        obtain rfl := (Option.some.inj hf)
        exact wr_i F rfl hP hS dX6_ifCut_67
    · replace hf := (if_pos c_2).symm.trans hf
      refine lv_ldc (v := (-1000001)) hx hb hown (hts _ q_289) dX6_ifCut_23 ?_
      obtain rfl := (Option.some.inj hf)
      exact wr_i F rfl hP hS dX6_ifCut_25
def X6_count (K : SMain) (x1 : Int32) : Option (Int32) := (if x1 = 0 then some (K.2.2.2.1.2.1 0) else (if x1 = 1 then some (K.2.2.2.1.2.2.1.2 0) else (if x1 = 2 then ((X1_groupsByJoining K.2.2.2.1).bind fun u_4 => some u_4) else (if x1 = 3 then ((X1_groupsByWalking K.2.2.2.1).bind fun u_7 => some u_7) else (if x1 = 4 then some (K.2.2.2.1.2.1 3) else (if x1 = 5 then some (K.2.2.2.1.2.1 4) else (if x1 = 6 then some ((K.2.2.2.1.2.1 3) - (K.2.2.2.1.2.1 4)) else (if x1 = 7 then (if (K.2.2.2.1.2.1 0) = 0 then some (-1000004) else some (X1_wouldPass K.2.2.2.1)) else (if x1 = 8 then (if (K.2.2.2.1.2.1 0) = 0 then some (-1000004) else some (K.2.2.2.1.2.1 1)) else (if x1 = 9 then ((X1_pulledPuppets K.2.2.2.1).bind fun u_17 => some u_17) else (if x1 = 10 then some (K.2.2.2.1.2.2.2.2 0) else (if x1 = 11 then some (K.2.2.2.1.2.2.2.2 1) else (if x1 = 12 then some (X0_kept K.2.2.2.1.2.2.2) else (if x1 = 13 then some (K.1 1) else (if x1 = 14 then some (K.2.1.2.2 0) else (if x1 = 15 then some (K.2.2.2.1.2.2.1.2 1) else (if x1 = 20 then some (K.2.2.2.1.2.1 2) else some (-1000001))))))))))))))))))
abbrev rm_X6_count : Room := { frames := 4, cells := 0, slots := 0, locals := 91 }
set_option maxHeartbeats 4000000 in
set_option maxRecDepth 100000 in
theorem c_X6_count (l : Launch) (D : va_G) (cI cP : ClassId) (o h : Nat) (tx tn : Nat → Nat) (Ad : Nat → Nat → Nat) (K : SMain) (x1 : Int32) (z : Int32) (hf : X6_count K x1 = some z) : MRd l yX6_count cX6_count 2 (some .int) rm_X6_count D cI cP [.ref o, .int x1] (wMain cI cP o h tx tn Ad K) z := by
  refine MRd.of (by decide +kernel) (Nat.le_of_ble_eq_true rfl) ?_
  intro p e s m args below meth c ls F hX hP hS hl
  have F : Fx p s m args meth c RX6 cX6_count 2 (some .int) := F
  have hx := F.1
  have hb := F.2.1
  have hown := F.2.2.2.1
  have hts := F.2.2.2.2.1
  have hA : ∀ q : Nat, s.heap.size ≤ q → (fun q : Nat => s.heap.size ≤ q) q := fun _ h => h
  have hl : lv_has ls 2 [(0, .ref o), (1, .int x1)] := hl
  unfold X6_count at hf
  refine lv_iload_n hx hb dX6_count_0 rfl (lv_at hl 1 rfl) ?_
  rcases Decidable.em (x1 = 0) with c_1 | c_1
  · replace hf := (if_pos c_1).symm.trans hf
    refine lv_tableIn (off := 99) (tgt := 100) hx hb dX6_count_1 (by rw [c_1]; decide) (by rw [c_1]; decide) (by rw [c_1]; rfl) (by decide) ?_
    refine lv_aload_n hx hb dX6_count_100 rfl (lv_at hl 0 rfl) ?_
    refine gX6_10 F hX hP 0 rfl (v := .ref (Ad 0 0)) rfl dX6_count_101 ?_
    refine gX6_178 F hX (va_blk (Bs := (bMain cI cP o h tx tn Ad K)) hP 4 rfl) 0 rfl (v := .int (K.2.2.2.1.2.1 0)) rfl dX6_count_104 ?_
    exact rd_i F (Option.some.inj hf) hS dX6_count_107
  replace hf := (if_neg c_1).symm.trans hf
  rcases Decidable.em (x1 = 1) with c_2 | c_2
  · replace hf := (if_pos c_2).symm.trans hf
    refine lv_tableIn (off := 107) (tgt := 108) hx hb dX6_count_1 (by rw [c_2]; decide) (by rw [c_2]; decide) (by rw [c_2]; rfl) (by decide) ?_
    refine lv_aload_n hx hb dX6_count_108 rfl (lv_at hl 0 rfl) ?_
    refine gX6_10 F hX hP 0 rfl (v := .ref (Ad 0 0)) rfl dX6_count_109 ?_
    refine gX6_105 F hX (va_blk (Bs := (bMain cI cP o h tx tn Ad K)) hP 4 rfl) 0 rfl (v := .ref (Ad 0 13)) rfl dX6_count_112 ?_
    refine gX6_209 F hX (va_blk (Bs := (bPar cI (Ad 0) K.2.2.2.1)) (va_blk (Bs := (bMain cI cP o h tx tn Ad K)) hP 4 rfl) 7 rfl) 0 rfl (v := .int (K.2.2.2.1.2.2.1.2 0)) rfl dX6_count_115 ?_
    exact rd_i F (Option.some.inj hf) hS dX6_count_118
  replace hf := (if_neg c_2).symm.trans hf
  rcases Decidable.em (x1 = 2) with c_3 | c_3
  · replace hf := (if_pos c_3).symm.trans hf
    refine lv_tableIn (off := 118) (tgt := 119) hx hb dX6_count_1 (by rw [c_3]; decide) (by rw [c_3]; decide) (by rw [c_3]; rfl) (by decide) ?_
    refine lv_aload_n hx hb dX6_count_119 rfl (lv_at hl 0 rfl) ?_
    refine gX6_10 F hX hP 0 rfl (v := .ref (Ad 0 0)) rfl dX6_count_120 ?_
    obtain ⟨u_4, h_5, hf⟩ := ob hf
    refine k_rd (runVN F hX wdX6_198 (rm := rm_X1_groupsByJoining) (As := []) (rest := []) ⟨rfl, rfl⟩ ⟨Nat.le_of_ble_eq_true rfl, Nat.le_of_ble_eq_true rfl⟩ hl.1 rfl rfl (Nat.le_of_ble_eq_true rfl) dX6_count_123 ⟨Nat.zero_le _, Nat.zero_le _⟩) (c_X1_groupsByJoining l D cI cP (Ad 0) K.2.2.2.1  _ h_5) hX (va_recv hX.1 (va_blk (Bs := (bMain cI cP o h tx tn Ad K)) hP 4 rfl) (ci := 1) (q0 := 0) rfl rfl) (va_blk (Bs := (bMain cI cP o h tx tn Ad K)) hP 4 rfl) hP hS hA (fun H locs hP hS => ?_)
    exact rd_i F (Option.some.inj hf) hS dX6_count_126
  replace hf := (if_neg c_3).symm.trans hf
  rcases Decidable.em (x1 = 3) with c_6 | c_6
  · replace hf := (if_pos c_6).symm.trans hf
    refine lv_tableIn (off := 126) (tgt := 127) hx hb dX6_count_1 (by rw [c_6]; decide) (by rw [c_6]; decide) (by rw [c_6]; rfl) (by decide) ?_
    refine lv_aload_n hx hb dX6_count_127 rfl (lv_at hl 0 rfl) ?_
    refine gX6_10 F hX hP 0 rfl (v := .ref (Ad 0 0)) rfl dX6_count_128 ?_
    obtain ⟨u_7, h_8, hf⟩ := ob hf
    refine k_rd (runVN F hX wdX6_212 (rm := rm_X1_groupsByWalking) (As := []) (rest := []) ⟨rfl, rfl⟩ ⟨Nat.le_of_ble_eq_true rfl, Nat.le_of_ble_eq_true rfl⟩ hl.1 rfl rfl (Nat.le_of_ble_eq_true rfl) dX6_count_131 ⟨Nat.zero_le _, Nat.zero_le _⟩) (c_X1_groupsByWalking l D cI cP (Ad 0) K.2.2.2.1  _ h_8) hX (va_recv hX.1 (va_blk (Bs := (bMain cI cP o h tx tn Ad K)) hP 4 rfl) (ci := 1) (q0 := 0) rfl rfl) (va_blk (Bs := (bMain cI cP o h tx tn Ad K)) hP 4 rfl) hP hS hA (fun H locs hP hS => ?_)
    exact rd_i F (Option.some.inj hf) hS dX6_count_134
  replace hf := (if_neg c_6).symm.trans hf
  rcases Decidable.em (x1 = 4) with c_9 | c_9
  · replace hf := (if_pos c_9).symm.trans hf
    refine lv_tableIn (off := 134) (tgt := 135) hx hb dX6_count_1 (by rw [c_9]; decide) (by rw [c_9]; decide) (by rw [c_9]; rfl) (by decide) ?_
    refine lv_aload_n hx hb dX6_count_135 rfl (lv_at hl 0 rfl) ?_
    refine gX6_10 F hX hP 0 rfl (v := .ref (Ad 0 0)) rfl dX6_count_136 ?_
    refine gX6_201 F hX (va_blk (Bs := (bMain cI cP o h tx tn Ad K)) hP 4 rfl) 0 rfl (v := .int (K.2.2.2.1.2.1 3)) rfl dX6_count_139 ?_
    exact rd_i F (Option.some.inj hf) hS dX6_count_142
  replace hf := (if_neg c_9).symm.trans hf
  rcases Decidable.em (x1 = 5) with c_10 | c_10
  · replace hf := (if_pos c_10).symm.trans hf
    refine lv_tableIn (off := 142) (tgt := 143) hx hb dX6_count_1 (by rw [c_10]; decide) (by rw [c_10]; decide) (by rw [c_10]; rfl) (by decide) ?_
    refine lv_aload_n hx hb dX6_count_143 rfl (lv_at hl 0 rfl) ?_
    refine gX6_10 F hX hP 0 rfl (v := .ref (Ad 0 0)) rfl dX6_count_144 ?_
    refine gX6_174 F hX (va_blk (Bs := (bMain cI cP o h tx tn Ad K)) hP 4 rfl) 0 rfl (v := .int (K.2.2.2.1.2.1 4)) rfl dX6_count_147 ?_
    exact rd_i F (Option.some.inj hf) hS dX6_count_150
  replace hf := (if_neg c_10).symm.trans hf
  rcases Decidable.em (x1 = 6) with c_11 | c_11
  · replace hf := (if_pos c_11).symm.trans hf
    refine lv_tableIn (off := 150) (tgt := 151) hx hb dX6_count_1 (by rw [c_11]; decide) (by rw [c_11]; decide) (by rw [c_11]; rfl) (by decide) ?_
    refine lv_aload_n hx hb dX6_count_151 rfl (lv_at hl 0 rfl) ?_
    refine gX6_10 F hX hP 0 rfl (v := .ref (Ad 0 0)) rfl dX6_count_152 ?_
    refine gX6_201 F hX (va_blk (Bs := (bMain cI cP o h tx tn Ad K)) hP 4 rfl) 0 rfl (v := .int (K.2.2.2.1.2.1 3)) rfl dX6_count_155 ?_
    refine lv_aload_n hx hb dX6_count_158 rfl (lv_at hl 0 rfl) ?_
    refine gX6_10 F hX hP 0 rfl (v := .ref (Ad 0 0)) rfl dX6_count_159 ?_
    refine gX6_174 F hX (va_blk (Bs := (bMain cI cP o h tx tn Ad K)) hP 4 rfl) 0 rfl (v := .int (K.2.2.2.1.2.1 4)) rfl dX6_count_162 ?_
    refine lv_isub hx hb dX6_count_165 ?_
    exact rd_i F (Option.some.inj hf) hS dX6_count_166
  replace hf := (if_neg c_11).symm.trans hf
  rcases Decidable.em (x1 = 7) with c_12 | c_12
  · replace hf := (if_pos c_12).symm.trans hf
    refine lv_tableIn (off := 166) (tgt := 167) hx hb dX6_count_1 (by rw [c_12]; decide) (by rw [c_12]; decide) (by rw [c_12]; rfl) (by decide) ?_
    refine lv_aload_n hx hb dX6_count_167 rfl (lv_at hl 0 rfl) ?_
    refine gX6_10 F hX hP 0 rfl (v := .ref (Ad 0 0)) rfl dX6_count_168 ?_
    refine gX6_178 F hX (va_blk (Bs := (bMain cI cP o h tx tn Ad K)) hP 4 rfl) 0 rfl (v := .int (K.2.2.2.1.2.1 0)) rfl dX6_count_171 ?_
    refine lv_if_ne (tgt := 182) hx hb dX6_count_174 (by decide) (fun c_13 => ?_) (fun c_13 => ?_)
    · replace hf := (if_neg c_13).symm.trans hf
      refine lv_aload_n hx hb dX6_count_182 rfl (lv_at hl 0 rfl) ?_
      refine gX6_10 F hX hP 0 rfl (v := .ref (Ad 0 0)) rfl dX6_count_183 ?_
      refine k_rd (runVN F hX wdX6_215 (rm := rm_X1_wouldPass) (As := []) (rest := []) ⟨rfl, rfl⟩ ⟨Nat.le_of_ble_eq_true rfl, Nat.le_of_ble_eq_true rfl⟩ hl.1 rfl rfl (Nat.le_of_ble_eq_true rfl) dX6_count_186 ⟨Nat.zero_le _, Nat.zero_le _⟩) (c_X1_wouldPass l D cI cP (Ad 0) K.2.2.2.1  _ rfl) hX (va_recv hX.1 (va_blk (Bs := (bMain cI cP o h tx tn Ad K)) hP 4 rfl) (ci := 1) (q0 := 0) rfl rfl) (va_blk (Bs := (bMain cI cP o h tx tn Ad K)) hP 4 rfl) hP hS hA (fun H locs hP hS => ?_)
      exact rd_i F (Option.some.inj hf) hS dX6_count_189
    · replace hf := (if_pos c_13).symm.trans hf
      refine lv_ldc (v := (-1000004)) hx hb hown (hts _ q_299) dX6_count_177 ?_
      refine lv_goto (tgt := 189) hx hb dX6_count_179 (by decide) ?_
      exact rd_i F (Option.some.inj hf) hS dX6_count_189
  replace hf := (if_neg c_12).symm.trans hf
  rcases Decidable.em (x1 = 8) with c_14 | c_14
  · replace hf := (if_pos c_14).symm.trans hf
    refine lv_tableIn (off := 189) (tgt := 190) hx hb dX6_count_1 (by rw [c_14]; decide) (by rw [c_14]; decide) (by rw [c_14]; rfl) (by decide) ?_
    refine lv_aload_n hx hb dX6_count_190 rfl (lv_at hl 0 rfl) ?_
    refine gX6_10 F hX hP 0 rfl (v := .ref (Ad 0 0)) rfl dX6_count_191 ?_
    refine gX6_178 F hX (va_blk (Bs := (bMain cI cP o h tx tn Ad K)) hP 4 rfl) 0 rfl (v := .int (K.2.2.2.1.2.1 0)) rfl dX6_count_194 ?_
    refine lv_if_ne (tgt := 205) hx hb dX6_count_197 (by decide) (fun c_15 => ?_) (fun c_15 => ?_)
    · replace hf := (if_neg c_15).symm.trans hf
      refine lv_aload_n hx hb dX6_count_205 rfl (lv_at hl 0 rfl) ?_
      refine gX6_10 F hX hP 0 rfl (v := .ref (Ad 0 0)) rfl dX6_count_206 ?_
      refine gX6_218 F hX (va_blk (Bs := (bMain cI cP o h tx tn Ad K)) hP 4 rfl) 0 rfl (v := .int (K.2.2.2.1.2.1 1)) rfl dX6_count_209 ?_
      exact rd_i F (Option.some.inj hf) hS dX6_count_212
    · replace hf := (if_pos c_15).symm.trans hf
      refine lv_ldc (v := (-1000004)) hx hb hown (hts _ q_299) dX6_count_200 ?_
      refine lv_goto (tgt := 212) hx hb dX6_count_202 (by decide) ?_
      exact rd_i F (Option.some.inj hf) hS dX6_count_212
  replace hf := (if_neg c_14).symm.trans hf
  rcases Decidable.em (x1 = 9) with c_16 | c_16
  · replace hf := (if_pos c_16).symm.trans hf
    refine lv_tableIn (off := 212) (tgt := 213) hx hb dX6_count_1 (by rw [c_16]; decide) (by rw [c_16]; decide) (by rw [c_16]; rfl) (by decide) ?_
    refine lv_aload_n hx hb dX6_count_213 rfl (lv_at hl 0 rfl) ?_
    refine gX6_10 F hX hP 0 rfl (v := .ref (Ad 0 0)) rfl dX6_count_214 ?_
    obtain ⟨u_17, h_18, hf⟩ := ob hf
    refine k_rd (runVN F hX wdX6_221 (rm := rm_X1_pulledPuppets) (As := []) (rest := []) ⟨rfl, rfl⟩ ⟨Nat.le_of_ble_eq_true rfl, Nat.le_of_ble_eq_true rfl⟩ hl.1 rfl rfl (Nat.le_of_ble_eq_true rfl) dX6_count_217 ⟨Nat.zero_le _, Nat.zero_le _⟩) (c_X1_pulledPuppets l D cI cP (Ad 0) K.2.2.2.1  _ h_18) hX (va_recv hX.1 (va_blk (Bs := (bMain cI cP o h tx tn Ad K)) hP 4 rfl) (ci := 1) (q0 := 0) rfl rfl) (va_blk (Bs := (bMain cI cP o h tx tn Ad K)) hP 4 rfl) hP hS hA (fun H locs hP hS => ?_)
    exact rd_i F (Option.some.inj hf) hS dX6_count_220
  replace hf := (if_neg c_16).symm.trans hf
  rcases Decidable.em (x1 = 10) with c_19 | c_19
  · replace hf := (if_pos c_19).symm.trans hf
    refine lv_tableIn (off := 220) (tgt := 221) hx hb dX6_count_1 (by rw [c_19]; decide) (by rw [c_19]; decide) (by rw [c_19]; rfl) (by decide) ?_
    refine lv_aload_n hx hb dX6_count_221 rfl (lv_at hl 0 rfl) ?_
    refine gX6_10 F hX hP 0 rfl (v := .ref (Ad 0 0)) rfl dX6_count_222 ?_
    refine gX6_152 F hX (va_blk (Bs := (bMain cI cP o h tx tn Ad K)) hP 4 rfl) 0 rfl (v := .ref (Ad 0 22)) rfl dX6_count_225 ?_
    refine gX6_224 F hX (va_blk (Bs := (bPar cI (Ad 0) K.2.2.2.1)) (va_blk (Bs := (bMain cI cP o h tx tn Ad K)) hP 4 rfl) 8 rfl) 0 rfl (v := .int (K.2.2.2.1.2.2.2.2 0)) rfl dX6_count_228 ?_
    exact rd_i F (Option.some.inj hf) hS dX6_count_231
  replace hf := (if_neg c_19).symm.trans hf
  rcases Decidable.em (x1 = 11) with c_20 | c_20
  · replace hf := (if_pos c_20).symm.trans hf
    refine lv_tableIn (off := 231) (tgt := 232) hx hb dX6_count_1 (by rw [c_20]; decide) (by rw [c_20]; decide) (by rw [c_20]; rfl) (by decide) ?_
    refine lv_aload_n hx hb dX6_count_232 rfl (lv_at hl 0 rfl) ?_
    refine gX6_10 F hX hP 0 rfl (v := .ref (Ad 0 0)) rfl dX6_count_233 ?_
    refine gX6_152 F hX (va_blk (Bs := (bMain cI cP o h tx tn Ad K)) hP 4 rfl) 0 rfl (v := .ref (Ad 0 22)) rfl dX6_count_236 ?_
    refine gX6_227 F hX (va_blk (Bs := (bPar cI (Ad 0) K.2.2.2.1)) (va_blk (Bs := (bMain cI cP o h tx tn Ad K)) hP 4 rfl) 8 rfl) 0 rfl (v := .int (K.2.2.2.1.2.2.2.2 1)) rfl dX6_count_239 ?_
    exact rd_i F (Option.some.inj hf) hS dX6_count_242
  replace hf := (if_neg c_20).symm.trans hf
  rcases Decidable.em (x1 = 12) with c_21 | c_21
  · replace hf := (if_pos c_21).symm.trans hf
    refine lv_tableIn (off := 242) (tgt := 243) hx hb dX6_count_1 (by rw [c_21]; decide) (by rw [c_21]; decide) (by rw [c_21]; rfl) (by decide) ?_
    refine lv_aload_n hx hb dX6_count_243 rfl (lv_at hl 0 rfl) ?_
    refine gX6_10 F hX hP 0 rfl (v := .ref (Ad 0 0)) rfl dX6_count_244 ?_
    refine gX6_152 F hX (va_blk (Bs := (bMain cI cP o h tx tn Ad K)) hP 4 rfl) 0 rfl (v := .ref (Ad 0 22)) rfl dX6_count_247 ?_
    refine k_rd (runVN F hX wdX6_156 (rm := rm_X0_kept) (As := []) (rest := []) ⟨rfl, rfl⟩ ⟨Nat.le_of_ble_eq_true rfl, Nat.le_of_ble_eq_true rfl⟩ hl.1 rfl rfl (Nat.le_of_ble_eq_true rfl) dX6_count_250 ⟨Nat.zero_le _, Nat.zero_le _⟩) (c_X0_kept l D cI cP (fun k => (Ad 0) (22 + k)) K.2.2.2.1.2.2.2  _ rfl) hX (va_recv hX.1 (va_blk (Bs := (bPar cI (Ad 0) K.2.2.2.1)) (va_blk (Bs := (bMain cI cP o h tx tn Ad K)) hP 4 rfl) 8 rfl) (ci := 0) (q0 := 0) rfl rfl) (va_blk (Bs := (bPar cI (Ad 0) K.2.2.2.1)) (va_blk (Bs := (bMain cI cP o h tx tn Ad K)) hP 4 rfl) 8 rfl) hP hS hA (fun H locs hP hS => ?_)
    exact rd_i F (Option.some.inj hf) hS dX6_count_253
  replace hf := (if_neg c_21).symm.trans hf
  rcases Decidable.em (x1 = 13) with c_22 | c_22
  · replace hf := (if_pos c_22).symm.trans hf
    refine lv_tableIn (off := 253) (tgt := 254) hx hb dX6_count_1 (by rw [c_22]; decide) (by rw [c_22]; decide) (by rw [c_22]; rfl) (by decide) ?_
    refine lv_aload_n hx hb dX6_count_254 rfl (lv_at hl 0 rfl) ?_
    refine gX6_230 F hX hP 0 rfl (v := .int (K.1 1)) rfl dX6_count_255 ?_
    exact rd_i F (Option.some.inj hf) hS dX6_count_258
  replace hf := (if_neg c_22).symm.trans hf
  rcases Decidable.em (x1 = 14) with c_23 | c_23
  · replace hf := (if_pos c_23).symm.trans hf
    refine lv_tableIn (off := 258) (tgt := 259) hx hb dX6_count_1 (by rw [c_23]; decide) (by rw [c_23]; decide) (by rw [c_23]; rfl) (by decide) ?_
    refine lv_aload_n hx hb dX6_count_259 rfl (lv_at hl 0 rfl) ?_
    refine gX6_33 F hX hP 0 rfl (v := .ref (tx 0)) rfl dX6_count_260 ?_
    refine gX6_233 F hX (va_blk (Bs := (bMain cI cP o h tx tn Ad K)) hP 2 rfl) 0 rfl (v := .int (K.2.1.2.2 0)) rfl dX6_count_263 ?_
    exact rd_i F (Option.some.inj hf) hS dX6_count_266
  replace hf := (if_neg c_23).symm.trans hf
  rcases Decidable.em (x1 = 15) with c_24 | c_24
  · replace hf := (if_pos c_24).symm.trans hf
    refine lv_tableIn (off := 266) (tgt := 267) hx hb dX6_count_1 (by rw [c_24]; decide) (by rw [c_24]; decide) (by rw [c_24]; rfl) (by decide) ?_
    refine lv_aload_n hx hb dX6_count_267 rfl (lv_at hl 0 rfl) ?_
    refine gX6_10 F hX hP 0 rfl (v := .ref (Ad 0 0)) rfl dX6_count_268 ?_
    refine gX6_105 F hX (va_blk (Bs := (bMain cI cP o h tx tn Ad K)) hP 4 rfl) 0 rfl (v := .ref (Ad 0 13)) rfl dX6_count_271 ?_
    refine gX6_236 F hX (va_blk (Bs := (bPar cI (Ad 0) K.2.2.2.1)) (va_blk (Bs := (bMain cI cP o h tx tn Ad K)) hP 4 rfl) 7 rfl) 0 rfl (v := .int (K.2.2.2.1.2.2.1.2 1)) rfl dX6_count_274 ?_
    exact rd_i F (Option.some.inj hf) hS dX6_count_277
  replace hf := (if_neg c_24).symm.trans hf
  rcases Decidable.em (x1 = 20) with c_25 | c_25
  · replace hf := (if_pos c_25).symm.trans hf
    refine lv_tableIn (off := 277) (tgt := 278) hx hb dX6_count_1 (by rw [c_25]; decide) (by rw [c_25]; decide) (by rw [c_25]; rfl) (by decide) ?_
    refine lv_aload_n hx hb dX6_count_278 rfl (lv_at hl 0 rfl) ?_
    refine gX6_10 F hX hP 0 rfl (v := .ref (Ad 0 0)) rfl dX6_count_279 ?_
    refine gX6_239 F hX (va_blk (Bs := (bMain cI cP o h tx tn Ad K)) hP 4 rfl) 0 rfl (v := .int (K.2.2.2.1.2.1 2)) rfl dX6_count_282 ?_
    exact rd_i F (Option.some.inj hf) hS dX6_count_285
  replace hf := (if_neg c_25).symm.trans hf
  refine lv_tableD (tgt := 286) (cs := [0, 1, 2, 3, 4, 5, 6, 7, 8, 9, 10, 11, 12, 13, 14, 15, 20]) hx hb dX6_count_1 (by decide) (by decide) (by decide) (by simp [c_1, c_2, c_3, c_6, c_9, c_10, c_11, c_12, c_14, c_16, c_19, c_20, c_21, c_22, c_23, c_24, c_25]) ?_
  refine lv_ldc (v := (-1000001)) hx hb hown (hts _ q_289) dX6_count_286 ?_
  exact rd_i F (Option.some.inj hf) hS dX6_count_288
