def X6_puppetOf (K : SMain) (x1 : Int32) (x2 : Int32) : Option (Int32) := (if (X1_hasPuppet K.2.2.2.1 x1) = 0 then some (-1000001) else (if x2 = 0 then some (rget 12 (K.2.2.2.1.1 0) x1) else (if x2 = 1 then some (rget 12 (K.2.2.2.1.1 1) x1) else (if x2 = 2 then (if (X1_isPulled K.2.2.2.1 x1) = 0 then some (-1000004) else some (rget 12 (K.2.2.2.1.1 2) x1)) else (if x2 = 3 then some (rget 12 (K.2.2.2.1.1 5) x1) else (if x2 = 4 then some (rget 12 (K.2.2.2.1.1 3) x1) else (if x2 = 5 then some (rget 12 (K.2.2.2.1.1 4) x1) else (if x2 = 6 then ((X3_howManyAt K.2.2.2.1.2.2.1 x1).bind fun u_10 => some u_10) else (if x2 = 7 then ((X1_membersOf K.2.2.2.1 (rget 12 (K.2.2.2.1.1 3) x1)).bind fun u_13 => some u_13) else (if x2 = 8 then ((X1_membersOf K.2.2.2.1 (rget 12 (K.2.2.2.1.1 3) x1)).bind fun u_16 => ((X1_seatsIn K.2.2.2.1 u_16).bind fun u_18 => some u_18)) else some (-1000001)))))))))))
abbrev rm_X6_puppetOf : Room := { frames := 2, cells := 0, slots := 0, locals := 44 }
set_option maxHeartbeats 4000000 in
set_option maxRecDepth 100000 in
theorem c_X6_puppetOf (l : Launch) (D : va_G) (cI cP : ClassId) (o h : Nat) (tx tn : Nat → Nat) (Ad : Nat → Nat → Nat) (K : SMain) (x1 : Int32) (x2 : Int32) (z : Int32) (hf : X6_puppetOf K x1 x2 = some z) : MRd l yX6_puppetOf cX6_puppetOf 4 (some .int) rm_X6_puppetOf D cI cP [.ref o, .int x1, .int x2] (wMain cI cP o h tx tn Ad K) z := by
  refine MRd.of (by decide +kernel) (Nat.le_of_ble_eq_true rfl) ?_
  intro p e s m args below meth c ls F hX hP hS hl
  have F : Fx p s m args meth c RX6 cX6_puppetOf 4 (some .int) := F
  have hx := F.1
  have hb := F.2.1
  have hown := F.2.2.2.1
  have hts := F.2.2.2.2.1
  have hA : ∀ q : Nat, s.heap.size ≤ q → (fun q : Nat => s.heap.size ≤ q) q := fun _ h => h
  have hl : lv_has ls 4 [(0, .ref o), (1, .int x1), (2, .int x2)] := hl
  unfold X6_puppetOf at hf
  refine lv_aload_n hx hb dX6_puppetOf_0 rfl (lv_at hl 0 rfl) ?_
  refine gX6_10 F hX hP 0 rfl (v := .ref (Ad 0 0)) rfl dX6_puppetOf_1 ?_
  refine lv_iload_n hx hb dX6_puppetOf_4 rfl (lv_at hl 1 rfl) ?_
  refine k_rd (runVN F hX wdX6_73 (rm := rm_X1_hasPuppet) (As := [.int x1]) (rest := []) ⟨rfl, rfl⟩ ⟨Nat.le_of_ble_eq_true rfl, Nat.le_of_ble_eq_true rfl⟩ hl.1 rfl rfl (Nat.le_of_ble_eq_true rfl) dX6_puppetOf_5 ⟨Nat.zero_le _, Nat.zero_le _⟩) (c_X1_hasPuppet l D cI cP (Ad 0) K.2.2.2.1 x1 _ rfl) hX (va_recv hX.1 (va_blk (Bs := (bMain cI cP o h tx tn Ad K)) hP 4 rfl) (ci := 1) (q0 := 0) rfl rfl) (va_blk (Bs := (bMain cI cP o h tx tn Ad K)) hP 4 rfl) hP hS hA (fun H locs hP hS => ?_)
  refine lv_if_ne (tgt := 14) hx hb dX6_puppetOf_8 (by decide) (fun c_1 => ?_) (fun c_1 => ?_)
  · replace hf := (if_neg c_1).symm.trans hf
    refine lv_aload_n hx hb dX6_puppetOf_14 rfl (lv_at hl 0 rfl) ?_
    refine gX6_10 F hX hP 0 rfl (v := .ref (Ad 0 0)) rfl dX6_puppetOf_15 ?_
    refine gX6_77 F hX (va_blk (Bs := (bMain cI cP o h tx tn Ad K)) hP 4 rfl) 0 rfl (v := .ref (Ad 0 7)) rfl dX6_puppetOf_18 ?_
    refine lv_iload_n hx hb dX6_puppetOf_21 rfl (lv_at hl 1 rfl) ?_
    refine k_rd (runVN F hX wdX6_81 (rm := rm_X2_get) (As := [.int x1]) (rest := []) ⟨rfl, rfl⟩ ⟨Nat.le_of_ble_eq_true rfl, Nat.le_of_ble_eq_true rfl⟩ hl.1 rfl rfl (Nat.le_of_ble_eq_true rfl) dX6_puppetOf_22 ⟨Nat.zero_le _, Nat.zero_le _⟩) (k_rget l D cI cP (Ad 0 7) (Ad 0 8) 12 (by decide) (K.2.2.2.1.1 3) x1) hX (va_recv hX.1 (va_blk (Bs := (bPar cI (Ad 0) K.2.2.2.1)) (va_blk (Bs := (bMain cI cP o h tx tn Ad K)) hP 4 rfl) 4 rfl) (ci := 2) (q0 := 0) rfl rfl) (va_blk (Bs := (bPar cI (Ad 0) K.2.2.2.1)) (va_blk (Bs := (bMain cI cP o h tx tn Ad K)) hP 4 rfl) 4 rfl) hP hS hA (fun H locs hP hS => ?_)
    refine lv_istore_n (lv' := [(3, .int (rget 12 (K.2.2.2.1.1 3) x1)), (0, .ref o), (1, .int x1), (2, .int x2)]) hx hb dX6_puppetOf_25 rfl hl (by decide) rfl (fun ls hl => ?_)
    refine lv_iload_n hx hb dX6_puppetOf_26 rfl (lv_at hl 3 rfl) ?_
    rcases Decidable.em (x2 = 0) with c_2 | c_2
    · replace hf := (if_pos c_2).symm.trans hf
      refine lv_tableIn (off := 49) (tgt := 76) hx hb dX6_puppetOf_27 (by rw [c_2]; decide) (by rw [c_2]; decide) (by rw [c_2]; rfl) (by decide) ?_
      refine lv_aload_n hx hb dX6_puppetOf_76 rfl (lv_at hl 1 rfl) ?_
      refine gX6_10 F hX hP 0 rfl (v := .ref (Ad 0 0)) rfl dX6_puppetOf_77 ?_
      refine gX6_86 F hX (va_blk (Bs := (bMain cI cP o h tx tn Ad K)) hP 4 rfl) 0 rfl (v := .ref (Ad 0 1)) rfl dX6_puppetOf_80 ?_
      refine lv_iload_n hx hb dX6_puppetOf_83 rfl (lv_at hl 2 rfl) ?_
      refine k_rd (runVN F hX wdX6_81 (rm := rm_X2_get) (As := [.int x1]) (rest := []) ⟨rfl, rfl⟩ ⟨Nat.le_of_ble_eq_true rfl, Nat.le_of_ble_eq_true rfl⟩ hl.1 rfl rfl (Nat.le_of_ble_eq_true rfl) dX6_puppetOf_84 ⟨Nat.zero_le _, Nat.zero_le _⟩) (k_rget l D cI cP (Ad 0 1) (Ad 0 2) 12 (by decide) (K.2.2.2.1.1 0) x1) hX (va_recv hX.1 (va_blk (Bs := (bPar cI (Ad 0) K.2.2.2.1)) (va_blk (Bs := (bMain cI cP o h tx tn Ad K)) hP 4 rfl) 1 rfl) (ci := 2) (q0 := 0) rfl rfl) (va_blk (Bs := (bPar cI (Ad 0) K.2.2.2.1)) (va_blk (Bs := (bMain cI cP o h tx tn Ad K)) hP 4 rfl) 1 rfl) hP hS hA (fun H locs hP hS => ?_)
      exact rd_i F (Option.some.inj hf) hS dX6_puppetOf_87
    replace hf := (if_neg c_2).symm.trans hf
    rcases Decidable.em (x2 = 1) with c_3 | c_3
    · replace hf := (if_pos c_3).symm.trans hf
      refine lv_tableIn (off := 61) (tgt := 88) hx hb dX6_puppetOf_27 (by rw [c_3]; decide) (by rw [c_3]; decide) (by rw [c_3]; rfl) (by decide) ?_
      refine lv_aload_n hx hb dX6_puppetOf_88 rfl (lv_at hl 1 rfl) ?_
      refine gX6_10 F hX hP 0 rfl (v := .ref (Ad 0 0)) rfl dX6_puppetOf_89 ?_
      refine gX6_89 F hX (va_blk (Bs := (bMain cI cP o h tx tn Ad K)) hP 4 rfl) 0 rfl (v := .ref (Ad 0 3)) rfl dX6_puppetOf_92 ?_
      refine lv_iload_n hx hb dX6_puppetOf_95 rfl (lv_at hl 2 rfl) ?_
      refine k_rd (runVN F hX wdX6_81 (rm := rm_X2_get) (As := [.int x1]) (rest := []) ⟨rfl, rfl⟩ ⟨Nat.le_of_ble_eq_true rfl, Nat.le_of_ble_eq_true rfl⟩ hl.1 rfl rfl (Nat.le_of_ble_eq_true rfl) dX6_puppetOf_96 ⟨Nat.zero_le _, Nat.zero_le _⟩) (k_rget l D cI cP (Ad 0 3) (Ad 0 4) 12 (by decide) (K.2.2.2.1.1 1) x1) hX (va_recv hX.1 (va_blk (Bs := (bPar cI (Ad 0) K.2.2.2.1)) (va_blk (Bs := (bMain cI cP o h tx tn Ad K)) hP 4 rfl) 2 rfl) (ci := 2) (q0 := 0) rfl rfl) (va_blk (Bs := (bPar cI (Ad 0) K.2.2.2.1)) (va_blk (Bs := (bMain cI cP o h tx tn Ad K)) hP 4 rfl) 2 rfl) hP hS hA (fun H locs hP hS => ?_)
      exact rd_i F (Option.some.inj hf) hS dX6_puppetOf_99
    replace hf := (if_neg c_3).symm.trans hf
    rcases Decidable.em (x2 = 2) with c_4 | c_4
    · replace hf := (if_pos c_4).symm.trans hf
      refine lv_tableIn (off := 73) (tgt := 100) hx hb dX6_puppetOf_27 (by rw [c_4]; decide) (by rw [c_4]; decide) (by rw [c_4]; rfl) (by decide) ?_
      refine lv_aload_n hx hb dX6_puppetOf_100 rfl (lv_at hl 1 rfl) ?_
      refine gX6_10 F hX hP 0 rfl (v := .ref (Ad 0 0)) rfl dX6_puppetOf_101 ?_
      refine lv_iload_n hx hb dX6_puppetOf_104 rfl (lv_at hl 2 rfl) ?_
      refine k_rd (runVN F hX wdX6_92 (rm := rm_X1_isPulled) (As := [.int x1]) (rest := []) ⟨rfl, rfl⟩ ⟨Nat.le_of_ble_eq_true rfl, Nat.le_of_ble_eq_true rfl⟩ hl.1 rfl rfl (Nat.le_of_ble_eq_true rfl) dX6_puppetOf_105 ⟨Nat.zero_le _, Nat.zero_le _⟩) (c_X1_isPulled l D cI cP (Ad 0) K.2.2.2.1 x1 _ rfl) hX (va_recv hX.1 (va_blk (Bs := (bMain cI cP o h tx tn Ad K)) hP 4 rfl) (ci := 1) (q0 := 0) rfl rfl) (va_blk (Bs := (bMain cI cP o h tx tn Ad K)) hP 4 rfl) hP hS hA (fun H locs hP hS => ?_)
      refine lv_if_eq (tgt := 125) hx hb dX6_puppetOf_108 (by decide) (fun c_5 => ?_) (fun c_5 => ?_)
      · replace hf := (if_pos c_5).symm.trans hf
        refine lv_ldc (v := (-1000004)) hx hb hown (hts _ q_545) dX6_puppetOf_125 ?_
        exact rd_i F (Option.some.inj hf) hS dX6_puppetOf_127
      · replace hf := (if_neg c_5).symm.trans hf
        refine lv_aload_n hx hb dX6_puppetOf_111 rfl (lv_at hl 1 rfl) ?_
        refine gX6_10 F hX hP 0 rfl (v := .ref (Ad 0 0)) rfl dX6_puppetOf_112 ?_
        refine gX6_95 F hX (va_blk (Bs := (bMain cI cP o h tx tn Ad K)) hP 4 rfl) 0 rfl (v := .ref (Ad 0 5)) rfl dX6_puppetOf_115 ?_
        refine lv_iload_n hx hb dX6_puppetOf_118 rfl (lv_at hl 2 rfl) ?_
        refine k_rd (runVN F hX wdX6_81 (rm := rm_X2_get) (As := [.int x1]) (rest := []) ⟨rfl, rfl⟩ ⟨Nat.le_of_ble_eq_true rfl, Nat.le_of_ble_eq_true rfl⟩ hl.1 rfl rfl (Nat.le_of_ble_eq_true rfl) dX6_puppetOf_119 ⟨Nat.zero_le _, Nat.zero_le _⟩) (k_rget l D cI cP (Ad 0 5) (Ad 0 6) 12 (by decide) (K.2.2.2.1.1 2) x1) hX (va_recv hX.1 (va_blk (Bs := (bPar cI (Ad 0) K.2.2.2.1)) (va_blk (Bs := (bMain cI cP o h tx tn Ad K)) hP 4 rfl) 3 rfl) (ci := 2) (q0 := 0) rfl rfl) (va_blk (Bs := (bPar cI (Ad 0) K.2.2.2.1)) (va_blk (Bs := (bMain cI cP o h tx tn Ad K)) hP 4 rfl) 3 rfl) hP hS hA (fun H locs hP hS => ?_)
        refine lv_goto (tgt := 127) hx hb dX6_puppetOf_122 (by decide) ?_
        exact rd_i F (Option.some.inj hf) hS dX6_puppetOf_127
    replace hf := (if_neg c_4).symm.trans hf
    rcases Decidable.em (x2 = 3) with c_6 | c_6
    · replace hf := (if_pos c_6).symm.trans hf
      refine lv_tableIn (off := 101) (tgt := 128) hx hb dX6_puppetOf_27 (by rw [c_6]; decide) (by rw [c_6]; decide) (by rw [c_6]; rfl) (by decide) ?_
      refine lv_aload_n hx hb dX6_puppetOf_128 rfl (lv_at hl 1 rfl) ?_
      refine gX6_10 F hX hP 0 rfl (v := .ref (Ad 0 0)) rfl dX6_puppetOf_129 ?_
      refine gX6_99 F hX (va_blk (Bs := (bMain cI cP o h tx tn Ad K)) hP 4 rfl) 0 rfl (v := .ref (Ad 0 11)) rfl dX6_puppetOf_132 ?_
      refine lv_iload_n hx hb dX6_puppetOf_135 rfl (lv_at hl 2 rfl) ?_
      refine k_rd (runVN F hX wdX6_81 (rm := rm_X2_get) (As := [.int x1]) (rest := []) ⟨rfl, rfl⟩ ⟨Nat.le_of_ble_eq_true rfl, Nat.le_of_ble_eq_true rfl⟩ hl.1 rfl rfl (Nat.le_of_ble_eq_true rfl) dX6_puppetOf_136 ⟨Nat.zero_le _, Nat.zero_le _⟩) (k_rget l D cI cP (Ad 0 11) (Ad 0 12) 12 (by decide) (K.2.2.2.1.1 5) x1) hX (va_recv hX.1 (va_blk (Bs := (bPar cI (Ad 0) K.2.2.2.1)) (va_blk (Bs := (bMain cI cP o h tx tn Ad K)) hP 4 rfl) 6 rfl) (ci := 2) (q0 := 0) rfl rfl) (va_blk (Bs := (bPar cI (Ad 0) K.2.2.2.1)) (va_blk (Bs := (bMain cI cP o h tx tn Ad K)) hP 4 rfl) 6 rfl) hP hS hA (fun H locs hP hS => ?_)
      exact rd_i F (Option.some.inj hf) hS dX6_puppetOf_139
    replace hf := (if_neg c_6).symm.trans hf
    rcases Decidable.em (x2 = 4) with c_7 | c_7
    · replace hf := (if_pos c_7).symm.trans hf
      refine lv_tableIn (off := 113) (tgt := 140) hx hb dX6_puppetOf_27 (by rw [c_7]; decide) (by rw [c_7]; decide) (by rw [c_7]; rfl) (by decide) ?_
      refine lv_iload_n hx hb dX6_puppetOf_140 rfl (lv_at hl 0 rfl) ?_
      exact rd_i F (Option.some.inj hf) hS dX6_puppetOf_141
    replace hf := (if_neg c_7).symm.trans hf
    rcases Decidable.em (x2 = 5) with c_8 | c_8
    · replace hf := (if_pos c_8).symm.trans hf
      refine lv_tableIn (off := 115) (tgt := 142) hx hb dX6_puppetOf_27 (by rw [c_8]; decide) (by rw [c_8]; decide) (by rw [c_8]; rfl) (by decide) ?_
      refine lv_aload_n hx hb dX6_puppetOf_142 rfl (lv_at hl 1 rfl) ?_
      refine gX6_10 F hX hP 0 rfl (v := .ref (Ad 0 0)) rfl dX6_puppetOf_143 ?_
      refine gX6_102 F hX (va_blk (Bs := (bMain cI cP o h tx tn Ad K)) hP 4 rfl) 0 rfl (v := .ref (Ad 0 9)) rfl dX6_puppetOf_146 ?_
      refine lv_iload_n hx hb dX6_puppetOf_149 rfl (lv_at hl 2 rfl) ?_
      refine k_rd (runVN F hX wdX6_81 (rm := rm_X2_get) (As := [.int x1]) (rest := []) ⟨rfl, rfl⟩ ⟨Nat.le_of_ble_eq_true rfl, Nat.le_of_ble_eq_true rfl⟩ hl.1 rfl rfl (Nat.le_of_ble_eq_true rfl) dX6_puppetOf_150 ⟨Nat.zero_le _, Nat.zero_le _⟩) (k_rget l D cI cP (Ad 0 9) (Ad 0 10) 12 (by decide) (K.2.2.2.1.1 4) x1) hX (va_recv hX.1 (va_blk (Bs := (bPar cI (Ad 0) K.2.2.2.1)) (va_blk (Bs := (bMain cI cP o h tx tn Ad K)) hP 4 rfl) 5 rfl) (ci := 2) (q0 := 0) rfl rfl) (va_blk (Bs := (bPar cI (Ad 0) K.2.2.2.1)) (va_blk (Bs := (bMain cI cP o h tx tn Ad K)) hP 4 rfl) 5 rfl) hP hS hA (fun H locs hP hS => ?_)
      exact rd_i F (Option.some.inj hf) hS dX6_puppetOf_153
    replace hf := (if_neg c_8).symm.trans hf
    rcases Decidable.em (x2 = 6) with c_9 | c_9
    · replace hf := (if_pos c_9).symm.trans hf
      refine lv_tableIn (off := 127) (tgt := 154) hx hb dX6_puppetOf_27 (by rw [c_9]; decide) (by rw [c_9]; decide) (by rw [c_9]; rfl) (by decide) ?_
      refine lv_aload_n hx hb dX6_puppetOf_154 rfl (lv_at hl 1 rfl) ?_
      refine gX6_10 F hX hP 0 rfl (v := .ref (Ad 0 0)) rfl dX6_puppetOf_155 ?_
      refine gX6_105 F hX (va_blk (Bs := (bMain cI cP o h tx tn Ad K)) hP 4 rfl) 0 rfl (v := .ref (Ad 0 13)) rfl dX6_puppetOf_158 ?_
      refine lv_iload_n hx hb dX6_puppetOf_161 rfl (lv_at hl 2 rfl) ?_
      obtain ⟨u_10, h_11, hf⟩ := ob hf
      refine k_rd (runVN F hX wdX6_109 (rm := rm_X3_howManyAt) (As := [.int x1]) (rest := []) ⟨rfl, rfl⟩ ⟨Nat.le_of_ble_eq_true rfl, Nat.le_of_ble_eq_true rfl⟩ hl.1 rfl rfl (Nat.le_of_ble_eq_true rfl) dX6_puppetOf_162 ⟨Nat.zero_le _, Nat.zero_le _⟩) (c_X3_howManyAt l D cI cP (fun k => (Ad 0) (13 + k)) K.2.2.2.1.2.2.1 x1 _ h_11) hX (va_recv hX.1 (va_blk (Bs := (bPar cI (Ad 0) K.2.2.2.1)) (va_blk (Bs := (bMain cI cP o h tx tn Ad K)) hP 4 rfl) 7 rfl) (ci := 3) (q0 := 0) rfl rfl) (va_blk (Bs := (bPar cI (Ad 0) K.2.2.2.1)) (va_blk (Bs := (bMain cI cP o h tx tn Ad K)) hP 4 rfl) 7 rfl) hP hS hA (fun H locs hP hS => ?_)
      exact rd_i F (Option.some.inj hf) hS dX6_puppetOf_165
    replace hf := (if_neg c_9).symm.trans hf
    rcases Decidable.em (x2 = 7) with c_12 | c_12
    · replace hf := (if_pos c_12).symm.trans hf
      refine lv_tableIn (off := 139) (tgt := 166) hx hb dX6_puppetOf_27 (by rw [c_12]; decide) (by rw [c_12]; decide) (by rw [c_12]; rfl) (by decide) ?_
      refine lv_aload_n hx hb dX6_puppetOf_166 rfl (lv_at hl 1 rfl) ?_
      refine gX6_10 F hX hP 0 rfl (v := .ref (Ad 0 0)) rfl dX6_puppetOf_167 ?_
      refine lv_iload_n hx hb dX6_puppetOf_170 rfl (lv_at hl 0 rfl) ?_
      obtain ⟨u_13, h_14, hf⟩ := ob hf
      refine k_rd (runVN F hX wdX6_114 (rm := rm_X1_membersOf) (As := [.int (rget 12 (K.2.2.2.1.1 3) x1)]) (rest := []) ⟨rfl, rfl⟩ ⟨Nat.le_of_ble_eq_true rfl, Nat.le_of_ble_eq_true rfl⟩ hl.1 rfl rfl (Nat.le_of_ble_eq_true rfl) dX6_puppetOf_171 ⟨Nat.zero_le _, Nat.zero_le _⟩) (c_X1_membersOf l D cI cP (Ad 0) K.2.2.2.1 (rget 12 (K.2.2.2.1.1 3) x1) _ h_14) hX (va_recv hX.1 (va_blk (Bs := (bMain cI cP o h tx tn Ad K)) hP 4 rfl) (ci := 1) (q0 := 0) rfl rfl) (va_blk (Bs := (bMain cI cP o h tx tn Ad K)) hP 4 rfl) hP hS hA (fun H locs hP hS => ?_)
      exact rd_i F (Option.some.inj hf) hS dX6_puppetOf_174
    replace hf := (if_neg c_12).symm.trans hf
    rcases Decidable.em (x2 = 8) with c_15 | c_15
    · replace hf := (if_pos c_15).symm.trans hf
      refine lv_tableIn (off := 148) (tgt := 175) hx hb dX6_puppetOf_27 (by rw [c_15]; decide) (by rw [c_15]; decide) (by rw [c_15]; rfl) (by decide) ?_
      refine lv_aload_n hx hb dX6_puppetOf_175 rfl (lv_at hl 1 rfl) ?_
      refine gX6_10 F hX hP 0 rfl (v := .ref (Ad 0 0)) rfl dX6_puppetOf_176 ?_
      refine lv_aload_n hx hb dX6_puppetOf_179 rfl (lv_at hl 1 rfl) ?_
      refine gX6_10 F hX hP 0 rfl (v := .ref (Ad 0 0)) rfl dX6_puppetOf_180 ?_
      refine lv_iload_n hx hb dX6_puppetOf_183 rfl (lv_at hl 0 rfl) ?_
      obtain ⟨u_16, h_17, hf⟩ := ob hf
      refine k_rd (runVN F hX wdX6_114 (rm := rm_X1_membersOf) (As := [.int (rget 12 (K.2.2.2.1.1 3) x1)]) (rest := [.ref (Ad 0 0)]) ⟨rfl, rfl⟩ ⟨Nat.le_of_ble_eq_true rfl, Nat.le_of_ble_eq_true rfl⟩ hl.1 rfl rfl (Nat.le_of_ble_eq_true rfl) dX6_puppetOf_184 ⟨Nat.zero_le _, Nat.zero_le _⟩) (c_X1_membersOf l D cI cP (Ad 0) K.2.2.2.1 (rget 12 (K.2.2.2.1.1 3) x1) _ h_17) hX (va_recv hX.1 (va_blk (Bs := (bMain cI cP o h tx tn Ad K)) hP 4 rfl) (ci := 1) (q0 := 0) rfl rfl) (va_blk (Bs := (bMain cI cP o h tx tn Ad K)) hP 4 rfl) hP hS hA (fun H locs hP hS => ?_)
      obtain ⟨u_18, h_19, hf⟩ := ob hf
      refine k_rd (runVN F hX wdX6_117 (rm := rm_X1_seatsIn) (As := [.int u_16]) (rest := []) ⟨rfl, rfl⟩ ⟨Nat.le_of_ble_eq_true rfl, Nat.le_of_ble_eq_true rfl⟩ hl.1 rfl rfl (Nat.le_of_ble_eq_true rfl) dX6_puppetOf_187 ⟨Nat.zero_le _, Nat.zero_le _⟩) (c_X1_seatsIn l D cI cP (Ad 0) K.2.2.2.1 u_16 _ h_19) hX (va_recv hX.1 (va_blk (Bs := (bMain cI cP o h tx tn Ad K)) hP 4 rfl) (ci := 1) (q0 := 0) rfl rfl) (va_blk (Bs := (bMain cI cP o h tx tn Ad K)) hP 4 rfl) hP hS hA (fun H locs hP hS => ?_)
      exact rd_i F (Option.some.inj hf) hS dX6_puppetOf_190
    replace hf := (if_neg c_15).symm.trans hf
    refine lv_tableD (tgt := 191) (cs := [0, 1, 2, 3, 4, 5, 6, 7, 8]) hx hb dX6_puppetOf_27 (by decide) (by decide) (by decide) (by simp [c_2, c_3, c_4, c_6, c_7, c_8, c_9, c_12, c_15]) ?_
    refine lv_ldc (v := (-1000001)) hx hb hown (hts _ q_533) dX6_puppetOf_191 ?_
    exact rd_i F (Option.some.inj hf) hS dX6_puppetOf_193
  · replace hf := (if_pos c_1).symm.trans hf
    refine lv_ldc (v := (-1000001)) hx hb hown (hts _ q_533) dX6_puppetOf_11 ?_
    exact rd_i F (Option.some.inj hf) hS dX6_puppetOf_13
def X6_hangTogetherWithout (K : SMain) (x1 : Int32) : Option (SMain × Int32) := (bnd (K.1, K.2.1, K.2.2.1, K.2.2.2.1, K.2.2.2.1, K.2.2.2.2.2) fun M_1 => ((X1_cutString M_1.2.2.2.2.1 x1).bind fun u_3 => (bnd (M_1.1, M_1.2.1, M_1.2.2.1, M_1.2.2.2.1, u_3.1, M_1.2.2.2.2.2) fun M_5 => (if ((X1_hangTogether M_5.2.2.2.2.1 (rget 20 (M_5.2.2.2.1.2.2.1.1 0) x1) (rget 20 (M_5.2.2.2.1.2.2.1.1 1) x1)) = 0 ∨ (X1_hangTogether M_5.2.2.2.2.1 (rget 20 (M_5.2.2.2.1.2.2.1.1 0) x1) (rget 20 (M_5.2.2.2.1.2.2.1.1 1) x1)) = 1) then some (M_5, (X1_hangTogether M_5.2.2.2.2.1 (rget 20 (M_5.2.2.2.1.2.2.1.1 0) x1) (rget 20 (M_5.2.2.2.1.2.2.1.1 1) x1))) else none))))
abbrev rm_X6_hangTogetherWithout : Room := { frames := 4, cells := 0, slots := 0, locals := 103 }
set_option maxHeartbeats 4000000 in
set_option maxRecDepth 100000 in
theorem c_X6_hangTogetherWithout (l : Launch) (D : va_G) (cI cP : ClassId) (o h : Nat) (tx tn : Nat → Nat) (Ad : Nat → Nat → Nat) (K : SMain) (x1 : Int32) (z : SMain × Int32) (hf : X6_hangTogetherWithout K x1 = some z) : MWi l yX6_hangTogetherWithout cX6_hangTogetherWithout 2 (some .boolean) rm_X6_hangTogetherWithout D cI cP [.ref o, .int x1] (wMain cI cP o h tx tn Ad K) (wMain cI cP o h tx tn Ad z.1) z.2 := by
  refine MWi.of (by decide +kernel) (Nat.le_of_ble_eq_true rfl) ?_
  intro p e s m args below meth c ls A F hX hP hD hA hS hl
  have F : Fx p s m args meth c RX6 cX6_hangTogetherWithout 2 (some .boolean) := F
  have hx := F.1
  have hb := F.2.1
  have hown := F.2.2.2.1
  have hts := F.2.2.2.2.1
  have hl : lv_has ls 2 [(0, .ref o), (1, .int x1)] := hl
  unfold X6_hangTogetherWithout at hf
  refine lv_aload_n hx hb dX6_hangTogetherWithout_0 rfl (lv_at hl 0 rfl) ?_
  refine gX6_16 F hX hP 0 rfl (v := .ref (Ad 1 0)) rfl dX6_hangTogetherWithout_1 ?_
  refine lv_aload_n hx hb dX6_hangTogetherWithout_4 rfl (lv_at hl 0 rfl) ?_
  refine gX6_10 F hX hP 0 rfl (v := .ref (Ad 0 0)) rfl dX6_hangTogetherWithout_5 ?_
  refine k_wv (runVN F hX wdX6_37 (rm := rm_X1_copyFrom) (As := [.ref (Ad 0 0)]) (rest := []) ⟨rfl, rfl⟩ ⟨Nat.le_of_ble_eq_true rfl, Nat.le_of_ble_eq_true rfl⟩ hl.1 rfl rfl (Nat.le_of_ble_eq_true rfl) dX6_hangTogetherWithout_8 ⟨Nat.zero_le _, Nat.zero_le _⟩) (k_pcopy l D cI cP (Ad 1) (Ad 0) K.2.2.2.2.1 K.2.2.2.1) hX (va_recv hX.1 (va_blk (Bs := (bMain cI cP o h tx tn Ad K)) hP 5 rfl) (ci := 1) (q0 := 0) rfl rfl) (Cut.two (Bs := (bMain cI cP o h tx tn Ad K)) (k := 5) (j := 4) rfl rfl (by decide) rfl) hP hD hS hA (fun H locs hP hD hS => ?_)
  obtain ⟨M_1, e_2, hf⟩ := bnd_e hf
  have hP : va_P D vwCl (wMain cI cP o h tx tn Ad M_1) H := by rw [e_2]; exact hP
  have hD : va_D A (wMain cI cP o h tx tn Ad M_1) := by rw [e_2]; exact hD
  clear e_2
  refine lv_aload_n hx hb dX6_hangTogetherWithout_11 rfl (lv_at hl 0 rfl) ?_
  refine gX6_16 F hX hP 0 rfl (v := .ref (Ad 1 0)) rfl dX6_hangTogetherWithout_12 ?_
  refine lv_iload_n hx hb dX6_hangTogetherWithout_15 rfl (lv_at hl 1 rfl) ?_
  obtain ⟨u_3, h_4, hf⟩ := ob hf
  refine k_wi (runVN F hX wdX6_53 (rm := rm_X1_cutString) (As := [.int x1]) (rest := []) ⟨rfl, rfl⟩ ⟨Nat.le_of_ble_eq_true rfl, Nat.le_of_ble_eq_true rfl⟩ hl.1 rfl rfl (Nat.le_of_ble_eq_true rfl) dX6_hangTogetherWithout_16 ⟨Nat.zero_le _, Nat.zero_le _⟩) (c_X1_cutString l D cI cP (Ad 1) M_1.2.2.2.2.1 x1 _ h_4) hX (va_recv hX.1 (va_blk (Bs := (bMain cI cP o h tx tn Ad M_1)) hP 5 rfl) (ci := 1) (q0 := 0) rfl rfl) (Cut.one (Bs := (bMain cI cP o h tx tn Ad M_1)) (k := 5) rfl rfl) hP hD hS hA (fun H locs hP hD hS => ?_)
  obtain ⟨M_5, e_6, hf⟩ := bnd_e hf
  have hP : va_P D vwCl (wMain cI cP o h tx tn Ad M_5) H := by rw [e_6]; exact hP
  have hD : va_D A (wMain cI cP o h tx tn Ad M_5) := by rw [e_6]; exact hD
  clear e_6
  refine lv_pop hx hb dX6_hangTogetherWithout_19 rfl ?_
  refine lv_aload_n hx hb dX6_hangTogetherWithout_20 rfl (lv_at hl 0 rfl) ?_
  refine gX6_16 F hX hP 0 rfl (v := .ref (Ad 1 0)) rfl dX6_hangTogetherWithout_21 ?_
  refine lv_aload_n hx hb dX6_hangTogetherWithout_24 rfl (lv_at hl 0 rfl) ?_
  refine gX6_10 F hX hP 0 rfl (v := .ref (Ad 0 0)) rfl dX6_hangTogetherWithout_25 ?_
  refine gX6_105 F hX (va_blk (Bs := (bMain cI cP o h tx tn Ad M_5)) hP 4 rfl) 0 rfl (v := .ref (Ad 0 13)) rfl dX6_hangTogetherWithout_28 ?_
  refine gX6_123 F hX (va_blk (Bs := (bPar cI (Ad 0) M_5.2.2.2.1)) (va_blk (Bs := (bMain cI cP o h tx tn Ad M_5)) hP 4 rfl) 7 rfl) 0 rfl (v := .ref (Ad 0 14)) rfl dX6_hangTogetherWithout_31 ?_
  refine lv_iload_n hx hb dX6_hangTogetherWithout_34 rfl (lv_at hl 1 rfl) ?_
  refine k_rd (runVN F hX wdX6_81 (rm := rm_X2_get) (As := [.int x1]) (rest := [.ref (Ad 1 0)]) ⟨rfl, rfl⟩ ⟨Nat.le_of_ble_eq_true rfl, Nat.le_of_ble_eq_true rfl⟩ hl.1 rfl rfl (Nat.le_of_ble_eq_true rfl) dX6_hangTogetherWithout_35 ⟨Nat.zero_le _, Nat.zero_le _⟩) (k_rget l D cI cP (Ad 0 14) (Ad 0 15) 20 (by decide) (M_5.2.2.2.1.2.2.1.1 0) x1) hX (va_recv hX.1 (va_blk (Bs := (bStr cI (fun k => (Ad 0) (13 + k)) M_5.2.2.2.1.2.2.1)) (va_blk (Bs := (bPar cI (Ad 0) M_5.2.2.2.1)) (va_blk (Bs := (bMain cI cP o h tx tn Ad M_5)) hP 4 rfl) 7 rfl) 1 rfl) (ci := 2) (q0 := 0) rfl rfl) (va_blk (Bs := (bStr cI (fun k => (Ad 0) (13 + k)) M_5.2.2.2.1.2.2.1)) (va_blk (Bs := (bPar cI (Ad 0) M_5.2.2.2.1)) (va_blk (Bs := (bMain cI cP o h tx tn Ad M_5)) hP 4 rfl) 7 rfl) 1 rfl) hP hS hA (fun H locs hP hS => ?_)
  refine lv_aload_n hx hb dX6_hangTogetherWithout_38 rfl (lv_at hl 0 rfl) ?_
  refine gX6_10 F hX hP 0 rfl (v := .ref (Ad 0 0)) rfl dX6_hangTogetherWithout_39 ?_
  refine gX6_105 F hX (va_blk (Bs := (bMain cI cP o h tx tn Ad M_5)) hP 4 rfl) 0 rfl (v := .ref (Ad 0 13)) rfl dX6_hangTogetherWithout_42 ?_
  refine gX6_126 F hX (va_blk (Bs := (bPar cI (Ad 0) M_5.2.2.2.1)) (va_blk (Bs := (bMain cI cP o h tx tn Ad M_5)) hP 4 rfl) 7 rfl) 0 rfl (v := .ref (Ad 0 16)) rfl dX6_hangTogetherWithout_45 ?_
  refine lv_iload_n hx hb dX6_hangTogetherWithout_48 rfl (lv_at hl 1 rfl) ?_
  refine k_rd (runVN F hX wdX6_81 (rm := rm_X2_get) (As := [.int x1]) (rest := [.int (rget 20 (M_5.2.2.2.1.2.2.1.1 0) x1), .ref (Ad 1 0)]) ⟨rfl, rfl⟩ ⟨Nat.le_of_ble_eq_true rfl, Nat.le_of_ble_eq_true rfl⟩ hl.1 rfl rfl (Nat.le_of_ble_eq_true rfl) dX6_hangTogetherWithout_49 ⟨Nat.zero_le _, Nat.zero_le _⟩) (k_rget l D cI cP (Ad 0 16) (Ad 0 17) 20 (by decide) (M_5.2.2.2.1.2.2.1.1 1) x1) hX (va_recv hX.1 (va_blk (Bs := (bStr cI (fun k => (Ad 0) (13 + k)) M_5.2.2.2.1.2.2.1)) (va_blk (Bs := (bPar cI (Ad 0) M_5.2.2.2.1)) (va_blk (Bs := (bMain cI cP o h tx tn Ad M_5)) hP 4 rfl) 7 rfl) 2 rfl) (ci := 2) (q0 := 0) rfl rfl) (va_blk (Bs := (bStr cI (fun k => (Ad 0) (13 + k)) M_5.2.2.2.1.2.2.1)) (va_blk (Bs := (bPar cI (Ad 0) M_5.2.2.2.1)) (va_blk (Bs := (bMain cI cP o h tx tn Ad M_5)) hP 4 rfl) 7 rfl) 2 rfl) hP hS hA (fun H locs hP hS => ?_)
  refine k_rd (runVN F hX wdX6_138 (rm := rm_X1_hangTogether) (As := [.int (rget 20 (M_5.2.2.2.1.2.2.1.1 0) x1), .int (rget 20 (M_5.2.2.2.1.2.2.1.1 1) x1)]) (rest := []) ⟨rfl, rfl⟩ ⟨Nat.le_of_ble_eq_true rfl, Nat.le_of_ble_eq_true rfl⟩ hl.1 rfl rfl (Nat.le_of_ble_eq_true rfl) dX6_hangTogetherWithout_52 ⟨Nat.zero_le _, Nat.zero_le _⟩) (c_X1_hangTogether l D cI cP (Ad 1) M_5.2.2.2.2.1 (rget 20 (M_5.2.2.2.1.2.2.1.1 0) x1) (rget 20 (M_5.2.2.2.1.2.2.1.1 1) x1) _ rfl) hX (va_recv hX.1 (va_blk (Bs := (bMain cI cP o h tx tn Ad M_5)) hP 5 rfl) (ci := 1) (q0 := 0) rfl rfl) (va_blk (Bs := (bMain cI cP o h tx tn Ad M_5)) hP 5 rfl) hP hS hA (fun H locs hP hS => ?_)
  have g_7 := og hf
  replace hf := (if_pos g_7).symm.trans hf
  obtain rfl := (Option.some.inj hf)
  exact wr_z F g_7 rfl hP hS dX6_hangTogetherWithout_55
def X6_stringOf (K : SMain) (x1 : Int32) (x2 : Int32) : Option (SMain × Int32) := (if (X3_has K.2.2.2.1.2.2.1 x1) = 0 then some (K, (-1000001)) else (if x2 = 0 then some (K, (rget 20 (K.2.2.2.1.2.2.1.1 0) x1)) else (if x2 = 1 then some (K, (rget 20 (K.2.2.2.1.2.2.1.1 1) x1)) else (if x2 = 2 then some (K, (rget 20 (K.2.2.2.1.2.2.1.1 2) x1)) else (if x2 = 3 then some (K, (rget 20 (K.2.2.2.1.2.2.1.1 3) x1)) else (if x2 = 4 then ((X6_hangTogetherWithout K x1).bind fun u_7 => (if u_7.2 = 0 then some (u_7.1, 0) else some (u_7.1, 1))) else some (K, (-1000001))))))))
abbrev rm_X6_stringOf : Room := { frames := 5, cells := 0, slots := 0, locals := 124 }
set_option maxHeartbeats 4000000 in
set_option maxRecDepth 100000 in
theorem c_X6_stringOf (l : Launch) (D : va_G) (cI cP : ClassId) (o h : Nat) (tx tn : Nat → Nat) (Ad : Nat → Nat → Nat) (K : SMain) (x1 : Int32) (x2 : Int32) (z : SMain × Int32) (hf : X6_stringOf K x1 x2 = some z) : MWi l yX6_stringOf cX6_stringOf 3 (some .int) rm_X6_stringOf D cI cP [.ref o, .int x1, .int x2] (wMain cI cP o h tx tn Ad K) (wMain cI cP o h tx tn Ad z.1) z.2 := by
  refine MWi.of (by decide +kernel) (Nat.le_of_ble_eq_true rfl) ?_
  intro p e s m args below meth c ls A F hX hP hD hA hS hl
  have F : Fx p s m args meth c RX6 cX6_stringOf 3 (some .int) := F
  have hx := F.1
  have hb := F.2.1
  have hown := F.2.2.2.1
  have hts := F.2.2.2.2.1
  have hl : lv_has ls 3 [(0, .ref o), (1, .int x1), (2, .int x2)] := hl
  unfold X6_stringOf at hf
  refine lv_aload_n hx hb dX6_stringOf_0 rfl (lv_at hl 0 rfl) ?_
  refine gX6_10 F hX hP 0 rfl (v := .ref (Ad 0 0)) rfl dX6_stringOf_1 ?_
  refine gX6_105 F hX (va_blk (Bs := (bMain cI cP o h tx tn Ad K)) hP 4 rfl) 0 rfl (v := .ref (Ad 0 13)) rfl dX6_stringOf_4 ?_
  refine lv_iload_n hx hb dX6_stringOf_7 rfl (lv_at hl 1 rfl) ?_
  refine k_rd (runVN F hX wdX6_120 (rm := rm_X3_has) (As := [.int x1]) (rest := []) ⟨rfl, rfl⟩ ⟨Nat.le_of_ble_eq_true rfl, Nat.le_of_ble_eq_true rfl⟩ hl.1 rfl rfl (Nat.le_of_ble_eq_true rfl) dX6_stringOf_8 ⟨Nat.zero_le _, Nat.zero_le _⟩) (c_X3_has l D cI cP (fun k => (Ad 0) (13 + k)) K.2.2.2.1.2.2.1 x1 _ rfl) hX (va_recv hX.1 (va_blk (Bs := (bPar cI (Ad 0) K.2.2.2.1)) (va_blk (Bs := (bMain cI cP o h tx tn Ad K)) hP 4 rfl) 7 rfl) (ci := 3) (q0 := 0) rfl rfl) (va_blk (Bs := (bPar cI (Ad 0) K.2.2.2.1)) (va_blk (Bs := (bMain cI cP o h tx tn Ad K)) hP 4 rfl) 7 rfl) hP hS hA (fun H locs hP hS => ?_)
  refine lv_if_ne (tgt := 17) hx hb dX6_stringOf_11 (by decide) (fun c_1 => ?_) (fun c_1 => ?_)
  · replace hf := (if_neg c_1).symm.trans hf
    refine lv_iload_n hx hb dX6_stringOf_17 rfl (lv_at hl 2 rfl) ?_
    rcases Decidable.em (x2 = 0) with c_2 | c_2
    · replace hf := (if_pos c_2).symm.trans hf
      refine lv_tableIn (off := 34) (tgt := 52) hx hb dX6_stringOf_18 (by rw [c_2]; decide) (by rw [c_2]; decide) (by rw [c_2]; rfl) (by decide) ?_
      refine lv_aload_n hx hb dX6_stringOf_52 rfl (lv_at hl 0 rfl) ?_
      refine gX6_10 F hX hP 0 rfl (v := .ref (Ad 0 0)) rfl dX6_stringOf_53 ?_
      refine gX6_105 F hX (va_blk (Bs := (bMain cI cP o h tx tn Ad K)) hP 4 rfl) 0 rfl (v := .ref (Ad 0 13)) rfl dX6_stringOf_56 ?_
      refine gX6_123 F hX (va_blk (Bs := (bPar cI (Ad 0) K.2.2.2.1)) (va_blk (Bs := (bMain cI cP o h tx tn Ad K)) hP 4 rfl) 7 rfl) 0 rfl (v := .ref (Ad 0 14)) rfl dX6_stringOf_59 ?_
      refine lv_iload_n hx hb dX6_stringOf_62 rfl (lv_at hl 1 rfl) ?_
      refine k_rd (runVN F hX wdX6_81 (rm := rm_X2_get) (As := [.int x1]) (rest := []) ⟨rfl, rfl⟩ ⟨Nat.le_of_ble_eq_true rfl, Nat.le_of_ble_eq_true rfl⟩ hl.1 rfl rfl (Nat.le_of_ble_eq_true rfl) dX6_stringOf_63 ⟨Nat.zero_le _, Nat.zero_le _⟩) (k_rget l D cI cP (Ad 0 14) (Ad 0 15) 20 (by decide) (K.2.2.2.1.2.2.1.1 0) x1) hX (va_recv hX.1 (va_blk (Bs := (bStr cI (fun k => (Ad 0) (13 + k)) K.2.2.2.1.2.2.1)) (va_blk (Bs := (bPar cI (Ad 0) K.2.2.2.1)) (va_blk (Bs := (bMain cI cP o h tx tn Ad K)) hP 4 rfl) 7 rfl) 1 rfl) (ci := 2) (q0 := 0) rfl rfl) (va_blk (Bs := (bStr cI (fun k => (Ad 0) (13 + k)) K.2.2.2.1.2.2.1)) (va_blk (Bs := (bPar cI (Ad 0) K.2.2.2.1)) (va_blk (Bs := (bMain cI cP o h tx tn Ad K)) hP 4 rfl) 7 rfl) 1 rfl) hP hS hA (fun H locs hP hS => ?_)
      obtain rfl := (Option.some.inj hf)
      exact wr_i F rfl hP hS dX6_stringOf_66
    replace hf := (if_neg c_2).symm.trans hf
    rcases Decidable.em (x2 = 1) with c_3 | c_3
    · replace hf := (if_pos c_3).symm.trans hf
      refine lv_tableIn (off := 49) (tgt := 67) hx hb dX6_stringOf_18 (by rw [c_3]; decide) (by rw [c_3]; decide) (by rw [c_3]; rfl) (by decide) ?_
      refine lv_aload_n hx hb dX6_stringOf_67 rfl (lv_at hl 0 rfl) ?_
      refine gX6_10 F hX hP 0 rfl (v := .ref (Ad 0 0)) rfl dX6_stringOf_68 ?_
      refine gX6_105 F hX (va_blk (Bs := (bMain cI cP o h tx tn Ad K)) hP 4 rfl) 0 rfl (v := .ref (Ad 0 13)) rfl dX6_stringOf_71 ?_
      refine gX6_126 F hX (va_blk (Bs := (bPar cI (Ad 0) K.2.2.2.1)) (va_blk (Bs := (bMain cI cP o h tx tn Ad K)) hP 4 rfl) 7 rfl) 0 rfl (v := .ref (Ad 0 16)) rfl dX6_stringOf_74 ?_
      refine lv_iload_n hx hb dX6_stringOf_77 rfl (lv_at hl 1 rfl) ?_
      refine k_rd (runVN F hX wdX6_81 (rm := rm_X2_get) (As := [.int x1]) (rest := []) ⟨rfl, rfl⟩ ⟨Nat.le_of_ble_eq_true rfl, Nat.le_of_ble_eq_true rfl⟩ hl.1 rfl rfl (Nat.le_of_ble_eq_true rfl) dX6_stringOf_78 ⟨Nat.zero_le _, Nat.zero_le _⟩) (k_rget l D cI cP (Ad 0 16) (Ad 0 17) 20 (by decide) (K.2.2.2.1.2.2.1.1 1) x1) hX (va_recv hX.1 (va_blk (Bs := (bStr cI (fun k => (Ad 0) (13 + k)) K.2.2.2.1.2.2.1)) (va_blk (Bs := (bPar cI (Ad 0) K.2.2.2.1)) (va_blk (Bs := (bMain cI cP o h tx tn Ad K)) hP 4 rfl) 7 rfl) 2 rfl) (ci := 2) (q0 := 0) rfl rfl) (va_blk (Bs := (bStr cI (fun k => (Ad 0) (13 + k)) K.2.2.2.1.2.2.1)) (va_blk (Bs := (bPar cI (Ad 0) K.2.2.2.1)) (va_blk (Bs := (bMain cI cP o h tx tn Ad K)) hP 4 rfl) 7 rfl) 2 rfl) hP hS hA (fun H locs hP hS => ?_)
      obtain rfl := (Option.some.inj hf)
      exact wr_i F rfl hP hS dX6_stringOf_81
    replace hf := (if_neg c_3).symm.trans hf
    rcases Decidable.em (x2 = 2) with c_4 | c_4
    · replace hf := (if_pos c_4).symm.trans hf
      refine lv_tableIn (off := 64) (tgt := 82) hx hb dX6_stringOf_18 (by rw [c_4]; decide) (by rw [c_4]; decide) (by rw [c_4]; rfl) (by decide) ?_
      refine lv_aload_n hx hb dX6_stringOf_82 rfl (lv_at hl 0 rfl) ?_
      refine gX6_10 F hX hP 0 rfl (v := .ref (Ad 0 0)) rfl dX6_stringOf_83 ?_
      refine gX6_105 F hX (va_blk (Bs := (bMain cI cP o h tx tn Ad K)) hP 4 rfl) 0 rfl (v := .ref (Ad 0 13)) rfl dX6_stringOf_86 ?_
      refine gX6_129 F hX (va_blk (Bs := (bPar cI (Ad 0) K.2.2.2.1)) (va_blk (Bs := (bMain cI cP o h tx tn Ad K)) hP 4 rfl) 7 rfl) 0 rfl (v := .ref (Ad 0 18)) rfl dX6_stringOf_89 ?_
      refine lv_iload_n hx hb dX6_stringOf_92 rfl (lv_at hl 1 rfl) ?_
      refine k_rd (runVN F hX wdX6_81 (rm := rm_X2_get) (As := [.int x1]) (rest := []) ⟨rfl, rfl⟩ ⟨Nat.le_of_ble_eq_true rfl, Nat.le_of_ble_eq_true rfl⟩ hl.1 rfl rfl (Nat.le_of_ble_eq_true rfl) dX6_stringOf_93 ⟨Nat.zero_le _, Nat.zero_le _⟩) (k_rget l D cI cP (Ad 0 18) (Ad 0 19) 20 (by decide) (K.2.2.2.1.2.2.1.1 2) x1) hX (va_recv hX.1 (va_blk (Bs := (bStr cI (fun k => (Ad 0) (13 + k)) K.2.2.2.1.2.2.1)) (va_blk (Bs := (bPar cI (Ad 0) K.2.2.2.1)) (va_blk (Bs := (bMain cI cP o h tx tn Ad K)) hP 4 rfl) 7 rfl) 3 rfl) (ci := 2) (q0 := 0) rfl rfl) (va_blk (Bs := (bStr cI (fun k => (Ad 0) (13 + k)) K.2.2.2.1.2.2.1)) (va_blk (Bs := (bPar cI (Ad 0) K.2.2.2.1)) (va_blk (Bs := (bMain cI cP o h tx tn Ad K)) hP 4 rfl) 7 rfl) 3 rfl) hP hS hA (fun H locs hP hS => ?_)
      obtain rfl := (Option.some.inj hf)
      exact wr_i F rfl hP hS dX6_stringOf_96
    replace hf := (if_neg c_4).symm.trans hf
    rcases Decidable.em (x2 = 3) with c_5 | c_5
    · replace hf := (if_pos c_5).symm.trans hf
      refine lv_tableIn (off := 79) (tgt := 97) hx hb dX6_stringOf_18 (by rw [c_5]; decide) (by rw [c_5]; decide) (by rw [c_5]; rfl) (by decide) ?_
      refine lv_aload_n hx hb dX6_stringOf_97 rfl (lv_at hl 0 rfl) ?_
      refine gX6_10 F hX hP 0 rfl (v := .ref (Ad 0 0)) rfl dX6_stringOf_98 ?_
      refine gX6_105 F hX (va_blk (Bs := (bMain cI cP o h tx tn Ad K)) hP 4 rfl) 0 rfl (v := .ref (Ad 0 13)) rfl dX6_stringOf_101 ?_
      refine gX6_132 F hX (va_blk (Bs := (bPar cI (Ad 0) K.2.2.2.1)) (va_blk (Bs := (bMain cI cP o h tx tn Ad K)) hP 4 rfl) 7 rfl) 0 rfl (v := .ref (Ad 0 20)) rfl dX6_stringOf_104 ?_
      refine lv_iload_n hx hb dX6_stringOf_107 rfl (lv_at hl 1 rfl) ?_
      refine k_rd (runVN F hX wdX6_81 (rm := rm_X2_get) (As := [.int x1]) (rest := []) ⟨rfl, rfl⟩ ⟨Nat.le_of_ble_eq_true rfl, Nat.le_of_ble_eq_true rfl⟩ hl.1 rfl rfl (Nat.le_of_ble_eq_true rfl) dX6_stringOf_108 ⟨Nat.zero_le _, Nat.zero_le _⟩) (k_rget l D cI cP (Ad 0 20) (Ad 0 21) 20 (by decide) (K.2.2.2.1.2.2.1.1 3) x1) hX (va_recv hX.1 (va_blk (Bs := (bStr cI (fun k => (Ad 0) (13 + k)) K.2.2.2.1.2.2.1)) (va_blk (Bs := (bPar cI (Ad 0) K.2.2.2.1)) (va_blk (Bs := (bMain cI cP o h tx tn Ad K)) hP 4 rfl) 7 rfl) 4 rfl) (ci := 2) (q0 := 0) rfl rfl) (va_blk (Bs := (bStr cI (fun k => (Ad 0) (13 + k)) K.2.2.2.1.2.2.1)) (va_blk (Bs := (bPar cI (Ad 0) K.2.2.2.1)) (va_blk (Bs := (bMain cI cP o h tx tn Ad K)) hP 4 rfl) 7 rfl) 4 rfl) hP hS hA (fun H locs hP hS => ?_)
      obtain rfl := (Option.some.inj hf)
      exact wr_i F rfl hP hS dX6_stringOf_111
    replace hf := (if_neg c_5).symm.trans hf
    rcases Decidable.em (x2 = 4) with c_6 | c_6
    · replace hf := (if_pos c_6).symm.trans hf
      refine lv_tableIn (off := 94) (tgt := 112) hx hb dX6_stringOf_18 (by rw [c_6]; decide) (by rw [c_6]; decide) (by rw [c_6]; rfl) (by decide) ?_
      refine lv_aload_n hx hb dX6_stringOf_112 rfl (lv_at hl 0 rfl) ?_
      refine lv_iload_n hx hb dX6_stringOf_113 rfl (lv_at hl 1 rfl) ?_
      obtain ⟨u_7, h_8, hf⟩ := ob hf
      refine k_wi (runV F wdX6_135 (rm := rm_X6_hangTogetherWithout) (As := [.int x1]) (rest := []) ⟨rfl, rfl⟩ ⟨Nat.le_of_ble_eq_true rfl, Nat.le_of_ble_eq_true rfl⟩ hl.1 rfl rfl (Nat.le_of_ble_eq_true rfl) dX6_stringOf_114 ⟨Nat.zero_le _, Nat.zero_le _⟩) (c_X6_hangTogetherWithout l D cI cP o h tx tn Ad K x1 _ h_8) hX (va_recv hX.1 hP (ci := 6) (q0 := 0) rfl rfl) (Cut.all rfl) hP hD hS hA (fun H locs hP hD hS => ?_)
      have hP : va_P D vwCl (wMain cI cP o h tx tn Ad u_7.1) H := hP
      have hD : va_D A (wMain cI cP o h tx tn Ad u_7.1) := hD
      refine lv_if_eq (tgt := 124) hx hb dX6_stringOf_117 (by decide) (fun c_9 => ?_) (fun c_9 => ?_)
      · replace hf := (if_pos c_9).symm.trans hf
        refine lv_iconst (v := 0) hx hb dX6_stringOf_124 (by decide) ?_
        obtain rfl := (Option.some.inj hf)
        exact wr_i F rfl hP hS dX6_stringOf_125
      · replace hf := (if_neg c_9).symm.trans hf
        refine lv_iconst (v := 1) hx hb dX6_stringOf_120 (by decide) ?_
        refine lv_goto (tgt := 125) hx hb dX6_stringOf_121 (by decide) ?_
        obtain rfl := (Option.some.inj hf)
        exact wr_i F rfl hP hS dX6_stringOf_125
    replace hf := (if_neg c_6).symm.trans hf
    refine lv_tableD (tgt := 126) (cs := [0, 1, 2, 3, 4]) hx hb dX6_stringOf_18 (by decide) (by decide) (by decide) (by simp [c_2, c_3, c_4, c_5, c_6]) ?_
    refine lv_ldc (v := (-1000001)) hx hb hown (hts _ q_533) dX6_stringOf_126 ?_
    obtain rfl := (Option.some.inj hf)
    exact wr_i F rfl hP hS dX6_stringOf_128
  · replace hf := (if_pos c_1).symm.trans hf
    refine lv_ldc (v := (-1000001)) hx hb hown (hts _ q_533) dX6_stringOf_14 ?_
    obtain rfl := (Option.some.inj hf)
    exact wr_i F rfl hP hS dX6_stringOf_16
def X6_between_L32 : Nat → SMain → Int32 → Int32 → Int32 → Option (Int32)
  | 0, _, _, _, _ => none
  | fu + 1, K_32, x2_32, x3_32, x4_32 => (if 12 ≤ x4_32 then some (-1000004) else (if (X6_isMember x3_32 x2_32) = 0 then ((X3_oneStringFurther K_32.2.2.2.1.2.2.1 x3_32).bind fun u_5 => X6_between_L32 fu K_32 x2_32 u_5 (x4_32 + 1)) else some x4_32))
def X6_between (K : SMain) (x1 : Int32) (x2 : Int32) : Option (Int32) := (if (X1_hasPuppet K.2.2.2.1 x1) = 0 then some (-1000001) else (if (X1_hasPuppet K.2.2.2.1 x2) = 0 then some (-1000001) else (X6_between_L32 FUEL K x2 (1 <<< (x1 &&& 31)) 0)))
abbrev rm_X6_between : Room := { frames := 2, cells := 0, slots := 0, locals := 45 }
set_option maxHeartbeats 4000000 in
set_option maxRecDepth 100000 in
theorem c_X6_between (l : Launch) (D : va_G) (cI cP : ClassId) (o h : Nat) (tx tn : Nat → Nat) (Ad : Nat → Nat → Nat) (K : SMain) (x1 : Int32) (x2 : Int32) (z : Int32) (hf : X6_between K x1 x2 = some z) : MRd l yX6_between cX6_between 5 (some .int) rm_X6_between D cI cP [.ref o, .int x1, .int x2] (wMain cI cP o h tx tn Ad K) z := by
  refine MRd.of (by decide +kernel) (Nat.le_of_ble_eq_true rfl) ?_
  intro p e s m args below meth c ls F hX hP hS hl
  have F : Fx p s m args meth c RX6 cX6_between 5 (some .int) := F
  have hx := F.1
  have hb := F.2.1
  have hown := F.2.2.2.1
  have hts := F.2.2.2.2.1
  have hA : ∀ q : Nat, s.heap.size ≤ q → (fun q : Nat => s.heap.size ≤ q) q := fun _ h => h
  have hl : lv_has ls 5 [(0, .ref o), (1, .int x1), (2, .int x2)] := hl
  unfold X6_between at hf
  refine lv_aload_n hx hb dX6_between_0 rfl (lv_at hl 0 rfl) ?_
  refine gX6_10 F hX hP 0 rfl (v := .ref (Ad 0 0)) rfl dX6_between_1 ?_
  refine lv_iload_n hx hb dX6_between_4 rfl (lv_at hl 1 rfl) ?_
  refine k_rd (runVN F hX wdX6_73 (rm := rm_X1_hasPuppet) (As := [.int x1]) (rest := []) ⟨rfl, rfl⟩ ⟨Nat.le_of_ble_eq_true rfl, Nat.le_of_ble_eq_true rfl⟩ hl.1 rfl rfl (Nat.le_of_ble_eq_true rfl) dX6_between_5 ⟨Nat.zero_le _, Nat.zero_le _⟩) (c_X1_hasPuppet l D cI cP (Ad 0) K.2.2.2.1 x1 _ rfl) hX (va_recv hX.1 (va_blk (Bs := (bMain cI cP o h tx tn Ad K)) hP 4 rfl) (ci := 1) (q0 := 0) rfl rfl) (va_blk (Bs := (bMain cI cP o h tx tn Ad K)) hP 4 rfl) hP hS hA (fun H locs hP hS => ?_)
  refine lv_if_eq (tgt := 22) hx hb dX6_between_8 (by decide) (fun c_1 => ?_) (fun c_1 => ?_)
  · replace hf := (if_pos c_1).symm.trans hf
    refine lv_ldc (v := (-1000001)) hx hb hown (hts _ q_533) dX6_between_22 ?_
    exact rd_i F (Option.some.inj hf) hS dX6_between_24
  · replace hf := (if_neg c_1).symm.trans hf
    refine lv_aload_n hx hb dX6_between_11 rfl (lv_at hl 0 rfl) ?_
    refine gX6_10 F hX hP 0 rfl (v := .ref (Ad 0 0)) rfl dX6_between_12 ?_
    refine lv_iload_n hx hb dX6_between_15 rfl (lv_at hl 2 rfl) ?_
    refine k_rd (runVN F hX wdX6_73 (rm := rm_X1_hasPuppet) (As := [.int x2]) (rest := []) ⟨rfl, rfl⟩ ⟨Nat.le_of_ble_eq_true rfl, Nat.le_of_ble_eq_true rfl⟩ hl.1 rfl rfl (Nat.le_of_ble_eq_true rfl) dX6_between_16 ⟨Nat.zero_le _, Nat.zero_le _⟩) (c_X1_hasPuppet l D cI cP (Ad 0) K.2.2.2.1 x2 _ rfl) hX (va_recv hX.1 (va_blk (Bs := (bMain cI cP o h tx tn Ad K)) hP 4 rfl) (ci := 1) (q0 := 0) rfl rfl) (va_blk (Bs := (bMain cI cP o h tx tn Ad K)) hP 4 rfl) hP hS hA (fun H locs hP hS => ?_)
    refine lv_if_ne (tgt := 25) hx hb dX6_between_19 (by decide) (fun c_2 => ?_) (fun c_2 => ?_)
    · replace hf := (if_neg c_2).symm.trans hf
      refine lv_iconst (v := 1) hx hb dX6_between_25 (by decide) ?_
      refine lv_iload_n hx hb dX6_between_26 rfl (lv_at hl 1 rfl) ?_
      refine lv_ishl hx hb dX6_between_27 ?_
      refine lv_istore_n (lv' := [(3, .int (1 <<< (x1 &&& 31))), (0, .ref o), (1, .int x1), (2, .int x2)]) hx hb dX6_between_28 rfl hl (by decide) rfl (fun ls hl => ?_)
      refine lv_iconst (v := 0) hx hb dX6_between_29 (by decide) ?_
      refine lv_istore (lv' := [(4, .int 0), (3, .int (1 <<< (x1 &&& 31))), (0, .ref o), (1, .int x1), (2, .int x2)]) hx hb dX6_between_30 hl (by decide) rfl (fun ls hl => ?_)
      have hL_32 : ∀ (fu : Nat) (K_32 : SMain) (x2_32 : Int32) (x3_32 : Int32) (x4_32 : Int32) (H : Heap) (locs : List Loc) (ls : Array Slot), X6_between_L32 fu K_32 x2_32 x3_32 x4_32 = some z → va_P D vwCl (wMain cI cP o h tx tn Ad K_32) H → va_S (fun q : Nat => s.heap.size ≤ q) s.heap H locs → lv_has ls 5 [(0, .ref o), (2, .int x2_32), (3, .int x3_32), (4, .int x4_32)] → W p l e rm_X6_between s m args below meth c H locs 0 0 (QR below args s z) (F0 m 32 ls []) := by
        intro fu
        induction fu with
        | zero =>
          intro K_32 x2_32 x3_32 x4_32 H locs ls hf
          exact absurd hf (by simp [X6_between_L32])
        | succ fu ih =>
          intro K_32 x2_32 x3_32 x4_32 _ _ ls hf hP hS hl
          rw [X6_between_L32] at hf
          refine lv_iload hx hb dX6_between_32 (lv_at hl 3 rfl) ?_
          refine lv_bipush (v := 12) hx hb dX6_between_34 (by decide) ?_
          refine lv_icmp_ge (tgt := 68) hx hb dX6_between_36 (by decide) (fun c_3 => ?_) (fun c_3 => ?_)
          · replace hf := (if_pos c_3).symm.trans hf
            refine lv_ldc (v := (-1000004)) hx hb hown (hts _ q_545) dX6_between_68 ?_
            exact rd_i F (Option.some.inj hf) hS dX6_between_70
          · replace hf := (if_neg c_3).symm.trans hf
            refine lv_iload_n hx hb dX6_between_39 rfl (lv_at hl 2 rfl) ?_
            refine lv_iload_n hx hb dX6_between_40 rfl (lv_at hl 1 rfl) ?_
            refine k_rd (runS F wdX6_142 (rm := rm_X6_isMember) (As := [.int x3_32, .int x2_32]) (rest := []) ⟨rfl, rfl⟩ ⟨Nat.le_of_ble_eq_true rfl, Nat.le_of_ble_eq_true rfl⟩ hl.1 rfl rfl (Nat.le_of_ble_eq_true rfl) dX6_between_41 ⟨Nat.zero_le _, Nat.zero_le _⟩) (c_X6_isMember l D cI cP x3_32 x2_32 _ rfl) hX trivial vP_nil hP hS hA (fun H locs hP hS => ?_)
            refine lv_if_eq (tgt := 50) hx hb dX6_between_44 (by decide) (fun c_4 => ?_) (fun c_4 => ?_)
            · replace hf := (if_pos c_4).symm.trans hf
              refine lv_aload_n hx hb dX6_between_50 rfl (lv_at hl 0 rfl) ?_
              refine gX6_10 F hX hP 0 rfl (v := .ref (Ad 0 0)) rfl dX6_between_51 ?_
              refine gX6_105 F hX (va_blk (Bs := (bMain cI cP o h tx tn Ad K_32)) hP 4 rfl) 0 rfl (v := .ref (Ad 0 13)) rfl dX6_between_54 ?_
              refine lv_iload_n hx hb dX6_between_57 rfl (lv_at hl 2 rfl) ?_
              obtain ⟨u_5, h_6, hf⟩ := ob hf
              refine k_rd (runVN F hX wdX6_145 (rm := rm_X3_oneStringFurther) (As := [.int x3_32]) (rest := []) ⟨rfl, rfl⟩ ⟨Nat.le_of_ble_eq_true rfl, Nat.le_of_ble_eq_true rfl⟩ hl.1 rfl rfl (Nat.le_of_ble_eq_true rfl) dX6_between_58 ⟨Nat.zero_le _, Nat.zero_le _⟩) (c_X3_oneStringFurther l D cI cP (fun k => (Ad 0) (13 + k)) K_32.2.2.2.1.2.2.1 x3_32 _ h_6) hX (va_recv hX.1 (va_blk (Bs := (bPar cI (Ad 0) K_32.2.2.2.1)) (va_blk (Bs := (bMain cI cP o h tx tn Ad K_32)) hP 4 rfl) 7 rfl) (ci := 3) (q0 := 0) rfl rfl) (va_blk (Bs := (bPar cI (Ad 0) K_32.2.2.2.1)) (va_blk (Bs := (bMain cI cP o h tx tn Ad K_32)) hP 4 rfl) 7 rfl) hP hS hA (fun H locs hP hS => ?_)
              refine lv_istore_n (lv' := [(3, .int u_5), (0, .ref o), (2, .int x2_32), (4, .int x4_32)]) hx hb dX6_between_61 rfl hl (by decide) rfl (fun ls hl => ?_)
              refine lv_iinc (v := (x4_32 + 1)) (lv' := [(4, .int (x4_32 + 1)), (3, .int u_5), (0, .ref o), (2, .int x2_32)]) hx hb dX6_between_62 hl (k := 3) rfl (by rfl) (by decide) rfl (fun ls hl => ?_)
              refine lv_goto (tgt := 32) hx hb dX6_between_65 (by decide) ?_
              exact ih K_32 x2_32 u_5 (x4_32 + 1) _ _ ls hf hP hS (lv_sub hl [2, 3, 1, 0] rfl)
            · replace hf := (if_neg c_4).symm.trans hf
              refine lv_iload hx hb dX6_between_47 (lv_at hl 3 rfl) ?_
              exact rd_i F (Option.some.inj hf) hS dX6_between_49
      exact hL_32 FUEL K x2 (1 <<< (x1 &&& 31)) 0 _ _ ls hf hP hS (lv_sub hl [2, 4, 1, 0] rfl)
    · replace hf := (if_pos c_2).symm.trans hf
      refine lv_ldc (v := (-1000001)) hx hb hown (hts _ q_533) dX6_between_22 ?_
      exact rd_i F (Option.some.inj hf) hS dX6_between_24
def X6_book (K : SMain) (x1 : Int32) (x2 : Int32) : Int32 := (if x1 < 0 then (-1000001) else (if (X6_isIn x2 0 3) = 0 then (-1000001) else (if (X0_kept K.2.2.2.1.2.2.2) ≤ x1 then (-1000004) else (X0_entry K.2.2.2.1.2.2.2 x1 x2))))
abbrev rm_X6_book : Room := { frames := 2, cells := 0, slots := 0, locals := 43 }
set_option maxHeartbeats 4000000 in
set_option maxRecDepth 100000 in
theorem c_X6_book (l : Launch) (D : va_G) (cI cP : ClassId) (o h : Nat) (tx tn : Nat → Nat) (Ad : Nat → Nat → Nat) (K : SMain) (x1 : Int32) (x2 : Int32) (z : Int32) (hf : X6_book K x1 x2 = z) : MRd l yX6_book cX6_book 3 (some .int) rm_X6_book D cI cP [.ref o, .int x1, .int x2] (wMain cI cP o h tx tn Ad K) z := by
  refine MRd.of (by decide +kernel) (Nat.le_of_ble_eq_true rfl) ?_
  intro p e s m args below meth c ls F hX hP hS hl
  have F : Fx p s m args meth c RX6 cX6_book 3 (some .int) := F
  have hx := F.1
  have hb := F.2.1
  have hown := F.2.2.2.1
  have hts := F.2.2.2.2.1
  have hA : ∀ q : Nat, s.heap.size ≤ q → (fun q : Nat => s.heap.size ≤ q) q := fun _ h => h
  have hl : lv_has ls 3 [(0, .ref o), (1, .int x1), (2, .int x2)] := hl
  unfold X6_book at hf
  refine lv_iload_n hx hb dX6_book_0 rfl (lv_at hl 1 rfl) ?_
  refine lv_if_lt (tgt := 13) hx hb dX6_book_1 (by decide) (fun c_1 => ?_) (fun c_1 => ?_)
  · replace hf := (if_pos c_1).symm.trans hf
    refine lv_ldc (v := (-1000001)) hx hb hown (hts _ q_533) dX6_book_13 ?_
    exact rd_i F hf hS dX6_book_15
  · replace hf := (if_neg c_1).symm.trans hf
    refine lv_iload_n hx hb dX6_book_4 rfl (lv_at hl 2 rfl) ?_
    refine lv_iconst (v := 0) hx hb dX6_book_5 (by decide) ?_
    refine lv_iconst (v := 3) hx hb dX6_book_6 (by decide) ?_
    refine k_rd (runS F wdX6_148 (rm := rm_X6_isIn) (As := [.int x2, .int 0, .int 3]) (rest := []) ⟨rfl, rfl⟩ ⟨Nat.le_of_ble_eq_true rfl, Nat.le_of_ble_eq_true rfl⟩ hl.1 rfl rfl (Nat.le_of_ble_eq_true rfl) dX6_book_7 ⟨Nat.zero_le _, Nat.zero_le _⟩) (c_X6_isIn l D cI cP x2 0 3 _ rfl) hX trivial vP_nil hP hS hA (fun H locs hP hS => ?_)
    refine lv_if_ne (tgt := 16) hx hb dX6_book_10 (by decide) (fun c_2 => ?_) (fun c_2 => ?_)
    · replace hf := (if_neg c_2).symm.trans hf
      refine lv_iload_n hx hb dX6_book_16 rfl (lv_at hl 1 rfl) ?_
      refine lv_aload_n hx hb dX6_book_17 rfl (lv_at hl 0 rfl) ?_
      refine gX6_10 F hX hP 0 rfl (v := .ref (Ad 0 0)) rfl dX6_book_18 ?_
      refine gX6_152 F hX (va_blk (Bs := (bMain cI cP o h tx tn Ad K)) hP 4 rfl) 0 rfl (v := .ref (Ad 0 22)) rfl dX6_book_21 ?_
      refine k_rd (runVN F hX wdX6_156 (rm := rm_X0_kept) (As := []) (rest := [.int x1]) ⟨rfl, rfl⟩ ⟨Nat.le_of_ble_eq_true rfl, Nat.le_of_ble_eq_true rfl⟩ hl.1 rfl rfl (Nat.le_of_ble_eq_true rfl) dX6_book_24 ⟨Nat.zero_le _, Nat.zero_le _⟩) (c_X0_kept l D cI cP (fun k => (Ad 0) (22 + k)) K.2.2.2.1.2.2.2  _ rfl) hX (va_recv hX.1 (va_blk (Bs := (bPar cI (Ad 0) K.2.2.2.1)) (va_blk (Bs := (bMain cI cP o h tx tn Ad K)) hP 4 rfl) 8 rfl) (ci := 0) (q0 := 0) rfl rfl) (va_blk (Bs := (bPar cI (Ad 0) K.2.2.2.1)) (va_blk (Bs := (bMain cI cP o h tx tn Ad K)) hP 4 rfl) 8 rfl) hP hS hA (fun H locs hP hS => ?_)
      refine lv_icmp_ge (tgt := 45) hx hb dX6_book_27 (by decide) (fun c_3 => ?_) (fun c_3 => ?_)
      · replace hf := (if_pos c_3).symm.trans hf
        refine lv_ldc (v := (-1000004)) hx hb hown (hts _ q_545) dX6_book_45 ?_
        exact rd_i F hf hS dX6_book_47
      · replace hf := (if_neg c_3).symm.trans hf
        refine lv_aload_n hx hb dX6_book_30 rfl (lv_at hl 0 rfl) ?_
        refine gX6_10 F hX hP 0 rfl (v := .ref (Ad 0 0)) rfl dX6_book_31 ?_
        refine gX6_152 F hX (va_blk (Bs := (bMain cI cP o h tx tn Ad K)) hP 4 rfl) 0 rfl (v := .ref (Ad 0 22)) rfl dX6_book_34 ?_
        refine lv_iload_n hx hb dX6_book_37 rfl (lv_at hl 1 rfl) ?_
        refine lv_iload_n hx hb dX6_book_38 rfl (lv_at hl 2 rfl) ?_
        refine k_rd (runVN F hX wdX6_161 (rm := rm_X0_entry) (As := [.int x1, .int x2]) (rest := []) ⟨rfl, rfl⟩ ⟨Nat.le_of_ble_eq_true rfl, Nat.le_of_ble_eq_true rfl⟩ hl.1 rfl rfl (Nat.le_of_ble_eq_true rfl) dX6_book_39 ⟨Nat.zero_le _, Nat.zero_le _⟩) (c_X0_entry l D cI cP (fun k => (Ad 0) (22 + k)) K.2.2.2.1.2.2.2 x1 x2 _ rfl) hX (va_recv hX.1 (va_blk (Bs := (bPar cI (Ad 0) K.2.2.2.1)) (va_blk (Bs := (bMain cI cP o h tx tn Ad K)) hP 4 rfl) 8 rfl) (ci := 0) (q0 := 0) rfl rfl) (va_blk (Bs := (bPar cI (Ad 0) K.2.2.2.1)) (va_blk (Bs := (bMain cI cP o h tx tn Ad K)) hP 4 rfl) 8 rfl) hP hS hA (fun H locs hP hS => ?_)
        refine lv_goto (tgt := 47) hx hb dX6_book_42 (by decide) ?_
        exact rd_i F hf hS dX6_book_47
    · replace hf := (if_pos c_2).symm.trans hf
      refine lv_ldc (v := (-1000001)) hx hb hown (hts _ q_533) dX6_book_13 ?_
      exact rd_i F hf hS dX6_book_15
def X6_whyTie (K : SMain) (x1 : Int32) (x2 : Int32) (x3 : Int32) : Option (Int32) := (if (X1_arePair K.2.2.2.1 x1 x2) = 0 then some (-1000001) else (if x3 = 0 then ((X1_reasonAgainstString K.2.2.2.1 x1 x2 0).bind fun u_3 => some u_3) else ((X1_reasonAgainstString K.2.2.2.1 x1 x2 1).bind fun u_5 => some u_5)))
abbrev rm_X6_whyTie : Room := { frames := 3, cells := 0, slots := 0, locals := 72 }
set_option maxHeartbeats 4000000 in
set_option maxRecDepth 100000 in
theorem c_X6_whyTie (l : Launch) (D : va_G) (cI cP : ClassId) (o h : Nat) (tx tn : Nat → Nat) (Ad : Nat → Nat → Nat) (K : SMain) (x1 : Int32) (x2 : Int32) (x3 : Int32) (z : Int32) (hf : X6_whyTie K x1 x2 x3 = some z) : MRd l yX6_whyTie cX6_whyTie 4 (some .int) rm_X6_whyTie D cI cP [.ref o, .int x1, .int x2, .int x3] (wMain cI cP o h tx tn Ad K) z := by
  refine MRd.of (by decide +kernel) (Nat.le_of_ble_eq_true rfl) ?_
  intro p e s m args below meth c ls F hX hP hS hl
  have F : Fx p s m args meth c RX6 cX6_whyTie 4 (some .int) := F
  have hx := F.1
  have hb := F.2.1
  have hown := F.2.2.2.1
  have hts := F.2.2.2.2.1
  have hA : ∀ q : Nat, s.heap.size ≤ q → (fun q : Nat => s.heap.size ≤ q) q := fun _ h => h
  have hl : lv_has ls 4 [(0, .ref o), (1, .int x1), (2, .int x2), (3, .int x3)] := hl
  unfold X6_whyTie at hf
  refine lv_aload_n hx hb dX6_whyTie_0 rfl (lv_at hl 0 rfl) ?_
  refine gX6_10 F hX hP 0 rfl (v := .ref (Ad 0 0)) rfl dX6_whyTie_1 ?_
  refine lv_iload_n hx hb dX6_whyTie_4 rfl (lv_at hl 1 rfl) ?_
  refine lv_iload_n hx hb dX6_whyTie_5 rfl (lv_at hl 2 rfl) ?_
  refine k_rd (runVN F hX wdX6_164 (rm := rm_X1_arePair) (As := [.int x1, .int x2]) (rest := []) ⟨rfl, rfl⟩ ⟨Nat.le_of_ble_eq_true rfl, Nat.le_of_ble_eq_true rfl⟩ hl.1 rfl rfl (Nat.le_of_ble_eq_true rfl) dX6_whyTie_6 ⟨Nat.zero_le _, Nat.zero_le _⟩) (c_X1_arePair l D cI cP (Ad 0) K.2.2.2.1 x1 x2 _ rfl) hX (va_recv hX.1 (va_blk (Bs := (bMain cI cP o h tx tn Ad K)) hP 4 rfl) (ci := 1) (q0 := 0) rfl rfl) (va_blk (Bs := (bMain cI cP o h tx tn Ad K)) hP 4 rfl) hP hS hA (fun H locs hP hS => ?_)
  refine lv_if_ne (tgt := 15) hx hb dX6_whyTie_9 (by decide) (fun c_1 => ?_) (fun c_1 => ?_)
  · replace hf := (if_neg c_1).symm.trans hf
    refine lv_aload_n hx hb dX6_whyTie_15 rfl (lv_at hl 0 rfl) ?_
    refine gX6_10 F hX hP 0 rfl (v := .ref (Ad 0 0)) rfl dX6_whyTie_16 ?_
    refine lv_iload_n hx hb dX6_whyTie_19 rfl (lv_at hl 1 rfl) ?_
    refine lv_iload_n hx hb dX6_whyTie_20 rfl (lv_at hl 2 rfl) ?_
    refine lv_iload_n hx hb dX6_whyTie_21 rfl (lv_at hl 3 rfl) ?_
    refine lv_if_eq (tgt := 29) hx hb dX6_whyTie_22 (by decide) (fun c_2 => ?_) (fun c_2 => ?_)
    · replace hf := (if_pos c_2).symm.trans hf
      refine lv_iconst (v := 0) hx hb dX6_whyTie_29 (by decide) ?_
      obtain ⟨u_3, h_4, hf⟩ := ob hf
      refine k_rd (runVN F hX wdX6_167 (rm := rm_X1_reasonAgainstString) (As := [.int x1, .int x2, .int 0]) (rest := []) ⟨rfl, rfl⟩ ⟨Nat.le_of_ble_eq_true rfl, Nat.le_of_ble_eq_true rfl⟩ hl.1 rfl rfl (Nat.le_of_ble_eq_true rfl) dX6_whyTie_30 ⟨Nat.zero_le _, Nat.zero_le _⟩) (c_X1_reasonAgainstString l D cI cP (Ad 0) K.2.2.2.1 x1 x2 0 _ h_4) hX (va_recv hX.1 (va_blk (Bs := (bMain cI cP o h tx tn Ad K)) hP 4 rfl) (ci := 1) (q0 := 0) rfl rfl) (va_blk (Bs := (bMain cI cP o h tx tn Ad K)) hP 4 rfl) hP hS hA (fun H locs hP hS => ?_)
      exact rd_i F (Option.some.inj hf) hS dX6_whyTie_33
    · replace hf := (if_neg c_2).symm.trans hf
      refine lv_iconst (v := 1) hx hb dX6_whyTie_25 (by decide) ?_
      refine lv_goto (tgt := 30) hx hb dX6_whyTie_26 (by decide) ?_
      obtain ⟨u_5, h_6, hf⟩ := ob hf
      refine k_rd (runVN F hX wdX6_167 (rm := rm_X1_reasonAgainstString) (As := [.int x1, .int x2, .int 1]) (rest := []) ⟨rfl, rfl⟩ ⟨Nat.le_of_ble_eq_true rfl, Nat.le_of_ble_eq_true rfl⟩ hl.1 rfl rfl (Nat.le_of_ble_eq_true rfl) dX6_whyTie_30 ⟨Nat.zero_le _, Nat.zero_le _⟩) (c_X1_reasonAgainstString l D cI cP (Ad 0) K.2.2.2.1 x1 x2 1 _ h_6) hX (va_recv hX.1 (va_blk (Bs := (bMain cI cP o h tx tn Ad K)) hP 4 rfl) (ci := 1) (q0 := 0) rfl rfl) (va_blk (Bs := (bMain cI cP o h tx tn Ad K)) hP 4 rfl) hP hS hA (fun H locs hP hS => ?_)
      exact rd_i F (Option.some.inj hf) hS dX6_whyTie_33
  · replace hf := (if_pos c_1).symm.trans hf
    refine lv_ldc (v := (-1000001)) hx hb hown (hts _ q_533) dX6_whyTie_12 ?_
    exact rd_i F (Option.some.inj hf) hS dX6_whyTie_14
def X6_whyPull (K : SMain) (x1 : Int32) (x2 : Int32) : Option (Int32) := (if (X1_hasPuppet K.2.2.2.1 x1) = 0 then some (-1000001) else (if (X6_isIn x2 0 1) = 0 then some (-1000001) else ((X1_reasonAgainstPull K.2.2.2.1 x1 x2).bind fun u_3 => some u_3)))
abbrev rm_X6_whyPull : Room := { frames := 3, cells := 0, slots := 0, locals := 68 }
set_option maxHeartbeats 4000000 in
set_option maxRecDepth 100000 in
theorem c_X6_whyPull (l : Launch) (D : va_G) (cI cP : ClassId) (o h : Nat) (tx tn : Nat → Nat) (Ad : Nat → Nat → Nat) (K : SMain) (x1 : Int32) (x2 : Int32) (z : Int32) (hf : X6_whyPull K x1 x2 = some z) : MRd l yX6_whyPull cX6_whyPull 3 (some .int) rm_X6_whyPull D cI cP [.ref o, .int x1, .int x2] (wMain cI cP o h tx tn Ad K) z := by
  refine MRd.of (by decide +kernel) (Nat.le_of_ble_eq_true rfl) ?_
  intro p e s m args below meth c ls F hX hP hS hl
  have F : Fx p s m args meth c RX6 cX6_whyPull 3 (some .int) := F
  have hx := F.1
  have hb := F.2.1
  have hown := F.2.2.2.1
  have hts := F.2.2.2.2.1
  have hA : ∀ q : Nat, s.heap.size ≤ q → (fun q : Nat => s.heap.size ≤ q) q := fun _ h => h
  have hl : lv_has ls 3 [(0, .ref o), (1, .int x1), (2, .int x2)] := hl
  unfold X6_whyPull at hf
  refine lv_aload_n hx hb dX6_whyPull_0 rfl (lv_at hl 0 rfl) ?_
  refine gX6_10 F hX hP 0 rfl (v := .ref (Ad 0 0)) rfl dX6_whyPull_1 ?_
  refine lv_iload_n hx hb dX6_whyPull_4 rfl (lv_at hl 1 rfl) ?_
  refine k_rd (runVN F hX wdX6_73 (rm := rm_X1_hasPuppet) (As := [.int x1]) (rest := []) ⟨rfl, rfl⟩ ⟨Nat.le_of_ble_eq_true rfl, Nat.le_of_ble_eq_true rfl⟩ hl.1 rfl rfl (Nat.le_of_ble_eq_true rfl) dX6_whyPull_5 ⟨Nat.zero_le _, Nat.zero_le _⟩) (c_X1_hasPuppet l D cI cP (Ad 0) K.2.2.2.1 x1 _ rfl) hX (va_recv hX.1 (va_blk (Bs := (bMain cI cP o h tx tn Ad K)) hP 4 rfl) (ci := 1) (q0 := 0) rfl rfl) (va_blk (Bs := (bMain cI cP o h tx tn Ad K)) hP 4 rfl) hP hS hA (fun H locs hP hS => ?_)
  refine lv_if_eq (tgt := 20) hx hb dX6_whyPull_8 (by decide) (fun c_1 => ?_) (fun c_1 => ?_)
  · replace hf := (if_pos c_1).symm.trans hf
    refine lv_ldc (v := (-1000001)) hx hb hown (hts _ q_533) dX6_whyPull_20 ?_
    exact rd_i F (Option.some.inj hf) hS dX6_whyPull_22
  · replace hf := (if_neg c_1).symm.trans hf
    refine lv_iload_n hx hb dX6_whyPull_11 rfl (lv_at hl 2 rfl) ?_
    refine lv_iconst (v := 0) hx hb dX6_whyPull_12 (by decide) ?_
    refine lv_iconst (v := 1) hx hb dX6_whyPull_13 (by decide) ?_
    refine k_rd (runS F wdX6_148 (rm := rm_X6_isIn) (As := [.int x2, .int 0, .int 1]) (rest := []) ⟨rfl, rfl⟩ ⟨Nat.le_of_ble_eq_true rfl, Nat.le_of_ble_eq_true rfl⟩ hl.1 rfl rfl (Nat.le_of_ble_eq_true rfl) dX6_whyPull_14 ⟨Nat.zero_le _, Nat.zero_le _⟩) (c_X6_isIn l D cI cP x2 0 1 _ rfl) hX trivial vP_nil hP hS hA (fun H locs hP hS => ?_)
    refine lv_if_ne (tgt := 23) hx hb dX6_whyPull_17 (by decide) (fun c_2 => ?_) (fun c_2 => ?_)
    · replace hf := (if_neg c_2).symm.trans hf
      refine lv_aload_n hx hb dX6_whyPull_23 rfl (lv_at hl 0 rfl) ?_
      refine gX6_10 F hX hP 0 rfl (v := .ref (Ad 0 0)) rfl dX6_whyPull_24 ?_
      refine lv_iload_n hx hb dX6_whyPull_27 rfl (lv_at hl 1 rfl) ?_
      refine lv_iload_n hx hb dX6_whyPull_28 rfl (lv_at hl 2 rfl) ?_
      obtain ⟨u_3, h_4, hf⟩ := ob hf
      refine k_rd (runVN F hX wdX6_171 (rm := rm_X1_reasonAgainstPull) (As := [.int x1, .int x2]) (rest := []) ⟨rfl, rfl⟩ ⟨Nat.le_of_ble_eq_true rfl, Nat.le_of_ble_eq_true rfl⟩ hl.1 rfl rfl (Nat.le_of_ble_eq_true rfl) dX6_whyPull_29 ⟨Nat.zero_le _, Nat.zero_le _⟩) (c_X1_reasonAgainstPull l D cI cP (Ad 0) K.2.2.2.1 x1 x2 _ h_4) hX (va_recv hX.1 (va_blk (Bs := (bMain cI cP o h tx tn Ad K)) hP 4 rfl) (ci := 1) (q0 := 0) rfl rfl) (va_blk (Bs := (bMain cI cP o h tx tn Ad K)) hP 4 rfl) hP hS hA (fun H locs hP hS => ?_)
      exact rd_i F (Option.some.inj hf) hS dX6_whyPull_32
    · replace hf := (if_pos c_2).symm.trans hf
      refine lv_ldc (v := (-1000001)) hx hb hown (hts _ q_533) dX6_whyPull_20 ?_
      exact rd_i F (Option.some.inj hf) hS dX6_whyPull_22
def X6_seatsIfPulled (K : SMain) (x1 : Int32) (x2 : Int32) : Option (SMain × Int32) := (bnd (K.1, K.2.1, K.2.2.1, K.2.2.2.1, K.2.2.2.1, K.2.2.2.2.2) fun M_1 => ((X1_pullTo M_1.2.2.2.2.1 x1 x2).bind fun u_3 => (bnd (M_1.1, M_1.2.1, M_1.2.2.1, M_1.2.2.2.1, u_3.1, M_1.2.2.2.2.2) fun M_5 => some (M_5, u_3.2))))
abbrev rm_X6_seatsIfPulled : Room := { frames := 4, cells := 0, slots := 0, locals := 103 }
set_option maxHeartbeats 4000000 in
set_option maxRecDepth 100000 in
theorem c_X6_seatsIfPulled (l : Launch) (D : va_G) (cI cP : ClassId) (o h : Nat) (tx tn : Nat → Nat) (Ad : Nat → Nat → Nat) (K : SMain) (x1 : Int32) (x2 : Int32) (z : SMain × Int32) (hf : X6_seatsIfPulled K x1 x2 = some z) : MWi l yX6_seatsIfPulled cX6_seatsIfPulled 3 (some .int) rm_X6_seatsIfPulled D cI cP [.ref o, .int x1, .int x2] (wMain cI cP o h tx tn Ad K) (wMain cI cP o h tx tn Ad z.1) z.2 := by
  refine MWi.of (by decide +kernel) (Nat.le_of_ble_eq_true rfl) ?_
  intro p e s m args below meth c ls A F hX hP hD hA hS hl
  have F : Fx p s m args meth c RX6 cX6_seatsIfPulled 3 (some .int) := F
  have hx := F.1
  have hb := F.2.1
  have hown := F.2.2.2.1
  have hts := F.2.2.2.2.1
  have hl : lv_has ls 3 [(0, .ref o), (1, .int x1), (2, .int x2)] := hl
  unfold X6_seatsIfPulled at hf
  refine lv_aload_n hx hb dX6_seatsIfPulled_0 rfl (lv_at hl 0 rfl) ?_
  refine gX6_16 F hX hP 0 rfl (v := .ref (Ad 1 0)) rfl dX6_seatsIfPulled_1 ?_
  refine lv_aload_n hx hb dX6_seatsIfPulled_4 rfl (lv_at hl 0 rfl) ?_
  refine gX6_10 F hX hP 0 rfl (v := .ref (Ad 0 0)) rfl dX6_seatsIfPulled_5 ?_
  refine k_wv (runVN F hX wdX6_37 (rm := rm_X1_copyFrom) (As := [.ref (Ad 0 0)]) (rest := []) ⟨rfl, rfl⟩ ⟨Nat.le_of_ble_eq_true rfl, Nat.le_of_ble_eq_true rfl⟩ hl.1 rfl rfl (Nat.le_of_ble_eq_true rfl) dX6_seatsIfPulled_8 ⟨Nat.zero_le _, Nat.zero_le _⟩) (k_pcopy l D cI cP (Ad 1) (Ad 0) K.2.2.2.2.1 K.2.2.2.1) hX (va_recv hX.1 (va_blk (Bs := (bMain cI cP o h tx tn Ad K)) hP 5 rfl) (ci := 1) (q0 := 0) rfl rfl) (Cut.two (Bs := (bMain cI cP o h tx tn Ad K)) (k := 5) (j := 4) rfl rfl (by decide) rfl) hP hD hS hA (fun H locs hP hD hS => ?_)
  obtain ⟨M_1, e_2, hf⟩ := bnd_e hf
  have hP : va_P D vwCl (wMain cI cP o h tx tn Ad M_1) H := by rw [e_2]; exact hP
  have hD : va_D A (wMain cI cP o h tx tn Ad M_1) := by rw [e_2]; exact hD
  clear e_2
  refine lv_aload_n hx hb dX6_seatsIfPulled_11 rfl (lv_at hl 0 rfl) ?_
  refine gX6_16 F hX hP 0 rfl (v := .ref (Ad 1 0)) rfl dX6_seatsIfPulled_12 ?_
  refine lv_iload_n hx hb dX6_seatsIfPulled_15 rfl (lv_at hl 1 rfl) ?_
  refine lv_iload_n hx hb dX6_seatsIfPulled_16 rfl (lv_at hl 2 rfl) ?_
  obtain ⟨u_3, h_4, hf⟩ := ob hf
  refine k_wi (runVN F hX wdX6_59 (rm := rm_X1_pullTo) (As := [.int x1, .int x2]) (rest := []) ⟨rfl, rfl⟩ ⟨Nat.le_of_ble_eq_true rfl, Nat.le_of_ble_eq_true rfl⟩ hl.1 rfl rfl (Nat.le_of_ble_eq_true rfl) dX6_seatsIfPulled_17 ⟨Nat.zero_le _, Nat.zero_le _⟩) (c_X1_pullTo l D cI cP (Ad 1) M_1.2.2.2.2.1 x1 x2 _ h_4) hX (va_recv hX.1 (va_blk (Bs := (bMain cI cP o h tx tn Ad M_1)) hP 5 rfl) (ci := 1) (q0 := 0) rfl rfl) (Cut.one (Bs := (bMain cI cP o h tx tn Ad M_1)) (k := 5) rfl rfl) hP hD hS hA (fun H locs hP hD hS => ?_)
  obtain ⟨M_5, e_6, hf⟩ := bnd_e hf
  have hP : va_P D vwCl (wMain cI cP o h tx tn Ad M_5) H := by rw [e_6]; exact hP
  have hD : va_D A (wMain cI cP o h tx tn Ad M_5) := by rw [e_6]; exact hD
  clear e_6
  obtain rfl := (Option.some.inj hf)
  exact wr_i F rfl hP hS dX6_seatsIfPulled_20
def X6_bestPull_L25 : Nat → SMain → Int32 → Int32 → Int32 → Int32 → Option (SMain × Int32 × Int32)
  | 0, _, _, _, _, _ => none
  | fu + 1, K_25, x1_25, x2_25, x3_25, x4_25 => (if (K_25.2.2.2.1.2.1 0) ≤ x4_25 then some (K_25, x2_25, x3_25) else ((X6_seatsIfPulled K_25 x4_25 0).bind fun u_3 => ((X6_seatsIfPulled u_3.1 x4_25 1).bind fun u_5 => (if (if u_3.2 < u_5.2 then u_5.2 else u_3.2) ≤ x3_25 then X6_bestPull_L25 fu u_5.1 x1_25 x2_25 x3_25 (x4_25 + 1) else X6_bestPull_L25 fu u_5.1 x1_25 x4_25 (if u_3.2 < u_5.2 then u_5.2 else u_3.2) (x4_25 + 1)))))
def X6_bestPull (K : SMain) (x1 : Int32) : Option (SMain × Int32) := (if (X6_isIn x1 0 1) = 0 then some (K, (-1000001)) else ((X6_bestPull_L25 FUEL K x1 (-1) (K.2.2.2.1.2.1 4) 0).bind fun u_8 => (if u_8.2.1 = (-1) then some (u_8.1, (-1000004)) else (if x1 = 0 then some (u_8.1, u_8.2.1) else some (u_8.1, u_8.2.2)))))
abbrev rm_X6_bestPull : Room := { frames := 5, cells := 0, slots := 0, locals := 125 }
set_option maxHeartbeats 4000000 in
set_option maxRecDepth 100000 in
theorem c_X6_bestPull (l : Launch) (D : va_G) (cI cP : ClassId) (o h : Nat) (tx tn : Nat → Nat) (Ad : Nat → Nat → Nat) (K : SMain) (x1 : Int32) (z : SMain × Int32) (hf : X6_bestPull K x1 = some z) : MWi l yX6_bestPull cX6_bestPull 6 (some .int) rm_X6_bestPull D cI cP [.ref o, .int x1] (wMain cI cP o h tx tn Ad K) (wMain cI cP o h tx tn Ad z.1) z.2 := by
  refine MWi.of (by decide +kernel) (Nat.le_of_ble_eq_true rfl) ?_
  intro p e s m args below meth c ls A F hX hP hD hA hS hl
  have F : Fx p s m args meth c RX6 cX6_bestPull 6 (some .int) := F
  have hx := F.1
  have hb := F.2.1
  have hown := F.2.2.2.1
  have hts := F.2.2.2.2.1
  have hl : lv_has ls 6 [(0, .ref o), (1, .int x1)] := hl
  unfold X6_bestPull at hf
  refine lv_iload_n hx hb dX6_bestPull_0 rfl (lv_at hl 1 rfl) ?_
  refine lv_iconst (v := 0) hx hb dX6_bestPull_1 (by decide) ?_
  refine lv_iconst (v := 1) hx hb dX6_bestPull_2 (by decide) ?_
  refine k_rd (runS F wdX6_148 (rm := rm_X6_isIn) (As := [.int x1, .int 0, .int 1]) (rest := []) ⟨rfl, rfl⟩ ⟨Nat.le_of_ble_eq_true rfl, Nat.le_of_ble_eq_true rfl⟩ hl.1 rfl rfl (Nat.le_of_ble_eq_true rfl) dX6_bestPull_3 ⟨Nat.zero_le _, Nat.zero_le _⟩) (c_X6_isIn l D cI cP x1 0 1 _ rfl) hX trivial vP_nil hP hS hA (fun H locs hP hS => ?_)
  refine lv_if_ne (tgt := 12) hx hb dX6_bestPull_6 (by decide) (fun c_1 => ?_) (fun c_1 => ?_)
  · replace hf := (if_neg c_1).symm.trans hf
    refine lv_iconst (v := (-1)) hx hb dX6_bestPull_12 (by decide) ?_
    refine lv_istore_n (lv' := [(2, .int (-1)), (0, .ref o), (1, .int x1)]) hx hb dX6_bestPull_13 rfl hl (by decide) rfl (fun ls hl => ?_)
    refine lv_aload_n hx hb dX6_bestPull_14 rfl (lv_at hl 1 rfl) ?_
    refine gX6_10 F hX hP 0 rfl (v := .ref (Ad 0 0)) rfl dX6_bestPull_15 ?_
    refine gX6_174 F hX (va_blk (Bs := (bMain cI cP o h tx tn Ad K)) hP 4 rfl) 0 rfl (v := .int (K.2.2.2.1.2.1 4)) rfl dX6_bestPull_18 ?_
    refine lv_istore_n (lv' := [(3, .int (K.2.2.2.1.2.1 4)), (2, .int (-1)), (0, .ref o), (1, .int x1)]) hx hb dX6_bestPull_21 rfl hl (by decide) rfl (fun ls hl => ?_)
    refine lv_iconst (v := 0) hx hb dX6_bestPull_22 (by decide) ?_
    refine lv_istore (lv' := [(4, .int 0), (3, .int (K.2.2.2.1.2.1 4)), (2, .int (-1)), (0, .ref o), (1, .int x1)]) hx hb dX6_bestPull_23 hl (by decide) rfl (fun ls hl => ?_)
    have hL_25 : ∀ (fu : Nat) (K_25 : SMain) (x1_25 : Int32) (x2_25 : Int32) (x3_25 : Int32) (x4_25 : Int32) (v : SMain × Int32 × Int32) (H : Heap) (locs : List Loc) (ls : Array Slot), X6_bestPull_L25 fu K_25 x1_25 x2_25 x3_25 x4_25 = some v → va_P D vwCl (wMain cI cP o h tx tn Ad K_25) H → va_D A (wMain cI cP o h tx tn Ad K_25) → va_S A s.heap H locs → lv_has ls 6 [(0, .ref o), (1, .int x1_25), (2, .int x2_25), (3, .int x3_25), (4, .int x4_25)] → (∀ (H : Heap) (locs : List Loc) (ls : Array Slot), va_P D vwCl (wMain cI cP o h tx tn Ad v.1) H → va_D A (wMain cI cP o h tx tn Ad v.1) → va_S A s.heap H locs → lv_has ls 6 [(1, .int x1_25), (2, .int v.2.1), (3, .int v.2.2)] → W p l e rm_X6_bestPull s m args below meth c H locs 0 0 (QWi D below args s A (wMain cI cP o h tx tn Ad z.1) z.2) (F0 m 74 ls [])) → W p l e rm_X6_bestPull s m args below meth c H locs 0 0 (QWi D below args s A (wMain cI cP o h tx tn Ad z.1) z.2) (F0 m 25 ls []) := by
      intro fu
      induction fu with
      | zero =>
        intro K_25 x1_25 x2_25 x3_25 x4_25 v H locs ls hf
        exact absurd hf (by simp [X6_bestPull_L25])
      | succ fu ih =>
        intro K_25 x1_25 x2_25 x3_25 x4_25 v _ _ ls hf hP hD hS hl hk
        rw [X6_bestPull_L25] at hf
        refine lv_iload hx hb dX6_bestPull_25 (lv_at hl 4 rfl) ?_
        refine lv_aload_n hx hb dX6_bestPull_27 rfl (lv_at hl 0 rfl) ?_
        refine gX6_10 F hX hP 0 rfl (v := .ref (Ad 0 0)) rfl dX6_bestPull_28 ?_
        refine gX6_178 F hX (va_blk (Bs := (bMain cI cP o h tx tn Ad K_25)) hP 4 rfl) 0 rfl (v := .int (K_25.2.2.2.1.2.1 0)) rfl dX6_bestPull_31 ?_
        refine lv_icmp_ge (tgt := 74) hx hb dX6_bestPull_34 (by decide) (fun c_2 => ?_) (fun c_2 => ?_)
        · replace hf := (if_pos c_2).symm.trans hf
          obtain rfl := Option.some.inj hf
          exact hk _ _ ls hP hD hS (lv_sub hl [1, 2, 3] rfl)
        · replace hf := (if_neg c_2).symm.trans hf
          refine lv_aload_n hx hb dX6_bestPull_37 rfl (lv_at hl 0 rfl) ?_
          refine lv_iload hx hb dX6_bestPull_38 (lv_at hl 4 rfl) ?_
          refine lv_iconst (v := 0) hx hb dX6_bestPull_40 (by decide) ?_
          obtain ⟨u_3, h_4, hf⟩ := ob hf
          refine k_wi (runV F wdX6_181 (rm := rm_X6_seatsIfPulled) (As := [.int x4_25, .int 0]) (rest := []) ⟨rfl, rfl⟩ ⟨Nat.le_of_ble_eq_true rfl, Nat.le_of_ble_eq_true rfl⟩ hl.1 rfl rfl (Nat.le_of_ble_eq_true rfl) dX6_bestPull_41 ⟨Nat.zero_le _, Nat.zero_le _⟩) (c_X6_seatsIfPulled l D cI cP o h tx tn Ad K_25 x4_25 0 _ h_4) hX (va_recv hX.1 hP (ci := 6) (q0 := 0) rfl rfl) (Cut.all rfl) hP hD hS hA (fun H locs hP hD hS => ?_)
          have hP : va_P D vwCl (wMain cI cP o h tx tn Ad u_3.1) H := hP
          have hD : va_D A (wMain cI cP o h tx tn Ad u_3.1) := hD
          refine lv_aload_n hx hb dX6_bestPull_44 rfl (lv_at hl 0 rfl) ?_
          refine lv_iload hx hb dX6_bestPull_45 (lv_at hl 4 rfl) ?_
          refine lv_iconst (v := 1) hx hb dX6_bestPull_47 (by decide) ?_
          obtain ⟨u_5, h_6, hf⟩ := ob hf
          refine k_wi (runV F wdX6_181 (rm := rm_X6_seatsIfPulled) (As := [.int x4_25, .int 1]) (rest := [.int u_3.2]) ⟨rfl, rfl⟩ ⟨Nat.le_of_ble_eq_true rfl, Nat.le_of_ble_eq_true rfl⟩ hl.1 rfl rfl (Nat.le_of_ble_eq_true rfl) dX6_bestPull_48 ⟨Nat.zero_le _, Nat.zero_le _⟩) (c_X6_seatsIfPulled l D cI cP o h tx tn Ad u_3.1 x4_25 1 _ h_6) hX (va_recv hX.1 hP (ci := 6) (q0 := 0) rfl rfl) (Cut.all rfl) hP hD hS hA (fun H locs hP hD hS => ?_)
          have hP : va_P D vwCl (wMain cI cP o h tx tn Ad u_5.1) H := hP
          have hD : va_D A (wMain cI cP o h tx tn Ad u_5.1) := hD
          refine va_mmax hx hb (F.2.2.1.trans hl.1.symm) hown (hts _ q_613) (hts _ q_133) (hts _ q_103) (hts _ q_134) (Nat.le_of_ble_eq_true rfl) (Nat.le_of_ble_eq_true rfl) (Nat.zero_le _) (Nat.zero_le _) dX6_bestPull_51 ?_
          refine lv_istore (lv' := [(5, .int (if u_3.2 < u_5.2 then u_5.2 else u_3.2)), (0, .ref o), (1, .int x1_25), (2, .int x2_25), (3, .int x3_25), (4, .int x4_25)]) hx hb dX6_bestPull_54 hl (by decide) rfl (fun ls hl => ?_)
          refine lv_iload hx hb dX6_bestPull_56 (lv_at hl 0 rfl) ?_
          refine lv_iload_n hx hb dX6_bestPull_58 rfl (lv_at hl 4 rfl) ?_
          refine lv_icmp_le (tgt := 68) hx hb dX6_bestPull_59 (by decide) (fun c_7 => ?_) (fun c_7 => ?_)
          · replace hf := (if_pos c_7).symm.trans hf
            refine lv_iinc (v := (x4_25 + 1)) (lv' := [(4, .int (x4_25 + 1)), (5, .int (if u_3.2 < u_5.2 then u_5.2 else u_3.2)), (0, .ref o), (1, .int x1_25), (2, .int x2_25), (3, .int x3_25)]) hx hb dX6_bestPull_68 hl (k := 5) rfl (by rfl) (by decide) rfl (fun ls hl => ?_)
            refine lv_goto (tgt := 25) hx hb dX6_bestPull_71 (by decide) ?_
            exact ih u_5.1 x1_25 x2_25 x3_25 (x4_25 + 1) _ _ _ ls hf hP hD hS (lv_sub hl [2, 3, 4, 5, 0] rfl) hk
          · replace hf := (if_neg c_7).symm.trans hf
            refine lv_iload hx hb dX6_bestPull_62 (lv_at hl 5 rfl) ?_
            refine lv_istore_n (lv' := [(2, .int x4_25), (5, .int (if u_3.2 < u_5.2 then u_5.2 else u_3.2)), (0, .ref o), (1, .int x1_25), (3, .int x3_25), (4, .int x4_25)]) hx hb dX6_bestPull_64 rfl hl (by decide) rfl (fun ls hl => ?_)
            refine lv_iload hx hb dX6_bestPull_65 (lv_at hl 1 rfl) ?_
            refine lv_istore_n (lv' := [(3, .int (if u_3.2 < u_5.2 then u_5.2 else u_3.2)), (2, .int x4_25), (5, .int (if u_3.2 < u_5.2 then u_5.2 else u_3.2)), (0, .ref o), (1, .int x1_25), (4, .int x4_25)]) hx hb dX6_bestPull_67 rfl hl (by decide) rfl (fun ls hl => ?_)
            refine lv_iinc (v := (x4_25 + 1)) (lv' := [(4, .int (x4_25 + 1)), (3, .int (if u_3.2 < u_5.2 then u_5.2 else u_3.2)), (2, .int x4_25), (5, .int (if u_3.2 < u_5.2 then u_5.2 else u_3.2)), (0, .ref o), (1, .int x1_25)]) hx hb dX6_bestPull_68 hl (k := 5) rfl (by rfl) (by decide) rfl (fun ls hl => ?_)
            refine lv_goto (tgt := 25) hx hb dX6_bestPull_71 (by decide) ?_
            exact ih u_5.1 x1_25 x4_25 (if u_3.2 < u_5.2 then u_5.2 else u_3.2) (x4_25 + 1) _ _ _ ls hf hP hD hS (lv_sub hl [4, 5, 2, 1, 0] rfl) hk
    obtain ⟨u_8, h_9, hf⟩ := ob hf
    refine hL_25 FUEL K x1 (-1) (K.2.2.2.1.2.1 4) 0 u_8 _ _ ls h_9 hP hD hS (lv_sub hl [3, 4, 2, 1, 0] rfl) (fun H locs ls hP hD hS hl => ?_)
    clear hL_25
    refine lv_iload_n hx hb dX6_bestPull_74 rfl (lv_at hl 1 rfl) ?_
    refine lv_iconst (v := (-1)) hx hb dX6_bestPull_75 (by decide) ?_
    refine lv_icmp_ne (tgt := 82) hx hb dX6_bestPull_76 (by decide) (fun c_10 => ?_) (fun c_10 => ?_)
    · replace hf := (if_neg c_10).symm.trans hf
      refine lv_iload_n hx hb dX6_bestPull_82 rfl (lv_at hl 0 rfl) ?_
      refine lv_if_ne (tgt := 90) hx hb dX6_bestPull_83 (by decide) (fun c_11 => ?_) (fun c_11 => ?_)
      · replace hf := (if_neg c_11).symm.trans hf
        refine lv_iload_n hx hb dX6_bestPull_90 rfl (lv_at hl 2 rfl) ?_
        obtain rfl := (Option.some.inj hf)
        exact wr_i F rfl hP hS dX6_bestPull_91
      · replace hf := (if_pos c_11).symm.trans hf
        refine lv_iload_n hx hb dX6_bestPull_86 rfl (lv_at hl 1 rfl) ?_
        refine lv_goto (tgt := 91) hx hb dX6_bestPull_87 (by decide) ?_
        obtain rfl := (Option.some.inj hf)
        exact wr_i F rfl hP hS dX6_bestPull_91
    · replace hf := (if_pos c_10).symm.trans hf
      refine lv_ldc (v := (-1000004)) hx hb hown (hts _ q_545) dX6_bestPull_79 ?_
      obtain rfl := (Option.some.inj hf)
      exact wr_i F rfl hP hS dX6_bestPull_81
  · replace hf := (if_pos c_1).symm.trans hf
    refine lv_ldc (v := (-1000001)) hx hb hown (hts _ q_533) dX6_bestPull_9 ?_
    obtain rfl := (Option.some.inj hf)
    exact wr_i F rfl hP hS dX6_bestPull_11
def X6_fewest (K : SMain) (x1 : Int32) : Option (SMain × Int32) := (if (X6_isIn x1 0 1) = 0 then some (K, (-1000001)) else (if (K.2.2.2.1.2.1 0) = 0 then some (K, (-1000004)) else ((X5_collect K.2.2.1 K.2.2.2.1).bind fun u_3 => (bnd (K.1, K.2.1, u_3, K.2.2.2.1, K.2.2.2.2.1, K.2.2.2.2.2) fun M_5 => (if x1 = 0 then ((X5_fewestByTheBest M_5.2.2.1).bind fun u_11 => (if u_11 = (-1) then some (M_5, (-1000004)) else some (M_5, u_11))) else ((X5_fewestOfAllSets M_5.2.2.1).bind fun u_8 => (if u_8 = (-1) then some (M_5, (-1000004)) else some (M_5, u_8))))))))
abbrev rm_X6_fewest : Room := { frames := 3, cells := 0, slots := 0, locals := 69 }
set_option maxHeartbeats 4000000 in
set_option maxRecDepth 100000 in
theorem c_X6_fewest (l : Launch) (D : va_G) (cI cP : ClassId) (o h : Nat) (tx tn : Nat → Nat) (Ad : Nat → Nat → Nat) (K : SMain) (x1 : Int32) (z : SMain × Int32) (hf : X6_fewest K x1 = some z) : MWi l yX6_fewest cX6_fewest 3 (some .int) rm_X6_fewest D cI cP [.ref o, .int x1] (wMain cI cP o h tx tn Ad K) (wMain cI cP o h tx tn Ad z.1) z.2 := by
  refine MWi.of (by decide +kernel) (Nat.le_of_ble_eq_true rfl) ?_
  intro p e s m args below meth c ls A F hX hP hD hA hS hl
  have F : Fx p s m args meth c RX6 cX6_fewest 3 (some .int) := F
  have hx := F.1
  have hb := F.2.1
  have hown := F.2.2.2.1
  have hts := F.2.2.2.2.1
  have hl : lv_has ls 3 [(0, .ref o), (1, .int x1)] := hl
  unfold X6_fewest at hf
  refine lv_iload_n hx hb dX6_fewest_0 rfl (lv_at hl 1 rfl) ?_
  refine lv_iconst (v := 0) hx hb dX6_fewest_1 (by decide) ?_
  refine lv_iconst (v := 1) hx hb dX6_fewest_2 (by decide) ?_
  refine k_rd (runS F wdX6_148 (rm := rm_X6_isIn) (As := [.int x1, .int 0, .int 1]) (rest := []) ⟨rfl, rfl⟩ ⟨Nat.le_of_ble_eq_true rfl, Nat.le_of_ble_eq_true rfl⟩ hl.1 rfl rfl (Nat.le_of_ble_eq_true rfl) dX6_fewest_3 ⟨Nat.zero_le _, Nat.zero_le _⟩) (c_X6_isIn l D cI cP x1 0 1 _ rfl) hX trivial vP_nil hP hS hA (fun H locs hP hS => ?_)
  refine lv_if_ne (tgt := 12) hx hb dX6_fewest_6 (by decide) (fun c_1 => ?_) (fun c_1 => ?_)
  · replace hf := (if_neg c_1).symm.trans hf
    refine lv_aload_n hx hb dX6_fewest_12 rfl (lv_at hl 0 rfl) ?_
    refine gX6_10 F hX hP 0 rfl (v := .ref (Ad 0 0)) rfl dX6_fewest_13 ?_
    refine gX6_178 F hX (va_blk (Bs := (bMain cI cP o h tx tn Ad K)) hP 4 rfl) 0 rfl (v := .int (K.2.2.2.1.2.1 0)) rfl dX6_fewest_16 ?_
    refine lv_if_ne (tgt := 25) hx hb dX6_fewest_19 (by decide) (fun c_2 => ?_) (fun c_2 => ?_)
    · replace hf := (if_neg c_2).symm.trans hf
      refine lv_aload_n hx hb dX6_fewest_25 rfl (lv_at hl 0 rfl) ?_
      refine gX6_26 F hX hP 0 rfl (v := .ref (tn 0)) rfl dX6_fewest_26 ?_
      refine lv_aload_n hx hb dX6_fewest_29 rfl (lv_at hl 0 rfl) ?_
      refine gX6_10 F hX hP 0 rfl (v := .ref (Ad 0 0)) rfl dX6_fewest_30 ?_
      obtain ⟨u_3, h_4, hf⟩ := ob hf
      refine k_wv (runVN F hX wdX6_189 (rm := rm_X5_collect) (As := [.ref (Ad 0 0)]) (rest := []) ⟨rfl, rfl⟩ ⟨Nat.le_of_ble_eq_true rfl, Nat.le_of_ble_eq_true rfl⟩ hl.1 rfl rfl (Nat.le_of_ble_eq_true rfl) dX6_fewest_33 ⟨Nat.zero_le _, Nat.zero_le _⟩) (c_X5_collect l D cI cP tn (Ad 0) K.2.2.1 K.2.2.2.1 _ h_4) hX (va_recv hX.1 (va_blk (Bs := (bMain cI cP o h tx tn Ad K)) hP 3 rfl) (ci := 5) (q0 := 0) rfl rfl) (Cut.two (Bs := (bMain cI cP o h tx tn Ad K)) (k := 3) (j := 4) rfl rfl (by decide) rfl) hP hD hS hA (fun H locs hP hD hS => ?_)
      obtain ⟨M_5, e_6, hf⟩ := bnd_e hf
      have hP : va_P D vwCl (wMain cI cP o h tx tn Ad M_5) H := by rw [e_6]; exact hP
      have hD : va_D A (wMain cI cP o h tx tn Ad M_5) := by rw [e_6]; exact hD
      clear e_6
      refine lv_iload_n hx hb dX6_fewest_36 rfl (lv_at hl 1 rfl) ?_
      refine lv_if_ne (tgt := 50) hx hb dX6_fewest_37 (by decide) (fun c_7 => ?_) (fun c_7 => ?_)
      · replace hf := (if_neg c_7).symm.trans hf
        refine lv_aload_n hx hb dX6_fewest_50 rfl (lv_at hl 0 rfl) ?_
        refine gX6_26 F hX hP 0 rfl (v := .ref (tn 0)) rfl dX6_fewest_51 ?_
        obtain ⟨u_8, h_9, hf⟩ := ob hf
        refine k_rd (runVN F hX wdX6_195 (rm := rm_X5_fewestOfAllSets) (As := []) (rest := []) ⟨rfl, rfl⟩ ⟨Nat.le_of_ble_eq_true rfl, Nat.le_of_ble_eq_true rfl⟩ hl.1 rfl rfl (Nat.le_of_ble_eq_true rfl) dX6_fewest_54 ⟨Nat.zero_le _, Nat.zero_le _⟩) (c_X5_fewestOfAllSets l D cI cP tn M_5.2.2.1  _ h_9) hX (va_recv hX.1 (va_blk (Bs := (bMain cI cP o h tx tn Ad M_5)) hP 3 rfl) (ci := 5) (q0 := 0) rfl rfl) (va_blk (Bs := (bMain cI cP o h tx tn Ad M_5)) hP 3 rfl) hP hS hA (fun H locs hP hS => ?_)
        refine lv_istore_n (lv' := [(2, .int u_8), (0, .ref o), (1, .int x1)]) hx hb dX6_fewest_57 rfl hl (by decide) rfl (fun ls hl => ?_)
        refine lv_iload_n hx hb dX6_fewest_58 rfl (lv_at hl 0 rfl) ?_
        refine lv_iconst (v := (-1)) hx hb dX6_fewest_59 (by decide) ?_
        refine lv_icmp_ne (tgt := 68) hx hb dX6_fewest_60 (by decide) (fun c_10 => ?_) (fun c_10 => ?_)
        · replace hf := (if_neg c_10).symm.trans hf
          refine lv_iload_n hx hb dX6_fewest_68 rfl (lv_at hl 0 rfl) ?_
          obtain rfl := (Option.some.inj hf)
          exact wr_i F rfl hP hS dX6_fewest_69
        · replace hf := (if_pos c_10).symm.trans hf
          refine lv_ldc (v := (-1000004)) hx hb hown (hts _ q_545) dX6_fewest_63 ?_
          refine lv_goto (tgt := 69) hx hb dX6_fewest_65 (by decide) ?_
          obtain rfl := (Option.some.inj hf)
          exact wr_i F rfl hP hS dX6_fewest_69
      · replace hf := (if_pos c_7).symm.trans hf
        refine lv_aload_n hx hb dX6_fewest_40 rfl (lv_at hl 0 rfl) ?_
        refine gX6_26 F hX hP 0 rfl (v := .ref (tn 0)) rfl dX6_fewest_41 ?_
        obtain ⟨u_11, h_12, hf⟩ := ob hf
        refine k_rd (runVN F hX wdX6_192 (rm := rm_X5_fewestByTheBest) (As := []) (rest := []) ⟨rfl, rfl⟩ ⟨Nat.le_of_ble_eq_true rfl, Nat.le_of_ble_eq_true rfl⟩ hl.1 rfl rfl (Nat.le_of_ble_eq_true rfl) dX6_fewest_44 ⟨Nat.zero_le _, Nat.zero_le _⟩) (c_X5_fewestByTheBest l D cI cP tn M_5.2.2.1  _ h_12) hX (va_recv hX.1 (va_blk (Bs := (bMain cI cP o h tx tn Ad M_5)) hP 3 rfl) (ci := 5) (q0 := 0) rfl rfl) (va_blk (Bs := (bMain cI cP o h tx tn Ad M_5)) hP 3 rfl) hP hS hA (fun H locs hP hS => ?_)
        refine lv_goto (tgt := 57) hx hb dX6_fewest_47 (by decide) ?_
        refine lv_istore_n (lv' := [(2, .int u_11), (0, .ref o), (1, .int x1)]) hx hb dX6_fewest_57 rfl hl (by decide) rfl (fun ls hl => ?_)
        refine lv_iload_n hx hb dX6_fewest_58 rfl (lv_at hl 0 rfl) ?_
        refine lv_iconst (v := (-1)) hx hb dX6_fewest_59 (by decide) ?_
        refine lv_icmp_ne (tgt := 68) hx hb dX6_fewest_60 (by decide) (fun c_13 => ?_) (fun c_13 => ?_)
        · replace hf := (if_neg c_13).symm.trans hf
          refine lv_iload_n hx hb dX6_fewest_68 rfl (lv_at hl 0 rfl) ?_
          obtain rfl := (Option.some.inj hf)
          exact wr_i F rfl hP hS dX6_fewest_69
        · replace hf := (if_pos c_13).symm.trans hf
          refine lv_ldc (v := (-1000004)) hx hb hown (hts _ q_545) dX6_fewest_63 ?_
          refine lv_goto (tgt := 69) hx hb dX6_fewest_65 (by decide) ?_
          obtain rfl := (Option.some.inj hf)
          exact wr_i F rfl hP hS dX6_fewest_69
    · replace hf := (if_pos c_2).symm.trans hf
      refine lv_ldc (v := (-1000004)) hx hb hown (hts _ q_545) dX6_fewest_22 ?_
      obtain rfl := (Option.some.inj hf)
      exact wr_i F rfl hP hS dX6_fewest_24
  · replace hf := (if_pos c_1).symm.trans hf
    refine lv_ldc (v := (-1000001)) hx hb hown (hts _ q_533) dX6_fewest_9 ?_
    obtain rfl := (Option.some.inj hf)
    exact wr_i F rfl hP hS dX6_fewest_11
def X6_ifCut (K : SMain) (x1 : Int32) (x2 : Int32) : Option (SMain × Int32) := (if (X3_has K.2.2.2.1.2.2.1 x1) = 0 then some (K, (-1000001)) else (if (X6_isIn x2 0 1) = 0 then some (K, (-1000001)) else (bnd (K.1, K.2.1, K.2.2.1, K.2.2.2.1, K.2.2.2.1, K.2.2.2.2.2) fun M_3 => ((X1_cutString M_3.2.2.2.2.1 x1).bind fun u_5 => (bnd (M_3.1, M_3.2.1, M_3.2.2.1, M_3.2.2.2.1, u_5.1, M_3.2.2.2.2.2) fun M_7 => (if x2 = 0 then some (M_7, (M_7.2.2.2.2.1.2.1 4)) else ((X1_groupsByJoining M_7.2.2.2.2.1).bind fun u_10 => some (M_7, u_10))))))))
abbrev rm_X6_ifCut : Room := { frames := 4, cells := 0, slots := 0, locals := 103 }
set_option maxHeartbeats 4000000 in
set_option maxRecDepth 100000 in
theorem c_X6_ifCut (l : Launch) (D : va_G) (cI cP : ClassId) (o h : Nat) (tx tn : Nat → Nat) (Ad : Nat → Nat → Nat) (K : SMain) (x1 : Int32) (x2 : Int32) (z : SMain × Int32) (hf : X6_ifCut K x1 x2 = some z) : MWi l yX6_ifCut cX6_ifCut 3 (some .int) rm_X6_ifCut D cI cP [.ref o, .int x1, .int x2] (wMain cI cP o h tx tn Ad K) (wMain cI cP o h tx tn Ad z.1) z.2 := by
  refine MWi.of (by decide +kernel) (Nat.le_of_ble_eq_true rfl) ?_
  intro p e s m args below meth c ls A F hX hP hD hA hS hl
  have F : Fx p s m args meth c RX6 cX6_ifCut 3 (some .int) := F
  have hx := F.1
  have hb := F.2.1
  have hown := F.2.2.2.1
  have hts := F.2.2.2.2.1
  have hl : lv_has ls 3 [(0, .ref o), (1, .int x1), (2, .int x2)] := hl
  unfold X6_ifCut at hf
  refine lv_aload_n hx hb dX6_ifCut_0 rfl (lv_at hl 0 rfl) ?_
  refine gX6_10 F hX hP 0 rfl (v := .ref (Ad 0 0)) rfl dX6_ifCut_1 ?_
  refine gX6_105 F hX (va_blk (Bs := (bMain cI cP o h tx tn Ad K)) hP 4 rfl) 0 rfl (v := .ref (Ad 0 13)) rfl dX6_ifCut_4 ?_
  refine lv_iload_n hx hb dX6_ifCut_7 rfl (lv_at hl 1 rfl) ?_
  refine k_rd (runVN F hX wdX6_120 (rm := rm_X3_has) (As := [.int x1]) (rest := []) ⟨rfl, rfl⟩ ⟨Nat.le_of_ble_eq_true rfl, Nat.le_of_ble_eq_true rfl⟩ hl.1 rfl rfl (Nat.le_of_ble_eq_true rfl) dX6_ifCut_8 ⟨Nat.zero_le _, Nat.zero_le _⟩) (c_X3_has l D cI cP (fun k => (Ad 0) (13 + k)) K.2.2.2.1.2.2.1 x1 _ rfl) hX (va_recv hX.1 (va_blk (Bs := (bPar cI (Ad 0) K.2.2.2.1)) (va_blk (Bs := (bMain cI cP o h tx tn Ad K)) hP 4 rfl) 7 rfl) (ci := 3) (q0 := 0) rfl rfl) (va_blk (Bs := (bPar cI (Ad 0) K.2.2.2.1)) (va_blk (Bs := (bMain cI cP o h tx tn Ad K)) hP 4 rfl) 7 rfl) hP hS hA (fun H locs hP hS => ?_)
  refine lv_if_eq (tgt := 23) hx hb dX6_ifCut_11 (by decide) (fun c_1 => ?_) (fun c_1 => ?_)
  · replace hf := (if_pos c_1).symm.trans hf
    refine lv_ldc (v := (-1000001)) hx hb hown (hts _ q_533) dX6_ifCut_23 ?_
    obtain rfl := (Option.some.inj hf)
    exact wr_i F rfl hP hS dX6_ifCut_25
  · replace hf := (if_neg c_1).symm.trans hf
    refine lv_iload_n hx hb dX6_ifCut_14 rfl (lv_at hl 2 rfl) ?_
    refine lv_iconst (v := 0) hx hb dX6_ifCut_15 (by decide) ?_
    refine lv_iconst (v := 1) hx hb dX6_ifCut_16 (by decide) ?_
    refine k_rd (runS F wdX6_148 (rm := rm_X6_isIn) (As := [.int x2, .int 0, .int 1]) (rest := []) ⟨rfl, rfl⟩ ⟨Nat.le_of_ble_eq_true rfl, Nat.le_of_ble_eq_true rfl⟩ hl.1 rfl rfl (Nat.le_of_ble_eq_true rfl) dX6_ifCut_17 ⟨Nat.zero_le _, Nat.zero_le _⟩) (c_X6_isIn l D cI cP x2 0 1 _ rfl) hX trivial vP_nil hP hS hA (fun H locs hP hS => ?_)
    refine lv_if_ne (tgt := 26) hx hb dX6_ifCut_20 (by decide) (fun c_2 => ?_) (fun c_2 => ?_)
    · replace hf := (if_neg c_2).symm.trans hf
      refine lv_aload_n hx hb dX6_ifCut_26 rfl (lv_at hl 0 rfl) ?_
      refine gX6_16 F hX hP 0 rfl (v := .ref (Ad 1 0)) rfl dX6_ifCut_27 ?_
      refine lv_aload_n hx hb dX6_ifCut_30 rfl (lv_at hl 0 rfl) ?_
      refine gX6_10 F hX hP 0 rfl (v := .ref (Ad 0 0)) rfl dX6_ifCut_31 ?_
      refine k_wv (runVN F hX wdX6_37 (rm := rm_X1_copyFrom) (As := [.ref (Ad 0 0)]) (rest := []) ⟨rfl, rfl⟩ ⟨Nat.le_of_ble_eq_true rfl, Nat.le_of_ble_eq_true rfl⟩ hl.1 rfl rfl (Nat.le_of_ble_eq_true rfl) dX6_ifCut_34 ⟨Nat.zero_le _, Nat.zero_le _⟩) (k_pcopy l D cI cP (Ad 1) (Ad 0) K.2.2.2.2.1 K.2.2.2.1) hX (va_recv hX.1 (va_blk (Bs := (bMain cI cP o h tx tn Ad K)) hP 5 rfl) (ci := 1) (q0 := 0) rfl rfl) (Cut.two (Bs := (bMain cI cP o h tx tn Ad K)) (k := 5) (j := 4) rfl rfl (by decide) rfl) hP hD hS hA (fun H locs hP hD hS => ?_)
      obtain ⟨M_3, e_4, hf⟩ := bnd_e hf
      have hP : va_P D vwCl (wMain cI cP o h tx tn Ad M_3) H := by rw [e_4]; exact hP
      have hD : va_D A (wMain cI cP o h tx tn Ad M_3) := by rw [e_4]; exact hD
      clear e_4
      refine lv_aload_n hx hb dX6_ifCut_37 rfl (lv_at hl 0 rfl) ?_
      refine gX6_16 F hX hP 0 rfl (v := .ref (Ad 1 0)) rfl dX6_ifCut_38 ?_
      refine lv_iload_n hx hb dX6_ifCut_41 rfl (lv_at hl 1 rfl) ?_
      obtain ⟨u_5, h_6, hf⟩ := ob hf
      refine k_wi (runVN F hX wdX6_53 (rm := rm_X1_cutString) (As := [.int x1]) (rest := []) ⟨rfl, rfl⟩ ⟨Nat.le_of_ble_eq_true rfl, Nat.le_of_ble_eq_true rfl⟩ hl.1 rfl rfl (Nat.le_of_ble_eq_true rfl) dX6_ifCut_42 ⟨Nat.zero_le _, Nat.zero_le _⟩) (c_X1_cutString l D cI cP (Ad 1) M_3.2.2.2.2.1 x1 _ h_6) hX (va_recv hX.1 (va_blk (Bs := (bMain cI cP o h tx tn Ad M_3)) hP 5 rfl) (ci := 1) (q0 := 0) rfl rfl) (Cut.one (Bs := (bMain cI cP o h tx tn Ad M_3)) (k := 5) rfl rfl) hP hD hS hA (fun H locs hP hD hS => ?_)
      obtain ⟨M_7, e_8, hf⟩ := bnd_e hf
      have hP : va_P D vwCl (wMain cI cP o h tx tn Ad M_7) H := by rw [e_8]; exact hP
      have hD : va_D A (wMain cI cP o h tx tn Ad M_7) := by rw [e_8]; exact hD
      clear e_8
      refine lv_pop hx hb dX6_ifCut_45 rfl ?_
      refine lv_iload_n hx hb dX6_ifCut_46 rfl (lv_at hl 2 rfl) ?_
      refine lv_if_ne (tgt := 60) hx hb dX6_ifCut_47 (by decide) (fun c_9 => ?_) (fun c_9 => ?_)
      · replace hf := (if_neg c_9).symm.trans hf
        refine lv_aload_n hx hb dX6_ifCut_60 rfl (lv_at hl 0 rfl) ?_
        refine gX6_16 F hX hP 0 rfl (v := .ref (Ad 1 0)) rfl dX6_ifCut_61 ?_
        obtain ⟨u_10, h_11, hf⟩ := ob hf
        refine k_rd (runVN F hX wdX6_198 (rm := rm_X1_groupsByJoining) (As := []) (rest := []) ⟨rfl, rfl⟩ ⟨Nat.le_of_ble_eq_true rfl, Nat.le_of_ble_eq_true rfl⟩ hl.1 rfl rfl (Nat.le_of_ble_eq_true rfl) dX6_ifCut_64 ⟨Nat.zero_le _, Nat.zero_le _⟩) (c_X1_groupsByJoining l D cI cP (Ad 1) M_7.2.2.2.2.1  _ h_11) hX (va_recv hX.1 (va_blk (Bs := (bMain cI cP o h tx tn Ad M_7)) hP 5 rfl) (ci := 1) (q0 := 0) rfl rfl) (va_blk (Bs := (bMain cI cP o h tx tn Ad M_7)) hP 5 rfl) hP hS hA (fun H locs hP hS => ?_)
        obtain rfl := (Option.some.inj hf)
        exact wr_i F rfl hP hS dX6_ifCut_67
      · replace hf := (if_pos c_9).symm.trans hf
        refine lv_aload_n hx hb dX6_ifCut_50 rfl (lv_at hl 0 rfl) ?_
        refine gX6_16 F hX hP 0 rfl (v := .ref (Ad 1 0)) rfl dX6_ifCut_51 ?_
        refine gX6_174 F hX (va_blk (Bs := (bMain cI cP o h tx tn Ad M_7)) hP 5 rfl) 0 rfl (v := .int (M_7.2.2.2.2.1.2.1 4)) rfl dX6_ifCut_54 ?_
        refine lv_goto (tgt := 67) hx hb dX6_ifCut_57 (by decide) ?_
        obtain rfl := (Option.some.inj hf)
        exact wr_i F rfl hP hS dX6_ifCut_67
    · replace hf := (if_pos c_2).symm.trans hf
      refine lv_ldc (v := (-1000001)) hx hb hown (hts _ q_533) dX6_ifCut_23 ?_
      obtain rfl := (Option.some.inj hf)
      exact wr_i F rfl hP hS dX6_ifCut_25
