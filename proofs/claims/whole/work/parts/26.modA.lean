def X7_in (x0 : Int32) (x1 : Int32) (x2 : Int32) : Int32 := (if x0 < x1 then 0 else (if x2 < x0 then 0 else 1))
abbrev rm_X7_in : Room := { frames := 0, cells := 0, slots := 0, locals := 0 }
set_option maxHeartbeats 4000000 in
set_option maxRecDepth 100000 in
theorem c_X7_in (l : Launch) (D : va_G) (cI cP : ClassId) (x0 : Int32) (x1 : Int32) (x2 : Int32) (z : Int32) (hf : X7_in x0 x1 x2 = z) : MRd l yX7_in cX7_in 3 (some .boolean) rm_X7_in D cI cP [.int x0, .int x1, .int x2] [] z := by
  refine MRd.of (by decide +kernel) (Nat.le_of_ble_eq_true rfl) ?_
  intro p e s m args below meth c ls F hX hP hS hl
  have F : Fx p s m args meth c RX7 cX7_in 3 (some .boolean) := F
  have hx := F.1
  have hb := F.2.1
  have hown := F.2.2.2.1
  have hts := F.2.2.2.2.1
  have hA : ∀ q : Nat, s.heap.size ≤ q → (fun q : Nat => s.heap.size ≤ q) q := fun _ h => h
  have hl : lv_has ls 3 [(0, .int x0), (1, .int x1), (2, .int x2)] := hl
  unfold X7_in at hf
  refine lv_iload_n hx hb dX7_in_0 rfl (lv_at hl 0 rfl) ?_
  refine lv_iload_n hx hb dX7_in_1 rfl (lv_at hl 1 rfl) ?_
  refine lv_icmp_lt (tgt := 14) hx hb dX7_in_2 (by decide) (fun c_1 => ?_) (fun c_1 => ?_)
  · replace hf := (if_pos c_1).symm.trans hf
    refine lv_iconst (v := 0) hx hb dX7_in_14 (by decide) ?_
    exact rd_z F (by decide) hf hS dX7_in_15
  · replace hf := (if_neg c_1).symm.trans hf
    refine lv_iload_n hx hb dX7_in_5 rfl (lv_at hl 0 rfl) ?_
    refine lv_iload_n hx hb dX7_in_6 rfl (lv_at hl 2 rfl) ?_
    refine lv_icmp_gt (tgt := 14) hx hb dX7_in_7 (by decide) (fun c_2 => ?_) (fun c_2 => ?_)
    · replace hf := (if_pos c_2).symm.trans hf
      refine lv_iconst (v := 0) hx hb dX7_in_14 (by decide) ?_
      exact rd_z F (by decide) hf hS dX7_in_15
    · replace hf := (if_neg c_2).symm.trans hf
      refine lv_iconst (v := 1) hx hb dX7_in_10 (by decide) ?_
      refine lv_goto (tgt := 15) hx hb dX7_in_11 (by decide) ?_
      exact rd_z F (by decide) hf hS dX7_in_15
def X7_numbersOf (x0 : Int32) : Int32 := (if x0 = 97 then 3 else (if x0 = 99 then 1 else (if x0 = 107 then 1 else (if x0 = 110 then 1 else (if x0 = 112 then 2 else (if x0 = 117 then 3 else (if x0 = 118 then 0 else (if x0 = 121 then 1 else (-1000004)))))))))
abbrev rm_X7_numbersOf : Room := { frames := 0, cells := 0, slots := 0, locals := 0 }
set_option maxHeartbeats 4000000 in
set_option maxRecDepth 100000 in
theorem c_X7_numbersOf (l : Launch) (D : va_G) (cI cP : ClassId) (x0 : Int32) (z : Int32) (hf : X7_numbersOf x0 = z) : MRd l yX7_numbersOf cX7_numbersOf 1 (some .int) rm_X7_numbersOf D cI cP [.int x0] [] z := by
  refine MRd.of (by decide +kernel) (Nat.le_of_ble_eq_true rfl) ?_
  intro p e s m args below meth c ls F hX hP hS hl
  have F : Fx p s m args meth c RX7 cX7_numbersOf 1 (some .int) := F
  have hx := F.1
  have hb := F.2.1
  have hown := F.2.2.2.1
  have hts := F.2.2.2.2.1
  have hA : ∀ q : Nat, s.heap.size ≤ q → (fun q : Nat => s.heap.size ≤ q) q := fun _ h => h
  have hl : lv_has ls 1 [(0, .int x0)] := hl
  unfold X7_numbersOf at hf
  refine lv_iload_n hx hb dX7_numbersOf_0 rfl (lv_at hl 0 rfl) ?_
  rcases Decidable.em (x0 = 97) with c_1 | c_1
  · replace hf := (if_pos c_1).symm.trans hf
    refine lv_tableIn (off := 115) (tgt := 116) hx hb dX7_numbersOf_1 (by rw [c_1]; decide) (by rw [c_1]; decide) (by rw [c_1]; rfl) (by decide) ?_
    refine lv_iconst (v := 3) hx hb dX7_numbersOf_116 (by decide) ?_
    exact rd_i F hf hS dX7_numbersOf_117
  replace hf := (if_neg c_1).symm.trans hf
  rcases Decidable.em (x0 = 99) with c_2 | c_2
  · replace hf := (if_pos c_2).symm.trans hf
    refine lv_tableIn (off := 119) (tgt := 120) hx hb dX7_numbersOf_1 (by rw [c_2]; decide) (by rw [c_2]; decide) (by rw [c_2]; rfl) (by decide) ?_
    refine lv_iconst (v := 1) hx hb dX7_numbersOf_120 (by decide) ?_
    exact rd_i F hf hS dX7_numbersOf_121
  replace hf := (if_neg c_2).symm.trans hf
  rcases Decidable.em (x0 = 107) with c_3 | c_3
  · replace hf := (if_pos c_3).symm.trans hf
    refine lv_tableIn (off := 119) (tgt := 120) hx hb dX7_numbersOf_1 (by rw [c_3]; decide) (by rw [c_3]; decide) (by rw [c_3]; rfl) (by decide) ?_
    refine lv_iconst (v := 1) hx hb dX7_numbersOf_120 (by decide) ?_
    exact rd_i F hf hS dX7_numbersOf_121
  replace hf := (if_neg c_3).symm.trans hf
  rcases Decidable.em (x0 = 110) with c_4 | c_4
  · replace hf := (if_pos c_4).symm.trans hf
    refine lv_tableIn (off := 119) (tgt := 120) hx hb dX7_numbersOf_1 (by rw [c_4]; decide) (by rw [c_4]; decide) (by rw [c_4]; rfl) (by decide) ?_
    refine lv_iconst (v := 1) hx hb dX7_numbersOf_120 (by decide) ?_
    exact rd_i F hf hS dX7_numbersOf_121
  replace hf := (if_neg c_4).symm.trans hf
  rcases Decidable.em (x0 = 112) with c_5 | c_5
  · replace hf := (if_pos c_5).symm.trans hf
    refine lv_tableIn (off := 117) (tgt := 118) hx hb dX7_numbersOf_1 (by rw [c_5]; decide) (by rw [c_5]; decide) (by rw [c_5]; rfl) (by decide) ?_
    refine lv_iconst (v := 2) hx hb dX7_numbersOf_118 (by decide) ?_
    exact rd_i F hf hS dX7_numbersOf_119
  replace hf := (if_neg c_5).symm.trans hf
  rcases Decidable.em (x0 = 117) with c_6 | c_6
  · replace hf := (if_pos c_6).symm.trans hf
    refine lv_tableIn (off := 115) (tgt := 116) hx hb dX7_numbersOf_1 (by rw [c_6]; decide) (by rw [c_6]; decide) (by rw [c_6]; rfl) (by decide) ?_
    refine lv_iconst (v := 3) hx hb dX7_numbersOf_116 (by decide) ?_
    exact rd_i F hf hS dX7_numbersOf_117
  replace hf := (if_neg c_6).symm.trans hf
  rcases Decidable.em (x0 = 118) with c_7 | c_7
  · replace hf := (if_pos c_7).symm.trans hf
    refine lv_tableIn (off := 121) (tgt := 122) hx hb dX7_numbersOf_1 (by rw [c_7]; decide) (by rw [c_7]; decide) (by rw [c_7]; rfl) (by decide) ?_
    refine lv_iconst (v := 0) hx hb dX7_numbersOf_122 (by decide) ?_
    exact rd_i F hf hS dX7_numbersOf_123
  replace hf := (if_neg c_7).symm.trans hf
  rcases Decidable.em (x0 = 121) with c_8 | c_8
  · replace hf := (if_pos c_8).symm.trans hf
    refine lv_tableIn (off := 119) (tgt := 120) hx hb dX7_numbersOf_1 (by rw [c_8]; decide) (by rw [c_8]; decide) (by rw [c_8]; rfl) (by decide) ?_
    refine lv_iconst (v := 1) hx hb dX7_numbersOf_120 (by decide) ?_
    exact rd_i F hf hS dX7_numbersOf_121
  replace hf := (if_neg c_8).symm.trans hf
  refine lv_tableD (tgt := 124) (cs := [97, 99, 107, 110, 112, 117, 118, 121]) hx hb dX7_numbersOf_1 (by decide) (by decide) (by decide) (by simp [c_1, c_2, c_3, c_4, c_5, c_6, c_7, c_8]) ?_
  refine lv_ldc (v := (-1000004)) hx hb hown (hts _ q_838) dX7_numbersOf_124 ?_
  exact rd_i F hf hS dX7_numbersOf_126
def X7_changes_L18 : Nat → SMod → Int32 → Option (SMod)
  | 0, _, _ => none
  | fu + 1, K_18, x1_18 => (if 468 ≤ x1_18 then some K_18 else (if ¬ ((x1_18 + 156) < 0 ∨ 624 ≤ Int32.toNatClampNeg (x1_18 + 156)) then (if ¬ (x1_18 < 0 ∨ 624 ≤ Int32.toNatClampNeg x1_18) then (bnd ((up K_18.1 1 (upd (K_18.1 1) (Int32.toNatClampNeg x1_18) ((K_18.1 1) (Int32.toNatClampNeg (x1_18 + 156))))), K_18.2) fun M_6 => X7_changes_L18 fu M_6 (x1_18 + 1)) else none) else none))
def X7_changes_J13 (K_13 : SMod) (t0_13 : Int32) (t1_13 : Int32) : Option (SMod) := (if t1_13 = t0_13 then ((X7_changes_L18 FUEL K_13 0).bind fun u_8 => (bnd (u_8.1, (up u_8.2 0 ((u_8.2 0) - 1))) fun M_10 => some M_10)) else some K_13)
def X7_changes_L59 : Nat → SMod → Int32 → Option (SMod)
  | 0, _, _ => none
  | fu + 1, K_59, x1_59 => (if 156 ≤ x1_59 then some K_59 else (if ¬ (x1_59 < 0 ∨ 156 ≤ Int32.toNatClampNeg x1_59) then (if ¬ (((156 * (K_59.2 0)) + x1_59) < 0 ∨ 624 ≤ Int32.toNatClampNeg ((156 * (K_59.2 0)) + x1_59)) then (bnd ((up K_59.1 1 (upd (K_59.1 1) (Int32.toNatClampNeg ((156 * (K_59.2 0)) + x1_59)) ((K_59.1 0) (Int32.toNatClampNeg x1_59)))), K_59.2) fun M_17 => X7_changes_L59 fu M_17 (x1_59 + 1)) else none) else none))
def X7_changes (K : SMod) : Option (SMod) := (if (K.2 1) = 0 then ((X7_changes_J13 K 4 (K.2 0)).bind fun u_12 => ((X7_changes_L59 FUEL u_12 0).bind fun u_19 => (bnd (u_19.1, (up u_19.2 0 ((u_19.2 0) + 1))) fun M_21 => some M_21))) else some K)
abbrev rm_X7_changes : Room := { frames := 0, cells := 0, slots := 0, locals := 0 }
set_option maxHeartbeats 4000000 in
set_option maxRecDepth 100000 in
theorem c_X7_changes (l : Launch) (D : va_G) (cI cP : ClassId) (a : Nat → Nat) (K : SMod) (z : SMod) (hf : X7_changes K  = some z) : MWv l yX7_changes cX7_changes 2 none rm_X7_changes D cI cP [.ref (a 0)] (wMod cI a K) (wMod cI a z) := by
  refine MWv.of (by decide +kernel) (Nat.le_of_ble_eq_true rfl) ?_
  intro p e s m args below meth c ls A F hX hP hD hA hS hl
  have F : Fx p s m args meth c RX7 cX7_changes 2 none := F
  have hx := F.1
  have hb := F.2.1
  have hown := F.2.2.2.1
  have hts := F.2.2.2.2.1
  have hl : lv_has ls 2 [(0, .ref (a 0))] := hl
  unfold X7_changes at hf
  refine lv_aload_n hx hb dX7_changes_0 rfl (lv_at hl 0 rfl) ?_
  refine gX7_37 F hX hP 0 rfl (v := .int (K.2 1)) rfl dX7_changes_1 ?_
  refine lv_if_eq (tgt := 8) hx hb dX7_changes_4 (by decide) (fun c_1 => ?_) (fun c_1 => ?_)
  · replace hf := (if_pos c_1).symm.trans hf
    refine lv_aload_n hx hb dX7_changes_8 rfl (lv_at hl 0 rfl) ?_
    refine gX7_41 F hX hP 0 rfl (v := .int (K.2 0)) rfl dX7_changes_9 ?_
    refine lv_iconst (v := 4) hx hb dX7_changes_12 (by decide) ?_
    have hJ_13 : ∀ (K_13 : SMod) (t0_13 : Int32) (t1_13 : Int32) (v : SMod) (H : Heap) (locs : List Loc) (ls : Array Slot), X7_changes_J13 K_13 t0_13 t1_13 = some v → va_P D vwCl (wMod cI a K_13) H → va_D A (wMod cI a K_13) → va_S A s.heap H locs → lv_has ls 2 [(0, .ref (a 0))] → (∀ (H : Heap) (locs : List Loc) (ls : Array Slot), va_P D vwCl (wMod cI a v) H → va_D A (wMod cI a v) → va_S A s.heap H locs → lv_has ls 2 [(0, .ref (a 0))] → W p l e rm_X7_changes s m args below meth c H locs 0 0 (QWv D below args s A (wMod cI a z)) (F0 m 57 ls [])) → W p l e rm_X7_changes s m args below meth c H locs 0 0 (QWv D below args s A (wMod cI a z)) (F0 m 13 ls [.int t0_13, .int t1_13]) := by
      intro K_13 t0_13 t1_13 v _ _ ls hf hP hD hS hl hk
      unfold X7_changes_J13 at hf
      refine lv_icmp_ne (tgt := 57) hx hb dX7_changes_13 (by decide) (fun c_2 => ?_) (fun c_2 => ?_)
      · replace hf := (if_neg c_2).symm.trans hf
        obtain rfl := Option.some.inj hf
        exact hk _ _ ls hP hD hS hl
      · replace hf := (if_pos c_2).symm.trans hf
        refine lv_iconst (v := 0) hx hb dX7_changes_16 (by decide) ?_
        refine lv_istore_n (lv' := [(1, .int 0), (0, .ref (a 0))]) hx hb dX7_changes_17 rfl hl (by decide) rfl (fun ls hl => ?_)
        have hL_18 : ∀ (fu : Nat) (K_18 : SMod) (x1_18 : Int32) (v : SMod) (H : Heap) (locs : List Loc) (ls : Array Slot), X7_changes_L18 fu K_18 x1_18 = some v → va_P D vwCl (wMod cI a K_18) H → va_D A (wMod cI a K_18) → va_S A s.heap H locs → lv_has ls 2 [(0, .ref (a 0)), (1, .int x1_18)] → (∀ (H : Heap) (locs : List Loc) (ls : Array Slot), va_P D vwCl (wMod cI a v) H → va_D A (wMod cI a v) → va_S A s.heap H locs → lv_has ls 2 [(0, .ref (a 0))] → W p l e rm_X7_changes s m args below meth c H locs 0 0 (QWv D below args s A (wMod cI a z)) (F0 m 47 ls [])) → W p l e rm_X7_changes s m args below meth c H locs 0 0 (QWv D below args s A (wMod cI a z)) (F0 m 18 ls []) := by
          intro fu
          induction fu with
          | zero =>
            intro K_18 x1_18 v H locs ls hf
            exact absurd hf (by simp [X7_changes_L18])
          | succ fu ih =>
            intro K_18 x1_18 v _ _ ls hf hP hD hS hl hk
            rw [X7_changes_L18] at hf
            refine lv_iload_n hx hb dX7_changes_18 rfl (lv_at hl 1 rfl) ?_
            refine lv_sipush (v := 468) hx hb dX7_changes_19 (by decide) ?_
            refine lv_icmp_ge (tgt := 47) hx hb dX7_changes_22 (by decide) (fun c_3 => ?_) (fun c_3 => ?_)
            · replace hf := (if_pos c_3).symm.trans hf
              obtain rfl := Option.some.inj hf
              exact hk _ _ ls hP hD hS (lv_sub hl [0] rfl)
            · replace hf := (if_neg c_3).symm.trans hf
              refine lv_aload_n hx hb dX7_changes_25 rfl (lv_at hl 0 rfl) ?_
              refine gX7_13 F hX hP 0 rfl (v := .ref (a 2)) rfl dX7_changes_26 ?_
              refine lv_iload_n hx hb dX7_changes_29 rfl (lv_at hl 1 rfl) ?_
              refine lv_aload_n hx hb dX7_changes_30 rfl (lv_at hl 0 rfl) ?_
              refine gX7_13 F hX hP 0 rfl (v := .ref (a 2)) rfl dX7_changes_31 ?_
              refine lv_iload_n hx hb dX7_changes_34 rfl (lv_at hl 1 rfl) ?_
              refine lv_sipush (v := 156) hx hb dX7_changes_35 (by decide) ?_
              refine lv_iadd hx hb dX7_changes_38 ?_
              have g_4 := og hf
              replace hf := (if_pos g_4).symm.trans hf
              refine va_iald hx hb hX.1 hP 2 0 (n := 624) (f := (K_18.1 1)) rfl rfl g_4 dX7_changes_39 ?_
              have g_5 := og hf
              replace hf := (if_pos g_5).symm.trans hf
              refine va_iast hx hb hX.1 hP hD hS 2 0 (n := 624) (f := (K_18.1 1)) rfl rfl g_5 dX7_changes_40 (fun H locs hP hD hS => ?_)
              obtain ⟨M_6, e_7, hf⟩ := bnd_e hf
              have hP : va_P D vwCl (wMod cI a M_6) H := by rw [e_7]; exact hP
              have hD : va_D A (wMod cI a M_6) := by rw [e_7]; exact hD
              clear e_7
              refine lv_iinc (v := (x1_18 + 1)) (lv' := [(1, .int (x1_18 + 1)), (0, .ref (a 0))]) hx hb dX7_changes_41 hl (k := 1) rfl (by rfl) (by decide) rfl (fun ls hl => ?_)
              refine lv_goto (tgt := 18) hx hb dX7_changes_44 (by decide) ?_
              exact ih M_6 (x1_18 + 1) _ _ _ ls hf hP hD hS (lv_sub hl [1, 0] rfl) hk
        obtain ⟨u_8, h_9, hf⟩ := ob hf
        refine hL_18 FUEL K_13 0 u_8 _ _ ls h_9 hP hD hS (lv_sub hl [1, 0] rfl) (fun H locs ls hP hD hS hl => ?_)
        clear hL_18
        refine lv_aload_n hx hb dX7_changes_47 rfl (lv_at hl 0 rfl) ?_
        refine lv_dup hx hb dX7_changes_48 rfl ?_
        refine gX7_41 F hX hP 0 rfl (v := .int (u_8.2 0)) rfl dX7_changes_49 ?_
        refine lv_iconst (v := 1) hx hb dX7_changes_52 (by decide) ?_
        refine lv_isub hx hb dX7_changes_53 ?_
        refine pX7_41 F hX hP hD hS 0 rfl (Nat.le_of_ble_eq_true rfl) dX7_changes_54 (fun H locs hP hD hS => ?_)
        obtain ⟨M_10, e_11, hf⟩ := bnd_e hf
        have hP : va_P D vwCl (wMod cI a M_10) H := by rw [e_11]; exact hP
        have hD : va_D A (wMod cI a M_10) := by rw [e_11]; exact hD
        clear e_11
        obtain rfl := Option.some.inj hf
        exact hk _ _ ls hP hD hS hl
    obtain ⟨u_12, h_13, hf⟩ := ob hf
    refine hJ_13 K 4 (K.2 0) u_12 _ _ ls h_13 hP hD hS hl (fun H locs ls hP hD hS hl => ?_)
    clear hJ_13
    refine lv_iconst (v := 0) hx hb dX7_changes_57 (by decide) ?_
    refine lv_istore_n (lv' := [(1, .int 0), (0, .ref (a 0))]) hx hb dX7_changes_58 rfl hl (by decide) rfl (fun ls hl => ?_)
    have hL_59 : ∀ (fu : Nat) (K_59 : SMod) (x1_59 : Int32) (v : SMod) (H : Heap) (locs : List Loc) (ls : Array Slot), X7_changes_L59 fu K_59 x1_59 = some v → va_P D vwCl (wMod cI a K_59) H → va_D A (wMod cI a K_59) → va_S A s.heap H locs → lv_has ls 2 [(0, .ref (a 0)), (1, .int x1_59)] → (∀ (H : Heap) (locs : List Loc) (ls : Array Slot), va_P D vwCl (wMod cI a v) H → va_D A (wMod cI a v) → va_S A s.heap H locs → lv_has ls 2 [(0, .ref (a 0))] → W p l e rm_X7_changes s m args below meth c H locs 0 0 (QWv D below args s A (wMod cI a z)) (F0 m 93 ls [])) → W p l e rm_X7_changes s m args below meth c H locs 0 0 (QWv D below args s A (wMod cI a z)) (F0 m 59 ls []) := by
      intro fu
      induction fu with
      | zero =>
        intro K_59 x1_59 v H locs ls hf
        exact absurd hf (by simp [X7_changes_L59])
      | succ fu ih =>
        intro K_59 x1_59 v _ _ ls hf hP hD hS hl hk
        rw [X7_changes_L59] at hf
        refine lv_iload_n hx hb dX7_changes_59 rfl (lv_at hl 1 rfl) ?_
        refine lv_sipush (v := 156) hx hb dX7_changes_60 (by decide) ?_
        refine lv_icmp_ge (tgt := 93) hx hb dX7_changes_63 (by decide) (fun c_14 => ?_) (fun c_14 => ?_)
        · replace hf := (if_pos c_14).symm.trans hf
          obtain rfl := Option.some.inj hf
          exact hk _ _ ls hP hD hS (lv_sub hl [0] rfl)
        · replace hf := (if_neg c_14).symm.trans hf
          refine lv_aload_n hx hb dX7_changes_66 rfl (lv_at hl 0 rfl) ?_
          refine gX7_13 F hX hP 0 rfl (v := .ref (a 2)) rfl dX7_changes_67 ?_
          refine lv_sipush (v := 156) hx hb dX7_changes_70 (by decide) ?_
          refine lv_aload_n hx hb dX7_changes_73 rfl (lv_at hl 0 rfl) ?_
          refine gX7_41 F hX hP 0 rfl (v := .int (K_59.2 0)) rfl dX7_changes_74 ?_
          refine lv_imul hx hb dX7_changes_77 ?_
          refine lv_iload_n hx hb dX7_changes_78 rfl (lv_at hl 1 rfl) ?_
          refine lv_iadd hx hb dX7_changes_79 ?_
          refine lv_aload_n hx hb dX7_changes_80 rfl (lv_at hl 0 rfl) ?_
          refine gX7_7 F hX hP 0 rfl (v := .ref (a 1)) rfl dX7_changes_81 ?_
          refine lv_iload_n hx hb dX7_changes_84 rfl (lv_at hl 1 rfl) ?_
          have g_15 := og hf
          replace hf := (if_pos g_15).symm.trans hf
          refine va_iald hx hb hX.1 hP 1 0 (n := 156) (f := (K_59.1 0)) rfl rfl g_15 dX7_changes_85 ?_
          have g_16 := og hf
          replace hf := (if_pos g_16).symm.trans hf
          refine va_iast hx hb hX.1 hP hD hS 2 0 (n := 624) (f := (K_59.1 1)) rfl rfl g_16 dX7_changes_86 (fun H locs hP hD hS => ?_)
          obtain ⟨M_17, e_18, hf⟩ := bnd_e hf
          have hP : va_P D vwCl (wMod cI a M_17) H := by rw [e_18]; exact hP
          have hD : va_D A (wMod cI a M_17) := by rw [e_18]; exact hD
          clear e_18
          refine lv_iinc (v := (x1_59 + 1)) (lv' := [(1, .int (x1_59 + 1)), (0, .ref (a 0))]) hx hb dX7_changes_87 hl (k := 1) rfl (by rfl) (by decide) rfl (fun ls hl => ?_)
          refine lv_goto (tgt := 59) hx hb dX7_changes_90 (by decide) ?_
          exact ih M_17 (x1_59 + 1) _ _ _ ls hf hP hD hS (lv_sub hl [1, 0] rfl) hk
    obtain ⟨u_19, h_20, hf⟩ := ob hf
    refine hL_59 FUEL u_12 0 u_19 _ _ ls h_20 hP hD hS (lv_sub hl [1, 0] rfl) (fun H locs ls hP hD hS hl => ?_)
    clear hL_59
    refine lv_aload_n hx hb dX7_changes_93 rfl (lv_at hl 0 rfl) ?_
    refine lv_dup hx hb dX7_changes_94 rfl ?_
    refine gX7_41 F hX hP 0 rfl (v := .int (u_19.2 0)) rfl dX7_changes_95 ?_
    refine lv_iconst (v := 1) hx hb dX7_changes_98 (by decide) ?_
    refine lv_iadd hx hb dX7_changes_99 ?_
    refine pX7_41 F hX hP hD hS 0 rfl (Nat.le_of_ble_eq_true rfl) dX7_changes_100 (fun H locs hP hD hS => ?_)
    obtain ⟨M_21, e_22, hf⟩ := bnd_e hf
    have hP : va_P D vwCl (wMod cI a M_21) H := by rw [e_22]; exact hP
    have hD : va_D A (wMod cI a M_21) := by rw [e_22]; exact hD
    clear e_22
    obtain rfl := (Option.some.inj hf)
    exact wr_v F hP hS dX7_changes_103
  · replace hf := (if_neg c_1).symm.trans hf
    obtain rfl := (Option.some.inj hf)
    exact wr_v F hP hS dX7_changes_7
def X7_of (K : SMod) (x1 : Int32) (x2 : Int32) : Option (Int32) := (if ¬ (((3 * x1) + x2) < 0 ∨ 156 ≤ Int32.toNatClampNeg ((3 * x1) + x2)) then some ((K.1 0) (Int32.toNatClampNeg ((3 * x1) + x2))) else none)
abbrev rm_X7_of : Room := { frames := 0, cells := 0, slots := 0, locals := 0 }
set_option maxHeartbeats 4000000 in
set_option maxRecDepth 100000 in
theorem c_X7_of (l : Launch) (D : va_G) (cI cP : ClassId) (a : Nat → Nat) (K : SMod) (x1 : Int32) (x2 : Int32) (z : Int32) (hf : X7_of K x1 x2 = some z) : MRd l yX7_of cX7_of 3 (some .int) rm_X7_of D cI cP [.ref (a 0), .int x1, .int x2] (wMod cI a K) z := by
  refine MRd.of (by decide +kernel) (Nat.le_of_ble_eq_true rfl) ?_
  intro p e s m args below meth c ls F hX hP hS hl
  have F : Fx p s m args meth c RX7 cX7_of 3 (some .int) := F
  have hx := F.1
  have hb := F.2.1
  have hown := F.2.2.2.1
  have hts := F.2.2.2.2.1
  have hA : ∀ q : Nat, s.heap.size ≤ q → (fun q : Nat => s.heap.size ≤ q) q := fun _ h => h
  have hl : lv_has ls 3 [(0, .ref (a 0)), (1, .int x1), (2, .int x2)] := hl
  unfold X7_of at hf
  refine lv_aload_n hx hb dX7_of_0 rfl (lv_at hl 0 rfl) ?_
  refine gX7_7 F hX hP 0 rfl (v := .ref (a 1)) rfl dX7_of_1 ?_
  refine lv_iconst (v := 3) hx hb dX7_of_4 (by decide) ?_
  refine lv_iload_n hx hb dX7_of_5 rfl (lv_at hl 1 rfl) ?_
  refine lv_imul hx hb dX7_of_6 ?_
  refine lv_iload_n hx hb dX7_of_7 rfl (lv_at hl 2 rfl) ?_
  refine lv_iadd hx hb dX7_of_8 ?_
  have g_1 := og hf
  replace hf := (if_pos g_1).symm.trans hf
  refine va_iald hx hb hX.1 hP 1 0 (n := 156) (f := (K.1 0)) rfl rfl g_1 dX7_of_9 ?_
  exact rd_i F (Option.some.inj hf) hS dX7_of_10
def X7_tied (K : SMod) (x1 : Int32) (x2 : Int32) : Option (Int32) := (if ¬ (((36 + (4 * x1)) + x2) < 0 ∨ 156 ≤ Int32.toNatClampNeg ((36 + (4 * x1)) + x2)) then some ((K.1 0) (Int32.toNatClampNeg ((36 + (4 * x1)) + x2))) else none)
abbrev rm_X7_tied : Room := { frames := 0, cells := 0, slots := 0, locals := 0 }
set_option maxHeartbeats 4000000 in
set_option maxRecDepth 100000 in
theorem c_X7_tied (l : Launch) (D : va_G) (cI cP : ClassId) (a : Nat → Nat) (K : SMod) (x1 : Int32) (x2 : Int32) (z : Int32) (hf : X7_tied K x1 x2 = some z) : MRd l yX7_tied cX7_tied 3 (some .int) rm_X7_tied D cI cP [.ref (a 0), .int x1, .int x2] (wMod cI a K) z := by
  refine MRd.of (by decide +kernel) (Nat.le_of_ble_eq_true rfl) ?_
  intro p e s m args below meth c ls F hX hP hS hl
  have F : Fx p s m args meth c RX7 cX7_tied 3 (some .int) := F
  have hx := F.1
  have hb := F.2.1
  have hown := F.2.2.2.1
  have hts := F.2.2.2.2.1
  have hA : ∀ q : Nat, s.heap.size ≤ q → (fun q : Nat => s.heap.size ≤ q) q := fun _ h => h
  have hl : lv_has ls 3 [(0, .ref (a 0)), (1, .int x1), (2, .int x2)] := hl
  unfold X7_tied at hf
  refine lv_aload_n hx hb dX7_tied_0 rfl (lv_at hl 0 rfl) ?_
  refine gX7_7 F hX hP 0 rfl (v := .ref (a 1)) rfl dX7_tied_1 ?_
  refine lv_bipush (v := 36) hx hb dX7_tied_4 (by decide) ?_
  refine lv_iconst (v := 4) hx hb dX7_tied_6 (by decide) ?_
  refine lv_iload_n hx hb dX7_tied_7 rfl (lv_at hl 1 rfl) ?_
  refine lv_imul hx hb dX7_tied_8 ?_
  refine lv_iadd hx hb dX7_tied_9 ?_
  refine lv_iload_n hx hb dX7_tied_10 rfl (lv_at hl 2 rfl) ?_
  refine lv_iadd hx hb dX7_tied_11 ?_
  have g_1 := og hf
  replace hf := (if_pos g_1).symm.trans hf
  refine va_iald hx hb hX.1 hP 1 0 (n := 156) (f := (K.1 0)) rfl rfl g_1 dX7_tied_12 ?_
  exact rd_i F (Option.some.inj hf) hS dX7_tied_13
def X7_isPuppet (K : SMod) (x1 : Int32) : Option (Int32) := (if ((X7_in x1 0 (((K.1 0) (Int32.toNatClampNeg 148)) - 1)) = 0 ∨ (X7_in x1 0 (((K.1 0) (Int32.toNatClampNeg 148)) - 1)) = 1) then some (X7_in x1 0 (((K.1 0) (Int32.toNatClampNeg 148)) - 1)) else none)
abbrev rm_X7_isPuppet : Room := { frames := 1, cells := 0, slots := 0, locals := 22 }
set_option maxHeartbeats 4000000 in
set_option maxRecDepth 100000 in
theorem c_X7_isPuppet (l : Launch) (D : va_G) (cI cP : ClassId) (a : Nat → Nat) (K : SMod) (x1 : Int32) (z : Int32) (hf : X7_isPuppet K x1 = some z) : MRd l yX7_isPuppet cX7_isPuppet 2 (some .boolean) rm_X7_isPuppet D cI cP [.ref (a 0), .int x1] (wMod cI a K) z := by
  refine MRd.of (by decide +kernel) (Nat.le_of_ble_eq_true rfl) ?_
  intro p e s m args below meth c ls F hX hP hS hl
  have F : Fx p s m args meth c RX7 cX7_isPuppet 2 (some .boolean) := F
  have hx := F.1
  have hb := F.2.1
  have hown := F.2.2.2.1
  have hts := F.2.2.2.2.1
  have hA : ∀ q : Nat, s.heap.size ≤ q → (fun q : Nat => s.heap.size ≤ q) q := fun _ h => h
  have hl : lv_has ls 2 [(0, .ref (a 0)), (1, .int x1)] := hl
  unfold X7_isPuppet at hf
  refine lv_iload_n hx hb dX7_isPuppet_0 rfl (lv_at hl 1 rfl) ?_
  refine lv_iconst (v := 0) hx hb dX7_isPuppet_1 (by decide) ?_
  refine lv_aload_n hx hb dX7_isPuppet_2 rfl (lv_at hl 0 rfl) ?_
  refine gX7_7 F hX hP 0 rfl (v := .ref (a 1)) rfl dX7_isPuppet_3 ?_
  refine lv_sipush (v := 148) hx hb dX7_isPuppet_6 (by decide) ?_
  refine va_iald hx hb hX.1 hP 1 0 (n := 156) (f := (K.1 0)) rfl rfl (by decide : ¬ ((148 : Int32) < 0 ∨ 156 ≤ Int32.toNatClampNeg 148)) dX7_isPuppet_9 ?_
  refine lv_iconst (v := 1) hx hb dX7_isPuppet_10 (by decide) ?_
  refine lv_isub hx hb dX7_isPuppet_11 ?_
  refine k_rd (runS F wdX7_45 (rm := rm_X7_in) (As := [.int x1, .int 0, .int (((K.1 0) (Int32.toNatClampNeg 148)) - 1)]) (rest := []) ⟨rfl, rfl⟩ ⟨Nat.le_of_ble_eq_true rfl, Nat.le_of_ble_eq_true rfl⟩ hl.1 rfl rfl (Nat.le_of_ble_eq_true rfl) dX7_isPuppet_12 ⟨Nat.zero_le _, Nat.zero_le _⟩) (c_X7_in l D cI cP x1 0 (((K.1 0) (Int32.toNatClampNeg 148)) - 1) _ rfl) hX trivial vP_nil hP hS hA (fun H locs hP hS => ?_)
  have g_1 := og hf
  replace hf := (if_pos g_1).symm.trans hf
  exact rd_z F g_1 (Option.some.inj hf) hS dX7_isPuppet_15
def X7_isString (K : SMod) (x1 : Int32) : Option (Int32) := (if ((X7_in x1 0 (((K.1 0) (Int32.toNatClampNeg 149)) - 1)) = 0 ∨ (X7_in x1 0 (((K.1 0) (Int32.toNatClampNeg 149)) - 1)) = 1) then some (X7_in x1 0 (((K.1 0) (Int32.toNatClampNeg 149)) - 1)) else none)
abbrev rm_X7_isString : Room := { frames := 1, cells := 0, slots := 0, locals := 22 }
set_option maxHeartbeats 4000000 in
set_option maxRecDepth 100000 in
theorem c_X7_isString (l : Launch) (D : va_G) (cI cP : ClassId) (a : Nat → Nat) (K : SMod) (x1 : Int32) (z : Int32) (hf : X7_isString K x1 = some z) : MRd l yX7_isString cX7_isString 2 (some .boolean) rm_X7_isString D cI cP [.ref (a 0), .int x1] (wMod cI a K) z := by
  refine MRd.of (by decide +kernel) (Nat.le_of_ble_eq_true rfl) ?_
  intro p e s m args below meth c ls F hX hP hS hl
  have F : Fx p s m args meth c RX7 cX7_isString 2 (some .boolean) := F
  have hx := F.1
  have hb := F.2.1
  have hown := F.2.2.2.1
  have hts := F.2.2.2.2.1
  have hA : ∀ q : Nat, s.heap.size ≤ q → (fun q : Nat => s.heap.size ≤ q) q := fun _ h => h
  have hl : lv_has ls 2 [(0, .ref (a 0)), (1, .int x1)] := hl
  unfold X7_isString at hf
  refine lv_iload_n hx hb dX7_isString_0 rfl (lv_at hl 1 rfl) ?_
  refine lv_iconst (v := 0) hx hb dX7_isString_1 (by decide) ?_
  refine lv_aload_n hx hb dX7_isString_2 rfl (lv_at hl 0 rfl) ?_
  refine gX7_7 F hX hP 0 rfl (v := .ref (a 1)) rfl dX7_isString_3 ?_
  refine lv_sipush (v := 149) hx hb dX7_isString_6 (by decide) ?_
  refine va_iald hx hb hX.1 hP 1 0 (n := 156) (f := (K.1 0)) rfl rfl (by decide : ¬ ((149 : Int32) < 0 ∨ 156 ≤ Int32.toNatClampNeg 149)) dX7_isString_9 ?_
  refine lv_iconst (v := 1) hx hb dX7_isString_10 (by decide) ?_
  refine lv_isub hx hb dX7_isString_11 ?_
  refine k_rd (runS F wdX7_45 (rm := rm_X7_in) (As := [.int x1, .int 0, .int (((K.1 0) (Int32.toNatClampNeg 149)) - 1)]) (rest := []) ⟨rfl, rfl⟩ ⟨Nat.le_of_ble_eq_true rfl, Nat.le_of_ble_eq_true rfl⟩ hl.1 rfl rfl (Nat.le_of_ble_eq_true rfl) dX7_isString_12 ⟨Nat.zero_le _, Nat.zero_le _⟩) (c_X7_in l D cI cP x1 0 (((K.1 0) (Int32.toNatClampNeg 149)) - 1) _ rfl) hX trivial vP_nil hP hS hA (fun H locs hP hS => ?_)
  have g_1 := og hf
  replace hf := (if_pos g_1).symm.trans hf
  exact rd_z F g_1 (Option.some.inj hf) hS dX7_isString_15
def X7_isPair (K : SMod) (x1 : Int32) (x2 : Int32) : Option (Int32) := ((X7_isPuppet K x1).bind fun u_1 => (if u_1 = 0 then some 0 else ((X7_isPuppet K x2).bind fun u_4 => (if u_4 = 0 then some 0 else (if x1 = x2 then some 0 else some 1)))))
abbrev rm_X7_isPair : Room := { frames := 2, cells := 0, slots := 0, locals := 43 }
set_option maxHeartbeats 4000000 in
set_option maxRecDepth 100000 in
theorem c_X7_isPair (l : Launch) (D : va_G) (cI cP : ClassId) (a : Nat → Nat) (K : SMod) (x1 : Int32) (x2 : Int32) (z : Int32) (hf : X7_isPair K x1 x2 = some z) : MRd l yX7_isPair cX7_isPair 3 (some .boolean) rm_X7_isPair D cI cP [.ref (a 0), .int x1, .int x2] (wMod cI a K) z := by
  refine MRd.of (by decide +kernel) (Nat.le_of_ble_eq_true rfl) ?_
  intro p e s m args below meth c ls F hX hP hS hl
  have F : Fx p s m args meth c RX7 cX7_isPair 3 (some .boolean) := F
  have hx := F.1
  have hb := F.2.1
  have hown := F.2.2.2.1
  have hts := F.2.2.2.2.1
  have hA : ∀ q : Nat, s.heap.size ≤ q → (fun q : Nat => s.heap.size ≤ q) q := fun _ h => h
  have hl : lv_has ls 3 [(0, .ref (a 0)), (1, .int x1), (2, .int x2)] := hl
  unfold X7_isPair at hf
  refine lv_aload_n hx hb dX7_isPair_0 rfl (lv_at hl 0 rfl) ?_
  refine lv_iload_n hx hb dX7_isPair_1 rfl (lv_at hl 1 rfl) ?_
  obtain ⟨u_1, h_2, hf⟩ := ob hf
  refine k_rd (runV F wdX7_49 (rm := rm_X7_isPuppet) (As := [.int x1]) (rest := []) ⟨rfl, rfl⟩ ⟨Nat.le_of_ble_eq_true rfl, Nat.le_of_ble_eq_true rfl⟩ hl.1 rfl rfl (Nat.le_of_ble_eq_true rfl) dX7_isPair_2 ⟨Nat.zero_le _, Nat.zero_le _⟩) (c_X7_isPuppet l D cI cP a K x1 _ h_2) hX (va_recv hX.1 hP (ci := 7) (q0 := 0) rfl rfl) hP hP hS hA (fun H locs hP hS => ?_)
  refine lv_if_eq (tgt := 25) hx hb dX7_isPair_5 (by decide) (fun c_3 => ?_) (fun c_3 => ?_)
  · replace hf := (if_pos c_3).symm.trans hf
    refine lv_iconst (v := 0) hx hb dX7_isPair_25 (by decide) ?_
    exact rd_z F (by decide) (Option.some.inj hf) hS dX7_isPair_26
  · replace hf := (if_neg c_3).symm.trans hf
    refine lv_aload_n hx hb dX7_isPair_8 rfl (lv_at hl 0 rfl) ?_
    refine lv_iload_n hx hb dX7_isPair_9 rfl (lv_at hl 2 rfl) ?_
    obtain ⟨u_4, h_5, hf⟩ := ob hf
    refine k_rd (runV F wdX7_49 (rm := rm_X7_isPuppet) (As := [.int x2]) (rest := []) ⟨rfl, rfl⟩ ⟨Nat.le_of_ble_eq_true rfl, Nat.le_of_ble_eq_true rfl⟩ hl.1 rfl rfl (Nat.le_of_ble_eq_true rfl) dX7_isPair_10 ⟨Nat.zero_le _, Nat.zero_le _⟩) (c_X7_isPuppet l D cI cP a K x2 _ h_5) hX (va_recv hX.1 hP (ci := 7) (q0 := 0) rfl rfl) hP hP hS hA (fun H locs hP hS => ?_)
    refine lv_if_eq (tgt := 25) hx hb dX7_isPair_13 (by decide) (fun c_6 => ?_) (fun c_6 => ?_)
    · replace hf := (if_pos c_6).symm.trans hf
      refine lv_iconst (v := 0) hx hb dX7_isPair_25 (by decide) ?_
      exact rd_z F (by decide) (Option.some.inj hf) hS dX7_isPair_26
    · replace hf := (if_neg c_6).symm.trans hf
      refine lv_iload_n hx hb dX7_isPair_16 rfl (lv_at hl 1 rfl) ?_
      refine lv_iload_n hx hb dX7_isPair_17 rfl (lv_at hl 2 rfl) ?_
      refine lv_icmp_eq (tgt := 25) hx hb dX7_isPair_18 (by decide) (fun c_7 => ?_) (fun c_7 => ?_)
      · replace hf := (if_pos c_7).symm.trans hf
        refine lv_iconst (v := 0) hx hb dX7_isPair_25 (by decide) ?_
        exact rd_z F (by decide) (Option.some.inj hf) hS dX7_isPair_26
      · replace hf := (if_neg c_7).symm.trans hf
        refine lv_iconst (v := 1) hx hb dX7_isPair_21 (by decide) ?_
        refine lv_goto (tgt := 26) hx hb dX7_isPair_22 (by decide) ?_
        exact rd_z F (by decide) (Option.some.inj hf) hS dX7_isPair_26
def X7_isJoined_J29 (K_29 : SMod) (x1_29 : Int32) (x2_29 : Int32) (x3_29 : Int32) (t0_29 : Int32) (t1_29 : Int32) : Int32 := (if t0_29 ≤ t1_29 then x2_29 else x1_29)
def X7_isJoined_J42 (K_42 : SMod) (x1_42 : Int32) (x2_42 : Int32) (x3_42 : Int32) (x4_42 : Int32) (t0_42 : Int32) (t1_42 : Int32) : Int32 := (if t1_42 = t0_42 then x2_42 else x1_42)
def X7_isJoined (K : SMod) (x1 : Int32) (x2 : Int32) (x3 : Int32) : Option (SMod × Int32) := (if ¬ (x1 < 0 ∨ 12 ≤ Int32.toNatClampNeg x1) then (if ¬ (x2 < 0 ∨ 12 ≤ Int32.toNatClampNeg x2) then (if ((K.1 4) (Int32.toNatClampNeg x1)) = ((K.1 4) (Int32.toNatClampNeg x2)) then some (K, 0) else (if ¬ ((X7_isJoined_J29 K x1 x2 x3 ((K.1 4) (Int32.toNatClampNeg x2)) ((K.1 4) (Int32.toNatClampNeg x1))) < 0 ∨ 12 ≤ Int32.toNatClampNeg (X7_isJoined_J29 K x1 x2 x3 ((K.1 4) (Int32.toNatClampNeg x2)) ((K.1 4) (Int32.toNatClampNeg x1)))) then (if ¬ ((X7_isJoined_J42 K x1 x2 x3 (X7_isJoined_J29 K x1 x2 x3 ((K.1 4) (Int32.toNatClampNeg x2)) ((K.1 4) (Int32.toNatClampNeg x1))) x1 (X7_isJoined_J29 K x1 x2 x3 ((K.1 4) (Int32.toNatClampNeg x2)) ((K.1 4) (Int32.toNatClampNeg x1)))) < 0 ∨ 12 ≤ Int32.toNatClampNeg (X7_isJoined_J42 K x1 x2 x3 (X7_isJoined_J29 K x1 x2 x3 ((K.1 4) (Int32.toNatClampNeg x2)) ((K.1 4) (Int32.toNatClampNeg x1))) x1 (X7_isJoined_J29 K x1 x2 x3 ((K.1 4) (Int32.toNatClampNeg x2)) ((K.1 4) (Int32.toNatClampNeg x1))))) then (bnd ((up K.1 4 (upd (K.1 4) (Int32.toNatClampNeg (X7_isJoined_J42 K x1 x2 x3 (X7_isJoined_J29 K x1 x2 x3 ((K.1 4) (Int32.toNatClampNeg x2)) ((K.1 4) (Int32.toNatClampNeg x1))) x1 (X7_isJoined_J29 K x1 x2 x3 ((K.1 4) (Int32.toNatClampNeg x2)) ((K.1 4) (Int32.toNatClampNeg x1))))) ((K.1 4) (Int32.toNatClampNeg (X7_isJoined_J29 K x1 x2 x3 ((K.1 4) (Int32.toNatClampNeg x2)) ((K.1 4) (Int32.toNatClampNeg x1))))))), K.2) fun M_8 => (bnd ((up M_8.1 5 (upd (M_8.1 5) (Int32.toNatClampNeg (X7_isJoined_J42 K x1 x2 x3 (X7_isJoined_J29 K x1 x2 x3 ((K.1 4) (Int32.toNatClampNeg x2)) ((K.1 4) (Int32.toNatClampNeg x1))) x1 (X7_isJoined_J29 K x1 x2 x3 ((K.1 4) (Int32.toNatClampNeg x2)) ((K.1 4) (Int32.toNatClampNeg x1))))) (((M_8.1 5) (Int32.toNatClampNeg (X7_isJoined_J29 K x1 x2 x3 ((K.1 4) (Int32.toNatClampNeg x2)) ((K.1 4) (Int32.toNatClampNeg x1))))) ^^^ x3))), M_8.2) fun M_10 => some (M_10, 1))) else none) else none)) else none) else none)
abbrev rm_X7_isJoined : Room := { frames := 0, cells := 0, slots := 0, locals := 0 }
set_option maxHeartbeats 4000000 in
set_option maxRecDepth 100000 in
theorem c_X7_isJoined (l : Launch) (D : va_G) (cI cP : ClassId) (a : Nat → Nat) (K : SMod) (x1 : Int32) (x2 : Int32) (x3 : Int32) (z : SMod × Int32) (hf : X7_isJoined K x1 x2 x3 = some z) : MWi l yX7_isJoined cX7_isJoined 6 (some .boolean) rm_X7_isJoined D cI cP [.ref (a 0), .int x1, .int x2, .int x3] (wMod cI a K) (wMod cI a z.1) z.2 := by
  refine MWi.of (by decide +kernel) (Nat.le_of_ble_eq_true rfl) ?_
  intro p e s m args below meth c ls A F hX hP hD hA hS hl
  have F : Fx p s m args meth c RX7 cX7_isJoined 6 (some .boolean) := F
  have hx := F.1
  have hb := F.2.1
  have hown := F.2.2.2.1
  have hts := F.2.2.2.2.1
  have hl : lv_has ls 6 [(0, .ref (a 0)), (1, .int x1), (2, .int x2), (3, .int x3)] := hl
  unfold X7_isJoined at hf
  refine lv_aload_n hx hb dX7_isJoined_0 rfl (lv_at hl 0 rfl) ?_
  refine gX7_22 F hX hP 0 rfl (v := .ref (a 5)) rfl dX7_isJoined_1 ?_
  refine lv_iload_n hx hb dX7_isJoined_4 rfl (lv_at hl 1 rfl) ?_
  have g_1 := og hf
  replace hf := (if_pos g_1).symm.trans hf
  refine va_iald hx hb hX.1 hP 5 0 (n := 12) (f := (K.1 4)) rfl rfl g_1 dX7_isJoined_5 ?_
  refine lv_aload_n hx hb dX7_isJoined_6 rfl (lv_at hl 0 rfl) ?_
  refine gX7_22 F hX hP 0 rfl (v := .ref (a 5)) rfl dX7_isJoined_7 ?_
  refine lv_iload_n hx hb dX7_isJoined_10 rfl (lv_at hl 2 rfl) ?_
  have g_2 := og hf
  replace hf := (if_pos g_2).symm.trans hf
  refine va_iald hx hb hX.1 hP 5 0 (n := 12) (f := (K.1 4)) rfl rfl g_2 dX7_isJoined_11 ?_
  refine lv_icmp_ne (tgt := 17) hx hb dX7_isJoined_12 (by decide) (fun c_3 => ?_) (fun c_3 => ?_)
  · replace hf := (if_neg c_3).symm.trans hf
    refine lv_aload_n hx hb dX7_isJoined_17 rfl (lv_at hl 0 rfl) ?_
    refine gX7_22 F hX hP 0 rfl (v := .ref (a 5)) rfl dX7_isJoined_18 ?_
    refine lv_iload_n hx hb dX7_isJoined_21 rfl (lv_at hl 1 rfl) ?_
    refine va_iald hx hb hX.1 hP 5 0 (n := 12) (f := (K.1 4)) rfl rfl g_1 dX7_isJoined_22 ?_
    refine lv_aload_n hx hb dX7_isJoined_23 rfl (lv_at hl 0 rfl) ?_
    refine gX7_22 F hX hP 0 rfl (v := .ref (a 5)) rfl dX7_isJoined_24 ?_
    refine lv_iload_n hx hb dX7_isJoined_27 rfl (lv_at hl 2 rfl) ?_
    refine va_iald hx hb hX.1 hP 5 0 (n := 12) (f := (K.1 4)) rfl rfl g_2 dX7_isJoined_28 ?_
    have hJ_29 : ∀ (K_29 : SMod) (x1_29 : Int32) (x2_29 : Int32) (x3_29 : Int32) (t0_29 : Int32) (t1_29 : Int32) (v : Int32) (H : Heap) (locs : List Loc) (ls : Array Slot), X7_isJoined_J29 K_29 x1_29 x2_29 x3_29 t0_29 t1_29 = v → va_P D vwCl (wMod cI a K_29) H → va_D A (wMod cI a K_29) → va_S A s.heap H locs → lv_has ls 6 [(0, .ref (a 0)), (1, .int x1_29), (2, .int x2_29), (3, .int x3_29)] → (∀ (H : Heap) (locs : List Loc) (ls : Array Slot), va_P D vwCl (wMod cI a K_29) H → va_D A (wMod cI a K_29) → va_S A s.heap H locs → lv_has ls 6 [(0, .ref (a 0)), (1, .int x1_29), (2, .int x2_29), (3, .int x3_29)] → W p l e rm_X7_isJoined s m args below meth c H locs 0 0 (QWi D below args s A (wMod cI a z.1) z.2) (F0 m 37 ls [.int v])) → W p l e rm_X7_isJoined s m args below meth c H locs 0 0 (QWi D below args s A (wMod cI a z.1) z.2) (F0 m 29 ls [.int t0_29, .int t1_29]) := by
      intro K_29 x1_29 x2_29 x3_29 t0_29 t1_29 v _ _ ls hf hP hD hS hl hk
      unfold X7_isJoined_J29 at hf
      refine lv_icmp_ge (tgt := 36) hx hb dX7_isJoined_29 (by decide) (fun c_4 => ?_) (fun c_4 => ?_)
      · replace hf := (if_pos c_4).symm.trans hf
        refine lv_iload_n hx hb dX7_isJoined_36 rfl (lv_at hl 2 rfl) ?_
        obtain rfl := hf
        exact hk _ _ ls hP hD hS hl
      · replace hf := (if_neg c_4).symm.trans hf
        refine lv_iload_n hx hb dX7_isJoined_32 rfl (lv_at hl 1 rfl) ?_
        refine lv_goto (tgt := 37) hx hb dX7_isJoined_33 (by decide) ?_
        obtain rfl := hf
        exact hk _ _ ls hP hD hS hl
    refine hJ_29 K x1 x2 x3 ((K.1 4) (Int32.toNatClampNeg x2)) ((K.1 4) (Int32.toNatClampNeg x1)) _ _ _ ls rfl hP hD hS hl (fun H locs ls hP hD hS hl => ?_)
    clear hJ_29
    refine lv_istore (lv' := [(4, .int (X7_isJoined_J29 K x1 x2 x3 ((K.1 4) (Int32.toNatClampNeg x2)) ((K.1 4) (Int32.toNatClampNeg x1)))), (0, .ref (a 0)), (1, .int x1), (2, .int x2), (3, .int x3)]) hx hb dX7_isJoined_37 hl (by decide) rfl (fun ls hl => ?_)
    refine lv_iload hx hb dX7_isJoined_39 (lv_at hl 0 rfl) ?_
    refine lv_iload_n hx hb dX7_isJoined_41 rfl (lv_at hl 2 rfl) ?_
    have hJ_42 : ∀ (K_42 : SMod) (x1_42 : Int32) (x2_42 : Int32) (x3_42 : Int32) (x4_42 : Int32) (t0_42 : Int32) (t1_42 : Int32) (v : Int32) (H : Heap) (locs : List Loc) (ls : Array Slot), X7_isJoined_J42 K_42 x1_42 x2_42 x3_42 x4_42 t0_42 t1_42 = v → va_P D vwCl (wMod cI a K_42) H → va_D A (wMod cI a K_42) → va_S A s.heap H locs → lv_has ls 6 [(4, .int x4_42), (0, .ref (a 0)), (1, .int x1_42), (2, .int x2_42), (3, .int x3_42)] → (∀ (H : Heap) (locs : List Loc) (ls : Array Slot), va_P D vwCl (wMod cI a K_42) H → va_D A (wMod cI a K_42) → va_S A s.heap H locs → lv_has ls 6 [(0, .ref (a 0)), (3, .int x3_42), (4, .int x4_42)] → W p l e rm_X7_isJoined s m args below meth c H locs 0 0 (QWi D below args s A (wMod cI a z.1) z.2) (F0 m 50 ls [.int v])) → W p l e rm_X7_isJoined s m args below meth c H locs 0 0 (QWi D below args s A (wMod cI a z.1) z.2) (F0 m 42 ls [.int t0_42, .int t1_42]) := by
      intro K_42 x1_42 x2_42 x3_42 x4_42 t0_42 t1_42 v _ _ ls hf hP hD hS hl hk
      unfold X7_isJoined_J42 at hf
      refine lv_icmp_ne (tgt := 49) hx hb dX7_isJoined_42 (by decide) (fun c_5 => ?_) (fun c_5 => ?_)
      · replace hf := (if_neg c_5).symm.trans hf
        refine lv_iload_n hx hb dX7_isJoined_49 rfl (lv_at hl 2 rfl) ?_
        obtain rfl := hf
        exact hk _ _ ls hP hD hS (lv_sub hl [1, 4, 0] rfl)
      · replace hf := (if_pos c_5).symm.trans hf
        refine lv_iload_n hx hb dX7_isJoined_45 rfl (lv_at hl 3 rfl) ?_
        refine lv_goto (tgt := 50) hx hb dX7_isJoined_46 (by decide) ?_
        obtain rfl := hf
        exact hk _ _ ls hP hD hS (lv_sub hl [1, 4, 0] rfl)
    refine hJ_42 K x1 x2 x3 (X7_isJoined_J29 K x1 x2 x3 ((K.1 4) (Int32.toNatClampNeg x2)) ((K.1 4) (Int32.toNatClampNeg x1))) x1 (X7_isJoined_J29 K x1 x2 x3 ((K.1 4) (Int32.toNatClampNeg x2)) ((K.1 4) (Int32.toNatClampNeg x1))) _ _ _ ls rfl hP hD hS hl (fun H locs ls hP hD hS hl => ?_)
    clear hJ_42
    refine lv_istore (lv' := [(5, .int (X7_isJoined_J42 K x1 x2 x3 (X7_isJoined_J29 K x1 x2 x3 ((K.1 4) (Int32.toNatClampNeg x2)) ((K.1 4) (Int32.toNatClampNeg x1))) x1 (X7_isJoined_J29 K x1 x2 x3 ((K.1 4) (Int32.toNatClampNeg x2)) ((K.1 4) (Int32.toNatClampNeg x1))))), (0, .ref (a 0)), (3, .int x3), (4, .int (X7_isJoined_J29 K x1 x2 x3 ((K.1 4) (Int32.toNatClampNeg x2)) ((K.1 4) (Int32.toNatClampNeg x1))))]) hx hb dX7_isJoined_50 hl (by decide) rfl (fun ls hl => ?_)
    refine lv_aload_n hx hb dX7_isJoined_52 rfl (lv_at hl 1 rfl) ?_
    refine gX7_22 F hX hP 0 rfl (v := .ref (a 5)) rfl dX7_isJoined_53 ?_
    refine lv_iload hx hb dX7_isJoined_56 (lv_at hl 0 rfl) ?_
    refine lv_aload_n hx hb dX7_isJoined_58 rfl (lv_at hl 1 rfl) ?_
    refine gX7_22 F hX hP 0 rfl (v := .ref (a 5)) rfl dX7_isJoined_59 ?_
    refine lv_iload hx hb dX7_isJoined_62 (lv_at hl 3 rfl) ?_
    have g_6 := og hf
    replace hf := (if_pos g_6).symm.trans hf
    refine va_iald hx hb hX.1 hP 5 0 (n := 12) (f := (K.1 4)) rfl rfl g_6 dX7_isJoined_64 ?_
    have g_7 := og hf
    replace hf := (if_pos g_7).symm.trans hf
    refine va_iast hx hb hX.1 hP hD hS 5 0 (n := 12) (f := (K.1 4)) rfl rfl g_7 dX7_isJoined_65 (fun H locs hP hD hS => ?_)
    obtain ⟨M_8, e_9, hf⟩ := bnd_e hf
    have hP : va_P D vwCl (wMod cI a M_8) H := by rw [e_9]; exact hP
    have hD : va_D A (wMod cI a M_8) := by rw [e_9]; exact hD
    clear e_9
    refine lv_aload_n hx hb dX7_isJoined_66 rfl (lv_at hl 1 rfl) ?_
    refine gX7_25 F hX hP 0 rfl (v := .ref (a 6)) rfl dX7_isJoined_67 ?_
    refine lv_iload hx hb dX7_isJoined_70 (lv_at hl 0 rfl) ?_
    refine lv_aload_n hx hb dX7_isJoined_72 rfl (lv_at hl 1 rfl) ?_
    refine gX7_25 F hX hP 0 rfl (v := .ref (a 6)) rfl dX7_isJoined_73 ?_
    refine lv_iload hx hb dX7_isJoined_76 (lv_at hl 3 rfl) ?_
    refine va_iald hx hb hX.1 hP 6 0 (n := 12) (f := (M_8.1 5)) rfl rfl g_6 dX7_isJoined_78 ?_
    refine lv_iload_n hx hb dX7_isJoined_79 rfl (lv_at hl 2 rfl) ?_
    refine lv_ixor hx hb dX7_isJoined_80 ?_
    refine va_iast hx hb hX.1 hP hD hS 6 0 (n := 12) (f := (M_8.1 5)) rfl rfl g_7 dX7_isJoined_81 (fun H locs hP hD hS => ?_)
    obtain ⟨M_10, e_11, hf⟩ := bnd_e hf
    have hP : va_P D vwCl (wMod cI a M_10) H := by rw [e_11]; exact hP
    have hD : va_D A (wMod cI a M_10) := by rw [e_11]; exact hD
    clear e_11
    refine lv_iconst (v := 1) hx hb dX7_isJoined_82 (by decide) ?_
    obtain rfl := (Option.some.inj hf)
    exact wr_z F (by decide) rfl hP hS dX7_isJoined_83
  · replace hf := (if_pos c_3).symm.trans hf
    refine lv_iconst (v := 0) hx hb dX7_isJoined_15 (by decide) ?_
    obtain rfl := (Option.some.inj hf)
    exact wr_z F (by decide) rfl hP hS dX7_isJoined_16
def X7_looks_L2 : Nat → SMod → Int32 → Int32 → Option (SMod)
  | 0, _, _, _ => none
  | fu + 1, K_2, x1_2, x2_2 => (if ((K_2.1 0) (Int32.toNatClampNeg 148)) ≤ x2_2 then some K_2 else (if ¬ (x2_2 < 0 ∨ 12 ≤ Int32.toNatClampNeg x2_2) then (bnd ((up K_2.1 4 (upd (K_2.1 4) (Int32.toNatClampNeg x2_2) x2_2)), K_2.2) fun M_3 => (bnd ((up M_3.1 5 (upd (M_3.1 5) (Int32.toNatClampNeg x2_2) 0)), M_3.2) fun M_5 => X7_looks_L2 fu M_5 x1_2 (x2_2 + 1))) else none))
def X7_looks_L44 : Nat → SMod → Int32 → Int32 → Int32 → Option (SMod × Int32)
  | 0, _, _, _, _ => none
  | fu + 1, K_44, x1_44, x2_44, x3_44 => (if ((K_44.1 0) (Int32.toNatClampNeg 149)) ≤ x3_44 then some (K_44, x2_44) else (if x3_44 = x1_44 then (if x2_44 = 0 then X7_looks_L44 fu K_44 x1_44 0 (x3_44 + 1) else X7_looks_L44 fu K_44 x1_44 1 (x3_44 + 1)) else ((X7_tied K_44 x3_44 0).bind fun u_13 => ((X7_tied K_44 x3_44 1).bind fun u_15 => ((X7_tied K_44 x3_44 2).bind fun u_17 => ((X7_isJoined K_44 u_13 u_15 u_17).bind fun u_19 => (if u_19.2 = 0 then (if x2_44 = 0 then X7_looks_L44 fu u_19.1 x1_44 0 (x3_44 + 1) else X7_looks_L44 fu u_19.1 x1_44 1 (x3_44 + 1)) else X7_looks_L44 fu u_19.1 x1_44 1 (x3_44 + 1))))))))
def X7_looks_L36 : Nat → SMod → Int32 → Int32 → Option (SMod)
  | 0, _, _, _ => none
  | fu + 1, K_36, x1_36, x2_36 => (if x2_36 = 0 then some K_36 else ((X7_looks_L44 FUEL K_36 x1_36 0 0).bind fun u_23 => X7_looks_L36 fu u_23.1 x1_36 u_23.2))
def X7_looks (K : SMod) (x1 : Int32) : Option (SMod) := ((X7_looks_L2 FUEL K x1 0).bind fun u_7 => ((X7_looks_L36 FUEL u_7 x1 1).bind fun u_25 => some u_25))
abbrev rm_X7_looks : Room := { frames := 1, cells := 0, slots := 0, locals := 25 }
set_option maxHeartbeats 4000000 in
set_option maxRecDepth 100000 in
theorem c_X7_looks (l : Launch) (D : va_G) (cI cP : ClassId) (a : Nat → Nat) (K : SMod) (x1 : Int32) (z : SMod) (hf : X7_looks K x1 = some z) : MWv l yX7_looks cX7_looks 4 none rm_X7_looks D cI cP [.ref (a 0), .int x1] (wMod cI a K) (wMod cI a z) := by
  refine MWv.of (by decide +kernel) (Nat.le_of_ble_eq_true rfl) ?_
  intro p e s m args below meth c ls A F hX hP hD hA hS hl
  have F : Fx p s m args meth c RX7 cX7_looks 4 none := F
  have hx := F.1
  have hb := F.2.1
  have hown := F.2.2.2.1
  have hts := F.2.2.2.2.1
  have hl : lv_has ls 4 [(0, .ref (a 0)), (1, .int x1)] := hl
  unfold X7_looks at hf
  refine lv_iconst (v := 0) hx hb dX7_looks_0 (by decide) ?_
  refine lv_istore_n (lv' := [(2, .int 0), (0, .ref (a 0)), (1, .int x1)]) hx hb dX7_looks_1 rfl hl (by decide) rfl (fun ls hl => ?_)
  have hL_2 : ∀ (fu : Nat) (K_2 : SMod) (x1_2 : Int32) (x2_2 : Int32) (v : SMod) (H : Heap) (locs : List Loc) (ls : Array Slot), X7_looks_L2 fu K_2 x1_2 x2_2 = some v → va_P D vwCl (wMod cI a K_2) H → va_D A (wMod cI a K_2) → va_S A s.heap H locs → lv_has ls 4 [(0, .ref (a 0)), (1, .int x1_2), (2, .int x2_2)] → (∀ (H : Heap) (locs : List Loc) (ls : Array Slot), va_P D vwCl (wMod cI a v) H → va_D A (wMod cI a v) → va_S A s.heap H locs → lv_has ls 4 [(0, .ref (a 0)), (1, .int x1_2)] → W p l e rm_X7_looks s m args below meth c H locs 0 0 (QWv D below args s A (wMod cI a z)) (F0 m 34 ls [])) → W p l e rm_X7_looks s m args below meth c H locs 0 0 (QWv D below args s A (wMod cI a z)) (F0 m 2 ls []) := by
    intro fu
    induction fu with
    | zero =>
      intro K_2 x1_2 x2_2 v H locs ls hf
      exact absurd hf (by simp [X7_looks_L2])
    | succ fu ih =>
      intro K_2 x1_2 x2_2 v _ _ ls hf hP hD hS hl hk
      rw [X7_looks_L2] at hf
      refine lv_iload_n hx hb dX7_looks_2 rfl (lv_at hl 2 rfl) ?_
      refine lv_aload_n hx hb dX7_looks_3 rfl (lv_at hl 0 rfl) ?_
      refine gX7_7 F hX hP 0 rfl (v := .ref (a 1)) rfl dX7_looks_4 ?_
      refine lv_sipush (v := 148) hx hb dX7_looks_7 (by decide) ?_
      refine va_iald hx hb hX.1 hP 1 0 (n := 156) (f := (K_2.1 0)) rfl rfl (by decide : ¬ ((148 : Int32) < 0 ∨ 156 ≤ Int32.toNatClampNeg 148)) dX7_looks_10 ?_
      refine lv_icmp_ge (tgt := 34) hx hb dX7_looks_11 (by decide) (fun c_1 => ?_) (fun c_1 => ?_)
      · replace hf := (if_pos c_1).symm.trans hf
        obtain rfl := Option.some.inj hf
        exact hk _ _ ls hP hD hS (lv_sub hl [0, 1] rfl)
      · replace hf := (if_neg c_1).symm.trans hf
        refine lv_aload_n hx hb dX7_looks_14 rfl (lv_at hl 0 rfl) ?_
        refine gX7_22 F hX hP 0 rfl (v := .ref (a 5)) rfl dX7_looks_15 ?_
        refine lv_iload_n hx hb dX7_looks_18 rfl (lv_at hl 2 rfl) ?_
        refine lv_iload_n hx hb dX7_looks_19 rfl (lv_at hl 2 rfl) ?_
        have g_2 := og hf
        replace hf := (if_pos g_2).symm.trans hf
        refine va_iast hx hb hX.1 hP hD hS 5 0 (n := 12) (f := (K_2.1 4)) rfl rfl g_2 dX7_looks_20 (fun H locs hP hD hS => ?_)
        obtain ⟨M_3, e_4, hf⟩ := bnd_e hf
        have hP : va_P D vwCl (wMod cI a M_3) H := by rw [e_4]; exact hP
        have hD : va_D A (wMod cI a M_3) := by rw [e_4]; exact hD
        clear e_4
        refine lv_aload_n hx hb dX7_looks_21 rfl (lv_at hl 0 rfl) ?_
        refine gX7_25 F hX hP 0 rfl (v := .ref (a 6)) rfl dX7_looks_22 ?_
        refine lv_iload_n hx hb dX7_looks_25 rfl (lv_at hl 2 rfl) ?_
        refine lv_iconst (v := 0) hx hb dX7_looks_26 (by decide) ?_
        refine va_iast hx hb hX.1 hP hD hS 6 0 (n := 12) (f := (M_3.1 5)) rfl rfl g_2 dX7_looks_27 (fun H locs hP hD hS => ?_)
        obtain ⟨M_5, e_6, hf⟩ := bnd_e hf
        have hP : va_P D vwCl (wMod cI a M_5) H := by rw [e_6]; exact hP
        have hD : va_D A (wMod cI a M_5) := by rw [e_6]; exact hD
        clear e_6
        refine lv_iinc (v := (x2_2 + 1)) (lv' := [(2, .int (x2_2 + 1)), (0, .ref (a 0)), (1, .int x1_2)]) hx hb dX7_looks_28 hl (k := 2) rfl (by rfl) (by decide) rfl (fun ls hl => ?_)
        refine lv_goto (tgt := 2) hx hb dX7_looks_31 (by decide) ?_
        exact ih M_5 x1_2 (x2_2 + 1) _ _ _ ls hf hP hD hS (lv_sub hl [1, 2, 0] rfl) hk
  obtain ⟨u_7, h_8, hf⟩ := ob hf
  refine hL_2 FUEL K x1 0 u_7 _ _ ls h_8 hP hD hS (lv_sub hl [1, 2, 0] rfl) (fun H locs ls hP hD hS hl => ?_)
  clear hL_2
  refine lv_iconst (v := 1) hx hb dX7_looks_34 (by decide) ?_
  refine lv_istore_n (lv' := [(2, .int 1), (0, .ref (a 0)), (1, .int x1)]) hx hb dX7_looks_35 rfl hl (by decide) rfl (fun ls hl => ?_)
  have hL_36 : ∀ (fu : Nat) (K_36 : SMod) (x1_36 : Int32) (x2_36 : Int32) (v : SMod) (H : Heap) (locs : List Loc) (ls : Array Slot), X7_looks_L36 fu K_36 x1_36 x2_36 = some v → va_P D vwCl (wMod cI a K_36) H → va_D A (wMod cI a K_36) → va_S A s.heap H locs → lv_has ls 4 [(0, .ref (a 0)), (1, .int x1_36), (2, .int x2_36)] → (∀ (H : Heap) (locs : List Loc) (ls : Array Slot), va_P D vwCl (wMod cI a v) H → va_D A (wMod cI a v) → va_S A s.heap H locs → lv_has ls 4 [] → W p l e rm_X7_looks s m args below meth c H locs 0 0 (QWv D below args s A (wMod cI a z)) (F0 m 105 ls [])) → W p l e rm_X7_looks s m args below meth c H locs 0 0 (QWv D below args s A (wMod cI a z)) (F0 m 36 ls []) := by
    intro fu
    induction fu with
    | zero =>
      intro K_36 x1_36 x2_36 v H locs ls hf
      exact absurd hf (by simp [X7_looks_L36])
    | succ fu ih =>
      intro K_36 x1_36 x2_36 v _ _ ls hf hP hD hS hl hk
      rw [X7_looks_L36] at hf
      refine lv_iload_n hx hb dX7_looks_36 rfl (lv_at hl 2 rfl) ?_
      refine lv_if_eq (tgt := 105) hx hb dX7_looks_37 (by decide) (fun c_9 => ?_) (fun c_9 => ?_)
      · replace hf := (if_pos c_9).symm.trans hf
        obtain rfl := Option.some.inj hf
        exact hk _ _ ls hP hD hS (lv_sub hl [] rfl)
      · replace hf := (if_neg c_9).symm.trans hf
        refine lv_iconst (v := 0) hx hb dX7_looks_40 (by decide) ?_
        refine lv_istore_n (lv' := [(2, .int 0), (0, .ref (a 0)), (1, .int x1_36)]) hx hb dX7_looks_41 rfl hl (by decide) rfl (fun ls hl => ?_)
        refine lv_iconst (v := 0) hx hb dX7_looks_42 (by decide) ?_
        refine lv_istore_n (lv' := [(3, .int 0), (2, .int 0), (0, .ref (a 0)), (1, .int x1_36)]) hx hb dX7_looks_43 rfl hl (by decide) rfl (fun ls hl => ?_)
        have hL_44 : ∀ (fu : Nat) (K_44 : SMod) (x1_44 : Int32) (x2_44 : Int32) (x3_44 : Int32) (v : SMod × Int32) (H : Heap) (locs : List Loc) (ls : Array Slot), X7_looks_L44 fu K_44 x1_44 x2_44 x3_44 = some v → va_P D vwCl (wMod cI a K_44) H → va_D A (wMod cI a K_44) → va_S A s.heap H locs → lv_has ls 4 [(0, .ref (a 0)), (1, .int x1_44), (2, .int x2_44), (3, .int x3_44)] → (∀ (H : Heap) (locs : List Loc) (ls : Array Slot), va_P D vwCl (wMod cI a v.1) H → va_D A (wMod cI a v.1) → va_S A s.heap H locs → lv_has ls 4 [(0, .ref (a 0)), (1, .int x1_44), (2, .int v.2)] → W p l e rm_X7_looks s m args below meth c H locs 0 0 (QWv D below args s A (wMod cI a z)) (F0 m 102 ls [])) → W p l e rm_X7_looks s m args below meth c H locs 0 0 (QWv D below args s A (wMod cI a z)) (F0 m 44 ls []) := by
          intro fu
          induction fu with
          | zero =>
            intro K_44 x1_44 x2_44 x3_44 v H locs ls hf
            exact absurd hf (by simp [X7_looks_L44])
          | succ fu ih =>
            intro K_44 x1_44 x2_44 x3_44 v _ _ ls hf hP hD hS hl hk
            rw [X7_looks_L44] at hf
            refine lv_iload_n hx hb dX7_looks_44 rfl (lv_at hl 3 rfl) ?_
            refine lv_aload_n hx hb dX7_looks_45 rfl (lv_at hl 0 rfl) ?_
            refine gX7_7 F hX hP 0 rfl (v := .ref (a 1)) rfl dX7_looks_46 ?_
            refine lv_sipush (v := 149) hx hb dX7_looks_49 (by decide) ?_
            refine va_iald hx hb hX.1 hP 1 0 (n := 156) (f := (K_44.1 0)) rfl rfl (by decide : ¬ ((149 : Int32) < 0 ∨ 156 ≤ Int32.toNatClampNeg 149)) dX7_looks_52 ?_
            refine lv_icmp_ge (tgt := 102) hx hb dX7_looks_53 (by decide) (fun c_10 => ?_) (fun c_10 => ?_)
            · replace hf := (if_pos c_10).symm.trans hf
              obtain rfl := Option.some.inj hf
              exact hk _ _ ls hP hD hS (lv_sub hl [0, 1, 2] rfl)
            · replace hf := (if_neg c_10).symm.trans hf
              refine lv_iload_n hx hb dX7_looks_56 rfl (lv_at hl 3 rfl) ?_
              refine lv_iload_n hx hb dX7_looks_57 rfl (lv_at hl 1 rfl) ?_
              refine lv_icmp_eq (tgt := 86) hx hb dX7_looks_58 (by decide) (fun c_11 => ?_) (fun c_11 => ?_)
              · replace hf := (if_pos c_11).symm.trans hf
                refine lv_iload_n hx hb dX7_looks_86 rfl (lv_at hl 2 rfl) ?_
                refine lv_if_eq (tgt := 94) hx hb dX7_looks_87 (by decide) (fun c_12 => ?_) (fun c_12 => ?_)
                · replace hf := (if_pos c_12).symm.trans hf
                  refine lv_iconst (v := 0) hx hb dX7_looks_94 (by decide) ?_
                  refine lv_istore_n (lv' := [(2, .int 0), (0, .ref (a 0)), (1, .int x1_44), (3, .int x3_44)]) hx hb dX7_looks_95 rfl hl (by decide) rfl (fun ls hl => ?_)
                  refine lv_iinc (v := (x3_44 + 1)) (lv' := [(3, .int (x3_44 + 1)), (2, .int 0), (0, .ref (a 0)), (1, .int x1_44)]) hx hb dX7_looks_96 hl (k := 3) rfl (by rfl) (by decide) rfl (fun ls hl => ?_)
                  refine lv_goto (tgt := 44) hx hb dX7_looks_99 (by decide) ?_
                  exact ih K_44 x1_44 0 (x3_44 + 1) _ _ _ ls hf hP hD hS (lv_sub hl [2, 3, 1, 0] rfl) hk
                · replace hf := (if_neg c_12).symm.trans hf
                  refine lv_iconst (v := 1) hx hb dX7_looks_90 (by decide) ?_
                  refine lv_goto (tgt := 95) hx hb dX7_looks_91 (by decide) ?_
                  refine lv_istore_n (lv' := [(2, .int 1), (0, .ref (a 0)), (1, .int x1_44), (3, .int x3_44)]) hx hb dX7_looks_95 rfl hl (by decide) rfl (fun ls hl => ?_)
                  refine lv_iinc (v := (x3_44 + 1)) (lv' := [(3, .int (x3_44 + 1)), (2, .int 1), (0, .ref (a 0)), (1, .int x1_44)]) hx hb dX7_looks_96 hl (k := 3) rfl (by rfl) (by decide) rfl (fun ls hl => ?_)
                  refine lv_goto (tgt := 44) hx hb dX7_looks_99 (by decide) ?_
                  exact ih K_44 x1_44 1 (x3_44 + 1) _ _ _ ls hf hP hD hS (lv_sub hl [2, 3, 1, 0] rfl) hk
              · replace hf := (if_neg c_11).symm.trans hf
                refine lv_aload_n hx hb dX7_looks_61 rfl (lv_at hl 0 rfl) ?_
                refine lv_aload_n hx hb dX7_looks_62 rfl (lv_at hl 0 rfl) ?_
                refine lv_iload_n hx hb dX7_looks_63 rfl (lv_at hl 3 rfl) ?_
                refine lv_iconst (v := 0) hx hb dX7_looks_64 (by decide) ?_
                obtain ⟨u_13, h_14, hf⟩ := ob hf
                refine k_rd (runV F wdX7_53 (rm := rm_X7_tied) (As := [.int x3_44, .int 0]) (rest := [.ref (a 0)]) ⟨rfl, rfl⟩ ⟨Nat.le_of_ble_eq_true rfl, Nat.le_of_ble_eq_true rfl⟩ hl.1 rfl rfl (Nat.le_of_ble_eq_true rfl) dX7_looks_65 ⟨Nat.zero_le _, Nat.zero_le _⟩) (c_X7_tied l D cI cP a K_44 x3_44 0 _ h_14) hX (va_recv hX.1 hP (ci := 7) (q0 := 0) rfl rfl) hP hP hS hA (fun H locs hP hS => ?_)
                refine lv_aload_n hx hb dX7_looks_68 rfl (lv_at hl 0 rfl) ?_
                refine lv_iload_n hx hb dX7_looks_69 rfl (lv_at hl 3 rfl) ?_
                refine lv_iconst (v := 1) hx hb dX7_looks_70 (by decide) ?_
                obtain ⟨u_15, h_16, hf⟩ := ob hf
                refine k_rd (runV F wdX7_53 (rm := rm_X7_tied) (As := [.int x3_44, .int 1]) (rest := [.int u_13, .ref (a 0)]) ⟨rfl, rfl⟩ ⟨Nat.le_of_ble_eq_true rfl, Nat.le_of_ble_eq_true rfl⟩ hl.1 rfl rfl (Nat.le_of_ble_eq_true rfl) dX7_looks_71 ⟨Nat.zero_le _, Nat.zero_le _⟩) (c_X7_tied l D cI cP a K_44 x3_44 1 _ h_16) hX (va_recv hX.1 hP (ci := 7) (q0 := 0) rfl rfl) hP hP hS hA (fun H locs hP hS => ?_)
                refine lv_aload_n hx hb dX7_looks_74 rfl (lv_at hl 0 rfl) ?_
                refine lv_iload_n hx hb dX7_looks_75 rfl (lv_at hl 3 rfl) ?_
                refine lv_iconst (v := 2) hx hb dX7_looks_76 (by decide) ?_
                obtain ⟨u_17, h_18, hf⟩ := ob hf
                refine k_rd (runV F wdX7_53 (rm := rm_X7_tied) (As := [.int x3_44, .int 2]) (rest := [.int u_15, .int u_13, .ref (a 0)]) ⟨rfl, rfl⟩ ⟨Nat.le_of_ble_eq_true rfl, Nat.le_of_ble_eq_true rfl⟩ hl.1 rfl rfl (Nat.le_of_ble_eq_true rfl) dX7_looks_77 ⟨Nat.zero_le _, Nat.zero_le _⟩) (c_X7_tied l D cI cP a K_44 x3_44 2 _ h_18) hX (va_recv hX.1 hP (ci := 7) (q0 := 0) rfl rfl) hP hP hS hA (fun H locs hP hS => ?_)
                obtain ⟨u_19, h_20, hf⟩ := ob hf
                refine k_wi (runV F wdX7_57 (rm := rm_X7_isJoined) (As := [.int u_13, .int u_15, .int u_17]) (rest := []) ⟨rfl, rfl⟩ ⟨Nat.le_of_ble_eq_true rfl, Nat.le_of_ble_eq_true rfl⟩ hl.1 rfl rfl (Nat.le_of_ble_eq_true rfl) dX7_looks_80 ⟨Nat.zero_le _, Nat.zero_le _⟩) (c_X7_isJoined l D cI cP a K_44 u_13 u_15 u_17 _ h_20) hX (va_recv hX.1 hP (ci := 7) (q0 := 0) rfl rfl) (Cut.all rfl) hP hD hS hA (fun H locs hP hD hS => ?_)
                have hP : va_P D vwCl (wMod cI a u_19.1) H := hP
                have hD : va_D A (wMod cI a u_19.1) := hD
                refine lv_if_ne (tgt := 90) hx hb dX7_looks_83 (by decide) (fun c_21 => ?_) (fun c_21 => ?_)
                · replace hf := (if_neg c_21).symm.trans hf
                  refine lv_iconst (v := 1) hx hb dX7_looks_90 (by decide) ?_
                  refine lv_goto (tgt := 95) hx hb dX7_looks_91 (by decide) ?_
                  refine lv_istore_n (lv' := [(2, .int 1), (0, .ref (a 0)), (1, .int x1_44), (3, .int x3_44)]) hx hb dX7_looks_95 rfl hl (by decide) rfl (fun ls hl => ?_)
                  refine lv_iinc (v := (x3_44 + 1)) (lv' := [(3, .int (x3_44 + 1)), (2, .int 1), (0, .ref (a 0)), (1, .int x1_44)]) hx hb dX7_looks_96 hl (k := 3) rfl (by rfl) (by decide) rfl (fun ls hl => ?_)
                  refine lv_goto (tgt := 44) hx hb dX7_looks_99 (by decide) ?_
                  exact ih u_19.1 x1_44 1 (x3_44 + 1) _ _ _ ls hf hP hD hS (lv_sub hl [2, 3, 1, 0] rfl) hk
                · replace hf := (if_pos c_21).symm.trans hf
                  refine lv_iload_n hx hb dX7_looks_86 rfl (lv_at hl 2 rfl) ?_
                  refine lv_if_eq (tgt := 94) hx hb dX7_looks_87 (by decide) (fun c_22 => ?_) (fun c_22 => ?_)
                  · replace hf := (if_pos c_22).symm.trans hf
                    refine lv_iconst (v := 0) hx hb dX7_looks_94 (by decide) ?_
                    refine lv_istore_n (lv' := [(2, .int 0), (0, .ref (a 0)), (1, .int x1_44), (3, .int x3_44)]) hx hb dX7_looks_95 rfl hl (by decide) rfl (fun ls hl => ?_)
                    refine lv_iinc (v := (x3_44 + 1)) (lv' := [(3, .int (x3_44 + 1)), (2, .int 0), (0, .ref (a 0)), (1, .int x1_44)]) hx hb dX7_looks_96 hl (k := 3) rfl (by rfl) (by decide) rfl (fun ls hl => ?_)
                    refine lv_goto (tgt := 44) hx hb dX7_looks_99 (by decide) ?_
                    exact ih u_19.1 x1_44 0 (x3_44 + 1) _ _ _ ls hf hP hD hS (lv_sub hl [2, 3, 1, 0] rfl) hk
                  · replace hf := (if_neg c_22).symm.trans hf
                    refine lv_iconst (v := 1) hx hb dX7_looks_90 (by decide) ?_
                    refine lv_goto (tgt := 95) hx hb dX7_looks_91 (by decide) ?_
                    refine lv_istore_n (lv' := [(2, .int 1), (0, .ref (a 0)), (1, .int x1_44), (3, .int x3_44)]) hx hb dX7_looks_95 rfl hl (by decide) rfl (fun ls hl => ?_)
                    refine lv_iinc (v := (x3_44 + 1)) (lv' := [(3, .int (x3_44 + 1)), (2, .int 1), (0, .ref (a 0)), (1, .int x1_44)]) hx hb dX7_looks_96 hl (k := 3) rfl (by rfl) (by decide) rfl (fun ls hl => ?_)
                    refine lv_goto (tgt := 44) hx hb dX7_looks_99 (by decide) ?_
                    exact ih u_19.1 x1_44 1 (x3_44 + 1) _ _ _ ls hf hP hD hS (lv_sub hl [2, 3, 1, 0] rfl) hk
        obtain ⟨u_23, h_24, hf⟩ := ob hf
        refine hL_44 FUEL K_36 x1_36 0 0 u_23 _ _ ls h_24 hP hD hS (lv_sub hl [2, 3, 1, 0] rfl) (fun H locs ls hP hD hS hl => ?_)
        clear hL_44
        refine lv_goto (tgt := 36) hx hb dX7_looks_102 (by decide) ?_
        exact ih u_23.1 x1_36 u_23.2 _ _ _ ls hf hP hD hS hl hk
  obtain ⟨u_25, h_26, hf⟩ := ob hf
  refine hL_36 FUEL u_7 x1 1 u_25 _ _ ls h_26 hP hD hS (lv_sub hl [1, 2, 0] rfl) (fun H locs ls hP hD hS hl => ?_)
  clear hL_36
  obtain rfl := (Option.some.inj hf)
  exact wr_v F hP hS dX7_looks_105
def X7_pulled_L6 : Nat → SMod → Int32 → Int32 → Int32 → Int32 → Option (Int32)
  | 0, _, _, _, _, _ => none
  | fu + 1, K_6, x1_6, x2_6, x3_6, x4_6 => (if ((K_6.1 0) (Int32.toNatClampNeg 148)) ≤ x4_6 then some x3_6 else (if ¬ (x4_6 < 0 ∨ 12 ≤ Int32.toNatClampNeg x4_6) then (if ((K_6.1 4) (Int32.toNatClampNeg x4_6)) = x1_6 then (if x4_6 = x2_6 then X7_pulled_L6 fu K_6 x1_6 x2_6 x3_6 (x4_6 + 1) else ((X7_of K_6 x4_6 2).bind fun u_5 => (if u_5 ≤ 0 then X7_pulled_L6 fu K_6 x1_6 x2_6 x3_6 (x4_6 + 1) else ((X7_of K_6 x4_6 2).bind fun u_8 => X7_pulled_L6 fu K_6 x1_6 x2_6 ((u_8 - 1) ^^^ ((K_6.1 5) (Int32.toNatClampNeg x4_6))) (x4_6 + 1))))) else X7_pulled_L6 fu K_6 x1_6 x2_6 x3_6 (x4_6 + 1)) else none))
def X7_pulled (K : SMod) (x1 : Int32) (x2 : Int32) : Option (Int32) := ((X7_pulled_L6 FUEL K x1 x2 (-1000004) 0).bind fun u_10 => some u_10)
abbrev rm_X7_pulled : Room := { frames := 1, cells := 0, slots := 0, locals := 22 }
set_option maxHeartbeats 4000000 in
set_option maxRecDepth 100000 in
theorem c_X7_pulled (l : Launch) (D : va_G) (cI cP : ClassId) (a : Nat → Nat) (K : SMod) (x1 : Int32) (x2 : Int32) (z : Int32) (hf : X7_pulled K x1 x2 = some z) : MRd l yX7_pulled cX7_pulled 5 (some .int) rm_X7_pulled D cI cP [.ref (a 0), .int x1, .int x2] (wMod cI a K) z := by
  refine MRd.of (by decide +kernel) (Nat.le_of_ble_eq_true rfl) ?_
  intro p e s m args below meth c ls F hX hP hS hl
  have F : Fx p s m args meth c RX7 cX7_pulled 5 (some .int) := F
  have hx := F.1
  have hb := F.2.1
  have hown := F.2.2.2.1
  have hts := F.2.2.2.2.1
  have hA : ∀ q : Nat, s.heap.size ≤ q → (fun q : Nat => s.heap.size ≤ q) q := fun _ h => h
  have hl : lv_has ls 5 [(0, .ref (a 0)), (1, .int x1), (2, .int x2)] := hl
  unfold X7_pulled at hf
  refine lv_ldc (v := (-1000004)) hx hb hown (hts _ q_838) dX7_pulled_0 ?_
  refine lv_istore_n (lv' := [(3, .int (-1000004)), (0, .ref (a 0)), (1, .int x1), (2, .int x2)]) hx hb dX7_pulled_2 rfl hl (by decide) rfl (fun ls hl => ?_)
  refine lv_iconst (v := 0) hx hb dX7_pulled_3 (by decide) ?_
  refine lv_istore (lv' := [(4, .int 0), (3, .int (-1000004)), (0, .ref (a 0)), (1, .int x1), (2, .int x2)]) hx hb dX7_pulled_4 hl (by decide) rfl (fun ls hl => ?_)
  have hL_6 : ∀ (fu : Nat) (K_6 : SMod) (x1_6 : Int32) (x2_6 : Int32) (x3_6 : Int32) (x4_6 : Int32) (v : Int32) (H : Heap) (locs : List Loc) (ls : Array Slot), X7_pulled_L6 fu K_6 x1_6 x2_6 x3_6 x4_6 = some v → va_P D vwCl (wMod cI a K_6) H → va_S (fun q : Nat => s.heap.size ≤ q) s.heap H locs → lv_has ls 5 [(0, .ref (a 0)), (1, .int x1_6), (2, .int x2_6), (3, .int x3_6), (4, .int x4_6)] → (∀ (H : Heap) (locs : List Loc) (ls : Array Slot), va_P D vwCl (wMod cI a K_6) H → va_S (fun q : Nat => s.heap.size ≤ q) s.heap H locs → lv_has ls 5 [(3, .int v)] → W p l e rm_X7_pulled s m args below meth c H locs 0 0 (QR below args s z) (F0 m 74 ls [])) → W p l e rm_X7_pulled s m args below meth c H locs 0 0 (QR below args s z) (F0 m 6 ls []) := by
    intro fu
    induction fu with
    | zero =>
      intro K_6 x1_6 x2_6 x3_6 x4_6 v H locs ls hf
      exact absurd hf (by simp [X7_pulled_L6])
    | succ fu ih =>
      intro K_6 x1_6 x2_6 x3_6 x4_6 v _ _ ls hf hP hS hl hk
      rw [X7_pulled_L6] at hf
      refine lv_iload hx hb dX7_pulled_6 (lv_at hl 4 rfl) ?_
      refine lv_aload_n hx hb dX7_pulled_8 rfl (lv_at hl 0 rfl) ?_
      refine gX7_7 F hX hP 0 rfl (v := .ref (a 1)) rfl dX7_pulled_9 ?_
      refine lv_sipush (v := 148) hx hb dX7_pulled_12 (by decide) ?_
      refine va_iald hx hb hX.1 hP 1 0 (n := 156) (f := (K_6.1 0)) rfl rfl (by decide : ¬ ((148 : Int32) < 0 ∨ 156 ≤ Int32.toNatClampNeg 148)) dX7_pulled_15 ?_
      refine lv_icmp_ge (tgt := 74) hx hb dX7_pulled_16 (by decide) (fun c_1 => ?_) (fun c_1 => ?_)
      · replace hf := (if_pos c_1).symm.trans hf
        obtain rfl := Option.some.inj hf
        exact hk _ _ ls hP hS (lv_sub hl [3] rfl)
      · replace hf := (if_neg c_1).symm.trans hf
        refine lv_aload_n hx hb dX7_pulled_19 rfl (lv_at hl 0 rfl) ?_
        refine gX7_22 F hX hP 0 rfl (v := .ref (a 5)) rfl dX7_pulled_20 ?_
        refine lv_iload hx hb dX7_pulled_23 (lv_at hl 4 rfl) ?_
        have g_2 := og hf
        replace hf := (if_pos g_2).symm.trans hf
        refine va_iald hx hb hX.1 hP 5 0 (n := 12) (f := (K_6.1 4)) rfl rfl g_2 dX7_pulled_25 ?_
        refine lv_iload_n hx hb dX7_pulled_26 rfl (lv_at hl 1 rfl) ?_
        refine lv_icmp_ne (tgt := 66) hx hb dX7_pulled_27 (by decide) (fun c_3 => ?_) (fun c_3 => ?_)
        · replace hf := (if_neg c_3).symm.trans hf
          refine lv_iload_n hx hb dX7_pulled_66 rfl (lv_at hl 3 rfl) ?_
          refine lv_istore_n (lv' := [(3, .int x3_6), (0, .ref (a 0)), (1, .int x1_6), (2, .int x2_6), (4, .int x4_6)]) hx hb dX7_pulled_67 rfl hl (by decide) rfl (fun ls hl => ?_)
          refine lv_iinc (v := (x4_6 + 1)) (lv' := [(4, .int (x4_6 + 1)), (3, .int x3_6), (0, .ref (a 0)), (1, .int x1_6), (2, .int x2_6)]) hx hb dX7_pulled_68 hl (k := 4) rfl (by rfl) (by decide) rfl (fun ls hl => ?_)
          refine lv_goto (tgt := 6) hx hb dX7_pulled_71 (by decide) ?_
          exact ih K_6 x1_6 x2_6 x3_6 (x4_6 + 1) _ _ _ ls hf hP hS (lv_sub hl [2, 3, 4, 1, 0] rfl) hk
        · replace hf := (if_pos c_3).symm.trans hf
          refine lv_iload hx hb dX7_pulled_30 (lv_at hl 4 rfl) ?_
          refine lv_iload_n hx hb dX7_pulled_32 rfl (lv_at hl 2 rfl) ?_
          refine lv_icmp_eq (tgt := 66) hx hb dX7_pulled_33 (by decide) (fun c_4 => ?_) (fun c_4 => ?_)
          · replace hf := (if_pos c_4).symm.trans hf
            refine lv_iload_n hx hb dX7_pulled_66 rfl (lv_at hl 3 rfl) ?_
            refine lv_istore_n (lv' := [(3, .int x3_6), (0, .ref (a 0)), (1, .int x1_6), (2, .int x2_6), (4, .int x4_6)]) hx hb dX7_pulled_67 rfl hl (by decide) rfl (fun ls hl => ?_)
            refine lv_iinc (v := (x4_6 + 1)) (lv' := [(4, .int (x4_6 + 1)), (3, .int x3_6), (0, .ref (a 0)), (1, .int x1_6), (2, .int x2_6)]) hx hb dX7_pulled_68 hl (k := 4) rfl (by rfl) (by decide) rfl (fun ls hl => ?_)
            refine lv_goto (tgt := 6) hx hb dX7_pulled_71 (by decide) ?_
            exact ih K_6 x1_6 x2_6 x3_6 (x4_6 + 1) _ _ _ ls hf hP hS (lv_sub hl [2, 3, 4, 1, 0] rfl) hk
          · replace hf := (if_neg c_4).symm.trans hf
            refine lv_aload_n hx hb dX7_pulled_36 rfl (lv_at hl 0 rfl) ?_
            refine lv_iload hx hb dX7_pulled_37 (lv_at hl 4 rfl) ?_
            refine lv_iconst (v := 2) hx hb dX7_pulled_39 (by decide) ?_
            obtain ⟨u_5, h_6, hf⟩ := ob hf
            refine k_rd (runV F wdX7_61 (rm := rm_X7_of) (As := [.int x4_6, .int 2]) (rest := []) ⟨rfl, rfl⟩ ⟨Nat.le_of_ble_eq_true rfl, Nat.le_of_ble_eq_true rfl⟩ hl.1 rfl rfl (Nat.le_of_ble_eq_true rfl) dX7_pulled_40 ⟨Nat.zero_le _, Nat.zero_le _⟩) (c_X7_of l D cI cP a K_6 x4_6 2 _ h_6) hX (va_recv hX.1 hP (ci := 7) (q0 := 0) rfl rfl) hP hP hS hA (fun H locs hP hS => ?_)
            refine lv_if_le (tgt := 66) hx hb dX7_pulled_43 (by decide) (fun c_7 => ?_) (fun c_7 => ?_)
            · replace hf := (if_pos c_7).symm.trans hf
              refine lv_iload_n hx hb dX7_pulled_66 rfl (lv_at hl 3 rfl) ?_
              refine lv_istore_n (lv' := [(3, .int x3_6), (0, .ref (a 0)), (1, .int x1_6), (2, .int x2_6), (4, .int x4_6)]) hx hb dX7_pulled_67 rfl hl (by decide) rfl (fun ls hl => ?_)
              refine lv_iinc (v := (x4_6 + 1)) (lv' := [(4, .int (x4_6 + 1)), (3, .int x3_6), (0, .ref (a 0)), (1, .int x1_6), (2, .int x2_6)]) hx hb dX7_pulled_68 hl (k := 4) rfl (by rfl) (by decide) rfl (fun ls hl => ?_)
              refine lv_goto (tgt := 6) hx hb dX7_pulled_71 (by decide) ?_
              exact ih K_6 x1_6 x2_6 x3_6 (x4_6 + 1) _ _ _ ls hf hP hS (lv_sub hl [2, 3, 4, 1, 0] rfl) hk
            · replace hf := (if_neg c_7).symm.trans hf
              refine lv_aload_n hx hb dX7_pulled_46 rfl (lv_at hl 0 rfl) ?_
              refine lv_iload hx hb dX7_pulled_47 (lv_at hl 4 rfl) ?_
              refine lv_iconst (v := 2) hx hb dX7_pulled_49 (by decide) ?_
              obtain ⟨u_8, h_9, hf⟩ := ob hf
              refine k_rd (runV F wdX7_61 (rm := rm_X7_of) (As := [.int x4_6, .int 2]) (rest := []) ⟨rfl, rfl⟩ ⟨Nat.le_of_ble_eq_true rfl, Nat.le_of_ble_eq_true rfl⟩ hl.1 rfl rfl (Nat.le_of_ble_eq_true rfl) dX7_pulled_50 ⟨Nat.zero_le _, Nat.zero_le _⟩) (c_X7_of l D cI cP a K_6 x4_6 2 _ h_9) hX (va_recv hX.1 hP (ci := 7) (q0 := 0) rfl rfl) hP hP hS hA (fun H locs hP hS => ?_)
              refine lv_iconst (v := 1) hx hb dX7_pulled_53 (by decide) ?_
              refine lv_isub hx hb dX7_pulled_54 ?_
              refine lv_aload_n hx hb dX7_pulled_55 rfl (lv_at hl 0 rfl) ?_
              refine gX7_25 F hX hP 0 rfl (v := .ref (a 6)) rfl dX7_pulled_56 ?_
              refine lv_iload hx hb dX7_pulled_59 (lv_at hl 4 rfl) ?_
              refine va_iald hx hb hX.1 hP 6 0 (n := 12) (f := (K_6.1 5)) rfl rfl g_2 dX7_pulled_61 ?_
              refine lv_ixor hx hb dX7_pulled_62 ?_
              refine lv_goto (tgt := 67) hx hb dX7_pulled_63 (by decide) ?_
              refine lv_istore_n (lv' := [(3, .int ((u_8 - 1) ^^^ ((K_6.1 5) (Int32.toNatClampNeg x4_6)))), (0, .ref (a 0)), (1, .int x1_6), (2, .int x2_6), (4, .int x4_6)]) hx hb dX7_pulled_67 rfl hl (by decide) rfl (fun ls hl => ?_)
              refine lv_iinc (v := (x4_6 + 1)) (lv' := [(4, .int (x4_6 + 1)), (3, .int ((u_8 - 1) ^^^ ((K_6.1 5) (Int32.toNatClampNeg x4_6)))), (0, .ref (a 0)), (1, .int x1_6), (2, .int x2_6)]) hx hb dX7_pulled_68 hl (k := 4) rfl (by rfl) (by decide) rfl (fun ls hl => ?_)
              refine lv_goto (tgt := 6) hx hb dX7_pulled_71 (by decide) ?_
              exact ih K_6 x1_6 x2_6 ((u_8 - 1) ^^^ ((K_6.1 5) (Int32.toNatClampNeg x4_6))) (x4_6 + 1) _ _ _ ls hf hP hS (lv_sub hl [2, 3, 4, 1, 0] rfl) hk
  obtain ⟨u_10, h_11, hf⟩ := ob hf
  refine hL_6 FUEL K x1 x2 (-1000004) 0 u_10 _ _ ls h_11 hP hS (lv_sub hl [2, 3, 4, 1, 0] rfl) (fun H locs ls hP hS hl => ?_)
  clear hL_6
  refine lv_iload_n hx hb dX7_pulled_74 rfl (lv_at hl 0 rfl) ?_
  exact rd_i F (Option.some.inj hf) hS dX7_pulled_75
def X7_byLeanings_J28 (K_28 : SMod) (x1_28 : Int32) (x2_28 : Int32) (x3_28 : Int32) (x4_28 : Int32) (t0_28 : Int32) (t1_28 : Int32) : Option (Int32) := (if t1_28 = t0_28 then ((X7_of K_28 x4_28 0).bind fun u_4 => some u_4) else some 0)
def X7_byLeanings_J59 (K_59 : SMod) (x1_59 : Int32) (x3_59 : Int32) (x4_59 : Int32) (x5_59 : Int32) (t0_59 : Int32) (t1_59 : Int32) (t2_59 : Int32) : Int32 := (if t1_59 = t0_59 then 0 else x5_59)
def X7_byLeanings_L7 : Nat → SMod → Int32 → Int32 → Int32 → Int32 → Option (Int32 × Int32)
  | 0, _, _, _, _, _ => none
  | fu + 1, K_7, x1_7, x2_7, x3_7, x4_7 => (if ((K_7.1 0) (Int32.toNatClampNeg 148)) ≤ x4_7 then some (x2_7, x3_7) else (if ¬ (x4_7 < 0 ∨ 12 ≤ Int32.toNatClampNeg x4_7) then ((X7_byLeanings_J28 K_7 x1_7 x2_7 x3_7 x4_7 x1_7 ((K_7.1 4) (Int32.toNatClampNeg x4_7))).bind fun u_6 => ((X7_of K_7 x4_7 1).bind fun u_8 => ((X7_of K_7 x4_7 1).bind fun u_11 => (if u_11 = ((K_7.1 5) (Int32.toNatClampNeg x4_7)) then X7_byLeanings_L7 fu K_7 x1_7 (x2_7 + (X7_byLeanings_J59 K_7 x1_7 x3_7 x4_7 u_6 ((K_7.1 5) (Int32.toNatClampNeg x4_7)) u_8 x2_7)) (x3_7 + u_6) (x4_7 + 1) else X7_byLeanings_L7 fu K_7 x1_7 (x2_7 + (X7_byLeanings_J59 K_7 x1_7 x3_7 x4_7 u_6 ((K_7.1 5) (Int32.toNatClampNeg x4_7)) u_8 x2_7)) (x3_7 + 0) (x4_7 + 1))))) else none))
def X7_byLeanings (K : SMod) (x1 : Int32) : Option (Int32) := ((X7_byLeanings_L7 FUEL K x1 0 0 0).bind fun u_14 => (if u_14.1 ≤ u_14.2 then (if u_14.2 ≤ u_14.1 then ((X7_of K x1 1).bind fun u_18 => some u_18) else some 0) else some 1))
abbrev rm_X7_byLeanings : Room := { frames := 1, cells := 0, slots := 0, locals := 22 }
set_option maxHeartbeats 4000000 in
set_option maxRecDepth 100000 in
theorem c_X7_byLeanings (l : Launch) (D : va_G) (cI cP : ClassId) (a : Nat → Nat) (K : SMod) (x1 : Int32) (z : Int32) (hf : X7_byLeanings K x1 = some z) : MRd l yX7_byLeanings cX7_byLeanings 6 (some .int) rm_X7_byLeanings D cI cP [.ref (a 0), .int x1] (wMod cI a K) z := by
  refine MRd.of (by decide +kernel) (Nat.le_of_ble_eq_true rfl) ?_
  intro p e s m args below meth c ls F hX hP hS hl
  have F : Fx p s m args meth c RX7 cX7_byLeanings 6 (some .int) := F
  have hx := F.1
  have hb := F.2.1
  have hown := F.2.2.2.1
  have hts := F.2.2.2.2.1
  have hA : ∀ q : Nat, s.heap.size ≤ q → (fun q : Nat => s.heap.size ≤ q) q := fun _ h => h
  have hl : lv_has ls 6 [(0, .ref (a 0)), (1, .int x1)] := hl
  unfold X7_byLeanings at hf
  refine lv_iconst (v := 0) hx hb dX7_byLeanings_0 (by decide) ?_
  refine lv_istore_n (lv' := [(2, .int 0), (0, .ref (a 0)), (1, .int x1)]) hx hb dX7_byLeanings_1 rfl hl (by decide) rfl (fun ls hl => ?_)
  refine lv_iconst (v := 0) hx hb dX7_byLeanings_2 (by decide) ?_
  refine lv_istore_n (lv' := [(3, .int 0), (2, .int 0), (0, .ref (a 0)), (1, .int x1)]) hx hb dX7_byLeanings_3 rfl hl (by decide) rfl (fun ls hl => ?_)
  refine lv_iconst (v := 0) hx hb dX7_byLeanings_4 (by decide) ?_
  refine lv_istore (lv' := [(4, .int 0), (3, .int 0), (2, .int 0), (0, .ref (a 0)), (1, .int x1)]) hx hb dX7_byLeanings_5 hl (by decide) rfl (fun ls hl => ?_)
  have hL_7 : ∀ (fu : Nat) (K_7 : SMod) (x1_7 : Int32) (x2_7 : Int32) (x3_7 : Int32) (x4_7 : Int32) (v : Int32 × Int32) (H : Heap) (locs : List Loc) (ls : Array Slot), X7_byLeanings_L7 fu K_7 x1_7 x2_7 x3_7 x4_7 = some v → va_P D vwCl (wMod cI a K_7) H → va_S (fun q : Nat => s.heap.size ≤ q) s.heap H locs → lv_has ls 6 [(0, .ref (a 0)), (1, .int x1_7), (2, .int x2_7), (3, .int x3_7), (4, .int x4_7)] → (∀ (H : Heap) (locs : List Loc) (ls : Array Slot), va_P D vwCl (wMod cI a K_7) H → va_S (fun q : Nat => s.heap.size ≤ q) s.heap H locs → lv_has ls 6 [(0, .ref (a 0)), (1, .int x1_7), (2, .int v.1), (3, .int v.2)] → W p l e rm_X7_byLeanings s m args below meth c H locs 0 0 (QR below args s z) (F0 m 102 ls [])) → W p l e rm_X7_byLeanings s m args below meth c H locs 0 0 (QR below args s z) (F0 m 7 ls []) := by
    intro fu
    induction fu with
    | zero =>
      intro K_7 x1_7 x2_7 x3_7 x4_7 v H locs ls hf
      exact absurd hf (by simp [X7_byLeanings_L7])
    | succ fu ih =>
      intro K_7 x1_7 x2_7 x3_7 x4_7 v _ _ ls hf hP hS hl hk
      rw [X7_byLeanings_L7] at hf
      refine lv_iload hx hb dX7_byLeanings_7 (lv_at hl 4 rfl) ?_
      refine lv_aload_n hx hb dX7_byLeanings_9 rfl (lv_at hl 0 rfl) ?_
      refine gX7_7 F hX hP 0 rfl (v := .ref (a 1)) rfl dX7_byLeanings_10 ?_
      refine lv_sipush (v := 148) hx hb dX7_byLeanings_13 (by decide) ?_
      refine va_iald hx hb hX.1 hP 1 0 (n := 156) (f := (K_7.1 0)) rfl rfl (by decide : ¬ ((148 : Int32) < 0 ∨ 156 ≤ Int32.toNatClampNeg 148)) dX7_byLeanings_16 ?_
      refine lv_icmp_ge (tgt := 102) hx hb dX7_byLeanings_17 (by decide) (fun c_1 => ?_) (fun c_1 => ?_)
      · replace hf := (if_pos c_1).symm.trans hf
        obtain rfl := Option.some.inj hf
        exact hk _ _ ls hP hS (lv_sub hl [0, 1, 2, 3] rfl)
      · replace hf := (if_neg c_1).symm.trans hf
        refine lv_aload_n hx hb dX7_byLeanings_20 rfl (lv_at hl 0 rfl) ?_
        refine gX7_22 F hX hP 0 rfl (v := .ref (a 5)) rfl dX7_byLeanings_21 ?_
        refine lv_iload hx hb dX7_byLeanings_24 (lv_at hl 4 rfl) ?_
        have g_2 := og hf
        replace hf := (if_pos g_2).symm.trans hf
        refine va_iald hx hb hX.1 hP 5 0 (n := 12) (f := (K_7.1 4)) rfl rfl g_2 dX7_byLeanings_26 ?_
        refine lv_iload_n hx hb dX7_byLeanings_27 rfl (lv_at hl 1 rfl) ?_
        have hJ_28 : ∀ (K_28 : SMod) (x1_28 : Int32) (x2_28 : Int32) (x3_28 : Int32) (x4_28 : Int32) (t0_28 : Int32) (t1_28 : Int32) (v : Int32) (H : Heap) (locs : List Loc) (ls : Array Slot), X7_byLeanings_J28 K_28 x1_28 x2_28 x3_28 x4_28 t0_28 t1_28 = some v → va_P D vwCl (wMod cI a K_28) H → va_S (fun q : Nat => s.heap.size ≤ q) s.heap H locs → lv_has ls 6 [(0, .ref (a 0)), (1, .int x1_28), (2, .int x2_28), (3, .int x3_28), (4, .int x4_28)] → (∀ (H : Heap) (locs : List Loc) (ls : Array Slot), va_P D vwCl (wMod cI a K_28) H → va_S (fun q : Nat => s.heap.size ≤ q) s.heap H locs → lv_has ls 6 [(0, .ref (a 0)), (1, .int x1_28), (2, .int x2_28), (3, .int x3_28), (4, .int x4_28)] → W p l e rm_X7_byLeanings s m args below meth c H locs 0 0 (QR below args s z) (F0 m 42 ls [.int v])) → W p l e rm_X7_byLeanings s m args below meth c H locs 0 0 (QR below args s z) (F0 m 28 ls [.int t0_28, .int t1_28]) := by
          intro K_28 x1_28 x2_28 x3_28 x4_28 t0_28 t1_28 v _ _ ls hf hP hS hl hk
          unfold X7_byLeanings_J28 at hf
          refine lv_icmp_ne (tgt := 41) hx hb dX7_byLeanings_28 (by decide) (fun c_3 => ?_) (fun c_3 => ?_)
          · replace hf := (if_neg c_3).symm.trans hf
            refine lv_iconst (v := 0) hx hb dX7_byLeanings_41 (by decide) ?_
            obtain rfl := Option.some.inj hf
            exact hk _ _ ls hP hS hl
          · replace hf := (if_pos c_3).symm.trans hf
            refine lv_aload_n hx hb dX7_byLeanings_31 rfl (lv_at hl 0 rfl) ?_
            refine lv_iload hx hb dX7_byLeanings_32 (lv_at hl 4 rfl) ?_
            refine lv_iconst (v := 0) hx hb dX7_byLeanings_34 (by decide) ?_
            obtain ⟨u_4, h_5, hf⟩ := ob hf
            refine k_rd (runV F wdX7_61 (rm := rm_X7_of) (As := [.int x4_28, .int 0]) (rest := []) ⟨rfl, rfl⟩ ⟨Nat.le_of_ble_eq_true rfl, Nat.le_of_ble_eq_true rfl⟩ hl.1 rfl rfl (Nat.le_of_ble_eq_true rfl) dX7_byLeanings_35 ⟨Nat.zero_le _, Nat.zero_le _⟩) (c_X7_of l D cI cP a K_28 x4_28 0 _ h_5) hX (va_recv hX.1 hP (ci := 7) (q0 := 0) rfl rfl) hP hP hS hA (fun H locs hP hS => ?_)
            refine lv_goto (tgt := 42) hx hb dX7_byLeanings_38 (by decide) ?_
            obtain rfl := Option.some.inj hf
            exact hk _ _ ls hP hS hl
        obtain ⟨u_6, h_7, hf⟩ := ob hf
        refine hJ_28 K_7 x1_7 x2_7 x3_7 x4_7 x1_7 ((K_7.1 4) (Int32.toNatClampNeg x4_7)) u_6 _ _ ls h_7 hP hS hl (fun H locs ls hP hS hl => ?_)
        clear hJ_28
        refine lv_istore (lv' := [(5, .int u_6), (0, .ref (a 0)), (1, .int x1_7), (2, .int x2_7), (3, .int x3_7), (4, .int x4_7)]) hx hb dX7_byLeanings_42 hl (by decide) rfl (fun ls hl => ?_)
        refine lv_iload_n hx hb dX7_byLeanings_44 rfl (lv_at hl 3 rfl) ?_
        refine lv_aload_n hx hb dX7_byLeanings_45 rfl (lv_at hl 1 rfl) ?_
        refine lv_iload hx hb dX7_byLeanings_46 (lv_at hl 5 rfl) ?_
        refine lv_iconst (v := 1) hx hb dX7_byLeanings_48 (by decide) ?_
        obtain ⟨u_8, h_9, hf⟩ := ob hf
        refine k_rd (runV F wdX7_61 (rm := rm_X7_of) (As := [.int x4_7, .int 1]) (rest := [.int x2_7]) ⟨rfl, rfl⟩ ⟨Nat.le_of_ble_eq_true rfl, Nat.le_of_ble_eq_true rfl⟩ hl.1 rfl rfl (Nat.le_of_ble_eq_true rfl) dX7_byLeanings_49 ⟨Nat.zero_le _, Nat.zero_le _⟩) (c_X7_of l D cI cP a K_7 x4_7 1 _ h_9) hX (va_recv hX.1 hP (ci := 7) (q0 := 0) rfl rfl) hP hP hS hA (fun H locs hP hS => ?_)
        refine lv_aload_n hx hb dX7_byLeanings_52 rfl (lv_at hl 1 rfl) ?_
        refine gX7_25 F hX hP 0 rfl (v := .ref (a 6)) rfl dX7_byLeanings_53 ?_
        refine lv_iload hx hb dX7_byLeanings_56 (lv_at hl 5 rfl) ?_
        refine va_iald hx hb hX.1 hP 6 0 (n := 12) (f := (K_7.1 5)) rfl rfl g_2 dX7_byLeanings_58 ?_
        have hJ_59 : ∀ (K_59 : SMod) (x1_59 : Int32) (x3_59 : Int32) (x4_59 : Int32) (x5_59 : Int32) (t0_59 : Int32) (t1_59 : Int32) (t2_59 : Int32) (v : Int32) (H : Heap) (locs : List Loc) (ls : Array Slot), X7_byLeanings_J59 K_59 x1_59 x3_59 x4_59 x5_59 t0_59 t1_59 t2_59 = v → va_P D vwCl (wMod cI a K_59) H → va_S (fun q : Nat => s.heap.size ≤ q) s.heap H locs → lv_has ls 6 [(5, .int x5_59), (0, .ref (a 0)), (1, .int x1_59), (3, .int x3_59), (4, .int x4_59)] → (∀ (H : Heap) (locs : List Loc) (ls : Array Slot), va_P D vwCl (wMod cI a K_59) H → va_S (fun q : Nat => s.heap.size ≤ q) s.heap H locs → lv_has ls 6 [(0, .ref (a 0)), (1, .int x1_59), (3, .int x3_59), (4, .int x4_59), (5, .int x5_59)] → W p l e rm_X7_byLeanings s m args below meth c H locs 0 0 (QR below args s z) (F0 m 68 ls [.int v, .int t2_59])) → W p l e rm_X7_byLeanings s m args below meth c H locs 0 0 (QR below args s z) (F0 m 59 ls [.int t0_59, .int t1_59, .int t2_59]) := by
          intro K_59 x1_59 x3_59 x4_59 x5_59 t0_59 t1_59 t2_59 v _ _ ls hf hP hS hl hk
          unfold X7_byLeanings_J59 at hf
          refine lv_icmp_eq (tgt := 67) hx hb dX7_byLeanings_59 (by decide) (fun c_10 => ?_) (fun c_10 => ?_)
          · replace hf := (if_pos c_10).symm.trans hf
            refine lv_iconst (v := 0) hx hb dX7_byLeanings_67 (by decide) ?_
            obtain rfl := hf
            exact hk _ _ ls hP hS (lv_sub hl [1, 2, 3, 4, 0] rfl)
          · replace hf := (if_neg c_10).symm.trans hf
            refine lv_iload hx hb dX7_byLeanings_62 (lv_at hl 0 rfl) ?_
            refine lv_goto (tgt := 68) hx hb dX7_byLeanings_64 (by decide) ?_
            obtain rfl := hf
            exact hk _ _ ls hP hS (lv_sub hl [1, 2, 3, 4, 0] rfl)
        refine hJ_59 K_7 x1_7 x3_7 x4_7 u_6 ((K_7.1 5) (Int32.toNatClampNeg x4_7)) u_8 x2_7 _ _ _ ls rfl hP hS (lv_sub hl [0, 1, 2, 4, 5] rfl) (fun H locs ls hP hS hl => ?_)
        clear hJ_59
        refine lv_iadd hx hb dX7_byLeanings_68 ?_
        refine lv_istore_n (lv' := [(2, .int (x2_7 + (X7_byLeanings_J59 K_7 x1_7 x3_7 x4_7 u_6 ((K_7.1 5) (Int32.toNatClampNeg x4_7)) u_8 x2_7))), (0, .ref (a 0)), (1, .int x1_7), (3, .int x3_7), (4, .int x4_7), (5, .int u_6)]) hx hb dX7_byLeanings_69 rfl hl (by decide) rfl (fun ls hl => ?_)
        refine lv_iload_n hx hb dX7_byLeanings_70 rfl (lv_at hl 3 rfl) ?_
        refine lv_aload_n hx hb dX7_byLeanings_71 rfl (lv_at hl 1 rfl) ?_
        refine lv_iload hx hb dX7_byLeanings_72 (lv_at hl 4 rfl) ?_
        refine lv_iconst (v := 1) hx hb dX7_byLeanings_74 (by decide) ?_
        obtain ⟨u_11, h_12, hf⟩ := ob hf
        refine k_rd (runV F wdX7_61 (rm := rm_X7_of) (As := [.int x4_7, .int 1]) (rest := [.int x3_7]) ⟨rfl, rfl⟩ ⟨Nat.le_of_ble_eq_true rfl, Nat.le_of_ble_eq_true rfl⟩ hl.1 rfl rfl (Nat.le_of_ble_eq_true rfl) dX7_byLeanings_75 ⟨Nat.zero_le _, Nat.zero_le _⟩) (c_X7_of l D cI cP a K_7 x4_7 1 _ h_12) hX (va_recv hX.1 hP (ci := 7) (q0 := 0) rfl rfl) hP hP hS hA (fun H locs hP hS => ?_)
        refine lv_aload_n hx hb dX7_byLeanings_78 rfl (lv_at hl 1 rfl) ?_
        refine gX7_25 F hX hP 0 rfl (v := .ref (a 6)) rfl dX7_byLeanings_79 ?_
        refine lv_iload hx hb dX7_byLeanings_82 (lv_at hl 4 rfl) ?_
        refine va_iald hx hb hX.1 hP 6 0 (n := 12) (f := (K_7.1 5)) rfl rfl g_2 dX7_byLeanings_84 ?_
        refine lv_icmp_ne (tgt := 93) hx hb dX7_byLeanings_85 (by decide) (fun c_13 => ?_) (fun c_13 => ?_)
        · replace hf := (if_neg c_13).symm.trans hf
          refine lv_iconst (v := 0) hx hb dX7_byLeanings_93 (by decide) ?_
          refine lv_iadd hx hb dX7_byLeanings_94 ?_
          refine lv_istore_n (lv' := [(3, .int (x3_7 + 0)), (2, .int (x2_7 + (X7_byLeanings_J59 K_7 x1_7 x3_7 x4_7 u_6 ((K_7.1 5) (Int32.toNatClampNeg x4_7)) u_8 x2_7))), (0, .ref (a 0)), (1, .int x1_7), (4, .int x4_7), (5, .int u_6)]) hx hb dX7_byLeanings_95 rfl hl (by decide) rfl (fun ls hl => ?_)
          refine lv_iinc (v := (x4_7 + 1)) (lv' := [(4, .int (x4_7 + 1)), (3, .int (x3_7 + 0)), (2, .int (x2_7 + (X7_byLeanings_J59 K_7 x1_7 x3_7 x4_7 u_6 ((K_7.1 5) (Int32.toNatClampNeg x4_7)) u_8 x2_7))), (0, .ref (a 0)), (1, .int x1_7), (5, .int u_6)]) hx hb dX7_byLeanings_96 hl (k := 4) rfl (by rfl) (by decide) rfl (fun ls hl => ?_)
          refine lv_goto (tgt := 7) hx hb dX7_byLeanings_99 (by decide) ?_
          exact ih K_7 x1_7 (x2_7 + (X7_byLeanings_J59 K_7 x1_7 x3_7 x4_7 u_6 ((K_7.1 5) (Int32.toNatClampNeg x4_7)) u_8 x2_7)) (x3_7 + 0) (x4_7 + 1) _ _ _ ls hf hP hS (lv_sub hl [3, 4, 2, 1, 0] rfl) hk
        · replace hf := (if_pos c_13).symm.trans hf
          refine lv_iload hx hb dX7_byLeanings_88 (lv_at hl 5 rfl) ?_
          refine lv_goto (tgt := 94) hx hb dX7_byLeanings_90 (by decide) ?_
          refine lv_iadd hx hb dX7_byLeanings_94 ?_
          refine lv_istore_n (lv' := [(3, .int (x3_7 + u_6)), (2, .int (x2_7 + (X7_byLeanings_J59 K_7 x1_7 x3_7 x4_7 u_6 ((K_7.1 5) (Int32.toNatClampNeg x4_7)) u_8 x2_7))), (0, .ref (a 0)), (1, .int x1_7), (4, .int x4_7), (5, .int u_6)]) hx hb dX7_byLeanings_95 rfl hl (by decide) rfl (fun ls hl => ?_)
          refine lv_iinc (v := (x4_7 + 1)) (lv' := [(4, .int (x4_7 + 1)), (3, .int (x3_7 + u_6)), (2, .int (x2_7 + (X7_byLeanings_J59 K_7 x1_7 x3_7 x4_7 u_6 ((K_7.1 5) (Int32.toNatClampNeg x4_7)) u_8 x2_7))), (0, .ref (a 0)), (1, .int x1_7), (5, .int u_6)]) hx hb dX7_byLeanings_96 hl (k := 4) rfl (by rfl) (by decide) rfl (fun ls hl => ?_)
          refine lv_goto (tgt := 7) hx hb dX7_byLeanings_99 (by decide) ?_
          exact ih K_7 x1_7 (x2_7 + (X7_byLeanings_J59 K_7 x1_7 x3_7 x4_7 u_6 ((K_7.1 5) (Int32.toNatClampNeg x4_7)) u_8 x2_7)) (x3_7 + u_6) (x4_7 + 1) _ _ _ ls hf hP hS (lv_sub hl [3, 4, 2, 1, 0] rfl) hk
  obtain ⟨u_14, h_15, hf⟩ := ob hf
  refine hL_7 FUEL K x1 0 0 0 u_14 _ _ ls h_15 hP hS (lv_sub hl [3, 4, 2, 1, 0] rfl) (fun H locs ls hP hS hl => ?_)
  clear hL_7
  refine lv_iload_n hx hb dX7_byLeanings_102 rfl (lv_at hl 2 rfl) ?_
  refine lv_iload_n hx hb dX7_byLeanings_103 rfl (lv_at hl 3 rfl) ?_
  refine lv_icmp_le (tgt := 111) hx hb dX7_byLeanings_104 (by decide) (fun c_16 => ?_) (fun c_16 => ?_)
  · replace hf := (if_pos c_16).symm.trans hf
    refine lv_iload_n hx hb dX7_byLeanings_111 rfl (lv_at hl 2 rfl) ?_
    refine lv_iload_n hx hb dX7_byLeanings_112 rfl (lv_at hl 3 rfl) ?_
    refine lv_icmp_ge (tgt := 120) hx hb dX7_byLeanings_113 (by decide) (fun c_17 => ?_) (fun c_17 => ?_)
    · replace hf := (if_pos c_17).symm.trans hf
      refine lv_aload_n hx hb dX7_byLeanings_120 rfl (lv_at hl 0 rfl) ?_
      refine lv_iload_n hx hb dX7_byLeanings_121 rfl (lv_at hl 1 rfl) ?_
      refine lv_iconst (v := 1) hx hb dX7_byLeanings_122 (by decide) ?_
      obtain ⟨u_18, h_19, hf⟩ := ob hf
      refine k_rd (runV F wdX7_61 (rm := rm_X7_of) (As := [.int x1, .int 1]) (rest := []) ⟨rfl, rfl⟩ ⟨Nat.le_of_ble_eq_true rfl, Nat.le_of_ble_eq_true rfl⟩ hl.1 rfl rfl (Nat.le_of_ble_eq_true rfl) dX7_byLeanings_123 ⟨Nat.zero_le _, Nat.zero_le _⟩) (c_X7_of l D cI cP a K x1 1 _ h_19) hX (va_recv hX.1 hP (ci := 7) (q0 := 0) rfl rfl) hP hP hS hA (fun H locs hP hS => ?_)
      exact rd_i F (Option.some.inj hf) hS dX7_byLeanings_126
    · replace hf := (if_neg c_17).symm.trans hf
      refine lv_iconst (v := 0) hx hb dX7_byLeanings_116 (by decide) ?_
      refine lv_goto (tgt := 126) hx hb dX7_byLeanings_117 (by decide) ?_
      exact rd_i F (Option.some.inj hf) hS dX7_byLeanings_126
  · replace hf := (if_neg c_16).symm.trans hf
    refine lv_iconst (v := 1) hx hb dX7_byLeanings_107 (by decide) ?_
    refine lv_goto (tgt := 126) hx hb dX7_byLeanings_108 (by decide) ?_
    exact rd_i F (Option.some.inj hf) hS dX7_byLeanings_126
def X7_votes_J23 (K_23 : SMod) (x1_23 : Int32) (x2_23 : Int32) (t0_23 : Int32) (t1_23 : Int32) : Option (SMod) := (if t1_23 = t0_23 then ((X7_pulled K_23 x2_23 (-1000004)).bind fun u_8 => (if 0 ≤ u_8 then (if ¬ (x2_23 < 0 ∨ 12 ≤ Int32.toNatClampNeg x2_23) then (bnd ((up K_23.1 6 (upd (K_23.1 6) (Int32.toNatClampNeg x2_23) u_8)), K_23.2) fun M_12 => some M_12) else none) else ((X7_byLeanings K_23 x2_23).bind fun u_14 => (if ¬ (x2_23 < 0 ∨ 12 ≤ Int32.toNatClampNeg x2_23) then (bnd ((up K_23.1 6 (upd (K_23.1 6) (Int32.toNatClampNeg x2_23) u_14)), K_23.2) fun M_17 => some M_17) else none)))) else (if ¬ (x2_23 < 0 ∨ 12 ≤ Int32.toNatClampNeg x2_23) then (if ¬ (((K_23.1 4) (Int32.toNatClampNeg x2_23)) < 0 ∨ 12 ≤ Int32.toNatClampNeg ((K_23.1 4) (Int32.toNatClampNeg x2_23))) then (bnd ((up K_23.1 6 (upd (K_23.1 6) (Int32.toNatClampNeg x2_23) (((K_23.1 6) (Int32.toNatClampNeg ((K_23.1 4) (Int32.toNatClampNeg x2_23)))) ^^^ ((K_23.1 5) (Int32.toNatClampNeg x2_23))))), K_23.2) fun M_6 => some M_6) else none) else none))
def X7_votes_L4 : Nat → SMod → Int32 → Int32 → Option (SMod × Int32)
  | 0, _, _, _ => none
  | fu + 1, K_4, x1_4, x2_4 => (if ((K_4.1 0) (Int32.toNatClampNeg 148)) ≤ x2_4 then some (K_4, x1_4) else (if ¬ (x2_4 < 0 ∨ 12 ≤ Int32.toNatClampNeg x2_4) then ((X7_votes_J23 K_4 x1_4 x2_4 x2_4 ((K_4.1 4) (Int32.toNatClampNeg x2_4))).bind fun u_19 => (if ((u_19.1 6) (Int32.toNatClampNeg x2_4)) = 1 then ((X7_of u_19 x2_4 0).bind fun u_22 => X7_votes_L4 fu u_19 (x1_4 + u_22) (x2_4 + 1)) else X7_votes_L4 fu u_19 (x1_4 + 0) (x2_4 + 1))) else none))
def X7_votes (K : SMod) : Option (SMod × Int32) := ((X7_votes_L4 FUEL K 0 0).bind fun u_24 => some (u_24.1, u_24.2))
abbrev rm_X7_votes : Room := { frames := 2, cells := 0, slots := 0, locals := 47 }
set_option maxHeartbeats 4000000 in
set_option maxRecDepth 100000 in
theorem c_X7_votes (l : Launch) (D : va_G) (cI cP : ClassId) (a : Nat → Nat) (K : SMod) (z : SMod × Int32) (hf : X7_votes K  = some z) : MWi l yX7_votes cX7_votes 4 (some .int) rm_X7_votes D cI cP [.ref (a 0)] (wMod cI a K) (wMod cI a z.1) z.2 := by
  refine MWi.of (by decide +kernel) (Nat.le_of_ble_eq_true rfl) ?_
  intro p e s m args below meth c ls A F hX hP hD hA hS hl
  have F : Fx p s m args meth c RX7 cX7_votes 4 (some .int) := F
  have hx := F.1
  have hb := F.2.1
  have hown := F.2.2.2.1
  have hts := F.2.2.2.2.1
  have hl : lv_has ls 4 [(0, .ref (a 0))] := hl
  unfold X7_votes at hf
  refine lv_iconst (v := 0) hx hb dX7_votes_0 (by decide) ?_
  refine lv_istore_n (lv' := [(1, .int 0), (0, .ref (a 0))]) hx hb dX7_votes_1 rfl hl (by decide) rfl (fun ls hl => ?_)
  refine lv_iconst (v := 0) hx hb dX7_votes_2 (by decide) ?_
  refine lv_istore_n (lv' := [(2, .int 0), (1, .int 0), (0, .ref (a 0))]) hx hb dX7_votes_3 rfl hl (by decide) rfl (fun ls hl => ?_)
  have hL_4 : ∀ (fu : Nat) (K_4 : SMod) (x1_4 : Int32) (x2_4 : Int32) (v : SMod × Int32) (H : Heap) (locs : List Loc) (ls : Array Slot), X7_votes_L4 fu K_4 x1_4 x2_4 = some v → va_P D vwCl (wMod cI a K_4) H → va_D A (wMod cI a K_4) → va_S A s.heap H locs → lv_has ls 4 [(0, .ref (a 0)), (1, .int x1_4), (2, .int x2_4)] → (∀ (H : Heap) (locs : List Loc) (ls : Array Slot), va_P D vwCl (wMod cI a v.1) H → va_D A (wMod cI a v.1) → va_S A s.heap H locs → lv_has ls 4 [(1, .int v.2)] → W p l e rm_X7_votes s m args below meth c H locs 0 0 (QWi D below args s A (wMod cI a z.1) z.2) (F0 m 109 ls [])) → W p l e rm_X7_votes s m args below meth c H locs 0 0 (QWi D below args s A (wMod cI a z.1) z.2) (F0 m 4 ls []) := by
    intro fu
    induction fu with
    | zero =>
      intro K_4 x1_4 x2_4 v H locs ls hf
      exact absurd hf (by simp [X7_votes_L4])
    | succ fu ih =>
      intro K_4 x1_4 x2_4 v _ _ ls hf hP hD hS hl hk
      rw [X7_votes_L4] at hf
      refine lv_iload_n hx hb dX7_votes_4 rfl (lv_at hl 2 rfl) ?_
      refine lv_aload_n hx hb dX7_votes_5 rfl (lv_at hl 0 rfl) ?_
      refine gX7_7 F hX hP 0 rfl (v := .ref (a 1)) rfl dX7_votes_6 ?_
      refine lv_sipush (v := 148) hx hb dX7_votes_9 (by decide) ?_
      refine va_iald hx hb hX.1 hP 1 0 (n := 156) (f := (K_4.1 0)) rfl rfl (by decide : ¬ ((148 : Int32) < 0 ∨ 156 ≤ Int32.toNatClampNeg 148)) dX7_votes_12 ?_
      refine lv_icmp_ge (tgt := 109) hx hb dX7_votes_13 (by decide) (fun c_1 => ?_) (fun c_1 => ?_)
      · replace hf := (if_pos c_1).symm.trans hf
        obtain rfl := Option.some.inj hf
        exact hk _ _ ls hP hD hS (lv_sub hl [1] rfl)
      · replace hf := (if_neg c_1).symm.trans hf
        refine lv_aload_n hx hb dX7_votes_16 rfl (lv_at hl 0 rfl) ?_
        refine gX7_22 F hX hP 0 rfl (v := .ref (a 5)) rfl dX7_votes_17 ?_
        refine lv_iload_n hx hb dX7_votes_20 rfl (lv_at hl 2 rfl) ?_
        have g_2 := og hf
        replace hf := (if_pos g_2).symm.trans hf
        refine va_iald hx hb hX.1 hP 5 0 (n := 12) (f := (K_4.1 4)) rfl rfl g_2 dX7_votes_21 ?_
        refine lv_iload_n hx hb dX7_votes_22 rfl (lv_at hl 2 rfl) ?_
        have hJ_23 : ∀ (K_23 : SMod) (x1_23 : Int32) (x2_23 : Int32) (t0_23 : Int32) (t1_23 : Int32) (v : SMod) (H : Heap) (locs : List Loc) (ls : Array Slot), X7_votes_J23 K_23 x1_23 x2_23 t0_23 t1_23 = some v → va_P D vwCl (wMod cI a K_23) H → va_D A (wMod cI a K_23) → va_S A s.heap H locs → lv_has ls 4 [(0, .ref (a 0)), (1, .int x1_23), (2, .int x2_23)] → (∀ (H : Heap) (locs : List Loc) (ls : Array Slot), va_P D vwCl (wMod cI a v) H → va_D A (wMod cI a v) → va_S A s.heap H locs → lv_has ls 4 [(0, .ref (a 0)), (1, .int x1_23), (2, .int x2_23)] → W p l e rm_X7_votes s m args below meth c H locs 0 0 (QWi D below args s A (wMod cI a z.1) z.2) (F0 m 80 ls [])) → W p l e rm_X7_votes s m args below meth c H locs 0 0 (QWi D below args s A (wMod cI a z.1) z.2) (F0 m 23 ls [.int t0_23, .int t1_23]) := by
          intro K_23 x1_23 x2_23 t0_23 t1_23 v _ _ ls hf hP hD hS hl hk
          unfold X7_votes_J23 at hf
          refine lv_icmp_ne (tgt := 56) hx hb dX7_votes_23 (by decide) (fun c_3 => ?_) (fun c_3 => ?_)
          · replace hf := (if_neg c_3).symm.trans hf
            refine lv_aload_n hx hb dX7_votes_56 rfl (lv_at hl 0 rfl) ?_
            refine gX7_28 F hX hP 0 rfl (v := .ref (a 7)) rfl dX7_votes_57 ?_
            refine lv_iload_n hx hb dX7_votes_60 rfl (lv_at hl 2 rfl) ?_
            refine lv_aload_n hx hb dX7_votes_61 rfl (lv_at hl 0 rfl) ?_
            refine gX7_28 F hX hP 0 rfl (v := .ref (a 7)) rfl dX7_votes_62 ?_
            refine lv_aload_n hx hb dX7_votes_65 rfl (lv_at hl 0 rfl) ?_
            refine gX7_22 F hX hP 0 rfl (v := .ref (a 5)) rfl dX7_votes_66 ?_
            refine lv_iload_n hx hb dX7_votes_69 rfl (lv_at hl 2 rfl) ?_
            have g_4 := og hf
            replace hf := (if_pos g_4).symm.trans hf
            refine va_iald hx hb hX.1 hP 5 0 (n := 12) (f := (K_23.1 4)) rfl rfl g_4 dX7_votes_70 ?_
            have g_5 := og hf
            replace hf := (if_pos g_5).symm.trans hf
            refine va_iald hx hb hX.1 hP 7 0 (n := 12) (f := (K_23.1 6)) rfl rfl g_5 dX7_votes_71 ?_
            refine lv_aload_n hx hb dX7_votes_72 rfl (lv_at hl 0 rfl) ?_
            refine gX7_25 F hX hP 0 rfl (v := .ref (a 6)) rfl dX7_votes_73 ?_
            refine lv_iload_n hx hb dX7_votes_76 rfl (lv_at hl 2 rfl) ?_
            refine va_iald hx hb hX.1 hP 6 0 (n := 12) (f := (K_23.1 5)) rfl rfl g_4 dX7_votes_77 ?_
            refine lv_ixor hx hb dX7_votes_78 ?_
            refine va_iast hx hb hX.1 hP hD hS 7 0 (n := 12) (f := (K_23.1 6)) rfl rfl g_4 dX7_votes_79 (fun H locs hP hD hS => ?_)
            obtain ⟨M_6, e_7, hf⟩ := bnd_e hf
            have hP : va_P D vwCl (wMod cI a M_6) H := by rw [e_7]; exact hP
            have hD : va_D A (wMod cI a M_6) := by rw [e_7]; exact hD
            clear e_7
            obtain rfl := Option.some.inj hf
            exact hk _ _ ls hP hD hS hl
          · replace hf := (if_pos c_3).symm.trans hf
            refine lv_aload_n hx hb dX7_votes_26 rfl (lv_at hl 0 rfl) ?_
            refine lv_iload_n hx hb dX7_votes_27 rfl (lv_at hl 2 rfl) ?_
            refine lv_ldc (v := (-1000004)) hx hb hown (hts _ q_838) dX7_votes_28 ?_
            obtain ⟨u_8, h_9, hf⟩ := ob hf
            refine k_rd (runV F wdX7_64 (rm := rm_X7_pulled) (As := [.int x2_23, .int (-1000004)]) (rest := []) ⟨rfl, rfl⟩ ⟨Nat.le_of_ble_eq_true rfl, Nat.le_of_ble_eq_true rfl⟩ hl.1 rfl rfl (Nat.le_of_ble_eq_true rfl) dX7_votes_30 ⟨Nat.zero_le _, Nat.zero_le _⟩) (c_X7_pulled l D cI cP a K_23 x2_23 (-1000004) _ h_9) hX (va_recv hX.1 hP (ci := 7) (q0 := 0) rfl rfl) hP hP hS hA (fun H locs hP hS => ?_)
            refine lv_istore_n (lv' := [(3, .int u_8), (0, .ref (a 0)), (1, .int x1_23), (2, .int x2_23)]) hx hb dX7_votes_33 rfl hl (by decide) rfl (fun ls hl => ?_)
            refine lv_aload_n hx hb dX7_votes_34 rfl (lv_at hl 1 rfl) ?_
            refine gX7_28 F hX hP 0 rfl (v := .ref (a 7)) rfl dX7_votes_35 ?_
            refine lv_iload_n hx hb dX7_votes_38 rfl (lv_at hl 3 rfl) ?_
            refine lv_iload_n hx hb dX7_votes_39 rfl (lv_at hl 0 rfl) ?_
            refine lv_if_ge (tgt := 51) hx hb dX7_votes_40 (by decide) (fun c_10 => ?_) (fun c_10 => ?_)
            · replace hf := (if_pos c_10).symm.trans hf
              refine lv_iload_n hx hb dX7_votes_51 rfl (lv_at hl 0 rfl) ?_
              have g_11 := og hf
              replace hf := (if_pos g_11).symm.trans hf
              refine va_iast hx hb hX.1 hP hD hS 7 0 (n := 12) (f := (K_23.1 6)) rfl rfl g_11 dX7_votes_52 (fun H locs hP hD hS => ?_)
              obtain ⟨M_12, e_13, hf⟩ := bnd_e hf
              have hP : va_P D vwCl (wMod cI a M_12) H := by rw [e_13]; exact hP
              have hD : va_D A (wMod cI a M_12) := by rw [e_13]; exact hD
              clear e_13
              refine lv_goto (tgt := 80) hx hb dX7_votes_53 (by decide) ?_
              obtain rfl := Option.some.inj hf
              exact hk _ _ ls hP hD hS (lv_sub hl [1, 2, 3] rfl)
            · replace hf := (if_neg c_10).symm.trans hf
              refine lv_aload_n hx hb dX7_votes_43 rfl (lv_at hl 1 rfl) ?_
              refine lv_iload_n hx hb dX7_votes_44 rfl (lv_at hl 3 rfl) ?_
              obtain ⟨u_14, h_15, hf⟩ := ob hf
              refine k_rd (runV F wdX7_67 (rm := rm_X7_byLeanings) (As := [.int x2_23]) (rest := [.int x2_23, .ref (a 7)]) ⟨rfl, rfl⟩ ⟨Nat.le_of_ble_eq_true rfl, Nat.le_of_ble_eq_true rfl⟩ hl.1 rfl rfl (Nat.le_of_ble_eq_true rfl) dX7_votes_45 ⟨Nat.zero_le _, Nat.zero_le _⟩) (c_X7_byLeanings l D cI cP a K_23 x2_23 _ h_15) hX (va_recv hX.1 hP (ci := 7) (q0 := 0) rfl rfl) hP hP hS hA (fun H locs hP hS => ?_)
              refine lv_goto (tgt := 52) hx hb dX7_votes_48 (by decide) ?_
              have g_16 := og hf
              replace hf := (if_pos g_16).symm.trans hf
              refine va_iast hx hb hX.1 hP hD hS 7 0 (n := 12) (f := (K_23.1 6)) rfl rfl g_16 dX7_votes_52 (fun H locs hP hD hS => ?_)
              obtain ⟨M_17, e_18, hf⟩ := bnd_e hf
              have hP : va_P D vwCl (wMod cI a M_17) H := by rw [e_18]; exact hP
              have hD : va_D A (wMod cI a M_17) := by rw [e_18]; exact hD
              clear e_18
              refine lv_goto (tgt := 80) hx hb dX7_votes_53 (by decide) ?_
              obtain rfl := Option.some.inj hf
              exact hk _ _ ls hP hD hS (lv_sub hl [1, 2, 3] rfl)
        obtain ⟨u_19, h_20, hf⟩ := ob hf
        refine hJ_23 K_4 x1_4 x2_4 x2_4 ((K_4.1 4) (Int32.toNatClampNeg x2_4)) u_19 _ _ ls h_20 hP hD hS hl (fun H locs ls hP hD hS hl => ?_)
        clear hJ_23
        refine lv_iload_n hx hb dX7_votes_80 rfl (lv_at hl 1 rfl) ?_
        refine lv_aload_n hx hb dX7_votes_81 rfl (lv_at hl 0 rfl) ?_
        refine gX7_28 F hX hP 0 rfl (v := .ref (a 7)) rfl dX7_votes_82 ?_
        refine lv_iload_n hx hb dX7_votes_85 rfl (lv_at hl 2 rfl) ?_
        refine va_iald hx hb hX.1 hP 7 0 (n := 12) (f := (u_19.1 6)) rfl rfl g_2 dX7_votes_86 ?_
        refine lv_iconst (v := 1) hx hb dX7_votes_87 (by decide) ?_
        refine lv_icmp_ne (tgt := 100) hx hb dX7_votes_88 (by decide) (fun c_21 => ?_) (fun c_21 => ?_)
        · replace hf := (if_neg c_21).symm.trans hf
          refine lv_iconst (v := 0) hx hb dX7_votes_100 (by decide) ?_
          refine lv_iadd hx hb dX7_votes_101 ?_
          refine lv_istore_n (lv' := [(1, .int (x1_4 + 0)), (0, .ref (a 0)), (2, .int x2_4)]) hx hb dX7_votes_102 rfl hl (by decide) rfl (fun ls hl => ?_)
          refine lv_iinc (v := (x2_4 + 1)) (lv' := [(2, .int (x2_4 + 1)), (1, .int (x1_4 + 0)), (0, .ref (a 0))]) hx hb dX7_votes_103 hl (k := 2) rfl (by rfl) (by decide) rfl (fun ls hl => ?_)
          refine lv_goto (tgt := 4) hx hb dX7_votes_106 (by decide) ?_
          exact ih u_19 (x1_4 + 0) (x2_4 + 1) _ _ _ ls hf hP hD hS (lv_sub hl [2, 1, 0] rfl) hk
        · replace hf := (if_pos c_21).symm.trans hf
          refine lv_aload_n hx hb dX7_votes_91 rfl (lv_at hl 0 rfl) ?_
          refine lv_iload_n hx hb dX7_votes_92 rfl (lv_at hl 2 rfl) ?_
          refine lv_iconst (v := 0) hx hb dX7_votes_93 (by decide) ?_
          obtain ⟨u_22, h_23, hf⟩ := ob hf
          refine k_rd (runV F wdX7_61 (rm := rm_X7_of) (As := [.int x2_4, .int 0]) (rest := [.int x1_4]) ⟨rfl, rfl⟩ ⟨Nat.le_of_ble_eq_true rfl, Nat.le_of_ble_eq_true rfl⟩ hl.1 rfl rfl (Nat.le_of_ble_eq_true rfl) dX7_votes_94 ⟨Nat.zero_le _, Nat.zero_le _⟩) (c_X7_of l D cI cP a u_19 x2_4 0 _ h_23) hX (va_recv hX.1 hP (ci := 7) (q0 := 0) rfl rfl) hP hP hS hA (fun H locs hP hS => ?_)
          refine lv_goto (tgt := 101) hx hb dX7_votes_97 (by decide) ?_
          refine lv_iadd hx hb dX7_votes_101 ?_
          refine lv_istore_n (lv' := [(1, .int (x1_4 + u_22)), (0, .ref (a 0)), (2, .int x2_4)]) hx hb dX7_votes_102 rfl hl (by decide) rfl (fun ls hl => ?_)
          refine lv_iinc (v := (x2_4 + 1)) (lv' := [(2, .int (x2_4 + 1)), (1, .int (x1_4 + u_22)), (0, .ref (a 0))]) hx hb dX7_votes_103 hl (k := 2) rfl (by rfl) (by decide) rfl (fun ls hl => ?_)
          refine lv_goto (tgt := 4) hx hb dX7_votes_106 (by decide) ?_
          exact ih u_19 (x1_4 + u_22) (x2_4 + 1) _ _ _ ls hf hP hD hS (lv_sub hl [2, 1, 0] rfl) hk
  obtain ⟨u_24, h_25, hf⟩ := ob hf
  refine hL_4 FUEL K 0 0 u_24 _ _ ls h_25 hP hD hS (lv_sub hl [2, 1, 0] rfl) (fun H locs ls hP hD hS hl => ?_)
  clear hL_4
  refine lv_iload_n hx hb dX7_votes_109 rfl (lv_at hl 0 rfl) ?_
  obtain rfl := (Option.some.inj hf)
  exact wr_i F rfl hP hS dX7_votes_110
def X7_yesNow (K : SMod) : Option (SMod × Int32) := ((X7_looks K (-1000004)).bind fun u_1 => ((X7_votes u_1).bind fun u_3 => some (u_3.1, u_3.2)))
abbrev rm_X7_yesNow : Room := { frames := 3, cells := 0, slots := 0, locals := 70 }
set_option maxHeartbeats 4000000 in
set_option maxRecDepth 100000 in
theorem c_X7_yesNow (l : Launch) (D : va_G) (cI cP : ClassId) (a : Nat → Nat) (K : SMod) (z : SMod × Int32) (hf : X7_yesNow K  = some z) : MWi l yX7_yesNow cX7_yesNow 1 (some .int) rm_X7_yesNow D cI cP [.ref (a 0)] (wMod cI a K) (wMod cI a z.1) z.2 := by
  refine MWi.of (by decide +kernel) (Nat.le_of_ble_eq_true rfl) ?_
  intro p e s m args below meth c ls A F hX hP hD hA hS hl
  have F : Fx p s m args meth c RX7 cX7_yesNow 1 (some .int) := F
  have hx := F.1
  have hb := F.2.1
  have hown := F.2.2.2.1
  have hts := F.2.2.2.2.1
  have hl : lv_has ls 1 [(0, .ref (a 0))] := hl
  unfold X7_yesNow at hf
  refine lv_aload_n hx hb dX7_yesNow_0 rfl (lv_at hl 0 rfl) ?_
  refine lv_ldc (v := (-1000004)) hx hb hown (hts _ q_838) dX7_yesNow_1 ?_
  obtain ⟨u_1, h_2, hf⟩ := ob hf
  refine k_wv (runV F wdX7_71 (rm := rm_X7_looks) (As := [.int (-1000004)]) (rest := []) ⟨rfl, rfl⟩ ⟨Nat.le_of_ble_eq_true rfl, Nat.le_of_ble_eq_true rfl⟩ hl.1 rfl rfl (Nat.le_of_ble_eq_true rfl) dX7_yesNow_3 ⟨Nat.zero_le _, Nat.zero_le _⟩) (c_X7_looks l D cI cP a K (-1000004) _ h_2) hX (va_recv hX.1 hP (ci := 7) (q0 := 0) rfl rfl) (Cut.all rfl) hP hD hS hA (fun H locs hP hD hS => ?_)
  have hP : va_P D vwCl (wMod cI a u_1) H := hP
  have hD : va_D A (wMod cI a u_1) := hD
  refine lv_aload_n hx hb dX7_yesNow_6 rfl (lv_at hl 0 rfl) ?_
  obtain ⟨u_3, h_4, hf⟩ := ob hf
  refine k_wi (runV F wdX7_75 (rm := rm_X7_votes) (As := []) (rest := []) ⟨rfl, rfl⟩ ⟨Nat.le_of_ble_eq_true rfl, Nat.le_of_ble_eq_true rfl⟩ hl.1 rfl rfl (Nat.le_of_ble_eq_true rfl) dX7_yesNow_7 ⟨Nat.zero_le _, Nat.zero_le _⟩) (c_X7_votes l D cI cP a u_1  _ h_4) hX (va_recv hX.1 hP (ci := 7) (q0 := 0) rfl rfl) (Cut.all rfl) hP hD hS hA (fun H locs hP hD hS => ?_)
  have hP : va_P D vwCl (wMod cI a u_3.1) H := hP
  have hD : va_D A (wMod cI a u_3.1) := hD
  obtain rfl := (Option.some.inj hf)
  exact wr_i F rfl hP hS dX7_yesNow_10
def X7_seats_L4 : Nat → SMod → Int32 → Int32 → Option (Int32)
  | 0, _, _, _ => none
  | fu + 1, K_4, x1_4, x2_4 => (if ((K_4.1 0) (Int32.toNatClampNeg 148)) ≤ x2_4 then some x1_4 else ((X7_of K_4 x2_4 0).bind fun u_2 => X7_seats_L4 fu K_4 (x1_4 + u_2) (x2_4 + 1)))
def X7_seats (K : SMod) : Option (Int32) := ((X7_seats_L4 FUEL K 0 0).bind fun u_4 => some u_4)
abbrev rm_X7_seats : Room := { frames := 1, cells := 0, slots := 0, locals := 22 }
set_option maxHeartbeats 4000000 in
set_option maxRecDepth 100000 in
theorem c_X7_seats (l : Launch) (D : va_G) (cI cP : ClassId) (a : Nat → Nat) (K : SMod) (z : Int32) (hf : X7_seats K  = some z) : MRd l yX7_seats cX7_seats 3 (some .int) rm_X7_seats D cI cP [.ref (a 0)] (wMod cI a K) z := by
  refine MRd.of (by decide +kernel) (Nat.le_of_ble_eq_true rfl) ?_
  intro p e s m args below meth c ls F hX hP hS hl
  have F : Fx p s m args meth c RX7 cX7_seats 3 (some .int) := F
  have hx := F.1
  have hb := F.2.1
  have hown := F.2.2.2.1
  have hts := F.2.2.2.2.1
  have hA : ∀ q : Nat, s.heap.size ≤ q → (fun q : Nat => s.heap.size ≤ q) q := fun _ h => h
  have hl : lv_has ls 3 [(0, .ref (a 0))] := hl
  unfold X7_seats at hf
  refine lv_iconst (v := 0) hx hb dX7_seats_0 (by decide) ?_
  refine lv_istore_n (lv' := [(1, .int 0), (0, .ref (a 0))]) hx hb dX7_seats_1 rfl hl (by decide) rfl (fun ls hl => ?_)
  refine lv_iconst (v := 0) hx hb dX7_seats_2 (by decide) ?_
  refine lv_istore_n (lv' := [(2, .int 0), (1, .int 0), (0, .ref (a 0))]) hx hb dX7_seats_3 rfl hl (by decide) rfl (fun ls hl => ?_)
  have hL_4 : ∀ (fu : Nat) (K_4 : SMod) (x1_4 : Int32) (x2_4 : Int32) (v : Int32) (H : Heap) (locs : List Loc) (ls : Array Slot), X7_seats_L4 fu K_4 x1_4 x2_4 = some v → va_P D vwCl (wMod cI a K_4) H → va_S (fun q : Nat => s.heap.size ≤ q) s.heap H locs → lv_has ls 3 [(0, .ref (a 0)), (1, .int x1_4), (2, .int x2_4)] → (∀ (H : Heap) (locs : List Loc) (ls : Array Slot), va_P D vwCl (wMod cI a K_4) H → va_S (fun q : Nat => s.heap.size ≤ q) s.heap H locs → lv_has ls 3 [(1, .int v)] → W p l e rm_X7_seats s m args below meth c H locs 0 0 (QR below args s z) (F0 m 31 ls [])) → W p l e rm_X7_seats s m args below meth c H locs 0 0 (QR below args s z) (F0 m 4 ls []) := by
    intro fu
    induction fu with
    | zero =>
      intro K_4 x1_4 x2_4 v H locs ls hf
      exact absurd hf (by simp [X7_seats_L4])
    | succ fu ih =>
      intro K_4 x1_4 x2_4 v _ _ ls hf hP hS hl hk
      rw [X7_seats_L4] at hf
      refine lv_iload_n hx hb dX7_seats_4 rfl (lv_at hl 2 rfl) ?_
      refine lv_aload_n hx hb dX7_seats_5 rfl (lv_at hl 0 rfl) ?_
      refine gX7_7 F hX hP 0 rfl (v := .ref (a 1)) rfl dX7_seats_6 ?_
      refine lv_sipush (v := 148) hx hb dX7_seats_9 (by decide) ?_
      refine va_iald hx hb hX.1 hP 1 0 (n := 156) (f := (K_4.1 0)) rfl rfl (by decide : ¬ ((148 : Int32) < 0 ∨ 156 ≤ Int32.toNatClampNeg 148)) dX7_seats_12 ?_
      refine lv_icmp_ge (tgt := 31) hx hb dX7_seats_13 (by decide) (fun c_1 => ?_) (fun c_1 => ?_)
      · replace hf := (if_pos c_1).symm.trans hf
        obtain rfl := Option.some.inj hf
        exact hk _ _ ls hP hS (lv_sub hl [1] rfl)
      · replace hf := (if_neg c_1).symm.trans hf
        refine lv_iload_n hx hb dX7_seats_16 rfl (lv_at hl 1 rfl) ?_
        refine lv_aload_n hx hb dX7_seats_17 rfl (lv_at hl 0 rfl) ?_
        refine lv_iload_n hx hb dX7_seats_18 rfl (lv_at hl 2 rfl) ?_
        refine lv_iconst (v := 0) hx hb dX7_seats_19 (by decide) ?_
        obtain ⟨u_2, h_3, hf⟩ := ob hf
        refine k_rd (runV F wdX7_61 (rm := rm_X7_of) (As := [.int x2_4, .int 0]) (rest := [.int x1_4]) ⟨rfl, rfl⟩ ⟨Nat.le_of_ble_eq_true rfl, Nat.le_of_ble_eq_true rfl⟩ hl.1 rfl rfl (Nat.le_of_ble_eq_true rfl) dX7_seats_20 ⟨Nat.zero_le _, Nat.zero_le _⟩) (c_X7_of l D cI cP a K_4 x2_4 0 _ h_3) hX (va_recv hX.1 hP (ci := 7) (q0 := 0) rfl rfl) hP hP hS hA (fun H locs hP hS => ?_)
        refine lv_iadd hx hb dX7_seats_23 ?_
        refine lv_istore_n (lv' := [(1, .int (x1_4 + u_2)), (0, .ref (a 0)), (2, .int x2_4)]) hx hb dX7_seats_24 rfl hl (by decide) rfl (fun ls hl => ?_)
        refine lv_iinc (v := (x2_4 + 1)) (lv' := [(2, .int (x2_4 + 1)), (1, .int (x1_4 + u_2)), (0, .ref (a 0))]) hx hb dX7_seats_25 hl (k := 2) rfl (by rfl) (by decide) rfl (fun ls hl => ?_)
        refine lv_goto (tgt := 4) hx hb dX7_seats_28 (by decide) ?_
        exact ih K_4 (x1_4 + u_2) (x2_4 + 1) _ _ _ ls hf hP hS (lv_sub hl [2, 1, 0] rfl) hk
  obtain ⟨u_4, h_5, hf⟩ := ob hf
  refine hL_4 FUEL K 0 0 u_4 _ _ ls h_5 hP hS (lv_sub hl [2, 1, 0] rfl) (fun H locs ls hP hS hl => ?_)
  clear hL_4
  refine lv_iload_n hx hb dX7_seats_31 rfl (lv_at hl 0 rfl) ?_
  exact rd_i F (Option.some.inj hf) hS dX7_seats_32
def X7_groups_L4 : Nat → SMod → Int32 → Int32 → Option (Int32)
  | 0, _, _, _ => none
  | fu + 1, K_4, x1_4, x2_4 => (if ((K_4.1 0) (Int32.toNatClampNeg 148)) ≤ x2_4 then some x1_4 else (if ¬ (x2_4 < 0 ∨ 12 ≤ Int32.toNatClampNeg x2_4) then (if ((K_4.1 4) (Int32.toNatClampNeg x2_4)) = x2_4 then X7_groups_L4 fu K_4 (x1_4 + 1) (x2_4 + 1) else X7_groups_L4 fu K_4 (x1_4 + 0) (x2_4 + 1)) else none))
def X7_groups (K : SMod) : Option (Int32) := ((X7_groups_L4 FUEL K 0 0).bind fun u_4 => some u_4)
abbrev rm_X7_groups : Room := { frames := 0, cells := 0, slots := 0, locals := 0 }
set_option maxHeartbeats 4000000 in
set_option maxRecDepth 100000 in
theorem c_X7_groups (l : Launch) (D : va_G) (cI cP : ClassId) (a : Nat → Nat) (K : SMod) (z : Int32) (hf : X7_groups K  = some z) : MRd l yX7_groups cX7_groups 3 (some .int) rm_X7_groups D cI cP [.ref (a 0)] (wMod cI a K) z := by
  refine MRd.of (by decide +kernel) (Nat.le_of_ble_eq_true rfl) ?_
  intro p e s m args below meth c ls F hX hP hS hl
  have F : Fx p s m args meth c RX7 cX7_groups 3 (some .int) := F
  have hx := F.1
  have hb := F.2.1
  have hown := F.2.2.2.1
  have hts := F.2.2.2.2.1
  have hA : ∀ q : Nat, s.heap.size ≤ q → (fun q : Nat => s.heap.size ≤ q) q := fun _ h => h
  have hl : lv_has ls 3 [(0, .ref (a 0))] := hl
  unfold X7_groups at hf
  refine lv_iconst (v := 0) hx hb dX7_groups_0 (by decide) ?_
  refine lv_istore_n (lv' := [(1, .int 0), (0, .ref (a 0))]) hx hb dX7_groups_1 rfl hl (by decide) rfl (fun ls hl => ?_)
  refine lv_iconst (v := 0) hx hb dX7_groups_2 (by decide) ?_
  refine lv_istore_n (lv' := [(2, .int 0), (1, .int 0), (0, .ref (a 0))]) hx hb dX7_groups_3 rfl hl (by decide) rfl (fun ls hl => ?_)
  have hL_4 : ∀ (fu : Nat) (K_4 : SMod) (x1_4 : Int32) (x2_4 : Int32) (v : Int32) (H : Heap) (locs : List Loc) (ls : Array Slot), X7_groups_L4 fu K_4 x1_4 x2_4 = some v → va_P D vwCl (wMod cI a K_4) H → va_S (fun q : Nat => s.heap.size ≤ q) s.heap H locs → lv_has ls 3 [(0, .ref (a 0)), (1, .int x1_4), (2, .int x2_4)] → (∀ (H : Heap) (locs : List Loc) (ls : Array Slot), va_P D vwCl (wMod cI a K_4) H → va_S (fun q : Nat => s.heap.size ≤ q) s.heap H locs → lv_has ls 3 [(1, .int v)] → W p l e rm_X7_groups s m args below meth c H locs 0 0 (QR below args s z) (F0 m 40 ls [])) → W p l e rm_X7_groups s m args below meth c H locs 0 0 (QR below args s z) (F0 m 4 ls []) := by
    intro fu
    induction fu with
    | zero =>
      intro K_4 x1_4 x2_4 v H locs ls hf
      exact absurd hf (by simp [X7_groups_L4])
    | succ fu ih =>
      intro K_4 x1_4 x2_4 v _ _ ls hf hP hS hl hk
      rw [X7_groups_L4] at hf
      refine lv_iload_n hx hb dX7_groups_4 rfl (lv_at hl 2 rfl) ?_
      refine lv_aload_n hx hb dX7_groups_5 rfl (lv_at hl 0 rfl) ?_
      refine gX7_7 F hX hP 0 rfl (v := .ref (a 1)) rfl dX7_groups_6 ?_
      refine lv_sipush (v := 148) hx hb dX7_groups_9 (by decide) ?_
      refine va_iald hx hb hX.1 hP 1 0 (n := 156) (f := (K_4.1 0)) rfl rfl (by decide : ¬ ((148 : Int32) < 0 ∨ 156 ≤ Int32.toNatClampNeg 148)) dX7_groups_12 ?_
      refine lv_icmp_ge (tgt := 40) hx hb dX7_groups_13 (by decide) (fun c_1 => ?_) (fun c_1 => ?_)
      · replace hf := (if_pos c_1).symm.trans hf
        obtain rfl := Option.some.inj hf
        exact hk _ _ ls hP hS (lv_sub hl [1] rfl)
      · replace hf := (if_neg c_1).symm.trans hf
        refine lv_iload_n hx hb dX7_groups_16 rfl (lv_at hl 1 rfl) ?_
        refine lv_aload_n hx hb dX7_groups_17 rfl (lv_at hl 0 rfl) ?_
        refine gX7_22 F hX hP 0 rfl (v := .ref (a 5)) rfl dX7_groups_18 ?_
        refine lv_iload_n hx hb dX7_groups_21 rfl (lv_at hl 2 rfl) ?_
        have g_2 := og hf
        replace hf := (if_pos g_2).symm.trans hf
        refine va_iald hx hb hX.1 hP 5 0 (n := 12) (f := (K_4.1 4)) rfl rfl g_2 dX7_groups_22 ?_
        refine lv_iload_n hx hb dX7_groups_23 rfl (lv_at hl 2 rfl) ?_
        refine lv_icmp_ne (tgt := 31) hx hb dX7_groups_24 (by decide) (fun c_3 => ?_) (fun c_3 => ?_)
        · replace hf := (if_neg c_3).symm.trans hf
          refine lv_iconst (v := 0) hx hb dX7_groups_31 (by decide) ?_
          refine lv_iadd hx hb dX7_groups_32 ?_
          refine lv_istore_n (lv' := [(1, .int (x1_4 + 0)), (0, .ref (a 0)), (2, .int x2_4)]) hx hb dX7_groups_33 rfl hl (by decide) rfl (fun ls hl => ?_)
          refine lv_iinc (v := (x2_4 + 1)) (lv' := [(2, .int (x2_4 + 1)), (1, .int (x1_4 + 0)), (0, .ref (a 0))]) hx hb dX7_groups_34 hl (k := 2) rfl (by rfl) (by decide) rfl (fun ls hl => ?_)
          refine lv_goto (tgt := 4) hx hb dX7_groups_37 (by decide) ?_
          exact ih K_4 (x1_4 + 0) (x2_4 + 1) _ _ _ ls hf hP hS (lv_sub hl [2, 1, 0] rfl) hk
        · replace hf := (if_pos c_3).symm.trans hf
          refine lv_iconst (v := 1) hx hb dX7_groups_27 (by decide) ?_
          refine lv_goto (tgt := 32) hx hb dX7_groups_28 (by decide) ?_
          refine lv_iadd hx hb dX7_groups_32 ?_
          refine lv_istore_n (lv' := [(1, .int (x1_4 + 1)), (0, .ref (a 0)), (2, .int x2_4)]) hx hb dX7_groups_33 rfl hl (by decide) rfl (fun ls hl => ?_)
          refine lv_iinc (v := (x2_4 + 1)) (lv' := [(2, .int (x2_4 + 1)), (1, .int (x1_4 + 1)), (0, .ref (a 0))]) hx hb dX7_groups_34 hl (k := 2) rfl (by rfl) (by decide) rfl (fun ls hl => ?_)
          refine lv_goto (tgt := 4) hx hb dX7_groups_37 (by decide) ?_
          exact ih K_4 (x1_4 + 1) (x2_4 + 1) _ _ _ ls hf hP hS (lv_sub hl [2, 1, 0] rfl) hk
  obtain ⟨u_4, h_5, hf⟩ := ob hf
  refine hL_4 FUEL K 0 0 u_4 _ _ ls h_5 hP hS (lv_sub hl [2, 1, 0] rfl) (fun H locs ls hP hS hl => ?_)
  clear hL_4
  refine lv_iload_n hx hb dX7_groups_40 rfl (lv_at hl 0 rfl) ?_
  exact rd_i F (Option.some.inj hf) hS dX7_groups_41
def X7_isPassed (K : SMod) : Option (SMod × Int32) := ((X7_yesNow K).bind fun u_1 => ((X7_seats u_1.1).bind fun u_3 => (if (u_3 - u_1.2) < u_1.2 then some (u_1.1, 1) else (if u_1.2 = (u_3 - u_1.2) then (if ¬ (((u_1.1.1 0) (Int32.toNatClampNeg 150)) < 0 ∨ 12 ≤ Int32.toNatClampNeg ((u_1.1.1 0) (Int32.toNatClampNeg 150))) then (if ((u_1.1.1 6) (Int32.toNatClampNeg ((u_1.1.1 0) (Int32.toNatClampNeg 150)))) = 1 then some (u_1.1, 1) else some (u_1.1, 0)) else none) else some (u_1.1, 0)))))
abbrev rm_X7_isPassed : Room := { frames := 4, cells := 0, slots := 0, locals := 90 }
set_option maxHeartbeats 4000000 in
set_option maxRecDepth 100000 in
theorem c_X7_isPassed (l : Launch) (D : va_G) (cI cP : ClassId) (a : Nat → Nat) (K : SMod) (z : SMod × Int32) (hf : X7_isPassed K  = some z) : MWi l yX7_isPassed cX7_isPassed 3 (some .boolean) rm_X7_isPassed D cI cP [.ref (a 0)] (wMod cI a K) (wMod cI a z.1) z.2 := by
  refine MWi.of (by decide +kernel) (Nat.le_of_ble_eq_true rfl) ?_
  intro p e s m args below meth c ls A F hX hP hD hA hS hl
  have F : Fx p s m args meth c RX7 cX7_isPassed 3 (some .boolean) := F
  have hx := F.1
  have hb := F.2.1
  have hown := F.2.2.2.1
  have hts := F.2.2.2.2.1
  have hl : lv_has ls 3 [(0, .ref (a 0))] := hl
  unfold X7_isPassed at hf
  refine lv_aload_n hx hb dX7_isPassed_0 rfl (lv_at hl 0 rfl) ?_
  obtain ⟨u_1, h_2, hf⟩ := ob hf
  refine k_wi (runV F wdX7_79 (rm := rm_X7_yesNow) (As := []) (rest := []) ⟨rfl, rfl⟩ ⟨Nat.le_of_ble_eq_true rfl, Nat.le_of_ble_eq_true rfl⟩ hl.1 rfl rfl (Nat.le_of_ble_eq_true rfl) dX7_isPassed_1 ⟨Nat.zero_le _, Nat.zero_le _⟩) (c_X7_yesNow l D cI cP a K  _ h_2) hX (va_recv hX.1 hP (ci := 7) (q0 := 0) rfl rfl) (Cut.all rfl) hP hD hS hA (fun H locs hP hD hS => ?_)
  have hP : va_P D vwCl (wMod cI a u_1.1) H := hP
  have hD : va_D A (wMod cI a u_1.1) := hD
  refine lv_istore_n (lv' := [(1, .int u_1.2), (0, .ref (a 0))]) hx hb dX7_isPassed_4 rfl hl (by decide) rfl (fun ls hl => ?_)
  refine lv_aload_n hx hb dX7_isPassed_5 rfl (lv_at hl 1 rfl) ?_
  obtain ⟨u_3, h_4, hf⟩ := ob hf
  refine k_rd (runV F wdX7_82 (rm := rm_X7_seats) (As := []) (rest := []) ⟨rfl, rfl⟩ ⟨Nat.le_of_ble_eq_true rfl, Nat.le_of_ble_eq_true rfl⟩ hl.1 rfl rfl (Nat.le_of_ble_eq_true rfl) dX7_isPassed_6 ⟨Nat.zero_le _, Nat.zero_le _⟩) (c_X7_seats l D cI cP a u_1.1  _ h_4) hX (va_recv hX.1 hP (ci := 7) (q0 := 0) rfl rfl) hP hP hS hA (fun H locs hP hS => ?_)
  refine lv_iload_n hx hb dX7_isPassed_9 rfl (lv_at hl 0 rfl) ?_
  refine lv_isub hx hb dX7_isPassed_10 ?_
  refine lv_istore_n (lv' := [(2, .int (u_3 - u_1.2)), (1, .int u_1.2), (0, .ref (a 0))]) hx hb dX7_isPassed_11 rfl hl (by decide) rfl (fun ls hl => ?_)
  refine lv_iload_n hx hb dX7_isPassed_12 rfl (lv_at hl 1 rfl) ?_
  refine lv_iload_n hx hb dX7_isPassed_13 rfl (lv_at hl 0 rfl) ?_
  refine lv_icmp_gt (tgt := 39) hx hb dX7_isPassed_14 (by decide) (fun c_5 => ?_) (fun c_5 => ?_)
  · replace hf := (if_pos c_5).symm.trans hf
    refine lv_iconst (v := 1) hx hb dX7_isPassed_39 (by decide) ?_
    refine lv_goto (tgt := 44) hx hb dX7_isPassed_40 (by decide) ?_
    obtain rfl := (Option.some.inj hf)
    exact wr_z F (by decide) rfl hP hS dX7_isPassed_44
  · replace hf := (if_neg c_5).symm.trans hf
    refine lv_iload_n hx hb dX7_isPassed_17 rfl (lv_at hl 1 rfl) ?_
    refine lv_iload_n hx hb dX7_isPassed_18 rfl (lv_at hl 0 rfl) ?_
    refine lv_icmp_ne (tgt := 43) hx hb dX7_isPassed_19 (by decide) (fun c_6 => ?_) (fun c_6 => ?_)
    · replace hf := (if_neg c_6).symm.trans hf
      refine lv_iconst (v := 0) hx hb dX7_isPassed_43 (by decide) ?_
      obtain rfl := (Option.some.inj hf)
      exact wr_z F (by decide) rfl hP hS dX7_isPassed_44
    · replace hf := (if_pos c_6).symm.trans hf
      refine lv_aload_n hx hb dX7_isPassed_22 rfl (lv_at hl 2 rfl) ?_
      refine gX7_28 F hX hP 0 rfl (v := .ref (a 7)) rfl dX7_isPassed_23 ?_
      refine lv_aload_n hx hb dX7_isPassed_26 rfl (lv_at hl 2 rfl) ?_
      refine gX7_7 F hX hP 0 rfl (v := .ref (a 1)) rfl dX7_isPassed_27 ?_
      refine lv_sipush (v := 150) hx hb dX7_isPassed_30 (by decide) ?_
      refine va_iald hx hb hX.1 hP 1 0 (n := 156) (f := (u_1.1.1 0)) rfl rfl (by decide : ¬ ((150 : Int32) < 0 ∨ 156 ≤ Int32.toNatClampNeg 150)) dX7_isPassed_33 ?_
      have g_7 := og hf
      replace hf := (if_pos g_7).symm.trans hf
      refine va_iald hx hb hX.1 hP 7 0 (n := 12) (f := (u_1.1.1 6)) rfl rfl g_7 dX7_isPassed_34 ?_
      refine lv_iconst (v := 1) hx hb dX7_isPassed_35 (by decide) ?_
      refine lv_icmp_ne (tgt := 43) hx hb dX7_isPassed_36 (by decide) (fun c_8 => ?_) (fun c_8 => ?_)
      · replace hf := (if_neg c_8).symm.trans hf
        refine lv_iconst (v := 0) hx hb dX7_isPassed_43 (by decide) ?_
        obtain rfl := (Option.some.inj hf)
        exact wr_z F (by decide) rfl hP hS dX7_isPassed_44
      · replace hf := (if_pos c_8).symm.trans hf
        refine lv_iconst (v := 1) hx hb dX7_isPassed_39 (by decide) ?_
        refine lv_goto (tgt := 44) hx hb dX7_isPassed_40 (by decide) ?_
        obtain rfl := (Option.some.inj hf)
        exact wr_z F (by decide) rfl hP hS dX7_isPassed_44
