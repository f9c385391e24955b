def X6_isIn (x0 : Int32) (x1 : Int32) (x2 : Int32) : Int32 := (if x0 < x1 then 0 else (if x2 < x0 then 0 else 1))
abbrev rm_X6_isIn : Room := { frames := 0, cells := 0, slots := 0, locals := 0 }
set_option maxHeartbeats 4000000 in
set_option maxRecDepth 100000 in
theorem c_X6_isIn (l : Launch) (D : va_G) (cI cP : ClassId) (x0 : Int32) (x1 : Int32) (x2 : Int32) (z : Int32) (hf : X6_isIn x0 x1 x2 = z) : MRd l yX6_isIn cX6_isIn 3 (some .boolean) rm_X6_isIn D cI cP [.int x0, .int x1, .int x2] [] z := by
  refine MRd.of (by decide +kernel) (Nat.le_of_ble_eq_true rfl) ?_
  intro p e s m args below meth c ls F hX hP hS hl
  have F : Fx p s m args meth c RX6 cX6_isIn 3 (some .boolean) := F
  have hx := F.1
  have hb := F.2.1
  have hown := F.2.2.2.1
  have hts := F.2.2.2.2.1
  have hA : ∀ q : Nat, s.heap.size ≤ q → (fun q : Nat => s.heap.size ≤ q) q := fun _ h => h
  have hl : lv_has ls 3 [(0, .int x0), (1, .int x1), (2, .int x2)] := hl
  unfold X6_isIn at hf
  refine lv_iload_n hx hb dX6_isIn_0 rfl (lv_at hl 0 rfl) ?_
  refine lv_iload_n hx hb dX6_isIn_1 rfl (lv_at hl 1 rfl) ?_
  refine lv_icmp_lt (tgt := 14) hx hb dX6_isIn_2 (by decide) (fun c_1 => ?_) (fun c_1 => ?_)
  · replace hf := (if_pos c_1).symm.trans hf
    refine lv_iconst (v := 0) hx hb dX6_isIn_14 (by decide) ?_
    exact rd_z F (by decide) hf hS dX6_isIn_15
  · replace hf := (if_neg c_1).symm.trans hf
    refine lv_iload_n hx hb dX6_isIn_5 rfl (lv_at hl 0 rfl) ?_
    refine lv_iload_n hx hb dX6_isIn_6 rfl (lv_at hl 2 rfl) ?_
    refine lv_icmp_gt (tgt := 14) hx hb dX6_isIn_7 (by decide) (fun c_2 => ?_) (fun c_2 => ?_)
    · replace hf := (if_pos c_2).symm.trans hf
      refine lv_iconst (v := 0) hx hb dX6_isIn_14 (by decide) ?_
      exact rd_z F (by decide) hf hS dX6_isIn_15
    · replace hf := (if_neg c_2).symm.trans hf
      refine lv_iconst (v := 1) hx hb dX6_isIn_10 (by decide) ?_
      refine lv_goto (tgt := 15) hx hb dX6_isIn_11 (by decide) ?_
      exact rd_z F (by decide) hf hS dX6_isIn_15
def X6_isMember (x0 : Int32) (x1 : Int32) : Int32 := (if ((x0 >>> (x1 &&& 31)) &&& 1) = 1 then 1 else 0)
abbrev rm_X6_isMember : Room := { frames := 0, cells := 0, slots := 0, locals := 0 }
set_option maxHeartbeats 4000000 in
set_option maxRecDepth 100000 in
theorem c_X6_isMember (l : Launch) (D : va_G) (cI cP : ClassId) (x0 : Int32) (x1 : Int32) (z : Int32) (hf : X6_isMember x0 x1 = z) : MRd l yX6_isMember cX6_isMember 2 (some .boolean) rm_X6_isMember D cI cP [.int x0, .int x1] [] z := by
  refine MRd.of (by decide +kernel) (Nat.le_of_ble_eq_true rfl) ?_
  intro p e s m args below meth c ls F hX hP hS hl
  have F : Fx p s m args meth c RX6 cX6_isMember 2 (some .boolean) := F
  have hx := F.1
  have hb := F.2.1
  have hown := F.2.2.2.1
  have hts := F.2.2.2.2.1
  have hA : ∀ q : Nat, s.heap.size ≤ q → (fun q : Nat => s.heap.size ≤ q) q := fun _ h => h
  have hl : lv_has ls 2 [(0, .int x0), (1, .int x1)] := hl
  unfold X6_isMember at hf
  refine lv_iload_n hx hb dX6_isMember_0 rfl (lv_at hl 0 rfl) ?_
  refine lv_iload_n hx hb dX6_isMember_1 rfl (lv_at hl 1 rfl) ?_
  refine lv_ishr hx hb dX6_isMember_2 ?_
  refine lv_iconst (v := 1) hx hb dX6_isMember_3 (by decide) ?_
  refine lv_iand hx hb dX6_isMember_4 ?_
  refine lv_iconst (v := 1) hx hb dX6_isMember_5 (by decide) ?_
  refine lv_icmp_ne (tgt := 13) hx hb dX6_isMember_6 (by decide) (fun c_1 => ?_) (fun c_1 => ?_)
  · replace hf := (if_neg c_1).symm.trans hf
    refine lv_iconst (v := 0) hx hb dX6_isMember_13 (by decide) ?_
    exact rd_z F (by decide) hf hS dX6_isMember_14
  · replace hf := (if_pos c_1).symm.trans hf
    refine lv_iconst (v := 1) hx hb dX6_isMember_9 (by decide) ?_
    refine lv_goto (tgt := 14) hx hb dX6_isMember_10 (by decide) ?_
    exact rd_z F (by decide) hf hS dX6_isMember_14
def X6_isError (x0 : Int32) : Int32 := (if 0 ≤ x0 then 0 else 1)
abbrev rm_X6_isError : Room := { frames := 0, cells := 0, slots := 0, locals := 0 }
set_option maxHeartbeats 4000000 in
set_option maxRecDepth 100000 in
theorem c_X6_isError (l : Launch) (D : va_G) (cI cP : ClassId) (x0 : Int32) (z : Int32) (hf : X6_isError x0 = z) : MRd l yX6_isError cX6_isError 1 (some .boolean) rm_X6_isError D cI cP [.int x0] [] z := by
  refine MRd.of (by decide +kernel) (Nat.le_of_ble_eq_true rfl) ?_
  intro p e s m args below meth c ls F hX hP hS hl
  have F : Fx p s m args meth c RX6 cX6_isError 1 (some .boolean) := F
  have hx := F.1
  have hb := F.2.1
  have hown := F.2.2.2.1
  have hts := F.2.2.2.2.1
  have hA : ∀ q : Nat, s.heap.size ≤ q → (fun q : Nat => s.heap.size ≤ q) q := fun _ h => h
  have hl : lv_has ls 1 [(0, .int x0)] := hl
  unfold X6_isError at hf
  refine lv_iload_n hx hb dX6_isError_0 rfl (lv_at hl 0 rfl) ?_
  refine lv_if_ge (tgt := 8) hx hb dX6_isError_1 (by decide) (fun c_1 => ?_) (fun c_1 => ?_)
  · replace hf := (if_pos c_1).symm.trans hf
    refine lv_iconst (v := 0) hx hb dX6_isError_8 (by decide) ?_
    exact rd_z F (by decide) hf hS dX6_isError_9
  · replace hf := (if_neg c_1).symm.trans hf
    refine lv_iconst (v := 1) hx hb dX6_isError_4 (by decide) ?_
    refine lv_goto (tgt := 9) hx hb dX6_isError_5 (by decide) ?_
    exact rd_z F (by decide) hf hS dX6_isError_9
def X2_get (nn : Nat) (K : (Nat → Int32)) (x1 : Int32) : Option (Int32) := (if x1 < 0 then some 0 else (if (nI nn) ≤ x1 then some 0 else (if ¬ (x1 < 0 ∨ nn ≤ Int32.toNatClampNeg x1) then some (K (Int32.toNatClampNeg x1)) else none)))
abbrev rm_X2_get : Room := { frames := 0, cells := 0, slots := 0, locals := 0 }
set_option maxHeartbeats 4000000 in
set_option maxRecDepth 100000 in
theorem c_X2_get (l : Launch) (D : va_G) (cI cP : ClassId) (r d nn : Nat) (K : (Nat → Int32)) (x1 : Int32) (z : Int32) (hf : X2_get nn K x1 = some z) : MRd l yX2_get cX2_get 2 (some .int) rm_X2_get D cI cP [.ref r, .int x1] (wRow cI r d nn K) z := by
  refine MRd.of (by decide +kernel) (Nat.le_of_ble_eq_true rfl) ?_
  intro p e s m args below meth c ls F hX hP hS hl
  have F : Fx p s m args meth c RX2 cX2_get 2 (some .int) := F
  have hx := F.1
  have hb := F.2.1
  have hown := F.2.2.2.1
  have hts := F.2.2.2.2.1
  have hA : ∀ q : Nat, s.heap.size ≤ q → (fun q : Nat => s.heap.size ≤ q) q := fun _ h => h
  have hl : lv_has ls 2 [(0, .ref r), (1, .int x1)] := hl
  unfold X2_get at hf
  refine lv_iload_n hx hb dX2_get_0 rfl (lv_at hl 1 rfl) ?_
  refine lv_if_lt (tgt := 22) hx hb dX2_get_1 (by decide) (fun c_1 => ?_) (fun c_1 => ?_)
  · replace hf := (if_pos c_1).symm.trans hf
    refine lv_iconst (v := 0) hx hb dX2_get_22 (by decide) ?_
    exact rd_i F (Option.some.inj hf) hS dX2_get_23
  · replace hf := (if_neg c_1).symm.trans hf
    refine lv_iload_n hx hb dX2_get_4 rfl (lv_at hl 1 rfl) ?_
    refine lv_aload_n hx hb dX2_get_5 rfl (lv_at hl 0 rfl) ?_
    refine gX2_13 F hX hP 0 rfl (v := .ref d) rfl dX2_get_6 ?_
    refine va_alen hx hb hX.1 hP 1 0 rfl rfl (v := nI nn) rfl dX2_get_9 ?_
    refine lv_icmp_ge (tgt := 22) hx hb dX2_get_10 (by decide) (fun c_2 => ?_) (fun c_2 => ?_)
    · replace hf := (if_pos c_2).symm.trans hf
      refine lv_iconst (v := 0) hx hb dX2_get_22 (by decide) ?_
      exact rd_i F (Option.some.inj hf) hS dX2_get_23
    · replace hf := (if_neg c_2).symm.trans hf
      refine lv_aload_n hx hb dX2_get_13 rfl (lv_at hl 0 rfl) ?_
      refine gX2_13 F hX hP 0 rfl (v := .ref d) rfl dX2_get_14 ?_
      refine lv_iload_n hx hb dX2_get_17 rfl (lv_at hl 1 rfl) ?_
      have g_3 := og hf
      replace hf := (if_pos g_3).symm.trans hf
      refine va_iald hx hb hX.1 hP 1 0 (n := nn) (f := K) rfl rfl g_3 dX2_get_18 ?_
      refine lv_goto (tgt := 23) hx hb dX2_get_19 (by decide) ?_
      exact rd_i F (Option.some.inj hf) hS dX2_get_23
def X2_put (nn : Nat) (K : (Nat → Int32)) (x1 : Int32) (x2 : Int32) : Option ((Nat → Int32)) := (if x1 < 0 then some K else (if (nI nn) ≤ x1 then some K else (if ¬ (x1 < 0 ∨ nn ≤ Int32.toNatClampNeg x1) then (bnd (upd K (Int32.toNatClampNeg x1) x2) fun M_4 => some M_4) else none)))
abbrev rm_X2_put : Room := { frames := 0, cells := 0, slots := 0, locals := 0 }
set_option maxHeartbeats 4000000 in
set_option maxRecDepth 100000 in
theorem c_X2_put (l : Launch) (D : va_G) (cI cP : ClassId) (r d nn : Nat) (K : (Nat → Int32)) (x1 : Int32) (x2 : Int32) (z : (Nat → Int32)) (hf : X2_put nn K x1 x2 = some z) : MWv l yX2_put cX2_put 3 none rm_X2_put D cI cP [.ref r, .int x1, .int x2] (wRow cI r d nn K) (wRow cI r d nn z) := by
  refine MWv.of (by decide +kernel) (Nat.le_of_ble_eq_true rfl) ?_
  intro p e s m args below meth c ls A F hX hP hD hA hS hl
  have F : Fx p s m args meth c RX2 cX2_put 3 none := F
  have hx := F.1
  have hb := F.2.1
  have hown := F.2.2.2.1
  have hts := F.2.2.2.2.1
  have hl : lv_has ls 3 [(0, .ref r), (1, .int x1), (2, .int x2)] := hl
  unfold X2_put at hf
  refine lv_iload_n hx hb dX2_put_0 rfl (lv_at hl 1 rfl) ?_
  refine lv_if_lt (tgt := 20) hx hb dX2_put_1 (by decide) (fun c_1 => ?_) (fun c_1 => ?_)
  · replace hf := (if_pos c_1).symm.trans hf
    obtain rfl := (Option.some.inj hf)
    exact wr_v F hP hS dX2_put_20
  · replace hf := (if_neg c_1).symm.trans hf
    refine lv_iload_n hx hb dX2_put_4 rfl (lv_at hl 1 rfl) ?_
    refine lv_aload_n hx hb dX2_put_5 rfl (lv_at hl 0 rfl) ?_
    refine gX2_13 F hX hP 0 rfl (v := .ref d) rfl dX2_put_6 ?_
    refine va_alen hx hb hX.1 hP 1 0 rfl rfl (v := nI nn) rfl dX2_put_9 ?_
    refine lv_icmp_ge (tgt := 20) hx hb dX2_put_10 (by decide) (fun c_2 => ?_) (fun c_2 => ?_)
    · replace hf := (if_pos c_2).symm.trans hf
      obtain rfl := (Option.some.inj hf)
      exact wr_v F hP hS dX2_put_20
    · replace hf := (if_neg c_2).symm.trans hf
      refine lv_aload_n hx hb dX2_put_13 rfl (lv_at hl 0 rfl) ?_
      refine gX2_13 F hX hP 0 rfl (v := .ref d) rfl dX2_put_14 ?_
      refine lv_iload_n hx hb dX2_put_17 rfl (lv_at hl 1 rfl) ?_
      refine lv_iload_n hx hb dX2_put_18 rfl (lv_at hl 2 rfl) ?_
      have g_3 := og hf
      replace hf := (if_pos g_3).symm.trans hf
      refine va_iast hx hb hX.1 hP hD hS 1 0 (n := nn) (f := K) rfl rfl g_3 dX2_put_19 (fun H locs hP hD hS => ?_)
      obtain ⟨M_4, e_5, hf⟩ := bnd_e hf
      have hP : va_P D vwCl (wRow cI r d nn M_4) H := by rw [e_5]; exact hP
      have hD : va_D A (wRow cI r d nn M_4) := by rw [e_5]; exact hD
      clear e_5
      obtain rfl := (Option.some.inj hf)
      exact wr_v F hP hS dX2_put_20
def X2_removeAt_L7 : Nat → Nat → (Nat → Int32) → Int32 → Option ((Nat → Int32))
  | 0, _, _, _ => none
  | fu + 1, nn, K_7, x2_7 => (if ((nI nn) - 1) ≤ x2_7 then some K_7 else (if ¬ ((x2_7 + 1) < 0 ∨ nn ≤ Int32.toNatClampNeg (x2_7 + 1)) then (if ¬ (x2_7 < 0 ∨ nn ≤ Int32.toNatClampNeg x2_7) then (bnd (upd K_7 (Int32.toNatClampNeg x2_7) (K_7 (Int32.toNatClampNeg (x2_7 + 1)))) fun M_5 => X2_removeAt_L7 fu nn M_5 (x2_7 + 1)) else none) else none))
def X2_removeAt (nn : Nat) (K : (Nat → Int32)) (x1 : Int32) : Option ((Nat → Int32)) := (if 0 ≤ x1 then ((X2_removeAt_L7 FUEL nn K x1).bind fun u_7 => some u_7) else some K)
abbrev rm_X2_removeAt : Room := { frames := 0, cells := 0, slots := 0, locals := 0 }
set_option maxHeartbeats 4000000 in
set_option maxRecDepth 100000 in
theorem c_X2_removeAt (l : Launch) (D : va_G) (cI cP : ClassId) (r d nn : Nat) (K : (Nat → Int32)) (x1 : Int32) (z : (Nat → Int32)) (hf : X2_removeAt nn K x1 = some z) : MWv l yX2_removeAt cX2_removeAt 3 none rm_X2_removeAt D cI cP [.ref r, .int x1] (wRow cI r d nn K) (wRow cI r d nn z) := by
  refine MWv.of (by decide +kernel) (Nat.le_of_ble_eq_true rfl) ?_
  intro p e s m args below meth c ls A F hX hP hD hA hS hl
  have F : Fx p s m args meth c RX2 cX2_removeAt 3 none := F
  have hx := F.1
  have hb := F.2.1
  have hown := F.2.2.2.1
  have hts := F.2.2.2.2.1
  have hl : lv_has ls 3 [(0, .ref r), (1, .int x1)] := hl
  unfold X2_removeAt at hf
  refine lv_iload_n hx hb dX2_removeAt_0 rfl (lv_at hl 1 rfl) ?_
  refine lv_if_ge (tgt := 5) hx hb dX2_removeAt_1 (by decide) (fun c_1 => ?_) (fun c_1 => ?_)
  · replace hf := (if_pos c_1).symm.trans hf
    refine lv_iload_n hx hb dX2_removeAt_5 rfl (lv_at hl 1 rfl) ?_
    refine lv_istore_n (lv' := [(2, .int x1), (0, .ref r), (1, .int x1)]) hx hb dX2_removeAt_6 rfl hl (by decide) rfl (fun ls hl => ?_)
    have hL_7 : ∀ (fu : Nat) (nn : Nat) (K_7 : (Nat → Int32)) (x2_7 : Int32) (v : (Nat → Int32)) (H : Heap) (locs : List Loc) (ls : Array Slot), X2_removeAt_L7 fu nn K_7 x2_7 = some v → va_P D vwCl (wRow cI r d nn K_7) H → va_D A (wRow cI r d nn K_7) → va_S A s.heap H locs → lv_has ls 3 [(0, .ref r), (2, .int x2_7)] → (∀ (H : Heap) (locs : List Loc) (ls : Array Slot), va_P D vwCl (wRow cI r d nn v) H → va_D A (wRow cI r d nn v) → va_S A s.heap H locs → lv_has ls 3 [] → W p l e rm_X2_removeAt s m args below meth c H locs 0 0 (QWv D below args s A (wRow cI r d nn z)) (F0 m 38 ls [])) → W p l e rm_X2_removeAt s m args below meth c H locs 0 0 (QWv D below args s A (wRow cI r d nn z)) (F0 m 7 ls []) := by
      intro fu
      induction fu with
      | zero =>
        intro nn K_7 x2_7 v H locs ls hf
        exact absurd hf (by simp [X2_removeAt_L7])
      | succ fu ih =>
        intro nn K_7 x2_7 v _ _ ls hf hP hD hS hl hk
        rw [X2_removeAt_L7] at hf
        refine lv_iload_n hx hb dX2_removeAt_7 rfl (lv_at hl 1 rfl) ?_
        refine lv_aload_n hx hb dX2_removeAt_8 rfl (lv_at hl 0 rfl) ?_
        refine gX2_13 F hX hP 0 rfl (v := .ref d) rfl dX2_removeAt_9 ?_
        refine va_alen hx hb hX.1 hP 1 0 rfl rfl (v := nI nn) rfl dX2_removeAt_12 ?_
        refine lv_iconst (v := 1) hx hb dX2_removeAt_13 (by decide) ?_
        refine lv_isub hx hb dX2_removeAt_14 ?_
        refine lv_icmp_ge (tgt := 38) hx hb dX2_removeAt_15 (by decide) (fun c_2 => ?_) (fun c_2 => ?_)
        · replace hf := (if_pos c_2).symm.trans hf
          obtain rfl := Option.some.inj hf
          exact hk _ _ ls hP hD hS (lv_sub hl [] rfl)
        · replace hf := (if_neg c_2).symm.trans hf
          refine lv_aload_n hx hb dX2_removeAt_18 rfl (lv_at hl 0 rfl) ?_
          refine gX2_13 F hX hP 0 rfl (v := .ref d) rfl dX2_removeAt_19 ?_
          refine lv_iload_n hx hb dX2_removeAt_22 rfl (lv_at hl 1 rfl) ?_
          refine lv_aload_n hx hb dX2_removeAt_23 rfl (lv_at hl 0 rfl) ?_
          refine gX2_13 F hX hP 0 rfl (v := .ref d) rfl dX2_removeAt_24 ?_
          refine lv_iload_n hx hb dX2_removeAt_27 rfl (lv_at hl 1 rfl) ?_
          refine lv_iconst (v := 1) hx hb dX2_removeAt_28 (by decide) ?_
          refine lv_iadd hx hb dX2_removeAt_29 ?_
          have g_3 := og hf
          replace hf := (if_pos g_3).symm.trans hf
          refine va_iald hx hb hX.1 hP 1 0 (n := nn) (f := K_7) rfl rfl g_3 dX2_removeAt_30 ?_
          have g_4 := og hf
          replace hf := (if_pos g_4).symm.trans hf
          refine va_iast hx hb hX.1 hP hD hS 1 0 (n := nn) (f := K_7) rfl rfl g_4 dX2_removeAt_31 (fun H locs hP hD hS => ?_)
          obtain ⟨M_5, e_6, hf⟩ := bnd_e hf
          have hP : va_P D vwCl (wRow cI r d nn M_5) H := by rw [e_6]; exact hP
          have hD : va_D A (wRow cI r d nn M_5) := by rw [e_6]; exact hD
          clear e_6
          refine lv_iinc (v := (x2_7 + 1)) (lv' := [(2, .int (x2_7 + 1)), (0, .ref r)]) hx hb dX2_removeAt_32 hl (k := 1) rfl (by rfl) (by decide) rfl (fun ls hl => ?_)
          refine lv_goto (tgt := 7) hx hb dX2_removeAt_35 (by decide) ?_
          exact ih nn M_5 (x2_7 + 1) _ _ _ ls hf hP hD hS (lv_sub hl [1, 0] rfl) hk
    obtain ⟨u_7, h_8, hf⟩ := ob hf
    refine hL_7 FUEL nn K x1 u_7 _ _ ls h_8 hP hD hS (lv_sub hl [1, 0] rfl) (fun H locs ls hP hD hS hl => ?_)
    clear hL_7
    obtain rfl := (Option.some.inj hf)
    exact wr_v F hP hS dX2_removeAt_38
  · replace hf := (if_neg c_1).symm.trans hf
    obtain rfl := (Option.some.inj hf)
    exact wr_v F hP hS dX2_removeAt_4
