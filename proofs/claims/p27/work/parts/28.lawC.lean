def L_isSession_J49 (K_49 : SLM) (x6_49 : Int32) (x7_49 : Int32) (t0_49 : Int32) (t1_49 : Int32) : Option (Int32) := (if t0_49 < t1_49 then some 1 else (if x6_49 = x7_49 then (if ¬ ((24 + ((K_49.1 3) (Int32.toNatClampNeg 2))) < 0 ∨ 36 ≤ Int32.toNatClampNeg (24 + ((K_49.1 3) (Int32.toNatClampNeg 2)))) then (if ((K_49.1 4) (Int32.toNatClampNeg (24 + ((K_49.1 3) (Int32.toNatClampNeg 2))))) = 1 then some 1 else some 0) else none) else some 0))
def L_isSession_L84 : Nat → SLM → Int32 → Int32 → Int32 → Int32 → Option (SLM)
  | 0, _, _, _, _, _ => none
  | fu + 1, K_84, x6_84, x7_84, x8_84, x9_84 => (if x9_84 ≤ 3 then some K_84 else (if ¬ ((x9_84 - 4) < 0 ∨ 32 ≤ Int32.toNatClampNeg (x9_84 - 4)) then (if ¬ (x9_84 < 0 ∨ 32 ≤ Int32.toNatClampNeg x9_84) then (bnd ((up K_84.1 2 (upd (K_84.1 2) (Int32.toNatClampNeg x9_84) ((K_84.1 2) (Int32.toNatClampNeg (x9_84 - 4))))), K_84.2) fun M_17 => L_isSession_L84 fu M_17 x6_84 x7_84 x8_84 (x9_84 + (-1))) else none) else none))
def L_isSession_J156 (K_156 : SLM) (x8_156 : Int32) (t0_156 : Int32) (t1_156 : Int32) (t2_156 : Int32) (t3_156 : Int32) : Int32 := (if t0_156 ≤ t1_156 then 0 else 1)
def L_isSession_J179 (K_179 : SLM) (x8_179 : Int32) (t0_179 : Int32) (t1_179 : Int32) (t2_179 : Int32) : Int32 := (if t1_179 = t0_179 then 0 else (((K_179.1 3) (Int32.toNatClampNeg 2)) + 1))
def L_isSession_L196 : Nat → SLM → Int32 → Int32 → Option (SLM)
  | 0, _, _, _ => none
  | fu + 1, K_196, x8_196, x9_196 => (if ((K_196.1 3) (Int32.toNatClampNeg 0)) ≤ x9_196 then some K_196 else (if ¬ (((3 * x9_196) + 2) < 0 ∨ 36 ≤ Int32.toNatClampNeg ((3 * x9_196) + 2)) then (bnd ((up K_196.1 0 (upd (K_196.1 0) (Int32.toNatClampNeg ((3 * x9_196) + 2)) (-1))), K_196.2) fun M_41 => L_isSession_L196 fu M_41 x8_196 (x9_196 + 1)) else none))
def L_isSession (K : SLM) : Option (SLM × Int32) := (if ((K.1 3) (Int32.toNatClampNeg 0)) = 0 then ((X6_session K.2).bind fun u_50 => (bnd (K.1, u_50.1) fun M_52 => (if u_50.2 = (-1000002) then some (M_52, 1) else some (M_52, 0)))) else ((L_yes K.1 (-1)).bind fun u_2 => (bnd (u_2.1, K.2) fun M_4 => ((L_seats M_4.1).bind fun u_6 => ((L_isSession_J49 M_4 u_2.2 (u_6 - u_2.2) (u_6 - u_2.2) u_2.2).bind fun u_12 => ((L_isSession_L84 FUEL M_4 u_2.2 (u_6 - u_2.2) u_12 31).bind fun u_19 => (bnd ((up u_19.1 2 (upd (u_19.1 2) (Int32.toNatClampNeg 0) u_2.2)), u_19.2) fun M_21 => (bnd ((up M_21.1 2 (upd (M_21.1 2) (Int32.toNatClampNeg 1) (u_6 - u_2.2))), M_21.2) fun M_23 => (bnd ((up M_23.1 2 (upd (M_23.1 2) (Int32.toNatClampNeg 2) u_12)), M_23.2) fun M_25 => (bnd ((up M_25.1 2 (upd (M_25.1 2) (Int32.toNatClampNeg 3) ((M_25.1 3) (Int32.toNatClampNeg 2)))), M_25.2) fun M_27 => (bnd ((up M_27.1 3 (upd (M_27.1 3) (Int32.toNatClampNeg 3) (((M_27.1 3) (Int32.toNatClampNeg 3)) + 1))), M_27.2) fun M_29 => (bnd ((up M_29.1 3 (upd (M_29.1 3) (Int32.toNatClampNeg 4) (((M_29.1 3) (Int32.toNatClampNeg 4)) + u_12))), M_29.2) fun M_31 => (bnd ((up M_31.1 3 (upd (M_31.1 3) (Int32.toNatClampNeg 5) (((M_31.1 3) (Int32.toNatClampNeg 5)) + (L_isSession_J156 M_31 u_12 8 ((M_31.1 3) (Int32.toNatClampNeg 5)) ((M_31.1 3) (Int32.toNatClampNeg 5)) 5)))), M_31.2) fun M_34 => (bnd ((up M_34.1 3 (upd (M_34.1 3) (Int32.toNatClampNeg 2) (L_isSession_J179 M_34 u_12 ((M_34.1 3) (Int32.toNatClampNeg 0)) (((M_34.1 3) (Int32.toNatClampNeg 2)) + 1) 2))), M_34.2) fun M_37 => ((L_isSession_L196 FUEL M_37 u_12 0).bind fun u_43 => ((X6_session u_43.2).bind fun u_45 => (bnd (u_43.1, u_45.1) fun M_47 => (if u_45.2 = u_12 then some (M_47, 1) else some (M_47, 0)))))))))))))))))))
abbrev rm_L_isSession : Room := { frames := 7, cells := 0, slots := 0, locals := 165 }
set_option maxHeartbeats 4000000 in
set_option maxRecDepth 100000 in
theorem c_L_isSession (l : Launch) (D : va_G) (cI cP : ClassId) (o h : Nat) (tx tn : Nat → Nat) (Ad : Nat → Nat → Nat) (a : Nat → Nat) (K : SLM) (z : SLM × Int32) (hf : L_isSession K  = some z) : MWi l yL_isSession cL_isSession 10 (some .boolean) rm_L_isSession D cI cP [.ref o, .ref (a 0), .ref (a 1), .ref (a 2), .ref (a 3), .ref (a 4)] (wLM cI cP o h tx tn Ad a K) (wLM cI cP o h tx tn Ad a z.1) z.2 := by
  refine MWi.of (by decide +kernel) (Nat.le_of_ble_eq_true rfl) ?_
  intro p e s m args below meth c ls A F hX hP hD hA hS hl
  have F : Fx p s m args meth c RL cL_isSession 10 (some .boolean) := F
  have hx := F.1
  have hb := F.2.1
  have hown := F.2.2.2.1
  have hts := F.2.2.2.2.1
  have hl : lv_has ls 10 [(0, .ref o), (1, .ref (a 0)), (2, .ref (a 1)), (3, .ref (a 2)), (4, .ref (a 3)), (5, .ref (a 4))] := hl
  unfold L_isSession at hf
  refine lv_aload hx hb dL_isSession_0 (lv_at hl 4 rfl) ?_
  refine lv_iconst (v := 0) hx hb dL_isSession_2 (by decide) ?_
  refine va_iald hx hb hX.1 hP 3 0 (n := 8) (f := (K.1 3)) rfl rfl (by decide : ¬ ((0 : Int32) < 0 ∨ 8 ≤ Int32.toNatClampNeg 0)) dL_isSession_3 ?_
  refine lv_if_ne (tgt := 22) hx hb dL_isSession_4 (by decide) (fun c_1 => ?_) (fun c_1 => ?_)
  · replace hf := (if_neg c_1).symm.trans hf
    refine lv_aload_n hx hb dL_isSession_22 rfl (lv_at hl 1 rfl) ?_
    refine lv_aload_n hx hb dL_isSession_23 rfl (lv_at hl 2 rfl) ?_
    refine lv_aload hx hb dL_isSession_24 (lv_at hl 4 rfl) ?_
    refine lv_aload hx hb dL_isSession_26 (lv_at hl 5 rfl) ?_
    refine lv_iconst (v := (-1)) hx hb dL_isSession_28 (by decide) ?_
    obtain ⟨u_2, h_3, hf⟩ := ob hf
    refine k_wi (runS F wdL_19 (rm := rm_L_yes) (As := [.ref (a 0), .ref (a 1), .ref (a 3), .ref (a 4), .int (-1)]) (rest := []) ⟨rfl, rfl⟩ ⟨Nat.le_of_ble_eq_true rfl, Nat.le_of_ble_eq_true rfl⟩ hl.1 rfl rfl (Nat.le_of_ble_eq_true rfl) dL_isSession_29 ⟨Nat.zero_le _, Nat.zero_le _⟩) (c_L_yes l D cI cP a K.1 (-1) _ h_3) hX trivial (Cut.one (Bs := (bLM cI cP o h tx tn Ad a K)) (k := 0) rfl rfl) hP hD hS hA (fun H locs hP hD hS => ?_)
    obtain ⟨M_4, e_5, hf⟩ := bnd_e hf
    have hP : va_P D vwCl (wLM cI cP o h tx tn Ad a M_4) H := by rw [e_5]; exact hP
    have hD : va_D A (wLM cI cP o h tx tn Ad a M_4) := by rw [e_5]; exact hD
    clear e_5
    refine lv_istore (lv' := [(6, .int u_2.2), (0, .ref o), (1, .ref (a 0)), (2, .ref (a 1)), (3, .ref (a 2)), (4, .ref (a 3)), (5, .ref (a 4))]) hx hb dL_isSession_32 hl (by decide) rfl (fun ls hl => ?_)
    refine lv_aload_n hx hb dL_isSession_34 rfl (lv_at hl 2 rfl) ?_
    refine lv_aload hx hb dL_isSession_35 (lv_at hl 5 rfl) ?_
    obtain ⟨u_6, h_7, hf⟩ := ob hf
    refine k_rd (runS F wdL_22 (rm := rm_L_seats) (As := [.ref (a 0), .ref (a 3)]) (rest := []) ⟨rfl, rfl⟩ ⟨Nat.le_of_ble_eq_true rfl, Nat.le_of_ble_eq_true rfl⟩ hl.1 rfl rfl (Nat.le_of_ble_eq_true rfl) dL_isSession_37 ⟨Nat.zero_le _, Nat.zero_le _⟩) (c_L_seats l D cI cP a M_4.1  _ h_7) hX trivial (va_blk (Bs := (bLM cI cP o h tx tn Ad a M_4)) hP 0 rfl) hP hS hA (fun H locs hP hS => ?_)
    refine lv_iload hx hb dL_isSession_40 (lv_at hl 0 rfl) ?_
    refine lv_isub hx hb dL_isSession_42 ?_
    refine lv_istore (lv' := [(7, .int (u_6 - u_2.2)), (6, .int u_2.2), (0, .ref o), (1, .ref (a 0)), (2, .ref (a 1)), (3, .ref (a 2)), (4, .ref (a 3)), (5, .ref (a 4))]) hx hb dL_isSession_43 hl (by decide) rfl (fun ls hl => ?_)
    refine lv_iload hx hb dL_isSession_45 (lv_at hl 1 rfl) ?_
    refine lv_iload hx hb dL_isSession_47 (lv_at hl 0 rfl) ?_
    have hJ_49 : ∀ (K_49 : SLM) (x6_49 : Int32) (x7_49 : Int32) (t0_49 : Int32) (t1_49 : Int32) (v : Int32) (H : Heap) (locs : List Loc) (ls : Array Slot), L_isSession_J49 K_49 x6_49 x7_49 t0_49 t1_49 = some v → va_P D vwCl (wLM cI cP o h tx tn Ad a K_49) H → va_D A (wLM cI cP o h tx tn Ad a K_49) → va_S A s.heap H locs → lv_has ls 10 [(7, .int x7_49), (6, .int x6_49), (0, .ref o), (1, .ref (a 0)), (3, .ref (a 2)), (4, .ref (a 3)), (5, .ref (a 4))] → (∀ (H : Heap) (locs : List Loc) (ls : Array Slot), va_P D vwCl (wLM cI cP o h tx tn Ad a K_49) H → va_D A (wLM cI cP o h tx tn Ad a K_49) → va_S A s.heap H locs → lv_has ls 10 [(0, .ref o), (1, .ref (a 0)), (3, .ref (a 2)), (4, .ref (a 3)), (6, .int x6_49), (7, .int x7_49)] → W p l e rm_L_isSession s m args below meth c H locs 0 0 (QWi D below args s A (wLM cI cP o h tx tn Ad a z.1) z.2) (F0 m 78 ls [.int v])) → W p l e rm_L_isSession s m args below meth c H locs 0 0 (QWi D below args s A (wLM cI cP o h tx tn Ad a z.1) z.2) (F0 m 49 ls [.int t0_49, .int t1_49]) := by
      intro K_49 x6_49 x7_49 t0_49 t1_49 v _ _ ls hf hP hD hS hl hk
      unfold L_isSession_J49 at hf
      refine lv_icmp_gt (tgt := 73) hx hb dL_isSession_49 (by decide) (fun c_8 => ?_) (fun c_8 => ?_)
      · replace hf := (if_pos c_8).symm.trans hf
        refine lv_iconst (v := 1) hx hb dL_isSession_73 (by decide) ?_
        refine lv_goto (tgt := 78) hx hb dL_isSession_74 (by decide) ?_
        obtain rfl := Option.some.inj hf
        exact hk _ _ ls hP hD hS (lv_sub hl [2, 3, 4, 5, 1, 0] rfl)
      · replace hf := (if_neg c_8).symm.trans hf
        refine lv_iload hx hb dL_isSession_52 (lv_at hl 1 rfl) ?_
        refine lv_iload hx hb dL_isSession_54 (lv_at hl 0 rfl) ?_
        refine lv_icmp_ne (tgt := 77) hx hb dL_isSession_56 (by decide) (fun c_9 => ?_) (fun c_9 => ?_)
        · replace hf := (if_neg c_9).symm.trans hf
          refine lv_iconst (v := 0) hx hb dL_isSession_77 (by decide) ?_
          obtain rfl := Option.some.inj hf
          exact hk _ _ ls hP hD hS (lv_sub hl [2, 3, 4, 5, 1, 0] rfl)
        · replace hf := (if_pos c_9).symm.trans hf
          refine lv_aload hx hb dL_isSession_59 (lv_at hl 6 rfl) ?_
          refine lv_bipush (v := 24) hx hb dL_isSession_61 (by decide) ?_
          refine lv_aload hx hb dL_isSession_63 (lv_at hl 5 rfl) ?_
          refine lv_iconst (v := 2) hx hb dL_isSession_65 (by decide) ?_
          refine va_iald hx hb hX.1 hP 3 0 (n := 8) (f := (K_49.1 3)) rfl rfl (by decide : ¬ ((2 : Int32) < 0 ∨ 8 ≤ Int32.toNatClampNeg 2)) dL_isSession_66 ?_
          refine lv_iadd hx hb dL_isSession_67 ?_
          have g_10 := og hf
          replace hf := (if_pos g_10).symm.trans hf
          refine va_iald hx hb hX.1 hP 4 0 (n := 36) (f := (K_49.1 4)) rfl rfl g_10 dL_isSession_68 ?_
          refine lv_iconst (v := 1) hx hb dL_isSession_69 (by decide) ?_
          refine lv_icmp_ne (tgt := 77) hx hb dL_isSession_70 (by decide) (fun c_11 => ?_) (fun c_11 => ?_)
          · replace hf := (if_neg c_11).symm.trans hf
            refine lv_iconst (v := 0) hx hb dL_isSession_77 (by decide) ?_
            obtain rfl := Option.some.inj hf
            exact hk _ _ ls hP hD hS (lv_sub hl [2, 3, 4, 5, 1, 0] rfl)
          · replace hf := (if_pos c_11).symm.trans hf
            refine lv_iconst (v := 1) hx hb dL_isSession_73 (by decide) ?_
            refine lv_goto (tgt := 78) hx hb dL_isSession_74 (by decide) ?_
            obtain rfl := Option.some.inj hf
            exact hk _ _ ls hP hD hS (lv_sub hl [2, 3, 4, 5, 1, 0] rfl)
    obtain ⟨u_12, h_13, hf⟩ := ob hf
    refine hJ_49 M_4 u_2.2 (u_6 - u_2.2) (u_6 - u_2.2) u_2.2 u_12 _ _ ls h_13 hP hD hS (lv_sub hl [0, 1, 2, 3, 5, 6, 7] rfl) (fun H locs ls hP hD hS hl => ?_)
    clear hJ_49
    refine lv_istore (lv' := [(8, .int u_12), (0, .ref o), (1, .ref (a 0)), (3, .ref (a 2)), (4, .ref (a 3)), (6, .int u_2.2), (7, .int (u_6 - u_2.2))]) hx hb dL_isSession_78 hl (by decide) rfl (fun ls hl => ?_)
    refine lv_bipush (v := 31) hx hb dL_isSession_80 (by decide) ?_
    refine lv_istore (lv' := [(9, .int 31), (8, .int u_12), (0, .ref o), (1, .ref (a 0)), (3, .ref (a 2)), (4, .ref (a 3)), (6, .int u_2.2), (7, .int (u_6 - u_2.2))]) hx hb dL_isSession_82 hl (by decide) rfl (fun ls hl => ?_)
    have hL_84 : ∀ (fu : Nat) (K_84 : SLM) (x6_84 : Int32) (x7_84 : Int32) (x8_84 : Int32) (x9_84 : Int32) (v : SLM) (H : Heap) (locs : List Loc) (ls : Array Slot), L_isSession_L84 fu K_84 x6_84 x7_84 x8_84 x9_84 = some v → va_P D vwCl (wLM cI cP o h tx tn Ad a K_84) H → va_D A (wLM cI cP o h tx tn Ad a K_84) → va_S A s.heap H locs → lv_has ls 10 [(0, .ref o), (1, .ref (a 0)), (3, .ref (a 2)), (4, .ref (a 3)), (6, .int x6_84), (7, .int x7_84), (8, .int x8_84), (9, .int x9_84)] → (∀ (H : Heap) (locs : List Loc) (ls : Array Slot), va_P D vwCl (wLM cI cP o h tx tn Ad a v) H → va_D A (wLM cI cP o h tx tn Ad a v) → va_S A s.heap H locs → lv_has ls 10 [(0, .ref o), (1, .ref (a 0)), (3, .ref (a 2)), (4, .ref (a 3)), (6, .int x6_84), (7, .int x7_84), (8, .int x8_84)] → W p l e rm_L_isSession s m args below meth c H locs 0 0 (QWi D below args s A (wLM cI cP o h tx tn Ad a z.1) z.2) (F0 m 106 ls [])) → W p l e rm_L_isSession s m args below meth c H locs 0 0 (QWi D below args s A (wLM cI cP o h tx tn Ad a z.1) z.2) (F0 m 84 ls []) := by
      intro fu
      induction fu with
      | zero =>
        intro K_84 x6_84 x7_84 x8_84 x9_84 v H locs ls hf
        exact absurd hf (by simp [L_isSession_L84])
      | succ fu ih =>
        intro K_84 x6_84 x7_84 x8_84 x9_84 v _ _ ls hf hP hD hS hl hk
        rw [L_isSession_L84] at hf
        refine lv_iload hx hb dL_isSession_84 (lv_at hl 7 rfl) ?_
        refine lv_iconst (v := 3) hx hb dL_isSession_86 (by decide) ?_
        refine lv_icmp_le (tgt := 106) hx hb dL_isSession_87 (by decide) (fun c_14 => ?_) (fun c_14 => ?_)
        · replace hf := (if_pos c_14).symm.trans hf
          obtain rfl := Option.some.inj hf
          exact hk _ _ ls hP hD hS (lv_sub hl [0, 1, 2, 3, 4, 5, 6] rfl)
        · replace hf := (if_neg c_14).symm.trans hf
          refine lv_aload_n hx hb dL_isSession_90 rfl (lv_at hl 2 rfl) ?_
          refine lv_iload hx hb dL_isSession_91 (lv_at hl 7 rfl) ?_
          refine lv_aload_n hx hb dL_isSession_93 rfl (lv_at hl 2 rfl) ?_
          refine lv_iload hx hb dL_isSession_94 (lv_at hl 7 rfl) ?_
          refine lv_iconst (v := 4) hx hb dL_isSession_96 (by decide) ?_
          refine lv_isub hx hb dL_isSession_97 ?_
          have g_15 := og hf
          replace hf := (if_pos g_15).symm.trans hf
          refine va_iald hx hb hX.1 hP 2 0 (n := 32) (f := (K_84.1 2)) rfl rfl g_15 dL_isSession_98 ?_
          have g_16 := og hf
          replace hf := (if_pos g_16).symm.trans hf
          refine va_iast hx hb hX.1 hP hD hS 2 0 (n := 32) (f := (K_84.1 2)) rfl rfl g_16 dL_isSession_99 (fun H locs hP hD hS => ?_)
          obtain ⟨M_17, e_18, hf⟩ := bnd_e hf
          have hP : va_P D vwCl (wLM cI cP o h tx tn Ad a M_17) H := by rw [e_18]; exact hP
          have hD : va_D A (wLM cI cP o h tx tn Ad a M_17) := by rw [e_18]; exact hD
          clear e_18
          refine lv_iinc (v := (x9_84 + (-1))) (lv' := [(9, .int (x9_84 + (-1))), (0, .ref o), (1, .ref (a 0)), (3, .ref (a 2)), (4, .ref (a 3)), (6, .int x6_84), (7, .int x7_84), (8, .int x8_84)]) hx hb dL_isSession_100 hl (k := 7) rfl (by rfl) (by decide) rfl (fun ls hl => ?_)
          refine lv_goto (tgt := 84) hx hb dL_isSession_103 (by decide) ?_
          exact ih M_17 x6_84 x7_84 x8_84 (x9_84 + (-1)) _ _ _ ls hf hP hD hS (lv_sub hl [1, 2, 3, 4, 5, 6, 7, 0] rfl) hk
    obtain ⟨u_19, h_20, hf⟩ := ob hf
    refine hL_84 FUEL M_4 u_2.2 (u_6 - u_2.2) u_12 31 u_19 _ _ ls h_20 hP hD hS (lv_sub hl [2, 3, 4, 5, 6, 7, 1, 0] rfl) (fun H locs ls hP hD hS hl => ?_)
    clear hL_84
    refine lv_aload_n hx hb dL_isSession_106 rfl (lv_at hl 2 rfl) ?_
    refine lv_iconst (v := 0) hx hb dL_isSession_107 (by decide) ?_
    refine lv_iload hx hb dL_isSession_108 (lv_at hl 4 rfl) ?_
    refine va_iast hx hb hX.1 hP hD hS 2 0 (n := 32) (f := (u_19.1 2)) rfl rfl (by decide : ¬ ((0 : Int32) < 0 ∨ 32 ≤ Int32.toNatClampNeg 0)) dL_isSession_110 (fun H locs hP hD hS => ?_)
    obtain ⟨M_21, e_22, hf⟩ := bnd_e hf
    have hP : va_P D vwCl (wLM cI cP o h tx tn Ad a M_21) H := by rw [e_22]; exact hP
    have hD : va_D A (wLM cI cP o h tx tn Ad a M_21) := by rw [e_22]; exact hD
    clear e_22
    refine lv_aload_n hx hb dL_isSession_111 rfl (lv_at hl 2 rfl) ?_
    refine lv_iconst (v := 1) hx hb dL_isSession_112 (by decide) ?_
    refine lv_iload hx hb dL_isSession_113 (lv_at hl 5 rfl) ?_
    refine va_iast hx hb hX.1 hP hD hS 2 0 (n := 32) (f := (M_21.1 2)) rfl rfl (by decide : ¬ ((1 : Int32) < 0 ∨ 32 ≤ Int32.toNatClampNeg 1)) dL_isSession_115 (fun H locs hP hD hS => ?_)
    obtain ⟨M_23, e_24, hf⟩ := bnd_e hf
    have hP : va_P D vwCl (wLM cI cP o h tx tn Ad a M_23) H := by rw [e_24]; exact hP
    have hD : va_D A (wLM cI cP o h tx tn Ad a M_23) := by rw [e_24]; exact hD
    clear e_24
    refine lv_aload_n hx hb dL_isSession_116 rfl (lv_at hl 2 rfl) ?_
    refine lv_iconst (v := 2) hx hb dL_isSession_117 (by decide) ?_
    refine lv_iload hx hb dL_isSession_118 (lv_at hl 6 rfl) ?_
    refine va_iast hx hb hX.1 hP hD hS 2 0 (n := 32) (f := (M_23.1 2)) rfl rfl (by decide : ¬ ((2 : Int32) < 0 ∨ 32 ≤ Int32.toNatClampNeg 2)) dL_isSession_120 (fun H locs hP hD hS => ?_)
    obtain ⟨M_25, e_26, hf⟩ := bnd_e hf
    have hP : va_P D vwCl (wLM cI cP o h tx tn Ad a M_25) H := by rw [e_26]; exact hP
    have hD : va_D A (wLM cI cP o h tx tn Ad a M_25) := by rw [e_26]; exact hD
    clear e_26
    refine lv_aload_n hx hb dL_isSession_121 rfl (lv_at hl 2 rfl) ?_
    refine lv_iconst (v := 3) hx hb dL_isSession_122 (by decide) ?_
    refine lv_aload hx hb dL_isSession_123 (lv_at hl 3 rfl) ?_
    refine lv_iconst (v := 2) hx hb dL_isSession_125 (by decide) ?_
    refine va_iald hx hb hX.1 hP 3 0 (n := 8) (f := (M_25.1 3)) rfl rfl (by decide : ¬ ((2 : Int32) < 0 ∨ 8 ≤ Int32.toNatClampNeg 2)) dL_isSession_126 ?_
    refine va_iast hx hb hX.1 hP hD hS 2 0 (n := 32) (f := (M_25.1 2)) rfl rfl (by decide : ¬ ((3 : Int32) < 0 ∨ 32 ≤ Int32.toNatClampNeg 3)) dL_isSession_127 (fun H locs hP hD hS => ?_)
    obtain ⟨M_27, e_28, hf⟩ := bnd_e hf
    have hP : va_P D vwCl (wLM cI cP o h tx tn Ad a M_27) H := by rw [e_28]; exact hP
    have hD : va_D A (wLM cI cP o h tx tn Ad a M_27) := by rw [e_28]; exact hD
    clear e_28
    refine lv_aload hx hb dL_isSession_128 (lv_at hl 3 rfl) ?_
    refine lv_iconst (v := 3) hx hb dL_isSession_130 (by decide) ?_
    refine lv_dup2_11 hx hb dL_isSession_131 rfl rfl ?_
    refine va_iald hx hb hX.1 hP 3 0 (n := 8) (f := (M_27.1 3)) rfl rfl (by decide : ¬ ((3 : Int32) < 0 ∨ 8 ≤ Int32.toNatClampNeg 3)) dL_isSession_132 ?_
    refine lv_iconst (v := 1) hx hb dL_isSession_133 (by decide) ?_
    refine lv_iadd hx hb dL_isSession_134 ?_
    refine va_iast hx hb hX.1 hP hD hS 3 0 (n := 8) (f := (M_27.1 3)) rfl rfl (by decide : ¬ ((3 : Int32) < 0 ∨ 8 ≤ Int32.toNatClampNeg 3)) dL_isSession_135 (fun H locs hP hD hS => ?_)
    obtain ⟨M_29, e_30, hf⟩ := bnd_e hf
    have hP : va_P D vwCl (wLM cI cP o h tx tn Ad a M_29) H := by rw [e_30]; exact hP
    have hD : va_D A (wLM cI cP o h tx tn Ad a M_29) := by rw [e_30]; exact hD
    clear e_30
    refine lv_aload hx hb dL_isSession_136 (lv_at hl 3 rfl) ?_
    refine lv_iconst (v := 4) hx hb dL_isSession_138 (by decide) ?_
    refine lv_dup2_11 hx hb dL_isSession_139 rfl rfl ?_
    refine va_iald hx hb hX.1 hP 3 0 (n := 8) (f := (M_29.1 3)) rfl rfl (by decide : ¬ ((4 : Int32) < 0 ∨ 8 ≤ Int32.toNatClampNeg 4)) dL_isSession_140 ?_
    refine lv_iload hx hb dL_isSession_141 (lv_at hl 6 rfl) ?_
    refine lv_iadd hx hb dL_isSession_143 ?_
    refine va_iast hx hb hX.1 hP hD hS 3 0 (n := 8) (f := (M_29.1 3)) rfl rfl (by decide : ¬ ((4 : Int32) < 0 ∨ 8 ≤ Int32.toNatClampNeg 4)) dL_isSession_144 (fun H locs hP hD hS => ?_)
    obtain ⟨M_31, e_32, hf⟩ := bnd_e hf
    have hP : va_P D vwCl (wLM cI cP o h tx tn Ad a M_31) H := by rw [e_32]; exact hP
    have hD : va_D A (wLM cI cP o h tx tn Ad a M_31) := by rw [e_32]; exact hD
    clear e_32
    refine lv_aload hx hb dL_isSession_145 (lv_at hl 3 rfl) ?_
    refine lv_iconst (v := 5) hx hb dL_isSession_147 (by decide) ?_
    refine lv_dup2_11 hx hb dL_isSession_148 rfl rfl ?_
    refine va_iald hx hb hX.1 hP 3 0 (n := 8) (f := (M_31.1 3)) rfl rfl (by decide : ¬ ((5 : Int32) < 0 ∨ 8 ≤ Int32.toNatClampNeg 5)) dL_isSession_149 ?_
    refine lv_aload hx hb dL_isSession_150 (lv_at hl 3 rfl) ?_
    refine lv_iconst (v := 5) hx hb dL_isSession_152 (by decide) ?_
    refine va_iald hx hb hX.1 hP 3 0 (n := 8) (f := (M_31.1 3)) rfl rfl (by decide : ¬ ((5 : Int32) < 0 ∨ 8 ≤ Int32.toNatClampNeg 5)) dL_isSession_153 ?_
    refine lv_bipush (v := 8) hx hb dL_isSession_154 (by decide) ?_
    have hJ_156 : ∀ (K_156 : SLM) (x8_156 : Int32) (t0_156 : Int32) (t1_156 : Int32) (t2_156 : Int32) (t3_156 : Int32) (v : Int32) (H : Heap) (locs : List Loc) (ls : Array Slot), L_isSession_J156 K_156 x8_156 t0_156 t1_156 t2_156 t3_156 = v → va_P D vwCl (wLM cI cP o h tx tn Ad a K_156) H → va_D A (wLM cI cP o h tx tn Ad a K_156) → va_S A s.heap H locs → lv_has ls 10 [(0, .ref o), (1, .ref (a 0)), (4, .ref (a 3)), (8, .int x8_156)] → (∀ (H : Heap) (locs : List Loc) (ls : Array Slot), va_P D vwCl (wLM cI cP o h tx tn Ad a K_156) H → va_D A (wLM cI cP o h tx tn Ad a K_156) → va_S A s.heap H locs → lv_has ls 10 [(0, .ref o), (1, .ref (a 0)), (4, .ref (a 3)), (8, .int x8_156)] → W p l e rm_L_isSession s m args below meth c H locs 0 0 (QWi D below args s A (wLM cI cP o h tx tn Ad a z.1) z.2) (F0 m 164 ls [.int v, .int t2_156, .int t3_156, .ref (a 3)])) → W p l e rm_L_isSession s m args below meth c H locs 0 0 (QWi D below args s A (wLM cI cP o h tx tn Ad a z.1) z.2) (F0 m 156 ls [.int t0_156, .int t1_156, .int t2_156, .int t3_156, .ref (a 3)]) := by
      intro K_156 x8_156 t0_156 t1_156 t2_156 t3_156 v _ _ ls hf hP hD hS hl hk
      unfold L_isSession_J156 at hf
      refine lv_icmp_ge (tgt := 163) hx hb dL_isSession_156 (by decide) (fun c_33 => ?_) (fun c_33 => ?_)
      · replace hf := (if_pos c_33).symm.trans hf
        refine lv_iconst (v := 0) hx hb dL_isSession_163 (by decide) ?_
        obtain rfl := hf
        exact hk _ _ ls hP hD hS hl
      · replace hf := (if_neg c_33).symm.trans hf
        refine lv_iconst (v := 1) hx hb dL_isSession_159 (by decide) ?_
        refine lv_goto (tgt := 164) hx hb dL_isSession_160 (by decide) ?_
        obtain rfl := hf
        exact hk _ _ ls hP hD hS hl
    refine hJ_156 M_31 u_12 8 ((M_31.1 3) (Int32.toNatClampNeg 5)) ((M_31.1 3) (Int32.toNatClampNeg 5)) 5 _ _ _ ls rfl hP hD hS (lv_sub hl [0, 1, 3, 6] rfl) (fun H locs ls hP hD hS hl => ?_)
    clear hJ_156
    refine lv_iadd hx hb dL_isSession_164 ?_
    refine va_iast hx hb hX.1 hP hD hS 3 0 (n := 8) (f := (M_31.1 3)) rfl rfl (by decide : ¬ ((5 : Int32) < 0 ∨ 8 ≤ Int32.toNatClampNeg 5)) dL_isSession_165 (fun H locs hP hD hS => ?_)
    obtain ⟨M_34, e_35, hf⟩ := bnd_e hf
    have hP : va_P D vwCl (wLM cI cP o h tx tn Ad a M_34) H := by rw [e_35]; exact hP
    have hD : va_D A (wLM cI cP o h tx tn Ad a M_34) := by rw [e_35]; exact hD
    clear e_35
    refine lv_aload hx hb dL_isSession_166 (lv_at hl 2 rfl) ?_
    refine lv_iconst (v := 2) hx hb dL_isSession_168 (by decide) ?_
    refine lv_aload hx hb dL_isSession_169 (lv_at hl 2 rfl) ?_
    refine lv_iconst (v := 2) hx hb dL_isSession_171 (by decide) ?_
    refine va_iald hx hb hX.1 hP 3 0 (n := 8) (f := (M_34.1 3)) rfl rfl (by decide : ¬ ((2 : Int32) < 0 ∨ 8 ≤ Int32.toNatClampNeg 2)) dL_isSession_172 ?_
    refine lv_iconst (v := 1) hx hb dL_isSession_173 (by decide) ?_
    refine lv_iadd hx hb dL_isSession_174 ?_
    refine lv_aload hx hb dL_isSession_175 (lv_at hl 2 rfl) ?_
    refine lv_iconst (v := 0) hx hb dL_isSession_177 (by decide) ?_
    refine va_iald hx hb hX.1 hP 3 0 (n := 8) (f := (M_34.1 3)) rfl rfl (by decide : ¬ ((0 : Int32) < 0 ∨ 8 ≤ Int32.toNatClampNeg 0)) dL_isSession_178 ?_
    have hJ_179 : ∀ (K_179 : SLM) (x8_179 : Int32) (t0_179 : Int32) (t1_179 : Int32) (t2_179 : Int32) (v : Int32) (H : Heap) (locs : List Loc) (ls : Array Slot), L_isSession_J179 K_179 x8_179 t0_179 t1_179 t2_179 = v → va_P D vwCl (wLM cI cP o h tx tn Ad a K_179) H → va_D A (wLM cI cP o h tx tn Ad a K_179) → va_S A s.heap H locs → lv_has ls 10 [(0, .ref o), (1, .ref (a 0)), (4, .ref (a 3)), (8, .int x8_179)] → (∀ (H : Heap) (locs : List Loc) (ls : Array Slot), va_P D vwCl (wLM cI cP o h tx tn Ad a K_179) H → va_D A (wLM cI cP o h tx tn Ad a K_179) → va_S A s.heap H locs → lv_has ls 10 [(0, .ref o), (1, .ref (a 0)), (4, .ref (a 3)), (8, .int x8_179)] → W p l e rm_L_isSession s m args below meth c H locs 0 0 (QWi D below args s A (wLM cI cP o h tx tn Ad a z.1) z.2) (F0 m 192 ls [.int v, .int t2_179, .ref (a 3)])) → W p l e rm_L_isSession s m args below meth c H locs 0 0 (QWi D below args s A (wLM cI cP o h tx tn Ad a z.1) z.2) (F0 m 179 ls [.int t0_179, .int t1_179, .int t2_179, .ref (a 3)]) := by
      intro K_179 x8_179 t0_179 t1_179 t2_179 v _ _ ls hf hP hD hS hl hk
      unfold L_isSession_J179 at hf
      refine lv_icmp_ne (tgt := 186) hx hb dL_isSession_179 (by decide) (fun c_36 => ?_) (fun c_36 => ?_)
      · replace hf := (if_neg c_36).symm.trans hf
        refine lv_aload hx hb dL_isSession_186 (lv_at hl 2 rfl) ?_
        refine lv_iconst (v := 2) hx hb dL_isSession_188 (by decide) ?_
        refine va_iald hx hb hX.1 hP 3 0 (n := 8) (f := (K_179.1 3)) rfl rfl (by decide : ¬ ((2 : Int32) < 0 ∨ 8 ≤ Int32.toNatClampNeg 2)) dL_isSession_189 ?_
        refine lv_iconst (v := 1) hx hb dL_isSession_190 (by decide) ?_
        refine lv_iadd hx hb dL_isSession_191 ?_
        obtain rfl := hf
        exact hk _ _ ls hP hD hS hl
      · replace hf := (if_pos c_36).symm.trans hf
        refine lv_iconst (v := 0) hx hb dL_isSession_182 (by decide) ?_
        refine lv_goto (tgt := 192) hx hb dL_isSession_183 (by decide) ?_
        obtain rfl := hf
        exact hk _ _ ls hP hD hS hl
    refine hJ_179 M_34 u_12 ((M_34.1 3) (Int32.toNatClampNeg 0)) (((M_34.1 3) (Int32.toNatClampNeg 2)) + 1) 2 _ _ _ ls rfl hP hD hS hl (fun H locs ls hP hD hS hl => ?_)
    clear hJ_179
    refine va_iast hx hb hX.1 hP hD hS 3 0 (n := 8) (f := (M_34.1 3)) rfl rfl (by decide : ¬ ((2 : Int32) < 0 ∨ 8 ≤ Int32.toNatClampNeg 2)) dL_isSession_192 (fun H locs hP hD hS => ?_)
    obtain ⟨M_37, e_38, hf⟩ := bnd_e hf
    have hP : va_P D vwCl (wLM cI cP o h tx tn Ad a M_37) H := by rw [e_38]; exact hP
    have hD : va_D A (wLM cI cP o h tx tn Ad a M_37) := by rw [e_38]; exact hD
    clear e_38
    refine lv_iconst (v := 0) hx hb dL_isSession_193 (by decide) ?_
    refine lv_istore (lv' := [(9, .int 0), (0, .ref o), (1, .ref (a 0)), (4, .ref (a 3)), (8, .int u_12)]) hx hb dL_isSession_194 hl (by decide) rfl (fun ls hl => ?_)
    have hL_196 : ∀ (fu : Nat) (K_196 : SLM) (x8_196 : Int32) (x9_196 : Int32) (v : SLM) (H : Heap) (locs : List Loc) (ls : Array Slot), L_isSession_L196 fu K_196 x8_196 x9_196 = some v → va_P D vwCl (wLM cI cP o h tx tn Ad a K_196) H → va_D A (wLM cI cP o h tx tn Ad a K_196) → va_S A s.heap H locs → lv_has ls 10 [(0, .ref o), (1, .ref (a 0)), (4, .ref (a 3)), (8, .int x8_196), (9, .int x9_196)] → (∀ (H : Heap) (locs : List Loc) (ls : Array Slot), va_P D vwCl (wLM cI cP o h tx tn Ad a v) H → va_D A (wLM cI cP o h tx tn Ad a v) → va_S A s.heap H locs → lv_has ls 10 [(0, .ref o), (8, .int x8_196)] → W p l e rm_L_isSession s m args below meth c H locs 0 0 (QWi D below args s A (wLM cI cP o h tx tn Ad a z.1) z.2) (F0 m 220 ls [])) → W p l e rm_L_isSession s m args below meth c H locs 0 0 (QWi D below args s A (wLM cI cP o h tx tn Ad a z.1) z.2) (F0 m 196 ls []) := by
      intro fu
      induction fu with
      | zero =>
        intro K_196 x8_196 x9_196 v H locs ls hf
        exact absurd hf (by simp [L_isSession_L196])
      | succ fu ih =>
        intro K_196 x8_196 x9_196 v _ _ ls hf hP hD hS hl hk
        rw [L_isSession_L196] at hf
        refine lv_iload hx hb dL_isSession_196 (lv_at hl 4 rfl) ?_
        refine lv_aload hx hb dL_isSession_198 (lv_at hl 2 rfl) ?_
        refine lv_iconst (v := 0) hx hb dL_isSession_200 (by decide) ?_
        refine va_iald hx hb hX.1 hP 3 0 (n := 8) (f := (K_196.1 3)) rfl rfl (by decide : ¬ ((0 : Int32) < 0 ∨ 8 ≤ Int32.toNatClampNeg 0)) dL_isSession_201 ?_
        refine lv_icmp_ge (tgt := 220) hx hb dL_isSession_202 (by decide) (fun c_39 => ?_) (fun c_39 => ?_)
        · replace hf := (if_pos c_39).symm.trans hf
          obtain rfl := Option.some.inj hf
          exact hk _ _ ls hP hD hS (lv_sub hl [0, 3] rfl)
        · replace hf := (if_neg c_39).symm.trans hf
          refine lv_aload_n hx hb dL_isSession_205 rfl (lv_at hl 1 rfl) ?_
          refine lv_iconst (v := 3) hx hb dL_isSession_206 (by decide) ?_
          refine lv_iload hx hb dL_isSession_207 (lv_at hl 4 rfl) ?_
          refine lv_imul hx hb dL_isSession_209 ?_
          refine lv_iconst (v := 2) hx hb dL_isSession_210 (by decide) ?_
          refine lv_iadd hx hb dL_isSession_211 ?_
          refine lv_iconst (v := (-1)) hx hb dL_isSession_212 (by decide) ?_
          have g_40 := og hf
          replace hf := (if_pos g_40).symm.trans hf
          refine va_iast hx hb hX.1 hP hD hS 0 0 (n := 36) (f := (K_196.1 0)) rfl rfl g_40 dL_isSession_213 (fun H locs hP hD hS => ?_)
          obtain ⟨M_41, e_42, hf⟩ := bnd_e hf
          have hP : va_P D vwCl (wLM cI cP o h tx tn Ad a M_41) H := by rw [e_42]; exact hP
          have hD : va_D A (wLM cI cP o h tx tn Ad a M_41) := by rw [e_42]; exact hD
          clear e_42
          refine lv_iinc (v := (x9_196 + 1)) (lv' := [(9, .int (x9_196 + 1)), (0, .ref o), (1, .ref (a 0)), (4, .ref (a 3)), (8, .int x8_196)]) hx hb dL_isSession_214 hl (k := 4) rfl (by rfl) (by decide) rfl (fun ls hl => ?_)
          refine lv_goto (tgt := 196) hx hb dL_isSession_217 (by decide) ?_
          exact ih M_41 x8_196 (x9_196 + 1) _ _ _ ls hf hP hD hS (lv_sub hl [1, 2, 3, 4, 0] rfl) hk
    obtain ⟨u_43, h_44, hf⟩ := ob hf
    refine hL_196 FUEL M_37 u_12 0 u_43 _ _ ls h_44 hP hD hS (lv_sub hl [1, 2, 3, 4, 0] rfl) (fun H locs ls hP hD hS hl => ?_)
    clear hL_196
    refine lv_aload_n hx hb dL_isSession_220 rfl (lv_at hl 0 rfl) ?_
    obtain ⟨u_45, h_46, hf⟩ := ob hf
    refine k_wi (runV F wdL_60 (rm := rm_X6_session) (As := []) (rest := []) ⟨rfl, rfl⟩ ⟨Nat.le_of_ble_eq_true rfl, Nat.le_of_ble_eq_true rfl⟩ hl.1 rfl rfl (Nat.le_of_ble_eq_true rfl) dL_isSession_221 ⟨Nat.zero_le _, Nat.zero_le _⟩) (c_X6_session l D cI cP o h tx tn Ad u_43.2  _ h_46) hX (va_recv hX.1 (va_blk (Bs := (bLM cI cP o h tx tn Ad a u_43)) hP 1 rfl) (ci := 6) (q0 := 0) rfl rfl) (Cut.one (Bs := (bLM cI cP o h tx tn Ad a u_43)) (k := 1) rfl rfl) hP hD hS hA (fun H locs hP hD hS => ?_)
    obtain ⟨M_47, e_48, hf⟩ := bnd_e hf
    have hP : va_P D vwCl (wLM cI cP o h tx tn Ad a M_47) H := by rw [e_48]; exact hP
    have hD : va_D A (wLM cI cP o h tx tn Ad a M_47) := by rw [e_48]; exact hD
    clear e_48
    refine lv_iload hx hb dL_isSession_224 (lv_at hl 1 rfl) ?_
    refine lv_icmp_ne (tgt := 233) hx hb dL_isSession_226 (by decide) (fun c_49 => ?_) (fun c_49 => ?_)
    · replace hf := (if_neg c_49).symm.trans hf
      refine lv_iconst (v := 0) hx hb dL_isSession_233 (by decide) ?_
      obtain rfl := (Option.some.inj hf)
      exact wr_z F (by decide) rfl hP hS dL_isSession_234
    · replace hf := (if_pos c_49).symm.trans hf
      refine lv_iconst (v := 1) hx hb dL_isSession_229 (by decide) ?_
      refine lv_goto (tgt := 234) hx hb dL_isSession_230 (by decide) ?_
      obtain rfl := (Option.some.inj hf)
      exact wr_z F (by decide) rfl hP hS dL_isSession_234
  · replace hf := (if_pos c_1).symm.trans hf
    refine lv_aload_n hx hb dL_isSession_7 rfl (lv_at hl 0 rfl) ?_
    obtain ⟨u_50, h_51, hf⟩ := ob hf
    refine k_wi (runV F wdL_60 (rm := rm_X6_session) (As := []) (rest := []) ⟨rfl, rfl⟩ ⟨Nat.le_of_ble_eq_true rfl, Nat.le_of_ble_eq_true rfl⟩ hl.1 rfl rfl (Nat.le_of_ble_eq_true rfl) dL_isSession_8 ⟨Nat.zero_le _, Nat.zero_le _⟩) (c_X6_session l D cI cP o h tx tn Ad K.2  _ h_51) hX (va_recv hX.1 (va_blk (Bs := (bLM cI cP o h tx tn Ad a K)) hP 1 rfl) (ci := 6) (q0 := 0) rfl rfl) (Cut.one (Bs := (bLM cI cP o h tx tn Ad a K)) (k := 1) rfl rfl) hP hD hS hA (fun H locs hP hD hS => ?_)
    obtain ⟨M_52, e_53, hf⟩ := bnd_e hf
    have hP : va_P D vwCl (wLM cI cP o h tx tn Ad a M_52) H := by rw [e_53]; exact hP
    have hD : va_D A (wLM cI cP o h tx tn Ad a M_52) := by rw [e_53]; exact hD
    clear e_53
    refine lv_ldc (v := (-1000002)) hx hb hown (hts _ q_536) dL_isSession_11 ?_
    refine lv_icmp_ne (tgt := 20) hx hb dL_isSession_13 (by decide) (fun c_54 => ?_) (fun c_54 => ?_)
    · replace hf := (if_neg c_54).symm.trans hf
      refine lv_iconst (v := 0) hx hb dL_isSession_20 (by decide) ?_
      obtain rfl := (Option.some.inj hf)
      exact wr_z F (by decide) rfl hP hS dL_isSession_21
    · replace hf := (if_pos c_54).symm.trans hf
      refine lv_iconst (v := 1) hx hb dL_isSession_16 (by decide) ?_
      refine lv_goto (tgt := 21) hx hb dL_isSession_17 (by decide) ?_
      obtain rfl := (Option.some.inj hf)
      exact wr_z F (by decide) rfl hP hS dL_isSession_21
def L_isActed_J31 (K_31 : SLM) (x6_31 : Int32) (x8_31 : Int32) (x9_31 : Int32) (x10_31 : Int32) (t0_31 : Int32) (t1_31 : Int32) : Int32 := (if t0_31 ≤ t1_31 then 0 else (if ((K_31.1 3) (Int32.toNatClampNeg 0)) ≤ x9_31 then 0 else (if x8_31 = x9_31 then 0 else 1)))
def L_isActed_J652 (K_652 : SLM) (x8_652 : Int32) (t0_652 : Int32) (t1_652 : Int32) : Option (Int32) := (if t0_652 ≤ t1_652 then some (-2) else (if ¬ (((3 * x8_652) + 2) < 0 ∨ 36 ≤ Int32.toNatClampNeg ((3 * x8_652) + 2)) then some ((K_652.1 0) (Int32.toNatClampNeg ((3 * x8_652) + 2))) else none))
def L_isActed_J672 (K_672 : SLM) (x8_672 : Int32) (x12_672 : Int32) (t0_672 : Int32) : Option (SLM) := (if t0_672 < 0 then some K_672 else (if ¬ (((3 * x8_672) + 2) < 0 ∨ 36 ≤ Int32.toNatClampNeg ((3 * x8_672) + 2)) then (bnd ((up K_672.1 0 (upd (K_672.1 0) (Int32.toNatClampNeg ((3 * x8_672) + 2)) (-1))), K_672.2) fun M_27 => some M_27) else none))
def L_isActed_J549 (K_549 : SLM) (x8_549 : Int32) (x10_549 : Int32) (t0_549 : Int32) (t1_549 : Int32) : Option (SLM × Int32) := (if t0_549 ≤ t1_549 then some (K_549, (-1)) else ((L_whyPull K_549.1 x8_549 (x10_549 - x10_549 / 2 * 2)).bind fun u_41 => (bnd (u_41.1, K_549.2) fun M_43 => some (M_43, u_41.2))))
def L_isActed_J575 (K_575 : SLM) (x8_575 : Int32) (x10_575 : Int32) (x12_575 : Int32) (t0_575 : Int32) : Option (SLM) := (if t0_575 = 0 then (if ¬ (((3 * x8_575) + 2) < 0 ∨ 36 ≤ Int32.toNatClampNeg ((3 * x8_575) + 2)) then (bnd ((up K_575.1 0 (upd (K_575.1 0) (Int32.toNatClampNeg ((3 * x8_575) + 2)) (x10_575 - x10_575 / 2 * 2))), K_575.2) fun M_49 => some M_49) else none) else some K_575)
def L_isActed_L474 : Nat → SLM → Int32 → Int32 → Int32 → Option (SLM × Int32)
  | 0, _, _, _, _ => none
  | fu + 1, K_474, x12_474, x13_474, x14_474 => (if x14_474 < 0 then some (K_474, x13_474) else (if ¬ (((4 * x14_474) + 3) < 0 ∨ 64 ≤ Int32.toNatClampNeg ((4 * x14_474) + 3)) then (if ((K_474.1 1) (Int32.toNatClampNeg ((4 * x14_474) + 3))) = x12_474 then ((L_drop K_474.1 x14_474).bind fun u_69 => (bnd (u_69, K_474.2) fun M_71 => L_isActed_L474 fu M_71 x12_474 (x13_474 + 1) (x14_474 + (-1)))) else L_isActed_L474 fu K_474 x12_474 x13_474 (x14_474 + (-1))) else none))
def L_isActed_J397 (K_397 : SLM) (x12_397 : Int32) (t0_397 : Int32) (t1_397 : Int32) : Int32 := (if t0_397 ≤ t1_397 then 0 else 1)
def L_isActed_J409 (K_409 : SLM) (x12_409 : Int32) (x13_409 : Int32) (t0_409 : Int32) : Option (SLM) := (if t0_409 = 0 then some K_409 else ((L_drop K_409.1 x12_409).bind fun u_84 => (bnd (u_84, K_409.2) fun M_86 => some M_86)))
def L_isActed_J193 (K_193 : SLM) (x8_193 : Int32) (x9_193 : Int32) (x10_193 : Int32) (x12_193 : Int32) (t0_193 : Int32) : Option (SLM × Int32) := (if t0_193 = 0 then some (K_193, (-1)) else ((L_whyTie K_193.1 x8_193 x9_193 x12_193).bind fun u_98 => (bnd (u_98.1, K_193.2) fun M_100 => some (M_100, u_98.2))))
def L_isActed_J244 (K_244 : SLM) (x8_244 : Int32) (x9_244 : Int32) (x10_244 : Int32) (x12_244 : Int32) (x13_244 : Int32) (t0_244 : Int32) (t1_244 : Int32) (t2_244 : Int32) : Int32 := (if t0_244 ≤ t1_244 then x9_244 else x8_244)
def L_isActed_J268 (K_268 : SLM) (x8_268 : Int32) (x9_268 : Int32) (x10_268 : Int32) (x12_268 : Int32) (x13_268 : Int32) (t0_268 : Int32) (t1_268 : Int32) (t2_268 : Int32) : Int32 := (if t0_268 ≤ t1_268 then x8_268 else x9_268)
def L_isActed_J230 (K_230 : SLM) (x8_230 : Int32) (x9_230 : Int32) (x10_230 : Int32) (x12_230 : Int32) (x13_230 : Int32) (t0_230 : Int32) : Option (SLM) := (if t0_230 = 0 then (if ¬ ((4 * ((K_230.1 3) (Int32.toNatClampNeg 1))) < 0 ∨ 64 ≤ Int32.toNatClampNeg (4 * ((K_230.1 3) (Int32.toNatClampNeg 1)))) then (bnd ((up K_230.1 1 (upd (K_230.1 1) (Int32.toNatClampNeg (4 * ((K_230.1 3) (Int32.toNatClampNeg 1)))) (L_isActed_J244 K_230 x8_230 x9_230 x10_230 x12_230 x13_230 x9_230 x8_230 (4 * ((K_230.1 3) (Int32.toNatClampNeg 1)))))), K_230.2) fun M_108 => (if ¬ (((4 * ((M_108.1 3) (Int32.toNatClampNeg 1))) + 1) < 0 ∨ 64 ≤ Int32.toNatClampNeg ((4 * ((M_108.1 3) (Int32.toNatClampNeg 1))) + 1)) then (bnd ((up M_108.1 1 (upd (M_108.1 1) (Int32.toNatClampNeg ((4 * ((M_108.1 3) (Int32.toNatClampNeg 1))) + 1)) (L_isActed_J268 M_108 x8_230 x9_230 x10_230 x12_230 x13_230 x9_230 x8_230 ((4 * ((M_108.1 3) (Int32.toNatClampNeg 1))) + 1)))), M_108.2) fun M_112 => (if ¬ (((4 * ((M_112.1 3) (Int32.toNatClampNeg 1))) + 2) < 0 ∨ 64 ≤ Int32.toNatClampNeg ((4 * ((M_112.1 3) (Int32.toNatClampNeg 1))) + 2)) then (bnd ((up M_112.1 1 (upd (M_112.1 1) (Int32.toNatClampNeg ((4 * ((M_112.1 3) (Int32.toNatClampNeg 1))) + 2)) x12_230)), M_112.2) fun M_115 => (if ¬ (((4 * ((M_115.1 3) (Int32.toNatClampNeg 1))) + 3) < 0 ∨ 64 ≤ Int32.toNatClampNeg ((4 * ((M_115.1 3) (Int32.toNatClampNeg 1))) + 3)) then (bnd ((up M_115.1 1 (upd (M_115.1 1) (Int32.toNatClampNeg ((4 * ((M_115.1 3) (Int32.toNatClampNeg 1))) + 3)) ((x10_230 / 2) - (x10_230 / 2) / 6 * 6))), M_115.2) fun M_118 => (bnd ((up M_118.1 3 (upd (M_118.1 3) (Int32.toNatClampNeg 1) (((M_118.1 3) (Int32.toNatClampNeg 1)) + 1))), M_118.2) fun M_120 => some M_120)) else none)) else none)) else none)) else none) else some K_230)
def L_isActed_J324 (K_324 : SLM) (x10_324 : Int32) (x13_324 : Int32) (t0_324 : Int32) (t1_324 : Int32) (t2_324 : Int32) (t3_324 : Int32) : Int32 := (if t1_324 = t0_324 then 1 else 0)
def L_isActed_J69 (K_69 : SLM) (x10_69 : Int32) (t0_69 : Int32) (t1_69 : Int32) : Int32 := (if t1_69 = t0_69 then 1 else 0)
def L_isActed_J81 (K_81 : SLM) (x10_81 : Int32) (x12_81 : Int32) (t0_81 : Int32) : Option (SLM) := (if t0_81 = 0 then (if ¬ ((3 * ((K_81.1 3) (Int32.toNatClampNeg 0))) < 0 ∨ 36 ≤ Int32.toNatClampNeg (3 * ((K_81.1 3) (Int32.toNatClampNeg 0)))) then (bnd ((up K_81.1 0 (upd (K_81.1 0) (Int32.toNatClampNeg (3 * ((K_81.1 3) (Int32.toNatClampNeg 0)))) (1 + (x10_81 - x10_81 / 9 * 9)))), K_81.2) fun M_137 => (if ¬ (((3 * ((M_137.1 3) (Int32.toNatClampNeg 0))) + 1) < 0 ∨ 36 ≤ Int32.toNatClampNeg ((3 * ((M_137.1 3) (Int32.toNatClampNeg 0))) + 1)) then (bnd ((up M_137.1 0 (upd (M_137.1 0) (Int32.toNatClampNeg ((3 * ((M_137.1 3) (Int32.toNatClampNeg 0))) + 1)) ((x10_81 / 9) - (x10_81 / 9) / 2 * 2))), M_137.2) fun M_140 => (if ¬ (((3 * ((M_140.1 3) (Int32.toNatClampNeg 0))) + 2) < 0 ∨ 36 ≤ Int32.toNatClampNeg ((3 * ((M_140.1 3) (Int32.toNatClampNeg 0))) + 2)) then (bnd ((up M_140.1 0 (upd (M_140.1 0) (Int32.toNatClampNeg ((3 * ((M_140.1 3) (Int32.toNatClampNeg 0))) + 2)) (-1))), M_140.2) fun M_143 => (bnd ((up M_143.1 3 (upd (M_143.1 3) (Int32.toNatClampNeg 0) (((M_143.1 3) (Int32.toNatClampNeg 0)) + 1))), M_143.2) fun M_145 => some M_145)) else none)) else none)) else none) else some K_81)
def L_isActed (K : SLM) (x6 : Int32) (x7 : Int32) : Option (SLM × Int32) := (if 2 ≤ x6 then (if 8 ≤ x6 then (if x6 = 8 then ((L_isActed_J409 K ((x7 / 144) - (x7 / 144) / 15 * 15) (L_isActed_J397 K ((x7 / 144) - (x7 / 144) / 15 * 15) ((K.1 3) (Int32.toNatClampNeg 1)) ((x7 / 144) - (x7 / 144) / 15 * 15)) (L_isActed_J397 K ((x7 / 144) - (x7 / 144) / 15 * 15) ((K.1 3) (Int32.toNatClampNeg 1)) ((x7 / 144) - (x7 / 144) / 15 * 15))).bind fun u_88 => ((X6_cut u_88.2 ((x7 / 144) - (x7 / 144) / 15 * 15)).bind fun u_90 => (bnd (u_88.1, u_90.1) fun M_92 => (if (L_isActed_J397 K ((x7 / 144) - (x7 / 144) / 15 * 15) ((K.1 3) (Int32.toNatClampNeg 1)) ((x7 / 144) - (x7 / 144) / 15 * 15)) = 0 then (if u_90.2 = (-1000001) then some (M_92, 1) else some (M_92, 0)) else (if u_90.2 = ((M_92.1 3) (Int32.toNatClampNeg 1)) then some (M_92, 1) else some (M_92, 0)))))) else (if x6 = 9 then ((L_isActed_L474 FUEL K ((x7 / 144) - (x7 / 144) / 6 * 6) 0 (((K.1 3) (Int32.toNatClampNeg 1)) - 1)).bind fun u_73 => ((X6_cutDeal u_73.1.2 ((x7 / 144) - (x7 / 144) / 6 * 6)).bind fun u_75 => (bnd (u_73.1.1, u_75.1) fun M_77 => (if u_73.2 ≤ 0 then (if u_75.2 = (-1000002) then some (M_77, 1) else some (M_77, 0)) else (if u_75.2 = u_73.2 then some (M_77, 1) else some (M_77, 0)))))) else (if 14 ≤ x6 then (if x6 = 14 then ((L_isActed_J652 K (x7 - x7 / 12 * 12) ((K.1 3) (Int32.toNatClampNeg 0)) (x7 - x7 / 12 * 12)).bind fun u_23 => ((L_isActed_J672 K (x7 - x7 / 12 * 12) u_23 u_23).bind fun u_29 => ((X6_release u_29.2 (x7 - x7 / 12 * 12)).bind fun u_31 => (bnd (u_29.1, u_31.1) fun M_33 => (if u_23 = (-2) then (if u_31.2 = (-1000001) then some (M_33, 1) else some (M_33, 0)) else (if 0 ≤ u_23 then (if u_31.2 = u_23 then some (M_33, 1) else some (M_33, 0)) else (if u_31.2 = (-1000002) then some (M_33, 1) else some (M_33, 0)))))))) else (if x6 = 15 then (bnd ((up K.1 3 (upd (K.1 3) (Int32.toNatClampNeg 7) ((x7 / 144) - (x7 / 144) / 13 * 13))), K.2) fun M_14 => ((X6_set M_14.2 0 ((x7 / 144) - (x7 / 144) / 13 * 13)).bind fun u_16 => (bnd (M_14.1, u_16.1) fun M_18 => (if u_16.2 = ((K.1 3) (Int32.toNatClampNeg 7)) then some (M_18, 1) else some (M_18, 0))))) else ((L_isSession K).bind fun u_11 => (if (u_11.2 = 0 ∨ u_11.2 = 1) then some (u_11.1, u_11.2) else none)))) else ((L_isActed_J549 K (x7 - x7 / 12 * 12) (x7 / 144) ((K.1 3) (Int32.toNatClampNeg 0)) (x7 - x7 / 12 * 12)).bind fun u_45 => ((L_isActed_J575 u_45.1 (x7 - x7 / 12 * 12) (x7 / 144) u_45.2 u_45.2).bind fun u_51 => ((X6_pull u_51.2 (x7 - x7 / 12 * 12) ((x7 / 144) - (x7 / 144) / 2 * 2)).bind fun u_53 => (bnd (u_51.1, u_53.1) fun M_55 => (if u_45.2 = 0 then ((L_yes M_55.1 (-1)).bind fun u_61 => (bnd (u_61.1, M_55.2) fun M_63 => (if u_53.2 = u_61.2 then some (M_63, 1) else some (M_63, 0)))) else (if 0 ≤ u_45.2 then (if u_53.2 = (-1000002) then some (M_55, 1) else some (M_55, 0)) else (if u_53.2 = (-1000001) then some (M_55, 1) else some (M_55, 0))))))))))) else ((L_isActed_J193 K (x7 - x7 / 12 * 12) ((x7 / 12) - (x7 / 12) / 12 * 12) (x7 / 144) ((x7 / 144) - (x7 / 144) / 2 * 2) (L_isActed_J31 K x6 (x7 - x7 / 12 * 12) ((x7 / 12) - (x7 / 12) / 12 * 12) (x7 / 144) ((K.1 3) (Int32.toNatClampNeg 0)) (x7 - x7 / 12 * 12))).bind fun u_102 => (if ((u_102.1.1 3) (Int32.toNatClampNeg 1)) = 15 then some (u_102.1, 1) else ((L_isActed_J230 u_102.1 (x7 - x7 / 12 * 12) ((x7 / 12) - (x7 / 12) / 12 * 12) (x7 / 144) ((x7 / 144) - (x7 / 144) / 2 * 2) u_102.2 u_102.2).bind fun u_122 => ((X6_tie u_122.2 (x7 - x7 / 12 * 12) ((x7 / 12) - (x7 / 12) / 12 * 12) (L_isActed_J324 u_122 (x7 / 144) u_102.2 1 ((x7 / 144) - (x7 / 144) / 2 * 2) ((x7 / 12) - (x7 / 12) / 12 * 12) (x7 - x7 / 12 * 12)) (((x7 / 144) / 2) - ((x7 / 144) / 2) / 6 * 6)).bind fun u_125 => (bnd (u_122.1, u_125.1) fun M_127 => (if u_102.2 = 0 then (if u_125.2 = (((M_127.1 3) (Int32.toNatClampNeg 1)) - 1) then some (M_127, 1) else some (M_127, 0)) else (if 0 ≤ u_102.2 then (if u_125.2 = (-1000002) then some (M_127, 1) else some (M_127, 0)) else (if u_125.2 = (-1000001) then some (M_127, 1) else some (M_127, 0)))))))))) else ((L_isActed_J81 K (x7 / 144) (L_isActed_J69 K (x7 / 144) 12 ((K.1 3) (Int32.toNatClampNeg 0))) (L_isActed_J69 K (x7 / 144) 12 ((K.1 3) (Int32.toNatClampNeg 0)))).bind fun u_147 => ((X6_puppet u_147.2 (1 + ((x7 / 144) - (x7 / 144) / 9 * 9)) (((x7 / 144) / 9) - ((x7 / 144) / 9) / 2 * 2)).bind fun u_149 => (bnd (u_147.1, u_149.1) fun M_151 => (if (L_isActed_J69 K (x7 / 144) 12 ((K.1 3) (Int32.toNatClampNeg 0))) = 0 then (if u_149.2 = (((M_151.1 3) (Int32.toNatClampNeg 0)) - 1) then some (M_151, 1) else some (M_151, 0)) else (if u_149.2 = (-1000003) then some (M_151, 1) else some (M_151, 0)))))))
abbrev rm_L_isActed : Room := { frames := 8, cells := 0, slots := 0, locals := 194 }
set_option maxHeartbeats 4000000 in
set_option maxRecDepth 100000 in
theorem c_L_isActed (l : Launch) (D : va_G) (cI cP : ClassId) (o h : Nat) (tx tn : Nat → Nat) (Ad : Nat → Nat → Nat) (a : Nat → Nat) (K : SLM) (x6 : Int32) (x7 : Int32) (z : SLM × Int32) (hf : L_isActed K x6 x7 = some z) : MWi l yL_isActed cL_isActed 15 (some .boolean) rm_L_isActed D cI cP [.ref o, .ref (a 0), .ref (a 1), .ref (a 2), .ref (a 3), .ref (a 4), .int x6, .int x7] (wLM cI cP o h tx tn Ad a K) (wLM cI cP o h tx tn Ad a z.1) z.2 := by
  refine MWi.of (by decide +kernel) (Nat.le_of_ble_eq_true rfl) ?_
  intro p e s m args below meth c ls A F hX hP hD hA hS hl
  have F : Fx p s m args meth c RL cL_isActed 15 (some .boolean) := F
  have hx := F.1
  have hb := F.2.1
  have hown := F.2.2.2.1
  have hts := F.2.2.2.2.1
  have hl : lv_has ls 15 [(0, .ref o), (1, .ref (a 0)), (2, .ref (a 1)), (3, .ref (a 2)), (4, .ref (a 3)), (5, .ref (a 4)), (6, .int x6), (7, .int x7)] := hl
  unfold L_isActed at hf
  refine lv_iload hx hb dL_isActed_0 (lv_at hl 7 rfl) ?_
  refine lv_bipush (v := 12) hx hb dL_isActed_2 (by decide) ?_
  refine lv_irem hx hb dL_isActed_4 (by decide) ?_
  refine lv_istore (lv' := [(8, .int (x7 - x7 / 12 * 12)), (0, .ref o), (1, .ref (a 0)), (2, .ref (a 1)), (3, .ref (a 2)), (4, .ref (a 3)), (5, .ref (a 4)), (6, .int x6), (7, .int x7)]) hx hb dL_isActed_5 hl (by decide) rfl (fun ls hl => ?_)
  refine lv_iload hx hb dL_isActed_7 (lv_at hl 8 rfl) ?_
  refine lv_bipush (v := 12) hx hb dL_isActed_9 (by decide) ?_
  refine lv_idiv hx hb dL_isActed_11 (by decide) ?_
  refine lv_bipush (v := 12) hx hb dL_isActed_12 (by decide) ?_
  refine lv_irem hx hb dL_isActed_14 (by decide) ?_
  refine lv_istore (lv' := [(9, .int ((x7 / 12) - (x7 / 12) / 12 * 12)), (8, .int (x7 - x7 / 12 * 12)), (0, .ref o), (1, .ref (a 0)), (2, .ref (a 1)), (3, .ref (a 2)), (4, .ref (a 3)), (5, .ref (a 4)), (6, .int x6), (7, .int x7)]) hx hb dL_isActed_15 hl (by decide) rfl (fun ls hl => ?_)
  refine lv_iload hx hb dL_isActed_17 (lv_at hl 9 rfl) ?_
  refine lv_sipush (v := 144) hx hb dL_isActed_19 (by decide) ?_
  refine lv_idiv hx hb dL_isActed_22 (by decide) ?_
  refine lv_istore (lv' := [(10, .int (x7 / 144)), (9, .int ((x7 / 12) - (x7 / 12) / 12 * 12)), (8, .int (x7 - x7 / 12 * 12)), (0, .ref o), (1, .ref (a 0)), (2, .ref (a 1)), (3, .ref (a 2)), (4, .ref (a 3)), (5, .ref (a 4)), (6, .int x6), (7, .int x7)]) hx hb dL_isActed_23 hl (by decide) rfl (fun ls hl => ?_)
  refine lv_iload hx hb dL_isActed_25 (lv_at hl 2 rfl) ?_
  refine lv_aload hx hb dL_isActed_27 (lv_at hl 7 rfl) ?_
  refine lv_iconst (v := 0) hx hb dL_isActed_29 (by decide) ?_
  refine va_iald hx hb hX.1 hP 3 0 (n := 8) (f := (K.1 3)) rfl rfl (by decide : ¬ ((0 : Int32) < 0 ∨ 8 ≤ Int32.toNatClampNeg 0)) dL_isActed_30 ?_
  have hJ_31 : ∀ (K_31 : SLM) (x6_31 : Int32) (x8_31 : Int32) (x9_31 : Int32) (x10_31 : Int32) (t0_31 : Int32) (t1_31 : Int32) (v : Int32) (H : Heap) (locs : List Loc) (ls : Array Slot), L_isActed_J31 K_31 x6_31 x8_31 x9_31 x10_31 t0_31 t1_31 = v → va_P D vwCl (wLM cI cP o h tx tn Ad a K_31) H → va_D A (wLM cI cP o h tx tn Ad a K_31) → va_S A s.heap H locs → lv_has ls 15 [(10, .int x10_31), (9, .int x9_31), (8, .int x8_31), (0, .ref o), (1, .ref (a 0)), (2, .ref (a 1)), (3, .ref (a 2)), (4, .ref (a 3)), (5, .ref (a 4)), (6, .int x6_31)] → (∀ (H : Heap) (locs : List Loc) (ls : Array Slot), va_P D vwCl (wLM cI cP o h tx tn Ad a K_31) H → va_D A (wLM cI cP o h tx tn Ad a K_31) → va_S A s.heap H locs → lv_has ls 15 [(0, .ref o), (1, .ref (a 0)), (2, .ref (a 1)), (3, .ref (a 2)), (4, .ref (a 3)), (5, .ref (a 4)), (6, .int x6_31), (8, .int x8_31), (9, .int x9_31), (10, .int x10_31)] → W p l e rm_L_isActed s m args below meth c H locs 0 0 (QWi D below args s A (wLM cI cP o h tx tn Ad a z.1) z.2) (F0 m 55 ls [.int v])) → W p l e rm_L_isActed s m args below meth c H locs 0 0 (QWi D below args s A (wLM cI cP o h tx tn Ad a z.1) z.2) (F0 m 31 ls [.int t0_31, .int t1_31]) := by
    intro K_31 x6_31 x8_31 x9_31 x10_31 t0_31 t1_31 v _ _ ls hf hP hD hS hl hk
    unfold L_isActed_J31 at hf
    refine lv_icmp_ge (tgt := 54) hx hb dL_isActed_31 (by decide) (fun c_1 => ?_) (fun c_1 => ?_)
    · replace hf := (if_pos c_1).symm.trans hf
      refine lv_iconst (v := 0) hx hb dL_isActed_54 (by decide) ?_
      obtain rfl := hf
      exact hk _ _ ls hP hD hS (lv_sub hl [3, 4, 5, 6, 7, 8, 9, 2, 1, 0] rfl)
    · replace hf := (if_neg c_1).symm.trans hf
      refine lv_iload hx hb dL_isActed_34 (lv_at hl 1 rfl) ?_
      refine lv_aload hx hb dL_isActed_36 (lv_at hl 7 rfl) ?_
      refine lv_iconst (v := 0) hx hb dL_isActed_38 (by decide) ?_
      refine va_iald hx hb hX.1 hP 3 0 (n := 8) (f := (K_31.1 3)) rfl rfl (by decide : ¬ ((0 : Int32) < 0 ∨ 8 ≤ Int32.toNatClampNeg 0)) dL_isActed_39 ?_
      refine lv_icmp_ge (tgt := 54) hx hb dL_isActed_40 (by decide) (fun c_2 => ?_) (fun c_2 => ?_)
      · replace hf := (if_pos c_2).symm.trans hf
        refine lv_iconst (v := 0) hx hb dL_isActed_54 (by decide) ?_
        obtain rfl := hf
        exact hk _ _ ls hP hD hS (lv_sub hl [3, 4, 5, 6, 7, 8, 9, 2, 1, 0] rfl)
      · replace hf := (if_neg c_2).symm.trans hf
        refine lv_iload hx hb dL_isActed_43 (lv_at hl 2 rfl) ?_
        refine lv_iload hx hb dL_isActed_45 (lv_at hl 1 rfl) ?_
        refine lv_icmp_eq (tgt := 54) hx hb dL_isActed_47 (by decide) (fun c_3 => ?_) (fun c_3 => ?_)
        · replace hf := (if_pos c_3).symm.trans hf
          refine lv_iconst (v := 0) hx hb dL_isActed_54 (by decide) ?_
          obtain rfl := hf
          exact hk _ _ ls hP hD hS (lv_sub hl [3, 4, 5, 6, 7, 8, 9, 2, 1, 0] rfl)
        · replace hf := (if_neg c_3).symm.trans hf
          refine lv_iconst (v := 1) hx hb dL_isActed_50 (by decide) ?_
          refine lv_goto (tgt := 55) hx hb dL_isActed_51 (by decide) ?_
          obtain rfl := hf
          exact hk _ _ ls hP hD hS (lv_sub hl [3, 4, 5, 6, 7, 8, 9, 2, 1, 0] rfl)
  refine hJ_31 K x6 (x7 - x7 / 12 * 12) ((x7 / 12) - (x7 / 12) / 12 * 12) (x7 / 144) ((K.1 3) (Int32.toNatClampNeg 0)) (x7 - x7 / 12 * 12) _ _ _ ls rfl hP hD hS (lv_sub hl [0, 1, 2, 3, 4, 5, 6, 7, 8, 9] rfl) (fun H locs ls hP hD hS hl => ?_)
  clear hJ_31
  refine lv_istore (lv' := [(11, .int (L_isActed_J31 K x6 (x7 - x7 / 12 * 12) ((x7 / 12) - (x7 / 12) / 12 * 12) (x7 / 144) ((K.1 3) (Int32.toNatClampNeg 0)) (x7 - x7 / 12 * 12))), (0, .ref o), (1, .ref (a 0)), (2, .ref (a 1)), (3, .ref (a 2)), (4, .ref (a 3)), (5, .ref (a 4)), (6, .int x6), (8, .int (x7 - x7 / 12 * 12)), (9, .int ((x7 / 12) - (x7 / 12) / 12 * 12)), (10, .int (x7 / 144))]) hx hb dL_isActed_55 hl (by decide) rfl (fun ls hl => ?_)
  refine lv_iload hx hb dL_isActed_57 (lv_at hl 7 rfl) ?_
  refine lv_iconst (v := 2) hx hb dL_isActed_59 (by decide) ?_
  refine lv_icmp_ge (tgt := 178) hx hb dL_isActed_60 (by decide) (fun c_4 => ?_) (fun c_4 => ?_)
  · replace hf := (if_pos c_4).symm.trans hf
    refine lv_iload hx hb dL_isActed_178 (lv_at hl 7 rfl) ?_
    refine lv_bipush (v := 8) hx hb dL_isActed_180 (by decide) ?_
    refine lv_icmp_ge (tgt := 377) hx hb dL_isActed_182 (by decide) (fun c_5 => ?_) (fun c_5 => ?_)
    · replace hf := (if_pos c_5).symm.trans hf
      refine lv_iload hx hb dL_isActed_377 (lv_at hl 7 rfl) ?_
      refine lv_bipush (v := 8) hx hb dL_isActed_379 (by decide) ?_
      refine lv_icmp_ne (tgt := 449) hx hb dL_isActed_381 (by decide) (fun c_6 => ?_) (fun c_6 => ?_)
      · replace hf := (if_neg c_6).symm.trans hf
        refine lv_iload hx hb dL_isActed_449 (lv_at hl 7 rfl) ?_
        refine lv_bipush (v := 9) hx hb dL_isActed_451 (by decide) ?_
        refine lv_icmp_ne (tgt := 536) hx hb dL_isActed_453 (by decide) (fun c_7 => ?_) (fun c_7 => ?_)
        · replace hf := (if_neg c_7).symm.trans hf
          refine lv_iload hx hb dL_isActed_536 (lv_at hl 7 rfl) ?_
          refine lv_bipush (v := 14) hx hb dL_isActed_538 (by decide) ?_
          refine lv_icmp_ge (tgt := 639) hx hb dL_isActed_540 (by decide) (fun c_8 => ?_) (fun c_8 => ?_)
          · replace hf := (if_pos c_8).symm.trans hf
            refine lv_iload hx hb dL_isActed_639 (lv_at hl 7 rfl) ?_
            refine lv_bipush (v := 14) hx hb dL_isActed_641 (by decide) ?_
            refine lv_icmp_ne (tgt := 723) hx hb dL_isActed_643 (by decide) (fun c_9 => ?_) (fun c_9 => ?_)
            · replace hf := (if_neg c_9).symm.trans hf
              refine lv_iload hx hb dL_isActed_723 (lv_at hl 7 rfl) ?_
              refine lv_bipush (v := 15) hx hb dL_isActed_725 (by decide) ?_
              refine lv_icmp_ne (tgt := 768) hx hb dL_isActed_727 (by decide) (fun c_10 => ?_) (fun c_10 => ?_)
              · replace hf := (if_neg c_10).symm.trans hf
                refine lv_aload_n hx hb dL_isActed_768 rfl (lv_at hl 1 rfl) ?_
                refine lv_aload_n hx hb dL_isActed_769 rfl (lv_at hl 2 rfl) ?_
                refine lv_aload_n hx hb dL_isActed_770 rfl (lv_at hl 3 rfl) ?_
                refine lv_aload_n hx hb dL_isActed_771 rfl (lv_at hl 4 rfl) ?_
                refine lv_aload hx hb dL_isActed_772 (lv_at hl 5 rfl) ?_
                refine lv_aload hx hb dL_isActed_774 (lv_at hl 6 rfl) ?_
                obtain ⟨u_11, h_12, hf⟩ := ob hf
                refine k_wi (runS F wdL_92 (rm := rm_L_isSession) (As := [.ref o, .ref (a 0), .ref (a 1), .ref (a 2), .ref (a 3), .ref (a 4)]) (rest := []) ⟨rfl, rfl⟩ ⟨Nat.le_of_ble_eq_true rfl, Nat.le_of_ble_eq_true rfl⟩ hl.1 rfl rfl (Nat.le_of_ble_eq_true rfl) dL_isActed_776 ⟨Nat.zero_le _, Nat.zero_le _⟩) (c_L_isSession l D cI cP o h tx tn Ad a K  _ h_12) hX trivial (Cut.all rfl) hP hD hS hA (fun H locs hP hD hS => ?_)
                have hP : va_P D vwCl (wLM cI cP o h tx tn Ad a u_11.1) H := hP
                have hD : va_D A (wLM cI cP o h tx tn Ad a u_11.1) := hD
                have g_13 := og hf
                replace hf := (if_pos g_13).symm.trans hf
                obtain rfl := (Option.some.inj hf)
                exact wr_z F g_13 rfl hP hS dL_isActed_779
              · replace hf := (if_pos c_10).symm.trans hf
                refine lv_aload hx hb dL_isActed_730 (lv_at hl 5 rfl) ?_
                refine lv_bipush (v := 7) hx hb dL_isActed_732 (by decide) ?_
                refine va_iald hx hb hX.1 hP 3 0 (n := 8) (f := (K.1 3)) rfl rfl (by decide : ¬ ((7 : Int32) < 0 ∨ 8 ≤ Int32.toNatClampNeg 7)) dL_isActed_734 ?_
                refine lv_istore (lv' := [(12, .int ((K.1 3) (Int32.toNatClampNeg 7))), (11, .int (L_isActed_J31 K x6 (x7 - x7 / 12 * 12) ((x7 / 12) - (x7 / 12) / 12 * 12) (x7 / 144) ((K.1 3) (Int32.toNatClampNeg 0)) (x7 - x7 / 12 * 12))), (0, .ref o), (1, .ref (a 0)), (2, .ref (a 1)), (3, .ref (a 2)), (4, .ref (a 3)), (5, .ref (a 4)), (6, .int x6), (8, .int (x7 - x7 / 12 * 12)), (9, .int ((x7 / 12) - (x7 / 12) / 12 * 12)), (10, .int (x7 / 144))]) hx hb dL_isActed_735 hl (by decide) rfl (fun ls hl => ?_)
                refine lv_aload hx hb dL_isActed_737 (lv_at hl 6 rfl) ?_
                refine lv_bipush (v := 7) hx hb dL_isActed_739 (by decide) ?_
                refine lv_iload hx hb dL_isActed_741 (lv_at hl 11 rfl) ?_
                refine lv_bipush (v := 13) hx hb dL_isActed_743 (by decide) ?_
                refine lv_irem hx hb dL_isActed_745 (by decide) ?_
                refine va_iast hx hb hX.1 hP hD hS 3 0 (n := 8) (f := (K.1 3)) rfl rfl (by decide : ¬ ((7 : Int32) < 0 ∨ 8 ≤ Int32.toNatClampNeg 7)) dL_isActed_746 (fun H locs hP hD hS => ?_)
                obtain ⟨M_14, e_15, hf⟩ := bnd_e hf
                have hP : va_P D vwCl (wLM cI cP o h tx tn Ad a M_14) H := by rw [e_15]; exact hP
                have hD : va_D A (wLM cI cP o h tx tn Ad a M_14) := by rw [e_15]; exact hD
                clear e_15
                refine lv_aload_n hx hb dL_isActed_747 rfl (lv_at hl 2 rfl) ?_
                refine lv_iconst (v := 0) hx hb dL_isActed_748 (by decide) ?_
                refine lv_iload hx hb dL_isActed_749 (lv_at hl 11 rfl) ?_
                refine lv_bipush (v := 13) hx hb dL_isActed_751 (by decide) ?_
                refine lv_irem hx hb dL_isActed_753 (by decide) ?_
                obtain ⟨u_16, h_17, hf⟩ := ob hf
                refine k_wi (runV F wdL_89 (rm := rm_X6_set) (As := [.int 0, .int ((x7 / 144) - (x7 / 144) / 13 * 13)]) (rest := []) ⟨rfl, rfl⟩ ⟨Nat.le_of_ble_eq_true rfl, Nat.le_of_ble_eq_true rfl⟩ hl.1 rfl rfl (Nat.le_of_ble_eq_true rfl) dL_isActed_754 ⟨Nat.zero_le _, Nat.zero_le _⟩) (c_X6_set l D cI cP o h tx tn Ad M_14.2 0 ((x7 / 144) - (x7 / 144) / 13 * 13) _ h_17) hX (va_recv hX.1 (va_blk (Bs := (bLM cI cP o h tx tn Ad a M_14)) hP 1 rfl) (ci := 6) (q0 := 0) rfl rfl) (Cut.one (Bs := (bLM cI cP o h tx tn Ad a M_14)) (k := 1) rfl rfl) hP hD hS hA (fun H locs hP hD hS => ?_)
                obtain ⟨M_18, e_19, hf⟩ := bnd_e hf
                have hP : va_P D vwCl (wLM cI cP o h tx tn Ad a M_18) H := by rw [e_19]; exact hP
                have hD : va_D A (wLM cI cP o h tx tn Ad a M_18) := by rw [e_19]; exact hD
                clear e_19
                refine lv_iload hx hb dL_isActed_757 (lv_at hl 0 rfl) ?_
                refine lv_icmp_ne (tgt := 766) hx hb dL_isActed_759 (by decide) (fun c_20 => ?_) (fun c_20 => ?_)
                · replace hf := (if_neg c_20).symm.trans hf
                  refine lv_iconst (v := 0) hx hb dL_isActed_766 (by decide) ?_
                  obtain rfl := (Option.some.inj hf)
                  exact wr_z F (by decide) rfl hP hS dL_isActed_767
                · replace hf := (if_pos c_20).symm.trans hf
                  refine lv_iconst (v := 1) hx hb dL_isActed_762 (by decide) ?_
                  refine lv_goto (tgt := 767) hx hb dL_isActed_763 (by decide) ?_
                  obtain rfl := (Option.some.inj hf)
                  exact wr_z F (by decide) rfl hP hS dL_isActed_767
            · replace hf := (if_pos c_9).symm.trans hf
              refine lv_iload hx hb dL_isActed_646 (lv_at hl 8 rfl) ?_
              refine lv_aload hx hb dL_isActed_648 (lv_at hl 5 rfl) ?_
              refine lv_iconst (v := 0) hx hb dL_isActed_650 (by decide) ?_
              refine va_iald hx hb hX.1 hP 3 0 (n := 8) (f := (K.1 3)) rfl rfl (by decide : ¬ ((0 : Int32) < 0 ∨ 8 ≤ Int32.toNatClampNeg 0)) dL_isActed_651 ?_
              have hJ_652 : ∀ (K_652 : SLM) (x8_652 : Int32) (t0_652 : Int32) (t1_652 : Int32) (v : Int32) (H : Heap) (locs : List Loc) (ls : Array Slot), L_isActed_J652 K_652 x8_652 t0_652 t1_652 = some v → va_P D vwCl (wLM cI cP o h tx tn Ad a K_652) H → va_D A (wLM cI cP o h tx tn Ad a K_652) → va_S A s.heap H locs → lv_has ls 15 [(0, .ref o), (1, .ref (a 0)), (8, .int x8_652)] → (∀ (H : Heap) (locs : List Loc) (ls : Array Slot), va_P D vwCl (wLM cI cP o h tx tn Ad a K_652) H → va_D A (wLM cI cP o h tx tn Ad a K_652) → va_S A s.heap H locs → lv_has ls 15 [(0, .ref o), (1, .ref (a 0)), (8, .int x8_652)] → W p l e rm_L_isActed s m args below meth c H locs 0 0 (QWi D below args s A (wLM cI cP o h tx tn Ad a z.1) z.2) (F0 m 668 ls [.int v])) → W p l e rm_L_isActed s m args below meth c H locs 0 0 (QWi D below args s A (wLM cI cP o h tx tn Ad a z.1) z.2) (F0 m 652 ls [.int t0_652, .int t1_652]) := by
                intro K_652 x8_652 t0_652 t1_652 v _ _ ls hf hP hD hS hl hk
                unfold L_isActed_J652 at hf
                refine lv_icmp_ge (tgt := 666) hx hb dL_isActed_652 (by decide) (fun c_21 => ?_) (fun c_21 => ?_)
                · replace hf := (if_pos c_21).symm.trans hf
                  refine lv_bipush (v := (-2)) hx hb dL_isActed_666 (by decide) ?_
                  obtain rfl := Option.some.inj hf
                  exact hk _ _ ls hP hD hS hl
                · replace hf := (if_neg c_21).symm.trans hf
                  refine lv_aload_n hx hb dL_isActed_655 rfl (lv_at hl 1 rfl) ?_
                  refine lv_iconst (v := 3) hx hb dL_isActed_656 (by decide) ?_
                  refine lv_iload hx hb dL_isActed_657 (lv_at hl 2 rfl) ?_
                  refine lv_imul hx hb dL_isActed_659 ?_
                  refine lv_iconst (v := 2) hx hb dL_isActed_660 (by decide) ?_
                  refine lv_iadd hx hb dL_isActed_661 ?_
                  have g_22 := og hf
                  replace hf := (if_pos g_22).symm.trans hf
                  refine va_iald hx hb hX.1 hP 0 0 (n := 36) (f := (K_652.1 0)) rfl rfl g_22 dL_isActed_662 ?_
                  refine lv_goto (tgt := 668) hx hb dL_isActed_663 (by decide) ?_
                  obtain rfl := Option.some.inj hf
                  exact hk _ _ ls hP hD hS hl
              obtain ⟨u_23, h_24, hf⟩ := ob hf
              refine hJ_652 K (x7 - x7 / 12 * 12) ((K.1 3) (Int32.toNatClampNeg 0)) (x7 - x7 / 12 * 12) u_23 _ _ ls h_24 hP hD hS (lv_sub hl [1, 2, 8] rfl) (fun H locs ls hP hD hS hl => ?_)
              clear hJ_652
              refine lv_istore (lv' := [(12, .int u_23), (0, .ref o), (1, .ref (a 0)), (8, .int (x7 - x7 / 12 * 12))]) hx hb dL_isActed_668 hl (by decide) rfl (fun ls hl => ?_)
              refine lv_iload hx hb dL_isActed_670 (lv_at hl 0 rfl) ?_
              have hJ_672 : ∀ (K_672 : SLM) (x8_672 : Int32) (x12_672 : Int32) (t0_672 : Int32) (v : SLM) (H : Heap) (locs : List Loc) (ls : Array Slot), L_isActed_J672 K_672 x8_672 x12_672 t0_672 = some v → va_P D vwCl (wLM cI cP o h tx tn Ad a K_672) H → va_D A (wLM cI cP o h tx tn Ad a K_672) → va_S A s.heap H locs → lv_has ls 15 [(12, .int x12_672), (0, .ref o), (1, .ref (a 0)), (8, .int x8_672)] → (∀ (H : Heap) (locs : List Loc) (ls : Array Slot), va_P D vwCl (wLM cI cP o h tx tn Ad a v) H → va_D A (wLM cI cP o h tx tn Ad a v) → va_S A s.heap H locs → lv_has ls 15 [(0, .ref o), (8, .int x8_672), (12, .int x12_672)] → W p l e rm_L_isActed s m args below meth c H locs 0 0 (QWi D below args s A (wLM cI cP o h tx tn Ad a z.1) z.2) (F0 m 684 ls [])) → W p l e rm_L_isActed s m args below meth c H locs 0 0 (QWi D below args s A (wLM cI cP o h tx tn Ad a z.1) z.2) (F0 m 672 ls [.int t0_672]) := by
                intro K_672 x8_672 x12_672 t0_672 v _ _ ls hf hP hD hS hl hk
                unfold L_isActed_J672 at hf
                refine lv_if_lt (tgt := 684) hx hb dL_isActed_672 (by decide) (fun c_25 => ?_) (fun c_25 => ?_)
                · replace hf := (if_pos c_25).symm.trans hf
                  obtain rfl := Option.some.inj hf
                  exact hk _ _ ls hP hD hS (lv_sub hl [1, 3, 0] rfl)
                · replace hf := (if_neg c_25).symm.trans hf
                  refine lv_aload_n hx hb dL_isActed_675 rfl (lv_at hl 2 rfl) ?_
                  refine lv_iconst (v := 3) hx hb dL_isActed_676 (by decide) ?_
                  refine lv_iload hx hb dL_isActed_677 (lv_at hl 3 rfl) ?_
                  refine lv_imul hx hb dL_isActed_679 ?_
                  refine lv_iconst (v := 2) hx hb dL_isActed_680 (by decide) ?_
                  refine lv_iadd hx hb dL_isActed_681 ?_
                  refine lv_iconst (v := (-1)) hx hb dL_isActed_682 (by decide) ?_
                  have g_26 := og hf
                  replace hf := (if_pos g_26).symm.trans hf
                  refine va_iast hx hb hX.1 hP hD hS 0 0 (n := 36) (f := (K_672.1 0)) rfl rfl g_26 dL_isActed_683 (fun H locs hP hD hS => ?_)
                  obtain ⟨M_27, e_28, hf⟩ := bnd_e hf
                  have hP : va_P D vwCl (wLM cI cP o h tx tn Ad a M_27) H := by rw [e_28]; exact hP
                  have hD : va_D A (wLM cI cP o h tx tn Ad a M_27) := by rw [e_28]; exact hD
                  clear e_28
                  obtain rfl := Option.some.inj hf
                  exact hk _ _ ls hP hD hS (lv_sub hl [1, 3, 0] rfl)
              obtain ⟨u_29, h_30, hf⟩ := ob hf
              refine hJ_672 K (x7 - x7 / 12 * 12) u_23 u_23 u_29 _ _ ls h_30 hP hD hS hl (fun H locs ls hP hD hS hl => ?_)
              clear hJ_672
              refine lv_aload_n hx hb dL_isActed_684 rfl (lv_at hl 0 rfl) ?_
              refine lv_iload hx hb dL_isActed_685 (lv_at hl 1 rfl) ?_
              obtain ⟨u_31, h_32, hf⟩ := ob hf
              refine k_wi (runV F wdL_86 (rm := rm_X6_release) (As := [.int (x7 - x7 / 12 * 12)]) (rest := []) ⟨rfl, rfl⟩ ⟨Nat.le_of_ble_eq_true rfl, Nat.le_of_ble_eq_true rfl⟩ hl.1 rfl rfl (Nat.le_of_ble_eq_true rfl) dL_isActed_687 ⟨Nat.zero_le _, Nat.zero_le _⟩) (c_X6_release l D cI cP o h tx tn Ad u_29.2 (x7 - x7 / 12 * 12) _ h_32) hX (va_recv hX.1 (va_blk (Bs := (bLM cI cP o h tx tn Ad a u_29)) hP 1 rfl) (ci := 6) (q0 := 0) rfl rfl) (Cut.one (Bs := (bLM cI cP o h tx tn Ad a u_29)) (k := 1) rfl rfl) hP hD hS hA (fun H locs hP hD hS => ?_)
              obtain ⟨M_33, e_34, hf⟩ := bnd_e hf
              have hP : va_P D vwCl (wLM cI cP o h tx tn Ad a M_33) H := by rw [e_34]; exact hP
              have hD : va_D A (wLM cI cP o h tx tn Ad a M_33) := by rw [e_34]; exact hD
              clear e_34
              refine lv_iload hx hb dL_isActed_690 (lv_at hl 2 rfl) ?_
              refine lv_bipush (v := (-2)) hx hb dL_isActed_692 (by decide) ?_
              refine lv_icmp_ne (tgt := 702) hx hb dL_isActed_694 (by decide) (fun c_35 => ?_) (fun c_35 => ?_)
              · replace hf := (if_neg c_35).symm.trans hf
                refine lv_iload hx hb dL_isActed_702 (lv_at hl 2 rfl) ?_
                refine lv_if_ge (tgt := 712) hx hb dL_isActed_704 (by decide) (fun c_36 => ?_) (fun c_36 => ?_)
                · replace hf := (if_pos c_36).symm.trans hf
                  refine lv_iload hx hb dL_isActed_712 (lv_at hl 2 rfl) ?_
                  refine lv_icmp_ne (tgt := 721) hx hb dL_isActed_714 (by decide) (fun c_37 => ?_) (fun c_37 => ?_)
                  · replace hf := (if_neg c_37).symm.trans hf
                    refine lv_iconst (v := 0) hx hb dL_isActed_721 (by decide) ?_
                    obtain rfl := (Option.some.inj hf)
                    exact wr_z F (by decide) rfl hP hS dL_isActed_722
                  · replace hf := (if_pos c_37).symm.trans hf
                    refine lv_iconst (v := 1) hx hb dL_isActed_717 (by decide) ?_
                    refine lv_goto (tgt := 722) hx hb dL_isActed_718 (by decide) ?_
                    obtain rfl := (Option.some.inj hf)
                    exact wr_z F (by decide) rfl hP hS dL_isActed_722
                · replace hf := (if_neg c_36).symm.trans hf
                  refine lv_ldc (v := (-1000002)) hx hb hown (hts _ q_536) dL_isActed_707 ?_
                  refine lv_goto (tgt := 714) hx hb dL_isActed_709 (by decide) ?_
                  refine lv_icmp_ne (tgt := 721) hx hb dL_isActed_714 (by decide) (fun c_38 => ?_) (fun c_38 => ?_)
                  · replace hf := (if_neg c_38).symm.trans hf
                    refine lv_iconst (v := 0) hx hb dL_isActed_721 (by decide) ?_
                    obtain rfl := (Option.some.inj hf)
                    exact wr_z F (by decide) rfl hP hS dL_isActed_722
                  · replace hf := (if_pos c_38).symm.trans hf
                    refine lv_iconst (v := 1) hx hb dL_isActed_717 (by decide) ?_
                    refine lv_goto (tgt := 722) hx hb dL_isActed_718 (by decide) ?_
                    obtain rfl := (Option.some.inj hf)
                    exact wr_z F (by decide) rfl hP hS dL_isActed_722
              · replace hf := (if_pos c_35).symm.trans hf
                refine lv_ldc (v := (-1000001)) hx hb hown (hts _ q_316) dL_isActed_697 ?_
                refine lv_goto (tgt := 714) hx hb dL_isActed_699 (by decide) ?_
                refine lv_icmp_ne (tgt := 721) hx hb dL_isActed_714 (by decide) (fun c_39 => ?_) (fun c_39 => ?_)
                · replace hf := (if_neg c_39).symm.trans hf
                  refine lv_iconst (v := 0) hx hb dL_isActed_721 (by decide) ?_
                  obtain rfl := (Option.some.inj hf)
                  exact wr_z F (by decide) rfl hP hS dL_isActed_722
                · replace hf := (if_pos c_39).symm.trans hf
                  refine lv_iconst (v := 1) hx hb dL_isActed_717 (by decide) ?_
                  refine lv_goto (tgt := 722) hx hb dL_isActed_718 (by decide) ?_
                  obtain rfl := (Option.some.inj hf)
                  exact wr_z F (by decide) rfl hP hS dL_isActed_722
          · replace hf := (if_neg c_8).symm.trans hf
            refine lv_iload hx hb dL_isActed_543 (lv_at hl 8 rfl) ?_
            refine lv_aload hx hb dL_isActed_545 (lv_at hl 5 rfl) ?_
            refine lv_iconst (v := 0) hx hb dL_isActed_547 (by decide) ?_
            refine va_iald hx hb hX.1 hP 3 0 (n := 8) (f := (K.1 3)) rfl rfl (by decide : ¬ ((0 : Int32) < 0 ∨ 8 ≤ Int32.toNatClampNeg 0)) dL_isActed_548 ?_
            have hJ_549 : ∀ (K_549 : SLM) (x8_549 : Int32) (x10_549 : Int32) (t0_549 : Int32) (t1_549 : Int32) (v : SLM × Int32) (H : Heap) (locs : List Loc) (ls : Array Slot), L_isActed_J549 K_549 x8_549 x10_549 t0_549 t1_549 = some v → va_P D vwCl (wLM cI cP o h tx tn Ad a K_549) H → va_D A (wLM cI cP o h tx tn Ad a K_549) → va_S A s.heap H locs → lv_has ls 15 [(0, .ref o), (1, .ref (a 0)), (2, .ref (a 1)), (4, .ref (a 3)), (5, .ref (a 4)), (8, .int x8_549), (10, .int x10_549)] → (∀ (H : Heap) (locs : List Loc) (ls : Array Slot), va_P D vwCl (wLM cI cP o h tx tn Ad a v.1) H → va_D A (wLM cI cP o h tx tn Ad a v.1) → va_S A s.heap H locs → lv_has ls 15 [(0, .ref o), (1, .ref (a 0)), (2, .ref (a 1)), (4, .ref (a 3)), (5, .ref (a 4)), (8, .int x8_549), (10, .int x10_549)] → W p l e rm_L_isActed s m args below meth c H locs 0 0 (QWi D below args s A (wLM cI cP o h tx tn Ad a z.1) z.2) (F0 m 571 ls [.int v.2])) → W p l e rm_L_isActed s m args below meth c H locs 0 0 (QWi D below args s A (wLM cI cP o h tx tn Ad a z.1) z.2) (F0 m 549 ls [.int t0_549, .int t1_549]) := by
              intro K_549 x8_549 x10_549 t0_549 t1_549 v _ _ ls hf hP hD hS hl hk
              unfold L_isActed_J549 at hf
              refine lv_icmp_ge (tgt := 570) hx hb dL_isActed_549 (by decide) (fun c_40 => ?_) (fun c_40 => ?_)
              · replace hf := (if_pos c_40).symm.trans hf
                refine lv_iconst (v := (-1)) hx hb dL_isActed_570 (by decide) ?_
                obtain rfl := Option.some.inj hf
                exact hk _ _ ls hP hD hS hl
              · replace hf := (if_neg c_40).symm.trans hf
                refine lv_aload_n hx hb dL_isActed_552 rfl (lv_at hl 1 rfl) ?_
                refine lv_aload_n hx hb dL_isActed_553 rfl (lv_at hl 2 rfl) ?_
                refine lv_aload hx hb dL_isActed_554 (lv_at hl 3 rfl) ?_
                refine lv_aload hx hb dL_isActed_556 (lv_at hl 4 rfl) ?_
                refine lv_iload hx hb dL_isActed_558 (lv_at hl 5 rfl) ?_
                refine lv_iload hx hb dL_isActed_560 (lv_at hl 6 rfl) ?_
                refine lv_iconst (v := 2) hx hb dL_isActed_562 (by decide) ?_
                refine lv_irem hx hb dL_isActed_563 (by decide) ?_
                obtain ⟨u_41, h_42, hf⟩ := ob hf
                refine k_wi (runS F wdL_54 (rm := rm_L_whyPull) (As := [.ref (a 0), .ref (a 1), .ref (a 3), .ref (a 4), .int x8_549, .int (x10_549 - x10_549 / 2 * 2)]) (rest := []) ⟨rfl, rfl⟩ ⟨Nat.le_of_ble_eq_true rfl, Nat.le_of_ble_eq_true rfl⟩ hl.1 rfl rfl (Nat.le_of_ble_eq_true rfl) dL_isActed_564 ⟨Nat.zero_le _, Nat.zero_le _⟩) (c_L_whyPull l D cI cP a K_549.1 x8_549 (x10_549 - x10_549 / 2 * 2) _ h_42) hX trivial (Cut.one (Bs := (bLM cI cP o h tx tn Ad a K_549)) (k := 0) rfl rfl) hP hD hS hA (fun H locs hP hD hS => ?_)
                obtain ⟨M_43, e_44, hf⟩ := bnd_e hf
                have hP : va_P D vwCl (wLM cI cP o h tx tn Ad a M_43) H := by rw [e_44]; exact hP
                have hD : va_D A (wLM cI cP o h tx tn Ad a M_43) := by rw [e_44]; exact hD
                clear e_44
                refine lv_goto (tgt := 571) hx hb dL_isActed_567 (by decide) ?_
                obtain rfl := Option.some.inj hf
                exact hk _ _ ls hP hD hS hl
            obtain ⟨u_45, h_46, hf⟩ := ob hf
            refine hJ_549 K (x7 - x7 / 12 * 12) (x7 / 144) ((K.1 3) (Int32.toNatClampNeg 0)) (x7 - x7 / 12 * 12) u_45 _ _ ls h_46 hP hD hS (lv_sub hl [1, 2, 3, 5, 6, 8, 10] rfl) (fun H locs ls hP hD hS hl => ?_)
            clear hJ_549
            refine lv_istore (lv' := [(12, .int u_45.2), (0, .ref o), (1, .ref (a 0)), (2, .ref (a 1)), (4, .ref (a 3)), (5, .ref (a 4)), (8, .int (x7 - x7 / 12 * 12)), (10, .int (x7 / 144))]) hx hb dL_isActed_571 hl (by decide) rfl (fun ls hl => ?_)
            refine lv_iload hx hb dL_isActed_573 (lv_at hl 0 rfl) ?_
            have hJ_575 : ∀ (K_575 : SLM) (x8_575 : Int32) (x10_575 : Int32) (x12_575 : Int32) (t0_575 : Int32) (v : SLM) (H : Heap) (locs : List Loc) (ls : Array Slot), L_isActed_J575 K_575 x8_575 x10_575 x12_575 t0_575 = some v → va_P D vwCl (wLM cI cP o h tx tn Ad a K_575) H → va_D A (wLM cI cP o h tx tn Ad a K_575) → va_S A s.heap H locs → lv_has ls 15 [(12, .int x12_575), (0, .ref o), (1, .ref (a 0)), (2, .ref (a 1)), (4, .ref (a 3)), (5, .ref (a 4)), (8, .int x8_575), (10, .int x10_575)] → (∀ (H : Heap) (locs : List Loc) (ls : Array Slot), va_P D vwCl (wLM cI cP o h tx tn Ad a v) H → va_D A (wLM cI cP o h tx tn Ad a v) → va_S A s.heap H locs → lv_has ls 15 [(0, .ref o), (1, .ref (a 0)), (2, .ref (a 1)), (4, .ref (a 3)), (5, .ref (a 4)), (8, .int x8_575), (10, .int x10_575), (12, .int x12_575)] → W p l e rm_L_isActed s m args below meth c H locs 0 0 (QWi D below args s A (wLM cI cP o h tx tn Ad a z.1) z.2) (F0 m 590 ls [])) → W p l e rm_L_isActed s m args below meth c H locs 0 0 (QWi D below args s A (wLM cI cP o h tx tn Ad a z.1) z.2) (F0 m 575 ls [.int t0_575]) := by
              intro K_575 x8_575 x10_575 x12_575 t0_575 v _ _ ls hf hP hD hS hl hk
              unfold L_isActed_J575 at hf
              refine lv_if_ne (tgt := 590) hx hb dL_isActed_575 (by decide) (fun c_47 => ?_) (fun c_47 => ?_)
              · replace hf := (if_neg c_47).symm.trans hf
                obtain rfl := Option.some.inj hf
                exact hk _ _ ls hP hD hS (lv_sub hl [1, 2, 3, 4, 5, 6, 7, 0] rfl)
              · replace hf := (if_pos c_47).symm.trans hf
                refine lv_aload_n hx hb dL_isActed_578 rfl (lv_at hl 2 rfl) ?_
                refine lv_iconst (v := 3) hx hb dL_isActed_579 (by decide) ?_
                refine lv_iload hx hb dL_isActed_580 (lv_at hl 6 rfl) ?_
                refine lv_imul hx hb dL_isActed_582 ?_
                refine lv_iconst (v := 2) hx hb dL_isActed_583 (by decide) ?_
                refine lv_iadd hx hb dL_isActed_584 ?_
                refine lv_iload hx hb dL_isActed_585 (lv_at hl 7 rfl) ?_
                refine lv_iconst (v := 2) hx hb dL_isActed_587 (by decide) ?_
                refine lv_irem hx hb dL_isActed_588 (by decide) ?_
                have g_48 := og hf
                replace hf := (if_pos g_48).symm.trans hf
                refine va_iast hx hb hX.1 hP hD hS 0 0 (n := 36) (f := (K_575.1 0)) rfl rfl g_48 dL_isActed_589 (fun H locs hP hD hS => ?_)
                obtain ⟨M_49, e_50, hf⟩ := bnd_e hf
                have hP : va_P D vwCl (wLM cI cP o h tx tn Ad a M_49) H := by rw [e_50]; exact hP
                have hD : va_D A (wLM cI cP o h tx tn Ad a M_49) := by rw [e_50]; exact hD
                clear e_50
                obtain rfl := Option.some.inj hf
                exact hk _ _ ls hP hD hS (lv_sub hl [1, 2, 3, 4, 5, 6, 7, 0] rfl)
            obtain ⟨u_51, h_52, hf⟩ := ob hf
            refine hJ_575 u_45.1 (x7 - x7 / 12 * 12) (x7 / 144) u_45.2 u_45.2 u_51 _ _ ls h_52 hP hD hS hl (fun H locs ls hP hD hS hl => ?_)
            clear hJ_575
            refine lv_aload_n hx hb dL_isActed_590 rfl (lv_at hl 0 rfl) ?_
            refine lv_iload hx hb dL_isActed_591 (lv_at hl 5 rfl) ?_
            refine lv_iload hx hb dL_isActed_593 (lv_at hl 6 rfl) ?_
            refine lv_iconst (v := 2) hx hb dL_isActed_595 (by decide) ?_
            refine lv_irem hx hb dL_isActed_596 (by decide) ?_
            obtain ⟨u_53, h_54, hf⟩ := ob hf
            refine k_wi (runV F wdL_83 (rm := rm_X6_pull) (As := [.int (x7 - x7 / 12 * 12), .int ((x7 / 144) - (x7 / 144) / 2 * 2)]) (rest := []) ⟨rfl, rfl⟩ ⟨Nat.le_of_ble_eq_true rfl, Nat.le_of_ble_eq_true rfl⟩ hl.1 rfl rfl (Nat.le_of_ble_eq_true rfl) dL_isActed_597 ⟨Nat.zero_le _, Nat.zero_le _⟩) (c_X6_pull l D cI cP o h tx tn Ad u_51.2 (x7 - x7 / 12 * 12) ((x7 / 144) - (x7 / 144) / 2 * 2) _ h_54) hX (va_recv hX.1 (va_blk (Bs := (bLM cI cP o h tx tn Ad a u_51)) hP 1 rfl) (ci := 6) (q0 := 0) rfl rfl) (Cut.one (Bs := (bLM cI cP o h tx tn Ad a u_51)) (k := 1) rfl rfl) hP hD hS hA (fun H locs hP hD hS => ?_)
            obtain ⟨M_55, e_56, hf⟩ := bnd_e hf
            have hP : va_P D vwCl (wLM cI cP o h tx tn Ad a M_55) H := by rw [e_56]; exact hP
            have hD : va_D A (wLM cI cP o h tx tn Ad a M_55) := by rw [e_56]; exact hD
            clear e_56
            refine lv_iload hx hb dL_isActed_600 (lv_at hl 7 rfl) ?_
            refine lv_if_ne (tgt := 618) hx hb dL_isActed_602 (by decide) (fun c_57 => ?_) (fun c_57 => ?_)
            · replace hf := (if_neg c_57).symm.trans hf
              refine lv_iload hx hb dL_isActed_618 (lv_at hl 7 rfl) ?_
              refine lv_if_ge (tgt := 628) hx hb dL_isActed_620 (by decide) (fun c_58 => ?_) (fun c_58 => ?_)
              · replace hf := (if_pos c_58).symm.trans hf
                refine lv_ldc (v := (-1000002)) hx hb hown (hts _ q_536) dL_isActed_628 ?_
                refine lv_icmp_ne (tgt := 637) hx hb dL_isActed_630 (by decide) (fun c_59 => ?_) (fun c_59 => ?_)
                · replace hf := (if_neg c_59).symm.trans hf
                  refine lv_iconst (v := 0) hx hb dL_isActed_637 (by decide) ?_
                  obtain rfl := (Option.some.inj hf)
                  exact wr_z F (by decide) rfl hP hS dL_isActed_638
                · replace hf := (if_pos c_59).symm.trans hf
                  refine lv_iconst (v := 1) hx hb dL_isActed_633 (by decide) ?_
                  refine lv_goto (tgt := 638) hx hb dL_isActed_634 (by decide) ?_
                  obtain rfl := (Option.some.inj hf)
                  exact wr_z F (by decide) rfl hP hS dL_isActed_638
              · replace hf := (if_neg c_58).symm.trans hf
                refine lv_ldc (v := (-1000001)) hx hb hown (hts _ q_316) dL_isActed_623 ?_
                refine lv_goto (tgt := 630) hx hb dL_isActed_625 (by decide) ?_
                refine lv_icmp_ne (tgt := 637) hx hb dL_isActed_630 (by decide) (fun c_60 => ?_) (fun c_60 => ?_)
                · replace hf := (if_neg c_60).symm.trans hf
                  refine lv_iconst (v := 0) hx hb dL_isActed_637 (by decide) ?_
                  obtain rfl := (Option.some.inj hf)
                  exact wr_z F (by decide) rfl hP hS dL_isActed_638
                · replace hf := (if_pos c_60).symm.trans hf
                  refine lv_iconst (v := 1) hx hb dL_isActed_633 (by decide) ?_
                  refine lv_goto (tgt := 638) hx hb dL_isActed_634 (by decide) ?_
                  obtain rfl := (Option.some.inj hf)
                  exact wr_z F (by decide) rfl hP hS dL_isActed_638
            · replace hf := (if_pos c_57).symm.trans hf
              refine lv_aload_n hx hb dL_isActed_605 rfl (lv_at hl 1 rfl) ?_
              refine lv_aload_n hx hb dL_isActed_606 rfl (lv_at hl 2 rfl) ?_
              refine lv_aload hx hb dL_isActed_607 (lv_at hl 3 rfl) ?_
              refine lv_aload hx hb dL_isActed_609 (lv_at hl 4 rfl) ?_
              refine lv_iconst (v := (-1)) hx hb dL_isActed_611 (by decide) ?_
              obtain ⟨u_61, h_62, hf⟩ := ob hf
              refine k_wi (runS F wdL_19 (rm := rm_L_yes) (As := [.ref (a 0), .ref (a 1), .ref (a 3), .ref (a 4), .int (-1)]) (rest := [.int u_53.2]) ⟨rfl, rfl⟩ ⟨Nat.le_of_ble_eq_true rfl, Nat.le_of_ble_eq_true rfl⟩ hl.1 rfl rfl (Nat.le_of_ble_eq_true rfl) dL_isActed_612 ⟨Nat.zero_le _, Nat.zero_le _⟩) (c_L_yes l D cI cP a M_55.1 (-1) _ h_62) hX trivial (Cut.one (Bs := (bLM cI cP o h tx tn Ad a M_55)) (k := 0) rfl rfl) hP hD hS hA (fun H locs hP hD hS => ?_)
              obtain ⟨M_63, e_64, hf⟩ := bnd_e hf
              have hP : va_P D vwCl (wLM cI cP o h tx tn Ad a M_63) H := by rw [e_64]; exact hP
              have hD : va_D A (wLM cI cP o h tx tn Ad a M_63) := by rw [e_64]; exact hD
              clear e_64
              refine lv_goto (tgt := 630) hx hb dL_isActed_615 (by decide) ?_
              refine lv_icmp_ne (tgt := 637) hx hb dL_isActed_630 (by decide) (fun c_65 => ?_) (fun c_65 => ?_)
              · replace hf := (if_neg c_65).symm.trans hf
                refine lv_iconst (v := 0) hx hb dL_isActed_637 (by decide) ?_
                obtain rfl := (Option.some.inj hf)
                exact wr_z F (by decide) rfl hP hS dL_isActed_638
              · replace hf := (if_pos c_65).symm.trans hf
                refine lv_iconst (v := 1) hx hb dL_isActed_633 (by decide) ?_
                refine lv_goto (tgt := 638) hx hb dL_isActed_634 (by decide) ?_
                obtain rfl := (Option.some.inj hf)
                exact wr_z F (by decide) rfl hP hS dL_isActed_638
        · replace hf := (if_pos c_7).symm.trans hf
          refine lv_iload hx hb dL_isActed_456 (lv_at hl 10 rfl) ?_
          refine lv_bipush (v := 6) hx hb dL_isActed_458 (by decide) ?_
          refine lv_irem hx hb dL_isActed_460 (by decide) ?_
          refine lv_istore (lv' := [(12, .int ((x7 / 144) - (x7 / 144) / 6 * 6)), (11, .int (L_isActed_J31 K x6 (x7 - x7 / 12 * 12) ((x7 / 12) - (x7 / 12) / 12 * 12) (x7 / 144) ((K.1 3) (Int32.toNatClampNeg 0)) (x7 - x7 / 12 * 12))), (0, .ref o), (1, .ref (a 0)), (2, .ref (a 1)), (3, .ref (a 2)), (4, .ref (a 3)), (5, .ref (a 4)), (6, .int x6), (8, .int (x7 - x7 / 12 * 12)), (9, .int ((x7 / 12) - (x7 / 12) / 12 * 12)), (10, .int (x7 / 144))]) hx hb dL_isActed_461 hl (by decide) rfl (fun ls hl => ?_)
          refine lv_iconst (v := 0) hx hb dL_isActed_463 (by decide) ?_
          refine lv_istore (lv' := [(13, .int 0), (12, .int ((x7 / 144) - (x7 / 144) / 6 * 6)), (11, .int (L_isActed_J31 K x6 (x7 - x7 / 12 * 12) ((x7 / 12) - (x7 / 12) / 12 * 12) (x7 / 144) ((K.1 3) (Int32.toNatClampNeg 0)) (x7 - x7 / 12 * 12))), (0, .ref o), (1, .ref (a 0)), (2, .ref (a 1)), (3, .ref (a 2)), (4, .ref (a 3)), (5, .ref (a 4)), (6, .int x6), (8, .int (x7 - x7 / 12 * 12)), (9, .int ((x7 / 12) - (x7 / 12) / 12 * 12)), (10, .int (x7 / 144))]) hx hb dL_isActed_464 hl (by decide) rfl (fun ls hl => ?_)
          refine lv_aload hx hb dL_isActed_466 (lv_at hl 7 rfl) ?_
          refine lv_iconst (v := 1) hx hb dL_isActed_468 (by decide) ?_
          refine va_iald hx hb hX.1 hP 3 0 (n := 8) (f := (K.1 3)) rfl rfl (by decide : ¬ ((1 : Int32) < 0 ∨ 8 ≤ Int32.toNatClampNeg 1)) dL_isActed_469 ?_
          refine lv_iconst (v := 1) hx hb dL_isActed_470 (by decide) ?_
          refine lv_isub hx hb dL_isActed_471 ?_
          refine lv_istore (lv' := [(14, .int (((K.1 3) (Int32.toNatClampNeg 1)) - 1)), (13, .int 0), (12, .int ((x7 / 144) - (x7 / 144) / 6 * 6)), (11, .int (L_isActed_J31 K x6 (x7 - x7 / 12 * 12) ((x7 / 12) - (x7 / 12) / 12 * 12) (x7 / 144) ((K.1 3) (Int32.toNatClampNeg 0)) (x7 - x7 / 12 * 12))), (0, .ref o), (1, .ref (a 0)), (2, .ref (a 1)), (3, .ref (a 2)), (4, .ref (a 3)), (5, .ref (a 4)), (6, .int x6), (8, .int (x7 - x7 / 12 * 12)), (9, .int ((x7 / 12) - (x7 / 12) / 12 * 12)), (10, .int (x7 / 144))]) hx hb dL_isActed_472 hl (by decide) rfl (fun ls hl => ?_)
          have hL_474 : ∀ (fu : Nat) (K_474 : SLM) (x12_474 : Int32) (x13_474 : Int32) (x14_474 : Int32) (v : SLM × Int32) (H : Heap) (locs : List Loc) (ls : Array Slot), L_isActed_L474 fu K_474 x12_474 x13_474 x14_474 = some v → va_P D vwCl (wLM cI cP o h tx tn Ad a K_474) H → va_D A (wLM cI cP o h tx tn Ad a K_474) → va_S A s.heap H locs → lv_has ls 15 [(0, .ref o), (2, .ref (a 1)), (4, .ref (a 3)), (12, .int x12_474), (13, .int x13_474), (14, .int x14_474)] → (∀ (H : Heap) (locs : List Loc) (ls : Array Slot), va_P D vwCl (wLM cI cP o h tx tn Ad a v.1) H → va_D A (wLM cI cP o h tx tn Ad a v.1) → va_S A s.heap H locs → lv_has ls 15 [(0, .ref o), (12, .int x12_474), (13, .int v.2)] → W p l e rm_L_isActed s m args below meth c H locs 0 0 (QWi D below args s A (wLM cI cP o h tx tn Ad a z.1) z.2) (F0 m 509 ls [])) → W p l e rm_L_isActed s m args below meth c H locs 0 0 (QWi D below args s A (wLM cI cP o h tx tn Ad a z.1) z.2) (F0 m 474 ls []) := by
            intro fu
            induction fu with
            | zero =>
              intro K_474 x12_474 x13_474 x14_474 v H locs ls hf
              exact absurd hf (by simp [L_isActed_L474])
            | succ fu ih =>
              intro K_474 x12_474 x13_474 x14_474 v _ _ ls hf hP hD hS hl hk
              rw [L_isActed_L474] at hf
              refine lv_iload hx hb dL_isActed_474 (lv_at hl 5 rfl) ?_
              refine lv_if_lt (tgt := 509) hx hb dL_isActed_476 (by decide) (fun c_66 => ?_) (fun c_66 => ?_)
              · replace hf := (if_pos c_66).symm.trans hf
                obtain rfl := Option.some.inj hf
                exact hk _ _ ls hP hD hS (lv_sub hl [0, 3, 4] rfl)
              · replace hf := (if_neg c_66).symm.trans hf
                refine lv_aload_n hx hb dL_isActed_479 rfl (lv_at hl 1 rfl) ?_
                refine lv_iconst (v := 4) hx hb dL_isActed_480 (by decide) ?_
                refine lv_iload hx hb dL_isActed_481 (lv_at hl 5 rfl) ?_
                refine lv_imul hx hb dL_isActed_483 ?_
                refine lv_iconst (v := 3) hx hb dL_isActed_484 (by decide) ?_
                refine lv_iadd hx hb dL_isActed_485 ?_
                have g_67 := og hf
                replace hf := (if_pos g_67).symm.trans hf
                refine va_iald hx hb hX.1 hP 1 0 (n := 64) (f := (K_474.1 1)) rfl rfl g_67 dL_isActed_486 ?_
                refine lv_iload hx hb dL_isActed_487 (lv_at hl 3 rfl) ?_
                refine lv_icmp_ne (tgt := 503) hx hb dL_isActed_489 (by decide) (fun c_68 => ?_) (fun c_68 => ?_)
                · replace hf := (if_neg c_68).symm.trans hf
                  refine lv_iinc (v := (x14_474 + (-1))) (lv' := [(14, .int (x14_474 + (-1))), (0, .ref o), (2, .ref (a 1)), (4, .ref (a 3)), (12, .int x12_474), (13, .int x13_474)]) hx hb dL_isActed_503 hl (k := 5) rfl (by rfl) (by decide) rfl (fun ls hl => ?_)
                  refine lv_goto (tgt := 474) hx hb dL_isActed_506 (by decide) ?_
                  exact ih K_474 x12_474 x13_474 (x14_474 + (-1)) _ _ _ ls hf hP hD hS (lv_sub hl [1, 2, 3, 4, 5, 0] rfl) hk
                · replace hf := (if_pos c_68).symm.trans hf
                  refine lv_aload_n hx hb dL_isActed_492 rfl (lv_at hl 1 rfl) ?_
                  refine lv_aload hx hb dL_isActed_493 (lv_at hl 2 rfl) ?_
                  refine lv_iload hx hb dL_isActed_495 (lv_at hl 5 rfl) ?_
                  obtain ⟨u_69, h_70, hf⟩ := ob hf
                  refine k_wv (runS F wdL_73 (rm := rm_L_drop) (As := [.ref (a 1), .ref (a 3), .int x14_474]) (rest := []) ⟨rfl, rfl⟩ ⟨Nat.le_of_ble_eq_true rfl, Nat.le_of_ble_eq_true rfl⟩ hl.1 rfl rfl (Nat.le_of_ble_eq_true rfl) dL_isActed_497 ⟨Nat.zero_le _, Nat.zero_le _⟩) (c_L_drop l D cI cP a K_474.1 x14_474 _ h_70) hX trivial (Cut.one (Bs := (bLM cI cP o h tx tn Ad a K_474)) (k := 0) rfl rfl) hP hD hS hA (fun H locs hP hD hS => ?_)
                  obtain ⟨M_71, e_72, hf⟩ := bnd_e hf
                  have hP : va_P D vwCl (wLM cI cP o h tx tn Ad a M_71) H := by rw [e_72]; exact hP
                  have hD : va_D A (wLM cI cP o h tx tn Ad a M_71) := by rw [e_72]; exact hD
                  clear e_72
                  refine lv_iinc (v := (x13_474 + 1)) (lv' := [(13, .int (x13_474 + 1)), (0, .ref o), (2, .ref (a 1)), (4, .ref (a 3)), (12, .int x12_474), (14, .int x14_474)]) hx hb dL_isActed_500 hl (k := 4) rfl (by rfl) (by decide) rfl (fun ls hl => ?_)
                  refine lv_iinc (v := (x14_474 + (-1))) (lv' := [(14, .int (x14_474 + (-1))), (13, .int (x13_474 + 1)), (0, .ref o), (2, .ref (a 1)), (4, .ref (a 3)), (12, .int x12_474)]) hx hb dL_isActed_503 hl (k := 5) rfl (by rfl) (by decide) rfl (fun ls hl => ?_)
                  refine lv_goto (tgt := 474) hx hb dL_isActed_506 (by decide) ?_
                  exact ih M_71 x12_474 (x13_474 + 1) (x14_474 + (-1)) _ _ _ ls hf hP hD hS (lv_sub hl [2, 3, 4, 5, 1, 0] rfl) hk
          obtain ⟨u_73, h_74, hf⟩ := ob hf
          refine hL_474 FUEL K ((x7 / 144) - (x7 / 144) / 6 * 6) 0 (((K.1 3) (Int32.toNatClampNeg 1)) - 1) u_73 _ _ ls h_74 hP hD hS (lv_sub hl [4, 6, 8, 2, 1, 0] rfl) (fun H locs ls hP hD hS hl => ?_)
          clear hL_474
          refine lv_aload_n hx hb dL_isActed_509 rfl (lv_at hl 0 rfl) ?_
          refine lv_iload hx hb dL_isActed_510 (lv_at hl 1 rfl) ?_
          obtain ⟨u_75, h_76, hf⟩ := ob hf
          refine k_wi (runV F wdL_80 (rm := rm_X6_cutDeal) (As := [.int ((x7 / 144) - (x7 / 144) / 6 * 6)]) (rest := []) ⟨rfl, rfl⟩ ⟨Nat.le_of_ble_eq_true rfl, Nat.le_of_ble_eq_true rfl⟩ hl.1 rfl rfl (Nat.le_of_ble_eq_true rfl) dL_isActed_512 ⟨Nat.zero_le _, Nat.zero_le _⟩) (c_X6_cutDeal l D cI cP o h tx tn Ad u_73.1.2 ((x7 / 144) - (x7 / 144) / 6 * 6) _ h_76) hX (va_recv hX.1 (va_blk (Bs := (bLM cI cP o h tx tn Ad a u_73.1)) hP 1 rfl) (ci := 6) (q0 := 0) rfl rfl) (Cut.one (Bs := (bLM cI cP o h tx tn Ad a u_73.1)) (k := 1) rfl rfl) hP hD hS hA (fun H locs hP hD hS => ?_)
          obtain ⟨M_77, e_78, hf⟩ := bnd_e hf
          have hP : va_P D vwCl (wLM cI cP o h tx tn Ad a M_77) H := by rw [e_78]; exact hP
          have hD : va_D A (wLM cI cP o h tx tn Ad a M_77) := by rw [e_78]; exact hD
          clear e_78
          refine lv_iload hx hb dL_isActed_515 (lv_at hl 2 rfl) ?_
          refine lv_if_le (tgt := 525) hx hb dL_isActed_517 (by decide) (fun c_79 => ?_) (fun c_79 => ?_)
          · replace hf := (if_pos c_79).symm.trans hf
            refine lv_ldc (v := (-1000002)) hx hb hown (hts _ q_536) dL_isActed_525 ?_
            refine lv_icmp_ne (tgt := 534) hx hb dL_isActed_527 (by decide) (fun c_80 => ?_) (fun c_80 => ?_)
            · replace hf := (if_neg c_80).symm.trans hf
              refine lv_iconst (v := 0) hx hb dL_isActed_534 (by decide) ?_
              obtain rfl := (Option.some.inj hf)
              exact wr_z F (by decide) rfl hP hS dL_isActed_535
            · replace hf := (if_pos c_80).symm.trans hf
              refine lv_iconst (v := 1) hx hb dL_isActed_530 (by decide) ?_
              refine lv_goto (tgt := 535) hx hb dL_isActed_531 (by decide) ?_
              obtain rfl := (Option.some.inj hf)
              exact wr_z F (by decide) rfl hP hS dL_isActed_535
          · replace hf := (if_neg c_79).symm.trans hf
            refine lv_iload hx hb dL_isActed_520 (lv_at hl 2 rfl) ?_
            refine lv_goto (tgt := 527) hx hb dL_isActed_522 (by decide) ?_
            refine lv_icmp_ne (tgt := 534) hx hb dL_isActed_527 (by decide) (fun c_81 => ?_) (fun c_81 => ?_)
            · replace hf := (if_neg c_81).symm.trans hf
              refine lv_iconst (v := 0) hx hb dL_isActed_534 (by decide) ?_
              obtain rfl := (Option.some.inj hf)
              exact wr_z F (by decide) rfl hP hS dL_isActed_535
            · replace hf := (if_pos c_81).symm.trans hf
              refine lv_iconst (v := 1) hx hb dL_isActed_530 (by decide) ?_
              refine lv_goto (tgt := 535) hx hb dL_isActed_531 (by decide) ?_
              obtain rfl := (Option.some.inj hf)
              exact wr_z F (by decide) rfl hP hS dL_isActed_535
      · replace hf := (if_pos c_6).symm.trans hf
        refine lv_iload hx hb dL_isActed_384 (lv_at hl 10 rfl) ?_
        refine lv_bipush (v := 15) hx hb dL_isActed_386 (by decide) ?_
        refine lv_irem hx hb dL_isActed_388 (by decide) ?_
        refine lv_istore (lv' := [(12, .int ((x7 / 144) - (x7 / 144) / 15 * 15)), (11, .int (L_isActed_J31 K x6 (x7 - x7 / 12 * 12) ((x7 / 12) - (x7 / 12) / 12 * 12) (x7 / 144) ((K.1 3) (Int32.toNatClampNeg 0)) (x7 - x7 / 12 * 12))), (0, .ref o), (1, .ref (a 0)), (2, .ref (a 1)), (3, .ref (a 2)), (4, .ref (a 3)), (5, .ref (a 4)), (6, .int x6), (8, .int (x7 - x7 / 12 * 12)), (9, .int ((x7 / 12) - (x7 / 12) / 12 * 12)), (10, .int (x7 / 144))]) hx hb dL_isActed_389 hl (by decide) rfl (fun ls hl => ?_)
        refine lv_iload hx hb dL_isActed_391 (lv_at hl 0 rfl) ?_
        refine lv_aload hx hb dL_isActed_393 (lv_at hl 6 rfl) ?_
        refine lv_iconst (v := 1) hx hb dL_isActed_395 (by decide) ?_
        refine va_iald hx hb hX.1 hP 3 0 (n := 8) (f := (K.1 3)) rfl rfl (by decide : ¬ ((1 : Int32) < 0 ∨ 8 ≤ Int32.toNatClampNeg 1)) dL_isActed_396 ?_
        have hJ_397 : ∀ (K_397 : SLM) (x12_397 : Int32) (t0_397 : Int32) (t1_397 : Int32) (v : Int32) (H : Heap) (locs : List Loc) (ls : Array Slot), L_isActed_J397 K_397 x12_397 t0_397 t1_397 = v → va_P D vwCl (wLM cI cP o h tx tn Ad a K_397) H → va_D A (wLM cI cP o h tx tn Ad a K_397) → va_S A s.heap H locs → lv_has ls 15 [(12, .int x12_397), (0, .ref o), (2, .ref (a 1)), (4, .ref (a 3))] → (∀ (H : Heap) (locs : List Loc) (ls : Array Slot), va_P D vwCl (wLM cI cP o h tx tn Ad a K_397) H → va_D A (wLM cI cP o h tx tn Ad a K_397) → va_S A s.heap H locs → lv_has ls 15 [(0, .ref o), (2, .ref (a 1)), (4, .ref (a 3)), (12, .int x12_397)] → W p l e rm_L_isActed s m args below meth c H locs 0 0 (QWi D below args s A (wLM cI cP o h tx tn Ad a z.1) z.2) (F0 m 405 ls [.int v])) → W p l e rm_L_isActed s m args below meth c H locs 0 0 (QWi D below args s A (wLM cI cP o h tx tn Ad a z.1) z.2) (F0 m 397 ls [.int t0_397, .int t1_397]) := by
          intro K_397 x12_397 t0_397 t1_397 v _ _ ls hf hP hD hS hl hk
          unfold L_isActed_J397 at hf
          refine lv_icmp_ge (tgt := 404) hx hb dL_isActed_397 (by decide) (fun c_82 => ?_) (fun c_82 => ?_)
          · replace hf := (if_pos c_82).symm.trans hf
            refine lv_iconst (v := 0) hx hb dL_isActed_404 (by decide) ?_
            obtain rfl := hf
            exact hk _ _ ls hP hD hS (lv_sub hl [1, 2, 3, 0] rfl)
          · replace hf := (if_neg c_82).symm.trans hf
            refine lv_iconst (v := 1) hx hb dL_isActed_400 (by decide) ?_
            refine lv_goto (tgt := 405) hx hb dL_isActed_401 (by decide) ?_
            obtain rfl := hf
            exact hk _ _ ls hP hD hS (lv_sub hl [1, 2, 3, 0] rfl)
        refine hJ_397 K ((x7 / 144) - (x7 / 144) / 15 * 15) ((K.1 3) (Int32.toNatClampNeg 1)) ((x7 / 144) - (x7 / 144) / 15 * 15) _ _ _ ls rfl hP hD hS (lv_sub hl [0, 2, 4, 6] rfl) (fun H locs ls hP hD hS hl => ?_)
        clear hJ_397
        refine lv_istore (lv' := [(13, .int (L_isActed_J397 K ((x7 / 144) - (x7 / 144) / 15 * 15) ((K.1 3) (Int32.toNatClampNeg 1)) ((x7 / 144) - (x7 / 144) / 15 * 15))), (0, .ref o), (2, .ref (a 1)), (4, .ref (a 3)), (12, .int ((x7 / 144) - (x7 / 144) / 15 * 15))]) hx hb dL_isActed_405 hl (by decide) rfl (fun ls hl => ?_)
        refine lv_iload hx hb dL_isActed_407 (lv_at hl 0 rfl) ?_
        have hJ_409 : ∀ (K_409 : SLM) (x12_409 : Int32) (x13_409 : Int32) (t0_409 : Int32) (v : SLM) (H : Heap) (locs : List Loc) (ls : Array Slot), L_isActed_J409 K_409 x12_409 x13_409 t0_409 = some v → va_P D vwCl (wLM cI cP o h tx tn Ad a K_409) H → va_D A (wLM cI cP o h tx tn Ad a K_409) → va_S A s.heap H locs → lv_has ls 15 [(13, .int x13_409), (0, .ref o), (2, .ref (a 1)), (4, .ref (a 3)), (12, .int x12_409)] → (∀ (H : Heap) (locs : List Loc) (ls : Array Slot), va_P D vwCl (wLM cI cP o h tx tn Ad a v) H → va_D A (wLM cI cP o h tx tn Ad a v) → va_S A s.heap H locs → lv_has ls 15 [(0, .ref o), (4, .ref (a 3)), (12, .int x12_409), (13, .int x13_409)] → W p l e rm_L_isActed s m args below meth c H locs 0 0 (QWi D below args s A (wLM cI cP o h tx tn Ad a z.1) z.2) (F0 m 420 ls [])) → W p l e rm_L_isActed s m args below meth c H locs 0 0 (QWi D below args s A (wLM cI cP o h tx tn Ad a z.1) z.2) (F0 m 409 ls [.int t0_409]) := by
          intro K_409 x12_409 x13_409 t0_409 v _ _ ls hf hP hD hS hl hk
          unfold L_isActed_J409 at hf
          refine lv_if_eq (tgt := 420) hx hb dL_isActed_409 (by decide) (fun c_83 => ?_) (fun c_83 => ?_)
          · replace hf := (if_pos c_83).symm.trans hf
            obtain rfl := Option.some.inj hf
            exact hk _ _ ls hP hD hS (lv_sub hl [1, 3, 4, 0] rfl)
          · replace hf := (if_neg c_83).symm.trans hf
            refine lv_aload_n hx hb dL_isActed_412 rfl (lv_at hl 2 rfl) ?_
            refine lv_aload hx hb dL_isActed_413 (lv_at hl 3 rfl) ?_
            refine lv_iload hx hb dL_isActed_415 (lv_at hl 4 rfl) ?_
            obtain ⟨u_84, h_85, hf⟩ := ob hf
            refine k_wv (runS F wdL_73 (rm := rm_L_drop) (As := [.ref (a 1), .ref (a 3), .int x12_409]) (rest := []) ⟨rfl, rfl⟩ ⟨Nat.le_of_ble_eq_true rfl, Nat.le_of_ble_eq_true rfl⟩ hl.1 rfl rfl (Nat.le_of_ble_eq_true rfl) dL_isActed_417 ⟨Nat.zero_le _, Nat.zero_le _⟩) (c_L_drop l D cI cP a K_409.1 x12_409 _ h_85) hX trivial (Cut.one (Bs := (bLM cI cP o h tx tn Ad a K_409)) (k := 0) rfl rfl) hP hD hS hA (fun H locs hP hD hS => ?_)
            obtain ⟨M_86, e_87, hf⟩ := bnd_e hf
            have hP : va_P D vwCl (wLM cI cP o h tx tn Ad a M_86) H := by rw [e_87]; exact hP
            have hD : va_D A (wLM cI cP o h tx tn Ad a M_86) := by rw [e_87]; exact hD
            clear e_87
            obtain rfl := Option.some.inj hf
            exact hk _ _ ls hP hD hS (lv_sub hl [1, 3, 4, 0] rfl)
        obtain ⟨u_88, h_89, hf⟩ := ob hf
        refine hJ_409 K ((x7 / 144) - (x7 / 144) / 15 * 15) (L_isActed_J397 K ((x7 / 144) - (x7 / 144) / 15 * 15) ((K.1 3) (Int32.toNatClampNeg 1)) ((x7 / 144) - (x7 / 144) / 15 * 15)) (L_isActed_J397 K ((x7 / 144) - (x7 / 144) / 15 * 15) ((K.1 3) (Int32.toNatClampNeg 1)) ((x7 / 144) - (x7 / 144) / 15 * 15)) u_88 _ _ ls h_89 hP hD hS hl (fun H locs ls hP hD hS hl => ?_)
        clear hJ_409
        refine lv_aload_n hx hb dL_isActed_420 rfl (lv_at hl 0 rfl) ?_
        refine lv_iload hx hb dL_isActed_421 (lv_at hl 2 rfl) ?_
        obtain ⟨u_90, h_91, hf⟩ := ob hf
        refine k_wi (runV F wdL_77 (rm := rm_X6_cut) (As := [.int ((x7 / 144) - (x7 / 144) / 15 * 15)]) (rest := []) ⟨rfl, rfl⟩ ⟨Nat.le_of_ble_eq_true rfl, Nat.le_of_ble_eq_true rfl⟩ hl.1 rfl rfl (Nat.le_of_ble_eq_true rfl) dL_isActed_423 ⟨Nat.zero_le _, Nat.zero_le _⟩) (c_X6_cut l D cI cP o h tx tn Ad u_88.2 ((x7 / 144) - (x7 / 144) / 15 * 15) _ h_91) hX (va_recv hX.1 (va_blk (Bs := (bLM cI cP o h tx tn Ad a u_88)) hP 1 rfl) (ci := 6) (q0 := 0) rfl rfl) (Cut.one (Bs := (bLM cI cP o h tx tn Ad a u_88)) (k := 1) rfl rfl) hP hD hS hA (fun H locs hP hD hS => ?_)
        obtain ⟨M_92, e_93, hf⟩ := bnd_e hf
        have hP : va_P D vwCl (wLM cI cP o h tx tn Ad a M_92) H := by rw [e_93]; exact hP
        have hD : va_D A (wLM cI cP o h tx tn Ad a M_92) := by rw [e_93]; exact hD
        clear e_93
        refine lv_iload hx hb dL_isActed_426 (lv_at hl 3 rfl) ?_
        refine lv_if_eq (tgt := 438) hx hb dL_isActed_428 (by decide) (fun c_94 => ?_) (fun c_94 => ?_)
        · replace hf := (if_pos c_94).symm.trans hf
          refine lv_ldc (v := (-1000001)) hx hb hown (hts _ q_316) dL_isActed_438 ?_
          refine lv_icmp_ne (tgt := 447) hx hb dL_isActed_440 (by decide) (fun c_95 => ?_) (fun c_95 => ?_)
          · replace hf := (if_neg c_95).symm.trans hf
            refine lv_iconst (v := 0) hx hb dL_isActed_447 (by decide) ?_
            obtain rfl := (Option.some.inj hf)
            exact wr_z F (by decide) rfl hP hS dL_isActed_448
          · replace hf := (if_pos c_95).symm.trans hf
            refine lv_iconst (v := 1) hx hb dL_isActed_443 (by decide) ?_
            refine lv_goto (tgt := 448) hx hb dL_isActed_444 (by decide) ?_
            obtain rfl := (Option.some.inj hf)
            exact wr_z F (by decide) rfl hP hS dL_isActed_448
        · replace hf := (if_neg c_94).symm.trans hf
          refine lv_aload hx hb dL_isActed_431 (lv_at hl 1 rfl) ?_
          refine lv_iconst (v := 1) hx hb dL_isActed_433 (by decide) ?_
          refine va_iald hx hb hX.1 hP 3 0 (n := 8) (f := (M_92.1 3)) rfl rfl (by decide : ¬ ((1 : Int32) < 0 ∨ 8 ≤ Int32.toNatClampNeg 1)) dL_isActed_434 ?_
          refine lv_goto (tgt := 440) hx hb dL_isActed_435 (by decide) ?_
          refine lv_icmp_ne (tgt := 447) hx hb dL_isActed_440 (by decide) (fun c_96 => ?_) (fun c_96 => ?_)
          · replace hf := (if_neg c_96).symm.trans hf
            refine lv_iconst (v := 0) hx hb dL_isActed_447 (by decide) ?_
            obtain rfl := (Option.some.inj hf)
            exact wr_z F (by decide) rfl hP hS dL_isActed_448
          · replace hf := (if_pos c_96).symm.trans hf
            refine lv_iconst (v := 1) hx hb dL_isActed_443 (by decide) ?_
            refine lv_goto (tgt := 448) hx hb dL_isActed_444 (by decide) ?_
            obtain rfl := (Option.some.inj hf)
            exact wr_z F (by decide) rfl hP hS dL_isActed_448
    · replace hf := (if_neg c_5).symm.trans hf
      refine lv_iload hx hb dL_isActed_185 (lv_at hl 10 rfl) ?_
      refine lv_iconst (v := 2) hx hb dL_isActed_187 (by decide) ?_
      refine lv_irem hx hb dL_isActed_188 (by decide) ?_
      refine lv_istore (lv' := [(12, .int ((x7 / 144) - (x7 / 144) / 2 * 2)), (11, .int (L_isActed_J31 K x6 (x7 - x7 / 12 * 12) ((x7 / 12) - (x7 / 12) / 12 * 12) (x7 / 144) ((K.1 3) (Int32.toNatClampNeg 0)) (x7 - x7 / 12 * 12))), (0, .ref o), (1, .ref (a 0)), (2, .ref (a 1)), (3, .ref (a 2)), (4, .ref (a 3)), (5, .ref (a 4)), (6, .int x6), (8, .int (x7 - x7 / 12 * 12)), (9, .int ((x7 / 12) - (x7 / 12) / 12 * 12)), (10, .int (x7 / 144))]) hx hb dL_isActed_189 hl (by decide) rfl (fun ls hl => ?_)
      refine lv_iload hx hb dL_isActed_191 (lv_at hl 1 rfl) ?_
      have hJ_193 : ∀ (K_193 : SLM) (x8_193 : Int32) (x9_193 : Int32) (x10_193 : Int32) (x12_193 : Int32) (t0_193 : Int32) (v : SLM × Int32) (H : Heap) (locs : List Loc) (ls : Array Slot), L_isActed_J193 K_193 x8_193 x9_193 x10_193 x12_193 t0_193 = some v → va_P D vwCl (wLM cI cP o h tx tn Ad a K_193) H → va_D A (wLM cI cP o h tx tn Ad a K_193) → va_S A s.heap H locs → lv_has ls 15 [(12, .int x12_193), (0, .ref o), (1, .ref (a 0)), (2, .ref (a 1)), (4, .ref (a 3)), (5, .ref (a 4)), (8, .int x8_193), (9, .int x9_193), (10, .int x10_193)] → (∀ (H : Heap) (locs : List Loc) (ls : Array Slot), va_P D vwCl (wLM cI cP o h tx tn Ad a v.1) H → va_D A (wLM cI cP o h tx tn Ad a v.1) → va_S A s.heap H locs → lv_has ls 15 [(0, .ref o), (2, .ref (a 1)), (4, .ref (a 3)), (8, .int x8_193), (9, .int x9_193), (10, .int x10_193), (12, .int x12_193)] → W p l e rm_L_isActed s m args below meth c H locs 0 0 (QWi D below args s A (wLM cI cP o h tx tn Ad a z.1) z.2) (F0 m 215 ls [.int v.2])) → W p l e rm_L_isActed s m args below meth c H locs 0 0 (QWi D below args s A (wLM cI cP o h tx tn Ad a z.1) z.2) (F0 m 193 ls [.int t0_193]) := by
        intro K_193 x8_193 x9_193 x10_193 x12_193 t0_193 v _ _ ls hf hP hD hS hl hk
        unfold L_isActed_J193 at hf
        refine lv_if_eq (tgt := 214) hx hb dL_isActed_193 (by decide) (fun c_97 => ?_) (fun c_97 => ?_)
        · replace hf := (if_pos c_97).symm.trans hf
          refine lv_iconst (v := (-1)) hx hb dL_isActed_214 (by decide) ?_
          obtain rfl := Option.some.inj hf
          exact hk _ _ ls hP hD hS (lv_sub hl [1, 3, 4, 6, 7, 8, 0] rfl)
        · replace hf := (if_neg c_97).symm.trans hf
          refine lv_aload_n hx hb dL_isActed_196 rfl (lv_at hl 2 rfl) ?_
          refine lv_aload_n hx hb dL_isActed_197 rfl (lv_at hl 3 rfl) ?_
          refine lv_aload hx hb dL_isActed_198 (lv_at hl 4 rfl) ?_
          refine lv_aload hx hb dL_isActed_200 (lv_at hl 5 rfl) ?_
          refine lv_iload hx hb dL_isActed_202 (lv_at hl 6 rfl) ?_
          refine lv_iload hx hb dL_isActed_204 (lv_at hl 7 rfl) ?_
          refine lv_iload hx hb dL_isActed_206 (lv_at hl 0 rfl) ?_
          obtain ⟨u_98, h_99, hf⟩ := ob hf
          refine k_wi (runS F wdL_57 (rm := rm_L_whyTie) (As := [.ref (a 0), .ref (a 1), .ref (a 3), .ref (a 4), .int x8_193, .int x9_193, .int x12_193]) (rest := []) ⟨rfl, rfl⟩ ⟨Nat.le_of_ble_eq_true rfl, Nat.le_of_ble_eq_true rfl⟩ hl.1 rfl rfl (Nat.le_of_ble_eq_true rfl) dL_isActed_208 ⟨Nat.zero_le _, Nat.zero_le _⟩) (c_L_whyTie l D cI cP a K_193.1 x8_193 x9_193 x12_193 _ h_99) hX trivial (Cut.one (Bs := (bLM cI cP o h tx tn Ad a K_193)) (k := 0) rfl rfl) hP hD hS hA (fun H locs hP hD hS => ?_)
          obtain ⟨M_100, e_101, hf⟩ := bnd_e hf
          have hP : va_P D vwCl (wLM cI cP o h tx tn Ad a M_100) H := by rw [e_101]; exact hP
          have hD : va_D A (wLM cI cP o h tx tn Ad a M_100) := by rw [e_101]; exact hD
          clear e_101
          refine lv_goto (tgt := 215) hx hb dL_isActed_211 (by decide) ?_
          obtain rfl := Option.some.inj hf
          exact hk _ _ ls hP hD hS (lv_sub hl [1, 3, 4, 6, 7, 8, 0] rfl)
      obtain ⟨u_102, h_103, hf⟩ := ob hf
      refine hJ_193 K (x7 - x7 / 12 * 12) ((x7 / 12) - (x7 / 12) / 12 * 12) (x7 / 144) ((x7 / 144) - (x7 / 144) / 2 * 2) (L_isActed_J31 K x6 (x7 - x7 / 12 * 12) ((x7 / 12) - (x7 / 12) / 12 * 12) (x7 / 144) ((K.1 3) (Int32.toNatClampNeg 0)) (x7 - x7 / 12 * 12)) u_102 _ _ ls h_103 hP hD hS (lv_sub hl [0, 2, 3, 4, 6, 7, 9, 10, 11] rfl) (fun H locs ls hP hD hS hl => ?_)
      clear hJ_193
      refine lv_istore (lv' := [(13, .int u_102.2), (0, .ref o), (2, .ref (a 1)), (4, .ref (a 3)), (8, .int (x7 - x7 / 12 * 12)), (9, .int ((x7 / 12) - (x7 / 12) / 12 * 12)), (10, .int (x7 / 144)), (12, .int ((x7 / 144) - (x7 / 144) / 2 * 2))]) hx hb dL_isActed_215 hl (by decide) rfl (fun ls hl => ?_)
      refine lv_aload hx hb dL_isActed_217 (lv_at hl 3 rfl) ?_
      refine lv_iconst (v := 1) hx hb dL_isActed_219 (by decide) ?_
      refine va_iald hx hb hX.1 hP 3 0 (n := 8) (f := (u_102.1.1 3)) rfl rfl (by decide : ¬ ((1 : Int32) < 0 ∨ 8 ≤ Int32.toNatClampNeg 1)) dL_isActed_220 ?_
      refine lv_bipush (v := 15) hx hb dL_isActed_221 (by decide) ?_
      refine lv_icmp_ne (tgt := 228) hx hb dL_isActed_223 (by decide) (fun c_104 => ?_) (fun c_104 => ?_)
      · replace hf := (if_neg c_104).symm.trans hf
        refine lv_iload hx hb dL_isActed_228 (lv_at hl 0 rfl) ?_
        have hJ_230 : ∀ (K_230 : SLM) (x8_230 : Int32) (x9_230 : Int32) (x10_230 : Int32) (x12_230 : Int32) (x13_230 : Int32) (t0_230 : Int32) (v : SLM) (H : Heap) (locs : List Loc) (ls : Array Slot), L_isActed_J230 K_230 x8_230 x9_230 x10_230 x12_230 x13_230 t0_230 = some v → va_P D vwCl (wLM cI cP o h tx tn Ad a K_230) H → va_D A (wLM cI cP o h tx tn Ad a K_230) → va_S A s.heap H locs → lv_has ls 15 [(13, .int x13_230), (0, .ref o), (2, .ref (a 1)), (4, .ref (a 3)), (8, .int x8_230), (9, .int x9_230), (10, .int x10_230), (12, .int x12_230)] → (∀ (H : Heap) (locs : List Loc) (ls : Array Slot), va_P D vwCl (wLM cI cP o h tx tn Ad a v) H → va_D A (wLM cI cP o h tx tn Ad a v) → va_S A s.heap H locs → lv_has ls 15 [(0, .ref o), (4, .ref (a 3)), (8, .int x8_230), (9, .int x9_230), (10, .int x10_230), (12, .int x12_230), (13, .int x13_230)] → W p l e rm_L_isActed s m args below meth c H locs 0 0 (QWi D below args s A (wLM cI cP o h tx tn Ad a z.1) z.2) (F0 m 316 ls [])) → W p l e rm_L_isActed s m args below meth c H locs 0 0 (QWi D below args s A (wLM cI cP o h tx tn Ad a z.1) z.2) (F0 m 230 ls [.int t0_230]) := by
          intro K_230 x8_230 x9_230 x10_230 x12_230 x13_230 t0_230 v _ _ ls hf hP hD hS hl hk
          unfold L_isActed_J230 at hf
          refine lv_if_ne (tgt := 316) hx hb dL_isActed_230 (by decide) (fun c_105 => ?_) (fun c_105 => ?_)
          · replace hf := (if_neg c_105).symm.trans hf
            obtain rfl := Option.some.inj hf
            exact hk _ _ ls hP hD hS (lv_sub hl [1, 3, 4, 5, 6, 7, 0] rfl)
          · replace hf := (if_pos c_105).symm.trans hf
            refine lv_aload_n hx hb dL_isActed_233 rfl (lv_at hl 2 rfl) ?_
            refine lv_iconst (v := 4) hx hb dL_isActed_234 (by decide) ?_
            refine lv_aload hx hb dL_isActed_235 (lv_at hl 3 rfl) ?_
            refine lv_iconst (v := 1) hx hb dL_isActed_237 (by decide) ?_
            refine va_iald hx hb hX.1 hP 3 0 (n := 8) (f := (K_230.1 3)) rfl rfl (by decide : ¬ ((1 : Int32) < 0 ∨ 8 ≤ Int32.toNatClampNeg 1)) dL_isActed_238 ?_
            refine lv_imul hx hb dL_isActed_239 ?_
            refine lv_iload hx hb dL_isActed_240 (lv_at hl 4 rfl) ?_
            refine lv_iload hx hb dL_isActed_242 (lv_at hl 5 rfl) ?_
            have hJ_244 : ∀ (K_244 : SLM) (x8_244 : Int32) (x9_244 : Int32) (x10_244 : Int32) (x12_244 : Int32) (x13_244 : Int32) (t0_244 : Int32) (t1_244 : Int32) (t2_244 : Int32) (v : Int32) (H : Heap) (locs : List Loc) (ls : Array Slot), L_isActed_J244 K_244 x8_244 x9_244 x10_244 x12_244 x13_244 t0_244 t1_244 t2_244 = v → va_P D vwCl (wLM cI cP o h tx tn Ad a K_244) H → va_D A (wLM cI cP o h tx tn Ad a K_244) → va_S A s.heap H locs → lv_has ls 15 [(13, .int x13_244), (0, .ref o), (2, .ref (a 1)), (4, .ref (a 3)), (8, .int x8_244), (9, .int x9_244), (10, .int x10_244), (12, .int x12_244)] → (∀ (H : Heap) (locs : List Loc) (ls : Array Slot), va_P D vwCl (wLM cI cP o h tx tn Ad a K_244) H → va_D A (wLM cI cP o h tx tn Ad a K_244) → va_S A s.heap H locs → lv_has ls 15 [(0, .ref o), (2, .ref (a 1)), (4, .ref (a 3)), (8, .int x8_244), (9, .int x9_244), (10, .int x10_244), (12, .int x12_244), (13, .int x13_244)] → W p l e rm_L_isActed s m args below meth c H locs 0 0 (QWi D below args s A (wLM cI cP o h tx tn Ad a z.1) z.2) (F0 m 254 ls [.int v, .int t2_244, .ref (a 1)])) → W p l e rm_L_isActed s m args below meth c H locs 0 0 (QWi D below args s A (wLM cI cP o h tx tn Ad a z.1) z.2) (F0 m 244 ls [.int t0_244, .int t1_244, .int t2_244, .ref (a 1)]) := by
              intro K_244 x8_244 x9_244 x10_244 x12_244 x13_244 t0_244 t1_244 t2_244 v _ _ ls hf hP hD hS hl hk
              unfold L_isActed_J244 at hf
              refine lv_icmp_ge (tgt := 252) hx hb dL_isActed_244 (by decide) (fun c_106 => ?_) (fun c_106 => ?_)
              · replace hf := (if_pos c_106).symm.trans hf
                refine lv_iload hx hb dL_isActed_252 (lv_at hl 5 rfl) ?_
                obtain rfl := hf
                exact hk _ _ ls hP hD hS (lv_sub hl [1, 2, 3, 4, 5, 6, 7, 0] rfl)
              · replace hf := (if_neg c_106).symm.trans hf
                refine lv_iload hx hb dL_isActed_247 (lv_at hl 4 rfl) ?_
                refine lv_goto (tgt := 254) hx hb dL_isActed_249 (by decide) ?_
                obtain rfl := hf
                exact hk _ _ ls hP hD hS (lv_sub hl [1, 2, 3, 4, 5, 6, 7, 0] rfl)
            refine hJ_244 K_230 x8_230 x9_230 x10_230 x12_230 x13_230 x9_230 x8_230 (4 * ((K_230.1 3) (Int32.toNatClampNeg 1))) _ _ _ ls rfl hP hD hS hl (fun H locs ls hP hD hS hl => ?_)
            clear hJ_244
            have g_107 := og hf
            replace hf := (if_pos g_107).symm.trans hf
            refine va_iast hx hb hX.1 hP hD hS 1 0 (n := 64) (f := (K_230.1 1)) rfl rfl g_107 dL_isActed_254 (fun H locs hP hD hS => ?_)
            obtain ⟨M_108, e_109, hf⟩ := bnd_e hf
            have hP : va_P D vwCl (wLM cI cP o h tx tn Ad a M_108) H := by rw [e_109]; exact hP
            have hD : va_D A (wLM cI cP o h tx tn Ad a M_108) := by rw [e_109]; exact hD
            clear e_109
            refine lv_aload_n hx hb dL_isActed_255 rfl (lv_at hl 1 rfl) ?_
            refine lv_iconst (v := 4) hx hb dL_isActed_256 (by decide) ?_
            refine lv_aload hx hb dL_isActed_257 (lv_at hl 2 rfl) ?_
            refine lv_iconst (v := 1) hx hb dL_isActed_259 (by decide) ?_
            refine va_iald hx hb hX.1 hP 3 0 (n := 8) (f := (M_108.1 3)) rfl rfl (by decide : ¬ ((1 : Int32) < 0 ∨ 8 ≤ Int32.toNatClampNeg 1)) dL_isActed_260 ?_
            refine lv_imul hx hb dL_isActed_261 ?_
            refine lv_iconst (v := 1) hx hb dL_isActed_262 (by decide) ?_
            refine lv_iadd hx hb dL_isActed_263 ?_
            refine lv_iload hx hb dL_isActed_264 (lv_at hl 3 rfl) ?_
            refine lv_iload hx hb dL_isActed_266 (lv_at hl 4 rfl) ?_
            have hJ_268 : ∀ (K_268 : SLM) (x8_268 : Int32) (x9_268 : Int32) (x10_268 : Int32) (x12_268 : Int32) (x13_268 : Int32) (t0_268 : Int32) (t1_268 : Int32) (t2_268 : Int32) (v : Int32) (H : Heap) (locs : List Loc) (ls : Array Slot), L_isActed_J268 K_268 x8_268 x9_268 x10_268 x12_268 x13_268 t0_268 t1_268 t2_268 = v → va_P D vwCl (wLM cI cP o h tx tn Ad a K_268) H → va_D A (wLM cI cP o h tx tn Ad a K_268) → va_S A s.heap H locs → lv_has ls 15 [(0, .ref o), (2, .ref (a 1)), (4, .ref (a 3)), (8, .int x8_268), (9, .int x9_268), (10, .int x10_268), (12, .int x12_268), (13, .int x13_268)] → (∀ (H : Heap) (locs : List Loc) (ls : Array Slot), va_P D vwCl (wLM cI cP o h tx tn Ad a K_268) H → va_D A (wLM cI cP o h tx tn Ad a K_268) → va_S A s.heap H locs → lv_has ls 15 [(0, .ref o), (2, .ref (a 1)), (4, .ref (a 3)), (8, .int x8_268), (9, .int x9_268), (10, .int x10_268), (12, .int x12_268), (13, .int x13_268)] → W p l e rm_L_isActed s m args below meth c H locs 0 0 (QWi D below args s A (wLM cI cP o h tx tn Ad a z.1) z.2) (F0 m 278 ls [.int v, .int t2_268, .ref (a 1)])) → W p l e rm_L_isActed s m args below meth c H locs 0 0 (QWi D below args s A (wLM cI cP o h tx tn Ad a z.1) z.2) (F0 m 268 ls [.int t0_268, .int t1_268, .int t2_268, .ref (a 1)]) := by
              intro K_268 x8_268 x9_268 x10_268 x12_268 x13_268 t0_268 t1_268 t2_268 v _ _ ls hf hP hD hS hl hk
              unfold L_isActed_J268 at hf
              refine lv_icmp_ge (tgt := 276) hx hb dL_isActed_268 (by decide) (fun c_110 => ?_) (fun c_110 => ?_)
              · replace hf := (if_pos c_110).symm.trans hf
                refine lv_iload hx hb dL_isActed_276 (lv_at hl 3 rfl) ?_
                obtain rfl := hf
                exact hk _ _ ls hP hD hS hl
              · replace hf := (if_neg c_110).symm.trans hf
                refine lv_iload hx hb dL_isActed_271 (lv_at hl 4 rfl) ?_
                refine lv_goto (tgt := 278) hx hb dL_isActed_273 (by decide) ?_
                obtain rfl := hf
                exact hk _ _ ls hP hD hS hl
            refine hJ_268 M_108 x8_230 x9_230 x10_230 x12_230 x13_230 x9_230 x8_230 ((4 * ((M_108.1 3) (Int32.toNatClampNeg 1))) + 1) _ _ _ ls rfl hP hD hS hl (fun H locs ls hP hD hS hl => ?_)
            clear hJ_268
            have g_111 := og hf
            replace hf := (if_pos g_111).symm.trans hf
            refine va_iast hx hb hX.1 hP hD hS 1 0 (n := 64) (f := (M_108.1 1)) rfl rfl g_111 dL_isActed_278 (fun H locs hP hD hS => ?_)
            obtain ⟨M_112, e_113, hf⟩ := bnd_e hf
            have hP : va_P D vwCl (wLM cI cP o h tx tn Ad a M_112) H := by rw [e_113]; exact hP
            have hD : va_D A (wLM cI cP o h tx tn Ad a M_112) := by rw [e_113]; exact hD
            clear e_113
            refine lv_aload_n hx hb dL_isActed_279 rfl (lv_at hl 1 rfl) ?_
            refine lv_iconst (v := 4) hx hb dL_isActed_280 (by decide) ?_
            refine lv_aload hx hb dL_isActed_281 (lv_at hl 2 rfl) ?_
            refine lv_iconst (v := 1) hx hb dL_isActed_283 (by decide) ?_
            refine va_iald hx hb hX.1 hP 3 0 (n := 8) (f := (M_112.1 3)) rfl rfl (by decide : ¬ ((1 : Int32) < 0 ∨ 8 ≤ Int32.toNatClampNeg 1)) dL_isActed_284 ?_
            refine lv_imul hx hb dL_isActed_285 ?_
            refine lv_iconst (v := 2) hx hb dL_isActed_286 (by decide) ?_
            refine lv_iadd hx hb dL_isActed_287 ?_
            refine lv_iload hx hb dL_isActed_288 (lv_at hl 6 rfl) ?_
            have g_114 := og hf
            replace hf := (if_pos g_114).symm.trans hf
            refine va_iast hx hb hX.1 hP hD hS 1 0 (n := 64) (f := (M_112.1 1)) rfl rfl g_114 dL_isActed_290 (fun H locs hP hD hS => ?_)
            obtain ⟨M_115, e_116, hf⟩ := bnd_e hf
            have hP : va_P D vwCl (wLM cI cP o h tx tn Ad a M_115) H := by rw [e_116]; exact hP
            have hD : va_D A (wLM cI cP o h tx tn Ad a M_115) := by rw [e_116]; exact hD
            clear e_116
            refine lv_aload_n hx hb dL_isActed_291 rfl (lv_at hl 1 rfl) ?_
            refine lv_iconst (v := 4) hx hb dL_isActed_292 (by decide) ?_
            refine lv_aload hx hb dL_isActed_293 (lv_at hl 2 rfl) ?_
            refine lv_iconst (v := 1) hx hb dL_isActed_295 (by decide) ?_
            refine va_iald hx hb hX.1 hP 3 0 (n := 8) (f := (M_115.1 3)) rfl rfl (by decide : ¬ ((1 : Int32) < 0 ∨ 8 ≤ Int32.toNatClampNeg 1)) dL_isActed_296 ?_
            refine lv_imul hx hb dL_isActed_297 ?_
            refine lv_iconst (v := 3) hx hb dL_isActed_298 (by decide) ?_
            refine lv_iadd hx hb dL_isActed_299 ?_
            refine lv_iload hx hb dL_isActed_300 (lv_at hl 5 rfl) ?_
            refine lv_iconst (v := 2) hx hb dL_isActed_302 (by decide) ?_
            refine lv_idiv hx hb dL_isActed_303 (by decide) ?_
            refine lv_bipush (v := 6) hx hb dL_isActed_304 (by decide) ?_
            refine lv_irem hx hb dL_isActed_306 (by decide) ?_
            have g_117 := og hf
            replace hf := (if_pos g_117).symm.trans hf
            refine va_iast hx hb hX.1 hP hD hS 1 0 (n := 64) (f := (M_115.1 1)) rfl rfl g_117 dL_isActed_307 (fun H locs hP hD hS => ?_)
            obtain ⟨M_118, e_119, hf⟩ := bnd_e hf
            have hP : va_P D vwCl (wLM cI cP o h tx tn Ad a M_118) H := by rw [e_119]; exact hP
            have hD : va_D A (wLM cI cP o h tx tn Ad a M_118) := by rw [e_119]; exact hD
            clear e_119
            refine lv_aload hx hb dL_isActed_308 (lv_at hl 2 rfl) ?_
            refine lv_iconst (v := 1) hx hb dL_isActed_310 (by decide) ?_
            refine lv_dup2_11 hx hb dL_isActed_311 rfl rfl ?_
            refine va_iald hx hb hX.1 hP 3 0 (n := 8) (f := (M_118.1 3)) rfl rfl (by decide : ¬ ((1 : Int32) < 0 ∨ 8 ≤ Int32.toNatClampNeg 1)) dL_isActed_312 ?_
            refine lv_iconst (v := 1) hx hb dL_isActed_313 (by decide) ?_
            refine lv_iadd hx hb dL_isActed_314 ?_
            refine va_iast hx hb hX.1 hP hD hS 3 0 (n := 8) (f := (M_118.1 3)) rfl rfl (by decide : ¬ ((1 : Int32) < 0 ∨ 8 ≤ Int32.toNatClampNeg 1)) dL_isActed_315 (fun H locs hP hD hS => ?_)
            obtain ⟨M_120, e_121, hf⟩ := bnd_e hf
            have hP : va_P D vwCl (wLM cI cP o h tx tn Ad a M_120) H := by rw [e_121]; exact hP
            have hD : va_D A (wLM cI cP o h tx tn Ad a M_120) := by rw [e_121]; exact hD
            clear e_121
            obtain rfl := Option.some.inj hf
            exact hk _ _ ls hP hD hS (lv_sub hl [0, 2, 3, 4, 5, 6, 7] rfl)
        obtain ⟨u_122, h_123, hf⟩ := ob hf
        refine hJ_230 u_102.1 (x7 - x7 / 12 * 12) ((x7 / 12) - (x7 / 12) / 12 * 12) (x7 / 144) ((x7 / 144) - (x7 / 144) / 2 * 2) u_102.2 u_102.2 u_122 _ _ ls h_123 hP hD hS hl (fun H locs ls hP hD hS hl => ?_)
        clear hJ_230
        refine lv_aload_n hx hb dL_isActed_316 rfl (lv_at hl 0 rfl) ?_
        refine lv_iload hx hb dL_isActed_317 (lv_at hl 2 rfl) ?_
        refine lv_iload hx hb dL_isActed_319 (lv_at hl 3 rfl) ?_
        refine lv_iload hx hb dL_isActed_321 (lv_at hl 5 rfl) ?_
        refine lv_iconst (v := 1) hx hb dL_isActed_323 (by decide) ?_
        have hJ_324 : ∀ (K_324 : SLM) (x10_324 : Int32) (x13_324 : Int32) (t0_324 : Int32) (t1_324 : Int32) (t2_324 : Int32) (t3_324 : Int32) (v : Int32) (H : Heap) (locs : List Loc) (ls : Array Slot), L_isActed_J324 K_324 x10_324 x13_324 t0_324 t1_324 t2_324 t3_324 = v → va_P D vwCl (wLM cI cP o h tx tn Ad a K_324) H → va_D A (wLM cI cP o h tx tn Ad a K_324) → va_S A s.heap H locs → lv_has ls 15 [(4, .ref (a 3)), (10, .int x10_324), (13, .int x13_324)] → (∀ (H : Heap) (locs : List Loc) (ls : Array Slot), va_P D vwCl (wLM cI cP o h tx tn Ad a K_324) H → va_D A (wLM cI cP o h tx tn Ad a K_324) → va_S A s.heap H locs → lv_has ls 15 [(4, .ref (a 3)), (10, .int x10_324), (13, .int x13_324)] → W p l e rm_L_isActed s m args below meth c H locs 0 0 (QWi D below args s A (wLM cI cP o h tx tn Ad a z.1) z.2) (F0 m 332 ls [.int v, .int t2_324, .int t3_324, .ref o])) → W p l e rm_L_isActed s m args below meth c H locs 0 0 (QWi D below args s A (wLM cI cP o h tx tn Ad a z.1) z.2) (F0 m 324 ls [.int t0_324, .int t1_324, .int t2_324, .int t3_324, .ref o]) := by
          intro K_324 x10_324 x13_324 t0_324 t1_324 t2_324 t3_324 v _ _ ls hf hP hD hS hl hk
          unfold L_isActed_J324 at hf
          refine lv_icmp_ne (tgt := 331) hx hb dL_isActed_324 (by decide) (fun c_124 => ?_) (fun c_124 => ?_)
          · replace hf := (if_neg c_124).symm.trans hf
            refine lv_iconst (v := 0) hx hb dL_isActed_331 (by decide) ?_
            obtain rfl := hf
            exact hk _ _ ls hP hD hS hl
          · replace hf := (if_pos c_124).symm.trans hf
            refine lv_iconst (v := 1) hx hb dL_isActed_327 (by decide) ?_
            refine lv_goto (tgt := 332) hx hb dL_isActed_328 (by decide) ?_
            obtain rfl := hf
            exact hk _ _ ls hP hD hS hl
        refine hJ_324 u_122 (x7 / 144) u_102.2 1 ((x7 / 144) - (x7 / 144) / 2 * 2) ((x7 / 12) - (x7 / 12) / 12 * 12) (x7 - x7 / 12 * 12) _ _ _ ls rfl hP hD hS (lv_sub hl [1, 4, 6] rfl) (fun H locs ls hP hD hS hl => ?_)
        clear hJ_324
        refine lv_iload hx hb dL_isActed_332 (lv_at hl 1 rfl) ?_
        refine lv_iconst (v := 2) hx hb dL_isActed_334 (by decide) ?_
        refine lv_idiv hx hb dL_isActed_335 (by decide) ?_
        refine lv_bipush (v := 6) hx hb dL_isActed_336 (by decide) ?_
        refine lv_irem hx hb dL_isActed_338 (by decide) ?_
        obtain ⟨u_125, h_126, hf⟩ := ob hf
        refine k_wi (runV F wdL_69 (rm := rm_X6_tie) (As := [.int (x7 - x7 / 12 * 12), .int ((x7 / 12) - (x7 / 12) / 12 * 12), .int (L_isActed_J324 u_122 (x7 / 144) u_102.2 1 ((x7 / 144) - (x7 / 144) / 2 * 2) ((x7 / 12) - (x7 / 12) / 12 * 12) (x7 - x7 / 12 * 12)), .int (((x7 / 144) / 2) - ((x7 / 144) / 2) / 6 * 6)]) (rest := []) ⟨rfl, rfl⟩ ⟨Nat.le_of_ble_eq_true rfl, Nat.le_of_ble_eq_true rfl⟩ hl.1 rfl rfl (Nat.le_of_ble_eq_true rfl) dL_isActed_339 ⟨Nat.zero_le _, Nat.zero_le _⟩) (c_X6_tie l D cI cP o h tx tn Ad u_122.2 (x7 - x7 / 12 * 12) ((x7 / 12) - (x7 / 12) / 12 * 12) (L_isActed_J324 u_122 (x7 / 144) u_102.2 1 ((x7 / 144) - (x7 / 144) / 2 * 2) ((x7 / 12) - (x7 / 12) / 12 * 12) (x7 - x7 / 12 * 12)) (((x7 / 144) / 2) - ((x7 / 144) / 2) / 6 * 6) _ h_126) hX (va_recv hX.1 (va_blk (Bs := (bLM cI cP o h tx tn Ad a u_122)) hP 1 rfl) (ci := 6) (q0 := 0) rfl rfl) (Cut.one (Bs := (bLM cI cP o h tx tn Ad a u_122)) (k := 1) rfl rfl) hP hD hS hA (fun H locs hP hD hS => ?_)
        obtain ⟨M_127, e_128, hf⟩ := bnd_e hf
        have hP : va_P D vwCl (wLM cI cP o h tx tn Ad a M_127) H := by rw [e_128]; exact hP
        have hD : va_D A (wLM cI cP o h tx tn Ad a M_127) := by rw [e_128]; exact hD
        clear e_128
        refine lv_iload hx hb dL_isActed_342 (lv_at hl 2 rfl) ?_
        refine lv_if_ne (tgt := 356) hx hb dL_isActed_344 (by decide) (fun c_129 => ?_) (fun c_129 => ?_)
        · replace hf := (if_neg c_129).symm.trans hf
          refine lv_iload hx hb dL_isActed_356 (lv_at hl 2 rfl) ?_
          refine lv_if_ge (tgt := 366) hx hb dL_isActed_358 (by decide) (fun c_130 => ?_) (fun c_130 => ?_)
          · replace hf := (if_pos c_130).symm.trans hf
            refine lv_ldc (v := (-1000002)) hx hb hown (hts _ q_536) dL_isActed_366 ?_
            refine lv_icmp_ne (tgt := 375) hx hb dL_isActed_368 (by decide) (fun c_131 => ?_) (fun c_131 => ?_)
            · replace hf := (if_neg c_131).symm.trans hf
              refine lv_iconst (v := 0) hx hb dL_isActed_375 (by decide) ?_
              obtain rfl := (Option.some.inj hf)
              exact wr_z F (by decide) rfl hP hS dL_isActed_376
            · replace hf := (if_pos c_131).symm.trans hf
              refine lv_iconst (v := 1) hx hb dL_isActed_371 (by decide) ?_
              refine lv_goto (tgt := 376) hx hb dL_isActed_372 (by decide) ?_
              obtain rfl := (Option.some.inj hf)
              exact wr_z F (by decide) rfl hP hS dL_isActed_376
          · replace hf := (if_neg c_130).symm.trans hf
            refine lv_ldc (v := (-1000001)) hx hb hown (hts _ q_316) dL_isActed_361 ?_
            refine lv_goto (tgt := 368) hx hb dL_isActed_363 (by decide) ?_
            refine lv_icmp_ne (tgt := 375) hx hb dL_isActed_368 (by decide) (fun c_132 => ?_) (fun c_132 => ?_)
            · replace hf := (if_neg c_132).symm.trans hf
              refine lv_iconst (v := 0) hx hb dL_isActed_375 (by decide) ?_
              obtain rfl := (Option.some.inj hf)
              exact wr_z F (by decide) rfl hP hS dL_isActed_376
            · replace hf := (if_pos c_132).symm.trans hf
              refine lv_iconst (v := 1) hx hb dL_isActed_371 (by decide) ?_
              refine lv_goto (tgt := 376) hx hb dL_isActed_372 (by decide) ?_
              obtain rfl := (Option.some.inj hf)
              exact wr_z F (by decide) rfl hP hS dL_isActed_376
        · replace hf := (if_pos c_129).symm.trans hf
          refine lv_aload hx hb dL_isActed_347 (lv_at hl 0 rfl) ?_
          refine lv_iconst (v := 1) hx hb dL_isActed_349 (by decide) ?_
          refine va_iald hx hb hX.1 hP 3 0 (n := 8) (f := (M_127.1 3)) rfl rfl (by decide : ¬ ((1 : Int32) < 0 ∨ 8 ≤ Int32.toNatClampNeg 1)) dL_isActed_350 ?_
          refine lv_iconst (v := 1) hx hb dL_isActed_351 (by decide) ?_
          refine lv_isub hx hb dL_isActed_352 ?_
          refine lv_goto (tgt := 368) hx hb dL_isActed_353 (by decide) ?_
          refine lv_icmp_ne (tgt := 375) hx hb dL_isActed_368 (by decide) (fun c_133 => ?_) (fun c_133 => ?_)
          · replace hf := (if_neg c_133).symm.trans hf
            refine lv_iconst (v := 0) hx hb dL_isActed_375 (by decide) ?_
            obtain rfl := (Option.some.inj hf)
            exact wr_z F (by decide) rfl hP hS dL_isActed_376
          · replace hf := (if_pos c_133).symm.trans hf
            refine lv_iconst (v := 1) hx hb dL_isActed_371 (by decide) ?_
            refine lv_goto (tgt := 376) hx hb dL_isActed_372 (by decide) ?_
            obtain rfl := (Option.some.inj hf)
            exact wr_z F (by decide) rfl hP hS dL_isActed_376
      · replace hf := (if_pos c_104).symm.trans hf
        refine lv_iconst (v := 1) hx hb dL_isActed_226 (by decide) ?_
        obtain rfl := (Option.some.inj hf)
        exact wr_z F (by decide) rfl hP hS dL_isActed_227
  · replace hf := (if_neg c_4).symm.trans hf
    refine lv_aload hx hb dL_isActed_63 (lv_at hl 5 rfl) ?_
    refine lv_iconst (v := 0) hx hb dL_isActed_65 (by decide) ?_
    refine va_iald hx hb hX.1 hP 3 0 (n := 8) (f := (K.1 3)) rfl rfl (by decide : ¬ ((0 : Int32) < 0 ∨ 8 ≤ Int32.toNatClampNeg 0)) dL_isActed_66 ?_
    refine lv_bipush (v := 12) hx hb dL_isActed_67 (by decide) ?_
    have hJ_69 : ∀ (K_69 : SLM) (x10_69 : Int32) (t0_69 : Int32) (t1_69 : Int32) (v : Int32) (H : Heap) (locs : List Loc) (ls : Array Slot), L_isActed_J69 K_69 x10_69 t0_69 t1_69 = v → va_P D vwCl (wLM cI cP o h tx tn Ad a K_69) H → va_D A (wLM cI cP o h tx tn Ad a K_69) → va_S A s.heap H locs → lv_has ls 15 [(0, .ref o), (1, .ref (a 0)), (4, .ref (a 3)), (10, .int x10_69)] → (∀ (H : Heap) (locs : List Loc) (ls : Array Slot), va_P D vwCl (wLM cI cP o h tx tn Ad a K_69) H → va_D A (wLM cI cP o h tx tn Ad a K_69) → va_S A s.heap H locs → lv_has ls 15 [(0, .ref o), (1, .ref (a 0)), (4, .ref (a 3)), (10, .int x10_69)] → W p l e rm_L_isActed s m args below meth c H locs 0 0 (QWi D below args s A (wLM cI cP o h tx tn Ad a z.1) z.2) (F0 m 77 ls [.int v])) → W p l e rm_L_isActed s m args below meth c H locs 0 0 (QWi D below args s A (wLM cI cP o h tx tn Ad a z.1) z.2) (F0 m 69 ls [.int t0_69, .int t1_69]) := by
      intro K_69 x10_69 t0_69 t1_69 v _ _ ls hf hP hD hS hl hk
      unfold L_isActed_J69 at hf
      refine lv_icmp_ne (tgt := 76) hx hb dL_isActed_69 (by decide) (fun c_134 => ?_) (fun c_134 => ?_)
      · replace hf := (if_neg c_134).symm.trans hf
        refine lv_iconst (v := 0) hx hb dL_isActed_76 (by decide) ?_
        obtain rfl := hf
        exact hk _ _ ls hP hD hS hl
      · replace hf := (if_pos c_134).symm.trans hf
        refine lv_iconst (v := 1) hx hb dL_isActed_72 (by decide) ?_
        refine lv_goto (tgt := 77) hx hb dL_isActed_73 (by decide) ?_
        obtain rfl := hf
        exact hk _ _ ls hP hD hS hl
    refine hJ_69 K (x7 / 144) 12 ((K.1 3) (Int32.toNatClampNeg 0)) _ _ _ ls rfl hP hD hS (lv_sub hl [1, 2, 5, 10] rfl) (fun H locs ls hP hD hS hl => ?_)
    clear hJ_69
    refine lv_istore (lv' := [(12, .int (L_isActed_J69 K (x7 / 144) 12 ((K.1 3) (Int32.toNatClampNeg 0)))), (0, .ref o), (1, .ref (a 0)), (4, .ref (a 3)), (10, .int (x7 / 144))]) hx hb dL_isActed_77 hl (by decide) rfl (fun ls hl => ?_)
    refine lv_iload hx hb dL_isActed_79 (lv_at hl 0 rfl) ?_
    have hJ_81 : ∀ (K_81 : SLM) (x10_81 : Int32) (x12_81 : Int32) (t0_81 : Int32) (v : SLM) (H : Heap) (locs : List Loc) (ls : Array Slot), L_isActed_J81 K_81 x10_81 x12_81 t0_81 = some v → va_P D vwCl (wLM cI cP o h tx tn Ad a K_81) H → va_D A (wLM cI cP o h tx tn Ad a K_81) → va_S A s.heap H locs → lv_has ls 15 [(12, .int x12_81), (0, .ref o), (1, .ref (a 0)), (4, .ref (a 3)), (10, .int x10_81)] → (∀ (H : Heap) (locs : List Loc) (ls : Array Slot), va_P D vwCl (wLM cI cP o h tx tn Ad a v) H → va_D A (wLM cI cP o h tx tn Ad a v) → va_S A s.heap H locs → lv_has ls 15 [(0, .ref o), (4, .ref (a 3)), (10, .int x10_81), (12, .int x12_81)] → W p l e rm_L_isActed s m args below meth c H locs 0 0 (QWi D below args s A (wLM cI cP o h tx tn Ad a z.1) z.2) (F0 m 135 ls [])) → W p l e rm_L_isActed s m args below meth c H locs 0 0 (QWi D below args s A (wLM cI cP o h tx tn Ad a z.1) z.2) (F0 m 81 ls [.int t0_81]) := by
      intro K_81 x10_81 x12_81 t0_81 v _ _ ls hf hP hD hS hl hk
      unfold L_isActed_J81 at hf
      refine lv_if_ne (tgt := 135) hx hb dL_isActed_81 (by decide) (fun c_135 => ?_) (fun c_135 => ?_)
      · replace hf := (if_neg c_135).symm.trans hf
        obtain rfl := Option.some.inj hf
        exact hk _ _ ls hP hD hS (lv_sub hl [1, 3, 4, 0] rfl)
      · replace hf := (if_pos c_135).symm.trans hf
        refine lv_aload_n hx hb dL_isActed_84 rfl (lv_at hl 2 rfl) ?_
        refine lv_iconst (v := 3) hx hb dL_isActed_85 (by decide) ?_
        refine lv_aload hx hb dL_isActed_86 (lv_at hl 3 rfl) ?_
        refine lv_iconst (v := 0) hx hb dL_isActed_88 (by decide) ?_
        refine va_iald hx hb hX.1 hP 3 0 (n := 8) (f := (K_81.1 3)) rfl rfl (by decide : ¬ ((0 : Int32) < 0 ∨ 8 ≤ Int32.toNatClampNeg 0)) dL_isActed_89 ?_
        refine lv_imul hx hb dL_isActed_90 ?_
        refine lv_iconst (v := 1) hx hb dL_isActed_91 (by decide) ?_
        refine lv_iload hx hb dL_isActed_92 (lv_at hl 4 rfl) ?_
        refine lv_bipush (v := 9) hx hb dL_isActed_94 (by decide) ?_
        refine lv_irem hx hb dL_isActed_96 (by decide) ?_
        refine lv_iadd hx hb dL_isActed_97 ?_
        have g_136 := og hf
        replace hf := (if_pos g_136).symm.trans hf
        refine va_iast hx hb hX.1 hP hD hS 0 0 (n := 36) (f := (K_81.1 0)) rfl rfl g_136 dL_isActed_98 (fun H locs hP hD hS => ?_)
        obtain ⟨M_137, e_138, hf⟩ := bnd_e hf
        have hP : va_P D vwCl (wLM cI cP o h tx tn Ad a M_137) H := by rw [e_138]; exact hP
        have hD : va_D A (wLM cI cP o h tx tn Ad a M_137) := by rw [e_138]; exact hD
        clear e_138
        refine lv_aload_n hx hb dL_isActed_99 rfl (lv_at hl 2 rfl) ?_
        refine lv_iconst (v := 3) hx hb dL_isActed_100 (by decide) ?_
        refine lv_aload hx hb dL_isActed_101 (lv_at hl 3 rfl) ?_
        refine lv_iconst (v := 0) hx hb dL_isActed_103 (by decide) ?_
        refine va_iald hx hb hX.1 hP 3 0 (n := 8) (f := (M_137.1 3)) rfl rfl (by decide : ¬ ((0 : Int32) < 0 ∨ 8 ≤ Int32.toNatClampNeg 0)) dL_isActed_104 ?_
        refine lv_imul hx hb dL_isActed_105 ?_
        refine lv_iconst (v := 1) hx hb dL_isActed_106 (by decide) ?_
        refine lv_iadd hx hb dL_isActed_107 ?_
        refine lv_iload hx hb dL_isActed_108 (lv_at hl 4 rfl) ?_
        refine lv_bipush (v := 9) hx hb dL_isActed_110 (by decide) ?_
        refine lv_idiv hx hb dL_isActed_112 (by decide) ?_
        refine lv_iconst (v := 2) hx hb dL_isActed_113 (by decide) ?_
        refine lv_irem hx hb dL_isActed_114 (by decide) ?_
        have g_139 := og hf
        replace hf := (if_pos g_139).symm.trans hf
        refine va_iast hx hb hX.1 hP hD hS 0 0 (n := 36) (f := (M_137.1 0)) rfl rfl g_139 dL_isActed_115 (fun H locs hP hD hS => ?_)
        obtain ⟨M_140, e_141, hf⟩ := bnd_e hf
        have hP : va_P D vwCl (wLM cI cP o h tx tn Ad a M_140) H := by rw [e_141]; exact hP
        have hD : va_D A (wLM cI cP o h tx tn Ad a M_140) := by rw [e_141]; exact hD
        clear e_141
        refine lv_aload_n hx hb dL_isActed_116 rfl (lv_at hl 2 rfl) ?_
        refine lv_iconst (v := 3) hx hb dL_isActed_117 (by decide) ?_
        refine lv_aload hx hb dL_isActed_118 (lv_at hl 3 rfl) ?_
        refine lv_iconst (v := 0) hx hb dL_isActed_120 (by decide) ?_
        refine va_iald hx hb hX.1 hP 3 0 (n := 8) (f := (M_140.1 3)) rfl rfl (by decide : ¬ ((0 : Int32) < 0 ∨ 8 ≤ Int32.toNatClampNeg 0)) dL_isActed_121 ?_
        refine lv_imul hx hb dL_isActed_122 ?_
        refine lv_iconst (v := 2) hx hb dL_isActed_123 (by decide) ?_
        refine lv_iadd hx hb dL_isActed_124 ?_
        refine lv_iconst (v := (-1)) hx hb dL_isActed_125 (by decide) ?_
        have g_142 := og hf
        replace hf := (if_pos g_142).symm.trans hf
        refine va_iast hx hb hX.1 hP hD hS 0 0 (n := 36) (f := (M_140.1 0)) rfl rfl g_142 dL_isActed_126 (fun H locs hP hD hS => ?_)
        obtain ⟨M_143, e_144, hf⟩ := bnd_e hf
        have hP : va_P D vwCl (wLM cI cP o h tx tn Ad a M_143) H := by rw [e_144]; exact hP
        have hD : va_D A (wLM cI cP o h tx tn Ad a M_143) := by rw [e_144]; exact hD
        clear e_144
        refine lv_aload hx hb dL_isActed_127 (lv_at hl 3 rfl) ?_
        refine lv_iconst (v := 0) hx hb dL_isActed_129 (by decide) ?_
        refine lv_dup2_11 hx hb dL_isActed_130 rfl rfl ?_
        refine va_iald hx hb hX.1 hP 3 0 (n := 8) (f := (M_143.1 3)) rfl rfl (by decide : ¬ ((0 : Int32) < 0 ∨ 8 ≤ Int32.toNatClampNeg 0)) dL_isActed_131 ?_
        refine lv_iconst (v := 1) hx hb dL_isActed_132 (by decide) ?_
        refine lv_iadd hx hb dL_isActed_133 ?_
        refine va_iast hx hb hX.1 hP hD hS 3 0 (n := 8) (f := (M_143.1 3)) rfl rfl (by decide : ¬ ((0 : Int32) < 0 ∨ 8 ≤ Int32.toNatClampNeg 0)) dL_isActed_134 (fun H locs hP hD hS => ?_)
        obtain ⟨M_145, e_146, hf⟩ := bnd_e hf
        have hP : va_P D vwCl (wLM cI cP o h tx tn Ad a M_145) H := by rw [e_146]; exact hP
        have hD : va_D A (wLM cI cP o h tx tn Ad a M_145) := by rw [e_146]; exact hD
        clear e_146
        obtain rfl := Option.some.inj hf
        exact hk _ _ ls hP hD hS (lv_sub hl [1, 3, 4, 0] rfl)
    obtain ⟨u_147, h_148, hf⟩ := ob hf
    refine hJ_81 K (x7 / 144) (L_isActed_J69 K (x7 / 144) 12 ((K.1 3) (Int32.toNatClampNeg 0))) (L_isActed_J69 K (x7 / 144) 12 ((K.1 3) (Int32.toNatClampNeg 0))) u_147 _ _ ls h_148 hP hD hS hl (fun H locs ls hP hD hS hl => ?_)
    clear hJ_81
    refine lv_aload_n hx hb dL_isActed_135 rfl (lv_at hl 0 rfl) ?_
    refine lv_iconst (v := 1) hx hb dL_isActed_136 (by decide) ?_
    refine lv_iload hx hb dL_isActed_137 (lv_at hl 2 rfl) ?_
    refine lv_bipush (v := 9) hx hb dL_isActed_139 (by decide) ?_
    refine lv_irem hx hb dL_isActed_141 (by decide) ?_
    refine lv_iadd hx hb dL_isActed_142 ?_
    refine lv_iload hx hb dL_isActed_143 (lv_at hl 2 rfl) ?_
    refine lv_bipush (v := 9) hx hb dL_isActed_145 (by decide) ?_
    refine lv_idiv hx hb dL_isActed_147 (by decide) ?_
    refine lv_iconst (v := 2) hx hb dL_isActed_148 (by decide) ?_
    refine lv_irem hx hb dL_isActed_149 (by decide) ?_
    obtain ⟨u_149, h_150, hf⟩ := ob hf
    refine k_wi (runV F wdL_65 (rm := rm_X6_puppet) (As := [.int (1 + ((x7 / 144) - (x7 / 144) / 9 * 9)), .int (((x7 / 144) / 9) - ((x7 / 144) / 9) / 2 * 2)]) (rest := []) ⟨rfl, rfl⟩ ⟨Nat.le_of_ble_eq_true rfl, Nat.le_of_ble_eq_true rfl⟩ hl.1 rfl rfl (Nat.le_of_ble_eq_true rfl) dL_isActed_150 ⟨Nat.zero_le _, Nat.zero_le _⟩) (c_X6_puppet l D cI cP o h tx tn Ad u_147.2 (1 + ((x7 / 144) - (x7 / 144) / 9 * 9)) (((x7 / 144) / 9) - ((x7 / 144) / 9) / 2 * 2) _ h_150) hX (va_recv hX.1 (va_blk (Bs := (bLM cI cP o h tx tn Ad a u_147)) hP 1 rfl) (ci := 6) (q0 := 0) rfl rfl) (Cut.one (Bs := (bLM cI cP o h tx tn Ad a u_147)) (k := 1) rfl rfl) hP hD hS hA (fun H locs hP hD hS => ?_)
    obtain ⟨M_151, e_152, hf⟩ := bnd_e hf
    have hP : va_P D vwCl (wLM cI cP o h tx tn Ad a M_151) H := by rw [e_152]; exact hP
    have hD : va_D A (wLM cI cP o h tx tn Ad a M_151) := by rw [e_152]; exact hD
    clear e_152
    refine lv_iload hx hb dL_isActed_153 (lv_at hl 3 rfl) ?_
    refine lv_if_eq (tgt := 163) hx hb dL_isActed_155 (by decide) (fun c_153 => ?_) (fun c_153 => ?_)
    · replace hf := (if_pos c_153).symm.trans hf
      refine lv_aload hx hb dL_isActed_163 (lv_at hl 1 rfl) ?_
      refine lv_iconst (v := 0) hx hb dL_isActed_165 (by decide) ?_
      refine va_iald hx hb hX.1 hP 3 0 (n := 8) (f := (M_151.1 3)) rfl rfl (by decide : ¬ ((0 : Int32) < 0 ∨ 8 ≤ Int32.toNatClampNeg 0)) dL_isActed_166 ?_
      refine lv_iconst (v := 1) hx hb dL_isActed_167 (by decide) ?_
      refine lv_isub hx hb dL_isActed_168 ?_
      refine lv_icmp_ne (tgt := 176) hx hb dL_isActed_169 (by decide) (fun c_154 => ?_) (fun c_154 => ?_)
      · replace hf := (if_neg c_154).symm.trans hf
        refine lv_iconst (v := 0) hx hb dL_isActed_176 (by decide) ?_
        obtain rfl := (Option.some.inj hf)
        exact wr_z F (by decide) rfl hP hS dL_isActed_177
      · replace hf := (if_pos c_154).symm.trans hf
        refine lv_iconst (v := 1) hx hb dL_isActed_172 (by decide) ?_
        refine lv_goto (tgt := 177) hx hb dL_isActed_173 (by decide) ?_
        obtain rfl := (Option.some.inj hf)
        exact wr_z F (by decide) rfl hP hS dL_isActed_177
    · replace hf := (if_neg c_153).symm.trans hf
      refine lv_ldc (v := (-1000003)) hx hb hown (hts _ q_519) dL_isActed_158 ?_
      refine lv_goto (tgt := 169) hx hb dL_isActed_160 (by decide) ?_
      refine lv_icmp_ne (tgt := 176) hx hb dL_isActed_169 (by decide) (fun c_155 => ?_) (fun c_155 => ?_)
      · replace hf := (if_neg c_155).symm.trans hf
        refine lv_iconst (v := 0) hx hb dL_isActed_176 (by decide) ?_
        obtain rfl := (Option.some.inj hf)
        exact wr_z F (by decide) rfl hP hS dL_isActed_177
      · replace hf := (if_pos c_155).symm.trans hf
        refine lv_iconst (v := 1) hx hb dL_isActed_172 (by decide) ?_
        refine lv_goto (tgt := 177) hx hb dL_isActed_173 (by decide) ?_
        obtain rfl := (Option.some.inj hf)
        exact wr_z F (by decide) rfl hP hS dL_isActed_177
