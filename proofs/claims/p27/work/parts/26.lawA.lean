def L_groups_L6 : Nat → SLaw → Int32 → Int32 → Int32 → Option (SLaw)
  | 0, _, _, _, _ => none
  | fu + 1, K_6, x4_6, x5_6, x6_6 => (if ((K_6 3) (Int32.toNatClampNeg 0)) ≤ x6_6 then some K_6 else (if ¬ (x6_6 < 0 ∨ 36 ≤ Int32.toNatClampNeg x6_6) then (bnd (up K_6 4 (upd (K_6 4) (Int32.toNatClampNeg x6_6) (-1))) fun M_3 => L_groups_L6 fu M_3 x4_6 x5_6 (x6_6 + 1)) else none))
def L_groups_J142 (K_142 : SLaw) (x4_142 : Int32) (x5_142 : Int32) (x6_142 : Int32) (x7_142 : Int32) (x8_142 : Int32) (x9_142 : Int32) (x10_142 : Int32) (t0_142 : Int32) (t1_142 : Int32) : Int32 := (if t1_142 = t0_142 then x9_142 else x10_142)
def L_groups_L74 : Nat → SLaw → Int32 → Int32 → Int32 → Int32 → Int32 → Option (SLaw)
  | 0, _, _, _, _, _, _ => none
  | fu + 1, K_74, x4_74, x5_74, x6_74, x7_74, x8_74 => (if ((K_74 3) (Int32.toNatClampNeg 1)) ≤ x8_74 then some K_74 else (if ¬ ((4 * x8_74) < 0 ∨ 64 ≤ Int32.toNatClampNeg (4 * x8_74)) then (if ¬ (((4 * x8_74) + 1) < 0 ∨ 64 ≤ Int32.toNatClampNeg ((4 * x8_74) + 1)) then (if x8_74 = x4_74 then L_groups_L74 fu K_74 x4_74 x5_74 x6_74 x7_74 (x8_74 + 1) else (if ¬ (((K_74 1) (Int32.toNatClampNeg (4 * x8_74))) < 0 ∨ 36 ≤ Int32.toNatClampNeg ((K_74 1) (Int32.toNatClampNeg (4 * x8_74)))) then (if ((K_74 4) (Int32.toNatClampNeg ((K_74 1) (Int32.toNatClampNeg (4 * x8_74))))) = x6_74 then (if ¬ (((K_74 1) (Int32.toNatClampNeg ((4 * x8_74) + 1))) < 0 ∨ 36 ≤ Int32.toNatClampNeg ((K_74 1) (Int32.toNatClampNeg ((4 * x8_74) + 1)))) then (if ((K_74 4) (Int32.toNatClampNeg ((K_74 1) (Int32.toNatClampNeg (4 * x8_74))))) = ((K_74 4) (Int32.toNatClampNeg ((K_74 1) (Int32.toNatClampNeg ((4 * x8_74) + 1))))) then L_groups_L74 fu K_74 x4_74 x5_74 x6_74 x7_74 (x8_74 + 1) else (if ¬ (((((K_74 1) (Int32.toNatClampNeg (4 * x8_74))) + ((K_74 1) (Int32.toNatClampNeg ((4 * x8_74) + 1)))) - (L_groups_J142 K_74 x4_74 x5_74 x6_74 x7_74 x8_74 ((K_74 1) (Int32.toNatClampNeg (4 * x8_74))) ((K_74 1) (Int32.toNatClampNeg ((4 * x8_74) + 1))) x6_74 ((K_74 4) (Int32.toNatClampNeg ((K_74 1) (Int32.toNatClampNeg (4 * x8_74))))))) < 0 ∨ 36 ≤ Int32.toNatClampNeg ((((K_74 1) (Int32.toNatClampNeg (4 * x8_74))) + ((K_74 1) (Int32.toNatClampNeg ((4 * x8_74) + 1)))) - (L_groups_J142 K_74 x4_74 x5_74 x6_74 x7_74 x8_74 ((K_74 1) (Int32.toNatClampNeg (4 * x8_74))) ((K_74 1) (Int32.toNatClampNeg ((4 * x8_74) + 1))) x6_74 ((K_74 4) (Int32.toNatClampNeg ((K_74 1) (Int32.toNatClampNeg (4 * x8_74)))))))) then (bnd (up K_74 4 (upd (K_74 4) (Int32.toNatClampNeg ((((K_74 1) (Int32.toNatClampNeg (4 * x8_74))) + ((K_74 1) (Int32.toNatClampNeg ((4 * x8_74) + 1)))) - (L_groups_J142 K_74 x4_74 x5_74 x6_74 x7_74 x8_74 ((K_74 1) (Int32.toNatClampNeg (4 * x8_74))) ((K_74 1) (Int32.toNatClampNeg ((4 * x8_74) + 1))) x6_74 ((K_74 4) (Int32.toNatClampNeg ((K_74 1) (Int32.toNatClampNeg (4 * x8_74)))))))) x6_74)) fun M_26 => (if ¬ ((12 + (L_groups_J142 K_74 x4_74 x5_74 x6_74 x7_74 x8_74 ((K_74 1) (Int32.toNatClampNeg (4 * x8_74))) ((K_74 1) (Int32.toNatClampNeg ((4 * x8_74) + 1))) x6_74 ((K_74 4) (Int32.toNatClampNeg ((K_74 1) (Int32.toNatClampNeg (4 * x8_74))))))) < 0 ∨ 36 ≤ Int32.toNatClampNeg (12 + (L_groups_J142 K_74 x4_74 x5_74 x6_74 x7_74 x8_74 ((K_74 1) (Int32.toNatClampNeg (4 * x8_74))) ((K_74 1) (Int32.toNatClampNeg ((4 * x8_74) + 1))) x6_74 ((K_74 4) (Int32.toNatClampNeg ((K_74 1) (Int32.toNatClampNeg (4 * x8_74)))))))) then (if ¬ (((4 * x8_74) + 2) < 0 ∨ 64 ≤ Int32.toNatClampNeg ((4 * x8_74) + 2)) then (if ((M_26 4) (Int32.toNatClampNeg (12 + (L_groups_J142 K_74 x4_74 x5_74 x6_74 x7_74 x8_74 ((K_74 1) (Int32.toNatClampNeg (4 * x8_74))) ((K_74 1) (Int32.toNatClampNeg ((4 * x8_74) + 1))) x6_74 ((K_74 4) (Int32.toNatClampNeg ((K_74 1) (Int32.toNatClampNeg (4 * x8_74))))))))) = ((M_26 1) (Int32.toNatClampNeg ((4 * x8_74) + 2))) then (if ¬ ((((12 + ((K_74 1) (Int32.toNatClampNeg (4 * x8_74)))) + ((K_74 1) (Int32.toNatClampNeg ((4 * x8_74) + 1)))) - (L_groups_J142 K_74 x4_74 x5_74 x6_74 x7_74 x8_74 ((K_74 1) (Int32.toNatClampNeg (4 * x8_74))) ((K_74 1) (Int32.toNatClampNeg ((4 * x8_74) + 1))) x6_74 ((K_74 4) (Int32.toNatClampNeg ((K_74 1) (Int32.toNatClampNeg (4 * x8_74))))))) < 0 ∨ 36 ≤ Int32.toNatClampNeg (((12 + ((K_74 1) (Int32.toNatClampNeg (4 * x8_74)))) + ((K_74 1) (Int32.toNatClampNeg ((4 * x8_74) + 1)))) - (L_groups_J142 K_74 x4_74 x5_74 x6_74 x7_74 x8_74 ((K_74 1) (Int32.toNatClampNeg (4 * x8_74))) ((K_74 1) (Int32.toNatClampNeg ((4 * x8_74) + 1))) x6_74 ((K_74 4) (Int32.toNatClampNeg ((K_74 1) (Int32.toNatClampNeg (4 * x8_74)))))))) then (bnd (up M_26 4 (upd (M_26 4) (Int32.toNatClampNeg (((12 + ((K_74 1) (Int32.toNatClampNeg (4 * x8_74)))) + ((K_74 1) (Int32.toNatClampNeg ((4 * x8_74) + 1)))) - (L_groups_J142 K_74 x4_74 x5_74 x6_74 x7_74 x8_74 ((K_74 1) (Int32.toNatClampNeg (4 * x8_74))) ((K_74 1) (Int32.toNatClampNeg ((4 * x8_74) + 1))) x6_74 ((K_74 4) (Int32.toNatClampNeg ((K_74 1) (Int32.toNatClampNeg (4 * x8_74)))))))) 0)) fun M_35 => L_groups_L74 fu M_35 x4_74 x5_74 x6_74 x7_74 (x8_74 + 1)) else none) else (if ¬ ((((12 + ((K_74 1) (Int32.toNatClampNeg (4 * x8_74)))) + ((K_74 1) (Int32.toNatClampNeg ((4 * x8_74) + 1)))) - (L_groups_J142 K_74 x4_74 x5_74 x6_74 x7_74 x8_74 ((K_74 1) (Int32.toNatClampNeg (4 * x8_74))) ((K_74 1) (Int32.toNatClampNeg ((4 * x8_74) + 1))) x6_74 ((K_74 4) (Int32.toNatClampNeg ((K_74 1) (Int32.toNatClampNeg (4 * x8_74))))))) < 0 ∨ 36 ≤ Int32.toNatClampNeg (((12 + ((K_74 1) (Int32.toNatClampNeg (4 * x8_74)))) + ((K_74 1) (Int32.toNatClampNeg ((4 * x8_74) + 1)))) - (L_groups_J142 K_74 x4_74 x5_74 x6_74 x7_74 x8_74 ((K_74 1) (Int32.toNatClampNeg (4 * x8_74))) ((K_74 1) (Int32.toNatClampNeg ((4 * x8_74) + 1))) x6_74 ((K_74 4) (Int32.toNatClampNeg ((K_74 1) (Int32.toNatClampNeg (4 * x8_74)))))))) then (bnd (up M_26 4 (upd (M_26 4) (Int32.toNatClampNeg (((12 + ((K_74 1) (Int32.toNatClampNeg (4 * x8_74)))) + ((K_74 1) (Int32.toNatClampNeg ((4 * x8_74) + 1)))) - (L_groups_J142 K_74 x4_74 x5_74 x6_74 x7_74 x8_74 ((K_74 1) (Int32.toNatClampNeg (4 * x8_74))) ((K_74 1) (Int32.toNatClampNeg ((4 * x8_74) + 1))) x6_74 ((K_74 4) (Int32.toNatClampNeg ((K_74 1) (Int32.toNatClampNeg (4 * x8_74)))))))) 1)) fun M_32 => L_groups_L74 fu M_32 x4_74 x5_74 x6_74 x7_74 (x8_74 + 1)) else none)) else none) else none)) else none)) else none) else (if ¬ (((K_74 1) (Int32.toNatClampNeg ((4 * x8_74) + 1))) < 0 ∨ 36 ≤ Int32.toNatClampNeg ((K_74 1) (Int32.toNatClampNeg ((4 * x8_74) + 1)))) then (if ((K_74 4) (Int32.toNatClampNeg ((K_74 1) (Int32.toNatClampNeg ((4 * x8_74) + 1))))) = x6_74 then (if ((K_74 4) (Int32.toNatClampNeg ((K_74 1) (Int32.toNatClampNeg (4 * x8_74))))) = ((K_74 4) (Int32.toNatClampNeg ((K_74 1) (Int32.toNatClampNeg ((4 * x8_74) + 1))))) then L_groups_L74 fu K_74 x4_74 x5_74 x6_74 x7_74 (x8_74 + 1) else (if ¬ (((((K_74 1) (Int32.toNatClampNeg (4 * x8_74))) + ((K_74 1) (Int32.toNatClampNeg ((4 * x8_74) + 1)))) - (L_groups_J142 K_74 x4_74 x5_74 x6_74 x7_74 x8_74 ((K_74 1) (Int32.toNatClampNeg (4 * x8_74))) ((K_74 1) (Int32.toNatClampNeg ((4 * x8_74) + 1))) x6_74 ((K_74 4) (Int32.toNatClampNeg ((K_74 1) (Int32.toNatClampNeg (4 * x8_74))))))) < 0 ∨ 36 ≤ Int32.toNatClampNeg ((((K_74 1) (Int32.toNatClampNeg (4 * x8_74))) + ((K_74 1) (Int32.toNatClampNeg ((4 * x8_74) + 1)))) - (L_groups_J142 K_74 x4_74 x5_74 x6_74 x7_74 x8_74 ((K_74 1) (Int32.toNatClampNeg (4 * x8_74))) ((K_74 1) (Int32.toNatClampNeg ((4 * x8_74) + 1))) x6_74 ((K_74 4) (Int32.toNatClampNeg ((K_74 1) (Int32.toNatClampNeg (4 * x8_74)))))))) then (bnd (up K_74 4 (upd (K_74 4) (Int32.toNatClampNeg ((((K_74 1) (Int32.toNatClampNeg (4 * x8_74))) + ((K_74 1) (Int32.toNatClampNeg ((4 * x8_74) + 1)))) - (L_groups_J142 K_74 x4_74 x5_74 x6_74 x7_74 x8_74 ((K_74 1) (Int32.toNatClampNeg (4 * x8_74))) ((K_74 1) (Int32.toNatClampNeg ((4 * x8_74) + 1))) x6_74 ((K_74 4) (Int32.toNatClampNeg ((K_74 1) (Int32.toNatClampNeg (4 * x8_74)))))))) x6_74)) fun M_42 => (if ¬ ((12 + (L_groups_J142 K_74 x4_74 x5_74 x6_74 x7_74 x8_74 ((K_74 1) (Int32.toNatClampNeg (4 * x8_74))) ((K_74 1) (Int32.toNatClampNeg ((4 * x8_74) + 1))) x6_74 ((K_74 4) (Int32.toNatClampNeg ((K_74 1) (Int32.toNatClampNeg (4 * x8_74))))))) < 0 ∨ 36 ≤ Int32.toNatClampNeg (12 + (L_groups_J142 K_74 x4_74 x5_74 x6_74 x7_74 x8_74 ((K_74 1) (Int32.toNatClampNeg (4 * x8_74))) ((K_74 1) (Int32.toNatClampNeg ((4 * x8_74) + 1))) x6_74 ((K_74 4) (Int32.toNatClampNeg ((K_74 1) (Int32.toNatClampNeg (4 * x8_74)))))))) then (if ¬ (((4 * x8_74) + 2) < 0 ∨ 64 ≤ Int32.toNatClampNeg ((4 * x8_74) + 2)) then (if ((M_42 4) (Int32.toNatClampNeg (12 + (L_groups_J142 K_74 x4_74 x5_74 x6_74 x7_74 x8_74 ((K_74 1) (Int32.toNatClampNeg (4 * x8_74))) ((K_74 1) (Int32.toNatClampNeg ((4 * x8_74) + 1))) x6_74 ((K_74 4) (Int32.toNatClampNeg ((K_74 1) (Int32.toNatClampNeg (4 * x8_74))))))))) = ((M_42 1) (Int32.toNatClampNeg ((4 * x8_74) + 2))) then (if ¬ ((((12 + ((K_74 1) (Int32.toNatClampNeg (4 * x8_74)))) + ((K_74 1) (Int32.toNatClampNeg ((4 * x8_74) + 1)))) - (L_groups_J142 K_74 x4_74 x5_74 x6_74 x7_74 x8_74 ((K_74 1) (Int32.toNatClampNeg (4 * x8_74))) ((K_74 1) (Int32.toNatClampNeg ((4 * x8_74) + 1))) x6_74 ((K_74 4) (Int32.toNatClampNeg ((K_74 1) (Int32.toNatClampNeg (4 * x8_74))))))) < 0 ∨ 36 ≤ Int32.toNatClampNeg (((12 + ((K_74 1) (Int32.toNatClampNeg (4 * x8_74)))) + ((K_74 1) (Int32.toNatClampNeg ((4 * x8_74) + 1)))) - (L_groups_J142 K_74 x4_74 x5_74 x6_74 x7_74 x8_74 ((K_74 1) (Int32.toNatClampNeg (4 * x8_74))) ((K_74 1) (Int32.toNatClampNeg ((4 * x8_74) + 1))) x6_74 ((K_74 4) (Int32.toNatClampNeg ((K_74 1) (Int32.toNatClampNeg (4 * x8_74)))))))) then (bnd (up M_42 4 (upd (M_42 4) (Int32.toNatClampNeg (((12 + ((K_74 1) (Int32.toNatClampNeg (4 * x8_74)))) + ((K_74 1) (Int32.toNatClampNeg ((4 * x8_74) + 1)))) - (L_groups_J142 K_74 x4_74 x5_74 x6_74 x7_74 x8_74 ((K_74 1) (Int32.toNatClampNeg (4 * x8_74))) ((K_74 1) (Int32.toNatClampNeg ((4 * x8_74) + 1))) x6_74 ((K_74 4) (Int32.toNatClampNeg ((K_74 1) (Int32.toNatClampNeg (4 * x8_74)))))))) 0)) fun M_51 => L_groups_L74 fu M_51 x4_74 x5_74 x6_74 x7_74 (x8_74 + 1)) else none) else (if ¬ ((((12 + ((K_74 1) (Int32.toNatClampNeg (4 * x8_74)))) + ((K_74 1) (Int32.toNatClampNeg ((4 * x8_74) + 1)))) - (L_groups_J142 K_74 x4_74 x5_74 x6_74 x7_74 x8_74 ((K_74 1) (Int32.toNatClampNeg (4 * x8_74))) ((K_74 1) (Int32.toNatClampNeg ((4 * x8_74) + 1))) x6_74 ((K_74 4) (Int32.toNatClampNeg ((K_74 1) (Int32.toNatClampNeg (4 * x8_74))))))) < 0 ∨ 36 ≤ Int32.toNatClampNeg (((12 + ((K_74 1) (Int32.toNatClampNeg (4 * x8_74)))) + ((K_74 1) (Int32.toNatClampNeg ((4 * x8_74) + 1)))) - (L_groups_J142 K_74 x4_74 x5_74 x6_74 x7_74 x8_74 ((K_74 1) (Int32.toNatClampNeg (4 * x8_74))) ((K_74 1) (Int32.toNatClampNeg ((4 * x8_74) + 1))) x6_74 ((K_74 4) (Int32.toNatClampNeg ((K_74 1) (Int32.toNatClampNeg (4 * x8_74)))))))) then (bnd (up M_42 4 (upd (M_42 4) (Int32.toNatClampNeg (((12 + ((K_74 1) (Int32.toNatClampNeg (4 * x8_74)))) + ((K_74 1) (Int32.toNatClampNeg ((4 * x8_74) + 1)))) - (L_groups_J142 K_74 x4_74 x5_74 x6_74 x7_74 x8_74 ((K_74 1) (Int32.toNatClampNeg (4 * x8_74))) ((K_74 1) (Int32.toNatClampNeg ((4 * x8_74) + 1))) x6_74 ((K_74 4) (Int32.toNatClampNeg ((K_74 1) (Int32.toNatClampNeg (4 * x8_74)))))))) 1)) fun M_48 => L_groups_L74 fu M_48 x4_74 x5_74 x6_74 x7_74 (x8_74 + 1)) else none)) else none) else none)) else none)) else L_groups_L74 fu K_74 x4_74 x5_74 x6_74 x7_74 (x8_74 + 1)) else none)) else none)) else none) else none))
def L_groups_L63 : Nat → SLaw → Int32 → Int32 → Int32 → Int32 → Option (SLaw)
  | 0, _, _, _, _, _ => none
  | fu + 1, K_63, x4_63, x5_63, x6_63, x7_63 => (if ((K_63 3) (Int32.toNatClampNeg 0)) ≤ x7_63 then some K_63 else ((L_groups_L74 FUEL K_63 x4_63 x5_63 x6_63 x7_63 0).bind fun u_53 => L_groups_L63 fu u_53 x4_63 x5_63 x6_63 (x7_63 + 1)))
def L_groups_L28 : Nat → SLaw → Int32 → Int32 → Int32 → Option (SLaw × Int32)
  | 0, _, _, _, _ => none
  | fu + 1, K_28, x4_28, x5_28, x6_28 => (if ((K_28 3) (Int32.toNatClampNeg 0)) ≤ x6_28 then some (K_28, x5_28) else (if ¬ (x6_28 < 0 ∨ 36 ≤ Int32.toNatClampNeg x6_28) then (if 0 ≤ ((K_28 4) (Int32.toNatClampNeg x6_28)) then L_groups_L28 fu K_28 x4_28 x5_28 (x6_28 + 1) else (bnd (up K_28 4 (upd (K_28 4) (Int32.toNatClampNeg x6_28) x6_28)) fun M_10 => (if ¬ ((12 + x6_28) < 0 ∨ 36 ≤ Int32.toNatClampNeg (12 + x6_28)) then (bnd (up M_10 4 (upd (M_10 4) (Int32.toNatClampNeg (12 + x6_28)) 0)) fun M_13 => ((L_groups_L63 FUEL M_13 x4_28 (x5_28 + 1) x6_28 0).bind fun u_55 => L_groups_L28 fu u_55 x4_28 (x5_28 + 1) (x6_28 + 1))) else none))) else none))
def L_groups (K : SLaw) (x4 : Int32) : Option (SLaw × Int32) := ((L_groups_L6 FUEL K x4 0 0).bind fun u_5 => ((L_groups_L28 FUEL u_5 x4 0 0).bind fun u_57 => some (u_57.1, u_57.2)))
abbrev rm_L_groups : Room := { frames := 0, cells := 0, slots := 0, locals := 0 }
set_option maxHeartbeats 4000000 in
set_option maxRecDepth 100000 in
theorem c_L_groups (l : Launch) (D : va_G) (cI cP : ClassId) (a : Nat → Nat) (K : SLaw) (x4 : Int32) (z : SLaw × Int32) (hf : L_groups K x4 = some z) : MWi l yL_groups cL_groups 12 (some .int) rm_L_groups D cI cP [.ref (a 0), .ref (a 1), .ref (a 3), .ref (a 4), .int x4] (wLaw cI a K) (wLaw cI a z.1) z.2 := by
  refine MWi.of (by decide +kernel) (Nat.le_of_ble_eq_true rfl) ?_
  intro p e s m args below meth c ls A F hX hP hD hA hS hl
  have F : Fx p s m args meth c RL cL_groups 12 (some .int) := F
  have hx := F.1
  have hb := F.2.1
  have hown := F.2.2.2.1
  have hts := F.2.2.2.2.1
  have hl : lv_has ls 12 [(0, .ref (a 0)), (1, .ref (a 1)), (2, .ref (a 3)), (3, .ref (a 4)), (4, .int x4)] := hl
  unfold L_groups at hf
  refine lv_iconst (v := 0) hx hb dL_groups_0 (by decide) ?_
  refine lv_istore (lv' := [(5, .int 0), (0, .ref (a 0)), (1, .ref (a 1)), (2, .ref (a 3)), (3, .ref (a 4)), (4, .int x4)]) hx hb dL_groups_1 hl (by decide) rfl (fun ls hl => ?_)
  refine lv_iconst (v := 0) hx hb dL_groups_3 (by decide) ?_
  refine lv_istore (lv' := [(6, .int 0), (5, .int 0), (0, .ref (a 0)), (1, .ref (a 1)), (2, .ref (a 3)), (3, .ref (a 4)), (4, .int x4)]) hx hb dL_groups_4 hl (by decide) rfl (fun ls hl => ?_)
  have hL_6 : ∀ (fu : Nat) (K_6 : SLaw) (x4_6 : Int32) (x5_6 : Int32) (x6_6 : Int32) (v : SLaw) (H : Heap) (locs : List Loc) (ls : Array Slot), L_groups_L6 fu K_6 x4_6 x5_6 x6_6 = some v → va_P D vwCl (wLaw cI a K_6) H → va_D A (wLaw cI a K_6) → va_S A s.heap H locs → lv_has ls 12 [(1, .ref (a 1)), (2, .ref (a 3)), (3, .ref (a 4)), (4, .int x4_6), (5, .int x5_6), (6, .int x6_6)] → (∀ (H : Heap) (locs : List Loc) (ls : Array Slot), va_P D vwCl (wLaw cI a v) H → va_D A (wLaw cI a v) → va_S A s.heap H locs → lv_has ls 12 [(1, .ref (a 1)), (2, .ref (a 3)), (3, .ref (a 4)), (4, .int x4_6), (5, .int x5_6)] → W p l e rm_L_groups s m args below meth c H locs 0 0 (QWi D below args s A (wLaw cI a z.1) z.2) (F0 m 25 ls [])) → W p l e rm_L_groups s m args below meth c H locs 0 0 (QWi D below args s A (wLaw cI a z.1) z.2) (F0 m 6 ls []) := by
    intro fu
    induction fu with
    | zero =>
      intro K_6 x4_6 x5_6 x6_6 v H locs ls hf
      exact absurd hf (by simp [L_groups_L6])
    | succ fu ih =>
      intro K_6 x4_6 x5_6 x6_6 v _ _ ls hf hP hD hS hl hk
      rw [L_groups_L6] at hf
      refine lv_iload hx hb dL_groups_6 (lv_at hl 5 rfl) ?_
      refine lv_aload_n hx hb dL_groups_8 rfl (lv_at hl 1 rfl) ?_
      refine lv_iconst (v := 0) hx hb dL_groups_9 (by decide) ?_
      refine va_iald hx hb hX.1 hP 3 0 (n := 8) (f := (K_6 3)) rfl rfl (by decide : ¬ ((0 : Int32) < 0 ∨ 8 ≤ Int32.toNatClampNeg 0)) dL_groups_10 ?_
      refine lv_icmp_ge (tgt := 25) hx hb dL_groups_11 (by decide) (fun c_1 => ?_) (fun c_1 => ?_)
      · replace hf := (if_pos c_1).symm.trans hf
        obtain rfl := Option.some.inj hf
        exact hk _ _ ls hP hD hS (lv_sub hl [0, 1, 2, 3, 4] rfl)
      · replace hf := (if_neg c_1).symm.trans hf
        refine lv_aload_n hx hb dL_groups_14 rfl (lv_at hl 2 rfl) ?_
        refine lv_iload hx hb dL_groups_15 (lv_at hl 5 rfl) ?_
        refine lv_iconst (v := (-1)) hx hb dL_groups_17 (by decide) ?_
        have g_2 := og hf
        replace hf := (if_pos g_2).symm.trans hf
        refine va_iast hx hb hX.1 hP hD hS 4 0 (n := 36) (f := (K_6 4)) rfl rfl g_2 dL_groups_18 (fun H locs hP hD hS => ?_)
        obtain ⟨M_3, e_4, hf⟩ := bnd_e hf
        have hP : va_P D vwCl (wLaw cI a M_3) H := by rw [e_4]; exact hP
        have hD : va_D A (wLaw cI a M_3) := by rw [e_4]; exact hD
        clear e_4
        refine lv_iinc (v := (x6_6 + 1)) (lv' := [(6, .int (x6_6 + 1)), (1, .ref (a 1)), (2, .ref (a 3)), (3, .ref (a 4)), (4, .int x4_6), (5, .int x5_6)]) hx hb dL_groups_19 hl (k := 5) rfl (by rfl) (by decide) rfl (fun ls hl => ?_)
        refine lv_goto (tgt := 6) hx hb dL_groups_22 (by decide) ?_
        exact ih M_3 x4_6 x5_6 (x6_6 + 1) _ _ _ ls hf hP hD hS (lv_sub hl [1, 2, 3, 4, 5, 0] rfl) hk
  obtain ⟨u_5, h_6, hf⟩ := ob hf
  refine hL_6 FUEL K x4 0 0 u_5 _ _ ls h_6 hP hD hS (lv_sub hl [3, 4, 5, 6, 1, 0] rfl) (fun H locs ls hP hD hS hl => ?_)
  clear hL_6
  refine lv_iconst (v := 0) hx hb dL_groups_25 (by decide) ?_
  refine lv_istore (lv' := [(6, .int 0), (1, .ref (a 1)), (2, .ref (a 3)), (3, .ref (a 4)), (4, .int x4), (5, .int 0)]) hx hb dL_groups_26 hl (by decide) rfl (fun ls hl => ?_)
  have hL_28 : ∀ (fu : Nat) (K_28 : SLaw) (x4_28 : Int32) (x5_28 : Int32) (x6_28 : Int32) (v : SLaw × Int32) (H : Heap) (locs : List Loc) (ls : Array Slot), L_groups_L28 fu K_28 x4_28 x5_28 x6_28 = some v → va_P D vwCl (wLaw cI a K_28) H → va_D A (wLaw cI a K_28) → va_S A s.heap H locs → lv_has ls 12 [(1, .ref (a 1)), (2, .ref (a 3)), (3, .ref (a 4)), (4, .int x4_28), (5, .int x5_28), (6, .int x6_28)] → (∀ (H : Heap) (locs : List Loc) (ls : Array Slot), va_P D vwCl (wLaw cI a v.1) H → va_D A (wLaw cI a v.1) → va_S A s.heap H locs → lv_has ls 12 [(5, .int v.2)] → W p l e rm_L_groups s m args below meth c H locs 0 0 (QWi D below args s A (wLaw cI a z.1) z.2) (F0 m 220 ls [])) → W p l e rm_L_groups s m args below meth c H locs 0 0 (QWi D below args s A (wLaw cI a z.1) z.2) (F0 m 28 ls []) := by
    intro fu
    induction fu with
    | zero =>
      intro K_28 x4_28 x5_28 x6_28 v H locs ls hf
      exact absurd hf (by simp [L_groups_L28])
    | succ fu ih =>
      intro K_28 x4_28 x5_28 x6_28 v _ _ ls hf hP hD hS hl hk
      rw [L_groups_L28] at hf
      refine lv_iload hx hb dL_groups_28 (lv_at hl 5 rfl) ?_
      refine lv_aload_n hx hb dL_groups_30 rfl (lv_at hl 1 rfl) ?_
      refine lv_iconst (v := 0) hx hb dL_groups_31 (by decide) ?_
      refine va_iald hx hb hX.1 hP 3 0 (n := 8) (f := (K_28 3)) rfl rfl (by decide : ¬ ((0 : Int32) < 0 ∨ 8 ≤ Int32.toNatClampNeg 0)) dL_groups_32 ?_
      refine lv_icmp_ge (tgt := 220) hx hb dL_groups_33 (by decide) (fun c_7 => ?_) (fun c_7 => ?_)
      · replace hf := (if_pos c_7).symm.trans hf
        obtain rfl := Option.some.inj hf
        exact hk _ _ ls hP hD hS (lv_sub hl [4] rfl)
      · replace hf := (if_neg c_7).symm.trans hf
        refine lv_aload_n hx hb dL_groups_36 rfl (lv_at hl 2 rfl) ?_
        refine lv_iload hx hb dL_groups_37 (lv_at hl 5 rfl) ?_
        have g_8 := og hf
        replace hf := (if_pos g_8).symm.trans hf
        refine va_iald hx hb hX.1 hP 4 0 (n := 36) (f := (K_28 4)) rfl rfl g_8 dL_groups_39 ?_
        refine lv_if_ge (tgt := 214) hx hb dL_groups_40 (by decide) (fun c_9 => ?_) (fun c_9 => ?_)
        · replace hf := (if_pos c_9).symm.trans hf
          refine lv_iinc (v := (x6_28 + 1)) (lv' := [(6, .int (x6_28 + 1)), (1, .ref (a 1)), (2, .ref (a 3)), (3, .ref (a 4)), (4, .int x4_28), (5, .int x5_28)]) hx hb dL_groups_214 hl (k := 5) rfl (by rfl) (by decide) rfl (fun ls hl => ?_)
          refine lv_goto (tgt := 28) hx hb dL_groups_217 (by decide) ?_
          exact ih K_28 x4_28 x5_28 (x6_28 + 1) _ _ _ ls hf hP hD hS (lv_sub hl [1, 2, 3, 4, 5, 0] rfl) hk
        · replace hf := (if_neg c_9).symm.trans hf
          refine lv_iinc (v := (x5_28 + 1)) (lv' := [(5, .int (x5_28 + 1)), (1, .ref (a 1)), (2, .ref (a 3)), (3, .ref (a 4)), (4, .int x4_28), (6, .int x6_28)]) hx hb dL_groups_43 hl (k := 4) rfl (by rfl) (by decide) rfl (fun ls hl => ?_)
          refine lv_aload_n hx hb dL_groups_46 rfl (lv_at hl 3 rfl) ?_
          refine lv_iload hx hb dL_groups_47 (lv_at hl 5 rfl) ?_
          refine lv_iload hx hb dL_groups_49 (lv_at hl 5 rfl) ?_
          refine va_iast hx hb hX.1 hP hD hS 4 0 (n := 36) (f := (K_28 4)) rfl rfl g_8 dL_groups_51 (fun H locs hP hD hS => ?_)
          obtain ⟨M_10, e_11, hf⟩ := bnd_e hf
          have hP : va_P D vwCl (wLaw cI a M_10) H := by rw [e_11]; exact hP
          have hD : va_D A (wLaw cI a M_10) := by rw [e_11]; exact hD
          clear e_11
          refine lv_aload_n hx hb dL_groups_52 rfl (lv_at hl 3 rfl) ?_
          refine lv_bipush (v := 12) hx hb dL_groups_53 (by decide) ?_
          refine lv_iload hx hb dL_groups_55 (lv_at hl 5 rfl) ?_
          refine lv_iadd hx hb dL_groups_57 ?_
          refine lv_iconst (v := 0) hx hb dL_groups_58 (by decide) ?_
          have g_12 := og hf
          replace hf := (if_pos g_12).symm.trans hf
          refine va_iast hx hb hX.1 hP hD hS 4 0 (n := 36) (f := (M_10 4)) rfl rfl g_12 dL_groups_59 (fun H locs hP hD hS => ?_)
          obtain ⟨M_13, e_14, hf⟩ := bnd_e hf
          have hP : va_P D vwCl (wLaw cI a M_13) H := by rw [e_14]; exact hP
          have hD : va_D A (wLaw cI a M_13) := by rw [e_14]; exact hD
          clear e_14
          refine lv_iconst (v := 0) hx hb dL_groups_60 (by decide) ?_
          refine lv_istore (lv' := [(7, .int 0), (5, .int (x5_28 + 1)), (1, .ref (a 1)), (2, .ref (a 3)), (3, .ref (a 4)), (4, .int x4_28), (6, .int x6_28)]) hx hb dL_groups_61 hl (by decide) rfl (fun ls hl => ?_)
          have hL_63 : ∀ (fu : Nat) (K_63 : SLaw) (x4_63 : Int32) (x5_63 : Int32) (x6_63 : Int32) (x7_63 : Int32) (v : SLaw) (H : Heap) (locs : List Loc) (ls : Array Slot), L_groups_L63 fu K_63 x4_63 x5_63 x6_63 x7_63 = some v → va_P D vwCl (wLaw cI a K_63) H → va_D A (wLaw cI a K_63) → va_S A s.heap H locs → lv_has ls 12 [(1, .ref (a 1)), (2, .ref (a 3)), (3, .ref (a 4)), (4, .int x4_63), (5, .int x5_63), (6, .int x6_63), (7, .int x7_63)] → (∀ (H : Heap) (locs : List Loc) (ls : Array Slot), va_P D vwCl (wLaw cI a v) H → va_D A (wLaw cI a v) → va_S A s.heap H locs → lv_has ls 12 [(1, .ref (a 1)), (2, .ref (a 3)), (3, .ref (a 4)), (4, .int x4_63), (5, .int x5_63), (6, .int x6_63)] → W p l e rm_L_groups s m args below meth c H locs 0 0 (QWi D below args s A (wLaw cI a z.1) z.2) (F0 m 214 ls [])) → W p l e rm_L_groups s m args below meth c H locs 0 0 (QWi D below args s A (wLaw cI a z.1) z.2) (F0 m 63 ls []) := by
            intro fu
            induction fu with
            | zero =>
              intro K_63 x4_63 x5_63 x6_63 x7_63 v H locs ls hf
              exact absurd hf (by simp [L_groups_L63])
            | succ fu ih =>
              intro K_63 x4_63 x5_63 x6_63 x7_63 v _ _ ls hf hP hD hS hl hk
              rw [L_groups_L63] at hf
              refine lv_iload hx hb dL_groups_63 (lv_at hl 6 rfl) ?_
              refine lv_aload_n hx hb dL_groups_65 rfl (lv_at hl 1 rfl) ?_
              refine lv_iconst (v := 0) hx hb dL_groups_66 (by decide) ?_
              refine va_iald hx hb hX.1 hP 3 0 (n := 8) (f := (K_63 3)) rfl rfl (by decide : ¬ ((0 : Int32) < 0 ∨ 8 ≤ Int32.toNatClampNeg 0)) dL_groups_67 ?_
              refine lv_icmp_ge (tgt := 214) hx hb dL_groups_68 (by decide) (fun c_15 => ?_) (fun c_15 => ?_)
              · replace hf := (if_pos c_15).symm.trans hf
                obtain rfl := Option.some.inj hf
                exact hk _ _ ls hP hD hS (lv_sub hl [0, 1, 2, 3, 4, 5] rfl)
              · replace hf := (if_neg c_15).symm.trans hf
                refine lv_iconst (v := 0) hx hb dL_groups_71 (by decide) ?_
                refine lv_istore (lv' := [(8, .int 0), (1, .ref (a 1)), (2, .ref (a 3)), (3, .ref (a 4)), (4, .int x4_63), (5, .int x5_63), (6, .int x6_63), (7, .int x7_63)]) hx hb dL_groups_72 hl (by decide) rfl (fun ls hl => ?_)
                have hL_74 : ∀ (fu : Nat) (K_74 : SLaw) (x4_74 : Int32) (x5_74 : Int32) (x6_74 : Int32) (x7_74 : Int32) (x8_74 : Int32) (v : SLaw) (H : Heap) (locs : List Loc) (ls : Array Slot), L_groups_L74 fu K_74 x4_74 x5_74 x6_74 x7_74 x8_74 = some v → va_P D vwCl (wLaw cI a K_74) H → va_D A (wLaw cI a K_74) → va_S A s.heap H locs → lv_has ls 12 [(1, .ref (a 1)), (2, .ref (a 3)), (3, .ref (a 4)), (4, .int x4_74), (5, .int x5_74), (6, .int x6_74), (7, .int x7_74), (8, .int x8_74)] → (∀ (H : Heap) (locs : List Loc) (ls : Array Slot), va_P D vwCl (wLaw cI a v) H → va_D A (wLaw cI a v) → va_S A s.heap H locs → lv_has ls 12 [(1, .ref (a 1)), (2, .ref (a 3)), (3, .ref (a 4)), (4, .int x4_74), (5, .int x5_74), (6, .int x6_74), (7, .int x7_74)] → W p l e rm_L_groups s m args below meth c H locs 0 0 (QWi D below args s A (wLaw cI a z.1) z.2) (F0 m 208 ls [])) → W p l e rm_L_groups s m args below meth c H locs 0 0 (QWi D below args s A (wLaw cI a z.1) z.2) (F0 m 74 ls []) := by
                  intro fu
                  induction fu with
                  | zero =>
                    intro K_74 x4_74 x5_74 x6_74 x7_74 x8_74 v H locs ls hf
                    exact absurd hf (by simp [L_groups_L74])
                  | succ fu ih =>
                    intro K_74 x4_74 x5_74 x6_74 x7_74 x8_74 v _ _ ls hf hP hD hS hl hk
                    rw [L_groups_L74] at hf
                    refine lv_iload hx hb dL_groups_74 (lv_at hl 7 rfl) ?_
                    refine lv_aload_n hx hb dL_groups_76 rfl (lv_at hl 1 rfl) ?_
                    refine lv_iconst (v := 1) hx hb dL_groups_77 (by decide) ?_
                    refine va_iald hx hb hX.1 hP 3 0 (n := 8) (f := (K_74 3)) rfl rfl (by decide : ¬ ((1 : Int32) < 0 ∨ 8 ≤ Int32.toNatClampNeg 1)) dL_groups_78 ?_
                    refine lv_icmp_ge (tgt := 208) hx hb dL_groups_79 (by decide) (fun c_16 => ?_) (fun c_16 => ?_)
                    · replace hf := (if_pos c_16).symm.trans hf
                      obtain rfl := Option.some.inj hf
                      exact hk _ _ ls hP hD hS (lv_sub hl [0, 1, 2, 3, 4, 5, 6] rfl)
                    · replace hf := (if_neg c_16).symm.trans hf
                      refine lv_aload_n hx hb dL_groups_82 rfl (lv_at hl 0 rfl) ?_
                      refine lv_iconst (v := 4) hx hb dL_groups_83 (by decide) ?_
                      refine lv_iload hx hb dL_groups_84 (lv_at hl 7 rfl) ?_
                      refine lv_imul hx hb dL_groups_86 ?_
                      have g_17 := og hf
                      replace hf := (if_pos g_17).symm.trans hf
                      refine va_iald hx hb hX.1 hP 1 0 (n := 64) (f := (K_74 1)) rfl rfl g_17 dL_groups_87 ?_
                      refine lv_istore (lv' := [(9, .int ((K_74 1) (Int32.toNatClampNeg (4 * x8_74)))), (1, .ref (a 1)), (2, .ref (a 3)), (3, .ref (a 4)), (4, .int x4_74), (5, .int x5_74), (6, .int x6_74), (7, .int x7_74), (8, .int x8_74)]) hx hb dL_groups_88 hl (by decide) rfl (fun ls hl => ?_)
                      refine lv_aload_n hx hb dL_groups_90 rfl (lv_at hl 1 rfl) ?_
                      refine lv_iconst (v := 4) hx hb dL_groups_91 (by decide) ?_
                      refine lv_iload hx hb dL_groups_92 (lv_at hl 8 rfl) ?_
                      refine lv_imul hx hb dL_groups_94 ?_
                      refine lv_iconst (v := 1) hx hb dL_groups_95 (by decide) ?_
                      refine lv_iadd hx hb dL_groups_96 ?_
                      have g_18 := og hf
                      replace hf := (if_pos g_18).symm.trans hf
                      refine va_iald hx hb hX.1 hP 1 0 (n := 64) (f := (K_74 1)) rfl rfl g_18 dL_groups_97 ?_
                      refine lv_istore (lv' := [(10, .int ((K_74 1) (Int32.toNatClampNeg ((4 * x8_74) + 1)))), (9, .int ((K_74 1) (Int32.toNatClampNeg (4 * x8_74)))), (1, .ref (a 1)), (2, .ref (a 3)), (3, .ref (a 4)), (4, .int x4_74), (5, .int x5_74), (6, .int x6_74), (7, .int x7_74), (8, .int x8_74)]) hx hb dL_groups_98 hl (by decide) rfl (fun ls hl => ?_)
                      refine lv_iload hx hb dL_groups_100 (lv_at hl 9 rfl) ?_
                      refine lv_iload hx hb dL_groups_102 (lv_at hl 5 rfl) ?_
                      refine lv_icmp_eq (tgt := 202) hx hb dL_groups_104 (by decide) (fun c_19 => ?_) (fun c_19 => ?_)
                      · replace hf := (if_pos c_19).symm.trans hf
                        refine lv_iinc (v := (x8_74 + 1)) (lv' := [(8, .int (x8_74 + 1)), (10, .int ((K_74 1) (Int32.toNatClampNeg ((4 * x8_74) + 1)))), (9, .int ((K_74 1) (Int32.toNatClampNeg (4 * x8_74)))), (1, .ref (a 1)), (2, .ref (a 3)), (3, .ref (a 4)), (4, .int x4_74), (5, .int x5_74), (6, .int x6_74), (7, .int x7_74)]) hx hb dL_groups_202 hl (k := 9) rfl (by rfl) (by decide) rfl (fun ls hl => ?_)
                        refine lv_goto (tgt := 74) hx hb dL_groups_205 (by decide) ?_
                        exact ih K_74 x4_74 x5_74 x6_74 x7_74 (x8_74 + 1) _ _ _ ls hf hP hD hS (lv_sub hl [3, 4, 5, 6, 7, 8, 9, 0] rfl) hk
                      · replace hf := (if_neg c_19).symm.trans hf
                        refine lv_aload_n hx hb dL_groups_107 rfl (lv_at hl 4 rfl) ?_
                        refine lv_iload hx hb dL_groups_108 (lv_at hl 1 rfl) ?_
                        have g_20 := og hf
                        replace hf := (if_pos g_20).symm.trans hf
                        refine va_iald hx hb hX.1 hP 4 0 (n := 36) (f := (K_74 4)) rfl rfl g_20 dL_groups_110 ?_
                        refine lv_iload hx hb dL_groups_111 (lv_at hl 7 rfl) ?_
                        refine lv_icmp_eq (tgt := 125) hx hb dL_groups_113 (by decide) (fun c_21 => ?_) (fun c_21 => ?_)
                        · replace hf := (if_pos c_21).symm.trans hf
                          refine lv_aload_n hx hb dL_groups_125 rfl (lv_at hl 4 rfl) ?_
                          refine lv_iload hx hb dL_groups_126 (lv_at hl 1 rfl) ?_
                          refine va_iald hx hb hX.1 hP 4 0 (n := 36) (f := (K_74 4)) rfl rfl g_20 dL_groups_128 ?_
                          refine lv_aload_n hx hb dL_groups_129 rfl (lv_at hl 4 rfl) ?_
                          refine lv_iload hx hb dL_groups_130 (lv_at hl 0 rfl) ?_
                          have g_22 := og hf
                          replace hf := (if_pos g_22).symm.trans hf
                          refine va_iald hx hb hX.1 hP 4 0 (n := 36) (f := (K_74 4)) rfl rfl g_22 dL_groups_132 ?_
                          refine lv_icmp_eq (tgt := 202) hx hb dL_groups_133 (by decide) (fun c_23 => ?_) (fun c_23 => ?_)
                          · replace hf := (if_pos c_23).symm.trans hf
                            refine lv_iinc (v := (x8_74 + 1)) (lv' := [(8, .int (x8_74 + 1)), (10, .int ((K_74 1) (Int32.toNatClampNeg ((4 * x8_74) + 1)))), (9, .int ((K_74 1) (Int32.toNatClampNeg (4 * x8_74)))), (1, .ref (a 1)), (2, .ref (a 3)), (3, .ref (a 4)), (4, .int x4_74), (5, .int x5_74), (6, .int x6_74), (7, .int x7_74)]) hx hb dL_groups_202 hl (k := 9) rfl (by rfl) (by decide) rfl (fun ls hl => ?_)
                            refine lv_goto (tgt := 74) hx hb dL_groups_205 (by decide) ?_
                            exact ih K_74 x4_74 x5_74 x6_74 x7_74 (x8_74 + 1) _ _ _ ls hf hP hD hS (lv_sub hl [3, 4, 5, 6, 7, 8, 9, 0] rfl) hk
                          · replace hf := (if_neg c_23).symm.trans hf
                            refine lv_aload_n hx hb dL_groups_136 rfl (lv_at hl 4 rfl) ?_
                            refine lv_iload hx hb dL_groups_137 (lv_at hl 1 rfl) ?_
                            refine va_iald hx hb hX.1 hP 4 0 (n := 36) (f := (K_74 4)) rfl rfl g_20 dL_groups_139 ?_
                            refine lv_iload hx hb dL_groups_140 (lv_at hl 7 rfl) ?_
                            have hJ_142 : ∀ (K_142 : SLaw) (x4_142 : Int32) (x5_142 : Int32) (x6_142 : Int32) (x7_142 : Int32) (x8_142 : Int32) (x9_142 : Int32) (x10_142 : Int32) (t0_142 : Int32) (t1_142 : Int32) (v : Int32) (H : Heap) (locs : List Loc) (ls : Array Slot), L_groups_J142 K_142 x4_142 x5_142 x6_142 x7_142 x8_142 x9_142 x10_142 t0_142 t1_142 = v → va_P D vwCl (wLaw cI a K_142) H → va_D A (wLaw cI a K_142) → va_S A s.heap H locs → lv_has ls 12 [(10, .int x10_142), (9, .int x9_142), (1, .ref (a 1)), (2, .ref (a 3)), (3, .ref (a 4)), (4, .int x4_142), (5, .int x5_142), (6, .int x6_142), (7, .int x7_142), (8, .int x8_142)] → (∀ (H : Heap) (locs : List Loc) (ls : Array Slot), va_P D vwCl (wLaw cI a K_142) H → va_D A (wLaw cI a K_142) → va_S A s.heap H locs → lv_has ls 12 [(1, .ref (a 1)), (2, .ref (a 3)), (3, .ref (a 4)), (4, .int x4_142), (5, .int x5_142), (6, .int x6_142), (7, .int x7_142), (8, .int x8_142), (9, .int x9_142), (10, .int x10_142)] → W p l e rm_L_groups s m args below meth c H locs 0 0 (QWi D below args s A (wLaw cI a z.1) z.2) (F0 m 152 ls [.int v])) → W p l e rm_L_groups s m args below meth c H locs 0 0 (QWi D below args s A (wLaw cI a z.1) z.2) (F0 m 142 ls [.int t0_142, .int t1_142]) := by
                              intro K_142 x4_142 x5_142 x6_142 x7_142 x8_142 x9_142 x10_142 t0_142 t1_142 v _ _ ls hf hP hD hS hl hk
                              unfold L_groups_J142 at hf
                              refine lv_icmp_ne (tgt := 150) hx hb dL_groups_142 (by decide) (fun c_24 => ?_) (fun c_24 => ?_)
                              · replace hf := (if_neg c_24).symm.trans hf
                                refine lv_iload hx hb dL_groups_150 (lv_at hl 0 rfl) ?_
                                obtain rfl := hf
                                exact hk _ _ ls hP hD hS (lv_sub hl [2, 3, 4, 5, 6, 7, 8, 9, 1, 0] rfl)
                              · replace hf := (if_pos c_24).symm.trans hf
                                refine lv_iload hx hb dL_groups_145 (lv_at hl 1 rfl) ?_
                                refine lv_goto (tgt := 152) hx hb dL_groups_147 (by decide) ?_
                                obtain rfl := hf
                                exact hk _ _ ls hP hD hS (lv_sub hl [2, 3, 4, 5, 6, 7, 8, 9, 1, 0] rfl)
                            refine hJ_142 K_74 x4_74 x5_74 x6_74 x7_74 x8_74 ((K_74 1) (Int32.toNatClampNeg (4 * x8_74))) ((K_74 1) (Int32.toNatClampNeg ((4 * x8_74) + 1))) x6_74 ((K_74 4) (Int32.toNatClampNeg ((K_74 1) (Int32.toNatClampNeg (4 * x8_74))))) _ _ _ ls rfl hP hD hS hl (fun H locs ls hP hD hS hl => ?_)
                            clear hJ_142
                            refine lv_istore (lv' := [(11, .int (L_groups_J142 K_74 x4_74 x5_74 x6_74 x7_74 x8_74 ((K_74 1) (Int32.toNatClampNeg (4 * x8_74))) ((K_74 1) (Int32.toNatClampNeg ((4 * x8_74) + 1))) x6_74 ((K_74 4) (Int32.toNatClampNeg ((K_74 1) (Int32.toNatClampNeg (4 * x8_74))))))), (1, .ref (a 1)), (2, .ref (a 3)), (3, .ref (a 4)), (4, .int x4_74), (5, .int x5_74), (6, .int x6_74), (7, .int x7_74), (8, .int x8_74), (9, .int ((K_74 1) (Int32.toNatClampNeg (4 * x8_74)))), (10, .int ((K_74 1) (Int32.toNatClampNeg ((4 * x8_74) + 1))))]) hx hb dL_groups_152 hl (by decide) rfl (fun ls hl => ?_)
                            refine lv_aload_n hx hb dL_groups_154 rfl (lv_at hl 3 rfl) ?_
                            refine lv_iload hx hb dL_groups_155 (lv_at hl 9 rfl) ?_
                            refine lv_iload hx hb dL_groups_157 (lv_at hl 10 rfl) ?_
                            refine lv_iadd hx hb dL_groups_159 ?_
                            refine lv_iload hx hb dL_groups_160 (lv_at hl 0 rfl) ?_
                            refine lv_isub hx hb dL_groups_162 ?_
                            refine lv_iload hx hb dL_groups_163 (lv_at hl 6 rfl) ?_
                            have g_25 := og hf
                            replace hf := (if_pos g_25).symm.trans hf
                            refine va_iast hx hb hX.1 hP hD hS 4 0 (n := 36) (f := (K_74 4)) rfl rfl g_25 dL_groups_165 (fun H locs hP hD hS => ?_)
                            obtain ⟨M_26, e_27, hf⟩ := bnd_e hf
                            have hP : va_P D vwCl (wLaw cI a M_26) H := by rw [e_27]; exact hP
                            have hD : va_D A (wLaw cI a M_26) := by rw [e_27]; exact hD
                            clear e_27
                            refine lv_aload_n hx hb dL_groups_166 rfl (lv_at hl 3 rfl) ?_
                            refine lv_bipush (v := 12) hx hb dL_groups_167 (by decide) ?_
                            refine lv_iload hx hb dL_groups_169 (lv_at hl 9 rfl) ?_
                            refine lv_iadd hx hb dL_groups_171 ?_
                            refine lv_iload hx hb dL_groups_172 (lv_at hl 10 rfl) ?_
                            refine lv_iadd hx hb dL_groups_174 ?_
                            refine lv_iload hx hb dL_groups_175 (lv_at hl 0 rfl) ?_
                            refine lv_isub hx hb dL_groups_177 ?_
                            refine lv_aload_n hx hb dL_groups_178 rfl (lv_at hl 3 rfl) ?_
                            refine lv_bipush (v := 12) hx hb dL_groups_179 (by decide) ?_
                            refine lv_iload hx hb dL_groups_181 (lv_at hl 0 rfl) ?_
                            refine lv_iadd hx hb dL_groups_183 ?_
                            have g_28 := og hf
                            replace hf := (if_pos g_28).symm.trans hf
                            refine va_iald hx hb hX.1 hP 4 0 (n := 36) (f := (M_26 4)) rfl rfl g_28 dL_groups_184 ?_
                            refine lv_aload_n hx hb dL_groups_185 rfl (lv_at hl 1 rfl) ?_
                            refine lv_iconst (v := 4) hx hb dL_groups_186 (by decide) ?_
                            refine lv_iload hx hb dL_groups_187 (lv_at hl 8 rfl) ?_
                            refine lv_imul hx hb dL_groups_189 ?_
                            refine lv_iconst (v := 2) hx hb dL_groups_190 (by decide) ?_
                            refine lv_iadd hx hb dL_groups_191 ?_
                            have g_29 := og hf
                            replace hf := (if_pos g_29).symm.trans hf
                            refine va_iald hx hb hX.1 hP 1 0 (n := 64) (f := (M_26 1)) rfl rfl g_29 dL_groups_192 ?_
                            refine lv_icmp_ne (tgt := 200) hx hb dL_groups_193 (by decide) (fun c_30 => ?_) (fun c_30 => ?_)
                            · replace hf := (if_neg c_30).symm.trans hf
                              refine lv_iconst (v := 1) hx hb dL_groups_200 (by decide) ?_
                              have g_31 := og hf
                              replace hf := (if_pos g_31).symm.trans hf
                              refine va_iast hx hb hX.1 hP hD hS 4 0 (n := 36) (f := (M_26 4)) rfl rfl g_31 dL_groups_201 (fun H locs hP hD hS => ?_)
                              obtain ⟨M_32, e_33, hf⟩ := bnd_e hf
                              have hP : va_P D vwCl (wLaw cI a M_32) H := by rw [e_33]; exact hP
                              have hD : va_D A (wLaw cI a M_32) := by rw [e_33]; exact hD
                              clear e_33
                              refine lv_iinc (v := (x8_74 + 1)) (lv' := [(8, .int (x8_74 + 1)), (11, .int (L_groups_J142 K_74 x4_74 x5_74 x6_74 x7_74 x8_74 ((K_74 1) (Int32.toNatClampNeg (4 * x8_74))) ((K_74 1) (Int32.toNatClampNeg ((4 * x8_74) + 1))) x6_74 ((K_74 4) (Int32.toNatClampNeg ((K_74 1) (Int32.toNatClampNeg (4 * x8_74))))))), (1, .ref (a 1)), (2, .ref (a 3)), (3, .ref (a 4)), (4, .int x4_74), (5, .int x5_74), (6, .int x6_74), (7, .int x7_74), (9, .int ((K_74 1) (Int32.toNatClampNeg (4 * x8_74)))), (10, .int ((K_74 1) (Int32.toNatClampNeg ((4 * x8_74) + 1))))]) hx hb dL_groups_202 hl (k := 8) rfl (by rfl) (by decide) rfl (fun ls hl => ?_)
                              refine lv_goto (tgt := 74) hx hb dL_groups_205 (by decide) ?_
                              exact ih M_32 x4_74 x5_74 x6_74 x7_74 (x8_74 + 1) _ _ _ ls hf hP hD hS (lv_sub hl [2, 3, 4, 5, 6, 7, 8, 0] rfl) hk
                            · replace hf := (if_pos c_30).symm.trans hf
                              refine lv_iconst (v := 0) hx hb dL_groups_196 (by decide) ?_
                              refine lv_goto (tgt := 201) hx hb dL_groups_197 (by decide) ?_
                              have g_34 := og hf
                              replace hf := (if_pos g_34).symm.trans hf
                              refine va_iast hx hb hX.1 hP hD hS 4 0 (n := 36) (f := (M_26 4)) rfl rfl g_34 dL_groups_201 (fun H locs hP hD hS => ?_)
                              obtain ⟨M_35, e_36, hf⟩ := bnd_e hf
                              have hP : va_P D vwCl (wLaw cI a M_35) H := by rw [e_36]; exact hP
                              have hD : va_D A (wLaw cI a M_35) := by rw [e_36]; exact hD
                              clear e_36
                              refine lv_iinc (v := (x8_74 + 1)) (lv' := [(8, .int (x8_74 + 1)), (11, .int (L_groups_J142 K_74 x4_74 x5_74 x6_74 x7_74 x8_74 ((K_74 1) (Int32.toNatClampNeg (4 * x8_74))) ((K_74 1) (Int32.toNatClampNeg ((4 * x8_74) + 1))) x6_74 ((K_74 4) (Int32.toNatClampNeg ((K_74 1) (Int32.toNatClampNeg (4 * x8_74))))))), (1, .ref (a 1)), (2, .ref (a 3)), (3, .ref (a 4)), (4, .int x4_74), (5, .int x5_74), (6, .int x6_74), (7, .int x7_74), (9, .int ((K_74 1) (Int32.toNatClampNeg (4 * x8_74)))), (10, .int ((K_74 1) (Int32.toNatClampNeg ((4 * x8_74) + 1))))]) hx hb dL_groups_202 hl (k := 8) rfl (by rfl) (by decide) rfl (fun ls hl => ?_)
                              refine lv_goto (tgt := 74) hx hb dL_groups_205 (by decide) ?_
                              exact ih M_35 x4_74 x5_74 x6_74 x7_74 (x8_74 + 1) _ _ _ ls hf hP hD hS (lv_sub hl [2, 3, 4, 5, 6, 7, 8, 0] rfl) hk
                        · replace hf := (if_neg c_21).symm.trans hf
                          refine lv_aload_n hx hb dL_groups_116 rfl (lv_at hl 4 rfl) ?_
                          refine lv_iload hx hb dL_groups_117 (lv_at hl 0 rfl) ?_
                          have g_37 := og hf
                          replace hf := (if_pos g_37).symm.trans hf
                          refine va_iald hx hb hX.1 hP 4 0 (n := 36) (f := (K_74 4)) rfl rfl g_37 dL_groups_119 ?_
                          refine lv_iload hx hb dL_groups_120 (lv_at hl 7 rfl) ?_
                          refine lv_icmp_ne (tgt := 202) hx hb dL_groups_122 (by decide) (fun c_38 => ?_) (fun c_38 => ?_)
                          · replace hf := (if_neg c_38).symm.trans hf
                            refine lv_iinc (v := (x8_74 + 1)) (lv' := [(8, .int (x8_74 + 1)), (10, .int ((K_74 1) (Int32.toNatClampNeg ((4 * x8_74) + 1)))), (9, .int ((K_74 1) (Int32.toNatClampNeg (4 * x8_74)))), (1, .ref (a 1)), (2, .ref (a 3)), (3, .ref (a 4)), (4, .int x4_74), (5, .int x5_74), (6, .int x6_74), (7, .int x7_74)]) hx hb dL_groups_202 hl (k := 9) rfl (by rfl) (by decide) rfl (fun ls hl => ?_)
                            refine lv_goto (tgt := 74) hx hb dL_groups_205 (by decide) ?_
                            exact ih K_74 x4_74 x5_74 x6_74 x7_74 (x8_74 + 1) _ _ _ ls hf hP hD hS (lv_sub hl [3, 4, 5, 6, 7, 8, 9, 0] rfl) hk
                          · replace hf := (if_pos c_38).symm.trans hf
                            refine lv_aload_n hx hb dL_groups_125 rfl (lv_at hl 4 rfl) ?_
                            refine lv_iload hx hb dL_groups_126 (lv_at hl 1 rfl) ?_
                            refine va_iald hx hb hX.1 hP 4 0 (n := 36) (f := (K_74 4)) rfl rfl g_20 dL_groups_128 ?_
                            refine lv_aload_n hx hb dL_groups_129 rfl (lv_at hl 4 rfl) ?_
                            refine lv_iload hx hb dL_groups_130 (lv_at hl 0 rfl) ?_
                            refine va_iald hx hb hX.1 hP 4 0 (n := 36) (f := (K_74 4)) rfl rfl g_37 dL_groups_132 ?_
                            refine lv_icmp_eq (tgt := 202) hx hb dL_groups_133 (by decide) (fun c_39 => ?_) (fun c_39 => ?_)
                            · replace hf := (if_pos c_39).symm.trans hf
                              refine lv_iinc (v := (x8_74 + 1)) (lv' := [(8, .int (x8_74 + 1)), (10, .int ((K_74 1) (Int32.toNatClampNeg ((4 * x8_74) + 1)))), (9, .int ((K_74 1) (Int32.toNatClampNeg (4 * x8_74)))), (1, .ref (a 1)), (2, .ref (a 3)), (3, .ref (a 4)), (4, .int x4_74), (5, .int x5_74), (6, .int x6_74), (7, .int x7_74)]) hx hb dL_groups_202 hl (k := 9) rfl (by rfl) (by decide) rfl (fun ls hl => ?_)
                              refine lv_goto (tgt := 74) hx hb dL_groups_205 (by decide) ?_
                              exact ih K_74 x4_74 x5_74 x6_74 x7_74 (x8_74 + 1) _ _ _ ls hf hP hD hS (lv_sub hl [3, 4, 5, 6, 7, 8, 9, 0] rfl) hk
                            · replace hf := (if_neg c_39).symm.trans hf
                              refine lv_aload_n hx hb dL_groups_136 rfl (lv_at hl 4 rfl) ?_
                              refine lv_iload hx hb dL_groups_137 (lv_at hl 1 rfl) ?_
                              refine va_iald hx hb hX.1 hP 4 0 (n := 36) (f := (K_74 4)) rfl rfl g_20 dL_groups_139 ?_
                              refine lv_iload hx hb dL_groups_140 (lv_at hl 7 rfl) ?_
                              have hJ_142 : ∀ (K_142 : SLaw) (x4_142 : Int32) (x5_142 : Int32) (x6_142 : Int32) (x7_142 : Int32) (x8_142 : Int32) (x9_142 : Int32) (x10_142 : Int32) (t0_142 : Int32) (t1_142 : Int32) (v : Int32) (H : Heap) (locs : List Loc) (ls : Array Slot), L_groups_J142 K_142 x4_142 x5_142 x6_142 x7_142 x8_142 x9_142 x10_142 t0_142 t1_142 = v → va_P D vwCl (wLaw cI a K_142) H → va_D A (wLaw cI a K_142) → va_S A s.heap H locs → lv_has ls 12 [(10, .int x10_142), (9, .int x9_142), (1, .ref (a 1)), (2, .ref (a 3)), (3, .ref (a 4)), (4, .int x4_142), (5, .int x5_142), (6, .int x6_142), (7, .int x7_142), (8, .int x8_142)] → (∀ (H : Heap) (locs : List Loc) (ls : Array Slot), va_P D vwCl (wLaw cI a K_142) H → va_D A (wLaw cI a K_142) → va_S A s.heap H locs → lv_has ls 12 [(1, .ref (a 1)), (2, .ref (a 3)), (3, .ref (a 4)), (4, .int x4_142), (5, .int x5_142), (6, .int x6_142), (7, .int x7_142), (8, .int x8_142), (9, .int x9_142), (10, .int x10_142)] → W p l e rm_L_groups s m args below meth c H locs 0 0 (QWi D below args s A (wLaw cI a z.1) z.2) (F0 m 152 ls [.int v])) → W p l e rm_L_groups s m args below meth c H locs 0 0 (QWi D below args s A (wLaw cI a z.1) z.2) (F0 m 142 ls [.int t0_142, .int t1_142]) := by
                                intro K_142 x4_142 x5_142 x6_142 x7_142 x8_142 x9_142 x10_142 t0_142 t1_142 v _ _ ls hf hP hD hS hl hk
                                unfold L_groups_J142 at hf
                                refine lv_icmp_ne (tgt := 150) hx hb dL_groups_142 (by decide) (fun c_40 => ?_) (fun c_40 => ?_)
                                · replace hf := (if_neg c_40).symm.trans hf
                                  refine lv_iload hx hb dL_groups_150 (lv_at hl 0 rfl) ?_
                                  obtain rfl := hf
                                  exact hk _ _ ls hP hD hS (lv_sub hl [2, 3, 4, 5, 6, 7, 8, 9, 1, 0] rfl)
                                · replace hf := (if_pos c_40).symm.trans hf
                                  refine lv_iload hx hb dL_groups_145 (lv_at hl 1 rfl) ?_
                                  refine lv_goto (tgt := 152) hx hb dL_groups_147 (by decide) ?_
                                  obtain rfl := hf
                                  exact hk _ _ ls hP hD hS (lv_sub hl [2, 3, 4, 5, 6, 7, 8, 9, 1, 0] rfl)
                              refine hJ_142 K_74 x4_74 x5_74 x6_74 x7_74 x8_74 ((K_74 1) (Int32.toNatClampNeg (4 * x8_74))) ((K_74 1) (Int32.toNatClampNeg ((4 * x8_74) + 1))) x6_74 ((K_74 4) (Int32.toNatClampNeg ((K_74 1) (Int32.toNatClampNeg (4 * x8_74))))) _ _ _ ls rfl hP hD hS hl (fun H locs ls hP hD hS hl => ?_)
                              clear hJ_142
                              refine lv_istore (lv' := [(11, .int (L_groups_J142 K_74 x4_74 x5_74 x6_74 x7_74 x8_74 ((K_74 1) (Int32.toNatClampNeg (4 * x8_74))) ((K_74 1) (Int32.toNatClampNeg ((4 * x8_74) + 1))) x6_74 ((K_74 4) (Int32.toNatClampNeg ((K_74 1) (Int32.toNatClampNeg (4 * x8_74))))))), (1, .ref (a 1)), (2, .ref (a 3)), (3, .ref (a 4)), (4, .int x4_74), (5, .int x5_74), (6, .int x6_74), (7, .int x7_74), (8, .int x8_74), (9, .int ((K_74 1) (Int32.toNatClampNeg (4 * x8_74)))), (10, .int ((K_74 1) (Int32.toNatClampNeg ((4 * x8_74) + 1))))]) hx hb dL_groups_152 hl (by decide) rfl (fun ls hl => ?_)
                              refine lv_aload_n hx hb dL_groups_154 rfl (lv_at hl 3 rfl) ?_
                              refine lv_iload hx hb dL_groups_155 (lv_at hl 9 rfl) ?_
                              refine lv_iload hx hb dL_groups_157 (lv_at hl 10 rfl) ?_
                              refine lv_iadd hx hb dL_groups_159 ?_
                              refine lv_iload hx hb dL_groups_160 (lv_at hl 0 rfl) ?_
                              refine lv_isub hx hb dL_groups_162 ?_
                              refine lv_iload hx hb dL_groups_163 (lv_at hl 6 rfl) ?_
                              have g_41 := og hf
                              replace hf := (if_pos g_41).symm.trans hf
                              refine va_iast hx hb hX.1 hP hD hS 4 0 (n := 36) (f := (K_74 4)) rfl rfl g_41 dL_groups_165 (fun H locs hP hD hS => ?_)
                              obtain ⟨M_42, e_43, hf⟩ := bnd_e hf
                              have hP : va_P D vwCl (wLaw cI a M_42) H := by rw [e_43]; exact hP
                              have hD : va_D A (wLaw cI a M_42) := by rw [e_43]; exact hD
                              clear e_43
                              refine lv_aload_n hx hb dL_groups_166 rfl (lv_at hl 3 rfl) ?_
                              refine lv_bipush (v := 12) hx hb dL_groups_167 (by decide) ?_
                              refine lv_iload hx hb dL_groups_169 (lv_at hl 9 rfl) ?_
                              refine lv_iadd hx hb dL_groups_171 ?_
                              refine lv_iload hx hb dL_groups_172 (lv_at hl 10 rfl) ?_
                              refine lv_iadd hx hb dL_groups_174 ?_
                              refine lv_iload hx hb dL_groups_175 (lv_at hl 0 rfl) ?_
                              refine lv_isub hx hb dL_groups_177 ?_
                              refine lv_aload_n hx hb dL_groups_178 rfl (lv_at hl 3 rfl) ?_
                              refine lv_bipush (v := 12) hx hb dL_groups_179 (by decide) ?_
                              refine lv_iload hx hb dL_groups_181 (lv_at hl 0 rfl) ?_
                              refine lv_iadd hx hb dL_groups_183 ?_
                              have g_44 := og hf
                              replace hf := (if_pos g_44).symm.trans hf
                              refine va_iald hx hb hX.1 hP 4 0 (n := 36) (f := (M_42 4)) rfl rfl g_44 dL_groups_184 ?_
                              refine lv_aload_n hx hb dL_groups_185 rfl (lv_at hl 1 rfl) ?_
                              refine lv_iconst (v := 4) hx hb dL_groups_186 (by decide) ?_
                              refine lv_iload hx hb dL_groups_187 (lv_at hl 8 rfl) ?_
                              refine lv_imul hx hb dL_groups_189 ?_
                              refine lv_iconst (v := 2) hx hb dL_groups_190 (by decide) ?_
                              refine lv_iadd hx hb dL_groups_191 ?_
                              have g_45 := og hf
                              replace hf := (if_pos g_45).symm.trans hf
                              refine va_iald hx hb hX.1 hP 1 0 (n := 64) (f := (M_42 1)) rfl rfl g_45 dL_groups_192 ?_
                              refine lv_icmp_ne (tgt := 200) hx hb dL_groups_193 (by decide) (fun c_46 => ?_) (fun c_46 => ?_)
                              · replace hf := (if_neg c_46).symm.trans hf
                                refine lv_iconst (v := 1) hx hb dL_groups_200 (by decide) ?_
                                have g_47 := og hf
                                replace hf := (if_pos g_47).symm.trans hf
                                refine va_iast hx hb hX.1 hP hD hS 4 0 (n := 36) (f := (M_42 4)) rfl rfl g_47 dL_groups_201 (fun H locs hP hD hS => ?_)
                                obtain ⟨M_48, e_49, hf⟩ := bnd_e hf
                                have hP : va_P D vwCl (wLaw cI a M_48) H := by rw [e_49]; exact hP
                                have hD : va_D A (wLaw cI a M_48) := by rw [e_49]; exact hD
                                clear e_49
                                refine lv_iinc (v := (x8_74 + 1)) (lv' := [(8, .int (x8_74 + 1)), (11, .int (L_groups_J142 K_74 x4_74 x5_74 x6_74 x7_74 x8_74 ((K_74 1) (Int32.toNatClampNeg (4 * x8_74))) ((K_74 1) (Int32.toNatClampNeg ((4 * x8_74) + 1))) x6_74 ((K_74 4) (Int32.toNatClampNeg ((K_74 1) (Int32.toNatClampNeg (4 * x8_74))))))), (1, .ref (a 1)), (2, .ref (a 3)), (3, .ref (a 4)), (4, .int x4_74), (5, .int x5_74), (6, .int x6_74), (7, .int x7_74), (9, .int ((K_74 1) (Int32.toNatClampNeg (4 * x8_74)))), (10, .int ((K_74 1) (Int32.toNatClampNeg ((4 * x8_74) + 1))))]) hx hb dL_groups_202 hl (k := 8) rfl (by rfl) (by decide) rfl (fun ls hl => ?_)
                                refine lv_goto (tgt := 74) hx hb dL_groups_205 (by decide) ?_
                                exact ih M_48 x4_74 x5_74 x6_74 x7_74 (x8_74 + 1) _ _ _ ls hf hP hD hS (lv_sub hl [2, 3, 4, 5, 6, 7, 8, 0] rfl) hk
                              · replace hf := (if_pos c_46).symm.trans hf
                                refine lv_iconst (v := 0) hx hb dL_groups_196 (by decide) ?_
                                refine lv_goto (tgt := 201) hx hb dL_groups_197 (by decide) ?_
                                have g_50 := og hf
                                replace hf := (if_pos g_50).symm.trans hf
                                refine va_iast hx hb hX.1 hP hD hS 4 0 (n := 36) (f := (M_42 4)) rfl rfl g_50 dL_groups_201 (fun H locs hP hD hS => ?_)
                                obtain ⟨M_51, e_52, hf⟩ := bnd_e hf
                                have hP : va_P D vwCl (wLaw cI a M_51) H := by rw [e_52]; exact hP
                                have hD : va_D A (wLaw cI a M_51) := by rw [e_52]; exact hD
                                clear e_52
                                refine lv_iinc (v := (x8_74 + 1)) (lv' := [(8, .int (x8_74 + 1)), (11, .int (L_groups_J142 K_74 x4_74 x5_74 x6_74 x7_74 x8_74 ((K_74 1) (Int32.toNatClampNeg (4 * x8_74))) ((K_74 1) (Int32.toNatClampNeg ((4 * x8_74) + 1))) x6_74 ((K_74 4) (Int32.toNatClampNeg ((K_74 1) (Int32.toNatClampNeg (4 * x8_74))))))), (1, .ref (a 1)), (2, .ref (a 3)), (3, .ref (a 4)), (4, .int x4_74), (5, .int x5_74), (6, .int x6_74), (7, .int x7_74), (9, .int ((K_74 1) (Int32.toNatClampNeg (4 * x8_74)))), (10, .int ((K_74 1) (Int32.toNatClampNeg ((4 * x8_74) + 1))))]) hx hb dL_groups_202 hl (k := 8) rfl (by rfl) (by decide) rfl (fun ls hl => ?_)
                                refine lv_goto (tgt := 74) hx hb dL_groups_205 (by decide) ?_
                                exact ih M_51 x4_74 x5_74 x6_74 x7_74 (x8_74 + 1) _ _ _ ls hf hP hD hS (lv_sub hl [2, 3, 4, 5, 6, 7, 8, 0] rfl) hk
                obtain ⟨u_53, h_54, hf⟩ := ob hf
                refine hL_74 FUEL K_63 x4_63 x5_63 x6_63 x7_63 0 u_53 _ _ ls h_54 hP hD hS (lv_sub hl [1, 2, 3, 4, 5, 6, 7, 0] rfl) (fun H locs ls hP hD hS hl => ?_)
                clear hL_74
                refine lv_iinc (v := (x7_63 + 1)) (lv' := [(7, .int (x7_63 + 1)), (1, .ref (a 1)), (2, .ref (a 3)), (3, .ref (a 4)), (4, .int x4_63), (5, .int x5_63), (6, .int x6_63)]) hx hb dL_groups_208 hl (k := 6) rfl (by rfl) (by decide) rfl (fun ls hl => ?_)
                refine lv_goto (tgt := 63) hx hb dL_groups_211 (by decide) ?_
                exact ih u_53 x4_63 x5_63 x6_63 (x7_63 + 1) _ _ _ ls hf hP hD hS (lv_sub hl [1, 2, 3, 4, 5, 6, 0] rfl) hk
          obtain ⟨u_55, h_56, hf⟩ := ob hf
          refine hL_63 FUEL M_13 x4_28 (x5_28 + 1) x6_28 0 u_55 _ _ ls h_56 hP hD hS (lv_sub hl [2, 3, 4, 5, 1, 6, 0] rfl) (fun H locs ls hP hD hS hl => ?_)
          clear hL_63
          refine lv_iinc (v := (x6_28 + 1)) (lv' := [(6, .int (x6_28 + 1)), (1, .ref (a 1)), (2, .ref (a 3)), (3, .ref (a 4)), (4, .int x4_28), (5, .int (x5_28 + 1))]) hx hb dL_groups_214 hl (k := 5) rfl (by rfl) (by decide) rfl (fun ls hl => ?_)
          refine lv_goto (tgt := 28) hx hb dL_groups_217 (by decide) ?_
          exact ih u_55 x4_28 (x5_28 + 1) (x6_28 + 1) _ _ _ ls hf hP hD hS (lv_sub hl [1, 2, 3, 4, 5, 0] rfl) hk
  obtain ⟨u_57, h_58, hf⟩ := ob hf
  refine hL_28 FUEL u_5 x4 0 0 u_57 _ _ ls h_58 hP hD hS (lv_sub hl [1, 2, 3, 4, 5, 0] rfl) (fun H locs ls hP hD hS hl => ?_)
  clear hL_28
  refine lv_iload hx hb dL_groups_220 (lv_at hl 0 rfl) ?_
  obtain rfl := (Option.some.inj hf)
  exact wr_i F rfl hP hS dL_groups_222
def L_yes_J63 (K_63 : SLaw) (x5_63 : Int32) (x6_63 : Int32) (x7_63 : Int32) (x8_63 : Int32) (x9_63 : Int32) (x10_63 : Int32) (t0_63 : Int32) (t1_63 : Int32) : Int32 := (if t1_63 = t0_63 then 1 else 0)
def L_yes_J77 (K_77 : SLaw) (x5_77 : Int32) (x6_77 : Int32) (x7_77 : Int32) (x9_77 : Int32) (x10_77 : Int32) (x11_77 : Int32) (t0_77 : Int32) (t1_77 : Int32) : Option (Int32) := (if t0_77 = 0 then some 0 else (if ¬ (((3 * x10_77) + 1) < 0 ∨ 36 ≤ Int32.toNatClampNeg ((3 * x10_77) + 1)) then (if ¬ ((12 + x10_77) < 0 ∨ 36 ≤ Int32.toNatClampNeg (12 + x10_77)) then (if ((K_77 0) (Int32.toNatClampNeg ((3 * x10_77) + 1))) = ((K_77 4) (Int32.toNatClampNeg (12 + x10_77))) then (if ¬ ((3 * x10_77) < 0 ∨ 36 ≤ Int32.toNatClampNeg (3 * x10_77)) then some (-((K_77 0) (Int32.toNatClampNeg (3 * x10_77)))) else none) else (if ¬ ((3 * x10_77) < 0 ∨ 36 ≤ Int32.toNatClampNeg (3 * x10_77)) then some ((K_77 0) (Int32.toNatClampNeg (3 * x10_77))) else none)) else none) else none))
def L_yes_L49 : Nat → SLaw → Int32 → Int32 → Int32 → Int32 → Int32 → Int32 → Option (Int32 × Int32)
  | 0, _, _, _, _, _, _, _ => none
  | fu + 1, K_49, x5_49, x6_49, x7_49, x8_49, x9_49, x10_49 => (if ((K_49 3) (Int32.toNatClampNeg 0)) ≤ x10_49 then some (x8_49, x9_49) else (if ¬ (x10_49 < 0 ∨ 36 ≤ Int32.toNatClampNeg x10_49) then ((L_yes_J77 K_49 x5_49 x6_49 x7_49 x9_49 x10_49 (L_yes_J63 K_49 x5_49 x6_49 x7_49 x8_49 x9_49 x10_49 x7_49 ((K_49 4) (Int32.toNatClampNeg x10_49))) (L_yes_J63 K_49 x5_49 x6_49 x7_49 x8_49 x9_49 x10_49 x7_49 ((K_49 4) (Int32.toNatClampNeg x10_49))) x8_49).bind fun u_16 => (if (L_yes_J63 K_49 x5_49 x6_49 x7_49 x8_49 x9_49 x10_49 x7_49 ((K_49 4) (Int32.toNatClampNeg x10_49))) = 0 then L_yes_L49 fu K_49 x5_49 x6_49 x7_49 (x8_49 + u_16) x9_49 (x10_49 + 1) else (if ¬ (((3 * x10_49) + 2) < 0 ∨ 36 ≤ Int32.toNatClampNeg ((3 * x10_49) + 2)) then (if ((K_49 0) (Int32.toNatClampNeg ((3 * x10_49) + 2))) < 0 then L_yes_L49 fu K_49 x5_49 x6_49 x7_49 (x8_49 + u_16) x9_49 (x10_49 + 1) else (if ¬ ((12 + x10_49) < 0 ∨ 36 ≤ Int32.toNatClampNeg (12 + x10_49)) then (if ((K_49 0) (Int32.toNatClampNeg ((3 * x10_49) + 2))) = ((K_49 4) (Int32.toNatClampNeg (12 + x10_49))) then L_yes_L49 fu K_49 x5_49 x6_49 x7_49 (x8_49 + u_16) 0 (x10_49 + 1) else L_yes_L49 fu K_49 x5_49 x6_49 x7_49 (x8_49 + u_16) 1 (x10_49 + 1)) else none)) else none))) else none))
def L_yes_J36 (K_36 : SLaw) (x5_36 : Int32) (x6_36 : Int32) (x7_36 : Int32) (t0_36 : Int32) (t1_36 : Int32) : Option (SLaw) := (if t1_36 = t0_36 then ((L_yes_L49 FUEL K_36 x5_36 x6_36 x7_36 0 (-1) x7_36).bind fun u_23 => (if u_23.2 < 0 then (if u_23.1 ≤ 0 then (if 0 ≤ u_23.1 then (if ¬ (((3 * x7_36) + 1) < 0 ∨ 36 ≤ Int32.toNatClampNeg ((3 * x7_36) + 1)) then (if ¬ ((24 + x7_36) < 0 ∨ 36 ≤ Int32.toNatClampNeg (24 + x7_36)) then (bnd (up K_36 4 (upd (K_36 4) (Int32.toNatClampNeg (24 + x7_36)) ((K_36 0) (Int32.toNatClampNeg ((3 * x7_36) + 1))))) fun M_30 => some M_30) else none) else none) else (if ¬ ((24 + x7_36) < 0 ∨ 36 ≤ Int32.toNatClampNeg (24 + x7_36)) then (bnd (up K_36 4 (upd (K_36 4) (Int32.toNatClampNeg (24 + x7_36)) 0)) fun M_33 => some M_33) else none)) else (if ¬ ((24 + x7_36) < 0 ∨ 36 ≤ Int32.toNatClampNeg (24 + x7_36)) then (bnd (up K_36 4 (upd (K_36 4) (Int32.toNatClampNeg (24 + x7_36)) 1)) fun M_36 => some M_36) else none)) else (if ¬ ((24 + x7_36) < 0 ∨ 36 ≤ Int32.toNatClampNeg (24 + x7_36)) then (bnd (up K_36 4 (upd (K_36 4) (Int32.toNatClampNeg (24 + x7_36)) u_23.2)) fun M_39 => some M_39) else none))) else some K_36)
def L_yes_J238 (K_238 : SLaw) (x5_238 : Int32) (x6_238 : Int32) (x7_238 : Int32) (t0_238 : Int32) (t1_238 : Int32) (t2_238 : Int32) : Int32 := (if t1_238 = t0_238 then 0 else 1)
def L_yes_L17 : Nat → SLaw → Int32 → Int32 → Int32 → Option (SLaw × Int32)
  | 0, _, _, _, _ => none
  | fu + 1, K_17, x5_17, x6_17, x7_17 => (if ((K_17 3) (Int32.toNatClampNeg 0)) ≤ x7_17 then some (K_17, x5_17) else (if x6_17 ≤ 0 then some (K_17, x5_17) else (if ¬ (x7_17 < 0 ∨ 36 ≤ Int32.toNatClampNeg x7_17) then ((L_yes_J36 K_17 x5_17 x6_17 x7_17 x7_17 ((K_17 4) (Int32.toNatClampNeg x7_17))).bind fun u_41 => (if ¬ ((24 + ((u_41 4) (Int32.toNatClampNeg x7_17))) < 0 ∨ 36 ≤ Int32.toNatClampNeg (24 + ((u_41 4) (Int32.toNatClampNeg x7_17)))) then (if ¬ ((12 + x7_17) < 0 ∨ 36 ≤ Int32.toNatClampNeg (12 + x7_17)) then (if ¬ ((24 + x7_17) < 0 ∨ 36 ≤ Int32.toNatClampNeg (24 + x7_17)) then (bnd (up u_41 4 (upd (u_41 4) (Int32.toNatClampNeg (24 + x7_17)) (L_yes_J238 u_41 x5_17 x6_17 x7_17 ((u_41 4) (Int32.toNatClampNeg (12 + x7_17))) ((u_41 4) (Int32.toNatClampNeg (24 + ((u_41 4) (Int32.toNatClampNeg x7_17))))) (24 + x7_17)))) fun M_47 => (if ¬ ((3 * x7_17) < 0 ∨ 36 ≤ Int32.toNatClampNeg (3 * x7_17)) then L_yes_L17 fu M_47 (x5_17 + (((M_47 4) (Int32.toNatClampNeg (24 + x7_17))) * ((M_47 0) (Int32.toNatClampNeg (3 * x7_17))))) x6_17 (x7_17 + 1) else none)) else none) else none) else none)) else none)))
def L_yes (K : SLaw) (x4 : Int32) : Option (SLaw × Int32) := ((L_groups K x4).bind fun u_1 => ((L_yes_L17 FUEL u_1.1 0 u_1.2 0).bind fun u_50 => some (u_50.1, u_50.2)))
abbrev rm_L_yes : Room := { frames := 1, cells := 0, slots := 0, locals := 31 }
set_option maxHeartbeats 4000000 in
set_option maxRecDepth 100000 in
theorem c_L_yes (l : Launch) (D : va_G) (cI cP : ClassId) (a : Nat → Nat) (K : SLaw) (x4 : Int32) (z : SLaw × Int32) (hf : L_yes K x4 = some z) : MWi l yL_yes cL_yes 12 (some .int) rm_L_yes D cI cP [.ref (a 0), .ref (a 1), .ref (a 3), .ref (a 4), .int x4] (wLaw cI a K) (wLaw cI a z.1) z.2 := by
  refine MWi.of (by decide +kernel) (Nat.le_of_ble_eq_true rfl) ?_
  intro p e s m args below meth c ls A F hX hP hD hA hS hl
  have F : Fx p s m args meth c RL cL_yes 12 (some .int) := F
  have hx := F.1
  have hb := F.2.1
  have hown := F.2.2.2.1
  have hts := F.2.2.2.2.1
  have hl : lv_has ls 12 [(0, .ref (a 0)), (1, .ref (a 1)), (2, .ref (a 3)), (3, .ref (a 4)), (4, .int x4)] := hl
  unfold L_yes at hf
  refine lv_iconst (v := 0) hx hb dL_yes_0 (by decide) ?_
  refine lv_istore (lv' := [(5, .int 0), (0, .ref (a 0)), (1, .ref (a 1)), (2, .ref (a 3)), (3, .ref (a 4)), (4, .int x4)]) hx hb dL_yes_1 hl (by decide) rfl (fun ls hl => ?_)
  refine lv_aload_n hx hb dL_yes_3 rfl (lv_at hl 1 rfl) ?_
  refine lv_aload_n hx hb dL_yes_4 rfl (lv_at hl 2 rfl) ?_
  refine lv_aload_n hx hb dL_yes_5 rfl (lv_at hl 3 rfl) ?_
  refine lv_aload_n hx hb dL_yes_6 rfl (lv_at hl 4 rfl) ?_
  refine lv_iload hx hb dL_yes_7 (lv_at hl 5 rfl) ?_
  obtain ⟨u_1, h_2, hf⟩ := ob hf
  refine k_wi (runS F wdL_9 (rm := rm_L_groups) (As := [.ref (a 0), .ref (a 1), .ref (a 3), .ref (a 4), .int x4]) (rest := []) ⟨rfl, rfl⟩ ⟨Nat.le_of_ble_eq_true rfl, Nat.le_of_ble_eq_true rfl⟩ hl.1 rfl rfl (Nat.le_of_ble_eq_true rfl) dL_yes_9 ⟨Nat.zero_le _, Nat.zero_le _⟩) (c_L_groups l D cI cP a K x4 _ h_2) hX trivial (Cut.all rfl) hP hD hS hA (fun H locs hP hD hS => ?_)
  have hP : va_P D vwCl (wLaw cI a u_1.1) H := hP
  have hD : va_D A (wLaw cI a u_1.1) := hD
  refine lv_istore (lv' := [(6, .int u_1.2), (5, .int 0), (0, .ref (a 0)), (1, .ref (a 1)), (2, .ref (a 3)), (3, .ref (a 4)), (4, .int x4)]) hx hb dL_yes_12 hl (by decide) rfl (fun ls hl => ?_)
  refine lv_iconst (v := 0) hx hb dL_yes_14 (by decide) ?_
  refine lv_istore (lv' := [(7, .int 0), (6, .int u_1.2), (5, .int 0), (0, .ref (a 0)), (1, .ref (a 1)), (2, .ref (a 3)), (3, .ref (a 4)), (4, .int x4)]) hx hb dL_yes_15 hl (by decide) rfl (fun ls hl => ?_)
  have hL_17 : ∀ (fu : Nat) (K_17 : SLaw) (x5_17 : Int32) (x6_17 : Int32) (x7_17 : Int32) (v : SLaw × Int32) (H : Heap) (locs : List Loc) (ls : Array Slot), L_yes_L17 fu K_17 x5_17 x6_17 x7_17 = some v → va_P D vwCl (wLaw cI a K_17) H → va_D A (wLaw cI a K_17) → va_S A s.heap H locs → lv_has ls 12 [(0, .ref (a 0)), (2, .ref (a 3)), (3, .ref (a 4)), (5, .int x5_17), (6, .int x6_17), (7, .int x7_17)] → (∀ (H : Heap) (locs : List Loc) (ls : Array Slot), va_P D vwCl (wLaw cI a v.1) H → va_D A (wLaw cI a v.1) → va_S A s.heap H locs → lv_has ls 12 [(5, .int v.2)] → W p l e rm_L_yes s m args below meth c H locs 0 0 (QWi D below args s A (wLaw cI a z.1) z.2) (F0 m 272 ls [])) → W p l e rm_L_yes s m args below meth c H locs 0 0 (QWi D below args s A (wLaw cI a z.1) z.2) (F0 m 17 ls []) := by
    intro fu
    induction fu with
    | zero =>
      intro K_17 x5_17 x6_17 x7_17 v H locs ls hf
      exact absurd hf (by simp [L_yes_L17])
    | succ fu ih =>
      intro K_17 x5_17 x6_17 x7_17 v _ _ ls hf hP hD hS hl hk
      rw [L_yes_L17] at hf
      refine lv_iload hx hb dL_yes_17 (lv_at hl 5 rfl) ?_
      refine lv_aload_n hx hb dL_yes_19 rfl (lv_at hl 1 rfl) ?_
      refine lv_iconst (v := 0) hx hb dL_yes_20 (by decide) ?_
      refine va_iald hx hb hX.1 hP 3 0 (n := 8) (f := (K_17 3)) rfl rfl (by decide : ¬ ((0 : Int32) < 0 ∨ 8 ≤ Int32.toNatClampNeg 0)) dL_yes_21 ?_
      refine lv_icmp_ge (tgt := 272) hx hb dL_yes_22 (by decide) (fun c_3 => ?_) (fun c_3 => ?_)
      · replace hf := (if_pos c_3).symm.trans hf
        obtain rfl := Option.some.inj hf
        exact hk _ _ ls hP hD hS (lv_sub hl [3] rfl)
      · replace hf := (if_neg c_3).symm.trans hf
        refine lv_iload hx hb dL_yes_25 (lv_at hl 4 rfl) ?_
        refine lv_if_le (tgt := 272) hx hb dL_yes_27 (by decide) (fun c_4 => ?_) (fun c_4 => ?_)
        · replace hf := (if_pos c_4).symm.trans hf
          obtain rfl := Option.some.inj hf
          exact hk _ _ ls hP hD hS (lv_sub hl [3] rfl)
        · replace hf := (if_neg c_4).symm.trans hf
          refine lv_aload_n hx hb dL_yes_30 rfl (lv_at hl 2 rfl) ?_
          refine lv_iload hx hb dL_yes_31 (lv_at hl 5 rfl) ?_
          have g_5 := og hf
          replace hf := (if_pos g_5).symm.trans hf
          refine va_iald hx hb hX.1 hP 4 0 (n := 36) (f := (K_17 4)) rfl rfl g_5 dL_yes_33 ?_
          refine lv_iload hx hb dL_yes_34 (lv_at hl 5 rfl) ?_
          have hJ_36 : ∀ (K_36 : SLaw) (x5_36 : Int32) (x6_36 : Int32) (x7_36 : Int32) (t0_36 : Int32) (t1_36 : Int32) (v : SLaw) (H : Heap) (locs : List Loc) (ls : Array Slot), L_yes_J36 K_36 x5_36 x6_36 x7_36 t0_36 t1_36 = some v → va_P D vwCl (wLaw cI a K_36) H → va_D A (wLaw cI a K_36) → va_S A s.heap H locs → lv_has ls 12 [(0, .ref (a 0)), (2, .ref (a 3)), (3, .ref (a 4)), (5, .int x5_36), (6, .int x6_36), (7, .int x7_36)] → (∀ (H : Heap) (locs : List Loc) (ls : Array Slot), va_P D vwCl (wLaw cI a v) H → va_D A (wLaw cI a v) → va_S A s.heap H locs → lv_has ls 12 [(0, .ref (a 0)), (2, .ref (a 3)), (3, .ref (a 4)), (5, .int x5_36), (6, .int x6_36), (7, .int x7_36)] → W p l e rm_L_yes s m args below meth c H locs 0 0 (QWi D below args s A (wLaw cI a z.1) z.2) (F0 m 216 ls [])) → W p l e rm_L_yes s m args below meth c H locs 0 0 (QWi D below args s A (wLaw cI a z.1) z.2) (F0 m 36 ls [.int t0_36, .int t1_36]) := by
            intro K_36 x5_36 x6_36 x7_36 t0_36 t1_36 v _ _ ls hf hP hD hS hl hk
            unfold L_yes_J36 at hf
            refine lv_icmp_ne (tgt := 216) hx hb dL_yes_36 (by decide) (fun c_6 => ?_) (fun c_6 => ?_)
            · replace hf := (if_neg c_6).symm.trans hf
              obtain rfl := Option.some.inj hf
              exact hk _ _ ls hP hD hS hl
            · replace hf := (if_pos c_6).symm.trans hf
              refine lv_iconst (v := 0) hx hb dL_yes_39 (by decide) ?_
              refine lv_istore (lv' := [(8, .int 0), (0, .ref (a 0)), (2, .ref (a 3)), (3, .ref (a 4)), (5, .int x5_36), (6, .int x6_36), (7, .int x7_36)]) hx hb dL_yes_40 hl (by decide) rfl (fun ls hl => ?_)
              refine lv_iconst (v := (-1)) hx hb dL_yes_42 (by decide) ?_
              refine lv_istore (lv' := [(9, .int (-1)), (8, .int 0), (0, .ref (a 0)), (2, .ref (a 3)), (3, .ref (a 4)), (5, .int x5_36), (6, .int x6_36), (7, .int x7_36)]) hx hb dL_yes_43 hl (by decide) rfl (fun ls hl => ?_)
              refine lv_iload hx hb dL_yes_45 (lv_at hl 7 rfl) ?_
              refine lv_istore (lv' := [(10, .int x7_36), (9, .int (-1)), (8, .int 0), (0, .ref (a 0)), (2, .ref (a 3)), (3, .ref (a 4)), (5, .int x5_36), (6, .int x6_36), (7, .int x7_36)]) hx hb dL_yes_47 hl (by decide) rfl (fun ls hl => ?_)
              have hL_49 : ∀ (fu : Nat) (K_49 : SLaw) (x5_49 : Int32) (x6_49 : Int32) (x7_49 : Int32) (x8_49 : Int32) (x9_49 : Int32) (x10_49 : Int32) (v : Int32 × Int32) (H : Heap) (locs : List Loc) (ls : Array Slot), L_yes_L49 fu K_49 x5_49 x6_49 x7_49 x8_49 x9_49 x10_49 = some v → va_P D vwCl (wLaw cI a K_49) H → va_D A (wLaw cI a K_49) → va_S A s.heap H locs → lv_has ls 12 [(0, .ref (a 0)), (2, .ref (a 3)), (3, .ref (a 4)), (5, .int x5_49), (6, .int x6_49), (7, .int x7_49), (8, .int x8_49), (9, .int x9_49), (10, .int x10_49)] → (∀ (H : Heap) (locs : List Loc) (ls : Array Slot), va_P D vwCl (wLaw cI a K_49) H → va_D A (wLaw cI a K_49) → va_S A s.heap H locs → lv_has ls 12 [(0, .ref (a 0)), (2, .ref (a 3)), (3, .ref (a 4)), (5, .int x5_49), (6, .int x6_49), (7, .int x7_49), (8, .int v.1), (9, .int v.2)] → W p l e rm_L_yes s m args below meth c H locs 0 0 (QWi D below args s A (wLaw cI a z.1) z.2) (F0 m 173 ls [])) → W p l e rm_L_yes s m args below meth c H locs 0 0 (QWi D below args s A (wLaw cI a z.1) z.2) (F0 m 49 ls []) := by
                intro fu
                induction fu with
                | zero =>
                  intro K_49 x5_49 x6_49 x7_49 x8_49 x9_49 x10_49 v H locs ls hf
                  exact absurd hf (by simp [L_yes_L49])
                | succ fu ih =>
                  intro K_49 x5_49 x6_49 x7_49 x8_49 x9_49 x10_49 v _ _ ls hf hP hD hS hl hk
                  rw [L_yes_L49] at hf
                  refine lv_iload hx hb dL_yes_49 (lv_at hl 8 rfl) ?_
                  refine lv_aload_n hx hb dL_yes_51 rfl (lv_at hl 1 rfl) ?_
                  refine lv_iconst (v := 0) hx hb dL_yes_52 (by decide) ?_
                  refine va_iald hx hb hX.1 hP 3 0 (n := 8) (f := (K_49 3)) rfl rfl (by decide : ¬ ((0 : Int32) < 0 ∨ 8 ≤ Int32.toNatClampNeg 0)) dL_yes_53 ?_
                  refine lv_icmp_ge (tgt := 173) hx hb dL_yes_54 (by decide) (fun c_7 => ?_) (fun c_7 => ?_)
                  · replace hf := (if_pos c_7).symm.trans hf
                    obtain rfl := Option.some.inj hf
                    exact hk _ _ ls hP hD hS (lv_sub hl [0, 1, 2, 3, 4, 5, 6, 7] rfl)
                  · replace hf := (if_neg c_7).symm.trans hf
                    refine lv_aload_n hx hb dL_yes_57 rfl (lv_at hl 2 rfl) ?_
                    refine lv_iload hx hb dL_yes_58 (lv_at hl 8 rfl) ?_
                    have g_8 := og hf
                    replace hf := (if_pos g_8).symm.trans hf
                    refine va_iald hx hb hX.1 hP 4 0 (n := 36) (f := (K_49 4)) rfl rfl g_8 dL_yes_60 ?_
                    refine lv_iload hx hb dL_yes_61 (lv_at hl 5 rfl) ?_
                    have hJ_63 : ∀ (K_63 : SLaw) (x5_63 : Int32) (x6_63 : Int32) (x7_63 : Int32) (x8_63 : Int32) (x9_63 : Int32) (x10_63 : Int32) (t0_63 : Int32) (t1_63 : Int32) (v : Int32) (H : Heap) (locs : List Loc) (ls : Array Slot), L_yes_J63 K_63 x5_63 x6_63 x7_63 x8_63 x9_63 x10_63 t0_63 t1_63 = v → va_P D vwCl (wLaw cI a K_63) H → va_D A (wLaw cI a K_63) → va_S A s.heap H locs → lv_has ls 12 [(0, .ref (a 0)), (2, .ref (a 3)), (3, .ref (a 4)), (5, .int x5_63), (6, .int x6_63), (7, .int x7_63), (8, .int x8_63), (9, .int x9_63), (10, .int x10_63)] → (∀ (H : Heap) (locs : List Loc) (ls : Array Slot), va_P D vwCl (wLaw cI a K_63) H → va_D A (wLaw cI a K_63) → va_S A s.heap H locs → lv_has ls 12 [(0, .ref (a 0)), (2, .ref (a 3)), (3, .ref (a 4)), (5, .int x5_63), (6, .int x6_63), (7, .int x7_63), (8, .int x8_63), (9, .int x9_63), (10, .int x10_63)] → W p l e rm_L_yes s m args below meth c H locs 0 0 (QWi D below args s A (wLaw cI a z.1) z.2) (F0 m 71 ls [.int v])) → W p l e rm_L_yes s m args below meth c H locs 0 0 (QWi D below args s A (wLaw cI a z.1) z.2) (F0 m 63 ls [.int t0_63, .int t1_63]) := by
                      intro K_63 x5_63 x6_63 x7_63 x8_63 x9_63 x10_63 t0_63 t1_63 v _ _ ls hf hP hD hS hl hk
                      unfold L_yes_J63 at hf
                      refine lv_icmp_ne (tgt := 70) hx hb dL_yes_63 (by decide) (fun c_9 => ?_) (fun c_9 => ?_)
                      · replace hf := (if_neg c_9).symm.trans hf
                        refine lv_iconst (v := 0) hx hb dL_yes_70 (by decide) ?_
                        obtain rfl := hf
                        exact hk _ _ ls hP hD hS hl
                      · replace hf := (if_pos c_9).symm.trans hf
                        refine lv_iconst (v := 1) hx hb dL_yes_66 (by decide) ?_
                        refine lv_goto (tgt := 71) hx hb dL_yes_67 (by decide) ?_
                        obtain rfl := hf
                        exact hk _ _ ls hP hD hS hl
                    refine hJ_63 K_49 x5_49 x6_49 x7_49 x8_49 x9_49 x10_49 x7_49 ((K_49 4) (Int32.toNatClampNeg x10_49)) _ _ _ ls rfl hP hD hS hl (fun H locs ls hP hD hS hl => ?_)
                    clear hJ_63
                    refine lv_istore (lv' := [(11, .int (L_yes_J63 K_49 x5_49 x6_49 x7_49 x8_49 x9_49 x10_49 x7_49 ((K_49 4) (Int32.toNatClampNeg x10_49)))), (0, .ref (a 0)), (2, .ref (a 3)), (3, .ref (a 4)), (5, .int x5_49), (6, .int x6_49), (7, .int x7_49), (8, .int x8_49), (9, .int x9_49), (10, .int x10_49)]) hx hb dL_yes_71 hl (by decide) rfl (fun ls hl => ?_)
                    refine lv_iload hx hb dL_yes_73 (lv_at hl 7 rfl) ?_
                    refine lv_iload hx hb dL_yes_75 (lv_at hl 0 rfl) ?_
                    have hJ_77 : ∀ (K_77 : SLaw) (x5_77 : Int32) (x6_77 : Int32) (x7_77 : Int32) (x9_77 : Int32) (x10_77 : Int32) (x11_77 : Int32) (t0_77 : Int32) (t1_77 : Int32) (v : Int32) (H : Heap) (locs : List Loc) (ls : Array Slot), L_yes_J77 K_77 x5_77 x6_77 x7_77 x9_77 x10_77 x11_77 t0_77 t1_77 = some v → va_P D vwCl (wLaw cI a K_77) H → va_D A (wLaw cI a K_77) → va_S A s.heap H locs → lv_has ls 12 [(11, .int x11_77), (0, .ref (a 0)), (2, .ref (a 3)), (3, .ref (a 4)), (5, .int x5_77), (6, .int x6_77), (7, .int x7_77), (9, .int x9_77), (10, .int x10_77)] → (∀ (H : Heap) (locs : List Loc) (ls : Array Slot), va_P D vwCl (wLaw cI a K_77) H → va_D A (wLaw cI a K_77) → va_S A s.heap H locs → lv_has ls 12 [(0, .ref (a 0)), (2, .ref (a 3)), (3, .ref (a 4)), (5, .int x5_77), (6, .int x6_77), (7, .int x7_77), (9, .int x9_77), (10, .int x10_77), (11, .int x11_77)] → W p l e rm_L_yes s m args below meth c H locs 0 0 (QWi D below args s A (wLaw cI a z.1) z.2) (F0 m 118 ls [.int v, .int t1_77])) → W p l e rm_L_yes s m args below meth c H locs 0 0 (QWi D below args s A (wLaw cI a z.1) z.2) (F0 m 77 ls [.int t0_77, .int t1_77]) := by
                      intro K_77 x5_77 x6_77 x7_77 x9_77 x10_77 x11_77 t0_77 t1_77 v _ _ ls hf hP hD hS hl hk
                      unfold L_yes_J77 at hf
                      refine lv_if_ne (tgt := 84) hx hb dL_yes_77 (by decide) (fun c_10 => ?_) (fun c_10 => ?_)
                      · replace hf := (if_neg c_10).symm.trans hf
                        refine lv_aload_n hx hb dL_yes_84 rfl (lv_at hl 1 rfl) ?_
                        refine lv_iconst (v := 3) hx hb dL_yes_85 (by decide) ?_
                        refine lv_iload hx hb dL_yes_86 (lv_at hl 8 rfl) ?_
                        refine lv_imul hx hb dL_yes_88 ?_
                        refine lv_iconst (v := 1) hx hb dL_yes_89 (by decide) ?_
                        refine lv_iadd hx hb dL_yes_90 ?_
                        have g_11 := og hf
                        replace hf := (if_pos g_11).symm.trans hf
                        refine va_iald hx hb hX.1 hP 0 0 (n := 36) (f := (K_77 0)) rfl rfl g_11 dL_yes_91 ?_
                        refine lv_aload_n hx hb dL_yes_92 rfl (lv_at hl 3 rfl) ?_
                        refine lv_bipush (v := 12) hx hb dL_yes_93 (by decide) ?_
                        refine lv_iload hx hb dL_yes_95 (lv_at hl 8 rfl) ?_
                        refine lv_iadd hx hb dL_yes_97 ?_
                        have g_12 := og hf
                        replace hf := (if_pos g_12).symm.trans hf
                        refine va_iald hx hb hX.1 hP 4 0 (n := 36) (f := (K_77 4)) rfl rfl g_12 dL_yes_98 ?_
                        refine lv_icmp_eq (tgt := 111) hx hb dL_yes_99 (by decide) (fun c_13 => ?_) (fun c_13 => ?_)
                        · replace hf := (if_pos c_13).symm.trans hf
                          refine lv_aload_n hx hb dL_yes_111 rfl (lv_at hl 1 rfl) ?_
                          refine lv_iconst (v := 3) hx hb dL_yes_112 (by decide) ?_
                          refine lv_iload hx hb dL_yes_113 (lv_at hl 8 rfl) ?_
                          refine lv_imul hx hb dL_yes_115 ?_
                          have g_14 := og hf
                          replace hf := (if_pos g_14).symm.trans hf
                          refine va_iald hx hb hX.1 hP 0 0 (n := 36) (f := (K_77 0)) rfl rfl g_14 dL_yes_116 ?_
                          refine lv_ineg hx hb dL_yes_117 ?_
                          obtain rfl := Option.some.inj hf
                          exact hk _ _ ls hP hD hS (lv_sub hl [1, 2, 3, 4, 5, 6, 7, 8, 0] rfl)
                        · replace hf := (if_neg c_13).symm.trans hf
                          refine lv_aload_n hx hb dL_yes_102 rfl (lv_at hl 1 rfl) ?_
                          refine lv_iconst (v := 3) hx hb dL_yes_103 (by decide) ?_
                          refine lv_iload hx hb dL_yes_104 (lv_at hl 8 rfl) ?_
                          refine lv_imul hx hb dL_yes_106 ?_
                          have g_15 := og hf
                          replace hf := (if_pos g_15).symm.trans hf
                          refine va_iald hx hb hX.1 hP 0 0 (n := 36) (f := (K_77 0)) rfl rfl g_15 dL_yes_107 ?_
                          refine lv_goto (tgt := 118) hx hb dL_yes_108 (by decide) ?_
                          obtain rfl := Option.some.inj hf
                          exact hk _ _ ls hP hD hS (lv_sub hl [1, 2, 3, 4, 5, 6, 7, 8, 0] rfl)
                      · replace hf := (if_pos c_10).symm.trans hf
                        refine lv_iconst (v := 0) hx hb dL_yes_80 (by decide) ?_
                        refine lv_goto (tgt := 118) hx hb dL_yes_81 (by decide) ?_
                        obtain rfl := Option.some.inj hf
                        exact hk _ _ ls hP hD hS (lv_sub hl [1, 2, 3, 4, 5, 6, 7, 8, 0] rfl)
                    obtain ⟨u_16, h_17, hf⟩ := ob hf
                    refine hJ_77 K_49 x5_49 x6_49 x7_49 x9_49 x10_49 (L_yes_J63 K_49 x5_49 x6_49 x7_49 x8_49 x9_49 x10_49 x7_49 ((K_49 4) (Int32.toNatClampNeg x10_49))) (L_yes_J63 K_49 x5_49 x6_49 x7_49 x8_49 x9_49 x10_49 x7_49 ((K_49 4) (Int32.toNatClampNeg x10_49))) x8_49 u_16 _ _ ls h_17 hP hD hS (lv_sub hl [0, 1, 2, 3, 4, 5, 6, 8, 9] rfl) (fun H locs ls hP hD hS hl => ?_)
                    clear hJ_77
                    refine lv_iadd hx hb dL_yes_118 ?_
                    refine lv_istore (lv' := [(8, .int (x8_49 + u_16)), (0, .ref (a 0)), (2, .ref (a 3)), (3, .ref (a 4)), (5, .int x5_49), (6, .int x6_49), (7, .int x7_49), (9, .int x9_49), (10, .int x10_49), (11, .int (L_yes_J63 K_49 x5_49 x6_49 x7_49 x8_49 x9_49 x10_49 x7_49 ((K_49 4) (Int32.toNatClampNeg x10_49))))]) hx hb dL_yes_119 hl (by decide) rfl (fun ls hl => ?_)
                    refine lv_iload hx hb dL_yes_121 (lv_at hl 9 rfl) ?_
                    refine lv_if_eq (tgt := 163) hx hb dL_yes_123 (by decide) (fun c_18 => ?_) (fun c_18 => ?_)
                    · replace hf := (if_pos c_18).symm.trans hf
                      refine lv_iload hx hb dL_yes_163 (lv_at hl 7 rfl) ?_
                      refine lv_istore (lv' := [(9, .int x9_49), (8, .int (x8_49 + u_16)), (0, .ref (a 0)), (2, .ref (a 3)), (3, .ref (a 4)), (5, .int x5_49), (6, .int x6_49), (7, .int x7_49), (10, .int x10_49), (11, .int (L_yes_J63 K_49 x5_49 x6_49 x7_49 x8_49 x9_49 x10_49 x7_49 ((K_49 4) (Int32.toNatClampNeg x10_49))))]) hx hb dL_yes_165 hl (by decide) rfl (fun ls hl => ?_)
                      refine lv_iinc (v := (x10_49 + 1)) (lv' := [(10, .int (x10_49 + 1)), (9, .int x9_49), (8, .int (x8_49 + u_16)), (0, .ref (a 0)), (2, .ref (a 3)), (3, .ref (a 4)), (5, .int x5_49), (6, .int x6_49), (7, .int x7_49), (11, .int (L_yes_J63 K_49 x5_49 x6_49 x7_49 x8_49 x9_49 x10_49 x7_49 ((K_49 4) (Int32.toNatClampNeg x10_49))))]) hx hb dL_yes_167 hl (k := 8) rfl (by rfl) (by decide) rfl (fun ls hl => ?_)
                      refine lv_goto (tgt := 49) hx hb dL_yes_170 (by decide) ?_
                      exact ih K_49 x5_49 x6_49 x7_49 (x8_49 + u_16) x9_49 (x10_49 + 1) _ _ _ ls hf hP hD hS (lv_sub hl [3, 4, 5, 6, 7, 8, 2, 1, 0] rfl) hk
                    · replace hf := (if_neg c_18).symm.trans hf
                      refine lv_aload_n hx hb dL_yes_126 rfl (lv_at hl 1 rfl) ?_
                      refine lv_iconst (v := 3) hx hb dL_yes_127 (by decide) ?_
                      refine lv_iload hx hb dL_yes_128 (lv_at hl 8 rfl) ?_
                      refine lv_imul hx hb dL_yes_130 ?_
                      refine lv_iconst (v := 2) hx hb dL_yes_131 (by decide) ?_
                      refine lv_iadd hx hb dL_yes_132 ?_
                      have g_19 := og hf
                      replace hf := (if_pos g_19).symm.trans hf
                      refine va_iald hx hb hX.1 hP 0 0 (n := 36) (f := (K_49 0)) rfl rfl g_19 dL_yes_133 ?_
                      refine lv_if_lt (tgt := 163) hx hb dL_yes_134 (by decide) (fun c_20 => ?_) (fun c_20 => ?_)
                      · replace hf := (if_pos c_20).symm.trans hf
                        refine lv_iload hx hb dL_yes_163 (lv_at hl 7 rfl) ?_
                        refine lv_istore (lv' := [(9, .int x9_49), (8, .int (x8_49 + u_16)), (0, .ref (a 0)), (2, .ref (a 3)), (3, .ref (a 4)), (5, .int x5_49), (6, .int x6_49), (7, .int x7_49), (10, .int x10_49), (11, .int (L_yes_J63 K_49 x5_49 x6_49 x7_49 x8_49 x9_49 x10_49 x7_49 ((K_49 4) (Int32.toNatClampNeg x10_49))))]) hx hb dL_yes_165 hl (by decide) rfl (fun ls hl => ?_)
                        refine lv_iinc (v := (x10_49 + 1)) (lv' := [(10, .int (x10_49 + 1)), (9, .int x9_49), (8, .int (x8_49 + u_16)), (0, .ref (a 0)), (2, .ref (a 3)), (3, .ref (a 4)), (5, .int x5_49), (6, .int x6_49), (7, .int x7_49), (11, .int (L_yes_J63 K_49 x5_49 x6_49 x7_49 x8_49 x9_49 x10_49 x7_49 ((K_49 4) (Int32.toNatClampNeg x10_49))))]) hx hb dL_yes_167 hl (k := 8) rfl (by rfl) (by decide) rfl (fun ls hl => ?_)
                        refine lv_goto (tgt := 49) hx hb dL_yes_170 (by decide) ?_
                        exact ih K_49 x5_49 x6_49 x7_49 (x8_49 + u_16) x9_49 (x10_49 + 1) _ _ _ ls hf hP hD hS (lv_sub hl [3, 4, 5, 6, 7, 8, 2, 1, 0] rfl) hk
                      · replace hf := (if_neg c_20).symm.trans hf
                        refine lv_aload_n hx hb dL_yes_137 rfl (lv_at hl 1 rfl) ?_
                        refine lv_iconst (v := 3) hx hb dL_yes_138 (by decide) ?_
                        refine lv_iload hx hb dL_yes_139 (lv_at hl 8 rfl) ?_
                        refine lv_imul hx hb dL_yes_141 ?_
                        refine lv_iconst (v := 2) hx hb dL_yes_142 (by decide) ?_
                        refine lv_iadd hx hb dL_yes_143 ?_
                        refine va_iald hx hb hX.1 hP 0 0 (n := 36) (f := (K_49 0)) rfl rfl g_19 dL_yes_144 ?_
                        refine lv_aload_n hx hb dL_yes_145 rfl (lv_at hl 3 rfl) ?_
                        refine lv_bipush (v := 12) hx hb dL_yes_146 (by decide) ?_
                        refine lv_iload hx hb dL_yes_148 (lv_at hl 8 rfl) ?_
                        refine lv_iadd hx hb dL_yes_150 ?_
                        have g_21 := og hf
                        replace hf := (if_pos g_21).symm.trans hf
                        refine va_iald hx hb hX.1 hP 4 0 (n := 36) (f := (K_49 4)) rfl rfl g_21 dL_yes_151 ?_
                        refine lv_icmp_eq (tgt := 159) hx hb dL_yes_152 (by decide) (fun c_22 => ?_) (fun c_22 => ?_)
                        · replace hf := (if_pos c_22).symm.trans hf
                          refine lv_iconst (v := 0) hx hb dL_yes_159 (by decide) ?_
                          refine lv_goto (tgt := 165) hx hb dL_yes_160 (by decide) ?_
                          refine lv_istore (lv' := [(9, .int 0), (8, .int (x8_49 + u_16)), (0, .ref (a 0)), (2, .ref (a 3)), (3, .ref (a 4)), (5, .int x5_49), (6, .int x6_49), (7, .int x7_49), (10, .int x10_49), (11, .int (L_yes_J63 K_49 x5_49 x6_49 x7_49 x8_49 x9_49 x10_49 x7_49 ((K_49 4) (Int32.toNatClampNeg x10_49))))]) hx hb dL_yes_165 hl (by decide) rfl (fun ls hl => ?_)
                          refine lv_iinc (v := (x10_49 + 1)) (lv' := [(10, .int (x10_49 + 1)), (9, .int 0), (8, .int (x8_49 + u_16)), (0, .ref (a 0)), (2, .ref (a 3)), (3, .ref (a 4)), (5, .int x5_49), (6, .int x6_49), (7, .int x7_49), (11, .int (L_yes_J63 K_49 x5_49 x6_49 x7_49 x8_49 x9_49 x10_49 x7_49 ((K_49 4) (Int32.toNatClampNeg x10_49))))]) hx hb dL_yes_167 hl (k := 8) rfl (by rfl) (by decide) rfl (fun ls hl => ?_)
                          refine lv_goto (tgt := 49) hx hb dL_yes_170 (by decide) ?_
                          exact ih K_49 x5_49 x6_49 x7_49 (x8_49 + u_16) 0 (x10_49 + 1) _ _ _ ls hf hP hD hS (lv_sub hl [3, 4, 5, 6, 7, 8, 2, 1, 0] rfl) hk
                        · replace hf := (if_neg c_22).symm.trans hf
                          refine lv_iconst (v := 1) hx hb dL_yes_155 (by decide) ?_
                          refine lv_goto (tgt := 165) hx hb dL_yes_156 (by decide) ?_
                          refine lv_istore (lv' := [(9, .int 1), (8, .int (x8_49 + u_16)), (0, .ref (a 0)), (2, .ref (a 3)), (3, .ref (a 4)), (5, .int x5_49), (6, .int x6_49), (7, .int x7_49), (10, .int x10_49), (11, .int (L_yes_J63 K_49 x5_49 x6_49 x7_49 x8_49 x9_49 x10_49 x7_49 ((K_49 4) (Int32.toNatClampNeg x10_49))))]) hx hb dL_yes_165 hl (by decide) rfl (fun ls hl => ?_)
                          refine lv_iinc (v := (x10_49 + 1)) (lv' := [(10, .int (x10_49 + 1)), (9, .int 1), (8, .int (x8_49 + u_16)), (0, .ref (a 0)), (2, .ref (a 3)), (3, .ref (a 4)), (5, .int x5_49), (6, .int x6_49), (7, .int x7_49), (11, .int (L_yes_J63 K_49 x5_49 x6_49 x7_49 x8_49 x9_49 x10_49 x7_49 ((K_49 4) (Int32.toNatClampNeg x10_49))))]) hx hb dL_yes_167 hl (k := 8) rfl (by rfl) (by decide) rfl (fun ls hl => ?_)
                          refine lv_goto (tgt := 49) hx hb dL_yes_170 (by decide) ?_
                          exact ih K_49 x5_49 x6_49 x7_49 (x8_49 + u_16) 1 (x10_49 + 1) _ _ _ ls hf hP hD hS (lv_sub hl [3, 4, 5, 6, 7, 8, 2, 1, 0] rfl) hk
              obtain ⟨u_23, h_24, hf⟩ := ob hf
              refine hL_49 FUEL K_36 x5_36 x6_36 x7_36 0 (-1) x7_36 u_23 _ _ ls h_24 hP hD hS (lv_sub hl [3, 4, 5, 6, 7, 8, 2, 1, 0] rfl) (fun H locs ls hP hD hS hl => ?_)
              clear hL_49
              refine lv_aload_n hx hb dL_yes_173 rfl (lv_at hl 2 rfl) ?_
              refine lv_bipush (v := 24) hx hb dL_yes_174 (by decide) ?_
              refine lv_iload hx hb dL_yes_176 (lv_at hl 5 rfl) ?_
              refine lv_iadd hx hb dL_yes_178 ?_
              refine lv_iload hx hb dL_yes_179 (lv_at hl 7 rfl) ?_
              refine lv_if_lt (tgt := 189) hx hb dL_yes_181 (by decide) (fun c_25 => ?_) (fun c_25 => ?_)
              · replace hf := (if_pos c_25).symm.trans hf
                refine lv_iload hx hb dL_yes_189 (lv_at hl 6 rfl) ?_
                refine lv_if_le (tgt := 198) hx hb dL_yes_191 (by decide) (fun c_26 => ?_) (fun c_26 => ?_)
                · replace hf := (if_pos c_26).symm.trans hf
                  refine lv_iload hx hb dL_yes_198 (lv_at hl 6 rfl) ?_
                  refine lv_if_ge (tgt := 207) hx hb dL_yes_200 (by decide) (fun c_27 => ?_) (fun c_27 => ?_)
                  · replace hf := (if_pos c_27).symm.trans hf
                    refine lv_aload_n hx hb dL_yes_207 rfl (lv_at hl 0 rfl) ?_
                    refine lv_iconst (v := 3) hx hb dL_yes_208 (by decide) ?_
                    refine lv_iload hx hb dL_yes_209 (lv_at hl 5 rfl) ?_
                    refine lv_imul hx hb dL_yes_211 ?_
                    refine lv_iconst (v := 1) hx hb dL_yes_212 (by decide) ?_
                    refine lv_iadd hx hb dL_yes_213 ?_
                    have g_28 := og hf
                    replace hf := (if_pos g_28).symm.trans hf
                    refine va_iald hx hb hX.1 hP 0 0 (n := 36) (f := (K_36 0)) rfl rfl g_28 dL_yes_214 ?_
                    have g_29 := og hf
                    replace hf := (if_pos g_29).symm.trans hf
                    refine va_iast hx hb hX.1 hP hD hS 4 0 (n := 36) (f := (K_36 4)) rfl rfl g_29 dL_yes_215 (fun H locs hP hD hS => ?_)
                    obtain ⟨M_30, e_31, hf⟩ := bnd_e hf
                    have hP : va_P D vwCl (wLaw cI a M_30) H := by rw [e_31]; exact hP
                    have hD : va_D A (wLaw cI a M_30) := by rw [e_31]; exact hD
                    clear e_31
                    obtain rfl := Option.some.inj hf
                    exact hk _ _ ls hP hD hS (lv_sub hl [0, 1, 2, 3, 4, 5] rfl)
                  · replace hf := (if_neg c_27).symm.trans hf
                    refine lv_iconst (v := 0) hx hb dL_yes_203 (by decide) ?_
                    refine lv_goto (tgt := 215) hx hb dL_yes_204 (by decide) ?_
                    have g_32 := og hf
                    replace hf := (if_pos g_32).symm.trans hf
                    refine va_iast hx hb hX.1 hP hD hS 4 0 (n := 36) (f := (K_36 4)) rfl rfl g_32 dL_yes_215 (fun H locs hP hD hS => ?_)
                    obtain ⟨M_33, e_34, hf⟩ := bnd_e hf
                    have hP : va_P D vwCl (wLaw cI a M_33) H := by rw [e_34]; exact hP
                    have hD : va_D A (wLaw cI a M_33) := by rw [e_34]; exact hD
                    clear e_34
                    obtain rfl := Option.some.inj hf
                    exact hk _ _ ls hP hD hS (lv_sub hl [0, 1, 2, 3, 4, 5] rfl)
                · replace hf := (if_neg c_26).symm.trans hf
                  refine lv_iconst (v := 1) hx hb dL_yes_194 (by decide) ?_
                  refine lv_goto (tgt := 215) hx hb dL_yes_195 (by decide) ?_
                  have g_35 := og hf
                  replace hf := (if_pos g_35).symm.trans hf
                  refine va_iast hx hb hX.1 hP hD hS 4 0 (n := 36) (f := (K_36 4)) rfl rfl g_35 dL_yes_215 (fun H locs hP hD hS => ?_)
                  obtain ⟨M_36, e_37, hf⟩ := bnd_e hf
                  have hP : va_P D vwCl (wLaw cI a M_36) H := by rw [e_37]; exact hP
                  have hD : va_D A (wLaw cI a M_36) := by rw [e_37]; exact hD
                  clear e_37
                  obtain rfl := Option.some.inj hf
                  exact hk _ _ ls hP hD hS (lv_sub hl [0, 1, 2, 3, 4, 5] rfl)
              · replace hf := (if_neg c_25).symm.trans hf
                refine lv_iload hx hb dL_yes_184 (lv_at hl 7 rfl) ?_
                refine lv_goto (tgt := 215) hx hb dL_yes_186 (by decide) ?_
                have g_38 := og hf
                replace hf := (if_pos g_38).symm.trans hf
                refine va_iast hx hb hX.1 hP hD hS 4 0 (n := 36) (f := (K_36 4)) rfl rfl g_38 dL_yes_215 (fun H locs hP hD hS => ?_)
                obtain ⟨M_39, e_40, hf⟩ := bnd_e hf
                have hP : va_P D vwCl (wLaw cI a M_39) H := by rw [e_40]; exact hP
                have hD : va_D A (wLaw cI a M_39) := by rw [e_40]; exact hD
                clear e_40
                obtain rfl := Option.some.inj hf
                exact hk _ _ ls hP hD hS (lv_sub hl [0, 1, 2, 3, 4, 5] rfl)
          obtain ⟨u_41, h_42, hf⟩ := ob hf
          refine hJ_36 K_17 x5_17 x6_17 x7_17 x7_17 ((K_17 4) (Int32.toNatClampNeg x7_17)) u_41 _ _ ls h_42 hP hD hS hl (fun H locs ls hP hD hS hl => ?_)
          clear hJ_36
          refine lv_aload_n hx hb dL_yes_216 rfl (lv_at hl 2 rfl) ?_
          refine lv_bipush (v := 24) hx hb dL_yes_217 (by decide) ?_
          refine lv_iload hx hb dL_yes_219 (lv_at hl 5 rfl) ?_
          refine lv_iadd hx hb dL_yes_221 ?_
          refine lv_aload_n hx hb dL_yes_222 rfl (lv_at hl 2 rfl) ?_
          refine lv_bipush (v := 24) hx hb dL_yes_223 (by decide) ?_
          refine lv_aload_n hx hb dL_yes_225 rfl (lv_at hl 2 rfl) ?_
          refine lv_iload hx hb dL_yes_226 (lv_at hl 5 rfl) ?_
          refine va_iald hx hb hX.1 hP 4 0 (n := 36) (f := (u_41 4)) rfl rfl g_5 dL_yes_228 ?_
          refine lv_iadd hx hb dL_yes_229 ?_
          have g_43 := og hf
          replace hf := (if_pos g_43).symm.trans hf
          refine va_iald hx hb hX.1 hP 4 0 (n := 36) (f := (u_41 4)) rfl rfl g_43 dL_yes_230 ?_
          refine lv_aload_n hx hb dL_yes_231 rfl (lv_at hl 2 rfl) ?_
          refine lv_bipush (v := 12) hx hb dL_yes_232 (by decide) ?_
          refine lv_iload hx hb dL_yes_234 (lv_at hl 5 rfl) ?_
          refine lv_iadd hx hb dL_yes_236 ?_
          have g_44 := og hf
          replace hf := (if_pos g_44).symm.trans hf
          refine va_iald hx hb hX.1 hP 4 0 (n := 36) (f := (u_41 4)) rfl rfl g_44 dL_yes_237 ?_
          have hJ_238 : ∀ (K_238 : SLaw) (x5_238 : Int32) (x6_238 : Int32) (x7_238 : Int32) (t0_238 : Int32) (t1_238 : Int32) (t2_238 : Int32) (v : Int32) (H : Heap) (locs : List Loc) (ls : Array Slot), L_yes_J238 K_238 x5_238 x6_238 x7_238 t0_238 t1_238 t2_238 = v → va_P D vwCl (wLaw cI a K_238) H → va_D A (wLaw cI a K_238) → va_S A s.heap H locs → lv_has ls 12 [(0, .ref (a 0)), (2, .ref (a 3)), (3, .ref (a 4)), (5, .int x5_238), (6, .int x6_238), (7, .int x7_238)] → (∀ (H : Heap) (locs : List Loc) (ls : Array Slot), va_P D vwCl (wLaw cI a K_238) H → va_D A (wLaw cI a K_238) → va_S A s.heap H locs → lv_has ls 12 [(0, .ref (a 0)), (2, .ref (a 3)), (3, .ref (a 4)), (5, .int x5_238), (6, .int x6_238), (7, .int x7_238)] → W p l e rm_L_yes s m args below meth c H locs 0 0 (QWi D below args s A (wLaw cI a z.1) z.2) (F0 m 246 ls [.int v, .int t2_238, .ref (a 4)])) → W p l e rm_L_yes s m args below meth c H locs 0 0 (QWi D below args s A (wLaw cI a z.1) z.2) (F0 m 238 ls [.int t0_238, .int t1_238, .int t2_238, .ref (a 4)]) := by
            intro K_238 x5_238 x6_238 x7_238 t0_238 t1_238 t2_238 v _ _ ls hf hP hD hS hl hk
            unfold L_yes_J238 at hf
            refine lv_icmp_ne (tgt := 245) hx hb dL_yes_238 (by decide) (fun c_45 => ?_) (fun c_45 => ?_)
            · replace hf := (if_neg c_45).symm.trans hf
              refine lv_iconst (v := 1) hx hb dL_yes_245 (by decide) ?_
              obtain rfl := hf
              exact hk _ _ ls hP hD hS hl
            · replace hf := (if_pos c_45).symm.trans hf
              refine lv_iconst (v := 0) hx hb dL_yes_241 (by decide) ?_
              refine lv_goto (tgt := 246) hx hb dL_yes_242 (by decide) ?_
              obtain rfl := hf
              exact hk _ _ ls hP hD hS hl
          refine hJ_238 u_41 x5_17 x6_17 x7_17 ((u_41 4) (Int32.toNatClampNeg (12 + x7_17))) ((u_41 4) (Int32.toNatClampNeg (24 + ((u_41 4) (Int32.toNatClampNeg x7_17))))) (24 + x7_17) _ _ _ ls rfl hP hD hS hl (fun H locs ls hP hD hS hl => ?_)
          clear hJ_238
          have g_46 := og hf
          replace hf := (if_pos g_46).symm.trans hf
          refine va_iast hx hb hX.1 hP hD hS 4 0 (n := 36) (f := (u_41 4)) rfl rfl g_46 dL_yes_246 (fun H locs hP hD hS => ?_)
          obtain ⟨M_47, e_48, hf⟩ := bnd_e hf
          have hP : va_P D vwCl (wLaw cI a M_47) H := by rw [e_48]; exact hP
          have hD : va_D A (wLaw cI a M_47) := by rw [e_48]; exact hD
          clear e_48
          refine lv_iload hx hb dL_yes_247 (lv_at hl 3 rfl) ?_
          refine lv_aload_n hx hb dL_yes_249 rfl (lv_at hl 2 rfl) ?_
          refine lv_bipush (v := 24) hx hb dL_yes_250 (by decide) ?_
          refine lv_iload hx hb dL_yes_252 (lv_at hl 5 rfl) ?_
          refine lv_iadd hx hb dL_yes_254 ?_
          refine va_iald hx hb hX.1 hP 4 0 (n := 36) (f := (M_47 4)) rfl rfl g_46 dL_yes_255 ?_
          refine lv_aload_n hx hb dL_yes_256 rfl (lv_at hl 0 rfl) ?_
          refine lv_iconst (v := 3) hx hb dL_yes_257 (by decide) ?_
          refine lv_iload hx hb dL_yes_258 (lv_at hl 5 rfl) ?_
          refine lv_imul hx hb dL_yes_260 ?_
          have g_49 := og hf
          replace hf := (if_pos g_49).symm.trans hf
          refine va_iald hx hb hX.1 hP 0 0 (n := 36) (f := (M_47 0)) rfl rfl g_49 dL_yes_261 ?_
          refine lv_imul hx hb dL_yes_262 ?_
          refine lv_iadd hx hb dL_yes_263 ?_
          refine lv_istore (lv' := [(5, .int (x5_17 + (((M_47 4) (Int32.toNatClampNeg (24 + x7_17))) * ((M_47 0) (Int32.toNatClampNeg (3 * x7_17)))))), (0, .ref (a 0)), (2, .ref (a 3)), (3, .ref (a 4)), (6, .int x6_17), (7, .int x7_17)]) hx hb dL_yes_264 hl (by decide) rfl (fun ls hl => ?_)
          refine lv_iinc (v := (x7_17 + 1)) (lv' := [(7, .int (x7_17 + 1)), (5, .int (x5_17 + (((M_47 4) (Int32.toNatClampNeg (24 + x7_17))) * ((M_47 0) (Int32.toNatClampNeg (3 * x7_17)))))), (0, .ref (a 0)), (2, .ref (a 3)), (3, .ref (a 4)), (6, .int x6_17)]) hx hb dL_yes_266 hl (k := 5) rfl (by rfl) (by decide) rfl (fun ls hl => ?_)
          refine lv_goto (tgt := 17) hx hb dL_yes_269 (by decide) ?_
          exact ih M_47 (x5_17 + (((M_47 4) (Int32.toNatClampNeg (24 + x7_17))) * ((M_47 0) (Int32.toNatClampNeg (3 * x7_17))))) x6_17 (x7_17 + 1) _ _ _ ls hf hP hD hS (lv_sub hl [2, 3, 4, 1, 5, 0] rfl) hk
  obtain ⟨u_50, h_51, hf⟩ := ob hf
  refine hL_17 FUEL u_1.1 0 u_1.2 0 u_50 _ _ ls h_51 hP hD hS (lv_sub hl [3, 5, 6, 2, 1, 0] rfl) (fun H locs ls hP hD hS hl => ?_)
  clear hL_17
  refine lv_iload hx hb dL_yes_272 (lv_at hl 0 rfl) ?_
  obtain rfl := (Option.some.inj hf)
  exact wr_i F rfl hP hS dL_yes_274
def L_seats_L4 : Nat → SLaw → Int32 → Int32 → Option (Int32)
  | 0, _, _, _ => none
  | fu + 1, K_4, x2_4, x3_4 => (if ((K_4 3) (Int32.toNatClampNeg 0)) ≤ x3_4 then some x2_4 else (if ¬ ((3 * x3_4) < 0 ∨ 36 ≤ Int32.toNatClampNeg (3 * x3_4)) then L_seats_L4 fu K_4 (x2_4 + ((K_4 0) (Int32.toNatClampNeg (3 * x3_4)))) (x3_4 + 1) else none))
def L_seats (K : SLaw) : Option (Int32) := ((L_seats_L4 FUEL K 0 0).bind fun u_3 => some u_3)
abbrev rm_L_seats : Room := { frames := 0, cells := 0, slots := 0, locals := 0 }
set_option maxHeartbeats 4000000 in
set_option maxRecDepth 100000 in
theorem c_L_seats (l : Launch) (D : va_G) (cI cP : ClassId) (a : Nat → Nat) (K : SLaw) (z : Int32) (hf : L_seats K  = some z) : MRd l yL_seats cL_seats 4 (some .int) rm_L_seats D cI cP [.ref (a 0), .ref (a 3)] (wLaw cI a K) z := by
  refine MRd.of (by decide +kernel) (Nat.le_of_ble_eq_true rfl) ?_
  intro p e s m args below meth c ls F hX hP hS hl
  have F : Fx p s m args meth c RL cL_seats 4 (some .int) := F
  have hx := F.1
  have hb := F.2.1
  have hown := F.2.2.2.1
  have hts := F.2.2.2.2.1
  have hA : ∀ q : Nat, s.heap.size ≤ q → (fun q : Nat => s.heap.size ≤ q) q := fun _ h => h
  have hl : lv_has ls 4 [(0, .ref (a 0)), (1, .ref (a 3))] := hl
  unfold L_seats at hf
  refine lv_iconst (v := 0) hx hb dL_seats_0 (by decide) ?_
  refine lv_istore_n (lv' := [(2, .int 0), (0, .ref (a 0)), (1, .ref (a 3))]) hx hb dL_seats_1 rfl hl (by decide) rfl (fun ls hl => ?_)
  refine lv_iconst (v := 0) hx hb dL_seats_2 (by decide) ?_
  refine lv_istore_n (lv' := [(3, .int 0), (2, .int 0), (0, .ref (a 0)), (1, .ref (a 3))]) hx hb dL_seats_3 rfl hl (by decide) rfl (fun ls hl => ?_)
  have hL_4 : ∀ (fu : Nat) (K_4 : SLaw) (x2_4 : Int32) (x3_4 : Int32) (v : Int32) (H : Heap) (locs : List Loc) (ls : Array Slot), L_seats_L4 fu K_4 x2_4 x3_4 = some v → va_P D vwCl (wLaw cI a K_4) H → va_S (fun q : Nat => s.heap.size ≤ q) s.heap H locs → lv_has ls 4 [(0, .ref (a 0)), (1, .ref (a 3)), (2, .int x2_4), (3, .int x3_4)] → (∀ (H : Heap) (locs : List Loc) (ls : Array Slot), va_P D vwCl (wLaw cI a K_4) H → va_S (fun q : Nat => s.heap.size ≤ q) s.heap H locs → lv_has ls 4 [(2, .int v)] → W p l e rm_L_seats s m args below meth c H locs 0 0 (QR below args s z) (F0 m 25 ls [])) → W p l e rm_L_seats s m args below meth c H locs 0 0 (QR below args s z) (F0 m 4 ls []) := by
    intro fu
    induction fu with
    | zero =>
      intro K_4 x2_4 x3_4 v H locs ls hf
      exact absurd hf (by simp [L_seats_L4])
    | succ fu ih =>
      intro K_4 x2_4 x3_4 v _ _ ls hf hP hS hl hk
      rw [L_seats_L4] at hf
      refine lv_iload_n hx hb dL_seats_4 rfl (lv_at hl 3 rfl) ?_
      refine lv_aload_n hx hb dL_seats_5 rfl (lv_at hl 1 rfl) ?_
      refine lv_iconst (v := 0) hx hb dL_seats_6 (by decide) ?_
      refine va_iald hx hb hX.1 hP 3 0 (n := 8) (f := (K_4 3)) rfl rfl (by decide : ¬ ((0 : Int32) < 0 ∨ 8 ≤ Int32.toNatClampNeg 0)) dL_seats_7 ?_
      refine lv_icmp_ge (tgt := 25) hx hb dL_seats_8 (by decide) (fun c_1 => ?_) (fun c_1 => ?_)
      · replace hf := (if_pos c_1).symm.trans hf
        obtain rfl := Option.some.inj hf
        exact hk _ _ ls hP hS (lv_sub hl [2] rfl)
      · replace hf := (if_neg c_1).symm.trans hf
        refine lv_iload_n hx hb dL_seats_11 rfl (lv_at hl 2 rfl) ?_
        refine lv_aload_n hx hb dL_seats_12 rfl (lv_at hl 0 rfl) ?_
        refine lv_iconst (v := 3) hx hb dL_seats_13 (by decide) ?_
        refine lv_iload_n hx hb dL_seats_14 rfl (lv_at hl 3 rfl) ?_
        refine lv_imul hx hb dL_seats_15 ?_
        have g_2 := og hf
        replace hf := (if_pos g_2).symm.trans hf
        refine va_iald hx hb hX.1 hP 0 0 (n := 36) (f := (K_4 0)) rfl rfl g_2 dL_seats_16 ?_
        refine lv_iadd hx hb dL_seats_17 ?_
        refine lv_istore_n (lv' := [(2, .int (x2_4 + ((K_4 0) (Int32.toNatClampNeg (3 * x3_4))))), (0, .ref (a 0)), (1, .ref (a 3)), (3, .int x3_4)]) hx hb dL_seats_18 rfl hl (by decide) rfl (fun ls hl => ?_)
        refine lv_iinc (v := (x3_4 + 1)) (lv' := [(3, .int (x3_4 + 1)), (2, .int (x2_4 + ((K_4 0) (Int32.toNatClampNeg (3 * x3_4))))), (0, .ref (a 0)), (1, .ref (a 3))]) hx hb dL_seats_19 hl (k := 3) rfl (by rfl) (by decide) rfl (fun ls hl => ?_)
        refine lv_goto (tgt := 4) hx hb dL_seats_22 (by decide) ?_
        exact ih K_4 (x2_4 + ((K_4 0) (Int32.toNatClampNeg (3 * x3_4)))) (x3_4 + 1) _ _ _ ls hf hP hS (lv_sub hl [2, 3, 1, 0] rfl) hk
  obtain ⟨u_3, h_4, hf⟩ := ob hf
  refine hL_4 FUEL K 0 0 u_3 _ _ ls h_4 hP hS (lv_sub hl [2, 3, 1, 0] rfl) (fun H locs ls hP hS hl => ?_)
  clear hL_4
  refine lv_iload_n hx hb dL_seats_25 rfl (lv_at hl 0 rfl) ?_
  exact rd_i F (Option.some.inj hf) hS dL_seats_26
def L_held_L3 : Nat → SLaw → Int32 → Int32 → Int32 → Option (Int32)
  | 0, _, _, _, _ => none
  | fu + 1, K_3, x3_3, x4_3, x5_3 => (if ((K_3 3) (Int32.toNatClampNeg 0)) ≤ x5_3 then some (-1) else (if x5_3 = x4_3 then L_held_L3 fu K_3 x3_3 x4_3 (x5_3 + 1) else (if ¬ (x5_3 < 0 ∨ 36 ≤ Int32.toNatClampNeg x5_3) then (if ¬ (x3_3 < 0 ∨ 36 ≤ Int32.toNatClampNeg x3_3) then (if ((K_3 4) (Int32.toNatClampNeg x5_3)) = ((K_3 4) (Int32.toNatClampNeg x3_3)) then (if ¬ (((3 * x5_3) + 2) < 0 ∨ 36 ≤ Int32.toNatClampNeg ((3 * x5_3) + 2)) then (if ((K_3 0) (Int32.toNatClampNeg ((3 * x5_3) + 2))) < 0 then L_held_L3 fu K_3 x3_3 x4_3 (x5_3 + 1) else (if ¬ ((12 + x5_3) < 0 ∨ 36 ≤ Int32.toNatClampNeg (12 + x5_3)) then (if ¬ ((12 + x3_3) < 0 ∨ 36 ≤ Int32.toNatClampNeg (12 + x3_3)) then (if ((K_3 4) (Int32.toNatClampNeg (12 + x5_3))) = ((K_3 4) (Int32.toNatClampNeg (12 + x3_3))) then some ((K_3 0) (Int32.toNatClampNeg ((3 * x5_3) + 2))) else some (1 - ((K_3 0) (Int32.toNatClampNeg ((3 * x5_3) + 2))))) else none) else none)) else none) else L_held_L3 fu K_3 x3_3 x4_3 (x5_3 + 1)) else none) else none)))
def L_held (K : SLaw) (x3 : Int32) (x4 : Int32) : Option (Int32) := (L_held_L3 FUEL K x3 x4 0)
abbrev rm_L_held : Room := { frames := 0, cells := 0, slots := 0, locals := 0 }
set_option maxHeartbeats 4000000 in
set_option maxRecDepth 100000 in
theorem c_L_held (l : Launch) (D : va_G) (cI cP : ClassId) (a : Nat → Nat) (K : SLaw) (x3 : Int32) (x4 : Int32) (z : Int32) (hf : L_held K x3 x4 = some z) : MRd l yL_held cL_held 6 (some .int) rm_L_held D cI cP [.ref (a 0), .ref (a 3), .ref (a 4), .int x3, .int x4] (wLaw cI a K) z := by
  refine MRd.of (by decide +kernel) (Nat.le_of_ble_eq_true rfl) ?_
  intro p e s m args below meth c ls F hX hP hS hl
  have F : Fx p s m args meth c RL cL_held 6 (some .int) := F
  have hx := F.1
  have hb := F.2.1
  have hown := F.2.2.2.1
  have hts := F.2.2.2.2.1
  have hA : ∀ q : Nat, s.heap.size ≤ q → (fun q : Nat => s.heap.size ≤ q) q := fun _ h => h
  have hl : lv_has ls 6 [(0, .ref (a 0)), (1, .ref (a 3)), (2, .ref (a 4)), (3, .int x3), (4, .int x4)] := hl
  unfold L_held at hf
  refine lv_iconst (v := 0) hx hb dL_held_0 (by decide) ?_
  refine lv_istore (lv' := [(5, .int 0), (0, .ref (a 0)), (1, .ref (a 3)), (2, .ref (a 4)), (3, .int x3), (4, .int x4)]) hx hb dL_held_1 hl (by decide) rfl (fun ls hl => ?_)
  have hL_3 : ∀ (fu : Nat) (K_3 : SLaw) (x3_3 : Int32) (x4_3 : Int32) (x5_3 : Int32) (H : Heap) (locs : List Loc) (ls : Array Slot), L_held_L3 fu K_3 x3_3 x4_3 x5_3 = some z → va_P D vwCl (wLaw cI a K_3) H → va_S (fun q : Nat => s.heap.size ≤ q) s.heap H locs → lv_has ls 6 [(0, .ref (a 0)), (1, .ref (a 3)), (2, .ref (a 4)), (3, .int x3_3), (4, .int x4_3), (5, .int x5_3)] → W p l e rm_L_held s m args below meth c H locs 0 0 (QR below args s z) (F0 m 3 ls []) := by
    intro fu
    induction fu with
    | zero =>
      intro K_3 x3_3 x4_3 x5_3 H locs ls hf
      exact absurd hf (by simp [L_held_L3])
    | succ fu ih =>
      intro K_3 x3_3 x4_3 x5_3 _ _ ls hf hP hS hl
      rw [L_held_L3] at hf
      refine lv_iload hx hb dL_held_3 (lv_at hl 5 rfl) ?_
      refine lv_aload_n hx hb dL_held_5 rfl (lv_at hl 1 rfl) ?_
      refine lv_iconst (v := 0) hx hb dL_held_6 (by decide) ?_
      refine va_iald hx hb hX.1 hP 3 0 (n := 8) (f := (K_3 3)) rfl rfl (by decide : ¬ ((0 : Int32) < 0 ∨ 8 ≤ Int32.toNatClampNeg 0)) dL_held_7 ?_
      refine lv_icmp_ge (tgt := 83) hx hb dL_held_8 (by decide) (fun c_1 => ?_) (fun c_1 => ?_)
      · replace hf := (if_pos c_1).symm.trans hf
        refine lv_iconst (v := (-1)) hx hb dL_held_83 (by decide) ?_
        exact rd_i F (Option.some.inj hf) hS dL_held_84
      · replace hf := (if_neg c_1).symm.trans hf
        refine lv_iload hx hb dL_held_11 (lv_at hl 5 rfl) ?_
        refine lv_iload hx hb dL_held_13 (lv_at hl 4 rfl) ?_
        refine lv_icmp_eq (tgt := 77) hx hb dL_held_15 (by decide) (fun c_2 => ?_) (fun c_2 => ?_)
        · replace hf := (if_pos c_2).symm.trans hf
          refine lv_iinc (v := (x5_3 + 1)) (lv' := [(5, .int (x5_3 + 1)), (0, .ref (a 0)), (1, .ref (a 3)), (2, .ref (a 4)), (3, .int x3_3), (4, .int x4_3)]) hx hb dL_held_77 hl (k := 5) rfl (by rfl) (by decide) rfl (fun ls hl => ?_)
          refine lv_goto (tgt := 3) hx hb dL_held_80 (by decide) ?_
          exact ih K_3 x3_3 x4_3 (x5_3 + 1) _ _ ls hf hP hS (lv_sub hl [1, 2, 3, 4, 5, 0] rfl)
        · replace hf := (if_neg c_2).symm.trans hf
          refine lv_aload_n hx hb dL_held_18 rfl (lv_at hl 2 rfl) ?_
          refine lv_iload hx hb dL_held_19 (lv_at hl 5 rfl) ?_
          have g_3 := og hf
          replace hf := (if_pos g_3).symm.trans hf
          refine va_iald hx hb hX.1 hP 4 0 (n := 36) (f := (K_3 4)) rfl rfl g_3 dL_held_21 ?_
          refine lv_aload_n hx hb dL_held_22 rfl (lv_at hl 2 rfl) ?_
          refine lv_iload_n hx hb dL_held_23 rfl (lv_at hl 3 rfl) ?_
          have g_4 := og hf
          replace hf := (if_pos g_4).symm.trans hf
          refine va_iald hx hb hX.1 hP 4 0 (n := 36) (f := (K_3 4)) rfl rfl g_4 dL_held_24 ?_
          refine lv_icmp_ne (tgt := 77) hx hb dL_held_25 (by decide) (fun c_5 => ?_) (fun c_5 => ?_)
          · replace hf := (if_neg c_5).symm.trans hf
            refine lv_iinc (v := (x5_3 + 1)) (lv' := [(5, .int (x5_3 + 1)), (0, .ref (a 0)), (1, .ref (a 3)), (2, .ref (a 4)), (3, .int x3_3), (4, .int x4_3)]) hx hb dL_held_77 hl (k := 5) rfl (by rfl) (by decide) rfl (fun ls hl => ?_)
            refine lv_goto (tgt := 3) hx hb dL_held_80 (by decide) ?_
            exact ih K_3 x3_3 x4_3 (x5_3 + 1) _ _ ls hf hP hS (lv_sub hl [1, 2, 3, 4, 5, 0] rfl)
          · replace hf := (if_pos c_5).symm.trans hf
            refine lv_aload_n hx hb dL_held_28 rfl (lv_at hl 0 rfl) ?_
            refine lv_iconst (v := 3) hx hb dL_held_29 (by decide) ?_
            refine lv_iload hx hb dL_held_30 (lv_at hl 5 rfl) ?_
            refine lv_imul hx hb dL_held_32 ?_
            refine lv_iconst (v := 2) hx hb dL_held_33 (by decide) ?_
            refine lv_iadd hx hb dL_held_34 ?_
            have g_6 := og hf
            replace hf := (if_pos g_6).symm.trans hf
            refine va_iald hx hb hX.1 hP 0 0 (n := 36) (f := (K_3 0)) rfl rfl g_6 dL_held_35 ?_
            refine lv_if_lt (tgt := 77) hx hb dL_held_36 (by decide) (fun c_7 => ?_) (fun c_7 => ?_)
            · replace hf := (if_pos c_7).symm.trans hf
              refine lv_iinc (v := (x5_3 + 1)) (lv' := [(5, .int (x5_3 + 1)), (0, .ref (a 0)), (1, .ref (a 3)), (2, .ref (a 4)), (3, .int x3_3), (4, .int x4_3)]) hx hb dL_held_77 hl (k := 5) rfl (by rfl) (by decide) rfl (fun ls hl => ?_)
              refine lv_goto (tgt := 3) hx hb dL_held_80 (by decide) ?_
              exact ih K_3 x3_3 x4_3 (x5_3 + 1) _ _ ls hf hP hS (lv_sub hl [1, 2, 3, 4, 5, 0] rfl)
            · replace hf := (if_neg c_7).symm.trans hf
              refine lv_aload_n hx hb dL_held_39 rfl (lv_at hl 2 rfl) ?_
              refine lv_bipush (v := 12) hx hb dL_held_40 (by decide) ?_
              refine lv_iload hx hb dL_held_42 (lv_at hl 5 rfl) ?_
              refine lv_iadd hx hb dL_held_44 ?_
              have g_8 := og hf
              replace hf := (if_pos g_8).symm.trans hf
              refine va_iald hx hb hX.1 hP 4 0 (n := 36) (f := (K_3 4)) rfl rfl g_8 dL_held_45 ?_
              refine lv_aload_n hx hb dL_held_46 rfl (lv_at hl 2 rfl) ?_
              refine lv_bipush (v := 12) hx hb dL_held_47 (by decide) ?_
              refine lv_iload_n hx hb dL_held_49 rfl (lv_at hl 3 rfl) ?_
              refine lv_iadd hx hb dL_held_50 ?_
              have g_9 := og hf
              replace hf := (if_pos g_9).symm.trans hf
              refine va_iald hx hb hX.1 hP 4 0 (n := 36) (f := (K_3 4)) rfl rfl g_9 dL_held_51 ?_
              refine lv_icmp_ne (tgt := 66) hx hb dL_held_52 (by decide) (fun c_10 => ?_) (fun c_10 => ?_)
              · replace hf := (if_neg c_10).symm.trans hf
                refine lv_iconst (v := 1) hx hb dL_held_66 (by decide) ?_
                refine lv_aload_n hx hb dL_held_67 rfl (lv_at hl 0 rfl) ?_
                refine lv_iconst (v := 3) hx hb dL_held_68 (by decide) ?_
                refine lv_iload hx hb dL_held_69 (lv_at hl 5 rfl) ?_
                refine lv_imul hx hb dL_held_71 ?_
                refine lv_iconst (v := 2) hx hb dL_held_72 (by decide) ?_
                refine lv_iadd hx hb dL_held_73 ?_
                refine va_iald hx hb hX.1 hP 0 0 (n := 36) (f := (K_3 0)) rfl rfl g_6 dL_held_74 ?_
                refine lv_isub hx hb dL_held_75 ?_
                exact rd_i F (Option.some.inj hf) hS dL_held_76
              · replace hf := (if_pos c_10).symm.trans hf
                refine lv_aload_n hx hb dL_held_55 rfl (lv_at hl 0 rfl) ?_
                refine lv_iconst (v := 3) hx hb dL_held_56 (by decide) ?_
                refine lv_iload hx hb dL_held_57 (lv_at hl 5 rfl) ?_
                refine lv_imul hx hb dL_held_59 ?_
                refine lv_iconst (v := 2) hx hb dL_held_60 (by decide) ?_
                refine lv_iadd hx hb dL_held_61 ?_
                refine va_iald hx hb hX.1 hP 0 0 (n := 36) (f := (K_3 0)) rfl rfl g_6 dL_held_62 ?_
                refine lv_goto (tgt := 76) hx hb dL_held_63 (by decide) ?_
                exact rd_i F (Option.some.inj hf) hS dL_held_76
  exact hL_3 FUEL K x3 x4 0 _ _ ls hf hP hS (lv_sub hl [1, 2, 3, 4, 5, 0] rfl)
def L_whyTie_L3 : Nat → SLaw → Int32 → Int32 → Int32 → Int32 → Option (SLaw × Int32)
  | 0, _, _, _, _, _ => none
  | fu + 1, K_3, x4_3, x5_3, x6_3, x7_3 => (if ((K_3 3) (Int32.toNatClampNeg 1)) ≤ x7_3 then ((L_groups K_3 (-1)).bind fun u_2 => (if ¬ (x4_3 < 0 ∨ 36 ≤ Int32.toNatClampNeg x4_3) then (if ¬ (x5_3 < 0 ∨ 36 ≤ Int32.toNatClampNeg x5_3) then (if ((u_2.1 4) (Int32.toNatClampNeg x4_3)) = ((u_2.1 4) (Int32.toNatClampNeg x5_3)) then (if ¬ ((12 + x4_3) < 0 ∨ 36 ≤ Int32.toNatClampNeg (12 + x4_3)) then (if ¬ ((12 + x5_3) < 0 ∨ 36 ≤ Int32.toNatClampNeg (12 + x5_3)) then (if ((u_2.1 4) (Int32.toNatClampNeg (12 + x4_3))) = ((u_2.1 4) (Int32.toNatClampNeg (12 + x5_3))) then (if x6_3 = 1 then some (u_2.1, 2) else some (u_2.1, 0)) else (if x6_3 = 1 then some (u_2.1, 0) else some (u_2.1, 2))) else none) else none) else ((L_held u_2.1 x4_3 (-1)).bind fun u_7 => ((L_held u_2.1 x5_3 (-1)).bind fun u_9 => (if u_2.2 ≤ 1 then some (u_2.1, 0) else (if u_7 < 0 then some (u_2.1, 0) else (if u_9 < 0 then some (u_2.1, 0) else (if u_7 = u_9 then (if x6_3 = 1 then some (u_2.1, 3) else some (u_2.1, 0)) else (if x6_3 = 1 then some (u_2.1, 0) else some (u_2.1, 3))))))))) else none) else none)) else (if ¬ ((4 * x7_3) < 0 ∨ 64 ≤ Int32.toNatClampNeg (4 * x7_3)) then (if ¬ (((4 * x7_3) + 1) < 0 ∨ 64 ≤ Int32.toNatClampNeg ((4 * x7_3) + 1)) then (if (((K_3 1) (Int32.toNatClampNeg (4 * x7_3))) + ((K_3 1) (Int32.toNatClampNeg ((4 * x7_3) + 1)))) = (x4_3 + x5_3) then (if ((K_3 1) (Int32.toNatClampNeg (4 * x7_3))) = x4_3 then some (K_3, 1) else (if ((K_3 1) (Int32.toNatClampNeg (4 * x7_3))) = x5_3 then some (K_3, 1) else L_whyTie_L3 fu K_3 x4_3 x5_3 x6_3 (x7_3 + 1))) else L_whyTie_L3 fu K_3 x4_3 x5_3 x6_3 (x7_3 + 1)) else none) else none))
def L_whyTie (K : SLaw) (x4 : Int32) (x5 : Int32) (x6 : Int32) : Option (SLaw × Int32) := (L_whyTie_L3 FUEL K x4 x5 x6 0)
abbrev rm_L_whyTie : Room := { frames := 1, cells := 0, slots := 0, locals := 31 }
set_option maxHeartbeats 4000000 in
set_option maxRecDepth 100000 in
theorem c_L_whyTie (l : Launch) (D : va_G) (cI cP : ClassId) (a : Nat → Nat) (K : SLaw) (x4 : Int32) (x5 : Int32) (x6 : Int32) (z : SLaw × Int32) (hf : L_whyTie K x4 x5 x6 = some z) : MWi l yL_whyTie cL_whyTie 10 (some .int) rm_L_whyTie D cI cP [.ref (a 0), .ref (a 1), .ref (a 3), .ref (a 4), .int x4, .int x5, .int x6] (wLaw cI a K) (wLaw cI a z.1) z.2 := by
  refine MWi.of (by decide +kernel) (Nat.le_of_ble_eq_true rfl) ?_
  intro p e s m args below meth c ls A F hX hP hD hA hS hl
  have F : Fx p s m args meth c RL cL_whyTie 10 (some .int) := F
  have hx := F.1
  have hb := F.2.1
  have hown := F.2.2.2.1
  have hts := F.2.2.2.2.1
  have hl : lv_has ls 10 [(0, .ref (a 0)), (1, .ref (a 1)), (2, .ref (a 3)), (3, .ref (a 4)), (4, .int x4), (5, .int x5), (6, .int x6)] := hl
  unfold L_whyTie at hf
  refine lv_iconst (v := 0) hx hb dL_whyTie_0 (by decide) ?_
  refine lv_istore (lv' := [(7, .int 0), (0, .ref (a 0)), (1, .ref (a 1)), (2, .ref (a 3)), (3, .ref (a 4)), (4, .int x4), (5, .int x5), (6, .int x6)]) hx hb dL_whyTie_1 hl (by decide) rfl (fun ls hl => ?_)
  have hL_3 : ∀ (fu : Nat) (K_3 : SLaw) (x4_3 : Int32) (x5_3 : Int32) (x6_3 : Int32) (x7_3 : Int32) (H : Heap) (locs : List Loc) (ls : Array Slot), L_whyTie_L3 fu K_3 x4_3 x5_3 x6_3 x7_3 = some z → va_P D vwCl (wLaw cI a K_3) H → va_D A (wLaw cI a K_3) → va_S A s.heap H locs → lv_has ls 10 [(0, .ref (a 0)), (1, .ref (a 1)), (2, .ref (a 3)), (3, .ref (a 4)), (4, .int x4_3), (5, .int x5_3), (6, .int x6_3), (7, .int x7_3)] → W p l e rm_L_whyTie s m args below meth c H locs 0 0 (QWi D below args s A (wLaw cI a z.1) z.2) (F0 m 3 ls []) := by
    intro fu
    induction fu with
    | zero =>
      intro K_3 x4_3 x5_3 x6_3 x7_3 H locs ls hf
      exact absurd hf (by simp [L_whyTie_L3])
    | succ fu ih =>
      intro K_3 x4_3 x5_3 x6_3 x7_3 _ _ ls hf hP hD hS hl
      rw [L_whyTie_L3] at hf
      refine lv_iload hx hb dL_whyTie_3 (lv_at hl 7 rfl) ?_
      refine lv_aload_n hx hb dL_whyTie_5 rfl (lv_at hl 2 rfl) ?_
      refine lv_iconst (v := 1) hx hb dL_whyTie_6 (by decide) ?_
      refine va_iald hx hb hX.1 hP 3 0 (n := 8) (f := (K_3 3)) rfl rfl (by decide : ¬ ((1 : Int32) < 0 ∨ 8 ≤ Int32.toNatClampNeg 1)) dL_whyTie_7 ?_
      refine lv_icmp_ge (tgt := 64) hx hb dL_whyTie_8 (by decide) (fun c_1 => ?_) (fun c_1 => ?_)
      · replace hf := (if_pos c_1).symm.trans hf
        refine lv_aload_n hx hb dL_whyTie_64 rfl (lv_at hl 0 rfl) ?_
        refine lv_aload_n hx hb dL_whyTie_65 rfl (lv_at hl 1 rfl) ?_
        refine lv_aload_n hx hb dL_whyTie_66 rfl (lv_at hl 2 rfl) ?_
        refine lv_aload_n hx hb dL_whyTie_67 rfl (lv_at hl 3 rfl) ?_
        refine lv_iconst (v := (-1)) hx hb dL_whyTie_68 (by decide) ?_
        obtain ⟨u_2, h_3, hf⟩ := ob hf
        refine k_wi (runS F wdL_9 (rm := rm_L_groups) (As := [.ref (a 0), .ref (a 1), .ref (a 3), .ref (a 4), .int (-1)]) (rest := []) ⟨rfl, rfl⟩ ⟨Nat.le_of_ble_eq_true rfl, Nat.le_of_ble_eq_true rfl⟩ hl.1 rfl rfl (Nat.le_of_ble_eq_true rfl) dL_whyTie_69 ⟨Nat.zero_le _, Nat.zero_le _⟩) (c_L_groups l D cI cP a K_3 (-1) _ h_3) hX trivial (Cut.all rfl) hP hD hS hA (fun H locs hP hD hS => ?_)
        have hP : va_P D vwCl (wLaw cI a u_2.1) H := hP
        have hD : va_D A (wLaw cI a u_2.1) := hD
        refine lv_istore (lv' := [(7, .int u_2.2), (0, .ref (a 0)), (1, .ref (a 1)), (2, .ref (a 3)), (3, .ref (a 4)), (4, .int x4_3), (5, .int x5_3), (6, .int x6_3)]) hx hb dL_whyTie_72 hl (by decide) rfl (fun ls hl => ?_)
        refine lv_aload_n hx hb dL_whyTie_74 rfl (lv_at hl 4 rfl) ?_
        refine lv_iload hx hb dL_whyTie_75 (lv_at hl 5 rfl) ?_
        have g_4 := og hf
        replace hf := (if_pos g_4).symm.trans hf
        refine va_iald hx hb hX.1 hP 4 0 (n := 36) (f := (u_2.1 4)) rfl rfl g_4 dL_whyTie_77 ?_
        refine lv_aload_n hx hb dL_whyTie_78 rfl (lv_at hl 4 rfl) ?_
        refine lv_iload hx hb dL_whyTie_79 (lv_at hl 6 rfl) ?_
        have g_5 := og hf
        replace hf := (if_pos g_5).symm.trans hf
        refine va_iald hx hb hX.1 hP 4 0 (n := 36) (f := (u_2.1 4)) rfl rfl g_5 dL_whyTie_81 ?_
        refine lv_icmp_ne (tgt := 127) hx hb dL_whyTie_82 (by decide) (fun c_6 => ?_) (fun c_6 => ?_)
        · replace hf := (if_neg c_6).symm.trans hf
          refine lv_aload_n hx hb dL_whyTie_127 rfl (lv_at hl 1 rfl) ?_
          refine lv_aload_n hx hb dL_whyTie_128 rfl (lv_at hl 3 rfl) ?_
          refine lv_aload_n hx hb dL_whyTie_129 rfl (lv_at hl 4 rfl) ?_
          refine lv_iload hx hb dL_whyTie_130 (lv_at hl 5 rfl) ?_
          refine lv_iconst (v := (-1)) hx hb dL_whyTie_132 (by decide) ?_
          obtain ⟨u_7, h_8, hf⟩ := ob hf
          refine k_rd (runS F wdL_15 (rm := rm_L_held) (As := [.ref (a 0), .ref (a 3), .ref (a 4), .int x4_3, .int (-1)]) (rest := []) ⟨rfl, rfl⟩ ⟨Nat.le_of_ble_eq_true rfl, Nat.le_of_ble_eq_true rfl⟩ hl.1 rfl rfl (Nat.le_of_ble_eq_true rfl) dL_whyTie_133 ⟨Nat.zero_le _, Nat.zero_le _⟩) (c_L_held l D cI cP a u_2.1 x4_3 (-1) _ h_8) hX trivial hP hP hS hA (fun H locs hP hS => ?_)
          refine lv_istore (lv' := [(8, .int u_7), (7, .int u_2.2), (0, .ref (a 0)), (1, .ref (a 1)), (2, .ref (a 3)), (3, .ref (a 4)), (4, .int x4_3), (5, .int x5_3), (6, .int x6_3)]) hx hb dL_whyTie_136 hl (by decide) rfl (fun ls hl => ?_)
          refine lv_aload_n hx hb dL_whyTie_138 rfl (lv_at hl 2 rfl) ?_
          refine lv_aload_n hx hb dL_whyTie_139 rfl (lv_at hl 4 rfl) ?_
          refine lv_aload_n hx hb dL_whyTie_140 rfl (lv_at hl 5 rfl) ?_
          refine lv_iload hx hb dL_whyTie_141 (lv_at hl 7 rfl) ?_
          refine lv_iconst (v := (-1)) hx hb dL_whyTie_143 (by decide) ?_
          obtain ⟨u_9, h_10, hf⟩ := ob hf
          refine k_rd (runS F wdL_15 (rm := rm_L_held) (As := [.ref (a 0), .ref (a 3), .ref (a 4), .int x5_3, .int (-1)]) (rest := []) ⟨rfl, rfl⟩ ⟨Nat.le_of_ble_eq_true rfl, Nat.le_of_ble_eq_true rfl⟩ hl.1 rfl rfl (Nat.le_of_ble_eq_true rfl) dL_whyTie_144 ⟨Nat.zero_le _, Nat.zero_le _⟩) (c_L_held l D cI cP a u_2.1 x5_3 (-1) _ h_10) hX trivial hP hP hS hA (fun H locs hP hS => ?_)
          refine lv_istore (lv' := [(9, .int u_9), (8, .int u_7), (7, .int u_2.2), (0, .ref (a 0)), (1, .ref (a 1)), (2, .ref (a 3)), (3, .ref (a 4)), (4, .int x4_3), (5, .int x5_3), (6, .int x6_3)]) hx hb dL_whyTie_147 hl (by decide) rfl (fun ls hl => ?_)
          refine lv_iload hx hb dL_whyTie_149 (lv_at hl 2 rfl) ?_
          refine lv_iconst (v := 1) hx hb dL_whyTie_151 (by decide) ?_
          refine lv_icmp_le (tgt := 195) hx hb dL_whyTie_152 (by decide) (fun c_11 => ?_) (fun c_11 => ?_)
          · replace hf := (if_pos c_11).symm.trans hf
            refine lv_iconst (v := 0) hx hb dL_whyTie_195 (by decide) ?_
            obtain rfl := (Option.some.inj hf)
            exact wr_i F rfl hP hS dL_whyTie_196
          · replace hf := (if_neg c_11).symm.trans hf
            refine lv_iload hx hb dL_whyTie_155 (lv_at hl 1 rfl) ?_
            refine lv_if_lt (tgt := 195) hx hb dL_whyTie_157 (by decide) (fun c_12 => ?_) (fun c_12 => ?_)
            · replace hf := (if_pos c_12).symm.trans hf
              refine lv_iconst (v := 0) hx hb dL_whyTie_195 (by decide) ?_
              obtain rfl := (Option.some.inj hf)
              exact wr_i F rfl hP hS dL_whyTie_196
            · replace hf := (if_neg c_12).symm.trans hf
              refine lv_iload hx hb dL_whyTie_160 (lv_at hl 0 rfl) ?_
              refine lv_if_lt (tgt := 195) hx hb dL_whyTie_162 (by decide) (fun c_13 => ?_) (fun c_13 => ?_)
              · replace hf := (if_pos c_13).symm.trans hf
                refine lv_iconst (v := 0) hx hb dL_whyTie_195 (by decide) ?_
                obtain rfl := (Option.some.inj hf)
                exact wr_i F rfl hP hS dL_whyTie_196
              · replace hf := (if_neg c_13).symm.trans hf
                refine lv_iload hx hb dL_whyTie_165 (lv_at hl 1 rfl) ?_
                refine lv_iload hx hb dL_whyTie_167 (lv_at hl 0 rfl) ?_
                refine lv_icmp_ne (tgt := 176) hx hb dL_whyTie_169 (by decide) (fun c_14 => ?_) (fun c_14 => ?_)
                · replace hf := (if_neg c_14).symm.trans hf
                  refine lv_iconst (v := 0) hx hb dL_whyTie_176 (by decide) ?_
                  refine lv_iload hx hb dL_whyTie_177 (lv_at hl 9 rfl) ?_
                  refine lv_iconst (v := 1) hx hb dL_whyTie_179 (by decide) ?_
                  refine lv_icmp_ne (tgt := 187) hx hb dL_whyTie_180 (by decide) (fun c_15 => ?_) (fun c_15 => ?_)
                  · replace hf := (if_neg c_15).symm.trans hf
                    refine lv_iconst (v := 0) hx hb dL_whyTie_187 (by decide) ?_
                    refine lv_icmp_ne (tgt := 195) hx hb dL_whyTie_188 (by decide) (fun c0 => absurd c0 (by decide)) (fun _ => ?_)
                    refine lv_iconst (v := 3) hx hb dL_whyTie_191 (by decide) ?_
                    refine lv_goto (tgt := 196) hx hb dL_whyTie_192 (by decide) ?_
                    obtain rfl := (Option.some.inj hf)
                    exact wr_i F rfl hP hS dL_whyTie_196
                  · replace hf := (if_pos c_15).symm.trans hf
                    refine lv_iconst (v := 1) hx hb dL_whyTie_183 (by decide) ?_
                    refine lv_goto (tgt := 188) hx hb dL_whyTie_184 (by decide) ?_
                    refine lv_icmp_ne (tgt := 195) hx hb dL_whyTie_188 (by decide) (fun _ => ?_) (fun c0 => absurd c0 (by decide))
                    refine lv_iconst (v := 0) hx hb dL_whyTie_195 (by decide) ?_
                    obtain rfl := (Option.some.inj hf)
                    exact wr_i F rfl hP hS dL_whyTie_196
                · replace hf := (if_pos c_14).symm.trans hf
                  refine lv_iconst (v := 1) hx hb dL_whyTie_172 (by decide) ?_
                  refine lv_goto (tgt := 177) hx hb dL_whyTie_173 (by decide) ?_
                  refine lv_iload hx hb dL_whyTie_177 (lv_at hl 9 rfl) ?_
                  refine lv_iconst (v := 1) hx hb dL_whyTie_179 (by decide) ?_
                  refine lv_icmp_ne (tgt := 187) hx hb dL_whyTie_180 (by decide) (fun c_16 => ?_) (fun c_16 => ?_)
                  · replace hf := (if_neg c_16).symm.trans hf
                    refine lv_iconst (v := 0) hx hb dL_whyTie_187 (by decide) ?_
                    refine lv_icmp_ne (tgt := 195) hx hb dL_whyTie_188 (by decide) (fun _ => ?_) (fun c0 => absurd c0 (by decide))
                    refine lv_iconst (v := 0) hx hb dL_whyTie_195 (by decide) ?_
                    obtain rfl := (Option.some.inj hf)
                    exact wr_i F rfl hP hS dL_whyTie_196
                  · replace hf := (if_pos c_16).symm.trans hf
                    refine lv_iconst (v := 1) hx hb dL_whyTie_183 (by decide) ?_
                    refine lv_goto (tgt := 188) hx hb dL_whyTie_184 (by decide) ?_
                    refine lv_icmp_ne (tgt := 195) hx hb dL_whyTie_188 (by decide) (fun c0 => absurd c0 (by decide)) (fun _ => ?_)
                    refine lv_iconst (v := 3) hx hb dL_whyTie_191 (by decide) ?_
                    refine lv_goto (tgt := 196) hx hb dL_whyTie_192 (by decide) ?_
                    obtain rfl := (Option.some.inj hf)
                    exact wr_i F rfl hP hS dL_whyTie_196
        · replace hf := (if_pos c_6).symm.trans hf
          refine lv_aload_n hx hb dL_whyTie_85 rfl (lv_at hl 4 rfl) ?_
          refine lv_bipush (v := 12) hx hb dL_whyTie_86 (by decide) ?_
          refine lv_iload hx hb dL_whyTie_88 (lv_at hl 5 rfl) ?_
          refine lv_iadd hx hb dL_whyTie_90 ?_
          have g_17 := og hf
          replace hf := (if_pos g_17).symm.trans hf
          refine va_iald hx hb hX.1 hP 4 0 (n := 36) (f := (u_2.1 4)) rfl rfl g_17 dL_whyTie_91 ?_
          refine lv_aload_n hx hb dL_whyTie_92 rfl (lv_at hl 4 rfl) ?_
          refine lv_bipush (v := 12) hx hb dL_whyTie_93 (by decide) ?_
          refine lv_iload hx hb dL_whyTie_95 (lv_at hl 6 rfl) ?_
          refine lv_iadd hx hb dL_whyTie_97 ?_
          have g_18 := og hf
          replace hf := (if_pos g_18).symm.trans hf
          refine va_iald hx hb hX.1 hP 4 0 (n := 36) (f := (u_2.1 4)) rfl rfl g_18 dL_whyTie_98 ?_
          refine lv_icmp_ne (tgt := 106) hx hb dL_whyTie_99 (by decide) (fun c_19 => ?_) (fun c_19 => ?_)
          · replace hf := (if_neg c_19).symm.trans hf
            refine lv_iconst (v := 0) hx hb dL_whyTie_106 (by decide) ?_
            refine lv_iload hx hb dL_whyTie_107 (lv_at hl 7 rfl) ?_
            refine lv_iconst (v := 1) hx hb dL_whyTie_109 (by decide) ?_
            refine lv_icmp_ne (tgt := 117) hx hb dL_whyTie_110 (by decide) (fun c_20 => ?_) (fun c_20 => ?_)
            · replace hf := (if_neg c_20).symm.trans hf
              refine lv_iconst (v := 0) hx hb dL_whyTie_117 (by decide) ?_
              refine lv_icmp_ne (tgt := 125) hx hb dL_whyTie_118 (by decide) (fun c0 => absurd c0 (by decide)) (fun _ => ?_)
              refine lv_iconst (v := 2) hx hb dL_whyTie_121 (by decide) ?_
              refine lv_goto (tgt := 126) hx hb dL_whyTie_122 (by decide) ?_
              obtain rfl := (Option.some.inj hf)
              exact wr_i F rfl hP hS dL_whyTie_126
            · replace hf := (if_pos c_20).symm.trans hf
              refine lv_iconst (v := 1) hx hb dL_whyTie_113 (by decide) ?_
              refine lv_goto (tgt := 118) hx hb dL_whyTie_114 (by decide) ?_
              refine lv_icmp_ne (tgt := 125) hx hb dL_whyTie_118 (by decide) (fun _ => ?_) (fun c0 => absurd c0 (by decide))
              refine lv_iconst (v := 0) hx hb dL_whyTie_125 (by decide) ?_
              obtain rfl := (Option.some.inj hf)
              exact wr_i F rfl hP hS dL_whyTie_126
          · replace hf := (if_pos c_19).symm.trans hf
            refine lv_iconst (v := 1) hx hb dL_whyTie_102 (by decide) ?_
            refine lv_goto (tgt := 107) hx hb dL_whyTie_103 (by decide) ?_
            refine lv_iload hx hb dL_whyTie_107 (lv_at hl 7 rfl) ?_
            refine lv_iconst (v := 1) hx hb dL_whyTie_109 (by decide) ?_
            refine lv_icmp_ne (tgt := 117) hx hb dL_whyTie_110 (by decide) (fun c_21 => ?_) (fun c_21 => ?_)
            · replace hf := (if_neg c_21).symm.trans hf
              refine lv_iconst (v := 0) hx hb dL_whyTie_117 (by decide) ?_
              refine lv_icmp_ne (tgt := 125) hx hb dL_whyTie_118 (by decide) (fun _ => ?_) (fun c0 => absurd c0 (by decide))
              refine lv_iconst (v := 0) hx hb dL_whyTie_125 (by decide) ?_
              obtain rfl := (Option.some.inj hf)
              exact wr_i F rfl hP hS dL_whyTie_126
            · replace hf := (if_pos c_21).symm.trans hf
              refine lv_iconst (v := 1) hx hb dL_whyTie_113 (by decide) ?_
              refine lv_goto (tgt := 118) hx hb dL_whyTie_114 (by decide) ?_
              refine lv_icmp_ne (tgt := 125) hx hb dL_whyTie_118 (by decide) (fun c0 => absurd c0 (by decide)) (fun _ => ?_)
              refine lv_iconst (v := 2) hx hb dL_whyTie_121 (by decide) ?_
              refine lv_goto (tgt := 126) hx hb dL_whyTie_122 (by decide) ?_
              obtain rfl := (Option.some.inj hf)
              exact wr_i F rfl hP hS dL_whyTie_126
      · replace hf := (if_neg c_1).symm.trans hf
        refine lv_aload_n hx hb dL_whyTie_11 rfl (lv_at hl 1 rfl) ?_
        refine lv_iconst (v := 4) hx hb dL_whyTie_12 (by decide) ?_
        refine lv_iload hx hb dL_whyTie_13 (lv_at hl 7 rfl) ?_
        refine lv_imul hx hb dL_whyTie_15 ?_
        have g_22 := og hf
        replace hf := (if_pos g_22).symm.trans hf
        refine va_iald hx hb hX.1 hP 1 0 (n := 64) (f := (K_3 1)) rfl rfl g_22 dL_whyTie_16 ?_
        refine lv_aload_n hx hb dL_whyTie_17 rfl (lv_at hl 1 rfl) ?_
        refine lv_iconst (v := 4) hx hb dL_whyTie_18 (by decide) ?_
        refine lv_iload hx hb dL_whyTie_19 (lv_at hl 7 rfl) ?_
        refine lv_imul hx hb dL_whyTie_21 ?_
        refine lv_iconst (v := 1) hx hb dL_whyTie_22 (by decide) ?_
        refine lv_iadd hx hb dL_whyTie_23 ?_
        have g_23 := og hf
        replace hf := (if_pos g_23).symm.trans hf
        refine va_iald hx hb hX.1 hP 1 0 (n := 64) (f := (K_3 1)) rfl rfl g_23 dL_whyTie_24 ?_
        refine lv_iadd hx hb dL_whyTie_25 ?_
        refine lv_iload hx hb dL_whyTie_26 (lv_at hl 4 rfl) ?_
        refine lv_iload hx hb dL_whyTie_28 (lv_at hl 5 rfl) ?_
        refine lv_iadd hx hb dL_whyTie_30 ?_
        refine lv_icmp_ne (tgt := 58) hx hb dL_whyTie_31 (by decide) (fun c_24 => ?_) (fun c_24 => ?_)
        · replace hf := (if_neg c_24).symm.trans hf
          refine lv_iinc (v := (x7_3 + 1)) (lv' := [(7, .int (x7_3 + 1)), (0, .ref (a 0)), (1, .ref (a 1)), (2, .ref (a 3)), (3, .ref (a 4)), (4, .int x4_3), (5, .int x5_3), (6, .int x6_3)]) hx hb dL_whyTie_58 hl (k := 7) rfl (by rfl) (by decide) rfl (fun ls hl => ?_)
          refine lv_goto (tgt := 3) hx hb dL_whyTie_61 (by decide) ?_
          exact ih K_3 x4_3 x5_3 x6_3 (x7_3 + 1) _ _ ls hf hP hD hS (lv_sub hl [1, 2, 3, 4, 5, 6, 7, 0] rfl)
        · replace hf := (if_pos c_24).symm.trans hf
          refine lv_aload_n hx hb dL_whyTie_34 rfl (lv_at hl 1 rfl) ?_
          refine lv_iconst (v := 4) hx hb dL_whyTie_35 (by decide) ?_
          refine lv_iload hx hb dL_whyTie_36 (lv_at hl 7 rfl) ?_
          refine lv_imul hx hb dL_whyTie_38 ?_
          refine va_iald hx hb hX.1 hP 1 0 (n := 64) (f := (K_3 1)) rfl rfl g_22 dL_whyTie_39 ?_
          refine lv_iload hx hb dL_whyTie_40 (lv_at hl 4 rfl) ?_
          refine lv_icmp_eq (tgt := 56) hx hb dL_whyTie_42 (by decide) (fun c_25 => ?_) (fun c_25 => ?_)
          · replace hf := (if_pos c_25).symm.trans hf
            refine lv_iconst (v := 1) hx hb dL_whyTie_56 (by decide) ?_
            obtain rfl := (Option.some.inj hf)
            exact wr_i F rfl hP hS dL_whyTie_57
          · replace hf := (if_neg c_25).symm.trans hf
            refine lv_aload_n hx hb dL_whyTie_45 rfl (lv_at hl 1 rfl) ?_
            refine lv_iconst (v := 4) hx hb dL_whyTie_46 (by decide) ?_
            refine lv_iload hx hb dL_whyTie_47 (lv_at hl 7 rfl) ?_
            refine lv_imul hx hb dL_whyTie_49 ?_
            refine va_iald hx hb hX.1 hP 1 0 (n := 64) (f := (K_3 1)) rfl rfl g_22 dL_whyTie_50 ?_
            refine lv_iload hx hb dL_whyTie_51 (lv_at hl 5 rfl) ?_
            refine lv_icmp_ne (tgt := 58) hx hb dL_whyTie_53 (by decide) (fun c_26 => ?_) (fun c_26 => ?_)
            · replace hf := (if_neg c_26).symm.trans hf
              refine lv_iinc (v := (x7_3 + 1)) (lv' := [(7, .int (x7_3 + 1)), (0, .ref (a 0)), (1, .ref (a 1)), (2, .ref (a 3)), (3, .ref (a 4)), (4, .int x4_3), (5, .int x5_3), (6, .int x6_3)]) hx hb dL_whyTie_58 hl (k := 7) rfl (by rfl) (by decide) rfl (fun ls hl => ?_)
              refine lv_goto (tgt := 3) hx hb dL_whyTie_61 (by decide) ?_
              exact ih K_3 x4_3 x5_3 x6_3 (x7_3 + 1) _ _ ls hf hP hD hS (lv_sub hl [1, 2, 3, 4, 5, 6, 7, 0] rfl)
            · replace hf := (if_pos c_26).symm.trans hf
              refine lv_iconst (v := 1) hx hb dL_whyTie_56 (by decide) ?_
              obtain rfl := (Option.some.inj hf)
              exact wr_i F rfl hP hS dL_whyTie_57
  exact hL_3 FUEL K x4 x5 x6 0 _ _ ls hf hP hD hS (lv_sub hl [1, 2, 3, 4, 5, 6, 7, 0] rfl)
def L_whyPull_L38 : Nat → SLaw → Int32 → Int32 → Int32 → Int32 → Int32 → Int32 → Option (Int32)
  | 0, _, _, _, _, _, _, _ => none
  | fu + 1, K_38, x4_38, x5_38, x6_38, x7_38, x8_38, x9_38 => (if ((K_38 3) (Int32.toNatClampNeg 0)) ≤ x9_38 then some x8_38 else (if x9_38 = x4_38 then L_whyPull_L38 fu K_38 x4_38 x5_38 x6_38 x7_38 (x8_38 + 0) (x9_38 + 1) else (if ¬ (((3 * x9_38) + 2) < 0 ∨ 36 ≤ Int32.toNatClampNeg ((3 * x9_38) + 2)) then (if ((K_38 0) (Int32.toNatClampNeg ((3 * x9_38) + 2))) < 0 then L_whyPull_L38 fu K_38 x4_38 x5_38 x6_38 x7_38 (x8_38 + 0) (x9_38 + 1) else L_whyPull_L38 fu K_38 x4_38 x5_38 x6_38 x7_38 (x8_38 + 1) (x9_38 + 1)) else none)))
def L_whyPull (K : SLaw) (x4 : Int32) (x5 : Int32) : Option (SLaw × Int32) := (if x4 = ((K 3) (Int32.toNatClampNeg 2)) then some (K, 1) else ((L_groups K (-1)).bind fun u_2 => ((L_held u_2.1 x4 x4).bind fun u_4 => ((L_whyPull_L38 FUEL u_2.1 x4 x5 u_2.2 u_4 0 0).bind fun u_10 => (if u_2.2 ≤ 0 then (if u_10 < ((u_2.1 3) (Int32.toNatClampNeg 7)) then some (u_2.1, 0) else some (u_2.1, 3)) else (if u_4 < 0 then (if u_10 < ((u_2.1 3) (Int32.toNatClampNeg 7)) then some (u_2.1, 0) else some (u_2.1, 3)) else (if u_4 = x5 then (if u_10 < ((u_2.1 3) (Int32.toNatClampNeg 7)) then some (u_2.1, 0) else some (u_2.1, 3)) else some (u_2.1, 2))))))))
abbrev rm_L_whyPull : Room := { frames := 1, cells := 0, slots := 0, locals := 31 }
set_option maxHeartbeats 4000000 in
set_option maxRecDepth 100000 in
theorem c_L_whyPull (l : Launch) (D : va_G) (cI cP : ClassId) (a : Nat → Nat) (K : SLaw) (x4 : Int32) (x5 : Int32) (z : SLaw × Int32) (hf : L_whyPull K x4 x5 = some z) : MWi l yL_whyPull cL_whyPull 10 (some .int) rm_L_whyPull D cI cP [.ref (a 0), .ref (a 1), .ref (a 3), .ref (a 4), .int x4, .int x5] (wLaw cI a K) (wLaw cI a z.1) z.2 := by
  refine MWi.of (by decide +kernel) (Nat.le_of_ble_eq_true rfl) ?_
  intro p e s m args below meth c ls A F hX hP hD hA hS hl
  have F : Fx p s m args meth c RL cL_whyPull 10 (some .int) := F
  have hx := F.1
  have hb := F.2.1
  have hown := F.2.2.2.1
  have hts := F.2.2.2.2.1
  have hl : lv_has ls 10 [(0, .ref (a 0)), (1, .ref (a 1)), (2, .ref (a 3)), (3, .ref (a 4)), (4, .int x4), (5, .int x5)] := hl
  unfold L_whyPull at hf
  refine lv_iload hx hb dL_whyPull_0 (lv_at hl 4 rfl) ?_
  refine lv_aload_n hx hb dL_whyPull_2 rfl (lv_at hl 2 rfl) ?_
  refine lv_iconst (v := 2) hx hb dL_whyPull_3 (by decide) ?_
  refine va_iald hx hb hX.1 hP 3 0 (n := 8) (f := (K 3)) rfl rfl (by decide : ¬ ((2 : Int32) < 0 ∨ 8 ≤ Int32.toNatClampNeg 2)) dL_whyPull_4 ?_
  refine lv_icmp_ne (tgt := 10) hx hb dL_whyPull_5 (by decide) (fun c_1 => ?_) (fun c_1 => ?_)
  · replace hf := (if_neg c_1).symm.trans hf
    refine lv_aload_n hx hb dL_whyPull_10 rfl (lv_at hl 0 rfl) ?_
    refine lv_aload_n hx hb dL_whyPull_11 rfl (lv_at hl 1 rfl) ?_
    refine lv_aload_n hx hb dL_whyPull_12 rfl (lv_at hl 2 rfl) ?_
    refine lv_aload_n hx hb dL_whyPull_13 rfl (lv_at hl 3 rfl) ?_
    refine lv_iconst (v := (-1)) hx hb dL_whyPull_14 (by decide) ?_
    obtain ⟨u_2, h_3, hf⟩ := ob hf
    refine k_wi (runS F wdL_9 (rm := rm_L_groups) (As := [.ref (a 0), .ref (a 1), .ref (a 3), .ref (a 4), .int (-1)]) (rest := []) ⟨rfl, rfl⟩ ⟨Nat.le_of_ble_eq_true rfl, Nat.le_of_ble_eq_true rfl⟩ hl.1 rfl rfl (Nat.le_of_ble_eq_true rfl) dL_whyPull_15 ⟨Nat.zero_le _, Nat.zero_le _⟩) (c_L_groups l D cI cP a K (-1) _ h_3) hX trivial (Cut.all rfl) hP hD hS hA (fun H locs hP hD hS => ?_)
    have hP : va_P D vwCl (wLaw cI a u_2.1) H := hP
    have hD : va_D A (wLaw cI a u_2.1) := hD
    refine lv_istore (lv' := [(6, .int u_2.2), (0, .ref (a 0)), (1, .ref (a 1)), (2, .ref (a 3)), (3, .ref (a 4)), (4, .int x4), (5, .int x5)]) hx hb dL_whyPull_18 hl (by decide) rfl (fun ls hl => ?_)
    refine lv_aload_n hx hb dL_whyPull_20 rfl (lv_at hl 1 rfl) ?_
    refine lv_aload_n hx hb dL_whyPull_21 rfl (lv_at hl 3 rfl) ?_
    refine lv_aload_n hx hb dL_whyPull_22 rfl (lv_at hl 4 rfl) ?_
    refine lv_iload hx hb dL_whyPull_23 (lv_at hl 5 rfl) ?_
    refine lv_iload hx hb dL_whyPull_25 (lv_at hl 5 rfl) ?_
    obtain ⟨u_4, h_5, hf⟩ := ob hf
    refine k_rd (runS F wdL_15 (rm := rm_L_held) (As := [.ref (a 0), .ref (a 3), .ref (a 4), .int x4, .int x4]) (rest := []) ⟨rfl, rfl⟩ ⟨Nat.le_of_ble_eq_true rfl, Nat.le_of_ble_eq_true rfl⟩ hl.1 rfl rfl (Nat.le_of_ble_eq_true rfl) dL_whyPull_27 ⟨Nat.zero_le _, Nat.zero_le _⟩) (c_L_held l D cI cP a u_2.1 x4 x4 _ h_5) hX trivial hP hP hS hA (fun H locs hP hS => ?_)
    refine lv_istore (lv' := [(7, .int u_4), (6, .int u_2.2), (0, .ref (a 0)), (1, .ref (a 1)), (2, .ref (a 3)), (3, .ref (a 4)), (4, .int x4), (5, .int x5)]) hx hb dL_whyPull_30 hl (by decide) rfl (fun ls hl => ?_)
    refine lv_iconst (v := 0) hx hb dL_whyPull_32 (by decide) ?_
    refine lv_istore (lv' := [(8, .int 0), (7, .int u_4), (6, .int u_2.2), (0, .ref (a 0)), (1, .ref (a 1)), (2, .ref (a 3)), (3, .ref (a 4)), (4, .int x4), (5, .int x5)]) hx hb dL_whyPull_33 hl (by decide) rfl (fun ls hl => ?_)
    refine lv_iconst (v := 0) hx hb dL_whyPull_35 (by decide) ?_
    refine lv_istore (lv' := [(9, .int 0), (8, .int 0), (7, .int u_4), (6, .int u_2.2), (0, .ref (a 0)), (1, .ref (a 1)), (2, .ref (a 3)), (3, .ref (a 4)), (4, .int x4), (5, .int x5)]) hx hb dL_whyPull_36 hl (by decide) rfl (fun ls hl => ?_)
    have hL_38 : ∀ (fu : Nat) (K_38 : SLaw) (x4_38 : Int32) (x5_38 : Int32) (x6_38 : Int32) (x7_38 : Int32) (x8_38 : Int32) (x9_38 : Int32) (v : Int32) (H : Heap) (locs : List Loc) (ls : Array Slot), L_whyPull_L38 fu K_38 x4_38 x5_38 x6_38 x7_38 x8_38 x9_38 = some v → va_P D vwCl (wLaw cI a K_38) H → va_D A (wLaw cI a K_38) → va_S A s.heap H locs → lv_has ls 10 [(0, .ref (a 0)), (2, .ref (a 3)), (4, .int x4_38), (5, .int x5_38), (6, .int x6_38), (7, .int x7_38), (8, .int x8_38), (9, .int x9_38)] → (∀ (H : Heap) (locs : List Loc) (ls : Array Slot), va_P D vwCl (wLaw cI a K_38) H → va_D A (wLaw cI a K_38) → va_S A s.heap H locs → lv_has ls 10 [(2, .ref (a 3)), (5, .int x5_38), (6, .int x6_38), (7, .int x7_38), (8, .int v)] → W p l e rm_L_whyPull s m args below meth c H locs 0 0 (QWi D below args s A (wLaw cI a z.1) z.2) (F0 m 80 ls [])) → W p l e rm_L_whyPull s m args below meth c H locs 0 0 (QWi D below args s A (wLaw cI a z.1) z.2) (F0 m 38 ls []) := by
      intro fu
      induction fu with
      | zero =>
        intro K_38 x4_38 x5_38 x6_38 x7_38 x8_38 x9_38 v H locs ls hf
        exact absurd hf (by simp [L_whyPull_L38])
      | succ fu ih =>
        intro K_38 x4_38 x5_38 x6_38 x7_38 x8_38 x9_38 v _ _ ls hf hP hD hS hl hk
        rw [L_whyPull_L38] at hf
        refine lv_iload hx hb dL_whyPull_38 (lv_at hl 7 rfl) ?_
        refine lv_aload_n hx hb dL_whyPull_40 rfl (lv_at hl 1 rfl) ?_
        refine lv_iconst (v := 0) hx hb dL_whyPull_41 (by decide) ?_
        refine va_iald hx hb hX.1 hP 3 0 (n := 8) (f := (K_38 3)) rfl rfl (by decide : ¬ ((0 : Int32) < 0 ∨ 8 ≤ Int32.toNatClampNeg 0)) dL_whyPull_42 ?_
        refine lv_icmp_ge (tgt := 80) hx hb dL_whyPull_43 (by decide) (fun c_6 => ?_) (fun c_6 => ?_)
        · replace hf := (if_pos c_6).symm.trans hf
          obtain rfl := Option.some.inj hf
          exact hk _ _ ls hP hD hS (lv_sub hl [1, 3, 4, 5, 6] rfl)
        · replace hf := (if_neg c_6).symm.trans hf
          refine lv_iload hx hb dL_whyPull_46 (lv_at hl 6 rfl) ?_
          refine lv_iload hx hb dL_whyPull_48 (lv_at hl 7 rfl) ?_
          refine lv_iload hx hb dL_whyPull_50 (lv_at hl 2 rfl) ?_
          refine lv_icmp_eq (tgt := 70) hx hb dL_whyPull_52 (by decide) (fun c_7 => ?_) (fun c_7 => ?_)
          · replace hf := (if_pos c_7).symm.trans hf
            refine lv_iconst (v := 0) hx hb dL_whyPull_70 (by decide) ?_
            refine lv_iadd hx hb dL_whyPull_71 ?_
            refine lv_istore (lv' := [(8, .int (x8_38 + 0)), (0, .ref (a 0)), (2, .ref (a 3)), (4, .int x4_38), (5, .int x5_38), (6, .int x6_38), (7, .int x7_38), (9, .int x9_38)]) hx hb dL_whyPull_72 hl (by decide) rfl (fun ls hl => ?_)
            refine lv_iinc (v := (x9_38 + 1)) (lv' := [(9, .int (x9_38 + 1)), (8, .int (x8_38 + 0)), (0, .ref (a 0)), (2, .ref (a 3)), (4, .int x4_38), (5, .int x5_38), (6, .int x6_38), (7, .int x7_38)]) hx hb dL_whyPull_74 hl (k := 7) rfl (by rfl) (by decide) rfl (fun ls hl => ?_)
            refine lv_goto (tgt := 38) hx hb dL_whyPull_77 (by decide) ?_
            exact ih K_38 x4_38 x5_38 x6_38 x7_38 (x8_38 + 0) (x9_38 + 1) _ _ _ ls hf hP hD hS (lv_sub hl [2, 3, 4, 5, 6, 7, 1, 0] rfl) hk
          · replace hf := (if_neg c_7).symm.trans hf
            refine lv_aload_n hx hb dL_whyPull_55 rfl (lv_at hl 0 rfl) ?_
            refine lv_iconst (v := 3) hx hb dL_whyPull_56 (by decide) ?_
            refine lv_iload hx hb dL_whyPull_57 (lv_at hl 7 rfl) ?_
            refine lv_imul hx hb dL_whyPull_59 ?_
            refine lv_iconst (v := 2) hx hb dL_whyPull_60 (by decide) ?_
            refine lv_iadd hx hb dL_whyPull_61 ?_
            have g_8 := og hf
            replace hf := (if_pos g_8).symm.trans hf
            refine va_iald hx hb hX.1 hP 0 0 (n := 36) (f := (K_38 0)) rfl rfl g_8 dL_whyPull_62 ?_
            refine lv_if_lt (tgt := 70) hx hb dL_whyPull_63 (by decide) (fun c_9 => ?_) (fun c_9 => ?_)
            · replace hf := (if_pos c_9).symm.trans hf
              refine lv_iconst (v := 0) hx hb dL_whyPull_70 (by decide) ?_
              refine lv_iadd hx hb dL_whyPull_71 ?_
              refine lv_istore (lv' := [(8, .int (x8_38 + 0)), (0, .ref (a 0)), (2, .ref (a 3)), (4, .int x4_38), (5, .int x5_38), (6, .int x6_38), (7, .int x7_38), (9, .int x9_38)]) hx hb dL_whyPull_72 hl (by decide) rfl (fun ls hl => ?_)
              refine lv_iinc (v := (x9_38 + 1)) (lv' := [(9, .int (x9_38 + 1)), (8, .int (x8_38 + 0)), (0, .ref (a 0)), (2, .ref (a 3)), (4, .int x4_38), (5, .int x5_38), (6, .int x6_38), (7, .int x7_38)]) hx hb dL_whyPull_74 hl (k := 7) rfl (by rfl) (by decide) rfl (fun ls hl => ?_)
              refine lv_goto (tgt := 38) hx hb dL_whyPull_77 (by decide) ?_
              exact ih K_38 x4_38 x5_38 x6_38 x7_38 (x8_38 + 0) (x9_38 + 1) _ _ _ ls hf hP hD hS (lv_sub hl [2, 3, 4, 5, 6, 7, 1, 0] rfl) hk
            · replace hf := (if_neg c_9).symm.trans hf
              refine lv_iconst (v := 1) hx hb dL_whyPull_66 (by decide) ?_
              refine lv_goto (tgt := 71) hx hb dL_whyPull_67 (by decide) ?_
              refine lv_iadd hx hb dL_whyPull_71 ?_
              refine lv_istore (lv' := [(8, .int (x8_38 + 1)), (0, .ref (a 0)), (2, .ref (a 3)), (4, .int x4_38), (5, .int x5_38), (6, .int x6_38), (7, .int x7_38), (9, .int x9_38)]) hx hb dL_whyPull_72 hl (by decide) rfl (fun ls hl => ?_)
              refine lv_iinc (v := (x9_38 + 1)) (lv' := [(9, .int (x9_38 + 1)), (8, .int (x8_38 + 1)), (0, .ref (a 0)), (2, .ref (a 3)), (4, .int x4_38), (5, .int x5_38), (6, .int x6_38), (7, .int x7_38)]) hx hb dL_whyPull_74 hl (k := 7) rfl (by rfl) (by decide) rfl (fun ls hl => ?_)
              refine lv_goto (tgt := 38) hx hb dL_whyPull_77 (by decide) ?_
              exact ih K_38 x4_38 x5_38 x6_38 x7_38 (x8_38 + 1) (x9_38 + 1) _ _ _ ls hf hP hD hS (lv_sub hl [2, 3, 4, 5, 6, 7, 1, 0] rfl) hk
    obtain ⟨u_10, h_11, hf⟩ := ob hf
    refine hL_38 FUEL u_2.1 x4 x5 u_2.2 u_4 0 0 u_10 _ _ ls h_11 hP hD hS (lv_sub hl [4, 6, 8, 9, 3, 2, 1, 0] rfl) (fun H locs ls hP hD hS hl => ?_)
    clear hL_38
    refine lv_iload hx hb dL_whyPull_80 (lv_at hl 2 rfl) ?_
    refine lv_if_le (tgt := 101) hx hb dL_whyPull_82 (by decide) (fun c_12 => ?_) (fun c_12 => ?_)
    · replace hf := (if_pos c_12).symm.trans hf
      refine lv_iload hx hb dL_whyPull_101 (lv_at hl 4 rfl) ?_
      refine lv_aload_n hx hb dL_whyPull_103 rfl (lv_at hl 0 rfl) ?_
      refine lv_bipush (v := 7) hx hb dL_whyPull_104 (by decide) ?_
      refine va_iald hx hb hX.1 hP 3 0 (n := 8) (f := (u_2.1 3)) rfl rfl (by decide : ¬ ((7 : Int32) < 0 ∨ 8 ≤ Int32.toNatClampNeg 7)) dL_whyPull_106 ?_
      refine lv_icmp_lt (tgt := 114) hx hb dL_whyPull_107 (by decide) (fun c_13 => ?_) (fun c_13 => ?_)
      · replace hf := (if_pos c_13).symm.trans hf
        refine lv_iconst (v := 0) hx hb dL_whyPull_114 (by decide) ?_
        obtain rfl := (Option.some.inj hf)
        exact wr_i F rfl hP hS dL_whyPull_115
      · replace hf := (if_neg c_13).symm.trans hf
        refine lv_iconst (v := 3) hx hb dL_whyPull_110 (by decide) ?_
        refine lv_goto (tgt := 115) hx hb dL_whyPull_111 (by decide) ?_
        obtain rfl := (Option.some.inj hf)
        exact wr_i F rfl hP hS dL_whyPull_115
    · replace hf := (if_neg c_12).symm.trans hf
      refine lv_iload hx hb dL_whyPull_85 (lv_at hl 3 rfl) ?_
      refine lv_if_lt (tgt := 101) hx hb dL_whyPull_87 (by decide) (fun c_14 => ?_) (fun c_14 => ?_)
      · replace hf := (if_pos c_14).symm.trans hf
        refine lv_iload hx hb dL_whyPull_101 (lv_at hl 4 rfl) ?_
        refine lv_aload_n hx hb dL_whyPull_103 rfl (lv_at hl 0 rfl) ?_
        refine lv_bipush (v := 7) hx hb dL_whyPull_104 (by decide) ?_
        refine va_iald hx hb hX.1 hP 3 0 (n := 8) (f := (u_2.1 3)) rfl rfl (by decide : ¬ ((7 : Int32) < 0 ∨ 8 ≤ Int32.toNatClampNeg 7)) dL_whyPull_106 ?_
        refine lv_icmp_lt (tgt := 114) hx hb dL_whyPull_107 (by decide) (fun c_15 => ?_) (fun c_15 => ?_)
        · replace hf := (if_pos c_15).symm.trans hf
          refine lv_iconst (v := 0) hx hb dL_whyPull_114 (by decide) ?_
          obtain rfl := (Option.some.inj hf)
          exact wr_i F rfl hP hS dL_whyPull_115
        · replace hf := (if_neg c_15).symm.trans hf
          refine lv_iconst (v := 3) hx hb dL_whyPull_110 (by decide) ?_
          refine lv_goto (tgt := 115) hx hb dL_whyPull_111 (by decide) ?_
          obtain rfl := (Option.some.inj hf)
          exact wr_i F rfl hP hS dL_whyPull_115
      · replace hf := (if_neg c_14).symm.trans hf
        refine lv_iload hx hb dL_whyPull_90 (lv_at hl 3 rfl) ?_
        refine lv_iload hx hb dL_whyPull_92 (lv_at hl 1 rfl) ?_
        refine lv_icmp_eq (tgt := 101) hx hb dL_whyPull_94 (by decide) (fun c_16 => ?_) (fun c_16 => ?_)
        · replace hf := (if_pos c_16).symm.trans hf
          refine lv_iload hx hb dL_whyPull_101 (lv_at hl 4 rfl) ?_
          refine lv_aload_n hx hb dL_whyPull_103 rfl (lv_at hl 0 rfl) ?_
          refine lv_bipush (v := 7) hx hb dL_whyPull_104 (by decide) ?_
          refine va_iald hx hb hX.1 hP 3 0 (n := 8) (f := (u_2.1 3)) rfl rfl (by decide : ¬ ((7 : Int32) < 0 ∨ 8 ≤ Int32.toNatClampNeg 7)) dL_whyPull_106 ?_
          refine lv_icmp_lt (tgt := 114) hx hb dL_whyPull_107 (by decide) (fun c_17 => ?_) (fun c_17 => ?_)
          · replace hf := (if_pos c_17).symm.trans hf
            refine lv_iconst (v := 0) hx hb dL_whyPull_114 (by decide) ?_
            obtain rfl := (Option.some.inj hf)
            exact wr_i F rfl hP hS dL_whyPull_115
          · replace hf := (if_neg c_17).symm.trans hf
            refine lv_iconst (v := 3) hx hb dL_whyPull_110 (by decide) ?_
            refine lv_goto (tgt := 115) hx hb dL_whyPull_111 (by decide) ?_
            obtain rfl := (Option.some.inj hf)
            exact wr_i F rfl hP hS dL_whyPull_115
        · replace hf := (if_neg c_16).symm.trans hf
          refine lv_iconst (v := 2) hx hb dL_whyPull_97 (by decide) ?_
          refine lv_goto (tgt := 115) hx hb dL_whyPull_98 (by decide) ?_
          obtain rfl := (Option.some.inj hf)
          exact wr_i F rfl hP hS dL_whyPull_115
  · replace hf := (if_pos c_1).symm.trans hf
    refine lv_iconst (v := 1) hx hb dL_whyPull_8 (by decide) ?_
    obtain rfl := (Option.some.inj hf)
    exact wr_i F rfl hP hS dL_whyPull_9
def L_drop_L19 : Nat → SLaw → Int32 → Option (SLaw)
  | 0, _, _ => none
  | fu + 1, K_19, x3_19 => (if (4 * ((K_19 3) (Int32.toNatClampNeg 1))) ≤ x3_19 then some K_19 else (if ¬ ((x3_19 + 4) < 0 ∨ 64 ≤ Int32.toNatClampNeg (x3_19 + 4)) then (if ¬ (x3_19 < 0 ∨ 64 ≤ Int32.toNatClampNeg x3_19) then (bnd (up K_19 1 (upd (K_19 1) (Int32.toNatClampNeg x3_19) ((K_19 1) (Int32.toNatClampNeg (x3_19 + 4))))) fun M_8 => L_drop_L19 fu M_8 (x3_19 + 1)) else none) else none))
def L_drop (K : SLaw) (x2 : Int32) : Option (SLaw) := (bnd (up K 3 (upd (K 3) (Int32.toNatClampNeg 1) (((K 3) (Int32.toNatClampNeg 1)) - 1))) fun M_1 => (bnd (up M_1 3 (upd (M_1 3) (Int32.toNatClampNeg 6) (((M_1 3) (Int32.toNatClampNeg 6)) + 1))) fun M_3 => ((L_drop_L19 FUEL M_3 (4 * x2)).bind fun u_10 => some u_10)))
abbrev rm_L_drop : Room := { frames := 0, cells := 0, slots := 0, locals := 0 }
set_option maxHeartbeats 4000000 in
set_option maxRecDepth 100000 in
theorem c_L_drop (l : Launch) (D : va_G) (cI cP : ClassId) (a : Nat → Nat) (K : SLaw) (x2 : Int32) (z : SLaw) (hf : L_drop K x2 = some z) : MWv l yL_drop cL_drop 4 none rm_L_drop D cI cP [.ref (a 1), .ref (a 3), .int x2] (wLaw cI a K) (wLaw cI a z) := by
  refine MWv.of (by decide +kernel) (Nat.le_of_ble_eq_true rfl) ?_
  intro p e s m args below meth c ls A F hX hP hD hA hS hl
  have F : Fx p s m args meth c RL cL_drop 4 none := F
  have hx := F.1
  have hb := F.2.1
  have hown := F.2.2.2.1
  have hts := F.2.2.2.2.1
  have hl : lv_has ls 4 [(0, .ref (a 1)), (1, .ref (a 3)), (2, .int x2)] := hl
  unfold L_drop at hf
  refine lv_aload_n hx hb dL_drop_0 rfl (lv_at hl 1 rfl) ?_
  refine lv_iconst (v := 1) hx hb dL_drop_1 (by decide) ?_
  refine lv_dup2_11 hx hb dL_drop_2 rfl rfl ?_
  refine va_iald hx hb hX.1 hP 3 0 (n := 8) (f := (K 3)) rfl rfl (by decide : ¬ ((1 : Int32) < 0 ∨ 8 ≤ Int32.toNatClampNeg 1)) dL_drop_3 ?_
  refine lv_iconst (v := 1) hx hb dL_drop_4 (by decide) ?_
  refine lv_isub hx hb dL_drop_5 ?_
  refine va_iast hx hb hX.1 hP hD hS 3 0 (n := 8) (f := (K 3)) rfl rfl (by decide : ¬ ((1 : Int32) < 0 ∨ 8 ≤ Int32.toNatClampNeg 1)) dL_drop_6 (fun H locs hP hD hS => ?_)
  obtain ⟨M_1, e_2, hf⟩ := bnd_e hf
  have hP : va_P D vwCl (wLaw cI a M_1) H := by rw [e_2]; exact hP
  have hD : va_D A (wLaw cI a M_1) := by rw [e_2]; exact hD
  clear e_2
  refine lv_aload_n hx hb dL_drop_7 rfl (lv_at hl 1 rfl) ?_
  refine lv_bipush (v := 6) hx hb dL_drop_8 (by decide) ?_
  refine lv_dup2_11 hx hb dL_drop_10 rfl rfl ?_
  refine va_iald hx hb hX.1 hP 3 0 (n := 8) (f := (M_1 3)) rfl rfl (by decide : ¬ ((6 : Int32) < 0 ∨ 8 ≤ Int32.toNatClampNeg 6)) dL_drop_11 ?_
  refine lv_iconst (v := 1) hx hb dL_drop_12 (by decide) ?_
  refine lv_iadd hx hb dL_drop_13 ?_
  refine va_iast hx hb hX.1 hP hD hS 3 0 (n := 8) (f := (M_1 3)) rfl rfl (by decide : ¬ ((6 : Int32) < 0 ∨ 8 ≤ Int32.toNatClampNeg 6)) dL_drop_14 (fun H locs hP hD hS => ?_)
  obtain ⟨M_3, e_4, hf⟩ := bnd_e hf
  have hP : va_P D vwCl (wLaw cI a M_3) H := by rw [e_4]; exact hP
  have hD : va_D A (wLaw cI a M_3) := by rw [e_4]; exact hD
  clear e_4
  refine lv_iconst (v := 4) hx hb dL_drop_15 (by decide) ?_
  refine lv_iload_n hx hb dL_drop_16 rfl (lv_at hl 2 rfl) ?_
  refine lv_imul hx hb dL_drop_17 ?_
  refine lv_istore_n (lv' := [(3, .int (4 * x2)), (0, .ref (a 1)), (1, .ref (a 3)), (2, .int x2)]) hx hb dL_drop_18 rfl hl (by decide) rfl (fun ls hl => ?_)
  have hL_19 : ∀ (fu : Nat) (K_19 : SLaw) (x3_19 : Int32) (v : SLaw) (H : Heap) (locs : List Loc) (ls : Array Slot), L_drop_L19 fu K_19 x3_19 = some v → va_P D vwCl (wLaw cI a K_19) H → va_D A (wLaw cI a K_19) → va_S A s.heap H locs → lv_has ls 4 [(0, .ref (a 1)), (1, .ref (a 3)), (3, .int x3_19)] → (∀ (H : Heap) (locs : List Loc) (ls : Array Slot), va_P D vwCl (wLaw cI a v) H → va_D A (wLaw cI a v) → va_S A s.heap H locs → lv_has ls 4 [] → W p l e rm_L_drop s m args below meth c H locs 0 0 (QWv D below args s A (wLaw cI a z)) (F0 m 42 ls [])) → W p l e rm_L_drop s m args below meth c H locs 0 0 (QWv D below args s A (wLaw cI a z)) (F0 m 19 ls []) := by
    intro fu
    induction fu with
    | zero =>
      intro K_19 x3_19 v H locs ls hf
      exact absurd hf (by simp [L_drop_L19])
    | succ fu ih =>
      intro K_19 x3_19 v _ _ ls hf hP hD hS hl hk
      rw [L_drop_L19] at hf
      refine lv_iload_n hx hb dL_drop_19 rfl (lv_at hl 2 rfl) ?_
      refine lv_iconst (v := 4) hx hb dL_drop_20 (by decide) ?_
      refine lv_aload_n hx hb dL_drop_21 rfl (lv_at hl 1 rfl) ?_
      refine lv_iconst (v := 1) hx hb dL_drop_22 (by decide) ?_
      refine va_iald hx hb hX.1 hP 3 0 (n := 8) (f := (K_19 3)) rfl rfl (by decide : ¬ ((1 : Int32) < 0 ∨ 8 ≤ Int32.toNatClampNeg 1)) dL_drop_23 ?_
      refine lv_imul hx hb dL_drop_24 ?_
      refine lv_icmp_ge (tgt := 42) hx hb dL_drop_25 (by decide) (fun c_5 => ?_) (fun c_5 => ?_)
      · replace hf := (if_pos c_5).symm.trans hf
        obtain rfl := Option.some.inj hf
        exact hk _ _ ls hP hD hS (lv_sub hl [] rfl)
      · replace hf := (if_neg c_5).symm.trans hf
        refine lv_aload_n hx hb dL_drop_28 rfl (lv_at hl 0 rfl) ?_
        refine lv_iload_n hx hb dL_drop_29 rfl (lv_at hl 2 rfl) ?_
        refine lv_aload_n hx hb dL_drop_30 rfl (lv_at hl 0 rfl) ?_
        refine lv_iload_n hx hb dL_drop_31 rfl (lv_at hl 2 rfl) ?_
        refine lv_iconst (v := 4) hx hb dL_drop_32 (by decide) ?_
        refine lv_iadd hx hb dL_drop_33 ?_
        have g_6 := og hf
        replace hf := (if_pos g_6).symm.trans hf
        refine va_iald hx hb hX.1 hP 1 0 (n := 64) (f := (K_19 1)) rfl rfl g_6 dL_drop_34 ?_
        have g_7 := og hf
        replace hf := (if_pos g_7).symm.trans hf
        refine va_iast hx hb hX.1 hP hD hS 1 0 (n := 64) (f := (K_19 1)) rfl rfl g_7 dL_drop_35 (fun H locs hP hD hS => ?_)
        obtain ⟨M_8, e_9, hf⟩ := bnd_e hf
        have hP : va_P D vwCl (wLaw cI a M_8) H := by rw [e_9]; exact hP
        have hD : va_D A (wLaw cI a M_8) := by rw [e_9]; exact hD
        clear e_9
        refine lv_iinc (v := (x3_19 + 1)) (lv' := [(3, .int (x3_19 + 1)), (0, .ref (a 1)), (1, .ref (a 3))]) hx hb dL_drop_36 hl (k := 2) rfl (by rfl) (by decide) rfl (fun ls hl => ?_)
        refine lv_goto (tgt := 19) hx hb dL_drop_39 (by decide) ?_
        exact ih M_8 (x3_19 + 1) _ _ _ ls hf hP hD hS (lv_sub hl [1, 2, 0] rfl) hk
  obtain ⟨u_10, h_11, hf⟩ := ob hf
  refine hL_19 FUEL M_3 (4 * x2) u_10 _ _ ls h_11 hP hD hS (lv_sub hl [1, 2, 0] rfl) (fun H locs ls hP hD hS hl => ?_)
  clear hL_19
  obtain rfl := (Option.some.inj hf)
  exact wr_v F hP hS dL_drop_42
