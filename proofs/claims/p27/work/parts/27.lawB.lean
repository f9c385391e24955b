def L_arePuppets_J34 (K_34 : SLM) (x5_34 : Int32) (x6_34 : Int32) (x7_34 : Int32) (x8_34 : Int32) (t0_34 : Int32) (t1_34 : Int32) : Option (Int32) := (if t1_34 = t0_34 then ((X6_puppetOf K_34.2 (-1) 0).bind fun u_10 => (if u_10 = (-1000001) then some 1 else some 0)) else some 0)
def L_arePuppets_L83 : Nat → SLM → Int32 → Int32 → Int32 → Int32 → Int32 → Int32 → Int32 → Int32 → Int32 → Option (Int32)
  | 0, _, _, _, _, _, _, _, _, _, _ => none
  | fu + 1, K_83, x5_83, x6_83, x7_83, x8_83, x10_83, x11_83, x12_83, x13_83, x14_83 => (if ((K_83.1 3) (Int32.toNatClampNeg 1)) ≤ x14_83 then some x11_83 else (if ¬ ((4 * x14_83) < 0 ∨ 64 ≤ Int32.toNatClampNeg (4 * x14_83)) then (if ((K_83.1 1) (Int32.toNatClampNeg (4 * x14_83))) = x10_83 then L_arePuppets_L83 fu K_83 x5_83 x6_83 x7_83 x8_83 x10_83 (x11_83 + 1) x12_83 x13_83 (x14_83 + 1) else (if ¬ (((4 * x14_83) + 1) < 0 ∨ 64 ≤ Int32.toNatClampNeg ((4 * x14_83) + 1)) then (if ((K_83.1 1) (Int32.toNatClampNeg ((4 * x14_83) + 1))) = x10_83 then L_arePuppets_L83 fu K_83 x5_83 x6_83 x7_83 x8_83 x10_83 (x11_83 + 1) x12_83 x13_83 (x14_83 + 1) else L_arePuppets_L83 fu K_83 x5_83 x6_83 x7_83 x8_83 x10_83 (x11_83 + 0) x12_83 x13_83 (x14_83 + 1)) else none)) else none))
def L_arePuppets_J154 (K_154 : SLM) (x5_154 : Int32) (x6_154 : Int32) (x7_154 : Int32) (x8_154 : Int32) (x10_154 : Int32) (x11_154 : Int32) (x13_154 : Int32) (x14_154 : Int32) (t0_154 : Int32) (t1_154 : Int32) (t2_154 : Int32) : Int32 := (if t1_154 = t0_154 then (1 <<< (x14_154 &&& 31)) else 0)
def L_arePuppets_L134 : Nat → SLM → Int32 → Int32 → Int32 → Int32 → Int32 → Int32 → Int32 → Int32 → Int32 → Option (Int32 × Int32)
  | 0, _, _, _, _, _, _, _, _, _, _ => none
  | fu + 1, K_134, x5_134, x6_134, x7_134, x8_134, x10_134, x11_134, x12_134, x13_134, x14_134 => (if ((K_134.1 3) (Int32.toNatClampNeg 0)) ≤ x14_134 then some (x12_134, x13_134) else (if ¬ (x14_134 < 0 ∨ 36 ≤ Int32.toNatClampNeg x14_134) then (if ¬ (x10_134 < 0 ∨ 36 ≤ Int32.toNatClampNeg x10_134) then (if ((K_134.1 4) (Int32.toNatClampNeg x14_134)) = ((K_134.1 4) (Int32.toNatClampNeg x10_134)) then (if ¬ ((3 * x14_134) < 0 ∨ 36 ≤ Int32.toNatClampNeg (3 * x14_134)) then L_arePuppets_L134 fu K_134 x5_134 x6_134 x7_134 x8_134 x10_134 x11_134 (x12_134 ||| (L_arePuppets_J154 K_134 x5_134 x6_134 x7_134 x8_134 x10_134 x11_134 x13_134 x14_134 ((K_134.1 4) (Int32.toNatClampNeg x10_134)) ((K_134.1 4) (Int32.toNatClampNeg x14_134)) x12_134)) (x13_134 + ((K_134.1 0) (Int32.toNatClampNeg (3 * x14_134)))) (x14_134 + 1) else none) else L_arePuppets_L134 fu K_134 x5_134 x6_134 x7_134 x8_134 x10_134 x11_134 (x12_134 ||| (L_arePuppets_J154 K_134 x5_134 x6_134 x7_134 x8_134 x10_134 x11_134 x13_134 x14_134 ((K_134.1 4) (Int32.toNatClampNeg x10_134)) ((K_134.1 4) (Int32.toNatClampNeg x14_134)) x12_134)) (x13_134 + 0) (x14_134 + 1)) else none) else none))
def L_arePuppets_J211 (K_211 : SLM) (x5_211 : Int32) (x6_211 : Int32) (x7_211 : Int32) (x10_211 : Int32) (x11_211 : Int32) (x12_211 : Int32) (x13_211 : Int32) (t0_211 : Int32) (t1_211 : Int32) (t2_211 : Int32) : Int32 := (if t1_211 = t0_211 then 1 else 0)
def L_arePuppets_J232 (K_232 : SLM) (x5_232 : Int32) (x6_232 : Int32) (x8_232 : Int32) (x10_232 : Int32) (x11_232 : Int32) (x12_232 : Int32) (x13_232 : Int32) (t0_232 : Int32) (t1_232 : Int32) : Int32 := (if 0 ≤ t0_232 then (1 <<< (x10_232 &&& 31)) else 0)
def L_arePuppets_J295 (K_295 : SLM) (x5_295 : Int32) (x6_295 : Int32) (x7_295 : Int32) (x8_295 : Int32) (x10_295 : Int32) (x11_295 : Int32) (x12_295 : Int32) (x13_295 : Int32) (t0_295 : Int32) (t1_295 : Int32) : Option (Int32) := (if 0 ≤ t0_295 then (if ¬ (((3 * x10_295) + 2) < 0 ∨ 36 ≤ Int32.toNatClampNeg ((3 * x10_295) + 2)) then some ((K_295.1 0) (Int32.toNatClampNeg ((3 * x10_295) + 2))) else none) else some (-1000004))
def L_arePuppets_L58 : Nat → SLM → Int32 → Int32 → Int32 → Int32 → Int32 → Int32 → Option (Int32 × Int32 × Int32)
  | 0, _, _, _, _, _, _, _ => none
  | fu + 1, K_58, x5_58, x6_58, x7_58, x8_58, x9_58, x10_58 => (if ((K_58.1 3) (Int32.toNatClampNeg 0)) ≤ x10_58 then some (x7_58, x8_58, x9_58) else (if x9_58 = 0 then some (x7_58, x8_58, x9_58) else ((L_arePuppets_L83 FUEL K_58 x5_58 x6_58 x7_58 x8_58 x10_58 0 0 0 0).bind fun u_22 => ((L_arePuppets_L134 FUEL K_58 x5_58 x6_58 x7_58 x8_58 x10_58 u_22 0 0 0).bind fun u_30 => (if ¬ (x10_58 < 0 ∨ 36 ≤ Int32.toNatClampNeg x10_58) then (if ¬ (((3 * x10_58) + 2) < 0 ∨ 36 ≤ Int32.toNatClampNeg ((3 * x10_58) + 2)) then ((X6_puppetOf K_58.2 x10_58 0).bind fun u_36 => (if ¬ ((3 * x10_58) < 0 ∨ 36 ≤ Int32.toNatClampNeg (3 * x10_58)) then (if u_36 = ((K_58.1 0) (Int32.toNatClampNeg (3 * x10_58))) then ((X6_puppetOf K_58.2 x10_58 1).bind fun u_40 => (if ¬ (((3 * x10_58) + 1) < 0 ∨ 36 ≤ Int32.toNatClampNeg ((3 * x10_58) + 1)) then (if u_40 = ((K_58.1 0) (Int32.toNatClampNeg ((3 * x10_58) + 1))) then ((X6_puppetOf K_58.2 x10_58 2).bind fun u_44 => ((L_arePuppets_J295 K_58 x5_58 x6_58 (x7_58 ||| (L_arePuppets_J232 K_58 x5_58 x6_58 (x8_58 + (L_arePuppets_J211 K_58 x5_58 x6_58 x7_58 x10_58 u_22 u_30.1 u_30.2 x10_58 ((K_58.1 4) (Int32.toNatClampNeg x10_58)) x8_58)) x10_58 u_22 u_30.1 u_30.2 ((K_58.1 0) (Int32.toNatClampNeg ((3 * x10_58) + 2))) x7_58)) (x8_58 + (L_arePuppets_J211 K_58 x5_58 x6_58 x7_58 x10_58 u_22 u_30.1 u_30.2 x10_58 ((K_58.1 4) (Int32.toNatClampNeg x10_58)) x8_58)) x10_58 u_22 u_30.1 u_30.2 ((K_58.1 0) (Int32.toNatClampNeg ((3 * x10_58) + 2))) u_44).bind fun u_48 => (if u_44 = u_48 then ((X6_puppetOf K_58.2 x10_58 3).bind fun u_51 => (if ¬ ((24 + x10_58) < 0 ∨ 36 ≤ Int32.toNatClampNeg (24 + x10_58)) then (if u_51 = ((K_58.1 4) (Int32.toNatClampNeg (24 + x10_58))) then ((X6_puppetOf K_58.2 x10_58 4).bind fun u_55 => (if u_55 = ((K_58.1 4) (Int32.toNatClampNeg x10_58)) then ((X6_puppetOf K_58.2 x10_58 5).bind fun u_58 => (if ¬ ((12 + x10_58) < 0 ∨ 36 ≤ Int32.toNatClampNeg (12 + x10_58)) then (if u_58 = ((K_58.1 4) (Int32.toNatClampNeg (12 + x10_58))) then ((X6_puppetOf K_58.2 x10_58 6).bind fun u_62 => (if u_62 = u_22 then ((X6_puppetOf K_58.2 x10_58 7).bind fun u_65 => (if u_65 = u_30.1 then ((X6_puppetOf K_58.2 x10_58 8).bind fun u_68 => (if u_68 = u_30.2 then L_arePuppets_L58 fu K_58 x5_58 x6_58 (x7_58 ||| (L_arePuppets_J232 K_58 x5_58 x6_58 (x8_58 + (L_arePuppets_J211 K_58 x5_58 x6_58 x7_58 x10_58 u_22 u_30.1 u_30.2 x10_58 ((K_58.1 4) (Int32.toNatClampNeg x10_58)) x8_58)) x10_58 u_22 u_30.1 u_30.2 ((K_58.1 0) (Int32.toNatClampNeg ((3 * x10_58) + 2))) x7_58)) (x8_58 + (L_arePuppets_J211 K_58 x5_58 x6_58 x7_58 x10_58 u_22 u_30.1 u_30.2 x10_58 ((K_58.1 4) (Int32.toNatClampNeg x10_58)) x8_58)) 1 (x10_58 + 1) else L_arePuppets_L58 fu K_58 x5_58 x6_58 (x7_58 ||| (L_arePuppets_J232 K_58 x5_58 x6_58 (x8_58 + (L_arePuppets_J211 K_58 x5_58 x6_58 x7_58 x10_58 u_22 u_30.1 u_30.2 x10_58 ((K_58.1 4) (Int32.toNatClampNeg x10_58)) x8_58)) x10_58 u_22 u_30.1 u_30.2 ((K_58.1 0) (Int32.toNatClampNeg ((3 * x10_58) + 2))) x7_58)) (x8_58 + (L_arePuppets_J211 K_58 x5_58 x6_58 x7_58 x10_58 u_22 u_30.1 u_30.2 x10_58 ((K_58.1 4) (Int32.toNatClampNeg x10_58)) x8_58)) 0 (x10_58 + 1))) else L_arePuppets_L58 fu K_58 x5_58 x6_58 (x7_58 ||| (L_arePuppets_J232 K_58 x5_58 x6_58 (x8_58 + (L_arePuppets_J211 K_58 x5_58 x6_58 x7_58 x10_58 u_22 u_30.1 u_30.2 x10_58 ((K_58.1 4) (Int32.toNatClampNeg x10_58)) x8_58)) x10_58 u_22 u_30.1 u_30.2 ((K_58.1 0) (Int32.toNatClampNeg ((3 * x10_58) + 2))) x7_58)) (x8_58 + (L_arePuppets_J211 K_58 x5_58 x6_58 x7_58 x10_58 u_22 u_30.1 u_30.2 x10_58 ((K_58.1 4) (Int32.toNatClampNeg x10_58)) x8_58)) 0 (x10_58 + 1))) else L_arePuppets_L58 fu K_58 x5_58 x6_58 (x7_58 ||| (L_arePuppets_J232 K_58 x5_58 x6_58 (x8_58 + (L_arePuppets_J211 K_58 x5_58 x6_58 x7_58 x10_58 u_22 u_30.1 u_30.2 x10_58 ((K_58.1 4) (Int32.toNatClampNeg x10_58)) x8_58)) x10_58 u_22 u_30.1 u_30.2 ((K_58.1 0) (Int32.toNatClampNeg ((3 * x10_58) + 2))) x7_58)) (x8_58 + (L_arePuppets_J211 K_58 x5_58 x6_58 x7_58 x10_58 u_22 u_30.1 u_30.2 x10_58 ((K_58.1 4) (Int32.toNatClampNeg x10_58)) x8_58)) 0 (x10_58 + 1))) else L_arePuppets_L58 fu K_58 x5_58 x6_58 (x7_58 ||| (L_arePuppets_J232 K_58 x5_58 x6_58 (x8_58 + (L_arePuppets_J211 K_58 x5_58 x6_58 x7_58 x10_58 u_22 u_30.1 u_30.2 x10_58 ((K_58.1 4) (Int32.toNatClampNeg x10_58)) x8_58)) x10_58 u_22 u_30.1 u_30.2 ((K_58.1 0) (Int32.toNatClampNeg ((3 * x10_58) + 2))) x7_58)) (x8_58 + (L_arePuppets_J211 K_58 x5_58 x6_58 x7_58 x10_58 u_22 u_30.1 u_30.2 x10_58 ((K_58.1 4) (Int32.toNatClampNeg x10_58)) x8_58)) 0 (x10_58 + 1)) else none)) else L_arePuppets_L58 fu K_58 x5_58 x6_58 (x7_58 ||| (L_arePuppets_J232 K_58 x5_58 x6_58 (x8_58 + (L_arePuppets_J211 K_58 x5_58 x6_58 x7_58 x10_58 u_22 u_30.1 u_30.2 x10_58 ((K_58.1 4) (Int32.toNatClampNeg x10_58)) x8_58)) x10_58 u_22 u_30.1 u_30.2 ((K_58.1 0) (Int32.toNatClampNeg ((3 * x10_58) + 2))) x7_58)) (x8_58 + (L_arePuppets_J211 K_58 x5_58 x6_58 x7_58 x10_58 u_22 u_30.1 u_30.2 x10_58 ((K_58.1 4) (Int32.toNatClampNeg x10_58)) x8_58)) 0 (x10_58 + 1))) else L_arePuppets_L58 fu K_58 x5_58 x6_58 (x7_58 ||| (L_arePuppets_J232 K_58 x5_58 x6_58 (x8_58 + (L_arePuppets_J211 K_58 x5_58 x6_58 x7_58 x10_58 u_22 u_30.1 u_30.2 x10_58 ((K_58.1 4) (Int32.toNatClampNeg x10_58)) x8_58)) x10_58 u_22 u_30.1 u_30.2 ((K_58.1 0) (Int32.toNatClampNeg ((3 * x10_58) + 2))) x7_58)) (x8_58 + (L_arePuppets_J211 K_58 x5_58 x6_58 x7_58 x10_58 u_22 u_30.1 u_30.2 x10_58 ((K_58.1 4) (Int32.toNatClampNeg x10_58)) x8_58)) 0 (x10_58 + 1)) else none)) else L_arePuppets_L58 fu K_58 x5_58 x6_58 (x7_58 ||| (L_arePuppets_J232 K_58 x5_58 x6_58 (x8_58 + (L_arePuppets_J211 K_58 x5_58 x6_58 x7_58 x10_58 u_22 u_30.1 u_30.2 x10_58 ((K_58.1 4) (Int32.toNatClampNeg x10_58)) x8_58)) x10_58 u_22 u_30.1 u_30.2 ((K_58.1 0) (Int32.toNatClampNeg ((3 * x10_58) + 2))) x7_58)) (x8_58 + (L_arePuppets_J211 K_58 x5_58 x6_58 x7_58 x10_58 u_22 u_30.1 u_30.2 x10_58 ((K_58.1 4) (Int32.toNatClampNeg x10_58)) x8_58)) 0 (x10_58 + 1)))) else L_arePuppets_L58 fu K_58 x5_58 x6_58 (x7_58 ||| (L_arePuppets_J232 K_58 x5_58 x6_58 (x8_58 + (L_arePuppets_J211 K_58 x5_58 x6_58 x7_58 x10_58 u_22 u_30.1 u_30.2 x10_58 ((K_58.1 4) (Int32.toNatClampNeg x10_58)) x8_58)) x10_58 u_22 u_30.1 u_30.2 ((K_58.1 0) (Int32.toNatClampNeg ((3 * x10_58) + 2))) x7_58)) (x8_58 + (L_arePuppets_J211 K_58 x5_58 x6_58 x7_58 x10_58 u_22 u_30.1 u_30.2 x10_58 ((K_58.1 4) (Int32.toNatClampNeg x10_58)) x8_58)) 0 (x10_58 + 1)) else none)) else L_arePuppets_L58 fu K_58 x5_58 x6_58 (x7_58 ||| (L_arePuppets_J232 K_58 x5_58 x6_58 (x8_58 + (L_arePuppets_J211 K_58 x5_58 x6_58 x7_58 x10_58 u_22 u_30.1 u_30.2 x10_58 ((K_58.1 4) (Int32.toNatClampNeg x10_58)) x8_58)) x10_58 u_22 u_30.1 u_30.2 ((K_58.1 0) (Int32.toNatClampNeg ((3 * x10_58) + 2))) x7_58)) (x8_58 + (L_arePuppets_J211 K_58 x5_58 x6_58 x7_58 x10_58 u_22 u_30.1 u_30.2 x10_58 ((K_58.1 4) (Int32.toNatClampNeg x10_58)) x8_58)) 0 (x10_58 + 1)) else none)) else none) else none)))))
def L_arePuppets_J420 (K_420 : SLM) (x5_420 : Int32) (x6_420 : Int32) (x7_420 : Int32) (x8_420 : Int32) (x9_420 : Int32) (t0_420 : Int32) : Option (Int32) := (if t0_420 = 0 then some (-1000004) else (if x6_420 < (2 * x5_420) then some 1 else (if (2 * x5_420) = x6_420 then (if ¬ ((24 + ((K_420.1 3) (Int32.toNatClampNeg 2))) < 0 ∨ 36 ≤ Int32.toNatClampNeg (24 + ((K_420.1 3) (Int32.toNatClampNeg 2)))) then (if ((K_420.1 4) (Int32.toNatClampNeg (24 + ((K_420.1 3) (Int32.toNatClampNeg 2))))) = 1 then some 1 else some 0) else none) else some 0)))
def L_arePuppets_J567 (K_567 : SLM) (x7_567 : Int32) (t0_567 : Int32) (t1_567 : Int32) : Int32 := (if t0_567 = 0 then (-1000004) else ((K_567.1 3) (Int32.toNatClampNeg 2)))
def L_arePuppets (K : SLM) : Option (SLM × Int32) := ((L_yes K.1 (-1)).bind fun u_1 => (bnd (u_1.1, K.2) fun M_3 => ((L_seats M_3.1).bind fun u_5 => ((X6_puppetOf M_3.2 ((M_3.1 3) (Int32.toNatClampNeg 0)) 0).bind fun u_7 => ((L_arePuppets_J34 M_3 u_1.2 u_5 0 0 (-1000001) u_7).bind fun u_13 => ((L_arePuppets_L58 FUEL M_3 u_1.2 u_5 0 0 u_13 0).bind fun u_71 => ((L_arePuppets_J420 M_3 u_1.2 u_5 u_71.1 u_71.2.1 u_71.2.2 ((M_3.1 3) (Int32.toNatClampNeg 0))).bind fun u_78 => (if u_71.2.2 = 0 then some (M_3, 0) else ((X6_count M_3.2 0).bind fun u_81 => (if u_81 = ((M_3.1 3) (Int32.toNatClampNeg 0)) then ((X6_count M_3.2 1).bind fun u_84 => (if u_84 = ((M_3.1 3) (Int32.toNatClampNeg 1)) then ((X6_count M_3.2 2).bind fun u_87 => (if u_87 = u_71.2.1 then ((X6_count M_3.2 3).bind fun u_90 => (if u_90 = u_71.2.1 then ((X6_count M_3.2 4).bind fun u_93 => (if u_93 = u_5 then ((X6_count M_3.2 5).bind fun u_96 => (if u_96 = u_1.2 then ((X6_count M_3.2 6).bind fun u_99 => (if u_99 = (u_5 - u_1.2) then ((X6_count M_3.2 7).bind fun u_102 => (if u_102 = u_78 then ((X6_count M_3.2 8).bind fun u_105 => (if u_105 = (L_arePuppets_J567 M_3 u_71.1 ((M_3.1 3) (Int32.toNatClampNeg 0)) u_105) then ((X6_count M_3.2 9).bind fun u_109 => (if u_109 = u_71.1 then ((X6_count M_3.2 10).bind fun u_112 => (if u_112 = ((M_3.1 3) (Int32.toNatClampNeg 3)) then ((X6_count M_3.2 11).bind fun u_115 => (if u_115 = ((M_3.1 3) (Int32.toNatClampNeg 4)) then ((X6_count M_3.2 12).bind fun u_118 => (if u_118 = ((M_3.1 3) (Int32.toNatClampNeg 5)) then ((X6_count M_3.2 15).bind fun u_121 => (if u_121 = ((M_3.1 3) (Int32.toNatClampNeg 6)) then ((X6_count M_3.2 20).bind fun u_124 => (if u_124 = ((M_3.1 3) (Int32.toNatClampNeg 7)) then some (M_3, 1) else some (M_3, 0))) else some (M_3, 0))) else some (M_3, 0))) else some (M_3, 0))) else some (M_3, 0))) else some (M_3, 0))) else some (M_3, 0))) else some (M_3, 0))) else some (M_3, 0))) else some (M_3, 0))) else some (M_3, 0))) else some (M_3, 0))) else some (M_3, 0))) else some (M_3, 0))) else some (M_3, 0)))))))))))
abbrev rm_L_arePuppets : Room := { frames := 5, cells := 0, slots := 0, locals := 112 }
set_option maxHeartbeats 4000000 in
set_option maxRecDepth 100000 in
theorem c_L_arePuppets (l : Launch) (D : va_G) (cI cP : ClassId) (o h : Nat) (tx tn : Nat → Nat) (Ad : Nat → Nat → Nat) (a : Nat → Nat) (K : SLM) (z : SLM × Int32) (hf : L_arePuppets K  = some z) : MWi l yL_arePuppets cL_arePuppets 15 (some .boolean) rm_L_arePuppets D cI cP [.ref o, .ref (a 0), .ref (a 1), .ref (a 3), .ref (a 4)] (wLM cI cP o h tx tn Ad a K) (wLM cI cP o h tx tn Ad a z.1) z.2 := by
  refine MWi.of (by decide +kernel) (Nat.le_of_ble_eq_true rfl) ?_
  intro p e s m args below meth c ls A F hX hP hD hA hS hl
  have F : Fx p s m args meth c RL cL_arePuppets 15 (some .boolean) := F
  have hx := F.1
  have hb := F.2.1
  have hown := F.2.2.2.1
  have hts := F.2.2.2.2.1
  have hl : lv_has ls 15 [(0, .ref o), (1, .ref (a 0)), (2, .ref (a 1)), (3, .ref (a 3)), (4, .ref (a 4))] := hl
  unfold L_arePuppets at hf
  refine lv_aload_n hx hb dL_arePuppets_0 rfl (lv_at hl 1 rfl) ?_
  refine lv_aload_n hx hb dL_arePuppets_1 rfl (lv_at hl 2 rfl) ?_
  refine lv_aload_n hx hb dL_arePuppets_2 rfl (lv_at hl 3 rfl) ?_
  refine lv_aload hx hb dL_arePuppets_3 (lv_at hl 4 rfl) ?_
  refine lv_iconst (v := (-1)) hx hb dL_arePuppets_5 (by decide) ?_
  obtain ⟨u_1, h_2, hf⟩ := ob hf
  refine k_wi (runS F wdL_19 (rm := rm_L_yes) (As := [.ref (a 0), .ref (a 1), .ref (a 3), .ref (a 4), .int (-1)]) (rest := []) ⟨rfl, rfl⟩ ⟨Nat.le_of_ble_eq_true rfl, Nat.le_of_ble_eq_true rfl⟩ hl.1 rfl rfl (Nat.le_of_ble_eq_true rfl) dL_arePuppets_6 ⟨Nat.zero_le _, Nat.zero_le _⟩) (c_L_yes l D cI cP a K.1 (-1) _ h_2) hX trivial (Cut.one (Bs := (bLM cI cP o h tx tn Ad a K)) (k := 0) rfl rfl) hP hD hS hA (fun H locs hP hD hS => ?_)
  obtain ⟨M_3, e_4, hf⟩ := bnd_e hf
  have hP : va_P D vwCl (wLM cI cP o h tx tn Ad a M_3) H := by rw [e_4]; exact hP
  have hD : va_D A (wLM cI cP o h tx tn Ad a M_3) := by rw [e_4]; exact hD
  clear e_4
  refine lv_istore (lv' := [(5, .int u_1.2), (0, .ref o), (1, .ref (a 0)), (2, .ref (a 1)), (3, .ref (a 3)), (4, .ref (a 4))]) hx hb dL_arePuppets_9 hl (by decide) rfl (fun ls hl => ?_)
  refine lv_aload_n hx hb dL_arePuppets_11 rfl (lv_at hl 2 rfl) ?_
  refine lv_aload_n hx hb dL_arePuppets_12 rfl (lv_at hl 4 rfl) ?_
  obtain ⟨u_5, h_6, hf⟩ := ob hf
  refine k_rd (runS F wdL_22 (rm := rm_L_seats) (As := [.ref (a 0), .ref (a 3)]) (rest := []) ⟨rfl, rfl⟩ ⟨Nat.le_of_ble_eq_true rfl, Nat.le_of_ble_eq_true rfl⟩ hl.1 rfl rfl (Nat.le_of_ble_eq_true rfl) dL_arePuppets_13 ⟨Nat.zero_le _, Nat.zero_le _⟩) (c_L_seats l D cI cP a M_3.1  _ h_6) hX trivial (va_blk (Bs := (bLM cI cP o h tx tn Ad a M_3)) hP 0 rfl) hP hS hA (fun H locs hP hS => ?_)
  refine lv_istore (lv' := [(6, .int u_5), (5, .int u_1.2), (0, .ref o), (1, .ref (a 0)), (2, .ref (a 1)), (3, .ref (a 3)), (4, .ref (a 4))]) hx hb dL_arePuppets_16 hl (by decide) rfl (fun ls hl => ?_)
  refine lv_iconst (v := 0) hx hb dL_arePuppets_18 (by decide) ?_
  refine lv_istore (lv' := [(7, .int 0), (6, .int u_5), (5, .int u_1.2), (0, .ref o), (1, .ref (a 0)), (2, .ref (a 1)), (3, .ref (a 3)), (4, .ref (a 4))]) hx hb dL_arePuppets_19 hl (by decide) rfl (fun ls hl => ?_)
  refine lv_iconst (v := 0) hx hb dL_arePuppets_21 (by decide) ?_
  refine lv_istore (lv' := [(8, .int 0), (7, .int 0), (6, .int u_5), (5, .int u_1.2), (0, .ref o), (1, .ref (a 0)), (2, .ref (a 1)), (3, .ref (a 3)), (4, .ref (a 4))]) hx hb dL_arePuppets_22 hl (by decide) rfl (fun ls hl => ?_)
  refine lv_aload_n hx hb dL_arePuppets_24 rfl (lv_at hl 4 rfl) ?_
  refine lv_aload_n hx hb dL_arePuppets_25 rfl (lv_at hl 7 rfl) ?_
  refine lv_iconst (v := 0) hx hb dL_arePuppets_26 (by decide) ?_
  refine va_iald hx hb hX.1 hP 3 0 (n := 8) (f := (M_3.1 3)) rfl rfl (by decide : ¬ ((0 : Int32) < 0 ∨ 8 ≤ Int32.toNatClampNeg 0)) dL_arePuppets_27 ?_
  refine lv_iconst (v := 0) hx hb dL_arePuppets_28 (by decide) ?_
  obtain ⟨u_7, h_8, hf⟩ := ob hf
  refine k_rd (runV F wdL_26 (rm := rm_X6_puppetOf) (As := [.int ((M_3.1 3) (Int32.toNatClampNeg 0)), .int 0]) (rest := []) ⟨rfl, rfl⟩ ⟨Nat.le_of_ble_eq_true rfl, Nat.le_of_ble_eq_true rfl⟩ hl.1 rfl rfl (Nat.le_of_ble_eq_true rfl) dL_arePuppets_29 ⟨Nat.zero_le _, Nat.zero_le _⟩) (c_X6_puppetOf l D cI cP o h tx tn Ad M_3.2 ((M_3.1 3) (Int32.toNatClampNeg 0)) 0 _ h_8) hX (va_recv hX.1 (va_blk (Bs := (bLM cI cP o h tx tn Ad a M_3)) hP 1 rfl) (ci := 6) (q0 := 0) rfl rfl) (va_blk (Bs := (bLM cI cP o h tx tn Ad a M_3)) hP 1 rfl) hP hS hA (fun H locs hP hS => ?_)
  refine lv_ldc (v := (-1000001)) hx hb hown (hts _ q_316) dL_arePuppets_32 ?_
  have hJ_34 : ∀ (K_34 : SLM) (x5_34 : Int32) (x6_34 : Int32) (x7_34 : Int32) (x8_34 : Int32) (t0_34 : Int32) (t1_34 : Int32) (v : Int32) (H : Heap) (locs : List Loc) (ls : Array Slot), L_arePuppets_J34 K_34 x5_34 x6_34 x7_34 x8_34 t0_34 t1_34 = some v → va_P D vwCl (wLM cI cP o h tx tn Ad a K_34) H → va_D A (wLM cI cP o h tx tn Ad a K_34) → va_S A s.heap H locs → lv_has ls 15 [(8, .int x8_34), (7, .int x7_34), (6, .int x6_34), (5, .int x5_34), (0, .ref o), (1, .ref (a 0)), (2, .ref (a 1)), (3, .ref (a 3)), (4, .ref (a 4))] → (∀ (H : Heap) (locs : List Loc) (ls : Array Slot), va_P D vwCl (wLM cI cP o h tx tn Ad a K_34) H → va_D A (wLM cI cP o h tx tn Ad a K_34) → va_S A s.heap H locs → lv_has ls 15 [(0, .ref o), (1, .ref (a 0)), (2, .ref (a 1)), (3, .ref (a 3)), (4, .ref (a 4)), (5, .int x5_34), (6, .int x6_34), (7, .int x7_34), (8, .int x8_34)] → W p l e rm_L_arePuppets s m args below meth c H locs 0 0 (QWi D below args s A (wLM cI cP o h tx tn Ad a z.1) z.2) (F0 m 53 ls [.int v])) → W p l e rm_L_arePuppets s m args below meth c H locs 0 0 (QWi D below args s A (wLM cI cP o h tx tn Ad a z.1) z.2) (F0 m 34 ls [.int t0_34, .int t1_34]) := by
    intro K_34 x5_34 x6_34 x7_34 x8_34 t0_34 t1_34 v _ _ ls hf hP hD hS hl hk
    unfold L_arePuppets_J34 at hf
    refine lv_icmp_ne (tgt := 52) hx hb dL_arePuppets_34 (by decide) (fun c_9 => ?_) (fun c_9 => ?_)
    · replace hf := (if_neg c_9).symm.trans hf
      refine lv_iconst (v := 0) hx hb dL_arePuppets_52 (by decide) ?_
      obtain rfl := Option.some.inj hf
      exact hk _ _ ls hP hD hS (lv_sub hl [4, 5, 6, 7, 8, 3, 2, 1, 0] rfl)
    · replace hf := (if_pos c_9).symm.trans hf
      refine lv_aload_n hx hb dL_arePuppets_37 rfl (lv_at hl 4 rfl) ?_
      refine lv_iconst (v := (-1)) hx hb dL_arePuppets_38 (by decide) ?_
      refine lv_iconst (v := 0) hx hb dL_arePuppets_39 (by decide) ?_
      obtain ⟨u_10, h_11, hf⟩ := ob hf
      refine k_rd (runV F wdL_26 (rm := rm_X6_puppetOf) (As := [.int (-1), .int 0]) (rest := []) ⟨rfl, rfl⟩ ⟨Nat.le_of_ble_eq_true rfl, Nat.le_of_ble_eq_true rfl⟩ hl.1 rfl rfl (Nat.le_of_ble_eq_true rfl) dL_arePuppets_40 ⟨Nat.zero_le _, Nat.zero_le _⟩) (c_X6_puppetOf l D cI cP o h tx tn Ad K_34.2 (-1) 0 _ h_11) hX (va_recv hX.1 (va_blk (Bs := (bLM cI cP o h tx tn Ad a K_34)) hP 1 rfl) (ci := 6) (q0 := 0) rfl rfl) (va_blk (Bs := (bLM cI cP o h tx tn Ad a K_34)) hP 1 rfl) hP hS hA (fun H locs hP hS => ?_)
      refine lv_ldc (v := (-1000001)) hx hb hown (hts _ q_316) dL_arePuppets_43 ?_
      refine lv_icmp_ne (tgt := 52) hx hb dL_arePuppets_45 (by decide) (fun c_12 => ?_) (fun c_12 => ?_)
      · replace hf := (if_neg c_12).symm.trans hf
        refine lv_iconst (v := 0) hx hb dL_arePuppets_52 (by decide) ?_
        obtain rfl := Option.some.inj hf
        exact hk _ _ ls hP hD hS (lv_sub hl [4, 5, 6, 7, 8, 3, 2, 1, 0] rfl)
      · replace hf := (if_pos c_12).symm.trans hf
        refine lv_iconst (v := 1) hx hb dL_arePuppets_48 (by decide) ?_
        refine lv_goto (tgt := 53) hx hb dL_arePuppets_49 (by decide) ?_
        obtain rfl := Option.some.inj hf
        exact hk _ _ ls hP hD hS (lv_sub hl [4, 5, 6, 7, 8, 3, 2, 1, 0] rfl)
  obtain ⟨u_13, h_14, hf⟩ := ob hf
  refine hJ_34 M_3 u_1.2 u_5 0 0 (-1000001) u_7 u_13 _ _ ls h_14 hP hD hS hl (fun H locs ls hP hD hS hl => ?_)
  clear hJ_34
  refine lv_istore (lv' := [(9, .int u_13), (0, .ref o), (1, .ref (a 0)), (2, .ref (a 1)), (3, .ref (a 3)), (4, .ref (a 4)), (5, .int u_1.2), (6, .int u_5), (7, .int 0), (8, .int 0)]) hx hb dL_arePuppets_53 hl (by decide) rfl (fun ls hl => ?_)
  refine lv_iconst (v := 0) hx hb dL_arePuppets_55 (by decide) ?_
  refine lv_istore (lv' := [(10, .int 0), (9, .int u_13), (0, .ref o), (1, .ref (a 0)), (2, .ref (a 1)), (3, .ref (a 3)), (4, .ref (a 4)), (5, .int u_1.2), (6, .int u_5), (7, .int 0), (8, .int 0)]) hx hb dL_arePuppets_56 hl (by decide) rfl (fun ls hl => ?_)
  have hL_58 : ∀ (fu : Nat) (K_58 : SLM) (x5_58 : Int32) (x6_58 : Int32) (x7_58 : Int32) (x8_58 : Int32) (x9_58 : Int32) (x10_58 : Int32) (v : Int32 × Int32 × Int32) (H : Heap) (locs : List Loc) (ls : Array Slot), L_arePuppets_L58 fu K_58 x5_58 x6_58 x7_58 x8_58 x9_58 x10_58 = some v → va_P D vwCl (wLM cI cP o h tx tn Ad a K_58) H → va_D A (wLM cI cP o h tx tn Ad a K_58) → va_S A s.heap H locs → lv_has ls 15 [(0, .ref o), (1, .ref (a 0)), (2, .ref (a 1)), (3, .ref (a 3)), (4, .ref (a 4)), (5, .int x5_58), (6, .int x6_58), (7, .int x7_58), (8, .int x8_58), (9, .int x9_58), (10, .int x10_58)] → (∀ (H : Heap) (locs : List Loc) (ls : Array Slot), va_P D vwCl (wLM cI cP o h tx tn Ad a K_58) H → va_D A (wLM cI cP o h tx tn Ad a K_58) → va_S A s.heap H locs → lv_has ls 15 [(0, .ref o), (3, .ref (a 3)), (4, .ref (a 4)), (5, .int x5_58), (6, .int x6_58), (7, .int v.1), (8, .int v.2.1), (9, .int v.2.2)] → W p l e rm_L_arePuppets s m args below meth c H locs 0 0 (QWi D below args s A (wLM cI cP o h tx tn Ad a z.1) z.2) (F0 m 417 ls [])) → W p l e rm_L_arePuppets s m args below meth c H locs 0 0 (QWi D below args s A (wLM cI cP o h tx tn Ad a z.1) z.2) (F0 m 58 ls []) := by
    intro fu
    induction fu with
    | zero =>
      intro K_58 x5_58 x6_58 x7_58 x8_58 x9_58 x10_58 v H locs ls hf
      exact absurd hf (by simp [L_arePuppets_L58])
    | succ fu ih =>
      intro K_58 x5_58 x6_58 x7_58 x8_58 x9_58 x10_58 v _ _ ls hf hP hD hS hl hk
      rw [L_arePuppets_L58] at hf
      refine lv_iload hx hb dL_arePuppets_58 (lv_at hl 10 rfl) ?_
      refine lv_aload_n hx hb dL_arePuppets_60 rfl (lv_at hl 3 rfl) ?_
      refine lv_iconst (v := 0) hx hb dL_arePuppets_61 (by decide) ?_
      refine va_iald hx hb hX.1 hP 3 0 (n := 8) (f := (K_58.1 3)) rfl rfl (by decide : ¬ ((0 : Int32) < 0 ∨ 8 ≤ Int32.toNatClampNeg 0)) dL_arePuppets_62 ?_
      refine lv_icmp_ge (tgt := 417) hx hb dL_arePuppets_63 (by decide) (fun c_15 => ?_) (fun c_15 => ?_)
      · replace hf := (if_pos c_15).symm.trans hf
        obtain rfl := Option.some.inj hf
        exact hk _ _ ls hP hD hS (lv_sub hl [0, 3, 4, 5, 6, 7, 8, 9] rfl)
      · replace hf := (if_neg c_15).symm.trans hf
        refine lv_iload hx hb dL_arePuppets_66 (lv_at hl 9 rfl) ?_
        refine lv_if_eq (tgt := 417) hx hb dL_arePuppets_68 (by decide) (fun c_16 => ?_) (fun c_16 => ?_)
        · replace hf := (if_pos c_16).symm.trans hf
          obtain rfl := Option.some.inj hf
          exact hk _ _ ls hP hD hS (lv_sub hl [0, 3, 4, 5, 6, 7, 8, 9] rfl)
        · replace hf := (if_neg c_16).symm.trans hf
          refine lv_iconst (v := 0) hx hb dL_arePuppets_71 (by decide) ?_
          refine lv_istore (lv' := [(11, .int 0), (0, .ref o), (1, .ref (a 0)), (2, .ref (a 1)), (3, .ref (a 3)), (4, .ref (a 4)), (5, .int x5_58), (6, .int x6_58), (7, .int x7_58), (8, .int x8_58), (9, .int x9_58), (10, .int x10_58)]) hx hb dL_arePuppets_72 hl (by decide) rfl (fun ls hl => ?_)
          refine lv_iconst (v := 0) hx hb dL_arePuppets_74 (by decide) ?_
          refine lv_istore (lv' := [(12, .int 0), (11, .int 0), (0, .ref o), (1, .ref (a 0)), (2, .ref (a 1)), (3, .ref (a 3)), (4, .ref (a 4)), (5, .int x5_58), (6, .int x6_58), (7, .int x7_58), (8, .int x8_58), (9, .int x9_58), (10, .int x10_58)]) hx hb dL_arePuppets_75 hl (by decide) rfl (fun ls hl => ?_)
          refine lv_iconst (v := 0) hx hb dL_arePuppets_77 (by decide) ?_
          refine lv_istore (lv' := [(13, .int 0), (12, .int 0), (11, .int 0), (0, .ref o), (1, .ref (a 0)), (2, .ref (a 1)), (3, .ref (a 3)), (4, .ref (a 4)), (5, .int x5_58), (6, .int x6_58), (7, .int x7_58), (8, .int x8_58), (9, .int x9_58), (10, .int x10_58)]) hx hb dL_arePuppets_78 hl (by decide) rfl (fun ls hl => ?_)
          refine lv_iconst (v := 0) hx hb dL_arePuppets_80 (by decide) ?_
          refine lv_istore (lv' := [(14, .int 0), (13, .int 0), (12, .int 0), (11, .int 0), (0, .ref o), (1, .ref (a 0)), (2, .ref (a 1)), (3, .ref (a 3)), (4, .ref (a 4)), (5, .int x5_58), (6, .int x6_58), (7, .int x7_58), (8, .int x8_58), (9, .int x9_58), (10, .int x10_58)]) hx hb dL_arePuppets_81 hl (by decide) rfl (fun ls hl => ?_)
          have hL_83 : ∀ (fu : Nat) (K_83 : SLM) (x5_83 : Int32) (x6_83 : Int32) (x7_83 : Int32) (x8_83 : Int32) (x10_83 : Int32) (x11_83 : Int32) (x12_83 : Int32) (x13_83 : Int32) (x14_83 : Int32) (v : Int32) (H : Heap) (locs : List Loc) (ls : Array Slot), L_arePuppets_L83 fu K_83 x5_83 x6_83 x7_83 x8_83 x10_83 x11_83 x12_83 x13_83 x14_83 = some v → va_P D vwCl (wLM cI cP o h tx tn Ad a K_83) H → va_D A (wLM cI cP o h tx tn Ad a K_83) → va_S A s.heap H locs → lv_has ls 15 [(0, .ref o), (1, .ref (a 0)), (2, .ref (a 1)), (3, .ref (a 3)), (4, .ref (a 4)), (5, .int x5_83), (6, .int x6_83), (7, .int x7_83), (8, .int x8_83), (10, .int x10_83), (11, .int x11_83), (12, .int x12_83), (13, .int x13_83), (14, .int x14_83)] → (∀ (H : Heap) (locs : List Loc) (ls : Array Slot), va_P D vwCl (wLM cI cP o h tx tn Ad a K_83) H → va_D A (wLM cI cP o h tx tn Ad a K_83) → va_S A s.heap H locs → lv_has ls 15 [(0, .ref o), (1, .ref (a 0)), (2, .ref (a 1)), (3, .ref (a 3)), (4, .ref (a 4)), (5, .int x5_83), (6, .int x6_83), (7, .int x7_83), (8, .int x8_83), (10, .int x10_83), (11, .int v), (12, .int x12_83), (13, .int x13_83)] → W p l e rm_L_arePuppets s m args below meth c H locs 0 0 (QWi D below args s A (wLM cI cP o h tx tn Ad a z.1) z.2) (F0 m 131 ls [])) → W p l e rm_L_arePuppets s m args below meth c H locs 0 0 (QWi D below args s A (wLM cI cP o h tx tn Ad a z.1) z.2) (F0 m 83 ls []) := by
            intro fu
            induction fu with
            | zero =>
              intro K_83 x5_83 x6_83 x7_83 x8_83 x10_83 x11_83 x12_83 x13_83 x14_83 v H locs ls hf
              exact absurd hf (by simp [L_arePuppets_L83])
            | succ fu ih =>
              intro K_83 x5_83 x6_83 x7_83 x8_83 x10_83 x11_83 x12_83 x13_83 x14_83 v _ _ ls hf hP hD hS hl hk
              rw [L_arePuppets_L83] at hf
              refine lv_iload hx hb dL_arePuppets_83 (lv_at hl 13 rfl) ?_
              refine lv_aload_n hx hb dL_arePuppets_85 rfl (lv_at hl 3 rfl) ?_
              refine lv_iconst (v := 1) hx hb dL_arePuppets_86 (by decide) ?_
              refine va_iald hx hb hX.1 hP 3 0 (n := 8) (f := (K_83.1 3)) rfl rfl (by decide : ¬ ((1 : Int32) < 0 ∨ 8 ≤ Int32.toNatClampNeg 1)) dL_arePuppets_87 ?_
              refine lv_icmp_ge (tgt := 131) hx hb dL_arePuppets_88 (by decide) (fun c_17 => ?_) (fun c_17 => ?_)
              · replace hf := (if_pos c_17).symm.trans hf
                obtain rfl := Option.some.inj hf
                exact hk _ _ ls hP hD hS (lv_sub hl [0, 1, 2, 3, 4, 5, 6, 7, 8, 9, 10, 11, 12] rfl)
              · replace hf := (if_neg c_17).symm.trans hf
                refine lv_iload hx hb dL_arePuppets_91 (lv_at hl 10 rfl) ?_
                refine lv_aload_n hx hb dL_arePuppets_93 rfl (lv_at hl 2 rfl) ?_
                refine lv_iconst (v := 4) hx hb dL_arePuppets_94 (by decide) ?_
                refine lv_iload hx hb dL_arePuppets_95 (lv_at hl 13 rfl) ?_
                refine lv_imul hx hb dL_arePuppets_97 ?_
                have g_18 := og hf
                replace hf := (if_pos g_18).symm.trans hf
                refine va_iald hx hb hX.1 hP 1 0 (n := 64) (f := (K_83.1 1)) rfl rfl g_18 dL_arePuppets_98 ?_
                refine lv_iload hx hb dL_arePuppets_99 (lv_at hl 9 rfl) ?_
                refine lv_icmp_eq (tgt := 117) hx hb dL_arePuppets_101 (by decide) (fun c_19 => ?_) (fun c_19 => ?_)
                · replace hf := (if_pos c_19).symm.trans hf
                  refine lv_iconst (v := 1) hx hb dL_arePuppets_117 (by decide) ?_
                  refine lv_goto (tgt := 122) hx hb dL_arePuppets_118 (by decide) ?_
                  refine lv_iadd hx hb dL_arePuppets_122 ?_
                  refine lv_istore (lv' := [(11, .int (x11_83 + 1)), (0, .ref o), (1, .ref (a 0)), (2, .ref (a 1)), (3, .ref (a 3)), (4, .ref (a 4)), (5, .int x5_83), (6, .int x6_83), (7, .int x7_83), (8, .int x8_83), (10, .int x10_83), (12, .int x12_83), (13, .int x13_83), (14, .int x14_83)]) hx hb dL_arePuppets_123 hl (by decide) rfl (fun ls hl => ?_)
                  refine lv_iinc (v := (x14_83 + 1)) (lv' := [(14, .int (x14_83 + 1)), (11, .int (x11_83 + 1)), (0, .ref o), (1, .ref (a 0)), (2, .ref (a 1)), (3, .ref (a 3)), (4, .ref (a 4)), (5, .int x5_83), (6, .int x6_83), (7, .int x7_83), (8, .int x8_83), (10, .int x10_83), (12, .int x12_83), (13, .int x13_83)]) hx hb dL_arePuppets_125 hl (k := 13) rfl (by rfl) (by decide) rfl (fun ls hl => ?_)
                  refine lv_goto (tgt := 83) hx hb dL_arePuppets_128 (by decide) ?_
                  exact ih K_83 x5_83 x6_83 x7_83 x8_83 x10_83 (x11_83 + 1) x12_83 x13_83 (x14_83 + 1) _ _ _ ls hf hP hD hS (lv_sub hl [2, 3, 4, 5, 6, 7, 8, 9, 10, 11, 1, 12, 13, 0] rfl) hk
                · replace hf := (if_neg c_19).symm.trans hf
                  refine lv_aload_n hx hb dL_arePuppets_104 rfl (lv_at hl 2 rfl) ?_
                  refine lv_iconst (v := 4) hx hb dL_arePuppets_105 (by decide) ?_
                  refine lv_iload hx hb dL_arePuppets_106 (lv_at hl 13 rfl) ?_
                  refine lv_imul hx hb dL_arePuppets_108 ?_
                  refine lv_iconst (v := 1) hx hb dL_arePuppets_109 (by decide) ?_
                  refine lv_iadd hx hb dL_arePuppets_110 ?_
                  have g_20 := og hf
                  replace hf := (if_pos g_20).symm.trans hf
                  refine va_iald hx hb hX.1 hP 1 0 (n := 64) (f := (K_83.1 1)) rfl rfl g_20 dL_arePuppets_111 ?_
                  refine lv_iload hx hb dL_arePuppets_112 (lv_at hl 9 rfl) ?_
                  refine lv_icmp_ne (tgt := 121) hx hb dL_arePuppets_114 (by decide) (fun c_21 => ?_) (fun c_21 => ?_)
                  · replace hf := (if_neg c_21).symm.trans hf
                    refine lv_iconst (v := 0) hx hb dL_arePuppets_121 (by decide) ?_
                    refine lv_iadd hx hb dL_arePuppets_122 ?_
                    refine lv_istore (lv' := [(11, .int (x11_83 + 0)), (0, .ref o), (1, .ref (a 0)), (2, .ref (a 1)), (3, .ref (a 3)), (4, .ref (a 4)), (5, .int x5_83), (6, .int x6_83), (7, .int x7_83), (8, .int x8_83), (10, .int x10_83), (12, .int x12_83), (13, .int x13_83), (14, .int x14_83)]) hx hb dL_arePuppets_123 hl (by decide) rfl (fun ls hl => ?_)
                    refine lv_iinc (v := (x14_83 + 1)) (lv' := [(14, .int (x14_83 + 1)), (11, .int (x11_83 + 0)), (0, .ref o), (1, .ref (a 0)), (2, .ref (a 1)), (3, .ref (a 3)), (4, .ref (a 4)), (5, .int x5_83), (6, .int x6_83), (7, .int x7_83), (8, .int x8_83), (10, .int x10_83), (12, .int x12_83), (13, .int x13_83)]) hx hb dL_arePuppets_125 hl (k := 13) rfl (by rfl) (by decide) rfl (fun ls hl => ?_)
                    refine lv_goto (tgt := 83) hx hb dL_arePuppets_128 (by decide) ?_
                    exact ih K_83 x5_83 x6_83 x7_83 x8_83 x10_83 (x11_83 + 0) x12_83 x13_83 (x14_83 + 1) _ _ _ ls hf hP hD hS (lv_sub hl [2, 3, 4, 5, 6, 7, 8, 9, 10, 11, 1, 12, 13, 0] rfl) hk
                  · replace hf := (if_pos c_21).symm.trans hf
                    refine lv_iconst (v := 1) hx hb dL_arePuppets_117 (by decide) ?_
                    refine lv_goto (tgt := 122) hx hb dL_arePuppets_118 (by decide) ?_
                    refine lv_iadd hx hb dL_arePuppets_122 ?_
                    refine lv_istore (lv' := [(11, .int (x11_83 + 1)), (0, .ref o), (1, .ref (a 0)), (2, .ref (a 1)), (3, .ref (a 3)), (4, .ref (a 4)), (5, .int x5_83), (6, .int x6_83), (7, .int x7_83), (8, .int x8_83), (10, .int x10_83), (12, .int x12_83), (13, .int x13_83), (14, .int x14_83)]) hx hb dL_arePuppets_123 hl (by decide) rfl (fun ls hl => ?_)
                    refine lv_iinc (v := (x14_83 + 1)) (lv' := [(14, .int (x14_83 + 1)), (11, .int (x11_83 + 1)), (0, .ref o), (1, .ref (a 0)), (2, .ref (a 1)), (3, .ref (a 3)), (4, .ref (a 4)), (5, .int x5_83), (6, .int x6_83), (7, .int x7_83), (8, .int x8_83), (10, .int x10_83), (12, .int x12_83), (13, .int x13_83)]) hx hb dL_arePuppets_125 hl (k := 13) rfl (by rfl) (by decide) rfl (fun ls hl => ?_)
                    refine lv_goto (tgt := 83) hx hb dL_arePuppets_128 (by decide) ?_
                    exact ih K_83 x5_83 x6_83 x7_83 x8_83 x10_83 (x11_83 + 1) x12_83 x13_83 (x14_83 + 1) _ _ _ ls hf hP hD hS (lv_sub hl [2, 3, 4, 5, 6, 7, 8, 9, 10, 11, 1, 12, 13, 0] rfl) hk
          obtain ⟨u_22, h_23, hf⟩ := ob hf
          refine hL_83 FUEL K_58 x5_58 x6_58 x7_58 x8_58 x10_58 0 0 0 0 u_22 _ _ ls h_23 hP hD hS (lv_sub hl [4, 5, 6, 7, 8, 9, 10, 11, 12, 14, 3, 2, 1, 0] rfl) (fun H locs ls hP hD hS hl => ?_)
          clear hL_83
          refine lv_iconst (v := 0) hx hb dL_arePuppets_131 (by decide) ?_
          refine lv_istore (lv' := [(14, .int 0), (0, .ref o), (1, .ref (a 0)), (2, .ref (a 1)), (3, .ref (a 3)), (4, .ref (a 4)), (5, .int x5_58), (6, .int x6_58), (7, .int x7_58), (8, .int x8_58), (10, .int x10_58), (11, .int u_22), (12, .int 0), (13, .int 0)]) hx hb dL_arePuppets_132 hl (by decide) rfl (fun ls hl => ?_)
          have hL_134 : ∀ (fu : Nat) (K_134 : SLM) (x5_134 : Int32) (x6_134 : Int32) (x7_134 : Int32) (x8_134 : Int32) (x10_134 : Int32) (x11_134 : Int32) (x12_134 : Int32) (x13_134 : Int32) (x14_134 : Int32) (v : Int32 × Int32) (H : Heap) (locs : List Loc) (ls : Array Slot), L_arePuppets_L134 fu K_134 x5_134 x6_134 x7_134 x8_134 x10_134 x11_134 x12_134 x13_134 x14_134 = some v → va_P D vwCl (wLM cI cP o h tx tn Ad a K_134) H → va_D A (wLM cI cP o h tx tn Ad a K_134) → va_S A s.heap H locs → lv_has ls 15 [(0, .ref o), (1, .ref (a 0)), (2, .ref (a 1)), (3, .ref (a 3)), (4, .ref (a 4)), (5, .int x5_134), (6, .int x6_134), (7, .int x7_134), (8, .int x8_134), (10, .int x10_134), (11, .int x11_134), (12, .int x12_134), (13, .int x13_134), (14, .int x14_134)] → (∀ (H : Heap) (locs : List Loc) (ls : Array Slot), va_P D vwCl (wLM cI cP o h tx tn Ad a K_134) H → va_D A (wLM cI cP o h tx tn Ad a K_134) → va_S A s.heap H locs → lv_has ls 15 [(0, .ref o), (1, .ref (a 0)), (2, .ref (a 1)), (3, .ref (a 3)), (4, .ref (a 4)), (5, .int x5_134), (6, .int x6_134), (7, .int x7_134), (8, .int x8_134), (10, .int x10_134), (11, .int x11_134), (12, .int v.1), (13, .int v.2)] → W p l e rm_L_arePuppets s m args below meth c H locs 0 0 (QWi D below args s A (wLM cI cP o h tx tn Ad a z.1) z.2) (F0 m 202 ls [])) → W p l e rm_L_arePuppets s m args below meth c H locs 0 0 (QWi D below args s A (wLM cI cP o h tx tn Ad a z.1) z.2) (F0 m 134 ls []) := by
            intro fu
            induction fu with
            | zero =>
              intro K_134 x5_134 x6_134 x7_134 x8_134 x10_134 x11_134 x12_134 x13_134 x14_134 v H locs ls hf
              exact absurd hf (by simp [L_arePuppets_L134])
            | succ fu ih =>
              intro K_134 x5_134 x6_134 x7_134 x8_134 x10_134 x11_134 x12_134 x13_134 x14_134 v _ _ ls hf hP hD hS hl hk
              rw [L_arePuppets_L134] at hf
              refine lv_iload hx hb dL_arePuppets_134 (lv_at hl 13 rfl) ?_
              refine lv_aload_n hx hb dL_arePuppets_136 rfl (lv_at hl 3 rfl) ?_
              refine lv_iconst (v := 0) hx hb dL_arePuppets_137 (by decide) ?_
              refine va_iald hx hb hX.1 hP 3 0 (n := 8) (f := (K_134.1 3)) rfl rfl (by decide : ¬ ((0 : Int32) < 0 ∨ 8 ≤ Int32.toNatClampNeg 0)) dL_arePuppets_138 ?_
              refine lv_icmp_ge (tgt := 202) hx hb dL_arePuppets_139 (by decide) (fun c_24 => ?_) (fun c_24 => ?_)
              · replace hf := (if_pos c_24).symm.trans hf
                obtain rfl := Option.some.inj hf
                exact hk _ _ ls hP hD hS (lv_sub hl [0, 1, 2, 3, 4, 5, 6, 7, 8, 9, 10, 11, 12] rfl)
              · replace hf := (if_neg c_24).symm.trans hf
                refine lv_iload hx hb dL_arePuppets_142 (lv_at hl 11 rfl) ?_
                refine lv_aload hx hb dL_arePuppets_144 (lv_at hl 4 rfl) ?_
                refine lv_iload hx hb dL_arePuppets_146 (lv_at hl 13 rfl) ?_
                have g_25 := og hf
                replace hf := (if_pos g_25).symm.trans hf
                refine va_iald hx hb hX.1 hP 4 0 (n := 36) (f := (K_134.1 4)) rfl rfl g_25 dL_arePuppets_148 ?_
                refine lv_aload hx hb dL_arePuppets_149 (lv_at hl 4 rfl) ?_
                refine lv_iload hx hb dL_arePuppets_151 (lv_at hl 9 rfl) ?_
                have g_26 := og hf
                replace hf := (if_pos g_26).symm.trans hf
                refine va_iald hx hb hX.1 hP 4 0 (n := 36) (f := (K_134.1 4)) rfl rfl g_26 dL_arePuppets_153 ?_
                have hJ_154 : ∀ (K_154 : SLM) (x5_154 : Int32) (x6_154 : Int32) (x7_154 : Int32) (x8_154 : Int32) (x10_154 : Int32) (x11_154 : Int32) (x13_154 : Int32) (x14_154 : Int32) (t0_154 : Int32) (t1_154 : Int32) (t2_154 : Int32) (v : Int32) (H : Heap) (locs : List Loc) (ls : Array Slot), L_arePuppets_J154 K_154 x5_154 x6_154 x7_154 x8_154 x10_154 x11_154 x13_154 x14_154 t0_154 t1_154 t2_154 = v → va_P D vwCl (wLM cI cP o h tx tn Ad a K_154) H → va_D A (wLM cI cP o h tx tn Ad a K_154) → va_S A s.heap H locs → lv_has ls 15 [(0, .ref o), (1, .ref (a 0)), (2, .ref (a 1)), (3, .ref (a 3)), (4, .ref (a 4)), (5, .int x5_154), (6, .int x6_154), (7, .int x7_154), (8, .int x8_154), (10, .int x10_154), (11, .int x11_154), (13, .int x13_154), (14, .int x14_154)] → (∀ (H : Heap) (locs : List Loc) (ls : Array Slot), va_P D vwCl (wLM cI cP o h tx tn Ad a K_154) H → va_D A (wLM cI cP o h tx tn Ad a K_154) → va_S A s.heap H locs → lv_has ls 15 [(0, .ref o), (1, .ref (a 0)), (2, .ref (a 1)), (3, .ref (a 3)), (4, .ref (a 4)), (5, .int x5_154), (6, .int x6_154), (7, .int x7_154), (8, .int x8_154), (10, .int x10_154), (11, .int x11_154), (13, .int x13_154), (14, .int x14_154)] → W p l e rm_L_arePuppets s m args below meth c H locs 0 0 (QWi D below args s A (wLM cI cP o h tx tn Ad a z.1) z.2) (F0 m 165 ls [.int v, .int t2_154])) → W p l e rm_L_arePuppets s m args below meth c H locs 0 0 (QWi D below args s A (wLM cI cP o h tx tn Ad a z.1) z.2) (F0 m 154 ls [.int t0_154, .int t1_154, .int t2_154]) := by
                  intro K_154 x5_154 x6_154 x7_154 x8_154 x10_154 x11_154 x13_154 x14_154 t0_154 t1_154 t2_154 v _ _ ls hf hP hD hS hl hk
                  unfold L_arePuppets_J154 at hf
                  refine lv_icmp_ne (tgt := 164) hx hb dL_arePuppets_154 (by decide) (fun c_27 => ?_) (fun c_27 => ?_)
                  · replace hf := (if_neg c_27).symm.trans hf
                    refine lv_iconst (v := 0) hx hb dL_arePuppets_164 (by decide) ?_
                    obtain rfl := hf
                    exact hk _ _ ls hP hD hS hl
                  · replace hf := (if_pos c_27).symm.trans hf
                    refine lv_iconst (v := 1) hx hb dL_arePuppets_157 (by decide) ?_
                    refine lv_iload hx hb dL_arePuppets_158 (lv_at hl 12 rfl) ?_
                    refine lv_ishl hx hb dL_arePuppets_160 ?_
                    refine lv_goto (tgt := 165) hx hb dL_arePuppets_161 (by decide) ?_
                    obtain rfl := hf
                    exact hk _ _ ls hP hD hS hl
                refine hJ_154 K_134 x5_134 x6_134 x7_134 x8_134 x10_134 x11_134 x13_134 x14_134 ((K_134.1 4) (Int32.toNatClampNeg x10_134)) ((K_134.1 4) (Int32.toNatClampNeg x14_134)) x12_134 _ _ _ ls rfl hP hD hS (lv_sub hl [0, 1, 2, 3, 4, 5, 6, 7, 8, 9, 10, 12, 13] rfl) (fun H locs ls hP hD hS hl => ?_)
                clear hJ_154
                refine lv_ior hx hb dL_arePuppets_165 ?_
                refine lv_istore (lv' := [(12, .int (x12_134 ||| (L_arePuppets_J154 K_134 x5_134 x6_134 x7_134 x8_134 x10_134 x11_134 x13_134 x14_134 ((K_134.1 4) (Int32.toNatClampNeg x10_134)) ((K_134.1 4) (Int32.toNatClampNeg x14_134)) x12_134))), (0, .ref o), (1, .ref (a 0)), (2, .ref (a 1)), (3, .ref (a 3)), (4, .ref (a 4)), (5, .int x5_134), (6, .int x6_134), (7, .int x7_134), (8, .int x8_134), (10, .int x10_134), (11, .int x11_134), (13, .int x13_134), (14, .int x14_134)]) hx hb dL_arePuppets_166 hl (by decide) rfl (fun ls hl => ?_)
                refine lv_iload hx hb dL_arePuppets_168 (lv_at hl 12 rfl) ?_
                refine lv_aload hx hb dL_arePuppets_170 (lv_at hl 5 rfl) ?_
                refine lv_iload hx hb dL_arePuppets_172 (lv_at hl 13 rfl) ?_
                refine va_iald hx hb hX.1 hP 4 0 (n := 36) (f := (K_134.1 4)) rfl rfl g_25 dL_arePuppets_174 ?_
                refine lv_aload hx hb dL_arePuppets_175 (lv_at hl 5 rfl) ?_
                refine lv_iload hx hb dL_arePuppets_177 (lv_at hl 10 rfl) ?_
                refine va_iald hx hb hX.1 hP 4 0 (n := 36) (f := (K_134.1 4)) rfl rfl g_26 dL_arePuppets_179 ?_
                refine lv_icmp_ne (tgt := 192) hx hb dL_arePuppets_180 (by decide) (fun c_28 => ?_) (fun c_28 => ?_)
                · replace hf := (if_neg c_28).symm.trans hf
                  refine lv_iconst (v := 0) hx hb dL_arePuppets_192 (by decide) ?_
                  refine lv_iadd hx hb dL_arePuppets_193 ?_
                  refine lv_istore (lv' := [(13, .int (x13_134 + 0)), (12, .int (x12_134 ||| (L_arePuppets_J154 K_134 x5_134 x6_134 x7_134 x8_134 x10_134 x11_134 x13_134 x14_134 ((K_134.1 4) (Int32.toNatClampNeg x10_134)) ((K_134.1 4) (Int32.toNatClampNeg x14_134)) x12_134))), (0, .ref o), (1, .ref (a 0)), (2, .ref (a 1)), (3, .ref (a 3)), (4, .ref (a 4)), (5, .int x5_134), (6, .int x6_134), (7, .int x7_134), (8, .int x8_134), (10, .int x10_134), (11, .int x11_134), (14, .int x14_134)]) hx hb dL_arePuppets_194 hl (by decide) rfl (fun ls hl => ?_)
                  refine lv_iinc (v := (x14_134 + 1)) (lv' := [(14, .int (x14_134 + 1)), (13, .int (x13_134 + 0)), (12, .int (x12_134 ||| (L_arePuppets_J154 K_134 x5_134 x6_134 x7_134 x8_134 x10_134 x11_134 x13_134 x14_134 ((K_134.1 4) (Int32.toNatClampNeg x10_134)) ((K_134.1 4) (Int32.toNatClampNeg x14_134)) x12_134))), (0, .ref o), (1, .ref (a 0)), (2, .ref (a 1)), (3, .ref (a 3)), (4, .ref (a 4)), (5, .int x5_134), (6, .int x6_134), (7, .int x7_134), (8, .int x8_134), (10, .int x10_134), (11, .int x11_134)]) hx hb dL_arePuppets_196 hl (k := 13) rfl (by rfl) (by decide) rfl (fun ls hl => ?_)
                  refine lv_goto (tgt := 134) hx hb dL_arePuppets_199 (by decide) ?_
                  exact ih K_134 x5_134 x6_134 x7_134 x8_134 x10_134 x11_134 (x12_134 ||| (L_arePuppets_J154 K_134 x5_134 x6_134 x7_134 x8_134 x10_134 x11_134 x13_134 x14_134 ((K_134.1 4) (Int32.toNatClampNeg x10_134)) ((K_134.1 4) (Int32.toNatClampNeg x14_134)) x12_134)) (x13_134 + 0) (x14_134 + 1) _ _ _ ls hf hP hD hS (lv_sub hl [3, 4, 5, 6, 7, 8, 9, 10, 11, 12, 13, 2, 1, 0] rfl) hk
                · replace hf := (if_pos c_28).symm.trans hf
                  refine lv_aload_n hx hb dL_arePuppets_183 rfl (lv_at hl 2 rfl) ?_
                  refine lv_iconst (v := 3) hx hb dL_arePuppets_184 (by decide) ?_
                  refine lv_iload hx hb dL_arePuppets_185 (lv_at hl 13 rfl) ?_
                  refine lv_imul hx hb dL_arePuppets_187 ?_
                  have g_29 := og hf
                  replace hf := (if_pos g_29).symm.trans hf
                  refine va_iald hx hb hX.1 hP 0 0 (n := 36) (f := (K_134.1 0)) rfl rfl g_29 dL_arePuppets_188 ?_
                  refine lv_goto (tgt := 193) hx hb dL_arePuppets_189 (by decide) ?_
                  refine lv_iadd hx hb dL_arePuppets_193 ?_
                  refine lv_istore (lv' := [(13, .int (x13_134 + ((K_134.1 0) (Int32.toNatClampNeg (3 * x14_134))))), (12, .int (x12_134 ||| (L_arePuppets_J154 K_134 x5_134 x6_134 x7_134 x8_134 x10_134 x11_134 x13_134 x14_134 ((K_134.1 4) (Int32.toNatClampNeg x10_134)) ((K_134.1 4) (Int32.toNatClampNeg x14_134)) x12_134))), (0, .ref o), (1, .ref (a 0)), (2, .ref (a 1)), (3, .ref (a 3)), (4, .ref (a 4)), (5, .int x5_134), (6, .int x6_134), (7, .int x7_134), (8, .int x8_134), (10, .int x10_134), (11, .int x11_134), (14, .int x14_134)]) hx hb dL_arePuppets_194 hl (by decide) rfl (fun ls hl => ?_)
                  refine lv_iinc (v := (x14_134 + 1)) (lv' := [(14, .int (x14_134 + 1)), (13, .int (x13_134 + ((K_134.1 0) (Int32.toNatClampNeg (3 * x14_134))))), (12, .int (x12_134 ||| (L_arePuppets_J154 K_134 x5_134 x6_134 x7_134 x8_134 x10_134 x11_134 x13_134 x14_134 ((K_134.1 4) (Int32.toNatClampNeg x10_134)) ((K_134.1 4) (Int32.toNatClampNeg x14_134)) x12_134))), (0, .ref o), (1, .ref (a 0)), (2, .ref (a 1)), (3, .ref (a 3)), (4, .ref (a 4)), (5, .int x5_134), (6, .int x6_134), (7, .int x7_134), (8, .int x8_134), (10, .int x10_134), (11, .int x11_134)]) hx hb dL_arePuppets_196 hl (k := 13) rfl (by rfl) (by decide) rfl (fun ls hl => ?_)
                  refine lv_goto (tgt := 134) hx hb dL_arePuppets_199 (by decide) ?_
                  exact ih K_134 x5_134 x6_134 x7_134 x8_134 x10_134 x11_134 (x12_134 ||| (L_arePuppets_J154 K_134 x5_134 x6_134 x7_134 x8_134 x10_134 x11_134 x13_134 x14_134 ((K_134.1 4) (Int32.toNatClampNeg x10_134)) ((K_134.1 4) (Int32.toNatClampNeg x14_134)) x12_134)) (x13_134 + ((K_134.1 0) (Int32.toNatClampNeg (3 * x14_134)))) (x14_134 + 1) _ _ _ ls hf hP hD hS (lv_sub hl [3, 4, 5, 6, 7, 8, 9, 10, 11, 12, 13, 2, 1, 0] rfl) hk
          obtain ⟨u_30, h_31, hf⟩ := ob hf
          refine hL_134 FUEL K_58 x5_58 x6_58 x7_58 x8_58 x10_58 u_22 0 0 0 u_30 _ _ ls h_31 hP hD hS (lv_sub hl [1, 2, 3, 4, 5, 6, 7, 8, 9, 10, 11, 12, 13, 0] rfl) (fun H locs ls hP hD hS hl => ?_)
          clear hL_134
          refine lv_iload hx hb dL_arePuppets_202 (lv_at hl 8 rfl) ?_
          refine lv_aload hx hb dL_arePuppets_204 (lv_at hl 4 rfl) ?_
          refine lv_iload hx hb dL_arePuppets_206 (lv_at hl 9 rfl) ?_
          have g_32 := og hf
          replace hf := (if_pos g_32).symm.trans hf
          refine va_iald hx hb hX.1 hP 4 0 (n := 36) (f := (K_58.1 4)) rfl rfl g_32 dL_arePuppets_208 ?_
          refine lv_iload hx hb dL_arePuppets_209 (lv_at hl 9 rfl) ?_
          have hJ_211 : ∀ (K_211 : SLM) (x5_211 : Int32) (x6_211 : Int32) (x7_211 : Int32) (x10_211 : Int32) (x11_211 : Int32) (x12_211 : Int32) (x13_211 : Int32) (t0_211 : Int32) (t1_211 : Int32) (t2_211 : Int32) (v : Int32) (H : Heap) (locs : List Loc) (ls : Array Slot), L_arePuppets_J211 K_211 x5_211 x6_211 x7_211 x10_211 x11_211 x12_211 x13_211 t0_211 t1_211 t2_211 = v → va_P D vwCl (wLM cI cP o h tx tn Ad a K_211) H → va_D A (wLM cI cP o h tx tn Ad a K_211) → va_S A s.heap H locs → lv_has ls 15 [(0, .ref o), (1, .ref (a 0)), (2, .ref (a 1)), (3, .ref (a 3)), (4, .ref (a 4)), (5, .int x5_211), (6, .int x6_211), (7, .int x7_211), (10, .int x10_211), (11, .int x11_211), (12, .int x12_211), (13, .int x13_211)] → (∀ (H : Heap) (locs : List Loc) (ls : Array Slot), va_P D vwCl (wLM cI cP o h tx tn Ad a K_211) H → va_D A (wLM cI cP o h tx tn Ad a K_211) → va_S A s.heap H locs → lv_has ls 15 [(0, .ref o), (1, .ref (a 0)), (2, .ref (a 1)), (3, .ref (a 3)), (4, .ref (a 4)), (5, .int x5_211), (6, .int x6_211), (7, .int x7_211), (10, .int x10_211), (11, .int x11_211), (12, .int x12_211), (13, .int x13_211)] → W p l e rm_L_arePuppets s m args below meth c H locs 0 0 (QWi D below args s A (wLM cI cP o h tx tn Ad a z.1) z.2) (F0 m 219 ls [.int v, .int t2_211])) → W p l e rm_L_arePuppets s m args below meth c H locs 0 0 (QWi D below args s A (wLM cI cP o h tx tn Ad a z.1) z.2) (F0 m 211 ls [.int t0_211, .int t1_211, .int t2_211]) := by
            intro K_211 x5_211 x6_211 x7_211 x10_211 x11_211 x12_211 x13_211 t0_211 t1_211 t2_211 v _ _ ls hf hP hD hS hl hk
            unfold L_arePuppets_J211 at hf
            refine lv_icmp_ne (tgt := 218) hx hb dL_arePuppets_211 (by decide) (fun c_33 => ?_) (fun c_33 => ?_)
            · replace hf := (if_neg c_33).symm.trans hf
              refine lv_iconst (v := 0) hx hb dL_arePuppets_218 (by decide) ?_
              obtain rfl := hf
              exact hk _ _ ls hP hD hS hl
            · replace hf := (if_pos c_33).symm.trans hf
              refine lv_iconst (v := 1) hx hb dL_arePuppets_214 (by decide) ?_
              refine lv_goto (tgt := 219) hx hb dL_arePuppets_215 (by decide) ?_
              obtain rfl := hf
              exact hk _ _ ls hP hD hS hl
          refine hJ_211 K_58 x5_58 x6_58 x7_58 x10_58 u_22 u_30.1 u_30.2 x10_58 ((K_58.1 4) (Int32.toNatClampNeg x10_58)) x8_58 _ _ _ ls rfl hP hD hS (lv_sub hl [0, 1, 2, 3, 4, 5, 6, 7, 9, 10, 11, 12] rfl) (fun H locs ls hP hD hS hl => ?_)
          clear hJ_211
          refine lv_iadd hx hb dL_arePuppets_219 ?_
          refine lv_istore (lv' := [(8, .int (x8_58 + (L_arePuppets_J211 K_58 x5_58 x6_58 x7_58 x10_58 u_22 u_30.1 u_30.2 x10_58 ((K_58.1 4) (Int32.toNatClampNeg x10_58)) x8_58))), (0, .ref o), (1, .ref (a 0)), (2, .ref (a 1)), (3, .ref (a 3)), (4, .ref (a 4)), (5, .int x5_58), (6, .int x6_58), (7, .int x7_58), (10, .int x10_58), (11, .int u_22), (12, .int u_30.1), (13, .int u_30.2)]) hx hb dL_arePuppets_220 hl (by decide) rfl (fun ls hl => ?_)
          refine lv_iload hx hb dL_arePuppets_222 (lv_at hl 8 rfl) ?_
          refine lv_aload_n hx hb dL_arePuppets_224 rfl (lv_at hl 2 rfl) ?_
          refine lv_iconst (v := 3) hx hb dL_arePuppets_225 (by decide) ?_
          refine lv_iload hx hb dL_arePuppets_226 (lv_at hl 9 rfl) ?_
          refine lv_imul hx hb dL_arePuppets_228 ?_
          refine lv_iconst (v := 2) hx hb dL_arePuppets_229 (by decide) ?_
          refine lv_iadd hx hb dL_arePuppets_230 ?_
          have g_34 := og hf
          replace hf := (if_pos g_34).symm.trans hf
          refine va_iald hx hb hX.1 hP 0 0 (n := 36) (f := (K_58.1 0)) rfl rfl g_34 dL_arePuppets_231 ?_
          have hJ_232 : ∀ (K_232 : SLM) (x5_232 : Int32) (x6_232 : Int32) (x8_232 : Int32) (x10_232 : Int32) (x11_232 : Int32) (x12_232 : Int32) (x13_232 : Int32) (t0_232 : Int32) (t1_232 : Int32) (v : Int32) (H : Heap) (locs : List Loc) (ls : Array Slot), L_arePuppets_J232 K_232 x5_232 x6_232 x8_232 x10_232 x11_232 x12_232 x13_232 t0_232 t1_232 = v → va_P D vwCl (wLM cI cP o h tx tn Ad a K_232) H → va_D A (wLM cI cP o h tx tn Ad a K_232) → va_S A s.heap H locs → lv_has ls 15 [(8, .int x8_232), (0, .ref o), (1, .ref (a 0)), (2, .ref (a 1)), (3, .ref (a 3)), (4, .ref (a 4)), (5, .int x5_232), (6, .int x6_232), (10, .int x10_232), (11, .int x11_232), (12, .int x12_232), (13, .int x13_232)] → (∀ (H : Heap) (locs : List Loc) (ls : Array Slot), va_P D vwCl (wLM cI cP o h tx tn Ad a K_232) H → va_D A (wLM cI cP o h tx tn Ad a K_232) → va_S A s.heap H locs → lv_has ls 15 [(0, .ref o), (1, .ref (a 0)), (2, .ref (a 1)), (3, .ref (a 3)), (4, .ref (a 4)), (5, .int x5_232), (6, .int x6_232), (8, .int x8_232), (10, .int x10_232), (11, .int x11_232), (12, .int x12_232), (13, .int x13_232)] → W p l e rm_L_arePuppets s m args below meth c H locs 0 0 (QWi D below args s A (wLM cI cP o h tx tn Ad a z.1) z.2) (F0 m 243 ls [.int v, .int t1_232])) → W p l e rm_L_arePuppets s m args below meth c H locs 0 0 (QWi D below args s A (wLM cI cP o h tx tn Ad a z.1) z.2) (F0 m 232 ls [.int t0_232, .int t1_232]) := by
            intro K_232 x5_232 x6_232 x8_232 x10_232 x11_232 x12_232 x13_232 t0_232 t1_232 v _ _ ls hf hP hD hS hl hk
            unfold L_arePuppets_J232 at hf
            refine lv_if_ge (tgt := 239) hx hb dL_arePuppets_232 (by decide) (fun c_35 => ?_) (fun c_35 => ?_)
            · replace hf := (if_pos c_35).symm.trans hf
              refine lv_iconst (v := 1) hx hb dL_arePuppets_239 (by decide) ?_
              refine lv_iload hx hb dL_arePuppets_240 (lv_at hl 8 rfl) ?_
              refine lv_ishl hx hb dL_arePuppets_242 ?_
              obtain rfl := hf
              exact hk _ _ ls hP hD hS (lv_sub hl [1, 2, 3, 4, 5, 6, 7, 0, 8, 9, 10, 11] rfl)
            · replace hf := (if_neg c_35).symm.trans hf
              refine lv_iconst (v := 0) hx hb dL_arePuppets_235 (by decide) ?_
              refine lv_goto (tgt := 243) hx hb dL_arePuppets_236 (by decide) ?_
              obtain rfl := hf
              exact hk _ _ ls hP hD hS (lv_sub hl [1, 2, 3, 4, 5, 6, 7, 0, 8, 9, 10, 11] rfl)
          refine hJ_232 K_58 x5_58 x6_58 (x8_58 + (L_arePuppets_J211 K_58 x5_58 x6_58 x7_58 x10_58 u_22 u_30.1 u_30.2 x10_58 ((K_58.1 4) (Int32.toNatClampNeg x10_58)) x8_58)) x10_58 u_22 u_30.1 u_30.2 ((K_58.1 0) (Int32.toNatClampNeg ((3 * x10_58) + 2))) x7_58 _ _ _ ls rfl hP hD hS (lv_sub hl [0, 1, 2, 3, 4, 5, 6, 7, 9, 10, 11, 12] rfl) (fun H locs ls hP hD hS hl => ?_)
          clear hJ_232
          refine lv_ior hx hb dL_arePuppets_243 ?_
          refine lv_istore (lv' := [(7, .int (x7_58 ||| (L_arePuppets_J232 K_58 x5_58 x6_58 (x8_58 + (L_arePuppets_J211 K_58 x5_58 x6_58 x7_58 x10_58 u_22 u_30.1 u_30.2 x10_58 ((K_58.1 4) (Int32.toNatClampNeg x10_58)) x8_58)) x10_58 u_22 u_30.1 u_30.2 ((K_58.1 0) (Int32.toNatClampNeg ((3 * x10_58) + 2))) x7_58))), (0, .ref o), (1, .ref (a 0)), (2, .ref (a 1)), (3, .ref (a 3)), (4, .ref (a 4)), (5, .int x5_58), (6, .int x6_58), (8, .int (x8_58 + (L_arePuppets_J211 K_58 x5_58 x6_58 x7_58 x10_58 u_22 u_30.1 u_30.2 x10_58 ((K_58.1 4) (Int32.toNatClampNeg x10_58)) x8_58))), (10, .int x10_58), (11, .int u_22), (12, .int u_30.1), (13, .int u_30.2)]) hx hb dL_arePuppets_244 hl (by decide) rfl (fun ls hl => ?_)
          refine lv_aload_n hx hb dL_arePuppets_246 rfl (lv_at hl 1 rfl) ?_
          refine lv_iload hx hb dL_arePuppets_247 (lv_at hl 9 rfl) ?_
          refine lv_iconst (v := 0) hx hb dL_arePuppets_249 (by decide) ?_
          obtain ⟨u_36, h_37, hf⟩ := ob hf
          refine k_rd (runV F wdL_26 (rm := rm_X6_puppetOf) (As := [.int x10_58, .int 0]) (rest := []) ⟨rfl, rfl⟩ ⟨Nat.le_of_ble_eq_true rfl, Nat.le_of_ble_eq_true rfl⟩ hl.1 rfl rfl (Nat.le_of_ble_eq_true rfl) dL_arePuppets_250 ⟨Nat.zero_le _, Nat.zero_le _⟩) (c_X6_puppetOf l D cI cP o h tx tn Ad K_58.2 x10_58 0 _ h_37) hX (va_recv hX.1 (va_blk (Bs := (bLM cI cP o h tx tn Ad a K_58)) hP 1 rfl) (ci := 6) (q0 := 0) rfl rfl) (va_blk (Bs := (bLM cI cP o h tx tn Ad a K_58)) hP 1 rfl) hP hS hA (fun H locs hP hS => ?_)
          refine lv_aload_n hx hb dL_arePuppets_253 rfl (lv_at hl 2 rfl) ?_
          refine lv_iconst (v := 3) hx hb dL_arePuppets_254 (by decide) ?_
          refine lv_iload hx hb dL_arePuppets_255 (lv_at hl 9 rfl) ?_
          refine lv_imul hx hb dL_arePuppets_257 ?_
          have g_38 := og hf
          replace hf := (if_pos g_38).symm.trans hf
          refine va_iald hx hb hX.1 hP 0 0 (n := 36) (f := (K_58.1 0)) rfl rfl g_38 dL_arePuppets_258 ?_
          refine lv_icmp_ne (tgt := 408) hx hb dL_arePuppets_259 (by decide) (fun c_39 => ?_) (fun c_39 => ?_)
          · replace hf := (if_neg c_39).symm.trans hf
            refine lv_iconst (v := 0) hx hb dL_arePuppets_408 (by decide) ?_
            refine lv_istore (lv' := [(9, .int 0), (7, .int (x7_58 ||| (L_arePuppets_J232 K_58 x5_58 x6_58 (x8_58 + (L_arePuppets_J211 K_58 x5_58 x6_58 x7_58 x10_58 u_22 u_30.1 u_30.2 x10_58 ((K_58.1 4) (Int32.toNatClampNeg x10_58)) x8_58)) x10_58 u_22 u_30.1 u_30.2 ((K_58.1 0) (Int32.toNatClampNeg ((3 * x10_58) + 2))) x7_58))), (0, .ref o), (1, .ref (a 0)), (2, .ref (a 1)), (3, .ref (a 3)), (4, .ref (a 4)), (5, .int x5_58), (6, .int x6_58), (8, .int (x8_58 + (L_arePuppets_J211 K_58 x5_58 x6_58 x7_58 x10_58 u_22 u_30.1 u_30.2 x10_58 ((K_58.1 4) (Int32.toNatClampNeg x10_58)) x8_58))), (10, .int x10_58), (11, .int u_22), (12, .int u_30.1), (13, .int u_30.2)]) hx hb dL_arePuppets_409 hl (by decide) rfl (fun ls hl => ?_)
            refine lv_iinc (v := (x10_58 + 1)) (lv' := [(10, .int (x10_58 + 1)), (9, .int 0), (7, .int (x7_58 ||| (L_arePuppets_J232 K_58 x5_58 x6_58 (x8_58 + (L_arePuppets_J211 K_58 x5_58 x6_58 x7_58 x10_58 u_22 u_30.1 u_30.2 x10_58 ((K_58.1 4) (Int32.toNatClampNeg x10_58)) x8_58)) x10_58 u_22 u_30.1 u_30.2 ((K_58.1 0) (Int32.toNatClampNeg ((3 * x10_58) + 2))) x7_58))), (0, .ref o), (1, .ref (a 0)), (2, .ref (a 1)), (3, .ref (a 3)), (4, .ref (a 4)), (5, .int x5_58), (6, .int x6_58), (8, .int (x8_58 + (L_arePuppets_J211 K_58 x5_58 x6_58 x7_58 x10_58 u_22 u_30.1 u_30.2 x10_58 ((K_58.1 4) (Int32.toNatClampNeg x10_58)) x8_58))), (11, .int u_22), (12, .int u_30.1), (13, .int u_30.2)]) hx hb dL_arePuppets_411 hl (k := 10) rfl (by rfl) (by decide) rfl (fun ls hl => ?_)
            refine lv_goto (tgt := 58) hx hb dL_arePuppets_414 (by decide) ?_
            exact ih K_58 x5_58 x6_58 (x7_58 ||| (L_arePuppets_J232 K_58 x5_58 x6_58 (x8_58 + (L_arePuppets_J211 K_58 x5_58 x6_58 x7_58 x10_58 u_22 u_30.1 u_30.2 x10_58 ((K_58.1 4) (Int32.toNatClampNeg x10_58)) x8_58)) x10_58 u_22 u_30.1 u_30.2 ((K_58.1 0) (Int32.toNatClampNeg ((3 * x10_58) + 2))) x7_58)) (x8_58 + (L_arePuppets_J211 K_58 x5_58 x6_58 x7_58 x10_58 u_22 u_30.1 u_30.2 x10_58 ((K_58.1 4) (Int32.toNatClampNeg x10_58)) x8_58)) 0 (x10_58 + 1) _ _ _ ls hf hP hD hS (lv_sub hl [3, 4, 5, 6, 7, 8, 9, 2, 10, 1, 0] rfl) hk
          · replace hf := (if_pos c_39).symm.trans hf
            refine lv_aload_n hx hb dL_arePuppets_262 rfl (lv_at hl 1 rfl) ?_
            refine lv_iload hx hb dL_arePuppets_263 (lv_at hl 9 rfl) ?_
            refine lv_iconst (v := 1) hx hb dL_arePuppets_265 (by decide) ?_
            obtain ⟨u_40, h_41, hf⟩ := ob hf
            refine k_rd (runV F wdL_26 (rm := rm_X6_puppetOf) (As := [.int x10_58, .int 1]) (rest := []) ⟨rfl, rfl⟩ ⟨Nat.le_of_ble_eq_true rfl, Nat.le_of_ble_eq_true rfl⟩ hl.1 rfl rfl (Nat.le_of_ble_eq_true rfl) dL_arePuppets_266 ⟨Nat.zero_le _, Nat.zero_le _⟩) (c_X6_puppetOf l D cI cP o h tx tn Ad K_58.2 x10_58 1 _ h_41) hX (va_recv hX.1 (va_blk (Bs := (bLM cI cP o h tx tn Ad a K_58)) hP 1 rfl) (ci := 6) (q0 := 0) rfl rfl) (va_blk (Bs := (bLM cI cP o h tx tn Ad a K_58)) hP 1 rfl) hP hS hA (fun H locs hP hS => ?_)
            refine lv_aload_n hx hb dL_arePuppets_269 rfl (lv_at hl 2 rfl) ?_
            refine lv_iconst (v := 3) hx hb dL_arePuppets_270 (by decide) ?_
            refine lv_iload hx hb dL_arePuppets_271 (lv_at hl 9 rfl) ?_
            refine lv_imul hx hb dL_arePuppets_273 ?_
            refine lv_iconst (v := 1) hx hb dL_arePuppets_274 (by decide) ?_
            refine lv_iadd hx hb dL_arePuppets_275 ?_
            have g_42 := og hf
            replace hf := (if_pos g_42).symm.trans hf
            refine va_iald hx hb hX.1 hP 0 0 (n := 36) (f := (K_58.1 0)) rfl rfl g_42 dL_arePuppets_276 ?_
            refine lv_icmp_ne (tgt := 408) hx hb dL_arePuppets_277 (by decide) (fun c_43 => ?_) (fun c_43 => ?_)
            · replace hf := (if_neg c_43).symm.trans hf
              refine lv_iconst (v := 0) hx hb dL_arePuppets_408 (by decide) ?_
              refine lv_istore (lv' := [(9, .int 0), (7, .int (x7_58 ||| (L_arePuppets_J232 K_58 x5_58 x6_58 (x8_58 + (L_arePuppets_J211 K_58 x5_58 x6_58 x7_58 x10_58 u_22 u_30.1 u_30.2 x10_58 ((K_58.1 4) (Int32.toNatClampNeg x10_58)) x8_58)) x10_58 u_22 u_30.1 u_30.2 ((K_58.1 0) (Int32.toNatClampNeg ((3 * x10_58) + 2))) x7_58))), (0, .ref o), (1, .ref (a 0)), (2, .ref (a 1)), (3, .ref (a 3)), (4, .ref (a 4)), (5, .int x5_58), (6, .int x6_58), (8, .int (x8_58 + (L_arePuppets_J211 K_58 x5_58 x6_58 x7_58 x10_58 u_22 u_30.1 u_30.2 x10_58 ((K_58.1 4) (Int32.toNatClampNeg x10_58)) x8_58))), (10, .int x10_58), (11, .int u_22), (12, .int u_30.1), (13, .int u_30.2)]) hx hb dL_arePuppets_409 hl (by decide) rfl (fun ls hl => ?_)
              refine lv_iinc (v := (x10_58 + 1)) (lv' := [(10, .int (x10_58 + 1)), (9, .int 0), (7, .int (x7_58 ||| (L_arePuppets_J232 K_58 x5_58 x6_58 (x8_58 + (L_arePuppets_J211 K_58 x5_58 x6_58 x7_58 x10_58 u_22 u_30.1 u_30.2 x10_58 ((K_58.1 4) (Int32.toNatClampNeg x10_58)) x8_58)) x10_58 u_22 u_30.1 u_30.2 ((K_58.1 0) (Int32.toNatClampNeg ((3 * x10_58) + 2))) x7_58))), (0, .ref o), (1, .ref (a 0)), (2, .ref (a 1)), (3, .ref (a 3)), (4, .ref (a 4)), (5, .int x5_58), (6, .int x6_58), (8, .int (x8_58 + (L_arePuppets_J211 K_58 x5_58 x6_58 x7_58 x10_58 u_22 u_30.1 u_30.2 x10_58 ((K_58.1 4) (Int32.toNatClampNeg x10_58)) x8_58))), (11, .int u_22), (12, .int u_30.1), (13, .int u_30.2)]) hx hb dL_arePuppets_411 hl (k := 10) rfl (by rfl) (by decide) rfl (fun ls hl => ?_)
              refine lv_goto (tgt := 58) hx hb dL_arePuppets_414 (by decide) ?_
              exact ih K_58 x5_58 x6_58 (x7_58 ||| (L_arePuppets_J232 K_58 x5_58 x6_58 (x8_58 + (L_arePuppets_J211 K_58 x5_58 x6_58 x7_58 x10_58 u_22 u_30.1 u_30.2 x10_58 ((K_58.1 4) (Int32.toNatClampNeg x10_58)) x8_58)) x10_58 u_22 u_30.1 u_30.2 ((K_58.1 0) (Int32.toNatClampNeg ((3 * x10_58) + 2))) x7_58)) (x8_58 + (L_arePuppets_J211 K_58 x5_58 x6_58 x7_58 x10_58 u_22 u_30.1 u_30.2 x10_58 ((K_58.1 4) (Int32.toNatClampNeg x10_58)) x8_58)) 0 (x10_58 + 1) _ _ _ ls hf hP hD hS (lv_sub hl [3, 4, 5, 6, 7, 8, 9, 2, 10, 1, 0] rfl) hk
            · replace hf := (if_pos c_43).symm.trans hf
              refine lv_aload_n hx hb dL_arePuppets_280 rfl (lv_at hl 1 rfl) ?_
              refine lv_iload hx hb dL_arePuppets_281 (lv_at hl 9 rfl) ?_
              refine lv_iconst (v := 2) hx hb dL_arePuppets_283 (by decide) ?_
              obtain ⟨u_44, h_45, hf⟩ := ob hf
              refine k_rd (runV F wdL_26 (rm := rm_X6_puppetOf) (As := [.int x10_58, .int 2]) (rest := []) ⟨rfl, rfl⟩ ⟨Nat.le_of_ble_eq_true rfl, Nat.le_of_ble_eq_true rfl⟩ hl.1 rfl rfl (Nat.le_of_ble_eq_true rfl) dL_arePuppets_284 ⟨Nat.zero_le _, Nat.zero_le _⟩) (c_X6_puppetOf l D cI cP o h tx tn Ad K_58.2 x10_58 2 _ h_45) hX (va_recv hX.1 (va_blk (Bs := (bLM cI cP o h tx tn Ad a K_58)) hP 1 rfl) (ci := 6) (q0 := 0) rfl rfl) (va_blk (Bs := (bLM cI cP o h tx tn Ad a K_58)) hP 1 rfl) hP hS hA (fun H locs hP hS => ?_)
              refine lv_aload_n hx hb dL_arePuppets_287 rfl (lv_at hl 2 rfl) ?_
              refine lv_iconst (v := 3) hx hb dL_arePuppets_288 (by decide) ?_
              refine lv_iload hx hb dL_arePuppets_289 (lv_at hl 9 rfl) ?_
              refine lv_imul hx hb dL_arePuppets_291 ?_
              refine lv_iconst (v := 2) hx hb dL_arePuppets_292 (by decide) ?_
              refine lv_iadd hx hb dL_arePuppets_293 ?_
              refine va_iald hx hb hX.1 hP 0 0 (n := 36) (f := (K_58.1 0)) rfl rfl g_34 dL_arePuppets_294 ?_
              have hJ_295 : ∀ (K_295 : SLM) (x5_295 : Int32) (x6_295 : Int32) (x7_295 : Int32) (x8_295 : Int32) (x10_295 : Int32) (x11_295 : Int32) (x12_295 : Int32) (x13_295 : Int32) (t0_295 : Int32) (t1_295 : Int32) (v : Int32) (H : Heap) (locs : List Loc) (ls : Array Slot), L_arePuppets_J295 K_295 x5_295 x6_295 x7_295 x8_295 x10_295 x11_295 x12_295 x13_295 t0_295 t1_295 = some v → va_P D vwCl (wLM cI cP o h tx tn Ad a K_295) H → va_D A (wLM cI cP o h tx tn Ad a K_295) → va_S A s.heap H locs → lv_has ls 15 [(7, .int x7_295), (0, .ref o), (1, .ref (a 0)), (2, .ref (a 1)), (3, .ref (a 3)), (4, .ref (a 4)), (5, .int x5_295), (6, .int x6_295), (8, .int x8_295), (10, .int x10_295), (11, .int x11_295), (12, .int x12_295), (13, .int x13_295)] → (∀ (H : Heap) (locs : List Loc) (ls : Array Slot), va_P D vwCl (wLM cI cP o h tx tn Ad a K_295) H → va_D A (wLM cI cP o h tx tn Ad a K_295) → va_S A s.heap H locs → lv_has ls 15 [(0, .ref o), (1, .ref (a 0)), (2, .ref (a 1)), (3, .ref (a 3)), (4, .ref (a 4)), (5, .int x5_295), (6, .int x6_295), (7, .int x7_295), (8, .int x8_295), (10, .int x10_295), (11, .int x11_295), (12, .int x12_295), (13, .int x13_295)] → W p l e rm_L_arePuppets s m args below meth c H locs 0 0 (QWi D below args s A (wLM cI cP o h tx tn Ad a z.1) z.2) (F0 m 311 ls [.int v, .int t1_295])) → W p l e rm_L_arePuppets s m args below meth c H locs 0 0 (QWi D below args s A (wLM cI cP o h tx tn Ad a z.1) z.2) (F0 m 295 ls [.int t0_295, .int t1_295]) := by
                intro K_295 x5_295 x6_295 x7_295 x8_295 x10_295 x11_295 x12_295 x13_295 t0_295 t1_295 v _ _ ls hf hP hD hS hl hk
                unfold L_arePuppets_J295 at hf
                refine lv_if_ge (tgt := 303) hx hb dL_arePuppets_295 (by decide) (fun c_46 => ?_) (fun c_46 => ?_)
                · replace hf := (if_pos c_46).symm.trans hf
                  refine lv_aload_n hx hb dL_arePuppets_303 rfl (lv_at hl 2 rfl) ?_
                  refine lv_iconst (v := 3) hx hb dL_arePuppets_304 (by decide) ?_
                  refine lv_iload hx hb dL_arePuppets_305 (lv_at hl 9 rfl) ?_
                  refine lv_imul hx hb dL_arePuppets_307 ?_
                  refine lv_iconst (v := 2) hx hb dL_arePuppets_308 (by decide) ?_
                  refine lv_iadd hx hb dL_arePuppets_309 ?_
                  have g_47 := og hf
                  replace hf := (if_pos g_47).symm.trans hf
                  refine va_iald hx hb hX.1 hP 0 0 (n := 36) (f := (K_295.1 0)) rfl rfl g_47 dL_arePuppets_310 ?_
                  obtain rfl := Option.some.inj hf
                  exact hk _ _ ls hP hD hS (lv_sub hl [1, 2, 3, 4, 5, 6, 7, 0, 8, 9, 10, 11, 12] rfl)
                · replace hf := (if_neg c_46).symm.trans hf
                  refine lv_ldc (v := (-1000004)) hx hb hown (hts _ q_317) dL_arePuppets_298 ?_
                  refine lv_goto (tgt := 311) hx hb dL_arePuppets_300 (by decide) ?_
                  obtain rfl := Option.some.inj hf
                  exact hk _ _ ls hP hD hS (lv_sub hl [1, 2, 3, 4, 5, 6, 7, 0, 8, 9, 10, 11, 12] rfl)
              obtain ⟨u_48, h_49, hf⟩ := ob hf
              refine hJ_295 K_58 x5_58 x6_58 (x7_58 ||| (L_arePuppets_J232 K_58 x5_58 x6_58 (x8_58 + (L_arePuppets_J211 K_58 x5_58 x6_58 x7_58 x10_58 u_22 u_30.1 u_30.2 x10_58 ((K_58.1 4) (Int32.toNatClampNeg x10_58)) x8_58)) x10_58 u_22 u_30.1 u_30.2 ((K_58.1 0) (Int32.toNatClampNeg ((3 * x10_58) + 2))) x7_58)) (x8_58 + (L_arePuppets_J211 K_58 x5_58 x6_58 x7_58 x10_58 u_22 u_30.1 u_30.2 x10_58 ((K_58.1 4) (Int32.toNatClampNeg x10_58)) x8_58)) x10_58 u_22 u_30.1 u_30.2 ((K_58.1 0) (Int32.toNatClampNeg ((3 * x10_58) + 2))) u_44 u_48 _ _ ls h_49 hP hD hS hl (fun H locs ls hP hD hS hl => ?_)
              clear hJ_295
              refine lv_icmp_ne (tgt := 408) hx hb dL_arePuppets_311 (by decide) (fun c_50 => ?_) (fun c_50 => ?_)
              · replace hf := (if_neg c_50).symm.trans hf
                refine lv_iconst (v := 0) hx hb dL_arePuppets_408 (by decide) ?_
                refine lv_istore (lv' := [(9, .int 0), (0, .ref o), (1, .ref (a 0)), (2, .ref (a 1)), (3, .ref (a 3)), (4, .ref (a 4)), (5, .int x5_58), (6, .int x6_58), (7, .int (x7_58 ||| (L_arePuppets_J232 K_58 x5_58 x6_58 (x8_58 + (L_arePuppets_J211 K_58 x5_58 x6_58 x7_58 x10_58 u_22 u_30.1 u_30.2 x10_58 ((K_58.1 4) (Int32.toNatClampNeg x10_58)) x8_58)) x10_58 u_22 u_30.1 u_30.2 ((K_58.1 0) (Int32.toNatClampNeg ((3 * x10_58) + 2))) x7_58))), (8, .int (x8_58 + (L_arePuppets_J211 K_58 x5_58 x6_58 x7_58 x10_58 u_22 u_30.1 u_30.2 x10_58 ((K_58.1 4) (Int32.toNatClampNeg x10_58)) x8_58))), (10, .int x10_58), (11, .int u_22), (12, .int u_30.1), (13, .int u_30.2)]) hx hb dL_arePuppets_409 hl (by decide) rfl (fun ls hl => ?_)
                refine lv_iinc (v := (x10_58 + 1)) (lv' := [(10, .int (x10_58 + 1)), (9, .int 0), (0, .ref o), (1, .ref (a 0)), (2, .ref (a 1)), (3, .ref (a 3)), (4, .ref (a 4)), (5, .int x5_58), (6, .int x6_58), (7, .int (x7_58 ||| (L_arePuppets_J232 K_58 x5_58 x6_58 (x8_58 + (L_arePuppets_J211 K_58 x5_58 x6_58 x7_58 x10_58 u_22 u_30.1 u_30.2 x10_58 ((K_58.1 4) (Int32.toNatClampNeg x10_58)) x8_58)) x10_58 u_22 u_30.1 u_30.2 ((K_58.1 0) (Int32.toNatClampNeg ((3 * x10_58) + 2))) x7_58))), (8, .int (x8_58 + (L_arePuppets_J211 K_58 x5_58 x6_58 x7_58 x10_58 u_22 u_30.1 u_30.2 x10_58 ((K_58.1 4) (Int32.toNatClampNeg x10_58)) x8_58))), (11, .int u_22), (12, .int u_30.1), (13, .int u_30.2)]) hx hb dL_arePuppets_411 hl (k := 10) rfl (by rfl) (by decide) rfl (fun ls hl => ?_)
                refine lv_goto (tgt := 58) hx hb dL_arePuppets_414 (by decide) ?_
                exact ih K_58 x5_58 x6_58 (x7_58 ||| (L_arePuppets_J232 K_58 x5_58 x6_58 (x8_58 + (L_arePuppets_J211 K_58 x5_58 x6_58 x7_58 x10_58 u_22 u_30.1 u_30.2 x10_58 ((K_58.1 4) (Int32.toNatClampNeg x10_58)) x8_58)) x10_58 u_22 u_30.1 u_30.2 ((K_58.1 0) (Int32.toNatClampNeg ((3 * x10_58) + 2))) x7_58)) (x8_58 + (L_arePuppets_J211 K_58 x5_58 x6_58 x7_58 x10_58 u_22 u_30.1 u_30.2 x10_58 ((K_58.1 4) (Int32.toNatClampNeg x10_58)) x8_58)) 0 (x10_58 + 1) _ _ _ ls hf hP hD hS (lv_sub hl [2, 3, 4, 5, 6, 7, 8, 9, 10, 1, 0] rfl) hk
              · replace hf := (if_pos c_50).symm.trans hf
                refine lv_aload_n hx hb dL_arePuppets_314 rfl (lv_at hl 0 rfl) ?_
                refine lv_iload hx hb dL_arePuppets_315 (lv_at hl 9 rfl) ?_
                refine lv_iconst (v := 3) hx hb dL_arePuppets_317 (by decide) ?_
                obtain ⟨u_51, h_52, hf⟩ := ob hf
                refine k_rd (runV F wdL_26 (rm := rm_X6_puppetOf) (As := [.int x10_58, .int 3]) (rest := []) ⟨rfl, rfl⟩ ⟨Nat.le_of_ble_eq_true rfl, Nat.le_of_ble_eq_true rfl⟩ hl.1 rfl rfl (Nat.le_of_ble_eq_true rfl) dL_arePuppets_318 ⟨Nat.zero_le _, Nat.zero_le _⟩) (c_X6_puppetOf l D cI cP o h tx tn Ad K_58.2 x10_58 3 _ h_52) hX (va_recv hX.1 (va_blk (Bs := (bLM cI cP o h tx tn Ad a K_58)) hP 1 rfl) (ci := 6) (q0 := 0) rfl rfl) (va_blk (Bs := (bLM cI cP o h tx tn Ad a K_58)) hP 1 rfl) hP hS hA (fun H locs hP hS => ?_)
                refine lv_aload hx hb dL_arePuppets_321 (lv_at hl 4 rfl) ?_
                refine lv_bipush (v := 24) hx hb dL_arePuppets_323 (by decide) ?_
                refine lv_iload hx hb dL_arePuppets_325 (lv_at hl 9 rfl) ?_
                refine lv_iadd hx hb dL_arePuppets_327 ?_
                have g_53 := og hf
                replace hf := (if_pos g_53).symm.trans hf
                refine va_iald hx hb hX.1 hP 4 0 (n := 36) (f := (K_58.1 4)) rfl rfl g_53 dL_arePuppets_328 ?_
                refine lv_icmp_ne (tgt := 408) hx hb dL_arePuppets_329 (by decide) (fun c_54 => ?_) (fun c_54 => ?_)
                · replace hf := (if_neg c_54).symm.trans hf
                  refine lv_iconst (v := 0) hx hb dL_arePuppets_408 (by decide) ?_
                  refine lv_istore (lv' := [(9, .int 0), (0, .ref o), (1, .ref (a 0)), (2, .ref (a 1)), (3, .ref (a 3)), (4, .ref (a 4)), (5, .int x5_58), (6, .int x6_58), (7, .int (x7_58 ||| (L_arePuppets_J232 K_58 x5_58 x6_58 (x8_58 + (L_arePuppets_J211 K_58 x5_58 x6_58 x7_58 x10_58 u_22 u_30.1 u_30.2 x10_58 ((K_58.1 4) (Int32.toNatClampNeg x10_58)) x8_58)) x10_58 u_22 u_30.1 u_30.2 ((K_58.1 0) (Int32.toNatClampNeg ((3 * x10_58) + 2))) x7_58))), (8, .int (x8_58 + (L_arePuppets_J211 K_58 x5_58 x6_58 x7_58 x10_58 u_22 u_30.1 u_30.2 x10_58 ((K_58.1 4) (Int32.toNatClampNeg x10_58)) x8_58))), (10, .int x10_58), (11, .int u_22), (12, .int u_30.1), (13, .int u_30.2)]) hx hb dL_arePuppets_409 hl (by decide) rfl (fun ls hl => ?_)
                  refine lv_iinc (v := (x10_58 + 1)) (lv' := [(10, .int (x10_58 + 1)), (9, .int 0), (0, .ref o), (1, .ref (a 0)), (2, .ref (a 1)), (3, .ref (a 3)), (4, .ref (a 4)), (5, .int x5_58), (6, .int x6_58), (7, .int (x7_58 ||| (L_arePuppets_J232 K_58 x5_58 x6_58 (x8_58 + (L_arePuppets_J211 K_58 x5_58 x6_58 x7_58 x10_58 u_22 u_30.1 u_30.2 x10_58 ((K_58.1 4) (Int32.toNatClampNeg x10_58)) x8_58)) x10_58 u_22 u_30.1 u_30.2 ((K_58.1 0) (Int32.toNatClampNeg ((3 * x10_58) + 2))) x7_58))), (8, .int (x8_58 + (L_arePuppets_J211 K_58 x5_58 x6_58 x7_58 x10_58 u_22 u_30.1 u_30.2 x10_58 ((K_58.1 4) (Int32.toNatClampNeg x10_58)) x8_58))), (11, .int u_22), (12, .int u_30.1), (13, .int u_30.2)]) hx hb dL_arePuppets_411 hl (k := 10) rfl (by rfl) (by decide) rfl (fun ls hl => ?_)
                  refine lv_goto (tgt := 58) hx hb dL_arePuppets_414 (by decide) ?_
                  exact ih K_58 x5_58 x6_58 (x7_58 ||| (L_arePuppets_J232 K_58 x5_58 x6_58 (x8_58 + (L_arePuppets_J211 K_58 x5_58 x6_58 x7_58 x10_58 u_22 u_30.1 u_30.2 x10_58 ((K_58.1 4) (Int32.toNatClampNeg x10_58)) x8_58)) x10_58 u_22 u_30.1 u_30.2 ((K_58.1 0) (Int32.toNatClampNeg ((3 * x10_58) + 2))) x7_58)) (x8_58 + (L_arePuppets_J211 K_58 x5_58 x6_58 x7_58 x10_58 u_22 u_30.1 u_30.2 x10_58 ((K_58.1 4) (Int32.toNatClampNeg x10_58)) x8_58)) 0 (x10_58 + 1) _ _ _ ls hf hP hD hS (lv_sub hl [2, 3, 4, 5, 6, 7, 8, 9, 10, 1, 0] rfl) hk
                · replace hf := (if_pos c_54).symm.trans hf
                  refine lv_aload_n hx hb dL_arePuppets_332 rfl (lv_at hl 0 rfl) ?_
                  refine lv_iload hx hb dL_arePuppets_333 (lv_at hl 9 rfl) ?_
                  refine lv_iconst (v := 4) hx hb dL_arePuppets_335 (by decide) ?_
                  obtain ⟨u_55, h_56, hf⟩ := ob hf
                  refine k_rd (runV F wdL_26 (rm := rm_X6_puppetOf) (As := [.int x10_58, .int 4]) (rest := []) ⟨rfl, rfl⟩ ⟨Nat.le_of_ble_eq_true rfl, Nat.le_of_ble_eq_true rfl⟩ hl.1 rfl rfl (Nat.le_of_ble_eq_true rfl) dL_arePuppets_336 ⟨Nat.zero_le _, Nat.zero_le _⟩) (c_X6_puppetOf l D cI cP o h tx tn Ad K_58.2 x10_58 4 _ h_56) hX (va_recv hX.1 (va_blk (Bs := (bLM cI cP o h tx tn Ad a K_58)) hP 1 rfl) (ci := 6) (q0 := 0) rfl rfl) (va_blk (Bs := (bLM cI cP o h tx tn Ad a K_58)) hP 1 rfl) hP hS hA (fun H locs hP hS => ?_)
                  refine lv_aload hx hb dL_arePuppets_339 (lv_at hl 4 rfl) ?_
                  refine lv_iload hx hb dL_arePuppets_341 (lv_at hl 9 rfl) ?_
                  refine va_iald hx hb hX.1 hP 4 0 (n := 36) (f := (K_58.1 4)) rfl rfl g_32 dL_arePuppets_343 ?_
                  refine lv_icmp_ne (tgt := 408) hx hb dL_arePuppets_344 (by decide) (fun c_57 => ?_) (fun c_57 => ?_)
                  · replace hf := (if_neg c_57).symm.trans hf
                    refine lv_iconst (v := 0) hx hb dL_arePuppets_408 (by decide) ?_
                    refine lv_istore (lv' := [(9, .int 0), (0, .ref o), (1, .ref (a 0)), (2, .ref (a 1)), (3, .ref (a 3)), (4, .ref (a 4)), (5, .int x5_58), (6, .int x6_58), (7, .int (x7_58 ||| (L_arePuppets_J232 K_58 x5_58 x6_58 (x8_58 + (L_arePuppets_J211 K_58 x5_58 x6_58 x7_58 x10_58 u_22 u_30.1 u_30.2 x10_58 ((K_58.1 4) (Int32.toNatClampNeg x10_58)) x8_58)) x10_58 u_22 u_30.1 u_30.2 ((K_58.1 0) (Int32.toNatClampNeg ((3 * x10_58) + 2))) x7_58))), (8, .int (x8_58 + (L_arePuppets_J211 K_58 x5_58 x6_58 x7_58 x10_58 u_22 u_30.1 u_30.2 x10_58 ((K_58.1 4) (Int32.toNatClampNeg x10_58)) x8_58))), (10, .int x10_58), (11, .int u_22), (12, .int u_30.1), (13, .int u_30.2)]) hx hb dL_arePuppets_409 hl (by decide) rfl (fun ls hl => ?_)
                    refine lv_iinc (v := (x10_58 + 1)) (lv' := [(10, .int (x10_58 + 1)), (9, .int 0), (0, .ref o), (1, .ref (a 0)), (2, .ref (a 1)), (3, .ref (a 3)), (4, .ref (a 4)), (5, .int x5_58), (6, .int x6_58), (7, .int (x7_58 ||| (L_arePuppets_J232 K_58 x5_58 x6_58 (x8_58 + (L_arePuppets_J211 K_58 x5_58 x6_58 x7_58 x10_58 u_22 u_30.1 u_30.2 x10_58 ((K_58.1 4) (Int32.toNatClampNeg x10_58)) x8_58)) x10_58 u_22 u_30.1 u_30.2 ((K_58.1 0) (Int32.toNatClampNeg ((3 * x10_58) + 2))) x7_58))), (8, .int (x8_58 + (L_arePuppets_J211 K_58 x5_58 x6_58 x7_58 x10_58 u_22 u_30.1 u_30.2 x10_58 ((K_58.1 4) (Int32.toNatClampNeg x10_58)) x8_58))), (11, .int u_22), (12, .int u_30.1), (13, .int u_30.2)]) hx hb dL_arePuppets_411 hl (k := 10) rfl (by rfl) (by decide) rfl (fun ls hl => ?_)
                    refine lv_goto (tgt := 58) hx hb dL_arePuppets_414 (by decide) ?_
                    exact ih K_58 x5_58 x6_58 (x7_58 ||| (L_arePuppets_J232 K_58 x5_58 x6_58 (x8_58 + (L_arePuppets_J211 K_58 x5_58 x6_58 x7_58 x10_58 u_22 u_30.1 u_30.2 x10_58 ((K_58.1 4) (Int32.toNatClampNeg x10_58)) x8_58)) x10_58 u_22 u_30.1 u_30.2 ((K_58.1 0) (Int32.toNatClampNeg ((3 * x10_58) + 2))) x7_58)) (x8_58 + (L_arePuppets_J211 K_58 x5_58 x6_58 x7_58 x10_58 u_22 u_30.1 u_30.2 x10_58 ((K_58.1 4) (Int32.toNatClampNeg x10_58)) x8_58)) 0 (x10_58 + 1) _ _ _ ls hf hP hD hS (lv_sub hl [2, 3, 4, 5, 6, 7, 8, 9, 10, 1, 0] rfl) hk
                  · replace hf := (if_pos c_57).symm.trans hf
                    refine lv_aload_n hx hb dL_arePuppets_347 rfl (lv_at hl 0 rfl) ?_
                    refine lv_iload hx hb dL_arePuppets_348 (lv_at hl 9 rfl) ?_
                    refine lv_iconst (v := 5) hx hb dL_arePuppets_350 (by decide) ?_
                    obtain ⟨u_58, h_59, hf⟩ := ob hf
                    refine k_rd (runV F wdL_26 (rm := rm_X6_puppetOf) (As := [.int x10_58, .int 5]) (rest := []) ⟨rfl, rfl⟩ ⟨Nat.le_of_ble_eq_true rfl, Nat.le_of_ble_eq_true rfl⟩ hl.1 rfl rfl (Nat.le_of_ble_eq_true rfl) dL_arePuppets_351 ⟨Nat.zero_le _, Nat.zero_le _⟩) (c_X6_puppetOf l D cI cP o h tx tn Ad K_58.2 x10_58 5 _ h_59) hX (va_recv hX.1 (va_blk (Bs := (bLM cI cP o h tx tn Ad a K_58)) hP 1 rfl) (ci := 6) (q0 := 0) rfl rfl) (va_blk (Bs := (bLM cI cP o h tx tn Ad a K_58)) hP 1 rfl) hP hS hA (fun H locs hP hS => ?_)
                    refine lv_aload hx hb dL_arePuppets_354 (lv_at hl 4 rfl) ?_
                    refine lv_bipush (v := 12) hx hb dL_arePuppets_356 (by decide) ?_
                    refine lv_iload hx hb dL_arePuppets_358 (lv_at hl 9 rfl) ?_
                    refine lv_iadd hx hb dL_arePuppets_360 ?_
                    have g_60 := og hf
                    replace hf := (if_pos g_60).symm.trans hf
                    refine va_iald hx hb hX.1 hP 4 0 (n := 36) (f := (K_58.1 4)) rfl rfl g_60 dL_arePuppets_361 ?_
                    refine lv_icmp_ne (tgt := 408) hx hb dL_arePuppets_362 (by decide) (fun c_61 => ?_) (fun c_61 => ?_)
                    · replace hf := (if_neg c_61).symm.trans hf
                      refine lv_iconst (v := 0) hx hb dL_arePuppets_408 (by decide) ?_
                      refine lv_istore (lv' := [(9, .int 0), (0, .ref o), (1, .ref (a 0)), (2, .ref (a 1)), (3, .ref (a 3)), (4, .ref (a 4)), (5, .int x5_58), (6, .int x6_58), (7, .int (x7_58 ||| (L_arePuppets_J232 K_58 x5_58 x6_58 (x8_58 + (L_arePuppets_J211 K_58 x5_58 x6_58 x7_58 x10_58 u_22 u_30.1 u_30.2 x10_58 ((K_58.1 4) (Int32.toNatClampNeg x10_58)) x8_58)) x10_58 u_22 u_30.1 u_30.2 ((K_58.1 0) (Int32.toNatClampNeg ((3 * x10_58) + 2))) x7_58))), (8, .int (x8_58 + (L_arePuppets_J211 K_58 x5_58 x6_58 x7_58 x10_58 u_22 u_30.1 u_30.2 x10_58 ((K_58.1 4) (Int32.toNatClampNeg x10_58)) x8_58))), (10, .int x10_58), (11, .int u_22), (12, .int u_30.1), (13, .int u_30.2)]) hx hb dL_arePuppets_409 hl (by decide) rfl (fun ls hl => ?_)
                      refine lv_iinc (v := (x10_58 + 1)) (lv' := [(10, .int (x10_58 + 1)), (9, .int 0), (0, .ref o), (1, .ref (a 0)), (2, .ref (a 1)), (3, .ref (a 3)), (4, .ref (a 4)), (5, .int x5_58), (6, .int x6_58), (7, .int (x7_58 ||| (L_arePuppets_J232 K_58 x5_58 x6_58 (x8_58 + (L_arePuppets_J211 K_58 x5_58 x6_58 x7_58 x10_58 u_22 u_30.1 u_30.2 x10_58 ((K_58.1 4) (Int32.toNatClampNeg x10_58)) x8_58)) x10_58 u_22 u_30.1 u_30.2 ((K_58.1 0) (Int32.toNatClampNeg ((3 * x10_58) + 2))) x7_58))), (8, .int (x8_58 + (L_arePuppets_J211 K_58 x5_58 x6_58 x7_58 x10_58 u_22 u_30.1 u_30.2 x10_58 ((K_58.1 4) (Int32.toNatClampNeg x10_58)) x8_58))), (11, .int u_22), (12, .int u_30.1), (13, .int u_30.2)]) hx hb dL_arePuppets_411 hl (k := 10) rfl (by rfl) (by decide) rfl (fun ls hl => ?_)
                      refine lv_goto (tgt := 58) hx hb dL_arePuppets_414 (by decide) ?_
                      exact ih K_58 x5_58 x6_58 (x7_58 ||| (L_arePuppets_J232 K_58 x5_58 x6_58 (x8_58 + (L_arePuppets_J211 K_58 x5_58 x6_58 x7_58 x10_58 u_22 u_30.1 u_30.2 x10_58 ((K_58.1 4) (Int32.toNatClampNeg x10_58)) x8_58)) x10_58 u_22 u_30.1 u_30.2 ((K_58.1 0) (Int32.toNatClampNeg ((3 * x10_58) + 2))) x7_58)) (x8_58 + (L_arePuppets_J211 K_58 x5_58 x6_58 x7_58 x10_58 u_22 u_30.1 u_30.2 x10_58 ((K_58.1 4) (Int32.toNatClampNeg x10_58)) x8_58)) 0 (x10_58 + 1) _ _ _ ls hf hP hD hS (lv_sub hl [2, 3, 4, 5, 6, 7, 8, 9, 10, 1, 0] rfl) hk
                    · replace hf := (if_pos c_61).symm.trans hf
                      refine lv_aload_n hx hb dL_arePuppets_365 rfl (lv_at hl 0 rfl) ?_
                      refine lv_iload hx hb dL_arePuppets_366 (lv_at hl 9 rfl) ?_
                      refine lv_bipush (v := 6) hx hb dL_arePuppets_368 (by decide) ?_
                      obtain ⟨u_62, h_63, hf⟩ := ob hf
                      refine k_rd (runV F wdL_26 (rm := rm_X6_puppetOf) (As := [.int x10_58, .int 6]) (rest := []) ⟨rfl, rfl⟩ ⟨Nat.le_of_ble_eq_true rfl, Nat.le_of_ble_eq_true rfl⟩ hl.1 rfl rfl (Nat.le_of_ble_eq_true rfl) dL_arePuppets_370 ⟨Nat.zero_le _, Nat.zero_le _⟩) (c_X6_puppetOf l D cI cP o h tx tn Ad K_58.2 x10_58 6 _ h_63) hX (va_recv hX.1 (va_blk (Bs := (bLM cI cP o h tx tn Ad a K_58)) hP 1 rfl) (ci := 6) (q0 := 0) rfl rfl) (va_blk (Bs := (bLM cI cP o h tx tn Ad a K_58)) hP 1 rfl) hP hS hA (fun H locs hP hS => ?_)
                      refine lv_iload hx hb dL_arePuppets_373 (lv_at hl 10 rfl) ?_
                      refine lv_icmp_ne (tgt := 408) hx hb dL_arePuppets_375 (by decide) (fun c_64 => ?_) (fun c_64 => ?_)
                      · replace hf := (if_neg c_64).symm.trans hf
                        refine lv_iconst (v := 0) hx hb dL_arePuppets_408 (by decide) ?_
                        refine lv_istore (lv' := [(9, .int 0), (0, .ref o), (1, .ref (a 0)), (2, .ref (a 1)), (3, .ref (a 3)), (4, .ref (a 4)), (5, .int x5_58), (6, .int x6_58), (7, .int (x7_58 ||| (L_arePuppets_J232 K_58 x5_58 x6_58 (x8_58 + (L_arePuppets_J211 K_58 x5_58 x6_58 x7_58 x10_58 u_22 u_30.1 u_30.2 x10_58 ((K_58.1 4) (Int32.toNatClampNeg x10_58)) x8_58)) x10_58 u_22 u_30.1 u_30.2 ((K_58.1 0) (Int32.toNatClampNeg ((3 * x10_58) + 2))) x7_58))), (8, .int (x8_58 + (L_arePuppets_J211 K_58 x5_58 x6_58 x7_58 x10_58 u_22 u_30.1 u_30.2 x10_58 ((K_58.1 4) (Int32.toNatClampNeg x10_58)) x8_58))), (10, .int x10_58), (11, .int u_22), (12, .int u_30.1), (13, .int u_30.2)]) hx hb dL_arePuppets_409 hl (by decide) rfl (fun ls hl => ?_)
                        refine lv_iinc (v := (x10_58 + 1)) (lv' := [(10, .int (x10_58 + 1)), (9, .int 0), (0, .ref o), (1, .ref (a 0)), (2, .ref (a 1)), (3, .ref (a 3)), (4, .ref (a 4)), (5, .int x5_58), (6, .int x6_58), (7, .int (x7_58 ||| (L_arePuppets_J232 K_58 x5_58 x6_58 (x8_58 + (L_arePuppets_J211 K_58 x5_58 x6_58 x7_58 x10_58 u_22 u_30.1 u_30.2 x10_58 ((K_58.1 4) (Int32.toNatClampNeg x10_58)) x8_58)) x10_58 u_22 u_30.1 u_30.2 ((K_58.1 0) (Int32.toNatClampNeg ((3 * x10_58) + 2))) x7_58))), (8, .int (x8_58 + (L_arePuppets_J211 K_58 x5_58 x6_58 x7_58 x10_58 u_22 u_30.1 u_30.2 x10_58 ((K_58.1 4) (Int32.toNatClampNeg x10_58)) x8_58))), (11, .int u_22), (12, .int u_30.1), (13, .int u_30.2)]) hx hb dL_arePuppets_411 hl (k := 10) rfl (by rfl) (by decide) rfl (fun ls hl => ?_)
                        refine lv_goto (tgt := 58) hx hb dL_arePuppets_414 (by decide) ?_
                        exact ih K_58 x5_58 x6_58 (x7_58 ||| (L_arePuppets_J232 K_58 x5_58 x6_58 (x8_58 + (L_arePuppets_J211 K_58 x5_58 x6_58 x7_58 x10_58 u_22 u_30.1 u_30.2 x10_58 ((K_58.1 4) (Int32.toNatClampNeg x10_58)) x8_58)) x10_58 u_22 u_30.1 u_30.2 ((K_58.1 0) (Int32.toNatClampNeg ((3 * x10_58) + 2))) x7_58)) (x8_58 + (L_arePuppets_J211 K_58 x5_58 x6_58 x7_58 x10_58 u_22 u_30.1 u_30.2 x10_58 ((K_58.1 4) (Int32.toNatClampNeg x10_58)) x8_58)) 0 (x10_58 + 1) _ _ _ ls hf hP hD hS (lv_sub hl [2, 3, 4, 5, 6, 7, 8, 9, 10, 1, 0] rfl) hk
                      · replace hf := (if_pos c_64).symm.trans hf
                        refine lv_aload_n hx hb dL_arePuppets_378 rfl (lv_at hl 0 rfl) ?_
                        refine lv_iload hx hb dL_arePuppets_379 (lv_at hl 9 rfl) ?_
                        refine lv_bipush (v := 7) hx hb dL_arePuppets_381 (by decide) ?_
                        obtain ⟨u_65, h_66, hf⟩ := ob hf
                        refine k_rd (runV F wdL_26 (rm := rm_X6_puppetOf) (As := [.int x10_58, .int 7]) (rest := []) ⟨rfl, rfl⟩ ⟨Nat.le_of_ble_eq_true rfl, Nat.le_of_ble_eq_true rfl⟩ hl.1 rfl rfl (Nat.le_of_ble_eq_true rfl) dL_arePuppets_383 ⟨Nat.zero_le _, Nat.zero_le _⟩) (c_X6_puppetOf l D cI cP o h tx tn Ad K_58.2 x10_58 7 _ h_66) hX (va_recv hX.1 (va_blk (Bs := (bLM cI cP o h tx tn Ad a K_58)) hP 1 rfl) (ci := 6) (q0 := 0) rfl rfl) (va_blk (Bs := (bLM cI cP o h tx tn Ad a K_58)) hP 1 rfl) hP hS hA (fun H locs hP hS => ?_)
                        refine lv_iload hx hb dL_arePuppets_386 (lv_at hl 11 rfl) ?_
                        refine lv_icmp_ne (tgt := 408) hx hb dL_arePuppets_388 (by decide) (fun c_67 => ?_) (fun c_67 => ?_)
                        · replace hf := (if_neg c_67).symm.trans hf
                          refine lv_iconst (v := 0) hx hb dL_arePuppets_408 (by decide) ?_
                          refine lv_istore (lv' := [(9, .int 0), (0, .ref o), (1, .ref (a 0)), (2, .ref (a 1)), (3, .ref (a 3)), (4, .ref (a 4)), (5, .int x5_58), (6, .int x6_58), (7, .int (x7_58 ||| (L_arePuppets_J232 K_58 x5_58 x6_58 (x8_58 + (L_arePuppets_J211 K_58 x5_58 x6_58 x7_58 x10_58 u_22 u_30.1 u_30.2 x10_58 ((K_58.1 4) (Int32.toNatClampNeg x10_58)) x8_58)) x10_58 u_22 u_30.1 u_30.2 ((K_58.1 0) (Int32.toNatClampNeg ((3 * x10_58) + 2))) x7_58))), (8, .int (x8_58 + (L_arePuppets_J211 K_58 x5_58 x6_58 x7_58 x10_58 u_22 u_30.1 u_30.2 x10_58 ((K_58.1 4) (Int32.toNatClampNeg x10_58)) x8_58))), (10, .int x10_58), (11, .int u_22), (12, .int u_30.1), (13, .int u_30.2)]) hx hb dL_arePuppets_409 hl (by decide) rfl (fun ls hl => ?_)
                          refine lv_iinc (v := (x10_58 + 1)) (lv' := [(10, .int (x10_58 + 1)), (9, .int 0), (0, .ref o), (1, .ref (a 0)), (2, .ref (a 1)), (3, .ref (a 3)), (4, .ref (a 4)), (5, .int x5_58), (6, .int x6_58), (7, .int (x7_58 ||| (L_arePuppets_J232 K_58 x5_58 x6_58 (x8_58 + (L_arePuppets_J211 K_58 x5_58 x6_58 x7_58 x10_58 u_22 u_30.1 u_30.2 x10_58 ((K_58.1 4) (Int32.toNatClampNeg x10_58)) x8_58)) x10_58 u_22 u_30.1 u_30.2 ((K_58.1 0) (Int32.toNatClampNeg ((3 * x10_58) + 2))) x7_58))), (8, .int (x8_58 + (L_arePuppets_J211 K_58 x5_58 x6_58 x7_58 x10_58 u_22 u_30.1 u_30.2 x10_58 ((K_58.1 4) (Int32.toNatClampNeg x10_58)) x8_58))), (11, .int u_22), (12, .int u_30.1), (13, .int u_30.2)]) hx hb dL_arePuppets_411 hl (k := 10) rfl (by rfl) (by decide) rfl (fun ls hl => ?_)
                          refine lv_goto (tgt := 58) hx hb dL_arePuppets_414 (by decide) ?_
                          exact ih K_58 x5_58 x6_58 (x7_58 ||| (L_arePuppets_J232 K_58 x5_58 x6_58 (x8_58 + (L_arePuppets_J211 K_58 x5_58 x6_58 x7_58 x10_58 u_22 u_30.1 u_30.2 x10_58 ((K_58.1 4) (Int32.toNatClampNeg x10_58)) x8_58)) x10_58 u_22 u_30.1 u_30.2 ((K_58.1 0) (Int32.toNatClampNeg ((3 * x10_58) + 2))) x7_58)) (x8_58 + (L_arePuppets_J211 K_58 x5_58 x6_58 x7_58 x10_58 u_22 u_30.1 u_30.2 x10_58 ((K_58.1 4) (Int32.toNatClampNeg x10_58)) x8_58)) 0 (x10_58 + 1) _ _ _ ls hf hP hD hS (lv_sub hl [2, 3, 4, 5, 6, 7, 8, 9, 10, 1, 0] rfl) hk
                        · replace hf := (if_pos c_67).symm.trans hf
                          refine lv_aload_n hx hb dL_arePuppets_391 rfl (lv_at hl 0 rfl) ?_
                          refine lv_iload hx hb dL_arePuppets_392 (lv_at hl 9 rfl) ?_
                          refine lv_bipush (v := 8) hx hb dL_arePuppets_394 (by decide) ?_
                          obtain ⟨u_68, h_69, hf⟩ := ob hf
                          refine k_rd (runV F wdL_26 (rm := rm_X6_puppetOf) (As := [.int x10_58, .int 8]) (rest := []) ⟨rfl, rfl⟩ ⟨Nat.le_of_ble_eq_true rfl, Nat.le_of_ble_eq_true rfl⟩ hl.1 rfl rfl (Nat.le_of_ble_eq_true rfl) dL_arePuppets_396 ⟨Nat.zero_le _, Nat.zero_le _⟩) (c_X6_puppetOf l D cI cP o h tx tn Ad K_58.2 x10_58 8 _ h_69) hX (va_recv hX.1 (va_blk (Bs := (bLM cI cP o h tx tn Ad a K_58)) hP 1 rfl) (ci := 6) (q0 := 0) rfl rfl) (va_blk (Bs := (bLM cI cP o h tx tn Ad a K_58)) hP 1 rfl) hP hS hA (fun H locs hP hS => ?_)
                          refine lv_iload hx hb dL_arePuppets_399 (lv_at hl 12 rfl) ?_
                          refine lv_icmp_ne (tgt := 408) hx hb dL_arePuppets_401 (by decide) (fun c_70 => ?_) (fun c_70 => ?_)
                          · replace hf := (if_neg c_70).symm.trans hf
                            refine lv_iconst (v := 0) hx hb dL_arePuppets_408 (by decide) ?_
                            refine lv_istore (lv' := [(9, .int 0), (0, .ref o), (1, .ref (a 0)), (2, .ref (a 1)), (3, .ref (a 3)), (4, .ref (a 4)), (5, .int x5_58), (6, .int x6_58), (7, .int (x7_58 ||| (L_arePuppets_J232 K_58 x5_58 x6_58 (x8_58 + (L_arePuppets_J211 K_58 x5_58 x6_58 x7_58 x10_58 u_22 u_30.1 u_30.2 x10_58 ((K_58.1 4) (Int32.toNatClampNeg x10_58)) x8_58)) x10_58 u_22 u_30.1 u_30.2 ((K_58.1 0) (Int32.toNatClampNeg ((3 * x10_58) + 2))) x7_58))), (8, .int (x8_58 + (L_arePuppets_J211 K_58 x5_58 x6_58 x7_58 x10_58 u_22 u_30.1 u_30.2 x10_58 ((K_58.1 4) (Int32.toNatClampNeg x10_58)) x8_58))), (10, .int x10_58), (11, .int u_22), (12, .int u_30.1), (13, .int u_30.2)]) hx hb dL_arePuppets_409 hl (by decide) rfl (fun ls hl => ?_)
                            refine lv_iinc (v := (x10_58 + 1)) (lv' := [(10, .int (x10_58 + 1)), (9, .int 0), (0, .ref o), (1, .ref (a 0)), (2, .ref (a 1)), (3, .ref (a 3)), (4, .ref (a 4)), (5, .int x5_58), (6, .int x6_58), (7, .int (x7_58 ||| (L_arePuppets_J232 K_58 x5_58 x6_58 (x8_58 + (L_arePuppets_J211 K_58 x5_58 x6_58 x7_58 x10_58 u_22 u_30.1 u_30.2 x10_58 ((K_58.1 4) (Int32.toNatClampNeg x10_58)) x8_58)) x10_58 u_22 u_30.1 u_30.2 ((K_58.1 0) (Int32.toNatClampNeg ((3 * x10_58) + 2))) x7_58))), (8, .int (x8_58 + (L_arePuppets_J211 K_58 x5_58 x6_58 x7_58 x10_58 u_22 u_30.1 u_30.2 x10_58 ((K_58.1 4) (Int32.toNatClampNeg x10_58)) x8_58))), (11, .int u_22), (12, .int u_30.1), (13, .int u_30.2)]) hx hb dL_arePuppets_411 hl (k := 10) rfl (by rfl) (by decide) rfl (fun ls hl => ?_)
                            refine lv_goto (tgt := 58) hx hb dL_arePuppets_414 (by decide) ?_
                            exact ih K_58 x5_58 x6_58 (x7_58 ||| (L_arePuppets_J232 K_58 x5_58 x6_58 (x8_58 + (L_arePuppets_J211 K_58 x5_58 x6_58 x7_58 x10_58 u_22 u_30.1 u_30.2 x10_58 ((K_58.1 4) (Int32.toNatClampNeg x10_58)) x8_58)) x10_58 u_22 u_30.1 u_30.2 ((K_58.1 0) (Int32.toNatClampNeg ((3 * x10_58) + 2))) x7_58)) (x8_58 + (L_arePuppets_J211 K_58 x5_58 x6_58 x7_58 x10_58 u_22 u_30.1 u_30.2 x10_58 ((K_58.1 4) (Int32.toNatClampNeg x10_58)) x8_58)) 0 (x10_58 + 1) _ _ _ ls hf hP hD hS (lv_sub hl [2, 3, 4, 5, 6, 7, 8, 9, 10, 1, 0] rfl) hk
                          · replace hf := (if_pos c_70).symm.trans hf
                            refine lv_iconst (v := 1) hx hb dL_arePuppets_404 (by decide) ?_
                            refine lv_goto (tgt := 409) hx hb dL_arePuppets_405 (by decide) ?_
                            refine lv_istore (lv' := [(9, .int 1), (0, .ref o), (1, .ref (a 0)), (2, .ref (a 1)), (3, .ref (a 3)), (4, .ref (a 4)), (5, .int x5_58), (6, .int x6_58), (7, .int (x7_58 ||| (L_arePuppets_J232 K_58 x5_58 x6_58 (x8_58 + (L_arePuppets_J211 K_58 x5_58 x6_58 x7_58 x10_58 u_22 u_30.1 u_30.2 x10_58 ((K_58.1 4) (Int32.toNatClampNeg x10_58)) x8_58)) x10_58 u_22 u_30.1 u_30.2 ((K_58.1 0) (Int32.toNatClampNeg ((3 * x10_58) + 2))) x7_58))), (8, .int (x8_58 + (L_arePuppets_J211 K_58 x5_58 x6_58 x7_58 x10_58 u_22 u_30.1 u_30.2 x10_58 ((K_58.1 4) (Int32.toNatClampNeg x10_58)) x8_58))), (10, .int x10_58), (11, .int u_22), (12, .int u_30.1), (13, .int u_30.2)]) hx hb dL_arePuppets_409 hl (by decide) rfl (fun ls hl => ?_)
                            refine lv_iinc (v := (x10_58 + 1)) (lv' := [(10, .int (x10_58 + 1)), (9, .int 1), (0, .ref o), (1, .ref (a 0)), (2, .ref (a 1)), (3, .ref (a 3)), (4, .ref (a 4)), (5, .int x5_58), (6, .int x6_58), (7, .int (x7_58 ||| (L_arePuppets_J232 K_58 x5_58 x6_58 (x8_58 + (L_arePuppets_J211 K_58 x5_58 x6_58 x7_58 x10_58 u_22 u_30.1 u_30.2 x10_58 ((K_58.1 4) (Int32.toNatClampNeg x10_58)) x8_58)) x10_58 u_22 u_30.1 u_30.2 ((K_58.1 0) (Int32.toNatClampNeg ((3 * x10_58) + 2))) x7_58))), (8, .int (x8_58 + (L_arePuppets_J211 K_58 x5_58 x6_58 x7_58 x10_58 u_22 u_30.1 u_30.2 x10_58 ((K_58.1 4) (Int32.toNatClampNeg x10_58)) x8_58))), (11, .int u_22), (12, .int u_30.1), (13, .int u_30.2)]) hx hb dL_arePuppets_411 hl (k := 10) rfl (by rfl) (by decide) rfl (fun ls hl => ?_)
                            refine lv_goto (tgt := 58) hx hb dL_arePuppets_414 (by decide) ?_
                            exact ih K_58 x5_58 x6_58 (x7_58 ||| (L_arePuppets_J232 K_58 x5_58 x6_58 (x8_58 + (L_arePuppets_J211 K_58 x5_58 x6_58 x7_58 x10_58 u_22 u_30.1 u_30.2 x10_58 ((K_58.1 4) (Int32.toNatClampNeg x10_58)) x8_58)) x10_58 u_22 u_30.1 u_30.2 ((K_58.1 0) (Int32.toNatClampNeg ((3 * x10_58) + 2))) x7_58)) (x8_58 + (L_arePuppets_J211 K_58 x5_58 x6_58 x7_58 x10_58 u_22 u_30.1 u_30.2 x10_58 ((K_58.1 4) (Int32.toNatClampNeg x10_58)) x8_58)) 1 (x10_58 + 1) _ _ _ ls hf hP hD hS (lv_sub hl [2, 3, 4, 5, 6, 7, 8, 9, 10, 1, 0] rfl) hk
  obtain ⟨u_71, h_72, hf⟩ := ob hf
  refine hL_58 FUEL M_3 u_1.2 u_5 0 0 u_13 0 u_71 _ _ ls h_72 hP hD hS (lv_sub hl [2, 3, 4, 5, 6, 7, 8, 9, 10, 1, 0] rfl) (fun H locs ls hP hD hS hl => ?_)
  clear hL_58
  refine lv_aload_n hx hb dL_arePuppets_417 rfl (lv_at hl 1 rfl) ?_
  refine lv_iconst (v := 0) hx hb dL_arePuppets_418 (by decide) ?_
  refine va_iald hx hb hX.1 hP 3 0 (n := 8) (f := (M_3.1 3)) rfl rfl (by decide : ¬ ((0 : Int32) < 0 ∨ 8 ≤ Int32.toNatClampNeg 0)) dL_arePuppets_419 ?_
  have hJ_420 : ∀ (K_420 : SLM) (x5_420 : Int32) (x6_420 : Int32) (x7_420 : Int32) (x8_420 : Int32) (x9_420 : Int32) (t0_420 : Int32) (v : Int32) (H : Heap) (locs : List Loc) (ls : Array Slot), L_arePuppets_J420 K_420 x5_420 x6_420 x7_420 x8_420 x9_420 t0_420 = some v → va_P D vwCl (wLM cI cP o h tx tn Ad a K_420) H → va_D A (wLM cI cP o h tx tn Ad a K_420) → va_S A s.heap H locs → lv_has ls 15 [(0, .ref o), (3, .ref (a 3)), (4, .ref (a 4)), (5, .int x5_420), (6, .int x6_420), (7, .int x7_420), (8, .int x8_420), (9, .int x9_420)] → (∀ (H : Heap) (locs : List Loc) (ls : Array Slot), va_P D vwCl (wLM cI cP o h tx tn Ad a K_420) H → va_D A (wLM cI cP o h tx tn Ad a K_420) → va_S A s.heap H locs → lv_has ls 15 [(0, .ref o), (3, .ref (a 3)), (5, .int x5_420), (6, .int x6_420), (7, .int x7_420), (8, .int x8_420), (9, .int x9_420)] → W p l e rm_L_arePuppets s m args below meth c H locs 0 0 (QWi D below args s A (wLM cI cP o h tx tn Ad a z.1) z.2) (F0 m 464 ls [.int v])) → W p l e rm_L_arePuppets s m args below meth c H locs 0 0 (QWi D below args s A (wLM cI cP o h tx tn Ad a z.1) z.2) (F0 m 420 ls [.int t0_420]) := by
    intro K_420 x5_420 x6_420 x7_420 x8_420 x9_420 t0_420 v _ _ ls hf hP hD hS hl hk
    unfold L_arePuppets_J420 at hf
    refine lv_if_ne (tgt := 428) hx hb dL_arePuppets_420 (by decide) (fun c_73 => ?_) (fun c_73 => ?_)
    · replace hf := (if_neg c_73).symm.trans hf
      refine lv_iconst (v := 2) hx hb dL_arePuppets_428 (by decide) ?_
      refine lv_iload hx hb dL_arePuppets_429 (lv_at hl 3 rfl) ?_
      refine lv_imul hx hb dL_arePuppets_431 ?_
      refine lv_iload hx hb dL_arePuppets_432 (lv_at hl 4 rfl) ?_
      refine lv_icmp_gt (tgt := 459) hx hb dL_arePuppets_434 (by decide) (fun c_74 => ?_) (fun c_74 => ?_)
      · replace hf := (if_pos c_74).symm.trans hf
        refine lv_iconst (v := 1) hx hb dL_arePuppets_459 (by decide) ?_
        refine lv_goto (tgt := 464) hx hb dL_arePuppets_460 (by decide) ?_
        obtain rfl := Option.some.inj hf
        exact hk _ _ ls hP hD hS (lv_sub hl [0, 1, 3, 4, 5, 6, 7] rfl)
      · replace hf := (if_neg c_74).symm.trans hf
        refine lv_iconst (v := 2) hx hb dL_arePuppets_437 (by decide) ?_
        refine lv_iload hx hb dL_arePuppets_438 (lv_at hl 3 rfl) ?_
        refine lv_imul hx hb dL_arePuppets_440 ?_
        refine lv_iload hx hb dL_arePuppets_441 (lv_at hl 4 rfl) ?_
        refine lv_icmp_ne (tgt := 463) hx hb dL_arePuppets_443 (by decide) (fun c_75 => ?_) (fun c_75 => ?_)
        · replace hf := (if_neg c_75).symm.trans hf
          refine lv_iconst (v := 0) hx hb dL_arePuppets_463 (by decide) ?_
          obtain rfl := Option.some.inj hf
          exact hk _ _ ls hP hD hS (lv_sub hl [0, 1, 3, 4, 5, 6, 7] rfl)
        · replace hf := (if_pos c_75).symm.trans hf
          refine lv_aload hx hb dL_arePuppets_446 (lv_at hl 2 rfl) ?_
          refine lv_bipush (v := 24) hx hb dL_arePuppets_448 (by decide) ?_
          refine lv_aload_n hx hb dL_arePuppets_450 rfl (lv_at hl 1 rfl) ?_
          refine lv_iconst (v := 2) hx hb dL_arePuppets_451 (by decide) ?_
          refine va_iald hx hb hX.1 hP 3 0 (n := 8) (f := (K_420.1 3)) rfl rfl (by decide : ¬ ((2 : Int32) < 0 ∨ 8 ≤ Int32.toNatClampNeg 2)) dL_arePuppets_452 ?_
          refine lv_iadd hx hb dL_arePuppets_453 ?_
          have g_76 := og hf
          replace hf := (if_pos g_76).symm.trans hf
          refine va_iald hx hb hX.1 hP 4 0 (n := 36) (f := (K_420.1 4)) rfl rfl g_76 dL_arePuppets_454 ?_
          refine lv_iconst (v := 1) hx hb dL_arePuppets_455 (by decide) ?_
          refine lv_icmp_ne (tgt := 463) hx hb dL_arePuppets_456 (by decide) (fun c_77 => ?_) (fun c_77 => ?_)
          · replace hf := (if_neg c_77).symm.trans hf
            refine lv_iconst (v := 0) hx hb dL_arePuppets_463 (by decide) ?_
            obtain rfl := Option.some.inj hf
            exact hk _ _ ls hP hD hS (lv_sub hl [0, 1, 3, 4, 5, 6, 7] rfl)
          · replace hf := (if_pos c_77).symm.trans hf
            refine lv_iconst (v := 1) hx hb dL_arePuppets_459 (by decide) ?_
            refine lv_goto (tgt := 464) hx hb dL_arePuppets_460 (by decide) ?_
            obtain rfl := Option.some.inj hf
            exact hk _ _ ls hP hD hS (lv_sub hl [0, 1, 3, 4, 5, 6, 7] rfl)
    · replace hf := (if_pos c_73).symm.trans hf
      refine lv_ldc (v := (-1000004)) hx hb hown (hts _ q_317) dL_arePuppets_423 ?_
      refine lv_goto (tgt := 464) hx hb dL_arePuppets_425 (by decide) ?_
      obtain rfl := Option.some.inj hf
      exact hk _ _ ls hP hD hS (lv_sub hl [0, 1, 3, 4, 5, 6, 7] rfl)
  obtain ⟨u_78, h_79, hf⟩ := ob hf
  refine hJ_420 M_3 u_1.2 u_5 u_71.1 u_71.2.1 u_71.2.2 ((M_3.1 3) (Int32.toNatClampNeg 0)) u_78 _ _ ls h_79 hP hD hS hl (fun H locs ls hP hD hS hl => ?_)
  clear hJ_420
  refine lv_istore (lv' := [(10, .int u_78), (0, .ref o), (3, .ref (a 3)), (5, .int u_1.2), (6, .int u_5), (7, .int u_71.1), (8, .int u_71.2.1), (9, .int u_71.2.2)]) hx hb dL_arePuppets_464 hl (by decide) rfl (fun ls hl => ?_)
  refine lv_iload hx hb dL_arePuppets_466 (lv_at hl 7 rfl) ?_
  refine lv_if_eq (tgt := 658) hx hb dL_arePuppets_468 (by decide) (fun c_80 => ?_) (fun c_80 => ?_)
  · replace hf := (if_pos c_80).symm.trans hf
    refine lv_iconst (v := 0) hx hb dL_arePuppets_658 (by decide) ?_
    obtain rfl := (Option.some.inj hf)
    exact wr_z F (by decide) rfl hP hS dL_arePuppets_659
  · replace hf := (if_neg c_80).symm.trans hf
    refine lv_aload_n hx hb dL_arePuppets_471 rfl (lv_at hl 1 rfl) ?_
    refine lv_iconst (v := 0) hx hb dL_arePuppets_472 (by decide) ?_
    obtain ⟨u_81, h_82, hf⟩ := ob hf
    refine k_rd (runV F wdL_34 (rm := rm_X6_count) (As := [.int 0]) (rest := []) ⟨rfl, rfl⟩ ⟨Nat.le_of_ble_eq_true rfl, Nat.le_of_ble_eq_true rfl⟩ hl.1 rfl rfl (Nat.le_of_ble_eq_true rfl) dL_arePuppets_473 ⟨Nat.zero_le _, Nat.zero_le _⟩) (c_X6_count l D cI cP o h tx tn Ad M_3.2 0 _ h_82) hX (va_recv hX.1 (va_blk (Bs := (bLM cI cP o h tx tn Ad a M_3)) hP 1 rfl) (ci := 6) (q0 := 0) rfl rfl) (va_blk (Bs := (bLM cI cP o h tx tn Ad a M_3)) hP 1 rfl) hP hS hA (fun H locs hP hS => ?_)
    refine lv_aload_n hx hb dL_arePuppets_476 rfl (lv_at hl 2 rfl) ?_
    refine lv_iconst (v := 0) hx hb dL_arePuppets_477 (by decide) ?_
    refine va_iald hx hb hX.1 hP 3 0 (n := 8) (f := (M_3.1 3)) rfl rfl (by decide : ¬ ((0 : Int32) < 0 ∨ 8 ≤ Int32.toNatClampNeg 0)) dL_arePuppets_478 ?_
    refine lv_icmp_ne (tgt := 658) hx hb dL_arePuppets_479 (by decide) (fun c_83 => ?_) (fun c_83 => ?_)
    · replace hf := (if_neg c_83).symm.trans hf
      refine lv_iconst (v := 0) hx hb dL_arePuppets_658 (by decide) ?_
      obtain rfl := (Option.some.inj hf)
      exact wr_z F (by decide) rfl hP hS dL_arePuppets_659
    · replace hf := (if_pos c_83).symm.trans hf
      refine lv_aload_n hx hb dL_arePuppets_482 rfl (lv_at hl 1 rfl) ?_
      refine lv_iconst (v := 1) hx hb dL_arePuppets_483 (by decide) ?_
      obtain ⟨u_84, h_85, hf⟩ := ob hf
      refine k_rd (runV F wdL_34 (rm := rm_X6_count) (As := [.int 1]) (rest := []) ⟨rfl, rfl⟩ ⟨Nat.le_of_ble_eq_true rfl, Nat.le_of_ble_eq_true rfl⟩ hl.1 rfl rfl (Nat.le_of_ble_eq_true rfl) dL_arePuppets_484 ⟨Nat.zero_le _, Nat.zero_le _⟩) (c_X6_count l D cI cP o h tx tn Ad M_3.2 1 _ h_85) hX (va_recv hX.1 (va_blk (Bs := (bLM cI cP o h tx tn Ad a M_3)) hP 1 rfl) (ci := 6) (q0 := 0) rfl rfl) (va_blk (Bs := (bLM cI cP o h tx tn Ad a M_3)) hP 1 rfl) hP hS hA (fun H locs hP hS => ?_)
      refine lv_aload_n hx hb dL_arePuppets_487 rfl (lv_at hl 2 rfl) ?_
      refine lv_iconst (v := 1) hx hb dL_arePuppets_488 (by decide) ?_
      refine va_iald hx hb hX.1 hP 3 0 (n := 8) (f := (M_3.1 3)) rfl rfl (by decide : ¬ ((1 : Int32) < 0 ∨ 8 ≤ Int32.toNatClampNeg 1)) dL_arePuppets_489 ?_
      refine lv_icmp_ne (tgt := 658) hx hb dL_arePuppets_490 (by decide) (fun c_86 => ?_) (fun c_86 => ?_)
      · replace hf := (if_neg c_86).symm.trans hf
        refine lv_iconst (v := 0) hx hb dL_arePuppets_658 (by decide) ?_
        obtain rfl := (Option.some.inj hf)
        exact wr_z F (by decide) rfl hP hS dL_arePuppets_659
      · replace hf := (if_pos c_86).symm.trans hf
        refine lv_aload_n hx hb dL_arePuppets_493 rfl (lv_at hl 1 rfl) ?_
        refine lv_iconst (v := 2) hx hb dL_arePuppets_494 (by decide) ?_
        obtain ⟨u_87, h_88, hf⟩ := ob hf
        refine k_rd (runV F wdL_34 (rm := rm_X6_count) (As := [.int 2]) (rest := []) ⟨rfl, rfl⟩ ⟨Nat.le_of_ble_eq_true rfl, Nat.le_of_ble_eq_true rfl⟩ hl.1 rfl rfl (Nat.le_of_ble_eq_true rfl) dL_arePuppets_495 ⟨Nat.zero_le _, Nat.zero_le _⟩) (c_X6_count l D cI cP o h tx tn Ad M_3.2 2 _ h_88) hX (va_recv hX.1 (va_blk (Bs := (bLM cI cP o h tx tn Ad a M_3)) hP 1 rfl) (ci := 6) (q0 := 0) rfl rfl) (va_blk (Bs := (bLM cI cP o h tx tn Ad a M_3)) hP 1 rfl) hP hS hA (fun H locs hP hS => ?_)
        refine lv_iload hx hb dL_arePuppets_498 (lv_at hl 6 rfl) ?_
        refine lv_icmp_ne (tgt := 658) hx hb dL_arePuppets_500 (by decide) (fun c_89 => ?_) (fun c_89 => ?_)
        · replace hf := (if_neg c_89).symm.trans hf
          refine lv_iconst (v := 0) hx hb dL_arePuppets_658 (by decide) ?_
          obtain rfl := (Option.some.inj hf)
          exact wr_z F (by decide) rfl hP hS dL_arePuppets_659
        · replace hf := (if_pos c_89).symm.trans hf
          refine lv_aload_n hx hb dL_arePuppets_503 rfl (lv_at hl 1 rfl) ?_
          refine lv_iconst (v := 3) hx hb dL_arePuppets_504 (by decide) ?_
          obtain ⟨u_90, h_91, hf⟩ := ob hf
          refine k_rd (runV F wdL_34 (rm := rm_X6_count) (As := [.int 3]) (rest := []) ⟨rfl, rfl⟩ ⟨Nat.le_of_ble_eq_true rfl, Nat.le_of_ble_eq_true rfl⟩ hl.1 rfl rfl (Nat.le_of_ble_eq_true rfl) dL_arePuppets_505 ⟨Nat.zero_le _, Nat.zero_le _⟩) (c_X6_count l D cI cP o h tx tn Ad M_3.2 3 _ h_91) hX (va_recv hX.1 (va_blk (Bs := (bLM cI cP o h tx tn Ad a M_3)) hP 1 rfl) (ci := 6) (q0 := 0) rfl rfl) (va_blk (Bs := (bLM cI cP o h tx tn Ad a M_3)) hP 1 rfl) hP hS hA (fun H locs hP hS => ?_)
          refine lv_iload hx hb dL_arePuppets_508 (lv_at hl 6 rfl) ?_
          refine lv_icmp_ne (tgt := 658) hx hb dL_arePuppets_510 (by decide) (fun c_92 => ?_) (fun c_92 => ?_)
          · replace hf := (if_neg c_92).symm.trans hf
            refine lv_iconst (v := 0) hx hb dL_arePuppets_658 (by decide) ?_
            obtain rfl := (Option.some.inj hf)
            exact wr_z F (by decide) rfl hP hS dL_arePuppets_659
          · replace hf := (if_pos c_92).symm.trans hf
            refine lv_aload_n hx hb dL_arePuppets_513 rfl (lv_at hl 1 rfl) ?_
            refine lv_iconst (v := 4) hx hb dL_arePuppets_514 (by decide) ?_
            obtain ⟨u_93, h_94, hf⟩ := ob hf
            refine k_rd (runV F wdL_34 (rm := rm_X6_count) (As := [.int 4]) (rest := []) ⟨rfl, rfl⟩ ⟨Nat.le_of_ble_eq_true rfl, Nat.le_of_ble_eq_true rfl⟩ hl.1 rfl rfl (Nat.le_of_ble_eq_true rfl) dL_arePuppets_515 ⟨Nat.zero_le _, Nat.zero_le _⟩) (c_X6_count l D cI cP o h tx tn Ad M_3.2 4 _ h_94) hX (va_recv hX.1 (va_blk (Bs := (bLM cI cP o h tx tn Ad a M_3)) hP 1 rfl) (ci := 6) (q0 := 0) rfl rfl) (va_blk (Bs := (bLM cI cP o h tx tn Ad a M_3)) hP 1 rfl) hP hS hA (fun H locs hP hS => ?_)
            refine lv_iload hx hb dL_arePuppets_518 (lv_at hl 4 rfl) ?_
            refine lv_icmp_ne (tgt := 658) hx hb dL_arePuppets_520 (by decide) (fun c_95 => ?_) (fun c_95 => ?_)
            · replace hf := (if_neg c_95).symm.trans hf
              refine lv_iconst (v := 0) hx hb dL_arePuppets_658 (by decide) ?_
              obtain rfl := (Option.some.inj hf)
              exact wr_z F (by decide) rfl hP hS dL_arePuppets_659
            · replace hf := (if_pos c_95).symm.trans hf
              refine lv_aload_n hx hb dL_arePuppets_523 rfl (lv_at hl 1 rfl) ?_
              refine lv_iconst (v := 5) hx hb dL_arePuppets_524 (by decide) ?_
              obtain ⟨u_96, h_97, hf⟩ := ob hf
              refine k_rd (runV F wdL_34 (rm := rm_X6_count) (As := [.int 5]) (rest := []) ⟨rfl, rfl⟩ ⟨Nat.le_of_ble_eq_true rfl, Nat.le_of_ble_eq_true rfl⟩ hl.1 rfl rfl (Nat.le_of_ble_eq_true rfl) dL_arePuppets_525 ⟨Nat.zero_le _, Nat.zero_le _⟩) (c_X6_count l D cI cP o h tx tn Ad M_3.2 5 _ h_97) hX (va_recv hX.1 (va_blk (Bs := (bLM cI cP o h tx tn Ad a M_3)) hP 1 rfl) (ci := 6) (q0 := 0) rfl rfl) (va_blk (Bs := (bLM cI cP o h tx tn Ad a M_3)) hP 1 rfl) hP hS hA (fun H locs hP hS => ?_)
              refine lv_iload hx hb dL_arePuppets_528 (lv_at hl 3 rfl) ?_
              refine lv_icmp_ne (tgt := 658) hx hb dL_arePuppets_530 (by decide) (fun c_98 => ?_) (fun c_98 => ?_)
              · replace hf := (if_neg c_98).symm.trans hf
                refine lv_iconst (v := 0) hx hb dL_arePuppets_658 (by decide) ?_
                obtain rfl := (Option.some.inj hf)
                exact wr_z F (by decide) rfl hP hS dL_arePuppets_659
              · replace hf := (if_pos c_98).symm.trans hf
                refine lv_aload_n hx hb dL_arePuppets_533 rfl (lv_at hl 1 rfl) ?_
                refine lv_bipush (v := 6) hx hb dL_arePuppets_534 (by decide) ?_
                obtain ⟨u_99, h_100, hf⟩ := ob hf
                refine k_rd (runV F wdL_34 (rm := rm_X6_count) (As := [.int 6]) (rest := []) ⟨rfl, rfl⟩ ⟨Nat.le_of_ble_eq_true rfl, Nat.le_of_ble_eq_true rfl⟩ hl.1 rfl rfl (Nat.le_of_ble_eq_true rfl) dL_arePuppets_536 ⟨Nat.zero_le _, Nat.zero_le _⟩) (c_X6_count l D cI cP o h tx tn Ad M_3.2 6 _ h_100) hX (va_recv hX.1 (va_blk (Bs := (bLM cI cP o h tx tn Ad a M_3)) hP 1 rfl) (ci := 6) (q0 := 0) rfl rfl) (va_blk (Bs := (bLM cI cP o h tx tn Ad a M_3)) hP 1 rfl) hP hS hA (fun H locs hP hS => ?_)
                refine lv_iload hx hb dL_arePuppets_539 (lv_at hl 4 rfl) ?_
                refine lv_iload hx hb dL_arePuppets_541 (lv_at hl 3 rfl) ?_
                refine lv_isub hx hb dL_arePuppets_543 ?_
                refine lv_icmp_ne (tgt := 658) hx hb dL_arePuppets_544 (by decide) (fun c_101 => ?_) (fun c_101 => ?_)
                · replace hf := (if_neg c_101).symm.trans hf
                  refine lv_iconst (v := 0) hx hb dL_arePuppets_658 (by decide) ?_
                  obtain rfl := (Option.some.inj hf)
                  exact wr_z F (by decide) rfl hP hS dL_arePuppets_659
                · replace hf := (if_pos c_101).symm.trans hf
                  refine lv_aload_n hx hb dL_arePuppets_547 rfl (lv_at hl 1 rfl) ?_
                  refine lv_bipush (v := 7) hx hb dL_arePuppets_548 (by decide) ?_
                  obtain ⟨u_102, h_103, hf⟩ := ob hf
                  refine k_rd (runV F wdL_34 (rm := rm_X6_count) (As := [.int 7]) (rest := []) ⟨rfl, rfl⟩ ⟨Nat.le_of_ble_eq_true rfl, Nat.le_of_ble_eq_true rfl⟩ hl.1 rfl rfl (Nat.le_of_ble_eq_true rfl) dL_arePuppets_550 ⟨Nat.zero_le _, Nat.zero_le _⟩) (c_X6_count l D cI cP o h tx tn Ad M_3.2 7 _ h_103) hX (va_recv hX.1 (va_blk (Bs := (bLM cI cP o h tx tn Ad a M_3)) hP 1 rfl) (ci := 6) (q0 := 0) rfl rfl) (va_blk (Bs := (bLM cI cP o h tx tn Ad a M_3)) hP 1 rfl) hP hS hA (fun H locs hP hS => ?_)
                  refine lv_iload hx hb dL_arePuppets_553 (lv_at hl 0 rfl) ?_
                  refine lv_icmp_ne (tgt := 658) hx hb dL_arePuppets_555 (by decide) (fun c_104 => ?_) (fun c_104 => ?_)
                  · replace hf := (if_neg c_104).symm.trans hf
                    refine lv_iconst (v := 0) hx hb dL_arePuppets_658 (by decide) ?_
                    obtain rfl := (Option.some.inj hf)
                    exact wr_z F (by decide) rfl hP hS dL_arePuppets_659
                  · replace hf := (if_pos c_104).symm.trans hf
                    refine lv_aload_n hx hb dL_arePuppets_558 rfl (lv_at hl 1 rfl) ?_
                    refine lv_bipush (v := 8) hx hb dL_arePuppets_559 (by decide) ?_
                    obtain ⟨u_105, h_106, hf⟩ := ob hf
                    refine k_rd (runV F wdL_34 (rm := rm_X6_count) (As := [.int 8]) (rest := []) ⟨rfl, rfl⟩ ⟨Nat.le_of_ble_eq_true rfl, Nat.le_of_ble_eq_true rfl⟩ hl.1 rfl rfl (Nat.le_of_ble_eq_true rfl) dL_arePuppets_561 ⟨Nat.zero_le _, Nat.zero_le _⟩) (c_X6_count l D cI cP o h tx tn Ad M_3.2 8 _ h_106) hX (va_recv hX.1 (va_blk (Bs := (bLM cI cP o h tx tn Ad a M_3)) hP 1 rfl) (ci := 6) (q0 := 0) rfl rfl) (va_blk (Bs := (bLM cI cP o h tx tn Ad a M_3)) hP 1 rfl) hP hS hA (fun H locs hP hS => ?_)
                    refine lv_aload_n hx hb dL_arePuppets_564 rfl (lv_at hl 2 rfl) ?_
                    refine lv_iconst (v := 0) hx hb dL_arePuppets_565 (by decide) ?_
                    refine va_iald hx hb hX.1 hP 3 0 (n := 8) (f := (M_3.1 3)) rfl rfl (by decide : ¬ ((0 : Int32) < 0 ∨ 8 ≤ Int32.toNatClampNeg 0)) dL_arePuppets_566 ?_
                    have hJ_567 : ∀ (K_567 : SLM) (x7_567 : Int32) (t0_567 : Int32) (t1_567 : Int32) (v : Int32) (H : Heap) (locs : List Loc) (ls : Array Slot), L_arePuppets_J567 K_567 x7_567 t0_567 t1_567 = v → va_P D vwCl (wLM cI cP o h tx tn Ad a K_567) H → va_D A (wLM cI cP o h tx tn Ad a K_567) → va_S A s.heap H locs → lv_has ls 15 [(0, .ref o), (3, .ref (a 3)), (7, .int x7_567)] → (∀ (H : Heap) (locs : List Loc) (ls : Array Slot), va_P D vwCl (wLM cI cP o h tx tn Ad a K_567) H → va_D A (wLM cI cP o h tx tn Ad a K_567) → va_S A s.heap H locs → lv_has ls 15 [(0, .ref o), (3, .ref (a 3)), (7, .int x7_567)] → W p l e rm_L_arePuppets s m args below meth c H locs 0 0 (QWi D below args s A (wLM cI cP o h tx tn Ad a z.1) z.2) (F0 m 578 ls [.int v, .int t1_567])) → W p l e rm_L_arePuppets s m args below meth c H locs 0 0 (QWi D below args s A (wLM cI cP o h tx tn Ad a z.1) z.2) (F0 m 567 ls [.int t0_567, .int t1_567]) := by
                      intro K_567 x7_567 t0_567 t1_567 v _ _ ls hf hP hD hS hl hk
                      unfold L_arePuppets_J567 at hf
                      refine lv_if_ne (tgt := 575) hx hb dL_arePuppets_567 (by decide) (fun c_107 => ?_) (fun c_107 => ?_)
                      · replace hf := (if_neg c_107).symm.trans hf
                        refine lv_aload_n hx hb dL_arePuppets_575 rfl (lv_at hl 1 rfl) ?_
                        refine lv_iconst (v := 2) hx hb dL_arePuppets_576 (by decide) ?_
                        refine va_iald hx hb hX.1 hP 3 0 (n := 8) (f := (K_567.1 3)) rfl rfl (by decide : ¬ ((2 : Int32) < 0 ∨ 8 ≤ Int32.toNatClampNeg 2)) dL_arePuppets_577 ?_
                        obtain rfl := hf
                        exact hk _ _ ls hP hD hS hl
                      · replace hf := (if_pos c_107).symm.trans hf
                        refine lv_ldc (v := (-1000004)) hx hb hown (hts _ q_317) dL_arePuppets_570 ?_
                        refine lv_goto (tgt := 578) hx hb dL_arePuppets_572 (by decide) ?_
                        obtain rfl := hf
                        exact hk _ _ ls hP hD hS hl
                    refine hJ_567 M_3 u_71.1 ((M_3.1 3) (Int32.toNatClampNeg 0)) u_105 _ _ _ ls rfl hP hD hS (lv_sub hl [1, 2, 5] rfl) (fun H locs ls hP hD hS hl => ?_)
                    clear hJ_567
                    refine lv_icmp_ne (tgt := 658) hx hb dL_arePuppets_578 (by decide) (fun c_108 => ?_) (fun c_108 => ?_)
                    · replace hf := (if_neg c_108).symm.trans hf
                      refine lv_iconst (v := 0) hx hb dL_arePuppets_658 (by decide) ?_
                      obtain rfl := (Option.some.inj hf)
                      exact wr_z F (by decide) rfl hP hS dL_arePuppets_659
                    · replace hf := (if_pos c_108).symm.trans hf
                      refine lv_aload_n hx hb dL_arePuppets_581 rfl (lv_at hl 0 rfl) ?_
                      refine lv_bipush (v := 9) hx hb dL_arePuppets_582 (by decide) ?_
                      obtain ⟨u_109, h_110, hf⟩ := ob hf
                      refine k_rd (runV F wdL_34 (rm := rm_X6_count) (As := [.int 9]) (rest := []) ⟨rfl, rfl⟩ ⟨Nat.le_of_ble_eq_true rfl, Nat.le_of_ble_eq_true rfl⟩ hl.1 rfl rfl (Nat.le_of_ble_eq_true rfl) dL_arePuppets_584 ⟨Nat.zero_le _, Nat.zero_le _⟩) (c_X6_count l D cI cP o h tx tn Ad M_3.2 9 _ h_110) hX (va_recv hX.1 (va_blk (Bs := (bLM cI cP o h tx tn Ad a M_3)) hP 1 rfl) (ci := 6) (q0 := 0) rfl rfl) (va_blk (Bs := (bLM cI cP o h tx tn Ad a M_3)) hP 1 rfl) hP hS hA (fun H locs hP hS => ?_)
                      refine lv_iload hx hb dL_arePuppets_587 (lv_at hl 2 rfl) ?_
                      refine lv_icmp_ne (tgt := 658) hx hb dL_arePuppets_589 (by decide) (fun c_111 => ?_) (fun c_111 => ?_)
                      · replace hf := (if_neg c_111).symm.trans hf
                        refine lv_iconst (v := 0) hx hb dL_arePuppets_658 (by decide) ?_
                        obtain rfl := (Option.some.inj hf)
                        exact wr_z F (by decide) rfl hP hS dL_arePuppets_659
                      · replace hf := (if_pos c_111).symm.trans hf
                        refine lv_aload_n hx hb dL_arePuppets_592 rfl (lv_at hl 0 rfl) ?_
                        refine lv_bipush (v := 10) hx hb dL_arePuppets_593 (by decide) ?_
                        obtain ⟨u_112, h_113, hf⟩ := ob hf
                        refine k_rd (runV F wdL_34 (rm := rm_X6_count) (As := [.int 10]) (rest := []) ⟨rfl, rfl⟩ ⟨Nat.le_of_ble_eq_true rfl, Nat.le_of_ble_eq_true rfl⟩ hl.1 rfl rfl (Nat.le_of_ble_eq_true rfl) dL_arePuppets_595 ⟨Nat.zero_le _, Nat.zero_le _⟩) (c_X6_count l D cI cP o h tx tn Ad M_3.2 10 _ h_113) hX (va_recv hX.1 (va_blk (Bs := (bLM cI cP o h tx tn Ad a M_3)) hP 1 rfl) (ci := 6) (q0 := 0) rfl rfl) (va_blk (Bs := (bLM cI cP o h tx tn Ad a M_3)) hP 1 rfl) hP hS hA (fun H locs hP hS => ?_)
                        refine lv_aload_n hx hb dL_arePuppets_598 rfl (lv_at hl 1 rfl) ?_
                        refine lv_iconst (v := 3) hx hb dL_arePuppets_599 (by decide) ?_
                        refine va_iald hx hb hX.1 hP 3 0 (n := 8) (f := (M_3.1 3)) rfl rfl (by decide : ¬ ((3 : Int32) < 0 ∨ 8 ≤ Int32.toNatClampNeg 3)) dL_arePuppets_600 ?_
                        refine lv_icmp_ne (tgt := 658) hx hb dL_arePuppets_601 (by decide) (fun c_114 => ?_) (fun c_114 => ?_)
                        · replace hf := (if_neg c_114).symm.trans hf
                          refine lv_iconst (v := 0) hx hb dL_arePuppets_658 (by decide) ?_
                          obtain rfl := (Option.some.inj hf)
                          exact wr_z F (by decide) rfl hP hS dL_arePuppets_659
                        · replace hf := (if_pos c_114).symm.trans hf
                          refine lv_aload_n hx hb dL_arePuppets_604 rfl (lv_at hl 0 rfl) ?_
                          refine lv_bipush (v := 11) hx hb dL_arePuppets_605 (by decide) ?_
                          obtain ⟨u_115, h_116, hf⟩ := ob hf
                          refine k_rd (runV F wdL_34 (rm := rm_X6_count) (As := [.int 11]) (rest := []) ⟨rfl, rfl⟩ ⟨Nat.le_of_ble_eq_true rfl, Nat.le_of_ble_eq_true rfl⟩ hl.1 rfl rfl (Nat.le_of_ble_eq_true rfl) dL_arePuppets_607 ⟨Nat.zero_le _, Nat.zero_le _⟩) (c_X6_count l D cI cP o h tx tn Ad M_3.2 11 _ h_116) hX (va_recv hX.1 (va_blk (Bs := (bLM cI cP o h tx tn Ad a M_3)) hP 1 rfl) (ci := 6) (q0 := 0) rfl rfl) (va_blk (Bs := (bLM cI cP o h tx tn Ad a M_3)) hP 1 rfl) hP hS hA (fun H locs hP hS => ?_)
                          refine lv_aload_n hx hb dL_arePuppets_610 rfl (lv_at hl 1 rfl) ?_
                          refine lv_iconst (v := 4) hx hb dL_arePuppets_611 (by decide) ?_
                          refine va_iald hx hb hX.1 hP 3 0 (n := 8) (f := (M_3.1 3)) rfl rfl (by decide : ¬ ((4 : Int32) < 0 ∨ 8 ≤ Int32.toNatClampNeg 4)) dL_arePuppets_612 ?_
                          refine lv_icmp_ne (tgt := 658) hx hb dL_arePuppets_613 (by decide) (fun c_117 => ?_) (fun c_117 => ?_)
                          · replace hf := (if_neg c_117).symm.trans hf
                            refine lv_iconst (v := 0) hx hb dL_arePuppets_658 (by decide) ?_
                            obtain rfl := (Option.some.inj hf)
                            exact wr_z F (by decide) rfl hP hS dL_arePuppets_659
                          · replace hf := (if_pos c_117).symm.trans hf
                            refine lv_aload_n hx hb dL_arePuppets_616 rfl (lv_at hl 0 rfl) ?_
                            refine lv_bipush (v := 12) hx hb dL_arePuppets_617 (by decide) ?_
                            obtain ⟨u_118, h_119, hf⟩ := ob hf
                            refine k_rd (runV F wdL_34 (rm := rm_X6_count) (As := [.int 12]) (rest := []) ⟨rfl, rfl⟩ ⟨Nat.le_of_ble_eq_true rfl, Nat.le_of_ble_eq_true rfl⟩ hl.1 rfl rfl (Nat.le_of_ble_eq_true rfl) dL_arePuppets_619 ⟨Nat.zero_le _, Nat.zero_le _⟩) (c_X6_count l D cI cP o h tx tn Ad M_3.2 12 _ h_119) hX (va_recv hX.1 (va_blk (Bs := (bLM cI cP o h tx tn Ad a M_3)) hP 1 rfl) (ci := 6) (q0 := 0) rfl rfl) (va_blk (Bs := (bLM cI cP o h tx tn Ad a M_3)) hP 1 rfl) hP hS hA (fun H locs hP hS => ?_)
                            refine lv_aload_n hx hb dL_arePuppets_622 rfl (lv_at hl 1 rfl) ?_
                            refine lv_iconst (v := 5) hx hb dL_arePuppets_623 (by decide) ?_
                            refine va_iald hx hb hX.1 hP 3 0 (n := 8) (f := (M_3.1 3)) rfl rfl (by decide : ¬ ((5 : Int32) < 0 ∨ 8 ≤ Int32.toNatClampNeg 5)) dL_arePuppets_624 ?_
                            refine lv_icmp_ne (tgt := 658) hx hb dL_arePuppets_625 (by decide) (fun c_120 => ?_) (fun c_120 => ?_)
                            · replace hf := (if_neg c_120).symm.trans hf
                              refine lv_iconst (v := 0) hx hb dL_arePuppets_658 (by decide) ?_
                              obtain rfl := (Option.some.inj hf)
                              exact wr_z F (by decide) rfl hP hS dL_arePuppets_659
                            · replace hf := (if_pos c_120).symm.trans hf
                              refine lv_aload_n hx hb dL_arePuppets_628 rfl (lv_at hl 0 rfl) ?_
                              refine lv_bipush (v := 15) hx hb dL_arePuppets_629 (by decide) ?_
                              obtain ⟨u_121, h_122, hf⟩ := ob hf
                              refine k_rd (runV F wdL_34 (rm := rm_X6_count) (As := [.int 15]) (rest := []) ⟨rfl, rfl⟩ ⟨Nat.le_of_ble_eq_true rfl, Nat.le_of_ble_eq_true rfl⟩ hl.1 rfl rfl (Nat.le_of_ble_eq_true rfl) dL_arePuppets_631 ⟨Nat.zero_le _, Nat.zero_le _⟩) (c_X6_count l D cI cP o h tx tn Ad M_3.2 15 _ h_122) hX (va_recv hX.1 (va_blk (Bs := (bLM cI cP o h tx tn Ad a M_3)) hP 1 rfl) (ci := 6) (q0 := 0) rfl rfl) (va_blk (Bs := (bLM cI cP o h tx tn Ad a M_3)) hP 1 rfl) hP hS hA (fun H locs hP hS => ?_)
                              refine lv_aload_n hx hb dL_arePuppets_634 rfl (lv_at hl 1 rfl) ?_
                              refine lv_bipush (v := 6) hx hb dL_arePuppets_635 (by decide) ?_
                              refine va_iald hx hb hX.1 hP 3 0 (n := 8) (f := (M_3.1 3)) rfl rfl (by decide : ¬ ((6 : Int32) < 0 ∨ 8 ≤ Int32.toNatClampNeg 6)) dL_arePuppets_637 ?_
                              refine lv_icmp_ne (tgt := 658) hx hb dL_arePuppets_638 (by decide) (fun c_123 => ?_) (fun c_123 => ?_)
                              · replace hf := (if_neg c_123).symm.trans hf
                                refine lv_iconst (v := 0) hx hb dL_arePuppets_658 (by decide) ?_
                                obtain rfl := (Option.some.inj hf)
                                exact wr_z F (by decide) rfl hP hS dL_arePuppets_659
                              · replace hf := (if_pos c_123).symm.trans hf
                                refine lv_aload_n hx hb dL_arePuppets_641 rfl (lv_at hl 0 rfl) ?_
                                refine lv_bipush (v := 20) hx hb dL_arePuppets_642 (by decide) ?_
                                obtain ⟨u_124, h_125, hf⟩ := ob hf
                                refine k_rd (runV F wdL_34 (rm := rm_X6_count) (As := [.int 20]) (rest := []) ⟨rfl, rfl⟩ ⟨Nat.le_of_ble_eq_true rfl, Nat.le_of_ble_eq_true rfl⟩ hl.1 rfl rfl (Nat.le_of_ble_eq_true rfl) dL_arePuppets_644 ⟨Nat.zero_le _, Nat.zero_le _⟩) (c_X6_count l D cI cP o h tx tn Ad M_3.2 20 _ h_125) hX (va_recv hX.1 (va_blk (Bs := (bLM cI cP o h tx tn Ad a M_3)) hP 1 rfl) (ci := 6) (q0 := 0) rfl rfl) (va_blk (Bs := (bLM cI cP o h tx tn Ad a M_3)) hP 1 rfl) hP hS hA (fun H locs hP hS => ?_)
                                refine lv_aload_n hx hb dL_arePuppets_647 rfl (lv_at hl 1 rfl) ?_
                                refine lv_bipush (v := 7) hx hb dL_arePuppets_648 (by decide) ?_
                                refine va_iald hx hb hX.1 hP 3 0 (n := 8) (f := (M_3.1 3)) rfl rfl (by decide : ¬ ((7 : Int32) < 0 ∨ 8 ≤ Int32.toNatClampNeg 7)) dL_arePuppets_650 ?_
                                refine lv_icmp_ne (tgt := 658) hx hb dL_arePuppets_651 (by decide) (fun c_126 => ?_) (fun c_126 => ?_)
                                · replace hf := (if_neg c_126).symm.trans hf
                                  refine lv_iconst (v := 0) hx hb dL_arePuppets_658 (by decide) ?_
                                  obtain rfl := (Option.some.inj hf)
                                  exact wr_z F (by decide) rfl hP hS dL_arePuppets_659
                                · replace hf := (if_pos c_126).symm.trans hf
                                  refine lv_iconst (v := 1) hx hb dL_arePuppets_654 (by decide) ?_
                                  refine lv_goto (tgt := 659) hx hb dL_arePuppets_655 (by decide) ?_
                                  obtain rfl := (Option.some.inj hf)
                                  exact wr_z F (by decide) rfl hP hS dL_arePuppets_659
def L_areStrings_J11 (K_11 : SLM) (t0_11 : Int32) (t1_11 : Int32) : Option (SLM × Int32) := (if t1_11 = t0_11 then ((X6_stringOf K_11.2 (-1) 0).bind fun u_6 => (bnd (K_11.1, u_6.1) fun M_8 => (if u_6.2 = (-1000001) then some (M_8, 1) else some (M_8, 0)))) else some (K_11, 0))
def L_areStrings_J82 (K_82 : SLM) (x7_82 : Int32) (x8_82 : Int32) (t0_82 : Int32) (t1_82 : Int32) : Int32 := (if t1_82 = t0_82 then 1 else 0)
def L_areStrings_J171 (K_171 : SLM) (x7_171 : Int32) (x8_171 : Int32) (t0_171 : Int32) (t1_171 : Int32) : Int32 := (if t0_171 = 0 then 0 else 1)
def L_areStrings_L35 : Nat → SLM → Int32 → Int32 → Option (SLM × Int32)
  | 0, _, _, _ => none
  | fu + 1, K_35, x6_35, x7_35 => (if ((K_35.1 3) (Int32.toNatClampNeg 1)) ≤ x7_35 then some (K_35, x6_35) else (if x6_35 = 0 then some (K_35, x6_35) else ((L_groups K_35.1 x7_35).bind fun u_15 => (bnd (u_15.1, K_35.2) fun M_17 => (if ¬ ((4 * x7_35) < 0 ∨ 64 ≤ Int32.toNatClampNeg (4 * x7_35)) then (if ¬ (((M_17.1 1) (Int32.toNatClampNeg (4 * x7_35))) < 0 ∨ 36 ≤ Int32.toNatClampNeg ((M_17.1 1) (Int32.toNatClampNeg (4 * x7_35)))) then (if ¬ (((4 * x7_35) + 1) < 0 ∨ 64 ≤ Int32.toNatClampNeg ((4 * x7_35) + 1)) then (if ¬ (((M_17.1 1) (Int32.toNatClampNeg ((4 * x7_35) + 1))) < 0 ∨ 36 ≤ Int32.toNatClampNeg ((M_17.1 1) (Int32.toNatClampNeg ((4 * x7_35) + 1)))) then ((X6_stringOf M_17.2 x7_35 0).bind fun u_24 => (bnd (M_17.1, u_24.1) fun M_26 => (if u_24.2 = ((M_26.1 1) (Int32.toNatClampNeg (4 * x7_35))) then ((X6_stringOf M_26.2 x7_35 1).bind fun u_29 => (bnd (M_26.1, u_29.1) fun M_31 => (if u_29.2 = ((M_31.1 1) (Int32.toNatClampNeg ((4 * x7_35) + 1))) then ((X6_stringOf M_31.2 x7_35 2).bind fun u_34 => (bnd (M_31.1, u_34.1) fun M_36 => (if ¬ (((4 * x7_35) + 2) < 0 ∨ 64 ≤ Int32.toNatClampNeg ((4 * x7_35) + 2)) then (if u_34.2 = ((M_36.1 1) (Int32.toNatClampNeg ((4 * x7_35) + 2))) then ((X6_stringOf M_36.2 x7_35 3).bind fun u_40 => (bnd (M_36.1, u_40.1) fun M_42 => (if ¬ (((4 * x7_35) + 3) < 0 ∨ 64 ≤ Int32.toNatClampNeg ((4 * x7_35) + 3)) then (if u_40.2 = ((M_42.1 1) (Int32.toNatClampNeg ((4 * x7_35) + 3))) then ((X6_stringOf M_42.2 x7_35 4).bind fun u_46 => (bnd (M_42.1, u_46.1) fun M_48 => (if u_46.2 = (L_areStrings_J171 M_48 x7_35 u_15.2 (L_areStrings_J82 M_17 x7_35 u_15.2 ((M_17.1 4) (Int32.toNatClampNeg ((M_17.1 1) (Int32.toNatClampNeg ((4 * x7_35) + 1))))) ((M_17.1 4) (Int32.toNatClampNeg ((M_17.1 1) (Int32.toNatClampNeg (4 * x7_35)))))) u_46.2) then ((X6_stringOf M_48.2 x7_35 5).bind fun u_52 => (bnd (M_48.1, u_52.1) fun M_54 => (if u_52.2 = (-1000001) then ((X6_ifCut M_54.2 x7_35 1).bind fun u_57 => (bnd (M_54.1, u_57.1) fun M_59 => (if u_57.2 = u_15.2 then ((X6_ifCut M_59.2 x7_35 0).bind fun u_62 => (bnd (M_59.1, u_62.1) fun M_64 => ((L_yes M_64.1 x7_35).bind fun u_66 => (bnd (u_66.1, M_64.2) fun M_68 => (if u_62.2 = u_66.2 then L_areStrings_L35 fu M_68 1 (x7_35 + 1) else L_areStrings_L35 fu M_68 0 (x7_35 + 1)))))) else L_areStrings_L35 fu M_59 0 (x7_35 + 1)))) else L_areStrings_L35 fu M_54 0 (x7_35 + 1)))) else L_areStrings_L35 fu M_48 0 (x7_35 + 1)))) else L_areStrings_L35 fu M_42 0 (x7_35 + 1)) else none))) else L_areStrings_L35 fu M_36 0 (x7_35 + 1)) else none))) else L_areStrings_L35 fu M_31 0 (x7_35 + 1)))) else L_areStrings_L35 fu M_26 0 (x7_35 + 1)))) else none) else none) else none) else none)))))
def L_areStrings_L243 : Nat → SLM → Int32 → Int32 → Option (Int32)
  | 0, _, _, _ => none
  | fu + 1, K_243, x6_243, x7_243 => (if 32 ≤ x7_243 then some x6_243 else (if x6_243 = 0 then L_areStrings_L243 fu K_243 0 (x7_243 + 1) else (if ((K_243.1 3) (Int32.toNatClampNeg 5)) ≤ (x7_243 / 4) then (if (X6_book K_243.2 (x7_243 / 4) (x7_243 - x7_243 / 4 * 4)) = (-1000004) then L_areStrings_L243 fu K_243 1 (x7_243 + 1) else L_areStrings_L243 fu K_243 0 (x7_243 + 1)) else (if ¬ (x7_243 < 0 ∨ 32 ≤ Int32.toNatClampNeg x7_243) then (if (X6_book K_243.2 (x7_243 / 4) (x7_243 - x7_243 / 4 * 4)) = ((K_243.1 2) (Int32.toNatClampNeg x7_243)) then L_areStrings_L243 fu K_243 1 (x7_243 + 1) else L_areStrings_L243 fu K_243 0 (x7_243 + 1)) else none))))
def L_areStrings (K : SLM) : Option (SLM × Int32) := ((X6_stringOf K.2 ((K.1 3) (Int32.toNatClampNeg 1)) 0).bind fun u_1 => (bnd (K.1, u_1.1) fun M_3 => ((L_areStrings_J11 M_3 (-1000001) u_1.2).bind fun u_11 => ((L_areStrings_L35 FUEL u_11.1 u_11.2 0).bind fun u_71 => ((L_areStrings_L243 FUEL u_71.1 u_71.2 0).bind fun u_79 => (if (u_79 = 0 ∨ u_79 = 1) then some (u_71.1, u_79) else none))))))
abbrev rm_L_areStrings : Room := { frames := 6, cells := 0, slots := 0, locals := 146 }
set_option maxHeartbeats 4000000 in
set_option maxRecDepth 100000 in
theorem c_L_areStrings (l : Launch) (D : va_G) (cI cP : ClassId) (o h : Nat) (tx tn : Nat → Nat) (Ad : Nat → Nat → Nat) (a : Nat → Nat) (K : SLM) (z : SLM × Int32) (hf : L_areStrings K  = some z) : MWi l yL_areStrings cL_areStrings 10 (some .boolean) rm_L_areStrings D cI cP [.ref o, .ref (a 0), .ref (a 1), .ref (a 2), .ref (a 3), .ref (a 4)] (wLM cI cP o h tx tn Ad a K) (wLM cI cP o h tx tn Ad a z.1) z.2 := by
  refine MWi.of (by decide +kernel) (Nat.le_of_ble_eq_true rfl) ?_
  intro p e s m args below meth c ls A F hX hP hD hA hS hl
  have F : Fx p s m args meth c RL cL_areStrings 10 (some .boolean) := F
  have hx := F.1
  have hb := F.2.1
  have hown := F.2.2.2.1
  have hts := F.2.2.2.2.1
  have hl : lv_has ls 10 [(0, .ref o), (1, .ref (a 0)), (2, .ref (a 1)), (3, .ref (a 2)), (4, .ref (a 3)), (5, .ref (a 4))] := hl
  unfold L_areStrings at hf
  refine lv_aload_n hx hb dL_areStrings_0 rfl (lv_at hl 0 rfl) ?_
  refine lv_aload hx hb dL_areStrings_1 (lv_at hl 4 rfl) ?_
  refine lv_iconst (v := 1) hx hb dL_areStrings_3 (by decide) ?_
  refine va_iald hx hb hX.1 hP 3 0 (n := 8) (f := (K.1 3)) rfl rfl (by decide : ¬ ((1 : Int32) < 0 ∨ 8 ≤ Int32.toNatClampNeg 1)) dL_areStrings_4 ?_
  refine lv_iconst (v := 0) hx hb dL_areStrings_5 (by decide) ?_
  obtain ⟨u_1, h_2, hf⟩ := ob hf
  refine k_wi (runV F wdL_38 (rm := rm_X6_stringOf) (As := [.int ((K.1 3) (Int32.toNatClampNeg 1)), .int 0]) (rest := []) ⟨rfl, rfl⟩ ⟨Nat.le_of_ble_eq_true rfl, Nat.le_of_ble_eq_true rfl⟩ hl.1 rfl rfl (Nat.le_of_ble_eq_true rfl) dL_areStrings_6 ⟨Nat.zero_le _, Nat.zero_le _⟩) (c_X6_stringOf l D cI cP o h tx tn Ad K.2 ((K.1 3) (Int32.toNatClampNeg 1)) 0 _ h_2) hX (va_recv hX.1 (va_blk (Bs := (bLM cI cP o h tx tn Ad a K)) hP 1 rfl) (ci := 6) (q0 := 0) rfl rfl) (Cut.one (Bs := (bLM cI cP o h tx tn Ad a K)) (k := 1) rfl rfl) hP hD hS hA (fun H locs hP hD hS => ?_)
  obtain ⟨M_3, e_4, hf⟩ := bnd_e hf
  have hP : va_P D vwCl (wLM cI cP o h tx tn Ad a M_3) H := by rw [e_4]; exact hP
  have hD : va_D A (wLM cI cP o h tx tn Ad a M_3) := by rw [e_4]; exact hD
  clear e_4
  refine lv_ldc (v := (-1000001)) hx hb hown (hts _ q_316) dL_areStrings_9 ?_
  have hJ_11 : ∀ (K_11 : SLM) (t0_11 : Int32) (t1_11 : Int32) (v : SLM × Int32) (H : Heap) (locs : List Loc) (ls : Array Slot), L_areStrings_J11 K_11 t0_11 t1_11 = some v → va_P D vwCl (wLM cI cP o h tx tn Ad a K_11) H → va_D A (wLM cI cP o h tx tn Ad a K_11) → va_S A s.heap H locs → lv_has ls 10 [(0, .ref o), (1, .ref (a 0)), (2, .ref (a 1)), (3, .ref (a 2)), (4, .ref (a 3)), (5, .ref (a 4))] → (∀ (H : Heap) (locs : List Loc) (ls : Array Slot), va_P D vwCl (wLM cI cP o h tx tn Ad a v.1) H → va_D A (wLM cI cP o h tx tn Ad a v.1) → va_S A s.heap H locs → lv_has ls 10 [(0, .ref o), (1, .ref (a 0)), (2, .ref (a 1)), (3, .ref (a 2)), (4, .ref (a 3)), (5, .ref (a 4))] → W p l e rm_L_areStrings s m args below meth c H locs 0 0 (QWi D below args s A (wLM cI cP o h tx tn Ad a z.1) z.2) (F0 m 30 ls [.int v.2])) → W p l e rm_L_areStrings s m args below meth c H locs 0 0 (QWi D below args s A (wLM cI cP o h tx tn Ad a z.1) z.2) (F0 m 11 ls [.int t0_11, .int t1_11]) := by
    intro K_11 t0_11 t1_11 v _ _ ls hf hP hD hS hl hk
    unfold L_areStrings_J11 at hf
    refine lv_icmp_ne (tgt := 29) hx hb dL_areStrings_11 (by decide) (fun c_5 => ?_) (fun c_5 => ?_)
    · replace hf := (if_neg c_5).symm.trans hf
      refine lv_iconst (v := 0) hx hb dL_areStrings_29 (by decide) ?_
      obtain rfl := Option.some.inj hf
      exact hk _ _ ls hP hD hS hl
    · replace hf := (if_pos c_5).symm.trans hf
      refine lv_aload_n hx hb dL_areStrings_14 rfl (lv_at hl 0 rfl) ?_
      refine lv_iconst (v := (-1)) hx hb dL_areStrings_15 (by decide) ?_
      refine lv_iconst (v := 0) hx hb dL_areStrings_16 (by decide) ?_
      obtain ⟨u_6, h_7, hf⟩ := ob hf
      refine k_wi (runV F wdL_38 (rm := rm_X6_stringOf) (As := [.int (-1), .int 0]) (rest := []) ⟨rfl, rfl⟩ ⟨Nat.le_of_ble_eq_true rfl, Nat.le_of_ble_eq_true rfl⟩ hl.1 rfl rfl (Nat.le_of_ble_eq_true rfl) dL_areStrings_17 ⟨Nat.zero_le _, Nat.zero_le _⟩) (c_X6_stringOf l D cI cP o h tx tn Ad K_11.2 (-1) 0 _ h_7) hX (va_recv hX.1 (va_blk (Bs := (bLM cI cP o h tx tn Ad a K_11)) hP 1 rfl) (ci := 6) (q0 := 0) rfl rfl) (Cut.one (Bs := (bLM cI cP o h tx tn Ad a K_11)) (k := 1) rfl rfl) hP hD hS hA (fun H locs hP hD hS => ?_)
      obtain ⟨M_8, e_9, hf⟩ := bnd_e hf
      have hP : va_P D vwCl (wLM cI cP o h tx tn Ad a M_8) H := by rw [e_9]; exact hP
      have hD : va_D A (wLM cI cP o h tx tn Ad a M_8) := by rw [e_9]; exact hD
      clear e_9
      refine lv_ldc (v := (-1000001)) hx hb hown (hts _ q_316) dL_areStrings_20 ?_
      refine lv_icmp_ne (tgt := 29) hx hb dL_areStrings_22 (by decide) (fun c_10 => ?_) (fun c_10 => ?_)
      · replace hf := (if_neg c_10).symm.trans hf
        refine lv_iconst (v := 0) hx hb dL_areStrings_29 (by decide) ?_
        obtain rfl := Option.some.inj hf
        exact hk _ _ ls hP hD hS hl
      · replace hf := (if_pos c_10).symm.trans hf
        refine lv_iconst (v := 1) hx hb dL_areStrings_25 (by decide) ?_
        refine lv_goto (tgt := 30) hx hb dL_areStrings_26 (by decide) ?_
        obtain rfl := Option.some.inj hf
        exact hk _ _ ls hP hD hS hl
  obtain ⟨u_11, h_12, hf⟩ := ob hf
  refine hJ_11 M_3 (-1000001) u_1.2 u_11 _ _ ls h_12 hP hD hS hl (fun H locs ls hP hD hS hl => ?_)
  clear hJ_11
  refine lv_istore (lv' := [(6, .int u_11.2), (0, .ref o), (1, .ref (a 0)), (2, .ref (a 1)), (3, .ref (a 2)), (4, .ref (a 3)), (5, .ref (a 4))]) hx hb dL_areStrings_30 hl (by decide) rfl (fun ls hl => ?_)
  refine lv_iconst (v := 0) hx hb dL_areStrings_32 (by decide) ?_
  refine lv_istore (lv' := [(7, .int 0), (6, .int u_11.2), (0, .ref o), (1, .ref (a 0)), (2, .ref (a 1)), (3, .ref (a 2)), (4, .ref (a 3)), (5, .ref (a 4))]) hx hb dL_areStrings_33 hl (by decide) rfl (fun ls hl => ?_)
  have hL_35 : ∀ (fu : Nat) (K_35 : SLM) (x6_35 : Int32) (x7_35 : Int32) (v : SLM × Int32) (H : Heap) (locs : List Loc) (ls : Array Slot), L_areStrings_L35 fu K_35 x6_35 x7_35 = some v → va_P D vwCl (wLM cI cP o h tx tn Ad a K_35) H → va_D A (wLM cI cP o h tx tn Ad a K_35) → va_S A s.heap H locs → lv_has ls 10 [(0, .ref o), (1, .ref (a 0)), (2, .ref (a 1)), (3, .ref (a 2)), (4, .ref (a 3)), (5, .ref (a 4)), (6, .int x6_35), (7, .int x7_35)] → (∀ (H : Heap) (locs : List Loc) (ls : Array Slot), va_P D vwCl (wLM cI cP o h tx tn Ad a v.1) H → va_D A (wLM cI cP o h tx tn Ad a v.1) → va_S A s.heap H locs → lv_has ls 10 [(0, .ref o), (3, .ref (a 2)), (4, .ref (a 3)), (6, .int v.2)] → W p l e rm_L_areStrings s m args below meth c H locs 0 0 (QWi D below args s A (wLM cI cP o h tx tn Ad a z.1) z.2) (F0 m 240 ls [])) → W p l e rm_L_areStrings s m args below meth c H locs 0 0 (QWi D below args s A (wLM cI cP o h tx tn Ad a z.1) z.2) (F0 m 35 ls []) := by
    intro fu
    induction fu with
    | zero =>
      intro K_35 x6_35 x7_35 v H locs ls hf
      exact absurd hf (by simp [L_areStrings_L35])
    | succ fu ih =>
      intro K_35 x6_35 x7_35 v _ _ ls hf hP hD hS hl hk
      rw [L_areStrings_L35] at hf
      refine lv_iload hx hb dL_areStrings_35 (lv_at hl 7 rfl) ?_
      refine lv_aload hx hb dL_areStrings_37 (lv_at hl 4 rfl) ?_
      refine lv_iconst (v := 1) hx hb dL_areStrings_39 (by decide) ?_
      refine va_iald hx hb hX.1 hP 3 0 (n := 8) (f := (K_35.1 3)) rfl rfl (by decide : ¬ ((1 : Int32) < 0 ∨ 8 ≤ Int32.toNatClampNeg 1)) dL_areStrings_40 ?_
      refine lv_icmp_ge (tgt := 240) hx hb dL_areStrings_41 (by decide) (fun c_13 => ?_) (fun c_13 => ?_)
      · replace hf := (if_pos c_13).symm.trans hf
        obtain rfl := Option.some.inj hf
        exact hk _ _ ls hP hD hS (lv_sub hl [0, 3, 4, 6] rfl)
      · replace hf := (if_neg c_13).symm.trans hf
        refine lv_iload hx hb dL_areStrings_44 (lv_at hl 6 rfl) ?_
        refine lv_if_eq (tgt := 240) hx hb dL_areStrings_46 (by decide) (fun c_14 => ?_) (fun c_14 => ?_)
        · replace hf := (if_pos c_14).symm.trans hf
          obtain rfl := Option.some.inj hf
          exact hk _ _ ls hP hD hS (lv_sub hl [0, 3, 4, 6] rfl)
        · replace hf := (if_neg c_14).symm.trans hf
          refine lv_aload_n hx hb dL_areStrings_49 rfl (lv_at hl 1 rfl) ?_
          refine lv_aload_n hx hb dL_areStrings_50 rfl (lv_at hl 2 rfl) ?_
          refine lv_aload hx hb dL_areStrings_51 (lv_at hl 4 rfl) ?_
          refine lv_aload hx hb dL_areStrings_53 (lv_at hl 5 rfl) ?_
          refine lv_iload hx hb dL_areStrings_55 (lv_at hl 7 rfl) ?_
          obtain ⟨u_15, h_16, hf⟩ := ob hf
          refine k_wi (runS F wdL_9 (rm := rm_L_groups) (As := [.ref (a 0), .ref (a 1), .ref (a 3), .ref (a 4), .int x7_35]) (rest := []) ⟨rfl, rfl⟩ ⟨Nat.le_of_ble_eq_true rfl, Nat.le_of_ble_eq_true rfl⟩ hl.1 rfl rfl (Nat.le_of_ble_eq_true rfl) dL_areStrings_57 ⟨Nat.zero_le _, Nat.zero_le _⟩) (c_L_groups l D cI cP a K_35.1 x7_35 _ h_16) hX trivial (Cut.one (Bs := (bLM cI cP o h tx tn Ad a K_35)) (k := 0) rfl rfl) hP hD hS hA (fun H locs hP hD hS => ?_)
          obtain ⟨M_17, e_18, hf⟩ := bnd_e hf
          have hP : va_P D vwCl (wLM cI cP o h tx tn Ad a M_17) H := by rw [e_18]; exact hP
          have hD : va_D A (wLM cI cP o h tx tn Ad a M_17) := by rw [e_18]; exact hD
          clear e_18
          refine lv_istore (lv' := [(8, .int u_15.2), (0, .ref o), (1, .ref (a 0)), (2, .ref (a 1)), (3, .ref (a 2)), (4, .ref (a 3)), (5, .ref (a 4)), (6, .int x6_35), (7, .int x7_35)]) hx hb dL_areStrings_60 hl (by decide) rfl (fun ls hl => ?_)
          refine lv_aload hx hb dL_areStrings_62 (lv_at hl 6 rfl) ?_
          refine lv_aload_n hx hb dL_areStrings_64 rfl (lv_at hl 3 rfl) ?_
          refine lv_iconst (v := 4) hx hb dL_areStrings_65 (by decide) ?_
          refine lv_iload hx hb dL_areStrings_66 (lv_at hl 8 rfl) ?_
          refine lv_imul hx hb dL_areStrings_68 ?_
          have g_19 := og hf
          replace hf := (if_pos g_19).symm.trans hf
          refine va_iald hx hb hX.1 hP 1 0 (n := 64) (f := (M_17.1 1)) rfl rfl g_19 dL_areStrings_69 ?_
          have g_20 := og hf
          replace hf := (if_pos g_20).symm.trans hf
          refine va_iald hx hb hX.1 hP 4 0 (n := 36) (f := (M_17.1 4)) rfl rfl g_20 dL_areStrings_70 ?_
          refine lv_aload hx hb dL_areStrings_71 (lv_at hl 6 rfl) ?_
          refine lv_aload_n hx hb dL_areStrings_73 rfl (lv_at hl 3 rfl) ?_
          refine lv_iconst (v := 4) hx hb dL_areStrings_74 (by decide) ?_
          refine lv_iload hx hb dL_areStrings_75 (lv_at hl 8 rfl) ?_
          refine lv_imul hx hb dL_areStrings_77 ?_
          refine lv_iconst (v := 1) hx hb dL_areStrings_78 (by decide) ?_
          refine lv_iadd hx hb dL_areStrings_79 ?_
          have g_21 := og hf
          replace hf := (if_pos g_21).symm.trans hf
          refine va_iald hx hb hX.1 hP 1 0 (n := 64) (f := (M_17.1 1)) rfl rfl g_21 dL_areStrings_80 ?_
          have g_22 := og hf
          replace hf := (if_pos g_22).symm.trans hf
          refine va_iald hx hb hX.1 hP 4 0 (n := 36) (f := (M_17.1 4)) rfl rfl g_22 dL_areStrings_81 ?_
          have hJ_82 : ∀ (K_82 : SLM) (x7_82 : Int32) (x8_82 : Int32) (t0_82 : Int32) (t1_82 : Int32) (v : Int32) (H : Heap) (locs : List Loc) (ls : Array Slot), L_areStrings_J82 K_82 x7_82 x8_82 t0_82 t1_82 = v → va_P D vwCl (wLM cI cP o h tx tn Ad a K_82) H → va_D A (wLM cI cP o h tx tn Ad a K_82) → va_S A s.heap H locs → lv_has ls 10 [(8, .int x8_82), (0, .ref o), (1, .ref (a 0)), (2, .ref (a 1)), (3, .ref (a 2)), (4, .ref (a 3)), (5, .ref (a 4)), (7, .int x7_82)] → (∀ (H : Heap) (locs : List Loc) (ls : Array Slot), va_P D vwCl (wLM cI cP o h tx tn Ad a K_82) H → va_D A (wLM cI cP o h tx tn Ad a K_82) → va_S A s.heap H locs → lv_has ls 10 [(0, .ref o), (1, .ref (a 0)), (2, .ref (a 1)), (3, .ref (a 2)), (4, .ref (a 3)), (5, .ref (a 4)), (7, .int x7_82), (8, .int x8_82)] → W p l e rm_L_areStrings s m args below meth c H locs 0 0 (QWi D below args s A (wLM cI cP o h tx tn Ad a z.1) z.2) (F0 m 90 ls [.int v])) → W p l e rm_L_areStrings s m args below meth c H locs 0 0 (QWi D below args s A (wLM cI cP o h tx tn Ad a z.1) z.2) (F0 m 82 ls [.int t0_82, .int t1_82]) := by
            intro K_82 x7_82 x8_82 t0_82 t1_82 v _ _ ls hf hP hD hS hl hk
            unfold L_areStrings_J82 at hf
            refine lv_icmp_ne (tgt := 89) hx hb dL_areStrings_82 (by decide) (fun c_23 => ?_) (fun c_23 => ?_)
            · replace hf := (if_neg c_23).symm.trans hf
              refine lv_iconst (v := 0) hx hb dL_areStrings_89 (by decide) ?_
              obtain rfl := hf
              exact hk _ _ ls hP hD hS (lv_sub hl [1, 2, 3, 4, 5, 6, 7, 0] rfl)
            · replace hf := (if_pos c_23).symm.trans hf
              refine lv_iconst (v := 1) hx hb dL_areStrings_85 (by decide) ?_
              refine lv_goto (tgt := 90) hx hb dL_areStrings_86 (by decide) ?_
              obtain rfl := hf
              exact hk _ _ ls hP hD hS (lv_sub hl [1, 2, 3, 4, 5, 6, 7, 0] rfl)
          refine hJ_82 M_17 x7_35 u_15.2 ((M_17.1 4) (Int32.toNatClampNeg ((M_17.1 1) (Int32.toNatClampNeg ((4 * x7_35) + 1))))) ((M_17.1 4) (Int32.toNatClampNeg ((M_17.1 1) (Int32.toNatClampNeg (4 * x7_35))))) _ _ _ ls rfl hP hD hS (lv_sub hl [0, 1, 2, 3, 4, 5, 6, 8] rfl) (fun H locs ls hP hD hS hl => ?_)
          clear hJ_82
          refine lv_istore (lv' := [(9, .int (L_areStrings_J82 M_17 x7_35 u_15.2 ((M_17.1 4) (Int32.toNatClampNeg ((M_17.1 1) (Int32.toNatClampNeg ((4 * x7_35) + 1))))) ((M_17.1 4) (Int32.toNatClampNeg ((M_17.1 1) (Int32.toNatClampNeg (4 * x7_35))))))), (0, .ref o), (1, .ref (a 0)), (2, .ref (a 1)), (3, .ref (a 2)), (4, .ref (a 3)), (5, .ref (a 4)), (7, .int x7_35), (8, .int u_15.2)]) hx hb dL_areStrings_90 hl (by decide) rfl (fun ls hl => ?_)
          refine lv_aload_n hx hb dL_areStrings_92 rfl (lv_at hl 1 rfl) ?_
          refine lv_iload hx hb dL_areStrings_93 (lv_at hl 7 rfl) ?_
          refine lv_iconst (v := 0) hx hb dL_areStrings_95 (by decide) ?_
          obtain ⟨u_24, h_25, hf⟩ := ob hf
          refine k_wi (runV F wdL_38 (rm := rm_X6_stringOf) (As := [.int x7_35, .int 0]) (rest := []) ⟨rfl, rfl⟩ ⟨Nat.le_of_ble_eq_true rfl, Nat.le_of_ble_eq_true rfl⟩ hl.1 rfl rfl (Nat.le_of_ble_eq_true rfl) dL_areStrings_96 ⟨Nat.zero_le _, Nat.zero_le _⟩) (c_X6_stringOf l D cI cP o h tx tn Ad M_17.2 x7_35 0 _ h_25) hX (va_recv hX.1 (va_blk (Bs := (bLM cI cP o h tx tn Ad a M_17)) hP 1 rfl) (ci := 6) (q0 := 0) rfl rfl) (Cut.one (Bs := (bLM cI cP o h tx tn Ad a M_17)) (k := 1) rfl rfl) hP hD hS hA (fun H locs hP hD hS => ?_)
          obtain ⟨M_26, e_27, hf⟩ := bnd_e hf
          have hP : va_P D vwCl (wLM cI cP o h tx tn Ad a M_26) H := by rw [e_27]; exact hP
          have hD : va_D A (wLM cI cP o h tx tn Ad a M_26) := by rw [e_27]; exact hD
          clear e_27
          refine lv_aload_n hx hb dL_areStrings_99 rfl (lv_at hl 3 rfl) ?_
          refine lv_iconst (v := 4) hx hb dL_areStrings_100 (by decide) ?_
          refine lv_iload hx hb dL_areStrings_101 (lv_at hl 7 rfl) ?_
          refine lv_imul hx hb dL_areStrings_103 ?_
          refine va_iald hx hb hX.1 hP 1 0 (n := 64) (f := (M_26.1 1)) rfl rfl g_19 dL_areStrings_104 ?_
          refine lv_icmp_ne (tgt := 231) hx hb dL_areStrings_105 (by decide) (fun c_28 => ?_) (fun c_28 => ?_)
          · replace hf := (if_neg c_28).symm.trans hf
            refine lv_iconst (v := 0) hx hb dL_areStrings_231 (by decide) ?_
            refine lv_istore (lv' := [(6, .int 0), (9, .int (L_areStrings_J82 M_17 x7_35 u_15.2 ((M_17.1 4) (Int32.toNatClampNeg ((M_17.1 1) (Int32.toNatClampNeg ((4 * x7_35) + 1))))) ((M_17.1 4) (Int32.toNatClampNeg ((M_17.1 1) (Int32.toNatClampNeg (4 * x7_35))))))), (0, .ref o), (1, .ref (a 0)), (2, .ref (a 1)), (3, .ref (a 2)), (4, .ref (a 3)), (5, .ref (a 4)), (7, .int x7_35), (8, .int u_15.2)]) hx hb dL_areStrings_232 hl (by decide) rfl (fun ls hl => ?_)
            refine lv_iinc (v := (x7_35 + 1)) (lv' := [(7, .int (x7_35 + 1)), (6, .int 0), (9, .int (L_areStrings_J82 M_17 x7_35 u_15.2 ((M_17.1 4) (Int32.toNatClampNeg ((M_17.1 1) (Int32.toNatClampNeg ((4 * x7_35) + 1))))) ((M_17.1 4) (Int32.toNatClampNeg ((M_17.1 1) (Int32.toNatClampNeg (4 * x7_35))))))), (0, .ref o), (1, .ref (a 0)), (2, .ref (a 1)), (3, .ref (a 2)), (4, .ref (a 3)), (5, .ref (a 4)), (8, .int u_15.2)]) hx hb dL_areStrings_234 hl (k := 8) rfl (by rfl) (by decide) rfl (fun ls hl => ?_)
            refine lv_goto (tgt := 35) hx hb dL_areStrings_237 (by decide) ?_
            exact ih M_26 0 (x7_35 + 1) _ _ _ ls hf hP hD hS (lv_sub hl [3, 4, 5, 6, 7, 8, 1, 0] rfl) hk
          · replace hf := (if_pos c_28).symm.trans hf
            refine lv_aload_n hx hb dL_areStrings_108 rfl (lv_at hl 1 rfl) ?_
            refine lv_iload hx hb dL_areStrings_109 (lv_at hl 7 rfl) ?_
            refine lv_iconst (v := 1) hx hb dL_areStrings_111 (by decide) ?_
            obtain ⟨u_29, h_30, hf⟩ := ob hf
            refine k_wi (runV F wdL_38 (rm := rm_X6_stringOf) (As := [.int x7_35, .int 1]) (rest := []) ⟨rfl, rfl⟩ ⟨Nat.le_of_ble_eq_true rfl, Nat.le_of_ble_eq_true rfl⟩ hl.1 rfl rfl (Nat.le_of_ble_eq_true rfl) dL_areStrings_112 ⟨Nat.zero_le _, Nat.zero_le _⟩) (c_X6_stringOf l D cI cP o h tx tn Ad M_26.2 x7_35 1 _ h_30) hX (va_recv hX.1 (va_blk (Bs := (bLM cI cP o h tx tn Ad a M_26)) hP 1 rfl) (ci := 6) (q0 := 0) rfl rfl) (Cut.one (Bs := (bLM cI cP o h tx tn Ad a M_26)) (k := 1) rfl rfl) hP hD hS hA (fun H locs hP hD hS => ?_)
            obtain ⟨M_31, e_32, hf⟩ := bnd_e hf
            have hP : va_P D vwCl (wLM cI cP o h tx tn Ad a M_31) H := by rw [e_32]; exact hP
            have hD : va_D A (wLM cI cP o h tx tn Ad a M_31) := by rw [e_32]; exact hD
            clear e_32
            refine lv_aload_n hx hb dL_areStrings_115 rfl (lv_at hl 3 rfl) ?_
            refine lv_iconst (v := 4) hx hb dL_areStrings_116 (by decide) ?_
            refine lv_iload hx hb dL_areStrings_117 (lv_at hl 7 rfl) ?_
            refine lv_imul hx hb dL_areStrings_119 ?_
            refine lv_iconst (v := 1) hx hb dL_areStrings_120 (by decide) ?_
            refine lv_iadd hx hb dL_areStrings_121 ?_
            refine va_iald hx hb hX.1 hP 1 0 (n := 64) (f := (M_31.1 1)) rfl rfl g_21 dL_areStrings_122 ?_
            refine lv_icmp_ne (tgt := 231) hx hb dL_areStrings_123 (by decide) (fun c_33 => ?_) (fun c_33 => ?_)
            · replace hf := (if_neg c_33).symm.trans hf
              refine lv_iconst (v := 0) hx hb dL_areStrings_231 (by decide) ?_
              refine lv_istore (lv' := [(6, .int 0), (9, .int (L_areStrings_J82 M_17 x7_35 u_15.2 ((M_17.1 4) (Int32.toNatClampNeg ((M_17.1 1) (Int32.toNatClampNeg ((4 * x7_35) + 1))))) ((M_17.1 4) (Int32.toNatClampNeg ((M_17.1 1) (Int32.toNatClampNeg (4 * x7_35))))))), (0, .ref o), (1, .ref (a 0)), (2, .ref (a 1)), (3, .ref (a 2)), (4, .ref (a 3)), (5, .ref (a 4)), (7, .int x7_35), (8, .int u_15.2)]) hx hb dL_areStrings_232 hl (by decide) rfl (fun ls hl => ?_)
              refine lv_iinc (v := (x7_35 + 1)) (lv' := [(7, .int (x7_35 + 1)), (6, .int 0), (9, .int (L_areStrings_J82 M_17 x7_35 u_15.2 ((M_17.1 4) (Int32.toNatClampNeg ((M_17.1 1) (Int32.toNatClampNeg ((4 * x7_35) + 1))))) ((M_17.1 4) (Int32.toNatClampNeg ((M_17.1 1) (Int32.toNatClampNeg (4 * x7_35))))))), (0, .ref o), (1, .ref (a 0)), (2, .ref (a 1)), (3, .ref (a 2)), (4, .ref (a 3)), (5, .ref (a 4)), (8, .int u_15.2)]) hx hb dL_areStrings_234 hl (k := 8) rfl (by rfl) (by decide) rfl (fun ls hl => ?_)
              refine lv_goto (tgt := 35) hx hb dL_areStrings_237 (by decide) ?_
              exact ih M_31 0 (x7_35 + 1) _ _ _ ls hf hP hD hS (lv_sub hl [3, 4, 5, 6, 7, 8, 1, 0] rfl) hk
            · replace hf := (if_pos c_33).symm.trans hf
              refine lv_aload_n hx hb dL_areStrings_126 rfl (lv_at hl 1 rfl) ?_
              refine lv_iload hx hb dL_areStrings_127 (lv_at hl 7 rfl) ?_
              refine lv_iconst (v := 2) hx hb dL_areStrings_129 (by decide) ?_
              obtain ⟨u_34, h_35, hf⟩ := ob hf
              refine k_wi (runV F wdL_38 (rm := rm_X6_stringOf) (As := [.int x7_35, .int 2]) (rest := []) ⟨rfl, rfl⟩ ⟨Nat.le_of_ble_eq_true rfl, Nat.le_of_ble_eq_true rfl⟩ hl.1 rfl rfl (Nat.le_of_ble_eq_true rfl) dL_areStrings_130 ⟨Nat.zero_le _, Nat.zero_le _⟩) (c_X6_stringOf l D cI cP o h tx tn Ad M_31.2 x7_35 2 _ h_35) hX (va_recv hX.1 (va_blk (Bs := (bLM cI cP o h tx tn Ad a M_31)) hP 1 rfl) (ci := 6) (q0 := 0) rfl rfl) (Cut.one (Bs := (bLM cI cP o h tx tn Ad a M_31)) (k := 1) rfl rfl) hP hD hS hA (fun H locs hP hD hS => ?_)
              obtain ⟨M_36, e_37, hf⟩ := bnd_e hf
              have hP : va_P D vwCl (wLM cI cP o h tx tn Ad a M_36) H := by rw [e_37]; exact hP
              have hD : va_D A (wLM cI cP o h tx tn Ad a M_36) := by rw [e_37]; exact hD
              clear e_37
              refine lv_aload_n hx hb dL_areStrings_133 rfl (lv_at hl 3 rfl) ?_
              refine lv_iconst (v := 4) hx hb dL_areStrings_134 (by decide) ?_
              refine lv_iload hx hb dL_areStrings_135 (lv_at hl 7 rfl) ?_
              refine lv_imul hx hb dL_areStrings_137 ?_
              refine lv_iconst (v := 2) hx hb dL_areStrings_138 (by decide) ?_
              refine lv_iadd hx hb dL_areStrings_139 ?_
              have g_38 := og hf
              replace hf := (if_pos g_38).symm.trans hf
              refine va_iald hx hb hX.1 hP 1 0 (n := 64) (f := (M_36.1 1)) rfl rfl g_38 dL_areStrings_140 ?_
              refine lv_icmp_ne (tgt := 231) hx hb dL_areStrings_141 (by decide) (fun c_39 => ?_) (fun c_39 => ?_)
              · replace hf := (if_neg c_39).symm.trans hf
                refine lv_iconst (v := 0) hx hb dL_areStrings_231 (by decide) ?_
                refine lv_istore (lv' := [(6, .int 0), (9, .int (L_areStrings_J82 M_17 x7_35 u_15.2 ((M_17.1 4) (Int32.toNatClampNeg ((M_17.1 1) (Int32.toNatClampNeg ((4 * x7_35) + 1))))) ((M_17.1 4) (Int32.toNatClampNeg ((M_17.1 1) (Int32.toNatClampNeg (4 * x7_35))))))), (0, .ref o), (1, .ref (a 0)), (2, .ref (a 1)), (3, .ref (a 2)), (4, .ref (a 3)), (5, .ref (a 4)), (7, .int x7_35), (8, .int u_15.2)]) hx hb dL_areStrings_232 hl (by decide) rfl (fun ls hl => ?_)
                refine lv_iinc (v := (x7_35 + 1)) (lv' := [(7, .int (x7_35 + 1)), (6, .int 0), (9, .int (L_areStrings_J82 M_17 x7_35 u_15.2 ((M_17.1 4) (Int32.toNatClampNeg ((M_17.1 1) (Int32.toNatClampNeg ((4 * x7_35) + 1))))) ((M_17.1 4) (Int32.toNatClampNeg ((M_17.1 1) (Int32.toNatClampNeg (4 * x7_35))))))), (0, .ref o), (1, .ref (a 0)), (2, .ref (a 1)), (3, .ref (a 2)), (4, .ref (a 3)), (5, .ref (a 4)), (8, .int u_15.2)]) hx hb dL_areStrings_234 hl (k := 8) rfl (by rfl) (by decide) rfl (fun ls hl => ?_)
                refine lv_goto (tgt := 35) hx hb dL_areStrings_237 (by decide) ?_
                exact ih M_36 0 (x7_35 + 1) _ _ _ ls hf hP hD hS (lv_sub hl [3, 4, 5, 6, 7, 8, 1, 0] rfl) hk
              · replace hf := (if_pos c_39).symm.trans hf
                refine lv_aload_n hx hb dL_areStrings_144 rfl (lv_at hl 1 rfl) ?_
                refine lv_iload hx hb dL_areStrings_145 (lv_at hl 7 rfl) ?_
                refine lv_iconst (v := 3) hx hb dL_areStrings_147 (by decide) ?_
                obtain ⟨u_40, h_41, hf⟩ := ob hf
                refine k_wi (runV F wdL_38 (rm := rm_X6_stringOf) (As := [.int x7_35, .int 3]) (rest := []) ⟨rfl, rfl⟩ ⟨Nat.le_of_ble_eq_true rfl, Nat.le_of_ble_eq_true rfl⟩ hl.1 rfl rfl (Nat.le_of_ble_eq_true rfl) dL_areStrings_148 ⟨Nat.zero_le _, Nat.zero_le _⟩) (c_X6_stringOf l D cI cP o h tx tn Ad M_36.2 x7_35 3 _ h_41) hX (va_recv hX.1 (va_blk (Bs := (bLM cI cP o h tx tn Ad a M_36)) hP 1 rfl) (ci := 6) (q0 := 0) rfl rfl) (Cut.one (Bs := (bLM cI cP o h tx tn Ad a M_36)) (k := 1) rfl rfl) hP hD hS hA (fun H locs hP hD hS => ?_)
                obtain ⟨M_42, e_43, hf⟩ := bnd_e hf
                have hP : va_P D vwCl (wLM cI cP o h tx tn Ad a M_42) H := by rw [e_43]; exact hP
                have hD : va_D A (wLM cI cP o h tx tn Ad a M_42) := by rw [e_43]; exact hD
                clear e_43
                refine lv_aload_n hx hb dL_areStrings_151 rfl (lv_at hl 3 rfl) ?_
                refine lv_iconst (v := 4) hx hb dL_areStrings_152 (by decide) ?_
                refine lv_iload hx hb dL_areStrings_153 (lv_at hl 7 rfl) ?_
                refine lv_imul hx hb dL_areStrings_155 ?_
                refine lv_iconst (v := 3) hx hb dL_areStrings_156 (by decide) ?_
                refine lv_iadd hx hb dL_areStrings_157 ?_
                have g_44 := og hf
                replace hf := (if_pos g_44).symm.trans hf
                refine va_iald hx hb hX.1 hP 1 0 (n := 64) (f := (M_42.1 1)) rfl rfl g_44 dL_areStrings_158 ?_
                refine lv_icmp_ne (tgt := 231) hx hb dL_areStrings_159 (by decide) (fun c_45 => ?_) (fun c_45 => ?_)
                · replace hf := (if_neg c_45).symm.trans hf
                  refine lv_iconst (v := 0) hx hb dL_areStrings_231 (by decide) ?_
                  refine lv_istore (lv' := [(6, .int 0), (9, .int (L_areStrings_J82 M_17 x7_35 u_15.2 ((M_17.1 4) (Int32.toNatClampNeg ((M_17.1 1) (Int32.toNatClampNeg ((4 * x7_35) + 1))))) ((M_17.1 4) (Int32.toNatClampNeg ((M_17.1 1) (Int32.toNatClampNeg (4 * x7_35))))))), (0, .ref o), (1, .ref (a 0)), (2, .ref (a 1)), (3, .ref (a 2)), (4, .ref (a 3)), (5, .ref (a 4)), (7, .int x7_35), (8, .int u_15.2)]) hx hb dL_areStrings_232 hl (by decide) rfl (fun ls hl => ?_)
                  refine lv_iinc (v := (x7_35 + 1)) (lv' := [(7, .int (x7_35 + 1)), (6, .int 0), (9, .int (L_areStrings_J82 M_17 x7_35 u_15.2 ((M_17.1 4) (Int32.toNatClampNeg ((M_17.1 1) (Int32.toNatClampNeg ((4 * x7_35) + 1))))) ((M_17.1 4) (Int32.toNatClampNeg ((M_17.1 1) (Int32.toNatClampNeg (4 * x7_35))))))), (0, .ref o), (1, .ref (a 0)), (2, .ref (a 1)), (3, .ref (a 2)), (4, .ref (a 3)), (5, .ref (a 4)), (8, .int u_15.2)]) hx hb dL_areStrings_234 hl (k := 8) rfl (by rfl) (by decide) rfl (fun ls hl => ?_)
                  refine lv_goto (tgt := 35) hx hb dL_areStrings_237 (by decide) ?_
                  exact ih M_42 0 (x7_35 + 1) _ _ _ ls hf hP hD hS (lv_sub hl [3, 4, 5, 6, 7, 8, 1, 0] rfl) hk
                · replace hf := (if_pos c_45).symm.trans hf
                  refine lv_aload_n hx hb dL_areStrings_162 rfl (lv_at hl 1 rfl) ?_
                  refine lv_iload hx hb dL_areStrings_163 (lv_at hl 7 rfl) ?_
                  refine lv_iconst (v := 4) hx hb dL_areStrings_165 (by decide) ?_
                  obtain ⟨u_46, h_47, hf⟩ := ob hf
                  refine k_wi (runV F wdL_38 (rm := rm_X6_stringOf) (As := [.int x7_35, .int 4]) (rest := []) ⟨rfl, rfl⟩ ⟨Nat.le_of_ble_eq_true rfl, Nat.le_of_ble_eq_true rfl⟩ hl.1 rfl rfl (Nat.le_of_ble_eq_true rfl) dL_areStrings_166 ⟨Nat.zero_le _, Nat.zero_le _⟩) (c_X6_stringOf l D cI cP o h tx tn Ad M_42.2 x7_35 4 _ h_47) hX (va_recv hX.1 (va_blk (Bs := (bLM cI cP o h tx tn Ad a M_42)) hP 1 rfl) (ci := 6) (q0 := 0) rfl rfl) (Cut.one (Bs := (bLM cI cP o h tx tn Ad a M_42)) (k := 1) rfl rfl) hP hD hS hA (fun H locs hP hD hS => ?_)
                  obtain ⟨M_48, e_49, hf⟩ := bnd_e hf
                  have hP : va_P D vwCl (wLM cI cP o h tx tn Ad a M_48) H := by rw [e_49]; exact hP
                  have hD : va_D A (wLM cI cP o h tx tn Ad a M_48) := by rw [e_49]; exact hD
                  clear e_49
                  refine lv_iload hx hb dL_areStrings_169 (lv_at hl 0 rfl) ?_
                  have hJ_171 : ∀ (K_171 : SLM) (x7_171 : Int32) (x8_171 : Int32) (t0_171 : Int32) (t1_171 : Int32) (v : Int32) (H : Heap) (locs : List Loc) (ls : Array Slot), L_areStrings_J171 K_171 x7_171 x8_171 t0_171 t1_171 = v → va_P D vwCl (wLM cI cP o h tx tn Ad a K_171) H → va_D A (wLM cI cP o h tx tn Ad a K_171) → va_S A s.heap H locs → lv_has ls 10 [(0, .ref o), (1, .ref (a 0)), (2, .ref (a 1)), (3, .ref (a 2)), (4, .ref (a 3)), (5, .ref (a 4)), (7, .int x7_171), (8, .int x8_171)] → (∀ (H : Heap) (locs : List Loc) (ls : Array Slot), va_P D vwCl (wLM cI cP o h tx tn Ad a K_171) H → va_D A (wLM cI cP o h tx tn Ad a K_171) → va_S A s.heap H locs → lv_has ls 10 [(0, .ref o), (1, .ref (a 0)), (2, .ref (a 1)), (3, .ref (a 2)), (4, .ref (a 3)), (5, .ref (a 4)), (7, .int x7_171), (8, .int x8_171)] → W p l e rm_L_areStrings s m args below meth c H locs 0 0 (QWi D below args s A (wLM cI cP o h tx tn Ad a z.1) z.2) (F0 m 179 ls [.int v, .int t1_171])) → W p l e rm_L_areStrings s m args below meth c H locs 0 0 (QWi D below args s A (wLM cI cP o h tx tn Ad a z.1) z.2) (F0 m 171 ls [.int t0_171, .int t1_171]) := by
                    intro K_171 x7_171 x8_171 t0_171 t1_171 v _ _ ls hf hP hD hS hl hk
                    unfold L_areStrings_J171 at hf
                    refine lv_if_eq (tgt := 178) hx hb dL_areStrings_171 (by decide) (fun c_50 => ?_) (fun c_50 => ?_)
                    · replace hf := (if_pos c_50).symm.trans hf
                      refine lv_iconst (v := 0) hx hb dL_areStrings_178 (by decide) ?_
                      obtain rfl := hf
                      exact hk _ _ ls hP hD hS hl
                    · replace hf := (if_neg c_50).symm.trans hf
                      refine lv_iconst (v := 1) hx hb dL_areStrings_174 (by decide) ?_
                      refine lv_goto (tgt := 179) hx hb dL_areStrings_175 (by decide) ?_
                      obtain rfl := hf
                      exact hk _ _ ls hP hD hS hl
                  refine hJ_171 M_48 x7_35 u_15.2 (L_areStrings_J82 M_17 x7_35 u_15.2 ((M_17.1 4) (Int32.toNatClampNeg ((M_17.1 1) (Int32.toNatClampNeg ((4 * x7_35) + 1))))) ((M_17.1 4) (Int32.toNatClampNeg ((M_17.1 1) (Int32.toNatClampNeg (4 * x7_35)))))) u_46.2 _ _ _ ls rfl hP hD hS (lv_sub hl [1, 2, 3, 4, 5, 6, 7, 8] rfl) (fun H locs ls hP hD hS hl => ?_)
                  clear hJ_171
                  refine lv_icmp_ne (tgt := 231) hx hb dL_areStrings_179 (by decide) (fun c_51 => ?_) (fun c_51 => ?_)
                  · replace hf := (if_neg c_51).symm.trans hf
                    refine lv_iconst (v := 0) hx hb dL_areStrings_231 (by decide) ?_
                    refine lv_istore (lv' := [(6, .int 0), (0, .ref o), (1, .ref (a 0)), (2, .ref (a 1)), (3, .ref (a 2)), (4, .ref (a 3)), (5, .ref (a 4)), (7, .int x7_35), (8, .int u_15.2)]) hx hb dL_areStrings_232 hl (by decide) rfl (fun ls hl => ?_)
                    refine lv_iinc (v := (x7_35 + 1)) (lv' := [(7, .int (x7_35 + 1)), (6, .int 0), (0, .ref o), (1, .ref (a 0)), (2, .ref (a 1)), (3, .ref (a 2)), (4, .ref (a 3)), (5, .ref (a 4)), (8, .int u_15.2)]) hx hb dL_areStrings_234 hl (k := 7) rfl (by rfl) (by decide) rfl (fun ls hl => ?_)
                    refine lv_goto (tgt := 35) hx hb dL_areStrings_237 (by decide) ?_
                    exact ih M_48 0 (x7_35 + 1) _ _ _ ls hf hP hD hS (lv_sub hl [2, 3, 4, 5, 6, 7, 1, 0] rfl) hk
                  · replace hf := (if_pos c_51).symm.trans hf
                    refine lv_aload_n hx hb dL_areStrings_182 rfl (lv_at hl 0 rfl) ?_
                    refine lv_iload hx hb dL_areStrings_183 (lv_at hl 6 rfl) ?_
                    refine lv_iconst (v := 5) hx hb dL_areStrings_185 (by decide) ?_
                    obtain ⟨u_52, h_53, hf⟩ := ob hf
                    refine k_wi (runV F wdL_38 (rm := rm_X6_stringOf) (As := [.int x7_35, .int 5]) (rest := []) ⟨rfl, rfl⟩ ⟨Nat.le_of_ble_eq_true rfl, Nat.le_of_ble_eq_true rfl⟩ hl.1 rfl rfl (Nat.le_of_ble_eq_true rfl) dL_areStrings_186 ⟨Nat.zero_le _, Nat.zero_le _⟩) (c_X6_stringOf l D cI cP o h tx tn Ad M_48.2 x7_35 5 _ h_53) hX (va_recv hX.1 (va_blk (Bs := (bLM cI cP o h tx tn Ad a M_48)) hP 1 rfl) (ci := 6) (q0 := 0) rfl rfl) (Cut.one (Bs := (bLM cI cP o h tx tn Ad a M_48)) (k := 1) rfl rfl) hP hD hS hA (fun H locs hP hD hS => ?_)
                    obtain ⟨M_54, e_55, hf⟩ := bnd_e hf
                    have hP : va_P D vwCl (wLM cI cP o h tx tn Ad a M_54) H := by rw [e_55]; exact hP
                    have hD : va_D A (wLM cI cP o h tx tn Ad a M_54) := by rw [e_55]; exact hD
                    clear e_55
                    refine lv_ldc (v := (-1000001)) hx hb hown (hts _ q_316) dL_areStrings_189 ?_
                    refine lv_icmp_ne (tgt := 231) hx hb dL_areStrings_191 (by decide) (fun c_56 => ?_) (fun c_56 => ?_)
                    · replace hf := (if_neg c_56).symm.trans hf
                      refine lv_iconst (v := 0) hx hb dL_areStrings_231 (by decide) ?_
                      refine lv_istore (lv' := [(6, .int 0), (0, .ref o), (1, .ref (a 0)), (2, .ref (a 1)), (3, .ref (a 2)), (4, .ref (a 3)), (5, .ref (a 4)), (7, .int x7_35), (8, .int u_15.2)]) hx hb dL_areStrings_232 hl (by decide) rfl (fun ls hl => ?_)
                      refine lv_iinc (v := (x7_35 + 1)) (lv' := [(7, .int (x7_35 + 1)), (6, .int 0), (0, .ref o), (1, .ref (a 0)), (2, .ref (a 1)), (3, .ref (a 2)), (4, .ref (a 3)), (5, .ref (a 4)), (8, .int u_15.2)]) hx hb dL_areStrings_234 hl (k := 7) rfl (by rfl) (by decide) rfl (fun ls hl => ?_)
                      refine lv_goto (tgt := 35) hx hb dL_areStrings_237 (by decide) ?_
                      exact ih M_54 0 (x7_35 + 1) _ _ _ ls hf hP hD hS (lv_sub hl [2, 3, 4, 5, 6, 7, 1, 0] rfl) hk
                    · replace hf := (if_pos c_56).symm.trans hf
                      refine lv_aload_n hx hb dL_areStrings_194 rfl (lv_at hl 0 rfl) ?_
                      refine lv_iload hx hb dL_areStrings_195 (lv_at hl 6 rfl) ?_
                      refine lv_iconst (v := 1) hx hb dL_areStrings_197 (by decide) ?_
                      obtain ⟨u_57, h_58, hf⟩ := ob hf
                      refine k_wi (runV F wdL_41 (rm := rm_X6_ifCut) (As := [.int x7_35, .int 1]) (rest := []) ⟨rfl, rfl⟩ ⟨Nat.le_of_ble_eq_true rfl, Nat.le_of_ble_eq_true rfl⟩ hl.1 rfl rfl (Nat.le_of_ble_eq_true rfl) dL_areStrings_198 ⟨Nat.zero_le _, Nat.zero_le _⟩) (c_X6_ifCut l D cI cP o h tx tn Ad M_54.2 x7_35 1 _ h_58) hX (va_recv hX.1 (va_blk (Bs := (bLM cI cP o h tx tn Ad a M_54)) hP 1 rfl) (ci := 6) (q0 := 0) rfl rfl) (Cut.one (Bs := (bLM cI cP o h tx tn Ad a M_54)) (k := 1) rfl rfl) hP hD hS hA (fun H locs hP hD hS => ?_)
                      obtain ⟨M_59, e_60, hf⟩ := bnd_e hf
                      have hP : va_P D vwCl (wLM cI cP o h tx tn Ad a M_59) H := by rw [e_60]; exact hP
                      have hD : va_D A (wLM cI cP o h tx tn Ad a M_59) := by rw [e_60]; exact hD
                      clear e_60
                      refine lv_iload hx hb dL_areStrings_201 (lv_at hl 7 rfl) ?_
                      refine lv_icmp_ne (tgt := 231) hx hb dL_areStrings_203 (by decide) (fun c_61 => ?_) (fun c_61 => ?_)
                      · replace hf := (if_neg c_61).symm.trans hf
                        refine lv_iconst (v := 0) hx hb dL_areStrings_231 (by decide) ?_
                        refine lv_istore (lv' := [(6, .int 0), (0, .ref o), (1, .ref (a 0)), (2, .ref (a 1)), (3, .ref (a 2)), (4, .ref (a 3)), (5, .ref (a 4)), (7, .int x7_35), (8, .int u_15.2)]) hx hb dL_areStrings_232 hl (by decide) rfl (fun ls hl => ?_)
                        refine lv_iinc (v := (x7_35 + 1)) (lv' := [(7, .int (x7_35 + 1)), (6, .int 0), (0, .ref o), (1, .ref (a 0)), (2, .ref (a 1)), (3, .ref (a 2)), (4, .ref (a 3)), (5, .ref (a 4)), (8, .int u_15.2)]) hx hb dL_areStrings_234 hl (k := 7) rfl (by rfl) (by decide) rfl (fun ls hl => ?_)
                        refine lv_goto (tgt := 35) hx hb dL_areStrings_237 (by decide) ?_
                        exact ih M_59 0 (x7_35 + 1) _ _ _ ls hf hP hD hS (lv_sub hl [2, 3, 4, 5, 6, 7, 1, 0] rfl) hk
                      · replace hf := (if_pos c_61).symm.trans hf
                        refine lv_aload_n hx hb dL_areStrings_206 rfl (lv_at hl 0 rfl) ?_
                        refine lv_iload hx hb dL_areStrings_207 (lv_at hl 6 rfl) ?_
                        refine lv_iconst (v := 0) hx hb dL_areStrings_209 (by decide) ?_
                        obtain ⟨u_62, h_63, hf⟩ := ob hf
                        refine k_wi (runV F wdL_41 (rm := rm_X6_ifCut) (As := [.int x7_35, .int 0]) (rest := []) ⟨rfl, rfl⟩ ⟨Nat.le_of_ble_eq_true rfl, Nat.le_of_ble_eq_true rfl⟩ hl.1 rfl rfl (Nat.le_of_ble_eq_true rfl) dL_areStrings_210 ⟨Nat.zero_le _, Nat.zero_le _⟩) (c_X6_ifCut l D cI cP o h tx tn Ad M_59.2 x7_35 0 _ h_63) hX (va_recv hX.1 (va_blk (Bs := (bLM cI cP o h tx tn Ad a M_59)) hP 1 rfl) (ci := 6) (q0 := 0) rfl rfl) (Cut.one (Bs := (bLM cI cP o h tx tn Ad a M_59)) (k := 1) rfl rfl) hP hD hS hA (fun H locs hP hD hS => ?_)
                        obtain ⟨M_64, e_65, hf⟩ := bnd_e hf
                        have hP : va_P D vwCl (wLM cI cP o h tx tn Ad a M_64) H := by rw [e_65]; exact hP
                        have hD : va_D A (wLM cI cP o h tx tn Ad a M_64) := by rw [e_65]; exact hD
                        clear e_65
                        refine lv_aload_n hx hb dL_areStrings_213 rfl (lv_at hl 1 rfl) ?_
                        refine lv_aload_n hx hb dL_areStrings_214 rfl (lv_at hl 2 rfl) ?_
                        refine lv_aload hx hb dL_areStrings_215 (lv_at hl 4 rfl) ?_
                        refine lv_aload hx hb dL_areStrings_217 (lv_at hl 5 rfl) ?_
                        refine lv_iload hx hb dL_areStrings_219 (lv_at hl 6 rfl) ?_
                        obtain ⟨u_66, h_67, hf⟩ := ob hf
                        refine k_wi (runS F wdL_19 (rm := rm_L_yes) (As := [.ref (a 0), .ref (a 1), .ref (a 3), .ref (a 4), .int x7_35]) (rest := [.int u_62.2]) ⟨rfl, rfl⟩ ⟨Nat.le_of_ble_eq_true rfl, Nat.le_of_ble_eq_true rfl⟩ hl.1 rfl rfl (Nat.le_of_ble_eq_true rfl) dL_areStrings_221 ⟨Nat.zero_le _, Nat.zero_le _⟩) (c_L_yes l D cI cP a M_64.1 x7_35 _ h_67) hX trivial (Cut.one (Bs := (bLM cI cP o h tx tn Ad a M_64)) (k := 0) rfl rfl) hP hD hS hA (fun H locs hP hD hS => ?_)
                        obtain ⟨M_68, e_69, hf⟩ := bnd_e hf
                        have hP : va_P D vwCl (wLM cI cP o h tx tn Ad a M_68) H := by rw [e_69]; exact hP
                        have hD : va_D A (wLM cI cP o h tx tn Ad a M_68) := by rw [e_69]; exact hD
                        clear e_69
                        refine lv_icmp_ne (tgt := 231) hx hb dL_areStrings_224 (by decide) (fun c_70 => ?_) (fun c_70 => ?_)
                        · replace hf := (if_neg c_70).symm.trans hf
                          refine lv_iconst (v := 0) hx hb dL_areStrings_231 (by decide) ?_
                          refine lv_istore (lv' := [(6, .int 0), (0, .ref o), (1, .ref (a 0)), (2, .ref (a 1)), (3, .ref (a 2)), (4, .ref (a 3)), (5, .ref (a 4)), (7, .int x7_35), (8, .int u_15.2)]) hx hb dL_areStrings_232 hl (by decide) rfl (fun ls hl => ?_)
                          refine lv_iinc (v := (x7_35 + 1)) (lv' := [(7, .int (x7_35 + 1)), (6, .int 0), (0, .ref o), (1, .ref (a 0)), (2, .ref (a 1)), (3, .ref (a 2)), (4, .ref (a 3)), (5, .ref (a 4)), (8, .int u_15.2)]) hx hb dL_areStrings_234 hl (k := 7) rfl (by rfl) (by decide) rfl (fun ls hl => ?_)
                          refine lv_goto (tgt := 35) hx hb dL_areStrings_237 (by decide) ?_
                          exact ih M_68 0 (x7_35 + 1) _ _ _ ls hf hP hD hS (lv_sub hl [2, 3, 4, 5, 6, 7, 1, 0] rfl) hk
                        · replace hf := (if_pos c_70).symm.trans hf
                          refine lv_iconst (v := 1) hx hb dL_areStrings_227 (by decide) ?_
                          refine lv_goto (tgt := 232) hx hb dL_areStrings_228 (by decide) ?_
                          refine lv_istore (lv' := [(6, .int 1), (0, .ref o), (1, .ref (a 0)), (2, .ref (a 1)), (3, .ref (a 2)), (4, .ref (a 3)), (5, .ref (a 4)), (7, .int x7_35), (8, .int u_15.2)]) hx hb dL_areStrings_232 hl (by decide) rfl (fun ls hl => ?_)
                          refine lv_iinc (v := (x7_35 + 1)) (lv' := [(7, .int (x7_35 + 1)), (6, .int 1), (0, .ref o), (1, .ref (a 0)), (2, .ref (a 1)), (3, .ref (a 2)), (4, .ref (a 3)), (5, .ref (a 4)), (8, .int u_15.2)]) hx hb dL_areStrings_234 hl (k := 7) rfl (by rfl) (by decide) rfl (fun ls hl => ?_)
                          refine lv_goto (tgt := 35) hx hb dL_areStrings_237 (by decide) ?_
                          exact ih M_68 1 (x7_35 + 1) _ _ _ ls hf hP hD hS (lv_sub hl [2, 3, 4, 5, 6, 7, 1, 0] rfl) hk
  obtain ⟨u_71, h_72, hf⟩ := ob hf
  refine hL_35 FUEL u_11.1 u_11.2 0 u_71 _ _ ls h_72 hP hD hS (lv_sub hl [2, 3, 4, 5, 6, 7, 1, 0] rfl) (fun H locs ls hP hD hS hl => ?_)
  clear hL_35
  refine lv_iconst (v := 0) hx hb dL_areStrings_240 (by decide) ?_
  refine lv_istore (lv' := [(7, .int 0), (0, .ref o), (3, .ref (a 2)), (4, .ref (a 3)), (6, .int u_71.2)]) hx hb dL_areStrings_241 hl (by decide) rfl (fun ls hl => ?_)
  have hL_243 : ∀ (fu : Nat) (K_243 : SLM) (x6_243 : Int32) (x7_243 : Int32) (v : Int32) (H : Heap) (locs : List Loc) (ls : Array Slot), L_areStrings_L243 fu K_243 x6_243 x7_243 = some v → va_P D vwCl (wLM cI cP o h tx tn Ad a K_243) H → va_D A (wLM cI cP o h tx tn Ad a K_243) → va_S A s.heap H locs → lv_has ls 10 [(0, .ref o), (3, .ref (a 2)), (4, .ref (a 3)), (6, .int x6_243), (7, .int x7_243)] → (∀ (H : Heap) (locs : List Loc) (ls : Array Slot), va_P D vwCl (wLM cI cP o h tx tn Ad a K_243) H → va_D A (wLM cI cP o h tx tn Ad a K_243) → va_S A s.heap H locs → lv_has ls 10 [(6, .int v)] → W p l e rm_L_areStrings s m args below meth c H locs 0 0 (QWi D below args s A (wLM cI cP o h tx tn Ad a z.1) z.2) (F0 m 303 ls [])) → W p l e rm_L_areStrings s m args below meth c H locs 0 0 (QWi D below args s A (wLM cI cP o h tx tn Ad a z.1) z.2) (F0 m 243 ls []) := by
    intro fu
    induction fu with
    | zero =>
      intro K_243 x6_243 x7_243 v H locs ls hf
      exact absurd hf (by simp [L_areStrings_L243])
    | succ fu ih =>
      intro K_243 x6_243 x7_243 v _ _ ls hf hP hD hS hl hk
      rw [L_areStrings_L243] at hf
      refine lv_iload hx hb dL_areStrings_243 (lv_at hl 4 rfl) ?_
      refine lv_bipush (v := 32) hx hb dL_areStrings_245 (by decide) ?_
      refine lv_icmp_ge (tgt := 303) hx hb dL_areStrings_247 (by decide) (fun c_73 => ?_) (fun c_73 => ?_)
      · replace hf := (if_pos c_73).symm.trans hf
        obtain rfl := Option.some.inj hf
        exact hk _ _ ls hP hD hS (lv_sub hl [3] rfl)
      · replace hf := (if_neg c_73).symm.trans hf
        refine lv_iload hx hb dL_areStrings_250 (lv_at hl 3 rfl) ?_
        refine lv_if_eq (tgt := 294) hx hb dL_areStrings_252 (by decide) (fun c_74 => ?_) (fun c_74 => ?_)
        · replace hf := (if_pos c_74).symm.trans hf
          refine lv_iconst (v := 0) hx hb dL_areStrings_294 (by decide) ?_
          refine lv_istore (lv' := [(6, .int 0), (0, .ref o), (3, .ref (a 2)), (4, .ref (a 3)), (7, .int x7_243)]) hx hb dL_areStrings_295 hl (by decide) rfl (fun ls hl => ?_)
          refine lv_iinc (v := (x7_243 + 1)) (lv' := [(7, .int (x7_243 + 1)), (6, .int 0), (0, .ref o), (3, .ref (a 2)), (4, .ref (a 3))]) hx hb dL_areStrings_297 hl (k := 4) rfl (by rfl) (by decide) rfl (fun ls hl => ?_)
          refine lv_goto (tgt := 243) hx hb dL_areStrings_300 (by decide) ?_
          exact ih K_243 0 (x7_243 + 1) _ _ _ ls hf hP hD hS (lv_sub hl [2, 3, 4, 1, 0] rfl) hk
        · replace hf := (if_neg c_74).symm.trans hf
          refine lv_aload_n hx hb dL_areStrings_255 rfl (lv_at hl 0 rfl) ?_
          refine lv_iload hx hb dL_areStrings_256 (lv_at hl 4 rfl) ?_
          refine lv_iconst (v := 4) hx hb dL_areStrings_258 (by decide) ?_
          refine lv_idiv hx hb dL_areStrings_259 (by decide) ?_
          refine lv_iload hx hb dL_areStrings_260 (lv_at hl 4 rfl) ?_
          refine lv_iconst (v := 4) hx hb dL_areStrings_262 (by decide) ?_
          refine lv_irem hx hb dL_areStrings_263 (by decide) ?_
          refine k_rd (runV F wdL_44 (rm := rm_X6_book) (As := [.int (x7_243 / 4), .int (x7_243 - x7_243 / 4 * 4)]) (rest := []) ⟨rfl, rfl⟩ ⟨Nat.le_of_ble_eq_true rfl, Nat.le_of_ble_eq_true rfl⟩ hl.1 rfl rfl (Nat.le_of_ble_eq_true rfl) dL_areStrings_264 ⟨Nat.zero_le _, Nat.zero_le _⟩) (c_X6_book l D cI cP o h tx tn Ad K_243.2 (x7_243 / 4) (x7_243 - x7_243 / 4 * 4) _ rfl) hX (va_recv hX.1 (va_blk (Bs := (bLM cI cP o h tx tn Ad a K_243)) hP 1 rfl) (ci := 6) (q0 := 0) rfl rfl) (va_blk (Bs := (bLM cI cP o h tx tn Ad a K_243)) hP 1 rfl) hP hS hA (fun H locs hP hS => ?_)
          refine lv_iload hx hb dL_areStrings_267 (lv_at hl 4 rfl) ?_
          refine lv_iconst (v := 4) hx hb dL_areStrings_269 (by decide) ?_
          refine lv_idiv hx hb dL_areStrings_270 (by decide) ?_
          refine lv_aload hx hb dL_areStrings_271 (lv_at hl 2 rfl) ?_
          refine lv_iconst (v := 5) hx hb dL_areStrings_273 (by decide) ?_
          refine va_iald hx hb hX.1 hP 3 0 (n := 8) (f := (K_243.1 3)) rfl rfl (by decide : ¬ ((5 : Int32) < 0 ∨ 8 ≤ Int32.toNatClampNeg 5)) dL_areStrings_274 ?_
          refine lv_icmp_ge (tgt := 285) hx hb dL_areStrings_275 (by decide) (fun c_75 => ?_) (fun c_75 => ?_)
          · replace hf := (if_pos c_75).symm.trans hf
            refine lv_ldc (v := (-1000004)) hx hb hown (hts _ q_317) dL_areStrings_285 ?_
            refine lv_icmp_ne (tgt := 294) hx hb dL_areStrings_287 (by decide) (fun c_76 => ?_) (fun c_76 => ?_)
            · replace hf := (if_neg c_76).symm.trans hf
              refine lv_iconst (v := 0) hx hb dL_areStrings_294 (by decide) ?_
              refine lv_istore (lv' := [(6, .int 0), (0, .ref o), (3, .ref (a 2)), (4, .ref (a 3)), (7, .int x7_243)]) hx hb dL_areStrings_295 hl (by decide) rfl (fun ls hl => ?_)
              refine lv_iinc (v := (x7_243 + 1)) (lv' := [(7, .int (x7_243 + 1)), (6, .int 0), (0, .ref o), (3, .ref (a 2)), (4, .ref (a 3))]) hx hb dL_areStrings_297 hl (k := 4) rfl (by rfl) (by decide) rfl (fun ls hl => ?_)
              refine lv_goto (tgt := 243) hx hb dL_areStrings_300 (by decide) ?_
              exact ih K_243 0 (x7_243 + 1) _ _ _ ls hf hP hD hS (lv_sub hl [2, 3, 4, 1, 0] rfl) hk
            · replace hf := (if_pos c_76).symm.trans hf
              refine lv_iconst (v := 1) hx hb dL_areStrings_290 (by decide) ?_
              refine lv_goto (tgt := 295) hx hb dL_areStrings_291 (by decide) ?_
              refine lv_istore (lv' := [(6, .int 1), (0, .ref o), (3, .ref (a 2)), (4, .ref (a 3)), (7, .int x7_243)]) hx hb dL_areStrings_295 hl (by decide) rfl (fun ls hl => ?_)
              refine lv_iinc (v := (x7_243 + 1)) (lv' := [(7, .int (x7_243 + 1)), (6, .int 1), (0, .ref o), (3, .ref (a 2)), (4, .ref (a 3))]) hx hb dL_areStrings_297 hl (k := 4) rfl (by rfl) (by decide) rfl (fun ls hl => ?_)
              refine lv_goto (tgt := 243) hx hb dL_areStrings_300 (by decide) ?_
              exact ih K_243 1 (x7_243 + 1) _ _ _ ls hf hP hD hS (lv_sub hl [2, 3, 4, 1, 0] rfl) hk
          · replace hf := (if_neg c_75).symm.trans hf
            refine lv_aload_n hx hb dL_areStrings_278 rfl (lv_at hl 1 rfl) ?_
            refine lv_iload hx hb dL_areStrings_279 (lv_at hl 4 rfl) ?_
            have g_77 := og hf
            replace hf := (if_pos g_77).symm.trans hf
            refine va_iald hx hb hX.1 hP 2 0 (n := 32) (f := (K_243.1 2)) rfl rfl g_77 dL_areStrings_281 ?_
            refine lv_goto (tgt := 287) hx hb dL_areStrings_282 (by decide) ?_
            refine lv_icmp_ne (tgt := 294) hx hb dL_areStrings_287 (by decide) (fun c_78 => ?_) (fun c_78 => ?_)
            · replace hf := (if_neg c_78).symm.trans hf
              refine lv_iconst (v := 0) hx hb dL_areStrings_294 (by decide) ?_
              refine lv_istore (lv' := [(6, .int 0), (0, .ref o), (3, .ref (a 2)), (4, .ref (a 3)), (7, .int x7_243)]) hx hb dL_areStrings_295 hl (by decide) rfl (fun ls hl => ?_)
              refine lv_iinc (v := (x7_243 + 1)) (lv' := [(7, .int (x7_243 + 1)), (6, .int 0), (0, .ref o), (3, .ref (a 2)), (4, .ref (a 3))]) hx hb dL_areStrings_297 hl (k := 4) rfl (by rfl) (by decide) rfl (fun ls hl => ?_)
              refine lv_goto (tgt := 243) hx hb dL_areStrings_300 (by decide) ?_
              exact ih K_243 0 (x7_243 + 1) _ _ _ ls hf hP hD hS (lv_sub hl [2, 3, 4, 1, 0] rfl) hk
            · replace hf := (if_pos c_78).symm.trans hf
              refine lv_iconst (v := 1) hx hb dL_areStrings_290 (by decide) ?_
              refine lv_goto (tgt := 295) hx hb dL_areStrings_291 (by decide) ?_
              refine lv_istore (lv' := [(6, .int 1), (0, .ref o), (3, .ref (a 2)), (4, .ref (a 3)), (7, .int x7_243)]) hx hb dL_areStrings_295 hl (by decide) rfl (fun ls hl => ?_)
              refine lv_iinc (v := (x7_243 + 1)) (lv' := [(7, .int (x7_243 + 1)), (6, .int 1), (0, .ref o), (3, .ref (a 2)), (4, .ref (a 3))]) hx hb dL_areStrings_297 hl (k := 4) rfl (by rfl) (by decide) rfl (fun ls hl => ?_)
              refine lv_goto (tgt := 243) hx hb dL_areStrings_300 (by decide) ?_
              exact ih K_243 1 (x7_243 + 1) _ _ _ ls hf hP hD hS (lv_sub hl [2, 3, 4, 1, 0] rfl) hk
  obtain ⟨u_79, h_80, hf⟩ := ob hf
  refine hL_243 FUEL u_71.1 u_71.2 0 u_79 _ _ ls h_80 hP hD hS (lv_sub hl [1, 2, 3, 4, 0] rfl) (fun H locs ls hP hD hS hl => ?_)
  clear hL_243
  refine lv_iload hx hb dL_areStrings_303 (lv_at hl 0 rfl) ?_
  have g_81 := og hf
  replace hf := (if_pos g_81).symm.trans hf
  obtain rfl := (Option.some.inj hf)
  exact wr_z F g_81 rfl hP hS dL_areStrings_305
def L_areWhys_J9 (K_9 : SLM) (x5_9 : Int32) (t0_9 : Int32) (t1_9 : Int32) : Option (Int32) := (if t1_9 = t0_9 then ((X6_whyPull K_9.2 ((K_9.1 3) (Int32.toNatClampNeg 0)) 0).bind fun u_4 => (if u_4 = (-1000001) then some 1 else some 0)) else some 0)
def L_areWhys_J106 (K_106 : SLM) (x5_106 : Int32) (x7_106 : Int32) (x8_106 : Int32) (t0_106 : Int32) (t1_106 : Int32) (t2_106 : Int32) : Int32 := (if t0_106 = 0 then 1 else 0)
def L_areWhys_L35 : Nat → SLM → Int32 → Int32 → Int32 → Option (SLM × Int32)
  | 0, _, _, _, _ => none
  | fu + 1, K_35, x5_35, x6_35, x7_35 => (if ((K_35.1 3) (Int32.toNatClampNeg 0)) ≤ x7_35 then some (K_35, x6_35) else (if x6_35 = 0 then some (K_35, x6_35) else (if ¬ ((K_35.1 3) (Int32.toNatClampNeg 0)) = 0 then ((X6_whyPull K_35.2 x7_35 (x5_35 - x5_35 / 2 * 2)).bind fun u_12 => ((L_whyPull K_35.1 x7_35 (x5_35 - x5_35 / 2 * 2)).bind fun u_14 => (bnd (u_14.1, K_35.2) fun M_16 => (if u_12 = u_14.2 then (if (((x7_35 + 1) + (x5_35 - x5_35 / 5 * 5)) - ((x7_35 + 1) + (x5_35 - x5_35 / 5 * 5)) / ((K_35.1 3) (Int32.toNatClampNeg 0)) * ((K_35.1 3) (Int32.toNatClampNeg 0))) = x7_35 then L_areWhys_L35 fu M_16 x5_35 1 (x7_35 + 1) else ((X6_whyTie M_16.2 x7_35 (((x7_35 + 1) + (x5_35 - x5_35 / 5 * 5)) - ((x7_35 + 1) + (x5_35 - x5_35 / 5 * 5)) / ((K_35.1 3) (Int32.toNatClampNeg 0)) * ((K_35.1 3) (Int32.toNatClampNeg 0))) (L_areWhys_J106 M_16 x5_35 x7_35 (((x7_35 + 1) + (x5_35 - x5_35 / 5 * 5)) - ((x7_35 + 1) + (x5_35 - x5_35 / 5 * 5)) / ((K_35.1 3) (Int32.toNatClampNeg 0)) * ((K_35.1 3) (Int32.toNatClampNeg 0))) (x5_35 - x5_35 / 3 * 3) (((x7_35 + 1) + (x5_35 - x5_35 / 5 * 5)) - ((x7_35 + 1) + (x5_35 - x5_35 / 5 * 5)) / ((K_35.1 3) (Int32.toNatClampNeg 0)) * ((K_35.1 3) (Int32.toNatClampNeg 0))) x7_35)).bind fun u_21 => (if (x5_35 - x5_35 / 3 * 3) = 0 then ((L_whyTie M_16.1 x7_35 (((x7_35 + 1) + (x5_35 - x5_35 / 5 * 5)) - ((x7_35 + 1) + (x5_35 - x5_35 / 5 * 5)) / ((K_35.1 3) (Int32.toNatClampNeg 0)) * ((K_35.1 3) (Int32.toNatClampNeg 0))) 1).bind fun u_29 => (bnd (u_29.1, M_16.2) fun M_31 => (if u_21 = u_29.2 then L_areWhys_L35 fu M_31 x5_35 1 (x7_35 + 1) else L_areWhys_L35 fu M_31 x5_35 0 (x7_35 + 1)))) else ((L_whyTie M_16.1 x7_35 (((x7_35 + 1) + (x5_35 - x5_35 / 5 * 5)) - ((x7_35 + 1) + (x5_35 - x5_35 / 5 * 5)) / ((K_35.1 3) (Int32.toNatClampNeg 0)) * ((K_35.1 3) (Int32.toNatClampNeg 0))) 0).bind fun u_24 => (bnd (u_24.1, M_16.2) fun M_26 => (if u_21 = u_24.2 then L_areWhys_L35 fu M_26 x5_35 1 (x7_35 + 1) else L_areWhys_L35 fu M_26 x5_35 0 (x7_35 + 1))))))) else L_areWhys_L35 fu M_16 x5_35 0 (x7_35 + 1))))) else none)))
def L_areWhys (K : SLM) (x5 : Int32) : Option (SLM × Int32) := ((X6_whyTie K.2 0 0 1).bind fun u_1 => ((L_areWhys_J9 K x5 (-1000001) u_1).bind fun u_7 => ((L_areWhys_L35 FUEL K x5 u_7 0).bind fun u_34 => (if (u_34.2 = 0 ∨ u_34.2 = 1) then some (u_34.1, u_34.2) else none))))
abbrev rm_L_areWhys : Room := { frames := 4, cells := 0, slots := 0, locals := 95 }
set_option maxHeartbeats 4000000 in
set_option maxRecDepth 100000 in
theorem c_L_areWhys (l : Launch) (D : va_G) (cI cP : ClassId) (o h : Nat) (tx tn : Nat → Nat) (Ad : Nat → Nat → Nat) (a : Nat → Nat) (K : SLM) (x5 : Int32) (z : SLM × Int32) (hf : L_areWhys K x5 = some z) : MWi l yL_areWhys cL_areWhys 9 (some .boolean) rm_L_areWhys D cI cP [.ref o, .ref (a 0), .ref (a 1), .ref (a 3), .ref (a 4), .int x5] (wLM cI cP o h tx tn Ad a K) (wLM cI cP o h tx tn Ad a z.1) z.2 := by
  refine MWi.of (by decide +kernel) (Nat.le_of_ble_eq_true rfl) ?_
  intro p e s m args below meth c ls A F hX hP hD hA hS hl
  have F : Fx p s m args meth c RL cL_areWhys 9 (some .boolean) := F
  have hx := F.1
  have hb := F.2.1
  have hown := F.2.2.2.1
  have hts := F.2.2.2.2.1
  have hl : lv_has ls 9 [(0, .ref o), (1, .ref (a 0)), (2, .ref (a 1)), (3, .ref (a 3)), (4, .ref (a 4)), (5, .int x5)] := hl
  unfold L_areWhys at hf
  refine lv_aload_n hx hb dL_areWhys_0 rfl (lv_at hl 0 rfl) ?_
  refine lv_iconst (v := 0) hx hb dL_areWhys_1 (by decide) ?_
  refine lv_iconst (v := 0) hx hb dL_areWhys_2 (by decide) ?_
  refine lv_iconst (v := 1) hx hb dL_areWhys_3 (by decide) ?_
  obtain ⟨u_1, h_2, hf⟩ := ob hf
  refine k_rd (runV F wdL_47 (rm := rm_X6_whyTie) (As := [.int 0, .int 0, .int 1]) (rest := []) ⟨rfl, rfl⟩ ⟨Nat.le_of_ble_eq_true rfl, Nat.le_of_ble_eq_true rfl⟩ hl.1 rfl rfl (Nat.le_of_ble_eq_true rfl) dL_areWhys_4 ⟨Nat.zero_le _, Nat.zero_le _⟩) (c_X6_whyTie l D cI cP o h tx tn Ad K.2 0 0 1 _ h_2) hX (va_recv hX.1 (va_blk (Bs := (bLM cI cP o h tx tn Ad a K)) hP 1 rfl) (ci := 6) (q0 := 0) rfl rfl) (va_blk (Bs := (bLM cI cP o h tx tn Ad a K)) hP 1 rfl) hP hS hA (fun H locs hP hS => ?_)
  refine lv_ldc (v := (-1000001)) hx hb hown (hts _ q_316) dL_areWhys_7 ?_
  have hJ_9 : ∀ (K_9 : SLM) (x5_9 : Int32) (t0_9 : Int32) (t1_9 : Int32) (v : Int32) (H : Heap) (locs : List Loc) (ls : Array Slot), L_areWhys_J9 K_9 x5_9 t0_9 t1_9 = some v → va_P D vwCl (wLM cI cP o h tx tn Ad a K_9) H → va_D A (wLM cI cP o h tx tn Ad a K_9) → va_S A s.heap H locs → lv_has ls 9 [(0, .ref o), (1, .ref (a 0)), (2, .ref (a 1)), (3, .ref (a 3)), (4, .ref (a 4)), (5, .int x5_9)] → (∀ (H : Heap) (locs : List Loc) (ls : Array Slot), va_P D vwCl (wLM cI cP o h tx tn Ad a K_9) H → va_D A (wLM cI cP o h tx tn Ad a K_9) → va_S A s.heap H locs → lv_has ls 9 [(0, .ref o), (1, .ref (a 0)), (2, .ref (a 1)), (3, .ref (a 3)), (4, .ref (a 4)), (5, .int x5_9)] → W p l e rm_L_areWhys s m args below meth c H locs 0 0 (QWi D below args s A (wLM cI cP o h tx tn Ad a z.1) z.2) (F0 m 30 ls [.int v])) → W p l e rm_L_areWhys s m args below meth c H locs 0 0 (QWi D below args s A (wLM cI cP o h tx tn Ad a z.1) z.2) (F0 m 9 ls [.int t0_9, .int t1_9]) := by
    intro K_9 x5_9 t0_9 t1_9 v _ _ ls hf hP hD hS hl hk
    unfold L_areWhys_J9 at hf
    refine lv_icmp_ne (tgt := 29) hx hb dL_areWhys_9 (by decide) (fun c_3 => ?_) (fun c_3 => ?_)
    · replace hf := (if_neg c_3).symm.trans hf
      refine lv_iconst (v := 0) hx hb dL_areWhys_29 (by decide) ?_
      obtain rfl := Option.some.inj hf
      exact hk _ _ ls hP hD hS hl
    · replace hf := (if_pos c_3).symm.trans hf
      refine lv_aload_n hx hb dL_areWhys_12 rfl (lv_at hl 0 rfl) ?_
      refine lv_aload_n hx hb dL_areWhys_13 rfl (lv_at hl 3 rfl) ?_
      refine lv_iconst (v := 0) hx hb dL_areWhys_14 (by decide) ?_
      refine va_iald hx hb hX.1 hP 3 0 (n := 8) (f := (K_9.1 3)) rfl rfl (by decide : ¬ ((0 : Int32) < 0 ∨ 8 ≤ Int32.toNatClampNeg 0)) dL_areWhys_15 ?_
      refine lv_iconst (v := 0) hx hb dL_areWhys_16 (by decide) ?_
      obtain ⟨u_4, h_5, hf⟩ := ob hf
      refine k_rd (runV F wdL_51 (rm := rm_X6_whyPull) (As := [.int ((K_9.1 3) (Int32.toNatClampNeg 0)), .int 0]) (rest := []) ⟨rfl, rfl⟩ ⟨Nat.le_of_ble_eq_true rfl, Nat.le_of_ble_eq_true rfl⟩ hl.1 rfl rfl (Nat.le_of_ble_eq_true rfl) dL_areWhys_17 ⟨Nat.zero_le _, Nat.zero_le _⟩) (c_X6_whyPull l D cI cP o h tx tn Ad K_9.2 ((K_9.1 3) (Int32.toNatClampNeg 0)) 0 _ h_5) hX (va_recv hX.1 (va_blk (Bs := (bLM cI cP o h tx tn Ad a K_9)) hP 1 rfl) (ci := 6) (q0 := 0) rfl rfl) (va_blk (Bs := (bLM cI cP o h tx tn Ad a K_9)) hP 1 rfl) hP hS hA (fun H locs hP hS => ?_)
      refine lv_ldc (v := (-1000001)) hx hb hown (hts _ q_316) dL_areWhys_20 ?_
      refine lv_icmp_ne (tgt := 29) hx hb dL_areWhys_22 (by decide) (fun c_6 => ?_) (fun c_6 => ?_)
      · replace hf := (if_neg c_6).symm.trans hf
        refine lv_iconst (v := 0) hx hb dL_areWhys_29 (by decide) ?_
        obtain rfl := Option.some.inj hf
        exact hk _ _ ls hP hD hS hl
      · replace hf := (if_pos c_6).symm.trans hf
        refine lv_iconst (v := 1) hx hb dL_areWhys_25 (by decide) ?_
        refine lv_goto (tgt := 30) hx hb dL_areWhys_26 (by decide) ?_
        obtain rfl := Option.some.inj hf
        exact hk _ _ ls hP hD hS hl
  obtain ⟨u_7, h_8, hf⟩ := ob hf
  refine hJ_9 K x5 (-1000001) u_1 u_7 _ _ ls h_8 hP hD hS hl (fun H locs ls hP hD hS hl => ?_)
  clear hJ_9
  refine lv_istore (lv' := [(6, .int u_7), (0, .ref o), (1, .ref (a 0)), (2, .ref (a 1)), (3, .ref (a 3)), (4, .ref (a 4)), (5, .int x5)]) hx hb dL_areWhys_30 hl (by decide) rfl (fun ls hl => ?_)
  refine lv_iconst (v := 0) hx hb dL_areWhys_32 (by decide) ?_
  refine lv_istore (lv' := [(7, .int 0), (6, .int u_7), (0, .ref o), (1, .ref (a 0)), (2, .ref (a 1)), (3, .ref (a 3)), (4, .ref (a 4)), (5, .int x5)]) hx hb dL_areWhys_33 hl (by decide) rfl (fun ls hl => ?_)
  have hL_35 : ∀ (fu : Nat) (K_35 : SLM) (x5_35 : Int32) (x6_35 : Int32) (x7_35 : Int32) (v : SLM × Int32) (H : Heap) (locs : List Loc) (ls : Array Slot), L_areWhys_L35 fu K_35 x5_35 x6_35 x7_35 = some v → va_P D vwCl (wLM cI cP o h tx tn Ad a K_35) H → va_D A (wLM cI cP o h tx tn Ad a K_35) → va_S A s.heap H locs → lv_has ls 9 [(0, .ref o), (1, .ref (a 0)), (2, .ref (a 1)), (3, .ref (a 3)), (4, .ref (a 4)), (5, .int x5_35), (6, .int x6_35), (7, .int x7_35)] → (∀ (H : Heap) (locs : List Loc) (ls : Array Slot), va_P D vwCl (wLM cI cP o h tx tn Ad a v.1) H → va_D A (wLM cI cP o h tx tn Ad a v.1) → va_S A s.heap H locs → lv_has ls 9 [(6, .int v.2)] → W p l e rm_L_areWhys s m args below meth c H locs 0 0 (QWi D below args s A (wLM cI cP o h tx tn Ad a z.1) z.2) (F0 m 157 ls [])) → W p l e rm_L_areWhys s m args below meth c H locs 0 0 (QWi D below args s A (wLM cI cP o h tx tn Ad a z.1) z.2) (F0 m 35 ls []) := by
    intro fu
    induction fu with
    | zero =>
      intro K_35 x5_35 x6_35 x7_35 v H locs ls hf
      exact absurd hf (by simp [L_areWhys_L35])
    | succ fu ih =>
      intro K_35 x5_35 x6_35 x7_35 v _ _ ls hf hP hD hS hl hk
      rw [L_areWhys_L35] at hf
      refine lv_iload hx hb dL_areWhys_35 (lv_at hl 7 rfl) ?_
      refine lv_aload_n hx hb dL_areWhys_37 rfl (lv_at hl 3 rfl) ?_
      refine lv_iconst (v := 0) hx hb dL_areWhys_38 (by decide) ?_
      refine va_iald hx hb hX.1 hP 3 0 (n := 8) (f := (K_35.1 3)) rfl rfl (by decide : ¬ ((0 : Int32) < 0 ∨ 8 ≤ Int32.toNatClampNeg 0)) dL_areWhys_39 ?_
      refine lv_icmp_ge (tgt := 157) hx hb dL_areWhys_40 (by decide) (fun c_9 => ?_) (fun c_9 => ?_)
      · replace hf := (if_pos c_9).symm.trans hf
        obtain rfl := Option.some.inj hf
        exact hk _ _ ls hP hD hS (lv_sub hl [6] rfl)
      · replace hf := (if_neg c_9).symm.trans hf
        refine lv_iload hx hb dL_areWhys_43 (lv_at hl 6 rfl) ?_
        refine lv_if_eq (tgt := 157) hx hb dL_areWhys_45 (by decide) (fun c_10 => ?_) (fun c_10 => ?_)
        · replace hf := (if_pos c_10).symm.trans hf
          obtain rfl := Option.some.inj hf
          exact hk _ _ ls hP hD hS (lv_sub hl [6] rfl)
        · replace hf := (if_neg c_10).symm.trans hf
          refine lv_iload hx hb dL_areWhys_48 (lv_at hl 7 rfl) ?_
          refine lv_iconst (v := 1) hx hb dL_areWhys_50 (by decide) ?_
          refine lv_iadd hx hb dL_areWhys_51 ?_
          refine lv_iload hx hb dL_areWhys_52 (lv_at hl 5 rfl) ?_
          refine lv_iconst (v := 5) hx hb dL_areWhys_54 (by decide) ?_
          refine lv_irem hx hb dL_areWhys_55 (by decide) ?_
          refine lv_iadd hx hb dL_areWhys_56 ?_
          refine lv_aload_n hx hb dL_areWhys_57 rfl (lv_at hl 3 rfl) ?_
          refine lv_iconst (v := 0) hx hb dL_areWhys_58 (by decide) ?_
          refine va_iald hx hb hX.1 hP 3 0 (n := 8) (f := (K_35.1 3)) rfl rfl (by decide : ¬ ((0 : Int32) < 0 ∨ 8 ≤ Int32.toNatClampNeg 0)) dL_areWhys_59 ?_
          have g_11 := og hf
          replace hf := (if_pos g_11).symm.trans hf
          refine lv_irem hx hb dL_areWhys_60 g_11 ?_
          refine lv_istore (lv' := [(8, .int (((x7_35 + 1) + (x5_35 - x5_35 / 5 * 5)) - ((x7_35 + 1) + (x5_35 - x5_35 / 5 * 5)) / ((K_35.1 3) (Int32.toNatClampNeg 0)) * ((K_35.1 3) (Int32.toNatClampNeg 0)))), (0, .ref o), (1, .ref (a 0)), (2, .ref (a 1)), (3, .ref (a 3)), (4, .ref (a 4)), (5, .int x5_35), (6, .int x6_35), (7, .int x7_35)]) hx hb dL_areWhys_61 hl (by decide) rfl (fun ls hl => ?_)
          refine lv_aload_n hx hb dL_areWhys_63 rfl (lv_at hl 1 rfl) ?_
          refine lv_iload hx hb dL_areWhys_64 (lv_at hl 8 rfl) ?_
          refine lv_iload hx hb dL_areWhys_66 (lv_at hl 6 rfl) ?_
          refine lv_iconst (v := 2) hx hb dL_areWhys_68 (by decide) ?_
          refine lv_irem hx hb dL_areWhys_69 (by decide) ?_
          obtain ⟨u_12, h_13, hf⟩ := ob hf
          refine k_rd (runV F wdL_51 (rm := rm_X6_whyPull) (As := [.int x7_35, .int (x5_35 - x5_35 / 2 * 2)]) (rest := []) ⟨rfl, rfl⟩ ⟨Nat.le_of_ble_eq_true rfl, Nat.le_of_ble_eq_true rfl⟩ hl.1 rfl rfl (Nat.le_of_ble_eq_true rfl) dL_areWhys_70 ⟨Nat.zero_le _, Nat.zero_le _⟩) (c_X6_whyPull l D cI cP o h tx tn Ad K_35.2 x7_35 (x5_35 - x5_35 / 2 * 2) _ h_13) hX (va_recv hX.1 (va_blk (Bs := (bLM cI cP o h tx tn Ad a K_35)) hP 1 rfl) (ci := 6) (q0 := 0) rfl rfl) (va_blk (Bs := (bLM cI cP o h tx tn Ad a K_35)) hP 1 rfl) hP hS hA (fun H locs hP hS => ?_)
          refine lv_aload_n hx hb dL_areWhys_73 rfl (lv_at hl 2 rfl) ?_
          refine lv_aload_n hx hb dL_areWhys_74 rfl (lv_at hl 3 rfl) ?_
          refine lv_aload_n hx hb dL_areWhys_75 rfl (lv_at hl 4 rfl) ?_
          refine lv_aload hx hb dL_areWhys_76 (lv_at hl 5 rfl) ?_
          refine lv_iload hx hb dL_areWhys_78 (lv_at hl 8 rfl) ?_
          refine lv_iload hx hb dL_areWhys_80 (lv_at hl 6 rfl) ?_
          refine lv_iconst (v := 2) hx hb dL_areWhys_82 (by decide) ?_
          refine lv_irem hx hb dL_areWhys_83 (by decide) ?_
          obtain ⟨u_14, h_15, hf⟩ := ob hf
          refine k_wi (runS F wdL_54 (rm := rm_L_whyPull) (As := [.ref (a 0), .ref (a 1), .ref (a 3), .ref (a 4), .int x7_35, .int (x5_35 - x5_35 / 2 * 2)]) (rest := [.int u_12]) ⟨rfl, rfl⟩ ⟨Nat.le_of_ble_eq_true rfl, Nat.le_of_ble_eq_true rfl⟩ hl.1 rfl rfl (Nat.le_of_ble_eq_true rfl) dL_areWhys_84 ⟨Nat.zero_le _, Nat.zero_le _⟩) (c_L_whyPull l D cI cP a K_35.1 x7_35 (x5_35 - x5_35 / 2 * 2) _ h_15) hX trivial (Cut.one (Bs := (bLM cI cP o h tx tn Ad a K_35)) (k := 0) rfl rfl) hP hD hS hA (fun H locs hP hD hS => ?_)
          obtain ⟨M_16, e_17, hf⟩ := bnd_e hf
          have hP : va_P D vwCl (wLM cI cP o h tx tn Ad a M_16) H := by rw [e_17]; exact hP
          have hD : va_D A (wLM cI cP o h tx tn Ad a M_16) := by rw [e_17]; exact hD
          clear e_17
          refine lv_icmp_ne (tgt := 148) hx hb dL_areWhys_87 (by decide) (fun c_18 => ?_) (fun c_18 => ?_)
          · replace hf := (if_neg c_18).symm.trans hf
            refine lv_iconst (v := 0) hx hb dL_areWhys_148 (by decide) ?_
            refine lv_istore (lv' := [(6, .int 0), (8, .int (((x7_35 + 1) + (x5_35 - x5_35 / 5 * 5)) - ((x7_35 + 1) + (x5_35 - x5_35 / 5 * 5)) / ((K_35.1 3) (Int32.toNatClampNeg 0)) * ((K_35.1 3) (Int32.toNatClampNeg 0)))), (0, .ref o), (1, .ref (a 0)), (2, .ref (a 1)), (3, .ref (a 3)), (4, .ref (a 4)), (5, .int x5_35), (7, .int x7_35)]) hx hb dL_areWhys_149 hl (by decide) rfl (fun ls hl => ?_)
            refine lv_iinc (v := (x7_35 + 1)) (lv' := [(7, .int (x7_35 + 1)), (6, .int 0), (8, .int (((x7_35 + 1) + (x5_35 - x5_35 / 5 * 5)) - ((x7_35 + 1) + (x5_35 - x5_35 / 5 * 5)) / ((K_35.1 3) (Int32.toNatClampNeg 0)) * ((K_35.1 3) (Int32.toNatClampNeg 0)))), (0, .ref o), (1, .ref (a 0)), (2, .ref (a 1)), (3, .ref (a 3)), (4, .ref (a 4)), (5, .int x5_35)]) hx hb dL_areWhys_151 hl (k := 8) rfl (by rfl) (by decide) rfl (fun ls hl => ?_)
            refine lv_goto (tgt := 35) hx hb dL_areWhys_154 (by decide) ?_
            exact ih M_16 x5_35 0 (x7_35 + 1) _ _ _ ls hf hP hD hS (lv_sub hl [3, 4, 5, 6, 7, 8, 1, 0] rfl) hk
          · replace hf := (if_pos c_18).symm.trans hf
            refine lv_iload hx hb dL_areWhys_90 (lv_at hl 0 rfl) ?_
            refine lv_iload hx hb dL_areWhys_92 (lv_at hl 8 rfl) ?_
            refine lv_icmp_eq (tgt := 144) hx hb dL_areWhys_94 (by decide) (fun c_19 => ?_) (fun c_19 => ?_)
            · replace hf := (if_pos c_19).symm.trans hf
              refine lv_iconst (v := 1) hx hb dL_areWhys_144 (by decide) ?_
              refine lv_goto (tgt := 149) hx hb dL_areWhys_145 (by decide) ?_
              refine lv_istore (lv' := [(6, .int 1), (8, .int (((x7_35 + 1) + (x5_35 - x5_35 / 5 * 5)) - ((x7_35 + 1) + (x5_35 - x5_35 / 5 * 5)) / ((K_35.1 3) (Int32.toNatClampNeg 0)) * ((K_35.1 3) (Int32.toNatClampNeg 0)))), (0, .ref o), (1, .ref (a 0)), (2, .ref (a 1)), (3, .ref (a 3)), (4, .ref (a 4)), (5, .int x5_35), (7, .int x7_35)]) hx hb dL_areWhys_149 hl (by decide) rfl (fun ls hl => ?_)
              refine lv_iinc (v := (x7_35 + 1)) (lv' := [(7, .int (x7_35 + 1)), (6, .int 1), (8, .int (((x7_35 + 1) + (x5_35 - x5_35 / 5 * 5)) - ((x7_35 + 1) + (x5_35 - x5_35 / 5 * 5)) / ((K_35.1 3) (Int32.toNatClampNeg 0)) * ((K_35.1 3) (Int32.toNatClampNeg 0)))), (0, .ref o), (1, .ref (a 0)), (2, .ref (a 1)), (3, .ref (a 3)), (4, .ref (a 4)), (5, .int x5_35)]) hx hb dL_areWhys_151 hl (k := 8) rfl (by rfl) (by decide) rfl (fun ls hl => ?_)
              refine lv_goto (tgt := 35) hx hb dL_areWhys_154 (by decide) ?_
              exact ih M_16 x5_35 1 (x7_35 + 1) _ _ _ ls hf hP hD hS (lv_sub hl [3, 4, 5, 6, 7, 8, 1, 0] rfl) hk
            · replace hf := (if_neg c_19).symm.trans hf
              refine lv_aload_n hx hb dL_areWhys_97 rfl (lv_at hl 1 rfl) ?_
              refine lv_iload hx hb dL_areWhys_98 (lv_at hl 8 rfl) ?_
              refine lv_iload hx hb dL_areWhys_100 (lv_at hl 0 rfl) ?_
              refine lv_iload hx hb dL_areWhys_102 (lv_at hl 6 rfl) ?_
              refine lv_iconst (v := 3) hx hb dL_areWhys_104 (by decide) ?_
              refine lv_irem hx hb dL_areWhys_105 (by decide) ?_
              have hJ_106 : ∀ (K_106 : SLM) (x5_106 : Int32) (x7_106 : Int32) (x8_106 : Int32) (t0_106 : Int32) (t1_106 : Int32) (t2_106 : Int32) (v : Int32) (H : Heap) (locs : List Loc) (ls : Array Slot), L_areWhys_J106 K_106 x5_106 x7_106 x8_106 t0_106 t1_106 t2_106 = v → va_P D vwCl (wLM cI cP o h tx tn Ad a K_106) H → va_D A (wLM cI cP o h tx tn Ad a K_106) → va_S A s.heap H locs → lv_has ls 9 [(8, .int x8_106), (0, .ref o), (1, .ref (a 0)), (2, .ref (a 1)), (3, .ref (a 3)), (4, .ref (a 4)), (5, .int x5_106), (7, .int x7_106)] → (∀ (H : Heap) (locs : List Loc) (ls : Array Slot), va_P D vwCl (wLM cI cP o h tx tn Ad a K_106) H → va_D A (wLM cI cP o h tx tn Ad a K_106) → va_S A s.heap H locs → lv_has ls 9 [(0, .ref o), (1, .ref (a 0)), (2, .ref (a 1)), (3, .ref (a 3)), (4, .ref (a 4)), (5, .int x5_106), (7, .int x7_106), (8, .int x8_106)] → W p l e rm_L_areWhys s m args below meth c H locs 0 0 (QWi D below args s A (wLM cI cP o h tx tn Ad a z.1) z.2) (F0 m 114 ls [.int v, .int t1_106, .int t2_106, .ref o])) → W p l e rm_L_areWhys s m args below meth c H locs 0 0 (QWi D below args s A (wLM cI cP o h tx tn Ad a z.1) z.2) (F0 m 106 ls [.int t0_106, .int t1_106, .int t2_106, .ref o]) := by
                intro K_106 x5_106 x7_106 x8_106 t0_106 t1_106 t2_106 v _ _ ls hf hP hD hS hl hk
                unfold L_areWhys_J106 at hf
                refine lv_if_ne (tgt := 113) hx hb dL_areWhys_106 (by decide) (fun c_20 => ?_) (fun c_20 => ?_)
                · replace hf := (if_neg c_20).symm.trans hf
                  refine lv_iconst (v := 0) hx hb dL_areWhys_113 (by decide) ?_
                  obtain rfl := hf
                  exact hk _ _ ls hP hD hS (lv_sub hl [1, 2, 3, 4, 5, 6, 7, 0] rfl)
                · replace hf := (if_pos c_20).symm.trans hf
                  refine lv_iconst (v := 1) hx hb dL_areWhys_109 (by decide) ?_
                  refine lv_goto (tgt := 114) hx hb dL_areWhys_110 (by decide) ?_
                  obtain rfl := hf
                  exact hk _ _ ls hP hD hS (lv_sub hl [1, 2, 3, 4, 5, 6, 7, 0] rfl)
              refine hJ_106 M_16 x5_35 x7_35 (((x7_35 + 1) + (x5_35 - x5_35 / 5 * 5)) - ((x7_35 + 1) + (x5_35 - x5_35 / 5 * 5)) / ((K_35.1 3) (Int32.toNatClampNeg 0)) * ((K_35.1 3) (Int32.toNatClampNeg 0))) (x5_35 - x5_35 / 3 * 3) (((x7_35 + 1) + (x5_35 - x5_35 / 5 * 5)) - ((x7_35 + 1) + (x5_35 - x5_35 / 5 * 5)) / ((K_35.1 3) (Int32.toNatClampNeg 0)) * ((K_35.1 3) (Int32.toNatClampNeg 0))) x7_35 _ _ _ ls rfl hP hD hS (lv_sub hl [0, 1, 2, 3, 4, 5, 6, 8] rfl) (fun H locs ls hP hD hS hl => ?_)
              clear hJ_106
              obtain ⟨u_21, h_22, hf⟩ := ob hf
              refine k_rd (runV F wdL_47 (rm := rm_X6_whyTie) (As := [.int x7_35, .int (((x7_35 + 1) + (x5_35 - x5_35 / 5 * 5)) - ((x7_35 + 1) + (x5_35 - x5_35 / 5 * 5)) / ((K_35.1 3) (Int32.toNatClampNeg 0)) * ((K_35.1 3) (Int32.toNatClampNeg 0))), .int (L_areWhys_J106 M_16 x5_35 x7_35 (((x7_35 + 1) + (x5_35 - x5_35 / 5 * 5)) - ((x7_35 + 1) + (x5_35 - x5_35 / 5 * 5)) / ((K_35.1 3) (Int32.toNatClampNeg 0)) * ((K_35.1 3) (Int32.toNatClampNeg 0))) (x5_35 - x5_35 / 3 * 3) (((x7_35 + 1) + (x5_35 - x5_35 / 5 * 5)) - ((x7_35 + 1) + (x5_35 - x5_35 / 5 * 5)) / ((K_35.1 3) (Int32.toNatClampNeg 0)) * ((K_35.1 3) (Int32.toNatClampNeg 0))) x7_35)]) (rest := []) ⟨rfl, rfl⟩ ⟨Nat.le_of_ble_eq_true rfl, Nat.le_of_ble_eq_true rfl⟩ hl.1 rfl rfl (Nat.le_of_ble_eq_true rfl) dL_areWhys_114 ⟨Nat.zero_le _, Nat.zero_le _⟩) (c_X6_whyTie l D cI cP o h tx tn Ad M_16.2 x7_35 (((x7_35 + 1) + (x5_35 - x5_35 / 5 * 5)) - ((x7_35 + 1) + (x5_35 - x5_35 / 5 * 5)) / ((K_35.1 3) (Int32.toNatClampNeg 0)) * ((K_35.1 3) (Int32.toNatClampNeg 0))) (L_areWhys_J106 M_16 x5_35 x7_35 (((x7_35 + 1) + (x5_35 - x5_35 / 5 * 5)) - ((x7_35 + 1) + (x5_35 - x5_35 / 5 * 5)) / ((K_35.1 3) (Int32.toNatClampNeg 0)) * ((K_35.1 3) (Int32.toNatClampNeg 0))) (x5_35 - x5_35 / 3 * 3) (((x7_35 + 1) + (x5_35 - x5_35 / 5 * 5)) - ((x7_35 + 1) + (x5_35 - x5_35 / 5 * 5)) / ((K_35.1 3) (Int32.toNatClampNeg 0)) * ((K_35.1 3) (Int32.toNatClampNeg 0))) x7_35) _ h_22) hX (va_recv hX.1 (va_blk (Bs := (bLM cI cP o h tx tn Ad a M_16)) hP 1 rfl) (ci := 6) (q0 := 0) rfl rfl) (va_blk (Bs := (bLM cI cP o h tx tn Ad a M_16)) hP 1 rfl) hP hS hA (fun H locs hP hS => ?_)
              refine lv_aload_n hx hb dL_areWhys_117 rfl (lv_at hl 1 rfl) ?_
              refine lv_aload_n hx hb dL_areWhys_118 rfl (lv_at hl 2 rfl) ?_
              refine lv_aload_n hx hb dL_areWhys_119 rfl (lv_at hl 3 rfl) ?_
              refine lv_aload hx hb dL_areWhys_120 (lv_at hl 4 rfl) ?_
              refine lv_iload hx hb dL_areWhys_122 (lv_at hl 6 rfl) ?_
              refine lv_iload hx hb dL_areWhys_124 (lv_at hl 7 rfl) ?_
              refine lv_iload hx hb dL_areWhys_126 (lv_at hl 5 rfl) ?_
              refine lv_iconst (v := 3) hx hb dL_areWhys_128 (by decide) ?_
              refine lv_irem hx hb dL_areWhys_129 (by decide) ?_
              refine lv_if_ne (tgt := 137) hx hb dL_areWhys_130 (by decide) (fun c_23 => ?_) (fun c_23 => ?_)
              · replace hf := (if_neg c_23).symm.trans hf
                refine lv_iconst (v := 0) hx hb dL_areWhys_137 (by decide) ?_
                obtain ⟨u_24, h_25, hf⟩ := ob hf
                refine k_wi (runS F wdL_57 (rm := rm_L_whyTie) (As := [.ref (a 0), .ref (a 1), .ref (a 3), .ref (a 4), .int x7_35, .int (((x7_35 + 1) + (x5_35 - x5_35 / 5 * 5)) - ((x7_35 + 1) + (x5_35 - x5_35 / 5 * 5)) / ((K_35.1 3) (Int32.toNatClampNeg 0)) * ((K_35.1 3) (Int32.toNatClampNeg 0))), .int 0]) (rest := [.int u_21]) ⟨rfl, rfl⟩ ⟨Nat.le_of_ble_eq_true rfl, Nat.le_of_ble_eq_true rfl⟩ hl.1 rfl rfl (Nat.le_of_ble_eq_true rfl) dL_areWhys_138 ⟨Nat.zero_le _, Nat.zero_le _⟩) (c_L_whyTie l D cI cP a M_16.1 x7_35 (((x7_35 + 1) + (x5_35 - x5_35 / 5 * 5)) - ((x7_35 + 1) + (x5_35 - x5_35 / 5 * 5)) / ((K_35.1 3) (Int32.toNatClampNeg 0)) * ((K_35.1 3) (Int32.toNatClampNeg 0))) 0 _ h_25) hX trivial (Cut.one (Bs := (bLM cI cP o h tx tn Ad a M_16)) (k := 0) rfl rfl) hP hD hS hA (fun H locs hP hD hS => ?_)
                obtain ⟨M_26, e_27, hf⟩ := bnd_e hf
                have hP : va_P D vwCl (wLM cI cP o h tx tn Ad a M_26) H := by rw [e_27]; exact hP
                have hD : va_D A (wLM cI cP o h tx tn Ad a M_26) := by rw [e_27]; exact hD
                clear e_27
                refine lv_icmp_ne (tgt := 148) hx hb dL_areWhys_141 (by decide) (fun c_28 => ?_) (fun c_28 => ?_)
                · replace hf := (if_neg c_28).symm.trans hf
                  refine lv_iconst (v := 0) hx hb dL_areWhys_148 (by decide) ?_
                  refine lv_istore (lv' := [(6, .int 0), (0, .ref o), (1, .ref (a 0)), (2, .ref (a 1)), (3, .ref (a 3)), (4, .ref (a 4)), (5, .int x5_35), (7, .int x7_35), (8, .int (((x7_35 + 1) + (x5_35 - x5_35 / 5 * 5)) - ((x7_35 + 1) + (x5_35 - x5_35 / 5 * 5)) / ((K_35.1 3) (Int32.toNatClampNeg 0)) * ((K_35.1 3) (Int32.toNatClampNeg 0))))]) hx hb dL_areWhys_149 hl (by decide) rfl (fun ls hl => ?_)
                  refine lv_iinc (v := (x7_35 + 1)) (lv' := [(7, .int (x7_35 + 1)), (6, .int 0), (0, .ref o), (1, .ref (a 0)), (2, .ref (a 1)), (3, .ref (a 3)), (4, .ref (a 4)), (5, .int x5_35), (8, .int (((x7_35 + 1) + (x5_35 - x5_35 / 5 * 5)) - ((x7_35 + 1) + (x5_35 - x5_35 / 5 * 5)) / ((K_35.1 3) (Int32.toNatClampNeg 0)) * ((K_35.1 3) (Int32.toNatClampNeg 0))))]) hx hb dL_areWhys_151 hl (k := 7) rfl (by rfl) (by decide) rfl (fun ls hl => ?_)
                  refine lv_goto (tgt := 35) hx hb dL_areWhys_154 (by decide) ?_
                  exact ih M_26 x5_35 0 (x7_35 + 1) _ _ _ ls hf hP hD hS (lv_sub hl [2, 3, 4, 5, 6, 7, 1, 0] rfl) hk
                · replace hf := (if_pos c_28).symm.trans hf
                  refine lv_iconst (v := 1) hx hb dL_areWhys_144 (by decide) ?_
                  refine lv_goto (tgt := 149) hx hb dL_areWhys_145 (by decide) ?_
                  refine lv_istore (lv' := [(6, .int 1), (0, .ref o), (1, .ref (a 0)), (2, .ref (a 1)), (3, .ref (a 3)), (4, .ref (a 4)), (5, .int x5_35), (7, .int x7_35), (8, .int (((x7_35 + 1) + (x5_35 - x5_35 / 5 * 5)) - ((x7_35 + 1) + (x5_35 - x5_35 / 5 * 5)) / ((K_35.1 3) (Int32.toNatClampNeg 0)) * ((K_35.1 3) (Int32.toNatClampNeg 0))))]) hx hb dL_areWhys_149 hl (by decide) rfl (fun ls hl => ?_)
                  refine lv_iinc (v := (x7_35 + 1)) (lv' := [(7, .int (x7_35 + 1)), (6, .int 1), (0, .ref o), (1, .ref (a 0)), (2, .ref (a 1)), (3, .ref (a 3)), (4, .ref (a 4)), (5, .int x5_35), (8, .int (((x7_35 + 1) + (x5_35 - x5_35 / 5 * 5)) - ((x7_35 + 1) + (x5_35 - x5_35 / 5 * 5)) / ((K_35.1 3) (Int32.toNatClampNeg 0)) * ((K_35.1 3) (Int32.toNatClampNeg 0))))]) hx hb dL_areWhys_151 hl (k := 7) rfl (by rfl) (by decide) rfl (fun ls hl => ?_)
                  refine lv_goto (tgt := 35) hx hb dL_areWhys_154 (by decide) ?_
                  exact ih M_26 x5_35 1 (x7_35 + 1) _ _ _ ls hf hP hD hS (lv_sub hl [2, 3, 4, 5, 6, 7, 1, 0] rfl) hk
              · replace hf := (if_pos c_23).symm.trans hf
                refine lv_iconst (v := 1) hx hb dL_areWhys_133 (by decide) ?_
                refine lv_goto (tgt := 138) hx hb dL_areWhys_134 (by decide) ?_
                obtain ⟨u_29, h_30, hf⟩ := ob hf
                refine k_wi (runS F wdL_57 (rm := rm_L_whyTie) (As := [.ref (a 0), .ref (a 1), .ref (a 3), .ref (a 4), .int x7_35, .int (((x7_35 + 1) + (x5_35 - x5_35 / 5 * 5)) - ((x7_35 + 1) + (x5_35 - x5_35 / 5 * 5)) / ((K_35.1 3) (Int32.toNatClampNeg 0)) * ((K_35.1 3) (Int32.toNatClampNeg 0))), .int 1]) (rest := [.int u_21]) ⟨rfl, rfl⟩ ⟨Nat.le_of_ble_eq_true rfl, Nat.le_of_ble_eq_true rfl⟩ hl.1 rfl rfl (Nat.le_of_ble_eq_true rfl) dL_areWhys_138 ⟨Nat.zero_le _, Nat.zero_le _⟩) (c_L_whyTie l D cI cP a M_16.1 x7_35 (((x7_35 + 1) + (x5_35 - x5_35 / 5 * 5)) - ((x7_35 + 1) + (x5_35 - x5_35 / 5 * 5)) / ((K_35.1 3) (Int32.toNatClampNeg 0)) * ((K_35.1 3) (Int32.toNatClampNeg 0))) 1 _ h_30) hX trivial (Cut.one (Bs := (bLM cI cP o h tx tn Ad a M_16)) (k := 0) rfl rfl) hP hD hS hA (fun H locs hP hD hS => ?_)
                obtain ⟨M_31, e_32, hf⟩ := bnd_e hf
                have hP : va_P D vwCl (wLM cI cP o h tx tn Ad a M_31) H := by rw [e_32]; exact hP
                have hD : va_D A (wLM cI cP o h tx tn Ad a M_31) := by rw [e_32]; exact hD
                clear e_32
                refine lv_icmp_ne (tgt := 148) hx hb dL_areWhys_141 (by decide) (fun c_33 => ?_) (fun c_33 => ?_)
                · replace hf := (if_neg c_33).symm.trans hf
                  refine lv_iconst (v := 0) hx hb dL_areWhys_148 (by decide) ?_
                  refine lv_istore (lv' := [(6, .int 0), (0, .ref o), (1, .ref (a 0)), (2, .ref (a 1)), (3, .ref (a 3)), (4, .ref (a 4)), (5, .int x5_35), (7, .int x7_35), (8, .int (((x7_35 + 1) + (x5_35 - x5_35 / 5 * 5)) - ((x7_35 + 1) + (x5_35 - x5_35 / 5 * 5)) / ((K_35.1 3) (Int32.toNatClampNeg 0)) * ((K_35.1 3) (Int32.toNatClampNeg 0))))]) hx hb dL_areWhys_149 hl (by decide) rfl (fun ls hl => ?_)
                  refine lv_iinc (v := (x7_35 + 1)) (lv' := [(7, .int (x7_35 + 1)), (6, .int 0), (0, .ref o), (1, .ref (a 0)), (2, .ref (a 1)), (3, .ref (a 3)), (4, .ref (a 4)), (5, .int x5_35), (8, .int (((x7_35 + 1) + (x5_35 - x5_35 / 5 * 5)) - ((x7_35 + 1) + (x5_35 - x5_35 / 5 * 5)) / ((K_35.1 3) (Int32.toNatClampNeg 0)) * ((K_35.1 3) (Int32.toNatClampNeg 0))))]) hx hb dL_areWhys_151 hl (k := 7) rfl (by rfl) (by decide) rfl (fun ls hl => ?_)
                  refine lv_goto (tgt := 35) hx hb dL_areWhys_154 (by decide) ?_
                  exact ih M_31 x5_35 0 (x7_35 + 1) _ _ _ ls hf hP hD hS (lv_sub hl [2, 3, 4, 5, 6, 7, 1, 0] rfl) hk
                · replace hf := (if_pos c_33).symm.trans hf
                  refine lv_iconst (v := 1) hx hb dL_areWhys_144 (by decide) ?_
                  refine lv_goto (tgt := 149) hx hb dL_areWhys_145 (by decide) ?_
                  refine lv_istore (lv' := [(6, .int 1), (0, .ref o), (1, .ref (a 0)), (2, .ref (a 1)), (3, .ref (a 3)), (4, .ref (a 4)), (5, .int x5_35), (7, .int x7_35), (8, .int (((x7_35 + 1) + (x5_35 - x5_35 / 5 * 5)) - ((x7_35 + 1) + (x5_35 - x5_35 / 5 * 5)) / ((K_35.1 3) (Int32.toNatClampNeg 0)) * ((K_35.1 3) (Int32.toNatClampNeg 0))))]) hx hb dL_areWhys_149 hl (by decide) rfl (fun ls hl => ?_)
                  refine lv_iinc (v := (x7_35 + 1)) (lv' := [(7, .int (x7_35 + 1)), (6, .int 1), (0, .ref o), (1, .ref (a 0)), (2, .ref (a 1)), (3, .ref (a 3)), (4, .ref (a 4)), (5, .int x5_35), (8, .int (((x7_35 + 1) + (x5_35 - x5_35 / 5 * 5)) - ((x7_35 + 1) + (x5_35 - x5_35 / 5 * 5)) / ((K_35.1 3) (Int32.toNatClampNeg 0)) * ((K_35.1 3) (Int32.toNatClampNeg 0))))]) hx hb dL_areWhys_151 hl (k := 7) rfl (by rfl) (by decide) rfl (fun ls hl => ?_)
                  refine lv_goto (tgt := 35) hx hb dL_areWhys_154 (by decide) ?_
                  exact ih M_31 x5_35 1 (x7_35 + 1) _ _ _ ls hf hP hD hS (lv_sub hl [2, 3, 4, 5, 6, 7, 1, 0] rfl) hk
  obtain ⟨u_34, h_35, hf⟩ := ob hf
  refine hL_35 FUEL K x5 u_7 0 u_34 _ _ ls h_35 hP hD hS (lv_sub hl [2, 3, 4, 5, 6, 7, 1, 0] rfl) (fun H locs ls hP hD hS hl => ?_)
  clear hL_35
  refine lv_iload hx hb dL_areWhys_157 (lv_at hl 0 rfl) ?_
  have g_36 := og hf
  replace hf := (if_pos g_36).symm.trans hf
  obtain rfl := (Option.some.inj hf)
  exact wr_z F g_36 rfl hP hS dL_areWhys_159
