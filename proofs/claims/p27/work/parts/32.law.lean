/-! the law's own walk -/
def cellv (L : Nat) (xs : Nat → Int32) (i : Int32) : Int32 := if Int32.ofNat L ≤ i then 40503 * (i + 3) else xs (Int32.toNatClampNeg i)
abbrev rm_L_cell : Room := { frames := 0, cells := 0, slots := 0, locals := 0 }
def MCell (l : Launch) (b L : Nat) (xs : Nat → Int32) (i r : Int32) : Prop :=
  ∀ sz : Nat, Met l yL_cell (Cond.code yL_cell cL_cell 2 (some .int) :: ALL) rm_L_cell (va_Pc [.ref b, .int i] (fun U => U.heap.size = sz ∧ va_X b L xs U U.heap ∧ b < sz)) (va_Qi (fun x (_ : Unit) => x = r) (fun _ _ => True) (fun q => sz ≤ q)) 0 0 (fun q => sz ≤ q)
set_option maxHeartbeats 4000000 in
set_option maxRecDepth 100000 in
theorem c_L_cell (l : Launch) (b L : Nat) (hL : L ≤ 260) (xs : Nat → Int32) (i : Nat) (hi : i < 1000) : MCell l b L xs (nI i) (cellv L xs (nI i)) := by
  intro sz
  refine Met.ofW (cc := cL_cell) (maxL := 2) (ret := some .int) (by decide +kernel) rfl ?_
  intro p e s m args below meth c s₁ B0 hml hv
  obtain ⟨rfl, hsz, hXs, hbl⟩ := hv
  subst hsz
  have hts0 := atoms_spec (ws := Cond.code yL_cell cL_cell 2 (some .int) :: ALL) B0.pre
  rw [lg_entry_eq]
  have F : Fx p s m _ meth c RL cL_cell 2 (some .int) := ⟨B0.exec, B0.bytes, hml, findClass_of_methodNamed B0.named, fun w h => hts0 w (List.mem_cons_of_mem _ h), B0.returns, B0.notSynchronized⟩
  have hl := lv_entry ([.ref b, .int (nI i)]) (n := 2) (Nat.le_of_ble_eq_true rfl)
  generalize (lg_sl ([.ref b, .int (nI i)]) ++ List.replicate (2 - (lg_sl ([.ref b, .int (nI i)])).length) Slot.unset).toArray = ls at hl ⊢
  have hl : lv_has ls 2 [(0, .ref b), (1, .int (nI i))] := hl
  have hx := F.1
  have hb := F.2.1
  have hown := F.2.2.2.1
  have hts := F.2.2.2.2.1
  have hS : va_S (fun q : Nat => s.heap.size ≤ q) s.heap s.heap [] := va_S.rf
  have hbA : ¬ (fun q : Nat => s.heap.size ≤ q) b := Nat.not_le.mpr hbl
  refine lv_iload_n hx hb dL_cell_0 rfl (lv_at hl 1 rfl) ?_
  refine lv_aload_n hx hb dL_cell_1 rfl (lv_at hl 0 rfl) ?_
  refine va_slen hx hb hXs hbl hbA hS dL_cell_2 ?_
  refine lv_icmp_ge (tgt := 12) hx hb dL_cell_3 (by decide) (fun c0 => ?_) (fun c0 => ?_)
  · refine lv_ldc (v := 40503) hx hb hown (hts _ q_268) dL_cell_12 ?_
    refine lv_iload_n hx hb dL_cell_14 rfl (lv_at hl 1 rfl) ?_
    refine lv_iconst (v := 3) hx hb dL_cell_15 (by decide) ?_
    refine lv_iadd hx hb dL_cell_16 ?_
    refine lv_imul hx hb dL_cell_17 ?_
    exact rd_i F (by unfold cellv; rw [if_pos c0]) hS dL_cell_18
  · have hin : vp_in (nI i) L := by
      rcases Nat.lt_or_ge i L with z | z
      · exact vp_in_nI z (by omega)
      · exact absurd (nI_le z (by omega)) c0
    refine lv_aload_n hx hb dL_cell_6 rfl (lv_at hl 0 rfl) ?_
    refine lv_iload_n hx hb dL_cell_7 rfl (lv_at hl 1 rfl) ?_
    refine va_sld hx hb hXs hbl hbA hS hin dL_cell_8 ?_
    refine lv_goto (tgt := 18) hx hb dL_cell_9 (by decide) ?_
    exact rd_i F (by unfold cellv; rw [if_neg c0]) hS dL_cell_18
section CELL
variable {p : Program} {l : Launch} {e : Env} {R : Room} {s : State} {m : MethodId} {args : Array Value} {below : List Frame} {meth : Method} {c : Code} {H : Heap} {locs : List Loc} {cells slots : Nat} {Q : State → Prop} {own : String} {cc bytes : ByteArray} {nL pc maxL : Nat} {ls : Array Slot} {st0 rest : List Value} {ret0 : Option FieldType} {D : va_G} {b L : Nat} {xs : Nat → Int32} {i r : Int32} {ws : va_W}
theorem k_cell {recv : Prop} (hr : Run p l e R s m args below meth c own cc nL ret0 yL_cell cL_cell 2 (some .int) rm_L_cell [.ref b, .int i] pc ls st0 rest H cells slots recv) (hM : MCell l b L xs i r) (hXs : va_X b L xs s s.heap) (hbl : b < s.heap.size) (hrc : recv) (hP : va_P D vwCl ws H) (hS : va_S (fun q : Nat => s.heap.size ≤ q) s.heap H locs)
    (kk : ∀ (H1 : Heap) (locs1 : List Loc), va_P D vwCl ws H1 → va_S (fun q : Nat => s.heap.size ≤ q) s.heap H1 locs1 → W p l e R s m args below meth c H1 locs1 cells slots Q (F0 m (pc + 3) ls (.int r :: rest))) : W p l e R s m args below meth c H locs cells slots Q (F0 m pc ls st0) := by
  have hXH : va_X b L xs s H := hXs.kept (hS.2.1 b hbl (Nat.not_le.mpr hbl))
  refine va_calli (hr _ _ _ locs (hM H.size) (fun a U g mk q => ⟨q.1, q.2.1, va_X.moved (Vm.Alike.refl U.vm) q.2.2.1, q.2.2.2⟩) hrc (fun U hU hW => ⟨rfl, by rw [hU], by rw [hU]; exact hXH.moved hW.alike, Nat.lt_of_lt_of_le hbl hS.1⟩)) hS (fun q h1 h2 => absurd h1 (Nat.not_lt.mpr h2)) (fun q h => Nat.le_trans hS.1 h) (fun r' u t H1 locs1 ht hvm hw hB hz1 hk1 hS1 => ?_)
  subst hw
  exact kk H1 locs1 (hP.kept (fun k q hk => hk1 q.1 (hP k q hk).lt (fun z => absurd (hP k q hk).lt (Nat.not_lt.mpr z)))) hS1
end CELL
theorem and_pos31 (x : Int32) : 0 ≤ x &&& 2147483647 := by
  rw [Int32.le_iff_toInt_le, Int32.toInt_zero]
  have h : (x &&& 2147483647).toBitVec.msb = false := by
    rw [Int32.toBitVec_and, BitVec.msb_and]
    rw [show (2147483647 : Int32).toBitVec.msb = false from by decide, Bool.and_false]
  show 0 ≤ (x &&& 2147483647).toBitVec.toInt
  rw [BitVec.toInt_eq_msb_cond, h]
  simp
def wayOf (e : Nat) (z : Int32) : Int32 := if 6 ≤ nI e then z - z / 18 * 18 else z - z / 2 * 2
/-- what a step of the law asks of a relation -/
def Op_step (Rel : Nat → SLM → Prop) : Prop := ∀ (e : Nat) (K : SLM) (z : Int32), e < 64 → 0 ≤ z → Rel e K → ∃ K1 K2 K3 K4, L_isActed K (wayOf e z) (z / 18) = some (K1, 1) ∧ L_arePuppets K1 = some (K2, 1) ∧ L_areStrings K2 = some (K3, 1) ∧ L_areWhys K3 (z / 7) = some (K4, 1) ∧ Rel (e + 1) K4
set_option maxHeartbeats 16000000 in
set_option maxRecDepth 100000 in
theorem law_loop_open {p : Program} {l : Launch} {e : Env} {s : State} {m : MethodId} {below : List Frame} {meth : Method} {c : Code} {D : va_G} {cI cP : ClassId} {b L : Nat} {xs : Nat → Int32} {Rel : Nat → SLM → Prop} (op_step : Op_step Rel) (hL : L ≤ 260) (F : Fx p s m #[Value.ref b] meth c RL cL_law 9 (some .boolean)) (hX : Cx D cI cP s) (hXs : va_X b L xs s s.heap) (hbl : b < s.heap.size) {o h : Nat} {tx tn a : Nat → Nat} {Ad : Nat → Nat → Nat} :
    ∀ (n i : Nat) (K : SLM) (H : Heap) (locs : List Loc) (ls : Array Slot), i ≤ 64 → 65 ≤ i + n → Rel i K → va_P D vwCl (wLM cI cP o h tx tn Ad a K) H → va_D (fun q : Nat => s.heap.size ≤ q) (wLM cI cP o h tx tn Ad a K) → va_S (fun q : Nat => s.heap.size ≤ q) s.heap H locs → lv_has ls 9 [(7, .int (nI i)), (0, .ref b), (1, .ref o), (2, .ref (a 0)), (3, .ref (a 1)), (4, .ref (a 2)), (5, .ref (a 3)), (6, .ref (a 4))] → W p l e room_1 s m #[Value.ref b] below meth c H locs 165 1579 (lw_Z below #[Value.ref b] s) (F0 m 45 ls []) := by
  have hx := F.1
  have hb := F.2.1
  have hown := F.2.2.2.1
  have hts := F.2.2.2.2.1
  have hr0 := F.2.2.2.2.2.1
  have hlocks := F.2.2.2.2.2.2
  have hA : ∀ q : Nat, s.heap.size ≤ q → (fun q : Nat => s.heap.size ≤ q) q := fun _ h => h
  intro n
  induction n with
  | zero =>
    intro i K H locs ls h1 h2
    exact absurd h2 (by omega)
  | succ n ih =>
    intro i K H locs ls h1 h2 hR hP hD hS hl
    refine lv_iload hx hb dL_law_45 (lv_at hl 0 rfl) ?_
    refine lv_bipush (v := 64) hx hb dL_law_47 (by decide) ?_
    refine lv_icmp_ge (tgt := 156) hx hb dL_law_49 (by decide) (fun c_x => ?_) (fun c_x => ?_)
    · refine lv_iconst (v := 1) hx hb dL_law_156 (by decide) ?_
      refine va_forget (fun q hq => hS.2.2 q hq) ?_
      refine W.widen (k := 600000) (n := 7302250) (Nat.le_of_ble_eq_true rfl) (Nat.le_of_ble_eq_true rfl) ?_
      exact lw_ret hx hb hr0 hlocks dL_law_157
    have hi : i < 64 := by
      rcases Nat.lt_or_ge i 64 with z | z
      · exact z
      · exact absurd (nI_le (a := 64) z (by omega)) c_x
    clear c_x
    refine lv_aload_n hx hb dL_law_52 rfl (lv_at hl 1 rfl) ?_
    refine lv_iload hx hb dL_law_53 (lv_at hl 0 rfl) ?_
    refine k_cell (runS F wdL_97 (rm := rm_L_cell) (As := [.ref b, .int (nI i)]) (rest := []) ⟨rfl, rfl⟩ ⟨Nat.le_of_ble_eq_true rfl, Nat.le_of_ble_eq_true rfl⟩ hl.1 rfl rfl (Nat.le_of_ble_eq_true rfl) dL_law_55 ⟨Nat.le_of_ble_eq_true rfl, Nat.le_of_ble_eq_true rfl⟩) (c_L_cell l b L hL xs i (by omega)) hXs hbl trivial hP hS (fun H locs hP hS => ?_)
    refine lv_ldc (v := 2147483647) hx hb hown (hts _ q_599) dL_law_58 ?_
    refine lv_iand hx hb dL_law_60 ?_
    have hz0 := and_pos31 (cellv L xs (nI i))
    generalize cellv L xs (nI i) &&& 2147483647 = z at hz0 ⊢
    refine lv_istore (lv' := [(8, .int z), (7, .int (nI i)), (0, .ref b), (1, .ref o), (2, .ref (a 0)), (3, .ref (a 1)), (4, .ref (a 2)), (5, .ref (a 3)), (6, .ref (a 4))]) hx hb dL_law_61 hl (by decide) rfl (fun ls hl => ?_)
    obtain ⟨K1, K2, K3, K4, hf1, hf2, hf3, hf4, hR2⟩ := op_step i K z hi hz0 hR
    refine lv_aload_n hx hb dL_law_63 rfl (lv_at hl 3 rfl) ?_
    refine lv_aload_n hx hb dL_law_64 rfl (lv_at hl 4 rfl) ?_
    refine lv_aload_n hx hb dL_law_65 rfl (lv_at hl 5 rfl) ?_
    refine lv_aload hx hb dL_law_66 (lv_at hl 6 rfl) ?_
    refine lv_aload hx hb dL_law_68 (lv_at hl 7 rfl) ?_
    refine lv_aload hx hb dL_law_70 (lv_at hl 8 rfl) ?_
    refine lv_iload hx hb dL_law_72 (lv_at hl 1 rfl) ?_
    refine lv_bipush (v := 6) hx hb dL_law_74 (by decide) ?_
    have hgo : W p l e room_1 s m #[Value.ref b] below meth c H locs 165 1579 (lw_Z below #[Value.ref b] s) (F0 m 91 ls (.int (wayOf i z) :: (.ref (a 4) :: .ref (a 3) :: .ref (a 2) :: .ref (a 1) :: .ref (a 0) :: .ref o :: []))) := by
      refine lv_iload hx hb dL_law_91 (lv_at hl 0 rfl) ?_
      refine lv_bipush (v := 18) hx hb dL_law_93 (by decide) ?_
      refine lv_idiv hx hb dL_law_95 (by decide) ?_
      refine k_wi (runS F wdL_101 (rm := rm_L_isActed) (As := [.ref o, .ref (a 0), .ref (a 1), .ref (a 2), .ref (a 3), .ref (a 4), .int (wayOf i z), .int (z / 18)]) (rest := []) ⟨rfl, rfl⟩ ⟨Nat.le_of_ble_eq_true rfl, Nat.le_of_ble_eq_true rfl⟩ hl.1 rfl rfl (Nat.le_of_ble_eq_true rfl) dL_law_96 ⟨Nat.le_of_ble_eq_true rfl, Nat.le_of_ble_eq_true rfl⟩) (c_L_isActed l D cI cP o h tx tn Ad a K (wayOf i z) (z / 18) _ hf1) hX trivial (Cut.all rfl) hP hD hS hA (fun H locs hP hD hS => ?_)
      have hP : va_P D vwCl (wLM cI cP o h tx tn Ad a K1) H := hP
      have hD : va_D (fun q : Nat => s.heap.size ≤ q) (wLM cI cP o h tx tn Ad a K1) := hD
      refine lv_if_eq (tgt := 148) hx hb dL_law_99 (by decide) (fun c0 => absurd c0 (show ¬ (1 : Int32) = 0 by decide)) (fun _ => ?_)
      refine lv_aload_n hx hb dL_law_102 rfl (lv_at hl 3 rfl) ?_
      refine lv_aload_n hx hb dL_law_103 rfl (lv_at hl 4 rfl) ?_
      refine lv_aload_n hx hb dL_law_104 rfl (lv_at hl 5 rfl) ?_
      refine lv_aload hx hb dL_law_105 (lv_at hl 7 rfl) ?_
      refine lv_aload hx hb dL_law_107 (lv_at hl 8 rfl) ?_
      refine k_wi (runS F wdL_105 (rm := rm_L_arePuppets) (As := [.ref o, .ref (a 0), .ref (a 1), .ref (a 3), .ref (a 4)]) (rest := []) ⟨rfl, rfl⟩ ⟨Nat.le_of_ble_eq_true rfl, Nat.le_of_ble_eq_true rfl⟩ hl.1 rfl rfl (Nat.le_of_ble_eq_true rfl) dL_law_109 ⟨Nat.le_of_ble_eq_true rfl, Nat.le_of_ble_eq_true rfl⟩) (c_L_arePuppets l D cI cP o h tx tn Ad a K1 _ hf2) hX trivial (Cut.all rfl) hP hD hS hA (fun H locs hP hD hS => ?_)
      have hP : va_P D vwCl (wLM cI cP o h tx tn Ad a K2) H := hP
      have hD : va_D (fun q : Nat => s.heap.size ≤ q) (wLM cI cP o h tx tn Ad a K2) := hD
      refine lv_if_eq (tgt := 148) hx hb dL_law_112 (by decide) (fun c0 => absurd c0 (show ¬ (1 : Int32) = 0 by decide)) (fun _ => ?_)
      refine lv_aload_n hx hb dL_law_115 rfl (lv_at hl 3 rfl) ?_
      refine lv_aload_n hx hb dL_law_116 rfl (lv_at hl 4 rfl) ?_
      refine lv_aload_n hx hb dL_law_117 rfl (lv_at hl 5 rfl) ?_
      refine lv_aload hx hb dL_law_118 (lv_at hl 6 rfl) ?_
      refine lv_aload hx hb dL_law_120 (lv_at hl 7 rfl) ?_
      refine lv_aload hx hb dL_law_122 (lv_at hl 8 rfl) ?_
      refine k_wi (runS F wdL_109 (rm := rm_L_areStrings) (As := [.ref o, .ref (a 0), .ref (a 1), .ref (a 2), .ref (a 3), .ref (a 4)]) (rest := []) ⟨rfl, rfl⟩ ⟨Nat.le_of_ble_eq_true rfl, Nat.le_of_ble_eq_true rfl⟩ hl.1 rfl rfl (Nat.le_of_ble_eq_true rfl) dL_law_124 ⟨Nat.le_of_ble_eq_true rfl, Nat.le_of_ble_eq_true rfl⟩) (c_L_areStrings l D cI cP o h tx tn Ad a K2 _ hf3) hX trivial (Cut.all rfl) hP hD hS hA (fun H locs hP hD hS => ?_)
      have hP : va_P D vwCl (wLM cI cP o h tx tn Ad a K3) H := hP
      have hD : va_D (fun q : Nat => s.heap.size ≤ q) (wLM cI cP o h tx tn Ad a K3) := hD
      refine lv_if_eq (tgt := 148) hx hb dL_law_127 (by decide) (fun c0 => absurd c0 (show ¬ (1 : Int32) = 0 by decide)) (fun _ => ?_)
      refine lv_aload_n hx hb dL_law_130 rfl (lv_at hl 3 rfl) ?_
      refine lv_aload_n hx hb dL_law_131 rfl (lv_at hl 4 rfl) ?_
      refine lv_aload_n hx hb dL_law_132 rfl (lv_at hl 5 rfl) ?_
      refine lv_aload hx hb dL_law_133 (lv_at hl 7 rfl) ?_
      refine lv_aload hx hb dL_law_135 (lv_at hl 8 rfl) ?_
      refine lv_iload hx hb dL_law_137 (lv_at hl 0 rfl) ?_
      refine lv_bipush (v := 7) hx hb dL_law_139 (by decide) ?_
      refine lv_idiv hx hb dL_law_141 (by decide) ?_
      refine k_wi (runS F wdL_112 (rm := rm_L_areWhys) (As := [.ref o, .ref (a 0), .ref (a 1), .ref (a 3), .ref (a 4), .int (z / 7)]) (rest := []) ⟨rfl, rfl⟩ ⟨Nat.le_of_ble_eq_true rfl, Nat.le_of_ble_eq_true rfl⟩ hl.1 rfl rfl (Nat.le_of_ble_eq_true rfl) dL_law_142 ⟨Nat.le_of_ble_eq_true rfl, Nat.le_of_ble_eq_true rfl⟩) (c_L_areWhys l D cI cP o h tx tn Ad a K3 (z / 7) _ hf4) hX trivial (Cut.all rfl) hP hD hS hA (fun H locs hP hD hS => ?_)
      have hP : va_P D vwCl (wLM cI cP o h tx tn Ad a K4) H := hP
      have hD : va_D (fun q : Nat => s.heap.size ≤ q) (wLM cI cP o h tx tn Ad a K4) := hD
      refine lv_if_ne (tgt := 150) hx hb dL_law_145 (by decide) (fun _ => ?_) (fun c0 => absurd c0 (show ¬ (1 : Int32) = 0 by decide))
      refine lv_iinc (v := nI (i + 1)) (lv' := [(7, .int (nI (i + 1))), (8, .int z), (0, .ref b), (1, .ref o), (2, .ref (a 0)), (3, .ref (a 1)), (4, .ref (a 2)), (5, .ref (a 3)), (6, .ref (a 4))]) hx hb dL_law_150 hl (k := 1) rfl (nI_1 i) (by decide) rfl (fun ls hl => ?_)
      refine lv_goto (tgt := 45) hx hb dL_law_153 (by decide) ?_
      exact ih (i + 1) K4 _ _ ls (by omega) (by omega) hR2 hP hD hS (lv_sub hl [0, 2, 3, 4, 5, 6, 7, 8] rfl)
    refine lv_icmp_ge (tgt := 86) hx hb dL_law_76 (by decide) (fun c_6 => ?_) (fun c_6 => ?_)
    · refine lv_iload hx hb dL_law_86 (lv_at hl 0 rfl) ?_
      refine lv_bipush (v := 18) hx hb dL_law_88 (by decide) ?_
      refine lv_irem hx hb dL_law_90 (by decide) ?_
      unfold wayOf at hgo
      rw [if_pos c_6] at hgo
      exact hgo
    · refine lv_iload hx hb dL_law_79 (lv_at hl 0 rfl) ?_
      refine lv_iconst (v := 2) hx hb dL_law_81 (by decide) ?_
      refine lv_irem hx hb dL_law_82 (by decide) ?_
      refine lv_goto (tgt := 91) hx hb dL_law_83 (by decide) ?_
      unfold wayOf at hgo
      rw [if_neg c_6] at hgo
      exact hgo
def K0_L : SLaw := up (fun _ _ => 0) 3 (upd (fun _ => 0) (Int32.toNatClampNeg 7) 3)
theorem lm_born {D : va_G} {cI cP : ClassId} {A : Nat → Prop} {H : Heap} {o h : Nat} {tx tn : Nat → Nat} {Ad : Nat → Nat → Nat} {K : SMain} {q2 q3 q4 q5 q6 : Nat}
    (hP : va_P D vwCl ([wMain cI cP o h tx tn Ad K, [(q2, .inl (cI, 36, .inl (fun _ => 0)))], [(q3, .inl (cI, 64, .inl (fun _ => 0)))], [(q4, .inl (cI, 32, .inl (fun _ => 0)))], [(q5, .inl (cI, 8, .inl (fun _ => 0)))], [(q6, .inl (cI, 36, .inl (fun _ => 0)))]] : List va_W).flatten H)
    (hD : va_D A ([wMain cI cP o h tx tn Ad K, [(q2, .inl (cI, 36, .inl (fun _ => 0)))], [(q3, .inl (cI, 64, .inl (fun _ => 0)))], [(q4, .inl (cI, 32, .inl (fun _ => 0)))], [(q5, .inl (cI, 8, .inl (fun _ => 0)))], [(q6, .inl (cI, 36, .inl (fun _ => 0)))]] : List va_W).flatten) :
    va_P D vwCl (wLM cI cP o h tx tn Ad (fun k => [q2, q3, q4, q5, q6].getD k 0) ((fun _ _ => 0), K)) H ∧ va_D A (wLM cI cP o h tx tn Ad (fun k => [q2, q3, q4, q5, q6].getD k 0) ((fun _ _ => 0), K)) := by
  have pm := (List.perm_append_comm (l₁ := ([wMain cI cP o h tx tn Ad K] : List va_W)) (l₂ := [[(q2, .inl (cI, 36, .inl (fun _ => 0)))], [(q3, .inl (cI, 64, .inl (fun _ => 0)))], [(q4, .inl (cI, 32, .inl (fun _ => 0)))], [(q5, .inl (cI, 8, .inl (fun _ => 0)))], [(q6, .inl (cI, 36, .inl (fun _ => 0)))]])).flatten
  have e : wLM cI cP o h tx tn Ad (fun k => [q2, q3, q4, q5, q6].getD k 0) ((fun _ _ => 0), K) = (([[(q2, .inl (cI, 36, .inl (fun _ => 0)))], [(q3, .inl (cI, 64, .inl (fun _ => 0)))], [(q4, .inl (cI, 32, .inl (fun _ => 0)))], [(q5, .inl (cI, 8, .inl (fun _ => 0)))], [(q6, .inl (cI, 36, .inl (fun _ => 0)))]] : List va_W) ++ [wMain cI cP o h tx tn Ad K]).flatten := rfl
  rw [e]
  refine ⟨vP_iff.mpr fun q hq => vP_iff.mp hP q (pm.mem_iff.mpr hq), vD_iff.mpr ⟨?_, fun q hq => (vD_iff.mp hD).2 q (pm.mem_iff.mpr hq)⟩⟩
  exact (pm.map (fun q => q.1)).nodup_iff.mp (vD_iff.mp hD).1
theorem cx_born {b : Nat} {s : State} (htsL : ∀ w ∈ lw_tbl, w.before #[Value.ref b] s = true) (hts : ∀ w ∈ ALL, w.before #[Value.ref b] s = true) : ∃ (D : va_G) (cI cP : ClassId), Cx D cI cP s ∧ va_AO RX1 s := by
  obtain ⟨kX0, iX0, hX0⟩ := u_known (C := RX0) (T := TX0) (N := 3) (n := 3) hts uw_X0 (hts _ q_123)
  obtain ⟨kX1, iX1, hX1⟩ := u_known (C := RX1) (T := TX1) (N := 13) (n := 13) hts uw_X1 (hts _ q_66)
  obtain ⟨kX2, iX2, hX2⟩ := u_known (C := RX2) (T := TX2) (N := 1) (n := 1) hts uw_X2 (hts _ q_72)
  obtain ⟨kX3, iX3, hX3⟩ := u_known (C := RX3) (T := TX3) (N := 6) (n := 6) hts uw_X3 (hts _ q_86)
  obtain ⟨kX4, iX4, hX4⟩ := u_known (C := RX4) (T := TX4) (N := 5) (n := 5) hts uw_X4 (hts _ q_214)
  obtain ⟨kX5, iX5, hX5⟩ := u_known (C := RX5) (T := TX5) (N := 3) (n := 3) hts uw_X5 (hts _ q_198)
  obtain ⟨kX6, iX6, hX6⟩ := u_known (C := RX6) (T := TX6) (N := 11) (n := 11) hts uw_X6 (hts _ q_58)
  have hO : va_AO RX1 s := va_AO.of (htsL (Cond.arrayOver (.object RX1)) (List.mem_of_getElem? (i := 196) (by decide +kernel)))
  obtain ⟨cI, kA, comp, f1, f2, f3⟩ := Cond.arrayClass_spec (hts _ q_84)
  obtain ⟨compP, cP, kP, g1, g2, g3, g4, g5⟩ := Cond.arrayOver_spec hO
  refine ⟨(fun k => if k = 0 then kX0 else if k = 1 then kX1 else if k = 2 then kX2 else if k = 3 then kX3 else if k = 4 then kX4 else if k = 5 then kX5 else kX6, fun k => if k = 0 then iX0 else if k = 1 then iX1 else if k = 2 then iX2 else if k = 3 then iX3 else if k = 4 then iX4 else if k = 5 then iX5 else iX6), cI, cP, ⟨⟨?_, ?_⟩, fun w hw => va_Nw.of (nst_tab hw) (htsL w (List.mem_filter.mp hw).1)⟩, hO⟩
  · intro k q hq
    match k, hq with
    | 0, hq => cases hq; exact hX0
    | 1, hq => cases hq; exact hX1
    | 2, hq => cases hq; exact hX2
    | 3, hq => cases hq; exact hX3
    | 4, hq => cases hq; exact hX4
    | 5, hq => cases hq; exact hX5
    | 6, hq => cases hq; exact hX6
    | k + 7, hq => simp [vwCl] at hq
  · intro k q hq
    match k, hq with
    | 0, hq =>
      cases hq
      exact ⟨fun N z => ⟨(fun k h => by cases h), kA, f2, comp, f3⟩, f1⟩
    | 1, hq =>
      cases hq
      exact ⟨fun N z => ⟨(fun k h => by cases h), kP, g3, compP, g4⟩, kP, compP, g3, g4, g1, g5⟩
    | k + 2, hq => simp at hq
set_option maxHeartbeats 16000000 in
set_option maxRecDepth 100000 in
theorem whole_open {p : Program} {e : Env} {s : State} {m : MethodId} {below : List Frame} {meth : Method} {c : Code} (l : Launch) {b L : Nat} {xs : Nat → Int32} (hL : L ≤ 260) (C0 : lw_At p s m meth c b L xs) {Rel : Nat → SLM → Prop} (op_step : Op_step Rel) (hR0 : Rel 0 (K0_L, K0_X6)) : W p l e room_1 s m #[Value.ref b] below meth c s.heap [] 0 0 (lw_Z below #[Value.ref b] s) (entryFrame m ([Value.ref b] : List Value).toArray 9) := by
  obtain ⟨hx, hb, hr0, hml, hown, htsL, hXs, hbl, hlocks, hgv⟩ := id C0
  have hts : ∀ w ∈ ALL, w.before #[Value.ref b] s = true := fun w h => htsL w (List.mem_filter.mp h).1
  have hA : ∀ q : Nat, s.heap.size ≤ q → (fun q : Nat => s.heap.size ≤ q) q := fun _ h => h
  have F : Fx p s m #[Value.ref b] meth c RL cL_law 9 (some .boolean) := ⟨hx, hb, hml, hown, hts, hr0, hlocks⟩
  obtain ⟨D, cI, cP, hX, hO⟩ := cx_born htsL hts
  have hS : va_S (fun q : Nat => s.heap.size ≤ q) s.heap s.heap [] := va_S.rf
  have hP : va_P D vwCl ([] : va_W) s.heap := fun k q h => by simp at h
  have hD : va_D (fun q : Nat => s.heap.size ≤ q) ([] : va_W) := ⟨fun i j p q h => by simp at h, fun k q h => by simp at h⟩
  have hl := lv_entry ([.ref b]) (n := 9) (Nat.le_of_ble_eq_true rfl)
  rw [lg_entry_eq]
  generalize (lg_sl ([.ref b]) ++ List.replicate (9 - (lg_sl ([.ref b])).length) Slot.unset).toArray = ls at hl ⊢
  have hl : lv_has ls 9 [(0, .ref b)] := hl
  refine va_new (ci := 6) (fs := [.null, .null, .null, .int 0, .int 0, .null, .null, .int 0, .int 0, .int 0, .int 0]) (C := RX6) (T := TX6) (N := 11) hx hb hts uw_X6 tyX6 tyX6_ok hown (hts _ q_57) (hts _ q_58) (hts _ q_48) hX.1 hP hD hS hA rfl (fun j hj => by rcases (show j = 0 ∨ j = 1 ∨ j = 2 ∨ j = 3 ∨ j = 4 ∨ j = 5 ∨ j = 6 ∨ j = 7 ∨ j = 8 ∨ j = 9 ∨ j = 10 by omega) with rfl | rfl | rfl | rfl | rfl | rfl | rfl | rfl | rfl | rfl | rfl <;> rfl) (Nat.le_of_ble_eq_true rfl) (Nat.le_of_ble_eq_true rfl) dL_law_0 (fun q1 H hP hD hS => ?_)
  have hP : va_P D vwCl (([] : List va_W) ++ ([[(q1, .inr (6, [.null, .null, .null, .int 0, .int 0, .null, .null, .int 0, .int 0, .int 0, .int 0]))]] : List va_W)).flatten H := by simpa using hP
  have hD : va_D (fun q : Nat => s.heap.size ≤ q) (([] : List va_W) ++ ([[(q1, .inr (6, [.null, .null, .null, .int 0, .int 0, .null, .null, .int 0, .int 0, .int 0, .int 0]))]] : List va_W)).flatten := by simpa using hD
  refine lv_dup hx hb dL_law_3 rfl ?_
  refine k_newI (rm := rm_X6_init) (mc := 159) (ms := 1392) (As := []) (rest := [.ref q1]) (X := []) F hX hO q_59 q_60 q_48 q_61 rfl (by decide +kernel) ⟨rfl, rfl⟩ ⟨Nat.le_of_ble_eq_true rfl, Nat.le_of_ble_eq_true rfl⟩ hl.1 rfl rfl (Nat.le_of_ble_eq_true rfl) dL_law_4 ⟨Nat.le_of_ble_eq_true rfl, Nat.le_of_ble_eq_true rfl⟩ (c_X6_init l D cI cP q1) hP hD hS hA (fun B' H locs hW2 hPn hDn hS => ?_)
  obtain ⟨h, tx, tn, Ad, rfl⟩ := hW2
  have hP : va_P D vwCl ([wMain cI cP q1 h tx tn Ad K0_X6] : List va_W).flatten H := hPn
  have hD : va_D (fun q : Nat => s.heap.size ≤ q) ([wMain cI cP q1 h tx tn Ad K0_X6] : List va_W).flatten := hDn
  clear hPn hDn
  refine lv_astore_n (lv' := [(1, .ref q1), (0, .ref b)]) hx hb dL_law_7 rfl hl (by decide) rfl (fun ls hl => ?_)
  refine lv_bipush (v := 36) hx hb dL_law_8 (by decide) ?_
  refine va_newa (atype := .int) hx hb (hts _ q_84) rfl hX.1 hP hD hS hA (N' := 36) (a0 := (36, .inl (fun _ => 0))) (fun _ => rfl) (by decide) (by decide) (by decide) (Nat.le_of_ble_eq_true rfl) (Nat.le_of_ble_eq_true rfl) dL_law_10 (fun q2 cA H hK2 hP hD hS => ?_)
  rw [arr_one (tys := []) hK2] at hP hD
  clear hK2
  rw [fl_push] at hP hD
  have hP : va_P D vwCl ([wMain cI cP q1 h tx tn Ad K0_X6, [(q2, .inl (cI, 36, .inl (fun _ => 0)))]] : List va_W).flatten H := hP
  have hD : va_D (fun q : Nat => s.heap.size ≤ q) ([wMain cI cP q1 h tx tn Ad K0_X6, [(q2, .inl (cI, 36, .inl (fun _ => 0)))]] : List va_W).flatten := hD
  refine lv_astore_n (lv' := [(2, .ref q2), (1, .ref q1), (0, .ref b)]) hx hb dL_law_12 rfl hl (by decide) rfl (fun ls hl => ?_)
  refine lv_bipush (v := 64) hx hb dL_law_13 (by decide) ?_
  refine va_newa (atype := .int) hx hb (hts _ q_84) rfl hX.1 hP hD hS hA (N' := 64) (a0 := (64, .inl (fun _ => 0))) (fun _ => rfl) (by decide) (by decide) (by decide) (Nat.le_of_ble_eq_true rfl) (Nat.le_of_ble_eq_true rfl) dL_law_15 (fun q3 cA H hK2 hP hD hS => ?_)
  rw [arr_one (tys := []) hK2] at hP hD
  clear hK2
  rw [fl_push] at hP hD
  have hP : va_P D vwCl ([wMain cI cP q1 h tx tn Ad K0_X6, [(q2, .inl (cI, 36, .inl (fun _ => 0)))], [(q3, .inl (cI, 64, .inl (fun _ => 0)))]] : List va_W).flatten H := hP
  have hD : va_D (fun q : Nat => s.heap.size ≤ q) ([wMain cI cP q1 h tx tn Ad K0_X6, [(q2, .inl (cI, 36, .inl (fun _ => 0)))], [(q3, .inl (cI, 64, .inl (fun _ => 0)))]] : List va_W).flatten := hD
  refine lv_astore_n (lv' := [(3, .ref q3), (2, .ref q2), (1, .ref q1), (0, .ref b)]) hx hb dL_law_17 rfl hl (by decide) rfl (fun ls hl => ?_)
  refine lv_bipush (v := 32) hx hb dL_law_18 (by decide) ?_
  refine va_newa (atype := .int) hx hb (hts _ q_84) rfl hX.1 hP hD hS hA (N' := 32) (a0 := (32, .inl (fun _ => 0))) (fun _ => rfl) (by decide) (by decide) (by decide) (Nat.le_of_ble_eq_true rfl) (Nat.le_of_ble_eq_true rfl) dL_law_20 (fun q4 cA H hK2 hP hD hS => ?_)
  rw [arr_one (tys := []) hK2] at hP hD
  clear hK2
  rw [fl_push] at hP hD
  have hP : va_P D vwCl ([wMain cI cP q1 h tx tn Ad K0_X6, [(q2, .inl (cI, 36, .inl (fun _ => 0)))], [(q3, .inl (cI, 64, .inl (fun _ => 0)))], [(q4, .inl (cI, 32, .inl (fun _ => 0)))]] : List va_W).flatten H := hP
  have hD : va_D (fun q : Nat => s.heap.size ≤ q) ([wMain cI cP q1 h tx tn Ad K0_X6, [(q2, .inl (cI, 36, .inl (fun _ => 0)))], [(q3, .inl (cI, 64, .inl (fun _ => 0)))], [(q4, .inl (cI, 32, .inl (fun _ => 0)))]] : List va_W).flatten := hD
  refine lv_astore (lv' := [(4, .ref q4), (3, .ref q3), (2, .ref q2), (1, .ref q1), (0, .ref b)]) hx hb dL_law_22 hl (by decide) rfl (fun ls hl => ?_)
  refine lv_bipush (v := 8) hx hb dL_law_24 (by decide) ?_
  refine va_newa (atype := .int) hx hb (hts _ q_84) rfl hX.1 hP hD hS hA (N' := 8) (a0 := (8, .inl (fun _ => 0))) (fun _ => rfl) (by decide) (by decide) (by decide) (Nat.le_of_ble_eq_true rfl) (Nat.le_of_ble_eq_true rfl) dL_law_26 (fun q5 cA H hK2 hP hD hS => ?_)
  rw [arr_one (tys := []) hK2] at hP hD
  clear hK2
  rw [fl_push] at hP hD
  have hP : va_P D vwCl ([wMain cI cP q1 h tx tn Ad K0_X6, [(q2, .inl (cI, 36, .inl (fun _ => 0)))], [(q3, .inl (cI, 64, .inl (fun _ => 0)))], [(q4, .inl (cI, 32, .inl (fun _ => 0)))], [(q5, .inl (cI, 8, .inl (fun _ => 0)))]] : List va_W).flatten H := hP
  have hD : va_D (fun q : Nat => s.heap.size ≤ q) ([wMain cI cP q1 h tx tn Ad K0_X6, [(q2, .inl (cI, 36, .inl (fun _ => 0)))], [(q3, .inl (cI, 64, .inl (fun _ => 0)))], [(q4, .inl (cI, 32, .inl (fun _ => 0)))], [(q5, .inl (cI, 8, .inl (fun _ => 0)))]] : List va_W).flatten := hD
  refine lv_astore (lv' := [(5, .ref q5), (4, .ref q4), (3, .ref q3), (2, .ref q2), (1, .ref q1), (0, .ref b)]) hx hb dL_law_28 hl (by decide) rfl (fun ls hl => ?_)
  refine lv_bipush (v := 36) hx hb dL_law_30 (by decide) ?_
  refine va_newa (atype := .int) hx hb (hts _ q_84) rfl hX.1 hP hD hS hA (N' := 36) (a0 := (36, .inl (fun _ => 0))) (fun _ => rfl) (by decide) (by decide) (by decide) (Nat.le_of_ble_eq_true rfl) (Nat.le_of_ble_eq_true rfl) dL_law_32 (fun q6 cA H hK2 hP hD hS => ?_)
  rw [arr_one (tys := []) hK2] at hP hD
  clear hK2
  rw [fl_push] at hP hD
  have hP : va_P D vwCl ([wMain cI cP q1 h tx tn Ad K0_X6, [(q2, .inl (cI, 36, .inl (fun _ => 0)))], [(q3, .inl (cI, 64, .inl (fun _ => 0)))], [(q4, .inl (cI, 32, .inl (fun _ => 0)))], [(q5, .inl (cI, 8, .inl (fun _ => 0)))], [(q6, .inl (cI, 36, .inl (fun _ => 0)))]] : List va_W).flatten H := hP
  have hD : va_D (fun q : Nat => s.heap.size ≤ q) ([wMain cI cP q1 h tx tn Ad K0_X6, [(q2, .inl (cI, 36, .inl (fun _ => 0)))], [(q3, .inl (cI, 64, .inl (fun _ => 0)))], [(q4, .inl (cI, 32, .inl (fun _ => 0)))], [(q5, .inl (cI, 8, .inl (fun _ => 0)))], [(q6, .inl (cI, 36, .inl (fun _ => 0)))]] : List va_W).flatten := hD
  refine lv_astore (lv' := [(6, .ref q6), (5, .ref q5), (4, .ref q4), (3, .ref q3), (2, .ref q2), (1, .ref q1), (0, .ref b)]) hx hb dL_law_34 hl (by decide) rfl (fun ls hl => ?_)
  obtain ⟨hP, hD⟩ := lm_born hP hD
  obtain ⟨a, ha⟩ : ∃ a : Nat → Nat, a = (fun k => [q2, q3, q4, q5, q6].getD k 0) := ⟨_, rfl⟩
  rw [← ha] at hP hD
  have hq2 : q2 = a 0 := by rw [ha]; rfl
  have hq3 : q3 = a 1 := by rw [ha]; rfl
  have hq4 : q4 = a 2 := by rw [ha]; rfl
  have hq5 : q5 = a 3 := by rw [ha]; rfl
  have hq6 : q6 = a 4 := by rw [ha]; rfl
  rw [hq2, hq3, hq4, hq5, hq6] at hl
  clear hq2 hq3 hq4 hq5 hq6 ha
  refine lv_aload hx hb dL_law_36 (lv_at hl 1 rfl) ?_
  refine lv_bipush (v := 7) hx hb dL_law_38 (by decide) ?_
  refine lv_iconst (v := 3) hx hb dL_law_40 (by decide) ?_
  refine va_iast hx hb hX.1 hP hD hS 3 0 (n := 8) (f := fun _ => 0) rfl rfl (by decide : ¬ ((7 : Int32) < 0 ∨ 8 ≤ Int32.toNatClampNeg 7)) dL_law_41 (fun H locs hP hD hS => ?_)
  have hP : va_P D vwCl (wLM cI cP q1 h tx tn Ad a (K0_L, K0_X6)) H := hP
  have hD : va_D (fun q : Nat => s.heap.size ≤ q) (wLM cI cP q1 h tx tn Ad a (K0_L, K0_X6)) := hD
  refine lv_iconst (v := 0) hx hb dL_law_42 (by decide) ?_
  refine lv_istore (lv' := [(7, .int 0), (6, .ref (a 4)), (5, .ref (a 3)), (4, .ref (a 2)), (3, .ref (a 1)), (2, .ref (a 0)), (1, .ref q1), (0, .ref b)]) hx hb dL_law_43 hl (by decide) rfl (fun ls hl => ?_)
  exact law_loop_open op_step hL F hX hXs hbl 65 0 (K0_L, K0_X6) _ _ ls (by omega) (by omega) hR0 hP hD hS (lv_sub hl [0, 7, 6, 5, 4, 3, 2, 1] rfl)
