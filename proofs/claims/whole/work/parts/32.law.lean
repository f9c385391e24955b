theorem law_in {L i : Nat} (hL : L ≤ 2560) (h1 : i ≤ L + 5) (hc : ¬ (Int32.ofNat L - 5 < nI i)) : i + 4 < L := by
  have e1 : (nI i).toInt = (i : Int) := nI_toInt (by omega)
  have e2 : (Int32.ofNat L - 5).toInt = (L : Int) - 5 := by
    have := pk_sub_toInt (a := L) (b := 5) (by omega) (by omega)
    exact this
  have h3 : ¬ ((Int32.ofNat L - 5).toInt < (nI i).toInt) := fun h => hc (Int32.lt_iff_toInt_lt.mpr h)
  rw [e1, e2] at h3
  omega
/-! what each call of the law asks of a relation -/
def Op_puppet (Rel : SMain → SMod → Prop) : Prop := ∀ (K : SMain) (M : SMod) (a0 a1 : Int32), Rel K M → ∃ (u : SMain × Int32) (v : SMod × Int32), (X6_puppet K a0 a1) = some u ∧ (X7_puppet M a0 a1) = some v ∧ u.2 = v.2 ∧ Rel u.1 v.1
def Op_tie (Rel : SMain → SMod → Prop) : Prop := ∀ (K : SMain) (M : SMod) (a0 a1 a2 a3 : Int32), (a2 = 0 ∨ a2 = 1) → Rel K M → ∃ (u : SMain × Int32) (v : SMod × Int32), (X6_tie K a0 a1 a2 a3) = some u ∧ (X7_tie M a0 a1 a2 a3) = some v ∧ u.2 = v.2 ∧ Rel u.1 v.1
def Op_cut (Rel : SMain → SMod → Prop) : Prop := ∀ (K : SMain) (M : SMod) (a0 : Int32), Rel K M → ∃ (u : SMain × Int32) (v : SMod × Int32), (X6_cut K a0) = some u ∧ (X7_cut M a0) = some v ∧ u.2 = v.2 ∧ Rel u.1 v.1
def Op_cutDeal (Rel : SMain → SMod → Prop) : Prop := ∀ (K : SMain) (M : SMod) (a0 : Int32), Rel K M → ∃ (u : SMain × Int32) (v : SMod × Int32), (X6_cutDeal K a0) = some u ∧ (X7_cutDeal M a0) = some v ∧ u.2 = v.2 ∧ Rel u.1 v.1
def Op_pull (Rel : SMain → SMod → Prop) : Prop := ∀ (K : SMain) (M : SMod) (a0 a1 : Int32), Rel K M → ∃ (u : SMain × Int32) (v : SMod × Int32), (X6_pull K a0 a1) = some u ∧ (X7_pull M a0 a1) = some v ∧ u.2 = v.2 ∧ Rel u.1 v.1
def Op_release (Rel : SMain → SMod → Prop) : Prop := ∀ (K : SMain) (M : SMod) (a0 : Int32), Rel K M → ∃ (u : SMain × Int32) (v : SMod × Int32), (X6_release K a0) = some u ∧ (X7_release M a0) = some v ∧ u.2 = v.2 ∧ Rel u.1 v.1
def Op_session (Rel : SMain → SMod → Prop) : Prop := ∀ (K : SMain) (M : SMod), Rel K M → ∃ (u : SMain × Int32) (v : SMod × Int32), (X6_session K) = some u ∧ (X7_session M) = some v ∧ u.2 = v.2 ∧ Rel u.1 v.1
def Op_set (Rel : SMain → SMod → Prop) : Prop := ∀ (K : SMain) (M : SMod) (a0 a1 : Int32), Rel K M → ∃ (u : SMain × Int32) (v : SMod × Int32), (X6_set K a0 a1) = some u ∧ (X7_set M a0 a1) = some v ∧ u.2 = v.2 ∧ Rel u.1 v.1
def Op_puppetOf (Rel : SMain → SMod → Prop) : Prop := ∀ (K : SMain) (M : SMod) (a0 a1 : Int32), Rel K M → ∃ (u : Int32) (v : SMod × Int32), (X6_puppetOf K a0 a1) = some u ∧ (X7_puppetOf M a0 a1) = some v ∧ u = v.2 ∧ Rel K v.1
def Op_stringOf (Rel : SMain → SMod → Prop) : Prop := ∀ (K : SMain) (M : SMod) (a0 a1 : Int32), Rel K M → ∃ (u : SMain × Int32) (v : SMod × Int32), (X6_stringOf K a0 a1) = some u ∧ (X7_stringOf M a0 a1) = some v ∧ u.2 = v.2 ∧ Rel u.1 v.1
def Op_between (Rel : SMain → SMod → Prop) : Prop := ∀ (K : SMain) (M : SMod) (a0 a1 : Int32), Rel K M → ∃ (u : Int32) (v : Int32), (X6_between K a0 a1) = some u ∧ (X7_between M a0 a1) = some v ∧ u = v ∧ Rel K M
def Op_book (Rel : SMain → SMod → Prop) : Prop := ∀ (K : SMain) (M : SMod) (a0 a1 : Int32), Rel K M → ∃ (v : Int32), (X7_book M a0 a1) = some v ∧ (X6_book K a0 a1) = v ∧ Rel K M
def Op_whyTie (Rel : SMain → SMod → Prop) : Prop := ∀ (K : SMain) (M : SMod) (a0 a1 a2 : Int32), (a2 = 0 ∨ a2 = 1) → Rel K M → ∃ (u : Int32) (v : SMod × Int32), (X6_whyTie K a0 a1 a2) = some u ∧ (X7_whyTie M a0 a1 a2) = some v ∧ u = v.2 ∧ Rel K v.1
def Op_whyPull (Rel : SMain → SMod → Prop) : Prop := ∀ (K : SMain) (M : SMod) (a0 a1 : Int32), Rel K M → ∃ (u : Int32) (v : SMod × Int32), (X6_whyPull K a0 a1) = some u ∧ (X7_whyPull M a0 a1) = some v ∧ u = v.2 ∧ Rel K v.1
def Op_bestPull (Rel : SMain → SMod → Prop) : Prop := ∀ (K : SMain) (M : SMod) (a0 : Int32), Rel K M → ∃ (u : SMain × Int32) (v : SMod × Int32), (X6_bestPull K a0) = some u ∧ (X7_bestPull M a0) = some v ∧ u.2 = v.2 ∧ Rel u.1 v.1
def Op_fewest (Rel : SMain → SMod → Prop) : Prop := ∀ (K : SMain) (M : SMod) (a0 : Int32), Rel K M → ∃ (u : SMain × Int32) (v : SMod × Int32), (X6_fewest K a0) = some u ∧ (X7_fewest M a0) = some v ∧ u.2 = v.2 ∧ Rel u.1 v.1
def Op_ifCut (Rel : SMain → SMod → Prop) : Prop := ∀ (K : SMain) (M : SMod) (a0 a1 : Int32), Rel K M → ∃ (u : SMain × Int32) (v : SMod × Int32), (X6_ifCut K a0 a1) = some u ∧ (X7_ifCut M a0 a1) = some v ∧ u.2 = v.2 ∧ Rel u.1 v.1
def Op_share (Rel : SMain → SMod → Prop) : Prop := ∀ (K : SMain) (M : SMod), Rel K M → ∃ (u : Int32) (v : SMod × Int32), (X6_share K) = some u ∧ (X7_share M) = some v ∧ u = v.2 ∧ Rel K v.1
def Op_count (Rel : SMain → SMod → Prop) : Prop := ∀ (K : SMain) (M : SMod) (a0 : Int32), Rel K M → ∃ (u : Int32) (v : SMod × Int32), (X6_count K a0) = some u ∧ (X7_count M a0) = some v ∧ u = v.2 ∧ Rel K v.1
def Op_undo (Rel : SMain → SMod → Prop) : Prop := ∀ (K : SMain) (M : SMod), Rel K M → ∃ (u : SMain × Int32) (v : SMod × Int32), (X6_undo K) = some u ∧ (X7_undo M) = some v ∧ u.2 = v.2 ∧ Rel u.1 v.1
def Op_type (Rel : SMain → SMod → Prop) : Prop := ∀ (K : SMain) (M : SMod) (a0 : Int32), Rel K M → ∃ (v : SMod × Int32), (X7_type M a0) = some v ∧ (X6_type K a0).2 = v.2 ∧ Rel (X6_type K a0).1 v.1
def Op_clearText (Rel : SMain → SMod → Prop) : Prop := ∀ (K : SMain) (M : SMod), Rel K M → (X6_clearText K).2 = (X7_clearText M).2 ∧ Rel (X6_clearText K).1 (X7_clearText M).1
def Op_fault (Rel : SMain → SMod → Prop) : Prop := ∀ (K : SMain) (M : SMod) (a0 : Int32), Rel K M → ∃ (u : SMain × Int32) (v : SMod × Int32), (X6_fault K a0) = some u ∧ (X7_fault M a0) = some v ∧ u.2 = v.2 ∧ Rel u.1 v.1
def Op_play (Rel : SMain → SMod → Prop) : Prop := ∀ (K : SMain) (M : SMod), Rel K M → ∃ (u : SMain × Int32) (v : SMod × Int32), (X6_play K) = some u ∧ (X7_play M) = some v ∧ u.2 = v.2 ∧ Rel u.1 v.1
theorem cx_born {b : Nat} {s : State} (htsL : ∀ w ∈ lw_tbl, w.before #[Value.ref b] s = true) (hts : ∀ w ∈ ALL, w.before #[Value.ref b] s = true) : ∃ (D : va_G) (cI cP : ClassId), Cx D cI cP s ∧ va_AO RX1 s := by
  obtain ⟨kX0, iX0, hX0⟩ := u_known (C := RX0) (T := TX0) (N := 3) (n := 3) hts uw_X0 (hts _ q_178)
  obtain ⟨kX1, iX1, hX1⟩ := u_known (C := RX1) (T := TX1) (N := 13) (n := 13) hts uw_X1 (hts _ q_121)
  obtain ⟨kX2, iX2, hX2⟩ := u_known (C := RX2) (T := TX2) (N := 1) (n := 1) hts uw_X2 (hts _ q_127)
  obtain ⟨kX3, iX3, hX3⟩ := u_known (C := RX3) (T := TX3) (N := 6) (n := 6) hts uw_X3 (hts _ q_141)
  obtain ⟨kX4, iX4, hX4⟩ := u_known (C := RX4) (T := TX4) (N := 5) (n := 5) hts uw_X4 (hts _ q_274)
  obtain ⟨kX5, iX5, hX5⟩ := u_known (C := RX5) (T := TX5) (N := 3) (n := 3) hts uw_X5 (hts _ q_256)
  obtain ⟨kX6, iX6, hX6⟩ := u_known (C := RX6) (T := TX6) (N := 11) (n := 11) hts uw_X6 (hts _ q_113)
  obtain ⟨kX7, iX7, hX7⟩ := u_known (C := RX7) (T := TX7) (N := 18) (n := 18) hts uw_X7 (hts _ q_751)
  have hO : va_AO RX1 s := va_AO.of (htsL (Cond.arrayOver (.object RX1)) (List.mem_of_getElem? (i := 254) (by decide +kernel)))
  obtain ⟨cI, kA, comp, f1, f2, f3⟩ := Cond.arrayClass_spec (hts _ q_139)
  obtain ⟨compP, cP, kP, g1, g2, g3, g4, g5⟩ := Cond.arrayOver_spec hO
  refine ⟨(fun k => if k = 0 then kX0 else if k = 1 then kX1 else if k = 2 then kX2 else if k = 3 then kX3 else if k = 4 then kX4 else if k = 5 then kX5 else if k = 6 then kX6 else kX7, fun k => if k = 0 then iX0 else if k = 1 then iX1 else if k = 2 then iX2 else if k = 3 then iX3 else if k = 4 then iX4 else if k = 5 then iX5 else if k = 6 then iX6 else iX7), cI, cP, ⟨⟨?_, ?_⟩, fun w hw => va_Nw.of (nst_tab hw) (htsL w (List.mem_filter.mp hw).1)⟩, hO⟩
  · intro k q hq
    match k, hq with
    | 0, hq => cases hq; exact hX0
    | 1, hq => cases hq; exact hX1
    | 2, hq => cases hq; exact hX2
    | 3, hq => cases hq; exact hX3
    | 4, hq => cases hq; exact hX4
    | 5, hq => cases hq; exact hX5
    | 6, hq => cases hq; exact hX6
    | 7, hq => cases hq; exact hX7
    | k + 8, hq => simp [vwCl] at hq
  · intro k q hq
    match k, hq with
    | 0, hq =>
      cases hq
      exact ⟨fun N z => ⟨(fun k h => by cases h), kA, f2, comp, f3⟩, f1⟩
    | 1, hq =>
      cases hq
      exact ⟨fun N z => ⟨(fun k h => by cases h), kP, g3, compP, g4⟩, kP, compP, g3, g4, g1, g5⟩
    | k + 2, hq => simp at hq
set_option maxHeartbeats 16000000 in
set_option maxRecDepth 100000 in
/-- THE LAW'S LOOP, open in the relation and what the calls do to it -/
theorem law_loop_open {p : Program} {l : Launch} {e : Env} {s : State} {m : MethodId} {below : List Frame} {meth : Method} {c : Code} {D : va_G} {cI cP : ClassId} {b L : Nat} {xs : Nat → Int32} {Rel : SMain → SMod → Prop} (op_puppet : Op_puppet Rel) (op_tie : Op_tie Rel) (op_cut : Op_cut Rel) (op_cutDeal : Op_cutDeal Rel) (op_pull : Op_pull Rel) (op_release : Op_release Rel) (op_session : Op_session Rel) (op_set : Op_set Rel) (op_puppetOf : Op_puppetOf Rel) (op_stringOf : Op_stringOf Rel) (op_between : Op_between Rel) (op_book : Op_book Rel) (op_whyTie : Op_whyTie Rel) (op_whyPull : Op_whyPull Rel) (op_bestPull : Op_bestPull Rel) (op_fewest : Op_fewest Rel) (op_ifCut : Op_ifCut Rel) (op_share : Op_share Rel) (op_count : Op_count Rel) (op_undo : Op_undo Rel) (op_type : Op_type Rel) (op_clearText : Op_clearText Rel) (op_fault : Op_fault Rel) (op_play : Op_play Rel) (hL : L ≤ 2560) (F : Fx p s m #[Value.ref b] meth c RL cL_law 4 (some .boolean)) (hX : Cx D cI cP s) (hXs : va_X b L xs s s.heap) (hbl : b < s.heap.size) {o h : Nat} {tx tn am : Nat → Nat} {Ad : Nat → Nat → Nat} :
    ∀ (n i : Nat) (K : SMain) (M : SMod) (H : Heap) (locs : List Loc) (ls : Array Slot), i ≤ L + 5 → L + 6 ≤ i + n → Rel K M → va_P D vwCl ([wMain cI cP o h tx tn Ad K, wMod cI am M] : List va_W).flatten H → va_D (fun q : Nat => s.heap.size ≤ q) ([wMain cI cP o h tx tn Ad K, wMod cI am M] : List va_W).flatten → va_S (fun q : Nat => s.heap.size ≤ q) s.heap H locs → lv_has ls 4 [(0, .ref b), (1, .ref o), (2, .ref (am 0)), (3, .int (nI i))] → W p l e room_1 s m #[Value.ref b] below meth c H locs 170 2468 (lw_Z below #[Value.ref b] s) (F0 m 18 ls []) := by
  have hx := F.1
  have hb := F.2.1
  have hown := F.2.2.2.1
  have hts := F.2.2.2.2.1
  have hr0 := F.2.2.2.2.2.1
  have hlocks := F.2.2.2.2.2.2
  have hA : ∀ q : Nat, s.heap.size ≤ q → (fun q : Nat => s.heap.size ≤ q) q := fun _ h => h
  have hbA : ¬ (fun q : Nat => s.heap.size ≤ q) b := Nat.not_le.mpr hbl
  intro n
  induction n with
  | zero =>
    intro i K M H locs ls h1 h2
    exact absurd h2 (by omega)
  | succ n ih =>
    intro i K M H locs ls h1 h2 hR hP hD hS hl
    refine lv_iload_n hx hb dL_law_18 rfl (lv_at hl 3 rfl) ?_
    refine lv_aload_n hx hb dL_law_19 rfl (lv_at hl 0 rfl) ?_
    refine va_slen hx hb hXs hbl hbA hS dL_law_20 ?_
    refine lv_iconst (v := 5) hx hb dL_law_21 (by decide) ?_
    refine lv_isub hx hb dL_law_22 ?_
    refine lv_icmp_gt (tgt := 824) hx hb dL_law_23 (by decide) (fun _ => ?_) (fun c_x => ?_)
    · refine lv_iconst (v := 1) hx hb dL_law_824 (by decide) ?_
      refine va_forget (fun q hq => hS.2.2 q hq) ?_
      refine W.widen (k := 600000) (n := 7302250) (Nat.le_of_ble_eq_true rfl) (Nat.le_of_ble_eq_true rfl) ?_
      exact lw_ret (d0 := s.drawn) (Drawn.sameBut.refl s.drawn lw_cs) hx hb hr0 hlocks dL_law_825
    have hlt : i + 4 < L := law_in hL h1 c_x
    have h_in0 : vp_in (nI i) L := by exact vp_in_nI (by omega) (by omega)
    have h_in1 : vp_in (nI i + 1) L := by rw [show (nI i + 1) = nI (i + 1) from nI_add i 1]; exact vp_in_nI (by omega) (by omega)
    have h_in2 : vp_in (nI i + 2) L := by rw [show (nI i + 2) = nI (i + 2) from nI_add i 2]; exact vp_in_nI (by omega) (by omega)
    have h_in3 : vp_in (nI i + 3) L := by rw [show (nI i + 3) = nI (i + 3) from nI_add i 3]; exact vp_in_nI (by omega) (by omega)
    have h_in4 : vp_in (nI i + 4) L := by rw [show (nI i + 4) = nI (i + 4) from nI_add i 4]; exact vp_in_nI (by omega) (by omega)
    refine lv_aload_n hx hb dL_law_26 rfl (lv_at hl 0 rfl) ?_
    refine lv_iload_n hx hb dL_law_27 rfl (lv_at hl 3 rfl) ?_
    refine va_sld hx hb hXs hbl hbA hS h_in0 dL_law_28 ?_
    refine lv_bipush (v := 31) hx hb dL_law_29 (by decide) ?_
    refine lv_iand hx hb dL_law_31 ?_
    rcases Decidable.em ((xs (Int32.toNatClampNeg (nI i)) &&& 31) = 0) with c_0 | c_0
    · refine lv_tableIn (off := 112) (tgt := 144) hx hb dL_law_32 (by rw [c_0]; decide) (by rw [c_0]; decide) (by rw [c_0]; rfl) (by decide) ?_
      refine lv_aload_n hx hb dL_law_144 rfl (lv_at hl 1 rfl) ?_
      refine lv_aload_n hx hb dL_law_145 rfl (lv_at hl 0 rfl) ?_
      refine lv_iload_n hx hb dL_law_146 rfl (lv_at hl 3 rfl) ?_
      refine lv_iconst (v := 1) hx hb dL_law_147 (by decide) ?_
      refine lv_iadd hx hb dL_law_148 ?_
      refine va_sld hx hb hXs hbl hbA hS h_in1 dL_law_149 ?_
      refine lv_aload_n hx hb dL_law_150 rfl (lv_at hl 0 rfl) ?_
      refine lv_iload_n hx hb dL_law_151 rfl (lv_at hl 3 rfl) ?_
      refine lv_iconst (v := 2) hx hb dL_law_152 (by decide) ?_
      refine lv_iadd hx hb dL_law_153 ?_
      refine va_sld hx hb hXs hbl hbA hS h_in2 dL_law_154 ?_
      obtain ⟨u, v, hu, hv, hr, hR2⟩ := op_puppet K M (xs (Int32.toNatClampNeg (nI i + 1))) (xs (Int32.toNatClampNeg (nI i + 2))) hR
      refine k_wi (runV F wdL_13 (rm := rm_X6_puppet) (As := [.int (xs (Int32.toNatClampNeg (nI i + 1))), .int (xs (Int32.toNatClampNeg (nI i + 2)))]) (rest := []) ⟨rfl, rfl⟩ ⟨Nat.le_of_ble_eq_true rfl, Nat.le_of_ble_eq_true rfl⟩ hl.1 rfl rfl (Nat.le_of_ble_eq_true rfl) dL_law_155 ⟨Nat.le_of_ble_eq_true rfl, Nat.le_of_ble_eq_true rfl⟩) (c_X6_puppet l D cI cP o h tx tn Ad K (xs (Int32.toNatClampNeg (nI i + 1))) (xs (Int32.toNatClampNeg (nI i + 2))) _ hu) hX (va_recv hX.1 (va_blk (Bs := [wMain cI cP o h tx tn Ad K, wMod cI am M]) hP 0 rfl) (ci := 6) (q0 := 0) rfl rfl) (Cut.one (Bs := [wMain cI cP o h tx tn Ad K, wMod cI am M]) (k := 0) rfl rfl) hP hD hS hA (fun H locs hP hD hS => ?_)
      have hP : va_P D vwCl ([wMain cI cP o h tx tn Ad u.1, wMod cI am M] : List va_W).flatten H := hP
      have hD : va_D (fun q : Nat => s.heap.size ≤ q) ([wMain cI cP o h tx tn Ad u.1, wMod cI am M] : List va_W).flatten := hD
      refine lv_aload_n hx hb dL_law_158 rfl (lv_at hl 2 rfl) ?_
      refine lv_aload_n hx hb dL_law_159 rfl (lv_at hl 0 rfl) ?_
      refine lv_iload_n hx hb dL_law_160 rfl (lv_at hl 3 rfl) ?_
      refine lv_iconst (v := 1) hx hb dL_law_161 (by decide) ?_
      refine lv_iadd hx hb dL_law_162 ?_
      refine va_sld hx hb hXs hbl hbA hS h_in1 dL_law_163 ?_
      refine lv_aload_n hx hb dL_law_164 rfl (lv_at hl 0 rfl) ?_
      refine lv_iload_n hx hb dL_law_165 rfl (lv_at hl 3 rfl) ?_
      refine lv_iconst (v := 2) hx hb dL_law_166 (by decide) ?_
      refine lv_iadd hx hb dL_law_167 ?_
      refine va_sld hx hb hXs hbl hbA hS h_in2 dL_law_168 ?_
      refine k_wi (runV F wdL_17 (rm := rm_X7_puppet) (As := [.int (xs (Int32.toNatClampNeg (nI i + 1))), .int (xs (Int32.toNatClampNeg (nI i + 2)))]) (rest := [.int u.2]) ⟨rfl, rfl⟩ ⟨Nat.le_of_ble_eq_true rfl, Nat.le_of_ble_eq_true rfl⟩ hl.1 rfl rfl (Nat.le_of_ble_eq_true rfl) dL_law_169 ⟨Nat.le_of_ble_eq_true rfl, Nat.le_of_ble_eq_true rfl⟩) (c_X7_puppet l D cI cP am M (xs (Int32.toNatClampNeg (nI i + 1))) (xs (Int32.toNatClampNeg (nI i + 2))) _ hv) hX (va_recv hX.1 (va_blk (Bs := [wMain cI cP o h tx tn Ad u.1, wMod cI am M]) hP 1 rfl) (ci := 7) (q0 := 0) rfl rfl) (Cut.one (Bs := [wMain cI cP o h tx tn Ad u.1, wMod cI am M]) (k := 1) rfl rfl) hP hD hS hA (fun H locs hP hD hS => ?_)
      have hP : va_P D vwCl ([wMain cI cP o h tx tn Ad u.1, wMod cI am v.1] : List va_W).flatten H := hP
      have hD : va_D (fun q : Nat => s.heap.size ≤ q) ([wMain cI cP o h tx tn Ad u.1, wMod cI am v.1] : List va_W).flatten := hD
      refine lv_icmp_eq (tgt := 818) hx hb dL_law_172 (by decide) (fun _ => ?_) (fun c0 => absurd hr c0)
      refine lv_iinc (v := nI (i + 5)) (lv' := [(3, .int (nI (i + 5))), (0, .ref b), (1, .ref o), (2, .ref (am 0))]) hx hb dL_law_818 hl (k := 3) rfl (by rw [← nI_add]; rfl) (by decide) rfl (fun ls hl => ?_)
      refine lv_goto (tgt := 18) hx hb dL_law_821 (by decide) ?_
      exact ih (i + 5) u.1 v.1 _ _ ls (by omega) (by omega) hR2 hP hD hS (lv_sub hl [1, 2, 3, 0] rfl)
    rcases Decidable.em ((xs (Int32.toNatClampNeg (nI i)) &&& 31) = 1) with c_1 | c_1
    · refine lv_tableIn (off := 145) (tgt := 177) hx hb dL_law_32 (by rw [c_1]; decide) (by rw [c_1]; decide) (by rw [c_1]; rfl) (by decide) ?_
      refine lv_aload_n hx hb dL_law_177 rfl (lv_at hl 1 rfl) ?_
      refine lv_aload_n hx hb dL_law_178 rfl (lv_at hl 0 rfl) ?_
      refine lv_iload_n hx hb dL_law_179 rfl (lv_at hl 3 rfl) ?_
      refine lv_iconst (v := 1) hx hb dL_law_180 (by decide) ?_
      refine lv_iadd hx hb dL_law_181 ?_
      refine va_sld hx hb hXs hbl hbA hS h_in1 dL_law_182 ?_
      refine lv_aload_n hx hb dL_law_183 rfl (lv_at hl 0 rfl) ?_
      refine lv_iload_n hx hb dL_law_184 rfl (lv_at hl 3 rfl) ?_
      refine lv_iconst (v := 2) hx hb dL_law_185 (by decide) ?_
      refine lv_iadd hx hb dL_law_186 ?_
      refine va_sld hx hb hXs hbl hbA hS h_in2 dL_law_187 ?_
      refine lv_aload_n hx hb dL_law_188 rfl (lv_at hl 0 rfl) ?_
      refine lv_iload_n hx hb dL_law_189 rfl (lv_at hl 3 rfl) ?_
      refine lv_iconst (v := 3) hx hb dL_law_190 (by decide) ?_
      refine lv_iadd hx hb dL_law_191 ?_
      refine va_sld hx hb hXs hbl hbA hS h_in3 dL_law_192 ?_
      refine lv_if_eq (tgt := 200) hx hb dL_law_193 (by decide) (fun cb3 => ?_) (fun cb3 => ?_)
      · refine lv_iconst (v := 0) hx hb dL_law_200 (by decide) ?_
        refine lv_aload_n hx hb dL_law_201 rfl (lv_at hl 0 rfl) ?_
        refine lv_iload_n hx hb dL_law_202 rfl (lv_at hl 3 rfl) ?_
        refine lv_iconst (v := 4) hx hb dL_law_203 (by decide) ?_
        refine lv_iadd hx hb dL_law_204 ?_
        refine va_sld hx hb hXs hbl hbA hS h_in4 dL_law_205 ?_
        obtain ⟨u, v, hu, hv, hr, hR2⟩ := op_tie K M (xs (Int32.toNatClampNeg (nI i + 1))) (xs (Int32.toNatClampNeg (nI i + 2))) 0 (xs (Int32.toNatClampNeg (nI i + 4))) (Or.inl rfl) hR
        refine k_wi (runV F wdL_18 (rm := rm_X6_tie) (As := [.int (xs (Int32.toNatClampNeg (nI i + 1))), .int (xs (Int32.toNatClampNeg (nI i + 2))), .int 0, .int (xs (Int32.toNatClampNeg (nI i + 4)))]) (rest := []) ⟨rfl, rfl⟩ ⟨Nat.le_of_ble_eq_true rfl, Nat.le_of_ble_eq_true rfl⟩ hl.1 rfl rfl (Nat.le_of_ble_eq_true rfl) dL_law_206 ⟨Nat.le_of_ble_eq_true rfl, Nat.le_of_ble_eq_true rfl⟩) (c_X6_tie l D cI cP o h tx tn Ad K (xs (Int32.toNatClampNeg (nI i + 1))) (xs (Int32.toNatClampNeg (nI i + 2))) 0 (xs (Int32.toNatClampNeg (nI i + 4))) _ hu) hX (va_recv hX.1 (va_blk (Bs := [wMain cI cP o h tx tn Ad K, wMod cI am M]) hP 0 rfl) (ci := 6) (q0 := 0) rfl rfl) (Cut.one (Bs := [wMain cI cP o h tx tn Ad K, wMod cI am M]) (k := 0) rfl rfl) hP hD hS hA (fun H locs hP hD hS => ?_)
        have hP : va_P D vwCl ([wMain cI cP o h tx tn Ad u.1, wMod cI am M] : List va_W).flatten H := hP
        have hD : va_D (fun q : Nat => s.heap.size ≤ q) ([wMain cI cP o h tx tn Ad u.1, wMod cI am M] : List va_W).flatten := hD
        refine lv_aload_n hx hb dL_law_209 rfl (lv_at hl 2 rfl) ?_
        refine lv_aload_n hx hb dL_law_210 rfl (lv_at hl 0 rfl) ?_
        refine lv_iload_n hx hb dL_law_211 rfl (lv_at hl 3 rfl) ?_
        refine lv_iconst (v := 1) hx hb dL_law_212 (by decide) ?_
        refine lv_iadd hx hb dL_law_213 ?_
        refine va_sld hx hb hXs hbl hbA hS h_in1 dL_law_214 ?_
        refine lv_aload_n hx hb dL_law_215 rfl (lv_at hl 0 rfl) ?_
        refine lv_iload_n hx hb dL_law_216 rfl (lv_at hl 3 rfl) ?_
        refine lv_iconst (v := 2) hx hb dL_law_217 (by decide) ?_
        refine lv_iadd hx hb dL_law_218 ?_
        refine va_sld hx hb hXs hbl hbA hS h_in2 dL_law_219 ?_
        refine lv_aload_n hx hb dL_law_220 rfl (lv_at hl 0 rfl) ?_
        refine lv_iload_n hx hb dL_law_221 rfl (lv_at hl 3 rfl) ?_
        refine lv_iconst (v := 3) hx hb dL_law_222 (by decide) ?_
        refine lv_iadd hx hb dL_law_223 ?_
        refine va_sld hx hb hXs hbl hbA hS h_in3 dL_law_224 ?_
        refine lv_if_eq (tgt := 232) hx hb dL_law_225 (by decide) (fun _ => ?_) (fun c0 => absurd cb3 c0)
        refine lv_iconst (v := 0) hx hb dL_law_232 (by decide) ?_
        refine lv_aload_n hx hb dL_law_233 rfl (lv_at hl 0 rfl) ?_
        refine lv_iload_n hx hb dL_law_234 rfl (lv_at hl 3 rfl) ?_
        refine lv_iconst (v := 4) hx hb dL_law_235 (by decide) ?_
        refine lv_iadd hx hb dL_law_236 ?_
        refine va_sld hx hb hXs hbl hbA hS h_in4 dL_law_237 ?_
        refine k_wi (runV F wdL_22 (rm := rm_X7_tie) (As := [.int (xs (Int32.toNatClampNeg (nI i + 1))), .int (xs (Int32.toNatClampNeg (nI i + 2))), .int 0, .int (xs (Int32.toNatClampNeg (nI i + 4)))]) (rest := [.int u.2]) ⟨rfl, rfl⟩ ⟨Nat.le_of_ble_eq_true rfl, Nat.le_of_ble_eq_true rfl⟩ hl.1 rfl rfl (Nat.le_of_ble_eq_true rfl) dL_law_238 ⟨Nat.le_of_ble_eq_true rfl, Nat.le_of_ble_eq_true rfl⟩) (c_X7_tie l D cI cP am M (xs (Int32.toNatClampNeg (nI i + 1))) (xs (Int32.toNatClampNeg (nI i + 2))) 0 (xs (Int32.toNatClampNeg (nI i + 4))) _ hv) hX (va_recv hX.1 (va_blk (Bs := [wMain cI cP o h tx tn Ad u.1, wMod cI am M]) hP 1 rfl) (ci := 7) (q0 := 0) rfl rfl) (Cut.one (Bs := [wMain cI cP o h tx tn Ad u.1, wMod cI am M]) (k := 1) rfl rfl) hP hD hS hA (fun H locs hP hD hS => ?_)
        have hP : va_P D vwCl ([wMain cI cP o h tx tn Ad u.1, wMod cI am v.1] : List va_W).flatten H := hP
        have hD : va_D (fun q : Nat => s.heap.size ≤ q) ([wMain cI cP o h tx tn Ad u.1, wMod cI am v.1] : List va_W).flatten := hD
        refine lv_icmp_eq (tgt := 818) hx hb dL_law_241 (by decide) (fun _ => ?_) (fun c0 => absurd hr c0)
        refine lv_iinc (v := nI (i + 5)) (lv' := [(3, .int (nI (i + 5))), (0, .ref b), (1, .ref o), (2, .ref (am 0))]) hx hb dL_law_818 hl (k := 3) rfl (by rw [← nI_add]; rfl) (by decide) rfl (fun ls hl => ?_)
        refine lv_goto (tgt := 18) hx hb dL_law_821 (by decide) ?_
        exact ih (i + 5) u.1 v.1 _ _ ls (by omega) (by omega) hR2 hP hD hS (lv_sub hl [1, 2, 3, 0] rfl)
      · refine lv_iconst (v := 1) hx hb dL_law_196 (by decide) ?_
        refine lv_goto (tgt := 201) hx hb dL_law_197 (by decide) ?_
        refine lv_aload_n hx hb dL_law_201 rfl (lv_at hl 0 rfl) ?_
        refine lv_iload_n hx hb dL_law_202 rfl (lv_at hl 3 rfl) ?_
        refine lv_iconst (v := 4) hx hb dL_law_203 (by decide) ?_
        refine lv_iadd hx hb dL_law_204 ?_
        refine va_sld hx hb hXs hbl hbA hS h_in4 dL_law_205 ?_
        obtain ⟨u, v, hu, hv, hr, hR2⟩ := op_tie K M (xs (Int32.toNatClampNeg (nI i + 1))) (xs (Int32.toNatClampNeg (nI i + 2))) 1 (xs (Int32.toNatClampNeg (nI i + 4))) (Or.inr rfl) hR
        refine k_wi (runV F wdL_18 (rm := rm_X6_tie) (As := [.int (xs (Int32.toNatClampNeg (nI i + 1))), .int (xs (Int32.toNatClampNeg (nI i + 2))), .int 1, .int (xs (Int32.toNatClampNeg (nI i + 4)))]) (rest := []) ⟨rfl, rfl⟩ ⟨Nat.le_of_ble_eq_true rfl, Nat.le_of_ble_eq_true rfl⟩ hl.1 rfl rfl (Nat.le_of_ble_eq_true rfl) dL_law_206 ⟨Nat.le_of_ble_eq_true rfl, Nat.le_of_ble_eq_true rfl⟩) (c_X6_tie l D cI cP o h tx tn Ad K (xs (Int32.toNatClampNeg (nI i + 1))) (xs (Int32.toNatClampNeg (nI i + 2))) 1 (xs (Int32.toNatClampNeg (nI i + 4))) _ hu) hX (va_recv hX.1 (va_blk (Bs := [wMain cI cP o h tx tn Ad K, wMod cI am M]) hP 0 rfl) (ci := 6) (q0 := 0) rfl rfl) (Cut.one (Bs := [wMain cI cP o h tx tn Ad K, wMod cI am M]) (k := 0) rfl rfl) hP hD hS hA (fun H locs hP hD hS => ?_)
        have hP : va_P D vwCl ([wMain cI cP o h tx tn Ad u.1, wMod cI am M] : List va_W).flatten H := hP
        have hD : va_D (fun q : Nat => s.heap.size ≤ q) ([wMain cI cP o h tx tn Ad u.1, wMod cI am M] : List va_W).flatten := hD
        refine lv_aload_n hx hb dL_law_209 rfl (lv_at hl 2 rfl) ?_
        refine lv_aload_n hx hb dL_law_210 rfl (lv_at hl 0 rfl) ?_
        refine lv_iload_n hx hb dL_law_211 rfl (lv_at hl 3 rfl) ?_
        refine lv_iconst (v := 1) hx hb dL_law_212 (by decide) ?_
        refine lv_iadd hx hb dL_law_213 ?_
        refine va_sld hx hb hXs hbl hbA hS h_in1 dL_law_214 ?_
        refine lv_aload_n hx hb dL_law_215 rfl (lv_at hl 0 rfl) ?_
        refine lv_iload_n hx hb dL_law_216 rfl (lv_at hl 3 rfl) ?_
        refine lv_iconst (v := 2) hx hb dL_law_217 (by decide) ?_
        refine lv_iadd hx hb dL_law_218 ?_
        refine va_sld hx hb hXs hbl hbA hS h_in2 dL_law_219 ?_
        refine lv_aload_n hx hb dL_law_220 rfl (lv_at hl 0 rfl) ?_
        refine lv_iload_n hx hb dL_law_221 rfl (lv_at hl 3 rfl) ?_
        refine lv_iconst (v := 3) hx hb dL_law_222 (by decide) ?_
        refine lv_iadd hx hb dL_law_223 ?_
        refine va_sld hx hb hXs hbl hbA hS h_in3 dL_law_224 ?_
        refine lv_if_eq (tgt := 232) hx hb dL_law_225 (by decide) (fun c0 => absurd c0 cb3) (fun _ => ?_)
        refine lv_iconst (v := 1) hx hb dL_law_228 (by decide) ?_
        refine lv_goto (tgt := 233) hx hb dL_law_229 (by decide) ?_
        refine lv_aload_n hx hb dL_law_233 rfl (lv_at hl 0 rfl) ?_
        refine lv_iload_n hx hb dL_law_234 rfl (lv_at hl 3 rfl) ?_
        refine lv_iconst (v := 4) hx hb dL_law_235 (by decide) ?_
        refine lv_iadd hx hb dL_law_236 ?_
        refine va_sld hx hb hXs hbl hbA hS h_in4 dL_law_237 ?_
        refine k_wi (runV F wdL_22 (rm := rm_X7_tie) (As := [.int (xs (Int32.toNatClampNeg (nI i + 1))), .int (xs (Int32.toNatClampNeg (nI i + 2))), .int 1, .int (xs (Int32.toNatClampNeg (nI i + 4)))]) (rest := [.int u.2]) ⟨rfl, rfl⟩ ⟨Nat.le_of_ble_eq_true rfl, Nat.le_of_ble_eq_true rfl⟩ hl.1 rfl rfl (Nat.le_of_ble_eq_true rfl) dL_law_238 ⟨Nat.le_of_ble_eq_true rfl, Nat.le_of_ble_eq_true rfl⟩) (c_X7_tie l D cI cP am M (xs (Int32.toNatClampNeg (nI i + 1))) (xs (Int32.toNatClampNeg (nI i + 2))) 1 (xs (Int32.toNatClampNeg (nI i + 4))) _ hv) hX (va_recv hX.1 (va_blk (Bs := [wMain cI cP o h tx tn Ad u.1, wMod cI am M]) hP 1 rfl) (ci := 7) (q0 := 0) rfl rfl) (Cut.one (Bs := [wMain cI cP o h tx tn Ad u.1, wMod cI am M]) (k := 1) rfl rfl) hP hD hS hA (fun H locs hP hD hS => ?_)
        have hP : va_P D vwCl ([wMain cI cP o h tx tn Ad u.1, wMod cI am v.1] : List va_W).flatten H := hP
        have hD : va_D (fun q : Nat => s.heap.size ≤ q) ([wMain cI cP o h tx tn Ad u.1, wMod cI am v.1] : List va_W).flatten := hD
        refine lv_icmp_eq (tgt := 818) hx hb dL_law_241 (by decide) (fun _ => ?_) (fun c0 => absurd hr c0)
        refine lv_iinc (v := nI (i + 5)) (lv' := [(3, .int (nI (i + 5))), (0, .ref b), (1, .ref o), (2, .ref (am 0))]) hx hb dL_law_818 hl (k := 3) rfl (by rw [← nI_add]; rfl) (by decide) rfl (fun ls hl => ?_)
        refine lv_goto (tgt := 18) hx hb dL_law_821 (by decide) ?_
        exact ih (i + 5) u.1 v.1 _ _ ls (by omega) (by omega) hR2 hP hD hS (lv_sub hl [1, 2, 3, 0] rfl)
    rcases Decidable.em ((xs (Int32.toNatClampNeg (nI i)) &&& 31) = 2) with c_2 | c_2
    · refine lv_tableIn (off := 214) (tgt := 246) hx hb dL_law_32 (by rw [c_2]; decide) (by rw [c_2]; decide) (by rw [c_2]; rfl) (by decide) ?_
      refine lv_aload_n hx hb dL_law_246 rfl (lv_at hl 1 rfl) ?_
      refine lv_aload_n hx hb dL_law_247 rfl (lv_at hl 0 rfl) ?_
      refine lv_iload_n hx hb dL_law_248 rfl (lv_at hl 3 rfl) ?_
      refine lv_iconst (v := 1) hx hb dL_law_249 (by decide) ?_
      refine lv_iadd hx hb dL_law_250 ?_
      refine va_sld hx hb hXs hbl hbA hS h_in1 dL_law_251 ?_
      obtain ⟨u, v, hu, hv, hr, hR2⟩ := op_cut K M (xs (Int32.toNatClampNeg (nI i + 1))) hR
      refine k_wi (runV F wdL_23 (rm := rm_X6_cut) (As := [.int (xs (Int32.toNatClampNeg (nI i + 1)))]) (rest := []) ⟨rfl, rfl⟩ ⟨Nat.le_of_ble_eq_true rfl, Nat.le_of_ble_eq_true rfl⟩ hl.1 rfl rfl (Nat.le_of_ble_eq_true rfl) dL_law_252 ⟨Nat.le_of_ble_eq_true rfl, Nat.le_of_ble_eq_true rfl⟩) (c_X6_cut l D cI cP o h tx tn Ad K (xs (Int32.toNatClampNeg (nI i + 1))) _ hu) hX (va_recv hX.1 (va_blk (Bs := [wMain cI cP o h tx tn Ad K, wMod cI am M]) hP 0 rfl) (ci := 6) (q0 := 0) rfl rfl) (Cut.one (Bs := [wMain cI cP o h tx tn Ad K, wMod cI am M]) (k := 0) rfl rfl) hP hD hS hA (fun H locs hP hD hS => ?_)
      have hP : va_P D vwCl ([wMain cI cP o h tx tn Ad u.1, wMod cI am M] : List va_W).flatten H := hP
      have hD : va_D (fun q : Nat => s.heap.size ≤ q) ([wMain cI cP o h tx tn Ad u.1, wMod cI am M] : List va_W).flatten := hD
      refine lv_aload_n hx hb dL_law_255 rfl (lv_at hl 2 rfl) ?_
      refine lv_aload_n hx hb dL_law_256 rfl (lv_at hl 0 rfl) ?_
      refine lv_iload_n hx hb dL_law_257 rfl (lv_at hl 3 rfl) ?_
      refine lv_iconst (v := 1) hx hb dL_law_258 (by decide) ?_
      refine lv_iadd hx hb dL_law_259 ?_
      refine va_sld hx hb hXs hbl hbA hS h_in1 dL_law_260 ?_
      refine k_wi (runV F wdL_27 (rm := rm_X7_cut) (As := [.int (xs (Int32.toNatClampNeg (nI i + 1)))]) (rest := [.int u.2]) ⟨rfl, rfl⟩ ⟨Nat.le_of_ble_eq_true rfl, Nat.le_of_ble_eq_true rfl⟩ hl.1 rfl rfl (Nat.le_of_ble_eq_true rfl) dL_law_261 ⟨Nat.le_of_ble_eq_true rfl, Nat.le_of_ble_eq_true rfl⟩) (c_X7_cut l D cI cP am M (xs (Int32.toNatClampNeg (nI i + 1))) _ hv) hX (va_recv hX.1 (va_blk (Bs := [wMain cI cP o h tx tn Ad u.1, wMod cI am M]) hP 1 rfl) (ci := 7) (q0 := 0) rfl rfl) (Cut.one (Bs := [wMain cI cP o h tx tn Ad u.1, wMod cI am M]) (k := 1) rfl rfl) hP hD hS hA (fun H locs hP hD hS => ?_)
      have hP : va_P D vwCl ([wMain cI cP o h tx tn Ad u.1, wMod cI am v.1] : List va_W).flatten H := hP
      have hD : va_D (fun q : Nat => s.heap.size ≤ q) ([wMain cI cP o h tx tn Ad u.1, wMod cI am v.1] : List va_W).flatten := hD
      refine lv_icmp_eq (tgt := 818) hx hb dL_law_264 (by decide) (fun _ => ?_) (fun c0 => absurd hr c0)
      refine lv_iinc (v := nI (i + 5)) (lv' := [(3, .int (nI (i + 5))), (0, .ref b), (1, .ref o), (2, .ref (am 0))]) hx hb dL_law_818 hl (k := 3) rfl (by rw [← nI_add]; rfl) (by decide) rfl (fun ls hl => ?_)
      refine lv_goto (tgt := 18) hx hb dL_law_821 (by decide) ?_
      exact ih (i + 5) u.1 v.1 _ _ ls (by omega) (by omega) hR2 hP hD hS (lv_sub hl [1, 2, 3, 0] rfl)
    rcases Decidable.em ((xs (Int32.toNatClampNeg (nI i)) &&& 31) = 3) with c_3 | c_3
    · refine lv_tableIn (off := 237) (tgt := 269) hx hb dL_law_32 (by rw [c_3]; decide) (by rw [c_3]; decide) (by rw [c_3]; rfl) (by decide) ?_
      refine lv_aload_n hx hb dL_law_269 rfl (lv_at hl 1 rfl) ?_
      refine lv_aload_n hx hb dL_law_270 rfl (lv_at hl 0 rfl) ?_
      refine lv_iload_n hx hb dL_law_271 rfl (lv_at hl 3 rfl) ?_
      refine lv_iconst (v := 1) hx hb dL_law_272 (by decide) ?_
      refine lv_iadd hx hb dL_law_273 ?_
      refine va_sld hx hb hXs hbl hbA hS h_in1 dL_law_274 ?_
      obtain ⟨u, v, hu, hv, hr, hR2⟩ := op_cutDeal K M (xs (Int32.toNatClampNeg (nI i + 1))) hR
      refine k_wi (runV F wdL_28 (rm := rm_X6_cutDeal) (As := [.int (xs (Int32.toNatClampNeg (nI i + 1)))]) (rest := []) ⟨rfl, rfl⟩ ⟨Nat.le_of_ble_eq_true rfl, Nat.le_of_ble_eq_true rfl⟩ hl.1 rfl rfl (Nat.le_of_ble_eq_true rfl) dL_law_275 ⟨Nat.le_of_ble_eq_true rfl, Nat.le_of_ble_eq_true rfl⟩) (c_X6_cutDeal l D cI cP o h tx tn Ad K (xs (Int32.toNatClampNeg (nI i + 1))) _ hu) hX (va_recv hX.1 (va_blk (Bs := [wMain cI cP o h tx tn Ad K, wMod cI am M]) hP 0 rfl) (ci := 6) (q0 := 0) rfl rfl) (Cut.one (Bs := [wMain cI cP o h tx tn Ad K, wMod cI am M]) (k := 0) rfl rfl) hP hD hS hA (fun H locs hP hD hS => ?_)
      have hP : va_P D vwCl ([wMain cI cP o h tx tn Ad u.1, wMod cI am M] : List va_W).flatten H := hP
      have hD : va_D (fun q : Nat => s.heap.size ≤ q) ([wMain cI cP o h tx tn Ad u.1, wMod cI am M] : List va_W).flatten := hD
      refine lv_aload_n hx hb dL_law_278 rfl (lv_at hl 2 rfl) ?_
      refine lv_aload_n hx hb dL_law_279 rfl (lv_at hl 0 rfl) ?_
      refine lv_iload_n hx hb dL_law_280 rfl (lv_at hl 3 rfl) ?_
      refine lv_iconst (v := 1) hx hb dL_law_281 (by decide) ?_
      refine lv_iadd hx hb dL_law_282 ?_
      refine va_sld hx hb hXs hbl hbA hS h_in1 dL_law_283 ?_
      refine k_wi (runV F wdL_31 (rm := rm_X7_cutDeal) (As := [.int (xs (Int32.toNatClampNeg (nI i + 1)))]) (rest := [.int u.2]) ⟨rfl, rfl⟩ ⟨Nat.le_of_ble_eq_true rfl, Nat.le_of_ble_eq_true rfl⟩ hl.1 rfl rfl (Nat.le_of_ble_eq_true rfl) dL_law_284 ⟨Nat.le_of_ble_eq_true rfl, Nat.le_of_ble_eq_true rfl⟩) (c_X7_cutDeal l D cI cP am M (xs (Int32.toNatClampNeg (nI i + 1))) _ hv) hX (va_recv hX.1 (va_blk (Bs := [wMain cI cP o h tx tn Ad u.1, wMod cI am M]) hP 1 rfl) (ci := 7) (q0 := 0) rfl rfl) (Cut.one (Bs := [wMain cI cP o h tx tn Ad u.1, wMod cI am M]) (k := 1) rfl rfl) hP hD hS hA (fun H locs hP hD hS => ?_)
      have hP : va_P D vwCl ([wMain cI cP o h tx tn Ad u.1, wMod cI am v.1] : List va_W).flatten H := hP
      have hD : va_D (fun q : Nat => s.heap.size ≤ q) ([wMain cI cP o h tx tn Ad u.1, wMod cI am v.1] : List va_W).flatten := hD
      refine lv_icmp_eq (tgt := 818) hx hb dL_law_287 (by decide) (fun _ => ?_) (fun c0 => absurd hr c0)
      refine lv_iinc (v := nI (i + 5)) (lv' := [(3, .int (nI (i + 5))), (0, .ref b), (1, .ref o), (2, .ref (am 0))]) hx hb dL_law_818 hl (k := 3) rfl (by rw [← nI_add]; rfl) (by decide) rfl (fun ls hl => ?_)
      refine lv_goto (tgt := 18) hx hb dL_law_821 (by decide) ?_
      exact ih (i + 5) u.1 v.1 _ _ ls (by omega) (by omega) hR2 hP hD hS (lv_sub hl [1, 2, 3, 0] rfl)
    rcases Decidable.em ((xs (Int32.toNatClampNeg (nI i)) &&& 31) = 4) with c_4 | c_4
    · refine lv_tableIn (off := 260) (tgt := 292) hx hb dL_law_32 (by rw [c_4]; decide) (by rw [c_4]; decide) (by rw [c_4]; rfl) (by decide) ?_
      refine lv_aload_n hx hb dL_law_292 rfl (lv_at hl 1 rfl) ?_
      refine lv_aload_n hx hb dL_law_293 rfl (lv_at hl 0 rfl) ?_
      refine lv_iload_n hx hb dL_law_294 rfl (lv_at hl 3 rfl) ?_
      refine lv_iconst (v := 1) hx hb dL_law_295 (by decide) ?_
      refine lv_iadd hx hb dL_law_296 ?_
      refine va_sld hx hb hXs hbl hbA hS h_in1 dL_law_297 ?_
      refine lv_aload_n hx hb dL_law_298 rfl (lv_at hl 0 rfl) ?_
      refine lv_iload_n hx hb dL_law_299 rfl (lv_at hl 3 rfl) ?_
      refine lv_iconst (v := 2) hx hb dL_law_300 (by decide) ?_
      refine lv_iadd hx hb dL_law_301 ?_
      refine va_sld hx hb hXs hbl hbA hS h_in2 dL_law_302 ?_
      obtain ⟨u, v, hu, hv, hr, hR2⟩ := op_pull K M (xs (Int32.toNatClampNeg (nI i + 1))) (xs (Int32.toNatClampNeg (nI i + 2))) hR
      refine k_wi (runV F wdL_32 (rm := rm_X6_pull) (As := [.int (xs (Int32.toNatClampNeg (nI i + 1))), .int (xs (Int32.toNatClampNeg (nI i + 2)))]) (rest := []) ⟨rfl, rfl⟩ ⟨Nat.le_of_ble_eq_true rfl, Nat.le_of_ble_eq_true rfl⟩ hl.1 rfl rfl (Nat.le_of_ble_eq_true rfl) dL_law_303 ⟨Nat.le_of_ble_eq_true rfl, Nat.le_of_ble_eq_true rfl⟩) (c_X6_pull l D cI cP o h tx tn Ad K (xs (Int32.toNatClampNeg (nI i + 1))) (xs (Int32.toNatClampNeg (nI i + 2))) _ hu) hX (va_recv hX.1 (va_blk (Bs := [wMain cI cP o h tx tn Ad K, wMod cI am M]) hP 0 rfl) (ci := 6) (q0 := 0) rfl rfl) (Cut.one (Bs := [wMain cI cP o h tx tn Ad K, wMod cI am M]) (k := 0) rfl rfl) hP hD hS hA (fun H locs hP hD hS => ?_)
      have hP : va_P D vwCl ([wMain cI cP o h tx tn Ad u.1, wMod cI am M] : List va_W).flatten H := hP
      have hD : va_D (fun q : Nat => s.heap.size ≤ q) ([wMain cI cP o h tx tn Ad u.1, wMod cI am M] : List va_W).flatten := hD
      refine lv_aload_n hx hb dL_law_306 rfl (lv_at hl 2 rfl) ?_
      refine lv_aload_n hx hb dL_law_307 rfl (lv_at hl 0 rfl) ?_
      refine lv_iload_n hx hb dL_law_308 rfl (lv_at hl 3 rfl) ?_
      refine lv_iconst (v := 1) hx hb dL_law_309 (by decide) ?_
      refine lv_iadd hx hb dL_law_310 ?_
      refine va_sld hx hb hXs hbl hbA hS h_in1 dL_law_311 ?_
      refine lv_aload_n hx hb dL_law_312 rfl (lv_at hl 0 rfl) ?_
      refine lv_iload_n hx hb dL_law_313 rfl (lv_at hl 3 rfl) ?_
      refine lv_iconst (v := 2) hx hb dL_law_314 (by decide) ?_
      refine lv_iadd hx hb dL_law_315 ?_
      refine va_sld hx hb hXs hbl hbA hS h_in2 dL_law_316 ?_
      refine k_wi (runV F wdL_35 (rm := rm_X7_pull) (As := [.int (xs (Int32.toNatClampNeg (nI i + 1))), .int (xs (Int32.toNatClampNeg (nI i + 2)))]) (rest := [.int u.2]) ⟨rfl, rfl⟩ ⟨Nat.le_of_ble_eq_true rfl, Nat.le_of_ble_eq_true rfl⟩ hl.1 rfl rfl (Nat.le_of_ble_eq_true rfl) dL_law_317 ⟨Nat.le_of_ble_eq_true rfl, Nat.le_of_ble_eq_true rfl⟩) (c_X7_pull l D cI cP am M (xs (Int32.toNatClampNeg (nI i + 1))) (xs (Int32.toNatClampNeg (nI i + 2))) _ hv) hX (va_recv hX.1 (va_blk (Bs := [wMain cI cP o h tx tn Ad u.1, wMod cI am M]) hP 1 rfl) (ci := 7) (q0 := 0) rfl rfl) (Cut.one (Bs := [wMain cI cP o h tx tn Ad u.1, wMod cI am M]) (k := 1) rfl rfl) hP hD hS hA (fun H locs hP hD hS => ?_)
      have hP : va_P D vwCl ([wMain cI cP o h tx tn Ad u.1, wMod cI am v.1] : List va_W).flatten H := hP
      have hD : va_D (fun q : Nat => s.heap.size ≤ q) ([wMain cI cP o h tx tn Ad u.1, wMod cI am v.1] : List va_W).flatten := hD
      refine lv_icmp_eq (tgt := 818) hx hb dL_law_320 (by decide) (fun _ => ?_) (fun c0 => absurd hr c0)
      refine lv_iinc (v := nI (i + 5)) (lv' := [(3, .int (nI (i + 5))), (0, .ref b), (1, .ref o), (2, .ref (am 0))]) hx hb dL_law_818 hl (k := 3) rfl (by rw [← nI_add]; rfl) (by decide) rfl (fun ls hl => ?_)
      refine lv_goto (tgt := 18) hx hb dL_law_821 (by decide) ?_
      exact ih (i + 5) u.1 v.1 _ _ ls (by omega) (by omega) hR2 hP hD hS (lv_sub hl [1, 2, 3, 0] rfl)
    rcases Decidable.em ((xs (Int32.toNatClampNeg (nI i)) &&& 31) = 5) with c_5 | c_5
    · refine lv_tableIn (off := 293) (tgt := 325) hx hb dL_law_32 (by rw [c_5]; decide) (by rw [c_5]; decide) (by rw [c_5]; rfl) (by decide) ?_
      refine lv_aload_n hx hb dL_law_325 rfl (lv_at hl 1 rfl) ?_
      refine lv_aload_n hx hb dL_law_326 rfl (lv_at hl 0 rfl) ?_
      refine lv_iload_n hx hb dL_law_327 rfl (lv_at hl 3 rfl) ?_
      refine lv_iconst (v := 1) hx hb dL_law_328 (by decide) ?_
      refine lv_iadd hx hb dL_law_329 ?_
      refine va_sld hx hb hXs hbl hbA hS h_in1 dL_law_330 ?_
      obtain ⟨u, v, hu, hv, hr, hR2⟩ := op_release K M (xs (Int32.toNatClampNeg (nI i + 1))) hR
      refine k_wi (runV F wdL_36 (rm := rm_X6_release) (As := [.int (xs (Int32.toNatClampNeg (nI i + 1)))]) (rest := []) ⟨rfl, rfl⟩ ⟨Nat.le_of_ble_eq_true rfl, Nat.le_of_ble_eq_true rfl⟩ hl.1 rfl rfl (Nat.le_of_ble_eq_true rfl) dL_law_331 ⟨Nat.le_of_ble_eq_true rfl, Nat.le_of_ble_eq_true rfl⟩) (c_X6_release l D cI cP o h tx tn Ad K (xs (Int32.toNatClampNeg (nI i + 1))) _ hu) hX (va_recv hX.1 (va_blk (Bs := [wMain cI cP o h tx tn Ad K, wMod cI am M]) hP 0 rfl) (ci := 6) (q0 := 0) rfl rfl) (Cut.one (Bs := [wMain cI cP o h tx tn Ad K, wMod cI am M]) (k := 0) rfl rfl) hP hD hS hA (fun H locs hP hD hS => ?_)
      have hP : va_P D vwCl ([wMain cI cP o h tx tn Ad u.1, wMod cI am M] : List va_W).flatten H := hP
      have hD : va_D (fun q : Nat => s.heap.size ≤ q) ([wMain cI cP o h tx tn Ad u.1, wMod cI am M] : List va_W).flatten := hD
      refine lv_aload_n hx hb dL_law_334 rfl (lv_at hl 2 rfl) ?_
      refine lv_aload_n hx hb dL_law_335 rfl (lv_at hl 0 rfl) ?_
      refine lv_iload_n hx hb dL_law_336 rfl (lv_at hl 3 rfl) ?_
      refine lv_iconst (v := 1) hx hb dL_law_337 (by decide) ?_
      refine lv_iadd hx hb dL_law_338 ?_
      refine va_sld hx hb hXs hbl hbA hS h_in1 dL_law_339 ?_
      refine k_wi (runV F wdL_39 (rm := rm_X7_release) (As := [.int (xs (Int32.toNatClampNeg (nI i + 1)))]) (rest := [.int u.2]) ⟨rfl, rfl⟩ ⟨Nat.le_of_ble_eq_true rfl, Nat.le_of_ble_eq_true rfl⟩ hl.1 rfl rfl (Nat.le_of_ble_eq_true rfl) dL_law_340 ⟨Nat.le_of_ble_eq_true rfl, Nat.le_of_ble_eq_true rfl⟩) (c_X7_release l D cI cP am M (xs (Int32.toNatClampNeg (nI i + 1))) _ hv) hX (va_recv hX.1 (va_blk (Bs := [wMain cI cP o h tx tn Ad u.1, wMod cI am M]) hP 1 rfl) (ci := 7) (q0 := 0) rfl rfl) (Cut.one (Bs := [wMain cI cP o h tx tn Ad u.1, wMod cI am M]) (k := 1) rfl rfl) hP hD hS hA (fun H locs hP hD hS => ?_)
      have hP : va_P D vwCl ([wMain cI cP o h tx tn Ad u.1, wMod cI am v.1] : List va_W).flatten H := hP
      have hD : va_D (fun q : Nat => s.heap.size ≤ q) ([wMain cI cP o h tx tn Ad u.1, wMod cI am v.1] : List va_W).flatten := hD
      refine lv_icmp_eq (tgt := 818) hx hb dL_law_343 (by decide) (fun _ => ?_) (fun c0 => absurd hr c0)
      refine lv_iinc (v := nI (i + 5)) (lv' := [(3, .int (nI (i + 5))), (0, .ref b), (1, .ref o), (2, .ref (am 0))]) hx hb dL_law_818 hl (k := 3) rfl (by rw [← nI_add]; rfl) (by decide) rfl (fun ls hl => ?_)
      refine lv_goto (tgt := 18) hx hb dL_law_821 (by decide) ?_
      exact ih (i + 5) u.1 v.1 _ _ ls (by omega) (by omega) hR2 hP hD hS (lv_sub hl [1, 2, 3, 0] rfl)
    rcases Decidable.em ((xs (Int32.toNatClampNeg (nI i)) &&& 31) = 6) with c_6 | c_6
    · refine lv_tableIn (off := 316) (tgt := 348) hx hb dL_law_32 (by rw [c_6]; decide) (by rw [c_6]; decide) (by rw [c_6]; rfl) (by decide) ?_
      refine lv_aload_n hx hb dL_law_348 rfl (lv_at hl 1 rfl) ?_
      obtain ⟨u, v, hu, hv, hr, hR2⟩ := op_session K M  hR
      refine k_wi (runV F wdL_40 (rm := rm_X6_session) (As := []) (rest := []) ⟨rfl, rfl⟩ ⟨Nat.le_of_ble_eq_true rfl, Nat.le_of_ble_eq_true rfl⟩ hl.1 rfl rfl (Nat.le_of_ble_eq_true rfl) dL_law_349 ⟨Nat.le_of_ble_eq_true rfl, Nat.le_of_ble_eq_true rfl⟩) (c_X6_session l D cI cP o h tx tn Ad K  _ hu) hX (va_recv hX.1 (va_blk (Bs := [wMain cI cP o h tx tn Ad K, wMod cI am M]) hP 0 rfl) (ci := 6) (q0 := 0) rfl rfl) (Cut.one (Bs := [wMain cI cP o h tx tn Ad K, wMod cI am M]) (k := 0) rfl rfl) hP hD hS hA (fun H locs hP hD hS => ?_)
      have hP : va_P D vwCl ([wMain cI cP o h tx tn Ad u.1, wMod cI am M] : List va_W).flatten H := hP
      have hD : va_D (fun q : Nat => s.heap.size ≤ q) ([wMain cI cP o h tx tn Ad u.1, wMod cI am M] : List va_W).flatten := hD
      refine lv_aload_n hx hb dL_law_352 rfl (lv_at hl 2 rfl) ?_
      refine k_wi (runV F wdL_44 (rm := rm_X7_session) (As := []) (rest := [.int u.2]) ⟨rfl, rfl⟩ ⟨Nat.le_of_ble_eq_true rfl, Nat.le_of_ble_eq_true rfl⟩ hl.1 rfl rfl (Nat.le_of_ble_eq_true rfl) dL_law_353 ⟨Nat.le_of_ble_eq_true rfl, Nat.le_of_ble_eq_true rfl⟩) (c_X7_session l D cI cP am M  _ hv) hX (va_recv hX.1 (va_blk (Bs := [wMain cI cP o h tx tn Ad u.1, wMod cI am M]) hP 1 rfl) (ci := 7) (q0 := 0) rfl rfl) (Cut.one (Bs := [wMain cI cP o h tx tn Ad u.1, wMod cI am M]) (k := 1) rfl rfl) hP hD hS hA (fun H locs hP hD hS => ?_)
      have hP : va_P D vwCl ([wMain cI cP o h tx tn Ad u.1, wMod cI am v.1] : List va_W).flatten H := hP
      have hD : va_D (fun q : Nat => s.heap.size ≤ q) ([wMain cI cP o h tx tn Ad u.1, wMod cI am v.1] : List va_W).flatten := hD
      refine lv_icmp_eq (tgt := 818) hx hb dL_law_356 (by decide) (fun _ => ?_) (fun c0 => absurd hr c0)
      refine lv_iinc (v := nI (i + 5)) (lv' := [(3, .int (nI (i + 5))), (0, .ref b), (1, .ref o), (2, .ref (am 0))]) hx hb dL_law_818 hl (k := 3) rfl (by rw [← nI_add]; rfl) (by decide) rfl (fun ls hl => ?_)
      refine lv_goto (tgt := 18) hx hb dL_law_821 (by decide) ?_
      exact ih (i + 5) u.1 v.1 _ _ ls (by omega) (by omega) hR2 hP hD hS (lv_sub hl [1, 2, 3, 0] rfl)
    rcases Decidable.em ((xs (Int32.toNatClampNeg (nI i)) &&& 31) = 7) with c_7 | c_7
    · refine lv_tableIn (off := 329) (tgt := 361) hx hb dL_law_32 (by rw [c_7]; decide) (by rw [c_7]; decide) (by rw [c_7]; rfl) (by decide) ?_
      refine lv_aload_n hx hb dL_law_361 rfl (lv_at hl 1 rfl) ?_
      refine lv_aload_n hx hb dL_law_362 rfl (lv_at hl 0 rfl) ?_
      refine lv_iload_n hx hb dL_law_363 rfl (lv_at hl 3 rfl) ?_
      refine lv_iconst (v := 1) hx hb dL_law_364 (by decide) ?_
      refine lv_iadd hx hb dL_law_365 ?_
      refine va_sld hx hb hXs hbl hbA hS h_in1 dL_law_366 ?_
      refine lv_aload_n hx hb dL_law_367 rfl (lv_at hl 0 rfl) ?_
      refine lv_iload_n hx hb dL_law_368 rfl (lv_at hl 3 rfl) ?_
      refine lv_iconst (v := 2) hx hb dL_law_369 (by decide) ?_
      refine lv_iadd hx hb dL_law_370 ?_
      refine va_sld hx hb hXs hbl hbA hS h_in2 dL_law_371 ?_
      obtain ⟨u, v, hu, hv, hr, hR2⟩ := op_set K M (xs (Int32.toNatClampNeg (nI i + 1))) (xs (Int32.toNatClampNeg (nI i + 2))) hR
      refine k_wi (runV F wdL_45 (rm := rm_X6_set) (As := [.int (xs (Int32.toNatClampNeg (nI i + 1))), .int (xs (Int32.toNatClampNeg (nI i + 2)))]) (rest := []) ⟨rfl, rfl⟩ ⟨Nat.le_of_ble_eq_true rfl, Nat.le_of_ble_eq_true rfl⟩ hl.1 rfl rfl (Nat.le_of_ble_eq_true rfl) dL_law_372 ⟨Nat.le_of_ble_eq_true rfl, Nat.le_of_ble_eq_true rfl⟩) (c_X6_set l D cI cP o h tx tn Ad K (xs (Int32.toNatClampNeg (nI i + 1))) (xs (Int32.toNatClampNeg (nI i + 2))) _ hu) hX (va_recv hX.1 (va_blk (Bs := [wMain cI cP o h tx tn Ad K, wMod cI am M]) hP 0 rfl) (ci := 6) (q0 := 0) rfl rfl) (Cut.one (Bs := [wMain cI cP o h tx tn Ad K, wMod cI am M]) (k := 0) rfl rfl) hP hD hS hA (fun H locs hP hD hS => ?_)
      have hP : va_P D vwCl ([wMain cI cP o h tx tn Ad u.1, wMod cI am M] : List va_W).flatten H := hP
      have hD : va_D (fun q : Nat => s.heap.size ≤ q) ([wMain cI cP o h tx tn Ad u.1, wMod cI am M] : List va_W).flatten := hD
      refine lv_aload_n hx hb dL_law_375 rfl (lv_at hl 2 rfl) ?_
      refine lv_aload_n hx hb dL_law_376 rfl (lv_at hl 0 rfl) ?_
      refine lv_iload_n hx hb dL_law_377 rfl (lv_at hl 3 rfl) ?_
      refine lv_iconst (v := 1) hx hb dL_law_378 (by decide) ?_
      refine lv_iadd hx hb dL_law_379 ?_
      refine va_sld hx hb hXs hbl hbA hS h_in1 dL_law_380 ?_
      refine lv_aload_n hx hb dL_law_381 rfl (lv_at hl 0 rfl) ?_
      refine lv_iload_n hx hb dL_law_382 rfl (lv_at hl 3 rfl) ?_
      refine lv_iconst (v := 2) hx hb dL_law_383 (by decide) ?_
      refine lv_iadd hx hb dL_law_384 ?_
      refine va_sld hx hb hXs hbl hbA hS h_in2 dL_law_385 ?_
      refine k_wi (runV F wdL_48 (rm := rm_X7_set) (As := [.int (xs (Int32.toNatClampNeg (nI i + 1))), .int (xs (Int32.toNatClampNeg (nI i + 2)))]) (rest := [.int u.2]) ⟨rfl, rfl⟩ ⟨Nat.le_of_ble_eq_true rfl, Nat.le_of_ble_eq_true rfl⟩ hl.1 rfl rfl (Nat.le_of_ble_eq_true rfl) dL_law_386 ⟨Nat.le_of_ble_eq_true rfl, Nat.le_of_ble_eq_true rfl⟩) (c_X7_set l D cI cP am M (xs (Int32.toNatClampNeg (nI i + 1))) (xs (Int32.toNatClampNeg (nI i + 2))) _ hv) hX (va_recv hX.1 (va_blk (Bs := [wMain cI cP o h tx tn Ad u.1, wMod cI am M]) hP 1 rfl) (ci := 7) (q0 := 0) rfl rfl) (Cut.one (Bs := [wMain cI cP o h tx tn Ad u.1, wMod cI am M]) (k := 1) rfl rfl) hP hD hS hA (fun H locs hP hD hS => ?_)
      have hP : va_P D vwCl ([wMain cI cP o h tx tn Ad u.1, wMod cI am v.1] : List va_W).flatten H := hP
      have hD : va_D (fun q : Nat => s.heap.size ≤ q) ([wMain cI cP o h tx tn Ad u.1, wMod cI am v.1] : List va_W).flatten := hD
      refine lv_icmp_eq (tgt := 818) hx hb dL_law_389 (by decide) (fun _ => ?_) (fun c0 => absurd hr c0)
      refine lv_iinc (v := nI (i + 5)) (lv' := [(3, .int (nI (i + 5))), (0, .ref b), (1, .ref o), (2, .ref (am 0))]) hx hb dL_law_818 hl (k := 3) rfl (by rw [← nI_add]; rfl) (by decide) rfl (fun ls hl => ?_)
      refine lv_goto (tgt := 18) hx hb dL_law_821 (by decide) ?_
      exact ih (i + 5) u.1 v.1 _ _ ls (by omega) (by omega) hR2 hP hD hS (lv_sub hl [1, 2, 3, 0] rfl)
    rcases Decidable.em ((xs (Int32.toNatClampNeg (nI i)) &&& 31) = 8) with c_8 | c_8
    · refine lv_tableIn (off := 362) (tgt := 394) hx hb dL_law_32 (by rw [c_8]; decide) (by rw [c_8]; decide) (by rw [c_8]; rfl) (by decide) ?_
      refine lv_aload_n hx hb dL_law_394 rfl (lv_at hl 1 rfl) ?_
      refine lv_aload_n hx hb dL_law_395 rfl (lv_at hl 0 rfl) ?_
      refine lv_iload_n hx hb dL_law_396 rfl (lv_at hl 3 rfl) ?_
      refine lv_iconst (v := 1) hx hb dL_law_397 (by decide) ?_
      refine lv_iadd hx hb dL_law_398 ?_
      refine va_sld hx hb hXs hbl hbA hS h_in1 dL_law_399 ?_
      refine lv_aload_n hx hb dL_law_400 rfl (lv_at hl 0 rfl) ?_
      refine lv_iload_n hx hb dL_law_401 rfl (lv_at hl 3 rfl) ?_
      refine lv_iconst (v := 2) hx hb dL_law_402 (by decide) ?_
      refine lv_iadd hx hb dL_law_403 ?_
      refine va_sld hx hb hXs hbl hbA hS h_in2 dL_law_404 ?_
      obtain ⟨u, v, hu, hv, hr, hR2⟩ := op_puppetOf K M (xs (Int32.toNatClampNeg (nI i + 1))) (xs (Int32.toNatClampNeg (nI i + 2))) hR
      refine k_rd (runV F wdL_49 (rm := rm_X6_puppetOf) (As := [.int (xs (Int32.toNatClampNeg (nI i + 1))), .int (xs (Int32.toNatClampNeg (nI i + 2)))]) (rest := []) ⟨rfl, rfl⟩ ⟨Nat.le_of_ble_eq_true rfl, Nat.le_of_ble_eq_true rfl⟩ hl.1 rfl rfl (Nat.le_of_ble_eq_true rfl) dL_law_405 ⟨Nat.le_of_ble_eq_true rfl, Nat.le_of_ble_eq_true rfl⟩) (c_X6_puppetOf l D cI cP o h tx tn Ad K (xs (Int32.toNatClampNeg (nI i + 1))) (xs (Int32.toNatClampNeg (nI i + 2))) _ hu) hX (va_recv hX.1 (va_blk (Bs := [wMain cI cP o h tx tn Ad K, wMod cI am M]) hP 0 rfl) (ci := 6) (q0 := 0) rfl rfl) (va_blk (Bs := [wMain cI cP o h tx tn Ad K, wMod cI am M]) hP 0 rfl) hP hS hA (fun H locs hP hS => ?_)
      refine lv_aload_n hx hb dL_law_408 rfl (lv_at hl 2 rfl) ?_
      refine lv_aload_n hx hb dL_law_409 rfl (lv_at hl 0 rfl) ?_
      refine lv_iload_n hx hb dL_law_410 rfl (lv_at hl 3 rfl) ?_
      refine lv_iconst (v := 1) hx hb dL_law_411 (by decide) ?_
      refine lv_iadd hx hb dL_law_412 ?_
      refine va_sld hx hb hXs hbl hbA hS h_in1 dL_law_413 ?_
      refine lv_aload_n hx hb dL_law_414 rfl (lv_at hl 0 rfl) ?_
      refine lv_iload_n hx hb dL_law_415 rfl (lv_at hl 3 rfl) ?_
      refine lv_iconst (v := 2) hx hb dL_law_416 (by decide) ?_
      refine lv_iadd hx hb dL_law_417 ?_
      refine va_sld hx hb hXs hbl hbA hS h_in2 dL_law_418 ?_
      refine k_wi (runV F wdL_52 (rm := rm_X7_puppetOf) (As := [.int (xs (Int32.toNatClampNeg (nI i + 1))), .int (xs (Int32.toNatClampNeg (nI i + 2)))]) (rest := [.int u]) ⟨rfl, rfl⟩ ⟨Nat.le_of_ble_eq_true rfl, Nat.le_of_ble_eq_true rfl⟩ hl.1 rfl rfl (Nat.le_of_ble_eq_true rfl) dL_law_419 ⟨Nat.le_of_ble_eq_true rfl, Nat.le_of_ble_eq_true rfl⟩) (c_X7_puppetOf l D cI cP am M (xs (Int32.toNatClampNeg (nI i + 1))) (xs (Int32.toNatClampNeg (nI i + 2))) _ hv) hX (va_recv hX.1 (va_blk (Bs := [wMain cI cP o h tx tn Ad K, wMod cI am M]) hP 1 rfl) (ci := 7) (q0 := 0) rfl rfl) (Cut.one (Bs := [wMain cI cP o h tx tn Ad K, wMod cI am M]) (k := 1) rfl rfl) hP hD hS hA (fun H locs hP hD hS => ?_)
      have hP : va_P D vwCl ([wMain cI cP o h tx tn Ad K, wMod cI am v.1] : List va_W).flatten H := hP
      have hD : va_D (fun q : Nat => s.heap.size ≤ q) ([wMain cI cP o h tx tn Ad K, wMod cI am v.1] : List va_W).flatten := hD
      refine lv_icmp_eq (tgt := 818) hx hb dL_law_422 (by decide) (fun _ => ?_) (fun c0 => absurd hr c0)
      refine lv_iinc (v := nI (i + 5)) (lv' := [(3, .int (nI (i + 5))), (0, .ref b), (1, .ref o), (2, .ref (am 0))]) hx hb dL_law_818 hl (k := 3) rfl (by rw [← nI_add]; rfl) (by decide) rfl (fun ls hl => ?_)
      refine lv_goto (tgt := 18) hx hb dL_law_821 (by decide) ?_
      exact ih (i + 5) K v.1 _ _ ls (by omega) (by omega) hR2 hP hD hS (lv_sub hl [1, 2, 3, 0] rfl)
    rcases Decidable.em ((xs (Int32.toNatClampNeg (nI i)) &&& 31) = 9) with c_9 | c_9
    · refine lv_tableIn (off := 395) (tgt := 427) hx hb dL_law_32 (by rw [c_9]; decide) (by rw [c_9]; decide) (by rw [c_9]; rfl) (by decide) ?_
      refine lv_aload_n hx hb dL_law_427 rfl (lv_at hl 1 rfl) ?_
      refine lv_aload_n hx hb dL_law_428 rfl (lv_at hl 0 rfl) ?_
      refine lv_iload_n hx hb dL_law_429 rfl (lv_at hl 3 rfl) ?_
      refine lv_iconst (v := 1) hx hb dL_law_430 (by decide) ?_
      refine lv_iadd hx hb dL_law_431 ?_
      refine va_sld hx hb hXs hbl hbA hS h_in1 dL_law_432 ?_
      refine lv_aload_n hx hb dL_law_433 rfl (lv_at hl 0 rfl) ?_
      refine lv_iload_n hx hb dL_law_434 rfl (lv_at hl 3 rfl) ?_
      refine lv_iconst (v := 2) hx hb dL_law_435 (by decide) ?_
      refine lv_iadd hx hb dL_law_436 ?_
      refine va_sld hx hb hXs hbl hbA hS h_in2 dL_law_437 ?_
      obtain ⟨u, v, hu, hv, hr, hR2⟩ := op_stringOf K M (xs (Int32.toNatClampNeg (nI i + 1))) (xs (Int32.toNatClampNeg (nI i + 2))) hR
      refine k_wi (runV F wdL_53 (rm := rm_X6_stringOf) (As := [.int (xs (Int32.toNatClampNeg (nI i + 1))), .int (xs (Int32.toNatClampNeg (nI i + 2)))]) (rest := []) ⟨rfl, rfl⟩ ⟨Nat.le_of_ble_eq_true rfl, Nat.le_of_ble_eq_true rfl⟩ hl.1 rfl rfl (Nat.le_of_ble_eq_true rfl) dL_law_438 ⟨Nat.le_of_ble_eq_true rfl, Nat.le_of_ble_eq_true rfl⟩) (c_X6_stringOf l D cI cP o h tx tn Ad K (xs (Int32.toNatClampNeg (nI i + 1))) (xs (Int32.toNatClampNeg (nI i + 2))) _ hu) hX (va_recv hX.1 (va_blk (Bs := [wMain cI cP o h tx tn Ad K, wMod cI am M]) hP 0 rfl) (ci := 6) (q0 := 0) rfl rfl) (Cut.one (Bs := [wMain cI cP o h tx tn Ad K, wMod cI am M]) (k := 0) rfl rfl) hP hD hS hA (fun H locs hP hD hS => ?_)
      have hP : va_P D vwCl ([wMain cI cP o h tx tn Ad u.1, wMod cI am M] : List va_W).flatten H := hP
      have hD : va_D (fun q : Nat => s.heap.size ≤ q) ([wMain cI cP o h tx tn Ad u.1, wMod cI am M] : List va_W).flatten := hD
      refine lv_aload_n hx hb dL_law_441 rfl (lv_at hl 2 rfl) ?_
      refine lv_aload_n hx hb dL_law_442 rfl (lv_at hl 0 rfl) ?_
      refine lv_iload_n hx hb dL_law_443 rfl (lv_at hl 3 rfl) ?_
      refine lv_iconst (v := 1) hx hb dL_law_444 (by decide) ?_
      refine lv_iadd hx hb dL_law_445 ?_
      refine va_sld hx hb hXs hbl hbA hS h_in1 dL_law_446 ?_
      refine lv_aload_n hx hb dL_law_447 rfl (lv_at hl 0 rfl) ?_
      refine lv_iload_n hx hb dL_law_448 rfl (lv_at hl 3 rfl) ?_
      refine lv_iconst (v := 2) hx hb dL_law_449 (by decide) ?_
      refine lv_iadd hx hb dL_law_450 ?_
      refine va_sld hx hb hXs hbl hbA hS h_in2 dL_law_451 ?_
      refine k_wi (runV F wdL_56 (rm := rm_X7_stringOf) (As := [.int (xs (Int32.toNatClampNeg (nI i + 1))), .int (xs (Int32.toNatClampNeg (nI i + 2)))]) (rest := [.int u.2]) ⟨rfl, rfl⟩ ⟨Nat.le_of_ble_eq_true rfl, Nat.le_of_ble_eq_true rfl⟩ hl.1 rfl rfl (Nat.le_of_ble_eq_true rfl) dL_law_452 ⟨Nat.le_of_ble_eq_true rfl, Nat.le_of_ble_eq_true rfl⟩) (c_X7_stringOf l D cI cP am M (xs (Int32.toNatClampNeg (nI i + 1))) (xs (Int32.toNatClampNeg (nI i + 2))) _ hv) hX (va_recv hX.1 (va_blk (Bs := [wMain cI cP o h tx tn Ad u.1, wMod cI am M]) hP 1 rfl) (ci := 7) (q0 := 0) rfl rfl) (Cut.one (Bs := [wMain cI cP o h tx tn Ad u.1, wMod cI am M]) (k := 1) rfl rfl) hP hD hS hA (fun H locs hP hD hS => ?_)
      have hP : va_P D vwCl ([wMain cI cP o h tx tn Ad u.1, wMod cI am v.1] : List va_W).flatten H := hP
      have hD : va_D (fun q : Nat => s.heap.size ≤ q) ([wMain cI cP o h tx tn Ad u.1, wMod cI am v.1] : List va_W).flatten := hD
      refine lv_icmp_eq (tgt := 818) hx hb dL_law_455 (by decide) (fun _ => ?_) (fun c0 => absurd hr c0)
      refine lv_iinc (v := nI (i + 5)) (lv' := [(3, .int (nI (i + 5))), (0, .ref b), (1, .ref o), (2, .ref (am 0))]) hx hb dL_law_818 hl (k := 3) rfl (by rw [← nI_add]; rfl) (by decide) rfl (fun ls hl => ?_)
      refine lv_goto (tgt := 18) hx hb dL_law_821 (by decide) ?_
      exact ih (i + 5) u.1 v.1 _ _ ls (by omega) (by omega) hR2 hP hD hS (lv_sub hl [1, 2, 3, 0] rfl)
    rcases Decidable.em ((xs (Int32.toNatClampNeg (nI i)) &&& 31) = 10) with c_10 | c_10
    · refine lv_tableIn (off := 428) (tgt := 460) hx hb dL_law_32 (by rw [c_10]; decide) (by rw [c_10]; decide) (by rw [c_10]; rfl) (by decide) ?_
      refine lv_aload_n hx hb dL_law_460 rfl (lv_at hl 1 rfl) ?_
      refine lv_aload_n hx hb dL_law_461 rfl (lv_at hl 0 rfl) ?_
      refine lv_iload_n hx hb dL_law_462 rfl (lv_at hl 3 rfl) ?_
      refine lv_iconst (v := 1) hx hb dL_law_463 (by decide) ?_
      refine lv_iadd hx hb dL_law_464 ?_
      refine va_sld hx hb hXs hbl hbA hS h_in1 dL_law_465 ?_
      refine lv_aload_n hx hb dL_law_466 rfl (lv_at hl 0 rfl) ?_
      refine lv_iload_n hx hb dL_law_467 rfl (lv_at hl 3 rfl) ?_
      refine lv_iconst (v := 2) hx hb dL_law_468 (by decide) ?_
      refine lv_iadd hx hb dL_law_469 ?_
      refine va_sld hx hb hXs hbl hbA hS h_in2 dL_law_470 ?_
      obtain ⟨u, v, hu, hv, hr, hR2⟩ := op_between K M (xs (Int32.toNatClampNeg (nI i + 1))) (xs (Int32.toNatClampNeg (nI i + 2))) hR
      refine k_rd (runV F wdL_57 (rm := rm_X6_between) (As := [.int (xs (Int32.toNatClampNeg (nI i + 1))), .int (xs (Int32.toNatClampNeg (nI i + 2)))]) (rest := []) ⟨rfl, rfl⟩ ⟨Nat.le_of_ble_eq_true rfl, Nat.le_of_ble_eq_true rfl⟩ hl.1 rfl rfl (Nat.le_of_ble_eq_true rfl) dL_law_471 ⟨Nat.le_of_ble_eq_true rfl, Nat.le_of_ble_eq_true rfl⟩) (c_X6_between l D cI cP o h tx tn Ad K (xs (Int32.toNatClampNeg (nI i + 1))) (xs (Int32.toNatClampNeg (nI i + 2))) _ hu) hX (va_recv hX.1 (va_blk (Bs := [wMain cI cP o h tx tn Ad K, wMod cI am M]) hP 0 rfl) (ci := 6) (q0 := 0) rfl rfl) (va_blk (Bs := [wMain cI cP o h tx tn Ad K, wMod cI am M]) hP 0 rfl) hP hS hA (fun H locs hP hS => ?_)
      refine lv_aload_n hx hb dL_law_474 rfl (lv_at hl 2 rfl) ?_
      refine lv_aload_n hx hb dL_law_475 rfl (lv_at hl 0 rfl) ?_
      refine lv_iload_n hx hb dL_law_476 rfl (lv_at hl 3 rfl) ?_
      refine lv_iconst (v := 1) hx hb dL_law_477 (by decide) ?_
      refine lv_iadd hx hb dL_law_478 ?_
      refine va_sld hx hb hXs hbl hbA hS h_in1 dL_law_479 ?_
      refine lv_aload_n hx hb dL_law_480 rfl (lv_at hl 0 rfl) ?_
      refine lv_iload_n hx hb dL_law_481 rfl (lv_at hl 3 rfl) ?_
      refine lv_iconst (v := 2) hx hb dL_law_482 (by decide) ?_
      refine lv_iadd hx hb dL_law_483 ?_
      refine va_sld hx hb hXs hbl hbA hS h_in2 dL_law_484 ?_
      refine k_rd (runV F wdL_60 (rm := rm_X7_between) (As := [.int (xs (Int32.toNatClampNeg (nI i + 1))), .int (xs (Int32.toNatClampNeg (nI i + 2)))]) (rest := [.int u]) ⟨rfl, rfl⟩ ⟨Nat.le_of_ble_eq_true rfl, Nat.le_of_ble_eq_true rfl⟩ hl.1 rfl rfl (Nat.le_of_ble_eq_true rfl) dL_law_485 ⟨Nat.le_of_ble_eq_true rfl, Nat.le_of_ble_eq_true rfl⟩) (c_X7_between l D cI cP am M (xs (Int32.toNatClampNeg (nI i + 1))) (xs (Int32.toNatClampNeg (nI i + 2))) _ hv) hX (va_recv hX.1 (va_blk (Bs := [wMain cI cP o h tx tn Ad K, wMod cI am M]) hP 1 rfl) (ci := 7) (q0 := 0) rfl rfl) (va_blk (Bs := [wMain cI cP o h tx tn Ad K, wMod cI am M]) hP 1 rfl) hP hS hA (fun H locs hP hS => ?_)
      refine lv_icmp_eq (tgt := 818) hx hb dL_law_488 (by decide) (fun _ => ?_) (fun c0 => absurd hr c0)
      refine lv_iinc (v := nI (i + 5)) (lv' := [(3, .int (nI (i + 5))), (0, .ref b), (1, .ref o), (2, .ref (am 0))]) hx hb dL_law_818 hl (k := 3) rfl (by rw [← nI_add]; rfl) (by decide) rfl (fun ls hl => ?_)
      refine lv_goto (tgt := 18) hx hb dL_law_821 (by decide) ?_
      exact ih (i + 5) K M _ _ ls (by omega) (by omega) hR2 hP hD hS (lv_sub hl [1, 2, 3, 0] rfl)
    rcases Decidable.em ((xs (Int32.toNatClampNeg (nI i)) &&& 31) = 11) with c_11 | c_11
    · refine lv_tableIn (off := 461) (tgt := 493) hx hb dL_law_32 (by rw [c_11]; decide) (by rw [c_11]; decide) (by rw [c_11]; rfl) (by decide) ?_
      refine lv_aload_n hx hb dL_law_493 rfl (lv_at hl 1 rfl) ?_
      refine lv_aload_n hx hb dL_law_494 rfl (lv_at hl 0 rfl) ?_
      refine lv_iload_n hx hb dL_law_495 rfl (lv_at hl 3 rfl) ?_
      refine lv_iconst (v := 1) hx hb dL_law_496 (by decide) ?_
      refine lv_iadd hx hb dL_law_497 ?_
      refine va_sld hx hb hXs hbl hbA hS h_in1 dL_law_498 ?_
      refine lv_aload_n hx hb dL_law_499 rfl (lv_at hl 0 rfl) ?_
      refine lv_iload_n hx hb dL_law_500 rfl (lv_at hl 3 rfl) ?_
      refine lv_iconst (v := 2) hx hb dL_law_501 (by decide) ?_
      refine lv_iadd hx hb dL_law_502 ?_
      refine va_sld hx hb hXs hbl hbA hS h_in2 dL_law_503 ?_
      obtain ⟨v, hv, hr, hR2⟩ := op_book K M (xs (Int32.toNatClampNeg (nI i + 1))) (xs (Int32.toNatClampNeg (nI i + 2))) hR
      refine k_rd (runV F wdL_61 (rm := rm_X6_book) (As := [.int (xs (Int32.toNatClampNeg (nI i + 1))), .int (xs (Int32.toNatClampNeg (nI i + 2)))]) (rest := []) ⟨rfl, rfl⟩ ⟨Nat.le_of_ble_eq_true rfl, Nat.le_of_ble_eq_true rfl⟩ hl.1 rfl rfl (Nat.le_of_ble_eq_true rfl) dL_law_504 ⟨Nat.le_of_ble_eq_true rfl, Nat.le_of_ble_eq_true rfl⟩) (c_X6_book l D cI cP o h tx tn Ad K (xs (Int32.toNatClampNeg (nI i + 1))) (xs (Int32.toNatClampNeg (nI i + 2))) _ rfl) hX (va_recv hX.1 (va_blk (Bs := [wMain cI cP o h tx tn Ad K, wMod cI am M]) hP 0 rfl) (ci := 6) (q0 := 0) rfl rfl) (va_blk (Bs := [wMain cI cP o h tx tn Ad K, wMod cI am M]) hP 0 rfl) hP hS hA (fun H locs hP hS => ?_)
      refine lv_aload_n hx hb dL_law_507 rfl (lv_at hl 2 rfl) ?_
      refine lv_aload_n hx hb dL_law_508 rfl (lv_at hl 0 rfl) ?_
      refine lv_iload_n hx hb dL_law_509 rfl (lv_at hl 3 rfl) ?_
      refine lv_iconst (v := 1) hx hb dL_law_510 (by decide) ?_
      refine lv_iadd hx hb dL_law_511 ?_
      refine va_sld hx hb hXs hbl hbA hS h_in1 dL_law_512 ?_
      refine lv_aload_n hx hb dL_law_513 rfl (lv_at hl 0 rfl) ?_
      refine lv_iload_n hx hb dL_law_514 rfl (lv_at hl 3 rfl) ?_
      refine lv_iconst (v := 2) hx hb dL_law_515 (by decide) ?_
      refine lv_iadd hx hb dL_law_516 ?_
      refine va_sld hx hb hXs hbl hbA hS h_in2 dL_law_517 ?_
      refine k_rd (runV F wdL_64 (rm := rm_X7_book) (As := [.int (xs (Int32.toNatClampNeg (nI i + 1))), .int (xs (Int32.toNatClampNeg (nI i + 2)))]) (rest := [.int (X6_book K (xs (Int32.toNatClampNeg (nI i + 1))) (xs (Int32.toNatClampNeg (nI i + 2))))]) ⟨rfl, rfl⟩ ⟨Nat.le_of_ble_eq_true rfl, Nat.le_of_ble_eq_true rfl⟩ hl.1 rfl rfl (Nat.le_of_ble_eq_true rfl) dL_law_518 ⟨Nat.le_of_ble_eq_true rfl, Nat.le_of_ble_eq_true rfl⟩) (c_X7_book l D cI cP am M (xs (Int32.toNatClampNeg (nI i + 1))) (xs (Int32.toNatClampNeg (nI i + 2))) _ hv) hX (va_recv hX.1 (va_blk (Bs := [wMain cI cP o h tx tn Ad K, wMod cI am M]) hP 1 rfl) (ci := 7) (q0 := 0) rfl rfl) (va_blk (Bs := [wMain cI cP o h tx tn Ad K, wMod cI am M]) hP 1 rfl) hP hS hA (fun H locs hP hS => ?_)
      refine lv_icmp_eq (tgt := 818) hx hb dL_law_521 (by decide) (fun _ => ?_) (fun c0 => absurd hr c0)
      refine lv_iinc (v := nI (i + 5)) (lv' := [(3, .int (nI (i + 5))), (0, .ref b), (1, .ref o), (2, .ref (am 0))]) hx hb dL_law_818 hl (k := 3) rfl (by rw [← nI_add]; rfl) (by decide) rfl (fun ls hl => ?_)
      refine lv_goto (tgt := 18) hx hb dL_law_821 (by decide) ?_
      exact ih (i + 5) K M _ _ ls (by omega) (by omega) hR2 hP hD hS (lv_sub hl [1, 2, 3, 0] rfl)
    rcases Decidable.em ((xs (Int32.toNatClampNeg (nI i)) &&& 31) = 12) with c_12 | c_12
    · refine lv_tableIn (off := 494) (tgt := 526) hx hb dL_law_32 (by rw [c_12]; decide) (by rw [c_12]; decide) (by rw [c_12]; rfl) (by decide) ?_
      refine lv_aload_n hx hb dL_law_526 rfl (lv_at hl 1 rfl) ?_
      refine lv_aload_n hx hb dL_law_527 rfl (lv_at hl 0 rfl) ?_
      refine lv_iload_n hx hb dL_law_528 rfl (lv_at hl 3 rfl) ?_
      refine lv_iconst (v := 1) hx hb dL_law_529 (by decide) ?_
      refine lv_iadd hx hb dL_law_530 ?_
      refine va_sld hx hb hXs hbl hbA hS h_in1 dL_law_531 ?_
      refine lv_aload_n hx hb dL_law_532 rfl (lv_at hl 0 rfl) ?_
      refine lv_iload_n hx hb dL_law_533 rfl (lv_at hl 3 rfl) ?_
      refine lv_iconst (v := 2) hx hb dL_law_534 (by decide) ?_
      refine lv_iadd hx hb dL_law_535 ?_
      refine va_sld hx hb hXs hbl hbA hS h_in2 dL_law_536 ?_
      refine lv_aload_n hx hb dL_law_537 rfl (lv_at hl 0 rfl) ?_
      refine lv_iload_n hx hb dL_law_538 rfl (lv_at hl 3 rfl) ?_
      refine lv_iconst (v := 3) hx hb dL_law_539 (by decide) ?_
      refine lv_iadd hx hb dL_law_540 ?_
      refine va_sld hx hb hXs hbl hbA hS h_in3 dL_law_541 ?_
      refine lv_if_eq (tgt := 549) hx hb dL_law_542 (by decide) (fun cb3 => ?_) (fun cb3 => ?_)
      · refine lv_iconst (v := 0) hx hb dL_law_549 (by decide) ?_
        obtain ⟨u, v, hu, hv, hr, hR2⟩ := op_whyTie K M (xs (Int32.toNatClampNeg (nI i + 1))) (xs (Int32.toNatClampNeg (nI i + 2))) 0 (Or.inl rfl) hR
        refine k_rd (runV F wdL_65 (rm := rm_X6_whyTie) (As := [.int (xs (Int32.toNatClampNeg (nI i + 1))), .int (xs (Int32.toNatClampNeg (nI i + 2))), .int 0]) (rest := []) ⟨rfl, rfl⟩ ⟨Nat.le_of_ble_eq_true rfl, Nat.le_of_ble_eq_true rfl⟩ hl.1 rfl rfl (Nat.le_of_ble_eq_true rfl) dL_law_550 ⟨Nat.le_of_ble_eq_true rfl, Nat.le_of_ble_eq_true rfl⟩) (c_X6_whyTie l D cI cP o h tx tn Ad K (xs (Int32.toNatClampNeg (nI i + 1))) (xs (Int32.toNatClampNeg (nI i + 2))) 0 _ hu) hX (va_recv hX.1 (va_blk (Bs := [wMain cI cP o h tx tn Ad K, wMod cI am M]) hP 0 rfl) (ci := 6) (q0 := 0) rfl rfl) (va_blk (Bs := [wMain cI cP o h tx tn Ad K, wMod cI am M]) hP 0 rfl) hP hS hA (fun H locs hP hS => ?_)
        refine lv_aload_n hx hb dL_law_553 rfl (lv_at hl 2 rfl) ?_
        refine lv_aload_n hx hb dL_law_554 rfl (lv_at hl 0 rfl) ?_
        refine lv_iload_n hx hb dL_law_555 rfl (lv_at hl 3 rfl) ?_
        refine lv_iconst (v := 1) hx hb dL_law_556 (by decide) ?_
        refine lv_iadd hx hb dL_law_557 ?_
        refine va_sld hx hb hXs hbl hbA hS h_in1 dL_law_558 ?_
        refine lv_aload_n hx hb dL_law_559 rfl (lv_at hl 0 rfl) ?_
        refine lv_iload_n hx hb dL_law_560 rfl (lv_at hl 3 rfl) ?_
        refine lv_iconst (v := 2) hx hb dL_law_561 (by decide) ?_
        refine lv_iadd hx hb dL_law_562 ?_
        refine va_sld hx hb hXs hbl hbA hS h_in2 dL_law_563 ?_
        refine lv_aload_n hx hb dL_law_564 rfl (lv_at hl 0 rfl) ?_
        refine lv_iload_n hx hb dL_law_565 rfl (lv_at hl 3 rfl) ?_
        refine lv_iconst (v := 3) hx hb dL_law_566 (by decide) ?_
        refine lv_iadd hx hb dL_law_567 ?_
        refine va_sld hx hb hXs hbl hbA hS h_in3 dL_law_568 ?_
        refine lv_if_eq (tgt := 576) hx hb dL_law_569 (by decide) (fun _ => ?_) (fun c0 => absurd cb3 c0)
        refine lv_iconst (v := 0) hx hb dL_law_576 (by decide) ?_
        refine k_wi (runV F wdL_69 (rm := rm_X7_whyTie) (As := [.int (xs (Int32.toNatClampNeg (nI i + 1))), .int (xs (Int32.toNatClampNeg (nI i + 2))), .int 0]) (rest := [.int u]) ⟨rfl, rfl⟩ ⟨Nat.le_of_ble_eq_true rfl, Nat.le_of_ble_eq_true rfl⟩ hl.1 rfl rfl (Nat.le_of_ble_eq_true rfl) dL_law_577 ⟨Nat.le_of_ble_eq_true rfl, Nat.le_of_ble_eq_true rfl⟩) (c_X7_whyTie l D cI cP am M (xs (Int32.toNatClampNeg (nI i + 1))) (xs (Int32.toNatClampNeg (nI i + 2))) 0 _ hv) hX (va_recv hX.1 (va_blk (Bs := [wMain cI cP o h tx tn Ad K, wMod cI am M]) hP 1 rfl) (ci := 7) (q0 := 0) rfl rfl) (Cut.one (Bs := [wMain cI cP o h tx tn Ad K, wMod cI am M]) (k := 1) rfl rfl) hP hD hS hA (fun H locs hP hD hS => ?_)
        have hP : va_P D vwCl ([wMain cI cP o h tx tn Ad K, wMod cI am v.1] : List va_W).flatten H := hP
        have hD : va_D (fun q : Nat => s.heap.size ≤ q) ([wMain cI cP o h tx tn Ad K, wMod cI am v.1] : List va_W).flatten := hD
        refine lv_icmp_eq (tgt := 818) hx hb dL_law_580 (by decide) (fun _ => ?_) (fun c0 => absurd hr c0)
        refine lv_iinc (v := nI (i + 5)) (lv' := [(3, .int (nI (i + 5))), (0, .ref b), (1, .ref o), (2, .ref (am 0))]) hx hb dL_law_818 hl (k := 3) rfl (by rw [← nI_add]; rfl) (by decide) rfl (fun ls hl => ?_)
        refine lv_goto (tgt := 18) hx hb dL_law_821 (by decide) ?_
        exact ih (i + 5) K v.1 _ _ ls (by omega) (by omega) hR2 hP hD hS (lv_sub hl [1, 2, 3, 0] rfl)
      · refine lv_iconst (v := 1) hx hb dL_law_545 (by decide) ?_
        refine lv_goto (tgt := 550) hx hb dL_law_546 (by decide) ?_
        obtain ⟨u, v, hu, hv, hr, hR2⟩ := op_whyTie K M (xs (Int32.toNatClampNeg (nI i + 1))) (xs (Int32.toNatClampNeg (nI i + 2))) 1 (Or.inr rfl) hR
        refine k_rd (runV F wdL_65 (rm := rm_X6_whyTie) (As := [.int (xs (Int32.toNatClampNeg (nI i + 1))), .int (xs (Int32.toNatClampNeg (nI i + 2))), .int 1]) (rest := []) ⟨rfl, rfl⟩ ⟨Nat.le_of_ble_eq_true rfl, Nat.le_of_ble_eq_true rfl⟩ hl.1 rfl rfl (Nat.le_of_ble_eq_true rfl) dL_law_550 ⟨Nat.le_of_ble_eq_true rfl, Nat.le_of_ble_eq_true rfl⟩) (c_X6_whyTie l D cI cP o h tx tn Ad K (xs (Int32.toNatClampNeg (nI i + 1))) (xs (Int32.toNatClampNeg (nI i + 2))) 1 _ hu) hX (va_recv hX.1 (va_blk (Bs := [wMain cI cP o h tx tn Ad K, wMod cI am M]) hP 0 rfl) (ci := 6) (q0 := 0) rfl rfl) (va_blk (Bs := [wMain cI cP o h tx tn Ad K, wMod cI am M]) hP 0 rfl) hP hS hA (fun H locs hP hS => ?_)
        refine lv_aload_n hx hb dL_law_553 rfl (lv_at hl 2 rfl) ?_
        refine lv_aload_n hx hb dL_law_554 rfl (lv_at hl 0 rfl) ?_
        refine lv_iload_n hx hb dL_law_555 rfl (lv_at hl 3 rfl) ?_
        refine lv_iconst (v := 1) hx hb dL_law_556 (by decide) ?_
        refine lv_iadd hx hb dL_law_557 ?_
        refine va_sld hx hb hXs hbl hbA hS h_in1 dL_law_558 ?_
        refine lv_aload_n hx hb dL_law_559 rfl (lv_at hl 0 rfl) ?_
        refine lv_iload_n hx hb dL_law_560 rfl (lv_at hl 3 rfl) ?_
        refine lv_iconst (v := 2) hx hb dL_law_561 (by decide) ?_
        refine lv_iadd hx hb dL_law_562 ?_
        refine va_sld hx hb hXs hbl hbA hS h_in2 dL_law_563 ?_
        refine lv_aload_n hx hb dL_law_564 rfl (lv_at hl 0 rfl) ?_
        refine lv_iload_n hx hb dL_law_565 rfl (lv_at hl 3 rfl) ?_
        refine lv_iconst (v := 3) hx hb dL_law_566 (by decide) ?_
        refine lv_iadd hx hb dL_law_567 ?_
        refine va_sld hx hb hXs hbl hbA hS h_in3 dL_law_568 ?_
        refine lv_if_eq (tgt := 576) hx hb dL_law_569 (by decide) (fun c0 => absurd c0 cb3) (fun _ => ?_)
        refine lv_iconst (v := 1) hx hb dL_law_572 (by decide) ?_
        refine lv_goto (tgt := 577) hx hb dL_law_573 (by decide) ?_
        refine k_wi (runV F wdL_69 (rm := rm_X7_whyTie) (As := [.int (xs (Int32.toNatClampNeg (nI i + 1))), .int (xs (Int32.toNatClampNeg (nI i + 2))), .int 1]) (rest := [.int u]) ⟨rfl, rfl⟩ ⟨Nat.le_of_ble_eq_true rfl, Nat.le_of_ble_eq_true rfl⟩ hl.1 rfl rfl (Nat.le_of_ble_eq_true rfl) dL_law_577 ⟨Nat.le_of_ble_eq_true rfl, Nat.le_of_ble_eq_true rfl⟩) (c_X7_whyTie l D cI cP am M (xs (Int32.toNatClampNeg (nI i + 1))) (xs (Int32.toNatClampNeg (nI i + 2))) 1 _ hv) hX (va_recv hX.1 (va_blk (Bs := [wMain cI cP o h tx tn Ad K, wMod cI am M]) hP 1 rfl) (ci := 7) (q0 := 0) rfl rfl) (Cut.one (Bs := [wMain cI cP o h tx tn Ad K, wMod cI am M]) (k := 1) rfl rfl) hP hD hS hA (fun H locs hP hD hS => ?_)
        have hP : va_P D vwCl ([wMain cI cP o h tx tn Ad K, wMod cI am v.1] : List va_W).flatten H := hP
        have hD : va_D (fun q : Nat => s.heap.size ≤ q) ([wMain cI cP o h tx tn Ad K, wMod cI am v.1] : List va_W).flatten := hD
        refine lv_icmp_eq (tgt := 818) hx hb dL_law_580 (by decide) (fun _ => ?_) (fun c0 => absurd hr c0)
        refine lv_iinc (v := nI (i + 5)) (lv' := [(3, .int (nI (i + 5))), (0, .ref b), (1, .ref o), (2, .ref (am 0))]) hx hb dL_law_818 hl (k := 3) rfl (by rw [← nI_add]; rfl) (by decide) rfl (fun ls hl => ?_)
        refine lv_goto (tgt := 18) hx hb dL_law_821 (by decide) ?_
        exact ih (i + 5) K v.1 _ _ ls (by omega) (by omega) hR2 hP hD hS (lv_sub hl [1, 2, 3, 0] rfl)
    rcases Decidable.em ((xs (Int32.toNatClampNeg (nI i)) &&& 31) = 13) with c_13 | c_13
    · refine lv_tableIn (off := 553) (tgt := 585) hx hb dL_law_32 (by rw [c_13]; decide) (by rw [c_13]; decide) (by rw [c_13]; rfl) (by decide) ?_
      refine lv_aload_n hx hb dL_law_585 rfl (lv_at hl 1 rfl) ?_
      refine lv_aload_n hx hb dL_law_586 rfl (lv_at hl 0 rfl) ?_
      refine lv_iload_n hx hb dL_law_587 rfl (lv_at hl 3 rfl) ?_
      refine lv_iconst (v := 1) hx hb dL_law_588 (by decide) ?_
      refine lv_iadd hx hb dL_law_589 ?_
      refine va_sld hx hb hXs hbl hbA hS h_in1 dL_law_590 ?_
      refine lv_aload_n hx hb dL_law_591 rfl (lv_at hl 0 rfl) ?_
      refine lv_iload_n hx hb dL_law_592 rfl (lv_at hl 3 rfl) ?_
      refine lv_iconst (v := 2) hx hb dL_law_593 (by decide) ?_
      refine lv_iadd hx hb dL_law_594 ?_
      refine va_sld hx hb hXs hbl hbA hS h_in2 dL_law_595 ?_
      obtain ⟨u, v, hu, hv, hr, hR2⟩ := op_whyPull K M (xs (Int32.toNatClampNeg (nI i + 1))) (xs (Int32.toNatClampNeg (nI i + 2))) hR
      refine k_rd (runV F wdL_70 (rm := rm_X6_whyPull) (As := [.int (xs (Int32.toNatClampNeg (nI i + 1))), .int (xs (Int32.toNatClampNeg (nI i + 2)))]) (rest := []) ⟨rfl, rfl⟩ ⟨Nat.le_of_ble_eq_true rfl, Nat.le_of_ble_eq_true rfl⟩ hl.1 rfl rfl (Nat.le_of_ble_eq_true rfl) dL_law_596 ⟨Nat.le_of_ble_eq_true rfl, Nat.le_of_ble_eq_true rfl⟩) (c_X6_whyPull l D cI cP o h tx tn Ad K (xs (Int32.toNatClampNeg (nI i + 1))) (xs (Int32.toNatClampNeg (nI i + 2))) _ hu) hX (va_recv hX.1 (va_blk (Bs := [wMain cI cP o h tx tn Ad K, wMod cI am M]) hP 0 rfl) (ci := 6) (q0 := 0) rfl rfl) (va_blk (Bs := [wMain cI cP o h tx tn Ad K, wMod cI am M]) hP 0 rfl) hP hS hA (fun H locs hP hS => ?_)
      refine lv_aload_n hx hb dL_law_599 rfl (lv_at hl 2 rfl) ?_
      refine lv_aload_n hx hb dL_law_600 rfl (lv_at hl 0 rfl) ?_
      refine lv_iload_n hx hb dL_law_601 rfl (lv_at hl 3 rfl) ?_
      refine lv_iconst (v := 1) hx hb dL_law_602 (by decide) ?_
      refine lv_iadd hx hb dL_law_603 ?_
      refine va_sld hx hb hXs hbl hbA hS h_in1 dL_law_604 ?_
      refine lv_aload_n hx hb dL_law_605 rfl (lv_at hl 0 rfl) ?_
      refine lv_iload_n hx hb dL_law_606 rfl (lv_at hl 3 rfl) ?_
      refine lv_iconst (v := 2) hx hb dL_law_607 (by decide) ?_
      refine lv_iadd hx hb dL_law_608 ?_
      refine va_sld hx hb hXs hbl hbA hS h_in2 dL_law_609 ?_
      refine k_wi (runV F wdL_73 (rm := rm_X7_whyPull) (As := [.int (xs (Int32.toNatClampNeg (nI i + 1))), .int (xs (Int32.toNatClampNeg (nI i + 2)))]) (rest := [.int u]) ⟨rfl, rfl⟩ ⟨Nat.le_of_ble_eq_true rfl, Nat.le_of_ble_eq_true rfl⟩ hl.1 rfl rfl (Nat.le_of_ble_eq_true rfl) dL_law_610 ⟨Nat.le_of_ble_eq_true rfl, Nat.le_of_ble_eq_true rfl⟩) (c_X7_whyPull l D cI cP am M (xs (Int32.toNatClampNeg (nI i + 1))) (xs (Int32.toNatClampNeg (nI i + 2))) _ hv) hX (va_recv hX.1 (va_blk (Bs := [wMain cI cP o h tx tn Ad K, wMod cI am M]) hP 1 rfl) (ci := 7) (q0 := 0) rfl rfl) (Cut.one (Bs := [wMain cI cP o h tx tn Ad K, wMod cI am M]) (k := 1) rfl rfl) hP hD hS hA (fun H locs hP hD hS => ?_)
      have hP : va_P D vwCl ([wMain cI cP o h tx tn Ad K, wMod cI am v.1] : List va_W).flatten H := hP
      have hD : va_D (fun q : Nat => s.heap.size ≤ q) ([wMain cI cP o h tx tn Ad K, wMod cI am v.1] : List va_W).flatten := hD
      refine lv_icmp_eq (tgt := 818) hx hb dL_law_613 (by decide) (fun _ => ?_) (fun c0 => absurd hr c0)
      refine lv_iinc (v := nI (i + 5)) (lv' := [(3, .int (nI (i + 5))), (0, .ref b), (1, .ref o), (2, .ref (am 0))]) hx hb dL_law_818 hl (k := 3) rfl (by rw [← nI_add]; rfl) (by decide) rfl (fun ls hl => ?_)
      refine lv_goto (tgt := 18) hx hb dL_law_821 (by decide) ?_
      exact ih (i + 5) K v.1 _ _ ls (by omega) (by omega) hR2 hP hD hS (lv_sub hl [1, 2, 3, 0] rfl)
    rcases Decidable.em ((xs (Int32.toNatClampNeg (nI i)) &&& 31) = 14) with c_14 | c_14
    · refine lv_tableIn (off := 586) (tgt := 618) hx hb dL_law_32 (by rw [c_14]; decide) (by rw [c_14]; decide) (by rw [c_14]; rfl) (by decide) ?_
      refine lv_aload_n hx hb dL_law_618 rfl (lv_at hl 1 rfl) ?_
      refine lv_aload_n hx hb dL_law_619 rfl (lv_at hl 0 rfl) ?_
      refine lv_iload_n hx hb dL_law_620 rfl (lv_at hl 3 rfl) ?_
      refine lv_iconst (v := 1) hx hb dL_law_621 (by decide) ?_
      refine lv_iadd hx hb dL_law_622 ?_
      refine va_sld hx hb hXs hbl hbA hS h_in1 dL_law_623 ?_
      obtain ⟨u, v, hu, hv, hr, hR2⟩ := op_bestPull K M (xs (Int32.toNatClampNeg (nI i + 1))) hR
      refine k_wi (runV F wdL_74 (rm := rm_X6_bestPull) (As := [.int (xs (Int32.toNatClampNeg (nI i + 1)))]) (rest := []) ⟨rfl, rfl⟩ ⟨Nat.le_of_ble_eq_true rfl, Nat.le_of_ble_eq_true rfl⟩ hl.1 rfl rfl (Nat.le_of_ble_eq_true rfl) dL_law_624 ⟨Nat.le_of_ble_eq_true rfl, Nat.le_of_ble_eq_true rfl⟩) (c_X6_bestPull l D cI cP o h tx tn Ad K (xs (Int32.toNatClampNeg (nI i + 1))) _ hu) hX (va_recv hX.1 (va_blk (Bs := [wMain cI cP o h tx tn Ad K, wMod cI am M]) hP 0 rfl) (ci := 6) (q0 := 0) rfl rfl) (Cut.one (Bs := [wMain cI cP o h tx tn Ad K, wMod cI am M]) (k := 0) rfl rfl) hP hD hS hA (fun H locs hP hD hS => ?_)
      have hP : va_P D vwCl ([wMain cI cP o h tx tn Ad u.1, wMod cI am M] : List va_W).flatten H := hP
      have hD : va_D (fun q : Nat => s.heap.size ≤ q) ([wMain cI cP o h tx tn Ad u.1, wMod cI am M] : List va_W).flatten := hD
      refine lv_aload_n hx hb dL_law_627 rfl (lv_at hl 2 rfl) ?_
      refine lv_aload_n hx hb dL_law_628 rfl (lv_at hl 0 rfl) ?_
      refine lv_iload_n hx hb dL_law_629 rfl (lv_at hl 3 rfl) ?_
      refine lv_iconst (v := 1) hx hb dL_law_630 (by decide) ?_
      refine lv_iadd hx hb dL_law_631 ?_
      refine va_sld hx hb hXs hbl hbA hS h_in1 dL_law_632 ?_
      refine k_wi (runV F wdL_77 (rm := rm_X7_bestPull) (As := [.int (xs (Int32.toNatClampNeg (nI i + 1)))]) (rest := [.int u.2]) ⟨rfl, rfl⟩ ⟨Nat.le_of_ble_eq_true rfl, Nat.le_of_ble_eq_true rfl⟩ hl.1 rfl rfl (Nat.le_of_ble_eq_true rfl) dL_law_633 ⟨Nat.le_of_ble_eq_true rfl, Nat.le_of_ble_eq_true rfl⟩) (c_X7_bestPull l D cI cP am M (xs (Int32.toNatClampNeg (nI i + 1))) _ hv) hX (va_recv hX.1 (va_blk (Bs := [wMain cI cP o h tx tn Ad u.1, wMod cI am M]) hP 1 rfl) (ci := 7) (q0 := 0) rfl rfl) (Cut.one (Bs := [wMain cI cP o h tx tn Ad u.1, wMod cI am M]) (k := 1) rfl rfl) hP hD hS hA (fun H locs hP hD hS => ?_)
      have hP : va_P D vwCl ([wMain cI cP o h tx tn Ad u.1, wMod cI am v.1] : List va_W).flatten H := hP
      have hD : va_D (fun q : Nat => s.heap.size ≤ q) ([wMain cI cP o h tx tn Ad u.1, wMod cI am v.1] : List va_W).flatten := hD
      refine lv_icmp_eq (tgt := 818) hx hb dL_law_636 (by decide) (fun _ => ?_) (fun c0 => absurd hr c0)
      refine lv_iinc (v := nI (i + 5)) (lv' := [(3, .int (nI (i + 5))), (0, .ref b), (1, .ref o), (2, .ref (am 0))]) hx hb dL_law_818 hl (k := 3) rfl (by rw [← nI_add]; rfl) (by decide) rfl (fun ls hl => ?_)
      refine lv_goto (tgt := 18) hx hb dL_law_821 (by decide) ?_
      exact ih (i + 5) u.1 v.1 _ _ ls (by omega) (by omega) hR2 hP hD hS (lv_sub hl [1, 2, 3, 0] rfl)
    rcases Decidable.em ((xs (Int32.toNatClampNeg (nI i)) &&& 31) = 15) with c_15 | c_15
    · refine lv_tableIn (off := 609) (tgt := 641) hx hb dL_law_32 (by rw [c_15]; decide) (by rw [c_15]; decide) (by rw [c_15]; rfl) (by decide) ?_
      refine lv_aload_n hx hb dL_law_641 rfl (lv_at hl 1 rfl) ?_
      refine lv_aload_n hx hb dL_law_642 rfl (lv_at hl 0 rfl) ?_
      refine lv_iload_n hx hb dL_law_643 rfl (lv_at hl 3 rfl) ?_
      refine lv_iconst (v := 1) hx hb dL_law_644 (by decide) ?_
      refine lv_iadd hx hb dL_law_645 ?_
      refine va_sld hx hb hXs hbl hbA hS h_in1 dL_law_646 ?_
      obtain ⟨u, v, hu, hv, hr, hR2⟩ := op_fewest K M (xs (Int32.toNatClampNeg (nI i + 1))) hR
      refine k_wi (runV F wdL_78 (rm := rm_X6_fewest) (As := [.int (xs (Int32.toNatClampNeg (nI i + 1)))]) (rest := []) ⟨rfl, rfl⟩ ⟨Nat.le_of_ble_eq_true rfl, Nat.le_of_ble_eq_true rfl⟩ hl.1 rfl rfl (Nat.le_of_ble_eq_true rfl) dL_law_647 ⟨Nat.le_of_ble_eq_true rfl, Nat.le_of_ble_eq_true rfl⟩) (c_X6_fewest l D cI cP o h tx tn Ad K (xs (Int32.toNatClampNeg (nI i + 1))) _ hu) hX (va_recv hX.1 (va_blk (Bs := [wMain cI cP o h tx tn Ad K, wMod cI am M]) hP 0 rfl) (ci := 6) (q0 := 0) rfl rfl) (Cut.one (Bs := [wMain cI cP o h tx tn Ad K, wMod cI am M]) (k := 0) rfl rfl) hP hD hS hA (fun H locs hP hD hS => ?_)
      have hP : va_P D vwCl ([wMain cI cP o h tx tn Ad u.1, wMod cI am M] : List va_W).flatten H := hP
      have hD : va_D (fun q : Nat => s.heap.size ≤ q) ([wMain cI cP o h tx tn Ad u.1, wMod cI am M] : List va_W).flatten := hD
      refine lv_aload_n hx hb dL_law_650 rfl (lv_at hl 2 rfl) ?_
      refine lv_aload_n hx hb dL_law_651 rfl (lv_at hl 0 rfl) ?_
      refine lv_iload_n hx hb dL_law_652 rfl (lv_at hl 3 rfl) ?_
      refine lv_iconst (v := 1) hx hb dL_law_653 (by decide) ?_
      refine lv_iadd hx hb dL_law_654 ?_
      refine va_sld hx hb hXs hbl hbA hS h_in1 dL_law_655 ?_
      refine k_wi (runV F wdL_81 (rm := rm_X7_fewest) (As := [.int (xs (Int32.toNatClampNeg (nI i + 1)))]) (rest := [.int u.2]) ⟨rfl, rfl⟩ ⟨Nat.le_of_ble_eq_true rfl, Nat.le_of_ble_eq_true rfl⟩ hl.1 rfl rfl (Nat.le_of_ble_eq_true rfl) dL_law_656 ⟨Nat.le_of_ble_eq_true rfl, Nat.le_of_ble_eq_true rfl⟩) (c_X7_fewest l D cI cP am M (xs (Int32.toNatClampNeg (nI i + 1))) _ hv) hX (va_recv hX.1 (va_blk (Bs := [wMain cI cP o h tx tn Ad u.1, wMod cI am M]) hP 1 rfl) (ci := 7) (q0 := 0) rfl rfl) (Cut.one (Bs := [wMain cI cP o h tx tn Ad u.1, wMod cI am M]) (k := 1) rfl rfl) hP hD hS hA (fun H locs hP hD hS => ?_)
      have hP : va_P D vwCl ([wMain cI cP o h tx tn Ad u.1, wMod cI am v.1] : List va_W).flatten H := hP
      have hD : va_D (fun q : Nat => s.heap.size ≤ q) ([wMain cI cP o h tx tn Ad u.1, wMod cI am v.1] : List va_W).flatten := hD
      refine lv_icmp_eq (tgt := 818) hx hb dL_law_659 (by decide) (fun _ => ?_) (fun c0 => absurd hr c0)
      refine lv_iinc (v := nI (i + 5)) (lv' := [(3, .int (nI (i + 5))), (0, .ref b), (1, .ref o), (2, .ref (am 0))]) hx hb dL_law_818 hl (k := 3) rfl (by rw [← nI_add]; rfl) (by decide) rfl (fun ls hl => ?_)
      refine lv_goto (tgt := 18) hx hb dL_law_821 (by decide) ?_
      exact ih (i + 5) u.1 v.1 _ _ ls (by omega) (by omega) hR2 hP hD hS (lv_sub hl [1, 2, 3, 0] rfl)
    rcases Decidable.em ((xs (Int32.toNatClampNeg (nI i)) &&& 31) = 16) with c_16 | c_16
    · refine lv_tableIn (off := 632) (tgt := 664) hx hb dL_law_32 (by rw [c_16]; decide) (by rw [c_16]; decide) (by rw [c_16]; rfl) (by decide) ?_
      refine lv_aload_n hx hb dL_law_664 rfl (lv_at hl 1 rfl) ?_
      refine lv_aload_n hx hb dL_law_665 rfl (lv_at hl 0 rfl) ?_
      refine lv_iload_n hx hb dL_law_666 rfl (lv_at hl 3 rfl) ?_
      refine lv_iconst (v := 1) hx hb dL_law_667 (by decide) ?_
      refine lv_iadd hx hb dL_law_668 ?_
      refine va_sld hx hb hXs hbl hbA hS h_in1 dL_law_669 ?_
      refine lv_aload_n hx hb dL_law_670 rfl (lv_at hl 0 rfl) ?_
      refine lv_iload_n hx hb dL_law_671 rfl (lv_at hl 3 rfl) ?_
      refine lv_iconst (v := 2) hx hb dL_law_672 (by decide) ?_
      refine lv_iadd hx hb dL_law_673 ?_
      refine va_sld hx hb hXs hbl hbA hS h_in2 dL_law_674 ?_
      obtain ⟨u, v, hu, hv, hr, hR2⟩ := op_ifCut K M (xs (Int32.toNatClampNeg (nI i + 1))) (xs (Int32.toNatClampNeg (nI i + 2))) hR
      refine k_wi (runV F wdL_82 (rm := rm_X6_ifCut) (As := [.int (xs (Int32.toNatClampNeg (nI i + 1))), .int (xs (Int32.toNatClampNeg (nI i + 2)))]) (rest := []) ⟨rfl, rfl⟩ ⟨Nat.le_of_ble_eq_true rfl, Nat.le_of_ble_eq_true rfl⟩ hl.1 rfl rfl (Nat.le_of_ble_eq_true rfl) dL_law_675 ⟨Nat.le_of_ble_eq_true rfl, Nat.le_of_ble_eq_true rfl⟩) (c_X6_ifCut l D cI cP o h tx tn Ad K (xs (Int32.toNatClampNeg (nI i + 1))) (xs (Int32.toNatClampNeg (nI i + 2))) _ hu) hX (va_recv hX.1 (va_blk (Bs := [wMain cI cP o h tx tn Ad K, wMod cI am M]) hP 0 rfl) (ci := 6) (q0 := 0) rfl rfl) (Cut.one (Bs := [wMain cI cP o h tx tn Ad K, wMod cI am M]) (k := 0) rfl rfl) hP hD hS hA (fun H locs hP hD hS => ?_)
      have hP : va_P D vwCl ([wMain cI cP o h tx tn Ad u.1, wMod cI am M] : List va_W).flatten H := hP
      have hD : va_D (fun q : Nat => s.heap.size ≤ q) ([wMain cI cP o h tx tn Ad u.1, wMod cI am M] : List va_W).flatten := hD
      refine lv_aload_n hx hb dL_law_678 rfl (lv_at hl 2 rfl) ?_
      refine lv_aload_n hx hb dL_law_679 rfl (lv_at hl 0 rfl) ?_
      refine lv_iload_n hx hb dL_law_680 rfl (lv_at hl 3 rfl) ?_
      refine lv_iconst (v := 1) hx hb dL_law_681 (by decide) ?_
      refine lv_iadd hx hb dL_law_682 ?_
      refine va_sld hx hb hXs hbl hbA hS h_in1 dL_law_683 ?_
      refine lv_aload_n hx hb dL_law_684 rfl (lv_at hl 0 rfl) ?_
      refine lv_iload_n hx hb dL_law_685 rfl (lv_at hl 3 rfl) ?_
      refine lv_iconst (v := 2) hx hb dL_law_686 (by decide) ?_
      refine lv_iadd hx hb dL_law_687 ?_
      refine va_sld hx hb hXs hbl hbA hS h_in2 dL_law_688 ?_
      refine k_wi (runV F wdL_85 (rm := rm_X7_ifCut) (As := [.int (xs (Int32.toNatClampNeg (nI i + 1))), .int (xs (Int32.toNatClampNeg (nI i + 2)))]) (rest := [.int u.2]) ⟨rfl, rfl⟩ ⟨Nat.le_of_ble_eq_true rfl, Nat.le_of_ble_eq_true rfl⟩ hl.1 rfl rfl (Nat.le_of_ble_eq_true rfl) dL_law_689 ⟨Nat.le_of_ble_eq_true rfl, Nat.le_of_ble_eq_true rfl⟩) (c_X7_ifCut l D cI cP am M (xs (Int32.toNatClampNeg (nI i + 1))) (xs (Int32.toNatClampNeg (nI i + 2))) _ hv) hX (va_recv hX.1 (va_blk (Bs := [wMain cI cP o h tx tn Ad u.1, wMod cI am M]) hP 1 rfl) (ci := 7) (q0 := 0) rfl rfl) (Cut.one (Bs := [wMain cI cP o h tx tn Ad u.1, wMod cI am M]) (k := 1) rfl rfl) hP hD hS hA (fun H locs hP hD hS => ?_)
      have hP : va_P D vwCl ([wMain cI cP o h tx tn Ad u.1, wMod cI am v.1] : List va_W).flatten H := hP
      have hD : va_D (fun q : Nat => s.heap.size ≤ q) ([wMain cI cP o h tx tn Ad u.1, wMod cI am v.1] : List va_W).flatten := hD
      refine lv_icmp_eq (tgt := 818) hx hb dL_law_692 (by decide) (fun _ => ?_) (fun c0 => absurd hr c0)
      refine lv_iinc (v := nI (i + 5)) (lv' := [(3, .int (nI (i + 5))), (0, .ref b), (1, .ref o), (2, .ref (am 0))]) hx hb dL_law_818 hl (k := 3) rfl (by rw [← nI_add]; rfl) (by decide) rfl (fun ls hl => ?_)
      refine lv_goto (tgt := 18) hx hb dL_law_821 (by decide) ?_
      exact ih (i + 5) u.1 v.1 _ _ ls (by omega) (by omega) hR2 hP hD hS (lv_sub hl [1, 2, 3, 0] rfl)
    rcases Decidable.em ((xs (Int32.toNatClampNeg (nI i)) &&& 31) = 17) with c_17 | c_17
    · refine lv_tableIn (off := 665) (tgt := 697) hx hb dL_law_32 (by rw [c_17]; decide) (by rw [c_17]; decide) (by rw [c_17]; rfl) (by decide) ?_
      refine lv_aload_n hx hb dL_law_697 rfl (lv_at hl 1 rfl) ?_
      obtain ⟨u, v, hu, hv, hr, hR2⟩ := op_share K M  hR
      refine k_rd (runV F wdL_86 (rm := rm_X6_share) (As := []) (rest := []) ⟨rfl, rfl⟩ ⟨Nat.le_of_ble_eq_true rfl, Nat.le_of_ble_eq_true rfl⟩ hl.1 rfl rfl (Nat.le_of_ble_eq_true rfl) dL_law_698 ⟨Nat.le_of_ble_eq_true rfl, Nat.le_of_ble_eq_true rfl⟩) (c_X6_share l D cI cP o h tx tn Ad K  _ hu) hX (va_recv hX.1 (va_blk (Bs := [wMain cI cP o h tx tn Ad K, wMod cI am M]) hP 0 rfl) (ci := 6) (q0 := 0) rfl rfl) (va_blk (Bs := [wMain cI cP o h tx tn Ad K, wMod cI am M]) hP 0 rfl) hP hS hA (fun H locs hP hS => ?_)
      refine lv_aload_n hx hb dL_law_701 rfl (lv_at hl 2 rfl) ?_
      refine k_wi (runV F wdL_89 (rm := rm_X7_share) (As := []) (rest := [.int u]) ⟨rfl, rfl⟩ ⟨Nat.le_of_ble_eq_true rfl, Nat.le_of_ble_eq_true rfl⟩ hl.1 rfl rfl (Nat.le_of_ble_eq_true rfl) dL_law_702 ⟨Nat.le_of_ble_eq_true rfl, Nat.le_of_ble_eq_true rfl⟩) (c_X7_share l D cI cP am M  _ hv) hX (va_recv hX.1 (va_blk (Bs := [wMain cI cP o h tx tn Ad K, wMod cI am M]) hP 1 rfl) (ci := 7) (q0 := 0) rfl rfl) (Cut.one (Bs := [wMain cI cP o h tx tn Ad K, wMod cI am M]) (k := 1) rfl rfl) hP hD hS hA (fun H locs hP hD hS => ?_)
      have hP : va_P D vwCl ([wMain cI cP o h tx tn Ad K, wMod cI am v.1] : List va_W).flatten H := hP
      have hD : va_D (fun q : Nat => s.heap.size ≤ q) ([wMain cI cP o h tx tn Ad K, wMod cI am v.1] : List va_W).flatten := hD
      refine lv_icmp_eq (tgt := 818) hx hb dL_law_705 (by decide) (fun _ => ?_) (fun c0 => absurd hr c0)
      refine lv_iinc (v := nI (i + 5)) (lv' := [(3, .int (nI (i + 5))), (0, .ref b), (1, .ref o), (2, .ref (am 0))]) hx hb dL_law_818 hl (k := 3) rfl (by rw [← nI_add]; rfl) (by decide) rfl (fun ls hl => ?_)
      refine lv_goto (tgt := 18) hx hb dL_law_821 (by decide) ?_
      exact ih (i + 5) K v.1 _ _ ls (by omega) (by omega) hR2 hP hD hS (lv_sub hl [1, 2, 3, 0] rfl)
    rcases Decidable.em ((xs (Int32.toNatClampNeg (nI i)) &&& 31) = 18) with c_18 | c_18
    · refine lv_tableIn (off := 678) (tgt := 710) hx hb dL_law_32 (by rw [c_18]; decide) (by rw [c_18]; decide) (by rw [c_18]; rfl) (by decide) ?_
      refine lv_aload_n hx hb dL_law_710 rfl (lv_at hl 1 rfl) ?_
      refine lv_aload_n hx hb dL_law_711 rfl (lv_at hl 0 rfl) ?_
      refine lv_iload_n hx hb dL_law_712 rfl (lv_at hl 3 rfl) ?_
      refine lv_iconst (v := 1) hx hb dL_law_713 (by decide) ?_
      refine lv_iadd hx hb dL_law_714 ?_
      refine va_sld hx hb hXs hbl hbA hS h_in1 dL_law_715 ?_
      obtain ⟨u, v, hu, hv, hr, hR2⟩ := op_count K M (xs (Int32.toNatClampNeg (nI i + 1))) hR
      refine k_rd (runV F wdL_90 (rm := rm_X6_count) (As := [.int (xs (Int32.toNatClampNeg (nI i + 1)))]) (rest := []) ⟨rfl, rfl⟩ ⟨Nat.le_of_ble_eq_true rfl, Nat.le_of_ble_eq_true rfl⟩ hl.1 rfl rfl (Nat.le_of_ble_eq_true rfl) dL_law_716 ⟨Nat.le_of_ble_eq_true rfl, Nat.le_of_ble_eq_true rfl⟩) (c_X6_count l D cI cP o h tx tn Ad K (xs (Int32.toNatClampNeg (nI i + 1))) _ hu) hX (va_recv hX.1 (va_blk (Bs := [wMain cI cP o h tx tn Ad K, wMod cI am M]) hP 0 rfl) (ci := 6) (q0 := 0) rfl rfl) (va_blk (Bs := [wMain cI cP o h tx tn Ad K, wMod cI am M]) hP 0 rfl) hP hS hA (fun H locs hP hS => ?_)
      refine lv_aload_n hx hb dL_law_719 rfl (lv_at hl 2 rfl) ?_
      refine lv_aload_n hx hb dL_law_720 rfl (lv_at hl 0 rfl) ?_
      refine lv_iload_n hx hb dL_law_721 rfl (lv_at hl 3 rfl) ?_
      refine lv_iconst (v := 1) hx hb dL_law_722 (by decide) ?_
      refine lv_iadd hx hb dL_law_723 ?_
      refine va_sld hx hb hXs hbl hbA hS h_in1 dL_law_724 ?_
      refine k_wi (runV F wdL_93 (rm := rm_X7_count) (As := [.int (xs (Int32.toNatClampNeg (nI i + 1)))]) (rest := [.int u]) ⟨rfl, rfl⟩ ⟨Nat.le_of_ble_eq_true rfl, Nat.le_of_ble_eq_true rfl⟩ hl.1 rfl rfl (Nat.le_of_ble_eq_true rfl) dL_law_725 ⟨Nat.le_of_ble_eq_true rfl, Nat.le_of_ble_eq_true rfl⟩) (c_X7_count l D cI cP am M (xs (Int32.toNatClampNeg (nI i + 1))) _ hv) hX (va_recv hX.1 (va_blk (Bs := [wMain cI cP o h tx tn Ad K, wMod cI am M]) hP 1 rfl) (ci := 7) (q0 := 0) rfl rfl) (Cut.one (Bs := [wMain cI cP o h tx tn Ad K, wMod cI am M]) (k := 1) rfl rfl) hP hD hS hA (fun H locs hP hD hS => ?_)
      have hP : va_P D vwCl ([wMain cI cP o h tx tn Ad K, wMod cI am v.1] : List va_W).flatten H := hP
      have hD : va_D (fun q : Nat => s.heap.size ≤ q) ([wMain cI cP o h tx tn Ad K, wMod cI am v.1] : List va_W).flatten := hD
      refine lv_icmp_eq (tgt := 818) hx hb dL_law_728 (by decide) (fun _ => ?_) (fun c0 => absurd hr c0)
      refine lv_iinc (v := nI (i + 5)) (lv' := [(3, .int (nI (i + 5))), (0, .ref b), (1, .ref o), (2, .ref (am 0))]) hx hb dL_law_818 hl (k := 3) rfl (by rw [← nI_add]; rfl) (by decide) rfl (fun ls hl => ?_)
      refine lv_goto (tgt := 18) hx hb dL_law_821 (by decide) ?_
      exact ih (i + 5) K v.1 _ _ ls (by omega) (by omega) hR2 hP hD hS (lv_sub hl [1, 2, 3, 0] rfl)
    rcases Decidable.em ((xs (Int32.toNatClampNeg (nI i)) &&& 31) = 19) with c_19 | c_19
    · refine lv_tableIn (off := 701) (tgt := 733) hx hb dL_law_32 (by rw [c_19]; decide) (by rw [c_19]; decide) (by rw [c_19]; rfl) (by decide) ?_
      refine lv_aload_n hx hb dL_law_733 rfl (lv_at hl 1 rfl) ?_
      obtain ⟨u, v, hu, hv, hr, hR2⟩ := op_undo K M  hR
      refine k_wi (runV F wdL_94 (rm := rm_X6_undo) (As := []) (rest := []) ⟨rfl, rfl⟩ ⟨Nat.le_of_ble_eq_true rfl, Nat.le_of_ble_eq_true rfl⟩ hl.1 rfl rfl (Nat.le_of_ble_eq_true rfl) dL_law_734 ⟨Nat.le_of_ble_eq_true rfl, Nat.le_of_ble_eq_true rfl⟩) (c_X6_undo l D cI cP o h tx tn Ad K  _ hu) hX (va_recv hX.1 (va_blk (Bs := [wMain cI cP o h tx tn Ad K, wMod cI am M]) hP 0 rfl) (ci := 6) (q0 := 0) rfl rfl) (Cut.one (Bs := [wMain cI cP o h tx tn Ad K, wMod cI am M]) (k := 0) rfl rfl) hP hD hS hA (fun H locs hP hD hS => ?_)
      have hP : va_P D vwCl ([wMain cI cP o h tx tn Ad u.1, wMod cI am M] : List va_W).flatten H := hP
      have hD : va_D (fun q : Nat => s.heap.size ≤ q) ([wMain cI cP o h tx tn Ad u.1, wMod cI am M] : List va_W).flatten := hD
      refine lv_aload_n hx hb dL_law_737 rfl (lv_at hl 2 rfl) ?_
      refine k_wi (runV F wdL_97 (rm := rm_X7_undo) (As := []) (rest := [.int u.2]) ⟨rfl, rfl⟩ ⟨Nat.le_of_ble_eq_true rfl, Nat.le_of_ble_eq_true rfl⟩ hl.1 rfl rfl (Nat.le_of_ble_eq_true rfl) dL_law_738 ⟨Nat.le_of_ble_eq_true rfl, Nat.le_of_ble_eq_true rfl⟩) (c_X7_undo l D cI cP am M  _ hv) hX (va_recv hX.1 (va_blk (Bs := [wMain cI cP o h tx tn Ad u.1, wMod cI am M]) hP 1 rfl) (ci := 7) (q0 := 0) rfl rfl) (Cut.one (Bs := [wMain cI cP o h tx tn Ad u.1, wMod cI am M]) (k := 1) rfl rfl) hP hD hS hA (fun H locs hP hD hS => ?_)
      have hP : va_P D vwCl ([wMain cI cP o h tx tn Ad u.1, wMod cI am v.1] : List va_W).flatten H := hP
      have hD : va_D (fun q : Nat => s.heap.size ≤ q) ([wMain cI cP o h tx tn Ad u.1, wMod cI am v.1] : List va_W).flatten := hD
      refine lv_icmp_eq (tgt := 818) hx hb dL_law_741 (by decide) (fun _ => ?_) (fun c0 => absurd hr c0)
      refine lv_iinc (v := nI (i + 5)) (lv' := [(3, .int (nI (i + 5))), (0, .ref b), (1, .ref o), (2, .ref (am 0))]) hx hb dL_law_818 hl (k := 3) rfl (by rw [← nI_add]; rfl) (by decide) rfl (fun ls hl => ?_)
      refine lv_goto (tgt := 18) hx hb dL_law_821 (by decide) ?_
      exact ih (i + 5) u.1 v.1 _ _ ls (by omega) (by omega) hR2 hP hD hS (lv_sub hl [1, 2, 3, 0] rfl)
    rcases Decidable.em ((xs (Int32.toNatClampNeg (nI i)) &&& 31) = 20) with c_20 | c_20
    · refine lv_tableIn (off := 714) (tgt := 746) hx hb dL_law_32 (by rw [c_20]; decide) (by rw [c_20]; decide) (by rw [c_20]; rfl) (by decide) ?_
      refine lv_aload_n hx hb dL_law_746 rfl (lv_at hl 1 rfl) ?_
      refine lv_aload_n hx hb dL_law_747 rfl (lv_at hl 0 rfl) ?_
      refine lv_iload_n hx hb dL_law_748 rfl (lv_at hl 3 rfl) ?_
      refine lv_iconst (v := 1) hx hb dL_law_749 (by decide) ?_
      refine lv_iadd hx hb dL_law_750 ?_
      refine va_sld hx hb hXs hbl hbA hS h_in1 dL_law_751 ?_
      obtain ⟨v, hv, hr, hR2⟩ := op_type K M (xs (Int32.toNatClampNeg (nI i + 1))) hR
      refine k_wi (runV F wdL_98 (rm := rm_X6_type) (As := [.int (xs (Int32.toNatClampNeg (nI i + 1)))]) (rest := []) ⟨rfl, rfl⟩ ⟨Nat.le_of_ble_eq_true rfl, Nat.le_of_ble_eq_true rfl⟩ hl.1 rfl rfl (Nat.le_of_ble_eq_true rfl) dL_law_752 ⟨Nat.le_of_ble_eq_true rfl, Nat.le_of_ble_eq_true rfl⟩) (c_X6_type l D cI cP o h tx tn Ad K (xs (Int32.toNatClampNeg (nI i + 1))) _ rfl) hX (va_recv hX.1 (va_blk (Bs := [wMain cI cP o h tx tn Ad K, wMod cI am M]) hP 0 rfl) (ci := 6) (q0 := 0) rfl rfl) (Cut.one (Bs := [wMain cI cP o h tx tn Ad K, wMod cI am M]) (k := 0) rfl rfl) hP hD hS hA (fun H locs hP hD hS => ?_)
      have hP : va_P D vwCl ([wMain cI cP o h tx tn Ad ((X6_type K (xs (Int32.toNatClampNeg (nI i + 1)))).1), wMod cI am M] : List va_W).flatten H := hP
      have hD : va_D (fun q : Nat => s.heap.size ≤ q) ([wMain cI cP o h tx tn Ad ((X6_type K (xs (Int32.toNatClampNeg (nI i + 1)))).1), wMod cI am M] : List va_W).flatten := hD
      refine lv_aload_n hx hb dL_law_755 rfl (lv_at hl 2 rfl) ?_
      refine lv_aload_n hx hb dL_law_756 rfl (lv_at hl 0 rfl) ?_
      refine lv_iload_n hx hb dL_law_757 rfl (lv_at hl 3 rfl) ?_
      refine lv_iconst (v := 1) hx hb dL_law_758 (by decide) ?_
      refine lv_iadd hx hb dL_law_759 ?_
      refine va_sld hx hb hXs hbl hbA hS h_in1 dL_law_760 ?_
      refine k_wi (runV F wdL_101 (rm := rm_X7_type) (As := [.int (xs (Int32.toNatClampNeg (nI i + 1)))]) (rest := [.int ((X6_type K (xs (Int32.toNatClampNeg (nI i + 1)))).2)]) ⟨rfl, rfl⟩ ⟨Nat.le_of_ble_eq_true rfl, Nat.le_of_ble_eq_true rfl⟩ hl.1 rfl rfl (Nat.le_of_ble_eq_true rfl) dL_law_761 ⟨Nat.le_of_ble_eq_true rfl, Nat.le_of_ble_eq_true rfl⟩) (c_X7_type l D cI cP am M (xs (Int32.toNatClampNeg (nI i + 1))) _ hv) hX (va_recv hX.1 (va_blk (Bs := [wMain cI cP o h tx tn Ad ((X6_type K (xs (Int32.toNatClampNeg (nI i + 1)))).1), wMod cI am M]) hP 1 rfl) (ci := 7) (q0 := 0) rfl rfl) (Cut.one (Bs := [wMain cI cP o h tx tn Ad ((X6_type K (xs (Int32.toNatClampNeg (nI i + 1)))).1), wMod cI am M]) (k := 1) rfl rfl) hP hD hS hA (fun H locs hP hD hS => ?_)
      have hP : va_P D vwCl ([wMain cI cP o h tx tn Ad ((X6_type K (xs (Int32.toNatClampNeg (nI i + 1)))).1), wMod cI am v.1] : List va_W).flatten H := hP
      have hD : va_D (fun q : Nat => s.heap.size ≤ q) ([wMain cI cP o h tx tn Ad ((X6_type K (xs (Int32.toNatClampNeg (nI i + 1)))).1), wMod cI am v.1] : List va_W).flatten := hD
      refine lv_icmp_eq (tgt := 818) hx hb dL_law_764 (by decide) (fun _ => ?_) (fun c0 => absurd hr c0)
      refine lv_iinc (v := nI (i + 5)) (lv' := [(3, .int (nI (i + 5))), (0, .ref b), (1, .ref o), (2, .ref (am 0))]) hx hb dL_law_818 hl (k := 3) rfl (by rw [← nI_add]; rfl) (by decide) rfl (fun ls hl => ?_)
      refine lv_goto (tgt := 18) hx hb dL_law_821 (by decide) ?_
      exact ih (i + 5) ((X6_type K (xs (Int32.toNatClampNeg (nI i + 1)))).1) v.1 _ _ ls (by omega) (by omega) hR2 hP hD hS (lv_sub hl [1, 2, 3, 0] rfl)
    rcases Decidable.em ((xs (Int32.toNatClampNeg (nI i)) &&& 31) = 21) with c_21 | c_21
    · refine lv_tableIn (off := 737) (tgt := 769) hx hb dL_law_32 (by rw [c_21]; decide) (by rw [c_21]; decide) (by rw [c_21]; rfl) (by decide) ?_
      refine lv_aload_n hx hb dL_law_769 rfl (lv_at hl 1 rfl) ?_
      obtain ⟨hr, hR2⟩ := op_clearText K M  hR
      refine k_wi (runV F wdL_102 (rm := rm_X6_clearText) (As := []) (rest := []) ⟨rfl, rfl⟩ ⟨Nat.le_of_ble_eq_true rfl, Nat.le_of_ble_eq_true rfl⟩ hl.1 rfl rfl (Nat.le_of_ble_eq_true rfl) dL_law_770 ⟨Nat.le_of_ble_eq_true rfl, Nat.le_of_ble_eq_true rfl⟩) (c_X6_clearText l D cI cP o h tx tn Ad K  _ rfl) hX (va_recv hX.1 (va_blk (Bs := [wMain cI cP o h tx tn Ad K, wMod cI am M]) hP 0 rfl) (ci := 6) (q0 := 0) rfl rfl) (Cut.one (Bs := [wMain cI cP o h tx tn Ad K, wMod cI am M]) (k := 0) rfl rfl) hP hD hS hA (fun H locs hP hD hS => ?_)
      have hP : va_P D vwCl ([wMain cI cP o h tx tn Ad ((X6_clearText K).1), wMod cI am M] : List va_W).flatten H := hP
      have hD : va_D (fun q : Nat => s.heap.size ≤ q) ([wMain cI cP o h tx tn Ad ((X6_clearText K).1), wMod cI am M] : List va_W).flatten := hD
      refine lv_aload_n hx hb dL_law_773 rfl (lv_at hl 2 rfl) ?_
      refine k_wi (runV F wdL_105 (rm := rm_X7_clearText) (As := []) (rest := [.int ((X6_clearText K).2)]) ⟨rfl, rfl⟩ ⟨Nat.le_of_ble_eq_true rfl, Nat.le_of_ble_eq_true rfl⟩ hl.1 rfl rfl (Nat.le_of_ble_eq_true rfl) dL_law_774 ⟨Nat.le_of_ble_eq_true rfl, Nat.le_of_ble_eq_true rfl⟩) (c_X7_clearText l D cI cP am M  _ rfl) hX (va_recv hX.1 (va_blk (Bs := [wMain cI cP o h tx tn Ad ((X6_clearText K).1), wMod cI am M]) hP 1 rfl) (ci := 7) (q0 := 0) rfl rfl) (Cut.one (Bs := [wMain cI cP o h tx tn Ad ((X6_clearText K).1), wMod cI am M]) (k := 1) rfl rfl) hP hD hS hA (fun H locs hP hD hS => ?_)
      have hP : va_P D vwCl ([wMain cI cP o h tx tn Ad ((X6_clearText K).1), wMod cI am ((X7_clearText M).1)] : List va_W).flatten H := hP
      have hD : va_D (fun q : Nat => s.heap.size ≤ q) ([wMain cI cP o h tx tn Ad ((X6_clearText K).1), wMod cI am ((X7_clearText M).1)] : List va_W).flatten := hD
      refine lv_icmp_eq (tgt := 818) hx hb dL_law_777 (by decide) (fun _ => ?_) (fun c0 => absurd hr c0)
      refine lv_iinc (v := nI (i + 5)) (lv' := [(3, .int (nI (i + 5))), (0, .ref b), (1, .ref o), (2, .ref (am 0))]) hx hb dL_law_818 hl (k := 3) rfl (by rw [← nI_add]; rfl) (by decide) rfl (fun ls hl => ?_)
      refine lv_goto (tgt := 18) hx hb dL_law_821 (by decide) ?_
      exact ih (i + 5) ((X6_clearText K).1) ((X7_clearText M).1) _ _ ls (by omega) (by omega) hR2 hP hD hS (lv_sub hl [1, 2, 3, 0] rfl)
    rcases Decidable.em ((xs (Int32.toNatClampNeg (nI i)) &&& 31) = 22) with c_22 | c_22
    · refine lv_tableIn (off := 750) (tgt := 782) hx hb dL_law_32 (by rw [c_22]; decide) (by rw [c_22]; decide) (by rw [c_22]; rfl) (by decide) ?_
      refine lv_aload_n hx hb dL_law_782 rfl (lv_at hl 1 rfl) ?_
      refine lv_aload_n hx hb dL_law_783 rfl (lv_at hl 0 rfl) ?_
      refine lv_iload_n hx hb dL_law_784 rfl (lv_at hl 3 rfl) ?_
      refine lv_iconst (v := 1) hx hb dL_law_785 (by decide) ?_
      refine lv_iadd hx hb dL_law_786 ?_
      refine va_sld hx hb hXs hbl hbA hS h_in1 dL_law_787 ?_
      obtain ⟨u, v, hu, hv, hr, hR2⟩ := op_fault K M (xs (Int32.toNatClampNeg (nI i + 1))) hR
      refine k_wi (runV F wdL_106 (rm := rm_X6_fault) (As := [.int (xs (Int32.toNatClampNeg (nI i + 1)))]) (rest := []) ⟨rfl, rfl⟩ ⟨Nat.le_of_ble_eq_true rfl, Nat.le_of_ble_eq_true rfl⟩ hl.1 rfl rfl (Nat.le_of_ble_eq_true rfl) dL_law_788 ⟨Nat.le_of_ble_eq_true rfl, Nat.le_of_ble_eq_true rfl⟩) (c_X6_fault l D cI cP o h tx tn Ad K (xs (Int32.toNatClampNeg (nI i + 1))) _ hu) hX (va_recv hX.1 (va_blk (Bs := [wMain cI cP o h tx tn Ad K, wMod cI am M]) hP 0 rfl) (ci := 6) (q0 := 0) rfl rfl) (Cut.one (Bs := [wMain cI cP o h tx tn Ad K, wMod cI am M]) (k := 0) rfl rfl) hP hD hS hA (fun H locs hP hD hS => ?_)
      have hP : va_P D vwCl ([wMain cI cP o h tx tn Ad u.1, wMod cI am M] : List va_W).flatten H := hP
      have hD : va_D (fun q : Nat => s.heap.size ≤ q) ([wMain cI cP o h tx tn Ad u.1, wMod cI am M] : List va_W).flatten := hD
      refine lv_aload_n hx hb dL_law_791 rfl (lv_at hl 2 rfl) ?_
      refine lv_aload_n hx hb dL_law_792 rfl (lv_at hl 0 rfl) ?_
      refine lv_iload_n hx hb dL_law_793 rfl (lv_at hl 3 rfl) ?_
      refine lv_iconst (v := 1) hx hb dL_law_794 (by decide) ?_
      refine lv_iadd hx hb dL_law_795 ?_
      refine va_sld hx hb hXs hbl hbA hS h_in1 dL_law_796 ?_
      refine k_wi (runV F wdL_109 (rm := rm_X7_fault) (As := [.int (xs (Int32.toNatClampNeg (nI i + 1)))]) (rest := [.int u.2]) ⟨rfl, rfl⟩ ⟨Nat.le_of_ble_eq_true rfl, Nat.le_of_ble_eq_true rfl⟩ hl.1 rfl rfl (Nat.le_of_ble_eq_true rfl) dL_law_797 ⟨Nat.le_of_ble_eq_true rfl, Nat.le_of_ble_eq_true rfl⟩) (c_X7_fault l D cI cP am M (xs (Int32.toNatClampNeg (nI i + 1))) _ hv) hX (va_recv hX.1 (va_blk (Bs := [wMain cI cP o h tx tn Ad u.1, wMod cI am M]) hP 1 rfl) (ci := 7) (q0 := 0) rfl rfl) (Cut.one (Bs := [wMain cI cP o h tx tn Ad u.1, wMod cI am M]) (k := 1) rfl rfl) hP hD hS hA (fun H locs hP hD hS => ?_)
      have hP : va_P D vwCl ([wMain cI cP o h tx tn Ad u.1, wMod cI am v.1] : List va_W).flatten H := hP
      have hD : va_D (fun q : Nat => s.heap.size ≤ q) ([wMain cI cP o h tx tn Ad u.1, wMod cI am v.1] : List va_W).flatten := hD
      refine lv_icmp_eq (tgt := 818) hx hb dL_law_800 (by decide) (fun _ => ?_) (fun c0 => absurd hr c0)
      refine lv_iinc (v := nI (i + 5)) (lv' := [(3, .int (nI (i + 5))), (0, .ref b), (1, .ref o), (2, .ref (am 0))]) hx hb dL_law_818 hl (k := 3) rfl (by rw [← nI_add]; rfl) (by decide) rfl (fun ls hl => ?_)
      refine lv_goto (tgt := 18) hx hb dL_law_821 (by decide) ?_
      exact ih (i + 5) u.1 v.1 _ _ ls (by omega) (by omega) hR2 hP hD hS (lv_sub hl [1, 2, 3, 0] rfl)
    rcases Decidable.em ((xs (Int32.toNatClampNeg (nI i)) &&& 31) = 23) with c_23 | c_23
    · refine lv_tableIn (off := 773) (tgt := 805) hx hb dL_law_32 (by rw [c_23]; decide) (by rw [c_23]; decide) (by rw [c_23]; rfl) (by decide) ?_
      refine lv_aload_n hx hb dL_law_805 rfl (lv_at hl 1 rfl) ?_
      obtain ⟨u, v, hu, hv, hr, hR2⟩ := op_play K M  hR
      refine k_wi (runV F wdL_110 (rm := rm_X6_play) (As := []) (rest := []) ⟨rfl, rfl⟩ ⟨Nat.le_of_ble_eq_true rfl, Nat.le_of_ble_eq_true rfl⟩ hl.1 rfl rfl (Nat.le_of_ble_eq_true rfl) dL_law_806 ⟨Nat.le_of_ble_eq_true rfl, Nat.le_of_ble_eq_true rfl⟩) (c_X6_play l D cI cP o h tx tn Ad K  _ hu) hX (va_recv hX.1 (va_blk (Bs := [wMain cI cP o h tx tn Ad K, wMod cI am M]) hP 0 rfl) (ci := 6) (q0 := 0) rfl rfl) (Cut.one (Bs := [wMain cI cP o h tx tn Ad K, wMod cI am M]) (k := 0) rfl rfl) hP hD hS hA (fun H locs hP hD hS => ?_)
      have hP : va_P D vwCl ([wMain cI cP o h tx tn Ad u.1, wMod cI am M] : List va_W).flatten H := hP
      have hD : va_D (fun q : Nat => s.heap.size ≤ q) ([wMain cI cP o h tx tn Ad u.1, wMod cI am M] : List va_W).flatten := hD
      refine lv_aload_n hx hb dL_law_809 rfl (lv_at hl 2 rfl) ?_
      refine k_wi (runV F wdL_113 (rm := rm_X7_play) (As := []) (rest := [.int u.2]) ⟨rfl, rfl⟩ ⟨Nat.le_of_ble_eq_true rfl, Nat.le_of_ble_eq_true rfl⟩ hl.1 rfl rfl (Nat.le_of_ble_eq_true rfl) dL_law_810 ⟨Nat.le_of_ble_eq_true rfl, Nat.le_of_ble_eq_true rfl⟩) (c_X7_play l D cI cP am M  _ hv) hX (va_recv hX.1 (va_blk (Bs := [wMain cI cP o h tx tn Ad u.1, wMod cI am M]) hP 1 rfl) (ci := 7) (q0 := 0) rfl rfl) (Cut.one (Bs := [wMain cI cP o h tx tn Ad u.1, wMod cI am M]) (k := 1) rfl rfl) hP hD hS hA (fun H locs hP hD hS => ?_)
      have hP : va_P D vwCl ([wMain cI cP o h tx tn Ad u.1, wMod cI am v.1] : List va_W).flatten H := hP
      have hD : va_D (fun q : Nat => s.heap.size ≤ q) ([wMain cI cP o h tx tn Ad u.1, wMod cI am v.1] : List va_W).flatten := hD
      refine lv_icmp_eq (tgt := 818) hx hb dL_law_813 (by decide) (fun _ => ?_) (fun c0 => absurd hr c0)
      refine lv_iinc (v := nI (i + 5)) (lv' := [(3, .int (nI (i + 5))), (0, .ref b), (1, .ref o), (2, .ref (am 0))]) hx hb dL_law_818 hl (k := 3) rfl (by rw [← nI_add]; rfl) (by decide) rfl (fun ls hl => ?_)
      refine lv_goto (tgt := 18) hx hb dL_law_821 (by decide) ?_
      exact ih (i + 5) u.1 v.1 _ _ ls (by omega) (by omega) hR2 hP hD hS (lv_sub hl [1, 2, 3, 0] rfl)
    refine lv_tableD (tgt := 818) (cs := [0, 1, 2, 3, 4, 5, 6, 7, 8, 9, 10, 11, 12, 13, 14, 15, 16, 17, 18, 19, 20, 21, 22, 23]) hx hb dL_law_32 (by decide) (by decide) (by decide) (by simp [c_0, c_1, c_2, c_3, c_4, c_5, c_6, c_7, c_8, c_9, c_10, c_11, c_12, c_13, c_14, c_15, c_16, c_17, c_18, c_19, c_20, c_21, c_22, c_23]) ?_
    refine lv_iinc (v := nI (i + 5)) (lv' := [(3, .int (nI (i + 5))), (0, .ref b), (1, .ref o), (2, .ref (am 0))]) hx hb dL_law_818 hl (k := 3) rfl (by rw [← nI_add]; rfl) (by decide) rfl (fun ls hl => ?_)
    refine lv_goto (tgt := 18) hx hb dL_law_821 (by decide) ?_
    exact ih (i + 5) K M _ _ ls (by omega) (by omega) hR hP hD hS (lv_sub hl [1, 2, 3, 0] rfl)
set_option maxHeartbeats 16000000 in
set_option maxRecDepth 100000 in
theorem whole_open {p : Program} {e : Env} {s : State} {m : MethodId} {below : List Frame} {meth : Method} {c : Code} (l : Launch) {b L : Nat} {xs : Nat → Int32} (hL : L ≤ 2560) (C0 : lw_At p s m meth c b L xs) {Rel : SMain → SMod → Prop} (op_puppet : Op_puppet Rel) (op_tie : Op_tie Rel) (op_cut : Op_cut Rel) (op_cutDeal : Op_cutDeal Rel) (op_pull : Op_pull Rel) (op_release : Op_release Rel) (op_session : Op_session Rel) (op_set : Op_set Rel) (op_puppetOf : Op_puppetOf Rel) (op_stringOf : Op_stringOf Rel) (op_between : Op_between Rel) (op_book : Op_book Rel) (op_whyTie : Op_whyTie Rel) (op_whyPull : Op_whyPull Rel) (op_bestPull : Op_bestPull Rel) (op_fewest : Op_fewest Rel) (op_ifCut : Op_ifCut Rel) (op_share : Op_share Rel) (op_count : Op_count Rel) (op_undo : Op_undo Rel) (op_type : Op_type Rel) (op_clearText : Op_clearText Rel) (op_fault : Op_fault Rel) (op_play : Op_play Rel) (hR0 : Rel K0_X6 K0_X7) : W p l e room_1 s m #[Value.ref b] below meth c s.heap [] 0 0 (lw_Z below #[Value.ref b] s) (entryFrame m ([Value.ref b] : List Value).toArray 4) := by
  obtain ⟨hx, hb, hr0, hml, hown, htsL, hXs, hbl, hlocks, hgv⟩ := id C0
  have hts : ∀ w ∈ ALL, w.before #[Value.ref b] s = true := fun w h => htsL w (List.mem_filter.mp h).1
  have hA : ∀ q : Nat, s.heap.size ≤ q → (fun q : Nat => s.heap.size ≤ q) q := fun _ h => h
  have F : Fx p s m #[Value.ref b] meth c RL cL_law 4 (some .boolean) := ⟨hx, hb, hml, hown, hts, hr0, hlocks⟩
  obtain ⟨D, cI, cP, hX, hO⟩ := cx_born htsL hts
  have hS : va_S (fun q : Nat => s.heap.size ≤ q) s.heap s.heap [] := va_S.rf
  have hP : va_P D vwCl ([] : va_W) s.heap := fun k q h => by simp at h
  have hD : va_D (fun q : Nat => s.heap.size ≤ q) ([] : va_W) := ⟨fun i j p q h => by simp at h, fun k q h => by simp at h⟩
  have hl := lv_entry ([.ref b]) (n := 4) (Nat.le_of_ble_eq_true rfl)
  rw [lg_entry_eq]
  generalize (lg_sl ([.ref b]) ++ List.replicate (4 - (lg_sl ([.ref b])).length) Slot.unset).toArray = ls at hl ⊢
  have hl : lv_has ls 4 [(0, .ref b)] := hl
  refine va_new (ci := 6) (fs := [.null, .null, .null, .int 0, .int 0, .null, .null, .int 0, .int 0, .int 0, .int 0]) (C := RX6) (T := TX6) (N := 11) hx hb hts uw_X6 tyX6 tyX6_ok hown (hts _ q_112) (hts _ q_113) (hts _ q_100) hX.1 hP hD hS hA rfl (fun j hj => by rcases (show j = 0 ∨ j = 1 ∨ j = 2 ∨ j = 3 ∨ j = 4 ∨ j = 5 ∨ j = 6 ∨ j = 7 ∨ j = 8 ∨ j = 9 ∨ j = 10 by omega) with rfl | rfl | rfl | rfl | rfl | rfl | rfl | rfl | rfl | rfl | rfl <;> rfl) (Nat.le_of_ble_eq_true rfl) (Nat.le_of_ble_eq_true rfl) dL_law_0 (fun q1 H hP hD hS => ?_)
  have hP : va_P D vwCl (([] : List va_W) ++ ([[(q1, .inr (6, [.null, .null, .null, .int 0, .int 0, .null, .null, .int 0, .int 0, .int 0, .int 0]))]] : List va_W)).flatten H := by simpa using hP
  have hD : va_D (fun q : Nat => s.heap.size ≤ q) (([] : List va_W) ++ ([[(q1, .inr (6, [.null, .null, .null, .int 0, .int 0, .null, .null, .int 0, .int 0, .int 0, .int 0]))]] : List va_W)).flatten := by simpa using hD
  refine lv_dup hx hb dL_law_3 rfl ?_
  refine k_newI (rm := rm_X6_init) (mc := 159) (ms := 1392) (As := []) (rest := [.ref q1]) (X := []) F hX hO q_114 q_115 q_100 q_116 rfl (by decide +kernel) ⟨rfl, rfl⟩ ⟨Nat.le_of_ble_eq_true rfl, Nat.le_of_ble_eq_true rfl⟩ hl.1 rfl rfl (Nat.le_of_ble_eq_true rfl) dL_law_4 ⟨Nat.le_of_ble_eq_true rfl, Nat.le_of_ble_eq_true rfl⟩ (c_X6_init l D cI cP q1) hP hD hS hA (fun B' H locs hW2 hPn hDn hS => ?_)
  obtain ⟨h, tx, tn, Ad, rfl⟩ := hW2
  have hP : va_P D vwCl ([wMain cI cP q1 h tx tn Ad K0_X6] : List va_W).flatten H := hPn
  have hD : va_D (fun q : Nat => s.heap.size ≤ q) ([wMain cI cP q1 h tx tn Ad K0_X6] : List va_W).flatten := hDn
  clear hPn hDn
  refine lv_astore_n (lv' := [(1, .ref q1), (0, .ref b)]) hx hb dL_law_7 rfl hl (by decide) rfl (fun ls hl => ?_)
  refine va_new (ci := 7) (fs := [.null, .null, .null, .int 0, .int 0, .null, .int 0, .null, .null, .null, .null, .int 0, .int 0, .int 0, .int 0, .int 0, .int 0, .null]) (C := RX7) (T := TX7) (N := 18) hx hb hts uw_X7 tyX7 tyX7_ok hown (hts _ q_750) (hts _ q_751) (hts _ q_108) hX.1 hP hD hS hA rfl (fun j hj => by rcases (show j = 0 ∨ j = 1 ∨ j = 2 ∨ j = 3 ∨ j = 4 ∨ j = 5 ∨ j = 6 ∨ j = 7 ∨ j = 8 ∨ j = 9 ∨ j = 10 ∨ j = 11 ∨ j = 12 ∨ j = 13 ∨ j = 14 ∨ j = 15 ∨ j = 16 ∨ j = 17 by omega) with rfl | rfl | rfl | rfl | rfl | rfl | rfl | rfl | rfl | rfl | rfl | rfl | rfl | rfl | rfl | rfl | rfl | rfl <;> rfl) (Nat.le_of_ble_eq_true rfl) (Nat.le_of_ble_eq_true rfl) dL_law_8 (fun q2 H hP hD hS => ?_)
  rw [fl_push] at hP hD
  refine lv_dup hx hb dL_law_11 rfl ?_
  refine k_newI (rm := rm_X7_init) (mc := 9) (ms := 1047) (As := []) (rest := [.ref q2]) (X := [wMain cI cP q1 h tx tn Ad K0_X6]) F hX hO q_752 q_753 q_108 q_754 rfl (by decide +kernel) ⟨rfl, rfl⟩ ⟨Nat.le_of_ble_eq_true rfl, Nat.le_of_ble_eq_true rfl⟩ hl.1 rfl rfl (Nat.le_of_ble_eq_true rfl) dL_law_12 ⟨Nat.le_of_ble_eq_true rfl, Nat.le_of_ble_eq_true rfl⟩ (c_X7_init l D cI cP q2) hP hD hS hA (fun B' H locs hW2 hPn hDn hS => ?_)
  obtain ⟨am, e_am, rfl⟩ := hW2
  subst e_am
  have hP : va_P D vwCl ([wMain cI cP q1 h tx tn Ad K0_X6, wMod cI am K0_X7] : List va_W).flatten H := hPn
  have hD : va_D (fun q : Nat => s.heap.size ≤ q) ([wMain cI cP q1 h tx tn Ad K0_X6, wMod cI am K0_X7] : List va_W).flatten := hDn
  clear hPn hDn
  refine lv_astore_n (lv' := [(2, .ref (am 0)), (1, .ref q1), (0, .ref b)]) hx hb dL_law_15 rfl hl (by decide) rfl (fun ls hl => ?_)
  refine lv_iconst (v := 0) hx hb dL_law_16 (by decide) ?_
  refine lv_istore_n (lv' := [(3, .int 0), (2, .ref (am 0)), (1, .ref q1), (0, .ref b)]) hx hb dL_law_17 rfl hl (by decide) rfl (fun ls hl => ?_)
  exact law_loop_open (Rel := Rel) op_puppet op_tie op_cut op_cutDeal op_pull op_release op_session op_set op_puppetOf op_stringOf op_between op_book op_whyTie op_whyPull op_bestPull op_fewest op_ifCut op_share op_count op_undo op_type op_clearText op_fault op_play hL F hX hXs hbl (L + 6) 0 K0_X6 K0_X7 _ _ ls (by omega) (by omega) hR0 hP hD hS (lv_sub hl [3, 2, 1, 0] rfl)
