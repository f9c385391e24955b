/-! copies of a parliament, and the parliaments of the past -/
theorem k_pcopy (l : Launch) (D : va_G) (cI cP : ClassId) (a a2 : Nat → Nat) (K K2 : SPar) : MWv l yX1_copyFrom cX1_copyFrom 2 none rm_X1_copyFrom D cI cP [.ref (a 0), .ref (a2 0)] (wPar cI a K ++ wPar cI a2 K2) (wPar cI a K2 ++ wPar cI a2 K2) := by
  have h := c_X1_copyFrom l D cI cP a a2 K K2 _ rfl
  have e : wPar cI a (X1_copyFrom K K2) = wPar cI a K2 := rfl
  rw [e] at h
  exact h
def pastIx (K : SMain) (x1 : Int32) : Option Nat := if ((K.1 0 + x1) - (K.1 0 + x1) / 4 * 4) = nI 0 then some 0 else if ((K.1 0 + x1) - (K.1 0 + x1) / 4 * 4) = nI 1 then some 1 else if ((K.1 0 + x1) - (K.1 0 + x1) / 4 * 4) = nI 2 then some 2 else if ((K.1 0 + x1) - (K.1 0 + x1) / 4 * 4) = nI 3 then some 3 else none
theorem pastIx_spec {K : SMain} {x1 : Int32} {j : Nat} (h : pastIx K x1 = some j) : j < 4 ∧ ((K.1 0 + x1) - (K.1 0 + x1) / 4 * 4) = nI j := by
  unfold pastIx at h
  split at h
  · cases h; exact ⟨by omega, by assumption⟩
  split at h
  · cases h; exact ⟨by omega, by assumption⟩
  split at h
  · cases h; exact ⟨by omega, by assumption⟩
  split at h
  · cases h; exact ⟨by omega, by assumption⟩
  · cases h
theorem pastIx_lt {K : SMain} {x1 : Int32} {j : Nat} (h : pastIx K x1 = some j) : j < 4 := (pastIx_spec h).1
theorem past_get {cI cP : ClassId} {o h : Nat} {t u : Nat → Nat} {A : Nat → Nat → Nat} {K : SMain} {j : Nat} (hj : j < 4) : (bMain cI cP o h t u A K)[6 + j]? = some (wPar cI (A (2 + j)) (K.2.2.2.2.2 j)) := by
  rcases (by omega : j = 0 ∨ j = 1 ∨ j = 2 ∨ j = 3) with rfl | rfl | rfl | rfl <;> rfl
theorem past_set {cI cP : ClassId} {o h : Nat} {t u : Nat → Nat} {A : Nat → Nat → Nat} {K : SMain} {j : Nat} (hj : j < 4) {P : SPar} : (bMain cI cP o h t u A K).set (6 + j) (wPar cI (A (2 + j)) P) = bMain cI cP o h t u A (K.1, K.2.1, K.2.2.1, K.2.2.2.1, K.2.2.2.2.1, up K.2.2.2.2.2 j P) := by
  rcases (by omega : j = 0 ∨ j = 1 ∨ j = 2 ∨ j = 3) with rfl | rfl | rfl | rfl <;> rfl
def MRa (l : Launch) (y : MethodName) (cc : ByteArray) (n : Nat) (ret : Option FieldType) (rm : Room) (D : va_G) (cI cP : ClassId) (As : List Value) (B : va_W) (r : Nat) : Prop :=
  ∀ sz : Nat, Met l y (Cond.code y cc n ret :: ALL) rm (va_Pc As (fun U => U.heap.size = sz ∧ Cx D cI cP U ∧ va_P D vwCl B U.heap)) (va_Qr (fun (_ : Unit) => True) (fun _ a _ => a = r) (fun q => sz ≤ q)) 0 0 (fun q => sz ≤ q)
theorem k_ra {p : Program} {l : Launch} {e : Env} {R : Room} {s : State} {m : MethodId} {args : Array Value} {below : List Frame} {meth : Method} {c : Code} {H H0 : Heap} {locs : List Loc} {cells slots : Nat} {Q : State → Prop} {own : String} {cc bytes : ByteArray} {nL pc maxL : Nat} {ls : Array Slot} {st0 rest As : List Value} {ret0 ret : Option FieldType} {y : MethodName} {rm : Room} {D : va_G} {cI cP : ClassId} {B ws : va_W} {r : Nat} {A0 : Nat → Prop}
    {recv : Prop} (hr : Run p l e R s m args below meth c own cc nL ret0 y bytes maxL ret rm As pc ls st0 rest H cells slots recv) (hM : MRa l y bytes maxL ret rm D cI cP As B r) (hX : Cx D cI cP s) (hrc : recv) (hPB : va_P D vwCl B H) (hP : va_P D vwCl ws H) (hS : va_S A0 H0 H locs) (hA : ∀ q, H0.size ≤ q → A0 q)
    (kk : ∀ (H1 : Heap) (locs1 : List Loc), va_P D vwCl ws H1 → va_S A0 H0 H1 locs1 → W p l e R s m args below meth c H1 locs1 cells slots Q (F0 m (pc + 3) ls (.ref r :: rest))) : W p l e R s m args below meth c H locs cells slots Q (F0 m pc ls st0) := by
  refine va_callr (hr _ _ _ locs (hM H.size) (fun a U g mk q => ⟨q.1, q.2.1, q.2.2.1.calling, q.2.2.2⟩) hrc (fun U hU hW => ⟨rfl, by rw [hU], hX.warm hW, by rw [hU]; exact hPB⟩)) hS (fun q h1 h2 => absurd h1 (Nat.not_lt.mpr h2)) (fun q h => hA q (Nat.le_trans hS.1 h)) (fun u r' t H1 locs1 ht hvm hw hB hz1 hk1 hS1 => ?_)
  subst hB
  exact kk H1 locs1 (hP.kept (fun k q hk => hk1 q.1 (hP k q hk).lt (fun z => absurd (hP k q hk).lt (Nat.not_lt.mpr z)))) hS1
abbrev rm_X6_pastState : Room := { frames := 0, cells := 0, slots := 0, locals := 0 }
set_option maxHeartbeats 4000000 in
set_option maxRecDepth 100000 in
theorem c_X6_pastState (l : Launch) (D : va_G) (cI cP : ClassId) (o h : Nat) (t u : Nat → Nat) (A : Nat → Nat → Nat) (K : SMain) (x1 : Int32) (j : Nat) (hf : pastIx K x1 = some j) : MRa l yX6_pastState cX6_pastState 3 (some (.object "StringVotes$Parliament")) rm_X6_pastState D cI cP [.ref o, .int x1] (wMain cI cP o h t u A K) (A (2 + j) 0) := by
  obtain ⟨hj, hr4⟩ := pastIx_spec hf
  intro sz
  refine Met.ofW (cc := cX6_pastState) (maxL := 3) (ret := some (.object "StringVotes$Parliament")) (by decide +kernel) rfl ?_
  intro p e s m args below meth c s₁ B0 hml hv
  obtain ⟨rfl, hsz, hX, hP⟩ := hv
  subst hsz
  have hts0 := atoms_spec (ws := Cond.code yX6_pastState cX6_pastState 3 (some (.object "StringVotes$Parliament")) :: ALL) B0.pre
  rw [lg_entry_eq]
  have F : Fx p s m _ meth c RX6 cX6_pastState 3 (some (.object "StringVotes$Parliament")) := ⟨B0.exec, B0.bytes, hml, findClass_of_methodNamed B0.named, fun w h => hts0 w (List.mem_cons_of_mem _ h), B0.returns, B0.notSynchronized⟩
  have hl := lv_entry ([.ref o, .int x1]) (n := 3) (Nat.le_of_ble_eq_true rfl)
  generalize (lg_sl ([.ref o, .int x1]) ++ List.replicate (3 - (lg_sl ([.ref o, .int x1])).length) Slot.unset).toArray = ls at hl ⊢
  have hl : lv_has ls 3 [(0, .ref o), (1, .int x1)] := hl
  have hx := F.1
  have hb := F.2.1
  have hown := F.2.2.2.1
  have hts := F.2.2.2.2.1
  have hS : va_S (fun q : Nat => s.heap.size ≤ q) s.heap s.heap [] := va_S.rf
  have hin : vp_in (nI j) 4 := vp_in_nI hj (by omega)
  have e2 : (nI j).toNatClampNeg = j := nI_clamp (by omega)
  refine lv_aload_n hx hb dX6_pastState_0 rfl (lv_at hl 0 rfl) ?_
  refine gX6_291 F hX hP 0 rfl (v := .int (K.1 0)) rfl dX6_pastState_1 ?_
  refine lv_iload_n hx hb dX6_pastState_4 rfl (lv_at hl 1 rfl) ?_
  refine lv_iadd hx hb dX6_pastState_5 ?_
  refine lv_iconst (v := 4) hx hb dX6_pastState_6 (by decide) ?_
  refine lv_irem hx hb dX6_pastState_7 (by decide) ?_
  rw [hr4]
  refine lv_istore_n (lv' := [(2, .int (nI j)), (0, .ref o), (1, .int x1)]) hx hb dX6_pastState_8 rfl hl (by decide) rfl (fun ls hl => ?_)
  refine lv_iload_n hx hb dX6_pastState_9 rfl (lv_at hl 0 rfl) ?_
  refine lv_if_lt (tgt := 31) hx hb dX6_pastState_10 (by decide) (fun c0 => absurd c0 (nI_pos (by omega))) (fun _ => ?_)
  refine lv_iload_n hx hb dX6_pastState_13 rfl (lv_at hl 0 rfl) ?_
  refine lv_aload_n hx hb dX6_pastState_14 rfl (lv_at hl 1 rfl) ?_
  refine gX6_19 F hX hP 0 rfl (v := .ref h) rfl dX6_pastState_15 ?_
  refine va_alen hx hb hX.1 hP 1 1 rfl rfl (v := nI 4) rfl dX6_pastState_18 ?_
  refine lv_icmp_ge (tgt := 31) hx hb dX6_pastState_19 (by decide) (fun c0 => absurd c0 (nI_ge hj (by omega))) (fun _ => ?_)
  refine lv_aload_n hx hb dX6_pastState_22 rfl (lv_at hl 1 rfl) ?_
  refine gX6_19 F hX hP 0 rfl (v := .ref h) rfl dX6_pastState_23 ?_
  refine lv_iload_n hx hb dX6_pastState_26 rfl (lv_at hl 0 rfl) ?_
  refine va_aldq hx hb hX.1 hP 1 1 (f := fun i => some (A (2 + i) 0)) rfl rfl hin dX6_pastState_27 ?_
  rw [e2]
  refine lv_goto (tgt := 32) hx hb dX6_pastState_28 (by decide) ?_
  exact W.aret (v := .ref (A (2 + j) 0)) (rt := .object "StringVotes$Parliament") hx hb F.2.2.2.2.2.1 (Or.inl ⟨_, rfl⟩) (Or.inr ⟨_, rfl⟩) (fun t ht hW => ⟨⟨(), _, rfl, trivial, rfl⟩, hS.F ht⟩) hS.2.2 dX6_pastState_32 (hlocks := F.2.2.2.2.2.2)
