/-! constructors: an object just made becomes a world -/
theorem fl_push (X : List va_W) (B : va_W) : X.flatten ++ B = (X ++ [B]).flatten := by simp
def MNew (l : Launch) (y : MethodName) (cc : ByteArray) (n : Nat) (rm : Room) (D : va_G) (cI cP : ClassId) (As : List Value) (b ci : Nat) (fs0 : List Value) (mc ms : Nat) (Wd : va_W → Prop) : Prop :=
  ∀ sz : Nat, Met l y (Cond.code y cc n none :: ALL) rm (va_Pc (.ref b :: As) (fun U => U.heap.size = sz ∧ (Cx D cI cP U ∧ va_AO RX1 U) ∧ va_P D vwCl [(b, .inr (ci, fs0))] U.heap)) (va_Qv (fun (_ : Unit) => True) (fun _ t => ∃ B', Wd B' ∧ va_P D vwCl B' t.heap ∧ va_D (va_A [(b, .inr (ci, fs0))] sz) B') (va_A [(b, .inr (ci, fs0))] sz)) mc ms (va_A [(b, .inr (ci, fs0))] sz)
def QNew (D : va_G) (below : List Frame) (args : Array Value) (s : State) (A : Nat → Prop) (mc ms : Nat) (Wd : va_W → Prop) : State → Prop := MQ below (va_Qv (fun (_ : Unit) => True) (fun _ t => ∃ B', Wd B' ∧ va_P D vwCl B' t.heap ∧ va_D A B') A) args s mc ms A
theorem MNew.of {l : Launch} {y : MethodName} {cc : ByteArray} {n : Nat} {rm : Room} {D : va_G} {cI cP : ClassId} {As : List Value} {b ci : Nat} {fs0 : List Value} {mc ms : Nat} {Wd : va_W → Prop}
    (hy : plainName y.cls = true) (hyn : y.name = "<init>") (hn : (lg_sl (.ref b :: As)).length ≤ n)
    (body : ∀ (p : Program) (e : Env) (s : State) (m : MethodId) (args : Array Value) (below : List Frame) (meth : Method) (c : Code) (ls : Array Slot) (A : Nat → Prop), Fx p s m args meth c y.cls cc n none → Cx D cI cP s → va_AO RX1 s → va_P D vwCl [[(b, .inr (ci, fs0))]].flatten s.heap → va_D A [[(b, .inr (ci, fs0))]].flatten → (∀ q : Nat, s.heap.size ≤ q → A q) → va_S A s.heap s.heap [] → meth.name = "<init>" → lv_has ls n (lv_args 0 (.ref b :: As)) → W p l e rm s m args below meth c s.heap [] 0 0 (QNew D below args s A mc ms Wd) (F0 m 0 ls [])) :
    MNew l y cc n rm D cI cP As b ci fs0 mc ms Wd := by
  intro sz
  refine Met.ofW (cc := cc) (maxL := n) (ret := none) hy rfl ?_
  intro p e s m args below meth c s₁ B0 hml hv
  obtain ⟨rfl, hsz, hX, hP⟩ := hv
  subst hsz
  have hts := atoms_spec (ws := Cond.code y cc n none :: ALL) B0.pre
  rw [lg_entry_eq]
  have hD : va_D (fun _ => True) [(b, .inr (ci, fs0))] := vD_iff.mpr ⟨by simp, fun _ _ => trivial⟩
  exact body p e s m _ below meth c _ _ ⟨B0.exec, B0.bytes, hml, findClass_of_methodNamed B0.named, fun w h => hts w (List.mem_cons_of_mem _ h), B0.returns, B0.notSynchronized⟩ hX.1 hX.2 hP (hD.self (sz := s.heap.size)) (fun q h => Or.inr h) va_S.rf ((name_of_methodNamed B0.named B0.method).1.trans hyn) (lv_entry (.ref b :: As) hn)
theorem nw_v {p : Program} {l : Launch} {e : Env} {R : Room} {s : State} {m : MethodId} {args : Array Value} {below : List Frame} {meth : Method} {c : Code} {H : Heap} {locs : List Loc} {own : String} {cc : ByteArray} {nL pc cells slots mc ms : Nat} {ls : Array Slot} {D : va_G} {A : Nat → Prop} {B' : va_W} {Wd : va_W → Prop} (F : Fx p s m args meth c own cc nL none) (hc : cells ≤ mc) (hm : slots ≤ ms) (hW : Wd B') (hP : va_P D vwCl B' H) (hD : va_D A B') (hS : va_S A s.heap H locs) (hdg : decode cc pc = .ok (.return_, 1)) : W p l e R s m args below meth c H locs cells slots (QNew D below args s A mc ms Wd) (F0 m pc ls []) := by
  refine W.widen hc hm ?_
  exact W.vret F.1 F.2.1 F.2.2.2.2.2.1 (fun t ht _ => ⟨⟨(), rfl, trivial, B', hW, by rw [ht]; exact hP, hD⟩, hS.F ht⟩) hS.2.2 hdg (hlocks := F.2.2.2.2.2.2)
section NEWS
variable {p : Program} {l : Launch} {e : Env} {R : Room} {s : State} {m : MethodId} {args : Array Value} {below : List Frame} {meth : Method} {c : Code} {H H0 : Heap} {locs : List Loc} {cells slots : Nat} {Q : State → Prop}
variable {own host : String} {cc bytes : ByteArray} {nL pc maxL n idx ci mc ms : Nat} {ls : Array Slot} {st0 rest As : List Value} {ret0 : Option FieldType} {y : MethodName} {rm : Room} {D : va_G} {cI cP : ClassId} {b : Nat} {X : List va_W} {fs : List Value} {A0 : Nat → Prop} {Wd : va_W → Prop}
/-- behind a constructor: the cells that were there, and the new world -/
theorem new_back {B' : va_W} {H1 : Heap} (hP : va_P D vwCl (X ++ ([[(b, .inr (ci, fs))]] : List va_W)).flatten H) (hD : va_D A0 (X ++ ([[(b, .inr (ci, fs))]] : List va_W)).flatten) (hF : ∀ q, va_A [(b, .inr (ci, fs))] H.size q → A0 q) (hk1 : ∀ q : Nat, q < H.size → ¬ va_A [(b, .inr (ci, fs))] H.size q → H1[q]? = H[q]?) (hP1 : va_P D vwCl B' H1) (hD1 : va_D (va_A [(b, .inr (ci, fs))] H.size) B') : va_P D vwCl (X ++ [B']).flatten H1 ∧ va_D A0 (X ++ [B']).flatten := by
  rw [← fl_push] at hP hD ⊢
  have hn := vD_iff.mp hD
  have hn1 := vD_iff.mp hD1
  rw [List.map_append] at hn
  obtain ⟨hx1, hx2, hx3⟩ := List.nodup_append.mp hn.1
  have far : ∀ q ∈ X.flatten, q.1 < H.size ∧ ¬ va_A [(b, .inr (ci, fs))] H.size q.1 := by
    intro q hq
    have hl := (vP_iff.mp hP q (List.mem_append.mpr (Or.inl hq))).lt
    refine ⟨hl, fun z => ?_⟩
    rcases vA_iff.mp z with z | z
    · exact hx3 _ (List.mem_map.mpr ⟨q, hq, rfl⟩) _ z rfl
    · omega
  refine ⟨vP_iff.mpr fun q hq => ?_, vD_iff.mpr ⟨?_, fun q hq => ?_⟩⟩
  · rcases List.mem_append.mp hq with h | h
    · exact (vP_iff.mp hP q (List.mem_append.mpr (Or.inl h))).kept (hk1 q.1 (far q h).1 (far q h).2)
    · exact vP_iff.mp hP1 q h
  · rw [List.map_append]
    refine List.nodup_append.mpr ⟨hx1, hn1.1, fun x hx y hy hxy => ?_⟩
    subst hxy
    obtain ⟨q, hq, e1⟩ := List.mem_map.mp hx
    obtain ⟨q2, hq2, e2⟩ := List.mem_map.mp hy
    exact (far q hq).2 (by rw [e1, ← e2]; exact hn1.2 q2 hq2)
  · rcases List.mem_append.mp hq with h | h
    · exact hn.2 q (List.mem_append.mpr (Or.inl h))
    · exact hF q.1 (hn1.2 q h)
theorem new_free (hD : va_D A0 (X ++ ([[(b, .inr (ci, fs))]] : List va_W)).flatten) (hS : va_S A0 H0 H locs) (hA : ∀ q, H0.size ≤ q → A0 q) : ∀ q, va_A [(b, .inr (ci, fs))] H.size q → A0 q := by
  intro q h
  rcases vA_iff.mp h with h | h
  · have h : q = b := by simpa using h
    rw [h]
    exact (vD_iff.mp hD).2 (b, .inr (ci, fs)) (by simp)
  · exact hA q (Nat.le_trans hS.1 h)
theorem k_newN (F : Fx p s m args meth c own cc nL ret0) (hX : Cx D cI cP s) (hO : va_AO RX1 s) (w1 : Cond.methodLinkNest own idx y host ∈ NST) (w2 : Cond.instanceMethod y ∈ ALL) (w4 : Cond.initialized y.cls ∈ ALL) (w5 : Cond.code y bytes maxL none ∈ ALL) (hyn : y.name = "<init>") (w6 : y.cls ≠ "java/lang/invoke/MethodHandle" ∧ y.cls ≠ "java/lang/invoke/VarHandle" ∧ (parseMethodDescriptor y.desc).map (fun d => d.parameters.length) = some n) (hrm : rm.cells = mc ∧ rm.slots = ms) (hR : rm.frames + 1 ≤ R.frames ∧ 8 + (maxL + 11) + rm.locals ≤ R.locals) (hsz : ls.size = nL) (hn : As.length = n) (hst : st0 = As.reverse ++ .ref b :: rest) (hW : (rest.map fun v => v.category).sum ≤ 8) (hdg : decode cc pc = .ok (.invokespecial idx, 3)) (hf : cells + mc ≤ R.cells ∧ slots + ms ≤ R.slots)
    (hM : MNew l y bytes maxL rm D cI cP As b ci fs mc ms Wd) (hP : va_P D vwCl (X ++ ([[(b, .inr (ci, fs))]] : List va_W)).flatten H) (hD : va_D A0 (X ++ ([[(b, .inr (ci, fs))]] : List va_W)).flatten) (hS : va_S A0 H0 H locs) (hA : ∀ q, H0.size ≤ q → A0 q)
    (kk : ∀ (B' : va_W) (H1 : Heap) (locs1 : List Loc), Wd B' → va_P D vwCl (X ++ [B']).flatten H1 → va_D A0 (X ++ [B']).flatten → va_S A0 H0 H1 locs1 → W p l e R s m args below meth c H1 locs1 (cells + mc) (slots + ms) Q (F0 m (pc + 3) ls rest)) : W p l e R s m args below meth c H locs cells slots Q (F0 m pc ls st0) := by
  have ha := F.2.2.2.2.1
  have hF := new_free hD hS hA
  have hPB : va_P D vwCl [(b, .inr (ci, fs))] H := vP_iff.mpr fun q hq => vP_iff.mp hP q (List.mem_flatten.mpr ⟨_, by simp, hq⟩)
  refine va_callv (va_runIN (own := own) (host := host) (Ts := ALL) ⟨F.1, F.2.1, F.2.2.1, F.2.2.2.1, ha⟩ (hM H.size) ⟨va_cnB n ha (goodALL w5) rfl hrm.1 hrm.2 (hX.2 _ w1) (ha _ w4) w6 hR, hyn, ha _ w2⟩ ⟨fun a U g mk q => ⟨q.1, q.2.1, ⟨q.2.2.1.1.calling, va_AO.moved (Vm.Alike.refl U.vm) q.2.2.1.2⟩, q.2.2.2⟩, fun U hU hW => ⟨rfl, by rw [hU], ⟨hX.warm hW, hO.moved hW.alike⟩, by rw [hU]; exact hPB⟩⟩ rfl hn hsz hst (lv_room hW) hdg hf) hS (fun q _ h => hF q h) hF (fun u t H1 locs1 ht hvm hw hB hz1 hk1 hS1 => ?_)
  obtain ⟨B', hWd, hP1, hD1⟩ := hB
  rw [ht] at hP1
  obtain ⟨g1, g2⟩ := new_back hP hD hF hk1 hP1 hD1
  exact kk B' H1 locs1 hWd g1 g2 hS1
theorem k_newI (F : Fx p s m args meth c own cc nL ret0) (hX : Cx D cI cP s) (hO : va_AO RX1 s) (w1 : Cond.methodLink own idx y ∈ ALL) (w2 : Cond.instanceMethod y ∈ ALL) (w4 : Cond.initialized y.cls ∈ ALL) (w5 : Cond.code y bytes maxL none ∈ ALL) (hyn : y.name = "<init>") (w6 : y.cls ≠ "java/lang/invoke/MethodHandle" ∧ y.cls ≠ "java/lang/invoke/VarHandle" ∧ (parseMethodDescriptor y.desc).map (fun d => d.parameters.length) = some n) (hrm : rm.cells = mc ∧ rm.slots = ms) (hR : rm.frames + 1 ≤ R.frames ∧ 8 + (maxL + 11) + rm.locals ≤ R.locals) (hsz : ls.size = nL) (hn : As.length = n) (hst : st0 = As.reverse ++ .ref b :: rest) (hW : (rest.map fun v => v.category).sum ≤ 8) (hdg : decode cc pc = .ok (.invokespecial idx, 3)) (hf : cells + mc ≤ R.cells ∧ slots + ms ≤ R.slots)
    (hM : MNew l y bytes maxL rm D cI cP As b ci fs mc ms Wd) (hP : va_P D vwCl (X ++ ([[(b, .inr (ci, fs))]] : List va_W)).flatten H) (hD : va_D A0 (X ++ ([[(b, .inr (ci, fs))]] : List va_W)).flatten) (hS : va_S A0 H0 H locs) (hA : ∀ q, H0.size ≤ q → A0 q)
    (kk : ∀ (B' : va_W) (H1 : Heap) (locs1 : List Loc), Wd B' → va_P D vwCl (X ++ [B']).flatten H1 → va_D A0 (X ++ [B']).flatten → va_S A0 H0 H1 locs1 → W p l e R s m args below meth c H1 locs1 (cells + mc) (slots + ms) Q (F0 m (pc + 3) ls rest)) : W p l e R s m args below meth c H locs cells slots Q (F0 m pc ls st0) := by
  have ha := F.2.2.2.2.1
  have hF := new_free hD hS hA
  have hPB : va_P D vwCl [(b, .inr (ci, fs))] H := vP_iff.mpr fun q hq => vP_iff.mp hP q (List.mem_flatten.mpr ⟨_, by simp, hq⟩)
  refine va_callv (va_runI (own := own) (Ts := ALL) ⟨F.1, F.2.1, F.2.2.1, F.2.2.2.1, ha⟩ (hM H.size) ⟨callB_of n ha (goodALL w5) rfl hrm.1 hrm.2 (ha _ w4) (ha _ w1) w6 hR, hyn, ha _ w2⟩ ⟨fun a U g mk q => ⟨q.1, q.2.1, ⟨q.2.2.1.1.calling, va_AO.moved (Vm.Alike.refl U.vm) q.2.2.1.2⟩, q.2.2.2⟩, fun U hU hW => ⟨rfl, by rw [hU], ⟨hX.warm hW, hO.moved hW.alike⟩, by rw [hU]; exact hPB⟩⟩ rfl hn hsz hst (lv_room hW) hdg hf) hS (fun q _ h => hF q h) hF (fun u t H1 locs1 ht hvm hw hB hz1 hk1 hS1 => ?_)
  obtain ⟨B', hWd, hP1, hD1⟩ := hB
  rw [ht] at hP1
  obtain ⟨g1, g2⟩ := new_back hP hD hF hk1 hP1 hD1
  exact kk B' H1 locs1 hWd g1 g2 hS1
end NEWS
theorem arr_one {D : va_G} {cl : List vw_C} {tys : List (ClassId × FieldType)} {cA cI cP : ClassId} {U : State} (h : va_K D cl ([(cI, .int), (cP, .object RX1)] ++ [(cA, .int)]) U) : cA = cI := Option.some.inj ((h.2 2 (cA, .int) rfl).2.symm.trans (h.2 0 (cI, .int) rfl).2)
theorem arr_two {D : va_G} {cl : List vw_C} {cA cI cP : ClassId} {U : State} (h : va_K D cl ([(cI, .int), (cP, .object RX1)] ++ [(cA, .object RX1)]) U) : cA = cP := by
  obtain ⟨_, _, _, _, _, h1⟩ := (h.2 2 (cA, .object RX1) rfl).2
  obtain ⟨_, _, _, _, _, h2⟩ := (h.2 1 (cP, .object RX1) rfl).2
  exact Option.some.inj (h1.symm.trans h2)
def K0_X0 : SBook := ((fun _ => 0), (fun _ => 0))
def K0_X3 : SStr := ((fun _ _ => 0), (fun _ => 0))
def K0_X1 : SPar := ((fun _ _ => 0), up (fun _ => 0) 2 3, K0_X3, K0_X0)
def K0_X4 : STxt := ((fun _ => 0), (fun _ => 0), (fun _ => 0))
def K0_X5 : STrn := ((fun _ => 0), (fun _ => 0))
def K0_X6 : SMain := ((fun _ => 0), K0_X4, K0_X5, K0_X1, K0_X1, fun _ => K0_X1)
theorem vp_congrq {cA : ClassId} {n : Nat} {f g : Nat → Option Nat} (h : ∀ i, i < n → f i = g i) : vp_cell cA (n, .inr (.inr (.inr (.inr f)))) = vp_cell cA (n, .inr (.inr (.inr (.inr g)))) := by
  rw [vp_cell_q, vp_cell_q]
  unfold arrV
  congr 2
  funext j
  exact congrArg va_rf (h j.val j.isLt)
theorem perm_born {α : Type} (X Y Z V : List α) : (X ++ (Y ++ (Z ++ V))).Perm (Z ++ (X ++ (V ++ Y))) :=
  ((List.perm_append_comm (l₁ := Y) (l₂ := Z ++ V)).append_left X).trans (by simpa [List.append_assoc] using (List.perm_append_comm (l₁ := X) (l₂ := Z)).append_right (V ++ Y))
/-- the order in which the constructor makes its parts, and the order of the world -/
theorem main_born {D : va_G} {cI cP : ClassId} {A : Nat → Prop} {H : Heap} {b h : Nat} {tx tn : Nat → Nat} {Ad : Nat → Nat → Nat} {f : Nat → Option Nat} (h0 : f 0 = some (Ad 2 0)) (h1 : f 1 = some (Ad 3 0)) (h2 : f 2 = some (Ad 4 0)) (h3 : f 3 = some (Ad 5 0))
    (hP : va_P D vwCl ([[(b, .inr (6, [.ref (Ad 0 0), .ref (Ad 1 0), .ref h, .int 0, .int 0, .ref (tn 0), .ref (tx 0), .int 0, .int 0, .int 0, .int 0]))], wPar cI (Ad 0) K0_X1, wPar cI (Ad 1) K0_X1, [(h, .inl (cP, 4, .inr (.inr (.inr (.inr f)))))], wPar cI (Ad 2) K0_X1, wPar cI (Ad 3) K0_X1, wPar cI (Ad 4) K0_X1, wPar cI (Ad 5) K0_X1, wTrn cI tn K0_X5, wTxt cI tx K0_X4] : List va_W).flatten H)
    (hD : va_D A ([[(b, .inr (6, [.ref (Ad 0 0), .ref (Ad 1 0), .ref h, .int 0, .int 0, .ref (tn 0), .ref (tx 0), .int 0, .int 0, .int 0, .int 0]))], wPar cI (Ad 0) K0_X1, wPar cI (Ad 1) K0_X1, [(h, .inl (cP, 4, .inr (.inr (.inr (.inr f)))))], wPar cI (Ad 2) K0_X1, wPar cI (Ad 3) K0_X1, wPar cI (Ad 4) K0_X1, wPar cI (Ad 5) K0_X1, wTrn cI tn K0_X5, wTxt cI tx K0_X4] : List va_W).flatten) :
    va_P D vwCl (wMain cI cP b h tx tn Ad K0_X6) H ∧ va_D A (wMain cI cP b h tx tn Ad K0_X6) := by
  have perm : ∀ (o n t h' p q r s' u x : va_W), ([o, h', x, u, n, t, p, q, r, s'] : List va_W).Perm [o, n, t, h', p, q, r, s', u, x] := by
    intro o n t h' p q r s' u x
    refine List.Perm.cons o ?_
    exact (perm_born [h'] [x, u] [n, t] [p, q, r, s']).trans (((((List.Perm.swap u x []).append_left [p, q, r, s']).append_left [h']).append_left [n, t]))
  have e : vp_cell cP (4, .inr (.inr (.inr (.inr f)))) = vp_cell cP (4, .inr (.inr (.inr (.inr (fun i => some (Ad (2 + i) 0)))))) := vp_congrq fun i hi => by
    rcases (by omega : i = 0 ∨ i = 1 ∨ i = 2 ∨ i = 3) with rfl | rfl | rfl | rfl
    · exact h0
    · exact h1
    · exact h2
    · exact h3
  have hP2 : va_P D vwCl ([[(b, .inr (6, [.ref (Ad 0 0), .ref (Ad 1 0), .ref h, .int 0, .int 0, .ref (tn 0), .ref (tx 0), .int 0, .int 0, .int 0, .int 0]))], wPar cI (Ad 0) K0_X1, wPar cI (Ad 1) K0_X1, [(h, .inl (cP, 4, .inr (.inr (.inr (.inr (fun i => some (Ad (2 + i) 0)))))))], wPar cI (Ad 2) K0_X1, wPar cI (Ad 3) K0_X1, wPar cI (Ad 4) K0_X1, wPar cI (Ad 5) K0_X1, wTrn cI tn K0_X5, wTxt cI tx K0_X4] : List va_W).flatten H := by
    refine vP_iff.mpr fun q hq => ?_
    obtain ⟨B, hB, hqB⟩ := List.mem_flatten.mp hq
    by_cases hBh : B = [(h, .inl (cP, 4, .inr (.inr (.inr (.inr (fun i => some (Ad (2 + i) 0)))))))]
    · subst hBh
      have hq1 : q = (h, .inl (cP, 4, .inr (.inr (.inr (.inr (fun i => some (Ad (2 + i) 0))))))) := by simpa using hqB
      subst hq1
      have h4 := vP_iff.mp hP (h, .inl (cP, 4, .inr (.inr (.inr (.inr f))))) (List.mem_flatten.mpr ⟨_, List.mem_of_getElem? (i := 3) rfl, by simp⟩)
      show H[h]? = some (vp_cell cP (4, .inr (.inr (.inr (.inr (fun i => some (Ad (2 + i) 0)))))))
      rw [← e]
      exact h4
    · refine vP_iff.mp hP q (List.mem_flatten.mpr ⟨B, ?_, hqB⟩)
      simp only [List.mem_cons, List.not_mem_nil, or_false] at hB ⊢
      rcases hB with hB | hB | hB | hB | hB | hB | hB | hB | hB | hB
      · exact Or.inl hB
      · exact Or.inr (Or.inl hB)
      · exact Or.inr (Or.inr (Or.inl hB))
      · exact absurd hB hBh
      · exact Or.inr (Or.inr (Or.inr (Or.inr (Or.inl hB))))
      · exact Or.inr (Or.inr (Or.inr (Or.inr (Or.inr (Or.inl hB)))))
      · exact Or.inr (Or.inr (Or.inr (Or.inr (Or.inr (Or.inr (Or.inl hB))))))
      · exact Or.inr (Or.inr (Or.inr (Or.inr (Or.inr (Or.inr (Or.inr (Or.inl hB)))))))
      · exact Or.inr (Or.inr (Or.inr (Or.inr (Or.inr (Or.inr (Or.inr (Or.inr (Or.inl hB))))))))
      · exact Or.inr (Or.inr (Or.inr (Or.inr (Or.inr (Or.inr (Or.inr (Or.inr (Or.inr hB))))))))
  have hD2 : va_D A ([[(b, .inr (6, [.ref (Ad 0 0), .ref (Ad 1 0), .ref h, .int 0, .int 0, .ref (tn 0), .ref (tx 0), .int 0, .int 0, .int 0, .int 0]))], wPar cI (Ad 0) K0_X1, wPar cI (Ad 1) K0_X1, [(h, .inl (cP, 4, .inr (.inr (.inr (.inr (fun i => some (Ad (2 + i) 0)))))))], wPar cI (Ad 2) K0_X1, wPar cI (Ad 3) K0_X1, wPar cI (Ad 4) K0_X1, wPar cI (Ad 5) K0_X1, wTrn cI tn K0_X5, wTxt cI tx K0_X4] : List va_W).flatten := by
    refine vD_same ?_ hD
    simp only [List.flatten_cons, List.flatten_nil, List.map_append, List.map_cons, List.map_nil]
  have pm := (perm [(b, .inr (6, [.ref (Ad 0 0), .ref (Ad 1 0), .ref h, .int 0, .int 0, .ref (tn 0), .ref (tx 0), .int 0, .int 0, .int 0, .int 0]))] (wPar cI (Ad 0) K0_X1) (wPar cI (Ad 1) K0_X1) [(h, .inl (cP, 4, .inr (.inr (.inr (.inr (fun i => some (Ad (2 + i) 0)))))))] (wPar cI (Ad 2) K0_X1) (wPar cI (Ad 3) K0_X1) (wPar cI (Ad 4) K0_X1) (wPar cI (Ad 5) K0_X1) (wTrn cI tn K0_X5) (wTxt cI tx K0_X4)).flatten
  refine ⟨vP_iff.mpr fun q hq => vP_iff.mp hP2 q (pm.mem_iff.mp hq), vD_iff.mpr ⟨?_, fun q hq => (vD_iff.mp hD2).2 q (pm.mem_iff.mp hq)⟩⟩
  exact (pm.map (fun q => q.1)).nodup_iff.mpr (vD_iff.mp hD2).1
abbrev rm_X2_init (nn : Nat) : Room := { frames := 1, cells := 1, slots := nn, locals := 15 }
set_option maxHeartbeats 4000000 in
set_option maxRecDepth 100000 in
theorem c_X2_init (l : Launch) (D : va_G) (cI cP : ClassId) (b : Nat) (nn : Nat) (hn : nn ≤ 1000) : MNew l yX2_init cX2_init 2 (rm_X2_init nn) D cI cP [.int (nI nn)] b 2 [.null] 1 nn (fun B' => ∃ a : Nat → Nat, a 0 = b ∧ B' = wRow cI (a 0) (a 1) nn (fun _ => 0)) := by
  refine MNew.of (by decide +kernel) rfl (Nat.le_of_ble_eq_true rfl) ?_
  intro p e s m args below meth c ls A F hX hO hP hD hA hS hin hl
  have F : Fx p s m args meth c RX2 cX2_init 2 none := F
  have hx := F.1
  have hb := F.2.1
  have hown := F.2.2.2.1
  have hts := F.2.2.2.2.1
  have hl : lv_has ls 2 [(0, .ref b), (1, .int (nI nn))] := hl
  refine lv_aload_n hx hb dX2_init_0 rfl (lv_at hl 0 rfl) ?_
  refine W.objInit hx hb hown (hts _ q_76) (hts _ q_63) (hts _ q_64) rfl (hl.1.trans F.2.2.1.symm) rfl dX2_init_1 (Nat.le_of_ble_eq_true rfl) (Nat.le_of_ble_eq_true rfl) ?_
  refine W.eq (g2 := F0 m 4 ls []) rfl ?_
  refine lv_aload_n hx hb dX2_init_4 rfl (lv_at hl 0 rfl) ?_
  refine lv_iload_n hx hb dX2_init_5 rfl (lv_at hl 1 rfl) ?_
  refine lv_iconst (v := 0) hx hb dX2_init_6 (by decide) ?_
  refine va_mmax hx hb (F.2.2.1.trans hl.1.symm) hown (hts _ q_77) (hts _ q_78) (hts _ q_51) (hts _ q_79) (Nat.le_of_ble_eq_true rfl) (Nat.le_of_ble_eq_true rfl) (Nat.zero_le _) (Nat.zero_le _) dX2_init_7 ?_
  rw [if_neg (nI_pos (n := nn) (by omega))]
  refine va_newa (atype := .int) hx hb (hts _ q_84) rfl hX.1 hP hD hS hA (N' := nn) (a0 := (nn, .inl (fun _ => 0))) (fun _ => rfl) (nI_pos (by omega)) (nI_clamp (by omega)) (by show nn * 4 ≤ 536870912; omega) (by first | exact Nat.le_of_ble_eq_true rfl | (show _ ≤ nn; omega) | omega) (by first | exact Nat.le_of_ble_eq_true rfl | (show _ ≤ nn; omega) | omega) dX2_init_10 (fun q1 cA H hK2 hP hD hS => ?_)
  rw [arr_one (tys := []) hK2] at hP hD
  clear hK2
  rw [fl_push] at hP hD
  have hP : va_P D vwCl ([[(b, .inr (2, [.null]))], [(q1, .inl (cI, nn, .inl (fun _ => 0)))]] : List va_W).flatten H := hP
  have hD : va_D A ([[(b, .inr (2, [.null]))], [(q1, .inl (cI, nn, .inl (fun _ => 0)))]] : List va_W).flatten := hD
  refine va_putF (D := D) (ci := 2) (v := .ref q1) (ty := .array .int) (C := RX2) (T := TX2) (N := 1) hx hb hts uw_X2 tyX2 tyX2_ok nmX2 hown hX.1 hP hD hS 0 rfl rfl 0 (by decide) (hts _ q_80) (fun _ h9 => h9) rfl hin rfl (by decide +kernel) rfl rfl (Nat.le_of_ble_eq_true rfl) dX2_init_12 (fun H locs hP hD hS => ?_)
  have hP : va_P D vwCl ([[(b, .inr (2, [.ref q1]))], [(q1, .inl (cI, nn, .inl (fun _ => 0)))]] : List va_W).flatten H := hP
  have hD : va_D A ([[(b, .inr (2, [.ref q1]))], [(q1, .inl (cI, nn, .inl (fun _ => 0)))]] : List va_W).flatten := hD
  exact nw_v (B' := wRow cI b q1 nn (fun _ => 0)) F (by first | exact Nat.le_of_ble_eq_true rfl | (show _ ≤ nn; omega) | omega) (by first | exact Nat.le_of_ble_eq_true rfl | (show _ ≤ nn; omega) | omega) ⟨fun k => [b, q1].getD k 0, rfl, rfl⟩ hP hD hS dX2_init_15
abbrev rm_X0_init : Room := { frames := 2, cells := 2, slots := 33, locals := 36 }
set_option maxHeartbeats 4000000 in
set_option maxRecDepth 100000 in
theorem c_X0_init (l : Launch) (D : va_G) (cI cP : ClassId) (b : Nat) : MNew l yX0_init cX0_init 1 rm_X0_init D cI cP [] b 0 [.null, .int 0, .int 0] 2 33 (fun B' => ∃ a : Nat → Nat, a 0 = b ∧ B' = wBook cI a K0_X0) := by
  refine MNew.of (by decide +kernel) rfl (Nat.le_of_ble_eq_true rfl) ?_
  intro p e s m args below meth c ls A F hX hO hP hD hA hS hin hl
  have F : Fx p s m args meth c RX0 cX0_init 1 none := F
  have hx := F.1
  have hb := F.2.1
  have hown := F.2.2.2.1
  have hts := F.2.2.2.2.1
  have hl : lv_has ls 1 [(0, .ref b)] := hl
  refine lv_aload_n hx hb dX0_init_0 rfl (lv_at hl 0 rfl) ?_
  refine W.objInit hx hb hown (hts _ q_127) (hts _ q_63) (hts _ q_64) rfl (hl.1.trans F.2.2.1.symm) rfl dX0_init_1 (Nat.le_of_ble_eq_true rfl) (Nat.le_of_ble_eq_true rfl) ?_
  refine W.eq (g2 := F0 m 4 ls []) rfl ?_
  refine lv_aload_n hx hb dX0_init_4 rfl (lv_at hl 0 rfl) ?_
  refine va_new (ci := 2) (fs := [.null]) (C := RX2) (T := TX2) (N := 1) hx hb hts uw_X2 tyX2 tyX2_ok hown (hts _ q_128) (hts _ q_72) (hts _ q_50) hX.1 hP hD hS hA rfl (fun j hj => by rcases (show j = 0 by omega) with rfl <;> rfl) (Nat.le_of_ble_eq_true rfl) (Nat.le_of_ble_eq_true rfl) dX0_init_5 (fun q1 H hP hD hS => ?_)
  rw [fl_push] at hP hD
  refine lv_dup hx hb dX0_init_8 rfl ?_
  refine lv_bipush (v := 32) hx hb dX0_init_9 (by decide) ?_
  refine k_newN (rm := (rm_X2_init 32)) (mc := 1) (ms := 32) (As := [.int (nI 32)]) (rest := [.ref q1, .ref b]) (X := [[(b, .inr (0, [.null, .int 0, .int 0]))]]) F hX hO q_129 q_74 q_50 q_75 rfl (by decide +kernel) ⟨rfl, rfl⟩ ⟨Nat.le_of_ble_eq_true rfl, Nat.le_of_ble_eq_true rfl⟩ hl.1 rfl rfl (Nat.le_of_ble_eq_true rfl) dX0_init_11 ⟨Nat.le_of_ble_eq_true rfl, Nat.le_of_ble_eq_true rfl⟩ (c_X2_init l D cI cP q1 32 (by decide)) hP hD hS hA (fun B' H locs hW2 hPn hDn hS => ?_)
  obtain ⟨a2, e_a2, rfl⟩ := hW2
  subst e_a2
  have hP : va_P D vwCl ([[(b, .inr (0, [.null, .int 0, .int 0]))], wRow cI (a2 0) (a2 1) 32 (fun _ => 0)] : List va_W).flatten H := hPn
  have hD : va_D A ([[(b, .inr (0, [.null, .int 0, .int 0]))], wRow cI (a2 0) (a2 1) 32 (fun _ => 0)] : List va_W).flatten := hDn
  clear hPn hDn
  refine va_putF (D := D) (ci := 0) (v := .ref (a2 0)) (ty := .object "StringVotes$Row") (C := RX0) (T := TX0) (N := 3) hx hb hts uw_X0 tyX0 tyX0_ok nmX0 hown hX.1 hP hD hS 0 rfl rfl 0 (by decide) (hts _ q_130) (fun _ h9 => h9) rfl hin rfl (by decide +kernel) rfl rfl (Nat.le_of_ble_eq_true rfl) dX0_init_14 (fun H locs hP hD hS => ?_)
  have hP : va_P D vwCl ([[(b, .inr (0, [.ref (a2 0), .int 0, .int 0]))], wRow cI (a2 0) (a2 1) 32 (fun _ => 0)] : List va_W).flatten H := hP
  have hD : va_D A ([[(b, .inr (0, [.ref (a2 0), .int 0, .int 0]))], wRow cI (a2 0) (a2 1) 32 (fun _ => 0)] : List va_W).flatten := hD
  exact nw_v (B' := wBook cI (fun k => [b, a2 0, a2 1].getD k 0) K0_X0) F (Nat.le_of_ble_eq_true rfl) (Nat.le_of_ble_eq_true rfl) ⟨(fun k => [b, a2 0, a2 1].getD k 0), rfl, rfl⟩ hP hD hS dX0_init_17
abbrev rm_X3_init : Room := { frames := 2, cells := 8, slots := 84, locals := 36 }
set_option maxHeartbeats 4000000 in
set_option maxRecDepth 100000 in
theorem c_X3_init (l : Launch) (D : va_G) (cI cP : ClassId) (b : Nat) : MNew l yX3_init cX3_init 1 rm_X3_init D cI cP [] b 3 [.null, .null, .null, .null, .int 0, .int 0] 8 84 (fun B' => ∃ a : Nat → Nat, a 0 = b ∧ B' = wStr cI a K0_X3) := by
  refine MNew.of (by decide +kernel) rfl (Nat.le_of_ble_eq_true rfl) ?_
  intro p e s m args below meth c ls A F hX hO hP hD hA hS hin hl
  have F : Fx p s m args meth c RX3 cX3_init 1 none := F
  have hx := F.1
  have hb := F.2.1
  have hown := F.2.2.2.1
  have hts := F.2.2.2.2.1
  have hl : lv_has ls 1 [(0, .ref b)] := hl
  refine lv_aload_n hx hb dX3_init_0 rfl (lv_at hl 0 rfl) ?_
  refine W.objInit hx hb hown (hts _ q_90) (hts _ q_63) (hts _ q_64) rfl (hl.1.trans F.2.2.1.symm) rfl dX3_init_1 (Nat.le_of_ble_eq_true rfl) (Nat.le_of_ble_eq_true rfl) ?_
  refine W.eq (g2 := F0 m 4 ls []) rfl ?_
  refine lv_aload_n hx hb dX3_init_4 rfl (lv_at hl 0 rfl) ?_
  refine va_new (ci := 2) (fs := [.null]) (C := RX2) (T := TX2) (N := 1) hx hb hts uw_X2 tyX2 tyX2_ok hown (hts _ q_91) (hts _ q_72) (hts _ q_50) hX.1 hP hD hS hA rfl (fun j hj => by rcases (show j = 0 by omega) with rfl <;> rfl) (Nat.le_of_ble_eq_true rfl) (Nat.le_of_ble_eq_true rfl) dX3_init_5 (fun q1 H hP hD hS => ?_)
  rw [fl_push] at hP hD
  refine lv_dup hx hb dX3_init_8 rfl ?_
  refine lv_bipush (v := 20) hx hb dX3_init_9 (by decide) ?_
  refine k_newN (rm := (rm_X2_init 20)) (mc := 1) (ms := 20) (As := [.int (nI 20)]) (rest := [.ref q1, .ref b]) (X := [[(b, .inr (3, [.null, .null, .null, .null, .int 0, .int 0]))]]) F hX hO q_92 q_74 q_50 q_75 rfl (by decide +kernel) ⟨rfl, rfl⟩ ⟨Nat.le_of_ble_eq_true rfl, Nat.le_of_ble_eq_true rfl⟩ hl.1 rfl rfl (Nat.le_of_ble_eq_true rfl) dX3_init_11 ⟨Nat.le_of_ble_eq_true rfl, Nat.le_of_ble_eq_true rfl⟩ (c_X2_init l D cI cP q1 20 (by decide)) hP hD hS hA (fun B' H locs hW2 hPn hDn hS => ?_)
  obtain ⟨a2, e_a2, rfl⟩ := hW2
  subst e_a2
  have hP : va_P D vwCl ([[(b, .inr (3, [.null, .null, .null, .null, .int 0, .int 0]))], wRow cI (a2 0) (a2 1) 20 (fun _ => 0)] : List va_W).flatten H := hPn
  have hD : va_D A ([[(b, .inr (3, [.null, .null, .null, .null, .int 0, .int 0]))], wRow cI (a2 0) (a2 1) 20 (fun _ => 0)] : List va_W).flatten := hDn
  clear hPn hDn
  refine va_putF (D := D) (ci := 3) (v := .ref (a2 0)) (ty := .object "StringVotes$Row") (C := RX3) (T := TX3) (N := 6) hx hb hts uw_X3 tyX3 tyX3_ok nmX3 hown hX.1 hP hD hS 0 rfl rfl 0 (by decide) (hts _ q_93) (fun _ h9 => h9) rfl hin rfl (by decide +kernel) rfl rfl (Nat.le_of_ble_eq_true rfl) dX3_init_14 (fun H locs hP hD hS => ?_)
  have hP : va_P D vwCl ([[(b, .inr (3, [.ref (a2 0), .null, .null, .null, .int 0, .int 0]))], wRow cI (a2 0) (a2 1) 20 (fun _ => 0)] : List va_W).flatten H := hP
  have hD : va_D A ([[(b, .inr (3, [.ref (a2 0), .null, .null, .null, .int 0, .int 0]))], wRow cI (a2 0) (a2 1) 20 (fun _ => 0)] : List va_W).flatten := hD
  refine lv_aload_n hx hb dX3_init_17 rfl (lv_at hl 0 rfl) ?_
  refine va_new (ci := 2) (fs := [.null]) (C := RX2) (T := TX2) (N := 1) hx hb hts uw_X2 tyX2 tyX2_ok hown (hts _ q_91) (hts _ q_72) (hts _ q_50) hX.1 hP hD hS hA rfl (fun j hj => by rcases (show j = 0 by omega) with rfl <;> rfl) (Nat.le_of_ble_eq_true rfl) (Nat.le_of_ble_eq_true rfl) dX3_init_18 (fun q3 H hP hD hS => ?_)
  rw [fl_push] at hP hD
  refine lv_dup hx hb dX3_init_21 rfl ?_
  refine lv_bipush (v := 20) hx hb dX3_init_22 (by decide) ?_
  refine k_newN (rm := (rm_X2_init 20)) (mc := 1) (ms := 20) (As := [.int (nI 20)]) (rest := [.ref q3, .ref b]) (X := [[(b, .inr (3, [.ref (a2 0), .null, .null, .null, .int 0, .int 0]))], wRow cI (a2 0) (a2 1) 20 (fun _ => 0)]) F hX hO q_92 q_74 q_50 q_75 rfl (by decide +kernel) ⟨rfl, rfl⟩ ⟨Nat.le_of_ble_eq_true rfl, Nat.le_of_ble_eq_true rfl⟩ hl.1 rfl rfl (Nat.le_of_ble_eq_true rfl) dX3_init_24 ⟨Nat.le_of_ble_eq_true rfl, Nat.le_of_ble_eq_true rfl⟩ (c_X2_init l D cI cP q3 20 (by decide)) hP hD hS hA (fun B' H locs hW2 hPn hDn hS => ?_)
  obtain ⟨a4, e_a4, rfl⟩ := hW2
  subst e_a4
  have hP : va_P D vwCl ([[(b, .inr (3, [.ref (a2 0), .null, .null, .null, .int 0, .int 0]))], wRow cI (a2 0) (a2 1) 20 (fun _ => 0), wRow cI (a4 0) (a4 1) 20 (fun _ => 0)] : List va_W).flatten H := hPn
  have hD : va_D A ([[(b, .inr (3, [.ref (a2 0), .null, .null, .null, .int 0, .int 0]))], wRow cI (a2 0) (a2 1) 20 (fun _ => 0), wRow cI (a4 0) (a4 1) 20 (fun _ => 0)] : List va_W).flatten := hDn
  clear hPn hDn
  refine va_putF (D := D) (ci := 3) (v := .ref (a4 0)) (ty := .object "StringVotes$Row") (C := RX3) (T := TX3) (N := 6) hx hb hts uw_X3 tyX3 tyX3_ok nmX3 hown hX.1 hP hD hS 0 rfl rfl 1 (by decide) (hts _ q_96) (fun _ h9 => h9) rfl hin rfl (by decide +kernel) rfl rfl (Nat.le_of_ble_eq_true rfl) dX3_init_27 (fun H locs hP hD hS => ?_)
  have hP : va_P D vwCl ([[(b, .inr (3, [.ref (a2 0), .ref (a4 0), .null, .null, .int 0, .int 0]))], wRow cI (a2 0) (a2 1) 20 (fun _ => 0), wRow cI (a4 0) (a4 1) 20 (fun _ => 0)] : List va_W).flatten H := hP
  have hD : va_D A ([[(b, .inr (3, [.ref (a2 0), .ref (a4 0), .null, .null, .int 0, .int 0]))], wRow cI (a2 0) (a2 1) 20 (fun _ => 0), wRow cI (a4 0) (a4 1) 20 (fun _ => 0)] : List va_W).flatten := hD
  refine lv_aload_n hx hb dX3_init_30 rfl (lv_at hl 0 rfl) ?_
  refine va_new (ci := 2) (fs := [.null]) (C := RX2) (T := TX2) (N := 1) hx hb hts uw_X2 tyX2 tyX2_ok hown (hts _ q_91) (hts _ q_72) (hts _ q_50) hX.1 hP hD hS hA rfl (fun j hj => by rcases (show j = 0 by omega) with rfl <;> rfl) (Nat.le_of_ble_eq_true rfl) (Nat.le_of_ble_eq_true rfl) dX3_init_31 (fun q5 H hP hD hS => ?_)
  rw [fl_push] at hP hD
  refine lv_dup hx hb dX3_init_34 rfl ?_
  refine lv_bipush (v := 20) hx hb dX3_init_35 (by decide) ?_
  refine k_newN (rm := (rm_X2_init 20)) (mc := 1) (ms := 20) (As := [.int (nI 20)]) (rest := [.ref q5, .ref b]) (X := [[(b, .inr (3, [.ref (a2 0), .ref (a4 0), .null, .null, .int 0, .int 0]))], wRow cI (a2 0) (a2 1) 20 (fun _ => 0), wRow cI (a4 0) (a4 1) 20 (fun _ => 0)]) F hX hO q_92 q_74 q_50 q_75 rfl (by decide +kernel) ⟨rfl, rfl⟩ ⟨Nat.le_of_ble_eq_true rfl, Nat.le_of_ble_eq_true rfl⟩ hl.1 rfl rfl (Nat.le_of_ble_eq_true rfl) dX3_init_37 ⟨Nat.le_of_ble_eq_true rfl, Nat.le_of_ble_eq_true rfl⟩ (c_X2_init l D cI cP q5 20 (by decide)) hP hD hS hA (fun B' H locs hW2 hPn hDn hS => ?_)
  obtain ⟨a6, e_a6, rfl⟩ := hW2
  subst e_a6
  have hP : va_P D vwCl ([[(b, .inr (3, [.ref (a2 0), .ref (a4 0), .null, .null, .int 0, .int 0]))], wRow cI (a2 0) (a2 1) 20 (fun _ => 0), wRow cI (a4 0) (a4 1) 20 (fun _ => 0), wRow cI (a6 0) (a6 1) 20 (fun _ => 0)] : List va_W).flatten H := hPn
  have hD : va_D A ([[(b, .inr (3, [.ref (a2 0), .ref (a4 0), .null, .null, .int 0, .int 0]))], wRow cI (a2 0) (a2 1) 20 (fun _ => 0), wRow cI (a4 0) (a4 1) 20 (fun _ => 0), wRow cI (a6 0) (a6 1) 20 (fun _ => 0)] : List va_W).flatten := hDn
  clear hPn hDn
  refine va_putF (D := D) (ci := 3) (v := .ref (a6 0)) (ty := .object "StringVotes$Row") (C := RX3) (T := TX3) (N := 6) hx hb hts uw_X3 tyX3 tyX3_ok nmX3 hown hX.1 hP hD hS 0 rfl rfl 2 (by decide) (hts _ q_99) (fun _ h9 => h9) rfl hin rfl (by decide +kernel) rfl rfl (Nat.le_of_ble_eq_true rfl) dX3_init_40 (fun H locs hP hD hS => ?_)
  have hP : va_P D vwCl ([[(b, .inr (3, [.ref (a2 0), .ref (a4 0), .ref (a6 0), .null, .int 0, .int 0]))], wRow cI (a2 0) (a2 1) 20 (fun _ => 0), wRow cI (a4 0) (a4 1) 20 (fun _ => 0), wRow cI (a6 0) (a6 1) 20 (fun _ => 0)] : List va_W).flatten H := hP
  have hD : va_D A ([[(b, .inr (3, [.ref (a2 0), .ref (a4 0), .ref (a6 0), .null, .int 0, .int 0]))], wRow cI (a2 0) (a2 1) 20 (fun _ => 0), wRow cI (a4 0) (a4 1) 20 (fun _ => 0), wRow cI (a6 0) (a6 1) 20 (fun _ => 0)] : List va_W).flatten := hD
  refine lv_aload_n hx hb dX3_init_43 rfl (lv_at hl 0 rfl) ?_
  refine va_new (ci := 2) (fs := [.null]) (C := RX2) (T := TX2) (N := 1) hx hb hts uw_X2 tyX2 tyX2_ok hown (hts _ q_91) (hts _ q_72) (hts _ q_50) hX.1 hP hD hS hA rfl (fun j hj => by rcases (show j = 0 by omega) with rfl <;> rfl) (Nat.le_of_ble_eq_true rfl) (Nat.le_of_ble_eq_true rfl) dX3_init_44 (fun q7 H hP hD hS => ?_)
  rw [fl_push] at hP hD
  refine lv_dup hx hb dX3_init_47 rfl ?_
  refine lv_bipush (v := 20) hx hb dX3_init_48 (by decide) ?_
  refine k_newN (rm := (rm_X2_init 20)) (mc := 1) (ms := 20) (As := [.int (nI 20)]) (rest := [.ref q7, .ref b]) (X := [[(b, .inr (3, [.ref (a2 0), .ref (a4 0), .ref (a6 0), .null, .int 0, .int 0]))], wRow cI (a2 0) (a2 1) 20 (fun _ => 0), wRow cI (a4 0) (a4 1) 20 (fun _ => 0), wRow cI (a6 0) (a6 1) 20 (fun _ => 0)]) F hX hO q_92 q_74 q_50 q_75 rfl (by decide +kernel) ⟨rfl, rfl⟩ ⟨Nat.le_of_ble_eq_true rfl, Nat.le_of_ble_eq_true rfl⟩ hl.1 rfl rfl (Nat.le_of_ble_eq_true rfl) dX3_init_50 ⟨Nat.le_of_ble_eq_true rfl, Nat.le_of_ble_eq_true rfl⟩ (c_X2_init l D cI cP q7 20 (by decide)) hP hD hS hA (fun B' H locs hW2 hPn hDn hS => ?_)
  obtain ⟨a8, e_a8, rfl⟩ := hW2
  subst e_a8
  have hP : va_P D vwCl ([[(b, .inr (3, [.ref (a2 0), .ref (a4 0), .ref (a6 0), .null, .int 0, .int 0]))], wRow cI (a2 0) (a2 1) 20 (fun _ => 0), wRow cI (a4 0) (a4 1) 20 (fun _ => 0), wRow cI (a6 0) (a6 1) 20 (fun _ => 0), wRow cI (a8 0) (a8 1) 20 (fun _ => 0)] : List va_W).flatten H := hPn
  have hD : va_D A ([[(b, .inr (3, [.ref (a2 0), .ref (a4 0), .ref (a6 0), .null, .int 0, .int 0]))], wRow cI (a2 0) (a2 1) 20 (fun _ => 0), wRow cI (a4 0) (a4 1) 20 (fun _ => 0), wRow cI (a6 0) (a6 1) 20 (fun _ => 0), wRow cI (a8 0) (a8 1) 20 (fun _ => 0)] : List va_W).flatten := hDn
  clear hPn hDn
  refine va_putF (D := D) (ci := 3) (v := .ref (a8 0)) (ty := .object "StringVotes$Row") (C := RX3) (T := TX3) (N := 6) hx hb hts uw_X3 tyX3 tyX3_ok nmX3 hown hX.1 hP hD hS 0 rfl rfl 3 (by decide) (hts _ q_102) (fun _ h9 => h9) rfl hin rfl (by decide +kernel) rfl rfl (Nat.le_of_ble_eq_true rfl) dX3_init_53 (fun H locs hP hD hS => ?_)
  have hP : va_P D vwCl ([[(b, .inr (3, [.ref (a2 0), .ref (a4 0), .ref (a6 0), .ref (a8 0), .int 0, .int 0]))], wRow cI (a2 0) (a2 1) 20 (fun _ => 0), wRow cI (a4 0) (a4 1) 20 (fun _ => 0), wRow cI (a6 0) (a6 1) 20 (fun _ => 0), wRow cI (a8 0) (a8 1) 20 (fun _ => 0)] : List va_W).flatten H := hP
  have hD : va_D A ([[(b, .inr (3, [.ref (a2 0), .ref (a4 0), .ref (a6 0), .ref (a8 0), .int 0, .int 0]))], wRow cI (a2 0) (a2 1) 20 (fun _ => 0), wRow cI (a4 0) (a4 1) 20 (fun _ => 0), wRow cI (a6 0) (a6 1) 20 (fun _ => 0), wRow cI (a8 0) (a8 1) 20 (fun _ => 0)] : List va_W).flatten := hD
  exact nw_v (B' := wStr cI (fun k => [b, a2 0, a2 1, a4 0, a4 1, a6 0, a6 1, a8 0, a8 1].getD k 0) K0_X3) F (Nat.le_of_ble_eq_true rfl) (Nat.le_of_ble_eq_true rfl) ⟨(fun k => [b, a2 0, a2 1, a4 0, a4 1, a6 0, a6 1, a8 0, a8 1].getD k 0), rfl, rfl⟩ hP hD hS dX3_init_56
abbrev rm_X1_init : Room := { frames := 3, cells := 24, slots := 204, locals := 56 }
set_option maxHeartbeats 4000000 in
set_option maxRecDepth 100000 in
theorem c_X1_init (l : Launch) (D : va_G) (cI cP : ClassId) (b : Nat) : MNew l yX1_init cX1_init 1 rm_X1_init D cI cP [] b 1 [.null, .null, .null, .null, .null, .null, .null, .null, .int 0, .int 0, .int 0, .int 0, .int 0] 24 204 (fun B' => ∃ a : Nat → Nat, a 0 = b ∧ B' = wPar cI a K0_X1) := by
  refine MNew.of (by decide +kernel) rfl (Nat.le_of_ble_eq_true rfl) ?_
  intro p e s m args below meth c ls A F hX hO hP hD hA hS hin hl
  have F : Fx p s m args meth c RX1 cX1_init 1 none := F
  have hx := F.1
  have hb := F.2.1
  have hown := F.2.2.2.1
  have hts := F.2.2.2.2.1
  have hl : lv_has ls 1 [(0, .ref b)] := hl
  refine lv_aload_n hx hb dX1_init_0 rfl (lv_at hl 0 rfl) ?_
  refine W.objInit hx hb hown (hts _ q_70) (hts _ q_63) (hts _ q_64) rfl (hl.1.trans F.2.2.1.symm) rfl dX1_init_1 (Nat.le_of_ble_eq_true rfl) (Nat.le_of_ble_eq_true rfl) ?_
  refine W.eq (g2 := F0 m 4 ls []) rfl ?_
  refine lv_aload_n hx hb dX1_init_4 rfl (lv_at hl 0 rfl) ?_
  refine va_new (ci := 2) (fs := [.null]) (C := RX2) (T := TX2) (N := 1) hx hb hts uw_X2 tyX2 tyX2_ok hown (hts _ q_71) (hts _ q_72) (hts _ q_50) hX.1 hP hD hS hA rfl (fun j hj => by rcases (show j = 0 by omega) with rfl <;> rfl) (Nat.le_of_ble_eq_true rfl) (Nat.le_of_ble_eq_true rfl) dX1_init_5 (fun q1 H hP hD hS => ?_)
  rw [fl_push] at hP hD
  refine lv_dup hx hb dX1_init_8 rfl ?_
  refine lv_bipush (v := 12) hx hb dX1_init_9 (by decide) ?_
  refine k_newN (rm := (rm_X2_init 12)) (mc := 1) (ms := 12) (As := [.int (nI 12)]) (rest := [.ref q1, .ref b]) (X := [[(b, .inr (1, [.null, .null, .null, .null, .null, .null, .null, .null, .int 0, .int 0, .int 0, .int 0, .int 0]))]]) F hX hO q_73 q_74 q_50 q_75 rfl (by decide +kernel) ⟨rfl, rfl⟩ ⟨Nat.le_of_ble_eq_true rfl, Nat.le_of_ble_eq_true rfl⟩ hl.1 rfl rfl (Nat.le_of_ble_eq_true rfl) dX1_init_11 ⟨Nat.le_of_ble_eq_true rfl, Nat.le_of_ble_eq_true rfl⟩ (c_X2_init l D cI cP q1 12 (by decide)) hP hD hS hA (fun B' H locs hW2 hPn hDn hS => ?_)
  obtain ⟨a2, e_a2, rfl⟩ := hW2
  subst e_a2
  have hP : va_P D vwCl ([[(b, .inr (1, [.null, .null, .null, .null, .null, .null, .null, .null, .int 0, .int 0, .int 0, .int 0, .int 0]))], wRow cI (a2 0) (a2 1) 12 (fun _ => 0)] : List va_W).flatten H := hPn
  have hD : va_D A ([[(b, .inr (1, [.null, .null, .null, .null, .null, .null, .null, .null, .int 0, .int 0, .int 0, .int 0, .int 0]))], wRow cI (a2 0) (a2 1) 12 (fun _ => 0)] : List va_W).flatten := hDn
  clear hPn hDn
  refine va_putF (D := D) (ci := 1) (v := .ref (a2 0)) (ty := .object "StringVotes$Row") (C := RX1) (T := TX1) (N := 13) hx hb hts uw_X1 tyX1 tyX1_ok nmX1 hown hX.1 hP hD hS 0 rfl rfl 0 (by decide) (hts _ q_143) (fun _ h9 => h9) rfl hin rfl (by decide +kernel) rfl rfl (Nat.le_of_ble_eq_true rfl) dX1_init_14 (fun H locs hP hD hS => ?_)
  have hP : va_P D vwCl ([[(b, .inr (1, [.ref (a2 0), .null, .null, .null, .null, .null, .null, .null, .int 0, .int 0, .int 0, .int 0, .int 0]))], wRow cI (a2 0) (a2 1) 12 (fun _ => 0)] : List va_W).flatten H := hP
  have hD : va_D A ([[(b, .inr (1, [.ref (a2 0), .null, .null, .null, .null, .null, .null, .null, .int 0, .int 0, .int 0, .int 0, .int 0]))], wRow cI (a2 0) (a2 1) 12 (fun _ => 0)] : List va_W).flatten := hD
  refine lv_aload_n hx hb dX1_init_17 rfl (lv_at hl 0 rfl) ?_
  refine va_new (ci := 2) (fs := [.null]) (C := RX2) (T := TX2) (N := 1) hx hb hts uw_X2 tyX2 tyX2_ok hown (hts _ q_71) (hts _ q_72) (hts _ q_50) hX.1 hP hD hS hA rfl (fun j hj => by rcases (show j = 0 by omega) with rfl <;> rfl) (Nat.le_of_ble_eq_true rfl) (Nat.le_of_ble_eq_true rfl) dX1_init_18 (fun q3 H hP hD hS => ?_)
  rw [fl_push] at hP hD
  refine lv_dup hx hb dX1_init_21 rfl ?_
  refine lv_bipush (v := 12) hx hb dX1_init_22 (by decide) ?_
  refine k_newN (rm := (rm_X2_init 12)) (mc := 1) (ms := 12) (As := [.int (nI 12)]) (rest := [.ref q3, .ref b]) (X := [[(b, .inr (1, [.ref (a2 0), .null, .null, .null, .null, .null, .null, .null, .int 0, .int 0, .int 0, .int 0, .int 0]))], wRow cI (a2 0) (a2 1) 12 (fun _ => 0)]) F hX hO q_73 q_74 q_50 q_75 rfl (by decide +kernel) ⟨rfl, rfl⟩ ⟨Nat.le_of_ble_eq_true rfl, Nat.le_of_ble_eq_true rfl⟩ hl.1 rfl rfl (Nat.le_of_ble_eq_true rfl) dX1_init_24 ⟨Nat.le_of_ble_eq_true rfl, Nat.le_of_ble_eq_true rfl⟩ (c_X2_init l D cI cP q3 12 (by decide)) hP hD hS hA (fun B' H locs hW2 hPn hDn hS => ?_)
  obtain ⟨a4, e_a4, rfl⟩ := hW2
  subst e_a4
  have hP : va_P D vwCl ([[(b, .inr (1, [.ref (a2 0), .null, .null, .null, .null, .null, .null, .null, .int 0, .int 0, .int 0, .int 0, .int 0]))], wRow cI (a2 0) (a2 1) 12 (fun _ => 0), wRow cI (a4 0) (a4 1) 12 (fun _ => 0)] : List va_W).flatten H := hPn
  have hD : va_D A ([[(b, .inr (1, [.ref (a2 0), .null, .null, .null, .null, .null, .null, .null, .int 0, .int 0, .int 0, .int 0, .int 0]))], wRow cI (a2 0) (a2 1) 12 (fun _ => 0), wRow cI (a4 0) (a4 1) 12 (fun _ => 0)] : List va_W).flatten := hDn
  clear hPn hDn
  refine va_putF (D := D) (ci := 1) (v := .ref (a4 0)) (ty := .object "StringVotes$Row") (C := RX1) (T := TX1) (N := 13) hx hb hts uw_X1 tyX1 tyX1_ok nmX1 hown hX.1 hP hD hS 0 rfl rfl 1 (by decide) (hts _ q_145) (fun _ h9 => h9) rfl hin rfl (by decide +kernel) rfl rfl (Nat.le_of_ble_eq_true rfl) dX1_init_27 (fun H locs hP hD hS => ?_)
  have hP : va_P D vwCl ([[(b, .inr (1, [.ref (a2 0), .ref (a4 0), .null, .null, .null, .null, .null, .null, .int 0, .int 0, .int 0, .int 0, .int 0]))], wRow cI (a2 0) (a2 1) 12 (fun _ => 0), wRow cI (a4 0) (a4 1) 12 (fun _ => 0)] : List va_W).flatten H := hP
  have hD : va_D A ([[(b, .inr (1, [.ref (a2 0), .ref (a4 0), .null, .null, .null, .null, .null, .null, .int 0, .int 0, .int 0, .int 0, .int 0]))], wRow cI (a2 0) (a2 1) 12 (fun _ => 0), wRow cI (a4 0) (a4 1) 12 (fun _ => 0)] : List va_W).flatten := hD
  refine lv_aload_n hx hb dX1_init_30 rfl (lv_at hl 0 rfl) ?_
  refine va_new (ci := 2) (fs := [.null]) (C := RX2) (T := TX2) (N := 1) hx hb hts uw_X2 tyX2 tyX2_ok hown (hts _ q_71) (hts _ q_72) (hts _ q_50) hX.1 hP hD hS hA rfl (fun j hj => by rcases (show j = 0 by omega) with rfl <;> rfl) (Nat.le_of_ble_eq_true rfl) (Nat.le_of_ble_eq_true rfl) dX1_init_31 (fun q5 H hP hD hS => ?_)
  rw [fl_push] at hP hD
  refine lv_dup hx hb dX1_init_34 rfl ?_
  refine lv_bipush (v := 12) hx hb dX1_init_35 (by decide) ?_
  refine k_newN (rm := (rm_X2_init 12)) (mc := 1) (ms := 12) (As := [.int (nI 12)]) (rest := [.ref q5, .ref b]) (X := [[(b, .inr (1, [.ref (a2 0), .ref (a4 0), .null, .null, .null, .null, .null, .null, .int 0, .int 0, .int 0, .int 0, .int 0]))], wRow cI (a2 0) (a2 1) 12 (fun _ => 0), wRow cI (a4 0) (a4 1) 12 (fun _ => 0)]) F hX hO q_73 q_74 q_50 q_75 rfl (by decide +kernel) ⟨rfl, rfl⟩ ⟨Nat.le_of_ble_eq_true rfl, Nat.le_of_ble_eq_true rfl⟩ hl.1 rfl rfl (Nat.le_of_ble_eq_true rfl) dX1_init_37 ⟨Nat.le_of_ble_eq_true rfl, Nat.le_of_ble_eq_true rfl⟩ (c_X2_init l D cI cP q5 12 (by decide)) hP hD hS hA (fun B' H locs hW2 hPn hDn hS => ?_)
  obtain ⟨a6, e_a6, rfl⟩ := hW2
  subst e_a6
  have hP : va_P D vwCl ([[(b, .inr (1, [.ref (a2 0), .ref (a4 0), .null, .null, .null, .null, .null, .null, .int 0, .int 0, .int 0, .int 0, .int 0]))], wRow cI (a2 0) (a2 1) 12 (fun _ => 0), wRow cI (a4 0) (a4 1) 12 (fun _ => 0), wRow cI (a6 0) (a6 1) 12 (fun _ => 0)] : List va_W).flatten H := hPn
  have hD : va_D A ([[(b, .inr (1, [.ref (a2 0), .ref (a4 0), .null, .null, .null, .null, .null, .null, .int 0, .int 0, .int 0, .int 0, .int 0]))], wRow cI (a2 0) (a2 1) 12 (fun _ => 0), wRow cI (a4 0) (a4 1) 12 (fun _ => 0), wRow cI (a6 0) (a6 1) 12 (fun _ => 0)] : List va_W).flatten := hDn
  clear hPn hDn
  refine va_putF (D := D) (ci := 1) (v := .ref (a6 0)) (ty := .object "StringVotes$Row") (C := RX1) (T := TX1) (N := 13) hx hb hts uw_X1 tyX1 tyX1_ok nmX1 hown hX.1 hP hD hS 0 rfl rfl 2 (by decide) (hts _ q_147) (fun _ h9 => h9) rfl hin rfl (by decide +kernel) rfl rfl (Nat.le_of_ble_eq_true rfl) dX1_init_40 (fun H locs hP hD hS => ?_)
  have hP : va_P D vwCl ([[(b, .inr (1, [.ref (a2 0), .ref (a4 0), .ref (a6 0), .null, .null, .null, .null, .null, .int 0, .int 0, .int 0, .int 0, .int 0]))], wRow cI (a2 0) (a2 1) 12 (fun _ => 0), wRow cI (a4 0) (a4 1) 12 (fun _ => 0), wRow cI (a6 0) (a6 1) 12 (fun _ => 0)] : List va_W).flatten H := hP
  have hD : va_D A ([[(b, .inr (1, [.ref (a2 0), .ref (a4 0), .ref (a6 0), .null, .null, .null, .null, .null, .int 0, .int 0, .int 0, .int 0, .int 0]))], wRow cI (a2 0) (a2 1) 12 (fun _ => 0), wRow cI (a4 0) (a4 1) 12 (fun _ => 0), wRow cI (a6 0) (a6 1) 12 (fun _ => 0)] : List va_W).flatten := hD
  refine lv_aload_n hx hb dX1_init_43 rfl (lv_at hl 0 rfl) ?_
  refine va_new (ci := 2) (fs := [.null]) (C := RX2) (T := TX2) (N := 1) hx hb hts uw_X2 tyX2 tyX2_ok hown (hts _ q_71) (hts _ q_72) (hts _ q_50) hX.1 hP hD hS hA rfl (fun j hj => by rcases (show j = 0 by omega) with rfl <;> rfl) (Nat.le_of_ble_eq_true rfl) (Nat.le_of_ble_eq_true rfl) dX1_init_44 (fun q7 H hP hD hS => ?_)
  rw [fl_push] at hP hD
  refine lv_dup hx hb dX1_init_47 rfl ?_
  refine lv_bipush (v := 12) hx hb dX1_init_48 (by decide) ?_
  refine k_newN (rm := (rm_X2_init 12)) (mc := 1) (ms := 12) (As := [.int (nI 12)]) (rest := [.ref q7, .ref b]) (X := [[(b, .inr (1, [.ref (a2 0), .ref (a4 0), .ref (a6 0), .null, .null, .null, .null, .null, .int 0, .int 0, .int 0, .int 0, .int 0]))], wRow cI (a2 0) (a2 1) 12 (fun _ => 0), wRow cI (a4 0) (a4 1) 12 (fun _ => 0), wRow cI (a6 0) (a6 1) 12 (fun _ => 0)]) F hX hO q_73 q_74 q_50 q_75 rfl (by decide +kernel) ⟨rfl, rfl⟩ ⟨Nat.le_of_ble_eq_true rfl, Nat.le_of_ble_eq_true rfl⟩ hl.1 rfl rfl (Nat.le_of_ble_eq_true rfl) dX1_init_50 ⟨Nat.le_of_ble_eq_true rfl, Nat.le_of_ble_eq_true rfl⟩ (c_X2_init l D cI cP q7 12 (by decide)) hP hD hS hA (fun B' H locs hW2 hPn hDn hS => ?_)
  obtain ⟨a8, e_a8, rfl⟩ := hW2
  subst e_a8
  have hP : va_P D vwCl ([[(b, .inr (1, [.ref (a2 0), .ref (a4 0), .ref (a6 0), .null, .null, .null, .null, .null, .int 0, .int 0, .int 0, .int 0, .int 0]))], wRow cI (a2 0) (a2 1) 12 (fun _ => 0), wRow cI (a4 0) (a4 1) 12 (fun _ => 0), wRow cI (a6 0) (a6 1) 12 (fun _ => 0), wRow cI (a8 0) (a8 1) 12 (fun _ => 0)] : List va_W).flatten H := hPn
  have hD : va_D A ([[(b, .inr (1, [.ref (a2 0), .ref (a4 0), .ref (a6 0), .null, .null, .null, .null, .null, .int 0, .int 0, .int 0, .int 0, .int 0]))], wRow cI (a2 0) (a2 1) 12 (fun _ => 0), wRow cI (a4 0) (a4 1) 12 (fun _ => 0), wRow cI (a6 0) (a6 1) 12 (fun _ => 0), wRow cI (a8 0) (a8 1) 12 (fun _ => 0)] : List va_W).flatten := hDn
  clear hPn hDn
  refine va_putF (D := D) (ci := 1) (v := .ref (a8 0)) (ty := .object "StringVotes$Row") (C := RX1) (T := TX1) (N := 13) hx hb hts uw_X1 tyX1 tyX1_ok nmX1 hown hX.1 hP hD hS 0 rfl rfl 3 (by decide) (hts _ q_149) (fun _ h9 => h9) rfl hin rfl (by decide +kernel) rfl rfl (Nat.le_of_ble_eq_true rfl) dX1_init_53 (fun H locs hP hD hS => ?_)
  have hP : va_P D vwCl ([[(b, .inr (1, [.ref (a2 0), .ref (a4 0), .ref (a6 0), .ref (a8 0), .null, .null, .null, .null, .int 0, .int 0, .int 0, .int 0, .int 0]))], wRow cI (a2 0) (a2 1) 12 (fun _ => 0), wRow cI (a4 0) (a4 1) 12 (fun _ => 0), wRow cI (a6 0) (a6 1) 12 (fun _ => 0), wRow cI (a8 0) (a8 1) 12 (fun _ => 0)] : List va_W).flatten H := hP
  have hD : va_D A ([[(b, .inr (1, [.ref (a2 0), .ref (a4 0), .ref (a6 0), .ref (a8 0), .null, .null, .null, .null, .int 0, .int 0, .int 0, .int 0, .int 0]))], wRow cI (a2 0) (a2 1) 12 (fun _ => 0), wRow cI (a4 0) (a4 1) 12 (fun _ => 0), wRow cI (a6 0) (a6 1) 12 (fun _ => 0), wRow cI (a8 0) (a8 1) 12 (fun _ => 0)] : List va_W).flatten := hD
  refine lv_aload_n hx hb dX1_init_56 rfl (lv_at hl 0 rfl) ?_
  refine va_new (ci := 2) (fs := [.null]) (C := RX2) (T := TX2) (N := 1) hx hb hts uw_X2 tyX2 tyX2_ok hown (hts _ q_71) (hts _ q_72) (hts _ q_50) hX.1 hP hD hS hA rfl (fun j hj => by rcases (show j = 0 by omega) with rfl <;> rfl) (Nat.le_of_ble_eq_true rfl) (Nat.le_of_ble_eq_true rfl) dX1_init_57 (fun q9 H hP hD hS => ?_)
  rw [fl_push] at hP hD
  refine lv_dup hx hb dX1_init_60 rfl ?_
  refine lv_bipush (v := 12) hx hb dX1_init_61 (by decide) ?_
  refine k_newN (rm := (rm_X2_init 12)) (mc := 1) (ms := 12) (As := [.int (nI 12)]) (rest := [.ref q9, .ref b]) (X := [[(b, .inr (1, [.ref (a2 0), .ref (a4 0), .ref (a6 0), .ref (a8 0), .null, .null, .null, .null, .int 0, .int 0, .int 0, .int 0, .int 0]))], wRow cI (a2 0) (a2 1) 12 (fun _ => 0), wRow cI (a4 0) (a4 1) 12 (fun _ => 0), wRow cI (a6 0) (a6 1) 12 (fun _ => 0), wRow cI (a8 0) (a8 1) 12 (fun _ => 0)]) F hX hO q_73 q_74 q_50 q_75 rfl (by decide +kernel) ⟨rfl, rfl⟩ ⟨Nat.le_of_ble_eq_true rfl, Nat.le_of_ble_eq_true rfl⟩ hl.1 rfl rfl (Nat.le_of_ble_eq_true rfl) dX1_init_63 ⟨Nat.le_of_ble_eq_true rfl, Nat.le_of_ble_eq_true rfl⟩ (c_X2_init l D cI cP q9 12 (by decide)) hP hD hS hA (fun B' H locs hW2 hPn hDn hS => ?_)
  obtain ⟨a10, e_a10, rfl⟩ := hW2
  subst e_a10
  have hP : va_P D vwCl ([[(b, .inr (1, [.ref (a2 0), .ref (a4 0), .ref (a6 0), .ref (a8 0), .null, .null, .null, .null, .int 0, .int 0, .int 0, .int 0, .int 0]))], wRow cI (a2 0) (a2 1) 12 (fun _ => 0), wRow cI (a4 0) (a4 1) 12 (fun _ => 0), wRow cI (a6 0) (a6 1) 12 (fun _ => 0), wRow cI (a8 0) (a8 1) 12 (fun _ => 0), wRow cI (a10 0) (a10 1) 12 (fun _ => 0)] : List va_W).flatten H := hPn
  have hD : va_D A ([[(b, .inr (1, [.ref (a2 0), .ref (a4 0), .ref (a6 0), .ref (a8 0), .null, .null, .null, .null, .int 0, .int 0, .int 0, .int 0, .int 0]))], wRow cI (a2 0) (a2 1) 12 (fun _ => 0), wRow cI (a4 0) (a4 1) 12 (fun _ => 0), wRow cI (a6 0) (a6 1) 12 (fun _ => 0), wRow cI (a8 0) (a8 1) 12 (fun _ => 0), wRow cI (a10 0) (a10 1) 12 (fun _ => 0)] : List va_W).flatten := hDn
  clear hPn hDn
  refine va_putF (D := D) (ci := 1) (v := .ref (a10 0)) (ty := .object "StringVotes$Row") (C := RX1) (T := TX1) (N := 13) hx hb hts uw_X1 tyX1 tyX1_ok nmX1 hown hX.1 hP hD hS 0 rfl rfl 4 (by decide) (hts _ q_151) (fun _ h9 => h9) rfl hin rfl (by decide +kernel) rfl rfl (Nat.le_of_ble_eq_true rfl) dX1_init_66 (fun H locs hP hD hS => ?_)
  have hP : va_P D vwCl ([[(b, .inr (1, [.ref (a2 0), .ref (a4 0), .ref (a6 0), .ref (a8 0), .ref (a10 0), .null, .null, .null, .int 0, .int 0, .int 0, .int 0, .int 0]))], wRow cI (a2 0) (a2 1) 12 (fun _ => 0), wRow cI (a4 0) (a4 1) 12 (fun _ => 0), wRow cI (a6 0) (a6 1) 12 (fun _ => 0), wRow cI (a8 0) (a8 1) 12 (fun _ => 0), wRow cI (a10 0) (a10 1) 12 (fun _ => 0)] : List va_W).flatten H := hP
  have hD : va_D A ([[(b, .inr (1, [.ref (a2 0), .ref (a4 0), .ref (a6 0), .ref (a8 0), .ref (a10 0), .null, .null, .null, .int 0, .int 0, .int 0, .int 0, .int 0]))], wRow cI (a2 0) (a2 1) 12 (fun _ => 0), wRow cI (a4 0) (a4 1) 12 (fun _ => 0), wRow cI (a6 0) (a6 1) 12 (fun _ => 0), wRow cI (a8 0) (a8 1) 12 (fun _ => 0), wRow cI (a10 0) (a10 1) 12 (fun _ => 0)] : List va_W).flatten := hD
  refine lv_aload_n hx hb dX1_init_69 rfl (lv_at hl 0 rfl) ?_
  refine va_new (ci := 2) (fs := [.null]) (C := RX2) (T := TX2) (N := 1) hx hb hts uw_X2 tyX2 tyX2_ok hown (hts _ q_71) (hts _ q_72) (hts _ q_50) hX.1 hP hD hS hA rfl (fun j hj => by rcases (show j = 0 by omega) with rfl <;> rfl) (Nat.le_of_ble_eq_true rfl) (Nat.le_of_ble_eq_true rfl) dX1_init_70 (fun q11 H hP hD hS => ?_)
  rw [fl_push] at hP hD
  refine lv_dup hx hb dX1_init_73 rfl ?_
  refine lv_bipush (v := 12) hx hb dX1_init_74 (by decide) ?_
  refine k_newN (rm := (rm_X2_init 12)) (mc := 1) (ms := 12) (As := [.int (nI 12)]) (rest := [.ref q11, .ref b]) (X := [[(b, .inr (1, [.ref (a2 0), .ref (a4 0), .ref (a6 0), .ref (a8 0), .ref (a10 0), .null, .null, .null, .int 0, .int 0, .int 0, .int 0, .int 0]))], wRow cI (a2 0) (a2 1) 12 (fun _ => 0), wRow cI (a4 0) (a4 1) 12 (fun _ => 0), wRow cI (a6 0) (a6 1) 12 (fun _ => 0), wRow cI (a8 0) (a8 1) 12 (fun _ => 0), wRow cI (a10 0) (a10 1) 12 (fun _ => 0)]) F hX hO q_73 q_74 q_50 q_75 rfl (by decide +kernel) ⟨rfl, rfl⟩ ⟨Nat.le_of_ble_eq_true rfl, Nat.le_of_ble_eq_true rfl⟩ hl.1 rfl rfl (Nat.le_of_ble_eq_true rfl) dX1_init_76 ⟨Nat.le_of_ble_eq_true rfl, Nat.le_of_ble_eq_true rfl⟩ (c_X2_init l D cI cP q11 12 (by decide)) hP hD hS hA (fun B' H locs hW2 hPn hDn hS => ?_)
  obtain ⟨a12, e_a12, rfl⟩ := hW2
  subst e_a12
  have hP : va_P D vwCl ([[(b, .inr (1, [.ref (a2 0), .ref (a4 0), .ref (a6 0), .ref (a8 0), .ref (a10 0), .null, .null, .null, .int 0, .int 0, .int 0, .int 0, .int 0]))], wRow cI (a2 0) (a2 1) 12 (fun _ => 0), wRow cI (a4 0) (a4 1) 12 (fun _ => 0), wRow cI (a6 0) (a6 1) 12 (fun _ => 0), wRow cI (a8 0) (a8 1) 12 (fun _ => 0), wRow cI (a10 0) (a10 1) 12 (fun _ => 0), wRow cI (a12 0) (a12 1) 12 (fun _ => 0)] : List va_W).flatten H := hPn
  have hD : va_D A ([[(b, .inr (1, [.ref (a2 0), .ref (a4 0), .ref (a6 0), .ref (a8 0), .ref (a10 0), .null, .null, .null, .int 0, .int 0, .int 0, .int 0, .int 0]))], wRow cI (a2 0) (a2 1) 12 (fun _ => 0), wRow cI (a4 0) (a4 1) 12 (fun _ => 0), wRow cI (a6 0) (a6 1) 12 (fun _ => 0), wRow cI (a8 0) (a8 1) 12 (fun _ => 0), wRow cI (a10 0) (a10 1) 12 (fun _ => 0), wRow cI (a12 0) (a12 1) 12 (fun _ => 0)] : List va_W).flatten := hDn
  clear hPn hDn
  refine va_putF (D := D) (ci := 1) (v := .ref (a12 0)) (ty := .object "StringVotes$Row") (C := RX1) (T := TX1) (N := 13) hx hb hts uw_X1 tyX1 tyX1_ok nmX1 hown hX.1 hP hD hS 0 rfl rfl 5 (by decide) (hts _ q_153) (fun _ h9 => h9) rfl hin rfl (by decide +kernel) rfl rfl (Nat.le_of_ble_eq_true rfl) dX1_init_79 (fun H locs hP hD hS => ?_)
  have hP : va_P D vwCl ([[(b, .inr (1, [.ref (a2 0), .ref (a4 0), .ref (a6 0), .ref (a8 0), .ref (a10 0), .ref (a12 0), .null, .null, .int 0, .int 0, .int 0, .int 0, .int 0]))], wRow cI (a2 0) (a2 1) 12 (fun _ => 0), wRow cI (a4 0) (a4 1) 12 (fun _ => 0), wRow cI (a6 0) (a6 1) 12 (fun _ => 0), wRow cI (a8 0) (a8 1) 12 (fun _ => 0), wRow cI (a10 0) (a10 1) 12 (fun _ => 0), wRow cI (a12 0) (a12 1) 12 (fun _ => 0)] : List va_W).flatten H := hP
  have hD : va_D A ([[(b, .inr (1, [.ref (a2 0), .ref (a4 0), .ref (a6 0), .ref (a8 0), .ref (a10 0), .ref (a12 0), .null, .null, .int 0, .int 0, .int 0, .int 0, .int 0]))], wRow cI (a2 0) (a2 1) 12 (fun _ => 0), wRow cI (a4 0) (a4 1) 12 (fun _ => 0), wRow cI (a6 0) (a6 1) 12 (fun _ => 0), wRow cI (a8 0) (a8 1) 12 (fun _ => 0), wRow cI (a10 0) (a10 1) 12 (fun _ => 0), wRow cI (a12 0) (a12 1) 12 (fun _ => 0)] : List va_W).flatten := hD
  refine lv_aload_n hx hb dX1_init_82 rfl (lv_at hl 0 rfl) ?_
  refine va_new (ci := 3) (fs := [.null, .null, .null, .null, .int 0, .int 0]) (C := RX3) (T := TX3) (N := 6) hx hb hts uw_X3 tyX3 tyX3_ok hown (hts _ q_85) (hts _ q_86) (hts _ q_52) hX.1 hP hD hS hA rfl (fun j hj => by rcases (show j = 0 ∨ j = 1 ∨ j = 2 ∨ j = 3 ∨ j = 4 ∨ j = 5 by omega) with rfl | rfl | rfl | rfl | rfl | rfl <;> rfl) (Nat.le_of_ble_eq_true rfl) (Nat.le_of_ble_eq_true rfl) dX1_init_83 (fun q13 H hP hD hS => ?_)
  rw [fl_push] at hP hD
  refine lv_dup hx hb dX1_init_86 rfl ?_
  refine k_newN (rm := rm_X3_init) (mc := 8) (ms := 84) (As := []) (rest := [.ref q13, .ref b]) (X := [[(b, .inr (1, [.ref (a2 0), .ref (a4 0), .ref (a6 0), .ref (a8 0), .ref (a10 0), .ref (a12 0), .null, .null, .int 0, .int 0, .int 0, .int 0, .int 0]))], wRow cI (a2 0) (a2 1) 12 (fun _ => 0), wRow cI (a4 0) (a4 1) 12 (fun _ => 0), wRow cI (a6 0) (a6 1) 12 (fun _ => 0), wRow cI (a8 0) (a8 1) 12 (fun _ => 0), wRow cI (a10 0) (a10 1) 12 (fun _ => 0), wRow cI (a12 0) (a12 1) 12 (fun _ => 0)]) F hX hO q_87 q_88 q_52 q_89 rfl (by decide +kernel) ⟨rfl, rfl⟩ ⟨Nat.le_of_ble_eq_true rfl, Nat.le_of_ble_eq_true rfl⟩ hl.1 rfl rfl (Nat.le_of_ble_eq_true rfl) dX1_init_87 ⟨Nat.le_of_ble_eq_true rfl, Nat.le_of_ble_eq_true rfl⟩ (c_X3_init l D cI cP q13) hP hD hS hA (fun B' H locs hW2 hPn hDn hS => ?_)
  obtain ⟨a14, e_a14, rfl⟩ := hW2
  subst e_a14
  have hP : va_P D vwCl ([[(b, .inr (1, [.ref (a2 0), .ref (a4 0), .ref (a6 0), .ref (a8 0), .ref (a10 0), .ref (a12 0), .null, .null, .int 0, .int 0, .int 0, .int 0, .int 0]))], wRow cI (a2 0) (a2 1) 12 (fun _ => 0), wRow cI (a4 0) (a4 1) 12 (fun _ => 0), wRow cI (a6 0) (a6 1) 12 (fun _ => 0), wRow cI (a8 0) (a8 1) 12 (fun _ => 0), wRow cI (a10 0) (a10 1) 12 (fun _ => 0), wRow cI (a12 0) (a12 1) 12 (fun _ => 0), wStr cI a14 K0_X3] : List va_W).flatten H := hPn
  have hD : va_D A ([[(b, .inr (1, [.ref (a2 0), .ref (a4 0), .ref (a6 0), .ref (a8 0), .ref (a10 0), .ref (a12 0), .null, .null, .int 0, .int 0, .int 0, .int 0, .int 0]))], wRow cI (a2 0) (a2 1) 12 (fun _ => 0), wRow cI (a4 0) (a4 1) 12 (fun _ => 0), wRow cI (a6 0) (a6 1) 12 (fun _ => 0), wRow cI (a8 0) (a8 1) 12 (fun _ => 0), wRow cI (a10 0) (a10 1) 12 (fun _ => 0), wRow cI (a12 0) (a12 1) 12 (fun _ => 0), wStr cI a14 K0_X3] : List va_W).flatten := hDn
  clear hPn hDn
  refine va_putF (D := D) (ci := 1) (v := .ref (a14 0)) (ty := .object "StringVotes$Strings") (C := RX1) (T := TX1) (N := 13) hx hb hts uw_X1 tyX1 tyX1_ok nmX1 hown hX.1 hP hD hS 0 rfl rfl 6 (by decide) (hts _ q_155) (fun _ h9 => h9) rfl hin rfl (by decide +kernel) rfl rfl (Nat.le_of_ble_eq_true rfl) dX1_init_90 (fun H locs hP hD hS => ?_)
  have hP : va_P D vwCl ([[(b, .inr (1, [.ref (a2 0), .ref (a4 0), .ref (a6 0), .ref (a8 0), .ref (a10 0), .ref (a12 0), .ref (a14 0), .null, .int 0, .int 0, .int 0, .int 0, .int 0]))], wRow cI (a2 0) (a2 1) 12 (fun _ => 0), wRow cI (a4 0) (a4 1) 12 (fun _ => 0), wRow cI (a6 0) (a6 1) 12 (fun _ => 0), wRow cI (a8 0) (a8 1) 12 (fun _ => 0), wRow cI (a10 0) (a10 1) 12 (fun _ => 0), wRow cI (a12 0) (a12 1) 12 (fun _ => 0), wStr cI a14 K0_X3] : List va_W).flatten H := hP
  have hD : va_D A ([[(b, .inr (1, [.ref (a2 0), .ref (a4 0), .ref (a6 0), .ref (a8 0), .ref (a10 0), .ref (a12 0), .ref (a14 0), .null, .int 0, .int 0, .int 0, .int 0, .int 0]))], wRow cI (a2 0) (a2 1) 12 (fun _ => 0), wRow cI (a4 0) (a4 1) 12 (fun _ => 0), wRow cI (a6 0) (a6 1) 12 (fun _ => 0), wRow cI (a8 0) (a8 1) 12 (fun _ => 0), wRow cI (a10 0) (a10 1) 12 (fun _ => 0), wRow cI (a12 0) (a12 1) 12 (fun _ => 0), wStr cI a14 K0_X3] : List va_W).flatten := hD
  refine lv_aload_n hx hb dX1_init_93 rfl (lv_at hl 0 rfl) ?_
  refine va_new (ci := 0) (fs := [.null, .int 0, .int 0]) (C := RX0) (T := TX0) (N := 3) hx hb hts uw_X0 tyX0 tyX0_ok hown (hts _ q_122) (hts _ q_123) (hts _ q_53) hX.1 hP hD hS hA rfl (fun j hj => by rcases (show j = 0 ∨ j = 1 ∨ j = 2 by omega) with rfl | rfl | rfl <;> rfl) (Nat.le_of_ble_eq_true rfl) (Nat.le_of_ble_eq_true rfl) dX1_init_94 (fun q15 H hP hD hS => ?_)
  rw [fl_push] at hP hD
  refine lv_dup hx hb dX1_init_97 rfl ?_
  refine k_newN (rm := rm_X0_init) (mc := 2) (ms := 33) (As := []) (rest := [.ref q15, .ref b]) (X := [[(b, .inr (1, [.ref (a2 0), .ref (a4 0), .ref (a6 0), .ref (a8 0), .ref (a10 0), .ref (a12 0), .ref (a14 0), .null, .int 0, .int 0, .int 0, .int 0, .int 0]))], wRow cI (a2 0) (a2 1) 12 (fun _ => 0), wRow cI (a4 0) (a4 1) 12 (fun _ => 0), wRow cI (a6 0) (a6 1) 12 (fun _ => 0), wRow cI (a8 0) (a8 1) 12 (fun _ => 0), wRow cI (a10 0) (a10 1) 12 (fun _ => 0), wRow cI (a12 0) (a12 1) 12 (fun _ => 0), wStr cI a14 K0_X3]) F hX hO q_124 q_125 q_53 q_126 rfl (by decide +kernel) ⟨rfl, rfl⟩ ⟨Nat.le_of_ble_eq_true rfl, Nat.le_of_ble_eq_true rfl⟩ hl.1 rfl rfl (Nat.le_of_ble_eq_true rfl) dX1_init_98 ⟨Nat.le_of_ble_eq_true rfl, Nat.le_of_ble_eq_true rfl⟩ (c_X0_init l D cI cP q15) hP hD hS hA (fun B' H locs hW2 hPn hDn hS => ?_)
  obtain ⟨a16, e_a16, rfl⟩ := hW2
  subst e_a16
  have hP : va_P D vwCl ([[(b, .inr (1, [.ref (a2 0), .ref (a4 0), .ref (a6 0), .ref (a8 0), .ref (a10 0), .ref (a12 0), .ref (a14 0), .null, .int 0, .int 0, .int 0, .int 0, .int 0]))], wRow cI (a2 0) (a2 1) 12 (fun _ => 0), wRow cI (a4 0) (a4 1) 12 (fun _ => 0), wRow cI (a6 0) (a6 1) 12 (fun _ => 0), wRow cI (a8 0) (a8 1) 12 (fun _ => 0), wRow cI (a10 0) (a10 1) 12 (fun _ => 0), wRow cI (a12 0) (a12 1) 12 (fun _ => 0), wStr cI a14 K0_X3, wBook cI a16 K0_X0] : List va_W).flatten H := hPn
  have hD : va_D A ([[(b, .inr (1, [.ref (a2 0), .ref (a4 0), .ref (a6 0), .ref (a8 0), .ref (a10 0), .ref (a12 0), .ref (a14 0), .null, .int 0, .int 0, .int 0, .int 0, .int 0]))], wRow cI (a2 0) (a2 1) 12 (fun _ => 0), wRow cI (a4 0) (a4 1) 12 (fun _ => 0), wRow cI (a6 0) (a6 1) 12 (fun _ => 0), wRow cI (a8 0) (a8 1) 12 (fun _ => 0), wRow cI (a10 0) (a10 1) 12 (fun _ => 0), wRow cI (a12 0) (a12 1) 12 (fun _ => 0), wStr cI a14 K0_X3, wBook cI a16 K0_X0] : List va_W).flatten := hDn
  clear hPn hDn
  refine va_putF (D := D) (ci := 1) (v := .ref (a16 0)) (ty := .object "StringVotes$Book") (C := RX1) (T := TX1) (N := 13) hx hb hts uw_X1 tyX1 tyX1_ok nmX1 hown hX.1 hP hD hS 0 rfl rfl 7 (by decide) (hts _ q_157) (fun _ h9 => h9) rfl hin rfl (by decide +kernel) rfl rfl (Nat.le_of_ble_eq_true rfl) dX1_init_101 (fun H locs hP hD hS => ?_)
  have hP : va_P D vwCl ([[(b, .inr (1, [.ref (a2 0), .ref (a4 0), .ref (a6 0), .ref (a8 0), .ref (a10 0), .ref (a12 0), .ref (a14 0), .ref (a16 0), .int 0, .int 0, .int 0, .int 0, .int 0]))], wRow cI (a2 0) (a2 1) 12 (fun _ => 0), wRow cI (a4 0) (a4 1) 12 (fun _ => 0), wRow cI (a6 0) (a6 1) 12 (fun _ => 0), wRow cI (a8 0) (a8 1) 12 (fun _ => 0), wRow cI (a10 0) (a10 1) 12 (fun _ => 0), wRow cI (a12 0) (a12 1) 12 (fun _ => 0), wStr cI a14 K0_X3, wBook cI a16 K0_X0] : List va_W).flatten H := hP
  have hD : va_D A ([[(b, .inr (1, [.ref (a2 0), .ref (a4 0), .ref (a6 0), .ref (a8 0), .ref (a10 0), .ref (a12 0), .ref (a14 0), .ref (a16 0), .int 0, .int 0, .int 0, .int 0, .int 0]))], wRow cI (a2 0) (a2 1) 12 (fun _ => 0), wRow cI (a4 0) (a4 1) 12 (fun _ => 0), wRow cI (a6 0) (a6 1) 12 (fun _ => 0), wRow cI (a8 0) (a8 1) 12 (fun _ => 0), wRow cI (a10 0) (a10 1) 12 (fun _ => 0), wRow cI (a12 0) (a12 1) 12 (fun _ => 0), wStr cI a14 K0_X3, wBook cI a16 K0_X0] : List va_W).flatten := hD
  refine lv_aload_n hx hb dX1_init_104 rfl (lv_at hl 0 rfl) ?_
  refine lv_iconst (v := 3) hx hb dX1_init_105 (by decide) ?_
  refine va_put (D := D) (ci := 1) (v := .int 3) (ty := .int) (C := RX1) (T := TX1) (N := 13) hx hb hts uw_X1 tyX1 tyX1_ok nmX1 hown hX.1 hP hD hS 0 rfl rfl 10 (by decide) (hts _ q_163) (fun _ h9 => h9) rfl (by decide +kernel) rfl rfl (Nat.le_of_ble_eq_true rfl) dX1_init_106 (fun H locs hP hD hS => ?_)
  have hP : va_P D vwCl ([[(b, .inr (1, [.ref (a2 0), .ref (a4 0), .ref (a6 0), .ref (a8 0), .ref (a10 0), .ref (a12 0), .ref (a14 0), .ref (a16 0), .int 0, .int 0, .int 3, .int 0, .int 0]))], wRow cI (a2 0) (a2 1) 12 (fun _ => 0), wRow cI (a4 0) (a4 1) 12 (fun _ => 0), wRow cI (a6 0) (a6 1) 12 (fun _ => 0), wRow cI (a8 0) (a8 1) 12 (fun _ => 0), wRow cI (a10 0) (a10 1) 12 (fun _ => 0), wRow cI (a12 0) (a12 1) 12 (fun _ => 0), wStr cI a14 K0_X3, wBook cI a16 K0_X0] : List va_W).flatten H := hP
  have hD : va_D A ([[(b, .inr (1, [.ref (a2 0), .ref (a4 0), .ref (a6 0), .ref (a8 0), .ref (a10 0), .ref (a12 0), .ref (a14 0), .ref (a16 0), .int 0, .int 0, .int 3, .int 0, .int 0]))], wRow cI (a2 0) (a2 1) 12 (fun _ => 0), wRow cI (a4 0) (a4 1) 12 (fun _ => 0), wRow cI (a6 0) (a6 1) 12 (fun _ => 0), wRow cI (a8 0) (a8 1) 12 (fun _ => 0), wRow cI (a10 0) (a10 1) 12 (fun _ => 0), wRow cI (a12 0) (a12 1) 12 (fun _ => 0), wStr cI a14 K0_X3, wBook cI a16 K0_X0] : List va_W).flatten := hD
  exact nw_v (B' := wPar cI (fun k => [b, a2 0, a2 1, a4 0, a4 1, a6 0, a6 1, a8 0, a8 1, a10 0, a10 1, a12 0, a12 1, a14 0, a14 1, a14 2, a14 3, a14 4, a14 5, a14 6, a14 7, a14 8, a16 0, a16 1, a16 2].getD k 0) K0_X1) F (Nat.le_of_ble_eq_true rfl) (Nat.le_of_ble_eq_true rfl) ⟨(fun k => [b, a2 0, a2 1, a4 0, a4 1, a6 0, a6 1, a8 0, a8 1, a10 0, a10 1, a12 0, a12 1, a14 0, a14 1, a14 2, a14 3, a14 4, a14 5, a14 6, a14 7, a14 8, a16 0, a16 1, a16 2].getD k 0), rfl, rfl⟩ hP hD hS dX1_init_109
abbrev rm_X5_init : Room := { frames := 2, cells := 2, slots := 13, locals := 36 }
set_option maxHeartbeats 4000000 in
set_option maxRecDepth 100000 in
theorem c_X5_init (l : Launch) (D : va_G) (cI cP : ClassId) (b : Nat) : MNew l yX5_init cX5_init 1 rm_X5_init D cI cP [] b 5 [.null, .int 0, .int 0] 2 13 (fun B' => ∃ a : Nat → Nat, a 0 = b ∧ B' = wTrn cI a K0_X5) := by
  refine MNew.of (by decide +kernel) rfl (Nat.le_of_ble_eq_true rfl) ?_
  intro p e s m args below meth c ls A F hX hO hP hD hA hS hin hl
  have F : Fx p s m args meth c RX5 cX5_init 1 none := F
  have hx := F.1
  have hb := F.2.1
  have hown := F.2.2.2.1
  have hts := F.2.2.2.2.1
  have hl : lv_has ls 1 [(0, .ref b)] := hl
  refine lv_aload_n hx hb dX5_init_0 rfl (lv_at hl 0 rfl) ?_
  refine W.objInit hx hb hown (hts _ q_202) (hts _ q_63) (hts _ q_64) rfl (hl.1.trans F.2.2.1.symm) rfl dX5_init_1 (Nat.le_of_ble_eq_true rfl) (Nat.le_of_ble_eq_true rfl) ?_
  refine W.eq (g2 := F0 m 4 ls []) rfl ?_
  refine lv_aload_n hx hb dX5_init_4 rfl (lv_at hl 0 rfl) ?_
  refine va_new (ci := 2) (fs := [.null]) (C := RX2) (T := TX2) (N := 1) hx hb hts uw_X2 tyX2 tyX2_ok hown (hts _ q_203) (hts _ q_72) (hts _ q_50) hX.1 hP hD hS hA rfl (fun j hj => by rcases (show j = 0 by omega) with rfl <;> rfl) (Nat.le_of_ble_eq_true rfl) (Nat.le_of_ble_eq_true rfl) dX5_init_5 (fun q1 H hP hD hS => ?_)
  rw [fl_push] at hP hD
  refine lv_dup hx hb dX5_init_8 rfl ?_
  refine lv_bipush (v := 12) hx hb dX5_init_9 (by decide) ?_
  refine k_newN (rm := (rm_X2_init 12)) (mc := 1) (ms := 12) (As := [.int (nI 12)]) (rest := [.ref q1, .ref b]) (X := [[(b, .inr (5, [.null, .int 0, .int 0]))]]) F hX hO q_204 q_74 q_50 q_75 rfl (by decide +kernel) ⟨rfl, rfl⟩ ⟨Nat.le_of_ble_eq_true rfl, Nat.le_of_ble_eq_true rfl⟩ hl.1 rfl rfl (Nat.le_of_ble_eq_true rfl) dX5_init_11 ⟨Nat.le_of_ble_eq_true rfl, Nat.le_of_ble_eq_true rfl⟩ (c_X2_init l D cI cP q1 12 (by decide)) hP hD hS hA (fun B' H locs hW2 hPn hDn hS => ?_)
  obtain ⟨a2, e_a2, rfl⟩ := hW2
  subst e_a2
  have hP : va_P D vwCl ([[(b, .inr (5, [.null, .int 0, .int 0]))], wRow cI (a2 0) (a2 1) 12 (fun _ => 0)] : List va_W).flatten H := hPn
  have hD : va_D A ([[(b, .inr (5, [.null, .int 0, .int 0]))], wRow cI (a2 0) (a2 1) 12 (fun _ => 0)] : List va_W).flatten := hDn
  clear hPn hDn
  refine va_putF (D := D) (ci := 5) (v := .ref (a2 0)) (ty := .object "StringVotes$Row") (C := RX5) (T := TX5) (N := 3) hx hb hts uw_X5 tyX5 tyX5_ok nmX5 hown hX.1 hP hD hS 0 rfl rfl 0 (by decide) (hts _ q_205) (fun _ h9 => h9) rfl hin rfl (by decide +kernel) rfl rfl (Nat.le_of_ble_eq_true rfl) dX5_init_14 (fun H locs hP hD hS => ?_)
  have hP : va_P D vwCl ([[(b, .inr (5, [.ref (a2 0), .int 0, .int 0]))], wRow cI (a2 0) (a2 1) 12 (fun _ => 0)] : List va_W).flatten H := hP
  have hD : va_D A ([[(b, .inr (5, [.ref (a2 0), .int 0, .int 0]))], wRow cI (a2 0) (a2 1) 12 (fun _ => 0)] : List va_W).flatten := hD
  exact nw_v (B' := wTrn cI (fun k => [b, a2 0, a2 1].getD k 0) K0_X5) F (Nat.le_of_ble_eq_true rfl) (Nat.le_of_ble_eq_true rfl) ⟨(fun k => [b, a2 0, a2 1].getD k 0), rfl, rfl⟩ hP hD hS dX5_init_17
abbrev rm_X4_init : Room := { frames := 2, cells := 4, slots := 65, locals := 36 }
set_option maxHeartbeats 4000000 in
set_option maxRecDepth 100000 in
theorem c_X4_init (l : Launch) (D : va_G) (cI cP : ClassId) (b : Nat) : MNew l yX4_init cX4_init 1 rm_X4_init D cI cP [] b 4 [.null, .int 0, .int 0, .null, .int 0] 4 65 (fun B' => ∃ a : Nat → Nat, a 0 = b ∧ B' = wTxt cI a K0_X4) := by
  refine MNew.of (by decide +kernel) rfl (Nat.le_of_ble_eq_true rfl) ?_
  intro p e s m args below meth c ls A F hX hO hP hD hA hS hin hl
  have F : Fx p s m args meth c RX4 cX4_init 1 none := F
  have hx := F.1
  have hb := F.2.1
  have hown := F.2.2.2.1
  have hts := F.2.2.2.2.1
  have hl : lv_has ls 1 [(0, .ref b)] := hl
  refine lv_aload_n hx hb dX4_init_0 rfl (lv_at hl 0 rfl) ?_
  refine W.objInit hx hb hown (hts _ q_218) (hts _ q_63) (hts _ q_64) rfl (hl.1.trans F.2.2.1.symm) rfl dX4_init_1 (Nat.le_of_ble_eq_true rfl) (Nat.le_of_ble_eq_true rfl) ?_
  refine W.eq (g2 := F0 m 4 ls []) rfl ?_
  refine lv_aload_n hx hb dX4_init_4 rfl (lv_at hl 0 rfl) ?_
  refine va_new (ci := 2) (fs := [.null]) (C := RX2) (T := TX2) (N := 1) hx hb hts uw_X2 tyX2 tyX2_ok hown (hts _ q_219) (hts _ q_72) (hts _ q_50) hX.1 hP hD hS hA rfl (fun j hj => by rcases (show j = 0 by omega) with rfl <;> rfl) (Nat.le_of_ble_eq_true rfl) (Nat.le_of_ble_eq_true rfl) dX4_init_5 (fun q1 H hP hD hS => ?_)
  rw [fl_push] at hP hD
  refine lv_dup hx hb dX4_init_8 rfl ?_
  refine lv_bipush (v := 60) hx hb dX4_init_9 (by decide) ?_
  refine k_newN (rm := (rm_X2_init 60)) (mc := 1) (ms := 60) (As := [.int (nI 60)]) (rest := [.ref q1, .ref b]) (X := [[(b, .inr (4, [.null, .int 0, .int 0, .null, .int 0]))]]) F hX hO q_220 q_74 q_50 q_75 rfl (by decide +kernel) ⟨rfl, rfl⟩ ⟨Nat.le_of_ble_eq_true rfl, Nat.le_of_ble_eq_true rfl⟩ hl.1 rfl rfl (Nat.le_of_ble_eq_true rfl) dX4_init_11 ⟨Nat.le_of_ble_eq_true rfl, Nat.le_of_ble_eq_true rfl⟩ (c_X2_init l D cI cP q1 60 (by decide)) hP hD hS hA (fun B' H locs hW2 hPn hDn hS => ?_)
  obtain ⟨a2, e_a2, rfl⟩ := hW2
  subst e_a2
  have hP : va_P D vwCl ([[(b, .inr (4, [.null, .int 0, .int 0, .null, .int 0]))], wRow cI (a2 0) (a2 1) 60 (fun _ => 0)] : List va_W).flatten H := hPn
  have hD : va_D A ([[(b, .inr (4, [.null, .int 0, .int 0, .null, .int 0]))], wRow cI (a2 0) (a2 1) 60 (fun _ => 0)] : List va_W).flatten := hDn
  clear hPn hDn
  refine va_putF (D := D) (ci := 4) (v := .ref (a2 0)) (ty := .object "StringVotes$Row") (C := RX4) (T := TX4) (N := 5) hx hb hts uw_X4 tyX4 tyX4_ok nmX4 hown hX.1 hP hD hS 0 rfl rfl 0 (by decide) (hts _ q_221) (fun _ h9 => h9) rfl hin rfl (by decide +kernel) rfl rfl (Nat.le_of_ble_eq_true rfl) dX4_init_14 (fun H locs hP hD hS => ?_)
  have hP : va_P D vwCl ([[(b, .inr (4, [.ref (a2 0), .int 0, .int 0, .null, .int 0]))], wRow cI (a2 0) (a2 1) 60 (fun _ => 0)] : List va_W).flatten H := hP
  have hD : va_D A ([[(b, .inr (4, [.ref (a2 0), .int 0, .int 0, .null, .int 0]))], wRow cI (a2 0) (a2 1) 60 (fun _ => 0)] : List va_W).flatten := hD
  refine lv_aload_n hx hb dX4_init_17 rfl (lv_at hl 0 rfl) ?_
  refine va_new (ci := 2) (fs := [.null]) (C := RX2) (T := TX2) (N := 1) hx hb hts uw_X2 tyX2 tyX2_ok hown (hts _ q_219) (hts _ q_72) (hts _ q_50) hX.1 hP hD hS hA rfl (fun j hj => by rcases (show j = 0 by omega) with rfl <;> rfl) (Nat.le_of_ble_eq_true rfl) (Nat.le_of_ble_eq_true rfl) dX4_init_18 (fun q3 H hP hD hS => ?_)
  rw [fl_push] at hP hD
  refine lv_dup hx hb dX4_init_21 rfl ?_
  refine lv_iconst (v := 3) hx hb dX4_init_22 (by decide) ?_
  refine k_newN (rm := (rm_X2_init 3)) (mc := 1) (ms := 3) (As := [.int (nI 3)]) (rest := [.ref q3, .ref b]) (X := [[(b, .inr (4, [.ref (a2 0), .int 0, .int 0, .null, .int 0]))], wRow cI (a2 0) (a2 1) 60 (fun _ => 0)]) F hX hO q_220 q_74 q_50 q_75 rfl (by decide +kernel) ⟨rfl, rfl⟩ ⟨Nat.le_of_ble_eq_true rfl, Nat.le_of_ble_eq_true rfl⟩ hl.1 rfl rfl (Nat.le_of_ble_eq_true rfl) dX4_init_23 ⟨Nat.le_of_ble_eq_true rfl, Nat.le_of_ble_eq_true rfl⟩ (c_X2_init l D cI cP q3 3 (by decide)) hP hD hS hA (fun B' H locs hW2 hPn hDn hS => ?_)
  obtain ⟨a4, e_a4, rfl⟩ := hW2
  subst e_a4
  have hP : va_P D vwCl ([[(b, .inr (4, [.ref (a2 0), .int 0, .int 0, .null, .int 0]))], wRow cI (a2 0) (a2 1) 60 (fun _ => 0), wRow cI (a4 0) (a4 1) 3 (fun _ => 0)] : List va_W).flatten H := hPn
  have hD : va_D A ([[(b, .inr (4, [.ref (a2 0), .int 0, .int 0, .null, .int 0]))], wRow cI (a2 0) (a2 1) 60 (fun _ => 0), wRow cI (a4 0) (a4 1) 3 (fun _ => 0)] : List va_W).flatten := hDn
  clear hPn hDn
  refine va_putF (D := D) (ci := 4) (v := .ref (a4 0)) (ty := .object "StringVotes$Row") (C := RX4) (T := TX4) (N := 5) hx hb hts uw_X4 tyX4 tyX4_ok nmX4 hown hX.1 hP hD hS 0 rfl rfl 3 (by decide) (hts _ q_223) (fun _ h9 => h9) rfl hin rfl (by decide +kernel) rfl rfl (Nat.le_of_ble_eq_true rfl) dX4_init_26 (fun H locs hP hD hS => ?_)
  have hP : va_P D vwCl ([[(b, .inr (4, [.ref (a2 0), .int 0, .int 0, .ref (a4 0), .int 0]))], wRow cI (a2 0) (a2 1) 60 (fun _ => 0), wRow cI (a4 0) (a4 1) 3 (fun _ => 0)] : List va_W).flatten H := hP
  have hD : va_D A ([[(b, .inr (4, [.ref (a2 0), .int 0, .int 0, .ref (a4 0), .int 0]))], wRow cI (a2 0) (a2 1) 60 (fun _ => 0), wRow cI (a4 0) (a4 1) 3 (fun _ => 0)] : List va_W).flatten := hD
  exact nw_v (B' := wTxt cI (fun k => [b, a2 0, a2 1, a4 0, a4 1].getD k 0) K0_X4) F (Nat.le_of_ble_eq_true rfl) (Nat.le_of_ble_eq_true rfl) ⟨(fun k => [b, a2 0, a2 1, a4 0, a4 1].getD k 0), rfl, rfl⟩ hP hD hS dX4_init_29
abbrev rm_X6_init : Room := { frames := 4, cells := 159, slots := 1392, locals := 76 }
set_option maxHeartbeats 4000000 in
set_option maxRecDepth 100000 in
theorem c_X6_init (l : Launch) (D : va_G) (cI cP : ClassId) (b : Nat) : MNew l yX6_init cX6_init 2 rm_X6_init D cI cP [] b 6 [.null, .null, .null, .int 0, .int 0, .null, .null, .int 0, .int 0, .int 0, .int 0] 159 1392 (fun B' => ∃ (h : Nat) (tx tn : Nat → Nat) (Ad : Nat → Nat → Nat), B' = wMain cI cP b h tx tn Ad K0_X6) := by
  refine MNew.of (by decide +kernel) rfl (Nat.le_of_ble_eq_true rfl) ?_
  intro p e s m args below meth c ls A F hX hO hP hD hA hS hin hl
  have F : Fx p s m args meth c RX6 cX6_init 2 none := F
  have hx := F.1
  have hb := F.2.1
  have hown := F.2.2.2.1
  have hts := F.2.2.2.2.1
  have hl : lv_has ls 2 [(0, .ref b)] := hl
  refine lv_aload_n hx hb dX6_init_0 rfl (lv_at hl 0 rfl) ?_
  refine W.objInit hx hb hown (hts _ q_62) (hts _ q_63) (hts _ q_64) rfl (hl.1.trans F.2.2.1.symm) rfl dX6_init_1 (Nat.le_of_ble_eq_true rfl) (Nat.le_of_ble_eq_true rfl) ?_
  refine W.eq (g2 := F0 m 4 ls []) rfl ?_
  refine lv_aload_n hx hb dX6_init_4 rfl (lv_at hl 0 rfl) ?_
  refine va_new (ci := 1) (fs := [.null, .null, .null, .null, .null, .null, .null, .null, .int 0, .int 0, .int 0, .int 0, .int 0]) (C := RX1) (T := TX1) (N := 13) hx hb hts uw_X1 tyX1 tyX1_ok hown (hts _ q_65) (hts _ q_66) (hts _ q_49) hX.1 hP hD hS hA rfl (fun j hj => by rcases (show j = 0 ∨ j = 1 ∨ j = 2 ∨ j = 3 ∨ j = 4 ∨ j = 5 ∨ j = 6 ∨ j = 7 ∨ j = 8 ∨ j = 9 ∨ j = 10 ∨ j = 11 ∨ j = 12 by omega) with rfl | rfl | rfl | rfl | rfl | rfl | rfl | rfl | rfl | rfl | rfl | rfl | rfl <;> rfl) (Nat.le_of_ble_eq_true rfl) (Nat.le_of_ble_eq_true rfl) dX6_init_5 (fun q1 H hP hD hS => ?_)
  rw [fl_push] at hP hD
  refine lv_dup hx hb dX6_init_8 rfl ?_
  refine k_newN (rm := rm_X1_init) (mc := 24) (ms := 204) (As := []) (rest := [.ref q1, .ref b]) (X := [[(b, .inr (6, [.null, .null, .null, .int 0, .int 0, .null, .null, .int 0, .int 0, .int 0, .int 0]))]]) F hX hO q_67 q_68 q_49 q_69 rfl (by decide +kernel) ⟨rfl, rfl⟩ ⟨Nat.le_of_ble_eq_true rfl, Nat.le_of_ble_eq_true rfl⟩ hl.1 rfl rfl (Nat.le_of_ble_eq_true rfl) dX6_init_9 ⟨Nat.le_of_ble_eq_true rfl, Nat.le_of_ble_eq_true rfl⟩ (c_X1_init l D cI cP q1) hP hD hS hA (fun B' H locs hW2 hPn hDn hS => ?_)
  obtain ⟨a2, e_a2, rfl⟩ := hW2
  subst e_a2
  have hP : va_P D vwCl ([[(b, .inr (6, [.null, .null, .null, .int 0, .int 0, .null, .null, .int 0, .int 0, .int 0, .int 0]))], wPar cI a2 K0_X1] : List va_W).flatten H := hPn
  have hD : va_D A ([[(b, .inr (6, [.null, .null, .null, .int 0, .int 0, .null, .null, .int 0, .int 0, .int 0, .int 0]))], wPar cI a2 K0_X1] : List va_W).flatten := hDn
  clear hPn hDn
  refine va_putF (D := D) (ci := 6) (v := .ref (a2 0)) (ty := .object "StringVotes$Parliament") (C := RX6) (T := TX6) (N := 11) hx hb hts uw_X6 tyX6 tyX6_ok nmX6 hown hX.1 hP hD hS 0 rfl rfl 0 (by decide) (hts _ q_235) (fun _ h9 => h9) rfl hin rfl (by decide +kernel) rfl rfl (Nat.le_of_ble_eq_true rfl) dX6_init_12 (fun H locs hP hD hS => ?_)
  have hP : va_P D vwCl ([[(b, .inr (6, [.ref (a2 0), .null, .null, .int 0, .int 0, .null, .null, .int 0, .int 0, .int 0, .int 0]))], wPar cI a2 K0_X1] : List va_W).flatten H := hP
  have hD : va_D A ([[(b, .inr (6, [.ref (a2 0), .null, .null, .int 0, .int 0, .null, .null, .int 0, .int 0, .int 0, .int 0]))], wPar cI a2 K0_X1] : List va_W).flatten := hD
  refine lv_aload_n hx hb dX6_init_15 rfl (lv_at hl 0 rfl) ?_
  refine va_new (ci := 1) (fs := [.null, .null, .null, .null, .null, .null, .null, .null, .int 0, .int 0, .int 0, .int 0, .int 0]) (C := RX1) (T := TX1) (N := 13) hx hb hts uw_X1 tyX1 tyX1_ok hown (hts _ q_65) (hts _ q_66) (hts _ q_49) hX.1 hP hD hS hA rfl (fun j hj => by rcases (show j = 0 ∨ j = 1 ∨ j = 2 ∨ j = 3 ∨ j = 4 ∨ j = 5 ∨ j = 6 ∨ j = 7 ∨ j = 8 ∨ j = 9 ∨ j = 10 ∨ j = 11 ∨ j = 12 by omega) with rfl | rfl | rfl | rfl | rfl | rfl | rfl | rfl | rfl | rfl | rfl | rfl | rfl <;> rfl) (Nat.le_of_ble_eq_true rfl) (Nat.le_of_ble_eq_true rfl) dX6_init_16 (fun q3 H hP hD hS => ?_)
  rw [fl_push] at hP hD
  refine lv_dup hx hb dX6_init_19 rfl ?_
  refine k_newN (rm := rm_X1_init) (mc := 24) (ms := 204) (As := []) (rest := [.ref q3, .ref b]) (X := [[(b, .inr (6, [.ref (a2 0), .null, .null, .int 0, .int 0, .null, .null, .int 0, .int 0, .int 0, .int 0]))], wPar cI a2 K0_X1]) F hX hO q_67 q_68 q_49 q_69 rfl (by decide +kernel) ⟨rfl, rfl⟩ ⟨Nat.le_of_ble_eq_true rfl, Nat.le_of_ble_eq_true rfl⟩ hl.1 rfl rfl (Nat.le_of_ble_eq_true rfl) dX6_init_20 ⟨Nat.le_of_ble_eq_true rfl, Nat.le_of_ble_eq_true rfl⟩ (c_X1_init l D cI cP q3) hP hD hS hA (fun B' H locs hW2 hPn hDn hS => ?_)
  obtain ⟨a4, e_a4, rfl⟩ := hW2
  subst e_a4
  have hP : va_P D vwCl ([[(b, .inr (6, [.ref (a2 0), .null, .null, .int 0, .int 0, .null, .null, .int 0, .int 0, .int 0, .int 0]))], wPar cI a2 K0_X1, wPar cI a4 K0_X1] : List va_W).flatten H := hPn
  have hD : va_D A ([[(b, .inr (6, [.ref (a2 0), .null, .null, .int 0, .int 0, .null, .null, .int 0, .int 0, .int 0, .int 0]))], wPar cI a2 K0_X1, wPar cI a4 K0_X1] : List va_W).flatten := hDn
  clear hPn hDn
  refine va_putF (D := D) (ci := 6) (v := .ref (a4 0)) (ty := .object "StringVotes$Parliament") (C := RX6) (T := TX6) (N := 11) hx hb hts uw_X6 tyX6 tyX6_ok nmX6 hown hX.1 hP hD hS 0 rfl rfl 1 (by decide) (hts _ q_236) (fun _ h9 => h9) rfl hin rfl (by decide +kernel) rfl rfl (Nat.le_of_ble_eq_true rfl) dX6_init_23 (fun H locs hP hD hS => ?_)
  have hP : va_P D vwCl ([[(b, .inr (6, [.ref (a2 0), .ref (a4 0), .null, .int 0, .int 0, .null, .null, .int 0, .int 0, .int 0, .int 0]))], wPar cI a2 K0_X1, wPar cI a4 K0_X1] : List va_W).flatten H := hP
  have hD : va_D A ([[(b, .inr (6, [.ref (a2 0), .ref (a4 0), .null, .int 0, .int 0, .null, .null, .int 0, .int 0, .int 0, .int 0]))], wPar cI a2 K0_X1, wPar cI a4 K0_X1] : List va_W).flatten := hD
  refine lv_aload_n hx hb dX6_init_26 rfl (lv_at hl 0 rfl) ?_
  refine lv_iconst (v := 4) hx hb dX6_init_27 (by decide) ?_
  refine va_newq (C := RX1) hx hb hown (hts _ q_65) hO hX.1 hP hD hS hA (N' := 4) (by decide) (by decide) (by decide) (Nat.le_of_ble_eq_true rfl) (Nat.le_of_ble_eq_true rfl) dX6_init_28 (fun q5 cA H hK2 hP hD hS => ?_)
  rw [arr_two hK2] at hP hD
  clear hK2
  rw [fl_push] at hP hD
  have hP : va_P D vwCl ([[(b, .inr (6, [.ref (a2 0), .ref (a4 0), .null, .int 0, .int 0, .null, .null, .int 0, .int 0, .int 0, .int 0]))], wPar cI a2 K0_X1, wPar cI a4 K0_X1, [(q5, .inl (cP, 4, .inr (.inr (.inr (.inr (fun _ => none))))))]] : List va_W).flatten H := hP
  have hD : va_D A ([[(b, .inr (6, [.ref (a2 0), .ref (a4 0), .null, .int 0, .int 0, .null, .null, .int 0, .int 0, .int 0, .int 0]))], wPar cI a2 K0_X1, wPar cI a4 K0_X1, [(q5, .inl (cP, 4, .inr (.inr (.inr (.inr (fun _ => none))))))]] : List va_W).flatten := hD
  refine va_putF (D := D) (ci := 6) (v := .ref q5) (ty := .array (.object "StringVotes$Parliament")) (C := RX6) (T := TX6) (N := 11) hx hb hts uw_X6 tyX6 tyX6_ok nmX6 hown hX.1 hP hD hS 0 rfl rfl 2 (by decide) (hts _ q_237) (fun _ h9 => h9) rfl hin rfl (by decide +kernel) rfl rfl (Nat.le_of_ble_eq_true rfl) dX6_init_31 (fun H locs hP hD hS => ?_)
  have hP : va_P D vwCl ([[(b, .inr (6, [.ref (a2 0), .ref (a4 0), .ref q5, .int 0, .int 0, .null, .null, .int 0, .int 0, .int 0, .int 0]))], wPar cI a2 K0_X1, wPar cI a4 K0_X1, [(q5, .inl (cP, 4, .inr (.inr (.inr (.inr (fun _ => none))))))]] : List va_W).flatten H := hP
  have hD : va_D A ([[(b, .inr (6, [.ref (a2 0), .ref (a4 0), .ref q5, .int 0, .int 0, .null, .null, .int 0, .int 0, .int 0, .int 0]))], wPar cI a2 K0_X1, wPar cI a4 K0_X1, [(q5, .inl (cP, 4, .inr (.inr (.inr (.inr (fun _ => none))))))]] : List va_W).flatten := hD
  refine lv_iconst (v := 0) hx hb dX6_init_34 (by decide) ?_
  refine lv_istore_n (lv' := [(1, .int 0), (0, .ref b)]) hx hb dX6_init_35 rfl hl (by decide) rfl (fun ls hl => ?_)
  refine lv_iload_n hx hb dX6_init_36 rfl (lv_at hl 0 rfl) ?_
  refine lv_aload_n hx hb dX6_init_37 rfl (lv_at hl 1 rfl) ?_
  refine gX6_19 F hX hP 0 rfl (v := .ref q5) rfl dX6_init_38 ?_
  refine va_alen hx hb hX.1 hP 51 1 rfl rfl (v := nI 4) rfl dX6_init_41 ?_
  refine lv_icmp_ge (tgt := 64) hx hb dX6_init_42 (by decide) (fun c0 => absurd c0 (by decide)) (fun _ => ?_)
  refine lv_aload_n hx hb dX6_init_45 rfl (lv_at hl 1 rfl) ?_
  refine gX6_19 F hX hP 0 rfl (v := .ref q5) rfl dX6_init_46 ?_
  refine lv_iload_n hx hb dX6_init_49 rfl (lv_at hl 0 rfl) ?_
  refine va_new (ci := 1) (fs := [.null, .null, .null, .null, .null, .null, .null, .null, .int 0, .int 0, .int 0, .int 0, .int 0]) (C := RX1) (T := TX1) (N := 13) hx hb hts uw_X1 tyX1 tyX1_ok hown (hts _ q_65) (hts _ q_66) (hts _ q_49) hX.1 hP hD hS hA rfl (fun j hj => by rcases (show j = 0 ∨ j = 1 ∨ j = 2 ∨ j = 3 ∨ j = 4 ∨ j = 5 ∨ j = 6 ∨ j = 7 ∨ j = 8 ∨ j = 9 ∨ j = 10 ∨ j = 11 ∨ j = 12 by omega) with rfl | rfl | rfl | rfl | rfl | rfl | rfl | rfl | rfl | rfl | rfl | rfl | rfl <;> rfl) (Nat.le_of_ble_eq_true rfl) (Nat.le_of_ble_eq_true rfl) dX6_init_50 (fun q6 H hP hD hS => ?_)
  rw [fl_push] at hP hD
  refine lv_dup hx hb dX6_init_53 rfl ?_
  refine k_newN (rm := rm_X1_init) (mc := 24) (ms := 204) (As := []) (rest := [.ref q6, .int 0, .ref q5]) (X := [[(b, .inr (6, [.ref (a2 0), .ref (a4 0), .ref q5, .int 0, .int 0, .null, .null, .int 0, .int 0, .int 0, .int 0]))], wPar cI a2 K0_X1, wPar cI a4 K0_X1, [(q5, .inl (cP, 4, .inr (.inr (.inr (.inr (fun _ => none))))))]]) F hX hO q_67 q_68 q_49 q_69 rfl (by decide +kernel) ⟨rfl, rfl⟩ ⟨Nat.le_of_ble_eq_true rfl, Nat.le_of_ble_eq_true rfl⟩ hl.1 rfl rfl (Nat.le_of_ble_eq_true rfl) dX6_init_54 ⟨Nat.le_of_ble_eq_true rfl, Nat.le_of_ble_eq_true rfl⟩ (c_X1_init l D cI cP q6) hP hD hS hA (fun B' H locs hW2 hPn hDn hS => ?_)
  obtain ⟨a7, e_a7, rfl⟩ := hW2
  subst e_a7
  have hP : va_P D vwCl ([[(b, .inr (6, [.ref (a2 0), .ref (a4 0), .ref q5, .int 0, .int 0, .null, .null, .int 0, .int 0, .int 0, .int 0]))], wPar cI a2 K0_X1, wPar cI a4 K0_X1, [(q5, .inl (cP, 4, .inr (.inr (.inr (.inr (fun _ => none))))))], wPar cI a7 K0_X1] : List va_W).flatten H := hPn
  have hD : va_D A ([[(b, .inr (6, [.ref (a2 0), .ref (a4 0), .ref q5, .int 0, .int 0, .null, .null, .int 0, .int 0, .int 0, .int 0]))], wPar cI a2 K0_X1, wPar cI a4 K0_X1, [(q5, .inl (cP, 4, .inr (.inr (.inr (.inr (fun _ => none))))))], wPar cI a7 K0_X1] : List va_W).flatten := hDn
  clear hPn hDn
  refine va_astq (r := (RX1, TX1, 13)) (n := 4) (f := (fun _ => none)) hx hb hX.1 hP hD hS 51 1 52 1 rfl rfl rfl rfl (by show ¬ ((0 : Int32) < 0 ∨ 4 ≤ Int32.toNatClampNeg 0); decide) dX6_init_57 (fun H locs hP hD hS => ?_)
  have hP : va_P D vwCl ([[(b, .inr (6, [.ref (a2 0), .ref (a4 0), .ref q5, .int 0, .int 0, .null, .null, .int 0, .int 0, .int 0, .int 0]))], wPar cI a2 K0_X1, wPar cI a4 K0_X1, [(q5, .inl (cP, 4, .inr (.inr (.inr (.inr (va_up (fun _ => none) (Int32.toNatClampNeg 0) (some (a7 0))))))))], wPar cI a7 K0_X1] : List va_W).flatten H := hP
  have hD : va_D A ([[(b, .inr (6, [.ref (a2 0), .ref (a4 0), .ref q5, .int 0, .int 0, .null, .null, .int 0, .int 0, .int 0, .int 0]))], wPar cI a2 K0_X1, wPar cI a4 K0_X1, [(q5, .inl (cP, 4, .inr (.inr (.inr (.inr (va_up (fun _ => none) (Int32.toNatClampNeg 0) (some (a7 0))))))))], wPar cI a7 K0_X1] : List va_W).flatten := hD
  refine lv_iinc (v := 1) (lv' := [(1, .int 1), (0, .ref b)]) hx hb dX6_init_58 hl (k := 0) rfl (by rfl) (by decide) rfl (fun ls hl => ?_)
  refine lv_goto (tgt := 36) hx hb dX6_init_61 (by decide) ?_
  refine lv_iload_n hx hb dX6_init_36 rfl (lv_at hl 0 rfl) ?_
  refine lv_aload_n hx hb dX6_init_37 rfl (lv_at hl 1 rfl) ?_
  refine gX6_19 F hX hP 0 rfl (v := .ref q5) rfl dX6_init_38 ?_
  refine va_alen hx hb hX.1 hP 51 1 rfl rfl (v := nI 4) rfl dX6_init_41 ?_
  refine lv_icmp_ge (tgt := 64) hx hb dX6_init_42 (by decide) (fun c0 => absurd c0 (by decide)) (fun _ => ?_)
  refine lv_aload_n hx hb dX6_init_45 rfl (lv_at hl 1 rfl) ?_
  refine gX6_19 F hX hP 0 rfl (v := .ref q5) rfl dX6_init_46 ?_
  refine lv_iload_n hx hb dX6_init_49 rfl (lv_at hl 0 rfl) ?_
  refine va_new (ci := 1) (fs := [.null, .null, .null, .null, .null, .null, .null, .null, .int 0, .int 0, .int 0, .int 0, .int 0]) (C := RX1) (T := TX1) (N := 13) hx hb hts uw_X1 tyX1 tyX1_ok hown (hts _ q_65) (hts _ q_66) (hts _ q_49) hX.1 hP hD hS hA rfl (fun j hj => by rcases (show j = 0 ∨ j = 1 ∨ j = 2 ∨ j = 3 ∨ j = 4 ∨ j = 5 ∨ j = 6 ∨ j = 7 ∨ j = 8 ∨ j = 9 ∨ j = 10 ∨ j = 11 ∨ j = 12 by omega) with rfl | rfl | rfl | rfl | rfl | rfl | rfl | rfl | rfl | rfl | rfl | rfl | rfl <;> rfl) (Nat.le_of_ble_eq_true rfl) (Nat.le_of_ble_eq_true rfl) dX6_init_50 (fun q8 H hP hD hS => ?_)
  rw [fl_push] at hP hD
  refine lv_dup hx hb dX6_init_53 rfl ?_
  refine k_newN (rm := rm_X1_init) (mc := 24) (ms := 204) (As := []) (rest := [.ref q8, .int 1, .ref q5]) (X := [[(b, .inr (6, [.ref (a2 0), .ref (a4 0), .ref q5, .int 0, .int 0, .null, .null, .int 0, .int 0, .int 0, .int 0]))], wPar cI a2 K0_X1, wPar cI a4 K0_X1, [(q5, .inl (cP, 4, .inr (.inr (.inr (.inr (va_up (fun _ => none) (Int32.toNatClampNeg 0) (some (a7 0))))))))], wPar cI a7 K0_X1]) F hX hO q_67 q_68 q_49 q_69 rfl (by decide +kernel) ⟨rfl, rfl⟩ ⟨Nat.le_of_ble_eq_true rfl, Nat.le_of_ble_eq_true rfl⟩ hl.1 rfl rfl (Nat.le_of_ble_eq_true rfl) dX6_init_54 ⟨Nat.le_of_ble_eq_true rfl, Nat.le_of_ble_eq_true rfl⟩ (c_X1_init l D cI cP q8) hP hD hS hA (fun B' H locs hW2 hPn hDn hS => ?_)
  obtain ⟨a9, e_a9, rfl⟩ := hW2
  subst e_a9
  have hP : va_P D vwCl ([[(b, .inr (6, [.ref (a2 0), .ref (a4 0), .ref q5, .int 0, .int 0, .null, .null, .int 0, .int 0, .int 0, .int 0]))], wPar cI a2 K0_X1, wPar cI a4 K0_X1, [(q5, .inl (cP, 4, .inr (.inr (.inr (.inr (va_up (fun _ => none) (Int32.toNatClampNeg 0) (some (a7 0))))))))], wPar cI a7 K0_X1, wPar cI a9 K0_X1] : List va_W).flatten H := hPn
  have hD : va_D A ([[(b, .inr (6, [.ref (a2 0), .ref (a4 0), .ref q5, .int 0, .int 0, .null, .null, .int 0, .int 0, .int 0, .int 0]))], wPar cI a2 K0_X1, wPar cI a4 K0_X1, [(q5, .inl (cP, 4, .inr (.inr (.inr (.inr (va_up (fun _ => none) (Int32.toNatClampNeg 0) (some (a7 0))))))))], wPar cI a7 K0_X1, wPar cI a9 K0_X1] : List va_W).flatten := hDn
  clear hPn hDn
  refine va_astq (r := (RX1, TX1, 13)) (n := 4) (f := (va_up (fun _ => none) (Int32.toNatClampNeg 0) (some (a7 0)))) hx hb hX.1 hP hD hS 51 1 77 1 rfl rfl rfl rfl (by show ¬ ((1 : Int32) < 0 ∨ 4 ≤ Int32.toNatClampNeg 1); decide) dX6_init_57 (fun H locs hP hD hS => ?_)
  have hP : va_P D vwCl ([[(b, .inr (6, [.ref (a2 0), .ref (a4 0), .ref q5, .int 0, .int 0, .null, .null, .int 0, .int 0, .int 0, .int 0]))], wPar cI a2 K0_X1, wPar cI a4 K0_X1, [(q5, .inl (cP, 4, .inr (.inr (.inr (.inr (va_up (va_up (fun _ => none) (Int32.toNatClampNeg 0) (some (a7 0))) (Int32.toNatClampNeg 1) (some (a9 0))))))))], wPar cI a7 K0_X1, wPar cI a9 K0_X1] : List va_W).flatten H := hP
  have hD : va_D A ([[(b, .inr (6, [.ref (a2 0), .ref (a4 0), .ref q5, .int 0, .int 0, .null, .null, .int 0, .int 0, .int 0, .int 0]))], wPar cI a2 K0_X1, wPar cI a4 K0_X1, [(q5, .inl (cP, 4, .inr (.inr (.inr (.inr (va_up (va_up (fun _ => none) (Int32.toNatClampNeg 0) (some (a7 0))) (Int32.toNatClampNeg 1) (some (a9 0))))))))], wPar cI a7 K0_X1, wPar cI a9 K0_X1] : List va_W).flatten := hD
  refine lv_iinc (v := 2) (lv' := [(1, .int 2), (0, .ref b)]) hx hb dX6_init_58 hl (k := 0) rfl (by rfl) (by decide) rfl (fun ls hl => ?_)
  refine lv_goto (tgt := 36) hx hb dX6_init_61 (by decide) ?_
  refine lv_iload_n hx hb dX6_init_36 rfl (lv_at hl 0 rfl) ?_
  refine lv_aload_n hx hb dX6_init_37 rfl (lv_at hl 1 rfl) ?_
  refine gX6_19 F hX hP 0 rfl (v := .ref q5) rfl dX6_init_38 ?_
  refine va_alen hx hb hX.1 hP 51 1 rfl rfl (v := nI 4) rfl dX6_init_41 ?_
  refine lv_icmp_ge (tgt := 64) hx hb dX6_init_42 (by decide) (fun c0 => absurd c0 (by decide)) (fun _ => ?_)
  refine lv_aload_n hx hb dX6_init_45 rfl (lv_at hl 1 rfl) ?_
  refine gX6_19 F hX hP 0 rfl (v := .ref q5) rfl dX6_init_46 ?_
  refine lv_iload_n hx hb dX6_init_49 rfl (lv_at hl 0 rfl) ?_
  refine va_new (ci := 1) (fs := [.null, .null, .null, .null, .null, .null, .null, .null, .int 0, .int 0, .int 0, .int 0, .int 0]) (C := RX1) (T := TX1) (N := 13) hx hb hts uw_X1 tyX1 tyX1_ok hown (hts _ q_65) (hts _ q_66) (hts _ q_49) hX.1 hP hD hS hA rfl (fun j hj => by rcases (show j = 0 ∨ j = 1 ∨ j = 2 ∨ j = 3 ∨ j = 4 ∨ j = 5 ∨ j = 6 ∨ j = 7 ∨ j = 8 ∨ j = 9 ∨ j = 10 ∨ j = 11 ∨ j = 12 by omega) with rfl | rfl | rfl | rfl | rfl | rfl | rfl | rfl | rfl | rfl | rfl | rfl | rfl <;> rfl) (Nat.le_of_ble_eq_true rfl) (Nat.le_of_ble_eq_true rfl) dX6_init_50 (fun q10 H hP hD hS => ?_)
  rw [fl_push] at hP hD
  refine lv_dup hx hb dX6_init_53 rfl ?_
  refine k_newN (rm := rm_X1_init) (mc := 24) (ms := 204) (As := []) (rest := [.ref q10, .int 2, .ref q5]) (X := [[(b, .inr (6, [.ref (a2 0), .ref (a4 0), .ref q5, .int 0, .int 0, .null, .null, .int 0, .int 0, .int 0, .int 0]))], wPar cI a2 K0_X1, wPar cI a4 K0_X1, [(q5, .inl (cP, 4, .inr (.inr (.inr (.inr (va_up (va_up (fun _ => none) (Int32.toNatClampNeg 0) (some (a7 0))) (Int32.toNatClampNeg 1) (some (a9 0))))))))], wPar cI a7 K0_X1, wPar cI a9 K0_X1]) F hX hO q_67 q_68 q_49 q_69 rfl (by decide +kernel) ⟨rfl, rfl⟩ ⟨Nat.le_of_ble_eq_true rfl, Nat.le_of_ble_eq_true rfl⟩ hl.1 rfl rfl (Nat.le_of_ble_eq_true rfl) dX6_init_54 ⟨Nat.le_of_ble_eq_true rfl, Nat.le_of_ble_eq_true rfl⟩ (c_X1_init l D cI cP q10) hP hD hS hA (fun B' H locs hW2 hPn hDn hS => ?_)
  obtain ⟨a11, e_a11, rfl⟩ := hW2
  subst e_a11
  have hP : va_P D vwCl ([[(b, .inr (6, [.ref (a2 0), .ref (a4 0), .ref q5, .int 0, .int 0, .null, .null, .int 0, .int 0, .int 0, .int 0]))], wPar cI a2 K0_X1, wPar cI a4 K0_X1, [(q5, .inl (cP, 4, .inr (.inr (.inr (.inr (va_up (va_up (fun _ => none) (Int32.toNatClampNeg 0) (some (a7 0))) (Int32.toNatClampNeg 1) (some (a9 0))))))))], wPar cI a7 K0_X1, wPar cI a9 K0_X1, wPar cI a11 K0_X1] : List va_W).flatten H := hPn
  have hD : va_D A ([[(b, .inr (6, [.ref (a2 0), .ref (a4 0), .ref q5, .int 0, .int 0, .null, .null, .int 0, .int 0, .int 0, .int 0]))], wPar cI a2 K0_X1, wPar cI a4 K0_X1, [(q5, .inl (cP, 4, .inr (.inr (.inr (.inr (va_up (va_up (fun _ => none) (Int32.toNatClampNeg 0) (some (a7 0))) (Int32.toNatClampNeg 1) (some (a9 0))))))))], wPar cI a7 K0_X1, wPar cI a9 K0_X1, wPar cI a11 K0_X1] : List va_W).flatten := hDn
  clear hPn hDn
  refine va_astq (r := (RX1, TX1, 13)) (n := 4) (f := (va_up (va_up (fun _ => none) (Int32.toNatClampNeg 0) (some (a7 0))) (Int32.toNatClampNeg 1) (some (a9 0)))) hx hb hX.1 hP hD hS 51 1 102 1 rfl rfl rfl rfl (by show ¬ ((2 : Int32) < 0 ∨ 4 ≤ Int32.toNatClampNeg 2); decide) dX6_init_57 (fun H locs hP hD hS => ?_)
  have hP : va_P D vwCl ([[(b, .inr (6, [.ref (a2 0), .ref (a4 0), .ref q5, .int 0, .int 0, .null, .null, .int 0, .int 0, .int 0, .int 0]))], wPar cI a2 K0_X1, wPar cI a4 K0_X1, [(q5, .inl (cP, 4, .inr (.inr (.inr (.inr (va_up (va_up (va_up (fun _ => none) (Int32.toNatClampNeg 0) (some (a7 0))) (Int32.toNatClampNeg 1) (some (a9 0))) (Int32.toNatClampNeg 2) (some (a11 0))))))))], wPar cI a7 K0_X1, wPar cI a9 K0_X1, wPar cI a11 K0_X1] : List va_W).flatten H := hP
  have hD : va_D A ([[(b, .inr (6, [.ref (a2 0), .ref (a4 0), .ref q5, .int 0, .int 0, .null, .null, .int 0, .int 0, .int 0, .int 0]))], wPar cI a2 K0_X1, wPar cI a4 K0_X1, [(q5, .inl (cP, 4, .inr (.inr (.inr (.inr (va_up (va_up (va_up (fun _ => none) (Int32.toNatClampNeg 0) (some (a7 0))) (Int32.toNatClampNeg 1) (some (a9 0))) (Int32.toNatClampNeg 2) (some (a11 0))))))))], wPar cI a7 K0_X1, wPar cI a9 K0_X1, wPar cI a11 K0_X1] : List va_W).flatten := hD
  refine lv_iinc (v := 3) (lv' := [(1, .int 3), (0, .ref b)]) hx hb dX6_init_58 hl (k := 0) rfl (by rfl) (by decide) rfl (fun ls hl => ?_)
  refine lv_goto (tgt := 36) hx hb dX6_init_61 (by decide) ?_
  refine lv_iload_n hx hb dX6_init_36 rfl (lv_at hl 0 rfl) ?_
  refine lv_aload_n hx hb dX6_init_37 rfl (lv_at hl 1 rfl) ?_
  refine gX6_19 F hX hP 0 rfl (v := .ref q5) rfl dX6_init_38 ?_
  refine va_alen hx hb hX.1 hP 51 1 rfl rfl (v := nI 4) rfl dX6_init_41 ?_
  refine lv_icmp_ge (tgt := 64) hx hb dX6_init_42 (by decide) (fun c0 => absurd c0 (by decide)) (fun _ => ?_)
  refine lv_aload_n hx hb dX6_init_45 rfl (lv_at hl 1 rfl) ?_
  refine gX6_19 F hX hP 0 rfl (v := .ref q5) rfl dX6_init_46 ?_
  refine lv_iload_n hx hb dX6_init_49 rfl (lv_at hl 0 rfl) ?_
  refine va_new (ci := 1) (fs := [.null, .null, .null, .null, .null, .null, .null, .null, .int 0, .int 0, .int 0, .int 0, .int 0]) (C := RX1) (T := TX1) (N := 13) hx hb hts uw_X1 tyX1 tyX1_ok hown (hts _ q_65) (hts _ q_66) (hts _ q_49) hX.1 hP hD hS hA rfl (fun j hj => by rcases (show j = 0 ∨ j = 1 ∨ j = 2 ∨ j = 3 ∨ j = 4 ∨ j = 5 ∨ j = 6 ∨ j = 7 ∨ j = 8 ∨ j = 9 ∨ j = 10 ∨ j = 11 ∨ j = 12 by omega) with rfl | rfl | rfl | rfl | rfl | rfl | rfl | rfl | rfl | rfl | rfl | rfl | rfl <;> rfl) (Nat.le_of_ble_eq_true rfl) (Nat.le_of_ble_eq_true rfl) dX6_init_50 (fun q12 H hP hD hS => ?_)
  rw [fl_push] at hP hD
  refine lv_dup hx hb dX6_init_53 rfl ?_
  refine k_newN (rm := rm_X1_init) (mc := 24) (ms := 204) (As := []) (rest := [.ref q12, .int 3, .ref q5]) (X := [[(b, .inr (6, [.ref (a2 0), .ref (a4 0), .ref q5, .int 0, .int 0, .null, .null, .int 0, .int 0, .int 0, .int 0]))], wPar cI a2 K0_X1, wPar cI a4 K0_X1, [(q5, .inl (cP, 4, .inr (.inr (.inr (.inr (va_up (va_up (va_up (fun _ => none) (Int32.toNatClampNeg 0) (some (a7 0))) (Int32.toNatClampNeg 1) (some (a9 0))) (Int32.toNatClampNeg 2) (some (a11 0))))))))], wPar cI a7 K0_X1, wPar cI a9 K0_X1, wPar cI a11 K0_X1]) F hX hO q_67 q_68 q_49 q_69 rfl (by decide +kernel) ⟨rfl, rfl⟩ ⟨Nat.le_of_ble_eq_true rfl, Nat.le_of_ble_eq_true rfl⟩ hl.1 rfl rfl (Nat.le_of_ble_eq_true rfl) dX6_init_54 ⟨Nat.le_of_ble_eq_true rfl, Nat.le_of_ble_eq_true rfl⟩ (c_X1_init l D cI cP q12) hP hD hS hA (fun B' H locs hW2 hPn hDn hS => ?_)
  obtain ⟨a13, e_a13, rfl⟩ := hW2
  subst e_a13
  have hP : va_P D vwCl ([[(b, .inr (6, [.ref (a2 0), .ref (a4 0), .ref q5, .int 0, .int 0, .null, .null, .int 0, .int 0, .int 0, .int 0]))], wPar cI a2 K0_X1, wPar cI a4 K0_X1, [(q5, .inl (cP, 4, .inr (.inr (.inr (.inr (va_up (va_up (va_up (fun _ => none) (Int32.toNatClampNeg 0) (some (a7 0))) (Int32.toNatClampNeg 1) (some (a9 0))) (Int32.toNatClampNeg 2) (some (a11 0))))))))], wPar cI a7 K0_X1, wPar cI a9 K0_X1, wPar cI a11 K0_X1, wPar cI a13 K0_X1] : List va_W).flatten H := hPn
  have hD : va_D A ([[(b, .inr (6, [.ref (a2 0), .ref (a4 0), .ref q5, .int 0, .int 0, .null, .null, .int 0, .int 0, .int 0, .int 0]))], wPar cI a2 K0_X1, wPar cI a4 K0_X1, [(q5, .inl (cP, 4, .inr (.inr (.inr (.inr (va_up (va_up (va_up (fun _ => none) (Int32.toNatClampNeg 0) (some (a7 0))) (Int32.toNatClampNeg 1) (some (a9 0))) (Int32.toNatClampNeg 2) (some (a11 0))))))))], wPar cI a7 K0_X1, wPar cI a9 K0_X1, wPar cI a11 K0_X1, wPar cI a13 K0_X1] : List va_W).flatten := hDn
  clear hPn hDn
  refine va_astq (r := (RX1, TX1, 13)) (n := 4) (f := (va_up (va_up (va_up (fun _ => none) (Int32.toNatClampNeg 0) (some (a7 0))) (Int32.toNatClampNeg 1) (some (a9 0))) (Int32.toNatClampNeg 2) (some (a11 0)))) hx hb hX.1 hP hD hS 51 1 127 1 rfl rfl rfl rfl (by show ¬ ((3 : Int32) < 0 ∨ 4 ≤ Int32.toNatClampNeg 3); decide) dX6_init_57 (fun H locs hP hD hS => ?_)
  have hP : va_P D vwCl ([[(b, .inr (6, [.ref (a2 0), .ref (a4 0), .ref q5, .int 0, .int 0, .null, .null, .int 0, .int 0, .int 0, .int 0]))], wPar cI a2 K0_X1, wPar cI a4 K0_X1, [(q5, .inl (cP, 4, .inr (.inr (.inr (.inr (va_up (va_up (va_up (va_up (fun _ => none) (Int32.toNatClampNeg 0) (some (a7 0))) (Int32.toNatClampNeg 1) (some (a9 0))) (Int32.toNatClampNeg 2) (some (a11 0))) (Int32.toNatClampNeg 3) (some (a13 0))))))))], wPar cI a7 K0_X1, wPar cI a9 K0_X1, wPar cI a11 K0_X1, wPar cI a13 K0_X1] : List va_W).flatten H := hP
  have hD : va_D A ([[(b, .inr (6, [.ref (a2 0), .ref (a4 0), .ref q5, .int 0, .int 0, .null, .null, .int 0, .int 0, .int 0, .int 0]))], wPar cI a2 K0_X1, wPar cI a4 K0_X1, [(q5, .inl (cP, 4, .inr (.inr (.inr (.inr (va_up (va_up (va_up (va_up (fun _ => none) (Int32.toNatClampNeg 0) (some (a7 0))) (Int32.toNatClampNeg 1) (some (a9 0))) (Int32.toNatClampNeg 2) (some (a11 0))) (Int32.toNatClampNeg 3) (some (a13 0))))))))], wPar cI a7 K0_X1, wPar cI a9 K0_X1, wPar cI a11 K0_X1, wPar cI a13 K0_X1] : List va_W).flatten := hD
  refine lv_iinc (v := 4) (lv' := [(1, .int 4), (0, .ref b)]) hx hb dX6_init_58 hl (k := 0) rfl (by rfl) (by decide) rfl (fun ls hl => ?_)
  refine lv_goto (tgt := 36) hx hb dX6_init_61 (by decide) ?_
  refine lv_iload_n hx hb dX6_init_36 rfl (lv_at hl 0 rfl) ?_
  refine lv_aload_n hx hb dX6_init_37 rfl (lv_at hl 1 rfl) ?_
  refine gX6_19 F hX hP 0 rfl (v := .ref q5) rfl dX6_init_38 ?_
  refine va_alen hx hb hX.1 hP 51 1 rfl rfl (v := nI 4) rfl dX6_init_41 ?_
  refine lv_icmp_ge (tgt := 64) hx hb dX6_init_42 (by decide) (fun _ => ?_) (fun c0 => absurd c0 (by decide))
  refine lv_aload_n hx hb dX6_init_64 rfl (lv_at hl 1 rfl) ?_
  refine va_new (ci := 5) (fs := [.null, .int 0, .int 0]) (C := RX5) (T := TX5) (N := 3) hx hb hts uw_X5 tyX5 tyX5_ok hown (hts _ q_197) (hts _ q_198) (hts _ q_54) hX.1 hP hD hS hA rfl (fun j hj => by rcases (show j = 0 ∨ j = 1 ∨ j = 2 by omega) with rfl | rfl | rfl <;> rfl) (Nat.le_of_ble_eq_true rfl) (Nat.le_of_ble_eq_true rfl) dX6_init_65 (fun q14 H hP hD hS => ?_)
  rw [fl_push] at hP hD
  refine lv_dup hx hb dX6_init_68 rfl ?_
  refine k_newN (rm := rm_X5_init) (mc := 2) (ms := 13) (As := []) (rest := [.ref q14, .ref b]) (X := [[(b, .inr (6, [.ref (a2 0), .ref (a4 0), .ref q5, .int 0, .int 0, .null, .null, .int 0, .int 0, .int 0, .int 0]))], wPar cI a2 K0_X1, wPar cI a4 K0_X1, [(q5, .inl (cP, 4, .inr (.inr (.inr (.inr (va_up (va_up (va_up (va_up (fun _ => none) (Int32.toNatClampNeg 0) (some (a7 0))) (Int32.toNatClampNeg 1) (some (a9 0))) (Int32.toNatClampNeg 2) (some (a11 0))) (Int32.toNatClampNeg 3) (some (a13 0))))))))], wPar cI a7 K0_X1, wPar cI a9 K0_X1, wPar cI a11 K0_X1, wPar cI a13 K0_X1]) F hX hO q_199 q_200 q_54 q_201 rfl (by decide +kernel) ⟨rfl, rfl⟩ ⟨Nat.le_of_ble_eq_true rfl, Nat.le_of_ble_eq_true rfl⟩ hl.1 rfl rfl (Nat.le_of_ble_eq_true rfl) dX6_init_69 ⟨Nat.le_of_ble_eq_true rfl, Nat.le_of_ble_eq_true rfl⟩ (c_X5_init l D cI cP q14) hP hD hS hA (fun B' H locs hW2 hPn hDn hS => ?_)
  obtain ⟨a15, e_a15, rfl⟩ := hW2
  subst e_a15
  have hP : va_P D vwCl ([[(b, .inr (6, [.ref (a2 0), .ref (a4 0), .ref q5, .int 0, .int 0, .null, .null, .int 0, .int 0, .int 0, .int 0]))], wPar cI a2 K0_X1, wPar cI a4 K0_X1, [(q5, .inl (cP, 4, .inr (.inr (.inr (.inr (va_up (va_up (va_up (va_up (fun _ => none) (Int32.toNatClampNeg 0) (some (a7 0))) (Int32.toNatClampNeg 1) (some (a9 0))) (Int32.toNatClampNeg 2) (some (a11 0))) (Int32.toNatClampNeg 3) (some (a13 0))))))))], wPar cI a7 K0_X1, wPar cI a9 K0_X1, wPar cI a11 K0_X1, wPar cI a13 K0_X1, wTrn cI a15 K0_X5] : List va_W).flatten H := hPn
  have hD : va_D A ([[(b, .inr (6, [.ref (a2 0), .ref (a4 0), .ref q5, .int 0, .int 0, .null, .null, .int 0, .int 0, .int 0, .int 0]))], wPar cI a2 K0_X1, wPar cI a4 K0_X1, [(q5, .inl (cP, 4, .inr (.inr (.inr (.inr (va_up (va_up (va_up (va_up (fun _ => none) (Int32.toNatClampNeg 0) (some (a7 0))) (Int32.toNatClampNeg 1) (some (a9 0))) (Int32.toNatClampNeg 2) (some (a11 0))) (Int32.toNatClampNeg 3) (some (a13 0))))))))], wPar cI a7 K0_X1, wPar cI a9 K0_X1, wPar cI a11 K0_X1, wPar cI a13 K0_X1, wTrn cI a15 K0_X5] : List va_W).flatten := hDn
  clear hPn hDn
  refine va_putF (D := D) (ci := 6) (v := .ref (a15 0)) (ty := .object "StringVotes$Turns") (C := RX6) (T := TX6) (N := 11) hx hb hts uw_X6 tyX6 tyX6_ok nmX6 hown hX.1 hP hD hS 0 rfl rfl 5 (by decide) (hts _ q_240) (fun _ h9 => h9) rfl hin rfl (by decide +kernel) rfl rfl (Nat.le_of_ble_eq_true rfl) dX6_init_72 (fun H locs hP hD hS => ?_)
  have hP : va_P D vwCl ([[(b, .inr (6, [.ref (a2 0), .ref (a4 0), .ref q5, .int 0, .int 0, .ref (a15 0), .null, .int 0, .int 0, .int 0, .int 0]))], wPar cI a2 K0_X1, wPar cI a4 K0_X1, [(q5, .inl (cP, 4, .inr (.inr (.inr (.inr (va_up (va_up (va_up (va_up (fun _ => none) (Int32.toNatClampNeg 0) (some (a7 0))) (Int32.toNatClampNeg 1) (some (a9 0))) (Int32.toNatClampNeg 2) (some (a11 0))) (Int32.toNatClampNeg 3) (some (a13 0))))))))], wPar cI a7 K0_X1, wPar cI a9 K0_X1, wPar cI a11 K0_X1, wPar cI a13 K0_X1, wTrn cI a15 K0_X5] : List va_W).flatten H := hP
  have hD : va_D A ([[(b, .inr (6, [.ref (a2 0), .ref (a4 0), .ref q5, .int 0, .int 0, .ref (a15 0), .null, .int 0, .int 0, .int 0, .int 0]))], wPar cI a2 K0_X1, wPar cI a4 K0_X1, [(q5, .inl (cP, 4, .inr (.inr (.inr (.inr (va_up (va_up (va_up (va_up (fun _ => none) (Int32.toNatClampNeg 0) (some (a7 0))) (Int32.toNatClampNeg 1) (some (a9 0))) (Int32.toNatClampNeg 2) (some (a11 0))) (Int32.toNatClampNeg 3) (some (a13 0))))))))], wPar cI a7 K0_X1, wPar cI a9 K0_X1, wPar cI a11 K0_X1, wPar cI a13 K0_X1, wTrn cI a15 K0_X5] : List va_W).flatten := hD
  refine lv_aload_n hx hb dX6_init_75 rfl (lv_at hl 1 rfl) ?_
  refine va_new (ci := 4) (fs := [.null, .int 0, .int 0, .null, .int 0]) (C := RX4) (T := TX4) (N := 5) hx hb hts uw_X4 tyX4 tyX4_ok hown (hts _ q_213) (hts _ q_214) (hts _ q_55) hX.1 hP hD hS hA rfl (fun j hj => by rcases (show j = 0 ∨ j = 1 ∨ j = 2 ∨ j = 3 ∨ j = 4 by omega) with rfl | rfl | rfl | rfl | rfl <;> rfl) (Nat.le_of_ble_eq_true rfl) (Nat.le_of_ble_eq_true rfl) dX6_init_76 (fun q16 H hP hD hS => ?_)
  rw [fl_push] at hP hD
  refine lv_dup hx hb dX6_init_79 rfl ?_
  refine k_newN (rm := rm_X4_init) (mc := 4) (ms := 65) (As := []) (rest := [.ref q16, .ref b]) (X := [[(b, .inr (6, [.ref (a2 0), .ref (a4 0), .ref q5, .int 0, .int 0, .ref (a15 0), .null, .int 0, .int 0, .int 0, .int 0]))], wPar cI a2 K0_X1, wPar cI a4 K0_X1, [(q5, .inl (cP, 4, .inr (.inr (.inr (.inr (va_up (va_up (va_up (va_up (fun _ => none) (Int32.toNatClampNeg 0) (some (a7 0))) (Int32.toNatClampNeg 1) (some (a9 0))) (Int32.toNatClampNeg 2) (some (a11 0))) (Int32.toNatClampNeg 3) (some (a13 0))))))))], wPar cI a7 K0_X1, wPar cI a9 K0_X1, wPar cI a11 K0_X1, wPar cI a13 K0_X1, wTrn cI a15 K0_X5]) F hX hO q_215 q_216 q_55 q_217 rfl (by decide +kernel) ⟨rfl, rfl⟩ ⟨Nat.le_of_ble_eq_true rfl, Nat.le_of_ble_eq_true rfl⟩ hl.1 rfl rfl (Nat.le_of_ble_eq_true rfl) dX6_init_80 ⟨Nat.le_of_ble_eq_true rfl, Nat.le_of_ble_eq_true rfl⟩ (c_X4_init l D cI cP q16) hP hD hS hA (fun B' H locs hW2 hPn hDn hS => ?_)
  obtain ⟨a17, e_a17, rfl⟩ := hW2
  subst e_a17
  have hP : va_P D vwCl ([[(b, .inr (6, [.ref (a2 0), .ref (a4 0), .ref q5, .int 0, .int 0, .ref (a15 0), .null, .int 0, .int 0, .int 0, .int 0]))], wPar cI a2 K0_X1, wPar cI a4 K0_X1, [(q5, .inl (cP, 4, .inr (.inr (.inr (.inr (va_up (va_up (va_up (va_up (fun _ => none) (Int32.toNatClampNeg 0) (some (a7 0))) (Int32.toNatClampNeg 1) (some (a9 0))) (Int32.toNatClampNeg 2) (some (a11 0))) (Int32.toNatClampNeg 3) (some (a13 0))))))))], wPar cI a7 K0_X1, wPar cI a9 K0_X1, wPar cI a11 K0_X1, wPar cI a13 K0_X1, wTrn cI a15 K0_X5, wTxt cI a17 K0_X4] : List va_W).flatten H := hPn
  have hD : va_D A ([[(b, .inr (6, [.ref (a2 0), .ref (a4 0), .ref q5, .int 0, .int 0, .ref (a15 0), .null, .int 0, .int 0, .int 0, .int 0]))], wPar cI a2 K0_X1, wPar cI a4 K0_X1, [(q5, .inl (cP, 4, .inr (.inr (.inr (.inr (va_up (va_up (va_up (va_up (fun _ => none) (Int32.toNatClampNeg 0) (some (a7 0))) (Int32.toNatClampNeg 1) (some (a9 0))) (Int32.toNatClampNeg 2) (some (a11 0))) (Int32.toNatClampNeg 3) (some (a13 0))))))))], wPar cI a7 K0_X1, wPar cI a9 K0_X1, wPar cI a11 K0_X1, wPar cI a13 K0_X1, wTrn cI a15 K0_X5, wTxt cI a17 K0_X4] : List va_W).flatten := hDn
  clear hPn hDn
  refine va_putF (D := D) (ci := 6) (v := .ref (a17 0)) (ty := .object "StringVotes$Text") (C := RX6) (T := TX6) (N := 11) hx hb hts uw_X6 tyX6 tyX6_ok nmX6 hown hX.1 hP hD hS 0 rfl rfl 6 (by decide) (hts _ q_241) (fun _ h9 => h9) rfl hin rfl (by decide +kernel) rfl rfl (Nat.le_of_ble_eq_true rfl) dX6_init_83 (fun H locs hP hD hS => ?_)
  have hP : va_P D vwCl ([[(b, .inr (6, [.ref (a2 0), .ref (a4 0), .ref q5, .int 0, .int 0, .ref (a15 0), .ref (a17 0), .int 0, .int 0, .int 0, .int 0]))], wPar cI a2 K0_X1, wPar cI a4 K0_X1, [(q5, .inl (cP, 4, .inr (.inr (.inr (.inr (va_up (va_up (va_up (va_up (fun _ => none) (Int32.toNatClampNeg 0) (some (a7 0))) (Int32.toNatClampNeg 1) (some (a9 0))) (Int32.toNatClampNeg 2) (some (a11 0))) (Int32.toNatClampNeg 3) (some (a13 0))))))))], wPar cI a7 K0_X1, wPar cI a9 K0_X1, wPar cI a11 K0_X1, wPar cI a13 K0_X1, wTrn cI a15 K0_X5, wTxt cI a17 K0_X4] : List va_W).flatten H := hP
  have hD : va_D A ([[(b, .inr (6, [.ref (a2 0), .ref (a4 0), .ref q5, .int 0, .int 0, .ref (a15 0), .ref (a17 0), .int 0, .int 0, .int 0, .int 0]))], wPar cI a2 K0_X1, wPar cI a4 K0_X1, [(q5, .inl (cP, 4, .inr (.inr (.inr (.inr (va_up (va_up (va_up (va_up (fun _ => none) (Int32.toNatClampNeg 0) (some (a7 0))) (Int32.toNatClampNeg 1) (some (a9 0))) (Int32.toNatClampNeg 2) (some (a11 0))) (Int32.toNatClampNeg 3) (some (a13 0))))))))], wPar cI a7 K0_X1, wPar cI a9 K0_X1, wPar cI a11 K0_X1, wPar cI a13 K0_X1, wTrn cI a15 K0_X5, wTxt cI a17 K0_X4] : List va_W).flatten := hD
  obtain ⟨hP, hD⟩ := main_born (Ad := (fun i => [a2, a4, a7, a9, a11, a13].getD i (fun _ => 0))) rfl rfl rfl rfl hP hD
  exact nw_v (B' := wMain cI cP b q5 a17 a15 (fun i => [a2, a4, a7, a9, a11, a13].getD i (fun _ => 0)) K0_X6) F (Nat.le_of_ble_eq_true rfl) (Nat.le_of_ble_eq_true rfl) ⟨q5, a17, a15, (fun i => [a2, a4, a7, a9, a11, a13].getD i (fun _ => 0)), rfl⟩ hP hD hS dX6_init_86
