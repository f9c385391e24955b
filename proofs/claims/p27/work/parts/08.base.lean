/-! the ground: contracts of readers (nothing is written) and writers (a world becomes another one at the same addresses), and rows for calling them -/
def up {α : Type} (f : Nat → α) (k : Nat) (v : α) : Nat → α := fun j => cond (Nat.beq j k) v (f j)
theorem up_eq {α : Type} (f : Nat → α) (k : Nat) (v : α) : up f k v k = v := by
  show cond (Nat.beq k k) v (f k) = v
  rw [show Nat.beq k k = true from Nat.beq_refl k]
  rfl
theorem up_ne {α : Type} (f : Nat → α) {k j : Nat} (v : α) (h : j ≠ k) : up f k v j = f j := by
  show cond (Nat.beq j k) v (f j) = f j
  rw [show Nat.beq j k = false from by cases hb : Nat.beq j k with
    | true => exact absurd (Nat.eq_of_beq_eq_true hb) h
    | false => rfl]
  rfl
/-- what every method finds of the tables -/
def Cx (D : va_G) (cI cP : ClassId) (U : State) : Prop := va_K D vwCl [(cI, .int), (cP, .object RX1)] U ∧ ∀ w ∈ NST, va_Nw w U
theorem nst_tab {w : Cond} (h : w ∈ NST) : w.onTables = true := by
  have h2 := (List.mem_filter.mp h).2
  cases w <;> first | rfl | (exact absurd h2 (by decide)) | (exact absurd h2 (by simp [nestW]))
theorem nw_warm {s U : State} (hW : s.WarmedH U.vm) {w : Cond} (h : w ∈ NST) (hz : va_Nw w s) : va_Nw w U := by
  have h2 := (List.mem_filter.mp h).2
  cases w <;> first | exact va_Nw.warmF hW hz | exact va_Nw.warmM hW hz | (exact absurd h2 (by simp [nestW]))
theorem Cx.warm {D : va_G} {cI cP : ClassId} {s U : State} (hW : s.WarmedH U.vm) (h : Cx D cI cP s) : Cx D cI cP U := ⟨va_K.moved hW.alike h.1, fun w hw => nw_warm hW hw (h.2 w hw)⟩
theorem Cx.calling {D : va_G} {cI cP : ClassId} {U : State} {g : JFrame} {mk : MethodId} {a : Array Value} (h : Cx D cI cP U) : Cx D cI cP (U.calling g mk a) := ⟨va_K.moved (u := U) (U := U.calling g mk a) (Vm.Alike.refl U.vm) h.1, fun w hw => va_Nw.same (nst_tab hw) (u := U) (U := U.calling g mk a) rfl (h.2 w hw)⟩
/-- the fixed facts of a method's walk -/
def Fx (p : Program) (s : State) (m : MethodId) (args : Array Value) (meth : Method) (c : Code) (own : String) (cc : ByteArray) (nL : Nat) (ret : Option FieldType) : Prop :=
  p.tables.exec = Jvm.exec ∧ c.code = cc ∧ c.maxLocals = nL ∧ s.vm.findClass own = some m.cls ∧ (∀ w ∈ ALL, w.before args s = true) ∧ meth.sig.returnType = ret ∧ meth.locks = false
theorem goodALL {y : MethodName} {bytes : ByteArray} {n : Nat} {ret : Option FieldType} (hcd : Cond.code y bytes n ret ∈ ALL) : GoodIn ALL (Cond.code y bytes n ret :: ALL) := by
  have key : ∀ w ∈ ALL, w ∈ ALL ∧ ((w.onTables && w.keeps) = true ∨ ∃ ty, w = .arrayClass ty) := fun w h => ⟨h, good_of_word (List.mem_filter.mp h).2⟩
  intro w hw
  rcases List.mem_cons.mp hw with rfl | h
  · exact key _ hcd
  · exact key w h
/-! readers -/
def MRd (l : Launch) (y : MethodName) (cc : ByteArray) (n : Nat) (ret : Option FieldType) (rm : Room) (D : va_G) (cI cP : ClassId) (As : List Value) (B : va_W) (r : Int32) : Prop :=
  ∀ sz : Nat, Met l y (Cond.code y cc n ret :: ALL) rm (va_Pc As (fun U => U.heap.size = sz ∧ Cx D cI cP U ∧ va_P D vwCl B U.heap)) (va_Qi (fun x (_ : Unit) => x = r) (fun _ _ => True) (fun q => sz ≤ q)) 0 0 (fun q => sz ≤ q)
def QR (below : List Frame) (args : Array Value) (s : State) (r : Int32) : State → Prop := MQ below (va_Qi (fun x (_ : Unit) => x = r) (fun _ _ => True) (fun q => s.heap.size ≤ q)) args s 0 0 (fun q => s.heap.size ≤ q)
theorem MRd.of {l : Launch} {y : MethodName} {cc : ByteArray} {n : Nat} {ret : Option FieldType} {rm : Room} {D : va_G} {cI cP : ClassId} {As : List Value} {B : va_W} {r : Int32}
    (hy : plainName y.cls = true) (hn : (lg_sl As).length ≤ n)
    (body : ∀ (p : Program) (e : Env) (s : State) (m : MethodId) (args : Array Value) (below : List Frame) (meth : Method) (c : Code) (ls : Array Slot), Fx p s m args meth c y.cls cc n ret → Cx D cI cP s → va_P D vwCl B s.heap → va_S (fun q => s.heap.size ≤ q) s.heap s.heap [] → lv_has ls n (lv_args 0 As) → W p l e rm s m args below meth c s.heap [] 0 0 (QR below args s r) (F0 m 0 ls [])) :
    MRd l y cc n ret rm D cI cP As B r := by
  intro sz
  refine Met.ofW (cc := cc) (maxL := n) (ret := ret) hy rfl ?_
  intro p e s m args below meth c s₁ B0 hml hv
  obtain ⟨rfl, hsz, hX, hP⟩ := hv
  subst hsz
  have hts := atoms_spec (ws := Cond.code y cc n ret :: ALL) B0.pre
  rw [lg_entry_eq]
  exact body p e s m _ below meth c _ ⟨B0.exec, B0.bytes, hml, findClass_of_methodNamed B0.named, fun w h => hts w (List.mem_cons_of_mem _ h), B0.returns, B0.notSynchronized⟩ hX hP va_S.rf (lv_entry As hn)
/-! writers -/
def MWi (l : Launch) (y : MethodName) (cc : ByteArray) (n : Nat) (ret : Option FieldType) (rm : Room) (D : va_G) (cI cP : ClassId) (As : List Value) (B B' : va_W) (r : Int32) : Prop :=
  ∀ sz : Nat, Met l y (Cond.code y cc n ret :: ALL) rm (va_Pc As (fun U => U.heap.size = sz ∧ Cx D cI cP U ∧ va_P D vwCl B U.heap ∧ va_D (fun _ => True) B)) (va_Qi (fun x (_ : Unit) => x = r) (fun _ t => va_P D vwCl B' t.heap) (va_A B sz)) 0 0 (va_A B sz)
def MWv (l : Launch) (y : MethodName) (cc : ByteArray) (n : Nat) (ret : Option FieldType) (rm : Room) (D : va_G) (cI cP : ClassId) (As : List Value) (B B' : va_W) : Prop :=
  ∀ sz : Nat, Met l y (Cond.code y cc n ret :: ALL) rm (va_Pc As (fun U => U.heap.size = sz ∧ Cx D cI cP U ∧ va_P D vwCl B U.heap ∧ va_D (fun _ => True) B)) (va_Qv (fun (_ : Unit) => True) (fun _ t => va_P D vwCl B' t.heap) (va_A B sz)) 0 0 (va_A B sz)
def QWi (D : va_G) (below : List Frame) (args : Array Value) (s : State) (A : Nat → Prop) (B' : va_W) (r : Int32) : State → Prop := MQ below (va_Qi (fun x (_ : Unit) => x = r) (fun _ t => va_P D vwCl B' t.heap) A) args s 0 0 A
def QWv (D : va_G) (below : List Frame) (args : Array Value) (s : State) (A : Nat → Prop) (B' : va_W) : State → Prop := MQ below (va_Qv (fun (_ : Unit) => True) (fun _ t => va_P D vwCl B' t.heap) A) args s 0 0 A
theorem MWi.of {l : Launch} {y : MethodName} {cc : ByteArray} {n : Nat} {ret : Option FieldType} {rm : Room} {D : va_G} {cI cP : ClassId} {As : List Value} {B B' : va_W} {r : Int32}
    (hy : plainName y.cls = true) (hn : (lg_sl As).length ≤ n)
    (body : ∀ (p : Program) (e : Env) (s : State) (m : MethodId) (args : Array Value) (below : List Frame) (meth : Method) (c : Code) (ls : Array Slot) (A : Nat → Prop), Fx p s m args meth c y.cls cc n ret → Cx D cI cP s → va_P D vwCl B s.heap → va_D A B → (∀ q : Nat, s.heap.size ≤ q → A q) → va_S A s.heap s.heap [] → lv_has ls n (lv_args 0 As) → W p l e rm s m args below meth c s.heap [] 0 0 (QWi D below args s A B' r) (F0 m 0 ls [])) :
    MWi l y cc n ret rm D cI cP As B B' r := by
  intro sz
  refine Met.ofW (cc := cc) (maxL := n) (ret := ret) hy rfl ?_
  intro p e s m args below meth c s₁ B0 hml hv
  obtain ⟨rfl, hsz, hX, hP, hD⟩ := hv
  subst hsz
  have hts := atoms_spec (ws := Cond.code y cc n ret :: ALL) B0.pre
  rw [lg_entry_eq]
  exact body p e s m _ below meth c _ _ ⟨B0.exec, B0.bytes, hml, findClass_of_methodNamed B0.named, fun w h => hts w (List.mem_cons_of_mem _ h), B0.returns, B0.notSynchronized⟩ hX hP (hD.self (sz := s.heap.size)) (fun q h => Or.inr h) va_S.rf (lv_entry As hn)
theorem MWv.of {l : Launch} {y : MethodName} {cc : ByteArray} {n : Nat} {ret : Option FieldType} {rm : Room} {D : va_G} {cI cP : ClassId} {As : List Value} {B B' : va_W}
    (hy : plainName y.cls = true) (hn : (lg_sl As).length ≤ n)
    (body : ∀ (p : Program) (e : Env) (s : State) (m : MethodId) (args : Array Value) (below : List Frame) (meth : Method) (c : Code) (ls : Array Slot) (A : Nat → Prop), Fx p s m args meth c y.cls cc n ret → Cx D cI cP s → va_P D vwCl B s.heap → va_D A B → (∀ q : Nat, s.heap.size ≤ q → A q) → va_S A s.heap s.heap [] → lv_has ls n (lv_args 0 As) → W p l e rm s m args below meth c s.heap [] 0 0 (QWv D below args s A B') (F0 m 0 ls [])) :
    MWv l y cc n ret rm D cI cP As B B' := by
  intro sz
  refine Met.ofW (cc := cc) (maxL := n) (ret := ret) hy rfl ?_
  intro p e s m args below meth c s₁ B0 hml hv
  obtain ⟨rfl, hsz, hX, hP, hD⟩ := hv
  subst hsz
  have hts := atoms_spec (ws := Cond.code y cc n ret :: ALL) B0.pre
  rw [lg_entry_eq]
  exact body p e s m _ below meth c _ _ ⟨B0.exec, B0.bytes, hml, findClass_of_methodNamed B0.named, fun w h => hts w (List.mem_cons_of_mem _ h), B0.returns, B0.notSynchronized⟩ hX hP (hD.self (sz := s.heap.size)) (fun q h => Or.inr h) va_S.rf (lv_entry As hn)
section ENDS
variable {p : Program} {l : Launch} {e : Env} {R : Room} {s : State} {m : MethodId} {args : Array Value} {below : List Frame} {meth : Method} {c : Code} {H : Heap} {locs : List Loc} {own : String} {cc : ByteArray} {nL pc : Nat} {ls : Array Slot} {D : va_G} {A : Nat → Prop} {B' : va_W} {r v : Int32}
theorem rd_i (F : Fx p s m args meth c own cc nL (some .int)) (hv : v = r) (hS : va_S (fun q => s.heap.size ≤ q) s.heap H locs) (hdg : decode cc pc = .ok (.ireturn, 1)) : W p l e R s m args below meth c H locs 0 0 (QR below args s r) (F0 m pc ls [.int v]) :=
  W.iret F.1 F.2.1 F.2.2.2.2.2.1 (fun t ht hW => ⟨⟨v, (), rfl, hv, trivial⟩, hS.F ht⟩) hS.2.2 hdg (hlocks := F.2.2.2.2.2.2)
theorem bool_narrow {v : Int32} (h : v = 0 ∨ v = 1) : narrow .boolean (.int v) = .int v := by rcases h with rfl | rfl <;> rfl
theorem rd_z (F : Fx p s m args meth c own cc nL (some .boolean)) (h01 : v = 0 ∨ v = 1) (hv : v = r) (hS : va_S (fun q => s.heap.size ≤ q) s.heap H locs) (hdg : decode cc pc = .ok (.ireturn, 1)) : W p l e R s m args below meth c H locs 0 0 (QR below args s r) (F0 m pc ls [.int v]) :=
  W.zret F.1 F.2.1 F.2.2.2.2.2.1 (bool_narrow h01) (fun t ht hW => ⟨⟨v, (), rfl, hv, trivial⟩, hS.F ht⟩) hS.2.2 hdg (hlocks := F.2.2.2.2.2.2)
theorem wr_i (F : Fx p s m args meth c own cc nL (some .int)) (hv : v = r) (hP : va_P D vwCl B' H) (hS : va_S A s.heap H locs) (hdg : decode cc pc = .ok (.ireturn, 1)) : W p l e R s m args below meth c H locs 0 0 (QWi D below args s A B' r) (F0 m pc ls [.int v]) :=
  W.iret F.1 F.2.1 F.2.2.2.2.2.1 (fun t ht hW => ⟨⟨v, (), rfl, hv, by show va_P D vwCl B' t.heap; rw [ht]; exact hP⟩, hS.F ht⟩) hS.2.2 hdg (hlocks := F.2.2.2.2.2.2)
theorem wr_z (F : Fx p s m args meth c own cc nL (some .boolean)) (h01 : v = 0 ∨ v = 1) (hv : v = r) (hP : va_P D vwCl B' H) (hS : va_S A s.heap H locs) (hdg : decode cc pc = .ok (.ireturn, 1)) : W p l e R s m args below meth c H locs 0 0 (QWi D below args s A B' r) (F0 m pc ls [.int v]) :=
  W.zret F.1 F.2.1 F.2.2.2.2.2.1 (bool_narrow h01) (fun t ht hW => ⟨⟨v, (), rfl, hv, by show va_P D vwCl B' t.heap; rw [ht]; exact hP⟩, hS.F ht⟩) hS.2.2 hdg (hlocks := F.2.2.2.2.2.2)
theorem wr_v (F : Fx p s m args meth c own cc nL none) (hP : va_P D vwCl B' H) (hS : va_S A s.heap H locs) (hdg : decode cc pc = .ok (.return_, 1)) : W p l e R s m args below meth c H locs 0 0 (QWv D below args s A B') (F0 m pc ls []) :=
  W.vret F.1 F.2.1 F.2.2.2.2.2.1 (fun t ht hW => ⟨⟨(), rfl, trivial, by show va_P D vwCl B' t.heap; rw [ht]; exact hP⟩, hS.F ht⟩) hS.2.2 hdg (hlocks := F.2.2.2.2.2.2)
end ENDS
/-! worlds by blocks -/
theorem vD_iff {A : Nat → Prop} {ws : va_W} : va_D A ws ↔ (ws.map (fun q => q.1)).Nodup ∧ ∀ q ∈ ws, A q.1 := by
  constructor
  · intro h
    refine ⟨?_, fun q hq => ?_⟩
    · rw [List.nodup_iff_pairwise_ne, List.pairwise_iff_getElem]
      intro i j hi hj hij he
      simp only [List.length_map] at hi hj
      simp only [List.getElem_map] at he
      have := h.1 i j _ _ (List.getElem?_eq_getElem hi) (List.getElem?_eq_getElem hj) he
      omega
    · obtain ⟨k, hk⟩ := List.getElem?_of_mem hq
      exact h.2 k q hk
  · intro h
    refine ⟨fun i j p q hi hj he => ?_, fun k q hk => h.2 q (List.mem_of_getElem? hk)⟩
    have h1 : (ws.map (fun q => q.1))[i]? = some p.1 := by rw [List.getElem?_map, hi]; rfl
    have h2 : (ws.map (fun q => q.1))[j]? = some p.1 := by rw [List.getElem?_map, hj, he]; rfl
    have hil : i < (ws.map (fun q => q.1)).length := (List.getElem?_eq_some_iff.mp h1).1
    exact (List.getElem?_inj hil h.1).mp (h1.trans h2.symm)
theorem vP_iff {D : va_G} {cl : List vw_C} {ws : va_W} {H : Heap} : va_P D cl ws H ↔ ∀ q ∈ ws, va_at D cl q H :=
  ⟨fun h q hq => by obtain ⟨k, hk⟩ := List.getElem?_of_mem hq; exact h k q hk, fun h k q hk => h q (List.mem_of_getElem? hk)⟩
theorem vA_iff {ws : va_W} {sz q : Nat} : va_A ws sz q ↔ q ∈ ws.map (fun q => q.1) ∨ sz ≤ q := by
  constructor
  · rintro (⟨k, e, h⟩ | h)
    · exact Or.inl (List.mem_map.mpr ⟨(q, e), List.mem_of_getElem? h, rfl⟩)
    · exact Or.inr h
  · rintro (h | h)
    · obtain ⟨⟨a, e⟩, h1, h2⟩ := List.mem_map.mp h
      obtain ⟨k, hk⟩ := List.getElem?_of_mem h1
      have h2 : a = q := h2
      subst h2
      exact Or.inl ⟨k, e, hk⟩
    · exact Or.inr h
theorem vD_same {A : Nat → Prop} {ws ws' : va_W} (h : ws'.map (fun q => q.1) = ws.map (fun q => q.1)) (hD : va_D A ws) : va_D A ws' := by
  have h1 := vD_iff.mp hD
  refine vD_iff.mpr ⟨by rw [h]; exact h1.1, fun q hq => ?_⟩
  have h2 : q.1 ∈ ws.map (fun q => q.1) := by rw [← h]; exact List.mem_map.mpr ⟨q, hq, rfl⟩
  obtain ⟨q', h3, h4⟩ := List.mem_map.mp h2
  rw [← h4]
  exact h1.2 q' h3
/-- what a call may touch of a world, and what the world is behind it -/
def Cut (ws wc w1 ws' : va_W) : Prop := (∀ q ∈ wc, q ∈ ws) ∧ ((ws.map (fun q => q.1)).Nodup → (wc.map (fun q => q.1)).Nodup) ∧ ((ws.map (fun q => q.1)).Nodup → ∀ q ∈ ws', q ∈ w1 ∨ (q ∈ ws ∧ q.1 ∉ wc.map (fun q => q.1))) ∧ ws'.map (fun q => q.1) = ws.map (fun q => q.1)
theorem Cut.all {ws w1 : va_W} (h : w1.map (fun q => q.1) = ws.map (fun q => q.1)) : Cut ws ws w1 w1 := ⟨fun _ h => h, fun h => h, fun _ _ h => Or.inl h, h⟩
theorem fl_get {α : Type} : ∀ {Bs : List (List α)} {k : Nat} {B : List α}, Bs[k]? = some B → ∃ X Y, Bs.flatten = X ++ B ++ Y ∧ ∀ B', (Bs.set k B').flatten = X ++ B' ++ Y
  | [], k, B, h => by simp at h
  | C :: Bs, 0, B, h => by
    have h : C = B := by simpa using h
    subst h
    exact ⟨[], Bs.flatten, by simp, fun B' => by simp⟩
  | C :: Bs, k + 1, B, h => by
    have h : Bs[k]? = some B := by simpa using h
    obtain ⟨X, Y, h1, h2⟩ := fl_get h
    exact ⟨C ++ X, Y, by simp [h1], fun B' => by simp [h2]⟩
theorem Cut.one {Bs : List va_W} {k : Nat} {B B' : va_W} (hk : Bs[k]? = some B) (h : B'.map (fun q => q.1) = B.map (fun q => q.1)) : Cut Bs.flatten B B' (Bs.set k B').flatten := by
  obtain ⟨X, Y, h1, h2⟩ := fl_get hk
  rw [h1, h2]
  refine ⟨fun q hq => by simp [hq], fun hn => ?_, fun hn q hq => ?_, by simp [h]⟩
  · simp only [List.map_append, List.append_assoc] at hn
    exact (List.nodup_append.mp (List.nodup_append.mp hn).2.1).1
  · simp only [List.map_append, List.append_assoc] at hn
    obtain ⟨-, hn2, hn3⟩ := List.nodup_append.mp hn
    obtain ⟨-, -, hn4⟩ := List.nodup_append.mp hn2
    simp only [List.append_assoc, List.mem_append] at hq
    rcases hq with hq | hq | hq
    · refine Or.inr ⟨by simp [hq], fun hz => ?_⟩
      exact hn3 _ (List.mem_map.mpr ⟨q, hq, rfl⟩) _ (List.mem_append.mpr (Or.inl hz)) rfl
    · exact Or.inl hq
    · refine Or.inr ⟨by simp [hq], fun hz => ?_⟩
      exact hn4 _ hz _ (List.mem_map.mpr ⟨q, hq, rfl⟩) rfl
/-- two blocks: the first is written, the second read -/
theorem Cut.two {Bs : List va_W} {k j : Nat} {B B' C : va_W} (hk : Bs[k]? = some B) (hj : Bs[j]? = some C) (hkj : k ≠ j) (h : B'.map (fun q => q.1) = B.map (fun q => q.1)) : Cut Bs.flatten (B ++ C) (B' ++ C) (Bs.set k B').flatten := by
  have h1 := Cut.one hk h
  have hC : ∀ q ∈ C, q ∈ Bs.flatten := fun q hq => List.mem_flatten.mpr ⟨C, List.mem_of_getElem? hj, hq⟩
  refine ⟨fun q hq => (List.mem_append.mp hq).elim (h1.1 q) (hC q), fun hn => ?_, fun hn q hq => ?_, h1.2.2.2⟩
  · have hb := h1.2.1 hn
    have hc := (Cut.one (B' := C) hj rfl).2.1 hn
    rw [List.map_append]
    refine List.nodup_append.mpr ⟨hb, hc, fun x hx y hy hxy => ?_⟩
    subst hxy
    obtain ⟨p, hp, e1⟩ := List.mem_map.mp hx
    obtain ⟨X, Y, g1, g2⟩ := fl_get hk
    obtain ⟨q, hq, e2⟩ := List.mem_map.mp hy
    have hq2 : q ∈ (Bs.set k []).flatten := List.mem_flatten.mpr ⟨C, List.mem_of_getElem? (by rw [List.getElem?_set_ne hkj]; exact hj), hq⟩
    rw [g2] at hq2
    rw [g1] at hn
    simp only [List.map_append, List.append_assoc] at hn
    obtain ⟨-, hn2, hn3⟩ := List.nodup_append.mp hn
    obtain ⟨-, -, hn4⟩ := List.nodup_append.mp hn2
    simp only [List.append_nil, List.mem_append] at hq2
    rcases hq2 with hq2 | hq2
    · exact hn3 _ (List.mem_map.mpr ⟨q, hq2, rfl⟩) _ (List.mem_append.mpr (Or.inl (List.mem_map.mpr ⟨p, hp, rfl⟩))) (e2.trans e1.symm)
    · exact hn4 _ (List.mem_map.mpr ⟨p, hp, rfl⟩) _ (List.mem_map.mpr ⟨q, hq2, rfl⟩) (e1.trans e2.symm)
  · by_cases hqC : q.1 ∈ C.map (fun q => q.1)
    · obtain ⟨q2, hq2, e2⟩ := List.mem_map.mp hqC
      have hn' : ((Bs.set k B').flatten.map (fun q => q.1)).Nodup := by rw [h1.2.2.2]; exact hn
      have hm2 : q2 ∈ (Bs.set k B').flatten := List.mem_flatten.mpr ⟨C, List.mem_of_getElem? (by rw [List.getElem?_set_ne hkj]; exact hj), hq2⟩
      have hD2 : va_D (fun _ => True) (Bs.set k B').flatten := vD_iff.mpr ⟨hn', fun _ _ => trivial⟩
      obtain ⟨i1, hi1⟩ := List.getElem?_of_mem hq
      obtain ⟨i2, hi2⟩ := List.getElem?_of_mem hm2
      have hii := hD2.1 i1 i2 _ _ hi1 hi2 e2.symm
      subst hii
      rw [hi1] at hi2
      cases hi2
      exact Or.inl (List.mem_append.mpr (Or.inr hq2))
    · rcases h1.2.2.1 hn q hq with h2 | ⟨h2, h3⟩
      · exact Or.inl (List.mem_append.mpr (Or.inl h2))
      · refine Or.inr ⟨h2, fun hz => ?_⟩
        rw [List.map_append] at hz
        exact (List.mem_append.mp hz).elim h3 hqC
theorem va_blk {D : va_G} {cl : List vw_C} {Bs : List va_W} {H : Heap} (h : va_P D cl Bs.flatten H) (k : Nat) {B : va_W} (hk : Bs[k]? = some B) : va_P D cl B H :=
  vP_iff.mpr fun q hq => vP_iff.mp h q (List.mem_flatten.mpr ⟨B, List.mem_of_getElem? hk, hq⟩)
theorem vP_app {D : va_G} {cl : List vw_C} {w1 w2 : va_W} {H : Heap} (h1 : va_P D cl w1 H) (h2 : va_P D cl w2 H) : va_P D cl (w1 ++ w2) H := h1.app h2
/-- an array's contents are told by its places alone -/
theorem vp_congr {cA : ClassId} {n : Nat} {f g : Nat → Int32} (h : ∀ i, i < n → f i = g i) : vp_cell cA (n, .inl f) = vp_cell cA (n, .inl g) := by
  rw [vp_cell_i, vp_cell_i]
  unfold arrV
  congr 2
  funext j
  exact congrArg Value.int (h j.val j.isLt)
section CALLS
variable {p : Program} {l : Launch} {e : Env} {R : Room} {s : State} {m : MethodId} {args : Array Value} {below : List Frame} {meth : Method} {c : Code} {H H0 : Heap} {locs : List Loc} {cells slots : Nat} {Q : State → Prop}
variable {own host : String} {cc bytes : ByteArray} {nL pc maxL n idx q0 ci N : Nat} {T : u_T} {ls : Array Slot} {st0 rest As : List Value} {ret0 ret : Option FieldType} {y : MethodName} {rm : Room} {D : va_G} {cI cP : ClassId} {b : Nat} {B B' ws ws' : va_W} {r : Int32} {fs : List Value} {A0 : Nat → Prop}
/-- how a method is reached: its words -/
def WdV (own : String) (idx : Nat) (y : MethodName) (bytes : ByteArray) (maxL : Nat) (ret : Option FieldType) (n : Nat) : Prop :=
  Cond.methodLink own idx y ∈ ALL ∧ Cond.instanceMethod y ∈ ALL ∧ Cond.selects y.cls y y ∈ ALL ∧ Cond.initialized y.cls ∈ ALL ∧ Cond.code y bytes maxL ret ∈ ALL ∧ y.cls ≠ "java/lang/invoke/MethodHandle" ∧ y.cls ≠ "java/lang/invoke/VarHandle" ∧ (parseMethodDescriptor y.desc).map (fun d => d.parameters.length) = some n
def WdN (own host : String) (idx : Nat) (y : MethodName) (bytes : ByteArray) (maxL : Nat) (ret : Option FieldType) (n : Nat) : Prop :=
  Cond.methodLinkNest own idx y host ∈ NST ∧ Cond.instanceMethod y ∈ ALL ∧ Cond.selects y.cls y y ∈ ALL ∧ Cond.initialized y.cls ∈ ALL ∧ Cond.code y bytes maxL ret ∈ ALL ∧ y.cls ≠ "java/lang/invoke/MethodHandle" ∧ y.cls ≠ "java/lang/invoke/VarHandle" ∧ (parseMethodDescriptor y.desc).map (fun d => d.parameters.length) = some n
def WdS (own : String) (idx : Nat) (y : MethodName) (bytes : ByteArray) (maxL : Nat) (ret : Option FieldType) (n : Nat) : Prop :=
  Cond.methodLink own idx y ∈ ALL ∧ Cond.static y ∈ ALL ∧ Cond.initialized y.cls ∈ ALL ∧ Cond.code y bytes maxL ret ∈ ALL ∧ y.cls ≠ "java/lang/invoke/MethodHandle" ∧ y.cls ≠ "java/lang/invoke/VarHandle" ∧ (parseMethodDescriptor y.desc).map (fun d => d.parameters.length) = some n
def WdSN (own host : String) (idx : Nat) (y : MethodName) (bytes : ByteArray) (maxL : Nat) (ret : Option FieldType) (n : Nat) : Prop :=
  Cond.methodLinkNest own idx y host ∈ NST ∧ Cond.static y ∈ ALL ∧ Cond.initialized y.cls ∈ ALL ∧ Cond.code y bytes maxL ret ∈ ALL ∧ y.cls ≠ "java/lang/invoke/MethodHandle" ∧ y.cls ≠ "java/lang/invoke/VarHandle" ∧ (parseMethodDescriptor y.desc).map (fun d => d.parameters.length) = some n
/-- the run of a method, by any of the four ways -/
def Run (p : Program) (l : Launch) (e : Env) (R : Room) (s : State) (m : MethodId) (args : Array Value) (below : List Frame) (meth : Method) (c : Code) (own : String) (cc : ByteArray) (nL : Nat) (ret0 : Option FieldType) (y : MethodName) (bytes : ByteArray) (maxL : Nat) (ret : Option FieldType) (rm : Room) (As : List Value) (pc : Nat) (ls : Array Slot) (st0 rest : List Value) (H : Heap) (cells slots : Nat) (recv : Prop) : Prop :=
  ∀ (Pc : Array Value → State → Prop) (Qc : Array Value → State → Outcome → State → Prop) (free : Addr → Prop) (locs : List Loc), Met l y (Cond.code y bytes maxL ret :: ALL) rm Pc Qc 0 0 free → FrameBlind Pc → recv → (∀ U : State, U.heap = H → s.WarmedH U.vm → Pc As.toArray U) → va_Run p l e R s m args below meth c H locs cells slots 0 0 (F0 m pc ls st0) rest (Qc As.toArray) free
abbrev Rcv (s : State) (H : Heap) (C : String) (b : Nat) : Prop := ∃ cellB : Cell, H[b]? = some cellB ∧ cellB.vm.isStatics = false ∧ s.vm.findClass C = some cellB.cls
theorem runV (F : Fx p s m args meth c own cc nL ret0) (w : WdV own idx y bytes maxL ret n) (hrm : rm.cells = 0 ∧ rm.slots = 0) (hR : rm.frames + 1 ≤ R.frames ∧ 8 + (maxL + 11) + rm.locals ≤ R.locals) (hsz : ls.size = nL) (hn : As.length = n) (hst : st0 = As.reverse ++ .ref b :: rest) (hW : (rest.map fun v => v.category).sum ≤ 8) (hdg : decode cc pc = .ok (.invokevirtual idx, 3)) (hf : cells ≤ R.cells ∧ slots ≤ R.slots) :
    Run p l e R s m args below meth c own cc nL ret0 y bytes maxL ret rm (.ref b :: As) pc ls st0 rest H cells slots (Rcv s H y.cls b) := by
  intro Pc Qc free locs hM hfb hr hPc
  obtain ⟨w1, w2, w3, w4, w5, w6⟩ := w
  have ha := F.2.2.2.2.1
  exact va_runV (own := own) (C := y.cls) (Ts := ALL) ⟨F.1, F.2.1, F.2.2.1, F.2.2.2.1, ha⟩ hM ⟨callB_of n ha (goodALL w5) rfl hrm.1 hrm.2 (ha _ w4) (ha _ w1) w6 hR, ha _ w2, ha _ w3⟩ ⟨hfb, hr, hPc⟩ rfl hn hsz hst (lv_room hW) hdg hf
theorem runVN (F : Fx p s m args meth c own cc nL ret0) (hX : Cx D cI cP s) (w : WdN own host idx y bytes maxL ret n) (hrm : rm.cells = 0 ∧ rm.slots = 0) (hR : rm.frames + 1 ≤ R.frames ∧ 8 + (maxL + 11) + rm.locals ≤ R.locals) (hsz : ls.size = nL) (hn : As.length = n) (hst : st0 = As.reverse ++ .ref b :: rest) (hW : (rest.map fun v => v.category).sum ≤ 8) (hdg : decode cc pc = .ok (.invokevirtual idx, 3)) (hf : cells ≤ R.cells ∧ slots ≤ R.slots) :
    Run p l e R s m args below meth c own cc nL ret0 y bytes maxL ret rm (.ref b :: As) pc ls st0 rest H cells slots (Rcv s H y.cls b) := by
  intro Pc Qc free locs hM hfb hr hPc
  obtain ⟨w1, w2, w3, w4, w5, w6⟩ := w
  have ha := F.2.2.2.2.1
  exact va_runVN (own := own) (C := y.cls) (host := host) (Ts := ALL) ⟨F.1, F.2.1, F.2.2.1, F.2.2.2.1, ha⟩ hM ⟨va_cnB n ha (goodALL w5) rfl hrm.1 hrm.2 (hX.2 _ w1) (ha _ w4) w6 hR, ha _ w2, ha _ w3⟩ ⟨hfb, hr, hPc⟩ rfl hn hsz hst (lv_room hW) hdg hf
theorem runS (F : Fx p s m args meth c own cc nL ret0) (w : WdS own idx y bytes maxL ret n) (hrm : rm.cells = 0 ∧ rm.slots = 0) (hR : rm.frames + 1 ≤ R.frames ∧ 8 + (maxL + 11) + rm.locals ≤ R.locals) (hsz : ls.size = nL) (hn : As.length = n) (hst : st0 = As.reverse ++ rest) (hW : (rest.map fun v => v.category).sum ≤ 8) (hdg : decode cc pc = .ok (.invokestatic idx, 3)) (hf : cells ≤ R.cells ∧ slots ≤ R.slots) :
    Run p l e R s m args below meth c own cc nL ret0 y bytes maxL ret rm As pc ls st0 rest H cells slots True := by
  intro Pc Qc free locs hM hfb hr hPc
  obtain ⟨w1, w2, w4, w5, w6⟩ := w
  have ha := F.2.2.2.2.1
  exact va_runS (own := own) (Ts := ALL) ⟨F.1, F.2.1, F.2.2.1, F.2.2.2.1, ha⟩ hM ⟨callB_of n ha (goodALL w5) rfl hrm.1 hrm.2 (ha _ w4) (ha _ w1) w6 hR, ha _ w2⟩ ⟨hfb, hPc⟩ rfl hn hsz hst (lv_room hW) hdg hf
theorem runSN (F : Fx p s m args meth c own cc nL ret0) (hX : Cx D cI cP s) (w : WdSN own host idx y bytes maxL ret n) (hrm : rm.cells = 0 ∧ rm.slots = 0) (hR : rm.frames + 1 ≤ R.frames ∧ 8 + (maxL + 11) + rm.locals ≤ R.locals) (hsz : ls.size = nL) (hn : As.length = n) (hst : st0 = As.reverse ++ rest) (hW : (rest.map fun v => v.category).sum ≤ 8) (hdg : decode cc pc = .ok (.invokestatic idx, 3)) (hf : cells ≤ R.cells ∧ slots ≤ R.slots) :
    Run p l e R s m args below meth c own cc nL ret0 y bytes maxL ret rm As pc ls st0 rest H cells slots True := by
  intro Pc Qc free locs hM hfb hr hPc
  obtain ⟨w1, w2, w4, w5, w6⟩ := w
  have ha := F.2.2.2.2.1
  exact va_runSN (own := own) (host := host) (Ts := ALL) ⟨F.1, F.2.1, F.2.2.1, F.2.2.2.1, ha⟩ hM ⟨va_cnB n ha (goodALL w5) rfl hrm.1 hrm.2 (hX.2 _ w1) (ha _ w4) w6 hR, ha _ w2, trivial⟩ ⟨hfb, hPc⟩ rfl hn hsz hst (lv_room hW) hdg hf
/-- a reader is called: the world stays -/
theorem k_rd {recv : Prop} (hr : Run p l e R s m args below meth c own cc nL ret0 y bytes maxL ret rm As pc ls st0 rest H cells slots recv) (hM : MRd l y bytes maxL ret rm D cI cP As B r) (hX : Cx D cI cP s) (hrc : recv) (hPB : va_P D vwCl B H) (hP : va_P D vwCl ws H) (hS : va_S A0 H0 H locs) (hA : ∀ q, H0.size ≤ q → A0 q)
    (kk : ∀ (H1 : Heap) (locs1 : List Loc), va_P D vwCl ws H1 → va_S A0 H0 H1 locs1 → W p l e R s m args below meth c H1 locs1 cells slots Q (F0 m (pc + 3) ls (.int r :: rest))) : W p l e R s m args below meth c H locs cells slots Q (F0 m pc ls st0) := by
  refine va_calli (hr _ _ _ locs (hM H.size) (fun a U g mk q => ⟨q.1, q.2.1, q.2.2.1.calling, q.2.2.2⟩) hrc (fun U hU hW => ⟨rfl, by rw [hU], hX.warm hW, by rw [hU]; exact hPB⟩)) hS (fun q h1 h2 => absurd h1 (Nat.not_lt.mpr h2)) (fun q h => hA q (Nat.le_trans hS.1 h)) (fun r' u t H1 locs1 ht hvm hw hB hz1 hk1 hS1 => ?_)
  subst hw
  exact kk H1 locs1 (hP.kept (fun k q hk => hk1 q.1 (hP k q hk).lt (fun z => absurd (hP k q hk).lt (Nat.not_lt.mpr z)))) hS1
theorem cut_back (hC : Cut ws B B' ws') (hP : va_P D vwCl ws H) (hD : va_D A0 ws) {H1 : Heap} (hk1 : ∀ q : Nat, q < H.size → ¬ va_A B H.size q → H1[q]? = H[q]?) (hP1 : va_P D vwCl B' H1) : va_P D vwCl ws' H1 ∧ va_D A0 ws' := by
  have hn := (vD_iff.mp hD).1
  refine ⟨vP_iff.mpr fun q hq => ?_, vD_same hC.2.2.2 hD⟩
  rcases hC.2.2.1 hn q hq with h | ⟨h1, h2⟩
  · exact vP_iff.mp hP1 q h
  · have h3 := vP_iff.mp hP q h1
    exact h3.kept (hk1 q.1 h3.lt (fun z => (vA_iff.mp z).elim h2 (fun z => absurd h3.lt (Nat.not_lt.mpr z))))
theorem cut_free (hC : Cut ws B B' ws') (hD : va_D A0 ws) (hS : va_S A0 H0 H locs) (hA : ∀ q, H0.size ≤ q → A0 q) : ∀ q, va_A B H.size q → A0 q := by
  intro q h
  rcases vA_iff.mp h with h | h
  · obtain ⟨q2, h1, h2⟩ := List.mem_map.mp h
    rw [← h2]
    exact (vD_iff.mp hD).2 q2 (hC.1 q2 h1)
  · exact hA q (Nat.le_trans hS.1 h)
theorem cut_P (hC : Cut ws B B' ws') (hP : va_P D vwCl ws H) : va_P D vwCl B H := vP_iff.mpr fun q hq => vP_iff.mp hP q (hC.1 q hq)
theorem cut_D (hC : Cut ws B B' ws') (hD : va_D A0 ws) : va_D (fun _ => True) B := vD_iff.mpr ⟨hC.2.1 (vD_iff.mp hD).1, fun _ _ => trivial⟩
/-- a writer that answers -/
theorem k_wi {recv : Prop} (hr : Run p l e R s m args below meth c own cc nL ret0 y bytes maxL ret rm As pc ls st0 rest H cells slots recv) (hM : MWi l y bytes maxL ret rm D cI cP As B B' r) (hX : Cx D cI cP s) (hrc : recv) (hC : Cut ws B B' ws') (hP : va_P D vwCl ws H) (hD : va_D A0 ws) (hS : va_S A0 H0 H locs) (hA : ∀ q, H0.size ≤ q → A0 q)
    (kk : ∀ (H1 : Heap) (locs1 : List Loc), va_P D vwCl ws' H1 → va_D A0 ws' → va_S A0 H0 H1 locs1 → W p l e R s m args below meth c H1 locs1 cells slots Q (F0 m (pc + 3) ls (.int r :: rest))) : W p l e R s m args below meth c H locs cells slots Q (F0 m pc ls st0) := by
  have hF := cut_free hC hD hS hA
  refine va_calli (hr _ _ _ locs (hM H.size) (fun a U g mk q => ⟨q.1, q.2.1, q.2.2.1.calling, q.2.2.2⟩) hrc (fun U hU hW => ⟨rfl, by rw [hU], hX.warm hW, by rw [hU]; exact cut_P hC hP, cut_D hC hD⟩)) hS (fun q _ h => hF q h) hF (fun r' u t H1 locs1 ht hvm hw hB hz1 hk1 hS1 => ?_)
  subst hw
  rw [ht] at hB
  obtain ⟨hP2, hD2⟩ := cut_back hC hP hD hk1 hB
  exact kk H1 locs1 hP2 hD2 hS1
theorem k_wv {recv : Prop} (hr : Run p l e R s m args below meth c own cc nL ret0 y bytes maxL ret rm As pc ls st0 rest H cells slots recv) (hM : MWv l y bytes maxL ret rm D cI cP As B B') (hX : Cx D cI cP s) (hrc : recv) (hC : Cut ws B B' ws') (hP : va_P D vwCl ws H) (hD : va_D A0 ws) (hS : va_S A0 H0 H locs) (hA : ∀ q, H0.size ≤ q → A0 q)
    (kk : ∀ (H1 : Heap) (locs1 : List Loc), va_P D vwCl ws' H1 → va_D A0 ws' → va_S A0 H0 H1 locs1 → W p l e R s m args below meth c H1 locs1 cells slots Q (F0 m (pc + 3) ls rest)) : W p l e R s m args below meth c H locs cells slots Q (F0 m pc ls st0) := by
  have hF := cut_free hC hD hS hA
  refine va_callv (hr _ _ _ locs (hM H.size) (fun a U g mk q => ⟨q.1, q.2.1, q.2.2.1.calling, q.2.2.2⟩) hrc (fun U hU hW => ⟨rfl, by rw [hU], hX.warm hW, by rw [hU]; exact cut_P hC hP, cut_D hC hD⟩)) hS (fun q _ h => hF q h) hF (fun u t H1 locs1 ht hvm hw hB hz1 hk1 hS1 => ?_)
  rw [ht] at hB
  obtain ⟨hP2, hD2⟩ := cut_back hC hP hD hk1 hB
  exact kk H1 locs1 hP2 hD2 hS1
end CALLS
theorem ob {α β : Type} {x : Option α} {k : α → Option β} {u : β} (h : x.bind k = some u) : ∃ r, x = some r ∧ k r = some u := by
  cases x with
  | none => cases h
  | some r => exact ⟨r, rfl, h⟩
