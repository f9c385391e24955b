/-! loops that only gather: what they gather -/
def it {σ : Type} (f : Nat → σ → σ) : Nat → σ → σ
  | 0, s => s
  | k + 1, s => f k (it f k s)
theorem it_cong {σ : Type} {f g : Nat → σ → σ} : ∀ {n : Nat} {s : σ}, (∀ k t, k < n → f k t = g k t) → it f n s = it g n s := by
  intro n
  induction n with
  | zero => intro _ _; rfl
  | succ n ih =>
    intro s h
    show f n (it f n s) = g n (it g n s)
    rw [ih (fun k t hk => h k t (by omega)), h n _ (by omega)]
theorem loop_itA {σ ρ : Type} {f : Nat → σ → Int32 → Option ρ} {n : Nat} (st : Nat → σ → σ) (out : σ → ρ)
    (hs : ∀ fu k s, k < n → f (fu + 1) s (nI k) = f fu (st k s) (nI (k + 1)))
    (hx : ∀ fu s, f (fu + 1) s (nI n) = some (out s)) : ∀ (d k : Nat) (s : σ) (fu : Nat), k + d = n → d < fu → f fu (it st k s) (nI k) = some (out (it st n s)) := by
  intro d
  induction d with
  | zero =>
    intro k s fu hk hf
    obtain ⟨g, rfl⟩ : ∃ g, fu = g + 1 := ⟨fu - 1, by omega⟩
    have : k = n := by omega
    subst this
    exact hx g _
  | succ d ih =>
    intro k s fu hk hf
    obtain ⟨g, rfl⟩ : ∃ g, fu = g + 1 := ⟨fu - 1, by omega⟩
    rw [hs g k _ (by omega)]
    exact ih (k + 1) s g (by omega) (by omega)
theorem loop_it {σ ρ : Type} {f : Nat → σ → Int32 → Option ρ} {n : Nat} (st : Nat → σ → σ) (out : σ → ρ) (hn : n ≤ 9000)
    (hs : ∀ fu k s, k < n → f (fu + 1) s (nI k) = f fu (st k s) (nI (k + 1)))
    (hx : ∀ fu s, f (fu + 1) s (nI n) = some (out s)) (s : σ) : f FUEL s 0 = some (out (it st n s)) :=
  loop_itA st out hs hx n 0 s FUEL (by omega) (by unfold FUEL; omega)
theorem it_if {σ : Type} {f : Nat → σ → σ} {c : Nat → Prop} {v t0 : σ} : ∀ {n : Nat}, (∀ k t, k < n → c k → f k t = v) → (∀ k t, k < n → ¬ c k → f k t = t) → (it f n t0 = v ∧ ∃ k, k < n ∧ c k) ∨ (it f n t0 = t0 ∧ ∀ k, k < n → ¬ c k) := by
  intro n
  induction n with
  | zero => intro _ _; exact Or.inr ⟨rfl, fun k hk => absurd hk (Nat.not_lt_zero k)⟩
  | succ n ih =>
    intro h1 h2
    rcases Classical.em (c n) with hc | hc
    · exact Or.inl ⟨h1 n _ (by omega) hc, n, by omega, hc⟩
    · rcases ih (fun k t hk => h1 k t (by omega)) (fun k t hk => h2 k t (by omega)) with ⟨e, k, hk, hck⟩ | ⟨e, hall⟩
      · exact Or.inl ⟨by show f n (it f n t0) = v; rw [h2 n _ (by omega) hc, e], k, by omega, hck⟩
      · refine Or.inr ⟨by show f n (it f n t0) = t0; rw [h2 n _ (by omega) hc, e], fun k hk => ?_⟩
        by_cases hkn : k = n
        · rw [hkn]
          exact hc
        · exact hall k (by omega)
theorem it_sm {f : Nat → Int32} : ∀ {n : Nat}, it (fun k t => t + f k) n 0 = sm f n := by
  intro n
  induction n with
  | zero => rfl
  | succ n ih =>
    show it (fun k t => t + f k) n 0 + f n = sm f n + f n
    rw [ih]
/-! what holds of groups by a potential -/
def QF (q : Grp) (g : Nat → Int32) : Prop := (∀ k, q.1 k ≤ k) ∧ (∀ k, q.1 (q.1 k) = q.1 k) ∧ (∀ k, q.2 k = g k ^^^ g (q.1 k)) ∧ ∀ k, (q.2 k = 0 ∨ q.2 k = 1)
theorem x01 {a b : Int32} (ha : a = 0 ∨ a = 1) (hb : b = 0 ∨ b = 1) : a ^^^ b = 0 ∨ a ^^^ b = 1 := by
  rcases ha with rfl | rfl <;> rcases hb with rfl | rfl <;> decide
theorem jn_01 {q : Grp} {x : Str4} (h : ∀ k, (q.2 k = 0 ∨ q.2 k = 1)) (hx : x.2.2.1 = 0 ∨ x.2.2.1 = 1) : ∀ k, ((jn q x).2 k = 0 ∨ (jn q x).2 k = 1) := by
  intro k
  by_cases hs : q.1 x.1 = q.1 x.2.1
  · rw [jn_same hs]
    exact h k
  · rw [jn_2 hs]
    split
    · exact x01 (h k) (x01 (x01 (h _) (h _)) hx)
    · exact h k
theorem foldl_01 : ∀ (L : List Str4) (q : Grp), (∀ x ∈ L, x.2.2.1 = 0 ∨ x.2.2.1 = 1) → (∀ k, (q.2 k = 0 ∨ q.2 k = 1)) → ∀ k, ((L.foldl jn q).2 k = 0 ∨ (L.foldl jn q).2 k = 1) := by
  intro L
  induction L with
  | nil => intro q _ h; exact h
  | cons y L ih => intro q hL h; exact ih _ (fun x hx => hL x (List.mem_cons_of_mem _ hx)) (jn_01 h (hL y List.mem_cons_self))
theorem grp_QF {L : List Str4} {n : Nat} {g : Nat → Int32} (hin : InL L n) (hg : Pot L g) : QF (grp L) g :=
  ⟨grp_le L, fun k => (grp_top hg k).1, fun k => (grp_Iv hg).1.2.2 k, foldl_01 L g0 (fun x hx => (hin x hx).2.2) (fun _ => Or.inl rfl)⟩
theorem QF.top {q : Grp} {g : Nat → Int32} (h : QF q g) (k : Nat) : q.2 (q.1 k) = 0 := by rw [h.2.2.1, h.2.1, Int32.xor_self]
theorem xor_p {a b c : Int32} : (a ^^^ (a ^^^ b)) ^^^ (c ^^^ b) = c := by
  rw [← Int32.xor_assoc a a b, Int32.xor_self, Int32.zero_xor, Int32.xor_comm c b, ← Int32.xor_assoc, Int32.xor_self, Int32.zero_xor]
theorem xor_q {a b : Int32} : a ^^^ (a ^^^ b) = b := by rw [← Int32.xor_assoc, Int32.xor_self, Int32.zero_xor]
theorem xor_r {a b : Int32} : a ^^^ (b ^^^ a) = b := by rw [Int32.xor_comm b a, xor_q]
/-- puppets' numbers, and pulls that keep the potential -/
def AW (n : Nat) (se le pu : Nat → Int32) (L : List Str4) (g : Nat → Int32) : Prop := n ≤ 12 ∧ InL L n ∧ Pot L g ∧ ∀ k, k < n → (∃ m, 1 ≤ m ∧ m ≤ 9 ∧ se k = nI m) ∧ (le k = 0 ∨ le k = 1) ∧ (pu k = -1 ∨ pu k = 0 ∨ pu k = 1) ∧ (pu k ≠ -1 → g k = pu k)
theorem AW.q {n : Nat} {se le pu : Nat → Int32} {L : List Str4} {g : Nat → Int32} (h : AW n se le pu L g) : QF (grp L) g := grp_QF h.2.1 h.2.2.1
/-- the group of the lowest puppet j is pulled -/
def hp (n : Nat) (pu : Nat → Int32) (q : Grp) (j : Nat) : Prop := ∃ m, m < n ∧ pu m ≠ -1 ∧ q.1 m = j
theorem p01 {a : Int32} (h : a = -1 ∨ a = 0 ∨ a = 1) (h2 : a ≠ -1) : a = 0 ∨ a = 1 := h.resolve_left h2
theorem hp_g {n : Nat} {se le pu : Nat → Int32} {L : List Str4} {g : Nat → Int32} (h : AW n se le pu L g) {k m : Nat} (hm : m < n) (hpm : pu m ≠ -1) (e : (grp L).1 m = (grp L).1 k) : (pu m ^^^ (grp L).2 m) ^^^ (grp L).2 k = g k ∧ (g k = 0 ∨ g k = 1) := by
  have hq := h.q
  obtain ⟨-, -, h3, h4⟩ := h.2.2.2 m hm
  have e1 : (pu m ^^^ (grp L).2 m) ^^^ (grp L).2 k = g k := by rw [← h4 hpm, hq.2.2.1 m, hq.2.2.1 k, e, xor_p]
  refine ⟨e1, ?_⟩
  rw [← e1]
  exact x01 (x01 (p01 h3 hpm) (hq.2.2.2 m)) (hq.2.2.2 k)
theorem ld_01 {n j : Nat} {se le : Nat → Int32} {q : Grp} (h : le j = 0 ∨ le j = 1) : ld n se le q j = 0 ∨ ld n se le q j = 1 := by
  unfold ld
  split
  · exact h
  · split
    · exact Or.inl rfl
    · exact Or.inr rfl
/-- the votes v -/
def Vk (n : Nat) (se le pu : Nat → Int32) (q : Grp) (g v : Nat → Int32) (k : Nat) : Prop := (hp n pu q (q.1 k) → v k = g k) ∧ (¬ hp n pu q (q.1 k) → v k = ld n se le q (q.1 k) ^^^ q.2 k)
def Vt (n : Nat) (se le pu : Nat → Int32) (q : Grp) (g v : Nat → Int32) : Prop := ∀ k, k < n → Vk n se le pu q g v k
theorem Vt.one {n : Nat} {se le pu : Nat → Int32} {q : Grp} {g v w : Nat → Int32} (h : Vt n se le pu q g v) (h' : Vt n se le pu q g w) : ∀ k, k < n → v k = w k := by
  intro k hk
  rcases Classical.em (hp n pu q (q.1 k)) with c | c
  · rw [(h k hk).1 c, (h' k hk).1 c]
  · rw [(h k hk).2 c, (h' k hk).2 c]
theorem Vt.b {n : Nat} {se le pu : Nat → Int32} {L : List Str4} {g v : Nat → Int32} (hA : AW n se le pu L g) (h : Vt n se le pu (grp L) g v) : ∀ k, k < n → (v k = 0 ∨ v k = 1) := by
  intro k hk
  have hq := hA.q
  have := hq.1 k
  rcases Classical.em (hp n pu (grp L) ((grp L).1 k)) with c | c
  · rw [(h k hk).1 c]
    obtain ⟨m, h1, h2, h3⟩ := c
    exact (hp_g hA h1 h2 h3).2
  · rw [(h k hk).2 c]
    exact x01 (ld_01 (hA.2.2.2 _ (by omega)).2.1) (hq.2.2.2 k)
theorem VTi_Vt {n : Nat} {se le pu : Nat → Int32} {L : List Str4} {g v : Nat → Int32} (hA : AW n se le pu L g) (h : ∀ i, i < n → VTi n se le pu (grp L) v i) : Vt n se le pu (grp L) g v := by
  have hq := hA.q
  have hlow : ∀ k, k < n → ¬ hp n pu (grp L) ((grp L).1 k) → (grp L).1 k = k → v k = ld n se le (grp L) k := by
    intro k hk c e
    obtain ⟨r, hr, hv⟩ := h k hk
    rcases hr with ⟨rfl, -⟩ | ⟨m, h1, h2, h3, -⟩
    · rw [hv, if_pos rfl, if_pos e]
    · exact absurd ⟨m, h1, h2, h3⟩ c
  intro k hk
  have qk := hq.1 k
  refine ⟨fun c => ?_, fun c => ?_⟩
  · obtain ⟨r, hr, hv⟩ := h k hk
    rcases hr with ⟨-, hr⟩ | ⟨m, h1, h2, h3, h4⟩
    · obtain ⟨m, h1, h2, h3⟩ := c
      exact absurd h3 (hr m h1 h2)
    · obtain ⟨e1, e2⟩ := hp_g hA h1 h2 h3
      rw [e1] at h4
      rw [hv, if_neg (by rw [h4]; rcases e2 with e2 | e2 <;> rw [e2] <;> decide), h4]
  · obtain ⟨r, hr, hv⟩ := h k hk
    rcases hr with ⟨rfl, -⟩ | ⟨m, h1, h2, h3, -⟩
    · rw [hv, if_pos rfl]
      by_cases e : (grp L).1 k = k
      · have e2 := hq.top k
        rw [e] at e2
        rw [if_pos e, e, e2, Int32.xor_zero]
      · have e3 := hq.2.1 k
        rw [if_neg e, hlow _ (by omega) (by rw [e3]; exact c) e3]
    · exact absurd ⟨m, h1, h2, h3⟩ c
theorem pulled_it {M : SMod} {n j : Nat} {se le pu : Nat → Int32} {L : List Str4} {q : Grp} {x : Int32} (hn : n ≤ 12) (hM : RMB (M.1 0) n se le pu L) (hl : LK M q n) (hp3 : ∀ k, k < n → pu k = -1 ∨ pu k = 0 ∨ pu k = 1) (hq : ∀ k, q.1 k ≤ k) (hj : j < n) :
    X7_pulled M (nI j) x = some (it (fun k t => if q.1 k = j ∧ nI k ≠ x ∧ pu k ≠ -1 then pu k ^^^ q.2 k else t) n (-1000004)) := by
  unfold X7_pulled
  refine bind_some' (loop_it (f := fun fu t i => X7_pulled_L6 fu M (nI j) x t i) (n := n) _ (fun t => t) (by omega) ?_ ?_ _)
  · intro fu k t hk
    have e148 : M.1 0 (Int32.toNatClampNeg 148) = nI n := hM.1
    have qk := hq k
    have e2 : X7_of M (nI k) 2 = some (pu k + 1) := by rw [← (hM.2.1 k hk).2.2]; exact of_spec M (k := k) (c := 2) (by omega)
    have hpe : pu k + 1 - 1 = pu k := by
      rcases hp3 k hk with e | e | e <;> rw [e] <;> decide
    have hple : pu k + 1 ≤ 0 ↔ pu k = -1 := by
      rcases hp3 k hk with e | e | e <;> rw [e] <;> decide
    show X7_pulled_L6 (fu + 1) M (nI j) x t (nI k) = X7_pulled_L6 fu M (nI j) x _ (nI (k + 1))
    rw [X7_pulled_L6, e148, if_neg (nI_ge hk (by omega)), if_pos (ix_ok (by omega) (by omega)), ix_to (by omega), (hl k hk).1, (hl k hk).2, bind_some' e2, bind_some' e2, nI_1, hpe]
    by_cases h1 : q.1 k = j
    · rw [if_pos (by rw [h1])]
      by_cases h2 : nI k = x
      · rw [if_pos h2, if_neg (fun z => z.2.1 h2)]
      · rw [if_neg h2]
        by_cases h3 : pu k = -1
        · rw [if_pos (hple.mpr h3), if_neg (fun z => z.2.2 h3)]
        · rw [if_neg (fun z => h3 (hple.mp z)), if_pos ⟨h1, h2, h3⟩]
    · rw [if_neg (by rw [nI_eq (by omega) (by omega)]; exact h1), if_neg (fun z => h1 z.1)]
  · intro fu t
    have e148 : M.1 0 (Int32.toNatClampNeg 148) = nI n := hM.1
    show X7_pulled_L6 (fu + 1) M (nI j) x t (nI n) = _
    rw [X7_pulled_L6, e148, if_pos (nI_le (Nat.le_refl n) (by omega))]
/-- the reference's vote of a lowest puppet by pulls of others than x -/
theorem pulled_spec {M : SMod} {n j : Nat} {se le pu : Nat → Int32} {L L0 : List Str4} {g : Nat → Int32} {x : Int32} (hA : AW n se le pu L g) (hM : RMB (M.1 0) n se le pu L0) (hl : LK M (grp L) n) (hj : j < n) :
    ∃ r, X7_pulled M (nI j) x = some r ∧ ((r = -1000004 ∧ ∀ m, m < n → nI m ≠ x → pu m ≠ -1 → (grp L).1 m ≠ j) ∨ (r = g j ∧ (r = 0 ∨ r = 1) ∧ ∃ m, m < n ∧ nI m ≠ x ∧ pu m ≠ -1 ∧ (grp L).1 m = j)) := by
  have hq := hA.q
  refine ⟨_, pulled_it hA.1 hM hl (fun k hk => (hA.2.2.2 k hk).2.2.1) hq.1 hj, ?_⟩
  rcases it_if (f := fun k t => if (grp L).1 k = j ∧ nI k ≠ x ∧ pu k ≠ -1 then pu k ^^^ (grp L).2 k else t) (c := fun k => (grp L).1 k = j ∧ nI k ≠ x ∧ pu k ≠ -1) (v := g j) (t0 := -1000004) (n := n) (fun k t hk c => by
      show (if (grp L).1 k = j ∧ nI k ≠ x ∧ pu k ≠ -1 then pu k ^^^ (grp L).2 k else t) = g j
      rw [if_pos c, ← (hA.2.2.2 k hk).2.2.2 c.2.2, hq.2.2.1, xor_q, c.1]) (fun k t _ c => if_neg c) with ⟨e, k, hk, c⟩ | ⟨e, h⟩
  · right
    rw [e]
    have e4 : (grp L).1 k = (grp L).1 j := by rw [← c.1, hq.2.1]
    exact ⟨rfl, (hp_g hA hk c.2.2 e4).2, k, hk, c.2.1, c.2.2, c.1⟩
  · left
    rw [e]
    exact ⟨rfl, fun m hm h1 h2 h3 => h m hm ⟨h3, h1, h2⟩⟩
theorem byLeanings_spec {M : SMod} {n j : Nat} {se le pu : Nat → Int32} {L : List Str4} {q : Grp} (hn : n ≤ 12) (hM : RMB (M.1 0) n se le pu L) (hl : LK M q n) (hq : ∀ k, q.1 k ≤ k) (hj : j < n) : X7_byLeanings M (nI j) = some (ld n se le q j) := by
  unfold X7_byLeanings
  have hyn : ∀ m, it (fun k (t : Int32 × Int32) => (t.1 + (if q.1 k = j ∧ ¬ le k = q.2 k then se k else 0), t.2 + (if q.1 k = j ∧ le k = q.2 k then se k else 0))) m (0, 0) = (ys se le q j m, ns se le q j m) := by
    intro m
    induction m with
    | zero => rfl
    | succ m ih =>
      rw [it, ih]
      rfl
  have hlp := loop_it (f := fun fu (t : Int32 × Int32) i => X7_byLeanings_L7 fu M (nI j) t.1 t.2 i) (n := n) (fun k (t : Int32 × Int32) => (t.1 + (if q.1 k = j ∧ ¬ le k = q.2 k then se k else 0), t.2 + (if q.1 k = j ∧ le k = q.2 k then se k else 0))) (fun t => t) (by omega) (by
    intro fu k t hk
    have e148 : M.1 0 (Int32.toNatClampNeg 148) = nI n := hM.1
    have qk := hq k
    have e0 : X7_of M (nI k) 0 = some (se k) := by rw [← (hM.2.1 k hk).1]; exact of_spec M (k := k) (c := 0) (by omega)
    have e1 : X7_of M (nI k) 1 = some (le k) := by rw [← (hM.2.1 k hk).2.1]; exact of_spec M (k := k) (c := 1) (by omega)
    have hJ : X7_byLeanings_J28 M (nI j) t.1 t.2 (nI k) (nI j) (nI (q.1 k)) = some (if q.1 k = j then se k else 0) := by
      unfold X7_byLeanings_J28
      by_cases h1 : q.1 k = j
      · rw [if_pos (by rw [h1]), if_pos h1, bind_some' e0]
      · rw [if_neg (by rw [nI_eq (by omega) (by omega)]; exact h1), if_neg h1]
    show X7_byLeanings_L7 (fu + 1) M (nI j) t.1 t.2 (nI k) = X7_byLeanings_L7 fu M (nI j) _ _ (nI (k + 1))
    rw [X7_byLeanings_L7, e148, if_neg (nI_ge hk (by omega)), if_pos (ix_ok (by omega) (by omega)), ix_to (by omega), (hl k hk).1, (hl k hk).2, bind_some' hJ, bind_some' e1, bind_some' e1, nI_1]
    unfold X7_byLeanings_J59
    by_cases h1 : q.1 k = j
    · rw [if_pos h1]
      by_cases h2 : le k = q.2 k
      · rw [if_pos h2, if_pos h2, if_neg (fun z => z.2 h2), if_pos ⟨h1, h2⟩]
      · rw [if_neg h2, if_neg h2, if_pos ⟨h1, h2⟩, if_neg (fun z => h2 z.2)]
    · by_cases h2 : le k = q.2 k
      · rw [if_neg h1, if_pos h2, if_pos h2, if_neg (fun z => h1 z.1), if_neg (fun z => h1 z.1)]
      · rw [if_neg h1, if_neg h2, if_neg h2, if_neg (fun z => h1 z.1), if_neg (fun z => h1 z.1)]) (by
    intro fu t
    have e148 : M.1 0 (Int32.toNatClampNeg 148) = nI n := hM.1
    show X7_byLeanings_L7 (fu + 1) M (nI j) t.1 t.2 (nI n) = _
    rw [X7_byLeanings_L7, e148, if_pos (nI_le (Nat.le_refl n) (by omega))]) (0, 0)
  rw [hyn] at hlp
  have hlp : X7_byLeanings_L7 FUEL M (nI j) 0 0 0 = some (ys se le q j n, ns se le q j n) := hlp
  have e1 : X7_of M (nI j) 1 = some (le j) := by rw [← (hM.2.1 j hj).2.1]; exact of_spec M (k := j) (c := 1) (by omega)
  rw [bind_some' hlp]
  show (if ys se le q j n ≤ ns se le q j n then _ else _) = _
  unfold ld
  by_cases h1 : ys se le q j n ≤ ns se le q j n
  · rw [if_pos h1]
    by_cases h2 : ns se le q j n ≤ ys se le q j n
    · rw [if_pos h2, bind_some' e1, if_pos (Int32.le_antisymm h1 h2)]
    · rw [if_neg h2, if_neg (fun z => h2 (by rw [z]; exact Int32.le_refl _)), if_pos h1]
  · rw [if_neg h1, if_neg (fun z => h1 (by rw [z]; exact Int32.le_refl _)), if_neg h1]
/-- a row of votes put in place -/
def sm6 (M : SMod) (v : Nat → Int32) : SMod := (up M.1 6 v, M.2)
theorem sm6_k (M : SMod) (v : Nat → Int32) : KeepS M (sm6 M v) := ⟨fun i _ _ h6 _ => up_ne M.1 v h6, rfl⟩
theorem sm6_lk {M : SMod} {q : Grp} {n : Nat} (h : LK M q n) (v : Nat → Int32) : LK (sm6 M v) q n := fun k hk => h k hk
theorem votes_spec {M : SMod} {n : Nat} {se le pu : Nat → Int32} {L L0 : List Str4} {g : Nat → Int32} (hA : AW n se le pu L g) (hM : RMB (M.1 0) n se le pu L0) (hl : LK M (grp L) n) :
    ∃ M', X7_votes M = some (M', sm (fun i => M'.1 6 i * se i) n) ∧ KeepS M M' ∧ LK M' (grp L) n ∧ Vt n se le pu (grp L) g (M'.1 6) := by
  have hq := hA.q
  have hn := hA.1
  unfold X7_votes
  obtain ⟨u, ⟨h1, h2, h3, h4⟩, h5⟩ := loop_FUEL (f := fun fu (y : SMod × Int32) i => X7_votes_L4 fu y.1 y.2 i) (n := n)
    (fun k y => KeepS M y.1 ∧ LK y.1 (grp L) n ∧ (∀ i, i < k → Vk n se le pu (grp L) g (y.1.1 6) i) ∧ y.2 = sm (fun i => y.1.1 6 i * se i) k)
    (fun y => KeepS M y.1 ∧ LK y.1 (grp L) n ∧ (∀ i, i < n → Vk n se le pu (grp L) g (y.1.1 6) i) ∧ y.2 = sm (fun i => y.1.1 6 i * se i) n) (by omega)
    (by
      rintro fu k ⟨K, t⟩ hk ⟨hb, hlk, hv, ht⟩
      right
      have hv : ∀ i, i < k → Vk n se le pu (grp L) g (K.1 6) i := hv
      have ht : t = sm (fun i => K.1 6 i * se i) k := ht
      have qk := hq.1 k
      have hMK : RMB (K.1 0) n se le pu L0 := by rw [hb.s]; exact hM
      have e148 : K.1 0 (Int32.toNatClampNeg 148) = nI n := hMK.1
      have hix := ix_ok (k := k) (N := 12) (by omega) (by omega)
      have hto := ix_to (k := k) (by omega)
      have hJ : ∃ w, X7_votes_J23 K t (nI k) (nI k) (nI ((grp L).1 k)) = some (sm6 K (upd (K.1 6) k w)) ∧ (w = 0 ∨ w = 1) ∧ ((hp n pu (grp L) ((grp L).1 k) → w = g k) ∧ (¬ hp n pu (grp L) ((grp L).1 k) → w = ld n se le (grp L) ((grp L).1 k) ^^^ (grp L).2 k)) := by
        unfold X7_votes_J23
        by_cases hs : (grp L).1 k = k
        · rw [if_pos (by rw [hs])]
          have hsd := hq.top k
          rw [hs] at hsd
          obtain ⟨r, hr, hc⟩ := pulled_spec (x := -1000004) hA hMK hlk hk
          rw [bind_some' hr]
          rcases hc with ⟨rfl, hc⟩ | ⟨hr1, hr2, m, hm1, hm2, hm3, hm4⟩
          · rw [if_neg (by decide), bind_some' (byLeanings_spec hn hMK hlk hq.1 hk), if_pos hix, hto]
            refine ⟨ld n se le (grp L) k, rfl, ld_01 (hA.2.2.2 k hk).2.1, fun c => ?_, fun _ => ?_⟩
            · obtain ⟨m, z1, z2, z3⟩ := c
              rw [hs] at z3
              exact absurd z3 (hc m z1 (by rw [show (-1000004 : Int32) = -1000004 from rfl]; intro z; exact absurd (by rw [z]; decide : nI m < 0) (nI_pos (by omega))) z2)
            · rw [hs, hsd, Int32.xor_zero]
          · rw [if_pos (by rcases hr2 with e | e <;> rw [e] <;> decide), if_pos hix, hto]
            refine ⟨r, rfl, hr2, fun _ => hr1, fun c => absurd ⟨m, hm1, hm3, by rw [hm4, hs]⟩ c⟩
        · rw [if_neg (by rw [nI_eq (by omega) (by omega)]; exact hs), if_pos hix, hto, (hlk k hk).1, (hlk k hk).2, if_pos (ix_ok (by omega) (by omega)), ix_to (by omega)]
          have hvv := hv ((grp L).1 k) (by omega)
          unfold Vk at hvv
          rw [hq.2.1, hq.top, Int32.xor_zero] at hvv
          refine ⟨K.1 6 ((grp L).1 k) ^^^ (grp L).2 k, rfl, x01 ?_ (hq.2.2.2 k), fun c => ?_, fun c => ?_⟩
          · rcases Classical.em (hp n pu (grp L) ((grp L).1 k)) with c | c
            · rw [hvv.1 c]
              obtain ⟨m, z1, z2, z3⟩ := c
              exact (hp_g hA z1 z2 (by rw [z3, hq.2.1])).2
            · rw [hvv.2 c]
              exact ld_01 (hA.2.2.2 _ (by omega)).2.1
          · rw [hvv.1 c, hq.2.2.1, xor_r]
          · rw [hvv.2 c]
      obtain ⟨w, j1, j2, j3⟩ := hJ
      have hb2 : KeepS M (sm6 K (upd (K.1 6) k w)) := hb.tr (sm6_k _ _)
      have e0 : X7_of (sm6 K (upd (K.1 6) k w)) (nI k) 0 = some (se k) := by rw [← (hMK.2.1 k hk).1]; exact of_spec (sm6 K (upd (K.1 6) k w)) (k := k) (c := 0) (by omega)
      refine ⟨(sm6 K (upd (K.1 6) k w), t + w * se k), ⟨hb2, sm6_lk hlk _, fun i hi => ?_, ?_⟩, ?_⟩
      · show Vk n se le pu (grp L) g (upd (K.1 6) k w) i
        unfold Vk
        by_cases hik : i = k
        · subst hik
          rw [upd_at, if_pos rfl]
          exact j3
        · rw [upd_at, if_neg hik]
          exact hv i (by omega)
      · show t + w * se k = sm (fun i => upd (K.1 6) k w i * se i) k + upd (K.1 6) k w k * se k
        rw [upd_at, if_pos rfl, ht]
        congr 1
        exact sm_cong (fun i hi => by rw [upd_at, if_neg (by omega)])
      · show X7_votes_L4 (fu + 1) K t (nI k) = X7_votes_L4 fu (sm6 K (upd (K.1 6) k w)) (t + w * se k) (nI (k + 1))
        rw [X7_votes_L4, e148, if_neg (nI_ge hk (by omega)), if_pos hix, hto, (hlk k hk).1, bind_some' j1]
        show (if upd (K.1 6) k w k = 1 then _ else _) = _
        rw [upd_at, if_pos rfl, nI_1]
        rcases j2 with rfl | rfl
        · rw [if_neg (by decide), Int32.zero_mul]
        · rw [if_pos rfl, bind_some' e0, Int32.one_mul])
    (by
      rintro fu ⟨K, t⟩ hi
      have hMK : RMB (K.1 0) n se le pu L0 := by rw [hi.1.s]; exact hM
      have e148 : K.1 0 (Int32.toNatClampNeg 148) = nI n := hMK.1
      refine ⟨(K, t), hi, ?_⟩
      show X7_votes_L4 (fu + 1) K t (nI n) = _
      rw [X7_votes_L4, e148, if_pos (nI_le (Nat.le_refl n) (by omega))])
    (k := 0) (s := (M, 0)) (x := 0) (Nat.zero_le n) rfl ⟨KeepS.rf M, hl, fun i hi => absurd hi (Nat.not_lt_zero i), rfl⟩
  have h5 : X7_votes_L4 FUEL M 0 0 = some u := h5
  rw [bind_some' h5]
  refine ⟨u.1, ?_, h1, h2, h3⟩
  rw [← h4]
/-- all strings, or all but one -/
theorem looks_all {M : SMod} {n : Nat} {se le pu : Nat → Int32} {L : List Str4} {g : Nat → Int32} (hA : AW n se le pu L g) (hM : RMB (M.1 0) n se le pu L) : ∃ M', X7_looks M (-1000004) = some M' ∧ LK M' (grp L) n ∧ KeepS M M' := by
  have hlen := hM.2.2.2.1
  refine looks_spec hA.1 hM hA.2.1 hA.2.2.1 (fun k hk _ => sg_mem hk) (fun x hx => ?_)
  obtain ⟨k, hk, e⟩ := List.getElem_of_mem hx
  exact ⟨k, hk, fun z => absurd (by rw [z]; decide : nI k < 0) (nI_pos (by omega)), by rw [sg_eq hk]; exact e⟩
theorem yesNow_spec {M : SMod} {n : Nat} {se le pu : Nat → Int32} {L : List Str4} {g : Nat → Int32} (hA : AW n se le pu L g) (hM : RMB (M.1 0) n se le pu L) : ∃ M', X7_yesNow M = some (M', sm (fun i => M'.1 6 i * se i) n) ∧ KeepS M M' ∧ LK M' (grp L) n ∧ Vt n se le pu (grp L) g (M'.1 6) := by
  obtain ⟨M1, h1, h2, h3⟩ := looks_all hA hM
  obtain ⟨M2, g1, g2, g3, g4⟩ := votes_spec hA (by rw [h3.s]; exact hM) h2
  unfold X7_yesNow
  rw [bind_some' h1, bind_some' g1]
  exact ⟨M2, rfl, h3.tr g2, g3, g4⟩
theorem seats_spec {M : SMod} {n : Nat} {se le pu : Nat → Int32} {L : List Str4} (hn : n ≤ 12) (hM : RMB (M.1 0) n se le pu L) : X7_seats M = some (sm se n) := by
  unfold X7_seats
  rw [← it_sm]
  refine bind_some' (loop_it (f := fun fu t i => X7_seats_L4 fu M t i) (n := n) _ (fun t => t) (by omega) ?_ ?_ _)
  · intro fu k t hk
    have e148 : M.1 0 (Int32.toNatClampNeg 148) = nI n := hM.1
    have e0 : X7_of M (nI k) 0 = some (se k) := by rw [← (hM.2.1 k hk).1]; exact of_spec M (k := k) (c := 0) (by omega)
    show X7_seats_L4 (fu + 1) M t (nI k) = X7_seats_L4 fu M (t + se k) (nI (k + 1))
    rw [X7_seats_L4, e148, if_neg (nI_ge hk (by omega)), bind_some' e0, nI_1]
  · intro fu t
    have e148 : M.1 0 (Int32.toNatClampNeg 148) = nI n := hM.1
    show X7_seats_L4 (fu + 1) M t (nI n) = _
    rw [X7_seats_L4, e148, if_pos (nI_le (Nat.le_refl n) (by omega))]
