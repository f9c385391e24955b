/-! loops that only gather: what they gather -/
def it {σ : Type} (f : Nat → σ → σ) : Nat → σ → σ
  | 0, s => s
  | k + 1, s => f k (it f k s)
theorem it_cong {σ : Type} {f g : Nat → σ → σ} : ∀ {n : Nat} {s : σ}, (∀ k t, k < n → f k t = g k t) → it f n s = it g n s := by
  intro n
  induction n with
  | zero => intro _ _; rfl
  | succ n ih =>
    intro s h
    show f n (it f n s) = g n (it g n s)
    rw [ih (fun k t hk => h k t (by omega)), h n _ (by omega)]
theorem loop_itA {σ ρ : Type} {f : Nat → σ → Int32 → Option ρ} {n : Nat} (st : Nat → σ → σ) (out : σ → ρ)
    (hs : ∀ fu k s, k < n → f (fu + 1) s (nI k) = f fu (st k s) (nI (k + 1)))
    (hx : ∀ fu s, f (fu + 1) s (nI n) = some (out s)) : ∀ (d k : Nat) (s : σ) (fu : Nat), k + d = n → d < fu → f fu (it st k s) (nI k) = some (out (it st n s)) := by
  intro d
  induction d with
  | zero =>
    intro k s fu hk hf
    obtain ⟨g, rfl⟩ : ∃ g, fu = g + 1 := ⟨fu - 1, by omega⟩
    have : k = n := by omega
    subst this
    exact hx g _
  | succ d ih =>
    intro k s fu hk hf
    obtain ⟨g, rfl⟩ : ∃ g, fu = g + 1 := ⟨fu - 1, by omega⟩
    rw [hs g k _ (by omega)]
    exact ih (k + 1) s g (by omega) (by omega)
theorem loop_it {σ ρ : Type} {f : Nat → σ → Int32 → Option ρ} {n : Nat} (st : Nat → σ → σ) (out : σ → ρ) (hn : n ≤ 9000)
    (hs : ∀ fu k s, k < n → f (fu + 1) s (nI k) = f fu (st k s) (nI (k + 1)))
    (hx : ∀ fu s, f (fu + 1) s (nI n) = some (out s)) (s : σ) : f FUEL s 0 = some (out (it st n s)) :=
  loop_itA st out hs hx n 0 s FUEL (by omega) (by unfold FUEL; omega)
theorem it_if {σ : Type} {f : Nat → σ → σ} {c : Nat → Prop} {v t0 : σ} : ∀ {n : Nat}, (∀ k t, k < n → c k → f k t = v) → (∀ k t, k < n → ¬ c k → f k t = t) → (it f n t0 = v ∧ ∃ k, k < n ∧ c k) ∨ (it f n t0 = t0 ∧ ∀ k, k < n → ¬ c k) := by
  intro n
  induction n with
  | zero => intro _ _; exact Or.inr ⟨rfl, fun k hk => absurd hk (Nat.not_lt_zero k)⟩
  | succ n ih =>
    intro h1 h2
    rcases Classical.em (c n) with hc | hc
    · exact Or.inl ⟨h1 n _ (by omega) hc, n, by omega, hc⟩
    · rcases ih (fun k t hk => h1 k t (by omega)) (fun k t hk => h2 k t (by omega)) with ⟨e, k, hk, hck⟩ | ⟨e, hall⟩
      · exact Or.inl ⟨by show f n (it f n t0) = v; rw [h2 n _ (by omega) hc, e], k, by omega, hck⟩
      · refine Or.inr ⟨by show f n (it f n t0) = t0; rw [h2 n _ (by omega) hc, e], fun k hk => ?_⟩
        by_cases hkn : k = n
        · rw [hkn]
          exact hc
        · exact hall k (by omega)
theorem it_sm {f : Nat → Int32} : ∀ {n : Nat}, it (fun k t => t + f k) n 0 = sm f n := by
  intro n
  induction n with
  | zero => rfl
  | succ n ih =>
    show it (fun k t => t + f k) n 0 + f n = sm f n + f n
    rw [ih]
/-! what holds of groups by a potential -/
def QF (q : Grp) (g : Nat → Int32) : Prop := (∀ k, q.1 k ≤ k) ∧ (∀ k, q.1 (q.1 k) = q.1 k) ∧ (∀ k, q.2 k = g k ^^^ g (q.1 k)) ∧ ∀ k, (q.2 k = 0 ∨ q.2 k = 1)
theorem x01 {a b : Int32} (ha : a = 0 ∨ a = 1) (hb : b = 0 ∨ b = 1) : a ^^^ b = 0 ∨ a ^^^ b = 1 := by
  rcases ha with rfl | rfl <;> rcases hb with rfl | rfl <;> decide
theorem jn_01 {q : Grp} {x : Str4} (h : ∀ k, (q.2 k = 0 ∨ q.2 k = 1)) (hx : x.2.2.1 = 0 ∨ x.2.2.1 = 1) : ∀ k, ((jn q x).2 k = 0 ∨ (jn q x).2 k = 1) := by
  intro k
  by_cases hs : q.1 x.1 = q.1 x.2.1
  · rw [jn_same hs]
    exact h k
  · rw [jn_2 hs]
    split
    · exact x01 (h k) (x01 (x01 (h _) (h _)) hx)
    · exact h k
theorem foldl_01 : ∀ (L : List Str4) (q : Grp), (∀ x ∈ L, x.2.2.1 = 0 ∨ x.2.2.1 = 1) → (∀ k, (q.2 k = 0 ∨ q.2 k = 1)) → ∀ k, ((L.foldl jn q).2 k = 0 ∨ (L.foldl jn q).2 k = 1) := by
  intro L
  induction L with
  | nil => intro q _ h; exact h
  | cons y L ih => intro q hL h; exact ih _ (fun x hx => hL x (List.mem_cons_of_mem _ hx)) (jn_01 h (hL y List.mem_cons_self))
theorem grp_QF {L : List Str4} {n : Nat} {g : Nat → Int32} (hin : InL L n) (hg : Pot L g) : QF (grp L) g :=
  ⟨grp_le L, fun k => (grp_top hg k).1, fun k => (grp_Iv hg).1.2.2 k, foldl_01 L g0 (fun x hx => (hin x hx).2.2) (fun _ => Or.inl rfl)⟩
theorem QF.top {q : Grp} {g : Nat → Int32} (h : QF q g) (k : Nat) : q.2 (q.1 k) = 0 := by rw [h.2.2.1, h.2.1, Int32.xor_self]
theorem xor_p {a b c : Int32} : (a ^^^ (a ^^^ b)) ^^^ (c ^^^ b) = c := by
  rw [← Int32.xor_assoc a a b, Int32.xor_self, Int32.zero_xor, Int32.xor_comm c b, ← Int32.xor_assoc, Int32.xor_self, Int32.zero_xor]
theorem xor_q {a b : Int32} : a ^^^ (a ^^^ b) = b := by rw [← Int32.xor_assoc, Int32.xor_self, Int32.zero_xor]
theorem xor_r {a b : Int32} : a ^^^ (b ^^^ a) = b := by rw [Int32.xor_comm b a, xor_q]
/-- puppets' numbers, and pulls that keep the potential -/
def AW (n : Nat) (se le pu : Nat → Int32) (L : List Str4) (g : Nat → Int32) : Prop := n ≤ 12 ∧ InL L n ∧ Pot L g ∧ ∀ k, k < n → (∃ m, 1 ≤ m ∧ m ≤ 9 ∧ se k = nI m) ∧ (le k = 0 ∨ le k = 1) ∧ (pu k = -1 ∨ pu k = 0 ∨ pu k = 1) ∧ (pu k ≠ -1 → g k = pu k)
theorem AW.q {n : Nat} {se le pu : Nat → Int32} {L : List Str4} {g : Nat → Int32} (h : AW n se le pu L g) : QF (grp L) g := grp_QF h.2.1 h.2.2.1
/-- the group of the lowest puppet j is pulled -/
def hp (n : Nat) (pu : Nat → Int32) (q : Grp) (j : Nat) : Prop := ∃ m, m < n ∧ pu m ≠ -1 ∧ q.1 m = j
theorem p01 {a : Int32} (h : a = -1 ∨ a = 0 ∨ a = 1) (h2 : a ≠ -1) : a = 0 ∨ a = 1 := h.resolve_left h2
theorem hp_g {n : Nat} {se le pu : Nat → Int32} {L : List Str4} {g : Nat → Int32} (h : AW n se le pu L g) {k m : Nat} (hm : m < n) (hpm : pu m ≠ -1) (e : (grp L).1 m = (grp L).1 k) : (pu m ^^^ (grp L).2 m) ^^^ (grp L).2 k = g k ∧ (g k = 0 ∨ g k = 1) := by
  have hq := h.q
  obtain ⟨-, -, h3, h4⟩ := h.2.2.2 m hm
  have e1 : (pu m ^^^ (grp L).2 m) ^^^ (grp L).2 k = g k := by rw [← h4 hpm, hq.2.2.1 m, hq.2.2.1 k, e, xor_p]
  refine ⟨e1, ?_⟩
  rw [← e1]
  exact x01 (x01 (p01 h3 hpm) (hq.2.2.2 m)) (hq.2.2.2 k)
theorem ld_01 {n j : Nat} {se le : Nat → Int32} {q : Grp} (h : le j = 0 ∨ le j = 1) : ld n se le q j = 0 ∨ ld n se le q j = 1 := by
  unfold ld
  split
  · exact h
  · split
    · exact Or.inl rfl
    · exact Or.inr rfl
/-- the votes v -/
def Vk (n : Nat) (se le pu : Nat → Int32) (q : Grp) (g v : Nat → Int32) (k : Nat) : Prop := (hp n pu q (q.1 k) → v k = g k) ∧ (¬ hp n pu q (q.1 k) → v k = ld n se le q (q.1 k) ^^^ q.2 k)
def Vt (n : Nat) (se le pu : Nat → Int32) (q : Grp) (g v : Nat → Int32) : Prop := ∀ k, k < n → Vk n se le pu q g v k
theorem Vt.one {n : Nat} {se le pu : Nat → Int32} {q : Grp} {g v w : Nat → Int32} (h : Vt n se le pu q g v) (h' : Vt n se le pu q g w) : ∀ k, k < n → v k = w k := by
  intro k hk
  rcases Classical.em (hp n pu q (q.1 k)) with c | c
  · rw [(h k hk).1 c, (h' k hk).1 c]
  · rw [(h k hk).2 c, (h' k hk).2 c]
theorem Vt.b {n : Nat} {se le pu : Nat → Int32} {L : List Str4} {g v : Nat → Int32} (hA : AW n se le pu L g) (h : Vt n se le pu (grp L) g v) : ∀ k, k < n → (v k = 0 ∨ v k = 1) := by
  intro k hk
  have hq := hA.q
  have := hq.1 k
  rcases Classical.em (hp n pu (grp L) ((grp L).1 k)) with c | c
  · rw [(h k hk).1 c]
    obtain ⟨m, h1, h2, h3⟩ := c
    exact (hp_g hA h1 h2 h3).2
  · rw [(h k hk).2 c]
    exact x01 (ld_01 (hA.2.2.2 _ (by omega)).2.1) (hq.2.2.2 k)
theorem VTi_Vt {n : Nat} {se le pu : Nat → Int32} {L : List Str4} {g v : Nat → Int32} (hA : AW n se le pu L g) (h : ∀ i, i < n → VTi n se le pu (grp L) v i) : Vt n se le pu (grp L) g v := by
  have hq := hA.q
  have hlow : ∀ k, k < n → ¬ hp n pu (grp L) ((grp L).1 k) → (grp L).1 k = k → v k = ld n se le (grp L) k := by
    intro k hk c e
    obtain ⟨r, hr, hv⟩ := h k hk
    rcases hr with ⟨rfl, -⟩ | ⟨m, h1, h2, h3, -⟩
    · rw [hv, if_pos rfl, if_pos e]
    · exact absurd ⟨m, h1, h2, h3⟩ c
  intro k hk
  have qk := hq.1 k
  refine ⟨fun c => ?_, fun c => ?_⟩
  · obtain ⟨r, hr, hv⟩ := h k hk
    rcases hr with ⟨-, hr⟩ | ⟨m, h1, h2, h3, h4⟩
    · obtain ⟨m, h1, h2, h3⟩ := c
      exact absurd h3 (hr m h1 h2)
    · obtain ⟨e1, e2⟩ := hp_g hA h1 h2 h3
      rw [e1] at h4
      rw [hv, if_neg (by rw [h4]; rcases e2 with e2 | e2 <;> rw [e2] <;> decide), h4]
  · obtain ⟨r, hr, hv⟩ := h k hk
    rcases hr with ⟨rfl, -⟩ | ⟨m, h1, h2, h3, -⟩
    · rw [hv, if_pos rfl]
      by_cases e : (grp L).1 k = k
      · have e2 := hq.top k
        rw [e] at e2
        rw [if_pos e, e, e2, Int32.xor_zero]
      · have e3 := hq.2.1 k
        rw [if_neg e, hlow _ (by omega) (by rw [e3]; exact c) e3]
    · exact absurd ⟨m, h1, h2, h3⟩ c
