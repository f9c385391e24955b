/-! pulls, releases, the setting, puppets -/
theorem sm_nat {f : Nat → Int32} : ∀ {n : Nat}, (∀ k, k < n → ∃ m, m ≤ 9 ∧ f k = nI m) → ∃ m, m ≤ 9 * n ∧ sm f n = nI m := by
  intro n
  induction n with
  | zero => intro _; exact ⟨0, by omega, rfl⟩
  | succ n ih =>
    intro h
    obtain ⟨m, h1, h2⟩ := ih (fun k hk => h k (by omega))
    obtain ⟨j, h3, h4⟩ := h n (by omega)
    exact ⟨m + j, by omega, by show sm f n + f n = _; rw [h2, h4, nI_add]⟩
theorem vs_nat {n : Nat} {se le pu : Nat → Int32} {L : List Str4} {g v : Nat → Int32} (hA : AW n se le pu L g) (h : Vt n se le pu (grp L) g v) : ∀ k, k < n → ∃ m, m ≤ 9 ∧ v k * se k = nI m := by
  intro k hk
  obtain ⟨m, -, h2, h3⟩ := (hA.2.2.2 k hk).1
  rcases h.b hA k hk with e | e
  · exact ⟨0, by omega, by rw [e, Int32.zero_mul]; rfl⟩
  · exact ⟨m, h2, by rw [e, Int32.one_mul, h3]⟩
theorem yes_nat {n : Nat} {se le pu : Nat → Int32} {L : List Str4} {g v : Nat → Int32} (hA : AW n se le pu L g) (h : Vt n se le pu (grp L) g v) : ∃ m, m ≤ 108 ∧ sm (fun i => v i * se i) n = nI m := by
  obtain ⟨m, h1, h2⟩ := sm_nat (vs_nat hA h)
  have := hA.1
  exact ⟨m, by omega, h2⟩
theorem yes_eq {n : Nat} {se le pu : Nat → Int32} {q : Grp} {g v w : Nat → Int32} (h : Vt n se le pu q g v) (h' : Vt n se le pu q g w) : sm (fun i => v i * se i) n = sm (fun i => w i * se i) n := sm_cong (fun i hi => by rw [h.one h' i hi])
theorem EXc {P P' : SPar} {s s' : Nat → Int32} {n n' : Nat} (h : EX P s n) (h1 : P'.2.1 1 = P.2.1 1) (h2 : P'.2.1 2 = P.2.1 2) (h3 : P'.2.2.2 = P.2.2.2) (h4 : P'.2.2.1.2 1 = s' 154) (h5 : ∀ i, 116 ≤ i → i < 156 → i ≠ 148 → i ≠ 149 → i ≠ 154 → s' i = s i) (h6 : ∀ k, n' ≤ k → k < 12 → s' (3 * k + 2) = 0) (h7 : n ≤ n') : EX P' s' n' := by
  obtain ⟨⟨sp, e1, e2, e3⟩, ⟨b, e4, e5, e6⟩, ⟨ss, e7, e8, e9, e10⟩, e11, e12, e13, e14⟩ := h
  refine ⟨⟨sp, by omega, by rw [h1, e2], by rw [h5 150 (by omega) (by omega) (by omega) (by omega) (by omega), e3]⟩, ⟨b, e4, by rw [h2, e5], by rw [h5 155 (by omega) (by omega) (by omega) (by omega) (by omega), e6]⟩, ⟨ss, e7, by rw [h3, e8], by rw [h5 151 (by omega) (by omega) (by omega) (by omega) (by omega), e9], by rw [h5 153 (by omega) (by omega) (by omega) (by omega) (by omega), e10]⟩, by rw [h3, h5 152 (by omega) (by omega) (by omega) (by omega) (by omega), e11], fun k hk => by rw [h3, h5 _ (by omega) (by omega) (by omega) (by omega) (by omega), e12 k hk], h4, h6⟩
  
theorem EX.v {P P' : SPar} {s : Nat → Int32} {n : Nat} (h : EX P s n) (hv : ButV P P') : EX P' s n :=
  EXc h (hv.2.1 1 (by decide)) (hv.2.1 2 (by decide)) (by rw [hv.2.2]) (by rw [hv.2.2]; exact h.2.2.2.2.2.1) (fun _ _ _ _ _ _ => rfl) h.2.2.2.2.2.2 (Nat.le_refl n)
/-- puppets' numbers in the account, when strings stay -/
theorem RMBp {s s' : Nat → Int32} {n n' : Nat} {se le pu se' le' pu' : Nat → Int32} {L : List Str4} (h : RMB s n se le pu L) (h1 : s' 148 = nI n') (h2 : ∀ k, k < n' → s' (3 * k) = se' k ∧ s' (3 * k + 1) = le' k ∧ s' (3 * k + 2) = pu' k + 1) (h3 : ∀ i, 36 ≤ i → i < 150 → i ≠ 148 → s' i = s i) : RMB s' n' se' le' pu' L := by
  obtain ⟨-, -, e3, e4, e5⟩ := h
  refine ⟨h1, h2, by rw [h3 149 (by omega) (by omega) (by omega), e3], e4, fun k hk => ?_⟩
  rw [h3 _ (by omega) (by omega) (by omega), h3 _ (by omega) (by omega) (by omega), h3 _ (by omega) (by omega) (by omega), h3 _ (by omega) (by omega) (by omega)]
  exact e5 k hk
/-! the reasons against a pull -/
def hpo (n : Nat) (pu : Nat → Int32) (q : Grp) (p : Nat) : Prop := ∃ m, m < n ∧ m ≠ p ∧ pu m ≠ -1 ∧ q.1 m = q.1 p
def cno (n : Nat) (pu : Nat → Int32) (p : Nat) : Int32 := it (fun k (t : Int32) => if k ≠ p ∧ pu k ≠ -1 then t + 1 else t) n 0
def BR (n : Nat) (pu : Nat → Int32) (q : Grp) (g : Nat → Int32) (sp b p : Nat) (w r : Int32) : Prop :=
  (p = sp ∧ r = 1) ∨ (p ≠ sp ∧ (hpo n pu q p ∧ g p ≠ w) ∧ r = 2) ∨ (p ≠ sp ∧ ¬ (hpo n pu q p ∧ g p ≠ w) ∧ ((¬ cno n pu p < nI b ∧ r = 3) ∨ (cno n pu p < nI b ∧ r = 0)))
theorem BR.one {n : Nat} {pu : Nat → Int32} {q : Grp} {g : Nat → Int32} {sp b p : Nat} {w r r' : Int32} (h : BR n pu q g sp b p w r) (h' : BR n pu q g sp b p w r') : r = r' := by
  rcases h with ⟨a1, rfl⟩ | ⟨a1, a2, rfl⟩ | ⟨a1, a2, ⟨a3, rfl⟩ | ⟨a3, rfl⟩⟩ <;> rcases h' with ⟨b1, rfl⟩ | ⟨b1, b2, rfl⟩ | ⟨b1, b2, ⟨b3, rfl⟩ | ⟨b3, rfl⟩⟩ <;> first | rfl | (exact absurd a1 b1) | (exact absurd b1 a1) | (exact absurd a2 b2) | (exact absurd b2 a2) | (exact absurd a3 b3) | (exact absurd b3 a3)
theorem BR.c {n : Nat} {pu : Nat → Int32} {q : Grp} {g : Nat → Int32} {sp b p : Nat} {w r : Int32} (h : BR n pu q g sp b p w r) : r = 0 ∨ r = 1 ∨ r = 2 ∨ r = 3 := by
  rcases h with ⟨a1, rfl⟩ | ⟨a1, a2, rfl⟩ | ⟨a1, a2, ⟨a3, rfl⟩ | ⟨a3, rfl⟩⟩ <;> decide
theorem reasonPull_spec {P : SPar} {n : Nat} {se le pu : Nat → Int32} {L : List Str4} {g : Nat → Int32} {sp b p : Nat} {w : Int32} (hA : AW n se le pu L g) (hP : RC P n se le pu L g) (h1 : P.2.1 1 = nI sp) (h2 : P.2.1 2 = nI b) (hsp : sp ≤ 12) (hp : p < n) : ∃ r, X1_reasonAgainstPull P (nI p) w = some r ∧ BR n pu (grp L) g sp b p w r := by
  have hn := hA.1
  have hq := hA.q
  unfold X1_reasonAgainstPull
  rw [h1]
  by_cases hs : p = sp
  · rw [if_pos (by rw [hs])]
    exact ⟨1, rfl, Or.inl ⟨hs, rfl⟩⟩
  · rw [if_neg (by rw [nI_eq (by omega) (by omega)]; exact hs)]
    obtain ⟨r, h3, h4⟩ := loop_FUEL (f := fun fu (t : Int32) i => X1_reasonAgainstPull_L15 fu P (nI p) w t i) (n := n)
      (fun k t => t = it (fun k (t : Int32) => if k ≠ p ∧ pu k ≠ -1 then t + 1 else t) k 0 ∧ ∀ m, m < k → m ≠ p → pu m ≠ -1 → (grp L).1 m = (grp L).1 p → g p = w)
      (fun r => BR n pu (grp L) g sp b p w r) (by omega)
      (by
        rintro fu k t hk ⟨ht, hall⟩
        have qk := hq.1 k
        have qp := hq.1 p
        have a2 : rget 12 (P.1 2) (nI k) = pu k := by rw [rget_n _ (by omega) (by omega), (hP.1.2 k hk).2.2]
        have a3 : rget 12 (P.1 3) (nI k) = nI ((grp L).1 k) := by rw [rget_n _ (by omega) (by omega), (hP.2.2.1 k hk).1]
        have a4 : rget 12 (P.1 4) (nI k) = (grp L).2 k := by rw [rget_n _ (by omega) (by omega), (hP.2.2.1 k hk).2]
        have b3 : rget 12 (P.1 3) (nI p) = nI ((grp L).1 p) := by rw [rget_n _ (by omega) (by omega), (hP.2.2.1 p hp).1]
        have b4 : rget 12 (P.1 4) (nI p) = (grp L).2 p := by rw [rget_n _ (by omega) (by omega), (hP.2.2.1 p hp).2]
        have go : X1_reasonAgainstPull_L15 (fu + 1) P (nI p) w t (nI k) = if k = p then X1_reasonAgainstPull_L15 fu P (nI p) w t (nI (k + 1)) else if pu k = -1 then X1_reasonAgainstPull_L15 fu P (nI p) w t (nI (k + 1)) else if (grp L).1 k = (grp L).1 p then (if g p = w then X1_reasonAgainstPull_L15 fu P (nI p) w (t + 1) (nI (k + 1)) else some 2) else X1_reasonAgainstPull_L15 fu P (nI p) w (t + 1) (nI (k + 1)) := by
          rw [X1_reasonAgainstPull_L15, hP.1.1, if_neg (nI_ge hk (by omega)), nI_1]
          by_cases c1 : k = p
          · rw [if_pos (by rw [c1]), if_pos c1]
          · rw [if_neg (by rw [nI_eq (by omega) (by omega)]; exact c1), if_neg c1]
            unfold X1_isPulled X1_hangTogether
            rw [a2, a3, a4, b3, b4]
            by_cases c2 : pu k = -1
            · rw [if_pos c2, if_pos rfl, if_pos c2]
            · rw [if_neg c2, if_neg (show ¬ (1 : Int32) = 0 by decide), if_neg c2]
              by_cases c3 : (grp L).1 k = (grp L).1 p
              · rw [if_pos (show nI ((grp L).1 k) = nI ((grp L).1 p) by rw [c3]), if_neg (show ¬ (1 : Int32) = 0 by decide), if_pos c3, (hp_g hA hk c2 c3).1]
              · rw [if_neg (show ¬ nI ((grp L).1 k) = nI ((grp L).1 p) by rw [nI_eq (by omega) (by omega)]; exact c3), if_pos rfl, if_neg c3]
        have stepI : it (fun k (t : Int32) => if k ≠ p ∧ pu k ≠ -1 then t + 1 else t) (k + 1) 0 = if k ≠ p ∧ pu k ≠ -1 then t + 1 else t := by
          rw [ht]
          rfl
        by_cases c1 : k = p
        · right
          refine ⟨t, ⟨by rw [stepI, if_neg (fun z => z.1 c1)], fun m hm hmp => ?_⟩, ?_⟩
          · exact hall m (by omega) hmp
          · show X1_reasonAgainstPull_L15 (fu + 1) P (nI p) w t (nI k) = _
            rw [go, if_pos c1]
        · by_cases c2 : pu k = -1
          · right
            refine ⟨t, ⟨by rw [stepI, if_neg (fun z => z.2 c2)], fun m hm hmp hpm => ?_⟩, ?_⟩
            · by_cases hmk : m = k
              · rw [hmk] at hpm
                exact absurd c2 hpm
              · exact hall m (by omega) hmp hpm
            · show X1_reasonAgainstPull_L15 (fu + 1) P (nI p) w t (nI k) = _
              rw [go, if_neg c1, if_pos c2]
          · by_cases c3 : (grp L).1 k = (grp L).1 p
            · by_cases c4 : g p = w
              · right
                refine ⟨t + 1, ⟨by rw [stepI, if_pos ⟨c1, c2⟩], fun m hm hmp hpm hqm => c4⟩, ?_⟩
                show X1_reasonAgainstPull_L15 (fu + 1) P (nI p) w t (nI k) = _
                rw [go, if_neg c1, if_neg c2, if_pos c3, if_pos c4]
              · left
                refine ⟨2, Or.inr (Or.inl ⟨hs, ⟨⟨k, hk, c1, c2, c3⟩, c4⟩, rfl⟩), ?_⟩
                show X1_reasonAgainstPull_L15 (fu + 1) P (nI p) w t (nI k) = _
                rw [go, if_neg c1, if_neg c2, if_pos c3, if_neg c4]
            · right
              refine ⟨t + 1, ⟨by rw [stepI, if_pos ⟨c1, c2⟩], fun m hm hmp hpm hqm => ?_⟩, ?_⟩
              · by_cases hmk : m = k
                · rw [hmk] at hqm
                  exact absurd hqm c3
                · exact hall m (by omega) hmp hpm hqm
              · show X1_reasonAgainstPull_L15 (fu + 1) P (nI p) w t (nI k) = _
                rw [go, if_neg c1, if_neg c2, if_neg c3])
      (by
        rintro fu t ⟨ht, hall⟩
        have hno : ¬ (hpo n pu (grp L) p ∧ g p ≠ w) := by
          rintro ⟨⟨m, z1, z2, z3, z4⟩, z5⟩
          exact z5 (hall m z1 z2 z3 z4)
        have go : X1_reasonAgainstPull_L15 (fu + 1) P (nI p) w t (nI n) = if t < nI b then some 0 else some 3 := by
          rw [X1_reasonAgainstPull_L15, hP.1.1, if_pos (nI_le (Nat.le_refl n) (by omega)), h2]
        by_cases hc : t < nI b
        · exact ⟨0, Or.inr (Or.inr ⟨hs, hno, Or.inr ⟨by rw [ht] at hc; exact hc, rfl⟩⟩), by
            show X1_reasonAgainstPull_L15 (fu + 1) P (nI p) w t (nI n) = _
            rw [go, if_pos hc]⟩
        · exact ⟨3, Or.inr (Or.inr ⟨hs, hno, Or.inl ⟨by rw [ht] at hc; exact hc, rfl⟩⟩), by
            show X1_reasonAgainstPull_L15 (fu + 1) P (nI p) w t (nI n) = _
            rw [go, if_neg hc]⟩)
      (k := 0) (s := 0) (x := 0) (Nat.zero_le n) rfl ⟨rfl, fun m hm => absurd hm (Nat.not_lt_zero m)⟩
    exact ⟨r, h4, h3⟩
