/-! session -/
theorem loop_dn {σ ρ : Type} {f : Nat → σ → Int32 → Option ρ} (inv : Nat → σ → Prop) (post : ρ → Prop)
    (hs : ∀ fu k s, 4 ≤ k → k ≤ 31 → inv k s → ∃ s', inv (k - 1) s' ∧ f (fu + 1) s (nI k) = f fu s' (nI (k - 1)))
    (hx : ∀ fu s, inv 3 s → ∃ r, post r ∧ f (fu + 1) s (nI 3) = some r) :
    ∀ (d : Nat) (s : σ) (fu : Nat), d < fu → d ≤ 28 → inv (3 + d) s → ∃ r, post r ∧ f fu s (nI (3 + d)) = some r := by
  intro d
  induction d with
  | zero =>
    intro s fu hf _ hi
    obtain ⟨g, rfl⟩ : ∃ g, fu = g + 1 := ⟨fu - 1, by omega⟩
    exact hx g s hi
  | succ d ih =>
    intro s fu hf hd hi
    obtain ⟨g, rfl⟩ : ∃ g, fu = g + 1 := ⟨fu - 1, by omega⟩
    obtain ⟨s', h1, h2⟩ := hs g (3 + (d + 1)) s (by omega) (by omega) hi
    rw [show 3 + (d + 1) - 1 = 3 + d from by omega] at h1 h2
    obtain ⟨r, h3, h4⟩ := ih s' g (by omega) (by omega) h1
    exact ⟨r, h3, h2.trans h4⟩
theorem loop_dn31 {σ ρ : Type} {f : Nat → σ → Int32 → Option ρ} (inv : Nat → σ → Prop) (post : ρ → Prop)
    (hs : ∀ fu k s, 4 ≤ k → k ≤ 31 → inv k s → ∃ s', inv (k - 1) s' ∧ f (fu + 1) s (nI k) = f fu s' (nI (k - 1)))
    (hx : ∀ fu s, inv 3 s → ∃ r, post r ∧ f (fu + 1) s (nI 3) = some r) {s : σ} (hi : inv 31 s) : ∃ r, post r ∧ f FUEL s 31 = some r :=
  loop_dn inv post hs hx 28 s FUEL (by unfold FUEL; omega) (Nat.le_refl _) hi
theorem nI_dn {k : Nat} (h : 4 ≤ k) : nI k + (-1) = nI (k - 1) := by
  obtain ⟨m, rfl⟩ : ∃ m, k = m + 1 := ⟨k - 1, by omega⟩
  exact pk_m1 m
theorem enter_spec (B : SBook) (a b c d : Int32) : X0_enter B a b c d = some (upd (upd (upd (upd (fun k => if 4 ≤ k ∧ k < 32 then B.1 (k - 4) else B.1 k) 0 a) 1 b) 2 c) 3 d, up (up B.2 0 (B.2 0 + 1)) 1 (B.2 1 + c)) := by
  unfold X0_enter
  obtain ⟨K, rfl, h2⟩ := loop_dn31 (f := fun fu (K : SBook) i => X0_enter_L4 fu K a b c d i)
    (fun k K => K = (fun i => if k < i ∧ i < 32 then B.1 (i - 4) else B.1 i, B.2)) (fun K => K = (fun i => if 4 ≤ i ∧ i < 32 then B.1 (i - 4) else B.1 i, B.2))
    (by
      rintro fu k K hk1 hk2 rfl
      refine ⟨_, rfl, ?_⟩
      have e4 : nI k - 4 = nI (k - 4) := pk_sub (b := 4) (by omega)
      show X0_enter_L4 (fu + 1) _ a b c d (nI k) = _
      rw [X0_enter_L4, if_neg (show ¬ nI k < 4 from nI_nlt (b := 4) hk1 (by omega)), e4, nI_dn hk1, rget_n _ (by omega) (by omega), rput_n _ _ (by omega) (by omega)]
      show X0_enter_L4 fu (upd (fun i => if k < i ∧ i < 32 then B.1 (i - 4) else B.1 i) k (if k < k - 4 ∧ k - 4 < 32 then B.1 (k - 4 - 4) else B.1 (k - 4)), B.2) a b c d (nI (k - 1)) = X0_enter_L4 fu (fun i => if k - 1 < i ∧ i < 32 then B.1 (i - 4) else B.1 i, B.2) a b c d (nI (k - 1))
      rw [if_neg (by omega)]
      congr 2
      funext i
      rw [upd_at]
      by_cases hik : i = k
      · rw [if_pos hik, if_pos (by omega), hik]
      · rw [if_neg hik]
        by_cases hi2 : k < i ∧ i < 32
        · rw [if_pos hi2, if_pos (by omega)]
        · rw [if_neg hi2, if_neg (by omega)])
    (by
      rintro fu K rfl
      refine ⟨_, rfl, ?_⟩
      show X0_enter_L4 (fu + 1) _ a b c d (nI 3) = _
      rw [X0_enter_L4, if_pos (show nI 3 < 4 by decide)]
      rfl)
    (s := B) (by
      have : (fun i => if 31 < i ∧ i < 32 then B.1 (i - 4) else B.1 i) = B.1 := by
        funext i
        rw [if_neg (by omega)]
      rw [this])
  have h2 : X0_enter_L4 FUEL B a b c d 31 = _ := h2
  rw [bind_some' h2]
  have r0 : ∀ (f : Nat → Int32) v, rput 32 f 0 v = upd f 0 v := fun f v => rput_n (k := 0) f v (by omega) (by omega)
  have r1 : ∀ (f : Nat → Int32) v, rput 32 f 1 v = upd f 1 v := fun f v => rput_n (k := 1) f v (by omega) (by omega)
  have r2 : ∀ (f : Nat → Int32) v, rput 32 f 2 v = upd f 2 v := fun f v => rput_n (k := 2) f v (by omega) (by omega)
  have r3 : ∀ (f : Nat → Int32) v, rput 32 f 3 v = upd f 3 v := fun f v => rput_n (k := 3) f v (by omega) (by omega)
  show some (rput 32 (rput 32 (rput 32 (rput 32 (fun i => if 4 ≤ i ∧ i < 32 then B.1 (i - 4) else B.1 i) 0 a) 1 b) 2 c) 3 d, up (up B.2 0 (B.2 0 + 1)) 1 (B.2 1 + c)) = _
  rw [r0, r1, r2, r3]
def wp (al ye v : Int32) : Int32 := if ye = al - ye then v else if ye ≤ al - ye then 0 else 1
theorem wp01 {al ye v : Int32} (h : v = 0 ∨ v = 1) : wp al ye v = 0 ∨ wp al ye v = 1 := by
  unfold wp
  split
  · exact h
  · split
    · exact Or.inl rfl
    · exact Or.inr rfl
theorem wouldPass_spec {P : SPar} {n sp : Nat} {se le pu : Nat → Int32} {L : List Str4} {g : Nat → Int32} (hn : n ≤ 12) (hP : RC P n se le pu L g) (h1 : P.2.1 1 = nI sp) (hsp : sp < n) : X1_wouldPass P = wp (sm se n) (sm (fun i => P.1 5 i * se i) n) (P.1 5 sp) := by
  unfold X1_wouldPass wp
  rw [hP.2.2.2.2.1, hP.2.2.2.2.2, h1, rget_n _ (by omega) (by omega)]
theorem clearC_spec {P : SPar} {n : Nat} (x : Int32) (hn : n ≤ 12) (h0 : P.2.1 0 = nI n) : X1_holdSession_L85 FUEL P x 0 = some (stR P 2 (fun i => if i < n then -1 else P.1 2 i)) := by
  obtain ⟨K, rfl, h2⟩ := loop_FUEL (f := fun fu (K : SPar) i => X1_holdSession_L85 fu K x i) (n := n)
    (fun k K => K = stR P 2 (fun i => if i < k then -1 else P.1 2 i)) (fun K => K = stR P 2 (fun i => if i < n then -1 else P.1 2 i)) (by omega)
    (by
      rintro fu k K hk rfl
      right
      refine ⟨_, rfl, ?_⟩
      show X1_holdSession_L85 (fu + 1) _ x (nI k) = _
      rw [X1_holdSession_L85]
      show (if P.2.1 0 ≤ nI k then _ else _) = _
      rw [h0, if_neg (nI_ge hk (by omega)), nI_1, rput_n _ _ (by omega) (by omega)]
      show X1_holdSession_L85 fu (up (up P.1 2 (fun i => if i < k then -1 else P.1 2 i)) 2 (upd (fun i => if i < k then -1 else P.1 2 i) k (-1)), P.2) x (nI (k + 1)) = X1_holdSession_L85 fu (up P.1 2 (fun i => if i < k + 1 then -1 else P.1 2 i), P.2) x (nI (k + 1))
      rw [up_up]
      congr 4
      funext i
      rw [upd_at]
      by_cases hik : i = k
      · rw [if_pos hik, if_pos (by omega)]
      · rw [if_neg hik]
        by_cases hi2 : i < k
        · rw [if_pos hi2, if_pos (by omega)]
        · rw [if_neg hi2, if_neg (by omega)])
    (by
      rintro fu K rfl
      refine ⟨_, rfl, ?_⟩
      show X1_holdSession_L85 (fu + 1) _ x (nI n) = _
      rw [X1_holdSession_L85]
      show (if P.2.1 0 ≤ nI n then _ else _) = _
      rw [h0, if_pos (nI_le (Nat.le_refl n) (by omega))])
    (k := 0) (s := P) (x := 0) (Nat.zero_le n) rfl (by
      have : (fun i => if i < 0 then (-1 : Int32) else P.1 2 i) = P.1 2 := by
        funext i
        rw [if_neg (by omega)]
      unfold stR
      rw [this, up_self])
  exact h2

