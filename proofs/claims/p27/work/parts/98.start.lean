/-! the law's walk, out of what a step keeps -/
theorem o_step : Op_step RelL := by
  intro e K z he hz h
  obtain ⟨Z, hZ, rfl⟩ := nat_of hz
  have hw : ∃ W, W < 18 ∧ wayOf e (nI Z) = nI W := by
    unfold wayOf
    by_cases c : 6 ≤ e
    · rw [if_pos (show (6 : Int32) ≤ nI e from nI_le (a := 6) c (by omega))]
      exact ⟨Z % 18, by omega, pk_rem (d := 18) hZ (by omega) (by omega)⟩
    · rw [if_neg (show ¬ (6 : Int32) ≤ nI e from nI_ge (b := 6) (by omega) (by omega))]
      exact ⟨Z % 2, by omega, pk_rem (d := 2) hZ (by omega) (by omega)⟩
  obtain ⟨W, hW, hw⟩ := hw
  obtain ⟨K1, a1, a2⟩ := acted_l (Y := Z / 18) h he hW (by omega)
  obtain ⟨K2, b1, b2⟩ := arePuppets_l a2 (by omega)
  obtain ⟨K3, c1, c2⟩ := areStrings_l b2 (by omega)
  obtain ⟨K4, d1, d2⟩ := areWhys_l (Z := Z / 7) c2 (by omega)
  exact ⟨K1, K2, K3, K4, by rw [hw, d18e hZ]; exact a1, b1, c1, by rw [d7e hZ]; exact d1, d2⟩
theorem RelL_0 : RelL 0 (K0_L, K0_X6) := by
  have hT : ∀ i, K0_L 3 i = if i = 7 then 3 else 0 := fun i => by
    show upd (fun _ => 0) (Int32.toNatClampNeg 7) 3 i = _
    rw [cl7]
    rfl
  refine ⟨⟨0, 0, by omega, by omega, rfl, rfl⟩, 0, fun _ => 0, fun _ => 0, fun _ => 0, [], fun _ => 0, ⟨by omega, fun x hx => (List.not_mem_nil hx).elim, fun x hx => (List.not_mem_nil hx).elim, fun k hk => absurd hk (Nat.not_lt_zero k)⟩, ⟨⟨rfl, fun k hk => absurd hk (Nat.not_lt_zero k)⟩, ⟨rfl, by decide, fun k hk => absurd hk (Nat.not_lt_zero k)⟩, fun k hk => absurd hk (Nat.not_lt_zero k), fun k hk => absurd hk (Nat.not_lt_zero k), rfl, rfl⟩, ⟨(hT 0).trans rfl, fun k hk => absurd hk (Nat.not_lt_zero k)⟩, ⟨(hT 1).trans rfl, by decide, fun k hk => absurd hk (Nat.not_lt_zero k)⟩, ⟨0, Or.inr ⟨rfl, rfl⟩, rfl, (hT 2).trans rfl⟩, ⟨3, by omega, rfl, (hT 7).trans rfl⟩, ⟨0, by omega, rfl, (hT 3).trans rfl, (hT 5).trans rfl⟩, ((hT 4).trans rfl).symm, fun k hk => rfl, ((hT 6).trans rfl).symm⟩
theorem whole_start {p : Program} {e : Env} {s : State} {m : MethodId} {below : List Frame} {meth : Method} {c : Code} (l : Launch) (_hflags : l.flags = flags0) {b L : Nat} {xs : Nat → Int32} (hL : L ≤ 260) (C0 : lw_At p s m meth c b L xs) : W p l e room_1 s m #[Value.ref b] below meth c s.heap [] 0 0 (lw_Z below #[Value.ref b] s) (entryFrame m ([Value.ref b] : List Value).toArray 9) :=
  whole_open l hL C0 (Rel := RelL) o_step RelL_0
