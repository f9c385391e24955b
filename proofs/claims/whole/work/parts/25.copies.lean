abbrev rm_X7_copies : Room := { frames := 0, cells := 0, slots := 0, locals := 0 }
set_option maxHeartbeats 4000000 in
set_option maxRecDepth 100000 in
/-- copies(from, to): 156 cells -/
theorem c_X7_copies (l : Launch) (D : va_G) (cI cP : ClassId) (d1 d2 : Nat) (f g : Nat → Int32) : MWv l yX7_copies cX7_copies 3 none rm_X7_copies D cI cP [.ref d1, .ref d2] ([(d2, .inl (cI, 156, .inl g))] ++ [(d1, .inl (cI, 156, .inl f))]) ([(d2, .inl (cI, 156, .inl f))] ++ [(d1, .inl (cI, 156, .inl f))]) := by
  refine MWv.of (by decide +kernel) (Nat.le_of_ble_eq_true rfl) ?_
  intro p e s m args below meth c ls A F hX hP hD hA hS hl
  have F : Fx p s m args meth c RX7 cX7_copies 3 none := F
  have hx := F.1
  have hb := F.2.1
  have hown := F.2.2.2.1
  have hts := F.2.2.2.2.1
  have hl : lv_has ls 3 [(0, .ref d1), (1, .ref d2)] := hl
  have hL : ∀ (n i : Nat) (g : Nat → Int32) (H : Heap) (locs : List Loc) (ls : Array Slot), i ≤ 156 → 156 < i + n → (∀ j, j < i → g j = f j) → va_P D vwCl [(d2, .inl (cI, 156, .inl g)), (d1, .inl (cI, 156, .inl f))] H → va_D A [(d2, .inl (cI, 156, .inl g)), (d1, .inl (cI, 156, .inl f))] → va_S A s.heap H locs → lv_has ls 3 [(0, .ref d1), (1, .ref d2), (2, .int (nI i))] → W p l e rm_X7_copies s m args below meth c H locs 0 0 (QWv D below args s A ([(d2, .inl (cI, 156, .inl f))] ++ [(d1, .inl (cI, 156, .inl f))])) (F0 m 2 ls []) := by
    intro n
    induction n with
    | zero =>
      intro i g H locs ls h1 h2
      exact absurd h2 (by omega)
    | succ n ih =>
      intro i g H locs ls h1 h2 hg hP hD hS hl
      refine lv_iload_n hx hb dX7_copies_2 rfl (lv_at hl 2 rfl) ?_
      refine lv_sipush (v := 156) hx hb dX7_copies_3 (by decide) ?_
      refine lv_icmp_ge (tgt := 21) hx hb dX7_copies_6 (by decide) (fun c0 => ?_) (fun c0 => ?_)
      · have hi : i = 156 := by
          rcases Nat.lt_or_ge i 156 with q | q
          · exact absurd c0 (nI_ge (b := 156) q (by omega))
          · omega
        subst hi
        have hP2 : va_P D vwCl ([(d2, .inl (cI, 156, .inl f))] ++ [(d1, .inl (cI, 156, .inl f))]) H := by
          refine vP_iff.mpr fun q hq => ?_
          have hq : q ∈ [(d2, .inl (cI, 156, .inl f)), (d1, .inl (cI, 156, .inl f))] := hq
          rcases List.mem_cons.mp hq with rfl | hq
          · have h3 := hP 0 _ rfl
            show H[d2]? = some (vp_cell cI (156, .inl f))
            rw [vp_congr (f := f) (g := g) (fun j hj => (hg j hj).symm)]
            exact h3
          rcases List.mem_cons.mp hq with rfl | hq
          · exact hP 1 _ rfl
          · cases hq
        exact wr_v F hP2 hS dX7_copies_21
      · have hi : i < 156 := by
          rcases Nat.lt_or_ge i 156 with q | q
          · exact q
          · exact absurd (nI_le (a := 156) q (by omega)) c0
        have hin : vp_in (nI i) 156 := vp_in_nI hi (by omega)
        have e2 : (nI i).toNatClampNeg = i := nI_clamp (by omega)
        refine lv_aload_n hx hb dX7_copies_9 rfl (lv_at hl 1 rfl) ?_
        refine lv_iload_n hx hb dX7_copies_10 rfl (lv_at hl 2 rfl) ?_
        refine lv_aload_n hx hb dX7_copies_11 rfl (lv_at hl 0 rfl) ?_
        refine lv_iload_n hx hb dX7_copies_12 rfl (lv_at hl 2 rfl) ?_
        refine va_iald hx hb hX.1 hP 1 0 (n := 156) (f := f) rfl rfl hin dX7_copies_13 ?_
        refine va_iast hx hb hX.1 hP hD hS 0 0 (n := 156) (f := g) rfl rfl hin dX7_copies_14 (fun H locs hP hD hS => ?_)
        refine lv_iinc (v := nI (i + 1)) (lv' := [(2, .int (nI (i + 1))), (0, .ref d1), (1, .ref d2)]) hx hb dX7_copies_15 hl (k := 2) rfl (nI_1 i) (by decide) rfl (fun ls hl => ?_)
        refine lv_goto (tgt := 2) hx hb dX7_copies_18 (by decide) ?_
        rw [e2] at hP hD
        exact ih (i + 1) (upd g i (f i)) H locs ls hi (by omega) (fun j hj => by
          by_cases hji : j = i
          · subst hji
            exact pk_us
          · rw [pk_un hji]
            exact hg j (by omega)) hP hD hS (lv_sub hl [1, 2, 0] rfl)
  refine lv_iconst (v := 0) hx hb dX7_copies_0 (by decide) ?_
  refine lv_istore_n (lv' := [(2, .int 0), (0, .ref d1), (1, .ref d2)]) hx hb dX7_copies_1 rfl hl (by decide) rfl (fun ls hl => ?_)
  exact hL 157 0 g _ _ ls (by omega) (by omega) (fun j hj => absurd hj (by omega)) hP hD hS (lv_sub hl [1, 2, 0] rfl)
