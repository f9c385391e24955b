/-! cuts -/
theorem sg_erase (L : List Str4) (j k : Nat) : sg (L.eraseIdx j) k = if k < j then sg L k else sg L (k + 1) := by
  unfold sg
  rw [List.getD_eq_getElem?_getD, List.getElem?_eraseIdx]
  split
  · rw [List.getD_eq_getElem?_getD]
  · rw [List.getD_eq_getElem?_getD]
theorem len_erase {L : List Str4} {j : Nat} (h : j < L.length) : (L.eraseIdx j).length = L.length - 1 := List.length_eraseIdx_of_lt h
theorem row_removeAt {f : Nat → Int32} {j : Nat} (hj : j < 20) : X2_removeAt 20 f (nI j) = some (fun k => if j ≤ k ∧ k < 19 then f (k + 1) else f k) := by
  unfold X2_removeAt
  rw [if_pos (nI_pos' (by omega))]
  obtain ⟨r, h1, h2⟩ := loop_FUEL (f := fun fu (K : Nat → Int32) i => X2_removeAt_L7 fu 20 K i) (n := 19)
    (fun k K => j ≤ k ∧ K = fun i => if j ≤ i ∧ i < k then f (i + 1) else f i) (fun K => K = fun i => if j ≤ i ∧ i < 19 then f (i + 1) else f i) (by omega)
    (by
      rintro fu k K hk ⟨hjk, rfl⟩
      right
      refine ⟨_, ⟨by omega, rfl⟩, ?_⟩
      show X2_removeAt_L7 (fu + 1) 20 _ (nI k) = _
      rw [X2_removeAt_L7, show nI 20 - 1 = nI 19 from by decide, nI_1, if_neg (nI_ge (by omega) (by omega)), if_pos (ixg (by omega) (by omega)), if_pos (ixg (by omega) (by omega)), nI_clamp (by omega), nI_clamp (by omega)]
      show X2_removeAt_L7 fu 20 (upd (fun i => if j ≤ i ∧ i < k then f (i + 1) else f i) k (if j ≤ k + 1 ∧ k + 1 < k then f (k + 1 + 1) else f (k + 1))) (nI (k + 1)) = X2_removeAt_L7 fu 20 (fun i => if j ≤ i ∧ i < k + 1 then f (i + 1) else f i) (nI (k + 1))
      rw [if_neg (by omega)]
      congr 2
      funext i
      rw [upd_at]
      by_cases hik : i = k
      · rw [if_pos hik, if_pos (by omega), hik]
      · rw [if_neg hik]
        by_cases hi2 : j ≤ i ∧ i < k
        · rw [if_pos hi2, if_pos (by omega)]
        · rw [if_neg hi2, if_neg (by omega)])
    (by
      rintro fu K ⟨-, rfl⟩
      refine ⟨_, rfl, ?_⟩
      show X2_removeAt_L7 (fu + 1) 20 _ (nI 19) = _
      rw [X2_removeAt_L7, show nI 20 - 1 = nI 19 from by decide, nI_1, if_pos (nI_le (by omega) (by omega))])
    (k := j) (s := f) (x := nI j) (by omega) rfl ⟨Nat.le_refl j, by
      funext i
      rw [if_neg (by omega)]⟩
  have h2 : X2_removeAt_L7 FUEL 20 f (nI j) = some r := h2
  rw [bind_some' h2, h1]
theorem strs_spec {K : SStr} {L : List Str4} {j : Nat} (hK : RS K L) (hj : j < L.length) : ∃ K', X3_removeAt K (nI j) = some K' ∧ RS K' (L.eraseIdx j) ∧ K'.2 1 = K.2 1 + 1 := by
  have hlen := hK.2.1
  refine ⟨(up (up (up (up K.1 0 (fun k => if j ≤ k ∧ k < 19 then K.1 0 (k + 1) else K.1 0 k)) 1 (fun k => if j ≤ k ∧ k < 19 then K.1 1 (k + 1) else K.1 1 k)) 2 (fun k => if j ≤ k ∧ k < 19 then K.1 2 (k + 1) else K.1 2 k)) 3 (fun k => if j ≤ k ∧ k < 19 then K.1 3 (k + 1) else K.1 3 k), up (up K.2 0 (K.2 0 - 1)) 1 (K.2 1 + 1)), ?_, ⟨?_, ?_, fun k hk => ?_⟩, rfl⟩
  · unfold X3_removeAt
    rw [bind_some' (row_removeAt (by omega))]
    show Option.bind (X2_removeAt 20 (K.1 1) (nI j)) _ = _
    rw [bind_some' (row_removeAt (by omega))]
    show Option.bind (X2_removeAt 20 (K.1 2) (nI j)) _ = _
    rw [bind_some' (row_removeAt (by omega))]
    show Option.bind (X2_removeAt 20 (K.1 3) (nI j)) _ = _
    rw [bind_some' (row_removeAt (by omega))]
    rfl
  · show K.2 0 - 1 = _
    obtain ⟨m, hm⟩ : ∃ m, L.length = m + 1 := ⟨L.length - 1, by omega⟩
    rw [hK.1, len_erase hj, hm, nI_pred]
    rfl
  · rw [len_erase hj]
    omega
  · rw [len_erase hj] at hk
    show (if j ≤ k ∧ k < 19 then K.1 0 (k + 1) else K.1 0 k) = _ ∧ (if j ≤ k ∧ k < 19 then K.1 1 (k + 1) else K.1 1 k) = _ ∧ (if j ≤ k ∧ k < 19 then K.1 2 (k + 1) else K.1 2 k) = _ ∧ (if j ≤ k ∧ k < 19 then K.1 3 (k + 1) else K.1 3 k) = _
    rw [sg_erase]
    by_cases hkj : k < j
    · rw [if_pos hkj, if_neg (by omega), if_neg (by omega), if_neg (by omega), if_neg (by omega)]
      exact hK.2.2 k (by omega)
    · rw [if_neg hkj, if_pos (by omega), if_pos (by omega), if_pos (by omega), if_pos (by omega)]
      exact hK.2.2 (k + 1) (by omega)
theorem AW.sub {n : Nat} {se le pu : Nat → Int32} {L L' : List Str4} {g : Nat → Int32} (h : AW n se le pu L g) (hs : ∀ x ∈ L', x ∈ L) : AW n se le pu L' g := ⟨h.1, fun x hx => h.2.1 x (hs x hx), fun x hx => h.2.2.1 x (hs x hx), h.2.2.2⟩
theorem erase_mem {L : List Str4} {j : Nat} : ∀ x ∈ L.eraseIdx j, x ∈ L := fun _ hx => List.mem_of_mem_eraseIdx hx
theorem ButS_RB {P : SPar} {n : Nat} {se le pu : Nat → Int32} (K : SStr) (h : RB P n se le pu) : RB (P.1, P.2.1, K, P.2.2.2) n se le pu := h
/-- the class's strings and the account's -/
def SR (K : SStr) (s : Nat → Int32) (L : List Str4) : Prop := RS K L ∧ s 149 = nI L.length ∧ (∀ k, k < L.length → s (36 + 4 * k) = nI (sg L k).1 ∧ s (36 + 4 * k + 1) = nI (sg L k).2.1 ∧ s (36 + 4 * k + 2) = (sg L k).2.2.1 ∧ s (36 + 4 * k + 3) = (sg L k).2.2.2) ∧ K.2 1 = s 154
