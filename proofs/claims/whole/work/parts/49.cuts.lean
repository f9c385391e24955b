/-! cuts -/
theorem sg_erase (L : List Str4) (j k : Nat) : sg (L.eraseIdx j) k = if k < j then sg L k else sg L (k + 1) := by
  unfold sg
  rw [List.getD_eq_getElem?_getD, List.getElem?_eraseIdx]
  split
  · rw [List.getD_eq_getElem?_getD]
  · rw [List.getD_eq_getElem?_getD]
theorem len_erase {L : List Str4} {j : Nat} (h : j < L.length) : (L.eraseIdx j).length = L.length - 1 := List.length_eraseIdx_of_lt h
theorem row_removeAt {f : Nat → Int32} {j : Nat} (hj : j < 20) : X2_removeAt 20 f (nI j) = some (fun k => if j ≤ k ∧ k < 19 then f (k + 1) else f k) := by
  unfold X2_removeAt
  rw [if_pos (nI_pos' (by omega))]
  obtain ⟨r, h1, h2⟩ := loop_FUEL (f := fun fu (K : Nat → Int32) i => X2_removeAt_L7 fu 20 K i) (n := 19)
    (fun k K => j ≤ k ∧ K = fun i => if j ≤ i ∧ i < k then f (i + 1) else f i) (fun K => K = fun i => if j ≤ i ∧ i < 19 then f (i + 1) else f i) (by omega)
    (by
      rintro fu k K hk ⟨hjk, rfl⟩
      right
      refine ⟨_, ⟨by omega, rfl⟩, ?_⟩
      show X2_removeAt_L7 (fu + 1) 20 _ (nI k) = _
      rw [X2_removeAt_L7, show nI 20 - 1 = nI 19 from by decide, nI_1, if_neg (nI_ge (by omega) (by omega)), if_pos (ixg (by omega) (by omega)), if_pos (ixg (by omega) (by omega)), nI_clamp (by omega), nI_clamp (by omega)]
      show X2_removeAt_L7 fu 20 (upd (fun i => if j ≤ i ∧ i < k then f (i + 1) else f i) k (if j ≤ k + 1 ∧ k + 1 < k then f (k + 1 + 1) else f (k + 1))) (nI (k + 1)) = X2_removeAt_L7 fu 20 (fun i => if j ≤ i ∧ i < k + 1 then f (i + 1) else f i) (nI (k + 1))
      rw [if_neg (by omega)]
      congr 2
      funext i
      rw [upd_at]
      by_cases hik : i = k
      · rw [if_pos hik, if_pos (by omega), hik]
      · rw [if_neg hik]
        by_cases hi2 : j ≤ i ∧ i < k
        · rw [if_pos hi2, if_pos (by omega)]
        · rw [if_neg hi2, if_neg (by omega)])
    (by
      rintro fu K ⟨-, rfl⟩
      refine ⟨_, rfl, ?_⟩
      show X2_removeAt_L7 (fu + 1) 20 _ (nI 19) = _
      rw [X2_removeAt_L7, show nI 20 - 1 = nI 19 from by decide, nI_1, if_pos (nI_le (by omega) (by omega))])
    (k := j) (s := f) (x := nI j) (by omega) rfl ⟨Nat.le_refl j, by
      funext i
      rw [if_neg (by omega)]⟩
  have h2 : X2_removeAt_L7 FUEL 20 f (nI j) = some r := h2
  rw [bind_some' h2, h1]
theorem strs_spec {K : SStr} {L : List Str4} {j : Nat} (hK : RS K L) (hj : j < L.length) : ∃ K', X3_removeAt K (nI j) = some K' ∧ RS K' (L.eraseIdx j) ∧ K'.2 1 = K.2 1 + 1 := by
  have hlen := hK.2.1
  refine ⟨(up (up (up (up K.1 0 (fun k => if j ≤ k ∧ k < 19 then K.1 0 (k + 1) else K.1 0 k)) 1 (fun k => if j ≤ k ∧ k < 19 then K.1 1 (k + 1) else K.1 1 k)) 2 (fun k => if j ≤ k ∧ k < 19 then K.1 2 (k + 1) else K.1 2 k)) 3 (fun k => if j ≤ k ∧ k < 19 then K.1 3 (k + 1) else K.1 3 k), up (up K.2 0 (K.2 0 - 1)) 1 (K.2 1 + 1)), ?_, ⟨?_, ?_, fun k hk => ?_⟩, rfl⟩
  · unfold X3_removeAt
    rw [bind_some' (row_removeAt (by omega))]
    show Option.bind (X2_removeAt 20 (K.1 1) (nI j)) _ = _
    rw [bind_some' (row_removeAt (by omega))]
    show Option.bind (X2_removeAt 20 (K.1 2) (nI j)) _ = _
    rw [bind_some' (row_removeAt (by omega))]
    show Option.bind (X2_removeAt 20 (K.1 3) (nI j)) _ = _
    rw [bind_some' (row_removeAt (by omega))]
    rfl
  · show K.2 0 - 1 = _
    obtain ⟨m, hm⟩ : ∃ m, L.length = m + 1 := ⟨L.length - 1, by omega⟩
    rw [hK.1, len_erase hj, hm, nI_pred]
    rfl
  · rw [len_erase hj]
    omega
  · rw [len_erase hj] at hk
    show (if j ≤ k ∧ k < 19 then K.1 0 (k + 1) else K.1 0 k) = _ ∧ (if j ≤ k ∧ k < 19 then K.1 1 (k + 1) else K.1 1 k) = _ ∧ (if j ≤ k ∧ k < 19 then K.1 2 (k + 1) else K.1 2 k) = _ ∧ (if j ≤ k ∧ k < 19 then K.1 3 (k + 1) else K.1 3 k) = _
    rw [sg_erase]
    by_cases hkj : k < j
    · rw [if_pos hkj, if_neg (by omega), if_neg (by omega), if_neg (by omega), if_neg (by omega)]
      exact hK.2.2 k (by omega)
    · rw [if_neg hkj, if_pos (by omega), if_pos (by omega), if_pos (by omega), if_pos (by omega)]
      exact hK.2.2 (k + 1) (by omega)
theorem AW.sub {n : Nat} {se le pu : Nat → Int32} {L L' : List Str4} {g : Nat → Int32} (h : AW n se le pu L g) (hs : ∀ x ∈ L', x ∈ L) : AW n se le pu L' g := ⟨h.1, fun x hx => h.2.1 x (hs x hx), fun x hx => h.2.2.1 x (hs x hx), h.2.2.2⟩
theorem erase_mem {L : List Str4} {j : Nat} : ∀ x ∈ L.eraseIdx j, x ∈ L := fun _ hx => List.mem_of_mem_eraseIdx hx
theorem ButS_RB {P : SPar} {n : Nat} {se le pu : Nat → Int32} (K : SStr) (h : RB P n se le pu) : RB (P.1, P.2.1, K, P.2.2.2) n se le pu := h
/-- the class's strings and the account's -/
def SR (K : SStr) (s : Nat → Int32) (L : List Str4) : Prop := RS K L ∧ s 149 = nI L.length ∧ (∀ k, k < L.length → s (36 + 4 * k) = nI (sg L k).1 ∧ s (36 + 4 * k + 1) = nI (sg L k).2.1 ∧ s (36 + 4 * k + 2) = (sg L k).2.2.1 ∧ s (36 + 4 * k + 3) = (sg L k).2.2.2) ∧ K.2 1 = s 154
theorem cuts_spec {M : SMod} {L : List Str4} {j : Nat} (h1 : M.1 0 149 = nI L.length) (h2 : L.length ≤ 20) (h3 : ∀ k, k < L.length → M.1 0 (36 + 4 * k) = nI (sg L k).1 ∧ M.1 0 (36 + 4 * k + 1) = nI (sg L k).2.1 ∧ M.1 0 (36 + 4 * k + 2) = (sg L k).2.2.1 ∧ M.1 0 (36 + 4 * k + 3) = (sg L k).2.2.2) (hj : j < L.length) :
    ∃ s', X7_cuts M (nI j) = some (stS M s') ∧ s' 149 = nI (L.eraseIdx j).length ∧ (∀ k, k < (L.eraseIdx j).length → s' (36 + 4 * k) = nI (sg (L.eraseIdx j) k).1 ∧ s' (36 + 4 * k + 1) = nI (sg (L.eraseIdx j) k).2.1 ∧ s' (36 + 4 * k + 2) = (sg (L.eraseIdx j) k).2.2.1 ∧ s' (36 + 4 * k + 3) = (sg (L.eraseIdx j) k).2.2.2) ∧ s' 154 = M.1 0 154 + 1 ∧ ∀ i, (i < 36 ∨ 116 ≤ i) → i ≠ 149 → i ≠ 154 → s' i = M.1 0 i := by
  obtain ⟨m, hm⟩ : ∃ m, L.length = m + 1 := ⟨L.length - 1, by omega⟩
  have hle := len_erase hj
  obtain ⟨K, rfl, h5⟩ := loop_FUEL (f := fun fu (K : SMod) i => X7_cuts_L31 fu K i) (n := 36 + 4 * m)
    (fun k K => 36 + 4 * j ≤ k ∧ K = stS M (fun i => if 36 + 4 * j ≤ i ∧ i < k then M.1 0 (i + 4) else if i = 154 then M.1 0 154 + 1 else if i = 149 then nI m else M.1 0 i))
    (fun K => K = stS M (fun i => if 36 + 4 * j ≤ i ∧ i < 36 + 4 * m then M.1 0 (i + 4) else if i = 154 then M.1 0 154 + 1 else if i = 149 then nI m else M.1 0 i)) (by omega)
    (by
      rintro fu k K hk ⟨hjk, rfl⟩
      right
      refine ⟨_, ⟨by omega, rfl⟩, ?_⟩
      have e149 : (if 36 + 4 * j ≤ 149 ∧ 149 < k then M.1 0 (149 + 4) else if 149 = 154 then M.1 0 154 + 1 else if 149 = 149 then nI m else M.1 0 149) = nI m := by
        rw [if_neg (by omega), if_neg (by omega), if_pos rfl]
      have e36 : 36 + 4 * nI m = nI (36 + 4 * m) := by
        rw [show (36 : Int32) = nI 36 from rfl, show (4 : Int32) = nI 4 from rfl, pk_mul, nI_add]
      have e4 : nI k + 4 = nI (k + 4) := nI_add k 4
      show X7_cuts_L31 (fu + 1) _ (nI k) = _
      rw [X7_cuts_L31]
      show (if 36 + 4 * (if 36 + 4 * j ≤ 149 ∧ 149 < k then M.1 0 (149 + 4) else if 149 = 154 then M.1 0 154 + 1 else if 149 = 149 then nI m else M.1 0 149) ≤ nI k then _ else _) = _
      rw [e149, e36, if_neg (nI_ge hk (by omega)), e4, if_pos (ixg (by omega) (by omega)), if_pos (ixg (by omega) (by omega)), nI_clamp (by omega), nI_clamp (by omega), nI_1]
      show X7_cuts_L31 fu (stS (stS M (fun i => if 36 + 4 * j ≤ i ∧ i < k then M.1 0 (i + 4) else if i = 154 then M.1 0 154 + 1 else if i = 149 then nI m else M.1 0 i)) (upd (fun i => if 36 + 4 * j ≤ i ∧ i < k then M.1 0 (i + 4) else if i = 154 then M.1 0 154 + 1 else if i = 149 then nI m else M.1 0 i) k (if 36 + 4 * j ≤ k + 4 ∧ k + 4 < k then M.1 0 (k + 4 + 4) else if k + 4 = 154 then M.1 0 154 + 1 else if k + 4 = 149 then nI m else M.1 0 (k + 4)))) (nI (k + 1)) = X7_cuts_L31 fu (stS M (fun i => if 36 + 4 * j ≤ i ∧ i < k + 1 then M.1 0 (i + 4) else if i = 154 then M.1 0 154 + 1 else if i = 149 then nI m else M.1 0 i)) (nI (k + 1))
      rw [if_neg (by omega), if_neg (by omega), if_neg (by omega), stS_up]
      congr 2
      funext i
      rw [upd_at]
      by_cases hik : i = k
      · rw [if_pos hik, if_pos (by omega), hik]
      · rw [if_neg hik]
        by_cases hi2 : 36 + 4 * j ≤ i ∧ i < k
        · rw [if_pos hi2, if_pos (by omega)]
        · rw [if_neg hi2, if_neg (show ¬ (36 + 4 * j ≤ i ∧ i < k + 1) by omega)])
    (by
      rintro fu K ⟨-, rfl⟩
      refine ⟨_, rfl, ?_⟩
      have e149 : (if 36 + 4 * j ≤ 149 ∧ 149 < 36 + 4 * m then M.1 0 (149 + 4) else if 149 = 154 then M.1 0 154 + 1 else if 149 = 149 then nI m else M.1 0 149) = nI m := by
        rw [if_neg (by omega), if_neg (by omega), if_pos rfl]
      have e36 : 36 + 4 * nI m = nI (36 + 4 * m) := by
        rw [show (36 : Int32) = nI 36 from rfl, show (4 : Int32) = nI 4 from rfl, pk_mul, nI_add]
      show X7_cuts_L31 (fu + 1) _ (nI (36 + 4 * m)) = _
      rw [X7_cuts_L31]
      show (if 36 + 4 * (if 36 + 4 * j ≤ 149 ∧ 149 < 36 + 4 * m then M.1 0 (149 + 4) else if 149 = 154 then M.1 0 154 + 1 else if 149 = 149 then nI m else M.1 0 149) ≤ nI (36 + 4 * m) then _ else _) = _
      rw [e149, e36, if_pos (nI_le (Nat.le_refl _) (by omega))])
    (k := 36 + 4 * j) (s := stS M (upd (upd (M.1 0) 149 (nI m)) 154 (M.1 0 154 + 1))) (x := nI (36 + 4 * j)) (by omega) rfl ⟨Nat.le_refl _, by
      congr 1
      funext i
      rw [if_neg (by omega), upd_at, upd_at]⟩
  refine ⟨fun i => if 36 + 4 * j ≤ i ∧ i < 36 + 4 * m then M.1 0 (i + 4) else if i = 154 then M.1 0 154 + 1 else if i = 149 then nI m else M.1 0 i, ?_, ?_, fun k hk => ?_, ?_, fun i hi h149 h154 => ?_⟩
  rotate_left
  · show (if 36 + 4 * j ≤ 149 ∧ 149 < 36 + 4 * m then _ else _) = _
    rw [if_neg (by omega), if_neg (by omega), if_pos rfl, hle, hm]
    rfl
  · rw [hle] at hk
    have f1 : ∀ c, c < 4 → (if 36 + 4 * j ≤ 36 + 4 * k + c ∧ 36 + 4 * k + c < 36 + 4 * m then M.1 0 (36 + 4 * k + c + 4) else if 36 + 4 * k + c = 154 then M.1 0 154 + 1 else if 36 + 4 * k + c = 149 then nI m else M.1 0 (36 + 4 * k + c)) = if k < j then M.1 0 (36 + 4 * k + c) else M.1 0 (36 + 4 * (k + 1) + c) := by
      intro c hc
      by_cases hkj : k < j
      · rw [if_pos hkj, if_neg (by omega), if_neg (by omega), if_neg (by omega)]
      · rw [if_neg hkj, if_pos (by omega), show 36 + 4 * k + c + 4 = 36 + 4 * (k + 1) + c from by omega]
    have f0 := f1 0 (by omega)
    have g1 := f1 1 (by omega)
    have g2 := f1 2 (by omega)
    have g3 := f1 3 (by omega)
    rw [Nat.add_zero] at f0
    show (if 36 + 4 * j ≤ 36 + 4 * k ∧ 36 + 4 * k < 36 + 4 * m then M.1 0 (36 + 4 * k + 4) else if 36 + 4 * k = 154 then M.1 0 154 + 1 else if 36 + 4 * k = 149 then nI m else M.1 0 (36 + 4 * k)) = _ ∧ (if 36 + 4 * j ≤ 36 + 4 * k + 1 ∧ 36 + 4 * k + 1 < 36 + 4 * m then M.1 0 (36 + 4 * k + 1 + 4) else if 36 + 4 * k + 1 = 154 then M.1 0 154 + 1 else if 36 + 4 * k + 1 = 149 then nI m else M.1 0 (36 + 4 * k + 1)) = _ ∧ (if 36 + 4 * j ≤ 36 + 4 * k + 2 ∧ 36 + 4 * k + 2 < 36 + 4 * m then M.1 0 (36 + 4 * k + 2 + 4) else if 36 + 4 * k + 2 = 154 then M.1 0 154 + 1 else if 36 + 4 * k + 2 = 149 then nI m else M.1 0 (36 + 4 * k + 2)) = _ ∧ (if 36 + 4 * j ≤ 36 + 4 * k + 3 ∧ 36 + 4 * k + 3 < 36 + 4 * m then M.1 0 (36 + 4 * k + 3 + 4) else if 36 + 4 * k + 3 = 154 then M.1 0 154 + 1 else if 36 + 4 * k + 3 = 149 then nI m else M.1 0 (36 + 4 * k + 3)) = _
    rw [f0, g1, g2, g3, sg_erase]
    by_cases hkj : k < j
    · rw [if_pos hkj, if_pos hkj, if_pos hkj, if_pos hkj, if_pos hkj]
      exact h3 k (by omega)
    · rw [if_neg hkj, if_neg hkj, if_neg hkj, if_neg hkj, if_neg hkj]
      exact h3 (k + 1) (by omega)
  · show (if 36 + 4 * j ≤ 154 ∧ 154 < 36 + 4 * m then _ else _) = _
    rw [if_neg (by omega), if_pos rfl]
  · show (if 36 + 4 * j ≤ i ∧ i < 36 + 4 * m then _ else _) = _
    rw [if_neg (by omega), if_neg h154, if_neg h149]
  · have e4 : 36 + 4 * nI j = nI (36 + 4 * j) := by
      rw [show (36 : Int32) = nI 36 from rfl, show (4 : Int32) = nI 4 from rfl, pk_mul, nI_add]
    unfold X7_cuts
    show Option.bind (X7_cuts_L31 FUEL (stS (stS M (upd (M.1 0) 149 (M.1 0 149 - 1))) (upd (upd (M.1 0) 149 (M.1 0 149 - 1)) 154 (upd (M.1 0) 149 (M.1 0 149 - 1) 154 + 1))) (36 + 4 * nI j)) _ = _
    rw [stS_up, h1, hm, nI_pred, pk_un (show 154 ≠ 149 by decide), e4]
    have h5 : X7_cuts_L31 FUEL (stS M (upd (upd (M.1 0) 149 (nI m)) 154 (M.1 0 154 + 1))) (nI (36 + 4 * j)) = some _ := h5
    rw [bind_some' h5]
theorem cut1 {K : SStr} {M : SMod} {L : List Str4} {j : Nat} (h : SR K (M.1 0) L) (hj : j < L.length) : ∃ K' s', X3_removeAt K (nI j) = some K' ∧ X7_cuts M (nI j) = some (stS M s') ∧ SR K' s' (L.eraseIdx j) ∧ ∀ i, (i < 36 ∨ 116 ≤ i) → i ≠ 149 → i ≠ 154 → s' i = M.1 0 i := by
  obtain ⟨K', a1, a2, a3⟩ := strs_spec h.1 hj
  obtain ⟨s', b1, b2, b3, b4, b5⟩ := cuts_spec h.2.1 h.1.2.1 h.2.2.1 hj
  exact ⟨K', s', a1, b1, ⟨a2, b2, b3, by rw [a3, b4, h.2.2.2]⟩, b5⟩
