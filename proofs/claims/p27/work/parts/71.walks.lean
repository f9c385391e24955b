/-! groups told by walking are as many as groups told by lowest puppets -/
theorem eb_at {x : Str4} {k : Nat} (h1 : x.1 < 12) (h2 : x.2.1 < 12) : bt (eb x) k = true ↔ (k = x.1 ∨ k = x.2.1) := by
  unfold eb
  rw [bt_or, bt_one h1, bt_one h2, Bool.or_eq_true, decide_eq_true_iff, decide_eq_true_iff]
theorem and_0 {x y : Int32} (h : ∀ k, ¬ (bt x k = true ∧ bt y k = true)) : x &&& y = 0 := by
  refine bt_ext (fun k => ?_)
  rw [bt_and, bt_zero]
  have := h k
  cases h1 : bt x k <;> cases h2 : bt y k <;> first | rfl | exact absurd ⟨h1, h2⟩ this
theorem Fs_con {L : List Str4} {n : Nat} {x : Int32} (hn : n ≤ 12) (hin : InL L n) {k : Nat} : ∀ m, m ≤ L.length → bt (it (fun k (t : Int32) => if x &&& eb (sg L k) = 0 then t else t ||| eb (sg L k)) m x) k = true → ∃ i, bt x i = true ∧ Con L i k := by
  intro m
  induction m with
  | zero => intro _ h; exact ⟨k, h, Con.rf k⟩
  | succ m ih =>
    intro hm h
    have e : it (fun k (t : Int32) => if x &&& eb (sg L k) = 0 then t else t ||| eb (sg L k)) (m + 1) x = (if x &&& eb (sg L m) = 0 then it (fun k (t : Int32) => if x &&& eb (sg L k) = 0 then t else t ||| eb (sg L k)) m x else it (fun k (t : Int32) => if x &&& eb (sg L k) = 0 then t else t ||| eb (sg L k)) m x ||| eb (sg L m)) := rfl
    rw [e] at h
    have hmem := sg_mem (L := L) (k := m) (by omega)
    have hx := hin _ hmem
    by_cases c : x &&& eb (sg L m) = 0
    · rw [if_pos c] at h
      exact ih (by omega) h
    · rw [if_neg c, bt_or, Bool.or_eq_true] at h
      rcases h with h | h
      · exact ih (by omega) h
      · have hex : ∃ i, bt x i = true ∧ bt (eb (sg L m)) i = true := by
          apply Classical.byContradiction
          intro hno
          exact c (and_0 (fun i z => hno ⟨i, z⟩))
        obtain ⟨i, i1, i2⟩ := hex
        have j1 := (eb_at (by omega) (by omega)).mp i2
        have j2 := (eb_at (by omega) (by omega)).mp h
        have hc := Con.ed hmem
        refine ⟨i, i1, ?_⟩
        rcases j1 with z | z <;> rcases j2 with w | w <;> rw [z, w]
        · exact Con.rf _
        · exact hc
        · exact hc.sy
        · exact Con.rf _
theorem fi_con {L : List Str4} {n : Nat} {x : Int32} (hn : n ≤ 12) (hin : InL L n) : ∀ (t k : Nat), bt (fi L x t) k = true → ∃ i, bt x i = true ∧ Con L i k := by
  intro t
  induction t with
  | zero => intro k h; exact ⟨k, h, Con.rf k⟩
  | succ t ih =>
    intro k h
    obtain ⟨i, i1, i2⟩ := Fs_con hn hin (x := fi L x t) L.length (Nat.le_refl _) h
    obtain ⟨j, j1, j2⟩ := ih i i1
    exact ⟨j, j1, j2.tr i2⟩
theorem it_in {L : List Str4} {n : Nat} {x : Int32} (hn : n ≤ 12) (hin : InL L n) {i k : Nat} (hi : i < L.length) (hx : ¬ x &&& eb (sg L i) = 0) (hk : bt (eb (sg L i)) k = true) : ∀ m, m ≤ L.length → i < m → bt (it (fun k (t : Int32) => if x &&& eb (sg L k) = 0 then t else t ||| eb (sg L k)) m x) k = true := by
  intro m
  induction m with
  | zero => intro _ h; exact absurd h (Nat.not_lt_zero i)
  | succ m ih =>
    intro hm h
    have e : it (fun k (t : Int32) => if x &&& eb (sg L k) = 0 then t else t ||| eb (sg L k)) (m + 1) x = (if x &&& eb (sg L m) = 0 then it (fun k (t : Int32) => if x &&& eb (sg L k) = 0 then t else t ||| eb (sg L k)) m x else it (fun k (t : Int32) => if x &&& eb (sg L k) = 0 then t else t ||| eb (sg L k)) m x ||| eb (sg L m)) := rfl
    rw [e]
    by_cases c : i = m
    · subst c
      rw [if_neg hx, bt_or, Bool.or_eq_true]
      exact Or.inr hk
    · have := ih (by omega) (by omega)
      split
      · exact this
      · rw [bt_or, Bool.or_eq_true]
        exact Or.inl this
/-- a walk of twelve steps reaches just who hangs together -/
theorem fi_12 {L : List Str4} {n k j : Nat} (hn : n ≤ 12) (hin : InL L n) (hk : k < 12) : bt (fi L (1 <<< (nI k &&& 31)) 12) j = true ↔ Con L k j := by
  have hx : bt (1 <<< (nI k &&& 31)) k = true := by rw [bt_one hk]; exact decide_eq_true rfl
  constructor
  · intro h
    obtain ⟨i, i1, i2⟩ := fi_con hn hin 12 j h
    rw [bt_one hk, decide_eq_true_iff] at i1
    rw [i1] at i2
    exact i2
  · have hfix : Fs L (fi L (1 <<< (nI k &&& 31)) 12) = fi L (1 <<< (nI k &&& 31)) 12 := by
      have hex : ∃ t, t < 12 ∧ fi L (1 <<< (nI k &&& 31)) (t + 1) = fi L (1 <<< (nI k &&& 31)) t := by
        apply Classical.byContradiction
        intro hno
        have := fi_T hn hin hk hx (T := 12) (fun t ht z => hno ⟨t, ht, z⟩)
        omega
      obtain ⟨t, t1, t2⟩ := hex
      have h1 := fi_stay t2 (12 - t)
      have h2 := fi_stay t2 (13 - t)
      rw [show t + (12 - t) = 12 by omega] at h1
      rw [show t + (13 - t) = 12 + 1 by omega] at h2
      show fi L (1 <<< (nI k &&& 31)) (12 + 1) = _
      rw [h1, h2]
    have hk12 : ∀ t, bt (fi L (1 <<< (nI k &&& 31)) t) k = true := by
      intro t
      induction t with
      | zero => exact hx
      | succ t ih => exact Fs_up hn hin ih
    have hk2 := hk12 12
    generalize fi L (1 <<< (nI k &&& 31)) 12 = y at hfix hk2
    intro hc
    have hall := hc (fun a b => bt y a = true ↔ bt y b = true) (fun _ => Iff.rfl) (fun _ _ z => z.symm) (fun _ _ _ z z' => z.trans z') (fun x hxm => by
      obtain ⟨i, hi, e⟩ := List.getElem_of_mem hxm
      have es : sg L i = x := by rw [sg_eq hi, e]
      have hx2 := hin _ hxm
      have go : ∀ a, (a = x.1 ∨ a = x.2.1) → bt y a = true → ∀ b, (b = x.1 ∨ b = x.2.1) → bt y b = true := by
        intro a ha hya b hb
        have hne : ¬ y &&& eb (sg L i) = 0 := by
          intro z
          have z2 : bt (y &&& eb (sg L i)) a = true := by
            rw [bt_and, hya, es, (eb_at (by omega) (by omega)).mpr ha]
            rfl
          rw [z, bt_zero] at z2
          exact absurd z2 (by decide)
        have := it_in hn hin hi hne (k := b) (by rw [es]; exact (eb_at (by omega) (by omega)).mpr hb) L.length (Nat.le_refl _) hi
        have h3 : bt (Fs L y) b = true := this
        rw [hfix] at h3
        exact h3
      exact ⟨fun z => go _ (Or.inl rfl) z _ (Or.inr rfl), fun z => go _ (Or.inr rfl) z _ (Or.inl rfl)⟩)
    exact hall.mp hk2
theorem cW_cG {L : List Str4} {n : Nat} {g : Nat → Int32} (hn : n ≤ 12) (hin : InL L n) (hg : Pot L g) : ∀ m, m ≤ n → (cW m L).1 = cG m (grp L) ∧ ∀ j, bt (cW m L).2 j = true ↔ ∃ i, i < m ∧ Con L i j := by
  intro m
  have hq := grp_QF hin hg
  induction m with
  | zero =>
    intro _
    refine ⟨rfl, fun j => ?_⟩
    show bt 0 j = true ↔ _
    rw [bt_zero]
    exact ⟨fun z => absurd z (by decide), fun ⟨i, i1, _⟩ => absurd i1 (Nat.not_lt_zero i)⟩
  | succ m ih =>
    intro hm
    obtain ⟨i1, i2⟩ := ih (by omega)
    have e : cW (m + 1) L = if bt (cW m L).2 m then cW m L else ((cW m L).1 + 1, (cW m L).2 ||| fi L (1 <<< (nI m &&& 31)) 12) := rfl
    have ec : cG (m + 1) (grp L) = if (grp L).1 m = m then cG m (grp L) + 1 else cG m (grp L) := rfl
    have qm := hq.1 m
    rw [e, ec]
    by_cases c : bt (cW m L).2 m = true
    · obtain ⟨i, h1, h2⟩ := (i2 m).mp c
      have h3 := (grp_con hg).mpr h2
      have qi := hq.1 i
      rw [if_pos c, if_neg (by omega)]
      refine ⟨i1, fun j => ?_⟩
      rw [i2 j]
      constructor
      · rintro ⟨a, a1, a2⟩
        exact ⟨a, by omega, a2⟩
      · rintro ⟨a, a1, a2⟩
        by_cases ca : a = m
        · rw [ca] at a2
          exact ⟨i, h1, h2.tr a2⟩
        · exact ⟨a, by omega, a2⟩
    · have hlow : (grp L).1 m = m := by
        apply Classical.byContradiction
        intro hne
        refine c ((i2 m).mpr ⟨(grp L).1 m, by omega, ?_⟩)
        exact ((grp_Iv hg).1.1 m).sy
      rw [if_neg c, if_pos hlow]
      refine ⟨by show (cW m L).1 + 1 = _; rw [i1], fun j => ?_⟩
      show bt ((cW m L).2 ||| fi L (1 <<< (nI m &&& 31)) 12) j = true ↔ _
      rw [bt_or, Bool.or_eq_true, i2 j, fi_12 hn hin (by omega)]
      constructor
      · rintro (⟨a, a1, a2⟩ | h)
        · exact ⟨a, by omega, a2⟩
        · exact ⟨m, by omega, h⟩
      · rintro ⟨a, a1, a2⟩
        by_cases ca : a = m
        · rw [ca] at a2
          exact Or.inr a2
        · exact Or.inl ⟨a, by omega, a2⟩
