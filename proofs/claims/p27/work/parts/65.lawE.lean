/-! the law's reasons -/
theorem BT.all (L : List Str4) (hlen : L.length ≤ 15) : BT L L (-1) :=
  ⟨fun _ hk _ => sg_mem hk, fun x hx => by
    obtain ⟨k, hk, e⟩ := List.getElem_of_mem hx
    exact ⟨k, hk, fun z => nI_m1 (by omega) z.symm, by rw [sg_eq hk, e]⟩, fun _ h => h⟩
theorem BT.but {L : List Str4} {j : Nat} (hlen : L.length ≤ 15) (hj : j < L.length) : BT L (L.eraseIdx j) (nI j) := by
  have hle := len_erase hj
  refine ⟨fun k hk hkj => ?_, fun x hx => ?_, erase_mem⟩
  · have hne : k ≠ j := fun z => hkj (by rw [z])
    by_cases c : k < j
    · have h1 : sg (L.eraseIdx j) k = sg L k := by rw [sg_erase, if_pos c]
      rw [← h1]
      exact sg_mem (by omega)
    · have h1 : sg (L.eraseIdx j) (k - 1) = sg L k := by rw [sg_erase, if_neg (by omega), show k - 1 + 1 = k by omega]
      rw [← h1]
      exact sg_mem (by omega)
  · obtain ⟨k, hk, e⟩ := List.getElem_of_mem hx
    have e2 : sg (L.eraseIdx j) k = x := by rw [sg_eq hk, e]
    rw [sg_erase] at e2
    by_cases c : k < j
    · rw [if_pos c] at e2
      exact ⟨k, by omega, fun z => by have := (nI_eq (by omega) (by omega)).mp z; omega, e2⟩
    · rw [if_neg c] at e2
      exact ⟨k + 1, by omega, fun z => by have := (nI_eq (by omega) (by omega)).mp z; omega, e2⟩
theorem hv3 {a b c : Int32} (ha : a = 0 ∨ a = 1) (hb : b = 0 ∨ b = 1) (hc : c = 0 ∨ c = 1) : (if b = c then a else 1 - a) = (a ^^^ b) ^^^ c := by
  rcases ha with rfl | rfl <;> rcases hb with rfl | rfl <;> rcases hc with rfl | rfl <;> decide
theorem held_l {K : SLaw} {n p : Nat} {se le pu : Nat → Int32} {L : List Str4} {g : Nat → Int32} (w : Int32) (hA : AW n se le pu L g) (hR : RL1 K n se le pu) (hL : LG K (grp L) n) (hp : p < n) :
    ∃ r, L_held K (nI p) w = some r ∧ ((r = -1 ∧ ∀ m, m < n → ¬ nI m = w → pu m ≠ -1 → (grp L).1 m ≠ (grp L).1 p) ∨ (r = g p ∧ (g p = 0 ∨ g p = 1) ∧ ∃ m, m < n ∧ ¬ nI m = w ∧ pu m ≠ -1 ∧ (grp L).1 m = (grp L).1 p)) := by
  have hn := hA.1
  have hq := hA.q
  have qp := hq.1 p
  obtain ⟨lp1, lp2⟩ := hL p hp
  unfold L_held
  obtain ⟨r, h1, h2⟩ := loop_FUEL (f := fun fu (_ : Unit) i => L_held_L3 fu K (nI p) w i) (n := n)
    (fun j _ => ∀ m, m < j → ¬ nI m = w → pu m ≠ -1 → (grp L).1 m ≠ (grp L).1 p)
    (fun r => (r = -1 ∧ ∀ m, m < n → ¬ nI m = w → pu m ≠ -1 → (grp L).1 m ≠ (grp L).1 p) ∨ (r = g p ∧ (g p = 0 ∨ g p = 1) ∧ ∃ m, m < n ∧ ¬ nI m = w ∧ pu m ≠ -1 ∧ (grp L).1 m = (grp L).1 p)) (by omega)
    (by
      rintro fu j ⟨⟩ hj hi
      have qj := hq.1 j
      obtain ⟨l1, l2⟩ := hL j hj
      obtain ⟨-, -, r3⟩ := hR.2 j hj
      have hp3 := (hA.2.2.2 j hj).2.2.1
      have next : (nI j = w ∨ pu j = -1 ∨ ¬ (grp L).1 j = (grp L).1 p) → ∀ m, m < j + 1 → ¬ nI m = w → pu m ≠ -1 → (grp L).1 m ≠ (grp L).1 p := by
        intro h m hm hmw hpm
        by_cases c : m = j
        · rw [c] at hmw hpm ⊢
          rcases h with h | h | h
          · exact absurd h hmw
          · exact absurd h hpm
          · exact h
        · exact hi m (by omega) hmw hpm
      have e : L_held_L3 (fu + 1) K (nI p) w (nI j) = if nI j = w then L_held_L3 fu K (nI p) w (nI (j + 1)) else if nI ((grp L).1 j) = nI ((grp L).1 p) then (if pu j < 0 then L_held_L3 fu K (nI p) w (nI (j + 1)) else if (grp L).2 j = (grp L).2 p then some (pu j) else some (1 - pu j)) else L_held_L3 fu K (nI p) w (nI (j + 1)) := by
        rw [L_held_L3]
        simp (disch := omega) only [cl0, hR.1, nI_ge, m3e, nI_1, p2e, a12e, nI_clamp, gN, not_false_eq_true, ↓reduceIte, l1, l2, lp1, lp2, r3]
      show (∃ r, _ ∧ L_held_L3 (fu + 1) K (nI p) w (nI j) = some r) ∨ ∃ s', _ ∧ L_held_L3 (fu + 1) K (nI p) w (nI j) = L_held_L3 fu K (nI p) w (nI (j + 1))
      rw [e]
      by_cases c0 : nI j = w
      · rw [if_pos c0]
        exact Or.inr ⟨(), next (Or.inl c0), rfl⟩
      rw [if_neg c0]
      by_cases c1 : (grp L).1 j = (grp L).1 p
      · rw [if_pos (by rw [c1])]
        by_cases c2 : pu j = -1
        · rw [if_pos ((p3neg hp3).mpr c2)]
          exact Or.inr ⟨(), next (Or.inr (Or.inl c2)), rfl⟩
        · rw [if_neg (fun z => c2 ((p3neg hp3).mp z))]
          left
          obtain ⟨g1, g2⟩ := hp_g hA hj c2 c1
          refine ⟨g p, Or.inr ⟨rfl, g2, j, hj, c0, c2, c1⟩, ?_⟩
          rw [← g1, ← hv3 (p01 hp3 c2) (hq.2.2.2 j) (hq.2.2.2 p)]
          split <;> rfl
      · rw [if_neg (by rw [nI_eq (by omega) (by omega)]; exact c1)]
        exact Or.inr ⟨(), next (Or.inr (Or.inr c1)), rfl⟩)
    (by
      intro fu _ hi
      refine ⟨-1, Or.inl ⟨rfl, hi⟩, ?_⟩
      show L_held_L3 (fu + 1) K (nI p) w (nI n) = _
      rw [L_held_L3, cl0, hR.1, if_pos (nI_le (Nat.le_refl _) (by omega))])
    (k := 0) (s := ()) (x := 0) (Nat.zero_le _) rfl (fun m hm => absurd hm (Nat.not_lt_zero m))
  exact ⟨r, h2, h1⟩
theorem others_l {K : SLaw} {n p : Nat} {se le pu : Nat → Int32} {L : List Str4} {g : Nat → Int32} (x5 x6 x7 : Int32) (hA : AW n se le pu L g) (hR : RL1 K n se le pu) (hp : p < n) : L_whyPull_L38 FUEL K (nI p) x5 x6 x7 0 0 = some (cno n pu p) := by
  have hn := hA.1
  refine loop_it (f := fun fu t i => L_whyPull_L38 fu K (nI p) x5 x6 x7 t i) (n := n) _ (fun t => t) (by omega) ?_ ?_ _
  · intro fu k t hk
    have hp3 := (hA.2.2.2 k hk).2.2.1
    show L_whyPull_L38 (fu + 1) K (nI p) x5 x6 x7 t (nI k) = L_whyPull_L38 fu K (nI p) x5 x6 x7 (if k ≠ p ∧ pu k ≠ -1 then t + 1 else t) (nI (k + 1))
    rw [L_whyPull_L38]
    simp (disch := omega) only [cl0, hR.1, nI_ge, m3e, nI_1, p2e, nI_clamp, gN, not_false_eq_true, ↓reduceIte, (hR.2 k hk).2.2, Int32.add_zero]
    by_cases c : k = p
    · rw [if_pos (by rw [c]), if_neg (fun z => z.1 c)]
    · rw [if_neg (by rw [nI_eq (by omega) (by omega)]; exact c)]
      by_cases c2 : pu k = -1
      · rw [if_pos ((p3neg hp3).mpr c2), if_neg (fun z => z.2 c2)]
      · rw [if_neg (fun z => c2 ((p3neg hp3).mp z)), if_pos ⟨c, c2⟩]
  · intro fu t
    show L_whyPull_L38 (fu + 1) K (nI p) x5 x6 x7 t (nI n) = _
    rw [L_whyPull_L38, cl0, hR.1, if_pos (nI_le (Nat.le_refl _) (by omega))]
/-- why a pull is refused, as the law tells it -/
theorem whyPull_l {M : SLaw} {n p sp b : Nat} {se le pu : Nat → Int32} {L : List Str4} {g : Nat → Int32} {w : Int32} (hA : AW n se le pu L g) (hR : RL1 M n se le pu) (hf : FS M L) (h2 : M 3 2 = nI sp) (h7 : M 3 7 = nI b) (hsp : sp ≤ 12) (hp : p < n) :
    ∃ M' r, L_whyPull M (nI p) w = some (M', r) ∧ KG M M' ∧ BR n pu (grp L) g sp b p w r := by
  have hn := hA.1
  have hq := hA.q
  unfold L_whyPull
  rw [cl2, cl7, h2]
  by_cases c : p = sp
  · rw [if_pos (by rw [c])]
    exact ⟨M, 1, rfl, KG.rf M, Or.inl ⟨c, rfl⟩⟩
  rw [if_neg (by rw [nI_eq (by omega) (by omega)]; exact c)]
  obtain ⟨M1, a1, a2, a3⟩ := groups_l hA (BT.all L hf.2.1) hR hf
  obtain ⟨r, r1, r2⟩ := held_l (nI p) hA (a2.r1 hR) a3 hp
  obtain ⟨m, m1, m2, m3, -⟩ := cG_nat (q := grp L) (n := n)
  have hm := m3 0 (by omega) (by have := hq.1 0; omega)
  have e7 : M1 3 7 = nI b := by rw [a2 3 (by decide)]; exact h7
  rw [bind_some' a1, bind_some' r1, bind_some' (others_l w (cG n (grp L)) r hA (a2.r1 hR) hp), m2, if_neg (nI_nle (by omega) (by omega))]
  simp only [e7]
  have key : ¬ (hpo n pu (grp L) p ∧ g p ≠ w) → ∃ M' r, (if cno n pu p < nI b then some (M1, (0 : Int32)) else some (M1, 3)) = some (M', r) ∧ KG M M' ∧ BR n pu (grp L) g sp b p w r := by
    intro h
    by_cases cb : cno n pu p < nI b
    · rw [if_pos cb]
      exact ⟨M1, 0, rfl, a2, Or.inr (Or.inr ⟨c, h, Or.inr ⟨cb, rfl⟩⟩)⟩
    · rw [if_neg cb]
      exact ⟨M1, 3, rfl, a2, Or.inr (Or.inr ⟨c, h, Or.inl ⟨cb, rfl⟩⟩)⟩
  rcases r2 with ⟨z1, z2⟩ | ⟨z1, z2, k, k1, k2, k3, k4⟩
  · rw [z1, if_pos im1]
    exact key (fun ⟨⟨k, k1, k2, k3, k4⟩, _⟩ => z2 k k1 (by rw [nI_eq (by omega) (by omega)]; exact k2) k3 k4)
  · rw [z1, if_neg (by rcases z2 with e | e <;> rw [e] <;> decide)]
    have hho : hpo n pu (grp L) p := ⟨k, k1, fun z => k2 (by rw [z]), k3, k4⟩
    by_cases cw : g p = w
    · rw [if_pos cw]
      exact key (fun z => z.2 cw)
    · rw [if_neg cw]
      exact ⟨M1, 2, rfl, a2, Or.inr (Or.inl ⟨c, ⟨hho, cw⟩, rfl⟩)⟩
/-- why a string is refused, as the law tells it -/
theorem whyTie_l {M : SLaw} {n a b : Nat} {se le pu : Nat → Int32} {L : List Str4} {g : Nat → Int32} {u : Int32} (hA : AW n se le pu L g) (hR : RL1 M n se le pu) (hf : FS M L) (ha : a < n) (hb : b < n) (hab : a ≠ b) (hu : u = 0 ∨ u = 1) :
    ∃ M' r, L_whyTie M (nI a) (nI b) u = some (M', r) ∧ KG M M' ∧ TR n pu (grp L) g L a b u r := by
  have hn := hA.1
  have hq := hA.q
  have hlen := hf.2.1
  have qa := hq.1 a
  have qb := hq.1 b
  have hu0 : ∀ x : Int32, x = 0 → ¬ x = u → u = 1 := fun x h h2 => hu.elim (fun z => absurd (h.trans z.symm) h2) id
  have hu1' : ∀ x : Int32, x = 1 → ¬ x = u → ¬ u = 1 := fun x h h2 z => h2 (h.trans z.symm)
  have hu1 : ∀ x : Int32, (x = 0 ∨ x = 1) → ((x = u) ↔ ((x = 1) ↔ (u = 1))) := by
    rintro x (rfl | rfl) <;> rcases hu with rfl | rfl <;> decide
  obtain ⟨⟨M', r⟩, ⟨h1, h2⟩, h3⟩ := loop_FUEL (f := fun fu (_ : Unit) i => L_whyTie_L3 fu M (nI a) (nI b) u i) (n := L.length)
    (fun j _ => ∀ k, k < j → ¬ ((sg L k).1 = min a b ∧ (sg L k).2.1 = max a b))
    (fun z => KG M z.1 ∧ TR n pu (grp L) g L a b u z.2) (by omega)
    (by
      rintro fu j ⟨⟩ hj hi
      obtain ⟨r0, r1, -, -⟩ := hf.2.2 j hj
      have hx := hA.2.1 _ (sg_mem hj)
      have e : L_whyTie_L3 (fu + 1) M (nI a) (nI b) u (nI j) = if nI ((sg L j).1 + (sg L j).2.1) = nI (a + b) then (if nI (sg L j).1 = nI a then some (M, 1) else if nI (sg L j).1 = nI b then some (M, 1) else L_whyTie_L3 fu M (nI a) (nI b) u (nI (j + 1))) else L_whyTie_L3 fu M (nI a) (nI b) u (nI (j + 1)) := by
        rw [L_whyTie_L3]
        simp (disch := omega) only [cl1, hf.1, nI_ge, m4e, nI_1, nI_clamp, gN, not_false_eq_true, ↓reduceIte, r0, r1, nI_add]
      show (∃ r, _ ∧ L_whyTie_L3 (fu + 1) M (nI a) (nI b) u (nI j) = some r) ∨ ∃ s', _ ∧ L_whyTie_L3 (fu + 1) M (nI a) (nI b) u (nI j) = L_whyTie_L3 fu M (nI a) (nI b) u (nI (j + 1))
      rw [e]
      by_cases c : (sg L j).1 = min a b ∧ (sg L j).2.1 = max a b
      · left
        have htd : td L a b := ⟨j, hj, c⟩
        rw [if_pos (by rw [c.1, c.2]; congr 1; omega)]
        refine ⟨(M, 1), ⟨KG.rf M, Or.inl ⟨htd, rfl⟩⟩, ?_⟩
        by_cases c1 : (sg L j).1 = a
        · rw [if_pos (by rw [c1])]
        · rw [if_neg (by rw [nI_eq (by omega) (by omega)]; exact c1), if_pos (by congr 1; omega)]
      · right
        refine ⟨(), fun k hk => ?_, ?_⟩
        · by_cases ck : k = j
          · rw [ck]
            exact c
          · exact hi k (by omega)
        · by_cases c1 : (sg L j).1 + (sg L j).2.1 = a + b
          · rw [if_pos (by rw [c1]), if_neg (by rw [nI_eq (by omega) (by omega)]; omega), if_neg (by rw [nI_eq (by omega) (by omega)]; omega)]
          · rw [if_neg (by rw [nI_eq (by omega) (by omega)]; exact c1)])
    (by
      intro fu _ hi
      have hno : ¬ td L a b := fun ⟨k, k1, k2⟩ => hi k k1 k2
      obtain ⟨M1, a1, a2, a3⟩ := groups_l hA (BT.all L hf.2.1) hR hf
      obtain ⟨x, x1, x2⟩ := held_l (-1) hA (a2.r1 hR) a3 ha
      obtain ⟨y, y1, y2⟩ := held_l (-1) hA (a2.r1 hR) a3 hb
      obtain ⟨m, m1, m2, m3, m4⟩ := cG_nat (q := grp L) (n := n)
      obtain ⟨la1, la2⟩ := a3 a ha
      obtain ⟨lb1, lb2⟩ := a3 b hb
      have hx2 : (x = -1 ∧ ¬ hp n pu (grp L) ((grp L).1 a)) ∨ (x = g a ∧ (g a = 0 ∨ g a = 1) ∧ hp n pu (grp L) ((grp L).1 a)) := by
        rcases x2 with ⟨z1, z2⟩ | ⟨z1, z2, k, k1, -, k3, k4⟩
        · exact Or.inl ⟨z1, fun ⟨k, k1, k2, k3⟩ => z2 k k1 (fun z => nI_m1 (by omega) z.symm) k2 k3⟩
        · exact Or.inr ⟨z1, z2, k, k1, k3, k4⟩
      have hy2 : (y = -1 ∧ ¬ hp n pu (grp L) ((grp L).1 b)) ∨ (y = g b ∧ (g b = 0 ∨ g b = 1) ∧ hp n pu (grp L) ((grp L).1 b)) := by
        rcases y2 with ⟨z1, z2⟩ | ⟨z1, z2, k, k1, -, k3, k4⟩
        · exact Or.inl ⟨z1, fun ⟨k, k1, k2, k3⟩ => z2 k k1 (fun z => nI_m1 (by omega) z.symm) k2 k3⟩
        · exact Or.inr ⟨z1, z2, k, k1, k3, k4⟩
      have e : L_whyTie_L3 (fu + 1) M (nI a) (nI b) u (nI L.length) = if nI ((grp L).1 a) = nI ((grp L).1 b) then (if (grp L).2 a = (grp L).2 b then (if u = 1 then some (M1, 2) else some (M1, 0)) else (if u = 1 then some (M1, 0) else some (M1, 2))) else (if nI m ≤ 1 then some (M1, 0) else if x < 0 then some (M1, 0) else if y < 0 then some (M1, 0) else if x = y then (if u = 1 then some (M1, 3) else some (M1, 0)) else (if u = 1 then some (M1, 0) else some (M1, 3))) := by
        rw [L_whyTie_L3]
        simp (disch := omega) only [cl1, hf.1, nI_le, a1, bs, a12e, nI_clamp, gN, not_false_eq_true, ↓reduceIte, la1, la2, lb1, lb2, x1, y1, m2]
      show ∃ r, _ ∧ L_whyTie_L3 (fu + 1) M (nI a) (nI b) u (nI L.length) = some r
      rw [e]
      have x01' : ∀ {p q : Int32}, (p = 0 ∨ p = 1) → (q = 0 ∨ q = 1) → ((p = q) ↔ p ^^^ q = 0) := by
        rintro p q (rfl | rfl) (rfl | rfl) <;> decide
      by_cases c : (grp L).1 a = (grp L).1 b
      · rw [if_pos (by rw [c])]
        have hs := sides_x hq c
        have e1 := x01' (hq.2.2.2 a) (hq.2.2.2 b)
        have e2 := hu1 _ (x01 (hq.2.2.2 a) (hq.2.2.2 b))
        rw [hs] at e1 e2
        have e3 : g a ^^^ g b = 0 ∨ g a ^^^ g b = 1 := by rw [← hs]; exact x01 (hq.2.2.2 a) (hq.2.2.2 b)
        by_cases cu : g a ^^^ g b = u
        · refine ⟨(M1, 0), ⟨a2, Or.inr ⟨hno, Or.inl ⟨c, Or.inl ⟨cu, rfl⟩⟩⟩⟩, ?_⟩
          rcases e3 with e3 | e3
          · rw [if_pos (e1.mpr e3), if_neg (by rw [← cu, e3]; decide)]
          · rw [if_neg (fun z => by have := e1.mp z; rw [e3] at this; exact absurd this (by decide)), if_pos (by rw [← cu, e3])]
        · refine ⟨(M1, 2), ⟨a2, Or.inr ⟨hno, Or.inl ⟨c, Or.inr ⟨cu, rfl⟩⟩⟩⟩, ?_⟩
          rcases e3 with e3 | e3
          · rw [if_pos (e1.mpr e3), if_pos (hu0 _ e3 cu)]
          · rw [if_neg (fun z => by have := e1.mp z; rw [e3] at this; exact absurd this (by decide)), if_neg (hu1' _ e3 cu)]
      · rw [if_neg (by rw [nI_eq (by omega) (by omega)]; exact c)]
        have hm2 : 2 ≤ m := by
          have ta := hq.2.1 a
          have tb := hq.2.1 b
          rcases (by omega : (grp L).1 a < (grp L).1 b ∨ (grp L).1 b < (grp L).1 a) with z | z
          · exact m4 _ _ z (by omega) ta tb
          · exact m4 _ _ z (by omega) tb ta
        rw [if_neg (show ¬ nI m ≤ 1 from nI_ge (b := m) (a := 1) (by omega) (by omega))]
        have hz : ¬ (hp n pu (grp L) ((grp L).1 a) ∧ hp n pu (grp L) ((grp L).1 b) ∧ ¬ g a ^^^ g b = u) → TR n pu (grp L) g L a b u 0 := fun z => Or.inr ⟨hno, Or.inr ⟨c, Or.inr ⟨z, rfl⟩⟩⟩
        rcases hx2 with ⟨z1, z2⟩ | ⟨z1, z2, z3⟩
        · rw [z1, if_pos im1]
          exact ⟨(M1, 0), ⟨a2, hz (fun z => z2 z.1)⟩, rfl⟩
        rw [z1, if_neg (by rcases z2 with e | e <;> rw [e] <;> decide)]
        rcases hy2 with ⟨w1, w2⟩ | ⟨w1, w2, w3⟩
        · rw [w1, if_pos im1]
          exact ⟨(M1, 0), ⟨a2, hz (fun z => w2 z.2.1)⟩, rfl⟩
        rw [w1, if_neg (by rcases w2 with e | e <;> rw [e] <;> decide)]
        have e1 := x01' z2 w2
        have e3 := x01 z2 w2
        by_cases cu : g a ^^^ g b = u
        · refine ⟨(M1, 0), ⟨a2, hz (fun z => z.2.2 cu)⟩, ?_⟩
          rcases e3 with e3 | e3
          · rw [if_pos (e1.mpr e3), if_neg (by rw [← cu, e3]; decide)]
          · rw [if_neg (fun z => by have := e1.mp z; rw [e3] at this; exact absurd this (by decide)), if_pos (by rw [← cu, e3])]
        · refine ⟨(M1, 3), ⟨a2, Or.inr ⟨hno, Or.inr ⟨c, Or.inl ⟨⟨z3, w3, cu⟩, rfl⟩⟩⟩⟩, ?_⟩
          rcases e3 with e3 | e3
          · rw [if_pos (e1.mpr e3), if_pos (hu0 _ e3 cu)]
          · rw [if_neg (fun z => by have := e1.mp z; rw [e3] at this; exact absurd this (by decide)), if_neg (hu1' _ e3 cu)])
    (k := 0) (s := ()) (x := 0) (Nat.zero_le _) rfl (fun k hk => absurd hk (Nat.not_lt_zero k))
  exact ⟨M', r, h3, h1, h2⟩
