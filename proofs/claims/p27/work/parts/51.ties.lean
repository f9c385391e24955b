/-! ties -/
def td (L : List Str4) (a b : Nat) : Prop := ∃ k, k < L.length ∧ (sg L k).1 = min a b ∧ (sg L k).2.1 = max a b
theorem areTied_spec {K : SStr} {L : List Str4} {a b n : Nat} (hn : n ≤ 12) (hK : RS K L) (hin : InL L n) (ha : a < n) (hb : b < n) : (X3_areTied K (nI a) (nI b) = some 1 ∧ td L a b) ∨ (X3_areTied K (nI a) (nI b) = some 0 ∧ ¬ td L a b) := by
  have hlen := hK.2.1
  unfold X3_areTied
  rw [min_n (by omega) (by omega), max_n (by omega) (by omega)]
  obtain ⟨r, h1, h2⟩ := loop_FUEL (f := fun fu (_ : Unit) i => X3_areTied_L16 fu K (nI (min a b)) (nI (max a b)) i) (n := L.length)
    (fun k _ => ∀ m, m < k → ¬ ((sg L m).1 = min a b ∧ (sg L m).2.1 = max a b)) (fun r => (r = 1 ∧ td L a b) ∨ (r = 0 ∧ ¬ td L a b)) (by omega)
    (by
      rintro fu k _ hk hi
      have hx := hin _ (sg_mem hk)
      have a0 : rget 20 (K.1 0) (nI k) = nI (sg L k).1 := by rw [rget_n _ (by omega) (by omega), (hK.2.2 k hk).1]
      have a1 : rget 20 (K.1 1) (nI k) = nI (sg L k).2.1 := by rw [rget_n _ (by omega) (by omega), (hK.2.2 k hk).2.1]
      have go : X3_areTied_L16 (fu + 1) K (nI (min a b)) (nI (max a b)) (nI k) = if (sg L k).1 = min a b then (if (sg L k).2.1 = max a b then some 1 else X3_areTied_L16 fu K (nI (min a b)) (nI (max a b)) (nI (k + 1))) else X3_areTied_L16 fu K (nI (min a b)) (nI (max a b)) (nI (k + 1)) := by
        rw [X3_areTied_L16, hK.1, if_neg (nI_ge hk (by omega)), a0, a1, nI_1]
        by_cases c1 : (sg L k).1 = min a b
        · rw [if_pos (by rw [c1]), if_pos c1]
          by_cases c2 : (sg L k).2.1 = max a b
          · rw [if_pos (by rw [c2]), if_pos c2]
          · rw [if_neg (by rw [nI_eq (by omega) (by omega)]; exact c2), if_neg c2]
        · rw [if_neg (by rw [nI_eq (by omega) (by omega)]; exact c1), if_neg c1]
      by_cases c1 : (sg L k).1 = min a b
      · by_cases c2 : (sg L k).2.1 = max a b
        · left
          refine ⟨1, Or.inl ⟨rfl, k, hk, c1, c2⟩, ?_⟩
          show X3_areTied_L16 (fu + 1) K _ _ (nI k) = _
          rw [go, if_pos c1, if_pos c2]
        · right
          refine ⟨(), fun m hm => ?_, ?_⟩
          · by_cases hmk : m = k
            · rw [hmk]
              exact fun z => c2 z.2
            · exact hi m (by omega)
          · show X3_areTied_L16 (fu + 1) K _ _ (nI k) = _
            rw [go, if_pos c1, if_neg c2]
      · right
        refine ⟨(), fun m hm => ?_, ?_⟩
        · by_cases hmk : m = k
          · rw [hmk]
            exact fun z => c1 z.1
          · exact hi m (by omega)
        · show X3_areTied_L16 (fu + 1) K _ _ (nI k) = _
          rw [go, if_neg c1])
    (by
      rintro fu _ hi
      refine ⟨0, Or.inr ⟨rfl, ?_⟩, ?_⟩
      · rintro ⟨k, hk, z⟩
        exact hi k hk z
      · show X3_areTied_L16 (fu + 1) K _ _ (nI L.length) = _
        rw [X3_areTied_L16, hK.1, if_pos (nI_le (Nat.le_refl _) (by omega))])
    (k := 0) (s := ()) (x := 0) (Nat.zero_le _) rfl (fun m hm => absurd hm (Nat.not_lt_zero m))
  have h2 : X3_areTied_L16 FUEL K (nI (min a b)) (nI (max a b)) 0 = some r := h2
  rw [h2]
  rcases h1 with ⟨rfl, h1⟩ | ⟨rfl, h1⟩
  · exact Or.inl ⟨rfl, h1⟩
  · exact Or.inr ⟨rfl, h1⟩
/-- the reasons against a string -/
def TR (n : Nat) (pu : Nat → Int32) (q : Grp) (g : Nat → Int32) (L : List Str4) (a b : Nat) (u r : Int32) : Prop :=
  (td L a b ∧ r = 1) ∨ (¬ td L a b ∧ ((q.1 a = q.1 b ∧ ((g a ^^^ g b = u ∧ r = 0) ∨ (¬ g a ^^^ g b = u ∧ r = 2))) ∨ (¬ q.1 a = q.1 b ∧ (((hp n pu q (q.1 a) ∧ hp n pu q (q.1 b) ∧ ¬ g a ^^^ g b = u) ∧ r = 3) ∨ (¬ (hp n pu q (q.1 a) ∧ hp n pu q (q.1 b) ∧ ¬ g a ^^^ g b = u) ∧ r = 0)))))
theorem TR.one {n : Nat} {pu : Nat → Int32} {q : Grp} {g : Nat → Int32} {L : List Str4} {a b : Nat} {u r r' : Int32} (h : TR n pu q g L a b u r) (h' : TR n pu q g L a b u r') : r = r' := by
  rcases h with ⟨a1, rfl⟩ | ⟨a1, ⟨a2, ⟨a3, rfl⟩ | ⟨a3, rfl⟩⟩ | ⟨a2, ⟨a3, rfl⟩ | ⟨a3, rfl⟩⟩⟩ <;> rcases h' with ⟨b1, rfl⟩ | ⟨b1, ⟨b2, ⟨b3, rfl⟩ | ⟨b3, rfl⟩⟩ | ⟨b2, ⟨b3, rfl⟩ | ⟨b3, rfl⟩⟩⟩ <;> first | rfl | (exact absurd a1 b1) | (exact absurd b1 a1) | (exact absurd a2 b2) | (exact absurd b2 a2) | (exact absurd a3 b3) | (exact absurd b3 a3)
theorem TR.c {n : Nat} {pu : Nat → Int32} {q : Grp} {g : Nat → Int32} {L : List Str4} {a b : Nat} {u r : Int32} (h : TR n pu q g L a b u r) : r = 0 ∨ r = 1 ∨ r = 2 ∨ r = 3 := by
  rcases h with ⟨a1, rfl⟩ | ⟨a1, ⟨a2, ⟨a3, rfl⟩ | ⟨a3, rfl⟩⟩ | ⟨a2, ⟨a3, rfl⟩ | ⟨a3, rfl⟩⟩⟩ <;> decide
theorem sides_x {q : Grp} {g : Nat → Int32} (hq : QF q g) {a b : Nat} (h : q.1 a = q.1 b) : q.2 a ^^^ q.2 b = g a ^^^ g b := by rw [hq.2.2.1 a, hq.2.2.1 b, h, xor_s]
theorem xor_t {a b c d : Int32} : ((c ^^^ (a ^^^ c)) ^^^ d) ^^^ (b ^^^ d) = a ^^^ b := by
  rw [xor_r, Int32.xor_comm b d, Int32.xor_assoc, xor_q]
theorem pv_hp {n : Nat} {se le pu : Nat → Int32} {L : List Str4} {g : Nat → Int32} (hA : AW n se le pu L g) {k : Nat} {r : Int32} (h : PV n pu (grp L) k r) : (r = -1 ∧ ¬ hp n pu (grp L) ((grp L).1 k)) ∨ (r ≠ -1 ∧ r = g k ∧ hp n pu (grp L) ((grp L).1 k)) := by
  rcases h with ⟨h1, h2⟩ | ⟨m, h1, h2, h3, h4⟩
  · exact Or.inl ⟨h1, fun ⟨m, z1, z2, z3⟩ => h2 m z1 z2 z3⟩
  · obtain ⟨e1, e2⟩ := hp_g hA h1 h2 h3
    rw [e1] at h4
    exact Or.inr ⟨by rw [h4]; rcases e2 with e | e <;> rw [e] <;> decide, h4, m, h1, h2, h3⟩
theorem reasonString_spec {P : SPar} {n : Nat} {se le pu : Nat → Int32} {L : List Str4} {g : Nat → Int32} {a b : Nat} (u : Int32) (hA : AW n se le pu L g) (hP : RC P n se le pu L g) (ha : a < n) (hb : b < n) : ∃ r, X1_reasonAgainstString P (nI a) (nI b) u = some r ∧ TR n pu (grp L) g L a b u r := by
  have hn := hA.1
  have hq := hA.q
  have qa := hq.1 a
  have qb := hq.1 b
  have a3 : rget 12 (P.1 3) (nI a) = nI ((grp L).1 a) := by rw [rget_n _ (by omega) (by omega), (hP.2.2.1 a ha).1]
  have a4 : rget 12 (P.1 4) (nI a) = (grp L).2 a := by rw [rget_n _ (by omega) (by omega), (hP.2.2.1 a ha).2]
  have b3 : rget 12 (P.1 3) (nI b) = nI ((grp L).1 b) := by rw [rget_n _ (by omega) (by omega), (hP.2.2.1 b hb).1]
  have b4 : rget 12 (P.1 4) (nI b) = (grp L).2 b := by rw [rget_n _ (by omega) (by omega), (hP.2.2.1 b hb).2]
  unfold X1_reasonAgainstString
  rcases areTied_spec hn hP.2.1 hA.2.1 ha hb with ⟨e, ht⟩ | ⟨e, ht⟩
  · rw [bind_some' e, if_neg (by decide)]
    exact ⟨1, rfl, Or.inl ⟨ht, rfl⟩⟩
  · rw [bind_some' e, if_pos rfl]
    unfold X1_hangTogether
    rw [a3, b3, a4, b4]
    by_cases c : (grp L).1 a = (grp L).1 b
    · rw [if_pos (show nI ((grp L).1 a) = nI ((grp L).1 b) by rw [c]), if_neg (show ¬ (1 : Int32) = 0 by decide), sides_x hq c]
      by_cases c2 : g a ^^^ g b = u
      · rw [if_pos c2]
        exact ⟨0, rfl, Or.inr ⟨ht, Or.inl ⟨c, Or.inl ⟨c2, rfl⟩⟩⟩⟩
      · rw [if_neg c2]
        exact ⟨2, rfl, Or.inr ⟨ht, Or.inl ⟨c, Or.inr ⟨c2, rfl⟩⟩⟩⟩
    · rw [if_neg (show ¬ nI ((grp L).1 a) = nI ((grp L).1 b) by rw [nI_eq (by omega) (by omega)]; exact c), if_pos rfl]
      obtain ⟨ra, p1, p2⟩ := pulledVote_spec hn hP.1 hP.2.2.1 hq.1 ha
      obtain ⟨rb, p3, p4⟩ := pulledVote_spec hn hP.1 hP.2.2.1 hq.1 hb
      rw [bind_some' p2, bind_some' p4]
      rcases pv_hp hA p1 with ⟨k1, k2⟩ | ⟨k1, k2, k3⟩
      · rw [if_pos k1]
        exact ⟨0, rfl, Or.inr ⟨ht, Or.inr ⟨c, Or.inr ⟨fun z => k2 z.1, rfl⟩⟩⟩⟩
      · rcases pv_hp hA p3 with ⟨l1, l2⟩ | ⟨l1, l2, l3⟩
        · rw [if_neg k1, if_pos l1]
          exact ⟨0, rfl, Or.inr ⟨ht, Or.inr ⟨c, Or.inr ⟨fun z => l2 z.2.1, rfl⟩⟩⟩⟩
        · rw [if_neg k1, if_neg l1, k2, l2]
          by_cases c2 : g a ^^^ g b = u
          · rw [if_pos c2]
            exact ⟨0, rfl, Or.inr ⟨ht, Or.inr ⟨c, Or.inr ⟨fun z => z.2.2 c2, rfl⟩⟩⟩⟩
          · rw [if_neg c2]
            exact ⟨3, rfl, Or.inr ⟨ht, Or.inr ⟨c, Or.inl ⟨⟨k3, l3, c2⟩, rfl⟩⟩⟩⟩
theorem pl_hp {n : Nat} {pu : Nat → Int32} {q : Grp} {g : Nat → Int32} {j : Nat} {r : Int32} (h : (r = -1000004 ∧ ∀ m, m < n → nI m ≠ -1000004 → pu m ≠ -1 → q.1 m ≠ j) ∨ (r = g j ∧ (r = 0 ∨ r = 1) ∧ ∃ m, m < n ∧ nI m ≠ -1000004 ∧ pu m ≠ -1 ∧ q.1 m = j)) (hn : n ≤ 12) : (r < 0 ∧ ¬ hp n pu q j) ∨ (¬ r < 0 ∧ r = g j ∧ hp n pu q j) := by
  have hne : ∀ m, m < n → nI m ≠ -1000004 := fun m hm z => absurd (by rw [z]; decide : nI m < 0) (nI_pos (by omega))
  rcases h with ⟨h1, h2⟩ | ⟨h1, h2, m, h3, h4, h5, h6⟩
  · exact Or.inl ⟨by rw [h1]; decide, fun ⟨m, z1, z2, z3⟩ => h2 m z1 (hne m z1) z2 z3⟩
  · exact Or.inr ⟨by rcases h2 with e | e <;> rw [e] <;> decide, h1, m, h3, h5, h6⟩
