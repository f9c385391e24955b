/-! what the class tells of a puppet, and its counts -/
theorem po_0 {K : SMain} {n p : Nat} {se le pu : Nat → Int32} {L : List Str4} {g : Nat → Int32} (hA : AW n se le pu L g) (hP : RC K.2.2.2.1 n se le pu L g) (hp : p < n) : X6_puppetOf K (nI p) 0 = some (se p) := by
  have hn := hA.1
  have hq := hA.q
  have qp := hq.1 p
  unfold X6_puppetOf
  rw [hasP1 hn hP.1.1 hp, if_neg i10, if_pos rfl]
  rw [rget_n _ (by omega) (by omega), (hP.1.2 p hp).1]
theorem po_1 {K : SMain} {n p : Nat} {se le pu : Nat → Int32} {L : List Str4} {g : Nat → Int32} (hA : AW n se le pu L g) (hP : RC K.2.2.2.1 n se le pu L g) (hp : p < n) : X6_puppetOf K (nI p) 1 = some (le p) := by
  have hn := hA.1
  have hq := hA.q
  have qp := hq.1 p
  unfold X6_puppetOf
  rw [hasP1 hn hP.1.1 hp, if_neg i10, if_neg (show ¬ (1 : Int32) = 0 by decide), if_pos rfl]
  rw [rget_n _ (by omega) (by omega), (hP.1.2 p hp).2.1]
theorem po_2 {K : SMain} {n p : Nat} {se le pu : Nat → Int32} {L : List Str4} {g : Nat → Int32} (hA : AW n se le pu L g) (hP : RC K.2.2.2.1 n se le pu L g) (hp : p < n) : X6_puppetOf K (nI p) 2 = some ((if pu p < 0 then -1000004 else pu p)) := by
  have hn := hA.1
  have hq := hA.q
  have qp := hq.1 p
  unfold X6_puppetOf
  rw [hasP1 hn hP.1.1 hp, if_neg i10, if_neg (show ¬ (2 : Int32) = 0 by decide), if_neg (show ¬ (2 : Int32) = 1 by decide), if_pos rfl]
  have hp3 := (hA.2.2.2 p hp).2.2.1
  unfold X1_isPulled
  rw [rget_n _ (by omega) (by omega), (hP.1.2 p hp).2.2]
  by_cases c : pu p = -1
  · rw [if_pos c, if_pos rfl, if_pos ((p3neg hp3).mpr c)]
  · rw [if_neg c, if_neg i10, if_neg (fun z => c ((p3neg hp3).mp z))]
theorem po_3 {K : SMain} {n p : Nat} {se le pu : Nat → Int32} {L : List Str4} {g : Nat → Int32} (hA : AW n se le pu L g) (hP : RC K.2.2.2.1 n se le pu L g) (hp : p < n) : X6_puppetOf K (nI p) 3 = some (K.2.2.2.1.1 5 p) := by
  have hn := hA.1
  have hq := hA.q
  have qp := hq.1 p
  unfold X6_puppetOf
  rw [hasP1 hn hP.1.1 hp, if_neg i10, if_neg (show ¬ (3 : Int32) = 0 by decide), if_neg (show ¬ (3 : Int32) = 1 by decide), if_neg (show ¬ (3 : Int32) = 2 by decide), if_pos rfl]
  rw [rget_n _ (by omega) (by omega)]
theorem po_4 {K : SMain} {n p : Nat} {se le pu : Nat → Int32} {L : List Str4} {g : Nat → Int32} (hA : AW n se le pu L g) (hP : RC K.2.2.2.1 n se le pu L g) (hp : p < n) : X6_puppetOf K (nI p) 4 = some (nI ((grp L).1 p)) := by
  have hn := hA.1
  have hq := hA.q
  have qp := hq.1 p
  unfold X6_puppetOf
  rw [hasP1 hn hP.1.1 hp, if_neg i10, if_neg (show ¬ (4 : Int32) = 0 by decide), if_neg (show ¬ (4 : Int32) = 1 by decide), if_neg (show ¬ (4 : Int32) = 2 by decide), if_neg (show ¬ (4 : Int32) = 3 by decide), if_pos rfl]
  rw [rget_n _ (by omega) (by omega), (hP.2.2.1 p hp).1]
theorem po_5 {K : SMain} {n p : Nat} {se le pu : Nat → Int32} {L : List Str4} {g : Nat → Int32} (hA : AW n se le pu L g) (hP : RC K.2.2.2.1 n se le pu L g) (hp : p < n) : X6_puppetOf K (nI p) 5 = some ((grp L).2 p) := by
  have hn := hA.1
  have hq := hA.q
  have qp := hq.1 p
  unfold X6_puppetOf
  rw [hasP1 hn hP.1.1 hp, if_neg i10, if_neg (show ¬ (5 : Int32) = 0 by decide), if_neg (show ¬ (5 : Int32) = 1 by decide), if_neg (show ¬ (5 : Int32) = 2 by decide), if_neg (show ¬ (5 : Int32) = 3 by decide), if_neg (show ¬ (5 : Int32) = 4 by decide), if_pos rfl]
  rw [rget_n _ (by omega) (by omega), (hP.2.2.1 p hp).2]
theorem po_6 {K : SMain} {n p : Nat} {se le pu : Nat → Int32} {L : List Str4} {g : Nat → Int32} (hA : AW n se le pu L g) (hP : RC K.2.2.2.1 n se le pu L g) (hp : p < n) : X6_puppetOf K (nI p) 6 = some (cT L p) := by
  have hn := hA.1
  have hq := hA.q
  have qp := hq.1 p
  unfold X6_puppetOf
  rw [hasP1 hn hP.1.1 hp, if_neg i10, if_neg (show ¬ (6 : Int32) = 0 by decide), if_neg (show ¬ (6 : Int32) = 1 by decide), if_neg (show ¬ (6 : Int32) = 2 by decide), if_neg (show ¬ (6 : Int32) = 3 by decide), if_neg (show ¬ (6 : Int32) = 4 by decide), if_neg (show ¬ (6 : Int32) = 5 by decide), if_pos rfl]
  rw [bind_some' (howMany_spec hn hP.2.1 hA.2.1 hp)]
theorem po_7 {K : SMain} {n p : Nat} {se le pu : Nat → Int32} {L : List Str4} {g : Nat → Int32} (hA : AW n se le pu L g) (hP : RC K.2.2.2.1 n se le pu L g) (hp : p < n) : X6_puppetOf K (nI p) 7 = some (gs (fun k => decide ((grp L).1 k = (grp L).1 p)) n) := by
  have hn := hA.1
  have hq := hA.q
  have qp := hq.1 p
  unfold X6_puppetOf
  rw [hasP1 hn hP.1.1 hp, if_neg i10, if_neg (show ¬ (7 : Int32) = 0 by decide), if_neg (show ¬ (7 : Int32) = 1 by decide), if_neg (show ¬ (7 : Int32) = 2 by decide), if_neg (show ¬ (7 : Int32) = 3 by decide), if_neg (show ¬ (7 : Int32) = 4 by decide), if_neg (show ¬ (7 : Int32) = 5 by decide), if_neg (show ¬ (7 : Int32) = 6 by decide), if_pos rfl]
  rw [rget_n _ (by omega) (by omega), (hP.2.2.1 p hp).1, bind_some' (membersOf_spec hn hP.1.1 hP.2.2.1 hq.1 (by omega))]
theorem po_8 {K : SMain} {n p : Nat} {se le pu : Nat → Int32} {L : List Str4} {g : Nat → Int32} (hA : AW n se le pu L g) (hP : RC K.2.2.2.1 n se le pu L g) (hp : p < n) : X6_puppetOf K (nI p) 8 = some (sm (fun k => if (grp L).1 k = (grp L).1 p then se k else 0) n) := by
  have hn := hA.1
  have hq := hA.q
  have qp := hq.1 p
  unfold X6_puppetOf
  rw [hasP1 hn hP.1.1 hp, if_neg i10, if_neg (show ¬ (8 : Int32) = 0 by decide), if_neg (show ¬ (8 : Int32) = 1 by decide), if_neg (show ¬ (8 : Int32) = 2 by decide), if_neg (show ¬ (8 : Int32) = 3 by decide), if_neg (show ¬ (8 : Int32) = 4 by decide), if_neg (show ¬ (8 : Int32) = 5 by decide), if_neg (show ¬ (8 : Int32) = 6 by decide), if_neg (show ¬ (8 : Int32) = 7 by decide), if_pos rfl]
  rw [rget_n _ (by omega) (by omega), (hP.2.2.1 p hp).1, bind_some' (membersOf_spec hn hP.1.1 hP.2.2.1 hq.1 (by omega)), bind_some' (seatsIn_spec _ hn hP.1)]
  congr 1
  refine sm_cong (fun k hk => ?_)
  rw [gs_bt hn, decide_eq_true hk, Bool.true_and]
  by_cases c : (grp L).1 k = (grp L).1 p
  · rw [if_pos c, if_pos (decide_eq_true c)]
  · rw [if_neg c, if_neg (by rw [decide_eq_false c]; decide)]
theorem po_no {K : SMain} {n p : Nat} (x : Int32) (h0 : K.2.2.2.1.2.1 0 = nI n) (hp : n ≤ p) (hp2 : p < 1000) : X6_puppetOf K (nI p) x = some (-1000001) := by
  unfold X6_puppetOf
  rw [hasP0 hp2 h0 hp, if_pos rfl]
theorem po_m1 {K : SMain} (x : Int32) : X6_puppetOf K (-1) x = some (-1000001) := by
  unfold X6_puppetOf X1_hasPuppet
  rw [if_pos im1, if_pos rfl]
theorem ct_0 {K : SMain} {n : Nat} {se le pu : Nat → Int32} {L : List Str4} {g : Nat → Int32} (hA : AW n se le pu L g) (hP : RC K.2.2.2.1 n se le pu L g) : X6_count K 0 = some (nI n) := by
  unfold X6_count
  rw [if_pos rfl, hP.1.1]
theorem ct_1 {K : SMain} {n : Nat} {se le pu : Nat → Int32} {L : List Str4} {g : Nat → Int32} (hA : AW n se le pu L g) (hP : RC K.2.2.2.1 n se le pu L g) : X6_count K 1 = some (nI L.length) := by
  unfold X6_count
  rw [if_neg (show ¬ (1 : Int32) = 0 by decide), if_pos rfl, hP.2.1.1]
theorem ct_2 {K : SMain} {n : Nat} {se le pu : Nat → Int32} {L : List Str4} {g : Nat → Int32} (hA : AW n se le pu L g) (hP : RC K.2.2.2.1 n se le pu L g) : X6_count K 2 = some (cG n (grp L)) := by
  unfold X6_count
  rw [if_neg (show ¬ (2 : Int32) = 0 by decide), if_neg (show ¬ (2 : Int32) = 1 by decide), if_pos rfl, bind_some' (groupsC_spec hA.1 hP.1.1 hP.2.2.1 hA.q.1)]
theorem ct_3 {K : SMain} {n : Nat} {se le pu : Nat → Int32} {L : List Str4} {g : Nat → Int32} (hA : AW n se le pu L g) (hP : RC K.2.2.2.1 n se le pu L g) : X6_count K 3 = some (cG n (grp L)) := by
  unfold X6_count
  rw [if_neg (show ¬ (3 : Int32) = 0 by decide), if_neg (show ¬ (3 : Int32) = 1 by decide), if_neg (show ¬ (3 : Int32) = 2 by decide), if_pos rfl, bind_some' (walkingC_spec hA.1 hP.1.1 hP.2.1 hA.2.1), (cW_cG hA.1 hA.2.1 hA.2.2.1 n (Nat.le_refl n)).1]
theorem ct_4 {K : SMain} {n : Nat} {se le pu : Nat → Int32} {L : List Str4} {g : Nat → Int32} (hA : AW n se le pu L g) (hP : RC K.2.2.2.1 n se le pu L g) : X6_count K 4 = some (sm se n) := by
  unfold X6_count
  rw [if_neg (show ¬ (4 : Int32) = 0 by decide), if_neg (show ¬ (4 : Int32) = 1 by decide), if_neg (show ¬ (4 : Int32) = 2 by decide), if_neg (show ¬ (4 : Int32) = 3 by decide), if_pos rfl, hP.2.2.2.2.1]
theorem ct_5 {K : SMain} {n : Nat} {se le pu : Nat → Int32} {L : List Str4} {g : Nat → Int32} (hA : AW n se le pu L g) (hP : RC K.2.2.2.1 n se le pu L g) : X6_count K 5 = some (sm (fun i => K.2.2.2.1.1 5 i * se i) n) := by
  unfold X6_count
  rw [if_neg (show ¬ (5 : Int32) = 0 by decide), if_neg (show ¬ (5 : Int32) = 1 by decide), if_neg (show ¬ (5 : Int32) = 2 by decide), if_neg (show ¬ (5 : Int32) = 3 by decide), if_neg (show ¬ (5 : Int32) = 4 by decide), if_pos rfl, hP.2.2.2.2.2]
theorem ct_6 {K : SMain} {n : Nat} {se le pu : Nat → Int32} {L : List Str4} {g : Nat → Int32} (hA : AW n se le pu L g) (hP : RC K.2.2.2.1 n se le pu L g) : X6_count K 6 = some (sm se n - sm (fun i => K.2.2.2.1.1 5 i * se i) n) := by
  unfold X6_count
  rw [if_neg (show ¬ (6 : Int32) = 0 by decide), if_neg (show ¬ (6 : Int32) = 1 by decide), if_neg (show ¬ (6 : Int32) = 2 by decide), if_neg (show ¬ (6 : Int32) = 3 by decide), if_neg (show ¬ (6 : Int32) = 4 by decide), if_neg (show ¬ (6 : Int32) = 5 by decide), if_pos rfl, hP.2.2.2.2.1, hP.2.2.2.2.2]
theorem ct_9 {K : SMain} {n : Nat} {se le pu : Nat → Int32} {L : List Str4} {g : Nat → Int32} (hA : AW n se le pu L g) (hP : RC K.2.2.2.1 n se le pu L g) : X6_count K 9 = some (gs (fun k => decide (pu k ≠ -1)) n) := by
  unfold X6_count
  rw [if_neg (show ¬ (9 : Int32) = 0 by decide), if_neg (show ¬ (9 : Int32) = 1 by decide), if_neg (show ¬ (9 : Int32) = 2 by decide), if_neg (show ¬ (9 : Int32) = 3 by decide), if_neg (show ¬ (9 : Int32) = 4 by decide), if_neg (show ¬ (9 : Int32) = 5 by decide), if_neg (show ¬ (9 : Int32) = 6 by decide), if_neg (show ¬ (9 : Int32) = 7 by decide), if_neg (show ¬ (9 : Int32) = 8 by decide), if_pos rfl, bind_some' (pulledPuppets_spec hA.1 hP.1)]
theorem ct_7 {K : SMain} {n : Nat} {se le pu : Nat → Int32} {L : List Str4} {g : Nat → Int32} (hA : AW n se le pu L g) (hP : RC K.2.2.2.1 n se le pu L g) {sp : Nat} (h1 : K.2.2.2.1.2.1 1 = nI sp) (hsp : sp < n ∨ (n = 0 ∧ sp = 0)) : X6_count K 7 = some (if n = 0 then -1000004 else wp (sm se n) (sm (fun i => K.2.2.2.1.1 5 i * se i) n) (K.2.2.2.1.1 5 sp)) := by
  have hn := hA.1
  unfold X6_count
  rw [if_neg (show ¬ (7 : Int32) = 0 by decide), if_neg (show ¬ (7 : Int32) = 1 by decide), if_neg (show ¬ (7 : Int32) = 2 by decide), if_neg (show ¬ (7 : Int32) = 3 by decide), if_neg (show ¬ (7 : Int32) = 4 by decide), if_neg (show ¬ (7 : Int32) = 5 by decide), if_neg (show ¬ (7 : Int32) = 6 by decide), if_pos rfl, hP.1.1]
  by_cases c : n = 0
  · rw [if_pos (show nI n = 0 by rw [c]; rfl), if_pos c]
  · rw [if_neg (nI_ne0 (by omega) (by omega)), if_neg c, wouldPass_spec hn hP h1 (by omega)]
theorem ct_8 {K : SMain} {n : Nat} {se le pu : Nat → Int32} {L : List Str4} {g : Nat → Int32} (hA : AW n se le pu L g) (hP : RC K.2.2.2.1 n se le pu L g) {sp : Nat} (h1 : K.2.2.2.1.2.1 1 = nI sp) : X6_count K 8 = some (if n = 0 then -1000004 else nI sp) := by
  have hn := hA.1
  unfold X6_count
  rw [if_neg (show ¬ (8 : Int32) = 0 by decide), if_neg (show ¬ (8 : Int32) = 1 by decide), if_neg (show ¬ (8 : Int32) = 2 by decide), if_neg (show ¬ (8 : Int32) = 3 by decide), if_neg (show ¬ (8 : Int32) = 4 by decide), if_neg (show ¬ (8 : Int32) = 5 by decide), if_neg (show ¬ (8 : Int32) = 6 by decide), if_neg (show ¬ (8 : Int32) = 7 by decide), if_pos rfl, hP.1.1, h1]
  by_cases c : n = 0
  · rw [if_pos (show nI n = 0 by rw [c]; rfl), if_pos c]
  · rw [if_neg (nI_ne0 (by omega) (by omega)), if_neg c]
theorem ct_10 (K : SMain) : X6_count K 10 = some (K.2.2.2.1.2.2.2.2 0) := by
  unfold X6_count
  rw [if_neg (show ¬ (10 : Int32) = 0 by decide), if_neg (show ¬ (10 : Int32) = 1 by decide), if_neg (show ¬ (10 : Int32) = 2 by decide), if_neg (show ¬ (10 : Int32) = 3 by decide), if_neg (show ¬ (10 : Int32) = 4 by decide), if_neg (show ¬ (10 : Int32) = 5 by decide), if_neg (show ¬ (10 : Int32) = 6 by decide), if_neg (show ¬ (10 : Int32) = 7 by decide), if_neg (show ¬ (10 : Int32) = 8 by decide), if_neg (show ¬ (10 : Int32) = 9 by decide), if_pos rfl]
theorem ct_11 (K : SMain) : X6_count K 11 = some (K.2.2.2.1.2.2.2.2 1) := by
  unfold X6_count
  rw [if_neg (show ¬ (11 : Int32) = 0 by decide), if_neg (show ¬ (11 : Int32) = 1 by decide), if_neg (show ¬ (11 : Int32) = 2 by decide), if_neg (show ¬ (11 : Int32) = 3 by decide), if_neg (show ¬ (11 : Int32) = 4 by decide), if_neg (show ¬ (11 : Int32) = 5 by decide), if_neg (show ¬ (11 : Int32) = 6 by decide), if_neg (show ¬ (11 : Int32) = 7 by decide), if_neg (show ¬ (11 : Int32) = 8 by decide), if_neg (show ¬ (11 : Int32) = 9 by decide), if_neg (show ¬ (11 : Int32) = 10 by decide), if_pos rfl]
theorem ct_12 (K : SMain) : X6_count K 12 = some (X0_kept K.2.2.2.1.2.2.2) := by
  unfold X6_count
  rw [if_neg (show ¬ (12 : Int32) = 0 by decide), if_neg (show ¬ (12 : Int32) = 1 by decide), if_neg (show ¬ (12 : Int32) = 2 by decide), if_neg (show ¬ (12 : Int32) = 3 by decide), if_neg (show ¬ (12 : Int32) = 4 by decide), if_neg (show ¬ (12 : Int32) = 5 by decide), if_neg (show ¬ (12 : Int32) = 6 by decide), if_neg (show ¬ (12 : Int32) = 7 by decide), if_neg (show ¬ (12 : Int32) = 8 by decide), if_neg (show ¬ (12 : Int32) = 9 by decide), if_neg (show ¬ (12 : Int32) = 10 by decide), if_neg (show ¬ (12 : Int32) = 11 by decide), if_pos rfl]
theorem ct_15 (K : SMain) : X6_count K 15 = some (K.2.2.2.1.2.2.1.2 1) := by
  unfold X6_count
  rw [if_neg (show ¬ (15 : Int32) = 0 by decide), if_neg (show ¬ (15 : Int32) = 1 by decide), if_neg (show ¬ (15 : Int32) = 2 by decide), if_neg (show ¬ (15 : Int32) = 3 by decide), if_neg (show ¬ (15 : Int32) = 4 by decide), if_neg (show ¬ (15 : Int32) = 5 by decide), if_neg (show ¬ (15 : Int32) = 6 by decide), if_neg (show ¬ (15 : Int32) = 7 by decide), if_neg (show ¬ (15 : Int32) = 8 by decide), if_neg (show ¬ (15 : Int32) = 9 by decide), if_neg (show ¬ (15 : Int32) = 10 by decide), if_neg (show ¬ (15 : Int32) = 11 by decide), if_neg (show ¬ (15 : Int32) = 12 by decide), if_neg (show ¬ (15 : Int32) = 13 by decide), if_neg (show ¬ (15 : Int32) = 14 by decide), if_pos rfl]
theorem ct_20 (K : SMain) : X6_count K 20 = some (K.2.2.2.1.2.1 2) := by
  unfold X6_count
  rw [if_neg (show ¬ (20 : Int32) = 0 by decide), if_neg (show ¬ (20 : Int32) = 1 by decide), if_neg (show ¬ (20 : Int32) = 2 by decide), if_neg (show ¬ (20 : Int32) = 3 by decide), if_neg (show ¬ (20 : Int32) = 4 by decide), if_neg (show ¬ (20 : Int32) = 5 by decide), if_neg (show ¬ (20 : Int32) = 6 by decide), if_neg (show ¬ (20 : Int32) = 7 by decide), if_neg (show ¬ (20 : Int32) = 8 by decide), if_neg (show ¬ (20 : Int32) = 9 by decide), if_neg (show ¬ (20 : Int32) = 10 by decide), if_neg (show ¬ (20 : Int32) = 11 by decide), if_neg (show ¬ (20 : Int32) = 12 by decide), if_neg (show ¬ (20 : Int32) = 13 by decide), if_neg (show ¬ (20 : Int32) = 14 by decide), if_neg (show ¬ (20 : Int32) = 15 by decide), if_pos rfl]
