/-! sets of puppets as bits -/
def bt (x : Int32) (k : Nat) : Bool := x.toBitVec.getLsbD k
theorem bt_or (x y : Int32) (k : Nat) : bt (x ||| y) k = (bt x k || bt y k) := by
  unfold bt
  rw [Int32.toBitVec_or, BitVec.getLsbD_or]
theorem bt_and (x y : Int32) (k : Nat) : bt (x &&& y) k = (bt x k && bt y k) := by
  unfold bt
  rw [Int32.toBitVec_and, BitVec.getLsbD_and]
theorem bt_zero (k : Nat) : bt 0 k = false := by
  unfold bt
  show (0#32).getLsbD k = false
  exact BitVec.getLsbD_zero
theorem sh_k {k : Nat} (hk : k < 12) : ((nI k &&& 31).toBitVec.smod 32) = BitVec.ofNat 32 k := by
  have : ∀ k : Nat, k < 12 → ((nI k &&& 31).toBitVec.smod 32) = BitVec.ofNat 32 k := by decide +kernel
  exact this k hk
theorem bt_one {j k : Nat} (hj : j < 12) : bt (1 <<< (nI j &&& 31)) k = decide (k = j) := by
  unfold bt
  rw [Int32.toBitVec_shiftLeft, sh_k hj]
  show ((1#32) <<< (BitVec.ofNat 32 j)).getLsbD k = _
  rw [BitVec.shiftLeft_eq', BitVec.getLsbD_shiftLeft, BitVec.toNat_ofNat, Nat.mod_eq_of_lt (by omega)]
  by_cases h : k = j
  · subst h
    simp
    omega
  · rw [BitVec.getLsbD_one, decide_eq_false h]
    by_cases h2 : k < j
    · simp [h2]
    · have h3 : ¬ k - j = 0 := by omega
      simp [h3]
theorem at_bt {x : Int32} {k : Nat} (hk : k < 12) : (x >>> (nI k &&& 31)) &&& 1 = if bt x k then 1 else 0 := by
  apply Int32.toBitVec_inj.mp
  rw [Int32.toBitVec_and, Int32.toBitVec_shiftRight, sh_k hk]
  show (x.toBitVec.sshiftRight (BitVec.ofNat 32 k).toNat) &&& 1#32 = _
  rw [BitVec.toNat_ofNat, Nat.mod_eq_of_lt (by omega)]
  unfold bt
  apply BitVec.eq_of_getLsbD_eq
  intro i hi
  rw [BitVec.getLsbD_and, BitVec.getLsbD_sshiftRight, BitVec.getLsbD_one]
  by_cases h0 : i = 0
  · subst h0
    cases h : x.toBitVec.getLsbD k
    · simp [h]
      omega
    · simp [h]
      omega
  · cases h : x.toBitVec.getLsbD k
    · simp [h0]
    · simp [h0]
theorem mem_bt {x : Int32} {k : Nat} (hk : k < 12) : X6_isMember x (nI k) = if bt x k then 1 else 0 := by
  unfold X6_isMember
  rw [at_bt hk]
  cases bt x k
  · decide
  · decide
def gs (c : Nat → Bool) (n : Nat) : Int32 := it (fun k (t : Int32) => if c k then t ||| (1 <<< (nI k &&& 31)) else t) n 0
theorem gs_bt {c : Nat → Bool} {k : Nat} : ∀ {n : Nat}, n ≤ 12 → bt (gs c n) k = (decide (k < n) && c k) := by
  intro n
  induction n with
  | zero =>
    intro _
    show bt 0 k = _
    rw [bt_zero]
    simp
  | succ n ih =>
    intro hn
    have e : gs c (n + 1) = if c n then gs c n ||| (1 <<< (nI n &&& 31)) else gs c n := rfl
    rw [e]
    cases hc : c n
    · rw [if_neg (by decide), ih (by omega)]
      by_cases h : k = n
      · rw [h, hc]
        simp
      · have : decide (k < n + 1) = decide (k < n) := by
          by_cases h2 : k < n
          · rw [decide_eq_true h2, decide_eq_true (by omega : k < n + 1)]
          · rw [decide_eq_false h2, decide_eq_false (by omega : ¬ k < n + 1)]
        rw [this]
    · rw [if_pos rfl, bt_or, ih (by omega), bt_one (by omega)]
      by_cases h : k = n
      · rw [h, hc]
        simp
      · have : decide (k < n + 1) = decide (k < n) := by
          by_cases h2 : k < n
          · rw [decide_eq_true h2, decide_eq_true (by omega : k < n + 1)]
          · rw [decide_eq_false h2, decide_eq_false (by omega : ¬ k < n + 1)]
        rw [this, decide_eq_false h, Bool.or_false]
theorem gs_cong {c d : Nat → Bool} {n : Nat} (h : ∀ k, k < n → c k = d k) : gs c n = gs d n := by
  unfold gs
  exact it_cong (fun k t hk => by rw [h k hk])
theorem membersOf_spec {P : SPar} {n j : Nat} {q : Grp} (hn : n ≤ 12) (h0 : P.2.1 0 = nI n) (hg : GR P q n) (hq : ∀ k, q.1 k ≤ k) (hj : j < 12) : X1_membersOf P (nI j) = some (gs (fun k => decide (q.1 k = j)) n) := by
  unfold X1_membersOf
  refine bind_some' (loop_it (f := fun fu t i => X1_membersOf_L4 fu P (nI j) t i) (n := n) _ (fun t => t) (by omega) ?_ ?_ _)
  · intro fu k t hk
    have qk := hq k
    have a3 : rget 12 (P.1 3) (nI k) = nI (q.1 k) := by rw [rget_n _ (by omega) (by omega), (hg k hk).1]
    show X1_membersOf_L4 (fu + 1) P (nI j) t (nI k) = X1_membersOf_L4 fu P (nI j) (if decide (q.1 k = j) = true then t ||| (1 <<< (nI k &&& 31)) else t) (nI (k + 1))
    rw [X1_membersOf_L4, h0, if_neg (nI_ge hk (by omega)), a3, nI_1]
    by_cases c : q.1 k = j
    · rw [if_pos (by rw [c]), if_pos (decide_eq_true c)]
    · rw [if_neg (by rw [nI_eq (by omega) (by omega)]; exact c), if_neg (by rw [decide_eq_false c]; decide)]
  · intro fu t
    show X1_membersOf_L4 (fu + 1) P (nI j) t (nI n) = _
    rw [X1_membersOf_L4, h0, if_pos (nI_le (Nat.le_refl n) (by omega))]
theorem seatsIn_spec {P : SPar} {n : Nat} {se le pu : Nat → Int32} (x : Int32) (hn : n ≤ 12) (hP : RB P n se le pu) : X1_seatsIn P x = some (sm (fun k => if bt x k then se k else 0) n) := by
  unfold X1_seatsIn
  rw [← it_sm]
  refine bind_some' (loop_it (f := fun fu t i => X1_seatsIn_L4 fu P x t i) (n := n) _ (fun t => t) (by omega) ?_ ?_ _)
  · intro fu k t hk
    have a0 : rget 12 (P.1 0) (nI k) = se k := by rw [rget_n _ (by omega) (by omega), (hP.2 k hk).1]
    show X1_seatsIn_L4 (fu + 1) P x t (nI k) = X1_seatsIn_L4 fu P x (t + if bt x k then se k else 0) (nI (k + 1))
    rw [X1_seatsIn_L4, hP.1, if_neg (nI_ge hk (by omega)), a0, mem_bt (by omega), nI_1]
    cases bt x k
    · rw [if_pos (by decide), if_neg (by decide), Int32.add_zero]
    · rw [if_neg (by decide), if_pos rfl]
  · intro fu t
    show X1_seatsIn_L4 (fu + 1) P x t (nI n) = _
    rw [X1_seatsIn_L4, hP.1, if_pos (nI_le (Nat.le_refl n) (by omega))]
theorem pulledPuppets_spec {P : SPar} {n : Nat} {se le pu : Nat → Int32} (hn : n ≤ 12) (hP : RB P n se le pu) : X1_pulledPuppets P = some (gs (fun k => decide (pu k ≠ -1)) n) := by
  unfold X1_pulledPuppets
  refine bind_some' (loop_it (f := fun fu t i => X1_pulledPuppets_L4 fu P t i) (n := n) _ (fun t => t) (by omega) ?_ ?_ _)
  · intro fu k t hk
    have a2 : rget 12 (P.1 2) (nI k) = pu k := by rw [rget_n _ (by omega) (by omega), (hP.2 k hk).2.2]
    show X1_pulledPuppets_L4 (fu + 1) P t (nI k) = X1_pulledPuppets_L4 fu P (if decide (pu k ≠ -1) = true then t ||| (1 <<< (nI k &&& 31)) else t) (nI (k + 1))
    rw [X1_pulledPuppets_L4, hP.1, if_neg (nI_ge hk (by omega)), nI_1]
    unfold X1_isPulled
    rw [a2]
    by_cases c : pu k = -1
    · rw [if_pos c, if_pos rfl, if_neg (by rw [decide_eq_false (fun z => z c)]; decide)]
    · rw [if_neg c, if_neg (by decide), if_pos (decide_eq_true c)]
  · intro fu t
    show X1_pulledPuppets_L4 (fu + 1) P t (nI n) = _
    rw [X1_pulledPuppets_L4, hP.1, if_pos (nI_le (Nat.le_refl n) (by omega))]
def cG (n : Nat) (q : Grp) : Int32 := it (fun k (t : Int32) => if q.1 k = k then t + 1 else t) n 0
theorem groupsC_spec {P : SPar} {n : Nat} {q : Grp} (hn : n ≤ 12) (h0 : P.2.1 0 = nI n) (hg : GR P q n) (hq : ∀ k, q.1 k ≤ k) : X1_groupsByJoining P = some (cG n q) := by
  unfold X1_groupsByJoining
  refine bind_some' (loop_it (f := fun fu t i => X1_groupsByJoining_L4 fu P t i) (n := n) _ (fun t => t) (by omega) ?_ ?_ _)
  · intro fu k t hk
    have qk := hq k
    have a3 : rget 12 (P.1 3) (nI k) = nI (q.1 k) := by rw [rget_n _ (by omega) (by omega), (hg k hk).1]
    show X1_groupsByJoining_L4 (fu + 1) P t (nI k) = X1_groupsByJoining_L4 fu P (if q.1 k = k then t + 1 else t) (nI (k + 1))
    rw [X1_groupsByJoining_L4, h0, if_neg (nI_ge hk (by omega)), a3, nI_1]
    by_cases c : q.1 k = k
    · rw [if_pos (by rw [c]), if_pos c]
    · rw [if_neg (by rw [nI_eq (by omega) (by omega)]; exact c), if_neg c]
  · intro fu t
    show X1_groupsByJoining_L4 (fu + 1) P t (nI n) = _
    rw [X1_groupsByJoining_L4, h0, if_pos (nI_le (Nat.le_refl n) (by omega))]
def cT (L : List Str4) (p : Nat) : Int32 := it (fun k (t : Int32) => if (sg L k).1 = p ∨ (sg L k).2.1 = p then t + 1 else t) L.length 0
theorem howMany_spec {K : SStr} {n p : Nat} {L : List Str4} (hn : n ≤ 12) (hK : RS K L) (hin : InL L n) (hp : p < n) : X3_howManyAt K (nI p) = some (cT L p) := by
  unfold X3_howManyAt
  have hlen := hK.2.1
  refine bind_some' (loop_it (f := fun fu t i => X3_howManyAt_L4 fu K (nI p) t i) (n := L.length) _ (fun t => t) (by omega) ?_ ?_ _)
  · intro fu k t hk
    have hx := hin _ (sg_mem hk)
    have a0 : rget 20 (K.1 0) (nI k) = nI (sg L k).1 := by rw [rget_n _ (by omega) (by omega), (hK.2.2 k hk).1]
    have a1 : rget 20 (K.1 1) (nI k) = nI (sg L k).2.1 := by rw [rget_n _ (by omega) (by omega), (hK.2.2 k hk).2.1]
    show X3_howManyAt_L4 (fu + 1) K (nI p) t (nI k) = X3_howManyAt_L4 fu K (nI p) (if (sg L k).1 = p ∨ (sg L k).2.1 = p then t + 1 else t) (nI (k + 1))
    rw [X3_howManyAt_L4, hK.1, if_neg (nI_ge hk (by omega)), a0, a1, nI_1]
    by_cases c : (sg L k).1 = p
    · rw [if_pos (by rw [c]), if_pos (Or.inl c)]
    · rw [if_neg (by rw [nI_eq (by omega) (by omega)]; exact c)]
      by_cases c2 : (sg L k).2.1 = p
      · rw [if_pos (by rw [c2]), if_pos (Or.inr c2)]
      · rw [if_neg (by rw [nI_eq (by omega) (by omega)]; exact c2), if_neg (fun z => z.elim c c2)]
  · intro fu t
    show X3_howManyAt_L4 (fu + 1) K (nI p) t (nI L.length) = _
    rw [X3_howManyAt_L4, hK.1, if_pos (nI_le (Nat.le_refl _) (by omega))]
