/-! all sets of groups -/
theorem bt_n {s k : Nat} (hk : k < 32) : bt (nI s) k = s.testBit k := by
  unfold bt
  show (BitVec.ofNat 32 s).getLsbD k = _
  rw [BitVec.getLsbD_ofNat, decide_eq_true hk, Bool.true_and]
theorem lowT : ((List.range 4096).all (fun s => s == 0 || (List.range 12).any (fun i => s.testBit i && (List.range i).all (fun j => !s.testBit j) && (List.range 12).all (fun j => (s - 1).testBit j == (if j < i then true else if j == i then false else s.testBit j))))) = true := by decide +kernel
def pcn (c s : Nat) : Nat := sN (fun k => if s.testBit k then 1 else 0) c
theorem pcT : ((List.range 4096).all (fun s => J6_bitCount_0f7a4 (nI s) == nI (pcn 12 s))) = true := by decide +kernel
