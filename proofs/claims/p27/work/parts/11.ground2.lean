def FUEL : Nat := 10000
theorem og {c : Prop} [Decidable c] {α : Type} {x : Option α} {u : α} (h : (if c then x else none) = some u) : c := by
  by_cases hc : c
  · exact hc
  · rw [if_neg hc] at h
    cases h
theorem vP_nil {D : va_G} {cl : List vw_C} {H : Heap} : va_P D cl [] H := fun k q h => by simp at h
section TSW
variable {p : Program} {l : Launch} {e : Env} {R : Room} {s : State} {m : MethodId} {args : Array Value} {below : List Frame} {meth : Method} {c : Code} {H : Heap} {locs : List Loc} {cells slots : Nat} {Q : State → Prop} {cc : ByteArray} {pc : Nat} {ls : Array Slot} {rest : List Value}
/-- a table switch goes its default way: none of the cases -/
theorem lv_tableD {dflt lo hi : Int} {offs : Array Int} {len : Nat} {x : Int32} {tgt : Nat} {cs : List Int32} (hexec : p.tables.exec = Jvm.exec) (hb : c.code = cc) (hdg : decode cc pc = .ok (.tableswitch dflt lo hi offs, len)) (ht : (pc : Int) + dflt = (tgt : Int))
    (hs : hi - lo < offs.size) (hk : (List.range offs.size).all (fun k => decide (offs[k]? = some dflt) || decide (Int32.ofInt (lo + k) ∈ cs)) = true) (hx : x ∉ cs)
    (k : W p l e R s m args below meth c H locs cells slots Q (F0 m tgt ls rest)) : W p l e R s m args below meth c H locs cells slots Q (F0 m pc ls (.int x :: rest)) := by
  by_cases h : x.toInt < lo ∨ hi < x.toInt
  · exact lv_tableOut hexec hb hdg h ht k
  · have h1 : ¬ x.toInt < lo := fun z => h (Or.inl z)
    have h2 : ¬ hi < x.toInt := fun z => h (Or.inr z)
    have hj : ((x.toInt - lo).toNat : Int) = x.toInt - lo := Int.toNat_of_nonneg (by omega)
    have hlt : (x.toInt - lo).toNat < offs.size := by omega
    have hh := List.all_eq_true.mp hk _ (List.mem_range.mpr hlt)
    rw [Bool.or_eq_true, decide_eq_true_eq, decide_eq_true_eq] at hh
    rcases hh with hh | hh
    · exact lv_tableIn hexec hb hdg h1 h2 hh ht k
    · refine absurd ?_ hx
      have e1 : lo + ((x.toInt - lo).toNat : Int) = x.toInt := by omega
      rw [e1, Int32.ofInt_toInt] at hh
      exact hh
end TSW
theorem vP_r {D : va_G} {cl : List vw_C} {X Y : List va_W} {H : Heap} (h : va_P D cl (X ++ Y).flatten H) : va_P D cl Y.flatten H :=
  vP_iff.mpr fun q hq => vP_iff.mp h q (by rw [List.flatten_append]; exact List.mem_append.mpr (Or.inr hq))
/-- a value gets a name -/
def bnd {α β : Type} (x : α) (f : α → β) : β := f x
theorem bnd_e {α β : Type} {x : α} {f : α → β} {z : β} (h : bnd x f = z) : ∃ y, y = x ∧ f y = z := ⟨x, rfl, h⟩
