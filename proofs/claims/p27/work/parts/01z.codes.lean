set_option maxRecDepth 100000 in
theorem q_271 : Cond.code yL_arePuppets cL_arePuppets 15 (some .boolean) ∈ ALL := List.mem_filter.mpr ⟨List.mem_of_getElem? (i := 271) rfl, rfl⟩
set_option maxRecDepth 100000 in
theorem q_493 : Cond.code yL_isActed cL_isActed 15 (some .boolean) ∈ ALL := List.mem_filter.mpr ⟨List.mem_of_getElem? (i := 493) rfl, rfl⟩
