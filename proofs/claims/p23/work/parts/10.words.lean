set_option maxRecDepth 100000 in
theorem xw_oi : Cond.instanceMethod objectInit ∈ xG := List.mem_filter.mpr ⟨List.mem_of_getElem? (i := 53) rfl, rfl⟩
set_option maxRecDepth 100000 in
theorem xw_oc : Cond.code objectInit ⟨#[0xb1]⟩ 1 none ∈ xG := List.mem_filter.mpr ⟨List.mem_of_getElem? (i := 54) rfl, rfl⟩
set_option maxRecDepth 100000 in
theorem xw_ns : Cond.static Lib.Math.min.name ∈ xG := List.mem_filter.mpr ⟨List.mem_of_getElem? (i := 329) rfl, rfl⟩
set_option maxRecDepth 100000 in
theorem xw_nc : Cond.code Lib.Math.min.name Lib.Math.min.code 2 (some .int) ∈ xG := List.mem_filter.mpr ⟨List.mem_of_getElem? (i := 330) rfl, rfl⟩
set_option maxRecDepth 100000 in
theorem xw_xs : Cond.static Lib.Math.max.name ∈ xG := List.mem_filter.mpr ⟨List.mem_of_getElem? (i := 332) rfl, rfl⟩
set_option maxRecDepth 100000 in
theorem xw_xc : Cond.code Lib.Math.max.name Lib.Math.max.code 2 (some .int) ∈ xG := List.mem_filter.mpr ⟨List.mem_of_getElem? (i := 333) rfl, rfl⟩
set_option maxRecDepth 100000 in
theorem xw_mi : Cond.initialized "java/lang/Math" ∈ xG := List.mem_filter.mpr ⟨List.mem_of_getElem? (i := 42) rfl, rfl⟩
set_option maxRecDepth 100000 in
theorem xw_aint : Cond.arrayClass .int ∈ xG := List.mem_filter.mpr ⟨List.mem_of_getElem? (i := 732) rfl, rfl⟩
set_option maxRecDepth 100000 in
theorem xw_along : Cond.arrayClass .long ∈ xG := List.mem_filter.mpr ⟨List.mem_of_getElem? (i := 91) rfl, rfl⟩
set_option maxRecDepth 100000 in
theorem xw_aboolean : Cond.arrayClass .boolean ∈ xG := List.mem_filter.mpr ⟨List.mem_of_getElem? (i := 733) rfl, rfl⟩
