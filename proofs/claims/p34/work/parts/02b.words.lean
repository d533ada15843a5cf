set_option maxRecDepth 100000 in
theorem mc_yL_cell : Cond.code yL_cell cL_cell 2 (some .int) ∈ W0 := List.mem_filter.mpr ⟨List.mem_append_right _ (show _ ∈ tables_1_1 ++ (tables_1_2 ++ tables_1_3) from List.mem_append_right _ (List.mem_append_right _ (List.mem_of_getElem? (i := 163) rfl))), by decide +kernel⟩
set_option maxRecDepth 100000 in
theorem mc_yL_low : Cond.code yL_low cL_low 2 (some .int) ∈ W0 := List.mem_filter.mpr ⟨List.mem_append_right _ (show _ ∈ tables_1_1 ++ (tables_1_2 ++ tables_1_3) from List.mem_append_right _ (List.mem_append_right _ (List.mem_of_getElem? (i := 166) rfl))), by decide +kernel⟩
set_option maxRecDepth 100000 in
theorem mc_yL_isSound : Cond.code yL_isSound cL_isSound 8 (some .boolean) ∈ W0 := List.mem_filter.mpr ⟨List.mem_append_right _ (show _ ∈ tables_1_1 ++ (tables_1_2 ++ tables_1_3) from List.mem_append_right _ (List.mem_append_right _ (List.mem_of_getElem? (i := 170) rfl))), by decide +kernel⟩
set_option maxRecDepth 100000 in
theorem mc_yL_isGivingTold : Cond.code yL_isGivingTold cL_isGivingTold 15 (some .boolean) ∈ W0 := List.mem_filter.mpr ⟨List.mem_append_right _ (show _ ∈ tables_1_1 ++ (tables_1_2 ++ tables_1_3) from List.mem_append_right _ (List.mem_append_right _ (List.mem_of_getElem? (i := 182) rfl))), by decide +kernel⟩
set_option maxRecDepth 100000 in
theorem mc_yL_changes : Cond.code yL_changes cL_changes 6 (some .int) ∈ W0 := List.mem_filter.mpr ⟨List.mem_append_right _ (show _ ∈ tables_1_1 ++ (tables_1_2 ++ tables_1_3) from List.mem_append_right _ (List.mem_append_right _ (List.mem_of_getElem? (i := 189) rfl))), by decide +kernel⟩
