/-! ===== who stands below whom ===== -/
theorem sup_Near : Cond.superclass "LadderClub$Near" "LadderClub$Asker" ∈ wAll := tm_3 (List.mem_of_getElem? (i := 56) rfl) rfl
theorem sup_Far : Cond.superclass "LadderClub$Far" "LadderClub$Asker" ∈ wAll := tm_3 (List.mem_of_getElem? (i := 65) rfl) rfl
theorem sup_Safe : Cond.superclass "LadderClub$Safe" "LadderClub$Far" ∈ wAll := tm_3 (List.mem_of_getElem? (i := 74) rfl) rfl
theorem sup_Best : Cond.superclass "LadderClub$Best" "LadderClub$Far" ∈ wAll := tm_3 (List.mem_of_getElem? (i := 83) rfl) rfl
theorem sup_Told : Cond.superclass "LadderClub$Told" "LadderClub$Asker" ∈ wAll := tm_3 (List.mem_of_getElem? (i := 92) rfl) rfl
theorem sup_Never : Cond.superclass "LadderClub$Never" "LadderClub$Told" ∈ wAll := tm_3 (List.mem_of_getElem? (i := 101) rfl) rfl
