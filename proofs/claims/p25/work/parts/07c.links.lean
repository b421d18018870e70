/-! what the law calls: its own methods, second part -/
theorem lk_RL_80 : q_lkS RL 80 kL_arePeopleSo 1 := by decide +kernel
set_option maxRecDepth 100000 in
theorem lk_RL_84 : q_lkS RL 84 kL_areCoursesSo 1 := ⟨⟨by decide +kernel, by decide +kernel, ⟨List.mem_append_right _ (List.mem_of_getElem? (i := 565) rfl), by decide +kernel⟩, by decide +kernel, by decide +kernel⟩, by decide +kernel⟩
theorem lk_RL_97 : q_lkS RL 97 kL_cell 2 := by decide +kernel
theorem lk_RL_101 : q_lkS RL 101 kL_does 2 := by decide +kernel
set_option maxRecDepth 100000 in
theorem lk_RL_105 : q_lkS RL 105 kL_isCloseSo 1 := ⟨⟨by decide +kernel, by decide +kernel, ⟨List.mem_append_right _ (List.mem_of_getElem? (i := 598) rfl), by decide +kernel⟩, by decide +kernel, by decide +kernel⟩, by decide +kernel⟩
theorem lk_RL_108 : q_lkS RL 108 kL_areIfsSo 2 := by decide +kernel
