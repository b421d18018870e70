/-! what the law calls: its own methods -/
theorem lk_RL_12 : q_lkS RL 12 kL_low 2 := by decide +kernel
theorem lk_RL_22 : q_lkS RL 22 kL_second 3 := by decide +kernel
theorem lk_RL_26 : q_lkS RL 26 kL_third 4 := by decide +kernel
theorem lk_RL_33 : q_lkS RL 33 kL_mild 1 := by decide +kernel
theorem lk_RL_77 : q_lkS RL 77 kL_bits 1 := by decide +kernel
