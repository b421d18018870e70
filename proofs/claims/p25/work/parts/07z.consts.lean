/-! constants of the pools -/
theorem ct_RX1_35 : q_wd (Cond.constant RX1 35 (-1000002)) := by decide +kernel
theorem ct_RX3_89 : q_wd (Cond.constant RX3 89 (-1000001)) := by decide +kernel
theorem ct_RX3_90 : q_wd (Cond.constant RX3 90 (-1000002)) := by decide +kernel
theorem ct_RX3_91 : q_wd (Cond.constant RX3 91 (-1000003)) := by decide +kernel
theorem ct_RJ6_265 : q_wd (Cond.constant RJ6 265 (1431655765)) := by decide +kernel
theorem ct_RJ6_266 : q_wd (Cond.constant RJ6 266 (858993459)) := by decide +kernel
theorem ct_RJ6_267 : q_wd (Cond.constant RJ6 267 (252645135)) := by decide +kernel
theorem ct_RX6_193 : q_wd (Cond.constant RX6 193 (-1000004)) := by decide +kernel
theorem ct_RX6_69 : q_wd (Cond.constant RX6 69 (-1000001)) := by decide +kernel
theorem ct_RX6_175 : q_wd (Cond.constant RX6 175 (-1000002)) := by decide +kernel
theorem ct_RX6_200 : q_wd (Cond.constant RX6 200 (-1000003)) := by decide +kernel
theorem ct_RX6_267 : q_wd (Cond.constantFloat RX6 267 (1258291200)) := by decide +kernel
theorem ct_RL_7 : q_wd (Cond.constant RL 7 (2147483647)) := by decide +kernel
theorem ct_RL_10 : q_wd (Cond.constant RL 10 (-1000002)) := by decide +kernel
theorem ct_RL_11 : q_wd (Cond.constant RL 11 (-1000003)) := by decide +kernel
theorem ct_RL_64 : q_wd (Cond.constant RL 64 (-1000004)) := by decide +kernel
