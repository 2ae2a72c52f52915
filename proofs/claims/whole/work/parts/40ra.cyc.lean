theorem q_dk0 : q_dfs 7 0 1 8 = true := by decide +kernel
theorem q_dk1 : q_dfs 7 1 2 8 = true := by decide +kernel
