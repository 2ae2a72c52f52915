theorem q_dk4 : q_dfs 7 4 16 8 = true := by decide +kernel
theorem q_dk5 : q_dfs 7 5 32 8 = true := by decide +kernel
