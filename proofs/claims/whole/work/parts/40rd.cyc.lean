theorem q_dk6 : q_dfs 7 6 64 8 = true := by decide +kernel
theorem q_dk7 : q_dfs 7 7 128 8 = true := by decide +kernel
