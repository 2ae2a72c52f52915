theorem q_dk2 : q_dfs 7 2 4 8 = true := by decide +kernel
theorem q_dk3 : q_dfs 7 3 8 8 = true := by decide +kernel
