theorem dfs6_0 : dfs 6 5 1 0 1 = true := by decide +kernel
theorem dfs6_1 : dfs 6 5 1 1 2 = true := by decide +kernel
theorem dfs6_2 : dfs 6 5 1 2 4 = true := by decide +kernel
theorem dfs6_3 : dfs 6 5 1 3 8 = true := by decide +kernel
theorem dfs6_4 : dfs 6 5 1 4 16 = true := by decide +kernel
theorem dfs6_5 : dfs 6 5 1 5 32 = true := by decide +kernel
theorem dfs6_6 : dfs 6 5 1 6 1 = true := by decide +kernel
theorem dfs6_7 : dfs 6 5 1 7 2 = true := by decide +kernel
