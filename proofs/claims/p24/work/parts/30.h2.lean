theorem dfs5 : dfs 5 5 0 0 0 = true := by decide +kernel
