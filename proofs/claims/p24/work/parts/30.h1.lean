theorem dfs1 : dfs 1 1 0 0 0 = true := by decide +kernel
theorem dfs2 : dfs 2 2 0 0 0 = true := by decide +kernel
theorem dfs3 : dfs 3 3 0 0 0 = true := by decide +kernel
theorem dfs4 : dfs 4 4 0 0 0 = true := by decide +kernel
