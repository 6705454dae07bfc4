theorem st_pure : st_PURE := st_pure0
