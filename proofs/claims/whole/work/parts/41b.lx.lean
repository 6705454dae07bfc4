theorem kl_L_82 : Cond.constantLong RL 82 4294967295 ∈ ej_WS := ej_ws (List.mem_of_getElem? (i := 1905) (by decide +kernel)) (by decide +kernel)
