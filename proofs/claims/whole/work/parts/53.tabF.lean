theorem tab_F : ((List.range 2592).all fun e => (List.range 4).all fun j => devE e j == FL (4 * e + j) && decide (FLd (4 * e + j) < 2594)) = true := by decide +kernel
