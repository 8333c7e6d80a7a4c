def tab_F_f (e : Nat) : Bool := (List.range 4).all fun j => devE e j == FL (4 * e + j) && decide (FLd (4 * e + j) < 2594)
theorem tab_F_0 : ((List.range 216).all fun i => tab_F_f (0 + i)) = true := by decide +kernel
theorem tab_F_1 : ((List.range 216).all fun i => tab_F_f (216 + i)) = true := by decide +kernel
theorem tab_F_2 : ((List.range 216).all fun i => tab_F_f (432 + i)) = true := by decide +kernel
theorem tab_F_3 : ((List.range 216).all fun i => tab_F_f (648 + i)) = true := by decide +kernel
theorem tab_F_4 : ((List.range 216).all fun i => tab_F_f (864 + i)) = true := by decide +kernel
theorem tab_F_5 : ((List.range 216).all fun i => tab_F_f (1080 + i)) = true := by decide +kernel
theorem tab_F_6 : ((List.range 216).all fun i => tab_F_f (1296 + i)) = true := by decide +kernel
theorem tab_F_7 : ((List.range 216).all fun i => tab_F_f (1512 + i)) = true := by decide +kernel
theorem tab_F_8 : ((List.range 216).all fun i => tab_F_f (1728 + i)) = true := by decide +kernel
theorem tab_F_9 : ((List.range 216).all fun i => tab_F_f (1944 + i)) = true := by decide +kernel
theorem tab_F_10 : ((List.range 216).all fun i => tab_F_f (2160 + i)) = true := by decide +kernel
theorem tab_F_11 : ((List.range 216).all fun i => tab_F_f (2376 + i)) = true := by decide +kernel
theorem tab_F : ((List.range 2592).all fun e => (List.range 4).all fun j => devE e j == FL (4 * e + j) && decide (FLd (4 * e + j) < 2594)) = true := by
  rw [List.all_eq_true]
  intro e he
  have he := List.mem_range.mp he
  show tab_F_f e = true
  rcases Nat.lt_or_ge e 216 with h0 | h0
  · exact rng_all tab_F_0 (by omega) (by omega)
  rcases Nat.lt_or_ge e 432 with h1 | h1
  · exact rng_all tab_F_1 (by omega) (by omega)
  rcases Nat.lt_or_ge e 648 with h2 | h2
  · exact rng_all tab_F_2 (by omega) (by omega)
  rcases Nat.lt_or_ge e 864 with h3 | h3
  · exact rng_all tab_F_3 (by omega) (by omega)
  rcases Nat.lt_or_ge e 1080 with h4 | h4
  · exact rng_all tab_F_4 (by omega) (by omega)
  rcases Nat.lt_or_ge e 1296 with h5 | h5
  · exact rng_all tab_F_5 (by omega) (by omega)
  rcases Nat.lt_or_ge e 1512 with h6 | h6
  · exact rng_all tab_F_6 (by omega) (by omega)
  rcases Nat.lt_or_ge e 1728 with h7 | h7
  · exact rng_all tab_F_7 (by omega) (by omega)
  rcases Nat.lt_or_ge e 1944 with h8 | h8
  · exact rng_all tab_F_8 (by omega) (by omega)
  rcases Nat.lt_or_ge e 2160 with h9 | h9
  · exact rng_all tab_F_9 (by omega) (by omega)
  rcases Nat.lt_or_ge e 2376 with h10 | h10
  · exact rng_all tab_F_10 (by omega) (by omega)
  exact rng_all tab_F_11 (by omega) (by omega)
