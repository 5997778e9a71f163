theorem mk_ta_g0 (a b : Int32) : mk_ta (mk_g0 a b) = fun _ => 0 := by
  funext j
  simp only [mk_ta, mk_g0]
  split
  · rw [if_neg (by omega), if_neg (by omega)]
  · rfl
