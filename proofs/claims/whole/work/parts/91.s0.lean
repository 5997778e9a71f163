theorem cr_s_std {C : Nat → Nat → Int32} {g : Nat → Int32} {n : Nat} (h : cr_s C g n 25 0 = 0) : mk_std g (cr_c C g).1 (cr_e C g).1 n = none := by
  have h1 := cr_s_f h
  unfold cr_f at h1
  by_cases q : mk_std g (cr_c C g).1 (cr_e C g).1 n = none
  · exact q
  · rw [if_neg q] at h1
    exact absurd h1 (cr_tf1 (by decide))
