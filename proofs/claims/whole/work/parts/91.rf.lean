theorem cr_s_f {C : Nat → Nat → Int32} {g : Nat → Int32} {n : Nat} (h : cr_s C g n 25 0 = 0) : cr_f C g n 25 0 = 0 := by
  unfold cr_s cr_h cr_g at h
  have h2 := cr_p0 h
  have h3 := cr_n0 h2
  exact cr_p0 h3
theorem cr_s_a {C : Nat → Nat → Int32} {g : Nat → Int32} {n : Nat} (h : cr_s C g n 25 0 = 0) : cr_a C g 25 0 = 0 := by
  have h1 := cr_s_f h
  unfold cr_f at h1
  split at h1
  · unfold cr_e cr_d cr_c at h1
    have h3 := cr_n0 h1
    have h4 := cr_p0 h3
    have h2 := cr_n0 h4
    rw [cr_ab] at h2
    exact h2
  · exact absurd h1 (cr_tf1 (by decide))
