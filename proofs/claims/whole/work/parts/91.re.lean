/-- a fault stays -/
theorem cr_tf1 {C : Nat → Nat → Int32} {num pl : Int32} (h : ¬ num = 0) : ¬ mk_tf C num pl 25 0 = 0 := by
  unfold mk_tf
  split
  · show ¬ num = 0
    exact h
  · assumption
theorem cr_pf {C : Nat → Nat → Int32} {x : Int32} (h : ¬ C 25 0 = 0) : ¬ mk_pass C x 25 0 = 0 := by
  unfold mk_pass
  rw [if_neg (fun q => h q.1)]
  exact cr_tf1 (by decide)
theorem cr_n1f {C : Nat → Nat → Int32} {a b : Int32} (h : ¬ C 25 0 = 0) : ¬ mk_n1 C a b 25 0 = 0 := by
  unfold mk_n1
  split
  · exact cr_tf1 (by decide)
  · split
    · exact cr_tf1 (by decide)
    · exact h
theorem cr_nf {C : Nat → Nat → Int32} {a b : Int32} (h : ¬ C 25 0 = 0) : ¬ (mk_number C a b).2 25 0 = 0 := by
  unfold mk_number
  rw [if_neg (cr_n1f h)]
  exact cr_n1f h
theorem cr_p0 {C : Nat → Nat → Int32} {x : Int32} (h : mk_pass C x 25 0 = 0) : C 25 0 = 0 := Classical.byContradiction (fun q => cr_pf q h)
theorem cr_n0 {C : Nat → Nat → Int32} {a b : Int32} (h : (mk_number C a b).2 25 0 = 0) : C 25 0 = 0 := Classical.byContradiction (fun q => cr_nf q h)
theorem cr_rope_3 {C : Nat → Nat → Int32} {g : Nat → Int32} (h : cr_rope C g 25 0 = 0) : ¬ g 2 = 3 := by
  intro q
  unfold cr_rope cr_r2 cr_r1 at h
  have h2 := cr_p0 h
  have h3 := cr_n0 h2
  have h1 := cr_p0 h3
  rw [cr_r0, if_pos q] at h1
  exact cr_tf1 (by decide) h1
theorem cr_ab {C : Nat → Nat → Int32} {g : Nat → Int32} : cr_b C g 25 0 = cr_a C g 25 0 := by
  unfold cr_b
  exact congrFun (va_up_ne _ _ (by decide)) 0
