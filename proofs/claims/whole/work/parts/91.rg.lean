theorem cr_s_k {C : Nat → Nat → Int32} {g : Nat → Int32} {n : Nat} (h : cr_s C g n 25 0 = 0) : ¬ cr_k C = hs_NONE ∧ ¬ g 3 = 6 ∧ C 25 0 = 0 := by
  have h1 := cr_s_a h
  unfold cr_a at h1
  split at h1
  · exact absurd h1 (cr_tf1 (by decide))
  · rename_i q
    split at h1
    · exact absurd h1 (cr_tf1 (by decide))
    · rename_i q2
      exact ⟨q, q2, h1⟩
theorem cr_kv {x : Int32} (h : ¬ mk_kind x = hs_NONE) : mk_kind x = 1 ∨ mk_kind x = 2 ∨ mk_kind x = 3 ∨ mk_kind x = 4 ∨ mk_kind x = 5 := by
  unfold mk_kind at h ⊢
  by_cases h1 : x = 116
  · rw [if_pos h1]; simp
  rw [if_neg h1] at h ⊢
  by_cases h2 : x = 106
  · rw [if_pos h2]; simp
  rw [if_neg h2] at h ⊢
  by_cases h3 : x = 98
  · rw [if_pos h3]; simp
  rw [if_neg h3] at h ⊢
  by_cases h4 : x = 110
  · rw [if_pos h4]; simp
  rw [if_neg h4] at h ⊢
  by_cases h5 : x = 118
  · rw [if_pos h5]; simp
  rw [if_neg h5] at h
  exact absurd rfl h
