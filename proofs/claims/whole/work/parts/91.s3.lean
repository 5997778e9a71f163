/-- what holds of what is read -/
def cr_I (X : cr_R) : Prop := mk_sr X.2.1 X.2.2.2 ∧ X.2.1 2 = nI X.2.2.1 ∧ X.2.2.1 ≤ 3
theorem cr_I_rp {C : Nat → Nat → Int32} {g : Nat → Int32} {nr n : Nat} (h : cr_I (C, g, nr, n)) : cr_I (cr_rope C g, cr_rg C g nr, cr_rn C g nr, n) := by
  obtain ⟨h1, h2, h3⟩ := h
  have h1 : mk_sr g n := h1
  have h2 : g 2 = nI nr := h2
  have h3 : nr ≤ 3 := h3
  show mk_sr (cr_rg C g nr) n ∧ cr_rg C g nr 2 = nI (cr_rn C g nr) ∧ cr_rn C g nr ≤ 3
  unfold cr_rg cr_rn
  by_cases q : cr_rope C g 25 0 = 0
  · have hn3 : ¬ nr = 3 := fun z => cr_rope_3 q (by rw [h2, z]; rfl)
    rw [if_pos q, if_pos q]
    exact ⟨mk_sr_up (by omega) (mk_sr_up (by omega) h1), va_up_self _ _ _, by omega⟩
  · rw [if_neg q, if_neg q]
    exact ⟨h1, h2, h3⟩
