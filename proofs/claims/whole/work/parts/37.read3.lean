/-! the whole reader -/
theorem ps_law_le {M : Nat → Nat → Int32} {t : Nat} (ht : M 9 0 = nI t) (ht1 : t ≤ 100) {S : ps_S} (h : S.2.1 ≤ t) : (ps_law M S).2.2.1 ≤ t := by
  have h1 : (pl1 M S).2.1 ≤ t := ps_takes_le ht ht1 (by decide) h
  have h2 : (pl2 M S).2.1 ≤ t := ps_num_le ht ht1 h1
  have h3 : (pl3 M S).2.1 ≤ t := ps_takes_le ht ht1 (by decide) (ps_set_le h2)
  have h4 : (pl4 M S).2.1 ≤ t := ps_num_le ht ht1 h3
  unfold ps_law
  split
  · exact h1
  split
  · exact h2
  split
  · exact h3
  split
  · exact h4
  · exact ps_takes_le ht ht1 (by decide) (ps_set_le h4)
theorem ps_law_h (M : Nat → Nat → Int32) (S : ps_S) {j : Nat} (hj : 2 ≤ j) : (ps_law M S).2.1 j = S.1 j := by
  have h1 : (pl1 M S).1 = S.1 := ps_takes_h _ _ _
  have h2 : (pl2 M S).1 = S.1 := (ps_num_h _ _ _ _).trans h1
  have h3 : (pl3 M S).1 j = S.1 j := by unfold pl3; rw [ps_takes_h, ps_set_1, va_up_ne _ _ (by omega), h2]
  have h4 : (pl4 M S).1 j = S.1 j := by unfold pl4; rw [ps_num_h]; exact h3
  unfold ps_law
  split
  · exact congrFun h1 j
  split
  · exact congrFun h2 j
  split
  · exact h3
  split
  · exact h4
  · rw [ps_takes_h, ps_set_1, va_up_ne _ _ (by omega)]; exact h4
theorem ps_rope_le {M : Nat → Nat → Int32} {t : Nat} (ht : M 9 0 = nI t) (ht1 : t ≤ 100) {S : ps_S} (h : S.2.1 ≤ t) : (ps_rope M S).2.2.1 ≤ t := by
  have h1 : (pr1 M S).2.1 ≤ t := ps_takes_le ht ht1 (by decide) h
  have h2 : (pr2 M S).2.1 ≤ t := ps_num_le ht ht1 h1
  unfold ps_rope
  split
  · exact h1
  split
  · exact ps_f_le h1
  split
  · exact h2
  · exact ps_takes_le ht ht1 (by decide) (ps_set_le (ps_set_le h2))
/-- a rope that is read: one rope more, no stall; else 0 -/
theorem ps_rope_ok {M : Nat → Nat → Int32} {S : ps_S} {r : Nat} (hr : S.1 2 = nI r) (hr3 : r ≤ 3) (h3 : S.1 3 = nI 0) : (ps_rope M S).1 = 0 ∨ ((ps_rope M S).1 = 1 ∧ (ps_rope M S).2.1 2 = nI (r + 1) ∧ r + 1 ≤ 3 ∧ (ps_rope M S).2.1 3 = nI 0) := by
  have hro : ps_ro S = r := by rw [ps_ro, hr]; exact nI_clamp (by omega)
  have h1 : (pr1 M S).1 = S.1 := ps_takes_h _ _ _
  have h2 : (pr2 M S).1 = S.1 := (ps_num_h _ _ _ _).trans h1
  unfold ps_rope
  split
  · exact Or.inl rfl
  split
  · exact Or.inl rfl
  rename_i c
  split
  · exact Or.inl rfl
  · have hr4 : ¬ r = 3 := fun q => c (by rw [hr, q]; rfl)
    rcases ps_takes_b M 59 (ps_set (ps_set (pr2 M S) (5 + ps_ro S) (pr2 M S).2.2.2.2) 2 (nI (ps_ro S + 1))) with q | q
    · exact Or.inl q
    · refine Or.inr ⟨q, ?_, by omega, ?_⟩
      · rw [ps_takes_h, ps_set_1, va_up_self, hro]
      · rw [ps_takes_h, ps_set_1, va_up_ne _ _ (by omega), ps_set_1, va_up_ne _ _ (by omega), h2]; exact h3
theorem ps_stall_le {M : Nat → Nat → Int32} {t : Nat} (ht : M 9 0 = nI t) (ht1 : t ≤ 100) {S : ps_S} (h : S.2.1 ≤ t) : (ps_stall M S).2.2.1 ≤ t := by
  unfold ps_stall
  split
  · exact h
  rename_i c
  have h1 : (pt1 S).2.1 ≤ t := pt1_le (hs_sort_p ht ht1 c)
  have h2 : (pt2 M S).2.1 ≤ t := ps_set_le h1
  have h3 : (pt3 M S).2.1 ≤ t := ps_num_le ht ht1 h2
  have h4 : (pt4 M S).2.1 ≤ t := ps_set_le h3
  have h5 : (pt5 M S).2.1 ≤ t := ps_takes_le ht ht1 (by decide) h4
  have h6 : (pt6 M S).2.1 ≤ t := ps_num_le ht ht1 h5
  have h7 : (pt7 M S).2.1 ≤ t := ps_set_le h6
  have h8 : (pt8 M S).2.1 ≤ t := ps_takes_le ht ht1 (by decide) h7
  have h9 : (pt9 M S).2.1 ≤ t := ps_num_le ht ht1 h8
  have h10 : (pt10 M S).2.1 ≤ t := ps_set_le (ps_set_le h9)
  split
  · exact ps_f_le h1
  split
  · exact h3
  split
  · exact h5
  split
  · exact h6
  split
  · split
    · exact h8
    split
    · exact h9
    · exact ps_takes_le ht ht1 (by decide) h10
  · exact h6
theorem ps_stall_ok {M : Nat → Nat → Int32} {S : ps_S} {n r : Nat} (hn : S.1 3 = nI n) (hn6 : n ≤ 6) (hr : S.1 2 = nI r) : (ps_stall M S).1 = 0 ∨ ((ps_stall M S).1 = 1 ∧ (ps_stall M S).2.1 3 = nI (n + 1) ∧ n + 1 ≤ 6 ∧ (ps_stall M S).2.1 2 = nI r) := by
  have hst : ps_st S = n := by rw [ps_st, hn]; exact nI_clamp (by omega)
  have h2 : (pt2 M S).1 2 = nI r := by unfold pt2; rw [ps_set_1, va_up_ne _ _ (by omega)]; exact hr
  have h3 : (pt3 M S).1 2 = nI r := by unfold pt3; rw [ps_num_h]; exact h2
  have h4 : (pt4 M S).1 2 = nI r := by unfold pt4; rw [ps_set_1, va_up_ne _ _ (by omega)]; exact h3
  have h5 : (pt5 M S).1 2 = nI r := by unfold pt5; rw [ps_takes_h]; exact h4
  have h6 : (pt6 M S).1 2 = nI r := by unfold pt6; rw [ps_num_h]; exact h5
  have h7 : (pt7 M S).1 2 = nI r := by unfold pt7; rw [ps_set_1, va_up_ne _ _ (by omega)]; exact h6
  have h8 : (pt8 M S).1 2 = nI r := by unfold pt8; rw [ps_takes_h]; exact h7
  have h9 : (pt9 M S).1 2 = nI r := by unfold pt9; rw [ps_num_h]; exact h8
  have h10 : (pt10 M S).1 2 = nI r := by unfold pt10; rw [ps_set_1, va_up_ne _ _ (by omega), ps_set_1, va_up_ne _ _ (by omega)]; exact h9
  unfold ps_stall
  split
  · exact Or.inl rfl
  split
  · exact Or.inl rfl
  rename_i c
  have hn5 : ¬ n = 6 := fun q => c (by rw [hn, q]; rfl)
  split
  · exact Or.inl rfl
  split
  · exact Or.inl rfl
  split
  · exact Or.inl rfl
  split
  · split
    · exact Or.inl rfl
    split
    · exact Or.inl rfl
    · rcases ps_takes_b M 59 (pt10 M S) with q | q
      · exact Or.inl q
      · refine Or.inr ⟨q, ?_, by omega, ?_⟩
        · rw [ps_takes_h]; unfold pt10; rw [ps_set_1, va_up_self, hst]
        · rw [ps_takes_h]; exact h10
  · exact Or.inl rfl
def ps_start (M : Nat → Nat → Int32) (S : ps_S) : Int32 × ps_S :=
  if (ps_law M S).1 = 0 then (0, (ps_law M S).2) else if (ps_rope M (ps_law M S).2).1 = 0 then (0, (ps_rope M (ps_law M S).2).2) else (1, (ps_rope M (ps_law M S).2).2)
def ps_ropes (M : Nat → Nat → Int32) : Nat → Int32 × ps_S → Int32 × ps_S
  | 0, X => X
  | f + 1, X => if X.1 = 0 then X else if hs_byte M X.2.2.1 = 108 then ps_ropes M f (ps_rope M X.2) else X
def ps_stalls (M : Nat → Nat → Int32) (t : Nat) : Nat → Int32 × ps_S → Int32 × ps_S
  | 0, X => X
  | f + 1, X => if X.1 = 0 then X else if X.2.2.1 < t then ps_stalls M t f (ps_stall M X.2) else X
def ps_S0 (M : Nat → Nat → Int32) (s0 : Nat) : ps_S := (fun _ => 0, 0, s0, M 13 0, M 14 0)
def ps_market (M : Nat → Nat → Int32) (t s0 : Nat) : Int32 × ps_S := ps_stalls M t 8 (ps_ropes M 5 (ps_start M (ps_S0 M s0)))
def hs_z150 (g : Nat → Int32) (k : Nat) : Nat → Int32 := fun j => if 150 ≤ j ∧ j < 150 + k then 0 else g j
theorem hs_z150_0 (g : Nat → Int32) : hs_z150 g 0 = g := by funext j; simp only [hs_z150]; rw [if_neg (by omega)]
theorem hs_z150_s (g : Nat → Int32) (k : Nat) : va_up (hs_z150 g k) (150 + k) 0 = hs_z150 g (k + 1) := by
  funext j
  simp only [hs_z150, va_up]
  by_cases h : j = 150 + k
  · rw [if_pos h, if_pos (by omega)]
  · rw [if_neg h]
    by_cases h2 : 150 ≤ j ∧ j < 150 + k
    · rw [if_pos h2, if_pos (by omega)]
    · rw [if_neg h2, if_neg (by omega)]
theorem mo_ps_start {M : Nat → Nat → Int32} {s0 : Nat} (hs0 : M 12 0 = nI s0) : mo_w (va_up M 0 (hs_z150 (M 0) 50)) 11 0 0 = mo_ps M (ps_S0 M s0) := by
  have e0 : (0 : Int32) = nI 0 := rfl
  funext k
  simp only [mo_w, va_up, mo_ps, mo_rd, ps_S0]
  rw [← hs0, ← e0]
  by_cases h0 : k = 0
  · subst h0; rfl
  · by_cases h1 : k = 11
    · subst h1; funext j; by_cases z : j = 0 <;> simp [z]
    · by_cases h2 : k = 12
      · subst h2; funext j; by_cases z : j = 0 <;> simp [z, va_up]
      · by_cases h3 : k = 13
        · subst h3; funext j; by_cases z : j = 0 <;> simp [z, va_up]
        · by_cases h4 : k = 14
          · subst h4; funext j; by_cases z : j = 0 <;> simp [z, va_up]
          · simp [h0, h1, h2, h3, h4]
