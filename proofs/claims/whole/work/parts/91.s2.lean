theorem cr_rs_up {X : cr_R} {k : Nat} (h : ¬ ((cr_rs X k).1 25 0 = 0 ∧ (k = 0 ∨ mk_by (cr_rs X k).1 ((cr_rs X k).1 24 0) = 108))) (h0 : k = 0 → ¬ (cr_rs X k).1 25 0 = 0) : ∀ m, cr_rs X (k + m) = cr_rs X k := by
  intro m
  induction m with
  | zero => rfl
  | succ m ih =>
    show (if (cr_rs X (k + m)).1 25 0 = 0 ∧ (k + m = 0 ∨ mk_by (cr_rs X (k + m)).1 ((cr_rs X (k + m)).1 24 0) = 108) then _ else cr_rs X (k + m)) = cr_rs X k
    rw [ih, if_neg]
    rintro ⟨q1, q2⟩
    rcases q2 with q2 | q2
    · exact h0 (by omega) q1
    · exact h ⟨q1, Or.inr q2⟩
theorem cr_ss_up {X : cr_R} {k : Nat} (h : ¬ ((cr_ss X k).1 25 0 = 0 ∧ (cr_ss X k).1 24 0 < (cr_ss X k).1 9 0)) : ∀ m, cr_ss X (k + m) = cr_ss X k := by
  intro m
  induction m with
  | zero => rfl
  | succ m ih =>
    show (if (cr_ss X (k + m)).1 25 0 = 0 ∧ (cr_ss X (k + m)).1 24 0 < (cr_ss X (k + m)).1 9 0 then _ else cr_ss X (k + m)) = cr_ss X k
    rw [ih, if_neg h]
