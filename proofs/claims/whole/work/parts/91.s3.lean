/-- what holds of what is read -/
def cr_J (g : Nat → Int32) (nr n : Nat) : Prop := mk_sr g n ∧ g 2 = nI nr ∧ nr ≤ 3
theorem cr_J_if {P : Prop} [Decidable P] {g : Nat → Int32} {nr n : Nat} {x : Int32} (h : cr_J g nr n) (h3 : P → ¬ g 2 = 3) : cr_J (if P then va_up (va_up g (5 + nr) x) 2 (nI (nr + 1)) else g) (if P then nr + 1 else nr) n := by
  obtain ⟨k1, k2, k3⟩ := h
  by_cases q : P
  · have hn3 : ¬ nr = 3 := fun z => h3 q (by rw [k2, z]; rfl)
    rw [if_pos q, if_pos q]
    exact ⟨mk_sr_up (by omega) (mk_sr_up (by omega) k1), va_up_self _ _ _, by omega⟩
  · rw [if_neg q, if_neg q]
    exact ⟨k1, k2, k3⟩
theorem cr_J_rp {C : Nat → Nat → Int32} {g : Nat → Int32} {nr n : Nat} (h : cr_J g nr n) : cr_J (cr_rg C g nr) (cr_rn C g nr) n := cr_J_if (P := cr_rope C g 25 0 = 0) h cr_rope_3
theorem mk_sr_as {g : Nat → Int32} {n : Nat} {k ro pl go : Int32} (h : mk_sr g n) (hn : n < 6) (hk : k = 1 ∨ k = 2 ∨ k = 3 ∨ k = 4 ∨ k = 5) : mk_sr (mk_as g n k ro pl go) (n + 1) := by
  obtain ⟨h1, h4, h5, h6⟩ := h
  refine ⟨?_, by omega, fun i hi => ?_, fun i hi => ?_⟩
  · unfold mk_as
    rw [if_pos rfl]
  · by_cases e : i = n
    · subst e
      rw [(mk_as_s g hn k ro pl go).1]
      exact hk
    · rw [mk_as_o g k ro pl go (by omega)]
      exact h5 i (by omega)
  · by_cases e : i = n
    · subst e
      refine Or.inl ?_
      unfold mk_as
      rw [if_neg (by omega), if_neg (by omega), if_neg (by omega), if_neg (by omega), if_neg (by omega), if_pos (by omega)]
    · rw [mk_as_o g k ro pl go (by omega)]
      exact h6 i (by omega)
theorem cr_J_as {P : Prop} [Decidable P] {g : Nat → Int32} {nr n : Nat} {k ro pl go : Int32} (h : cr_J g nr n) (h6 : P → ¬ g 3 = 6 ∧ (k = 1 ∨ k = 2 ∨ k = 3 ∨ k = 4 ∨ k = 5)) : cr_J (if P then mk_as g n k ro pl go else g) nr (if P then n + 1 else n) := by
  obtain ⟨k1, k2, k3⟩ := h
  by_cases q : P
  · have hn6 : ¬ n = 6 := fun z => (h6 q).1 (by rw [k1.1, z]; rfl)
    have k4 := k1.2.1
    rw [if_pos q, if_pos q]
    refine ⟨mk_sr_as k1 (by omega) (h6 q).2, ?_, k3⟩
    rw [mk_as_o g _ _ _ _ (by omega)]
    exact k2
  · rw [if_neg q, if_neg q]
    exact ⟨k1, k2, k3⟩
theorem cr_J_st {C : Nat → Nat → Int32} {g : Nat → Int32} {nr n : Nat} (h : cr_J g nr n) : cr_J (cr_sg C g n) nr (cr_sn C g n) := cr_J_as (P := cr_s C g n 25 0 = 0) h (fun q => ⟨(cr_s_k q).2.1, cr_kv (cr_s_k q).1⟩)
def cr_I (X : cr_R) : Prop := cr_J X.2.1 X.2.2.1 X.2.2.2
theorem cr_I_rp {X : cr_R} (h : cr_I X) : cr_I (cr_rp X) := by
  unfold cr_I cr_rp at *
  dsimp only
  exact cr_J_rp h
theorem cr_I_st {X : cr_R} (h : cr_I X) : cr_I (cr_st X) := by
  unfold cr_I cr_st at *
  dsimp only
  exact cr_J_st h
theorem cr_I_ite {P : Prop} [Decidable P] {X Y : cr_R} (h : cr_I X) (k : cr_I Y) : cr_I (if P then X else Y) := by
  split
  · exact h
  · exact k
theorem cr_I_rs {X : cr_R} (h : cr_I X) : ∀ k, cr_I (cr_rs X k) := by
  intro k
  induction k with
  | zero => exact h
  | succ k ih => rw [cr_rs]; exact cr_I_ite (cr_I_rp ih) ih
theorem cr_I_ss {X : cr_R} (h : cr_I X) : ∀ k, cr_I (cr_ss X k) := by
  intro k
  induction k with
  | zero => exact h
  | succ k ih => rw [cr_ss]; exact cr_I_ite (cr_I_st ih) ih
theorem cr_n_ite {P : Prop} [Decidable P] {X Y : cr_R} {n : Nat} (h : X.2.2.2 = n) (k : Y.2.2.2 = n) : (if P then X else Y).2.2.2 = n := by
  split
  · exact h
  · exact k
theorem cr_rp_n (X : cr_R) : (cr_rp X).2.2.2 = X.2.2.2 := by
  unfold cr_rp
  dsimp only
theorem cr_rs_n (X : cr_R) : ∀ k, (cr_rs X k).2.2.2 = X.2.2.2 := by
  intro k
  induction k with
  | zero => rfl
  | succ k ih => rw [cr_rs]; exact cr_n_ite ((cr_rp_n _).trans ih) ih
def cr_S0 (C : Nat → Nat → Int32) : Nat → Nat → Int32 := mo_w (mo_w C 24 0 0) 25 0 0
def cr_0 (C : Nat → Nat → Int32) : cr_R := (cr_law (cr_S0 C), mk_g0 (cr_l2 (cr_S0 C)).1 (cr_l4 (cr_S0 C)).1, 0, 0)
def cr_1 (C : Nat → Nat → Int32) : cr_R := cr_rs (cr_0 C) 4
def cr_all (C : Nat → Nat → Int32) : cr_R := cr_ss (cr_1 C) 7
theorem cr_J_g0 (a b : Int32) : cr_J (mk_g0 a b) 0 0 := ⟨⟨rfl, Nat.zero_le 6, fun i hi => absurd hi (Nat.not_lt_zero i), fun i hi => absurd hi (Nat.not_lt_zero i)⟩, rfl, Nat.zero_le 3⟩
theorem cr_I_0 (C : Nat → Nat → Int32) : cr_I (cr_0 C) := by
  unfold cr_I cr_0
  dsimp only
  exact cr_J_g0 _ _
theorem cr_I_1 (C : Nat → Nat → Int32) : cr_I (cr_1 C) := by
  unfold cr_1
  exact cr_I_rs (cr_I_0 C) 4
theorem cr_I_all (C : Nat → Nat → Int32) : cr_I (cr_all C) := by
  unfold cr_all
  exact cr_I_ss (cr_I_1 C) 7
/-- the object held in a world -/
def ob_H (D : va_G) (F : Nat → va_E) (oa : Nat → Nat) (C : Nat → Nat → Int32) (mr : Nat) (im : Nat → Option Nat) : Prop := ∀ k, k < 27 → F (oa k) = ob_e D oa C mr im k
theorem ob_self {D : va_G} {F : Nat → va_E} {oa : Nat → Nat} {C : Nat → Nat → Int32} {mr : Nat} {im : Nat → Option Nat} (h : ob_H D F oa C mr im) : ob_F D F oa C mr im = F := by
  funext a
  unfold ob_F
  cases hq : (List.range 27).find? (fun k => decide (oa k = a)) with
  | none => rfl
  | some j =>
    have h1 : oa j = a := by simpa using List.find?_some hq
    show ob_e D oa C mr im j = F a
    rw [← h1, h j (List.mem_range.mp (List.mem_of_find?_eq_some hq))]
theorem ob_out {D : va_G} {f : Nat → va_E} {oa : Nat → Nat} {C : Nat → Nat → Int32} {mr : Nat} {im : Nat → Option Nat} {a : Nat} (h : ∀ k, k < 27 → oa k ≠ a) : ob_F D f oa C mr im a = f a := by
  unfold ob_F
  cases hq : (List.range 27).find? (fun k => decide (oa k = a)) with
  | none => rfl
  | some j =>
    have h1 : oa j = a := by simpa using List.find?_some hq
    exact absurd h1 (h j (List.mem_range.mp (List.mem_of_find?_eq_some hq)))
