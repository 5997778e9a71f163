/-! THE TAPE's reader, the class's way: a law, a rope, a stall, all -/
def cr_l1 (C : Nat → Nat → Int32) : Nat → Nat → Int32 := mk_pass C 109
def cr_l2 (C : Nat → Nat → Int32) : sp_S := mk_number (cr_l1 C) 0 99
def cr_l3 (C : Nat → Nat → Int32) : Nat → Nat → Int32 := mk_pass (cr_l2 C).2 44
def cr_l4 (C : Nat → Nat → Int32) : sp_S := mk_number (cr_l3 C) 0 20
def cr_law (C : Nat → Nat → Int32) : Nat → Nat → Int32 := mk_pass (cr_l4 C).2 59
def cr_r0 (C : Nat → Nat → Int32) (g : Nat → Int32) : Nat → Nat → Int32 := if g 2 = 3 then mk_tf C 3 (C 24 0) else C
def cr_r1 (C : Nat → Nat → Int32) (g : Nat → Int32) : Nat → Nat → Int32 := mk_pass (cr_r0 C g) 108
def cr_r2 (C : Nat → Nat → Int32) (g : Nat → Int32) : sp_S := mk_number (cr_r1 C g) 1 20
def cr_rope (C : Nat → Nat → Int32) (g : Nat → Int32) : Nat → Nat → Int32 := mk_pass (cr_r2 C g).2 59
def cr_rg (C : Nat → Nat → Int32) (g : Nat → Int32) (nr : Nat) : Nat → Int32 := if cr_rope C g 25 0 = 0 then va_up (va_up g (5 + nr) (cr_r2 C g).1) 2 (nI (nr + 1)) else g
def cr_rn (C : Nat → Nat → Int32) (g : Nat → Int32) (nr : Nat) : Nat := if cr_rope C g 25 0 = 0 then nr + 1 else nr
def cr_k (C : Nat → Nat → Int32) : Int32 := mk_kind (mk_by C (C 24 0))
def cr_a (C : Nat → Nat → Int32) (g : Nat → Int32) : Nat → Nat → Int32 := if cr_k C = hs_NONE then mk_tf C 1 (C 24 0) else if g 3 = 6 then mk_tf C 3 (C 24 0) else C
def cr_b (C : Nat → Nat → Int32) (g : Nat → Int32) : Nat → Nat → Int32 := mo_w (cr_a C g) 24 0 (cr_a C g 24 0 + 1)
def cr_c (C : Nat → Nat → Int32) (g : Nat → Int32) : sp_S := mk_number (cr_b C g) 0 (g 2 - 1)
def cr_d (C : Nat → Nat → Int32) (g : Nat → Int32) : Nat → Nat → Int32 := mk_pass (cr_c C g).2 44
def cr_e (C : Nat → Nat → Int32) (g : Nat → Int32) : sp_S := mk_number (cr_d C g) 1 8
def cr_f (C : Nat → Nat → Int32) (g : Nat → Int32) (n : Nat) : Nat → Nat → Int32 := if mk_std g (cr_c C g).1 (cr_e C g).1 n = none then (cr_e C g).2 else mk_tf (cr_e C g).2 2 (cr_d C g 24 0)
def cr_g (C : Nat → Nat → Int32) (g : Nat → Int32) (n : Nat) : Nat → Nat → Int32 := mk_pass (cr_f C g n) 44
def cr_h (C : Nat → Nat → Int32) (g : Nat → Int32) (n : Nat) : sp_S := mk_number (cr_g C g n) 0 20
def cr_s (C : Nat → Nat → Int32) (g : Nat → Int32) (n : Nat) : Nat → Nat → Int32 := mk_pass (cr_h C g n).2 59
def cr_sg (C : Nat → Nat → Int32) (g : Nat → Int32) (n : Nat) : Nat → Int32 := if cr_s C g n 25 0 = 0 then mk_as g n (cr_k C) (cr_c C g).1 (cr_e C g).1 (cr_h C g n).1 else g
def cr_sn (C : Nat → Nat → Int32) (g : Nat → Int32) (n : Nat) : Nat := if cr_s C g n 25 0 = 0 then n + 1 else n
theorem cr_s_n {C : Nat → Nat → Int32} {g : Nat → Int32} {n : Nat} (h : mk_std g (cr_c C g).1 (cr_e C g).1 n = none) : mk_pass (mk_number (mk_pass (cr_e C g).2 44) 0 20).2 59 = cr_s C g n := by
  unfold cr_s cr_h cr_g cr_f
  rw [if_pos h]
theorem cr_s_s {C : Nat → Nat → Int32} {g : Nat → Int32} {n j : Nat} (h : mk_std g (cr_c C g).1 (cr_e C g).1 n = some j) : mk_pass (mk_number (mk_pass (mk_tf (cr_e C g).2 2 (cr_d C g 24 0)) 44) 0 20).2 59 = cr_s C g n := by
  unfold cr_s cr_h cr_g cr_f
  rw [if_neg (by rw [h]; exact fun q => nomatch q)]
theorem cr_h_n {C : Nat → Nat → Int32} {g : Nat → Int32} {n : Nat} (h : mk_std g (cr_c C g).1 (cr_e C g).1 n = none) : mk_number (mk_pass (cr_e C g).2 44) 0 20 = cr_h C g n := by
  unfold cr_h cr_g cr_f
  rw [if_pos h]
/-- a fault stays -/
theorem cr_tf1 {C : Nat → Nat → Int32} {num pl : Int32} (h : ¬ num = 0) : ¬ mk_tf C num pl 25 0 = 0 := by
  unfold mk_tf
  split
  · show ¬ num = 0
    exact h
  · assumption
theorem cr_pf {C : Nat → Nat → Int32} {x : Int32} (h : ¬ C 25 0 = 0) : ¬ mk_pass C x 25 0 = 0 := by
  unfold mk_pass
  rw [if_neg (fun q => h q.1)]
  exact cr_tf1 (by decide)
theorem cr_n1f {C : Nat → Nat → Int32} {a b : Int32} (h : ¬ C 25 0 = 0) : ¬ mk_n1 C a b 25 0 = 0 := by
  unfold mk_n1
  split
  · exact cr_tf1 (by decide)
  · split
    · exact cr_tf1 (by decide)
    · exact h
theorem cr_nf {C : Nat → Nat → Int32} {a b : Int32} (h : ¬ C 25 0 = 0) : ¬ (mk_number C a b).2 25 0 = 0 := by
  unfold mk_number
  rw [if_neg (cr_n1f h)]
  exact cr_n1f h
theorem cr_p0 {C : Nat → Nat → Int32} {x : Int32} (h : mk_pass C x 25 0 = 0) : C 25 0 = 0 := Classical.byContradiction (fun q => cr_pf q h)
theorem cr_n0 {C : Nat → Nat → Int32} {a b : Int32} (h : (mk_number C a b).2 25 0 = 0) : C 25 0 = 0 := Classical.byContradiction (fun q => cr_nf q h)
theorem cr_rope_3 {C : Nat → Nat → Int32} {g : Nat → Int32} (h : cr_rope C g 25 0 = 0) : ¬ g 2 = 3 := by
  intro q
  unfold cr_rope cr_r2 cr_r1 at h
  have h2 := cr_p0 h
  have h3 := cr_n0 h2
  have h1 := cr_p0 h3
  rw [cr_r0, if_pos q] at h1
  exact cr_tf1 (by decide) h1
theorem cr_ab {C : Nat → Nat → Int32} {g : Nat → Int32} : cr_b C g 25 0 = cr_a C g 25 0 := by
  unfold cr_b
  exact congrFun (va_up_ne _ _ (by decide)) 0
theorem cr_s_f {C : Nat → Nat → Int32} {g : Nat → Int32} {n : Nat} (h : cr_s C g n 25 0 = 0) : cr_f C g n 25 0 = 0 := by
  unfold cr_s cr_h cr_g at h
  have h2 := cr_p0 h
  have h3 := cr_n0 h2
  exact cr_p0 h3
theorem cr_s_a {C : Nat → Nat → Int32} {g : Nat → Int32} {n : Nat} (h : cr_s C g n 25 0 = 0) : cr_a C g 25 0 = 0 := by
  have h1 := cr_s_f h
  unfold cr_f at h1
  split at h1
  · unfold cr_e cr_d cr_c at h1
    have h3 := cr_n0 h1
    have h4 := cr_p0 h3
    have h2 := cr_n0 h4
    rw [cr_ab] at h2
    exact h2
  · exact absurd h1 (cr_tf1 (by decide))
theorem cr_s_k {C : Nat → Nat → Int32} {g : Nat → Int32} {n : Nat} (h : cr_s C g n 25 0 = 0) : ¬ cr_k C = hs_NONE ∧ ¬ g 3 = 6 ∧ C 25 0 = 0 := by
  have h1 := cr_s_a h
  unfold cr_a at h1
  split at h1
  · exact absurd h1 (cr_tf1 (by decide))
  · rename_i q
    split at h1
    · exact absurd h1 (cr_tf1 (by decide))
    · rename_i q2
      exact ⟨q, q2, h1⟩
theorem cr_kv {x : Int32} (h : ¬ mk_kind x = hs_NONE) : mk_kind x = 1 ∨ mk_kind x = 2 ∨ mk_kind x = 3 ∨ mk_kind x = 4 ∨ mk_kind x = 5 := by
  unfold mk_kind at h ⊢
  by_cases h1 : x = 116
  · rw [if_pos h1]; simp
  rw [if_neg h1] at h ⊢
  by_cases h2 : x = 106
  · rw [if_pos h2]; simp
  rw [if_neg h2] at h ⊢
  by_cases h3 : x = 98
  · rw [if_pos h3]; simp
  rw [if_neg h3] at h ⊢
  by_cases h4 : x = 110
  · rw [if_pos h4]; simp
  rw [if_neg h4] at h ⊢
  by_cases h5 : x = 118
  · rw [if_pos h5]; simp
  rw [if_neg h5] at h
  exact absurd rfl h
theorem cr_s_std {C : Nat → Nat → Int32} {g : Nat → Int32} {n : Nat} (h : cr_s C g n 25 0 = 0) : mk_std g (cr_c C g).1 (cr_e C g).1 n = none := by
  have h1 := cr_s_f h
  unfold cr_f at h1
  split at h1
  · assumption
  · exact absurd h1 (cr_tf1 (by decide))
/-- all: so many ropes, so many stalls -/
abbrev cr_R : Type := (Nat → Nat → Int32) × (Nat → Int32) × Nat × Nat
def cr_rp (X : cr_R) : cr_R := (cr_rope X.1 X.2.1, cr_rg X.1 X.2.1 X.2.2.1, cr_rn X.1 X.2.1 X.2.2.1, X.2.2.2)
def cr_st (X : cr_R) : cr_R := (cr_s X.1 X.2.1 X.2.2.2, cr_sg X.1 X.2.1 X.2.2.2, X.2.2.1, cr_sn X.1 X.2.1 X.2.2.2)
def cr_rs (X : cr_R) : Nat → cr_R
  | 0 => X
  | k + 1 => if (cr_rs X k).1 25 0 = 0 ∧ (k = 0 ∨ mk_by (cr_rs X k).1 ((cr_rs X k).1 24 0) = 108) then cr_rp (cr_rs X k) else cr_rs X k
def cr_ss (X : cr_R) : Nat → cr_R
  | 0 => X
  | k + 1 => if (cr_ss X k).1 25 0 = 0 ∧ (cr_ss X k).1 24 0 < (cr_ss X k).1 9 0 then cr_st (cr_ss X k) else cr_ss X k
theorem cr_rs_up {X : cr_R} {k : Nat} (h : ¬ ((cr_rs X k).1 25 0 = 0 ∧ (k = 0 ∨ mk_by (cr_rs X k).1 ((cr_rs X k).1 24 0) = 108))) (h0 : k = 0 → ¬ (cr_rs X k).1 25 0 = 0) : ∀ m, cr_rs X (k + m) = cr_rs X k := by
  intro m
  induction m with
  | zero => rfl
  | succ m ih =>
    show (if (cr_rs X (k + m)).1 25 0 = 0 ∧ (k + m = 0 ∨ mk_by (cr_rs X (k + m)).1 ((cr_rs X (k + m)).1 24 0) = 108) then _ else cr_rs X (k + m)) = cr_rs X k
    rw [ih, if_neg]
    rintro ⟨q1, q2⟩
    rcases q2 with q2 | q2
    · exact h0 (by omega) q1
    · exact h ⟨q1, Or.inr q2⟩
theorem cr_ss_up {X : cr_R} {k : Nat} (h : ¬ ((cr_ss X k).1 25 0 = 0 ∧ (cr_ss X k).1 24 0 < (cr_ss X k).1 9 0)) : ∀ m, cr_ss X (k + m) = cr_ss X k := by
  intro m
  induction m with
  | zero => rfl
  | succ m ih =>
    show (if (cr_ss X (k + m)).1 25 0 = 0 ∧ (cr_ss X (k + m)).1 24 0 < (cr_ss X (k + m)).1 9 0 then _ else cr_ss X (k + m)) = cr_ss X k
    rw [ih, if_neg h]
/-- what holds of what is read -/
def cr_I (X : cr_R) : Prop := mk_sr X.2.1 X.2.2.2 ∧ X.2.1 2 = nI X.2.2.1 ∧ X.2.2.1 ≤ 3
theorem cr_I_rp {C : Nat → Nat → Int32} {g : Nat → Int32} {nr n : Nat} (h : cr_I (C, g, nr, n)) : cr_I (cr_rope C g, cr_rg C g nr, cr_rn C g nr, n) := by
  obtain ⟨h1, h2, h3⟩ := h
  have h1 : mk_sr g n := h1
  have h2 : g 2 = nI nr := h2
  have h3 : nr ≤ 3 := h3
  show mk_sr (cr_rg C g nr) n ∧ cr_rg C g nr 2 = nI (cr_rn C g nr) ∧ cr_rn C g nr ≤ 3
  unfold cr_rg cr_rn
  by_cases q : cr_rope C g 25 0 = 0
  · have hn3 : ¬ nr = 3 := fun z => cr_rope_3 q (by rw [h2, z]; rfl)
    rw [if_pos q, if_pos q]
    exact ⟨mk_sr_up (by omega) (mk_sr_up (by omega) h1), va_up_self _ _ _, by omega⟩
  · rw [if_neg q, if_neg q]
    exact ⟨h1, h2, h3⟩
theorem mk_sr_as {g : Nat → Int32} {n : Nat} {k ro pl go : Int32} (h : mk_sr g n) (hn : n < 6) (hk : k = 1 ∨ k = 2 ∨ k = 3 ∨ k = 4 ∨ k = 5) : mk_sr (mk_as g n k ro pl go) (n + 1) := by
  obtain ⟨h1, h4, h5, h6⟩ := h
  refine ⟨?_, by omega, fun i hi => ?_, fun i hi => ?_⟩
  · unfold mk_as
    rw [if_pos rfl]
  · by_cases e : i = n
    · subst e
      rw [(mk_as_s g hn k ro pl go).1]
      exact hk
    · rw [mk_as_o g k ro pl go (by omega)]
      exact h5 i (by omega)
  · by_cases e : i = n
    · subst e
      refine Or.inl ?_
      unfold mk_as
      rw [if_neg (by omega), if_neg (by omega), if_neg (by omega), if_neg (by omega), if_neg (by omega), if_pos (by omega)]
    · rw [mk_as_o g k ro pl go (by omega)]
      exact h6 i (by omega)
theorem cr_I_st {C : Nat → Nat → Int32} {g : Nat → Int32} {nr n : Nat} (h : cr_I (C, g, nr, n)) : cr_I (cr_s C g n, cr_sg C g n, nr, cr_sn C g n) := by
  obtain ⟨h1, h2, h3⟩ := h
  have h1 : mk_sr g n := h1
  have h2 : g 2 = nI nr := h2
  have h3 : nr ≤ 3 := h3
  show mk_sr (cr_sg C g n) (cr_sn C g n) ∧ cr_sg C g n 2 = nI nr ∧ nr ≤ 3
  unfold cr_sg cr_sn
  by_cases q : cr_s C g n 25 0 = 0
  · obtain ⟨k1, k2, k3⟩ := cr_s_k q
    have hn6 : ¬ n = 6 := fun z => k2 (by rw [h1.1, z]; rfl)
    have h4 := h1.2.1
    have hn : n < 6 := by omega
    rw [if_pos q, if_pos q]
    refine ⟨mk_sr_as h1 hn (cr_kv k1), ?_, h3⟩
    rw [mk_as_o g _ _ _ _ (by omega)]
    exact h2
  · rw [if_neg q, if_neg q]
    exact ⟨h1, h2, h3⟩
theorem cr_I_rs {X : cr_R} (h : cr_I X) : ∀ k, cr_I (cr_rs X k) := by
  intro k
  induction k with
  | zero => exact h
  | succ k ih =>
    rw [cr_rs]
    generalize cr_rs X k = Y at ih ⊢
    obtain ⟨C, g, nr, n⟩ := Y
    split
    · exact cr_I_rp ih
    · exact ih
theorem cr_rs_n (X : cr_R) : ∀ k, (cr_rs X k).2.2.2 = X.2.2.2 := by
  intro k
  induction k with
  | zero => rfl
  | succ k ih =>
    rw [cr_rs]
    generalize cr_rs X k = Y at ih ⊢
    obtain ⟨C, g, nr, n⟩ := Y
    split
    · exact ih
    · exact ih
theorem cr_I_ss {X : cr_R} (h : cr_I X) : ∀ k, cr_I (cr_ss X k) := by
  intro k
  induction k with
  | zero => exact h
  | succ k ih =>
    rw [cr_ss]
    generalize cr_ss X k = Y at ih ⊢
    obtain ⟨C, g, nr, n⟩ := Y
    split
    · exact cr_I_st ih
    · exact ih
def cr_S0 (C : Nat → Nat → Int32) : Nat → Nat → Int32 := mo_w (mo_w C 24 0 0) 25 0 0
def cr_0 (C : Nat → Nat → Int32) : cr_R := (cr_law (cr_S0 C), mk_g0 (cr_l2 (cr_S0 C)).1 (cr_l4 (cr_S0 C)).1, 0, 0)
def cr_1 (C : Nat → Nat → Int32) : cr_R := cr_rs (cr_0 C) 4
def cr_all (C : Nat → Nat → Int32) : cr_R := cr_ss (cr_1 C) 7
theorem cr_I_g0 (C : Nat → Nat → Int32) (a b : Int32) : cr_I (C, mk_g0 a b, 0, 0) := ⟨⟨rfl, by show 0 ≤ 6; omega, fun i hi => absurd hi (Nat.not_lt_zero i), fun i hi => absurd hi (Nat.not_lt_zero i)⟩, rfl, by show 0 ≤ 3; omega⟩
theorem cr_I_0 (C : Nat → Nat → Int32) : cr_I (cr_0 C) := by
  unfold cr_0
  exact cr_I_g0 _ _ _
theorem cr_I_1 (C : Nat → Nat → Int32) : cr_I (cr_1 C) := by
  unfold cr_1
  exact cr_I_rs (cr_I_0 C) 4
theorem cr_I_all (C : Nat → Nat → Int32) : cr_I (cr_all C) := by
  unfold cr_all
  exact cr_I_ss (cr_I_1 C) 7
/-- the object held in a world -/
def ob_H (D : va_G) (F : Nat → va_E) (oa : Nat → Nat) (C : Nat → Nat → Int32) (mr : Nat) (im : Nat → Option Nat) : Prop := ∀ k, k < 27 → F (oa k) = ob_e D oa C mr im k
theorem ob_self {D : va_G} {F : Nat → va_E} {oa : Nat → Nat} {C : Nat → Nat → Int32} {mr : Nat} {im : Nat → Option Nat} (h : ob_H D F oa C mr im) : ob_F D F oa C mr im = F := by
  funext a
  unfold ob_F
  cases hq : (List.range 27).find? (fun k => decide (oa k = a)) with
  | none => rfl
  | some j =>
    have h1 : oa j = a := by simpa using List.find?_some hq
    show ob_e D oa C mr im j = F a
    rw [← h1, h j (List.mem_range.mp (List.mem_of_find?_eq_some hq))]
theorem ob_out {D : va_G} {f : Nat → va_E} {oa : Nat → Nat} {C : Nat → Nat → Int32} {mr : Nat} {im : Nat → Option Nat} {a : Nat} (h : ∀ k, k < 27 → oa k ≠ a) : ob_F D f oa C mr im a = f a := by
  unfold ob_F
  cases hq : (List.range 27).find? (fun k => decide (oa k = a)) with
  | none => rfl
  | some j =>
    have h1 : oa j = a := by simpa using List.find?_some hq
    exact absurd h1 (h j (List.mem_range.mp (List.mem_of_find?_eq_some hq)))
