/-! WHAT IS READ: nothing but the tape's own numbers changes; a market read without a fault is a good one -/
def cr_kk (C C' : Nat → Nat → Int32) : Prop := ∀ k, k ≠ 24 → k ≠ 25 → k ≠ 26 → C' k = C k
theorem cr_kk_r (C : Nat → Nat → Int32) : cr_kk C C := fun _ _ _ _ => rfl
theorem cr_kk_w {C C' : Nat → Nat → Int32} {j k : Nat} {v : Int32} (h : cr_kk C C') (hk : k = 24 ∨ k = 25 ∨ k = 26) : cr_kk C (mo_w C' k j v) := by
  intro i h1 h2 h3
  rw [mo_w, va_up_ne _ _ (by omega)]
  exact h i h1 h2 h3
theorem cr_kk_t {C C' : Nat → Nat → Int32} {a b : Int32} (h : cr_kk C C') : cr_kk C (mk_tf C' a b) := by
  unfold mk_tf
  split
  · exact cr_kk_w (cr_kk_w h (Or.inr (Or.inl rfl))) (Or.inr (Or.inr rfl))
  · exact h
theorem cr_kk_p {C C' : Nat → Nat → Int32} {a : Int32} (h : cr_kk C C') : cr_kk C (mk_pass C' a) := by
  unfold mk_pass
  split
  · exact cr_kk_w h (Or.inl rfl)
  · exact cr_kk_t h
theorem cr_kk_1 {C C' : Nat → Nat → Int32} {a b : Int32} (h : cr_kk C C') : cr_kk C (mk_n1 C' a b) := by
  unfold mk_n1
  split
  · exact cr_kk_t h
  split
  · exact cr_kk_t h
  · exact h
theorem cr_kk_n {C C' : Nat → Nat → Int32} {a b : Int32} (h : cr_kk C C') : cr_kk C (mk_number C' a b).2 := by
  unfold mk_number
  split
  · exact cr_kk_w (cr_kk_1 h) (Or.inl rfl)
  · exact cr_kk_1 h
theorem cr_kk_law {C C' : Nat → Nat → Int32} (h : cr_kk C C') : cr_kk C (cr_law C') := by
  have h1 : cr_kk C (cr_l1 C') := cr_kk_p h
  have h2 : cr_kk C (cr_l2 C').2 := by unfold cr_l2; exact cr_kk_n h1
  have h3 : cr_kk C (cr_l3 C') := cr_kk_p h2
  have h4 : cr_kk C (cr_l4 C').2 := by unfold cr_l4; exact cr_kk_n h3
  exact cr_kk_p h4
theorem cr_kk_rope {C C' : Nat → Nat → Int32} {g : Nat → Int32} (h : cr_kk C C') : cr_kk C (cr_rope C' g) := by
  have h0 : cr_kk C (cr_r0 C' g) := by
    unfold cr_r0
    split
    · exact cr_kk_t h
    · exact h
  have h1 : cr_kk C (cr_r1 C' g) := cr_kk_p h0
  have h2 : cr_kk C (cr_r2 C' g).2 := by unfold cr_r2; exact cr_kk_n h1
  exact cr_kk_p h2
theorem cr_kk_s {C C' : Nat → Nat → Int32} {g : Nat → Int32} {n : Nat} (h : cr_kk C C') : cr_kk C (cr_s C' g n) := by
  have h0 : cr_kk C (cr_a C' g) := by
    unfold cr_a
    split
    · exact cr_kk_t h
    split
    · exact cr_kk_t h
    · exact h
  have h1 : cr_kk C (cr_b C' g) := cr_kk_w h0 (Or.inl rfl)
  have h2 : cr_kk C (cr_c C' g).2 := by unfold cr_c; exact cr_kk_n h1
  have h3 : cr_kk C (cr_d C' g) := cr_kk_p h2
  have h4 : cr_kk C (cr_e C' g).2 := by unfold cr_e; exact cr_kk_n h3
  have h5 : cr_kk C (cr_f C' g n) := by
    unfold cr_f
    split
    · exact h4
    · exact cr_kk_t h4
  have h6 : cr_kk C (cr_g C' g n) := cr_kk_p h5
  have h7 : cr_kk C (cr_h C' g n).2 := by unfold cr_h; exact cr_kk_n h6
  exact cr_kk_p h7
theorem cr_kk_rs {C : Nat → Nat → Int32} {X : cr_R} (h : cr_kk C X.1) : ∀ k, cr_kk C (cr_rs X k).1 := by
  intro k
  induction k with
  | zero => rw [cr_rs_0]; exact h
  | succ k ih =>
    by_cases c : (cr_rs X k).1 25 0 = 0 ∧ (k = 0 ∨ mk_by (cr_rs X k).1 ((cr_rs X k).1 24 0) = 108)
    · rw [ag_rs_y c, cr_rp_1]; exact cr_kk_rope ih
    · rw [ag_rs_n c]; exact ih
theorem cr_kk_ss {C : Nat → Nat → Int32} {X : cr_R} (h : cr_kk C X.1) : ∀ k, cr_kk C (cr_ss X k).1 := by
  intro k
  induction k with
  | zero => rw [cr_ss_0]; exact h
  | succ k ih =>
    by_cases c : (cr_ss X k).1 25 0 = 0 ∧ (cr_ss X k).1 24 0 < (cr_ss X k).1 9 0
    · rw [ag_ss_y c, cr_st_1]; exact cr_kk_s ih
    · rw [ag_ss_n c]; exact ih
theorem cr_kk_all (C : Nat → Nat → Int32) : cr_kk C (cr_all C).1 := by
  have h0 : cr_kk C (cr_0 C).1 := by
    rw [cr_0_1]
    exact cr_kk_law (cr_kk_w (cr_kk_w (cr_kk_r C) (Or.inl rfl)) (Or.inr (Or.inl rfl)))
  have h1 : cr_kk C (cr_1 C).1 := by
    rw [cr_1_e]
    exact cr_kk_rs h0 4
  unfold cr_all
  exact cr_kk_ss h1 7
theorem cr_nb {C : Nat → Nat → Int32} {a b : Int32} (h : (mk_number C a b).2 25 0 = 0) : a ≤ (mk_number C a b).1 ∧ (mk_number C a b).1 ≤ b := by
  unfold mk_number at h ⊢
  by_cases c : mk_n1 C a b 25 0 = 0
  · rw [if_pos c]
    show a ≤ mk_nv C (C 24 0) (mk_fk C (C 24 0)) ∧ mk_nv C (C 24 0) (mk_fk C (C 24 0)) ≤ b
    unfold mk_n1 at c
    by_cases c1 : mk_fk C (C 24 0) < 1 ∨ 2 < mk_fk C (C 24 0)
    · rw [if_pos c1] at c; exact absurd c (cr_tf1 (by decide))
    · rw [if_neg c1] at c
      by_cases c2 : mk_nv C (C 24 0) (mk_fk C (C 24 0)) < a ∨ b < mk_nv C (C 24 0) (mk_fk C (C 24 0))
      · rw [if_pos c2] at c; exact absurd c (cr_tf1 (by decide))
      · exact ⟨Int32.not_lt.mp (fun z => c2 (Or.inl z)), Int32.not_lt.mp (fun z => c2 (Or.inr z))⟩
  · rw [if_neg c] at h
    exact absurd h c
theorem ag_rl {x : Int32} {a b : Nat} (h1 : nI a ≤ x) (h2 : x ≤ nI b) (ha : a < 2147483648) (hb : b < 2147483648) : ag_r x a b := by
  rw [Int32.le_iff_toInt_le, nI_toInt (by omega)] at h1 h2
  exact ⟨h1, h2⟩
def cr_V (g : Nat → Int32) (nr n : Nat) : Prop := mk_sr g n ∧ mk_t g nr ∧ ag_r (g 1) 0 20 ∧ (∀ i, i < n → ag_r (g (14 + i)) 0 2 ∧ ag_r (g (20 + i)) 1 8 ∧ ag_r (g (26 + i)) 0 20 ∧ g (32 + i) = 0 ∧ g (38 + i) = 0) ∧ ag_U g n
theorem ag_r0 {x : Int32} (h : x = 0) {b : Int} (hb : 0 ≤ b) : ag_r x 0 b := by
  rw [h]
  exact ⟨Int.le_refl _, hb⟩
theorem cr_V_V {g : Nat → Int32} {nr n : Nat} (h : cr_V g nr n) : ag_V g n nr := by
  obtain ⟨h1, h2, h3, h4, h5⟩ := h
  refine ⟨⟨h1, h2, ag_w h3 (by omega) (by omega), fun i hi => ?_⟩, h5, ag_w h3 (by omega) (by omega), fun i hi => ag_r0 (h4 i hi).2.2.2.2 (by omega)⟩
  obtain ⟨k1, k2, k3, k4, k5⟩ := h4 i hi
  exact ⟨k1, k2, ag_w k3 (by omega) (by omega), ag_r0 k4 (by omega), ag_r0 k5 (by omega)⟩
theorem cr_V_0 {low slack : Int32} (h : ag_r slack 0 20) : cr_V (mk_g0 low slack) 0 0 := by
  refine ⟨(cr_J_g0 low slack).1, ⟨rfl, by omega, fun r hr => absurd hr (by omega), fun r _ _ => ?_⟩, h, fun i hi => absurd hi (by omega), fun i j hi => absurd hi (by omega)⟩
  unfold mk_g0
  rw [if_neg (by omega), if_neg (by omega)]
theorem cr_V_r {g : Nat → Int32} {nr n : Nat} {x : Int32} (h : cr_V g nr n) (h3 : nr < 3) (hx : 1 ≤ x) : cr_V (va_up (va_up g (5 + nr) x) 2 (nI (nr + 1))) (nr + 1) n := by
  obtain ⟨h1, ⟨t1, t2, t3, t4⟩, k3, h4, h5⟩ := h
  have hn := h1.2.1
  have e : ∀ j, j ≠ 2 → j ≠ 5 + nr → va_up (va_up g (5 + nr) x) 2 (nI (nr + 1)) j = g j := fun j a b => by rw [va_up_ne _ _ a, va_up_ne _ _ b]
  refine ⟨mk_sr_up (by omega) (mk_sr_up (by omega) h1), ⟨va_up_self _ _ _, by omega, fun r hr => ?_, fun r hr hr3 => ?_⟩, by rw [e 1 (by omega) (by omega)]; exact k3, fun i hi => ?_, fun i j hi hj => ?_⟩
  · rw [va_up_ne _ _ (by omega)]
    by_cases c : r = nr
    · rw [c, va_up_self]; exact hx
    · rw [va_up_ne _ _ (by omega)]; exact t3 r (by omega)
  · rw [e _ (by omega) (by omega)]; exact t4 r (by omega) hr3
  · rw [e (14 + i) (by omega) (by omega), e (20 + i) (by omega) (by omega), e (26 + i) (by omega) (by omega), e (32 + i) (by omega) (by omega), e (38 + i) (by omega) (by omega)]
    exact h4 i hi
  · rw [e (14 + i) (by omega) (by omega), e (20 + i) (by omega) (by omega), e (14 + j) (by omega) (by omega), e (20 + j) (by omega) (by omega)]
    exact h5 i j hi hj
theorem ag_std_no {g : Nat → Int32} {n : Nat} {ro pl : Int32} (hf : mk_std g ro pl n = none) : ∀ k, k ≤ n → ∀ j, j < k → ¬ (g (14 + j) = ro ∧ g (20 + j) = pl) := by
  intro k
  induction k with
  | zero => intro _ j hj; omega
  | succ k ih =>
    intro hk j hj c
    by_cases e : j = k
    · subst e
      cases h0 : mk_std g ro pl j with
      | some q =>
        have := mk_std_up (m := n - j) h0
        rw [show j + (n - j) = n by omega, hf] at this
        exact absurd this (by simp)
      | none =>
        have := mk_std_y (n := n) (k := j) (by omega) (by rw [show min j n = j by omega]; exact h0) c.1 c.2
        rw [hf] at this
        exact absurd this (by simp)
    · exact ih (by omega) j (by omega) c
theorem cr_V_s {g : Nat → Int32} {nr n : Nat} {k ro pl go : Int32} (h : cr_V g nr n) (hn : n < 6) (hk : k = 1 ∨ k = 2 ∨ k = 3 ∨ k = 4 ∨ k = 5) (hr : ag_r ro 0 2) (hp : ag_r pl 1 8) (hg : ag_r go 0 20) (hf : mk_std g ro pl n = none) : cr_V (mk_as g n k ro pl go) nr (n + 1) := by
  obtain ⟨h1, ⟨t1, t2, t3, t4⟩, k3, h4, h5⟩ := h
  have hno := ag_std_no hf n (Nat.le_refl n)
  have a2 : mk_as g n k ro pl go (14 + n) = ro := by unfold mk_as; rw [if_neg (by omega), if_neg (by omega), if_pos rfl]
  have a3 : mk_as g n k ro pl go (20 + n) = pl := by unfold mk_as; rw [if_neg (by omega), if_neg (by omega), if_neg (by omega), if_pos rfl]
  have a4 : mk_as g n k ro pl go (26 + n) = go := by unfold mk_as; rw [if_neg (by omega), if_neg (by omega), if_neg (by omega), if_neg (by omega), if_pos rfl]
  have a5 : mk_as g n k ro pl go (32 + n) = 0 := by
    unfold mk_as
    rw [if_neg (by omega), if_neg (by omega), if_neg (by omega), if_neg (by omega), if_neg (by omega), if_pos (by omega)]
  have a6 : mk_as g n k ro pl go (38 + n) = 0 := by
    unfold mk_as
    rw [if_neg (by omega), if_neg (by omega), if_neg (by omega), if_neg (by omega), if_neg (by omega), if_pos (by omega)]
  refine ⟨mk_sr_as h1 hn hk, ⟨by rw [mk_as_o g k ro pl go (by omega)]; exact t1, t2, fun r hr => by rw [mk_as_o g k ro pl go (by omega)]; exact t3 r hr, fun r hr hr3 => by rw [mk_as_o g k ro pl go (by omega)]; exact t4 r hr hr3⟩, by rw [mk_as_o g k ro pl go (by omega)]; exact k3, fun i hi => ?_, fun i j hi hj => ?_⟩
  · by_cases c : i = n
    · subst c
      rw [a2, a3, a4, a5, a6]
      exact ⟨hr, hp, hg, rfl, rfl⟩
    · rw [mk_as_o g k ro pl go (j := 14 + i) (by omega), mk_as_o g k ro pl go (j := 20 + i) (by omega), mk_as_o g k ro pl go (j := 26 + i) (by omega), mk_as_o g k ro pl go (j := 32 + i) (by omega), mk_as_o g k ro pl go (j := 38 + i) (by omega)]
      exact h4 i (by omega)
  · by_cases c : i = n
    · by_cases c2 : j = n
      · intro _ _; omega
      · subst c
        rw [a2, a3, mk_as_o g k ro pl go (j := 14 + j) (by omega), mk_as_o g k ro pl go (j := 20 + j) (by omega)]
        intro z1 z2
        exact absurd ⟨z1.symm, z2.symm⟩ (hno j (by omega))
    · by_cases c2 : j = n
      · subst c2
        rw [a2, a3, mk_as_o g k ro pl go (j := 14 + i) (by omega), mk_as_o g k ro pl go (j := 20 + i) (by omega)]
        intro z1 z2
        exact absurd ⟨z1, z2⟩ (hno i (by omega))
      · rw [mk_as_o g k ro pl go (j := 14 + i) (by omega), mk_as_o g k ro pl go (j := 20 + i) (by omega), mk_as_o g k ro pl go (j := 14 + j) (by omega), mk_as_o g k ro pl go (j := 20 + j) (by omega)]
        exact h5 i j (by omega) (by omega)
def cr_VV (X : cr_R) : Prop := X.1 25 0 = 0 → cr_V X.2.1 X.2.2.1 X.2.2.2
theorem cr_VV_0 (C : Nat → Nat → Int32) : cr_VV (cr_0 C) := by
  intro h
  rw [cr_0_1] at h
  rw [cr_0_2, cr_0_3, cr_0_4]
  have h4 : (cr_l4 (cr_S0 C)).2 25 0 = 0 := by
    unfold cr_law at h
    exact cr_p0 h
  have hb : (0 : Int32) ≤ (cr_l4 (cr_S0 C)).1 ∧ (cr_l4 (cr_S0 C)).1 ≤ 20 := by
    unfold cr_l4 at h4 ⊢
    exact cr_nb h4
  exact cr_V_0 (ag_rl (a := 0) (b := 20) hb.1 hb.2 (by omega) (by omega))
theorem cr_VV_rp {X : cr_R} (h : cr_VV X) : cr_VV (cr_rp X) := by
  intro h0
  rw [cr_rp_1] at h0
  rw [cr_rp_2, cr_rp_3, cr_rp_n]
  have n3 := cr_rope_3 h0
  have h2 : (cr_r2 X.1 X.2.1).2 25 0 = 0 := by
    unfold cr_rope at h0
    exact cr_p0 h0
  have hb : (1 : Int32) ≤ (cr_r2 X.1 X.2.1).1 := by
    unfold cr_r2 at h2 ⊢
    exact (cr_nb h2).1
  have hC : X.1 25 0 = 0 := by
    unfold cr_r2 cr_r1 at h2
    have h1 := cr_p0 (cr_n0 h2)
    rw [cr_r0, if_neg n3] at h1
    exact h1
  have hV := h hC
  have hnr : X.2.2.1 < 3 := by
    have t1 := hV.2.1.1
    have t2 := hV.2.1.2.1
    rcases Nat.lt_or_ge X.2.2.1 3 with z | z
    · exact z
    · exact absurd (by rw [t1, show X.2.2.1 = 3 by omega]; rfl) n3
  unfold cr_rg cr_rn
  rw [if_pos h0, if_pos h0]
  exact cr_V_r hV hnr hb
theorem cr_VV_st {X : cr_R} (h : cr_VV X) : cr_VV (cr_st X) := by
  intro h0
  rw [cr_st_1] at h0
  rw [cr_st_2, cr_st_3, cr_st_4]
  obtain ⟨k1, k2, k3⟩ := cr_s_k h0
  have hf := cr_s_f h0
  have hstd := cr_s_std h0
  have hV := h k3
  have h6 : X.2.2.2 < 6 := by
    have t1 := hV.1.1
    have t2 := hV.1.2.1
    rcases Nat.lt_or_ge X.2.2.2 6 with z | z
    · exact z
    · exact absurd (by rw [t1, show X.2.2.2 = 6 by omega]; rfl) k2
  have hh : (cr_h X.1 X.2.1 X.2.2.2).2 25 0 = 0 := by
    unfold cr_s at h0
    exact cr_p0 h0
  have hgo : (0 : Int32) ≤ (cr_h X.1 X.2.1 X.2.2.2).1 ∧ (cr_h X.1 X.2.1 X.2.2.2).1 ≤ 20 := by
    unfold cr_h at hh ⊢
    exact cr_nb hh
  have he : (cr_e X.1 X.2.1).2 25 0 = 0 := by
    unfold cr_f at hf
    rw [if_pos hstd] at hf
    exact hf
  have hpl : (1 : Int32) ≤ (cr_e X.1 X.2.1).1 ∧ (cr_e X.1 X.2.1).1 ≤ 8 := by
    unfold cr_e at he ⊢
    exact cr_nb he
  have hc : (cr_c X.1 X.2.1).2 25 0 = 0 := by
    unfold cr_e cr_d at he
    exact cr_p0 (cr_n0 he)
  have hro : (0 : Int32) ≤ (cr_c X.1 X.2.1).1 ∧ (cr_c X.1 X.2.1).1 ≤ X.2.1 2 - 1 := by
    unfold cr_c at hc ⊢
    exact cr_nb hc
  have hro2 : ag_r (cr_c X.1 X.2.1).1 0 2 := by
    obtain ⟨z1, z2⟩ := hro
    have t1 := hV.2.1.1
    have t2 := hV.2.1.2.1
    rw [t1] at z2
    refine ag_rl (a := 0) (b := 2) z1 (Int32.le_trans z2 ?_) (by omega) (by omega)
    rcases (show X.2.2.1 = 0 ∨ X.2.2.1 = 1 ∨ X.2.2.1 = 2 ∨ X.2.2.1 = 3 by omega) with e | e | e | e <;> rw [e] <;> decide
  unfold cr_sg cr_sn
  rw [if_pos h0, if_pos h0]
  exact cr_V_s hV h6 (cr_kv k1) hro2 (ag_rl (a := 1) (b := 8) hpl.1 hpl.2 (by omega) (by omega)) (ag_rl (a := 0) (b := 20) hgo.1 hgo.2 (by omega) (by omega)) hstd
theorem cr_VV_rs {X : cr_R} (h : cr_VV X) : ∀ k, cr_VV (cr_rs X k) := by
  intro k
  induction k with
  | zero => rw [cr_rs_0]; exact h
  | succ k ih =>
    by_cases c : (cr_rs X k).1 25 0 = 0 ∧ (k = 0 ∨ mk_by (cr_rs X k).1 ((cr_rs X k).1 24 0) = 108)
    · rw [ag_rs_y c]; exact cr_VV_rp ih
    · rw [ag_rs_n c]; exact ih
theorem cr_VV_ss {X : cr_R} (h : cr_VV X) : ∀ k, cr_VV (cr_ss X k) := by
  intro k
  induction k with
  | zero => rw [cr_ss_0]; exact h
  | succ k ih =>
    by_cases c : (cr_ss X k).1 25 0 = 0 ∧ (cr_ss X k).1 24 0 < (cr_ss X k).1 9 0
    · rw [ag_ss_y c]; exact cr_VV_st ih
    · rw [ag_ss_n c]; exact ih
theorem cr_VV_all (C : Nat → Nat → Int32) : cr_VV (cr_all C) := by
  unfold cr_all
  refine cr_VV_ss ?_ 7
  rw [cr_1_e]
  exact cr_VV_rs (cr_VV_0 C) 4
def cr_N (X : cr_R) : Prop := X.1 25 0 = 0 → 1 ≤ X.2.2.1
theorem cr_N_1 (X : cr_R) : cr_N (cr_rs X 1) := by
  by_cases c : (cr_rs X 0).1 25 0 = 0 ∧ (0 = 0 ∨ mk_by (cr_rs X 0).1 ((cr_rs X 0).1 24 0) = 108)
  · intro h
    rw [ag_rs_y (k := 0) c] at h ⊢
    rw [cr_rp_1] at h
    rw [cr_rp_3]
    unfold cr_rn
    rw [if_pos h]
    omega
  · intro h
    rw [ag_rs_n (k := 0) c] at h
    exact absurd ⟨h, Or.inl rfl⟩ c
theorem cr_N_rs {X : cr_R} {k : Nat} (h : cr_N (cr_rs X k)) (hk : 1 ≤ k) : cr_N (cr_rs X (k + 1)) := by
  by_cases c : (cr_rs X k).1 25 0 = 0 ∧ (k = 0 ∨ mk_by (cr_rs X k).1 ((cr_rs X k).1 24 0) = 108)
  · have hh := h c.1
    intro h0
    rw [ag_rs_y c] at h0 ⊢
    rw [cr_rp_1] at h0
    rw [cr_rp_3]
    unfold cr_rn
    rw [if_pos h0]
    omega
  · rw [ag_rs_n c]; exact h
theorem cr_N_ss {X : cr_R} (h : cr_N X) : ∀ k, cr_N (cr_ss X k) := by
  intro k
  induction k with
  | zero => rw [cr_ss_0]; exact h
  | succ k ih =>
    by_cases c : (cr_ss X k).1 25 0 = 0 ∧ (cr_ss X k).1 24 0 < (cr_ss X k).1 9 0
    · have hh := ih c.1
      intro h0
      rw [ag_ss_y c, cr_st_3]
      exact hh
    · rw [ag_ss_n c]; exact ih
theorem cr_N_all (C : Nat → Nat → Int32) : cr_N (cr_all C) := by
  unfold cr_all
  refine cr_N_ss ?_ 7
  rw [cr_1_e]
  exact cr_N_rs (cr_N_rs (cr_N_rs (cr_N_1 (cr_0 C)) (by omega)) (by omega)) (by omega)
