/-- what holds of what is read -/
def cr_J (g : Nat → Int32) (nr n : Nat) : Prop := mk_sr g n ∧ g 2 = nI nr ∧ nr ≤ 3
theorem cr_J_if {P : Prop} [Decidable P] {g : Nat → Int32} {nr n : Nat} {x : Int32} (h : cr_J g nr n) (h3 : P → ¬ g 2 = 3) : cr_J (if P then va_up (va_up g (5 + nr) x) 2 (nI (nr + 1)) else g) (if P then nr + 1 else nr) n := by
  obtain ⟨k1, k2, k3⟩ := h
  by_cases q : P
  · have hn3 : ¬ nr = 3 := fun z => h3 q (by rw [k2, z]; rfl)
    rw [if_pos q, if_pos q]
    exact ⟨mk_sr_up (by omega) (mk_sr_up (by omega) k1), va_up_self _ _ _, by omega⟩
  · rw [if_neg q, if_neg q]
    exact ⟨k1, k2, k3⟩
theorem cr_J_rp {C : Nat → Nat → Int32} {g : Nat → Int32} {nr n : Nat} (h : cr_J g nr n) : cr_J (cr_rg C g nr) (cr_rn C g nr) n := cr_J_if (P := cr_rope C g 25 0 = 0) h cr_rope_3
theorem mk_sr_as {g : Nat → Int32} {n : Nat} {k ro pl go : Int32} (h : mk_sr g n) (hn : n < 6) (hk : k = 1 ∨ k = 2 ∨ k = 3 ∨ k = 4 ∨ k = 5) : mk_sr (mk_as g n k ro pl go) (n + 1) := by
  obtain ⟨h1, h4, h5, h6⟩ := h
  refine ⟨?_, by omega, fun i hi => ?_, fun i hi => ?_⟩
  · unfold mk_as
    rw [if_pos rfl]
  · by_cases e : i = n
    · subst e
      rw [(mk_as_s g hn k ro pl go).1]
      exact hk
    · rw [mk_as_o g k ro pl go (by omega)]
      exact h5 i (by omega)
  · by_cases e : i = n
    · subst e
      refine Or.inl ?_
      unfold mk_as
      rw [if_neg (by omega), if_neg (by omega), if_neg (by omega), if_neg (by omega), if_neg (by omega), if_pos (by omega)]
    · rw [mk_as_o g k ro pl go (by omega)]
      exact h6 i (by omega)
theorem cr_J_as {P : Prop} [Decidable P] {g : Nat → Int32} {nr n : Nat} {k ro pl go : Int32} (h : cr_J g nr n) (h6 : P → ¬ g 3 = 6 ∧ (k = 1 ∨ k = 2 ∨ k = 3 ∨ k = 4 ∨ k = 5)) : cr_J (if P then mk_as g n k ro pl go else g) nr (if P then n + 1 else n) := by
  obtain ⟨k1, k2, k3⟩ := h
  by_cases q : P
  · have hn6 : ¬ n = 6 := fun z => (h6 q).1 (by rw [k1.1, z]; rfl)
    have k4 := k1.2.1
    rw [if_pos q, if_pos q]
    refine ⟨mk_sr_as k1 (by omega) (h6 q).2, ?_, k3⟩
    rw [mk_as_o g _ _ _ _ (by omega)]
    exact k2
  · rw [if_neg q, if_neg q]
    exact ⟨k1, k2, k3⟩
theorem cr_J_st {C : Nat → Nat → Int32} {g : Nat → Int32} {nr n : Nat} (h : cr_J g nr n) : cr_J (cr_sg C g n) nr (cr_sn C g n) := cr_J_as (P := cr_s C g n 25 0 = 0) h (fun q => ⟨(cr_s_k q).2.1, cr_kv (cr_s_k q).1⟩)
def cr_I (X : cr_R) : Prop := cr_J X.2.1 X.2.2.1 X.2.2.2
theorem cr_I_rp {X : cr_R} (h : cr_I X) : cr_I (cr_rp X) := by
  unfold cr_I cr_rp at *
  dsimp only
  exact cr_J_rp h
theorem cr_I_st {X : cr_R} (h : cr_I X) : cr_I (cr_st X) := by
  unfold cr_I cr_st at *
  dsimp only
  exact cr_J_st h
theorem cr_I_ite {P : Prop} [Decidable P] {X Y : cr_R} (h : cr_I X) (k : cr_I Y) : cr_I (if P then X else Y) := by
  split
  · exact h
  · exact k
theorem cr_I_rs {X : cr_R} (h : cr_I X) : ∀ k, cr_I (cr_rs X k) := by
  intro k
  induction k with
  | zero => exact h
  | succ k ih => rw [cr_rs]; exact cr_I_ite (cr_I_rp ih) ih
theorem cr_I_ss {X : cr_R} (h : cr_I X) : ∀ k, cr_I (cr_ss X k) := by
  intro k
  induction k with
  | zero => exact h
  | succ k ih => rw [cr_ss]; exact cr_I_ite (cr_I_st ih) ih
theorem cr_n_ite {P : Prop} [Decidable P] {X Y : cr_R} {n : Nat} (h : X.2.2.2 = n) (k : Y.2.2.2 = n) : (if P then X else Y).2.2.2 = n := by
  split
  · exact h
  · exact k
theorem cr_rp_n (X : cr_R) : (cr_rp X).2.2.2 = X.2.2.2 := by
  unfold cr_rp
  dsimp only
theorem cr_rs_n (X : cr_R) : ∀ k, (cr_rs X k).2.2.2 = X.2.2.2 := by
  intro k
  induction k with
  | zero => rfl
  | succ k ih => rw [cr_rs]; exact cr_n_ite ((cr_rp_n _).trans ih) ih
def cr_S0 (C : Nat → Nat → Int32) : Nat → Nat → Int32 := mo_w (mo_w C 24 0 0) 25 0 0
def cr_0 (C : Nat → Nat → Int32) : cr_R := (cr_law (cr_S0 C), mk_g0 (cr_l2 (cr_S0 C)).1 (cr_l4 (cr_S0 C)).1, 0, 0)
def cr_1 (C : Nat → Nat → Int32) : cr_R := cr_rs (cr_0 C) 4
def cr_all (C : Nat → Nat → Int32) : cr_R := cr_ss (cr_1 C) 7
theorem cr_J_g0 (a b : Int32) : cr_J (mk_g0 a b) 0 0 := ⟨⟨rfl, Nat.zero_le 6, fun i hi => absurd hi (Nat.not_lt_zero i), fun i hi => absurd hi (Nat.not_lt_zero i)⟩, rfl, Nat.zero_le 3⟩
theorem cr_I_0 (C : Nat → Nat → Int32) : cr_I (cr_0 C) := by
  unfold cr_I cr_0
  dsimp only
  exact cr_J_g0 _ _
theorem cr_I_1 (C : Nat → Nat → Int32) : cr_I (cr_1 C) := by
  unfold cr_1
  exact cr_I_rs (cr_I_0 C) 4
theorem cr_I_all (C : Nat → Nat → Int32) : cr_I (cr_all C) := by
  unfold cr_all
  exact cr_I_ss (cr_I_1 C) 7
/-- the object held in a world -/
def ob_H (D : va_G) (F : Nat → va_E) (oa : Nat → Nat) (C : Nat → Nat → Int32) (mr : Nat) (im : Nat → Option Nat) : Prop := ∀ k, k < 27 → F (oa k) = ob_e D oa C mr im k
theorem ob_self {D : va_G} {F : Nat → va_E} {oa : Nat → Nat} {C : Nat → Nat → Int32} {mr : Nat} {im : Nat → Option Nat} (h : ob_H D F oa C mr im) : ob_F D F oa C mr im = F := by
  funext a
  unfold ob_F
  cases hq : (List.range 27).find? (fun k => decide (oa k = a)) with
  | none => rfl
  | some j =>
    have h1 : oa j = a := by simpa using List.find?_some hq
    show ob_e D oa C mr im j = F a
    rw [← h1, h j (List.mem_range.mp (List.mem_of_find?_eq_some hq))]
theorem ob_out {D : va_G} {f : Nat → va_E} {oa : Nat → Nat} {C : Nat → Nat → Int32} {mr : Nat} {im : Nat → Option Nat} {a : Nat} (h : ∀ k, k < 27 → oa k ≠ a) : ob_F D f oa C mr im a = f a := by
  unfold ob_F
  cases hq : (List.range 27).find? (fun k => decide (oa k = a)) with
  | none => rfl
  | some j =>
    have h1 : oa j = a := by simpa using List.find?_some hq
    exact absurd h1 (h j (List.mem_range.mp (List.mem_of_find?_eq_some hq)))
/-! BOTH SIDES AGREE: first what a market's numbers lie between -/
def ag_r (x : Int32) (a b : Int) : Prop := a ≤ x.toInt ∧ x.toInt ≤ b
theorem ag_add {x y : Int32} {a b c d : Int} (hx : ag_r x a b) (hy : ag_r y c d) (h1 : -2147483648 ≤ a + c) (h2 : b + d ≤ 2147483647) : ag_r (x + y) (a + c) (b + d) := by
  obtain ⟨p, q⟩ := hx
  obtain ⟨r, t⟩ := hy
  unfold ag_r
  rw [Int32.toInt_add, Int.bmod_eq_of_le (by omega) (by omega)]
  omega
theorem ag_sub {x y : Int32} {a b c d : Int} (hx : ag_r x a b) (hy : ag_r y c d) (h1 : -2147483648 ≤ a - d) (h2 : b - c ≤ 2147483647) : ag_r (x - y) (a - d) (b - c) := by
  obtain ⟨p, q⟩ := hx
  obtain ⟨r, t⟩ := hy
  unfold ag_r
  rw [Int32.toInt_sub, Int.bmod_eq_of_le (by omega) (by omega)]
  omega
theorem ag_w {x : Int32} {a b c d : Int} (hx : ag_r x a b) (h1 : c ≤ a) (h2 : b ≤ d) : ag_r x c d := ⟨Int.le_trans h1 hx.1, Int.le_trans hx.2 h2⟩
/-- times a number from 1 to 8 -/
theorem ag_mul8 {x y : Int32} {a b : Int} (hx : ag_r x a b) (hy : ag_r y 1 8) (ha : a ≤ 0) (hb : 0 ≤ b) (h1 : -200000000 ≤ a) (h2 : b ≤ 200000000) : ag_r (x * y) (8 * a) (8 * b) := by
  obtain ⟨p, q⟩ := hx
  obtain ⟨r, t⟩ := hy
  unfold ag_r
  have e : y.toInt = 1 ∨ y.toInt = 2 ∨ y.toInt = 3 ∨ y.toInt = 4 ∨ y.toInt = 5 ∨ y.toInt = 6 ∨ y.toInt = 7 ∨ y.toInt = 8 := by omega
  rw [Int32.toInt_mul]
  rcases e with e | e | e | e | e | e | e | e <;> rw [e, Int.bmod_eq_of_le (by omega) (by omega)] <;> omega
theorem ag_tdiv {x y : Int} (hy : 1 ≤ y) : (0 ≤ x → 0 ≤ x.tdiv y ∧ x.tdiv y ≤ x) ∧ (x ≤ 0 → x ≤ x.tdiv y ∧ x.tdiv y ≤ 0) := by
  have key : ∀ z : Int, 0 ≤ z → 0 ≤ z.tdiv y ∧ z.tdiv y ≤ z := by
    intro z hz
    rw [Int.tdiv_eq_ediv_of_nonneg hz]
    exact ⟨Int.ediv_nonneg hz (by omega), Int.ediv_le_self _ hz⟩
  refine ⟨key x, fun h => ?_⟩
  have h2 := key (-x) (by omega)
  rw [Int.neg_tdiv] at h2
  omega
theorem ag_div {x y : Int32} {a b : Int} (hx : ag_r x a b) (hy : 1 ≤ y) (ha : a ≤ 0) (hb : 0 ≤ b) : ag_r (x / y) a b := by
  obtain ⟨p, q⟩ := hx
  rw [Int32.le_iff_toInt_le] at hy
  have e1 : (1 : Int32).toInt = 1 := rfl
  rw [e1] at hy
  unfold ag_r
  rw [Int32.toInt_div_of_ne_right _ _ (by intro z; rw [z] at hy; exact absurd hy (by decide))]
  obtain ⟨k1, k2⟩ := ag_tdiv (x := x.toInt) hy
  rcases Int.le_total 0 x.toInt with z | z
  · have := k1 z; omega
  · have := k2 z; omega
theorem ag_neg {x : Int32} {a b : Int} (hx : ag_r x a b) (h1 : -2147483647 ≤ a) (h2 : b ≤ 2147483647) : ag_r (-x) (-b) (-a) := by
  obtain ⟨p, q⟩ := hx
  unfold ag_r
  rw [Int32.toInt_neg, Int.bmod_eq_of_le (by omega) (by omega)]
  omega
theorem ag_lit {n : Nat} {a b : Int} (h : n < 2147483648) (h1 : a ≤ n) (h2 : (n : Int) ≤ b) : ag_r (nI n) a b := by
  unfold ag_r
  rw [nI_toInt (by omega)]
  omega
theorem ag_z {a b : Int} (h1 : a ≤ 0) (h2 : 0 ≤ b) : ag_r 0 a b := by
  unfold ag_r
  have e : (0 : Int32).toInt = 0 := rfl
  rw [e]
  omega
theorem ag_nat {x : Int32} {a b : Nat} (hx : ag_r x a b) : ∃ q : Nat, a ≤ q ∧ q ≤ b ∧ x = nI q := by
  obtain ⟨p, q⟩ := hx
  have h0 : ¬ x < 0 := by
    rw [Int32.lt_iff_toInt_lt]
    have e : (0 : Int32).toInt = 0 := rfl
    omega
  obtain ⟨j, hj, rfl⟩ := nI_of h0
  rw [nI_toInt hj] at p q
  exact ⟨j, by omega, by omega, rfl⟩
/-- loose bounds, that what is foretold keeps to as well -/
def ag_B (g : Nat → Int32) (n nr : Nat) : Prop := mk_sr g n ∧ mk_t g nr ∧ ag_r (g 1) 0 1000 ∧ ∀ i, i < n → ag_r (g (14 + i)) 0 2 ∧ ag_r (g (20 + i)) 1 8 ∧ ag_r (g (26 + i)) 0 100 ∧ ag_r (g (32 + i)) 0 100 ∧ ag_r (g (38 + i)) 0 100
theorem ag_weight {g : Nat → Int32} {n nr i : Nat} (h : ag_B g n nr) (hi : i < n) : ag_r (hs_weight g i) (-100) 400 := by
  obtain ⟨-, -, -, h5⟩ := h
  obtain ⟨-, -, k3, k4, k5⟩ := h5 i hi
  have hg : ag_r (hs_goods g i) 0 100 := by
    unfold hs_goods
    split
    · exact ag_z (by omega) (by omega)
    · exact k3
  have hw : ag_r (hs_wares (g (8 + i)) (hs_goods g i)) (-100) 200 := by
    unfold hs_wares
    split
    · exact ag_w (ag_div (a := 0) (b := 100) hg (by decide) (by omega) (by omega)) (by omega) (by omega)
    split
    · have e : (2 : Int32) * hs_goods g i = hs_goods g i + hs_goods g i := by rw [Int32.two_mul]
      rw [e]
      exact ag_w (ag_add hg hg (by omega) (by omega)) (by omega) (by omega)
    split
    · exact ag_w (ag_neg hg (by omega) (by omega)) (by omega) (by omega)
    · exact ag_w hg (by omega) (by omega)
  have hb : ag_r (hs_buy g i) 0 100 := by
    unfold hs_buy
    split
    · exact ag_z (by omega) (by omega)
    · exact k4
  unfold hs_weight
  exact ag_w (ag_add (ag_add hw k5 (by omega) (by omega)) hb (by omega) (by omega)) (by omega) (by omega)
theorem ag_less {x y : Int32} (hx : ag_r x 1 8) (hy : ag_r y 1 8) : ag_r (hs_less x y) 1 8 := by
  unfold hs_less
  split
  · exact hx
  · exact hy
theorem ag_far {x y : Int32} (hx : ag_r x 1 8) (hy : ag_r y 1 8) : ag_r (9 - hs_far x y) 1 8 := by
  have h : ag_r (hs_far x y) 1 8 := by
    rw [← mk_max]
    split
    · exact hy
    · exact hx
  exact ag_w (ag_sub (x := 9) (a := 9) (b := 9) ⟨by decide, by decide⟩ h (by omega) (by omega)) (by omega) (by omega)
theorem ag_pull {g : Nat → Int32} {n nr : Nat} (h : ag_B g n nr) (rope : Int32) {x : Int32} (hx : ag_r x 1 8) : ∀ k, k ≤ n → ag_r (hs_pull g rope x k) (-6400 * k) (25600 * k) := by
  have h6 := h.1.2.1
  intro k
  induction k with
  | zero => intro _; exact ag_z (by omega) (by omega)
  | succ k ih =>
    intro hk
    have hp := (h.2.2.2 k (by omega)).2.1
    have h1 : ag_r (hs_weight g k * hs_less x (g (20 + k)) * (9 - hs_far x (g (20 + k)))) (-6400) 25600 := by
      have a1 := ag_mul8 (ag_weight h (i := k) (by omega)) (ag_less hx hp) (by omega) (by omega) (by omega) (by omega)
      exact ag_w (ag_mul8 a1 (ag_far hx hp) (by omega) (by omega) (by omega) (by omega)) (by omega) (by omega)
    have h2 : ag_r (if g (14 + k) = rope then hs_weight g k * hs_less x (g (20 + k)) * (9 - hs_far x (g (20 + k))) else 0) (-6400) 25600 := by
      split
      · exact h1
      · exact ag_z (by omega) (by omega)
    have := ag_add (ih (by omega)) h2 (by omega) (by omega)
    exact ag_w this (by omega) (by omega)
theorem ag_sag {g : Nat → Int32} {n nr : Nat} (h : ag_B g n nr) (rope : Int32) {x : Int32} (hx : ag_r x 1 8) : ag_r (hs_sag g n rope x) (-40000) 160000 := by
  have h6 := h.1.2.1
  unfold hs_sag
  split
  · exact ag_z (by omega) (by omega)
  · rename_i c
    obtain ⟨j, hj, e⟩ := hs_ro_1 (mk_ok_of h.1 h.2.1) c
    have h3 := h.2.1.2.1
    have ht := h.2.1.2.2.1 j hj
    rw [e, nI_clamp (by omega), ← e]
    have h1 := ag_w (ag_pull h rope hx n (Nat.le_refl n)) (c := -38400) (d := 153600) (by omega) (by omega)
    exact ag_w (ag_add (ag_div h1 ht (by omega) (by omega)) h.2.2.1 (by omega) (by omega)) (by omega) (by omega)
theorem ag_depth {g : Nat → Int32} {n nr : Nat} (h : ag_B g n nr) (rope : Int32) {x : Int32} (hx : ag_r x 1 8) : ag_r (hs_depth g n rope x) (-400000) 400000 := by
  unfold hs_depth
  have h1 := ag_add (ag_sag h (rope - 1) hx) (ag_sag h (rope + 1) hx) (by omega) (by omega)
  have h2 := ag_div (y := 4) (ag_w h1 (c := -80000) (d := 320000) (by omega) (by omega)) (by decide) (by omega) (by omega)
  exact ag_w (ag_sub (ag_sag h rope hx) h2 (by omega) (by omega)) (by omega) (by omega)
theorem ag_deep {g : Nat → Int32} {n nr s : Nat} (h : ag_B g n nr) (hs : s < n) : ag_r (hs_deep g n s) (-400000) 400000 := ag_depth h _ (h.2.2.2 s hs).2.1
theorem ag_abs1 {d : Int32} (h : ag_r d (-800000) 800000) : mk_abs d ≤ 1 ↔ (-1 ≤ d ∧ d ≤ 1) := by
  obtain ⟨p, q⟩ := h
  have e1 : (1 : Int32).toInt = 1 := rfl
  have e2 : (-1 : Int32).toInt = -1 := rfl
  have e0 : (0 : Int32).toInt = 0 := rfl
  unfold mk_abs
  split
  · rename_i c
    rw [Int32.le_iff_toInt_le, e0] at c
    rw [Int32.le_iff_toInt_le, Int32.le_iff_toInt_le, e1, e2]
    omega
  · rename_i c
    rw [Int32.le_iff_toInt_le, e0] at c
    rw [Int32.le_iff_toInt_le, Int32.le_iff_toInt_le, Int32.le_iff_toInt_le, Int32.toInt_sub, e0, e1, e2, Int.bmod_eq_of_le (by omega) (by omega)]
    omega
theorem ag_sq : ∀ a, a < 3 → ∀ b, b < 3 → (mk_abs (nI a - nI b) = 1 ↔ (nI a - nI b) * (nI a - nI b) = 1) ∧ (mk_abs (nI a - nI b) = mk_abs (nI b - nI a)) := by decide +kernel
theorem ag_walk {g : Nat → Int32} {n nr a b : Nat} (h : ag_B g n nr) (ha : a < n) (hb : b < n) : hs_walk g n a b = if mk_joins g a b = 0 then 0 else if mk_meets g n a b = 0 then 1 else 2 := by
  obtain ⟨p, -, hp, ep⟩ := ag_nat (a := 0) (b := 2) (h.2.2.2 a ha).1
  obtain ⟨q, -, hq, eq⟩ := ag_nat (a := 0) (b := 2) (h.2.2.2 b hb).1
  have h1 := (ag_sq p (by omega) q (by omega)).1
  have h2 := ag_abs1 (ag_w (ag_sub (ag_deep h ha) (ag_deep h hb) (by omega) (by omega)) (by omega) (by omega))
  have j1 : mk_joins g a b = 0 ↔ ¬ ((nI p - nI q) * (nI p - nI q) = 1 ∧ g (20 + a) = g (20 + b)) := by
    unfold mk_joins
    rw [hs_if10, ep, eq, h1]
  have j2 : mk_meets g n a b = 0 ↔ ¬ (-1 ≤ hs_deep g n a - hs_deep g n b ∧ hs_deep g n a - hs_deep g n b ≤ 1) := by
    unfold mk_meets
    rw [hs_if10, h2]
  unfold hs_walk
  rw [ep, eq]
  by_cases c1 : (nI p - nI q) * (nI p - nI q) = 1 ∧ g (20 + a) = g (20 + b)
  · rw [if_pos c1, if_neg (fun z => j1.mp z c1)]
    by_cases c2 : -1 ≤ hs_deep g n a - hs_deep g n b ∧ hs_deep g n a - hs_deep g n b ≤ 1
    · rw [if_pos c2, if_neg (fun z => j2.mp z c2)]
    · rw [if_neg c2, if_pos (j2.mpr c2)]
  · rw [if_neg c1, if_pos (j1.mpr c1)]
theorem ag_walk_sym {g : Nat → Int32} {n nr a b : Nat} (h : ag_B g n nr) (ha : a < n) (hb : b < n) : hs_walk g n a b = hs_walk g n b a := by
  have e1 : ∀ x y : Int32, (x - y) * (x - y) = (y - x) * (y - x) := by
    intro x y
    rw [← Int32.neg_sub (a := y) (b := x), Int32.neg_mul_neg]
  obtain ⟨d1, d2⟩ := ag_sub (ag_deep h ha) (ag_deep h hb) (by omega) (by omega)
  have n1 : (hs_deep g n b - hs_deep g n a).toInt = -(hs_deep g n a - hs_deep g n b).toInt := by
    obtain ⟨p1, p2⟩ := ag_deep h ha
    obtain ⟨q1, q2⟩ := ag_deep h hb
    rw [Int32.toInt_sub, Int32.toInt_sub, Int.bmod_eq_of_le (by omega) (by omega), Int.bmod_eq_of_le (by omega) (by omega)]
    omega
  have e2 : (-1 ≤ hs_deep g n a - hs_deep g n b ∧ hs_deep g n a - hs_deep g n b ≤ 1) ↔ (-1 ≤ hs_deep g n b - hs_deep g n a ∧ hs_deep g n b - hs_deep g n a ≤ 1) := by
    have f1 : (1 : Int32).toInt = 1 := rfl
    have f2 : (-1 : Int32).toInt = -1 := rfl
    rw [Int32.le_iff_toInt_le, Int32.le_iff_toInt_le, Int32.le_iff_toInt_le, Int32.le_iff_toInt_le, n1, f1, f2]
    omega
  unfold hs_walk
  rw [e1 (g (14 + a)) (g (14 + b))]
  by_cases c1 : (g (14 + b) - g (14 + a)) * (g (14 + b) - g (14 + a)) = 1 ∧ g (20 + a) = g (20 + b)
  · have c1' : (g (14 + b) - g (14 + a)) * (g (14 + b) - g (14 + a)) = 1 ∧ g (20 + b) = g (20 + a) := ⟨c1.1, c1.2.symm⟩
    by_cases c2 : -1 ≤ hs_deep g n a - hs_deep g n b ∧ hs_deep g n a - hs_deep g n b ≤ 1
    · have c3 := e2.mp c2
      rw [if_pos c1, if_pos c2, if_pos c1', if_pos c3]
    · have c3 : ¬ (-1 ≤ hs_deep g n b - hs_deep g n a ∧ hs_deep g n b - hs_deep g n a ≤ 1) := fun z => c2 (e2.mpr z)
      rw [if_pos c1, if_neg c2, if_pos c1', if_neg c3]
  · have c1' : ¬ ((g (14 + b) - g (14 + a)) * (g (14 + b) - g (14 + a)) = 1 ∧ g (20 + b) = g (20 + a)) := fun z => c1 ⟨z.1, z.2.symm⟩
    rw [if_neg c1, if_neg c1']
/-- pairs counted either way -/
def ag_c1 (t : Nat → Nat → Int32) (a : Nat) (c : Int32) : Nat → Int32
  | 0 => c
  | b + 1 => ag_c1 t a c b + (if a < b then t a b else 0)
def ag_c (t : Nat → Nat → Int32) (n : Nat) : Nat → Int32
  | 0 => 0
  | a + 1 => ag_c1 t a (ag_c t n a) n
def ag_k1 (t : Nat → Nat → Int32) (a : Nat) (c : Int32) : Nat → Int32
  | 0 => c
  | b + 1 => ag_k1 t a c b + t a b
def ag_k (t : Nat → Nat → Int32) : Nat → Int32
  | 0 => 0
  | a + 1 => ag_k1 t a (ag_k t a) a
theorem ag_ck {t : Nat → Nat → Int32} {n : Nat} (hn : n ≤ 6) (hs : ∀ a b, a < n → b < n → t a b = t b a) : ag_c t n n = ag_k t n := by
  rcases (show n = 0 ∨ n = 1 ∨ n = 2 ∨ n = 3 ∨ n = 4 ∨ n = 5 ∨ n = 6 by omega) with rfl | rfl | rfl | rfl | rfl | rfl | rfl
  · rfl
  · simp [ag_c, ag_c1, ag_k, ag_k1]
  · simp [ag_c, ag_c1, ag_k, ag_k1, hs 0 1 (by omega) (by omega)]
  · simp [ag_c, ag_c1, ag_k, ag_k1, hs 0 1 (by omega) (by omega), hs 0 2 (by omega) (by omega), hs 1 2 (by omega) (by omega)]
  · simp [ag_c, ag_c1, ag_k, ag_k1, hs 0 1 (by omega) (by omega), hs 0 2 (by omega) (by omega), hs 1 2 (by omega) (by omega), hs 0 3 (by omega) (by omega), hs 1 3 (by omega) (by omega), hs 2 3 (by omega) (by omega)]
    ac_rfl
  · simp [ag_c, ag_c1, ag_k, ag_k1, hs 0 1 (by omega) (by omega), hs 0 2 (by omega) (by omega), hs 1 2 (by omega) (by omega), hs 0 3 (by omega) (by omega), hs 1 3 (by omega) (by omega), hs 2 3 (by omega) (by omega), hs 0 4 (by omega) (by omega), hs 1 4 (by omega) (by omega), hs 2 4 (by omega) (by omega), hs 3 4 (by omega) (by omega)]
    ac_rfl
  · simp [ag_c, ag_c1, ag_k, ag_k1, hs 0 1 (by omega) (by omega), hs 0 2 (by omega) (by omega), hs 1 2 (by omega) (by omega), hs 0 3 (by omega) (by omega), hs 1 3 (by omega) (by omega), hs 2 3 (by omega) (by omega), hs 0 4 (by omega) (by omega), hs 1 4 (by omega) (by omega), hs 2 4 (by omega) (by omega), hs 3 4 (by omega) (by omega), hs 0 5 (by omega) (by omega), hs 1 5 (by omega) (by omega), hs 2 5 (by omega) (by omega), hs 3 5 (by omega) (by omega), hs 4 5 (by omega) (by omega)]
    ac_rfl
def ag_t (g : Nat → Int32) (n : Nat) (least : Int32) (a b : Nat) : Int32 := if hs_walk g n a b < least then 0 else 1
theorem ag_k1_e (g : Nat → Int32) (n : Nat) (least : Int32) (a : Nat) (c : Int32) : ∀ b, hs_wks1 g n least a c b = ag_k1 (ag_t g n least) a c b := by
  intro b
  induction b with
  | zero => rfl
  | succ b ih => show hs_wks1 g n least a c b + _ = ag_k1 (ag_t g n least) a c b + _; rw [ih]; rfl
theorem ag_k_e (g : Nat → Int32) (n : Nat) (least : Int32) : ∀ a, hs_wks g n least a = ag_k (ag_t g n least) a := by
  intro a
  induction a with
  | zero => rfl
  | succ a ih => show hs_wks1 g n least a (hs_wks g n least a) a = ag_k1 _ a (ag_k _ a) a; rw [ih, ag_k1_e]
theorem ag_t_e {g : Nat → Int32} {n nr a b : Nat} (h : ag_B g n nr) (ha : a < n) (hb : b < n) {only : Int32} (ho : only = 0 ∨ only = 1) : (if nI a < nI b ∧ ¬ mk_joins g a b = 0 ∧ (only = 0 ∨ ¬ mk_meets g n a b = 0) then (1 : Int32) else 0) = if a < b then ag_t g n (only + 1) a b else 0 := by
  have h6 := h.1.2.1
  have hl := nI_ltI (a := a) (b := b) (by omega) (by omega)
  unfold ag_t
  rw [ag_walk h ha hb]
  by_cases c0 : a < b
  · rw [if_pos c0]
    by_cases c1 : mk_joins g a b = 0
    · rw [if_neg (fun z => z.2.1 c1), if_pos c1, if_pos (by rcases ho with rfl | rfl <;> decide)]
    · rw [if_neg c1]
      by_cases c2 : mk_meets g n a b = 0
      · rw [if_pos c2]
        rcases ho with rfl | rfl
        · rw [if_pos ⟨hl.mpr c0, c1, Or.inl rfl⟩, if_neg (by decide)]
        · rw [if_neg (fun z => z.2.2.elim (by decide) (fun z => z c2)), if_pos (by decide)]
      · rw [if_neg c2, if_pos ⟨hl.mpr c0, c1, Or.inr c2⟩, if_neg (by rcases ho with rfl | rfl <;> decide)]
  · rw [if_neg c0, if_neg (fun z => c0 (hl.mp z.1))]
theorem ag_c1_e {g : Nat → Int32} {n nr a : Nat} (h : ag_B g n nr) (ha : a < n) {only : Int32} (ho : only = 0 ∨ only = 1) (c : Int32) : ∀ b, b ≤ n → mk_w1 g n only a c b = ag_c1 (ag_t g n (only + 1)) a c b := by
  intro b
  induction b with
  | zero => intro _; rfl
  | succ b ih => intro hb; show mk_w1 g n only a c b + _ = ag_c1 _ a c b + _; rw [ih (by omega), ag_t_e h ha (by omega) ho]
theorem ag_c_e {g : Nat → Int32} {n nr : Nat} (h : ag_B g n nr) {only : Int32} (ho : only = 0 ∨ only = 1) : ∀ a, a ≤ n → mk_w g n only a = ag_c (ag_t g n (only + 1)) n a := by
  intro a
  induction a with
  | zero => intro _; rfl
  | succ a ih => intro ha; show mk_w1 g n only a (mk_w g n only a) n = ag_c1 _ a (ag_c _ n a) n; rw [ih (by omega), ag_c1_e h (by omega) ho _ n (Nat.le_refl n)]
theorem ag_wks {g : Nat → Int32} {n nr : Nat} (h : ag_B g n nr) {only : Int32} (ho : only = 0 ∨ only = 1) : mk_w g n only n = hs_wks g n (only + 1) n := by
  rw [ag_c_e h ho n (Nat.le_refl n), ag_k_e, ag_ck h.1.2.1]
  intro a b ha hb
  unfold ag_t
  rw [ag_walk_sym h ha hb]
/-! who drops: the first, or the bits -/
theorem ag_lowB : ∀ k, k < 6 → ∀ d, d < 2 ^ k → (0 < d → hs_low (nI (d + 2 ^ k)) = hs_low (nI d)) ∧ hs_low (nI (2 ^ k)) = k := by decide +kernel
theorem ag_fd (g : Nat → Int32) (n : Nat) : ∀ k, k ≤ 6 → (hs_dropN g n k = 0 ∧ mk_fd g n k = hs_NONE) ∨ (0 < hs_dropN g n k ∧ mk_fd g n k = nI (hs_low (nI (hs_dropN g n k))) ∧ hs_low (nI (hs_dropN g n k)) ≤ 5) := by
  intro k
  induction k with
  | zero => intro _; exact Or.inl ⟨rfl, rfl⟩
  | succ k ih =>
    intro hk
    have h2 := (hs_drop_n g n k (by omega)).2
    have hp : 0 < 2 ^ k := Nat.two_pow_pos k
    rw [hs_dropN, mk_fd]
    rcases ih (by omega) with ⟨a1, a2⟩ | ⟨a1, a2, a3⟩
    · rw [if_pos a2]
      by_cases c : g 0 < hs_deep g n k
      · rw [if_pos c, if_pos c, a1, Nat.zero_add, (ag_lowB k (by omega) 0 hp).2]
        exact Or.inr ⟨hp, rfl, by omega⟩
      · rw [if_neg c, if_neg c, a1]
        exact Or.inl ⟨rfl, rfl⟩
    · have hN : ¬ mk_fd g n k = hs_NONE := by rw [a2]; exact mk_nN (by omega)
      rw [if_neg hN]
      by_cases c : g 0 < hs_deep g n k
      · rw [if_pos c, (ag_lowB k (by omega) _ h2).1 a1]
        exact Or.inr ⟨by omega, a2, a3⟩
      · rw [if_neg c, Nat.add_zero]
        exact Or.inr ⟨a1, a2, a3⟩
theorem ag_fd0 {g : Nat → Int32} {n : Nat} (hn : n ≤ 6) : mk_fd g n n = hs_NONE ↔ hs_drop g n n = 0 := by
  obtain ⟨e, lt⟩ := hs_drop_n g n n hn
  have h64 : hs_dropN g n n < 64 := Nat.lt_of_lt_of_le lt (Nat.le_trans (Nat.pow_le_pow_right (by decide) hn) (by decide))
  rw [e]
  rcases ag_fd g n n hn with ⟨a1, a2⟩ | ⟨a1, a2, a3⟩
  · rw [a1, a2]
    exact ⟨fun _ => rfl, fun _ => rfl⟩
  · rw [a2]
    exact ⟨fun z => absurd z (mk_nN (by omega)), fun z => absurd z (nI_ne0 a1 (by omega))⟩
theorem ag_fd1 {g : Nat → Int32} {n : Nat} (hn : n ≤ 6) (h : ¬ hs_drop g n n = 0) : mk_fd g n n = nI (hs_low (hs_drop g n n)) ∧ hs_low (hs_drop g n n) ≤ 5 := by
  obtain ⟨e, lt⟩ := hs_drop_n g n n hn
  rw [e] at h ⊢
  rcases ag_fd g n n hn with ⟨a1, a2⟩ | ⟨a1, a2, a3⟩
  · exact absurd (by rw [a1]; rfl) h
  · exact ⟨a2, a3⟩
theorem ag_nN {k : Nat} (h : k < 2147483648) : ¬ nI k = hs_NONE := by
  intro q
  have := congrArg Int32.toInt q
  rw [nI_toInt (by omega)] at this
  have e : hs_NONE.toInt = -1000000 := by decide
  omega
/-- holds -/
theorem ag_hold {g : Nat → Int32} {n r : Nat} (hn : n ≤ 6) : ∀ k, k ≤ 40 → (if mk_lt g n r (40 - k) = hs_NONE then hs_hold g n r k else mk_lt g n r (40 - k)) = mk_lt g n r 40 := by
  intro k
  induction k with
  | zero =>
    intro _
    show (if mk_lt g n r 40 = hs_NONE then hs_NONE else mk_lt g n r 40) = mk_lt g n r 40
    split
    · rename_i c; exact c.symm
    · rfl
  | succ k ih =>
    intro hk
    have ih := ih (by omega)
    have e : 40 - k = (40 - (k + 1)) + 1 := by omega
    rw [e] at ih
    rw [mk_lt] at ih
    rw [hs_hold, show nI (40 - k) = nI (40 - (k + 1) + 1) by rw [e]]
    by_cases c : mk_lt g n r (40 - (k + 1)) = hs_NONE
    · rw [if_pos c] at ih ⊢
      by_cases c2 : hs_drop (va_up g (5 + r) (nI (40 - (k + 1) + 1))) n n = 0
      · rw [if_pos ((ag_fd0 hn).mpr c2)] at ih
        rw [if_neg (ag_nN (by omega))] at ih
        rw [if_pos c2]
        exact ih
      · rw [if_neg (fun z => c2 ((ag_fd0 hn).mp z)), if_pos rfl] at ih
        rw [if_neg c2]
        exact ih
    · rw [if_neg c] at ih ⊢
      rw [if_neg c] at ih
      exact ih
theorem ag_holds {g : Nat → Int32} {n : Nat} (hn : n ≤ 6) (rope : Int32) : cq_holds g n rope = q_holds g n rope := by
  unfold cq_holds q_holds
  have h := ag_hold (g := g) (r := rope.toNatClampNeg) hn 40 (Nat.le_refl 40)
  rw [← h]
  have : mk_lt g n rope.toNatClampNeg (40 - 40) = hs_NONE := rfl
  rw [if_pos this]
/-- falls -/
def ag_ff (g : Nat → Int32) (n : Nat) (what : Int32) (q : Nat) : Int32 := if hs_drop (va_up g 1 (g 1 + nI q)) n n = 0 then hs_NONE else if what = 0 then nI q else nI (hs_low (hs_drop (va_up g 1 (g 1 + nI q)) n n))
theorem ag_fall {g : Nat → Int32} {n : Nat} (hn : n ≤ 6) (what : Int32) : ∀ q, q ≤ 100 → ∀ best, hs_fall g n what best q = if mk_rd g n what q = hs_NONE then best else mk_rd g n what q := by
  intro q
  induction q with
  | zero =>
    intro _ best
    have e : mk_rd g n what 0 = hs_NONE := rfl
    rw [if_pos e]
    rfl
  | succ q ih =>
    intro hq best
    rw [hs_fall, ih (by omega), mk_rd]
    by_cases c : mk_rd g n what q = hs_NONE
    · rw [if_pos c, if_pos c]
      by_cases c2 : hs_drop (va_up g 1 (g 1 + nI q)) n n = 0
      · rw [if_pos c2, if_pos ((ag_fd0 hn).mpr c2), if_pos rfl]
      · obtain ⟨k1, k2⟩ := ag_fd1 hn c2
        rw [if_neg c2, if_neg (fun z => c2 ((ag_fd0 hn).mp z)), k1]
        have h3 : ¬ (if what = 0 then nI q else nI (hs_low (hs_drop (va_up g 1 (g 1 + nI q)) n n))) = hs_NONE := by
          split
          · exact ag_nN (by omega)
          · exact ag_nN (by omega)
        rw [if_neg h3]
    · rw [if_neg c, if_neg c, if_neg c]
theorem ag_falls {g : Nat → Int32} {n : Nat} (hn : n ≤ 6) (what : Int32) (h4 : g 4 = 0 ↔ g 2 = 0) : cq_falls g n what = q_falls g n what := by
  unfold cq_falls q_falls
  rw [ag_fall hn what 100 (Nat.le_refl _)]
  by_cases c : g 2 = 0
  · rw [if_pos c, if_pos (h4.mpr c)]
  · rw [if_neg c, if_neg (fun z => c (h4.mp z))]
    by_cases c2 : hs_in what 0 1 = 0
    · rw [if_pos c2, if_pos c2]
    · rw [if_neg c2, if_neg c2]
      by_cases c3 : mk_rd g n what 100 = hs_NONE
      · rw [if_pos c3, c3]
      · rw [if_neg c3]
/-- who stands there: the first, or the last -/
theorem ag_who (g : Nat → Int32) (rope place : Int32) : ∀ k, k ≤ 6 → (mk_std g rope place k = none ∧ hs_who g rope place k = -1) ∨ (∃ j i : Nat, j < k ∧ i < k ∧ mk_std g rope place k = some j ∧ hs_who g rope place k = nI i ∧ g (14 + j) = rope ∧ g (20 + j) = place ∧ g (14 + i) = rope ∧ g (20 + i) = place) := by
  intro k
  induction k with
  | zero => intro _; exact Or.inl ⟨rfl, rfl⟩
  | succ k ih =>
    intro hk
    have hw : hs_who g rope place (k + 1) = if g (14 + k) = rope ∧ g (20 + k) = place then nI k else hs_who g rope place k := rfl
    have hs : mk_std g rope place (k + 1) = match mk_std g rope place k with
      | some j => some j
      | none => if g (14 + k) = rope ∧ g (20 + k) = place then some k else none := rfl
    rcases ih (by omega) with ⟨a1, a2⟩ | ⟨j, i, b1, b2, b3, b4, b5, b6, b7, b8⟩
    · rw [a1] at hs
      have hs : mk_std g rope place (k + 1) = if g (14 + k) = rope ∧ g (20 + k) = place then some k else none := hs
      by_cases c : g (14 + k) = rope ∧ g (20 + k) = place
      · rw [if_pos c] at hw hs
        exact Or.inr ⟨k, k, by omega, by omega, hs, hw, c.1, c.2, c.1, c.2⟩
      · rw [if_neg c] at hw hs
        exact Or.inl ⟨hs, hw.trans a2⟩
    · rw [b3] at hs
      have hs : mk_std g rope place (k + 1) = some j := hs
      by_cases c : g (14 + k) = rope ∧ g (20 + k) = place
      · rw [if_pos c] at hw
        exact Or.inr ⟨j, k, by omega, by omega, hs, hw, b5, b6, c.1, c.2⟩
      · rw [if_neg c] at hw
        exact Or.inr ⟨j, i, by omega, by omega, hs, hw.trans b4, b5, b6, b7, b8⟩
theorem ag_who_n {g : Nat → Int32} {n : Nat} (hn : n ≤ 6) (rope place : Int32) : mk_std g rope place n = none ↔ hs_who g rope place n < 0 := by
  rcases ag_who g rope place n hn with ⟨a1, a2⟩ | ⟨j, i, b1, b2, b3, b4, -⟩
  · rw [a1, a2]
    exact ⟨fun _ => by decide, fun _ => rfl⟩
  · rw [b3, b4]
    exact ⟨fun z => (by cases z), fun z => absurd z (nI_pos (n := i) (by omega))⟩
/-- each place of a rope holds one stall at most -/
def ag_U (g : Nat → Int32) (n : Nat) : Prop := ∀ i j, i < n → j < n → g (14 + i) = g (14 + j) → g (20 + i) = g (20 + j) → i = j
theorem ag_who_s {g : Nat → Int32} {n j : Nat} (hn : n ≤ 6) (hu : ag_U g n) {rope place : Int32} (h : mk_std g rope place n = some j) : hs_who g rope place n = nI j ∧ j < n := by
  rcases ag_who g rope place n hn with ⟨a1, a2⟩ | ⟨j', i, b1, b2, b3, b4, b5, b6, b7, b8⟩
  · rw [a1] at h; exact absurd h (by simp)
  · rw [b3] at h
    have e : j' = j := by simpa using h
    subst e
    have := hu j' i b1 b2 (b5.trans b7.symm) (b6.trans b8.symm)
    subst this
    exact ⟨b4, b1⟩
theorem ag_std {g : Nat → Int32} {n : Nat} (hn : n ≤ 6) (hu : ag_U g n) (rope place : Int32) : cq_std g n rope place = if hs_who g rope place n < 0 then hs_NONE else hs_who g rope place n := by
  cases h : mk_std g rope place n with
  | none => rw [cq_std_n h, if_pos ((ag_who_n hn rope place).mp h)]
  | some j =>
    obtain ⟨k1, k2⟩ := ag_who_s hn hu h
    rw [cq_std_s h, k1, if_neg (nI_pos (by omega))]
theorem ag_can {g : Nat → Int32} {n i : Nat} (hn : n ≤ 6) (hu : ag_U g n) (hi : i < n) (place : Int32) : ¬ mk_can g n i place = 0 ↔ (hs_who g (g (14 + i)) place n < 0 ∨ hs_who g (g (14 + i)) place n = nI i) := by
  cases h : mk_std g (g (14 + i)) place n with
  | none =>
    rw [mk_can_n h]
    exact ⟨fun _ => Or.inl ((ag_who_n hn _ _).mp h), fun _ => by decide⟩
  | some j =>
    obtain ⟨k1, k2⟩ := ag_who_s hn hu h
    rw [mk_can_s h, k1, hs_if10]
    constructor
    · intro z; exact Or.inr (Classical.not_not.mp z)
    · rintro (z | z)
      · exact absurd z (nI_pos (by omega))
      · exact fun q => q z
theorem ag_price0 (g : Nat → Int32) (n j : Nat) : ¬ hs_price g n j < 0 := by
  unfold hs_price
  split
  · decide
  · assumption
theorem ag_lt_none {v : Int32} (h : ¬ v < 0) : hs_NONE < v ∧ -1 < v := by
  rw [Int32.lt_iff_toInt_lt] at h
  have e0 : (0 : Int32).toInt = 0 := rfl
  have e1 : (-1 : Int32).toInt = -1 := rfl
  have e2 : hs_NONE.toInt = -1000000 := by decide
  rw [Int32.lt_iff_toInt_lt, Int32.lt_iff_toInt_lt, e1, e2]
  omega
/-- dearest -/
theorem ag_dear {g : Nat → Int32} {n i : Nat} (hn : n ≤ 6) (hu : ag_U g n) (hi : i < n) : ∀ k, (mk_dear g n i k = (g (20 + i), hs_NONE) ∧ hs_dearM g n i k = -1 ∧ hs_dearB g n i k = hs_NONE ∧ ∀ j, j < k → mk_can g n i (nI (j + 1)) = 0) ∨ (mk_dear g n i k = (hs_dearB g n i k, hs_dearM g n i k) ∧ ¬ hs_dearM g n i k < 0) := by
  intro k
  induction k with
  | zero => exact Or.inl ⟨rfl, rfl, rfl, fun j hj => absurd hj (by omega)⟩
  | succ k ih =>
    have hc := ag_can hn hu hi (nI (k + 1))
    have hp := ag_price0 (va_up g (20 + i) (nI (k + 1))) n i
    have hl := ag_lt_none hp
    rw [mk_dear, hs_dearM, hs_dearB]
    by_cases c : mk_can g n i (nI (k + 1)) = 0
    · have hA : hs_prAt g n i k = -1 := by
        unfold hs_prAt
        rw [if_neg (fun z => hc.mpr z c)]
      rw [if_neg (fun z => z.1 c), hA]
      rcases ih with ⟨a1, a2, a3, a4⟩ | ⟨a1, a2⟩
      · rw [a2, if_neg (by decide), if_neg (by decide)]
        refine Or.inl ⟨a1, rfl, a3, fun j hj => ?_⟩
        by_cases e : j = k
        · rw [e]; exact c
        · exact a4 j (by omega)
      · have h3 : ¬ hs_dearM g n i k < -1 := by
          intro z
          rw [Int32.lt_iff_toInt_lt] at z a2
          have e0 : (0 : Int32).toInt = 0 := rfl
          have e1 : (-1 : Int32).toInt = -1 := rfl
          omega
        rw [if_neg h3, if_neg h3]
        exact Or.inr ⟨a1, a2⟩
    · have hA : hs_prAt g n i k = hs_price (va_up g (20 + i) (nI (k + 1))) n i := by
        unfold hs_prAt
        rw [if_pos (hc.mp c)]
      rw [hA]
      rcases ih with ⟨a1, a2, a3, a4⟩ | ⟨a1, a2⟩
      · rw [a1, a2, if_pos hl.2, if_pos hl.2, if_pos ⟨c, hl.1⟩]
        exact Or.inr ⟨rfl, hp⟩
      · rw [a1]
        by_cases c2 : hs_dearM g n i k < hs_price (va_up g (20 + i) (nI (k + 1))) n i
        · rw [if_pos c2, if_pos c2, if_pos ⟨c, c2⟩]
          exact Or.inr ⟨rfl, hp⟩
        · rw [if_neg c2, if_neg c2, if_neg (fun z => c2 z.2)]
          exact Or.inr ⟨rfl, a2⟩
theorem ag_can_own {g : Nat → Int32} {n i : Nat} (hn : n ≤ 6) (hu : ag_U g n) (hi : i < n) : ¬ mk_can g n i (g (20 + i)) = 0 := by
  rw [ag_can hn hu hi]
  rcases ag_who g (g (14 + i)) (g (20 + i)) n hn with ⟨a1, a2⟩ | ⟨j', i', b1, b2, b3, b4, b5, b6, b7, b8⟩
  · rw [a2]; exact Or.inl (by decide)
  · have := hu i' i b2 hi b7 b8
    subst this
    exact Or.inr b4
theorem ag_dearest {g : Nat → Int32} {n nr : Nat} (hn : n ≤ 6) (hu : ag_U g n) (hB : ag_B g n nr) (s : Int32) : cq_dearest g n s = q_dearest g n s := by
  unfold cq_dearest q_dearest
  by_cases c : hs_isSt g s = 0
  · rw [if_pos c, if_pos c]
  · rw [if_neg c, if_neg c]
    obtain ⟨i, hi, e⟩ := hs_st_1 (mk_ok_of hB.1 hB.2.1) c
    rw [e, nI_clamp (by omega)]
    rcases ag_dear hn hu hi 8 with ⟨a1, a2, a3, a4⟩ | ⟨a1, a2⟩
    · exfalso
      obtain ⟨p, h1, h8, ep⟩ := ag_nat (a := 1) (b := 8) (hB.2.2.2 i hi).2.1
      have := a4 (p - 1) (by omega)
      rw [show p - 1 + 1 = p by omega, ← ep] at this
      exact ag_can_own hn hu hi this
    · rw [a1]
/-! what is foretold, both ways -/
theorem ag_B_20 {g : Nat → Int32} {n nr i : Nat} {v : Int32} (h : ag_B g n nr) (_hi : i < n) (hv : ag_r v 1 8) : ag_B (va_up g (20 + i) v) n nr := by
  obtain ⟨h1, h2, h3, h4⟩ := h
  have h6 := h1.2.1
  refine ⟨mk_sr_up (by omega) h1, mk_t_up (by omega) h2, by rw [va_up_ne _ _ (by omega)]; exact h3, fun j hj => ?_⟩
  obtain ⟨k1, k2, k3, k4, k5⟩ := h4 j hj
  rw [va_up_ne _ _ (show 14 + j ≠ 20 + i by omega), va_up_ne _ _ (show 26 + j ≠ 20 + i by omega), va_up_ne _ _ (show 32 + j ≠ 20 + i by omega), va_up_ne _ _ (show 38 + j ≠ 20 + i by omega)]
  refine ⟨k1, ?_, k3, k4, k5⟩
  by_cases e : 20 + j = 20 + i
  · rw [e, va_up_self]; exact hv
  · rw [va_up_ne _ _ e]; exact k2
theorem ag_B_38 {g : Nat → Int32} {n nr i : Nat} {v : Int32} (h : ag_B g n nr) (_hi : i < n) (hv : ag_r v 0 100) : ag_B (va_up g (38 + i) v) n nr := by
  obtain ⟨h1, h2, h3, h4⟩ := h
  have h6 := h1.2.1
  refine ⟨mk_sr_up (by omega) h1, mk_t_up (by omega) h2, by rw [va_up_ne _ _ (by omega)]; exact h3, fun j hj => ?_⟩
  obtain ⟨k1, k2, k3, k4, k5⟩ := h4 j hj
  rw [va_up_ne _ _ (show 14 + j ≠ 38 + i by omega), va_up_ne _ _ (show 26 + j ≠ 38 + i by omega), va_up_ne _ _ (show 32 + j ≠ 38 + i by omega), va_up_ne _ _ (show 20 + j ≠ 38 + i by omega)]
  refine ⟨k1, k2, k3, k4, ?_⟩
  by_cases e : 38 + j = 38 + i
  · rw [e, va_up_self]; exact hv
  · rw [va_up_ne _ _ e]; exact k5
theorem ag_walk2 {g : Nat → Int32} {n nr a b : Nat} (h : ag_B g n nr) (ha : a < n) (hb : b < n) (hj : ¬ mk_joins g a b = 0) : hs_walk g n a b = 2 ↔ ¬ mk_meets g n a b = 0 := by
  rw [ag_walk h ha hb, if_neg hj]
  by_cases c : mk_meets g n a b = 0
  · rw [if_pos c]
    exact ⟨fun z => absurd z (by decide), fun z => absurd c z⟩
  · rw [if_neg c]
    exact ⟨fun _ => c, fun _ => rfl⟩
/-- rented -/
theorem ag_rent {g : Nat → Int32} {n nr i a b : Nat} (hB : ag_B g n nr) (hu : ag_U g n) (hi : i < n) (ha : a < n) (hb : b < n) (hia : i ≠ a) (hib : i ≠ b) (hj : ¬ mk_joins g a b = 0) : ∀ k, k ≤ 8 → mk_rent g n i a b k = hs_rent g n i a b k := by
  have hn := hB.1.2.1
  intro k
  induction k with
  | zero => intro _; rfl
  | succ k ih =>
    intro hk
    have hc := ag_can hn hu hi (nI (k + 1))
    have hB2 := ag_B_20 (v := nI (k + 1)) hB hi (ag_lit (by omega) (by omega) (by omega))
    have hj2 : ¬ mk_joins (va_up g (20 + i) (nI (k + 1))) a b = 0 := by
      unfold mk_joins at hj ⊢
      rw [va_up_ne _ _ (show 14 + a ≠ 20 + i by omega), va_up_ne _ _ (show 14 + b ≠ 20 + i by omega), va_up_ne _ _ (show 20 + a ≠ 20 + i by omega), va_up_ne _ _ (show 20 + b ≠ 20 + i by omega)]
      exact hj
    have hw := ag_walk2 hB2 ha hb hj2
    rw [mk_rent, hs_rent, ih (by omega)]
    by_cases c : mk_can g n i (nI (k + 1)) = 0
    · rw [if_neg (fun z => z.1 c), if_neg (fun z => hc.mpr z c)]
    · rw [if_pos (hc.mp c)]
      by_cases c2 : mk_meets (va_up g (20 + i) (nI (k + 1))) n a b = 0
      · rw [if_neg (fun z => z.2 c2), if_neg (fun z => hw.mp z c2), hs_or0]
      · rw [if_pos ⟨c, c2⟩, if_pos (hw.mpr c2)]
theorem ag_joins0 {g : Nat → Int32} {n nr a b : Nat} (h : ag_B g n nr) (ha : a < n) (hb : b < n) : mk_joins g a b = 0 ↔ hs_walk g n a b = 0 := by
  rw [ag_walk h ha hb]
  by_cases c : mk_joins g a b = 0
  · rw [if_pos c]
    exact ⟨fun _ => rfl, fun _ => c⟩
  · rw [if_neg c]
    refine ⟨fun z => absurd z c, fun z => ?_⟩
    split at z
    · exact absurd z (by decide)
    · exact absurd z (by decide)
theorem ag_isof4 {s : Int32} (h : s = 1 ∨ s = 2 ∨ s = 3 ∨ s = 4 ∨ s = 5) : hs_isof s 4 = 0 ↔ s < 4 := by
  rcases h with rfl | rfl | rfl | rfl | rfl <;> decide
theorem ag_rented {g : Nat → Int32} {n nr : Nat} (hB : ag_B g n nr) (hu : ag_U g n) (s a b : Int32) : cq_rented g n s a b = q_rented g n s a b := by
  have hn := hB.1.2.1
  unfold cq_rented q_rented
  by_cases c : hs_isSt g s = 0 ∨ hs_isSt g a = 0 ∨ hs_isSt g b = 0 ∨ a = b
  · rw [if_pos c, if_pos c]
  · rw [if_neg c, if_neg c]
    have hv := mk_ok_of hB.1 hB.2.1
    obtain ⟨i, hi, es⟩ := hs_st_1 hv (fun z => c (Or.inl z))
    obtain ⟨p, hp, ea⟩ := hs_st_1 hv (fun z => c (Or.inr (Or.inl z)))
    obtain ⟨q, hq, eb⟩ := hs_st_1 hv (fun z => c (Or.inr (Or.inr (Or.inl z))))
    subst es ea eb
    rw [nI_clamp (by omega), nI_clamp (by omega), nI_clamp (by omega)]
    have e1 := ag_isof4 (hB.1.2.2.1 i hi)
    have e2 := ag_joins0 hB hp hq
    by_cases c2 : hs_isof (g (8 + i)) 4 = 0 ∨ mk_joins g p q = 0 ∨ nI i = nI p ∨ nI i = nI q
    · rw [if_pos c2, if_pos (by rw [← e1, ← e2]; exact c2)]
    · rw [if_neg c2, if_neg (by rw [← e1, ← e2]; exact c2)]
      exact ag_rent hB hu hi hp hq (fun z => c2 (Or.inr (Or.inr (Or.inl (by rw [z]))))) (fun z => c2 (Or.inr (Or.inr (Or.inr (by rw [z]))))) (fun z => c2 (Or.inr (Or.inl z))) 8 (Nat.le_refl _)
/-- bestSlide -/
theorem ag_k1_nn {t : Nat → Nat → Int32} (ht : ∀ a b, t a b = 0 ∨ t a b = 1) (a : Nat) {c : Int32} {z : Nat} (hc : ∃ q : Nat, q ≤ z ∧ c = nI q) : ∀ b, ∃ q : Nat, q ≤ z + b ∧ ag_k1 t a c b = nI q := by
  intro b
  induction b with
  | zero => exact hc
  | succ b ih =>
    obtain ⟨q, h1, h2⟩ := ih
    rw [ag_k1, h2]
    rcases ht a b with e | e
    · exact ⟨q, by omega, by rw [e]; simp⟩
    · exact ⟨q + 1, by omega, by rw [e, nI_1]⟩
theorem ag_k_nn {t : Nat → Nat → Int32} (ht : ∀ a b, t a b = 0 ∨ t a b = 1) : ∀ a, a ≤ 6 → ∃ q : Nat, q ≤ 6 * a ∧ ag_k t a = nI q := by
  intro a
  induction a with
  | zero => intro _; exact ⟨0, by omega, rfl⟩
  | succ a ih =>
    intro ha
    obtain ⟨q, h1, h2⟩ := ag_k1_nn ht a (z := 6 * a) (ih (by omega)) a
    exact ⟨q, by omega, h2⟩
theorem ag_wks_nn (g : Nat → Int32) (n : Nat) (least : Int32) (hn : n ≤ 6) : ¬ hs_wks g n least n < 0 := by
  rw [ag_k_e]
  obtain ⟨q, h1, h2⟩ := ag_k_nn (t := ag_t g n least) (fun a b => by unfold ag_t; split <;> simp) n hn
  rw [h2]
  exact nI_pos (by omega)
def ag_sR (p q : Int32 × Int32) : Prop := (p = (hs_NONE, hs_NONE) ∧ q = (hs_NONE, -1)) ∨ (p = q ∧ ¬ q.2 < 0 ∧ ¬ q.1 = hs_NONE)
theorem ag_sl1 {g : Nat → Int32} {n nr s : Nat} (hB : ag_B g n nr) (hs : s < n) {p q : Int32 × Int32} (h : ag_sR p q) : ∀ k, k ≤ 8 → ag_sR (mk_sl1 g n s p.1 p.2 k) (hs_sl1 g n s q.1 q.2 k) := by
  have hn := hB.1.2.1
  intro k
  induction k with
  | zero => intro _; exact h
  | succ k ih =>
    intro hk
    have ih := ih (by omega)
    have hB2 := ag_B_20 (v := nI (k + 1)) hB hs (ag_lit (by omega) (by omega) (by omega))
    have hw : mk_w (va_up g (20 + s) (nI (k + 1))) n 1 n = hs_meet g n s k := ag_wks hB2 (only := 1) (Or.inr rfl)
    have hf : mk_std g (g (14 + s)) (nI (k + 1)) n = none ↔ hs_free g n s k = true := by
      unfold hs_free
      rw [ag_who_n hn]
      simp
    have hm : ¬ hs_meet g n s k < 0 := ag_wks_nn _ n 2 hn
    have hl := ag_lt_none hm
    have hN : ¬ (9 * nI s + nI (k + 1)) = hs_NONE := by
      rw [show (9 : Int32) * nI s + nI (k + 1) = nI (9 * s + (k + 1)) from hs_addI (hs_mulI (a := 9) rfl rfl) rfl]
      exact ag_nN (by omega)
    rw [mk_sl1, hs_sl1, hw]
    by_cases c : hs_free g n s k = true
    · rcases ih with ⟨a1, a2⟩ | ⟨a1, a2, a3⟩
      · rw [a1, a2, if_pos ⟨hf.mpr c, hl.1⟩, if_pos ⟨c, hl.2⟩]
        exact Or.inr ⟨rfl, hm, hN⟩
      · rw [a1]
        by_cases c2 : (hs_sl1 g n s q.1 q.2 k).2 < hs_meet g n s k
        · rw [if_pos ⟨hf.mpr c, c2⟩, if_pos ⟨c, c2⟩]
          exact Or.inr ⟨rfl, hm, hN⟩
        · rw [if_neg (fun z => c2 z.2), if_neg (fun z => c2 z.2)]
          exact Or.inr ⟨rfl, a2, a3⟩
    · rw [if_neg (fun z => c (hf.mp z.1)), if_neg (fun z => c z.1)]
      exact ih
theorem ag_sl {g : Nat → Int32} {n nr : Nat} (hB : ag_B g n nr) : ∀ s, s ≤ n → ag_sR (mk_sl g n s) (hs_sl g n s) := by
  intro s
  induction s with
  | zero => intro _; exact Or.inl ⟨rfl, rfl⟩
  | succ s ih =>
    intro hs
    rw [mk_sl, hs_sl]
    exact ag_sl1 hB (by omega) (ih (by omega)) 8 (Nat.le_refl _)
theorem ag_in01 {x : Int32} (h : ¬ hs_in x 0 1 = 0) : x = 0 ∨ x = 1 := by
  rcases Classical.em (x = 0) with q | q
  · exact Or.inl q
  · exact Or.inr (Classical.byContradiction (fun z => h (hs_in01 q z)))
theorem ag_best {g : Nat → Int32} {n nr : Nat} (hB : ag_B g n nr) (what : Int32) (h4 : g 4 = 0 ↔ g 2 = 0) : cq_best g n what = q_best g n what := by
  unfold cq_best q_best
  by_cases c : g 2 = 0
  · rw [if_pos c, if_pos (h4.mpr c)]
  · rw [if_neg c, if_neg (fun z => c (h4.mp z))]
    by_cases c2 : hs_in what 0 1 = 0
    · rw [if_pos c2, if_pos c2]
    · rw [if_neg c2, if_neg c2]
      rcases ag_sl hB n (Nat.le_refl n) with ⟨a1, a2⟩ | ⟨a1, a2, a3⟩
      · rw [a1, a2]
        simp
      · rw [a1]
        by_cases c3 : what = 0
        · rw [if_pos c3, if_pos (Or.inl c3)]
        · rw [if_neg c3, if_neg (fun z => z.elim c3 a3)]
theorem ag_walkways {g : Nat → Int32} {n nr : Nat} (hB : ag_B g n nr) (what : Int32) (h4 : g 4 = 0 ↔ g 2 = 0) : cq_walkways g n what = q_walkways g n what := by
  unfold cq_walkways q_walkways
  by_cases c : g 2 = 0
  · rw [if_pos c, if_pos (h4.mpr c)]
  · rw [if_neg c, if_neg (fun z => c (h4.mp z))]
    by_cases c2 : hs_in what 0 1 = 0
    · rw [if_pos c2, if_pos c2]
    · rw [if_neg c2, if_neg c2]
      rcases ag_in01 c2 with rfl | rfl
      · exact ag_wks hB (only := 0) (Or.inl rfl)
      · exact ag_wks hB (only := 1) (Or.inr rfl)
theorem ag_walkway {g : Nat → Int32} {n nr : Nat} (hB : ag_B g n nr) (a b : Int32) : cq_walkway g n a b = q_walkway g n a b := by
  have hn := hB.1.2.1
  unfold cq_walkway q_walkway
  by_cases c : hs_isSt g a = 0 ∨ hs_isSt g b = 0 ∨ a = b
  · rw [if_pos c, if_pos c]
  · rw [if_neg c, if_neg c]
    have hv := mk_ok_of hB.1 hB.2.1
    obtain ⟨p, hp, ea⟩ := hs_st_1 hv (fun z => c (Or.inl z))
    obtain ⟨q, hq, eb⟩ := hs_st_1 hv (fun z => c (Or.inr (Or.inl z)))
    subst ea eb
    rw [nI_clamp (by omega), nI_clamp (by omega), ag_walk hB hp hq]
/-- even -/
def ag_e1 (f : Nat → Int32) (sum : Nat) : Int32 → Nat → Int32
  | best, 0 => best
  | best, m + 1 => if 10 ≤ nI sum - nI m then best else ag_e1 f sum (if f m = 0 then best else nI m) m
theorem ag_10 : ∀ sum, sum < 19 → ∀ m, m < 10 → m ≤ sum → (10 ≤ nI sum - nI m ↔ m < sum - 9) := by decide +kernel
/-- the least m from lo on that meets, or none; as the class runs -/
theorem ag_ev1 {g : Nat → Int32} {n a b sum : Nat} (hsum : sum < 19) (hw : ∀ m, m ≤ 9 → m ≤ sum → sum - m ≤ 9 → (hs_walk (hs_evg g a b sum m) n a b = 2 ↔ ¬ mk_meets (hs_evg g a b sum m) n a b = 0)) : ∀ k, sum - 9 + k ≤ min 9 sum + 1 → ∀ best, hs_ev1 g n a b sum best (sum - 9 + k) = if mk_ev1 g n a b 1 sum (sum - 9) k = hs_NONE then best else 19 * nI sum + mk_ev1 g n a b 1 sum (sum - 9) k := by
  intro k
  induction k with
  | zero =>
    intro hk best
    have e : mk_ev1 g n a b 1 sum (sum - 9) 0 = hs_NONE := rfl
    rw [if_pos e]
    rcases Nat.eq_zero_or_pos (sum - 9) with z | z
    · rw [z]; rfl
    · obtain ⟨m, hm⟩ : ∃ m, sum - 9 + 0 = m + 1 := ⟨sum - 9 - 1, by omega⟩
      rw [hm, hs_ev1, if_pos ((ag_10 sum hsum m (by omega) (by omega)).mpr (by omega))]
  | succ k ih =>
    intro hk best
    have hn10 : ¬ 10 ≤ nI sum - nI (sum - 9 + k) := fun z => absurd ((ag_10 sum hsum (sum - 9 + k) (by omega) (by omega)).mp z) (by omega)
    rw [show sum - 9 + (k + 1) = (sum - 9 + k) + 1 by omega, hs_ev1, if_neg hn10, ih (by omega), mk_ev1]
    have hm := hw (sum - 9 + k) (by omega) (by omega) (by omega)
    by_cases c : mk_ev1 g n a b 1 sum (sum - 9) k = hs_NONE
    · rw [if_pos c, if_pos c]
      by_cases c2 : mk_meets (hs_evg g a b sum (sum - 9 + k)) n a b = 0
      · rw [if_neg (fun z => hm.mp z c2), if_pos c2, if_pos rfl]
      · have h10 : ¬ (1 : Int32) = 0 := by decide
        have hN : ¬ nI (sum - 9 + k) = hs_NONE := ag_nN (by omega)
        rw [if_pos (hm.mpr c2), if_neg c2, if_neg h10, if_neg hN]
    · rw [if_neg c, if_neg c, if_neg c]
theorem ag_ev1w {g : Nat → Int32} {n a b sum lo : Nat} (hs : sum < 2147483648) (hl : lo + 20 < 2147483648) : ∀ k, k ≤ 20 → (mk_ev1 g n a b 0 sum lo k = if mk_ev1 g n a b 1 sum lo k = hs_NONE then hs_NONE else nI sum) ∧ (mk_ev1 g n a b 1 sum lo k = hs_NONE ∨ ∃ m : Nat, m < lo + k ∧ lo ≤ m ∧ mk_ev1 g n a b 1 sum lo k = nI m) := by
  intro k
  induction k with
  | zero => intro _; exact ⟨rfl, Or.inl rfl⟩
  | succ k ih =>
    intro hk
    obtain ⟨h1, h2⟩ := ih (by omega)
    rw [mk_ev1, mk_ev1, h1]
    by_cases c : mk_ev1 g n a b 1 sum lo k = hs_NONE
    · rw [if_pos c, if_pos rfl, if_pos c]
      by_cases c2 : mk_meets (hs_evg g a b sum (lo + k)) n a b = 0
      · rw [if_pos c2, if_pos c2, if_pos rfl]
        exact ⟨rfl, Or.inl rfl⟩
      · have h10 : ¬ (1 : Int32) = 0 := by decide
        have hN : ¬ nI (lo + k) = hs_NONE := ag_nN (by omega)
        rw [if_neg c2, if_neg c2, if_pos rfl, if_neg h10, if_neg hN]
        exact ⟨rfl, Or.inr ⟨lo + k, by omega, by omega, rfl⟩⟩
    · rw [if_neg c, if_neg (ag_nN hs), if_neg c, if_neg c]
      refine ⟨rfl, ?_⟩
      rcases h2 with h2 | ⟨m, h3, h4, h5⟩
      · exact absurd h2 c
      · exact Or.inr ⟨m, by omega, h4, h5⟩
/-- what all sums below q give: none, or the least sum and the least number at a -/
theorem ag_evA {g : Nat → Int32} {n a b : Nat} (hw : ∀ sum, sum < 19 → ∀ m, m ≤ 9 → m ≤ sum → sum - m ≤ 9 → (hs_walk (hs_evg g a b sum m) n a b = 2 ↔ ¬ mk_meets (hs_evg g a b sum m) n a b = 0)) : ∀ q, q ≤ 19 → ∀ best, (mk_ev g n a b 0 q = hs_NONE ∧ mk_ev g n a b 1 q = hs_NONE ∧ hs_ev g n a b best q = best) ∨ (∃ s m : Nat, s < q ∧ m ≤ 9 ∧ mk_ev g n a b 0 q = nI s ∧ mk_ev g n a b 1 q = nI m ∧ hs_ev g n a b best q = nI (19 * s + m)) := by
  intro q
  induction q with
  | zero => intro _ best; exact Or.inl ⟨rfl, rfl, rfl⟩
  | succ q ih =>
    intro hq best
    have e9 : (hs_less (nI q) 9).toNatClampNeg + 1 = q - 9 + (min 9 q + 1 - (q - 9)) := by
      have : hs_less (nI q) 9 = nI (min 9 q) := by
        have := (mk_ev_a q (by omega)).1
        unfold hs_less
        exact this
      rw [this, nI_clamp (by omega)]
      omega
    rw [hs_ev, e9, ag_ev1 (by omega) (hw q (by omega)) _ (by omega), mk_ev, mk_ev]
    rcases ih (by omega) (if mk_ev1 g n a b 1 q (q - 9) (min 9 q + 1 - (q - 9)) = hs_NONE then best else 19 * nI q + mk_ev1 g n a b 1 q (q - 9) (min 9 q + 1 - (q - 9))) with ⟨a1, a2, a3⟩ | ⟨s, m, b1, b2, b3, b4, b5⟩
    · rw [if_pos a1, if_pos a2, a3]
      obtain ⟨h1, h2⟩ := ag_ev1w (g := g) (n := n) (a := a) (b := b) (sum := q) (lo := q - 9) (by omega) (by omega) (min 9 q + 1 - (q - 9)) (by omega)
      rw [h1]
      rcases h2 with h2 | ⟨m, h3, h4, h5⟩
      · rw [if_pos h2, if_pos h2]
        exact Or.inl ⟨rfl, h2, rfl⟩
      · rw [h5, if_neg (ag_nN (by omega)), if_neg (ag_nN (by omega))]
        refine Or.inr ⟨q, m, by omega, by omega, rfl, rfl, ?_⟩
        rw [← nI_add, ← pk_mul]
        rfl
    · rw [if_neg (by rw [b3]; exact ag_nN (by omega)), if_neg (by rw [b4]; exact ag_nN (by omega)), b5]
      exact Or.inr ⟨s, m, by omega, b2, b3, b4, rfl⟩
theorem ag_19 : ∀ s, s < 19 → ∀ m, m < 10 → nI (19 * s + m) / 19 = nI s ∧ nI (19 * s + m) - nI (19 * s + m) / 19 * 19 = nI m := by decide +kernel
theorem ag_even {g : Nat → Int32} {n nr : Nat} (hB : ag_B g n nr) (hg : ∀ i, i < n → ag_r (g (38 + i)) 0 9) (a b what : Int32) : cq_even g n a b what = q_even g n a b what := by
  have hn := hB.1.2.1
  unfold cq_even q_even
  by_cases c : hs_isSt g a = 0 ∨ hs_isSt g b = 0 ∨ a = b ∨ hs_in what 0 1 = 0
  · rw [if_pos c, if_pos c]
  · rw [if_neg c, if_neg c]
    have hv := mk_ok_of hB.1 hB.2.1
    obtain ⟨p, hp, ea⟩ := hs_st_1 hv (fun z => c (Or.inl z))
    obtain ⟨q, hq, eb⟩ := hs_st_1 hv (fun z => c (Or.inr (Or.inl z)))
    have hpq : p ≠ q := fun z => c (Or.inr (Or.inr (Or.inl (by rw [ea, eb, z]))))
    have hwh := ag_in01 (fun z => c (Or.inr (Or.inr (Or.inr z))))
    subst ea eb
    rw [nI_clamp (by omega), nI_clamp (by omega)]
    by_cases c2 : mk_joins g p q = 0
    · rw [if_pos c2, if_pos ((ag_joins0 hB hp hq).mp c2)]
    · rw [if_neg c2, if_neg (fun z => c2 ((ag_joins0 hB hp hq).mpr z))]
      have hw : ∀ sum, sum < 19 → ∀ m, m ≤ 9 → m ≤ sum → sum - m ≤ 9 → (hs_walk (hs_evg g p q sum m) n p q = 2 ↔ ¬ mk_meets (hs_evg g p q sum m) n p q = 0) := by
        intro sum hsum m hm hms hsm
        have b1 : ag_r (g (38 + p) + nI m) 0 100 := ag_w (ag_add (hg p hp) (ag_lit (n := m) (a := 0) (b := 9) (by omega) (by omega) (by omega)) (by omega) (by omega)) (by omega) (by omega)
        have b2 : ag_r (g (38 + q) + nI sum - nI m) 0 100 := by
          have e : g (38 + q) + nI sum - nI m = g (38 + q) + nI (sum - m) := by
            rw [← pk_sub hms, Int32.sub_eq_add_neg, Int32.sub_eq_add_neg, Int32.add_assoc]
          rw [e]
          exact ag_w (ag_add (hg q hq) (ag_lit (n := sum - m) (a := 0) (b := 9) (by omega) (by omega) (by omega)) (by omega) (by omega)) (by omega) (by omega)
        have hB2 : ag_B (hs_evg g p q sum m) n nr := by
          unfold hs_evg
          exact ag_B_38 (ag_B_38 hB hp b1) hq b2
        refine ag_walk2 hB2 hp hq ?_
        unfold hs_evg
        unfold mk_joins at c2 ⊢
        rw [va_up_ne _ _ (show 14 + p ≠ 38 + q by omega), va_up_ne _ _ (show 14 + p ≠ 38 + p by omega), va_up_ne _ _ (show 14 + q ≠ 38 + q by omega), va_up_ne _ _ (show 14 + q ≠ 38 + p by omega), va_up_ne _ _ (show 20 + p ≠ 38 + q by omega), va_up_ne _ _ (show 20 + p ≠ 38 + p by omega), va_up_ne _ _ (show 20 + q ≠ 38 + q by omega), va_up_ne _ _ (show 20 + q ≠ 38 + p by omega)]
        exact c2
      rcases ag_evA hw 19 (Nat.le_refl _) hs_NONE with ⟨a1, a2, a3⟩ | ⟨s, m, b1, b2, b3, b4, b5⟩
      · rw [a3, if_pos rfl]
        rcases hwh with rfl | rfl
        · exact a1
        · exact a2
      · obtain ⟨k1, k2⟩ := ag_19 s b1 m (by omega)
        rw [b5, if_neg (ag_nN (by omega)), k2, k1]
        rcases hwh with rfl | rfl
        · rw [if_pos rfl]; exact b3
        · rw [if_neg (by decide)]; exact b4
/-! rows: what is against an item -/
theorem ag_bars {M : Nat → Nat → Int32} {r : Nat} {x k : Int32} (hz : ∃ z : Nat, z ≤ 40 ∧ M 4 r = nI z) (hl : M 3 r = -1 ∨ 0 ≤ M 3 r) : hs_bars M r x k = if ¬ mk_mis (M 3 r) = 0 then 1 else if mk_has (M 4 r) x k = 0 then 2 else 0 := by
  obtain ⟨z, hz, e⟩ := hz
  have e0 : (0 : Int32).toInt = 0 := rfl
  unfold hs_bars mk_mis
  rw [hs_if10, Classical.not_not]
  rcases hl with hl | hl
  · rw [hl, if_pos (by decide), if_pos rfl]
  · rw [if_neg (Int32.not_lt.mpr hl), if_neg (by intro q; rw [q] at hl; exact absurd hl (by decide))]
    unfold mk_has
    rw [hs_if10, e]
    have key : (x < 0 ∨ k < 0 ∨ (nI z).toInt64 < x.toInt64 + k.toInt64) ↔ ¬ (0 ≤ x ∧ 0 ≤ k ∧ k ≤ nI z ∧ x ≤ nI z - k) := by
      by_cases c1 : x < 0
      · exact ⟨fun _ q => absurd q.1 (Int32.not_le.mpr c1), fun _ => Or.inl c1⟩
      by_cases c2 : k < 0
      · exact ⟨fun _ q => absurd q.2.1 (Int32.not_le.mpr c2), fun _ => Or.inr (Or.inl c2)⟩
      obtain ⟨i, hi, rfl⟩ := nI_of c1
      obtain ⟨j, hj, rfl⟩ := nI_of c2
      rw [Int64.lt_iff_toInt_lt, Int64.toInt_add, Int32.toInt_toInt64, Int32.toInt_toInt64, Int32.toInt_toInt64, nI_toInt (by omega), nI_toInt hi, nI_toInt hj, Int.bmod_eq_of_le (by omega) (by omega)]
      constructor
      · rintro (q | q | q) ⟨-, -, q3, q4⟩
        · exact c1 q
        · exact c2 q
        · rw [Int32.le_iff_toInt_le, nI_toInt hj, nI_toInt (by omega)] at q3
          rw [Int32.le_iff_toInt_le, nI_toInt hi, Int32.toInt_sub, nI_toInt hj, nI_toInt (by omega), Int.bmod_eq_of_le (by omega) (by omega)] at q4
          omega
      · intro q
        refine Or.inr (Or.inr ?_)
        by_cases c3 : (z : Int) < i + j
        · exact c3
        · exfalso
          apply q
          refine ⟨nI_pos' hi, nI_pos' hj, ?_, ?_⟩
          · rw [Int32.le_iff_toInt_le, nI_toInt hj, nI_toInt (by omega)]
            omega
          · rw [Int32.le_iff_toInt_le, nI_toInt hi, Int32.toInt_sub, nI_toInt hj, nI_toInt (by omega), Int.bmod_eq_of_le (by omega) (by omega)]
            omega
    by_cases c : x < 0 ∨ k < 0 ∨ (nI z).toInt64 < x.toInt64 + k.toInt64
    · rw [if_pos c, if_pos (key.mp c)]
    · rw [if_neg c, if_neg (fun q => c (key.mpr q))]
/-- each hangs as told -/
theorem ag_so (g : Nat → Int32) (n : Nat) (t : Nat → Int32) (base : Nat) : ∀ k, mk_so g n t base k = hs_so g n t base k := by
  intro k
  induction k with
  | zero => rfl
  | succ k ih =>
    rw [mk_so, hs_so, ih]
    by_cases c : hs_deep g n k = t (base + k)
    · rw [if_pos c, if_pos c.symm]
    · rw [if_neg c, if_neg (fun z => c z.symm)]
theorem ag_cuts0 (g : Nat → Int32) (n : Nat) (t : Nat → Int32) (base : Nat) : ∀ k, mk_cuts g n t base k = hs_cuts g n t base k := by
  intro k
  induction k with
  | zero => rfl
  | succ k ih =>
    rw [mk_cuts, hs_cuts, ih, ag_so]
    by_cases c : 1 < g (5 + k)
    · rw [if_pos c]
      by_cases c2 : hs_so (va_up g (5 + k) (g (5 + k) - 1)) n t base n = 0
      · rw [if_neg (fun z => z.2 c2), if_pos c2, hs_or0]
      · rw [if_pos ⟨c, c2⟩, if_neg c2]
    · rw [if_neg c, if_neg (fun z => c z.1)]
theorem ag_cuts {g : Nat → Int32} {n nr : Nat} (ht : mk_t g nr) (t : Nat → Int32) (base : Nat) : mk_cuts g n t base 3 = hs_cuts g n t base nr := by
  have h3 := ht.2.1
  have h : ∀ m, nr + m ≤ 3 → hs_cuts g n t base (nr + m) = hs_cuts g n t base nr := by
    intro m
    induction m with
    | zero => intro _; rfl
    | succ m ih =>
      intro hm
      rw [show nr + (m + 1) = (nr + m) + 1 by omega, hs_cuts, ih (by omega), if_neg]
      rw [ht.2.2.2 (nr + m) (by omega) (by omega)]
      decide
  rw [ag_cuts0, ← h (3 - nr) (by omega), show nr + (3 - nr) = 3 by omega]
theorem ag_21 : ∀ x, x < 21 → ∀ k, k < 21 → nI (21 * x + k) / 21 = nI x ∧ nI (21 * x + k) - nI (21 * x + k) / 21 * 21 = nI k := by decide +kernel
/-- reads: 21 by 21 -/
theorem ag_rdc {g : Nat → Int32} {n : Nat} {t : Nat → Int32} {base a b : Nat} : ∀ k, k ≤ 441 → ∃ c : Nat, c ≤ k ∧ hs_rdN g n t base a b k = nI c ∧ (hs_rdF g n t base a b k = hs_NONE ↔ c = 0) := by
  intro k
  induction k with
  | zero => intro _; exact ⟨0, by omega, rfl, ⟨fun _ => rfl, fun _ => rfl⟩⟩
  | succ k ih =>
    intro hk
    obtain ⟨c, h1, h2, h3⟩ := ih (by omega)
    rw [hs_rdN, hs_rdF, h2]
    by_cases q : hs_so (hs_rdg g a b k) n t base n = 0
    · rw [if_pos q, if_pos q]
      exact ⟨c, by omega, by simp, h3⟩
    · rw [if_neg q, if_neg q]
      refine ⟨c + 1, by omega, nI_1 c, ?_⟩
      by_cases z : c = 0
      · rw [z, if_pos rfl]
        exact ⟨fun y => absurd y (ag_nN (by omega)), fun y => absurd y (by omega)⟩
      · rw [if_neg (nI_ne0 (by omega) (by omega))]
        exact ⟨fun y => absurd (h3.mp y) z, fun y => absurd y (by omega)⟩
theorem ag_rN {g : Nat → Int32} {n : Nat} {t : Nat → Int32} {base a b x : Nat} (hx : x < 21) : ∀ k, k ≤ 21 → mk_rN g n t base a b x (hs_rdN g n t base a b (21 * x), hs_rdF g n t base a b (21 * x)) k = (hs_rdN g n t base a b (21 * x + k), hs_rdF g n t base a b (21 * x + k)) := by
  intro k
  induction k with
  | zero => intro _; rfl
  | succ k ih =>
    intro hk
    obtain ⟨e1, e2⟩ := ag_21 x hx k (by omega)
    have e3 : hs_rdg g a b (21 * x + k) = va_up (va_up g (26 + a) (nI x)) (26 + b) (nI k) := by
      unfold hs_rdg
      rw [e2, e1]
    obtain ⟨c, h1, h2, h3⟩ := ag_rdc (g := g) (n := n) (t := t) (base := base) (a := a) (b := b) (21 * x + k) (by omega)
    rw [mk_rN, ih (by omega), ag_so, show 21 * x + (k + 1) = (21 * x + k) + 1 by omega, hs_rdN, hs_rdF, e3]
    by_cases q : hs_so (va_up (va_up g (26 + a) (nI x)) (26 + b) (nI k)) n t base n = 0
    · rw [if_pos q, if_pos q, if_pos q]
      simp
    · rw [if_neg q, if_neg q, if_neg q]
      by_cases z : c = 0
      · rw [if_pos (h3.mpr z), h2, z, if_pos rfl]
        rw [show (21 : Int32) * nI x + nI k = nI (21 * x + k) by rw [← nI_add, ← pk_mul]; rfl]
      · rw [if_neg (fun y => z (h3.mp y)), h2, if_neg (nI_ne0 (by omega) (by omega))]
theorem ag_rr2 {g : Nat → Int32} {n : Nat} {t : Nat → Int32} {base a b : Nat} : ∀ x, x ≤ 21 → mk_rr2 g n t base a b x = (hs_rdN g n t base a b (21 * x), hs_rdF g n t base a b (21 * x)) := by
  intro x
  induction x with
  | zero => intro _; rfl
  | succ x ih =>
    intro hx
    rw [mk_rr2, ih (by omega), ag_rN (by omega) 21 (Nat.le_refl _), show 21 * (x + 1) = 21 * x + 21 by omega]
/-! the numbers that both sides keep -/
def ag_key (k : Nat) : Prop := k = 1 ∨ k = 3 ∨ k = 4 ∨ k = 5 ∨ k = 7 ∨ k = 8 ∨ k = 9 ∨ k = 10 ∨ k = 17 ∨ k = 18
def ag_E (C M : Nat → Nat → Int32) : Prop := ∀ k, ag_key k → C k = M k
theorem ag_E_up {C M : Nat → Nat → Int32} (h : ag_E C M) (k : Nat) (t : Nat → Int32) : ag_E (va_up C k t) (va_up M k t) := by
  intro j hj
  by_cases e : j = k
  · rw [e, va_up_self, va_up_self]
  · rw [va_up_ne _ _ e, va_up_ne _ _ e]; exact h j hj
theorem ag_E_L {C M : Nat → Nat → Int32} (h : ag_E C M) {k : Nat} (hk : ¬ ag_key k) (t : Nat → Int32) : ag_E (va_up C k t) M := by
  intro j hj
  rw [va_up_ne _ _ (fun e => hk (by rw [← e]; exact hj))]
  exact h j hj
theorem ag_E_R {C M : Nat → Nat → Int32} (h : ag_E C M) {k : Nat} (hk : ¬ ag_key k) (t : Nat → Int32) : ag_E C (va_up M k t) := by
  intro j hj
  rw [va_up_ne _ _ (fun e => hk (by rw [← e]; exact hj))]
  exact h j hj
theorem ag_E_w {C M : Nat → Nat → Int32} (h : ag_E C M) {k : Nat} (hk : ag_key k) (j : Nat) (v : Int32) : ag_E (mo_w C k j v) (mo_w M k j v) := by
  rw [mo_w, mo_w, h k hk]
  exact ag_E_up h k _
theorem ag_found {C M : Nat → Nat → Int32} (h : ag_E C M) (k : Int32) : (sp_found C k).1 = (sp_found M k).1 ∧ ag_E (sp_found C k).2 (sp_found M k).2 := ⟨rfl, ag_E_w h (by unfold ag_key; omega) 0 k⟩
theorem ag_well {C M : Nat → Nat → Int32} (h : ag_E C M) (r : Int32) : (sp_well C r).1 = (sp_well M r).1 ∧ ag_E (sp_well C r).2 (sp_well M r).2 := ⟨rfl, ag_E_w h (by unfold ag_key; omega) 0 0⟩
/-- two answers with the numbers behind them that agree -/
def ag_2 (p q : sp_S) : Prop := p.1 = q.1 ∧ ag_E p.2 q.2
theorem ag_2r {C M : Nat → Nat → Int32} (h : ag_E C M) (x : Int32) : ag_2 (x, C) (x, M) := ⟨rfl, h⟩
theorem ag_2f {C M : Nat → Nat → Int32} (h : ag_E C M) (k : Int32) : ag_2 (sp_found C k) (sp_found M k) := ag_found h k
theorem ag_2w {C M : Nat → Nat → Int32} (h : ag_E C M) (k : Int32) : ag_2 (sp_well C k) (sp_well M k) := ag_well h k
def ag_Z (M : Nat → Nat → Int32) : Prop := (∀ r, r < 8 → ∃ z : Nat, z ≤ 40 ∧ M 4 r = nI z) ∧ ∀ r, r < 8 → M 3 r = -1 ∨ 0 ≤ M 3 r
theorem ag_row {C M : Nat → Nat → Int32} (h : ag_E C M) (row lane n : Int32) : ag_2 (sp_row C row lane n) (sp_row M row lane n) := by
  unfold sp_row
  split
  · exact ag_2r h _
  split
  · exact ag_2f h _
  · refine ag_2w ?_ _
    rw [h 5 (by unfold ag_key; omega)]
    exact ag_E_up (ag_E_w (ag_E_w h (by unfold ag_key; omega) _ _) (by unfold ag_key; omega) _ _) _ _
theorem ag_3 {C M : Nat → Nat → Int32} (h : ag_E C M) : C 3 = M 3 := h 3 (by unfold ag_key; omega)
theorem ag_4 {C M : Nat → Nat → Int32} (h : ag_E C M) : C 4 = M 4 := h 4 (by unfold ag_key; omega)
theorem ag_5 {C M : Nat → Nat → Int32} (h : ag_E C M) : C 5 = M 5 := h 5 (by unfold ag_key; omega)
theorem ag_rowN {M : Nat → Nat → Int32} {row : Int32} (hZ : ag_Z M) (h : ¬ hs_row row = 0) : (∃ z : Nat, z ≤ 40 ∧ M 4 row.toNatClampNeg = nI z) ∧ (M 3 row.toNatClampNeg = -1 ∨ 0 ≤ M 3 row.toNatClampNeg) := by
  obtain ⟨r, hr, e⟩ := hs_row_1 h
  rw [e, nI_clamp (by omega)]
  exact ⟨hZ.1 r hr, hZ.2 r hr⟩
theorem ag_mis {M : Nat → Nat → Int32} {r : Nat} (h : M 3 r = -1 ∨ 0 ≤ M 3 r) : M 3 r < 0 ↔ ¬ mk_mis (M 3 r) = 0 := by
  unfold mk_mis
  rw [hs_if10, Classical.not_not]
  rcases h with h | h
  · rw [h]; exact ⟨fun _ => rfl, fun _ => by decide⟩
  · exact ⟨fun z => absurd z (Int32.not_lt.mpr h), fun z => by rw [z] at h; exact absurd h (by decide)⟩
theorem ag_set {C M : Nat → Nat → Int32} (h : ag_E C M) (hZ : ag_Z M) (row x v : Int32) : ag_2 (cs_set C row x v) (sp_set M row x v) := by
  unfold cs_set sp_set
  rw [ag_3 h, ag_4 h]
  by_cases c : hs_row row = 0
  · rw [if_pos c, if_pos c]; exact ag_2r h _
  · rw [if_neg c, if_neg c]
    obtain ⟨h1, h2⟩ := ag_rowN hZ c
    rw [ag_bars h1 h2]
    by_cases c2 : mk_mis (M 3 row.toNatClampNeg) = 0
    · rw [if_neg (fun z => z c2), if_neg (fun z => z c2)]
      by_cases c3 : mk_has (M 4 row.toNatClampNeg) x 1 = 0
      · rw [if_pos c3, if_pos c3, if_pos (by decide)]; exact ag_2f h _
      · rw [if_neg c3, if_neg c3, if_neg (by decide)]
        exact ag_2w (ag_E_w h (by unfold ag_key; omega) _ _) _
    · rw [if_pos c2, if_pos c2, if_pos (by decide)]; exact ag_2f h _
theorem ag_drop {C M : Nat → Nat → Int32} (h : ag_E C M) (hZ : ag_Z M) (row : Int32) : ag_2 (cs_drop C row) (sp_drop M row) := by
  unfold cs_drop sp_drop
  rw [ag_3 h, ag_4 h]
  by_cases c : hs_row row = 0
  · rw [if_pos c, if_pos c]; exact ag_2r h _
  · rw [if_neg c, if_neg c]
    obtain ⟨h1, h2⟩ := ag_rowN hZ c
    by_cases c2 : mk_mis (M 3 row.toNatClampNeg) = 0
    · rw [if_neg (fun z => z c2), if_neg (fun z => (ag_mis h2).mp z c2)]
      exact ag_2w (ag_E_w h (by unfold ag_key; omega) _ _) _
    · rw [if_pos c2, if_pos ((ag_mis h2).mpr c2)]; exact ag_2f h _
theorem ag_cp {t h : Nat → Int32} {src dst k : Nat} : cs_cp t src dst k = hs_lay t (hs_get h t src k) dst k := by
  funext j
  unfold cs_cp hs_lay hs_get
  by_cases c : dst ≤ j ∧ j < dst + k
  · rw [if_pos c, if_pos c, if_pos (by omega)]
  · rw [if_neg c, if_neg c]
theorem ag_copy {C M : Nat → Nat → Int32} (h : ag_E C M) (hZ : ag_Z M) (a x b y n : Int32) : ag_2 (cs_copy C a x b y n) (sp_copy M a x b y n) := by
  unfold cs_copy sp_copy
  rw [ag_3 h, ag_4 h, ag_5 h]
  by_cases c : hs_row a = 0 ∨ hs_row b = 0
  · rw [if_pos c, if_pos c]; exact ag_2r h _
  · rw [if_neg c, if_neg c]
    obtain ⟨h1, h2⟩ := ag_rowN (row := a) hZ (fun z => c (Or.inl z))
    obtain ⟨h3, h4⟩ := ag_rowN (row := b) hZ (fun z => c (Or.inr z))
    rw [ag_bars h1 h2, ag_bars h3 h4]
    by_cases c2 : ¬ mk_mis (M 3 a.toNatClampNeg) = 0 ∨ ¬ mk_mis (M 3 b.toNatClampNeg) = 0
    · rw [if_pos c2, if_pos (c2.imp (ag_mis h2).mpr (ag_mis h4).mpr)]; exact ag_2f h _
    · rw [if_neg c2, if_neg (fun z => c2 (z.imp (ag_mis h2).mp (ag_mis h4).mp))]
      by_cases c3 : ¬ M 3 a.toNatClampNeg = M 3 b.toNatClampNeg
      · rw [if_pos c3, if_pos c3]; exact ag_2f h _
      · rw [if_neg c3, if_neg c3, if_neg (fun z => c2 (Or.inl z)), if_neg (fun z => c2 (Or.inr z))]
        by_cases c4 : mk_has (M 4 a.toNatClampNeg) x n = 0
        · rw [if_pos (Or.inl c4), if_pos c4, if_pos (Or.inl (by decide))]; exact ag_2f h _
        · rw [if_neg c4]
          by_cases c5 : mk_has (M 4 b.toNatClampNeg) y n = 0
          · rw [if_pos (Or.inr c5), if_pos c5, if_pos (Or.inr (by decide))]; exact ag_2f h _
          · rw [if_neg (fun z => z.elim c4 c5), if_neg c5, if_neg (fun z => z.elim (by decide) (by decide))]
            refine ag_2w ?_ _
            rw [ag_cp (h := M 6)]
            exact ag_E_up (ag_E_R h (by unfold ag_key; omega) _) _ _
theorem ag_feed {C M : Nat → Nat → Int32} (h : ag_E C M) {t : Nat} (ht : M 9 0 = nI t) (ht1 : t ≤ 100) (b : Int32) : ag_2 (cs_feed C b) (sp_feed M b) := by
  unfold cs_feed sp_feed
  rw [h 9 (by unfold ag_key; omega)]
  by_cases c : hs_in b 0 255 = 0
  · rw [if_pos c, if_pos c]; exact ag_2r h _
  · rw [if_neg c, if_neg c]
    by_cases c2 : t = 100
    · rw [if_neg (by rw [ht, c2]; decide), if_pos (by rw [ht, c2]; rfl)]
      exact ag_2r h _
    · rw [if_pos (by rw [ht]; exact nI_lt (b := 100) (by omega) (by omega)), if_neg (by rw [ht]; exact fun z => c2 ((nI_eq (b := 100) (by omega) (by omega)).mp z))]
      exact ⟨rfl, ag_E_w (ag_E_w h (by unfold ag_key; omega) _ _) (by unfold ag_key; omega) _ _⟩
theorem ag_many {C M : Nat → Nat → Int32} (h : ag_E C M) (hZ : ag_Z M) : ∀ k, k ≤ 8 → cs_many C k = hs_many M k := by
  intro k
  induction k with
  | zero => intro _; rfl
  | succ k ih =>
    intro hk
    have h2 := ag_mis (M := M) (r := k) (hZ.2 k (by omega))
    rw [cs_many, hs_many, ih (by omega), ag_3 h]
    by_cases c : mk_mis (M 3 k) = 0
    · rw [if_pos c, if_neg (fun z => h2.mp z c)]
    · rw [if_neg c, if_pos (h2.mpr c)]
      simp
theorem ag_count {C M : Nat → Nat → Int32} (h : ag_E C M) (hZ : ag_Z M) (what : Int32) : cs_count C (M 0) what = q_count M what := by
  unfold cs_count q_count
  rw [ag_many h hZ 8 (Nat.le_refl _), h 1 (by unfold ag_key; omega), h 9 (by unfold ag_key; omega)]
theorem ag_trace {C M : Nat → Nat → Int32} (h : ag_E C M) (hT : hs_tr M) (x : Int32) : cs_trace C x = q_trace M x := by
  obtain ⟨t, h1, h2⟩ := hT
  unfold cs_trace q_trace
  rw [h 17 (by unfold ag_key; omega), h 18 (by unfold ag_key; omega), h2]
  by_cases c : hs_in x 0 (nI t - 1) = 0
  · rw [if_pos c]
    rw [if_pos]
    apply Classical.byContradiction
    intro z
    have z1 : ¬ x < 0 := fun q => z (Or.inl q)
    have z2 : ¬ nI t ≤ x := fun q => z (Or.inr (Or.inl q))
    obtain ⟨j, hj, rfl⟩ := nI_of z1
    have hjt : j < t := by
      rcases Nat.lt_or_ge j t with q | q
      · exact q
      · exact absurd (nI_le (a := t) (b := j) q hj) z2
    apply hs_in_0 c
    refine ⟨nI_pos' hj, ?_⟩
    obtain ⟨m, rfl⟩ : ∃ m, t = m + 1 := ⟨t - 1, by omega⟩
    rw [nI_pred]
    exact nI_le (by omega) (by omega)
  · obtain ⟨j, hj, rfl⟩ := hs_in_jm (by omega) c
    rw [if_neg c, if_neg]
    rintro (q | q | q)
    · exact nI_pos (n := j) (by omega) q
    · exact nI_ge hj (by omega) q
    · exact nI_ge (a := j) (b := 16) (by omega) (by omega) q
theorem ag_whoCut {C M : Nat → Nat → Int32} (h : ag_E C M) (hZ : ag_Z M) {n nr : Nat} (ht : mk_t (M 0) nr) (h4 : M 0 4 = 0 ↔ M 0 2 = 0) (row x : Int32) : ag_2 (cs_whoCut C (M 0) n row x) (sp_whoCut M n nr row x) := by
  unfold cs_whoCut sp_whoCut
  rw [ag_3 h, ag_4 h, ag_5 h]
  by_cases c0 : M 0 2 = 0
  · rw [if_pos c0, if_pos (h4.mpr c0)]; exact ag_2r h _
  rw [if_neg c0, if_neg (fun z => c0 (h4.mp z))]
  by_cases c : hs_row row = 0
  · rw [if_pos c, if_pos c]; exact ag_2r h _
  rw [if_neg c, if_neg c]
  obtain ⟨h1, h2⟩ := ag_rowN hZ c
  rw [ag_bars h1 h2]
  by_cases c2 : mk_mis (M 3 row.toNatClampNeg) = 0
  · rw [if_neg (fun z => z c2), if_neg (fun z => z c2)]
    by_cases c3 : mk_has (M 4 row.toNatClampNeg) x (M 0 3) = 0
    · rw [if_pos c3, if_pos c3, if_pos (by decide)]; exact ag_2f h _
    · rw [if_neg c3, if_neg c3, if_neg (by decide), ag_cuts ht]
      exact ag_2w h _
  · rw [if_pos c2, if_pos c2, if_pos (by decide)]; exact ag_2f h _
theorem ag_reads {C M : Nat → Nat → Int32} (h : ag_E C M) (hZ : ag_Z M) {n : Nat} (a b row x what : Int32) : ag_2 (cs_reads C (M 0) n a b row x what) (sp_reads M n a b row x what) := by
  unfold cs_reads sp_reads
  rw [ag_3 h, ag_4 h, ag_5 h]
  by_cases c : hs_isSt (M 0) a = 0 ∨ hs_isSt (M 0) b = 0 ∨ a = b ∨ hs_row row = 0 ∨ hs_in what 0 1 = 0
  · rw [if_pos c, if_pos c]; exact ag_2r h _
  rw [if_neg c, if_neg c]
  obtain ⟨h1, h2⟩ := ag_rowN (row := row) hZ (fun z => c (Or.inr (Or.inr (Or.inr (Or.inl z)))))
  rw [ag_bars h1 h2]
  by_cases c2 : mk_mis (M 3 row.toNatClampNeg) = 0
  · rw [if_neg (fun z => z c2), if_neg (fun z => z c2)]
    by_cases c3 : mk_has (M 4 row.toNatClampNeg) x (M 0 3) = 0
    · rw [if_pos c3, if_pos c3, if_pos (by decide)]; exact ag_2f h _
    · rw [if_neg c3, if_neg c3, if_neg (by decide), ag_rr2 21 (Nat.le_refl _)]
      exact ag_2w h _
  · rw [if_pos c2, if_pos c2, if_pos (by decide)]; exact ag_2f h _
theorem ag_as {C M : Nat → Nat → Int32} (h : ag_E C M) (one kind : Int32) : ag_2 (cs_as C (M 0) one kind) (sp_as M one kind) := by
  unfold cs_as sp_as
  split
  · exact ag_2r h _
  split
  · exact ag_2f h _
  · exact ag_2w h _
/-- asked -/
theorem ag_leave {C M : Nat → Nat → Int32} (h : ag_E C M) (b : Int32) : ag_E (sp_leave C b) (sp_leave M b) := by
  unfold sp_leave
  rw [h 18 (by unfold ag_key; omega)]
  split
  · exact ag_E_w (ag_E_w h (by unfold ag_key; omega) _ _) (by unfold ag_key; omega) _ _
  · exact h
theorem ag_ask {C M : Nat → Nat → Int32} (h : ag_E C M) {n nr : Nat} (hs : mk_sr (M 0) n) (ht : mk_t (M 0) nr) (one what : Int32) : ag_2 (cs_ask C (M 0) one what) (sp_ask M one what) := by
  unfold cs_ask sp_ask
  by_cases c : hs_isSt (M 0) one = 0 ∨ hs_in what 0 1 = 0
  · rw [if_pos c, if_pos c]; exact ag_2r h _
  rw [if_neg c, if_neg c]
  obtain ⟨i, hi, e⟩ := hs_st_1 (mk_ok_of hs ht) (fun z => c (Or.inl z))
  have h6 := hs.2.1
  rw [e, nI_clamp (by omega)]
  have h0 : ag_E (mo_w C 18 0 0) (mo_w M 18 0 0) := ag_E_w h (by unfold ag_key; omega) _ _
  have e0 : mo_w M 18 0 0 0 = M 0 := va_up_ne _ _ (by decide)
  generalize mo_w C 18 0 0 = C1 at h0 ⊢
  generalize mo_w M 18 0 0 = M1 at h0 e0 ⊢
  have hk := hs.2.2.1 i hi
  rw [← e0] at hk ⊢
  have hl := fun b => sp_leave_0 M1 b
  by_cases c2 : what = 0
  · rw [if_pos c2, if_pos c2]
    rcases hk with hk | hk | hk | hk | hk
    · refine ⟨?_, ?_⟩
      · simp [ms_sr, ms_mr, sp_size, sp_tsize, sp_markT, sp_tmark, hk]
      · simp only [ms_sc, ms_mc, sp_size, sp_tsize, sp_markT, sp_tmark, hk, sp_leave_0]
        simp
        exact ag_leave (ag_leave (ag_leave (ag_leave h0 _) _) _) _
    · refine ⟨?_, ?_⟩
      · simp [ms_sr, ms_mr, sp_size, sp_tsize, sp_markT, sp_tmark, hk]
      · simp only [ms_sc, ms_mc, sp_size, sp_tsize, sp_markT, sp_tmark, hk, sp_leave_0]
        simp
        exact ag_leave (ag_leave (ag_leave (ag_leave (ag_leave (ag_leave h0 _) _) _) _) _) _
    · refine ⟨?_, ?_⟩
      · simp [ms_sr, ms_mr, sp_size, sp_tsize, sp_markT, sp_tmark, hk]
      · simp only [ms_sc, ms_mc, sp_size, sp_tsize, sp_markT, sp_tmark, hk, sp_leave_0]
        simp
        exact ag_leave (ag_leave (ag_leave (ag_leave (ag_leave h0 _) _) _) _) _
    · refine ⟨?_, ?_⟩
      · simp [ms_sr, ms_ns, sp_size, sp_nsize, hk]
      · simp only [ms_sc, ms_nc, sp_size, sp_nsize, hk]
        simp
        exact ag_leave (ag_leave h0 _) _
    · refine ⟨?_, ?_⟩
      · simp [ms_sr, ms_ns, sp_size, sp_nsize, hk]
      · simp only [ms_sc, ms_nc, sp_size, sp_nsize, hk]
        simp
        exact ag_leave (ag_leave (ag_leave h0 _) _) _
  · rw [if_neg c2, if_neg c2]
    rcases hk with hk | hk | hk | hk | hk
    · refine ⟨?_, ?_⟩
      · simp [ms_kr, ms_mr, sp_mark, sp_markT, sp_tmark, hk]
      · simp [ms_kc, ms_mc, sp_mark, sp_markT, sp_tmark, hk]
        exact ag_leave (ag_leave h0 _) _
    · refine ⟨?_, ?_⟩
      · simp [ms_kr, ms_mr, sp_mark, sp_markT, sp_tmark, hk]
      · simp [ms_kc, ms_mc, sp_mark, sp_markT, sp_tmark, hk]
        exact ag_leave (ag_leave (ag_leave h0 _) _) _
    · refine ⟨?_, ?_⟩
      · simp [ms_kr, ms_mr, sp_mark, sp_markT, sp_tmark, hk]
      · simp [ms_kc, ms_mc, sp_mark, sp_markT, sp_tmark, hk]
        exact ag_leave (ag_leave (ag_leave h0 _) _) _
    · refine ⟨?_, ?_⟩
      · simp [ms_kr, ms_ns, sp_mark, sp_size, sp_nsize, hk]
      · simp [ms_kc, ms_nc, sp_mark, sp_size, sp_nsize, hk, sp_leave_0]
        exact ag_leave (ag_leave (ag_leave (ag_leave h0 _) _) _) _
    · refine ⟨?_, ?_⟩
      · simp [ms_kr, ms_ns, sp_mark, sp_size, sp_nsize, hk]
      · simp [ms_kc, ms_nc, sp_mark, sp_size, sp_nsize, hk, sp_leave_0]
        exact ag_leave (ag_leave (ag_leave (ag_leave (ag_leave h0 _) _) _) _) _
theorem ag_stall {g : Nat → Int32} {n nr : Nat} (hB : ag_B g n nr) (s what : Int32) : cq_stall g n s what = q_stall g n s what := by
  have hn := hB.1.2.1
  unfold cq_stall q_stall
  by_cases c : hs_isSt g s = 0
  · rw [if_pos c, if_pos (Or.inl c)]
  rw [if_neg c]
  obtain ⟨i, hi, e⟩ := hs_st_1 (mk_ok_of hB.1 hB.2.1) c
  have ho := hB.1.2.2.2 i hi
  subst e
  rw [nI_clamp (by omega)]
  by_cases c2 : hs_in what 0 8 = 0
  · rw [if_pos (Or.inr c2)]
    have hne : ∀ k : Nat, k ≤ 8 → ¬ what = nI k := by
      intro k hk z
      subst z
      apply hs_in_0 c2
      exact ⟨nI_pos' (by omega), nI_le (b := 8) hk (by omega)⟩
    rw [if_neg (hne 0 (by omega)), if_neg (hne 1 (by omega)), if_neg (hne 2 (by omega)), if_neg (hne 3 (by omega)), if_neg (hne 4 (by omega)), if_neg (hne 5 (by omega)), if_neg (hne 6 (by omega)), if_neg (hne 7 (by omega)), if_neg (hne 8 (by omega))]
  · rw [if_neg (fun z => z.elim c c2)]
    obtain ⟨k, hk, ek⟩ := hs_in_j (n := 8) rfl (by omega) c2
    subst ek
    rcases (show k = 0 ∨ k = 1 ∨ k = 2 ∨ k = 3 ∨ k = 4 ∨ k = 5 ∨ k = 6 ∨ k = 7 ∨ k = 8 by omega) with rfl | rfl | rfl | rfl | rfl | rfl | rfl | rfl | rfl
    · rfl
    · rfl
    · rfl
    · rfl
    · rfl
    · show (if g (44 + i) = 0 then (0 : Int32) else 1) = g (44 + i)
      rcases ho with ho | ho
      · rw [ho, if_pos rfl]
      · rw [ho, if_neg (by decide)]
    · rfl
    · rfl
    · rfl
theorem ag_rope {g : Nat → Int32} {n : Nat} (hn : n ≤ 6) (hu : ag_U g n) (rope place what : Int32) : cq_rope g n rope place what = q_rope g n rope place what := by
  unfold cq_rope q_rope
  rw [ag_std hn hu]
  by_cases c : hs_isRo g rope = 0 ∨ hs_in place 1 8 = 0
  · rw [if_pos c, if_pos (by rcases c with c | c; exact Or.inl c; exact Or.inr (Or.inl c))]
  rw [if_neg c]
  by_cases c2 : hs_in what 0 3 = 0
  · rw [if_pos (Or.inr (Or.inr c2))]
    have hne : ∀ k : Nat, k ≤ 3 → ¬ what = nI k := by
      intro k hk z
      subst z
      apply hs_in_0 c2
      exact ⟨nI_pos' (by omega), nI_le (b := 3) hk (by omega)⟩
    rw [if_neg (hne 0 (by omega)), if_neg (hne 1 (by omega)), if_neg (hne 2 (by omega)), if_neg (hne 3 (by omega))]
  · rw [if_neg (by rintro (z | z | z); exact c (Or.inl z); exact c (Or.inr z); exact c2 z)]
    obtain ⟨k, hk, ek⟩ := hs_in_j (n := 3) rfl (by omega) c2
    subst ek
    rcases (show k = 0 ∨ k = 1 ∨ k = 2 ∨ k = 3 by omega) with rfl | rfl | rfl | rfl <;> rfl
theorem ag_drops {g : Nat → Int32} {n : Nat} (h4 : g 4 = 0 ↔ g 2 = 0) : cq_drops g n = q_drops g n := by
  unfold cq_drops q_drops
  by_cases c : g 2 = 0
  · rw [if_pos c, if_pos (h4.mpr c)]
  · rw [if_neg c, if_neg (fun z => c (h4.mp z))]
/-! A MARKET THAT MAY STAND: what holds of it; only its fifty numbers matter -/
def ag_V (g : Nat → Int32) (n nr : Nat) : Prop := ag_B g n nr ∧ ag_U g n ∧ ag_r (g 1) 0 99 ∧ ∀ i, i < n → ag_r (g (38 + i)) 0 9
theorem mk_sr_c {g h : Nat → Int32} {n : Nat} (e : ∀ j, j < 50 → g j = h j) (k : mk_sr g n) : mk_sr h n := by
  obtain ⟨h1, h2, h3, h4⟩ := k
  refine ⟨?_, h2, fun i hi => ?_, fun i hi => ?_⟩
  · rw [← e 3 (by omega)]; exact h1
  · rw [← e (8 + i) (by omega)]; exact h3 i hi
  · rw [← e (44 + i) (by omega)]; exact h4 i hi
theorem mk_t_c {g h : Nat → Int32} {nr : Nat} (e : ∀ j, j < 50 → g j = h j) (k : mk_t g nr) : mk_t h nr := by
  obtain ⟨h1, h2, h3, h4⟩ := k
  refine ⟨?_, h2, fun r hr => ?_, fun r hr hr3 => ?_⟩
  · rw [← e 2 (by omega)]; exact h1
  · rw [← e (5 + r) (by omega)]; exact h3 r hr
  · rw [← e (5 + r) (by omega)]; exact h4 r hr hr3
theorem ag_V_c {g h : Nat → Int32} {n nr : Nat} (e : ∀ j, j < 50 → g j = h j) (k : ag_V g n nr) : ag_V h n nr := by
  obtain ⟨⟨h1, h2, h3, h4⟩, h5, h6, h7⟩ := k
  have hn := h1.2.1
  refine ⟨⟨mk_sr_c e h1, mk_t_c e h2, by rw [← e 1 (by omega)]; exact h3, fun i hi => ?_⟩, fun i j hi hj => ?_, by rw [← e 1 (by omega)]; exact h6, fun i hi => ?_⟩
  · rw [← e (14 + i) (by omega), ← e (20 + i) (by omega), ← e (26 + i) (by omega), ← e (32 + i) (by omega), ← e (38 + i) (by omega)]
    exact h4 i hi
  · rw [← e (14 + i) (by omega), ← e (20 + i) (by omega), ← e (14 + j) (by omega), ← e (20 + j) (by omega)]
    exact h5 i j hi hj
  · rw [← e (38 + i) (by omega)]
    exact h7 i hi
theorem mk_e_c {D : va_G} {ad : Nat → Nat} {n : Nat} {g h : Nat → Int32} (hn : n ≤ 6) (e : ∀ j, j < 50 → g j = h j) : mk_fs ad g = mk_fs ad h ∧ ∀ k, k < n + 2 → mk_e D ad n g k = mk_e D ad n h k := by
  refine ⟨?_, fun k hk => ?_⟩
  · simp only [mk_fs]
    rw [e 0 (by omega), e 1 (by omega), e 2 (by omega), e 3 (by omega)]
  · match k with
    | 0 =>
      show Sum.inl _ = Sum.inl _
      have : mk_ta g = mk_ta h := by
        funext j
        simp only [mk_ta]
        by_cases c : j < 3
        · rw [if_pos c, if_pos c, e _ (by omega)]
        · rw [if_neg c, if_neg c]
      rw [this]
    | 1 => rfl
    | i + 2 =>
      show Sum.inr (mk_kc _, mk_st g i) = Sum.inr (mk_kc _, mk_st h i)
      simp only [mk_st]
      rw [e (8 + i) (by omega), e (14 + i) (by omega), e (20 + i) (by omega), e (26 + i) (by omega), e (32 + i) (by omega), e (38 + i) (by omega), e (44 + i) (by omega)]
theorem mk_H_c {D : va_G} {F : Nat → va_E} {mk : Nat} {ad : Nat → Nat} {n : Nat} {g h : Nat → Int32} (hn : n ≤ 6) (e : ∀ j, j < 50 → g j = h j) (k : mk_H D F mk ad n g) : mk_H D F mk ad n h := by
  obtain ⟨e1, e2⟩ := mk_e_c (D := D) (ad := ad) hn e
  exact ⟨by rw [← e1]; exact k.1, fun j hj => by rw [← e2 j hj]; exact k.2 j hj⟩
/-- what an act does to one number depends on that number alone -/
theorem ag_pm_c {g h : Nat → Int32} {n j : Nat} {w o v : Int32} (e : g j = h j) : mk_pm g n w o v j = mk_pm h n w o v j := by
  have u : ∀ (k : Nat) (x : Int32), va_up g k x j = va_up h k x j := by
    intro k x
    by_cases c : j = k
    · rw [c, va_up_self, va_up_self]
    · rw [va_up_ne _ _ c, va_up_ne _ _ c, e]
  unfold mk_pm mk_pt
  repeat' split
  all_goals first | exact u _ _ | exact e
/-- THE ACTS: T i the numbers ahead of act i, T a those that stand -/
def ag_G (T : Nat → Nat → Int32) (A B K : Nat → Int32) (n nr a : Nat) : Prop := ∀ i, i < a → ag_V (T i) n nr ∧ T i 4 = 1 ∧ ∀ j, j < 50 → mk_pm (T (i + 1)) n (A i) (B i) (K i) j = T i j
def ag_T (M : Nat → Nat → Int32) (a : Nat) : Nat → Nat → Int32 := fun i j => if i < a then M 0 (200 + 50 * i + j) else M 0 j
theorem ag_G_c {T U : Nat → Nat → Int32} {A B K A' B' K' : Nat → Int32} {n nr a : Nat} (hT : ∀ i, i ≤ a → ∀ j, j < 50 → T i j = U i j) (hA : ∀ i, i < a → A i = A' i ∧ B i = B' i ∧ K i = K' i) (h : ag_G T A B K n nr a) : ag_G U A' B' K' n nr a := by
  intro i hi
  obtain ⟨h1, h2, h3⟩ := h i hi
  obtain ⟨e1, e2, e3⟩ := hA i hi
  refine ⟨ag_V_c (hT i (by omega)) h1, by rw [← hT i (by omega) 4 (by omega)]; exact h2, fun j hj => ?_⟩
  rw [← e1, ← e2, ← e3, ← hT i (by omega) j hj, ← h3 j hj]
  exact (ag_pm_c (hT (i + 1) (by omega) j hj)).symm
theorem ag_G_push {T : Nat → Nat → Int32} {A B K : Nat → Int32} {n nr a : Nat} (h : ag_G T A B K n nr a) (hV : ag_V (T a) n nr) (h4 : T a 4 = 1) (hp : ∀ j, j < 50 → mk_pm (T (a + 1)) n (A a) (B a) (K a) j = T a j) : ag_G T A B K n nr (a + 1) := by
  intro i hi
  by_cases e : i = a
  · subst e; exact ⟨hV, h4, hp⟩
  · exact h i (by omega)
theorem ag_G_drop {T : Nat → Nat → Int32} {A B K : Nat → Int32} {n nr a : Nat} (h : ag_G T A B K n nr (a + 1)) : ag_G (fun i => T (i + 1)) (fun i => A (i + 1)) (fun i => B (i + 1)) (fun i => K (i + 1)) n nr a := fun i hi => h (i + 1) (by omega)
theorem ag_G_less {T : Nat → Nat → Int32} {A B K : Nat → Int32} {n nr a b : Nat} (hb : b ≤ a) (h : ag_G T A B K n nr a) : ag_G T A B K n nr b := fun i hi => h i (by omega)
/-- an act more, as both sides lay it down -/
theorem ag_act {C M : Nat → Nat → Int32} {n nr a κ : Nat} {what one v : Int32} (ha : a ≤ 24) (hκ : κ < 50) (h4 : M 0 4 = 1) (hV : ag_V (M 0) n nr) (hG : ag_G (ag_T M a) (C 21) (C 22) (C 23) n nr a) (hp : ∀ (g : Nat → Int32) (x : Int32), (x = M 0 κ) → ∀ j, j < 50 → (j ≠ κ → g j = M 0 j) → mk_pm g n what one x j = M 0 j) :
    ag_G (ag_T (mo_w (sp_minds M a) 0 κ v) (hs_pa a)) (cs_log C a what one (M 0 κ) 21) (cs_log C a what one (M 0 κ) 22) (cs_log C a what one (M 0 κ) 23) n nr (hs_pa a) := by
  have e0 : mo_w (sp_minds M a) 0 κ v 0 = va_up (hs_push (M 0) a) κ v := by
    rw [mo_w, va_up_self]
    rfl
  by_cases h : a = 24
  · subst h
    have hpa : hs_pa 24 = 24 := rfl
    have l1 : cs_log C 24 what one (M 0 κ) = cs_log1 (cs_forget C) 23 what one (M 0 κ) := if_neg (by omega)
    have eA : cs_log1 (cs_forget C) 23 what one (M 0 κ) 21 = va_up (va_cpy (C 21) (C 21) 1 0 23) 23 what := rfl
    have eB : cs_log1 (cs_forget C) 23 what one (M 0 κ) 22 = va_up (va_cpy (C 22) (C 22) 1 0 23) 23 one := rfl
    have eK : cs_log1 (cs_forget C) 23 what one (M 0 κ) 23 = va_up (va_cpy (C 23) (C 23) 1 0 23) 23 (M 0 κ) := rfl
    rw [hpa, l1, eA, eB, eK]
    have hM : ∀ j, 200 ≤ j → va_up (hs_push (M 0) 24) κ v j = if j < 1350 then M 0 (j + 50) else if j < 1400 then M 0 (j - 1350) else M 0 j := by
      intro j hj
      rw [va_up_ne _ _ (by omega), hs_push, if_pos rfl]
      unfold hs_blk
      by_cases c1 : j < 1350
      · rw [if_neg (by omega), if_pos (by omega), if_pos c1]
        congr 1
        omega
      · rw [if_neg c1]
        by_cases c2 : j < 1400
        · rw [if_pos (by omega), if_pos c2, if_neg (by omega)]
          congr 1
        · rw [if_neg (by omega), if_neg (by omega), if_neg c2]
    refine ag_G_push (a := 23) ?_ ?_ ?_ ?_
    · refine ag_G_c (T := fun i => ag_T M 24 (i + 1)) (A := fun i => C 21 (i + 1)) (B := fun i => C 22 (i + 1)) (K := fun i => C 23 (i + 1)) (fun i hi j hj => ?_) (fun i hi => ?_) (ag_G_drop (a := 23) hG)
      · show (if i + 1 < 24 then M 0 (200 + 50 * (i + 1) + j) else M 0 j) = (if i < 24 then mo_w (sp_minds M 24) 0 κ v 0 (200 + 50 * i + j) else _)
        rw [if_pos (show i < 24 by omega), e0, hM _ (by omega)]
        by_cases c : i + 1 < 24
        · rw [if_pos c, if_pos (by omega)]
          congr 1
          omega
        · rw [if_neg c, if_neg (by omega), if_pos (by omega)]
          congr 1
          omega
      · rw [va_up_ne _ _ (by omega), va_up_ne _ _ (by omega), va_up_ne _ _ (by omega)]
        unfold va_cpy
        rw [if_pos (by omega), if_pos (by omega), if_pos (by omega)]
        refine ⟨?_, ?_, ?_⟩ <;> congr 1 <;> omega
    · refine ag_V_c (fun j hj => ?_) hV
      show M 0 j = (if 23 < 24 then mo_w (sp_minds M 24) 0 κ v 0 (200 + 50 * 23 + j) else _)
      rw [if_pos (by omega), e0, hM _ (by omega), if_neg (by omega), if_pos (by omega)]
      congr 1
      omega
    · show (if 23 < 24 then mo_w (sp_minds M 24) 0 κ v 0 (200 + 50 * 23 + 4) else _) = 1
      rw [if_pos (by omega), e0, hM _ (by omega), if_neg (by omega), if_pos (by omega)]
      exact h4
    · intro j hj
      rw [va_up_self, va_up_self, va_up_self]
      have e1 : ag_T (mo_w (sp_minds M 24) 0 κ v) 24 23 j = M 0 j := by
        show (if 23 < 24 then mo_w (sp_minds M 24) 0 κ v 0 (200 + 50 * 23 + j) else _) = _
        rw [if_pos (by omega), e0, hM _ (by omega), if_neg (by omega), if_pos (by omega)]
        congr 1
        omega
      rw [e1]
      refine hp _ _ rfl j hj (fun hne => ?_)
      show (if 24 < 24 then _ else mo_w (sp_minds M 24) 0 κ v 0 j) = _
      rw [if_neg (by omega), e0, va_up_ne _ _ hne, hs_push_lt _ _ (by omega)]
  · have hpa : hs_pa a = a + 1 := if_neg h
    have l1 : cs_log C a what one (M 0 κ) = cs_log1 C a what one (M 0 κ) := if_pos (by omega)
    have eA : cs_log1 C a what one (M 0 κ) 21 = va_up (C 21) a what := rfl
    have eB : cs_log1 C a what one (M 0 κ) 22 = va_up (C 22) a one := rfl
    have eK : cs_log1 C a what one (M 0 κ) 23 = va_up (C 23) a (M 0 κ) := rfl
    rw [hpa, l1, eA, eB, eK]
    have hM : ∀ j, 200 ≤ j → va_up (hs_push (M 0) a) κ v j = if 200 + 50 * a ≤ j ∧ j < 250 + 50 * a then M 0 (j - (200 + 50 * a)) else M 0 j := by
      intro j hj
      rw [va_up_ne _ _ (by omega), hs_push, if_neg h]
      unfold hs_blk
      by_cases c1 : 200 + 50 * a ≤ j ∧ j < 250 + 50 * a
      · rw [if_pos (by omega), if_pos c1]
        congr 1
      · rw [if_neg (by omega), if_neg c1]
    refine ag_G_push ?_ ?_ ?_ ?_
    · refine ag_G_c (fun i hi j hj => ?_) (fun i hi => ?_) hG
      · show (if i < a then M 0 (200 + 50 * i + j) else M 0 j) = (if i < a + 1 then mo_w (sp_minds M a) 0 κ v 0 (200 + 50 * i + j) else _)
        rw [if_pos (show i < a + 1 by omega), e0, hM _ (by omega)]
        by_cases c : i < a
        · rw [if_pos c, if_neg (by omega)]
        · rw [if_neg c, if_pos (by omega)]
          congr 1
          have : i = a := by omega
          subst this
          omega
      · rw [va_up_ne _ _ (by omega), va_up_ne _ _ (by omega), va_up_ne _ _ (by omega)]
        exact ⟨rfl, rfl, rfl⟩
    · refine ag_V_c (fun j hj => ?_) hV
      show M 0 j = (if a < a + 1 then mo_w (sp_minds M a) 0 κ v 0 (200 + 50 * a + j) else _)
      rw [if_pos (by omega), e0, hM _ (by omega), if_pos (by omega)]
      congr 1
      omega
    · show (if a < a + 1 then mo_w (sp_minds M a) 0 κ v 0 (200 + 50 * a + 4) else _) = 1
      rw [if_pos (by omega), e0, hM _ (by omega), if_pos (by omega), show 200 + 50 * a + 4 - (200 + 50 * a) = 4 by omega]
      exact h4
    · intro j hj
      rw [va_up_self, va_up_self, va_up_self]
      have e1 : ag_T (mo_w (sp_minds M a) 0 κ v) (a + 1) a j = M 0 j := by
        show (if a < a + 1 then mo_w (sp_minds M a) 0 κ v 0 (200 + 50 * a + j) else _) = _
        rw [if_pos (by omega), e0, hM _ (by omega), if_pos (by omega)]
        congr 1
        omega
      rw [e1]
      refine hp _ _ rfl j hj (fun hne => ?_)
      show (if a + 1 < a + 1 then _ else mo_w (sp_minds M a) 0 κ v 0 j) = _
      rw [if_neg (by omega), e0, va_up_ne _ _ hne, hs_push_lt _ _ (by omega)]
/-- all that is pure: the class's numbers C, the reference's M; n stalls, nr ropes, a acts -/
def ag_I (C M : Nat → Nat → Int32) (n nr a : Nat) : Prop :=
  ag_E C M ∧ ag_Z M ∧ (∃ t : Nat, t ≤ 100 ∧ M 9 0 = nI t) ∧ hs_tr M ∧ (M 1 0 = nI a ∧ a ≤ 24) ∧ (∃ s0 : Nat, M 12 0 = nI s0) ∧ ag_V (M 0) n nr ∧ ((M 0 4 = 0 ∧ nr = 0 ∧ n = 0 ∧ a = 0) ∨ (M 0 4 = 1 ∧ 1 ≤ nr)) ∧ ag_G (ag_T M a) (C 21) (C 22) (C 23) n nr a
theorem ag_I4 {C M : Nat → Nat → Int32} {n nr a : Nat} (h : ag_I C M n nr a) : M 0 4 = 0 ↔ M 0 2 = 0 := by
  obtain ⟨-, -, -, -, -, -, hV, h4, -⟩ := h
  have h2 := hV.1.2.1.1
  have h3 := hV.1.2.1.2.1
  rw [h2]
  rcases h4 with ⟨k1, k2, -⟩ | ⟨k1, k2⟩
  · rw [k1, k2]; exact ⟨fun _ => rfl, fun _ => rfl⟩
  · rw [k1]; exact ⟨fun z => absurd z (by decide), fun z => absurd z (nI_ne0 (by omega) (by omega))⟩
/-- where the markets and the acts are left alone -/
theorem ag_I_of {C M C' M' : Nat → Nat → Int32} {n nr a : Nat} (h : ag_I C M n nr a) (hE : ag_E C' M') (h0 : M' 0 = M 0) (h1 : M' 1 0 = M 1 0) (h12 : M' 12 0 = M 12 0) (h21 : C' 21 = C 21) (h22 : C' 22 = C 22) (h23 : C' 23 = C 23) (hZ : ag_Z M') (hT : ∃ t : Nat, t ≤ 100 ∧ M' 9 0 = nI t) (hR : hs_tr M') : ag_I C' M' n nr a := by
  obtain ⟨-, -, -, -, k5, k6, k7, k8, k9⟩ := h
  refine ⟨hE, hZ, hT, hR, by rw [h1]; exact k5, by rw [h12]; exact k6, by rw [h0]; exact k7, by rw [h0]; exact k8, ?_⟩
  rw [h21, h22, h23]
  have e : ag_T M' a = ag_T M a := by
    funext i j
    simp only [ag_T, h0]
  rw [e]
  exact k9
/-! THE ACTS, both ways -/
/-- a step: one answer, the numbers behind it, the market's fifty alike, the images as they were -/
def ag_st (M : Nat → Nat → Int32) (n nr : Nat) (p : cs_T) (q : sp_S) : Prop := p.1 = q.1 ∧ (∃ a, ag_I p.2.1 q.2 n nr a) ∧ (∀ j, j < 50 → p.2.2 j = q.2 0 j) ∧ (∀ j, 50 ≤ j → j < 150 → q.2 0 j = M 0 j) ∧ q.2 2 = M 2
theorem ag_st0 {C M : Nat → Nat → Int32} {n nr a : Nat} (h : ag_I C M n nr a) (r : Int32) : ag_st M n nr (r, C, M 0) (r, M) := ⟨rfl, ⟨a, h⟩, fun _ _ => rfl, fun _ _ _ => rfl, rfl⟩
theorem ag_hp {M : Nat → Nat → Int32} {n κ : Nat} {what one : Int32} (h : ∀ g, mk_pm g n what one (M 0 κ) = va_up g κ (M 0 κ)) : ∀ (g : Nat → Int32) (x : Int32), (x = M 0 κ) → ∀ j, j < 50 → (j ≠ κ → g j = M 0 j) → mk_pm g n what one x j = M 0 j := by
  intro g x hx j hj hne
  rw [hx, h g]
  by_cases c : j = κ
  · rw [c, va_up_self]
  · rw [va_up_ne _ _ c]; exact hne c
theorem ag_log1 (C : Nat → Nat → Int32) {a : Nat} (ha : a ≤ 24) (what one before : Int32) : cs_log C a what one before 1 = va_up (C 1) 0 (nI (hs_pa a)) ∧ ∀ k, k ≠ 1 → k ≠ 21 → k ≠ 22 → k ≠ 23 → cs_log C a what one before k = C k := by
  by_cases h : a = 24
  · subst h
    have e : cs_log C 24 what one before = cs_log1 (cs_forget C) 23 what one before := if_neg (by omega)
    rw [e]
    refine ⟨?_, fun k h1 h2 h3 h4 => ?_⟩
    · have e1 : cs_log1 (cs_forget C) 23 what one before 1 = va_up (va_up (C 1) 0 23) 0 (nI 24) := rfl
      rw [e1, bx_uu]
      rfl
    · unfold cs_log1 cs_forget
      rw [va_up_ne _ _ h1, va_up_ne _ _ h4, va_up_ne _ _ h3, va_up_ne _ _ h2, va_up_ne _ _ h4, va_up_ne _ _ h3, va_up_ne _ _ h2, va_up_ne _ _ h1]
  · have e : cs_log C a what one before = cs_log1 C a what one before := if_pos (by omega)
    rw [e]
    refine ⟨?_, fun k h1 h2 h3 h4 => ?_⟩
    · have e1 : cs_log1 C a what one before 1 = va_up (C 1) 0 (nI (a + 1)) := rfl
      rw [e1, hs_pa, if_neg h]
    · unfold cs_log1
      rw [va_up_ne _ _ h1, va_up_ne _ _ h4, va_up_ne _ _ h3, va_up_ne _ _ h2]
theorem ag_do {C M : Nat → Nat → Int32} {n nr a κ : Nat} {what one v : Int32} (hI : ag_I C M n nr a) (h4 : M 0 4 = 1) (hκ : κ < 50) (hκ4 : κ ≠ 4) (hV : ag_V (va_up (M 0) κ v) n nr) (hp : ∀ g, mk_pm g n what one (M 0 κ) = va_up g κ (M 0 κ)) (r : Int32) : ag_st M n nr (r, cs_log C a what one (M 0 κ), va_up (M 0) κ v) (r, mo_w (sp_minds M a) 0 κ v) := by
  obtain ⟨hE, hZ, hT, hR, ⟨h1, ha⟩, h12, hVM, hth, hG⟩ := id hI
  obtain ⟨l1, l2⟩ := ag_log1 C ha what one (M 0 κ)
  have m0 : mo_w (sp_minds M a) 0 κ v 0 = va_up (hs_push (M 0) a) κ v := by
    rw [mo_w, va_up_self]
    rfl
  have m1 : mo_w (sp_minds M a) 0 κ v 1 = va_up (M 1) 0 (nI (hs_pa a)) := by
    rw [mo_w, va_up_ne _ _ (by decide)]
    rfl
  have mk_ : ∀ k, k ≠ 0 → k ≠ 1 → mo_w (sp_minds M a) 0 κ v k = M k := by
    intro k k0 k1
    rw [mo_w, va_up_ne _ _ k0]
    unfold sp_minds
    rw [mo_w, va_up_ne _ _ k1, va_up_ne _ _ k0]
  have hg : ∀ j, j < 50 → va_up (M 0) κ v j = mo_w (sp_minds M a) 0 κ v 0 j := by
    intro j hj
    rw [m0]
    by_cases c : j = κ
    · rw [c, va_up_self, va_up_self]
    · rw [va_up_ne _ _ c, va_up_ne _ _ c, hs_push_lt _ _ (by omega)]
  refine ⟨rfl, ⟨hs_pa a, ?_⟩, hg, fun j h50 h150 => ?_, mk_ 2 (by decide) (by decide)⟩
  · refine ⟨?_, ?_, ?_, ?_, ⟨?_, ?_⟩, ?_, ag_V_c hg hV, Or.inr ⟨?_, ?_⟩, ?_⟩
    · intro k hk
      by_cases c : k = 1
      · subst c
        rw [m1, ← hE 1 hk]
        exact l1
      · have hk0 : k ≠ 0 := by unfold ag_key at hk; omega
        have := l2 k c (by unfold ag_key at hk; omega) (by unfold ag_key at hk; omega) (by unfold ag_key at hk; omega)
        rw [mk_ k hk0 c, ← hE k hk]
        exact this
    · have e3 := mk_ 3 (by decide) (by decide)
      have e4 := mk_ 4 (by decide) (by decide)
      unfold ag_Z
      rw [e3, e4]
      exact hZ
    · rw [mk_ 9 (by decide) (by decide)]; exact hT
    · unfold hs_tr
      rw [mk_ 18 (by decide) (by decide)]; exact hR
    · rw [m1, va_up_self]
    · unfold hs_pa; split <;> omega
    · rw [mk_ 12 (by decide) (by decide)]; exact h12
    · rw [← hg 4 (by omega), va_up_ne _ _ (fun z => hκ4 z.symm)]; exact h4
    · rcases hth with ⟨z, -⟩ | ⟨-, z⟩
      · rw [z] at h4; exact absurd h4 (by decide)
      · exact z
    · exact ag_act ha hκ h4 hVM hG (ag_hp hp)
  · rw [m0, va_up_ne _ _ (by omega), hs_push_lt _ _ (by omega)]
/-- a market with a stall, or with a rope, is there -/
theorem ag_there {C M : Nat → Nat → Int32} {n nr a : Nat} (hI : ag_I C M n nr a) (h : 0 < n ∨ 0 < nr) : M 0 4 = 1 := by
  obtain ⟨-, -, -, -, -, -, -, h4, -⟩ := hI
  rcases h4 with ⟨-, h2, h3, -⟩ | ⟨h1, -⟩
  · omega
  · exact h1
theorem ag_rg {x : Int32} {a b : Nat} (h : ¬ hs_in x (nI a) (nI b) = 0) (ha : a < 2147483648) (hb : b < 2147483648) : ag_r x a b := by
  have h1 := hs_in_1 h
  rw [Int32.le_iff_toInt_le, Int32.le_iff_toInt_le, nI_toInt (by omega), nI_toInt (by omega)] at h1
  exact h1
theorem ag_V_32 {g : Nat → Int32} {n nr i : Nat} {v : Int32} (h : ag_V g n nr) (_hi : i < n) (hv : ag_r v 0 100) : ag_V (va_up g (32 + i) v) n nr := by
  obtain ⟨⟨h1, h2, h3, h4⟩, h5, h6, h7⟩ := h
  have hn := h1.2.1
  refine ⟨⟨mk_sr_up (by omega) h1, mk_t_up (by omega) h2, by rw [va_up_ne _ _ (by omega)]; exact h3, fun j hj => ?_⟩, fun p q hp hq => ?_, by rw [va_up_ne _ _ (by omega)]; exact h6, fun j hj => by rw [va_up_ne _ _ (by omega)]; exact h7 j hj⟩
  · obtain ⟨k1, k2, k3, k4, k5⟩ := h4 j hj
    rw [va_up_ne _ _ (show 14 + j ≠ 32 + i by omega), va_up_ne _ _ (show 26 + j ≠ 32 + i by omega), va_up_ne _ _ (show 20 + j ≠ 32 + i by omega), va_up_ne _ _ (show 38 + j ≠ 32 + i by omega)]
    refine ⟨k1, k2, k3, ?_, k5⟩
    by_cases e : 32 + j = 32 + i
    · rw [e, va_up_self]; exact hv
    · rw [va_up_ne _ _ e]; exact k4
  · rw [va_up_ne _ _ (show 14 + p ≠ 32 + i by omega), va_up_ne _ _ (show 14 + q ≠ 32 + i by omega), va_up_ne _ _ (show 20 + p ≠ 32 + i by omega), va_up_ne _ _ (show 20 + q ≠ 32 + i by omega)]
    exact h5 p q hp hq
theorem ag_V_38 {g : Nat → Int32} {n nr i : Nat} {v : Int32} (h : ag_V g n nr) (hi : i < n) (hv : ag_r v 0 9) : ag_V (va_up g (38 + i) v) n nr := by
  obtain ⟨hB, h5, h6, h7⟩ := h
  have hn := hB.1.2.1
  refine ⟨ag_B_38 hB hi (ag_w hv (by omega) (by omega)), fun p q hp hq => ?_, by rw [va_up_ne _ _ (by omega)]; exact h6, fun j hj => ?_⟩
  · rw [va_up_ne _ _ (show 14 + p ≠ 38 + i by omega), va_up_ne _ _ (show 14 + q ≠ 38 + i by omega), va_up_ne _ _ (show 20 + p ≠ 38 + i by omega), va_up_ne _ _ (show 20 + q ≠ 38 + i by omega)]
    exact h5 p q hp hq
  · by_cases e : 38 + j = 38 + i
    · rw [e, va_up_self]; exact hv
    · rw [va_up_ne _ _ e]; exact h7 j hj
theorem ag_V_20 {g : Nat → Int32} {n nr i : Nat} {v : Int32} (h : ag_V g n nr) (hi : i < n) (hv : ag_r v 1 8) (hf : mk_std g (g (14 + i)) v n = none) : ag_V (va_up g (20 + i) v) n nr := by
  obtain ⟨hB, h5, h6, h7⟩ := h
  have hn := hB.1.2.1
  have hno : ∀ k, k ≤ n → ∀ j, j < k → ¬ (g (14 + j) = g (14 + i) ∧ g (20 + j) = v) := by
    intro k
    induction k with
    | zero => intro _ j hj; omega
    | succ k ih =>
      intro hk j hj c
      by_cases e : j = k
      · subst e
        cases h0 : mk_std g (g (14 + i)) v j with
        | some q =>
          have := mk_std_up (m := n - j) h0
          rw [show j + (n - j) = n by omega, hf] at this
          exact absurd this (by simp)
        | none =>
          have := mk_std_y (n := n) (k := j) (by omega) (by rw [show min j n = j by omega]; exact h0) c.1 c.2
          rw [hf] at this
          exact absurd this (by simp)
      · exact ih (by omega) j (by omega) c
  refine ⟨ag_B_20 hB hi hv, fun p q hp hq => ?_, by rw [va_up_ne _ _ (by omega)]; exact h6, fun j hj => by rw [va_up_ne _ _ (by omega)]; exact h7 j hj⟩
  rw [va_up_ne _ _ (show 14 + p ≠ 20 + i by omega), va_up_ne _ _ (show 14 + q ≠ 20 + i by omega)]
  intro er ep
  by_cases e1 : p = i
  · by_cases e2 : q = i
    · omega
    · subst e1
      rw [va_up_self, va_up_ne _ _ (by omega)] at ep
      exact absurd ⟨er.symm, ep.symm⟩ (hno n (Nat.le_refl n) q hq)
  · by_cases e2 : q = i
    · subst e2
      rw [va_up_self, va_up_ne _ _ (by omega)] at ep
      exact absurd ⟨er, ep⟩ (hno n (Nat.le_refl n) p hp)
    · rw [va_up_ne _ _ (by omega), va_up_ne _ _ (by omega)] at ep
      exact h5 p q hp hq er ep
theorem ag_V_44 {g : Nat → Int32} {n nr i : Nat} {v : Int32} (h : ag_V g n nr) (_hi : i < n) (hv : v = 0 ∨ v = 1) : ag_V (va_up g (44 + i) v) n nr := by
  obtain ⟨⟨h1, h2, h3, h4⟩, h5, h6, h7⟩ := h
  have hn := h1.2.1
  refine ⟨⟨mk_sr_off (by omega) hv h1, mk_t_up (by omega) h2, by rw [va_up_ne _ _ (by omega)]; exact h3, fun j hj => ?_⟩, fun p q hp hq => ?_, by rw [va_up_ne _ _ (by omega)]; exact h6, fun j hj => by rw [va_up_ne _ _ (by omega)]; exact h7 j hj⟩
  · rw [va_up_ne _ _ (show 14 + j ≠ 44 + i by omega), va_up_ne _ _ (show 26 + j ≠ 44 + i by omega), va_up_ne _ _ (show 20 + j ≠ 44 + i by omega), va_up_ne _ _ (show 32 + j ≠ 44 + i by omega), va_up_ne _ _ (show 38 + j ≠ 44 + i by omega)]
    exact h4 j hj
  · rw [va_up_ne _ _ (show 14 + p ≠ 44 + i by omega), va_up_ne _ _ (show 14 + q ≠ 44 + i by omega), va_up_ne _ _ (show 20 + p ≠ 44 + i by omega), va_up_ne _ _ (show 20 + q ≠ 44 + i by omega)]
    exact h5 p q hp hq
theorem ag_V_s {g : Nat → Int32} {n nr κ : Nat} {v : Int32} (h : ag_V g n nr) (h1 : mk_t (va_up g κ v) nr) (hκ : κ = 1 ∨ (5 ≤ κ ∧ κ < 8)) (hv : κ = 1 → ag_r v 0 99) : ag_V (va_up g κ v) n nr := by
  obtain ⟨⟨h1', h2, h3, h4⟩, h5, h6, h7⟩ := h
  have hn := h1'.2.1
  have hs : ag_r (va_up g κ v 1) 0 99 := by
    rcases hκ with e | e
    · rw [e, va_up_self]; exact hv e
    · rw [va_up_ne _ _ (by omega)]; exact h6
  refine ⟨⟨mk_sr_up (by omega) h1', h1, ag_w hs (by omega) (by omega), fun j hj => ?_⟩, fun p q hp hq => ?_, hs, fun j hj => by rw [va_up_ne _ _ (by omega)]; exact h7 j hj⟩
  · rw [va_up_ne _ _ (show 14 + j ≠ κ by omega), va_up_ne _ _ (show 26 + j ≠ κ by omega), va_up_ne _ _ (show 20 + j ≠ κ by omega), va_up_ne _ _ (show 32 + j ≠ κ by omega), va_up_ne _ _ (show 38 + j ≠ κ by omega)]
    exact h4 j hj
  · rw [va_up_ne _ _ (show 14 + p ≠ κ by omega), va_up_ne _ _ (show 14 + q ≠ κ by omega), va_up_ne _ _ (show 20 + p ≠ κ by omega), va_up_ne _ _ (show 20 + q ≠ κ by omega)]
    exact h5 p q hp hq
section AG
variable {C M : Nat → Nat → Int32} {n nr a : Nat}
theorem ag_buyers (hI : ag_I C M n nr a) (s k : Int32) : ag_st M n nr (cs_buyers C (M 0) a s k) (sp_buyers M a s k) := by
  have hV := hI.2.2.2.2.2.2.1
  have hn := hV.1.1.2.1
  unfold cs_buyers sp_buyers
  by_cases c : hs_isSt (M 0) s = 0 ∨ hs_in k 0 20 = 0
  · rw [if_pos c, if_pos c]; exact ag_st0 hI _
  rw [if_neg c, if_neg c]
  obtain ⟨i, hi, e⟩ := hs_st_1 (mk_ok_of hV.1.1 hV.1.2.1) (fun z => c (Or.inl z))
  subst e
  rw [nI_clamp (by omega)]
  exact ag_do hI (ag_there hI (by omega)) (by omega) (by omega) (ag_V_32 hV hi (ag_w (ag_rg (a := 0) (b := 20) (fun z => c (Or.inr z)) (by omega) (by omega)) (by omega) (by omega))) (fun g => mk_pm_w0 hn hi) _
theorem ag_girl (hI : ag_I C M n nr a) (s k : Int32) : ag_st M n nr (cs_girl C (M 0) a s k) (sp_girl M a s k) := by
  have hV := hI.2.2.2.2.2.2.1
  have hn := hV.1.1.2.1
  unfold cs_girl sp_girl
  by_cases c : hs_isSt (M 0) s = 0 ∨ (¬ k = 1 ∧ ¬ k = -1)
  · rw [if_pos c, if_pos c]; exact ag_st0 hI _
  rw [if_neg c, if_neg c]
  obtain ⟨i, hi, e⟩ := hs_st_1 (mk_ok_of hV.1.1 hV.1.2.1) (fun z => c (Or.inl z))
  subst e
  rw [nI_clamp (by omega)]
  obtain ⟨q, -, hq, eq⟩ := ag_nat (a := 0) (b := 9) (hV.2.2.2 i hi)
  have hk : k = 1 ∨ k = -1 := by
    rcases Classical.em (k = 1) with z | z
    · exact Or.inl z
    · exact Or.inr (Classical.byContradiction (fun y => c (Or.inr ⟨z, y⟩)))
  rcases hk with rfl | rfl
  · rw [if_neg (fun z => absurd z.1 (by decide)), if_neg (fun z => absurd z.1 (by decide))]
    by_cases c9 : q = 9
    · rw [if_pos ⟨rfl, by rw [eq, c9]; decide⟩, if_pos ⟨by decide, by rw [eq, c9]; rfl⟩]; exact ag_st0 hI _
    · rw [if_neg (fun z => z.2 (by rw [eq]; exact nI_lt (b := 9) (by omega) (by omega))), if_neg (fun z => c9 ((nI_eq (b := 9) (by omega) (by omega)).mp (eq.symm.trans z.2)))]
      exact ag_do hI (ag_there hI (by omega)) (by omega) (by omega) (ag_V_38 hV hi (by rw [eq, nI_1]; exact ag_lit (by omega) (by omega) (by omega))) (fun g => mk_pm_w1 hn hi) _
  · by_cases c0 : q = 0
    · rw [if_pos ⟨rfl, by rw [eq, c0]; rfl⟩, if_pos ⟨by decide, by rw [eq, c0]; rfl⟩]; exact ag_st0 hI _
    · have hne : ¬ M 0 (38 + i) = 0 := by rw [eq]; exact nI_ne0 (by omega) (by omega)
      rw [if_neg (fun z => hne z.2), if_neg (fun z => hne z.2), if_neg (fun z => absurd z.1 (by decide)), if_neg (fun z => absurd z.1 (by decide))]
      exact ag_do hI (ag_there hI (by omega)) (by omega) (by omega) (ag_V_38 hV hi (by rw [eq, hs_dec (by omega)]; exact ag_lit (by omega) (by omega) (by omega))) (fun g => mk_pm_w1 hn hi) _
theorem ag_slide (hI : ag_I C M n nr a) (s k : Int32) : ag_st M n nr (cs_slide C (M 0) n a s k) (sp_slide M n a s k) := by
  have hV := hI.2.2.2.2.2.2.1
  have hn := hV.1.1.2.1
  unfold cs_slide sp_slide
  by_cases c : hs_isSt (M 0) s = 0 ∨ hs_in k 1 8 = 0
  · rw [if_pos c, if_pos c]; exact ag_st0 hI _
  rw [if_neg c, if_neg c]
  obtain ⟨i, hi, e⟩ := hs_st_1 (mk_ok_of hV.1.1 hV.1.2.1) (fun z => c (Or.inl z))
  subst e
  rw [nI_clamp (by omega)]
  have hw := ag_who_n (g := M 0) hn (M 0 (14 + i)) k
  by_cases c2 : mk_std (M 0) (M 0 (14 + i)) k n = none
  · rw [if_neg (fun z => z c2), if_pos (hw.mp c2)]
    exact ag_do hI (ag_there hI (by omega)) (by omega) (by omega) (ag_V_20 hV hi (ag_rg (a := 1) (b := 8) (fun z => c (Or.inr z)) (by omega) (by omega)) c2) (fun g => mk_pm_w2 hn hi) _
  · rw [if_pos c2, if_neg (fun z => c2 (hw.mpr z))]; exact ag_st0 hI _
theorem ag_unload (hI : ag_I C M n nr a) (s k : Int32) : ag_st M n nr (cs_unload C (M 0) a s k) (sp_unload M a s k) := by
  have hV := hI.2.2.2.2.2.2.1
  have hn := hV.1.1.2.1
  unfold cs_unload sp_unload
  have hk : (¬ k = 0 ∧ ¬ k = 1) ↔ hs_in k 0 1 = 0 := by
    constructor
    · intro z; exact hs_in01 z.1 z.2
    · intro z
      constructor
      · intro y; rw [y] at z; exact absurd z (by decide)
      · intro y; rw [y] at z; exact absurd z (by decide)
  by_cases c : hs_isSt (M 0) s = 0 ∨ hs_in k 0 1 = 0
  · rw [if_pos (c.imp id hk.mpr), if_pos c]; exact ag_st0 hI _
  rw [if_neg (fun z => c (z.imp id hk.mp)), if_neg c]
  obtain ⟨i, hi, e⟩ := hs_st_1 (mk_ok_of hV.1.1 hV.1.2.1) (fun z => c (Or.inl z))
  subst e
  rw [nI_clamp (by omega)]
  have h01 := ag_in01 (fun z => c (Or.inr z))
  by_cases c2 : M 0 (44 + i) = k
  · rw [if_pos c2, if_pos c2]; exact ag_st0 hI _
  · rw [if_neg c2, if_neg c2]
    have ho := hV.1.1.2.2.2 i hi
    have e1 : 1 - k = M 0 (44 + i) := by
      rcases h01 with z | z <;> rcases ho with y | y
      · exact absurd (y.trans z.symm) c2
      · rw [z, y]; decide
      · rw [z, y]; decide
      · exact absurd (y.trans z.symm) c2
    rw [e1]
    exact ag_do hI (ag_there hI (by omega)) (by omega) (by omega) (ag_V_44 hV hi h01) (fun g => mk_pm_w3 hn hi ho) _
theorem ag_rain (hI : ag_I C M n nr a) : ag_st M n nr (cs_rain C (M 0) a) (sp_rain M a) := by
  have hV := hI.2.2.2.2.2.2.1
  have h4 := ag_I4 hI
  unfold cs_rain sp_rain
  by_cases c : M 0 2 = 0
  · rw [if_pos c, if_pos (h4.mpr c)]; exact ag_st0 hI _
  rw [if_neg c, if_neg (fun z => c (h4.mp z))]
  obtain ⟨q, -, hq, eq⟩ := ag_nat (a := 0) (b := 99) hV.2.2.1
  have hr : 0 < nr := by
    rcases Nat.eq_zero_or_pos nr with z | z
    · exact absurd (by rw [hV.1.2.1.1, z]; rfl) c
    · exact z
  by_cases c9 : q = 99
  · rw [if_pos (by rw [eq, c9]; decide), if_pos (by rw [eq, c9]; rfl)]; exact ag_st0 hI _
  · rw [if_neg (fun z => z (by rw [eq]; exact nI_lt (b := 99) (by omega) (by omega))), if_neg (fun z => c9 ((nI_eq (b := 99) (by omega) (by omega)).mp (eq.symm.trans z)))]
    exact ag_do hI (ag_there hI (Or.inr hr)) (by omega) (by omega) (ag_V_s hV (mk_t_up (by omega) hV.1.2.1) (Or.inl rfl) (fun _ => by rw [eq, nI_1]; exact ag_lit (by omega) (by omega) (by omega))) (fun g => mk_pm_w4) _
theorem ag_cut (hI : ag_I C M n nr a) (rope : Int32) : ag_st M n nr (cs_cut C (M 0) a rope) (sp_cut M a rope) := by
  have hV := hI.2.2.2.2.2.2.1
  have ht := hV.1.2.1
  have h3 := ht.2.1
  unfold cs_cut sp_cut
  by_cases c : hs_isRo (M 0) rope = 0
  · rw [if_pos c, if_pos c]; exact ag_st0 hI _
  rw [if_neg c, if_neg c]
  obtain ⟨r, hr, e⟩ := hs_ro_1 (mk_ok_of hV.1.1 ht) c
  subst e
  rw [nI_clamp (by omega)]
  have h1 := ht.2.2.1 r hr
  by_cases c1 : M 0 (5 + r) = 1
  · rw [if_pos (by rw [c1]; decide), if_pos c1]; exact ag_st0 hI _
  · have h2 : 1 < M 0 (5 + r) := by
      rw [Int32.le_iff_toInt_le] at h1
      rw [Int32.lt_iff_toInt_lt]
      rcases Int.lt_or_eq_of_le h1 with z | z
      · exact z
      · exact absurd (Int32.toInt_inj.mp z).symm c1
    rw [if_neg (fun z => z h2), if_neg c1]
    exact ag_do hI (ag_there hI (by omega)) (by omega) (by omega) (ag_V_s hV (mk_tcut ht (by omega) h2) (by omega) (fun z => absurd z (by omega))) (fun g => mk_pm_5 rfl (by omega)) _
theorem ag_undo (hI : ag_I C M n nr a) : ag_st M n nr ((cs_undo C a).1, (cs_undo C a).2, cs_undoG C (M 0) n a) (sp_undo M a) := by
  obtain ⟨hE, hZ, hT, hR, ⟨h1, ha⟩, h12, hVM, hth, hG⟩ := id hI
  unfold cs_undo sp_undo cs_undoG
  by_cases c : a = 0
  · rw [if_pos c, if_pos c, if_pos c]; exact ag_st0 hI _
  rw [if_neg c, if_neg c, if_neg c]
  obtain ⟨g1, g2, g3⟩ := hG (a - 1) (by omega)
  have t1 : ∀ j, ag_T M a (a - 1) j = M 0 (200 + 50 * (a - 1) + j) := fun j => if_pos (by omega)
  have t2 : ag_T M a (a - 1 + 1) = M 0 := by
    funext j
    exact if_neg (by omega)
  rw [t2] at g3
  have m0 : mo_w (va_up M 0 (hs_blk (M 0) 0 (200 + 50 * (a - 1)) 50)) 1 0 (nI (a - 1)) 0 = hs_blk (M 0) 0 (200 + 50 * (a - 1)) 50 := rfl
  have m1 : mo_w (va_up M 0 (hs_blk (M 0) 0 (200 + 50 * (a - 1)) 50)) 1 0 (nI (a - 1)) 1 = va_up (M 1) 0 (nI (a - 1)) := rfl
  have mk_ : ∀ k, k ≠ 0 → k ≠ 1 → mo_w (va_up M 0 (hs_blk (M 0) 0 (200 + 50 * (a - 1)) 50)) 1 0 (nI (a - 1)) k = M k := by
    intro k k0 k1
    rw [mo_w, va_up_ne _ _ k1, va_up_ne _ _ k0]
  have b1 : ∀ j, j < 50 → hs_blk (M 0) 0 (200 + 50 * (a - 1)) 50 j = ag_T M a (a - 1) j := by
    intro j hj
    rw [t1]
    unfold hs_blk
    rw [if_pos (by omega)]
    congr 1
    omega
  have b2 : ∀ j, 50 ≤ j → hs_blk (M 0) 0 (200 + 50 * (a - 1)) 50 j = M 0 j := fun j hj => hs_blk_out _ (by omega)
  refine ⟨rfl, ⟨a - 1, ?_⟩, fun j hj => ?_, fun j h50 h150 => ?_, mk_ 2 (by decide) (by decide)⟩
  · refine ⟨?_, ?_, ?_, ?_, ⟨?_, by omega⟩, ?_, ?_, Or.inr ⟨?_, ?_⟩, ?_⟩
    · intro k hk
      show mo_w C 1 0 (nI (a - 1)) k = _
      by_cases z : k = 1
      · subst z
        rw [m1, mo_w, va_up_self, hE 1 hk]
      · rw [mk_ k (by unfold ag_key at hk; omega) z, mo_w, va_up_ne _ _ z, hE k hk]
    · have e3 := mk_ 3 (by decide) (by decide)
      have e4 := mk_ 4 (by decide) (by decide)
      unfold ag_Z
      rw [e3, e4]
      exact hZ
    · rw [mk_ 9 (by decide) (by decide)]; exact hT
    · unfold hs_tr
      rw [mk_ 18 (by decide) (by decide)]; exact hR
    · rw [m1, va_up_self]
    · rw [mk_ 12 (by decide) (by decide)]; exact h12
    · rw [m0]
      exact ag_V_c (fun j hj => (b1 j hj).symm) g1
    · rw [m0, b1 4 (by omega)]; exact g2
    · rcases hth with ⟨-, -, -, z⟩ | ⟨-, z⟩
      · exact absurd z c
      · exact z
    · show ag_G _ (mo_w C 1 0 (nI (a - 1)) 21) (mo_w C 1 0 (nI (a - 1)) 22) (mo_w C 1 0 (nI (a - 1)) 23) n nr (a - 1)
      have e21 : mo_w C 1 0 (nI (a - 1)) 21 = C 21 := rfl
      have e22 : mo_w C 1 0 (nI (a - 1)) 22 = C 22 := rfl
      have e23 : mo_w C 1 0 (nI (a - 1)) 23 = C 23 := rfl
      rw [e21, e22, e23]
      refine ag_G_c (fun i hi j hj => ?_) (fun i hi => ⟨rfl, rfl, rfl⟩) (ag_G_less (b := a - 1) (by omega) hG)
      by_cases z : i < a - 1
      · show (if i < a then M 0 (200 + 50 * i + j) else M 0 j) = (if i < a - 1 then mo_w (va_up M 0 (hs_blk (M 0) 0 (200 + 50 * (a - 1)) 50)) 1 0 (nI (a - 1)) 0 (200 + 50 * i + j) else _)
        rw [if_pos (by omega), if_pos z, m0, b2 _ (by omega)]
      · have : i = a - 1 := by omega
        subst this
        show ag_T M a (a - 1) j = (if a - 1 < a - 1 then _ else mo_w (va_up M 0 (hs_blk (M 0) 0 (200 + 50 * (a - 1)) 50)) 1 0 (nI (a - 1)) 0 j)
        rw [if_neg (by omega), m0, b1 j hj]
  · show mk_pm (M 0) n (C 21 (a - 1)) (C 22 (a - 1)) (C 23 (a - 1)) j = _
    rw [m0, b1 j hj]
    exact g3 j hj
  · show hs_blk (M 0) 0 (200 + 50 * (a - 1)) 50 j = _
    exact b2 j h50
end AG
/-! THE TAPE read both ways: the class goes on behind a fault, the first of them stays; the reference stops -/
/-- no fault yet, at p -/
def ag_K (C M : Nat → Nat → Int32) (p : Nat) : Prop := C 25 0 = 0 ∧ C 24 0 = nI p ∧ C 8 = M 8 ∧ C 9 = M 9
/-- a fault told -/
def ag_f (C : Nat → Nat → Int32) (f : Int32) (q : Nat) : Prop := C 25 0 = f ∧ ¬ f = 0 ∧ C 26 0 = nI q
theorem ag_tf_f {C : Nat → Nat → Int32} {f num pl : Int32} {q : Nat} (h : ag_f C f q) : ag_f (mk_tf C num pl) f q := by
  unfold mk_tf
  rw [if_neg (fun z => h.2.1 (h.1.symm.trans z))]
  exact h
theorem ag_tf_k {C M : Nat → Nat → Int32} {num : Int32} {p q : Nat} (h : ag_K C M p) (hn : ¬ num = 0) : ag_f (mk_tf C num (nI q)) num q := by
  unfold mk_tf
  rw [if_pos h.1]
  exact ⟨rfl, hn, rfl⟩
theorem ag_pass_f {C : Nat → Nat → Int32} {f x : Int32} {q : Nat} (h : ag_f C f q) : ag_f (mk_pass C x) f q := by
  unfold mk_pass
  rw [if_neg (fun z => h.2.1 (h.1.symm.trans z.1))]
  exact ag_tf_f h
theorem ag_n1_f {C : Nat → Nat → Int32} {f a b : Int32} {q : Nat} (h : ag_f C f q) : ag_f (mk_n1 C a b) f q := by
  unfold mk_n1
  by_cases c : mk_fk C (C 24 0) < 1 ∨ 2 < mk_fk C (C 24 0)
  · rw [if_pos c]; exact ag_tf_f h
  · rw [if_neg c]
    by_cases c2 : mk_nv C (C 24 0) (mk_fk C (C 24 0)) < a ∨ b < mk_nv C (C 24 0) (mk_fk C (C 24 0))
    · rw [if_pos c2]; exact ag_tf_f h
    · rw [if_neg c2]; exact h
theorem ag_num_f {C : Nat → Nat → Int32} {f a b : Int32} {q : Nat} (h : ag_f C f q) : ag_f (mk_number C a b).2 f q := by
  have h1 := ag_n1_f (a := a) (b := b) h
  unfold mk_number
  rw [if_neg (fun z => h1.2.1 (h1.1.symm.trans z))]
  exact h1
section AGP
variable {C M : Nat → Nat → Int32} {t p : Nat}
theorem ag_by_in (hk : ag_K C M p) (ht : M 9 0 = nI t) (ht1 : t ≤ 100) {q : Nat} (hq : q < t) : mk_by C (nI q) = hs_byte M q := by
  unfold mk_by hs_byte
  rw [hk.2.2.1, hk.2.2.2, ht, nI_clamp (by omega), nI_clamp (by omega), if_pos hq, if_neg]
  rintro (z | z | z)
  · exact nI_pos (n := q) (by omega) z
  · exact nI_ge hq (by omega) z
  · exact nI_ge (a := q) (b := 100) (by omega) (by omega) z
theorem ag_by_out (hk : ag_K C M p) (ht : M 9 0 = nI t) (ht1 : t ≤ 100) {q : Nat} (hq : t ≤ q) (hq2 : q < 2147483648) : mk_by C (nI q) = hs_NONE ∧ hs_byte M q = -1 := by
  unfold mk_by hs_byte
  rw [hk.2.2.2, ht, nI_clamp (by omega), if_neg (by omega), if_pos (Or.inr (Or.inl (nI_le hq (by omega))))]
  exact ⟨rfl, rfl⟩
/-- no letter is -1 or NONE -/
theorem ag_by_eq (hk : ag_K C M p) (ht : M 9 0 = nI t) (ht1 : t ≤ 100) {q : Nat} (hq2 : q < 2147483648) {c : Int32} (h1 : ¬ c = -1) (h2 : ¬ c = hs_NONE) : mk_by C (nI q) = c ↔ hs_byte M q = c := by
  rcases Nat.lt_or_ge q t with z | z
  · rw [ag_by_in hk ht ht1 z]
  · obtain ⟨e1, e2⟩ := ag_by_out hk ht ht1 z hq2
    rw [e1, e2]
    exact ⟨fun y => absurd y.symm h2, fun y => absurd y.symm h1⟩
theorem ag_by_fig (hk : ag_K C M p) (ht : M 9 0 = nI t) (ht1 : t ≤ 100) {q : Nat} (hq2 : q < 2147483648) : hs_in (mk_by C (nI q)) 48 57 = hs_fig M q := by
  unfold hs_fig
  rcases Nat.lt_or_ge q t with z | z
  · rw [ag_by_in hk ht ht1 z]
  · obtain ⟨e1, e2⟩ := ag_by_out hk ht ht1 z hq2
    rw [e1, e2]
    decide
theorem ag_pass_k (hk : ag_K C M p) (ht : M 9 0 = nI t) (ht1 : t ≤ 100) (hp : p ≤ t) {c : Int32} (h1 : ¬ c = -1) (h2 : ¬ c = hs_NONE) : (hs_byte M p = c → ag_K (mk_pass C c) M (p + 1)) ∧ (¬ hs_byte M p = c → ag_f (mk_pass C c) 1 p) := by
  have e := ag_by_eq hk ht ht1 (q := p) (by omega) h1 h2
  have hp' : C 24 0 = nI p := hk.2.1
  refine ⟨fun z => ?_, fun z => ?_⟩
  · unfold mk_pass
    rw [hp', if_pos ⟨hk.1, e.mpr z⟩, nI_1]
    exact ⟨hk.1, rfl, hk.2.2.1, hk.2.2.2⟩
  · unfold mk_pass
    rw [hp', if_neg (fun y => z (e.mp y.2))]
    exact ag_tf_k hk (by decide)
theorem ag_nf_s (M : Nat → Nat → Int32) (p f : Nat) : hs_nf M p (f + 1) = if hs_fig M p = 0 then 0 else hs_nf M (p + 1) f + 1 := rfl
theorem ag_fk (hk : ag_K C M p) (ht : M 9 0 = nI t) (ht1 : t ≤ 100) (hp : p ≤ t) : mk_fk C (nI p) = min (hs_n M p) 3 := by
  have e : ∀ j, j < 4 → mk_fg C (nI p) j = hs_fig M (p + j) := by
    intro j hj
    unfold mk_fg
    rw [nI_add]
    exact ag_by_fig hk ht ht1 (by omega)
  unfold mk_fk hs_n
  rw [e 0 (by omega), e 1 (by omega), e 2 (by omega), ag_nf_s M p 101, Nat.add_zero]
  by_cases c0 : hs_fig M p = 0
  · rw [if_pos c0, if_pos c0]
    rfl
  rw [if_neg c0, if_neg c0, ag_nf_s M (p + 1) 100]
  by_cases c1 : hs_fig M (p + 1) = 0
  · rw [if_pos c1, if_pos c1]
    rfl
  rw [if_neg c1, if_neg c1, ag_nf_s M (p + 1 + 1) 99, show p + 1 + 1 = p + 2 by omega]
  by_cases c2 : hs_fig M (p + 2) = 0
  · rw [if_pos c2, if_pos c2]
    rfl
  rw [if_neg c2, if_neg c2]
  omega
theorem ag_fig_lt (ht : M 9 0 = nI t) (ht1 : t ≤ 100) {q : Nat} (h : ¬ hs_fig M q = 0) : q < t := by
  rcases Nat.lt_or_ge q t with z | z
  · exact z
  · exact absurd (hs_fig_end M ht ht1 z) h
theorem ag_nv (hk : ag_K C M p) (ht : M 9 0 = nI t) (ht1 : t ≤ 100) (hp : p ≤ t) : ∀ k, k ≤ 2 → k ≤ hs_n M p → mk_nv C (nI p) k = hs_val M p k := by
  have hn := hs_nf_ok M ht ht1 102 p (by omega)
  intro k
  induction k with
  | zero => intro _ _; rfl
  | succ k ih =>
    intro h2 hk2
    have hlt : p + k < t := ag_fig_lt ht ht1 (hn.1 k (by omega))
    have e2 : hs_val M p (k + 1) = if 2 ≤ k then hs_val M p k else 10 * hs_val M p k + hs_byte M (p + k) - 48 := rfl
    rw [mk_nv, ih (by omega) (by omega), nI_add, ag_by_in hk ht ht1 hlt, e2, if_neg (by omega)]
theorem ag_num_k (hk : ag_K C M p) (ht : M 9 0 = nI t) (ht1 : t ≤ 100) (hp : p ≤ t) (lo hi : Int32) :
    ((hs_n M p = 0 ∨ 2 < hs_n M p) → ag_f (mk_number C lo hi).2 1 p) ∧ (¬ (hs_n M p = 0 ∨ 2 < hs_n M p) → hs_in (hs_val M p (hs_n M p)) lo hi = 0 → ag_f (mk_number C lo hi).2 2 p) ∧
    (¬ (hs_n M p = 0 ∨ 2 < hs_n M p) → ¬ hs_in (hs_val M p (hs_n M p)) lo hi = 0 → (mk_number C lo hi).1 = hs_val M p (hs_n M p) ∧ ag_K (mk_number C lo hi).2 M (p + hs_n M p)) := by
  have hf := ag_fk hk ht ht1 hp
  have hp' : C 24 0 = nI p := hk.2.1
  refine ⟨fun z => ?_, fun z y => ?_, fun z y => ?_⟩
  · have e1 : mk_n1 C lo hi = mk_tf C 1 (nI p) := by
      unfold mk_n1
      rw [hp', hf, if_pos (by omega)]
    have h1 : ag_f (mk_n1 C lo hi) 1 p := by rw [e1]; exact ag_tf_k hk (by decide)
    unfold mk_number
    rw [if_neg (fun q => h1.2.1 (h1.1.symm.trans q))]
    exact h1
  · have em : min (hs_n M p) 3 = hs_n M p := by omega
    have e1 : mk_n1 C lo hi = mk_tf C 2 (nI p) := by
      unfold mk_n1
      rw [hp', hf, em, if_neg (by omega), ag_nv hk ht ht1 hp _ (by omega) (Nat.le_refl _), if_pos]
      have := hs_in_0 y
      rcases Classical.em (lo ≤ hs_val M p (hs_n M p)) with q | q
      · exact Or.inr (Int32.not_le.mp (fun x => this ⟨q, x⟩))
      · exact Or.inl (Int32.not_le.mp q)
    have h1 : ag_f (mk_n1 C lo hi) 2 p := by rw [e1]; exact ag_tf_k hk (by decide)
    unfold mk_number
    rw [if_neg (fun q => h1.2.1 (h1.1.symm.trans q))]
    exact h1
  · have em : min (hs_n M p) 3 = hs_n M p := by omega
    have hv := ag_nv hk ht ht1 hp _ (by omega) (Nat.le_refl (hs_n M p))
    have e1 : mk_n1 C lo hi = C := by
      unfold mk_n1
      rw [hp', hf, em, if_neg (by omega), hv, if_neg]
      have := hs_in_1 y
      rintro (q | q)
      · exact absurd this.1 (Int32.not_le.mpr q)
      · exact absurd this.2 (Int32.not_le.mpr q)
    unfold mk_number
    rw [e1, if_pos hk.1, hp', hf, em, hv, nI_add]
    exact ⟨rfl, hk.1, rfl, hk.2.2.1, hk.2.2.2⟩
/-- what a piece gives: the reference says yes and both stand at one place, or no and both tell one fault -/
def ag_o (C M : Nat → Nat → Int32) (X : Int32 × ps_S) : Prop := (¬ X.1 = 0 ∧ ag_K C M X.2.2.1) ∨ (X.1 = 0 ∧ ag_f C X.2.2.2.2.1 X.2.2.2.1)
theorem ag_takes (S : ps_S) (hk : ag_K C M S.2.1) (ht : M 9 0 = nI t) (ht1 : t ≤ 100) (hp : S.2.1 ≤ t) {c : Int32} (h1 : ¬ c = -1) (h2 : ¬ c = hs_NONE) : ag_o (mk_pass C c) M (ps_takes M c S) := by
  obtain ⟨k1, k2⟩ := ag_pass_k hk ht ht1 hp h1 h2
  unfold ps_takes
  by_cases c : hs_byte M S.2.1 = c
  · rw [if_pos c]
    exact Or.inl ⟨by decide, k1 c⟩
  · rw [if_neg c]
    exact Or.inr ⟨rfl, k2 c⟩
theorem ag_num (S : ps_S) (hk : ag_K C M S.2.1) (ht : M 9 0 = nI t) (ht1 : t ≤ 100) (hp : S.2.1 ≤ t) (lo hi : Int32) : ag_o (mk_number C lo hi).2 M (ps_num M lo hi S) ∧ (¬ (ps_num M lo hi S).1 = 0 → (mk_number C lo hi).1 = ps_v (ps_num M lo hi S).2) := by
  obtain ⟨k1, k2, k3⟩ := ag_num_k hk ht ht1 hp lo hi
  unfold ps_num
  by_cases c : hs_n M S.2.1 = 0 ∨ 2 < hs_n M S.2.1
  · rw [if_pos c]
    exact ⟨Or.inr ⟨rfl, k1 c⟩, fun z => absurd rfl z⟩
  · rw [if_neg c]
    by_cases c2 : hs_in (hs_val M S.2.1 (hs_n M S.2.1)) lo hi = 0
    · refine ⟨Or.inr ⟨c2, k2 c c2⟩, fun z => absurd c2 z⟩
    · obtain ⟨a1, a2⟩ := k3 c c2
      exact ⟨Or.inl ⟨c2, a2⟩, fun _ => a1⟩
/-- a fault stays to the end of a piece -/
def ag_ff2 (C : Nat → Nat → Int32) (S : ps_S) : Prop := ag_f C S.2.2.2.1 S.2.2.1
theorem ag_o_0 {X : Int32 × ps_S} (h : ag_o C M X) (h0 : X.1 = 0) : ag_ff2 C X.2 := by
  rcases h with h | h
  · exact absurd h0 h.1
  · exact h.2
theorem ag_o_1 {X : Int32 × ps_S} (h : ag_o C M X) (h0 : ¬ X.1 = 0) : ag_K C M X.2.2.1 := by
  rcases h with h | h
  · exact h.2
  · exact absurd h.1 h0
theorem ag_law (S : ps_S) (hk : ag_K C M S.2.1) (ht : M 9 0 = nI t) (ht1 : t ≤ 100) (hp : S.2.1 ≤ t) : ag_o (cr_law C) M (ps_law M S) ∧ (¬ (ps_law M S).1 = 0 → (ps_law M S).2.1 = va_up (va_up S.1 0 (cr_l2 C).1) 1 (cr_l4 C).1) := by
  have a1 : ag_o (cr_l1 C) M (ps_takes M 109 S) := ag_takes S hk ht ht1 hp (by decide) (by decide)
  have p1 : (pl1 M S).2.1 ≤ t := ps_takes_le ht ht1 (by decide) hp
  have p2 : (pl2 M S).2.1 ≤ t := ps_num_le ht ht1 p1
  have p3 : (pl3 M S).2.1 ≤ t := ps_takes_le ht ht1 (by decide) (ps_set_le p2)
  have p4 : (pl4 M S).2.1 ≤ t := ps_num_le ht ht1 p3
  unfold ps_law
  by_cases c1 : (ps_takes M 109 S).1 = 0
  · rw [if_pos c1]
    exact ⟨Or.inr ⟨rfl, ag_pass_f (ag_num_f (ag_pass_f (ag_num_f (ag_o_0 a1 c1))))⟩, fun z => absurd rfl z⟩
  rw [if_neg c1]
  obtain ⟨a2, v2⟩ := ag_num (pl1 M S) (ag_o_1 a1 c1) ht ht1 p1 0 99
  by_cases c2 : (ps_num M 0 99 (pl1 M S)).1 = 0
  · rw [if_pos c2]
    exact ⟨Or.inr ⟨rfl, ag_pass_f (ag_num_f (ag_pass_f (ag_o_0 a2 c2)))⟩, fun z => absurd rfl z⟩
  rw [if_neg c2]
  have a3 : ag_o (cr_l3 C) M (ps_takes M 44 (ps_set (pl2 M S) 0 (pl2 M S).2.2.2.2)) := ag_takes (ps_set (pl2 M S) 0 (pl2 M S).2.2.2.2) (ag_o_1 a2 c2) ht ht1 (ps_set_le p2) (by decide) (by decide)
  by_cases c3 : (ps_takes M 44 (ps_set (pl2 M S) 0 (pl2 M S).2.2.2.2)).1 = 0
  · rw [if_pos c3]
    exact ⟨Or.inr ⟨rfl, ag_pass_f (ag_num_f (ag_o_0 a3 c3))⟩, fun z => absurd rfl z⟩
  rw [if_neg c3]
  obtain ⟨a4, v4⟩ := ag_num (pl3 M S) (ag_o_1 a3 c3) ht ht1 p3 0 20
  by_cases c4 : (ps_num M 0 20 (pl3 M S)).1 = 0
  · rw [if_pos c4]
    exact ⟨Or.inr ⟨rfl, ag_pass_f (ag_o_0 a4 c4)⟩, fun z => absurd rfl z⟩
  rw [if_neg c4]
  have a5 : ag_o (cr_law C) M (ps_takes M 59 (ps_set (pl4 M S) 1 (pl4 M S).2.2.2.2)) := ag_takes (ps_set (pl4 M S) 1 (pl4 M S).2.2.2.2) (ag_o_1 a4 c4) ht ht1 (ps_set_le p4) (by decide) (by decide)
  refine ⟨a5, fun _ => ?_⟩
  have w2 : (cr_l2 C).1 = (pl2 M S).2.2.2.2 := v2 c2
  have w4 : (cr_l4 C).1 = (pl4 M S).2.2.2.2 := v4 c4
  have e1 : (pl1 M S).1 = S.1 := ps_takes_h _ _ _
  have e2 : (pl2 M S).1 = S.1 := (ps_num_h _ _ _ _).trans e1
  have e3 : (pl3 M S).1 = va_up S.1 0 (pl2 M S).2.2.2.2 := by unfold pl3; rw [ps_takes_h, ps_set_1, e2]
  have e4 : (pl4 M S).1 = va_up S.1 0 (pl2 M S).2.2.2.2 := (ps_num_h _ _ _ _).trans e3
  rw [ps_takes_h, ps_set_1, e4, w2, w4]
end AGP
section AGQ
variable {C M : Nat → Nat → Int32} {t p : Nat}
theorem ag_rope_p (S : ps_S) {g : Nat → Int32} {nr : Nat} (hk : ag_K C M S.2.1) (ht : M 9 0 = nI t) (ht1 : t ≤ 100) (hp : S.2.1 ≤ t) (hg : S.1 = g) (h2 : g 2 = nI nr) (h3 : nr ≤ 3) (hl : nr = 3 → hs_byte M S.2.1 = 108) : ag_o (cr_rope C g) M (ps_rope M S) ∧ (¬ (ps_rope M S).1 = 0 → (ps_rope M S).2.1 = va_up (va_up g (5 + nr) (cr_r2 C g).1) 2 (nI (nr + 1)) ∧ nr < 3) := by
  have hro : ps_ro S = nr := by rw [ps_ro, hg, h2]; exact nI_clamp (by omega)
  have hp' : C 24 0 = nI S.2.1 := hk.2.1
  have p1 : (pr1 M S).2.1 ≤ t := ps_takes_le ht ht1 (by decide) hp
  have p2 : (pr2 M S).2.1 ≤ t := ps_num_le ht ht1 p1
  by_cases c3 : nr = 3
  · have hb := hl c3
    have e3 : S.1 2 = 3 := by rw [hg, h2, c3]; rfl
    have e1 : ¬ (ps_takes M 108 S).1 = 0 := by
      unfold ps_takes
      rw [if_pos hb]
      decide
    have e0 : cr_r0 C g = mk_tf C 3 (nI S.2.1) := by
      unfold cr_r0
      rw [if_pos (by rw [← hg]; exact e3), hp']
    have hf : ag_f (cr_r0 C g) 3 S.2.1 := by rw [e0]; exact ag_tf_k hk (by decide)
    have hF : ag_f (cr_rope C g) 3 S.2.1 := by
      unfold cr_rope cr_r2 cr_r1
      exact ag_pass_f (ag_num_f (ag_pass_f hf))
    have es : (pr1 M S).2.2.1 = S.2.1 := by
      unfold pr1 ps_takes
      rw [if_pos hb]
    unfold ps_rope
    rw [if_neg e1, if_pos e3]
    refine ⟨Or.inr ⟨rfl, ?_⟩, fun z => absurd rfl z⟩
    show ag_f (cr_rope C g) 3 (pr1 M S).2.2.1
    rw [es]
    exact hF
  · have n3 : ¬ g 2 = 3 := by rw [h2]; exact fun z => c3 ((nI_eq (b := 3) (by omega) (by omega)).mp z)
    have n3' : ¬ S.1 2 = 3 := by rw [hg]; exact n3
    have e0 : cr_r0 C g = C := by unfold cr_r0; rw [if_neg n3]
    have a1 : ag_o (cr_r1 C g) M (ps_takes M 108 S) := by
      unfold cr_r1
      rw [e0]
      exact ag_takes S hk ht ht1 hp (by decide) (by decide)
    unfold ps_rope
    by_cases c1 : (ps_takes M 108 S).1 = 0
    · rw [if_pos c1]
      refine ⟨Or.inr ⟨rfl, ?_⟩, fun z => absurd rfl z⟩
      unfold cr_rope cr_r2
      exact ag_pass_f (ag_num_f (ag_o_0 a1 c1))
    rw [if_neg c1, if_neg n3']
    have hk1 : ag_K (cr_r1 C g) M (pr1 M S).2.1 := ag_o_1 a1 c1
    obtain ⟨a2, v2⟩ := ag_num (pr1 M S) hk1 ht ht1 p1 1 20
    by_cases c2 : (ps_num M 1 20 (pr1 M S)).1 = 0
    · rw [if_pos c2]
      refine ⟨Or.inr ⟨rfl, ?_⟩, fun z => absurd rfl z⟩
      unfold cr_rope cr_r2
      exact ag_pass_f (ag_o_0 a2 c2)
    rw [if_neg c2]
    have hk2 : ag_K (mk_number (cr_r1 C g) 1 20).2 M (pr2 M S).2.1 := ag_o_1 a2 c2
    have w2 : (mk_number (cr_r1 C g) 1 20).1 = (pr2 M S).2.2.2.2 := v2 c2
    have e2 : (pr2 M S).1 = g := (ps_num_h _ _ _ _).trans ((ps_takes_h _ _ _).trans hg)
    refine ⟨?_, fun _ => ⟨?_, by omega⟩⟩
    · unfold cr_rope cr_r2
      exact ag_takes (ps_set (ps_set (pr2 M S) (5 + ps_ro S) (pr2 M S).2.2.2.2) 2 (nI (ps_ro S + 1))) hk2 ht ht1 (ps_set_le (ps_set_le p2)) (by decide) (by decide)
    · rw [ps_takes_h, ps_set_1, ps_set_1, e2, hro]
      unfold cr_r2
      rw [w2]
theorem ag_kind (c : Int32) : (hs_sort c = 0 ∧ mk_kind c = hs_NONE) ∨ (¬ hs_sort c = 0 ∧ mk_kind c = hs_sort c ∧ ¬ mk_kind c = hs_NONE) := by
  unfold hs_sort mk_kind
  by_cases c1 : c = 116
  · rw [if_pos c1, if_pos c1]; exact Or.inr ⟨by decide, rfl, by decide⟩
  rw [if_neg c1, if_neg c1]
  by_cases c2 : c = 106
  · rw [if_pos c2, if_pos c2]; exact Or.inr ⟨by decide, rfl, by decide⟩
  rw [if_neg c2, if_neg c2]
  by_cases c3 : c = 98
  · rw [if_pos c3, if_pos c3]; exact Or.inr ⟨by decide, rfl, by decide⟩
  rw [if_neg c3, if_neg c3]
  by_cases c4 : c = 110
  · rw [if_pos c4, if_pos c4]; exact Or.inr ⟨by decide, rfl, by decide⟩
  rw [if_neg c4, if_neg c4]
  by_cases c5 : c = 118
  · rw [if_pos c5, if_pos c5]; exact Or.inr ⟨by decide, rfl, by decide⟩
  rw [if_neg c5, if_neg c5]
  exact Or.inl ⟨rfl, rfl⟩
theorem ag_f_24 {f v : Int32} {q : Nat} (h : ag_f C f q) : ag_f (mo_w C 24 0 v) f q := h
theorem ag_who_c {g h : Nat → Int32} {rope place : Int32} : ∀ n, (∀ k, k < n → h (14 + k) = g (14 + k) ∧ h (20 + k) = g (20 + k)) → hs_who h rope place n = hs_who g rope place n := by
  intro n
  induction n with
  | zero => intro _; rfl
  | succ n ih =>
    intro e
    have e1 := e n (by omega)
    show (if h (14 + n) = rope ∧ h (20 + n) = place then nI n else hs_who h rope place n) = (if g (14 + n) = rope ∧ g (20 + n) = place then nI n else hs_who g rope place n)
    rw [ih (fun k hk => e k (by omega)), e1.1, e1.2]
theorem ag_num_s (M : Nat → Nat → Int32) (lo hi : Int32) (S : ps_S) : (ps_num M lo hi S).2.2.2.1 = S.2.1 := by
  unfold ps_num
  split <;> rfl
/-- the fault of a number that is read but too small, too large, or taken, is 2 -/
theorem ag_num_2 {M : Nat → Nat → Int32} {lo hi : Int32} {S : ps_S} (h : ¬ (ps_num M lo hi S).1 = 0) : (ps_num M lo hi S).2.2.2.2.1 = 2 := by
  unfold ps_num at h ⊢
  by_cases c : hs_n M S.2.1 = 0 ∨ 2 < hs_n M S.2.1
  · rw [if_pos c] at h; exact absurd rfl h
  · rw [if_neg c]
theorem ag_as_e {g : Nat → Int32} {n : Nat} (hn : n < 6) (h0 : g (32 + n) = 0 ∧ g (38 + n) = 0 ∧ g (44 + n) = 0) (sort rope place goods : Int32) : va_up (va_up (va_up (va_up (va_up g (8 + n) sort) (14 + n) rope) (20 + n) place) (26 + n) goods) 3 (nI (n + 1)) = mk_as g n sort rope place goods := by
  funext j
  unfold mk_as
  by_cases c1 : j = 3
  · rw [c1, va_up_self, if_pos rfl]
  rw [va_up_ne _ _ c1, if_neg c1]
  by_cases c5 : j = 26 + n
  · rw [c5, va_up_self, if_neg (by omega), if_neg (by omega), if_neg (by omega), if_pos rfl]
  rw [va_up_ne _ _ c5]
  by_cases c4 : j = 20 + n
  · rw [c4, va_up_self, if_neg (by omega), if_neg (by omega), if_pos rfl]
  rw [va_up_ne _ _ c4]
  by_cases c3 : j = 14 + n
  · rw [c3, va_up_self, if_neg (by omega), if_pos rfl]
  rw [va_up_ne _ _ c3]
  by_cases c2 : j = 8 + n
  · rw [c2, va_up_self, if_pos rfl]
  rw [va_up_ne _ _ c2, if_neg c2, if_neg c3, if_neg c4, if_neg c5]
  by_cases c6 : j = 32 + n ∨ j = 38 + n ∨ j = 44 + n
  · rw [if_pos c6]
    rcases c6 with c | c | c
    · rw [c]; exact h0.1
    · rw [c]; exact h0.2.1
    · rw [c]; exact h0.2.2
  · rw [if_neg c6]
theorem ag_stall_p (S : ps_S) {g : Nat → Int32} {n : Nat} (hk : ag_K C M S.2.1) (ht : M 9 0 = nI t) (ht1 : t ≤ 100) (hp : S.2.1 ≤ t) (hg : S.1 = g) (h3 : g 3 = nI n) (h6 : n ≤ 6) (h0 : n < 6 → g (32 + n) = 0 ∧ g (38 + n) = 0 ∧ g (44 + n) = 0) : ag_o (cr_s C g n) M (ps_stall M S) ∧ (¬ (ps_stall M S).1 = 0 → (ps_stall M S).2.1 = mk_as g n (cr_k C) (cr_c C g).1 (cr_e C g).1 (cr_h C g n).1 ∧ n < 6) := by
  have hst : ps_st S = n := by rw [ps_st, hg, h3]; exact nI_clamp (by omega)
  have hp' : C 24 0 = nI S.2.1 := hk.2.1
  -- a fault from the letter on stays
  have tail_a : ∀ f q, ag_f (cr_a C g) f q → ag_f (cr_s C g n) f q := by
    intro f q h
    have hb : ag_f (cr_b C g) f q := by unfold cr_b; exact ag_f_24 h
    have hc : ag_f (cr_c C g).2 f q := by unfold cr_c; exact ag_num_f hb
    have hd : ag_f (cr_d C g) f q := by unfold cr_d; exact ag_pass_f hc
    have he : ag_f (cr_e C g).2 f q := by unfold cr_e; exact ag_num_f hd
    have hf : ag_f (cr_f C g n) f q := by
      unfold cr_f
      by_cases z : mk_std g (cr_c C g).1 (cr_e C g).1 n = none
      · rw [if_pos z]; exact he
      · rw [if_neg z]; exact ag_tf_f he
    have hG : ag_f (cr_g C g n) f q := by unfold cr_g; exact ag_pass_f hf
    have hh : ag_f (cr_h C g n).2 f q := by unfold cr_h; exact ag_num_f hG
    unfold cr_s
    exact ag_pass_f hh
  have ek : cr_k C = mk_kind (mk_by C (nI S.2.1)) := by unfold cr_k; rw [hp']
  have kk : (hs_sort (hs_byte M S.2.1) = 0 ∧ cr_k C = hs_NONE) ∨ (¬ hs_sort (hs_byte M S.2.1) = 0 ∧ cr_k C = hs_sort (hs_byte M S.2.1) ∧ ¬ cr_k C = hs_NONE ∧ S.2.1 < t) := by
    rcases Nat.lt_or_ge S.2.1 t with z | z
    · rw [ek, ag_by_in hk ht ht1 z]
      rcases ag_kind (hs_byte M S.2.1) with h | h
      · exact Or.inl h
      · exact Or.inr ⟨h.1, h.2.1, h.2.2, z⟩
    · obtain ⟨e1, e2⟩ := ag_by_out hk ht ht1 z (by omega)
      rw [ek, e1, e2]
      exact Or.inl ⟨by decide, by decide⟩
  unfold ps_stall
  rcases kk with ⟨k1, k2⟩ | ⟨k1, k2, k3, hlt⟩
  · rw [if_pos k1]
    refine ⟨Or.inr ⟨rfl, tail_a _ _ ?_⟩, fun z => absurd rfl z⟩
    show ag_f (cr_a C g) 1 S.2.1
    unfold cr_a
    rw [if_pos k2, hp']
    exact ag_tf_k hk (by decide)
  rw [if_neg k1]
  by_cases c6 : n = 6
  · have e6 : S.1 3 = 6 := by rw [hg, h3, c6]; rfl
    rw [if_pos e6]
    refine ⟨Or.inr ⟨rfl, tail_a _ _ ?_⟩, fun z => absurd rfl z⟩
    show ag_f (cr_a C g) 3 S.2.1
    unfold cr_a
    rw [if_neg k3, if_pos (by rw [← hg]; exact e6), hp']
    exact ag_tf_k hk (by decide)
  have hn : n < 6 := by omega
  have n6 : ¬ g 3 = 6 := by rw [h3]; exact fun z => c6 ((nI_eq (b := 6) (by omega) (by omega)).mp z)
  have ea : cr_a C g = C := by unfold cr_a; rw [if_neg k3, if_neg n6]
  have hkb : ag_K (cr_b C g) M (pt1 S).2.1 := by
    unfold cr_b
    rw [ea, hp', nI_1]
    exact ⟨hk.1, rfl, hk.2.2.1, hk.2.2.2⟩
  rw [if_neg (by rw [hg]; exact n6)]
  have p1 : (pt1 S).2.1 ≤ t := pt1_le hlt
  have p2 : (pt2 M S).2.1 ≤ t := ps_set_le p1
  have p3 : (pt3 M S).2.1 ≤ t := ps_num_le ht ht1 p2
  have p4 : (pt4 M S).2.1 ≤ t := ps_set_le p3
  have p5 : (pt5 M S).2.1 ≤ t := ps_takes_le ht ht1 (by decide) p4
  have p6 : (pt6 M S).2.1 ≤ t := ps_num_le ht ht1 p5
  have p7 : (pt7 M S).2.1 ≤ t := ps_set_le p6
  have p8 : (pt8 M S).2.1 ≤ t := ps_takes_le ht ht1 (by decide) p7
  have p9 : (pt9 M S).2.1 ≤ t := ps_num_le ht ht1 p8
  have p10 : (pt10 M S).2.1 ≤ t := ps_set_le (ps_set_le p9)
  have g2 : (pt2 M S).1 = va_up g (8 + n) (cr_k C) := by unfold pt2; rw [ps_set_1, pt1_1, hg, hst, k2]
  -- the rope
  obtain ⟨a3, v3⟩ := ag_num (C := cr_b C g) (pt2 M S) hkb ht ht1 p2 0 (S.1 2 - 1)
  have ec : mk_number (cr_b C g) 0 (S.1 2 - 1) = cr_c C g := by unfold cr_c; rw [hg]
  rw [ec] at a3 v3
  have tail_c : ∀ f q, ag_f (cr_c C g).2 f q → ag_f (cr_s C g n) f q := by
    intro f q hc
    have hd : ag_f (cr_d C g) f q := by unfold cr_d; exact ag_pass_f hc
    have he : ag_f (cr_e C g).2 f q := by unfold cr_e; exact ag_num_f hd
    have hf : ag_f (cr_f C g n) f q := by
      unfold cr_f
      by_cases z : mk_std g (cr_c C g).1 (cr_e C g).1 n = none
      · rw [if_pos z]; exact he
      · rw [if_neg z]; exact ag_tf_f he
    have hG : ag_f (cr_g C g n) f q := by unfold cr_g; exact ag_pass_f hf
    have hh : ag_f (cr_h C g n).2 f q := by unfold cr_h; exact ag_num_f hG
    unfold cr_s
    exact ag_pass_f hh
  by_cases c3 : (ps_num M 0 (S.1 2 - 1) (pt2 M S)).1 = 0
  · rw [if_pos c3]
    exact ⟨Or.inr ⟨rfl, tail_c _ _ (ag_o_0 a3 c3)⟩, fun z => absurd rfl z⟩
  rw [if_neg c3]
  have hkc : ag_K (cr_c C g).2 M (pt3 M S).2.1 := ag_o_1 a3 c3
  have w3 : (cr_c C g).1 = (pt3 M S).2.2.2.2 := v3 c3
  have g3 : (pt3 M S).1 = va_up g (8 + n) (cr_k C) := (ps_num_h _ _ _ _).trans g2
  have g4 : (pt4 M S).1 = va_up (va_up g (8 + n) (cr_k C)) (14 + n) (cr_c C g).1 := by unfold pt4; rw [ps_set_1, g3, hst, w3]
  -- the comma
  have a5 : ag_o (cr_d C g) M (ps_takes M 44 (pt4 M S)) := by
    unfold cr_d
    exact ag_takes (pt4 M S) hkc ht ht1 p4 (by decide) (by decide)
  have tail_d : ∀ f q, ag_f (cr_d C g) f q → ag_f (cr_s C g n) f q := by
    intro f q hd
    have he : ag_f (cr_e C g).2 f q := by unfold cr_e; exact ag_num_f hd
    have hf : ag_f (cr_f C g n) f q := by
      unfold cr_f
      by_cases z : mk_std g (cr_c C g).1 (cr_e C g).1 n = none
      · rw [if_pos z]; exact he
      · rw [if_neg z]; exact ag_tf_f he
    have hG : ag_f (cr_g C g n) f q := by unfold cr_g; exact ag_pass_f hf
    have hh : ag_f (cr_h C g n).2 f q := by unfold cr_h; exact ag_num_f hG
    unfold cr_s
    exact ag_pass_f hh
  by_cases c5 : (ps_takes M 44 (pt4 M S)).1 = 0
  · rw [if_pos c5]
    exact ⟨Or.inr ⟨rfl, tail_d _ _ (ag_o_0 a5 c5)⟩, fun z => absurd rfl z⟩
  rw [if_neg c5]
  have hkd : ag_K (cr_d C g) M (pt5 M S).2.1 := ag_o_1 a5 c5
  have g5 : (pt5 M S).1 = va_up (va_up g (8 + n) (cr_k C)) (14 + n) (cr_c C g).1 := (ps_takes_h _ _ _).trans g4
  -- the place
  obtain ⟨a6, v6⟩ := ag_num (C := cr_d C g) (pt5 M S) hkd ht ht1 p5 1 8
  have ee : mk_number (cr_d C g) 1 8 = cr_e C g := rfl
  rw [ee] at a6 v6
  have tail_f : ∀ f q, ag_f (cr_f C g n) f q → ag_f (cr_s C g n) f q := by
    intro f q hf
    have hG : ag_f (cr_g C g n) f q := by unfold cr_g; exact ag_pass_f hf
    have hh : ag_f (cr_h C g n).2 f q := by unfold cr_h; exact ag_num_f hG
    unfold cr_s
    exact ag_pass_f hh
  by_cases c7 : (ps_num M 1 8 (pt5 M S)).1 = 0
  · rw [if_pos c7]
    refine ⟨Or.inr ⟨rfl, tail_f _ _ ?_⟩, fun z => absurd rfl z⟩
    have he := ag_o_0 a6 c7
    unfold cr_f
    by_cases z : mk_std g (cr_c C g).1 (cr_e C g).1 n = none
    · rw [if_pos z]; exact he
    · rw [if_neg z]; exact ag_tf_f he
  rw [if_neg c7]
  have hke : ag_K (cr_e C g).2 M (pt6 M S).2.1 := ag_o_1 a6 c7
  have w6 : (cr_e C g).1 = (pt6 M S).2.2.2.2 := v6 c7
  have g6 : (pt6 M S).1 = va_up (va_up g (8 + n) (cr_k C)) (14 + n) (cr_c C g).1 := (ps_num_h _ _ _ _).trans g5
  have ew : hs_who (pt6 M S).1 ((pt6 M S).1 (14 + ps_st S)) (pt6 M S).2.2.2.2 (ps_st S) = hs_who g (cr_c C g).1 (cr_e C g).1 n := by
    rw [hst, g6, va_up_self, w6]
    refine ag_who_c n (fun k hk => ?_)
    rw [va_up_ne _ _ (by omega), va_up_ne _ _ (by omega), va_up_ne _ _ (by omega), va_up_ne _ _ (by omega)]
    exact ⟨rfl, rfl⟩
  rw [ew]
  have hw := ag_who_n (g := g) h6 (cr_c C g).1 (cr_e C g).1
  by_cases c8 : hs_who g (cr_c C g).1 (cr_e C g).1 n < 0
  · rw [if_pos c8]
    have ef : cr_f C g n = (cr_e C g).2 := by unfold cr_f; rw [if_pos (hw.mpr c8)]
    have g7 : (pt7 M S).1 = va_up (va_up (va_up g (8 + n) (cr_k C)) (14 + n) (cr_c C g).1) (20 + n) (cr_e C g).1 := by unfold pt7; rw [ps_set_1, g6, hst, w6]
    have a8 : ag_o (cr_g C g n) M (ps_takes M 44 (pt7 M S)) := by
      unfold cr_g
      rw [ef]
      exact ag_takes (pt7 M S) hke ht ht1 p7 (by decide) (by decide)
    by_cases c9 : (ps_takes M 44 (pt7 M S)).1 = 0
    · rw [if_pos c9]
      refine ⟨Or.inr ⟨rfl, ?_⟩, fun z => absurd rfl z⟩
      have hG := ag_o_0 a8 c9
      unfold cr_s cr_h
      exact ag_pass_f (ag_num_f hG)
    rw [if_neg c9]
    have hkg : ag_K (cr_g C g n) M (pt8 M S).2.1 := ag_o_1 a8 c9
    have g8 : (pt8 M S).1 = va_up (va_up (va_up g (8 + n) (cr_k C)) (14 + n) (cr_c C g).1) (20 + n) (cr_e C g).1 := (ps_takes_h _ _ _).trans g7
    obtain ⟨a9, v9⟩ := ag_num (C := cr_g C g n) (pt8 M S) hkg ht ht1 p8 0 20
    have eh : mk_number (cr_g C g n) 0 20 = cr_h C g n := rfl
    rw [eh] at a9 v9
    by_cases c10 : (ps_num M 0 20 (pt8 M S)).1 = 0
    · rw [if_pos c10]
      refine ⟨Or.inr ⟨rfl, ?_⟩, fun z => absurd rfl z⟩
      have hh := ag_o_0 a9 c10
      unfold cr_s
      exact ag_pass_f hh
    rw [if_neg c10]
    have hkh : ag_K (cr_h C g n).2 M (pt9 M S).2.1 := ag_o_1 a9 c10
    have w9 : (cr_h C g n).1 = (pt9 M S).2.2.2.2 := v9 c10
    have g9 : (pt9 M S).1 = va_up (va_up (va_up g (8 + n) (cr_k C)) (14 + n) (cr_c C g).1) (20 + n) (cr_e C g).1 := (ps_num_h _ _ _ _).trans g8
    refine ⟨?_, fun _ => ⟨?_, hn⟩⟩
    · unfold cr_s
      exact ag_takes (pt10 M S) hkh ht ht1 p10 (by decide) (by decide)
    · rw [ps_takes_h]
      unfold pt10
      rw [ps_set_1, ps_set_1, g9, hst, ← w9]
      exact ag_as_e hn (h0 hn) _ _ _ _
  · rw [if_neg c8]
    refine ⟨Or.inr ⟨rfl, tail_f _ _ ?_⟩, fun z => absurd rfl z⟩
    have s6 : (pt6 M S).2.2.1 = (pt5 M S).2.1 := ag_num_s M 1 8 (pt5 M S)
    have f6 : (pt6 M S).2.2.2.1 = 2 := ag_num_2 c7
    show ag_f (cr_f C g n) (pt6 M S).2.2.2.1 (pt6 M S).2.2.1
    rw [s6, f6]
    unfold cr_f
    rw [if_neg (fun z => c8 (hw.mp z)), hkd.2.1]
    exact ag_tf_k hke (by decide)
end AGQ
/-! the tape's loops, and the whole market read both ways -/
def ag_RR (M : Nat → Nat → Int32) (t : Nat) (C : Nat → Nat → Int32) (g : Nat → Int32) (Y : Int32 × ps_S) : Prop := (¬ Y.1 = 0 ∧ ag_K C M Y.2.2.1 ∧ Y.2.1 = g ∧ Y.2.2.1 ≤ t) ∨ (Y.1 = 0 ∧ ag_f C Y.2.2.2.2.1 Y.2.2.2.1)
section AGR
variable {C M : Nat → Nat → Int32} {t : Nat}
theorem ag_RR_rope {g : Nat → Int32} {nr n : Nat} (S : ps_S) (ht : M 9 0 = nI t) (ht1 : t ≤ 100) (hJ : cr_J g nr n) (hk : ag_K C M S.2.1) (hg : S.1 = g) (hp : S.2.1 ≤ t) (hl : nr = 3 → hs_byte M S.2.1 = 108) : ag_RR M t (cr_rope C g) (cr_rg C g nr) (ps_rope M S) ∧ (¬ (ps_rope M S).1 = 0 → cr_rn C g nr = nr + 1) := by
  obtain ⟨h1, h2⟩ := ag_rope_p S hk ht ht1 hp hg hJ.2.1 hJ.2.2 hl
  have hle := ps_rope_le (S := S) ht ht1 hp
  rcases h1 with ⟨a1, a2⟩ | ⟨a1, a2⟩
  · have e25 : cr_rope C g 25 0 = 0 := a2.1
    obtain ⟨b1, b2⟩ := h2 a1
    refine ⟨Or.inl ⟨a1, a2, ?_, hle⟩, fun _ => ?_⟩
    · rw [b1]
      unfold cr_rg
      rw [if_pos e25]
    · unfold cr_rn
      rw [if_pos e25]
  · exact ⟨Or.inr ⟨a1, a2⟩, fun z => absurd a1 z⟩
def ag_Z0 (g : Nat → Int32) (n : Nat) : Prop := ∀ i, n ≤ i → i < 6 → g (32 + i) = 0 ∧ g (38 + i) = 0 ∧ g (44 + i) = 0
theorem ag_Z0_rg {g : Nat → Int32} {nr n : Nat} (h : ag_Z0 g n) (h3 : nr ≤ 3) : ag_Z0 (cr_rg C g nr) n := by
  unfold cr_rg
  split
  · intro i hi h6
    rw [va_up_ne _ _ (by omega), va_up_ne _ _ (by omega), va_up_ne _ _ (by omega), va_up_ne _ _ (by omega), va_up_ne _ _ (by omega), va_up_ne _ _ (by omega)]
    exact h i hi h6
  · exact h
theorem ag_Z0_as {g : Nat → Int32} {n : Nat} {k ro pl go : Int32} (h : ag_Z0 g n) (hn : n < 6) : ag_Z0 (mk_as g n k ro pl go) (n + 1) := by
  intro i hi h6
  rw [mk_as_o g k ro pl go (by omega), mk_as_o g k ro pl go (by omega), mk_as_o g k ro pl go (by omega)]
  exact h i (by omega) h6
theorem ag_RR_stall {g : Nat → Int32} {nr n : Nat} (S : ps_S) (ht : M 9 0 = nI t) (ht1 : t ≤ 100) (hJ : cr_J g nr n) (hz : ag_Z0 g n) (hk : ag_K C M S.2.1) (hg : S.1 = g) (hp : S.2.1 ≤ t) : ag_RR M t (cr_s C g n) (cr_sg C g n) (ps_stall M S) ∧ (¬ (ps_stall M S).1 = 0 → cr_sn C g n = n + 1) ∧ ag_Z0 (cr_sg C g n) (cr_sn C g n) := by
  obtain ⟨h1, h2⟩ := ag_stall_p S hk ht ht1 hp hg hJ.1.1 hJ.1.2.1 (fun h => hz n (Nat.le_refl n) h)
  have hle := ps_stall_le (S := S) ht ht1 hp
  rcases h1 with ⟨a1, a2⟩ | ⟨a1, a2⟩
  · have e25 : cr_s C g n 25 0 = 0 := a2.1
    obtain ⟨b1, b2⟩ := h2 a1
    have e1 : cr_sg C g n = mk_as g n (cr_k C) (cr_c C g).1 (cr_e C g).1 (cr_h C g n).1 := by
      unfold cr_sg
      rw [if_pos e25]
    have e2 : cr_sn C g n = n + 1 := by
      unfold cr_sn
      rw [if_pos e25]
    refine ⟨Or.inl ⟨a1, a2, by rw [b1, e1], hle⟩, fun _ => e2, ?_⟩
    rw [e1, e2]
    exact ag_Z0_as hz b2
  · have e25 : ¬ cr_s C g n 25 0 = 0 := fun z => a2.2.1 (a2.1.symm.trans z)
    have e1 : cr_sg C g n = g := by
      unfold cr_sg
      rw [if_neg e25]
    have e2 : cr_sn C g n = n := by
      unfold cr_sn
      rw [if_neg e25]
    refine ⟨Or.inr ⟨a1, a2⟩, fun z => absurd a1 z, ?_⟩
    rw [e1, e2]
    exact hz
end AGR
/-- the reference's loops stand still where they are done -/
theorem ag_pr_s {M : Nat → Nat → Int32} {Y : Int32 × ps_S} (h : Y.1 = 0 ∨ ¬ hs_byte M Y.2.2.1 = 108) : ∀ f, ps_ropes M f Y = Y := by
  intro f
  cases f with
  | zero => rfl
  | succ f =>
    rw [ps_ropes]
    rcases h with h | h
    · rw [if_pos h]
    · rw [if_neg h]
      split <;> rfl
theorem ag_ps_s {M : Nat → Nat → Int32} {t : Nat} {Y : Int32 × ps_S} (h : Y.1 = 0 ∨ ¬ Y.2.2.1 < t) : ∀ f, ps_stalls M t f Y = Y := by
  intro f
  cases f with
  | zero => rfl
  | succ f =>
    rw [ps_stalls]
    rcases h with h | h
    · rw [if_pos h]
    · rw [if_neg h]
      split <;> rfl
theorem ag_pr_add (M : Nat → Nat → Int32) : ∀ (m j : Nat) (Y : Int32 × ps_S), ps_ropes M (m + j) Y = ps_ropes M j (ps_ropes M m Y) := by
  intro m
  induction m with
  | zero => intro j Y; rw [Nat.zero_add]; rfl
  | succ m ih =>
    intro j Y
    rw [show m + 1 + j = (m + j) + 1 by omega, ps_ropes, ps_ropes]
    by_cases c : Y.1 = 0
    · rw [if_pos c, if_pos c, ag_pr_s (Or.inl c)]
    · rw [if_neg c, if_neg c]
      by_cases c2 : hs_byte M Y.2.2.1 = 108
      · rw [if_pos c2, if_pos c2, ih]
      · rw [if_neg c2, if_neg c2, ag_pr_s (Or.inr c2)]
theorem ag_ps_add (M : Nat → Nat → Int32) (t : Nat) : ∀ (m j : Nat) (Y : Int32 × ps_S), ps_stalls M t (m + j) Y = ps_stalls M t j (ps_stalls M t m Y) := by
  intro m
  induction m with
  | zero => intro j Y; rw [Nat.zero_add]; rfl
  | succ m ih =>
    intro j Y
    rw [show m + 1 + j = (m + j) + 1 by omega, ps_stalls, ps_stalls]
    by_cases c : Y.1 = 0
    · rw [if_pos c, if_pos c, ag_ps_s (Or.inl c)]
    · rw [if_neg c, if_neg c]
      by_cases c2 : Y.2.2.1 < t
      · rw [if_pos c2, if_pos c2, ih]
      · rw [if_neg c2, if_neg c2, ag_ps_s (Or.inr c2)]
theorem ag_rs_y {X : cr_R} {k : Nat} (h : (cr_rs X k).1 25 0 = 0 ∧ (k = 0 ∨ mk_by (cr_rs X k).1 ((cr_rs X k).1 24 0) = 108)) : cr_rs X (k + 1) = cr_rp (cr_rs X k) := by
  rw [cr_rs]
  exact if_pos h
theorem ag_rs_n {X : cr_R} {k : Nat} (h : ¬ ((cr_rs X k).1 25 0 = 0 ∧ (k = 0 ∨ mk_by (cr_rs X k).1 ((cr_rs X k).1 24 0) = 108))) : cr_rs X (k + 1) = cr_rs X k := by
  rw [cr_rs]
  exact if_neg h
theorem ag_ss_y {X : cr_R} {k : Nat} (h : (cr_ss X k).1 25 0 = 0 ∧ (cr_ss X k).1 24 0 < (cr_ss X k).1 9 0) : cr_ss X (k + 1) = cr_st (cr_ss X k) := by
  rw [cr_ss]
  exact if_pos h
theorem ag_ss_n {X : cr_R} {k : Nat} (h : ¬ ((cr_ss X k).1 25 0 = 0 ∧ (cr_ss X k).1 24 0 < (cr_ss X k).1 9 0)) : cr_ss X (k + 1) = cr_ss X k := by
  rw [cr_ss]
  exact if_neg h
theorem cr_rp_1 (X : cr_R) : (cr_rp X).1 = cr_rope X.1 X.2.1 := by unfold cr_rp; dsimp only
theorem cr_rp_2 (X : cr_R) : (cr_rp X).2.1 = cr_rg X.1 X.2.1 X.2.2.1 := by unfold cr_rp; dsimp only
theorem cr_rp_3 (X : cr_R) : (cr_rp X).2.2.1 = cr_rn X.1 X.2.1 X.2.2.1 := by unfold cr_rp; dsimp only
theorem cr_st_1 (X : cr_R) : (cr_st X).1 = cr_s X.1 X.2.1 X.2.2.2 := by unfold cr_st; dsimp only
theorem cr_st_2 (X : cr_R) : (cr_st X).2.1 = cr_sg X.1 X.2.1 X.2.2.2 := by unfold cr_st; dsimp only
theorem cr_st_3 (X : cr_R) : (cr_st X).2.2.1 = X.2.2.1 := by unfold cr_st; dsimp only
theorem cr_st_4 (X : cr_R) : (cr_st X).2.2.2 = cr_sn X.1 X.2.1 X.2.2.2 := by unfold cr_st; dsimp only
section AGR
variable {C M : Nat → Nat → Int32} {t : Nat}
/-- what stands behind k ropes: all of them read, or the reading has ended -/
def ag_RK (M : Nat → Nat → Int32) (t : Nat) (X : cr_R) (k : Nat) (Y : Int32 × ps_S) : Prop := ag_RR M t X.1 X.2.1 Y ∧ cr_J X.2.1 X.2.2.1 X.2.2.2 ∧ ag_Z0 X.2.1 X.2.2.2 ∧ (¬ Y.1 = 0 → X.2.2.1 = k ∨ ¬ hs_byte M Y.2.2.1 = 108)
theorem ag_rs_step {X : cr_R} {k : Nat} {Y : Int32 × ps_S} (ht : M 9 0 = nI t) (ht1 : t ≤ 100) (hk1 : 1 ≤ k) (h : ag_RK M t (cr_rs X k) k Y) : ∃ Y', ag_RK M t (cr_rs X (k + 1)) (k + 1) Y' ∧ ∀ f, ps_ropes M (f + 1) Y = ps_ropes M f Y' := by
  obtain ⟨h1, h2, h4, h3⟩ := h
  rcases h1 with ⟨a1, a2, a3, a4⟩ | ⟨a1, a2⟩
  · have e24 : (cr_rs X k).1 24 0 = nI Y.2.2.1 := a2.2.1
    have e := ag_by_eq a2 ht ht1 (q := Y.2.2.1) (by omega) (c := 108) (by decide) (by decide)
    by_cases c : hs_byte M Y.2.2.1 = 108
    · have hnr : (cr_rs X k).2.2.1 = k := (h3 a1).resolve_right (fun z => z c)
      obtain ⟨b1, b2⟩ := ag_RR_rope Y.2 ht ht1 h2 a2 a3 a4 (fun _ => c)
      refine ⟨ps_rope M Y.2, ?_, fun f => ?_⟩
      · rw [ag_rs_y ⟨a2.1, Or.inr (by rw [e24]; exact e.mpr c)⟩]
        unfold ag_RK
        rw [cr_rp_1, cr_rp_2, cr_rp_3, cr_rp_n]
        exact ⟨b1, cr_J_rp h2, ag_Z0_rg h4 h2.2.2, fun z => Or.inl (by rw [b2 z, hnr])⟩
      · rw [ps_ropes, if_neg a1, if_pos c]
    · refine ⟨Y, ?_, fun f => ?_⟩
      · rw [ag_rs_n (by
          rintro ⟨-, z | z⟩
          · omega
          · rw [e24] at z; exact c (e.mp z))]
        exact ⟨Or.inl ⟨a1, a2, a3, a4⟩, h2, h4, fun _ => Or.inr c⟩
      · rw [ag_pr_s (Or.inr c), ag_pr_s (Or.inr c)]
  · refine ⟨Y, ?_, fun f => ?_⟩
    · rw [ag_rs_n (fun z => a2.2.1 (a2.1.symm.trans z.1))]
      exact ⟨Or.inr ⟨a1, a2⟩, h2, h4, fun z => absurd a1 z⟩
    · rw [ag_pr_s (Or.inl a1), ag_pr_s (Or.inl a1)]
theorem ag_rs_all {X : cr_R} {Y : Int32 × ps_S} (ht : M 9 0 = nI t) (ht1 : t ≤ 100) (h : ag_RK M t (cr_rs X 1) 1 Y) : ag_RR M t (cr_rs X 4).1 (cr_rs X 4).2.1 (ps_ropes M 5 Y) ∧ cr_J (cr_rs X 4).2.1 (cr_rs X 4).2.2.1 (cr_rs X 4).2.2.2 ∧ ag_Z0 (cr_rs X 4).2.1 (cr_rs X 4).2.2.2 := by
  obtain ⟨Y2, h2, e2⟩ := ag_rs_step ht ht1 (by omega) h
  obtain ⟨Y3, h3, e3⟩ := ag_rs_step ht ht1 (by omega) h2
  obtain ⟨Y4, h4, e4⟩ := ag_rs_step ht ht1 (by omega) h3
  obtain ⟨k1, k2, k3, k4⟩ := h4
  have h3' := k2.2.2
  rw [e2 4, e3 3, e4 2, ag_pr_s]
  · exact ⟨k1, k2, k3⟩
  · by_cases c : Y4.1 = 0
    · exact Or.inl c
    · rcases k4 c with z | z
      · omega
      · exact Or.inr z
def ag_SK (M : Nat → Nat → Int32) (t : Nat) (X : cr_R) (k : Nat) (Y : Int32 × ps_S) : Prop := ag_RR M t X.1 X.2.1 Y ∧ cr_J X.2.1 X.2.2.1 X.2.2.2 ∧ ag_Z0 X.2.1 X.2.2.2 ∧ (¬ Y.1 = 0 → X.2.2.2 = k ∨ ¬ Y.2.2.1 < t)
theorem ag_ss_step {X : cr_R} {k : Nat} {Y : Int32 × ps_S} (ht : M 9 0 = nI t) (ht1 : t ≤ 100) (h : ag_SK M t (cr_ss X k) k Y) : ∃ Y', ag_SK M t (cr_ss X (k + 1)) (k + 1) Y' ∧ ∀ f, ps_stalls M t (f + 1) Y = ps_stalls M t f Y' := by
  obtain ⟨h1, h2, h4, h3⟩ := h
  rcases h1 with ⟨a1, a2, a3, a4⟩ | ⟨a1, a2⟩
  · have e24 : (cr_ss X k).1 24 0 = nI Y.2.2.1 := a2.2.1
    have e9 : (cr_ss X k).1 9 0 = nI t := by rw [a2.2.2.2]; exact ht
    have e := nI_ltI (a := Y.2.2.1) (b := t) (by omega) (by omega)
    by_cases c : Y.2.2.1 < t
    · have hnr : (cr_ss X k).2.2.2 = k := (h3 a1).resolve_right (fun z => z c)
      obtain ⟨b1, b2, b3⟩ := ag_RR_stall Y.2 ht ht1 h2 h4 a2 a3 a4
      refine ⟨ps_stall M Y.2, ?_, fun f => ?_⟩
      · rw [ag_ss_y ⟨a2.1, by rw [e24, e9]; exact e.mpr c⟩]
        unfold ag_SK
        rw [cr_st_1, cr_st_2, cr_st_3, cr_st_4]
        exact ⟨b1, cr_J_st h2, b3, fun z => Or.inl (by rw [b2 z, hnr])⟩
      · rw [ps_stalls, if_neg a1, if_pos c]
    · refine ⟨Y, ?_, fun f => ?_⟩
      · rw [ag_ss_n (by
          rintro ⟨-, z⟩
          rw [e24, e9] at z
          exact c (e.mp z))]
        exact ⟨Or.inl ⟨a1, a2, a3, a4⟩, h2, h4, fun _ => Or.inr c⟩
      · rw [ag_ps_s (Or.inr c), ag_ps_s (Or.inr c)]
  · refine ⟨Y, ?_, fun f => ?_⟩
    · rw [ag_ss_n (fun z => a2.2.1 (a2.1.symm.trans z.1))]
      exact ⟨Or.inr ⟨a1, a2⟩, h2, h4, fun z => absurd a1 z⟩
    · rw [ag_ps_s (Or.inl a1), ag_ps_s (Or.inl a1)]
theorem ag_ss_all {X : cr_R} {Y : Int32 × ps_S} (ht : M 9 0 = nI t) (ht1 : t ≤ 100) (h : ag_SK M t (cr_ss X 0) 0 Y) : ag_RR M t (cr_ss X 7).1 (cr_ss X 7).2.1 (ps_stalls M t 8 Y) ∧ cr_J (cr_ss X 7).2.1 (cr_ss X 7).2.2.1 (cr_ss X 7).2.2.2 := by
  obtain ⟨Y1, h1, e1⟩ := ag_ss_step ht ht1 h
  obtain ⟨Y2, h2, e2⟩ := ag_ss_step ht ht1 h1
  obtain ⟨Y3, h3, e3⟩ := ag_ss_step ht ht1 h2
  obtain ⟨Y4, h4, e4⟩ := ag_ss_step ht ht1 h3
  obtain ⟨Y5, h5, e5⟩ := ag_ss_step ht ht1 h4
  obtain ⟨Y6, h6, e6⟩ := ag_ss_step ht ht1 h5
  obtain ⟨Y7, h7, e7⟩ := ag_ss_step ht ht1 h6
  obtain ⟨k1, k2, k3, k4⟩ := h7
  have h6' := k2.1.2.1
  rw [e1 7, e2 6, e3 5, e4 4, e5 3, e6 2, e7 1, ag_ps_s]
  · exact ⟨k1, k2⟩
  · by_cases c : Y7.1 = 0
    · exact Or.inl c
    · rcases k4 c with z | z
      · omega
      · exact Or.inr z
theorem ag_g0_e (a b : Int32) : va_up (va_up (fun _ => 0) 0 a) 1 b = mk_g0 a b := by
  funext j
  unfold mk_g0
  by_cases c1 : j = 1
  · rw [c1, va_up_self, if_neg (by omega), if_pos rfl]
  rw [va_up_ne _ _ c1]
  by_cases c0 : j = 0
  · rw [c0, va_up_self, if_pos rfl]
  · rw [va_up_ne _ _ c0, if_neg c0, if_neg c1]
theorem ag_Z0_g0 (a b : Int32) : ag_Z0 (mk_g0 a b) 0 := by
  intro i _ _
  unfold mk_g0
  rw [if_neg (by omega), if_neg (by omega), if_neg (by omega), if_neg (by omega), if_neg (by omega), if_neg (by omega)]
  exact ⟨rfl, rfl, rfl⟩
theorem cr_0_1 (C : Nat → Nat → Int32) : (cr_0 C).1 = cr_law (cr_S0 C) := by unfold cr_0; dsimp only
theorem cr_0_2 (C : Nat → Nat → Int32) : (cr_0 C).2.1 = mk_g0 (cr_l2 (cr_S0 C)).1 (cr_l4 (cr_S0 C)).1 := by unfold cr_0; dsimp only
theorem cr_0_3 (C : Nat → Nat → Int32) : (cr_0 C).2.2.1 = 0 := by unfold cr_0; dsimp only
theorem cr_0_4 (C : Nat → Nat → Int32) : (cr_0 C).2.2.2 = 0 := by unfold cr_0; dsimp only
theorem cr_rs_0 (X : cr_R) : cr_rs X 0 = X := by rw [cr_rs]
theorem cr_ss_0 (X : cr_R) : cr_ss X 0 = X := by rw [cr_ss]
/-- THE WHOLE TAPE: a market read alike, or one fault at one place -/
theorem ag_read (s0 : Nat) (h8 : C 8 = M 8) (h9 : C 9 = M 9) (ht : M 9 0 = nI t) (ht1 : t ≤ 100) : ag_RR M t (cr_all C).1 (cr_all C).2.1 (ps_market M t s0) ∧ cr_J (cr_all C).2.1 (cr_all C).2.2.1 (cr_all C).2.2.2 := by
  have hk0 : ag_K (cr_S0 C) M (ps_S0 M s0).2.1 := ⟨rfl, rfl, h8, h9⟩
  obtain ⟨l1, l2⟩ := ag_law (C := cr_S0 C) (ps_S0 M s0) hk0 ht ht1 (Nat.zero_le _)
  have hle := ps_law_le (S := ps_S0 M s0) ht ht1 (Nat.zero_le _)
  have eS : (ps_S0 M s0).1 = fun _ => 0 := rfl
  have hJ0 : cr_J (cr_0 C).2.1 (cr_0 C).2.2.1 (cr_0 C).2.2.2 := by
    rw [cr_0_2, cr_0_3, cr_0_4]
    exact cr_J_g0 _ _
  have hZ0 : ag_Z0 (cr_0 C).2.1 (cr_0 C).2.2.2 := by
    rw [cr_0_2, cr_0_4]
    exact ag_Z0_g0 _ _
  have h1 : ag_RK M t (cr_rs (cr_0 C) 1) 1 (ps_start M (ps_S0 M s0)) := by
    unfold ps_start
    by_cases c : (ps_law M (ps_S0 M s0)).1 = 0
    · rw [if_pos c]
      have hf := ag_o_0 l1 c
      have hf' : ag_f (cr_rs (cr_0 C) 0).1 (ps_law M (ps_S0 M s0)).2.2.2.2.1 (ps_law M (ps_S0 M s0)).2.2.2.1 := by
        rw [cr_rs_0, cr_0_1]
        exact hf
      rw [ag_rs_n (fun z => hf'.2.1 (hf'.1.symm.trans z.1)), cr_rs_0]
      rw [cr_rs_0] at hf'
      exact ⟨Or.inr ⟨rfl, hf'⟩, hJ0, hZ0, fun z => absurd rfl z⟩
    · rw [if_neg c]
      have hk1 := ag_o_1 l1 c
      have hg1 := l2 c
      rw [eS, ag_g0_e] at hg1
      have hkk : ag_K (cr_0 C).1 M (ps_law M (ps_S0 M s0)).2.2.1 := by rw [cr_0_1]; exact hk1
      have hgg : (ps_law M (ps_S0 M s0)).2.1 = (cr_0 C).2.1 := by rw [cr_0_2]; exact hg1
      obtain ⟨b1, b2⟩ := ag_RR_rope (ps_law M (ps_S0 M s0)).2 ht ht1 hJ0 hkk hgg hle (fun z => by rw [cr_0_3] at z; omega)
      rw [ag_rs_y ⟨by rw [cr_rs_0]; exact hkk.1, Or.inl rfl⟩, cr_rs_0]
      by_cases c2 : (ps_rope M (ps_law M (ps_S0 M s0)).2).1 = 0
      · rw [if_pos c2]
        unfold ag_RK
        rw [cr_rp_1, cr_rp_2, cr_rp_3, cr_rp_n]
        refine ⟨?_, cr_J_rp hJ0, ag_Z0_rg hZ0 hJ0.2.2, fun z => absurd rfl z⟩
        rcases b1 with ⟨z, -⟩ | ⟨-, z⟩
        · exact absurd c2 z
        · exact Or.inr ⟨rfl, z⟩
      · rw [if_neg c2]
        unfold ag_RK
        rw [cr_rp_1, cr_rp_2, cr_rp_3, cr_rp_n]
        refine ⟨?_, cr_J_rp hJ0, ag_Z0_rg hZ0 hJ0.2.2, fun _ => Or.inl (by rw [b2 c2, cr_0_3])⟩
        rcases b1 with ⟨-, z⟩ | ⟨z, -⟩
        · exact Or.inl ⟨by decide, z⟩
        · exact absurd z c2
  obtain ⟨r1, r2, r3⟩ := ag_rs_all ht ht1 h1
  have n4 : (cr_rs (cr_0 C) 4).2.2.2 = 0 := by rw [cr_rs_n, cr_0_4]
  have h2 : ag_SK M t (cr_ss (cr_1 C) 0) 0 (ps_ropes M 5 (ps_start M (ps_S0 M s0))) := by
    rw [cr_ss_0]
    unfold cr_1
    exact ⟨r1, r2, r3, fun _ => Or.inl n4⟩
  have h3 := ag_ss_all ht ht1 h2
  unfold cr_all ps_market
  exact h3
end AGR
theorem hdX8_number : yX8_number.cls = RX8 ∧ yX8_number.cls ≠ "java/lang/invoke/MethodHandle" ∧ yX8_number.cls ≠ "java/lang/invoke/VarHandle" ∧ (parseMethodDescriptor yX8_number.desc).map (fun d => d.parameters.length) = some 2 := by decide +kernel
theorem hdX8_pass : yX8_pass.cls = RX8 ∧ yX8_pass.cls ≠ "java/lang/invoke/MethodHandle" ∧ yX8_pass.cls ≠ "java/lang/invoke/VarHandle" ∧ (parseMethodDescriptor yX8_pass.desc).map (fun d => d.parameters.length) = some 1 := by decide +kernel
set_option maxRecDepth 100000 in
set_option maxHeartbeats 4000000 in
theorem c_X8_readLaw (l : Launch) (D : va_G) (b0 : Nat) (L : List Nat) (f : Nat → va_E) (oa : Nat → Nat) (C : Nat → Nat → Int32) (mr : Nat) (im : Nat → Option Nat) (mk : Nat) (ad : Nat → Nat) (n : Nat) (g : Nat → Int32) (hm : mk_ok L mk ad n) (hs : mk_sr g n) (ho : ob_ok L oa mk ad n) : hg_Mq l yX8_readLaw wsX8_readLaw ({ frames := 3, cells := 3, slots := 15, locals := 62 }) D b0 L (ob_W D f oa C mr im mk ad n g) [.ref (oa 2)] (fun v u => ∃ mk2 ad2 N, v = some mk2 ∧ mk2 ∉ L ∧ (∀ j, j < 0 + 2 → ad2 j ∉ L) ∧ mk_ok (L ++ N) mk2 ad2 0 ∧ u = (L ++ N, mk_F D (ob_W D f oa (cr_law C) mr im mk ad n g) mk2 ad2 0 (mk_g0 (cr_l2 C).1 (cr_l4 C).1))) 3 15 := by
  refine hg_in_q (cc := cX8_readLaw) (nL := 3) (by decide) rfl (Nat.le_of_ble_eq_true rfl) (fun p e s m args below meth c R Q X hR hend H locs ls w hl => ?_)
  subst hR
  obtain ⟨hx, hb, hml, hown, hts⟩ := id X.1
  have hin3 : ∀ w ∈ wsX30, w ∈ wsX8_readLaw := fun w h => List.mem_cons_of_mem _ (List.mem_append_left _ (List.mem_append_right _ h))
  have hin8 : ∀ w ∈ wsX80, w ∈ wsX8_readLaw := fun w h => List.mem_cons_of_mem _ (List.mem_append_right _ h)
  have hl : lv_has ls 3 [(0, .ref (oa 2))] := hl
  refine lv_aload_n hx hb dX8_readLaw_0 rfl (lv_at hl 0 rfl) ?_
  refine lv_bipush (v := 109) hx hb dX8_readLaw_1 (by decide) ?_
  refine hg_vvF (As := [.int (109)]) (rest := []) X w (c_X8_pass l D b0 L f oa C mr im mk ad n g hm hs ho 109) (cwV 1 hts gX8_readLaw_X8_pass rfl rfl rfl hdX8_pass ⟨Nat.le_of_ble_eq_true rfl, Nat.le_of_ble_eq_true rfl⟩) (ho.1 2 (by decide)).1 (ow_at ho (k := 2) (by decide)) rfl rfl rfl hl.1 rfl (Nat.le_of_ble_eq_true rfl) dX8_readLaw_3 ⟨Nat.zero_le _, Nat.zero_le _⟩ (fun H locs w => ?_)
  refine lv_aload_n hx hb dX8_readLaw_6 rfl (lv_at hl 0 rfl) ?_
  refine lv_iconst (v := 0) hx hb dX8_readLaw_7 (by decide) ?_
  refine lv_bipush (v := 99) hx hb dX8_readLaw_8 (by decide) ?_
  refine hg_viF (r := (mk_number (mk_pass C 109) 0 99).1) (As := [.int (0), .int (99)]) (rest := []) X w (c_X8_number l D b0 L f oa (mk_pass C 109) mr im mk ad n g hm hs ho 0 99) (cwV 2 hts gX8_readLaw_X8_number rfl rfl rfl hdX8_number ⟨Nat.le_of_ble_eq_true rfl, Nat.le_of_ble_eq_true rfl⟩) (ho.1 2 (by decide)).1 (ow_at ho (k := 2) (by decide)) rfl rfl rfl hl.1 rfl (Nat.le_of_ble_eq_true rfl) dX8_readLaw_10 ⟨Nat.zero_le _, Nat.zero_le _⟩ (fun H locs w => ?_)
  refine lv_istore_n (lv' := [(1, .int ((mk_number (mk_pass C 109) 0 99).1)), (0, .ref (oa 2))]) hx hb dX8_readLaw_13 rfl hl (by decide) rfl (fun ls hl => ?_)
  refine lv_aload_n hx hb dX8_readLaw_14 rfl (lv_at hl 1 rfl) ?_
  refine lv_bipush (v := 44) hx hb dX8_readLaw_15 (by decide) ?_
  refine hg_vvF (As := [.int (44)]) (rest := []) X w (c_X8_pass l D b0 L f oa ((mk_number (mk_pass C 109) 0 99).2) mr im mk ad n g hm hs ho 44) (cwV 1 hts gX8_readLaw_X8_pass rfl rfl rfl hdX8_pass ⟨Nat.le_of_ble_eq_true rfl, Nat.le_of_ble_eq_true rfl⟩) (ho.1 2 (by decide)).1 (ow_at ho (k := 2) (by decide)) rfl rfl rfl hl.1 rfl (Nat.le_of_ble_eq_true rfl) dX8_readLaw_17 ⟨Nat.zero_le _, Nat.zero_le _⟩ (fun H locs w => ?_)
  refine lv_aload_n hx hb dX8_readLaw_20 rfl (lv_at hl 1 rfl) ?_
  refine lv_iconst (v := 0) hx hb dX8_readLaw_21 (by decide) ?_
  refine lv_bipush (v := 20) hx hb dX8_readLaw_22 (by decide) ?_
  refine hg_viF (r := (mk_number (mk_pass ((mk_number (mk_pass C 109) 0 99).2) 44) 0 20).1) (As := [.int (0), .int (20)]) (rest := []) X w (c_X8_number l D b0 L f oa (mk_pass ((mk_number (mk_pass C 109) 0 99).2) 44) mr im mk ad n g hm hs ho 0 20) (cwV 2 hts gX8_readLaw_X8_number rfl rfl rfl hdX8_number ⟨Nat.le_of_ble_eq_true rfl, Nat.le_of_ble_eq_true rfl⟩) (ho.1 2 (by decide)).1 (ow_at ho (k := 2) (by decide)) rfl rfl rfl hl.1 rfl (Nat.le_of_ble_eq_true rfl) dX8_readLaw_24 ⟨Nat.zero_le _, Nat.zero_le _⟩ (fun H locs w => ?_)
  refine lv_istore_n (lv' := [(2, .int ((mk_number (mk_pass ((mk_number (mk_pass C 109) 0 99).2) 44) 0 20).1)), (1, .int ((mk_number (mk_pass C 109) 0 99).1)), (0, .ref (oa 2))]) hx hb dX8_readLaw_27 rfl hl (by decide) rfl (fun ls hl => ?_)
  refine lv_aload_n hx hb dX8_readLaw_28 rfl (lv_at hl 2 rfl) ?_
  refine lv_bipush (v := 59) hx hb dX8_readLaw_29 (by decide) ?_
  refine hg_vvF (As := [.int (59)]) (rest := []) X w (c_X8_pass l D b0 L f oa ((mk_number (mk_pass ((mk_number (mk_pass C 109) 0 99).2) 44) 0 20).2) mr im mk ad n g hm hs ho 59) (cwV 1 hts gX8_readLaw_X8_pass rfl rfl rfl hdX8_pass ⟨Nat.le_of_ble_eq_true rfl, Nat.le_of_ble_eq_true rfl⟩) (ho.1 2 (by decide)).1 (ow_at ho (k := 2) (by decide)) rfl rfl rfl hl.1 rfl (Nat.le_of_ble_eq_true rfl) dX8_readLaw_31 ⟨Nat.zero_le _, Nat.zero_le _⟩ (fun H locs w => ?_)
  refine hg_new X w (C := RX3) (T := TX3) (N := 6) (ci := 2) (ty0 := tyX3) hin3 tyX3_ok rfl (List.mem_of_getElem? (i := 1) rfl) (List.mem_of_getElem? (i := 2) rfl) (List.mem_of_getElem? (i := 3) rfl) (fs := [.int 0, .int 0, .int 0, .int 0, .null, .null]) (fun j hj => by match j, hj with | 0, _ | 1, _ | 2, _ | 3, _ | 4, _ | 5, _ => rfl) (Nat.le_of_ble_eq_true rfl) (Nat.le_of_ble_eq_true rfl) dX8_readLaw_34 (fun q0 H hq0 w => ?_)
  refine lv_dup hx hb dX8_readLaw_37 rfl ?_
  refine lv_iload_n hx hb dX8_readLaw_38 rfl (lv_at hl 1 rfl) ?_
  refine lv_iload_n hx hb dX8_readLaw_39 rfl (lv_at hl 0 rfl) ?_
  refine hg_init (As := [.int ((mk_number (mk_pass C 109) 0 99).1), .int ((mk_number (mk_pass ((mk_number (mk_pass C 109) 0 99).2) 44) 0 20).1)]) (rest := [.ref q0]) X w (c_X3_init l D b0 (L ++ [q0]) (va_up (ob_W D f oa (mk_pass ((mk_number (mk_pass ((mk_number (mk_pass C 109) 0 99).2) 44) 0 20).2) 59) mr im mk ad n g) q0 (.inr (2, [.int 0, .int 0, .int 0, .int 0, .null, .null]))) q0 (List.mem_append_right _ (List.mem_of_getElem? (i := 0) rfl)) (va_up_self _ _ _) ((mk_number (mk_pass C 109) 0 99).1) ((mk_number (mk_pass ((mk_number (mk_pass C 109) 0 99).2) 44) 0 20).1)) (cwI 2 hts ggX8_readLaw_X3_init rfl rfl rfl (hts _ (List.mem_of_getElem? (i := 3) rfl)) (hts _ (List.mem_of_getElem? (i := 34) rfl)) (hts _ (List.mem_of_getElem? (i := 35) rfl)) rfl hdX3_init ⟨Nat.le_of_ble_eq_true rfl, Nat.le_of_ble_eq_true rfl⟩) rfl hl.1 rfl (Nat.le_of_ble_eq_true rfl) dX8_readLaw_40 ⟨(Nat.le_of_ble_eq_true rfl), (Nat.le_of_ble_eq_true rfl)⟩ (fun u H locs hp w => ?_)
  obtain ⟨q1, q2, hq1, hq2, rfl⟩ := hp
  have hmo := mk_ok_0 (List.mem_append_right L (List.mem_of_getElem? (l := [q0]) (i := 0) rfl)) hq1 hq2
  have w : hg_W D b0 (L ++ [q0] ++ [q1, q2]) (mk_F D (ob_W D f oa (mk_pass ((mk_number (mk_pass ((mk_number (mk_pass C 109) 0 99).2) 44) 0 20).2) 59) mr im mk ad n g) q0 (mk_a2 q1 q2) 0 (mk_g0 ((mk_number (mk_pass C 109) 0 99).1) ((mk_number (mk_pass ((mk_number (mk_pass C 109) 0 99).2) 44) 0 20).1))) s.heap H locs := by
    have e := mk_three (D := D) (f := ob_W D f oa (mk_pass ((mk_number (mk_pass ((mk_number (mk_pass C 109) 0 99).2) 44) 0 20).2) 59) mr im mk ad n g) (g := (mk_g0 ((mk_number (mk_pass C 109) 0 99).1) ((mk_number (mk_pass ((mk_number (mk_pass C 109) 0 99).2) 44) 0 20).1))) hmo (t := fun _ => 0) (mk_ta_g0 _ _).symm
    rw [← e]
    rw [bx_uu] at w
    exact w
  rw [List.append_assoc] at w hmo
  exact hend H locs (some q0) (L ++ ([q0] ++ [q1, q2]), mk_F D (ob_W D f oa (mk_pass ((mk_number (mk_pass ((mk_number (mk_pass C 109) 0 99).2) 44) 0 20).2) 59) mr im mk ad n g) q0 (mk_a2 q1 q2) 0 (mk_g0 ((mk_number (mk_pass C 109) 0 99).1) ((mk_number (mk_pass ((mk_number (mk_pass C 109) 0 99).2) 44) 0 20).1))) _ ls w ⟨q0, mk_a2 q1 q2, [q0] ++ [q1, q2], rfl, hq0, (by
    intro j hj
    rcases (show j = 0 ∨ j = 1 by omega) with rfl | rfl
    · exact fun z => hq1 (List.mem_append_left _ z)
    · exact fun z => hq2 (List.mem_append_left _ (List.mem_append_left _ z))), hmo, rfl⟩ dX8_readLaw_43
theorem hdX3_addRope : yX3_addRope.cls = RX3 ∧ yX3_addRope.cls ≠ "java/lang/invoke/MethodHandle" ∧ yX3_addRope.cls ≠ "java/lang/invoke/VarHandle" ∧ (parseMethodDescriptor yX3_addRope.desc).map (fun d => d.parameters.length) = some 1 := by decide +kernel
set_option maxRecDepth 100000 in
set_option maxHeartbeats 4000000 in
theorem c_X8_readRope (l : Launch) (D : va_G) (b0 : Nat) (L : List Nat) (f : Nat → va_E) (oa : Nat → Nat) (C : Nat → Nat → Int32) (mr : Nat) (im : Nat → Option Nat) (mk : Nat) (ad : Nat → Nat) (n : Nat) (g : Nat → Int32) (hm : mk_ok L mk ad n) (hs : mk_sr g n) (ho : ob_ok L oa mk ad n) (nr : Nat) (h2 : g 2 = nI nr) (h3 : nr ≤ 3) : hg_Fv l yX8_readRope wsX8_readRope ({ frames := 3, cells := 0, slots := 0, locals := 62 }) D b0 L (ob_W D f oa C mr im mk ad n g) [.ref (oa 2), .ref mk] (ob_W D f oa (cr_rope C g) mr im mk ad n (cr_rg C g nr)) := by
  refine hg_in_v (cc := cX8_readRope) (nL := 3) (by decide) rfl (Nat.le_of_ble_eq_true rfl) (fun p e s m args below meth c R Q X _ hR hend H locs ls w hl => ?_)
  subst hR
  obtain ⟨hx, hb, hml, hown, hts⟩ := id X.1
  have hin3 : ∀ w ∈ wsX30, w ∈ wsX8_readRope := fun w h => List.mem_cons_of_mem _ (List.mem_append_left _ (List.mem_append_right _ h))
  have hin8 : ∀ w ∈ wsX80, w ∈ wsX8_readRope := fun w h => List.mem_cons_of_mem _ (List.mem_append_right _ h)
  have hl : lv_has ls 3 [(0, .ref (oa 2)), (1, .ref mk)] := hl
  refine lv_aload_n hx hb dX8_readRope_0 rfl (lv_at hl 1 rfl) ?_
  refine mk_getM X w hm hin3 2 (by decide) (List.mem_of_getElem? (i := 1) rfl) rfl dX8_readRope_1 ?_
  refine lv_iconst (v := 3) hx hb dX8_readRope_4 (by decide) ?_
  refine lv_icmp_ne (tgt := 17) hx hb dX8_readRope_5 (by decide) (fun c_5 => ?_) (fun c_5 => ?_)
  · refine lv_aload_n hx hb dX8_readRope_17 rfl (lv_at hl 0 rfl) ?_
    refine lv_bipush (v := 108) hx hb dX8_readRope_18 (by decide) ?_
    refine hg_vvF (As := [.int (108)]) (rest := []) X w (c_X8_pass l D b0 L f oa C mr im mk ad n g hm hs ho 108) (cwV 1 hts gX8_readRope_X8_pass rfl rfl rfl hdX8_pass ⟨Nat.le_of_ble_eq_true rfl, Nat.le_of_ble_eq_true rfl⟩) (ho.1 2 (by decide)).1 (ow_at ho (k := 2) (by decide)) rfl rfl rfl hl.1 rfl (Nat.le_of_ble_eq_true rfl) dX8_readRope_20 ⟨Nat.zero_le _, Nat.zero_le _⟩ (fun H locs w => ?_)
    refine lv_aload_n hx hb dX8_readRope_23 rfl (lv_at hl 0 rfl) ?_
    refine lv_iconst (v := 1) hx hb dX8_readRope_24 (by decide) ?_
    refine lv_bipush (v := 20) hx hb dX8_readRope_25 (by decide) ?_
    refine hg_viF (r := (mk_number (mk_pass C 108) 1 20).1) (As := [.int (1), .int (20)]) (rest := []) X w (c_X8_number l D b0 L f oa (mk_pass C 108) mr im mk ad n g hm hs ho 1 20) (cwV 2 hts gX8_readRope_X8_number rfl rfl rfl hdX8_number ⟨Nat.le_of_ble_eq_true rfl, Nat.le_of_ble_eq_true rfl⟩) (ho.1 2 (by decide)).1 (ow_at ho (k := 2) (by decide)) rfl rfl rfl hl.1 rfl (Nat.le_of_ble_eq_true rfl) dX8_readRope_27 ⟨Nat.zero_le _, Nat.zero_le _⟩ (fun H locs w => ?_)
    refine lv_istore_n (lv' := [(2, .int ((mk_number (mk_pass C 108) 1 20).1)), (0, .ref (oa 2)), (1, .ref mk)]) hx hb dX8_readRope_30 rfl hl (by decide) rfl (fun ls hl => ?_)
    refine lv_aload_n hx hb dX8_readRope_31 rfl (lv_at hl 1 rfl) ?_
    refine lv_bipush (v := 59) hx hb dX8_readRope_32 (by decide) ?_
    refine hg_vvF (As := [.int (59)]) (rest := []) X w (c_X8_pass l D b0 L f oa ((mk_number (mk_pass C 108) 1 20).2) mr im mk ad n g hm hs ho 59) (cwV 1 hts gX8_readRope_X8_pass rfl rfl rfl hdX8_pass ⟨Nat.le_of_ble_eq_true rfl, Nat.le_of_ble_eq_true rfl⟩) (ho.1 2 (by decide)).1 (ow_at ho (k := 2) (by decide)) rfl rfl rfl hl.1 rfl (Nat.le_of_ble_eq_true rfl) dX8_readRope_34 ⟨Nat.zero_le _, Nat.zero_le _⟩ (fun H locs w => ?_)
    refine lv_aload_n hx hb dX8_readRope_37 rfl (lv_at hl 1 rfl) ?_
    refine ob_get X w ho 2 (by decide) (C0 := RX8) (T := TX8) (N := 5) (ci := 6) rfl hin8 rfl 3 (by decide) (List.mem_of_getElem? (i := 3) rfl) rfl rfl dX8_readRope_38 ?_
    refine lv_if_ne (tgt := 49) hx hb dX8_readRope_41 (by decide) (fun c_41 => ?_) (fun c_41 => ?_)
    · exact hend H locs (L, ob_W D f oa (mk_pass ((mk_number (mk_pass C 108) 1 20).2) 59) mr im mk ad n g) _ ls w (ob_eq (by unfold cr_rope cr_r2 cr_r1 cr_r0; rw [if_neg c_5]) (by unfold cr_rg cr_rope cr_r2 cr_r1 cr_r0; rw [if_neg c_5, if_neg c_41])) dX8_readRope_49
    · refine lv_aload_n hx hb dX8_readRope_44 rfl (lv_at hl 2 rfl) ?_
      refine lv_iload_n hx hb dX8_readRope_45 rfl (lv_at hl 0 rfl) ?_
      refine hg_vvF (As := [.int ((mk_number (mk_pass C 108) 1 20).1)]) (rest := []) X w (c_X3_addRope l D b0 L (ob_F D f oa (mk_pass ((mk_number (mk_pass C 108) 1 20).2) 59) mr im) mk ad n g hm hs nr (by have := cr_rope_3 (C := C) (g := g) (by unfold cr_rope cr_r2 cr_r1 cr_r0; rw [if_neg c_5]; exact c_41); rw [h2] at this; rcases Nat.lt_or_ge nr 3 with q | q; exact q; exact absurd (by rw [show nr = 3 by omega]; rfl) this) h2 ((mk_number (mk_pass C 108) 1 20).1)) (cwV 1 hts gX8_readRope_X3_addRope rfl rfl rfl hdX3_addRope ⟨Nat.le_of_ble_eq_true rfl, Nat.le_of_ble_eq_true rfl⟩) hm.1 (mk_at0 D _ mk ad n _) rfl rfl rfl hl.1 rfl (Nat.le_of_ble_eq_true rfl) dX8_readRope_46 ⟨Nat.zero_le _, Nat.zero_le _⟩ (fun H locs w => ?_)
      exact hend H locs (L, ob_W D f oa (mk_pass ((mk_number (mk_pass C 108) 1 20).2) 59) mr im mk ad n (va_up (va_up g (5 + nr) ((mk_number (mk_pass C 108) 1 20).1)) 2 (nI (nr + 1)))) _ ls w (ob_eq (by unfold cr_rope cr_r2 cr_r1 cr_r0; rw [if_neg c_5]) (by unfold cr_rg cr_rope cr_r2 cr_r1 cr_r0; rw [if_neg c_5, if_pos c_41])) dX8_readRope_49
  · refine lv_aload_n hx hb dX8_readRope_8 rfl (lv_at hl 0 rfl) ?_
    refine lv_iconst (v := 3) hx hb dX8_readRope_9 (by decide) ?_
    refine lv_aload_n hx hb dX8_readRope_10 rfl (lv_at hl 0 rfl) ?_
    refine ob_get X w ho 2 (by decide) (C0 := RX8) (T := TX8) (N := 5) (ci := 6) rfl hin8 rfl 2 (by decide) (List.mem_of_getElem? (i := 2) rfl) rfl rfl dX8_readRope_11 ?_
    refine hg_vvF (As := [.int (3), .int (C 24 0)]) (rest := []) X w (c_X8_tellFault l D b0 L f oa C mr im mk ad n g hm hs ho 3 (C 24 0)) (cwV 2 hts gX8_readRope_X8_tellFault rfl rfl rfl hdX8_tellFault ⟨Nat.le_of_ble_eq_true rfl, Nat.le_of_ble_eq_true rfl⟩) (ho.1 2 (by decide)).1 (ow_at ho (k := 2) (by decide)) rfl rfl rfl hl.1 rfl (Nat.le_of_ble_eq_true rfl) dX8_readRope_14 ⟨Nat.zero_le _, Nat.zero_le _⟩ (fun H locs w => ?_)
    refine lv_aload_n hx hb dX8_readRope_17 rfl (lv_at hl 0 rfl) ?_
    refine lv_bipush (v := 108) hx hb dX8_readRope_18 (by decide) ?_
    refine hg_vvF (As := [.int (108)]) (rest := []) X w (c_X8_pass l D b0 L f oa (mk_tf C 3 (C 24 0)) mr im mk ad n g hm hs ho 108) (cwV 1 hts gX8_readRope_X8_pass rfl rfl rfl hdX8_pass ⟨Nat.le_of_ble_eq_true rfl, Nat.le_of_ble_eq_true rfl⟩) (ho.1 2 (by decide)).1 (ow_at ho (k := 2) (by decide)) rfl rfl rfl hl.1 rfl (Nat.le_of_ble_eq_true rfl) dX8_readRope_20 ⟨Nat.zero_le _, Nat.zero_le _⟩ (fun H locs w => ?_)
    refine lv_aload_n hx hb dX8_readRope_23 rfl (lv_at hl 0 rfl) ?_
    refine lv_iconst (v := 1) hx hb dX8_readRope_24 (by decide) ?_
    refine lv_bipush (v := 20) hx hb dX8_readRope_25 (by decide) ?_
    refine hg_viF (r := (mk_number (mk_pass (mk_tf C 3 (C 24 0)) 108) 1 20).1) (As := [.int (1), .int (20)]) (rest := []) X w (c_X8_number l D b0 L f oa (mk_pass (mk_tf C 3 (C 24 0)) 108) mr im mk ad n g hm hs ho 1 20) (cwV 2 hts gX8_readRope_X8_number rfl rfl rfl hdX8_number ⟨Nat.le_of_ble_eq_true rfl, Nat.le_of_ble_eq_true rfl⟩) (ho.1 2 (by decide)).1 (ow_at ho (k := 2) (by decide)) rfl rfl rfl hl.1 rfl (Nat.le_of_ble_eq_true rfl) dX8_readRope_27 ⟨Nat.zero_le _, Nat.zero_le _⟩ (fun H locs w => ?_)
    refine lv_istore_n (lv' := [(2, .int ((mk_number (mk_pass (mk_tf C 3 (C 24 0)) 108) 1 20).1)), (0, .ref (oa 2)), (1, .ref mk)]) hx hb dX8_readRope_30 rfl hl (by decide) rfl (fun ls hl => ?_)
    refine lv_aload_n hx hb dX8_readRope_31 rfl (lv_at hl 1 rfl) ?_
    refine lv_bipush (v := 59) hx hb dX8_readRope_32 (by decide) ?_
    refine hg_vvF (As := [.int (59)]) (rest := []) X w (c_X8_pass l D b0 L f oa ((mk_number (mk_pass (mk_tf C 3 (C 24 0)) 108) 1 20).2) mr im mk ad n g hm hs ho 59) (cwV 1 hts gX8_readRope_X8_pass rfl rfl rfl hdX8_pass ⟨Nat.le_of_ble_eq_true rfl, Nat.le_of_ble_eq_true rfl⟩) (ho.1 2 (by decide)).1 (ow_at ho (k := 2) (by decide)) rfl rfl rfl hl.1 rfl (Nat.le_of_ble_eq_true rfl) dX8_readRope_34 ⟨Nat.zero_le _, Nat.zero_le _⟩ (fun H locs w => ?_)
    refine lv_aload_n hx hb dX8_readRope_37 rfl (lv_at hl 1 rfl) ?_
    refine ob_get X w ho 2 (by decide) (C0 := RX8) (T := TX8) (N := 5) (ci := 6) rfl hin8 rfl 3 (by decide) (List.mem_of_getElem? (i := 3) rfl) rfl rfl dX8_readRope_38 ?_
    refine lv_if_ne (tgt := 49) hx hb dX8_readRope_41 (by decide) (fun c_41 => ?_) (fun c_41 => ?_)
    · exact hend H locs (L, ob_W D f oa (mk_pass ((mk_number (mk_pass (mk_tf C 3 (C 24 0)) 108) 1 20).2) 59) mr im mk ad n g) _ ls w (ob_eq (by unfold cr_rope cr_r2 cr_r1 cr_r0; rw [if_pos c_5]) (by unfold cr_rg cr_rope cr_r2 cr_r1 cr_r0; rw [if_pos c_5, if_neg c_41])) dX8_readRope_49
    · refine lv_aload_n hx hb dX8_readRope_44 rfl (lv_at hl 2 rfl) ?_
      refine lv_iload_n hx hb dX8_readRope_45 rfl (lv_at hl 0 rfl) ?_
      refine hg_vvF (As := [.int ((mk_number (mk_pass (mk_tf C 3 (C 24 0)) 108) 1 20).1)]) (rest := []) X w (c_X3_addRope l D b0 L (ob_F D f oa (mk_pass ((mk_number (mk_pass (mk_tf C 3 (C 24 0)) 108) 1 20).2) 59) mr im) mk ad n g hm hs nr (by have := cr_rope_3 (C := C) (g := g) (by unfold cr_rope cr_r2 cr_r1 cr_r0; rw [if_pos c_5]; exact c_41); rw [h2] at this; rcases Nat.lt_or_ge nr 3 with q | q; exact q; exact absurd (by rw [show nr = 3 by omega]; rfl) this) h2 ((mk_number (mk_pass (mk_tf C 3 (C 24 0)) 108) 1 20).1)) (cwV 1 hts gX8_readRope_X3_addRope rfl rfl rfl hdX3_addRope ⟨Nat.le_of_ble_eq_true rfl, Nat.le_of_ble_eq_true rfl⟩) hm.1 (mk_at0 D _ mk ad n _) rfl rfl rfl hl.1 rfl (Nat.le_of_ble_eq_true rfl) dX8_readRope_46 ⟨Nat.zero_le _, Nat.zero_le _⟩ (fun H locs w => ?_)
      exact hend H locs (L, ob_W D f oa (mk_pass ((mk_number (mk_pass (mk_tf C 3 (C 24 0)) 108) 1 20).2) 59) mr im mk ad n (va_up (va_up g (5 + nr) ((mk_number (mk_pass (mk_tf C 3 (C 24 0)) 108) 1 20).1)) 2 (nI (nr + 1)))) _ ls w (ob_eq (by unfold cr_rope cr_r2 cr_r1 cr_r0; rw [if_pos c_5]) (by unfold cr_rg cr_rope cr_r2 cr_r1 cr_r0; rw [if_pos c_5, if_pos c_41])) dX8_readRope_49
theorem hdX3_addStall : yX3_addStall.cls = RX3 ∧ yX3_addStall.cls ≠ "java/lang/invoke/MethodHandle" ∧ yX3_addStall.cls ≠ "java/lang/invoke/VarHandle" ∧ (parseMethodDescriptor yX3_addStall.desc).map (fun d => d.parameters.length) = some 4 := by decide +kernel
theorem hdX8_kindOf : yX8_kindOf.cls ≠ "java/lang/invoke/MethodHandle" ∧ yX8_kindOf.cls ≠ "java/lang/invoke/VarHandle" ∧ (parseMethodDescriptor yX8_kindOf.desc).map (fun d => d.parameters.length) = some 1 := by decide +kernel
set_option maxRecDepth 100000 in
set_option maxHeartbeats 4000000 in
theorem c_X8_readStall (l : Launch) (D : va_G) (b0 : Nat) (L : List Nat) (f : Nat → va_E) (oa : Nat → Nat) (C : Nat → Nat → Int32) (mr : Nat) (im : Nat → Option Nat) (mk : Nat) (ad : Nat → Nat) (n : Nat) (g : Nat → Int32) (hm : mk_ok L mk ad n) (hs : mk_sr g n) (ho : ob_ok L oa mk ad n) : hg_Mv l yX8_readStall wsX8_readStall ({ frames := 5, cells := 1, slots := 7, locals := 92 }) D b0 L (ob_W D f oa C mr im mk ad n g) [.ref (oa 2), .ref mk] (fun u => (cr_s C g n 25 0 = 0 ∧ ∃ q, q ∉ L ∧ u = (L ++ [q], ob_W D f oa (cr_s C g n) mr im mk (va_up ad (2 + n) q) (n + 1) (mk_as g n (cr_k C) (cr_c C g).1 (cr_e C g).1 (cr_h C g n).1))) ∨ (¬ cr_s C g n 25 0 = 0 ∧ u = (L, ob_W D f oa (cr_s C g n) mr im mk ad n g))) 1 7 := by
  refine hg_in_v (cc := cX8_readStall) (nL := 7) (by decide) rfl (Nat.le_of_ble_eq_true rfl) (fun p e s m args below meth c R Q X hname hR hend H locs ls w hl => ?_)
  subst hR
  obtain ⟨hx, hb, hml, hown, hts⟩ := id X.1
  have hin : mk_in wsX8_readStall := ⟨fun w h => List.mem_cons_of_mem _ (List.mem_append_left _ (List.mem_append_left _ (List.mem_append_left _ (List.mem_append_left _ (List.mem_append_right _ h))))), fun w h => List.mem_cons_of_mem _ (List.mem_append_left _ (List.mem_append_left _ (List.mem_append_left _ (List.mem_append_right _ h)))), fun w h => List.mem_cons_of_mem _ (List.mem_append_left _ (List.mem_append_left _ (List.mem_append_right _ h))), fun w h => List.mem_cons_of_mem _ (List.mem_append_left _ (List.mem_append_right _ h)), fun w h => List.mem_cons_of_mem _ (List.mem_append_right _ h)⟩
  have hin3 : ∀ w ∈ wsX30, w ∈ wsX8_readStall := fun w h => List.mem_cons_of_mem _ (List.mem_append_left _ (List.mem_append_left _ (List.mem_append_left _ (List.mem_append_left _ (List.mem_append_left _ (List.mem_append_right _ h))))))
  have hin8 : ∀ w ∈ wsX80, w ∈ wsX8_readStall := fun w h => List.mem_cons_of_mem _ (List.mem_append_left _ (List.mem_append_left _ (List.mem_append_left _ (List.mem_append_left _ (List.mem_append_left _ (List.mem_append_left _ (List.mem_append_right _ h)))))))
  have hl : lv_has ls 7 [(0, .ref (oa 2)), (1, .ref mk)] := hl
  refine lv_aload_n hx hb dX8_readStall_0 rfl (lv_at hl 0 rfl) ?_
  refine hg_viF (r := (mk_by C (C 24 0))) (As := []) (rest := []) X w (c_X8_next l D b0 L f oa C mr im mk ad n g hm hs ho ) (cwV 0 hts gX8_readStall_X8_next rfl rfl rfl hdX8_next ⟨Nat.le_of_ble_eq_true rfl, Nat.le_of_ble_eq_true rfl⟩) (ho.1 2 (by decide)).1 (ow_at ho (k := 2) (by decide)) rfl rfl rfl hl.1 rfl (Nat.le_of_ble_eq_true rfl) dX8_readStall_1 ⟨Nat.zero_le _, Nat.zero_le _⟩ (fun H locs w => ?_)
  refine hg_siF (r := (mk_kind (mk_by C (C 24 0)))) (As := [.int ((mk_by C (C 24 0)))]) (rest := []) X w (c_X8_kindOf l D b0 L f oa C mr im mk ad n g hm hs ho (mk_by C (C 24 0))) (va_cwS 1 hts gX8_readStall_X8_kindOf rfl rfl rfl hdX8_kindOf ⟨Nat.le_of_ble_eq_true rfl, Nat.le_of_ble_eq_true rfl⟩) rfl hl.1 rfl (Nat.le_of_ble_eq_true rfl) dX8_readStall_4 ⟨Nat.zero_le _, Nat.zero_le _⟩ (fun H locs w => ?_)
  refine lv_istore_n (lv' := [(2, .int ((mk_kind (mk_by C (C 24 0))))), (0, .ref (oa 2)), (1, .ref mk)]) hx hb dX8_readStall_7 rfl hl (by decide) rfl (fun ls hl => ?_)
  refine lv_iload_n hx hb dX8_readStall_8 rfl (lv_at hl 0 rfl) ?_
  refine lv_ldc (v := (-1000000)) hx hb hown (hts _ (List.mem_of_getElem? (i := 1) rfl)) dX8_readStall_9 ?_
  refine lv_icmp_ne (tgt := 26) hx hb dX8_readStall_11 (by decide) (fun c_11 => ?_) (fun c_11 => ?_)
  · refine lv_aload_n hx hb dX8_readStall_26 rfl (lv_at hl 2 rfl) ?_
    refine mk_getM X w hm hin3 3 (by decide) (List.mem_of_getElem? (i := 3) rfl) rfl dX8_readStall_27 ?_
    refine lv_bipush (v := 6) hx hb dX8_readStall_30 (by decide) ?_
    refine lv_icmp_ne (tgt := 44) hx hb dX8_readStall_32 (by decide) (fun c_32 => ?_) (fun c_32 => ?_)
    · refine lv_aload_n hx hb dX8_readStall_44 rfl (lv_at hl 1 rfl) ?_
      refine lv_dup hx hb dX8_readStall_45 rfl ?_
      refine ob_get X w ho 2 (by decide) (C0 := RX8) (T := TX8) (N := 5) (ci := 6) rfl hin8 rfl 2 (by decide) (List.mem_of_getElem? (i := 2) rfl) rfl rfl dX8_readStall_46 ?_
      refine lv_iconst (v := 1) hx hb dX8_readStall_49 (by decide) ?_
      refine lv_iadd hx hb dX8_readStall_50 ?_
      refine ob_put X w ho 2 (by decide) (C0 := RX8) (T := TX8) (N := 5) (ci := 6) rfl hin8 tyX8_ok nmX8 rfl 2 (by decide) (List.mem_of_getElem? (i := 2) rfl) rfl rfl rfl (by show _ < 5; decide) 24 0 rfl (ob_o0 _ _ (by decide) 0) dX8_readStall_51 (fun H locs w => ?_)
      have eC : (mo_w C 24 0 ((C 24 0 + 1))) = cr_b C g := by
        unfold cr_b cr_a cr_k
        rw [if_neg c_11, if_neg c_32]
      rw [eC] at w
      refine lv_aload_n hx hb dX8_readStall_54 rfl (lv_at hl 1 rfl) ?_
      refine lv_iconst (v := 0) hx hb dX8_readStall_55 (by decide) ?_
      refine lv_aload_n hx hb dX8_readStall_56 rfl (lv_at hl 2 rfl) ?_
      refine mk_getM X w hm hin3 2 (by decide) (List.mem_of_getElem? (i := 4) rfl) rfl dX8_readStall_57 ?_
      refine lv_iconst (v := 1) hx hb dX8_readStall_60 (by decide) ?_
      refine lv_isub hx hb dX8_readStall_61 ?_
      refine hg_viF (r := (mk_number (cr_b C g) 0 (g 2 - 1)).1) (As := [.int (0), .int ((g 2 - 1))]) (rest := []) X w (c_X8_number l D b0 L f oa (cr_b C g) mr im mk ad n g hm hs ho 0 (g 2 - 1)) (cwV 2 hts gX8_readStall_X8_number rfl rfl rfl hdX8_number ⟨Nat.le_of_ble_eq_true rfl, Nat.le_of_ble_eq_true rfl⟩) (ho.1 2 (by decide)).1 (ow_at ho (k := 2) (by decide)) rfl rfl rfl hl.1 rfl (Nat.le_of_ble_eq_true rfl) dX8_readStall_62 ⟨Nat.zero_le _, Nat.zero_le _⟩ (fun H locs w => ?_)
      refine lv_istore_n (lv' := [(3, .int ((mk_number (cr_b C g) 0 (g 2 - 1)).1)), (2, .int ((mk_kind (mk_by C (C 24 0))))), (0, .ref (oa 2)), (1, .ref mk)]) hx hb dX8_readStall_65 rfl hl (by decide) rfl (fun ls hl => ?_)
      refine lv_aload_n hx hb dX8_readStall_66 rfl (lv_at hl 2 rfl) ?_
      refine lv_bipush (v := 44) hx hb dX8_readStall_67 (by decide) ?_
      refine hg_vvF (As := [.int (44)]) (rest := []) X w (c_X8_pass l D b0 L f oa ((mk_number (cr_b C g) 0 (g 2 - 1)).2) mr im mk ad n g hm hs ho 44) (cwV 1 hts gX8_readStall_X8_pass rfl rfl rfl hdX8_pass ⟨Nat.le_of_ble_eq_true rfl, Nat.le_of_ble_eq_true rfl⟩) (ho.1 2 (by decide)).1 (ow_at ho (k := 2) (by decide)) rfl rfl rfl hl.1 rfl (Nat.le_of_ble_eq_true rfl) dX8_readStall_69 ⟨Nat.zero_le _, Nat.zero_le _⟩ (fun H locs w => ?_)
      refine lv_aload_n hx hb dX8_readStall_72 rfl (lv_at hl 2 rfl) ?_
      refine ob_get X w ho 2 (by decide) (C0 := RX8) (T := TX8) (N := 5) (ci := 6) rfl hin8 rfl 2 (by decide) (List.mem_of_getElem? (i := 2) rfl) rfl rfl dX8_readStall_73 ?_
      refine lv_istore (lv' := [(4, .int ((mk_pass ((mk_number (cr_b C g) 0 (g 2 - 1)).2) 44) 24 0)), (3, .int ((mk_number (cr_b C g) 0 (g 2 - 1)).1)), (2, .int ((mk_kind (mk_by C (C 24 0))))), (0, .ref (oa 2)), (1, .ref mk)]) hx hb dX8_readStall_76 hl (by decide) rfl (fun ls hl => ?_)
      refine lv_aload_n hx hb dX8_readStall_78 rfl (lv_at hl 3 rfl) ?_
      refine lv_iconst (v := 1) hx hb dX8_readStall_79 (by decide) ?_
      refine lv_bipush (v := 8) hx hb dX8_readStall_80 (by decide) ?_
      refine hg_viF (r := (mk_number (mk_pass ((mk_number (cr_b C g) 0 (g 2 - 1)).2) 44) 1 8).1) (As := [.int (1), .int (8)]) (rest := []) X w (c_X8_number l D b0 L f oa (mk_pass ((mk_number (cr_b C g) 0 (g 2 - 1)).2) 44) mr im mk ad n g hm hs ho 1 8) (cwV 2 hts gX8_readStall_X8_number rfl rfl rfl hdX8_number ⟨Nat.le_of_ble_eq_true rfl, Nat.le_of_ble_eq_true rfl⟩) (ho.1 2 (by decide)).1 (ow_at ho (k := 2) (by decide)) rfl rfl rfl hl.1 rfl (Nat.le_of_ble_eq_true rfl) dX8_readStall_82 ⟨Nat.zero_le _, Nat.zero_le _⟩ (fun H locs w => ?_)
      refine lv_istore (lv' := [(5, .int ((mk_number (mk_pass ((mk_number (cr_b C g) 0 (g 2 - 1)).2) 44) 1 8).1)), (4, .int ((mk_pass ((mk_number (cr_b C g) 0 (g 2 - 1)).2) 44) 24 0)), (3, .int ((mk_number (cr_b C g) 0 (g 2 - 1)).1)), (2, .int ((mk_kind (mk_by C (C 24 0))))), (0, .ref (oa 2)), (1, .ref mk)]) hx hb dX8_readStall_85 hl (by decide) rfl (fun ls hl => ?_)
      refine lv_aload_n hx hb dX8_readStall_87 rfl (lv_at hl 5 rfl) ?_
      refine lv_iload_n hx hb dX8_readStall_88 rfl (lv_at hl 2 rfl) ?_
      refine lv_iload hx hb dX8_readStall_89 (lv_at hl 0 rfl) ?_
      refine hg_vqF (r := (mk_std g ((mk_number (cr_b C g) 0 (g 2 - 1)).1) ((mk_number (mk_pass ((mk_number (cr_b C g) 0 (g 2 - 1)).2) 44) 1 8).1) n).map (fun j => ad (2 + j))) (As := [.int ((mk_number (cr_b C g) 0 (g 2 - 1)).1), .int ((mk_number (mk_pass ((mk_number (cr_b C g) 0 (g 2 - 1)).2) 44) 1 8).1)]) (rest := []) X w (c_X3_standing l D b0 L (ob_F D f oa ((mk_number (mk_pass ((mk_number (cr_b C g) 0 (g 2 - 1)).2) 44) 1 8).2) mr im) mk ad n g hm hs ((mk_number (cr_b C g) 0 (g 2 - 1)).1) ((mk_number (mk_pass ((mk_number (cr_b C g) 0 (g 2 - 1)).2) 44) 1 8).1)) (cwV 2 hts gX8_readStall_X3_standing rfl rfl rfl hdX3_standing ⟨Nat.le_of_ble_eq_true rfl, Nat.le_of_ble_eq_true rfl⟩) (hm.1) (mk_at0 D _ mk ad n _) rfl rfl rfl hl.1 rfl (Nat.le_of_ble_eq_true rfl) dX8_readStall_91 ⟨Nat.zero_le _, Nat.zero_le _⟩ (fun H locs w => ?_)
      refine mk_qk (ad := ad) (fun hq91 => ?_) (fun jq91 hq91 => ?_)
      · refine lv_ifnullN (tgt := 104) hx hb dX8_readStall_94 (by decide) ?_
        refine lv_aload_n hx hb dX8_readStall_104 rfl (lv_at hl 4 rfl) ?_
        refine lv_bipush (v := 44) hx hb dX8_readStall_105 (by decide) ?_
        refine hg_vvF (As := [.int (44)]) (rest := []) X w (c_X8_pass l D b0 L f oa ((mk_number (mk_pass ((mk_number (cr_b C g) 0 (g 2 - 1)).2) 44) 1 8).2) mr im mk ad n g hm hs ho 44) (cwV 1 hts gX8_readStall_X8_pass rfl rfl rfl hdX8_pass ⟨Nat.le_of_ble_eq_true rfl, Nat.le_of_ble_eq_true rfl⟩) (ho.1 2 (by decide)).1 (ow_at ho (k := 2) (by decide)) rfl rfl rfl hl.1 rfl (Nat.le_of_ble_eq_true rfl) dX8_readStall_107 ⟨Nat.zero_le _, Nat.zero_le _⟩ (fun H locs w => ?_)
        refine lv_aload_n hx hb dX8_readStall_110 rfl (lv_at hl 4 rfl) ?_
        refine lv_iconst (v := 0) hx hb dX8_readStall_111 (by decide) ?_
        refine lv_bipush (v := 20) hx hb dX8_readStall_112 (by decide) ?_
        refine hg_viF (r := (mk_number (mk_pass ((mk_number (mk_pass ((mk_number (cr_b C g) 0 (g 2 - 1)).2) 44) 1 8).2) 44) 0 20).1) (As := [.int (0), .int (20)]) (rest := []) X w (c_X8_number l D b0 L f oa (mk_pass ((mk_number (mk_pass ((mk_number (cr_b C g) 0 (g 2 - 1)).2) 44) 1 8).2) 44) mr im mk ad n g hm hs ho 0 20) (cwV 2 hts gX8_readStall_X8_number rfl rfl rfl hdX8_number ⟨Nat.le_of_ble_eq_true rfl, Nat.le_of_ble_eq_true rfl⟩) (ho.1 2 (by decide)).1 (ow_at ho (k := 2) (by decide)) rfl rfl rfl hl.1 rfl (Nat.le_of_ble_eq_true rfl) dX8_readStall_114 ⟨Nat.zero_le _, Nat.zero_le _⟩ (fun H locs w => ?_)
        refine lv_istore (lv' := [(6, .int ((mk_number (mk_pass ((mk_number (mk_pass ((mk_number (cr_b C g) 0 (g 2 - 1)).2) 44) 1 8).2) 44) 0 20).1)), (5, .int ((mk_number (mk_pass ((mk_number (cr_b C g) 0 (g 2 - 1)).2) 44) 1 8).1)), (4, .int ((mk_pass ((mk_number (cr_b C g) 0 (g 2 - 1)).2) 44) 24 0)), (3, .int ((mk_number (cr_b C g) 0 (g 2 - 1)).1)), (2, .int ((mk_kind (mk_by C (C 24 0))))), (0, .ref (oa 2)), (1, .ref mk)]) hx hb dX8_readStall_117 hl (by decide) rfl (fun ls hl => ?_)
        refine lv_aload_n hx hb dX8_readStall_119 rfl (lv_at hl 5 rfl) ?_
        refine lv_bipush (v := 59) hx hb dX8_readStall_120 (by decide) ?_
        refine hg_vvF (As := [.int (59)]) (rest := []) X w (c_X8_pass l D b0 L f oa ((mk_number (mk_pass ((mk_number (mk_pass ((mk_number (cr_b C g) 0 (g 2 - 1)).2) 44) 1 8).2) 44) 0 20).2) mr im mk ad n g hm hs ho 59) (cwV 1 hts gX8_readStall_X8_pass rfl rfl rfl hdX8_pass ⟨Nat.le_of_ble_eq_true rfl, Nat.le_of_ble_eq_true rfl⟩) (ho.1 2 (by decide)).1 (ow_at ho (k := 2) (by decide)) rfl rfl rfl hl.1 rfl (Nat.le_of_ble_eq_true rfl) dX8_readStall_122 ⟨Nat.zero_le _, Nat.zero_le _⟩ (fun H locs w => ?_)
        refine lv_aload_n hx hb dX8_readStall_125 rfl (lv_at hl 5 rfl) ?_
        refine ob_get X w ho 2 (by decide) (C0 := RX8) (T := TX8) (N := 5) (ci := 6) rfl hin8 rfl 3 (by decide) (List.mem_of_getElem? (i := 5) rfl) rfl rfl dX8_readStall_126 ?_
        refine lv_if_ne (tgt := 145) hx hb dX8_readStall_129 (by decide) (fun c_129 => ?_) (fun c_129 => ?_)
        · refine W.widen (k := 1) (n := 7) (by omega) (by omega) ?_
          exact hend H locs (L, ob_W D f oa (mk_pass ((mk_number (mk_pass ((mk_number (mk_pass ((mk_number (cr_b C g) 0 (g 2 - 1)).2) 44) 1 8).2) 44) 0 20).2) 59) mr im mk ad n g) _ ls w (Or.inr ⟨by rw [← cr_s_n hq91]; exact c_129, by rw [← cr_s_n hq91]⟩) dX8_readStall_145
        · refine lv_aload_n hx hb dX8_readStall_132 rfl (lv_at hl 6 rfl) ?_
          refine lv_iload_n hx hb dX8_readStall_133 rfl (lv_at hl 4 rfl) ?_
          have hS : cr_s C g n 25 0 = 0 := by
            rw [← cr_s_n hq91]
            exact c_129
          have hK := cr_s_k hS
          refine hg_sq (As := [.int ((mk_kind (mk_by C (C 24 0))))]) (rest := [.ref mk]) X w (c_X6_ofKind l D b0 L (ob_W D f oa (mk_pass ((mk_number (mk_pass ((mk_number (mk_pass ((mk_number (cr_b C g) 0 (g 2 - 1)).2) 44) 1 8).2) 44) 0 20).2) 59) mr im mk ad n g) (cr_k C) (cr_kv hK.1)) (va_cwS 1 hts gX8_readStall_X6_ofKind rfl rfl rfl hdX6_ofKind ⟨Nat.le_of_ble_eq_true rfl, Nat.le_of_ble_eq_true rfl⟩) rfl hl.1 rfl (Nat.le_of_ble_eq_true rfl) dX8_readStall_134 ⟨(Nat.le_of_ble_eq_true rfl), (Nat.le_of_ble_eq_true rfl)⟩ (fun v0 u0 H locs hp w => ?_)
          obtain ⟨q, rfl, hq, rfl⟩ := hp
          refine (show W p l e _ s m args below meth c H locs _ _ Q (F0 m 137 ls [.ref q, .ref mk]) from ?_)
          refine lv_iload_n hx hb dX8_readStall_137 rfl (lv_at hl 3 rfl) ?_
          refine lv_iload hx hb dX8_readStall_138 (lv_at hl 1 rfl) ?_
          refine lv_iload hx hb dX8_readStall_140 (lv_at hl 0 rfl) ?_
          have hn6 : n < 6 := by
            have h6 := hs.2.1
            rcases Nat.lt_or_ge n 6 with z | z
            · exact z
            · exact absurd (by rw [hs.1, show n = 6 by omega]; rfl) hK.2.1
          have hmq : mk ≠ q := fun z => hq (by rw [← z]; exact hm.1)
          refine hg_vv (As := [.ref q, .int ((mk_number (cr_b C g) 0 (g 2 - 1)).1), .int ((mk_number (mk_pass ((mk_number (cr_b C g) 0 (g 2 - 1)).2) 44) 1 8).1), .int ((mk_number (mk_pass ((mk_number (mk_pass ((mk_number (cr_b C g) 0 (g 2 - 1)).2) 44) 1 8).2) 44) 0 20).1)]) (rest := []) X w (c_X3_addStall l D b0 L (ob_F D f oa (mk_pass ((mk_number (mk_pass ((mk_number (mk_pass ((mk_number (cr_b C g) 0 (g 2 - 1)).2) 44) 1 8).2) 44) 0 20).2) 59) mr im) mk ad n g hm hs q hq hn6 hs.1 (cr_k C) ((mk_number (cr_b C g) 0 (g 2 - 1)).1) ((mk_number (mk_pass ((mk_number (cr_b C g) 0 (g 2 - 1)).2) 44) 1 8).1) ((mk_number (mk_pass ((mk_number (mk_pass ((mk_number (cr_b C g) 0 (g 2 - 1)).2) 44) 1 8).2) 44) 0 20).1)) (cwV 4 hts gX8_readStall_X3_addStall rfl rfl rfl hdX3_addStall ⟨Nat.le_of_ble_eq_true rfl, Nat.le_of_ble_eq_true rfl⟩) (List.mem_append_left _ hm.1) ((va_up_ne _ _ hmq).trans (mk_at0 D _ mk ad n g)) rfl rfl rfl hl.1 rfl (Nat.le_of_ble_eq_true rfl) dX8_readStall_142 ⟨(Nat.le_of_ble_eq_true rfl), (Nat.le_of_ble_eq_true rfl)⟩ (fun u H locs hp w => ?_)
          subst hp
          exact hend H locs (L ++ [q], mk_F D (ob_F D f oa (mk_pass ((mk_number (mk_pass ((mk_number (mk_pass ((mk_number (cr_b C g) 0 (g 2 - 1)).2) 44) 1 8).2) 44) 0 20).2) 59) mr im) mk (va_up ad (2 + n) q) (n + 1) (mk_as g n (cr_k C) (cr_c C g).1 (cr_e C g).1 (cr_h C g n).1)) _ ls (by rw [← cr_h_n (cr_s_std hS)]; exact w) (Or.inl ⟨hS, q, hq, by rw [← cr_s_n hq91]⟩) dX8_readStall_145
      · have hjq91 : jq91 < n := mk_std_lt hq91
        refine lv_ifnull hx hb dX8_readStall_94 ?_
        refine lv_aload_n hx hb dX8_readStall_97 rfl (lv_at hl 4 rfl) ?_
        refine lv_iconst (v := 2) hx hb dX8_readStall_98 (by decide) ?_
        refine lv_iload hx hb dX8_readStall_99 (lv_at hl 1 rfl) ?_
        refine hg_vvF (As := [.int (2), .int ((mk_pass ((mk_number (cr_b C g) 0 (g 2 - 1)).2) 44) 24 0)]) (rest := []) X w (c_X8_tellFault l D b0 L f oa ((mk_number (mk_pass ((mk_number (cr_b C g) 0 (g 2 - 1)).2) 44) 1 8).2) mr im mk ad n g hm hs ho 2 ((mk_pass ((mk_number (cr_b C g) 0 (g 2 - 1)).2) 44) 24 0)) (cwV 2 hts gX8_readStall_X8_tellFault rfl rfl rfl hdX8_tellFault ⟨Nat.le_of_ble_eq_true rfl, Nat.le_of_ble_eq_true rfl⟩) (ho.1 2 (by decide)).1 (ow_at ho (k := 2) (by decide)) rfl rfl rfl hl.1 rfl (Nat.le_of_ble_eq_true rfl) dX8_readStall_101 ⟨Nat.zero_le _, Nat.zero_le _⟩ (fun H locs w => ?_)
        refine lv_aload_n hx hb dX8_readStall_104 rfl (lv_at hl 4 rfl) ?_
        refine lv_bipush (v := 44) hx hb dX8_readStall_105 (by decide) ?_
        refine hg_vvF (As := [.int (44)]) (rest := []) X w (c_X8_pass l D b0 L f oa (mk_tf ((mk_number (mk_pass ((mk_number (cr_b C g) 0 (g 2 - 1)).2) 44) 1 8).2) 2 ((mk_pass ((mk_number (cr_b C g) 0 (g 2 - 1)).2) 44) 24 0)) mr im mk ad n g hm hs ho 44) (cwV 1 hts gX8_readStall_X8_pass rfl rfl rfl hdX8_pass ⟨Nat.le_of_ble_eq_true rfl, Nat.le_of_ble_eq_true rfl⟩) (ho.1 2 (by decide)).1 (ow_at ho (k := 2) (by decide)) rfl rfl rfl hl.1 rfl (Nat.le_of_ble_eq_true rfl) dX8_readStall_107 ⟨Nat.zero_le _, Nat.zero_le _⟩ (fun H locs w => ?_)
        refine lv_aload_n hx hb dX8_readStall_110 rfl (lv_at hl 4 rfl) ?_
        refine lv_iconst (v := 0) hx hb dX8_readStall_111 (by decide) ?_
        refine lv_bipush (v := 20) hx hb dX8_readStall_112 (by decide) ?_
        refine hg_viF (r := (mk_number (mk_pass (mk_tf ((mk_number (mk_pass ((mk_number (cr_b C g) 0 (g 2 - 1)).2) 44) 1 8).2) 2 ((mk_pass ((mk_number (cr_b C g) 0 (g 2 - 1)).2) 44) 24 0)) 44) 0 20).1) (As := [.int (0), .int (20)]) (rest := []) X w (c_X8_number l D b0 L f oa (mk_pass (mk_tf ((mk_number (mk_pass ((mk_number (cr_b C g) 0 (g 2 - 1)).2) 44) 1 8).2) 2 ((mk_pass ((mk_number (cr_b C g) 0 (g 2 - 1)).2) 44) 24 0)) 44) mr im mk ad n g hm hs ho 0 20) (cwV 2 hts gX8_readStall_X8_number rfl rfl rfl hdX8_number ⟨Nat.le_of_ble_eq_true rfl, Nat.le_of_ble_eq_true rfl⟩) (ho.1 2 (by decide)).1 (ow_at ho (k := 2) (by decide)) rfl rfl rfl hl.1 rfl (Nat.le_of_ble_eq_true rfl) dX8_readStall_114 ⟨Nat.zero_le _, Nat.zero_le _⟩ (fun H locs w => ?_)
        refine lv_istore (lv' := [(6, .int ((mk_number (mk_pass (mk_tf ((mk_number (mk_pass ((mk_number (cr_b C g) 0 (g 2 - 1)).2) 44) 1 8).2) 2 ((mk_pass ((mk_number (cr_b C g) 0 (g 2 - 1)).2) 44) 24 0)) 44) 0 20).1)), (5, .int ((mk_number (mk_pass ((mk_number (cr_b C g) 0 (g 2 - 1)).2) 44) 1 8).1)), (4, .int ((mk_pass ((mk_number (cr_b C g) 0 (g 2 - 1)).2) 44) 24 0)), (3, .int ((mk_number (cr_b C g) 0 (g 2 - 1)).1)), (2, .int ((mk_kind (mk_by C (C 24 0))))), (0, .ref (oa 2)), (1, .ref mk)]) hx hb dX8_readStall_117 hl (by decide) rfl (fun ls hl => ?_)
        refine lv_aload_n hx hb dX8_readStall_119 rfl (lv_at hl 5 rfl) ?_
        refine lv_bipush (v := 59) hx hb dX8_readStall_120 (by decide) ?_
        refine hg_vvF (As := [.int (59)]) (rest := []) X w (c_X8_pass l D b0 L f oa ((mk_number (mk_pass (mk_tf ((mk_number (mk_pass ((mk_number (cr_b C g) 0 (g 2 - 1)).2) 44) 1 8).2) 2 ((mk_pass ((mk_number (cr_b C g) 0 (g 2 - 1)).2) 44) 24 0)) 44) 0 20).2) mr im mk ad n g hm hs ho 59) (cwV 1 hts gX8_readStall_X8_pass rfl rfl rfl hdX8_pass ⟨Nat.le_of_ble_eq_true rfl, Nat.le_of_ble_eq_true rfl⟩) (ho.1 2 (by decide)).1 (ow_at ho (k := 2) (by decide)) rfl rfl rfl hl.1 rfl (Nat.le_of_ble_eq_true rfl) dX8_readStall_122 ⟨Nat.zero_le _, Nat.zero_le _⟩ (fun H locs w => ?_)
        refine lv_aload_n hx hb dX8_readStall_125 rfl (lv_at hl 5 rfl) ?_
        refine ob_get X w ho 2 (by decide) (C0 := RX8) (T := TX8) (N := 5) (ci := 6) rfl hin8 rfl 3 (by decide) (List.mem_of_getElem? (i := 5) rfl) rfl rfl dX8_readStall_126 ?_
        refine lv_if_ne (tgt := 145) hx hb dX8_readStall_129 (by decide) (fun c_129 => ?_) (fun c_129 => ?_)
        · refine W.widen (k := 1) (n := 7) (by omega) (by omega) ?_
          exact hend H locs (L, ob_W D f oa (mk_pass ((mk_number (mk_pass (mk_tf ((mk_number (mk_pass ((mk_number (cr_b C g) 0 (g 2 - 1)).2) 44) 1 8).2) 2 ((mk_pass ((mk_number (cr_b C g) 0 (g 2 - 1)).2) 44) 24 0)) 44) 0 20).2) 59) mr im mk ad n g) _ ls w (Or.inr ⟨by rw [← cr_s_s hq91]; exact c_129, by rw [← cr_s_s hq91]⟩) dX8_readStall_145
        · refine lv_aload_n hx hb dX8_readStall_132 rfl (lv_at hl 6 rfl) ?_
          refine lv_iload_n hx hb dX8_readStall_133 rfl (lv_at hl 4 rfl) ?_
          have hS : cr_s C g n 25 0 = 0 := by
            rw [← cr_s_s hq91]
            exact c_129
          have hK := cr_s_k hS
          refine hg_sq (As := [.int ((mk_kind (mk_by C (C 24 0))))]) (rest := [.ref mk]) X w (c_X6_ofKind l D b0 L (ob_W D f oa (mk_pass ((mk_number (mk_pass (mk_tf ((mk_number (mk_pass ((mk_number (cr_b C g) 0 (g 2 - 1)).2) 44) 1 8).2) 2 ((mk_pass ((mk_number (cr_b C g) 0 (g 2 - 1)).2) 44) 24 0)) 44) 0 20).2) 59) mr im mk ad n g) (cr_k C) (cr_kv hK.1)) (va_cwS 1 hts gX8_readStall_X6_ofKind rfl rfl rfl hdX6_ofKind ⟨Nat.le_of_ble_eq_true rfl, Nat.le_of_ble_eq_true rfl⟩) rfl hl.1 rfl (Nat.le_of_ble_eq_true rfl) dX8_readStall_134 ⟨(Nat.le_of_ble_eq_true rfl), (Nat.le_of_ble_eq_true rfl)⟩ (fun v0 u0 H locs hp w => ?_)
          obtain ⟨q, rfl, hq, rfl⟩ := hp
          refine (show W p l e _ s m args below meth c H locs _ _ Q (F0 m 137 ls [.ref q, .ref mk]) from ?_)
          refine lv_iload_n hx hb dX8_readStall_137 rfl (lv_at hl 3 rfl) ?_
          refine lv_iload hx hb dX8_readStall_138 (lv_at hl 1 rfl) ?_
          refine lv_iload hx hb dX8_readStall_140 (lv_at hl 0 rfl) ?_
          have hn6 : n < 6 := by
            have h6 := hs.2.1
            rcases Nat.lt_or_ge n 6 with z | z
            · exact z
            · exact absurd (by rw [hs.1, show n = 6 by omega]; rfl) hK.2.1
          have hmq : mk ≠ q := fun z => hq (by rw [← z]; exact hm.1)
          refine hg_vv (As := [.ref q, .int ((mk_number (cr_b C g) 0 (g 2 - 1)).1), .int ((mk_number (mk_pass ((mk_number (cr_b C g) 0 (g 2 - 1)).2) 44) 1 8).1), .int ((mk_number (mk_pass (mk_tf ((mk_number (mk_pass ((mk_number (cr_b C g) 0 (g 2 - 1)).2) 44) 1 8).2) 2 ((mk_pass ((mk_number (cr_b C g) 0 (g 2 - 1)).2) 44) 24 0)) 44) 0 20).1)]) (rest := []) X w (c_X3_addStall l D b0 L (ob_F D f oa (mk_pass ((mk_number (mk_pass (mk_tf ((mk_number (mk_pass ((mk_number (cr_b C g) 0 (g 2 - 1)).2) 44) 1 8).2) 2 ((mk_pass ((mk_number (cr_b C g) 0 (g 2 - 1)).2) 44) 24 0)) 44) 0 20).2) 59) mr im) mk ad n g hm hs q hq hn6 hs.1 (cr_k C) ((mk_number (cr_b C g) 0 (g 2 - 1)).1) ((mk_number (mk_pass ((mk_number (cr_b C g) 0 (g 2 - 1)).2) 44) 1 8).1) ((mk_number (mk_pass (mk_tf ((mk_number (mk_pass ((mk_number (cr_b C g) 0 (g 2 - 1)).2) 44) 1 8).2) 2 ((mk_pass ((mk_number (cr_b C g) 0 (g 2 - 1)).2) 44) 24 0)) 44) 0 20).1)) (cwV 4 hts gX8_readStall_X3_addStall rfl rfl rfl hdX3_addStall ⟨Nat.le_of_ble_eq_true rfl, Nat.le_of_ble_eq_true rfl⟩) (List.mem_append_left _ hm.1) ((va_up_ne _ _ hmq).trans (mk_at0 D _ mk ad n g)) rfl rfl rfl hl.1 rfl (Nat.le_of_ble_eq_true rfl) dX8_readStall_142 ⟨(Nat.le_of_ble_eq_true rfl), (Nat.le_of_ble_eq_true rfl)⟩ (fun u H locs hp w => ?_)
          subst hp
          exact hend H locs (L ++ [q], mk_F D (ob_F D f oa (mk_pass ((mk_number (mk_pass (mk_tf ((mk_number (mk_pass ((mk_number (cr_b C g) 0 (g 2 - 1)).2) 44) 1 8).2) 2 ((mk_pass ((mk_number (cr_b C g) 0 (g 2 - 1)).2) 44) 24 0)) 44) 0 20).2) 59) mr im) mk (va_up ad (2 + n) q) (n + 1) (mk_as g n (cr_k C) (cr_c C g).1 (cr_e C g).1 (cr_h C g n).1)) _ ls (by rw [← cr_h_n (cr_s_std hS)]; exact w) (Or.inl ⟨hS, q, hq, by rw [← cr_s_s hq91]⟩) dX8_readStall_145
    · refine lv_aload_n hx hb dX8_readStall_35 rfl (lv_at hl 1 rfl) ?_
      refine lv_iconst (v := 3) hx hb dX8_readStall_36 (by decide) ?_
      refine lv_aload_n hx hb dX8_readStall_37 rfl (lv_at hl 1 rfl) ?_
      refine ob_get X w ho 2 (by decide) (C0 := RX8) (T := TX8) (N := 5) (ci := 6) rfl hin8 rfl 2 (by decide) (List.mem_of_getElem? (i := 2) rfl) rfl rfl dX8_readStall_38 ?_
      refine hg_vvF (As := [.int (3), .int (C 24 0)]) (rest := []) X w (c_X8_tellFault l D b0 L f oa C mr im mk ad n g hm hs ho 3 (C 24 0)) (cwV 2 hts gX8_readStall_X8_tellFault rfl rfl rfl hdX8_tellFault ⟨Nat.le_of_ble_eq_true rfl, Nat.le_of_ble_eq_true rfl⟩) (ho.1 2 (by decide)).1 (ow_at ho (k := 2) (by decide)) rfl rfl rfl hl.1 rfl (Nat.le_of_ble_eq_true rfl) dX8_readStall_41 ⟨Nat.zero_le _, Nat.zero_le _⟩ (fun H locs w => ?_)
      refine lv_aload_n hx hb dX8_readStall_44 rfl (lv_at hl 1 rfl) ?_
      refine lv_dup hx hb dX8_readStall_45 rfl ?_
      refine ob_get X w ho 2 (by decide) (C0 := RX8) (T := TX8) (N := 5) (ci := 6) rfl hin8 rfl 2 (by decide) (List.mem_of_getElem? (i := 2) rfl) rfl rfl dX8_readStall_46 ?_
      refine lv_iconst (v := 1) hx hb dX8_readStall_49 (by decide) ?_
      refine lv_iadd hx hb dX8_readStall_50 ?_
      refine ob_put X w ho 2 (by decide) (C0 := RX8) (T := TX8) (N := 5) (ci := 6) rfl hin8 tyX8_ok nmX8 rfl 2 (by decide) (List.mem_of_getElem? (i := 2) rfl) rfl rfl rfl (by show _ < 5; decide) 24 0 rfl (ob_o0 _ _ (by decide) 0) dX8_readStall_51 (fun H locs w => ?_)
      have eC : (mo_w (mk_tf C 3 (C 24 0)) 24 0 (((mk_tf C 3 (C 24 0)) 24 0 + 1))) = cr_b C g := by
        unfold cr_b cr_a cr_k
        rw [if_neg c_11, if_pos c_32]
      rw [eC] at w
      refine lv_aload_n hx hb dX8_readStall_54 rfl (lv_at hl 1 rfl) ?_
      refine lv_iconst (v := 0) hx hb dX8_readStall_55 (by decide) ?_
      refine lv_aload_n hx hb dX8_readStall_56 rfl (lv_at hl 2 rfl) ?_
      refine mk_getM X w hm hin3 2 (by decide) (List.mem_of_getElem? (i := 4) rfl) rfl dX8_readStall_57 ?_
      refine lv_iconst (v := 1) hx hb dX8_readStall_60 (by decide) ?_
      refine lv_isub hx hb dX8_readStall_61 ?_
      refine hg_viF (r := (mk_number (cr_b C g) 0 (g 2 - 1)).1) (As := [.int (0), .int ((g 2 - 1))]) (rest := []) X w (c_X8_number l D b0 L f oa (cr_b C g) mr im mk ad n g hm hs ho 0 (g 2 - 1)) (cwV 2 hts gX8_readStall_X8_number rfl rfl rfl hdX8_number ⟨Nat.le_of_ble_eq_true rfl, Nat.le_of_ble_eq_true rfl⟩) (ho.1 2 (by decide)).1 (ow_at ho (k := 2) (by decide)) rfl rfl rfl hl.1 rfl (Nat.le_of_ble_eq_true rfl) dX8_readStall_62 ⟨Nat.zero_le _, Nat.zero_le _⟩ (fun H locs w => ?_)
      refine lv_istore_n (lv' := [(3, .int ((mk_number (cr_b C g) 0 (g 2 - 1)).1)), (2, .int ((mk_kind (mk_by C (C 24 0))))), (0, .ref (oa 2)), (1, .ref mk)]) hx hb dX8_readStall_65 rfl hl (by decide) rfl (fun ls hl => ?_)
      refine lv_aload_n hx hb dX8_readStall_66 rfl (lv_at hl 2 rfl) ?_
      refine lv_bipush (v := 44) hx hb dX8_readStall_67 (by decide) ?_
      refine hg_vvF (As := [.int (44)]) (rest := []) X w (c_X8_pass l D b0 L f oa ((mk_number (cr_b C g) 0 (g 2 - 1)).2) mr im mk ad n g hm hs ho 44) (cwV 1 hts gX8_readStall_X8_pass rfl rfl rfl hdX8_pass ⟨Nat.le_of_ble_eq_true rfl, Nat.le_of_ble_eq_true rfl⟩) (ho.1 2 (by decide)).1 (ow_at ho (k := 2) (by decide)) rfl rfl rfl hl.1 rfl (Nat.le_of_ble_eq_true rfl) dX8_readStall_69 ⟨Nat.zero_le _, Nat.zero_le _⟩ (fun H locs w => ?_)
      refine lv_aload_n hx hb dX8_readStall_72 rfl (lv_at hl 2 rfl) ?_
      refine ob_get X w ho 2 (by decide) (C0 := RX8) (T := TX8) (N := 5) (ci := 6) rfl hin8 rfl 2 (by decide) (List.mem_of_getElem? (i := 2) rfl) rfl rfl dX8_readStall_73 ?_
      refine lv_istore (lv' := [(4, .int ((mk_pass ((mk_number (cr_b C g) 0 (g 2 - 1)).2) 44) 24 0)), (3, .int ((mk_number (cr_b C g) 0 (g 2 - 1)).1)), (2, .int ((mk_kind (mk_by C (C 24 0))))), (0, .ref (oa 2)), (1, .ref mk)]) hx hb dX8_readStall_76 hl (by decide) rfl (fun ls hl => ?_)
      refine lv_aload_n hx hb dX8_readStall_78 rfl (lv_at hl 3 rfl) ?_
      refine lv_iconst (v := 1) hx hb dX8_readStall_79 (by decide) ?_
      refine lv_bipush (v := 8) hx hb dX8_readStall_80 (by decide) ?_
      refine hg_viF (r := (mk_number (mk_pass ((mk_number (cr_b C g) 0 (g 2 - 1)).2) 44) 1 8).1) (As := [.int (1), .int (8)]) (rest := []) X w (c_X8_number l D b0 L f oa (mk_pass ((mk_number (cr_b C g) 0 (g 2 - 1)).2) 44) mr im mk ad n g hm hs ho 1 8) (cwV 2 hts gX8_readStall_X8_number rfl rfl rfl hdX8_number ⟨Nat.le_of_ble_eq_true rfl, Nat.le_of_ble_eq_true rfl⟩) (ho.1 2 (by decide)).1 (ow_at ho (k := 2) (by decide)) rfl rfl rfl hl.1 rfl (Nat.le_of_ble_eq_true rfl) dX8_readStall_82 ⟨Nat.zero_le _, Nat.zero_le _⟩ (fun H locs w => ?_)
      refine lv_istore (lv' := [(5, .int ((mk_number (mk_pass ((mk_number (cr_b C g) 0 (g 2 - 1)).2) 44) 1 8).1)), (4, .int ((mk_pass ((mk_number (cr_b C g) 0 (g 2 - 1)).2) 44) 24 0)), (3, .int ((mk_number (cr_b C g) 0 (g 2 - 1)).1)), (2, .int ((mk_kind (mk_by C (C 24 0))))), (0, .ref (oa 2)), (1, .ref mk)]) hx hb dX8_readStall_85 hl (by decide) rfl (fun ls hl => ?_)
      refine lv_aload_n hx hb dX8_readStall_87 rfl (lv_at hl 5 rfl) ?_
      refine lv_iload_n hx hb dX8_readStall_88 rfl (lv_at hl 2 rfl) ?_
      refine lv_iload hx hb dX8_readStall_89 (lv_at hl 0 rfl) ?_
      refine hg_vqF (r := (mk_std g ((mk_number (cr_b C g) 0 (g 2 - 1)).1) ((mk_number (mk_pass ((mk_number (cr_b C g) 0 (g 2 - 1)).2) 44) 1 8).1) n).map (fun j => ad (2 + j))) (As := [.int ((mk_number (cr_b C g) 0 (g 2 - 1)).1), .int ((mk_number (mk_pass ((mk_number (cr_b C g) 0 (g 2 - 1)).2) 44) 1 8).1)]) (rest := []) X w (c_X3_standing l D b0 L (ob_F D f oa ((mk_number (mk_pass ((mk_number (cr_b C g) 0 (g 2 - 1)).2) 44) 1 8).2) mr im) mk ad n g hm hs ((mk_number (cr_b C g) 0 (g 2 - 1)).1) ((mk_number (mk_pass ((mk_number (cr_b C g) 0 (g 2 - 1)).2) 44) 1 8).1)) (cwV 2 hts gX8_readStall_X3_standing rfl rfl rfl hdX3_standing ⟨Nat.le_of_ble_eq_true rfl, Nat.le_of_ble_eq_true rfl⟩) (hm.1) (mk_at0 D _ mk ad n _) rfl rfl rfl hl.1 rfl (Nat.le_of_ble_eq_true rfl) dX8_readStall_91 ⟨Nat.zero_le _, Nat.zero_le _⟩ (fun H locs w => ?_)
      refine mk_qk (ad := ad) (fun hq91 => ?_) (fun jq91 hq91 => ?_)
      · refine lv_ifnullN (tgt := 104) hx hb dX8_readStall_94 (by decide) ?_
        refine lv_aload_n hx hb dX8_readStall_104 rfl (lv_at hl 4 rfl) ?_
        refine lv_bipush (v := 44) hx hb dX8_readStall_105 (by decide) ?_
        refine hg_vvF (As := [.int (44)]) (rest := []) X w (c_X8_pass l D b0 L f oa ((mk_number (mk_pass ((mk_number (cr_b C g) 0 (g 2 - 1)).2) 44) 1 8).2) mr im mk ad n g hm hs ho 44) (cwV 1 hts gX8_readStall_X8_pass rfl rfl rfl hdX8_pass ⟨Nat.le_of_ble_eq_true rfl, Nat.le_of_ble_eq_true rfl⟩) (ho.1 2 (by decide)).1 (ow_at ho (k := 2) (by decide)) rfl rfl rfl hl.1 rfl (Nat.le_of_ble_eq_true rfl) dX8_readStall_107 ⟨Nat.zero_le _, Nat.zero_le _⟩ (fun H locs w => ?_)
        refine lv_aload_n hx hb dX8_readStall_110 rfl (lv_at hl 4 rfl) ?_
        refine lv_iconst (v := 0) hx hb dX8_readStall_111 (by decide) ?_
        refine lv_bipush (v := 20) hx hb dX8_readStall_112 (by decide) ?_
        refine hg_viF (r := (mk_number (mk_pass ((mk_number (mk_pass ((mk_number (cr_b C g) 0 (g 2 - 1)).2) 44) 1 8).2) 44) 0 20).1) (As := [.int (0), .int (20)]) (rest := []) X w (c_X8_number l D b0 L f oa (mk_pass ((mk_number (mk_pass ((mk_number (cr_b C g) 0 (g 2 - 1)).2) 44) 1 8).2) 44) mr im mk ad n g hm hs ho 0 20) (cwV 2 hts gX8_readStall_X8_number rfl rfl rfl hdX8_number ⟨Nat.le_of_ble_eq_true rfl, Nat.le_of_ble_eq_true rfl⟩) (ho.1 2 (by decide)).1 (ow_at ho (k := 2) (by decide)) rfl rfl rfl hl.1 rfl (Nat.le_of_ble_eq_true rfl) dX8_readStall_114 ⟨Nat.zero_le _, Nat.zero_le _⟩ (fun H locs w => ?_)
        refine lv_istore (lv' := [(6, .int ((mk_number (mk_pass ((mk_number (mk_pass ((mk_number (cr_b C g) 0 (g 2 - 1)).2) 44) 1 8).2) 44) 0 20).1)), (5, .int ((mk_number (mk_pass ((mk_number (cr_b C g) 0 (g 2 - 1)).2) 44) 1 8).1)), (4, .int ((mk_pass ((mk_number (cr_b C g) 0 (g 2 - 1)).2) 44) 24 0)), (3, .int ((mk_number (cr_b C g) 0 (g 2 - 1)).1)), (2, .int ((mk_kind (mk_by C (C 24 0))))), (0, .ref (oa 2)), (1, .ref mk)]) hx hb dX8_readStall_117 hl (by decide) rfl (fun ls hl => ?_)
        refine lv_aload_n hx hb dX8_readStall_119 rfl (lv_at hl 5 rfl) ?_
        refine lv_bipush (v := 59) hx hb dX8_readStall_120 (by decide) ?_
        refine hg_vvF (As := [.int (59)]) (rest := []) X w (c_X8_pass l D b0 L f oa ((mk_number (mk_pass ((mk_number (mk_pass ((mk_number (cr_b C g) 0 (g 2 - 1)).2) 44) 1 8).2) 44) 0 20).2) mr im mk ad n g hm hs ho 59) (cwV 1 hts gX8_readStall_X8_pass rfl rfl rfl hdX8_pass ⟨Nat.le_of_ble_eq_true rfl, Nat.le_of_ble_eq_true rfl⟩) (ho.1 2 (by decide)).1 (ow_at ho (k := 2) (by decide)) rfl rfl rfl hl.1 rfl (Nat.le_of_ble_eq_true rfl) dX8_readStall_122 ⟨Nat.zero_le _, Nat.zero_le _⟩ (fun H locs w => ?_)
        refine lv_aload_n hx hb dX8_readStall_125 rfl (lv_at hl 5 rfl) ?_
        refine ob_get X w ho 2 (by decide) (C0 := RX8) (T := TX8) (N := 5) (ci := 6) rfl hin8 rfl 3 (by decide) (List.mem_of_getElem? (i := 5) rfl) rfl rfl dX8_readStall_126 ?_
        refine lv_if_ne (tgt := 145) hx hb dX8_readStall_129 (by decide) (fun c_129 => ?_) (fun c_129 => ?_)
        · refine W.widen (k := 1) (n := 7) (by omega) (by omega) ?_
          exact hend H locs (L, ob_W D f oa (mk_pass ((mk_number (mk_pass ((mk_number (mk_pass ((mk_number (cr_b C g) 0 (g 2 - 1)).2) 44) 1 8).2) 44) 0 20).2) 59) mr im mk ad n g) _ ls w (Or.inr ⟨by rw [← cr_s_n hq91]; exact c_129, by rw [← cr_s_n hq91]⟩) dX8_readStall_145
        · refine lv_aload_n hx hb dX8_readStall_132 rfl (lv_at hl 6 rfl) ?_
          refine lv_iload_n hx hb dX8_readStall_133 rfl (lv_at hl 4 rfl) ?_
          have hS : cr_s C g n 25 0 = 0 := by
            rw [← cr_s_n hq91]
            exact c_129
          have hK := cr_s_k hS
          refine hg_sq (As := [.int ((mk_kind (mk_by C (C 24 0))))]) (rest := [.ref mk]) X w (c_X6_ofKind l D b0 L (ob_W D f oa (mk_pass ((mk_number (mk_pass ((mk_number (mk_pass ((mk_number (cr_b C g) 0 (g 2 - 1)).2) 44) 1 8).2) 44) 0 20).2) 59) mr im mk ad n g) (cr_k C) (cr_kv hK.1)) (va_cwS 1 hts gX8_readStall_X6_ofKind rfl rfl rfl hdX6_ofKind ⟨Nat.le_of_ble_eq_true rfl, Nat.le_of_ble_eq_true rfl⟩) rfl hl.1 rfl (Nat.le_of_ble_eq_true rfl) dX8_readStall_134 ⟨(Nat.le_of_ble_eq_true rfl), (Nat.le_of_ble_eq_true rfl)⟩ (fun v0 u0 H locs hp w => ?_)
          obtain ⟨q, rfl, hq, rfl⟩ := hp
          refine (show W p l e _ s m args below meth c H locs _ _ Q (F0 m 137 ls [.ref q, .ref mk]) from ?_)
          refine lv_iload_n hx hb dX8_readStall_137 rfl (lv_at hl 3 rfl) ?_
          refine lv_iload hx hb dX8_readStall_138 (lv_at hl 1 rfl) ?_
          refine lv_iload hx hb dX8_readStall_140 (lv_at hl 0 rfl) ?_
          have hn6 : n < 6 := by
            have h6 := hs.2.1
            rcases Nat.lt_or_ge n 6 with z | z
            · exact z
            · exact absurd (by rw [hs.1, show n = 6 by omega]; rfl) hK.2.1
          have hmq : mk ≠ q := fun z => hq (by rw [← z]; exact hm.1)
          refine hg_vv (As := [.ref q, .int ((mk_number (cr_b C g) 0 (g 2 - 1)).1), .int ((mk_number (mk_pass ((mk_number (cr_b C g) 0 (g 2 - 1)).2) 44) 1 8).1), .int ((mk_number (mk_pass ((mk_number (mk_pass ((mk_number (cr_b C g) 0 (g 2 - 1)).2) 44) 1 8).2) 44) 0 20).1)]) (rest := []) X w (c_X3_addStall l D b0 L (ob_F D f oa (mk_pass ((mk_number (mk_pass ((mk_number (mk_pass ((mk_number (cr_b C g) 0 (g 2 - 1)).2) 44) 1 8).2) 44) 0 20).2) 59) mr im) mk ad n g hm hs q hq hn6 hs.1 (cr_k C) ((mk_number (cr_b C g) 0 (g 2 - 1)).1) ((mk_number (mk_pass ((mk_number (cr_b C g) 0 (g 2 - 1)).2) 44) 1 8).1) ((mk_number (mk_pass ((mk_number (mk_pass ((mk_number (cr_b C g) 0 (g 2 - 1)).2) 44) 1 8).2) 44) 0 20).1)) (cwV 4 hts gX8_readStall_X3_addStall rfl rfl rfl hdX3_addStall ⟨Nat.le_of_ble_eq_true rfl, Nat.le_of_ble_eq_true rfl⟩) (List.mem_append_left _ hm.1) ((va_up_ne _ _ hmq).trans (mk_at0 D _ mk ad n g)) rfl rfl rfl hl.1 rfl (Nat.le_of_ble_eq_true rfl) dX8_readStall_142 ⟨(Nat.le_of_ble_eq_true rfl), (Nat.le_of_ble_eq_true rfl)⟩ (fun u H locs hp w => ?_)
          subst hp
          exact hend H locs (L ++ [q], mk_F D (ob_F D f oa (mk_pass ((mk_number (mk_pass ((mk_number (mk_pass ((mk_number (cr_b C g) 0 (g 2 - 1)).2) 44) 1 8).2) 44) 0 20).2) 59) mr im) mk (va_up ad (2 + n) q) (n + 1) (mk_as g n (cr_k C) (cr_c C g).1 (cr_e C g).1 (cr_h C g n).1)) _ ls (by rw [← cr_h_n (cr_s_std hS)]; exact w) (Or.inl ⟨hS, q, hq, by rw [← cr_s_n hq91]⟩) dX8_readStall_145
      · have hjq91 : jq91 < n := mk_std_lt hq91
        refine lv_ifnull hx hb dX8_readStall_94 ?_
        refine lv_aload_n hx hb dX8_readStall_97 rfl (lv_at hl 4 rfl) ?_
        refine lv_iconst (v := 2) hx hb dX8_readStall_98 (by decide) ?_
        refine lv_iload hx hb dX8_readStall_99 (lv_at hl 1 rfl) ?_
        refine hg_vvF (As := [.int (2), .int ((mk_pass ((mk_number (cr_b C g) 0 (g 2 - 1)).2) 44) 24 0)]) (rest := []) X w (c_X8_tellFault l D b0 L f oa ((mk_number (mk_pass ((mk_number (cr_b C g) 0 (g 2 - 1)).2) 44) 1 8).2) mr im mk ad n g hm hs ho 2 ((mk_pass ((mk_number (cr_b C g) 0 (g 2 - 1)).2) 44) 24 0)) (cwV 2 hts gX8_readStall_X8_tellFault rfl rfl rfl hdX8_tellFault ⟨Nat.le_of_ble_eq_true rfl, Nat.le_of_ble_eq_true rfl⟩) (ho.1 2 (by decide)).1 (ow_at ho (k := 2) (by decide)) rfl rfl rfl hl.1 rfl (Nat.le_of_ble_eq_true rfl) dX8_readStall_101 ⟨Nat.zero_le _, Nat.zero_le _⟩ (fun H locs w => ?_)
        refine lv_aload_n hx hb dX8_readStall_104 rfl (lv_at hl 4 rfl) ?_
        refine lv_bipush (v := 44) hx hb dX8_readStall_105 (by decide) ?_
        refine hg_vvF (As := [.int (44)]) (rest := []) X w (c_X8_pass l D b0 L f oa (mk_tf ((mk_number (mk_pass ((mk_number (cr_b C g) 0 (g 2 - 1)).2) 44) 1 8).2) 2 ((mk_pass ((mk_number (cr_b C g) 0 (g 2 - 1)).2) 44) 24 0)) mr im mk ad n g hm hs ho 44) (cwV 1 hts gX8_readStall_X8_pass rfl rfl rfl hdX8_pass ⟨Nat.le_of_ble_eq_true rfl, Nat.le_of_ble_eq_true rfl⟩) (ho.1 2 (by decide)).1 (ow_at ho (k := 2) (by decide)) rfl rfl rfl hl.1 rfl (Nat.le_of_ble_eq_true rfl) dX8_readStall_107 ⟨Nat.zero_le _, Nat.zero_le _⟩ (fun H locs w => ?_)
        refine lv_aload_n hx hb dX8_readStall_110 rfl (lv_at hl 4 rfl) ?_
        refine lv_iconst (v := 0) hx hb dX8_readStall_111 (by decide) ?_
        refine lv_bipush (v := 20) hx hb dX8_readStall_112 (by decide) ?_
        refine hg_viF (r := (mk_number (mk_pass (mk_tf ((mk_number (mk_pass ((mk_number (cr_b C g) 0 (g 2 - 1)).2) 44) 1 8).2) 2 ((mk_pass ((mk_number (cr_b C g) 0 (g 2 - 1)).2) 44) 24 0)) 44) 0 20).1) (As := [.int (0), .int (20)]) (rest := []) X w (c_X8_number l D b0 L f oa (mk_pass (mk_tf ((mk_number (mk_pass ((mk_number (cr_b C g) 0 (g 2 - 1)).2) 44) 1 8).2) 2 ((mk_pass ((mk_number (cr_b C g) 0 (g 2 - 1)).2) 44) 24 0)) 44) mr im mk ad n g hm hs ho 0 20) (cwV 2 hts gX8_readStall_X8_number rfl rfl rfl hdX8_number ⟨Nat.le_of_ble_eq_true rfl, Nat.le_of_ble_eq_true rfl⟩) (ho.1 2 (by decide)).1 (ow_at ho (k := 2) (by decide)) rfl rfl rfl hl.1 rfl (Nat.le_of_ble_eq_true rfl) dX8_readStall_114 ⟨Nat.zero_le _, Nat.zero_le _⟩ (fun H locs w => ?_)
        refine lv_istore (lv' := [(6, .int ((mk_number (mk_pass (mk_tf ((mk_number (mk_pass ((mk_number (cr_b C g) 0 (g 2 - 1)).2) 44) 1 8).2) 2 ((mk_pass ((mk_number (cr_b C g) 0 (g 2 - 1)).2) 44) 24 0)) 44) 0 20).1)), (5, .int ((mk_number (mk_pass ((mk_number (cr_b C g) 0 (g 2 - 1)).2) 44) 1 8).1)), (4, .int ((mk_pass ((mk_number (cr_b C g) 0 (g 2 - 1)).2) 44) 24 0)), (3, .int ((mk_number (cr_b C g) 0 (g 2 - 1)).1)), (2, .int ((mk_kind (mk_by C (C 24 0))))), (0, .ref (oa 2)), (1, .ref mk)]) hx hb dX8_readStall_117 hl (by decide) rfl (fun ls hl => ?_)
        refine lv_aload_n hx hb dX8_readStall_119 rfl (lv_at hl 5 rfl) ?_
        refine lv_bipush (v := 59) hx hb dX8_readStall_120 (by decide) ?_
        refine hg_vvF (As := [.int (59)]) (rest := []) X w (c_X8_pass l D b0 L f oa ((mk_number (mk_pass (mk_tf ((mk_number (mk_pass ((mk_number (cr_b C g) 0 (g 2 - 1)).2) 44) 1 8).2) 2 ((mk_pass ((mk_number (cr_b C g) 0 (g 2 - 1)).2) 44) 24 0)) 44) 0 20).2) mr im mk ad n g hm hs ho 59) (cwV 1 hts gX8_readStall_X8_pass rfl rfl rfl hdX8_pass ⟨Nat.le_of_ble_eq_true rfl, Nat.le_of_ble_eq_true rfl⟩) (ho.1 2 (by decide)).1 (ow_at ho (k := 2) (by decide)) rfl rfl rfl hl.1 rfl (Nat.le_of_ble_eq_true rfl) dX8_readStall_122 ⟨Nat.zero_le _, Nat.zero_le _⟩ (fun H locs w => ?_)
        refine lv_aload_n hx hb dX8_readStall_125 rfl (lv_at hl 5 rfl) ?_
        refine ob_get X w ho 2 (by decide) (C0 := RX8) (T := TX8) (N := 5) (ci := 6) rfl hin8 rfl 3 (by decide) (List.mem_of_getElem? (i := 5) rfl) rfl rfl dX8_readStall_126 ?_
        refine lv_if_ne (tgt := 145) hx hb dX8_readStall_129 (by decide) (fun c_129 => ?_) (fun c_129 => ?_)
        · refine W.widen (k := 1) (n := 7) (by omega) (by omega) ?_
          exact hend H locs (L, ob_W D f oa (mk_pass ((mk_number (mk_pass (mk_tf ((mk_number (mk_pass ((mk_number (cr_b C g) 0 (g 2 - 1)).2) 44) 1 8).2) 2 ((mk_pass ((mk_number (cr_b C g) 0 (g 2 - 1)).2) 44) 24 0)) 44) 0 20).2) 59) mr im mk ad n g) _ ls w (Or.inr ⟨by rw [← cr_s_s hq91]; exact c_129, by rw [← cr_s_s hq91]⟩) dX8_readStall_145
        · refine lv_aload_n hx hb dX8_readStall_132 rfl (lv_at hl 6 rfl) ?_
          refine lv_iload_n hx hb dX8_readStall_133 rfl (lv_at hl 4 rfl) ?_
          have hS : cr_s C g n 25 0 = 0 := by
            rw [← cr_s_s hq91]
            exact c_129
          have hK := cr_s_k hS
          refine hg_sq (As := [.int ((mk_kind (mk_by C (C 24 0))))]) (rest := [.ref mk]) X w (c_X6_ofKind l D b0 L (ob_W D f oa (mk_pass ((mk_number (mk_pass (mk_tf ((mk_number (mk_pass ((mk_number (cr_b C g) 0 (g 2 - 1)).2) 44) 1 8).2) 2 ((mk_pass ((mk_number (cr_b C g) 0 (g 2 - 1)).2) 44) 24 0)) 44) 0 20).2) 59) mr im mk ad n g) (cr_k C) (cr_kv hK.1)) (va_cwS 1 hts gX8_readStall_X6_ofKind rfl rfl rfl hdX6_ofKind ⟨Nat.le_of_ble_eq_true rfl, Nat.le_of_ble_eq_true rfl⟩) rfl hl.1 rfl (Nat.le_of_ble_eq_true rfl) dX8_readStall_134 ⟨(Nat.le_of_ble_eq_true rfl), (Nat.le_of_ble_eq_true rfl)⟩ (fun v0 u0 H locs hp w => ?_)
          obtain ⟨q, rfl, hq, rfl⟩ := hp
          refine (show W p l e _ s m args below meth c H locs _ _ Q (F0 m 137 ls [.ref q, .ref mk]) from ?_)
          refine lv_iload_n hx hb dX8_readStall_137 rfl (lv_at hl 3 rfl) ?_
          refine lv_iload hx hb dX8_readStall_138 (lv_at hl 1 rfl) ?_
          refine lv_iload hx hb dX8_readStall_140 (lv_at hl 0 rfl) ?_
          have hn6 : n < 6 := by
            have h6 := hs.2.1
            rcases Nat.lt_or_ge n 6 with z | z
            · exact z
            · exact absurd (by rw [hs.1, show n = 6 by omega]; rfl) hK.2.1
          have hmq : mk ≠ q := fun z => hq (by rw [← z]; exact hm.1)
          refine hg_vv (As := [.ref q, .int ((mk_number (cr_b C g) 0 (g 2 - 1)).1), .int ((mk_number (mk_pass ((mk_number (cr_b C g) 0 (g 2 - 1)).2) 44) 1 8).1), .int ((mk_number (mk_pass (mk_tf ((mk_number (mk_pass ((mk_number (cr_b C g) 0 (g 2 - 1)).2) 44) 1 8).2) 2 ((mk_pass ((mk_number (cr_b C g) 0 (g 2 - 1)).2) 44) 24 0)) 44) 0 20).1)]) (rest := []) X w (c_X3_addStall l D b0 L (ob_F D f oa (mk_pass ((mk_number (mk_pass (mk_tf ((mk_number (mk_pass ((mk_number (cr_b C g) 0 (g 2 - 1)).2) 44) 1 8).2) 2 ((mk_pass ((mk_number (cr_b C g) 0 (g 2 - 1)).2) 44) 24 0)) 44) 0 20).2) 59) mr im) mk ad n g hm hs q hq hn6 hs.1 (cr_k C) ((mk_number (cr_b C g) 0 (g 2 - 1)).1) ((mk_number (mk_pass ((mk_number (cr_b C g) 0 (g 2 - 1)).2) 44) 1 8).1) ((mk_number (mk_pass (mk_tf ((mk_number (mk_pass ((mk_number (cr_b C g) 0 (g 2 - 1)).2) 44) 1 8).2) 2 ((mk_pass ((mk_number (cr_b C g) 0 (g 2 - 1)).2) 44) 24 0)) 44) 0 20).1)) (cwV 4 hts gX8_readStall_X3_addStall rfl rfl rfl hdX3_addStall ⟨Nat.le_of_ble_eq_true rfl, Nat.le_of_ble_eq_true rfl⟩) (List.mem_append_left _ hm.1) ((va_up_ne _ _ hmq).trans (mk_at0 D _ mk ad n g)) rfl rfl rfl hl.1 rfl (Nat.le_of_ble_eq_true rfl) dX8_readStall_142 ⟨(Nat.le_of_ble_eq_true rfl), (Nat.le_of_ble_eq_true rfl)⟩ (fun u H locs hp w => ?_)
          subst hp
          exact hend H locs (L ++ [q], mk_F D (ob_F D f oa (mk_pass ((mk_number (mk_pass (mk_tf ((mk_number (mk_pass ((mk_number (cr_b C g) 0 (g 2 - 1)).2) 44) 1 8).2) 2 ((mk_pass ((mk_number (cr_b C g) 0 (g 2 - 1)).2) 44) 24 0)) 44) 0 20).2) 59) mr im) mk (va_up ad (2 + n) q) (n + 1) (mk_as g n (cr_k C) (cr_c C g).1 (cr_e C g).1 (cr_h C g n).1)) _ ls (by rw [← cr_h_n (cr_s_std hS)]; exact w) (Or.inl ⟨hS, q, hq, by rw [← cr_s_s hq91]⟩) dX8_readStall_145
  · refine lv_aload_n hx hb dX8_readStall_14 rfl (lv_at hl 1 rfl) ?_
    refine lv_iconst (v := 1) hx hb dX8_readStall_15 (by decide) ?_
    refine lv_aload_n hx hb dX8_readStall_16 rfl (lv_at hl 1 rfl) ?_
    refine ob_get X w ho 2 (by decide) (C0 := RX8) (T := TX8) (N := 5) (ci := 6) rfl hin8 rfl 2 (by decide) (List.mem_of_getElem? (i := 2) rfl) rfl rfl dX8_readStall_17 ?_
    refine hg_vvF (As := [.int (1), .int (C 24 0)]) (rest := []) X w (c_X8_tellFault l D b0 L f oa C mr im mk ad n g hm hs ho 1 (C 24 0)) (cwV 2 hts gX8_readStall_X8_tellFault rfl rfl rfl hdX8_tellFault ⟨Nat.le_of_ble_eq_true rfl, Nat.le_of_ble_eq_true rfl⟩) (ho.1 2 (by decide)).1 (ow_at ho (k := 2) (by decide)) rfl rfl rfl hl.1 rfl (Nat.le_of_ble_eq_true rfl) dX8_readStall_20 ⟨Nat.zero_le _, Nat.zero_le _⟩ (fun H locs w => ?_)
    refine lv_goto (tgt := 44) hx hb dX8_readStall_23 (by decide) ?_
    refine lv_aload_n hx hb dX8_readStall_44 rfl (lv_at hl 1 rfl) ?_
    refine lv_dup hx hb dX8_readStall_45 rfl ?_
    refine ob_get X w ho 2 (by decide) (C0 := RX8) (T := TX8) (N := 5) (ci := 6) rfl hin8 rfl 2 (by decide) (List.mem_of_getElem? (i := 2) rfl) rfl rfl dX8_readStall_46 ?_
    refine lv_iconst (v := 1) hx hb dX8_readStall_49 (by decide) ?_
    refine lv_iadd hx hb dX8_readStall_50 ?_
    refine ob_put X w ho 2 (by decide) (C0 := RX8) (T := TX8) (N := 5) (ci := 6) rfl hin8 tyX8_ok nmX8 rfl 2 (by decide) (List.mem_of_getElem? (i := 2) rfl) rfl rfl rfl (by show _ < 5; decide) 24 0 rfl (ob_o0 _ _ (by decide) 0) dX8_readStall_51 (fun H locs w => ?_)
    have eC : (mo_w (mk_tf C 1 (C 24 0)) 24 0 (((mk_tf C 1 (C 24 0)) 24 0 + 1))) = cr_b C g := by
      unfold cr_b cr_a cr_k
      rw [if_pos c_11]
    rw [eC] at w
    refine lv_aload_n hx hb dX8_readStall_54 rfl (lv_at hl 1 rfl) ?_
    refine lv_iconst (v := 0) hx hb dX8_readStall_55 (by decide) ?_
    refine lv_aload_n hx hb dX8_readStall_56 rfl (lv_at hl 2 rfl) ?_
    refine mk_getM X w hm hin3 2 (by decide) (List.mem_of_getElem? (i := 4) rfl) rfl dX8_readStall_57 ?_
    refine lv_iconst (v := 1) hx hb dX8_readStall_60 (by decide) ?_
    refine lv_isub hx hb dX8_readStall_61 ?_
    refine hg_viF (r := (mk_number (cr_b C g) 0 (g 2 - 1)).1) (As := [.int (0), .int ((g 2 - 1))]) (rest := []) X w (c_X8_number l D b0 L f oa (cr_b C g) mr im mk ad n g hm hs ho 0 (g 2 - 1)) (cwV 2 hts gX8_readStall_X8_number rfl rfl rfl hdX8_number ⟨Nat.le_of_ble_eq_true rfl, Nat.le_of_ble_eq_true rfl⟩) (ho.1 2 (by decide)).1 (ow_at ho (k := 2) (by decide)) rfl rfl rfl hl.1 rfl (Nat.le_of_ble_eq_true rfl) dX8_readStall_62 ⟨Nat.zero_le _, Nat.zero_le _⟩ (fun H locs w => ?_)
    refine lv_istore_n (lv' := [(3, .int ((mk_number (cr_b C g) 0 (g 2 - 1)).1)), (2, .int ((mk_kind (mk_by C (C 24 0))))), (0, .ref (oa 2)), (1, .ref mk)]) hx hb dX8_readStall_65 rfl hl (by decide) rfl (fun ls hl => ?_)
    refine lv_aload_n hx hb dX8_readStall_66 rfl (lv_at hl 2 rfl) ?_
    refine lv_bipush (v := 44) hx hb dX8_readStall_67 (by decide) ?_
    refine hg_vvF (As := [.int (44)]) (rest := []) X w (c_X8_pass l D b0 L f oa ((mk_number (cr_b C g) 0 (g 2 - 1)).2) mr im mk ad n g hm hs ho 44) (cwV 1 hts gX8_readStall_X8_pass rfl rfl rfl hdX8_pass ⟨Nat.le_of_ble_eq_true rfl, Nat.le_of_ble_eq_true rfl⟩) (ho.1 2 (by decide)).1 (ow_at ho (k := 2) (by decide)) rfl rfl rfl hl.1 rfl (Nat.le_of_ble_eq_true rfl) dX8_readStall_69 ⟨Nat.zero_le _, Nat.zero_le _⟩ (fun H locs w => ?_)
    refine lv_aload_n hx hb dX8_readStall_72 rfl (lv_at hl 2 rfl) ?_
    refine ob_get X w ho 2 (by decide) (C0 := RX8) (T := TX8) (N := 5) (ci := 6) rfl hin8 rfl 2 (by decide) (List.mem_of_getElem? (i := 2) rfl) rfl rfl dX8_readStall_73 ?_
    refine lv_istore (lv' := [(4, .int ((mk_pass ((mk_number (cr_b C g) 0 (g 2 - 1)).2) 44) 24 0)), (3, .int ((mk_number (cr_b C g) 0 (g 2 - 1)).1)), (2, .int ((mk_kind (mk_by C (C 24 0))))), (0, .ref (oa 2)), (1, .ref mk)]) hx hb dX8_readStall_76 hl (by decide) rfl (fun ls hl => ?_)
    refine lv_aload_n hx hb dX8_readStall_78 rfl (lv_at hl 3 rfl) ?_
    refine lv_iconst (v := 1) hx hb dX8_readStall_79 (by decide) ?_
    refine lv_bipush (v := 8) hx hb dX8_readStall_80 (by decide) ?_
    refine hg_viF (r := (mk_number (mk_pass ((mk_number (cr_b C g) 0 (g 2 - 1)).2) 44) 1 8).1) (As := [.int (1), .int (8)]) (rest := []) X w (c_X8_number l D b0 L f oa (mk_pass ((mk_number (cr_b C g) 0 (g 2 - 1)).2) 44) mr im mk ad n g hm hs ho 1 8) (cwV 2 hts gX8_readStall_X8_number rfl rfl rfl hdX8_number ⟨Nat.le_of_ble_eq_true rfl, Nat.le_of_ble_eq_true rfl⟩) (ho.1 2 (by decide)).1 (ow_at ho (k := 2) (by decide)) rfl rfl rfl hl.1 rfl (Nat.le_of_ble_eq_true rfl) dX8_readStall_82 ⟨Nat.zero_le _, Nat.zero_le _⟩ (fun H locs w => ?_)
    refine lv_istore (lv' := [(5, .int ((mk_number (mk_pass ((mk_number (cr_b C g) 0 (g 2 - 1)).2) 44) 1 8).1)), (4, .int ((mk_pass ((mk_number (cr_b C g) 0 (g 2 - 1)).2) 44) 24 0)), (3, .int ((mk_number (cr_b C g) 0 (g 2 - 1)).1)), (2, .int ((mk_kind (mk_by C (C 24 0))))), (0, .ref (oa 2)), (1, .ref mk)]) hx hb dX8_readStall_85 hl (by decide) rfl (fun ls hl => ?_)
    refine lv_aload_n hx hb dX8_readStall_87 rfl (lv_at hl 5 rfl) ?_
    refine lv_iload_n hx hb dX8_readStall_88 rfl (lv_at hl 2 rfl) ?_
    refine lv_iload hx hb dX8_readStall_89 (lv_at hl 0 rfl) ?_
    refine hg_vqF (r := (mk_std g ((mk_number (cr_b C g) 0 (g 2 - 1)).1) ((mk_number (mk_pass ((mk_number (cr_b C g) 0 (g 2 - 1)).2) 44) 1 8).1) n).map (fun j => ad (2 + j))) (As := [.int ((mk_number (cr_b C g) 0 (g 2 - 1)).1), .int ((mk_number (mk_pass ((mk_number (cr_b C g) 0 (g 2 - 1)).2) 44) 1 8).1)]) (rest := []) X w (c_X3_standing l D b0 L (ob_F D f oa ((mk_number (mk_pass ((mk_number (cr_b C g) 0 (g 2 - 1)).2) 44) 1 8).2) mr im) mk ad n g hm hs ((mk_number (cr_b C g) 0 (g 2 - 1)).1) ((mk_number (mk_pass ((mk_number (cr_b C g) 0 (g 2 - 1)).2) 44) 1 8).1)) (cwV 2 hts gX8_readStall_X3_standing rfl rfl rfl hdX3_standing ⟨Nat.le_of_ble_eq_true rfl, Nat.le_of_ble_eq_true rfl⟩) (hm.1) (mk_at0 D _ mk ad n _) rfl rfl rfl hl.1 rfl (Nat.le_of_ble_eq_true rfl) dX8_readStall_91 ⟨Nat.zero_le _, Nat.zero_le _⟩ (fun H locs w => ?_)
    refine mk_qk (ad := ad) (fun hq91 => ?_) (fun jq91 hq91 => ?_)
    · refine lv_ifnullN (tgt := 104) hx hb dX8_readStall_94 (by decide) ?_
      refine lv_aload_n hx hb dX8_readStall_104 rfl (lv_at hl 4 rfl) ?_
      refine lv_bipush (v := 44) hx hb dX8_readStall_105 (by decide) ?_
      refine hg_vvF (As := [.int (44)]) (rest := []) X w (c_X8_pass l D b0 L f oa ((mk_number (mk_pass ((mk_number (cr_b C g) 0 (g 2 - 1)).2) 44) 1 8).2) mr im mk ad n g hm hs ho 44) (cwV 1 hts gX8_readStall_X8_pass rfl rfl rfl hdX8_pass ⟨Nat.le_of_ble_eq_true rfl, Nat.le_of_ble_eq_true rfl⟩) (ho.1 2 (by decide)).1 (ow_at ho (k := 2) (by decide)) rfl rfl rfl hl.1 rfl (Nat.le_of_ble_eq_true rfl) dX8_readStall_107 ⟨Nat.zero_le _, Nat.zero_le _⟩ (fun H locs w => ?_)
      refine lv_aload_n hx hb dX8_readStall_110 rfl (lv_at hl 4 rfl) ?_
      refine lv_iconst (v := 0) hx hb dX8_readStall_111 (by decide) ?_
      refine lv_bipush (v := 20) hx hb dX8_readStall_112 (by decide) ?_
      refine hg_viF (r := (mk_number (mk_pass ((mk_number (mk_pass ((mk_number (cr_b C g) 0 (g 2 - 1)).2) 44) 1 8).2) 44) 0 20).1) (As := [.int (0), .int (20)]) (rest := []) X w (c_X8_number l D b0 L f oa (mk_pass ((mk_number (mk_pass ((mk_number (cr_b C g) 0 (g 2 - 1)).2) 44) 1 8).2) 44) mr im mk ad n g hm hs ho 0 20) (cwV 2 hts gX8_readStall_X8_number rfl rfl rfl hdX8_number ⟨Nat.le_of_ble_eq_true rfl, Nat.le_of_ble_eq_true rfl⟩) (ho.1 2 (by decide)).1 (ow_at ho (k := 2) (by decide)) rfl rfl rfl hl.1 rfl (Nat.le_of_ble_eq_true rfl) dX8_readStall_114 ⟨Nat.zero_le _, Nat.zero_le _⟩ (fun H locs w => ?_)
      refine lv_istore (lv' := [(6, .int ((mk_number (mk_pass ((mk_number (mk_pass ((mk_number (cr_b C g) 0 (g 2 - 1)).2) 44) 1 8).2) 44) 0 20).1)), (5, .int ((mk_number (mk_pass ((mk_number (cr_b C g) 0 (g 2 - 1)).2) 44) 1 8).1)), (4, .int ((mk_pass ((mk_number (cr_b C g) 0 (g 2 - 1)).2) 44) 24 0)), (3, .int ((mk_number (cr_b C g) 0 (g 2 - 1)).1)), (2, .int ((mk_kind (mk_by C (C 24 0))))), (0, .ref (oa 2)), (1, .ref mk)]) hx hb dX8_readStall_117 hl (by decide) rfl (fun ls hl => ?_)
      refine lv_aload_n hx hb dX8_readStall_119 rfl (lv_at hl 5 rfl) ?_
      refine lv_bipush (v := 59) hx hb dX8_readStall_120 (by decide) ?_
      refine hg_vvF (As := [.int (59)]) (rest := []) X w (c_X8_pass l D b0 L f oa ((mk_number (mk_pass ((mk_number (mk_pass ((mk_number (cr_b C g) 0 (g 2 - 1)).2) 44) 1 8).2) 44) 0 20).2) mr im mk ad n g hm hs ho 59) (cwV 1 hts gX8_readStall_X8_pass rfl rfl rfl hdX8_pass ⟨Nat.le_of_ble_eq_true rfl, Nat.le_of_ble_eq_true rfl⟩) (ho.1 2 (by decide)).1 (ow_at ho (k := 2) (by decide)) rfl rfl rfl hl.1 rfl (Nat.le_of_ble_eq_true rfl) dX8_readStall_122 ⟨Nat.zero_le _, Nat.zero_le _⟩ (fun H locs w => ?_)
      refine lv_aload_n hx hb dX8_readStall_125 rfl (lv_at hl 5 rfl) ?_
      refine ob_get X w ho 2 (by decide) (C0 := RX8) (T := TX8) (N := 5) (ci := 6) rfl hin8 rfl 3 (by decide) (List.mem_of_getElem? (i := 5) rfl) rfl rfl dX8_readStall_126 ?_
      refine lv_if_ne (tgt := 145) hx hb dX8_readStall_129 (by decide) (fun c_129 => ?_) (fun c_129 => ?_)
      · refine W.widen (k := 1) (n := 7) (by omega) (by omega) ?_
        exact hend H locs (L, ob_W D f oa (mk_pass ((mk_number (mk_pass ((mk_number (mk_pass ((mk_number (cr_b C g) 0 (g 2 - 1)).2) 44) 1 8).2) 44) 0 20).2) 59) mr im mk ad n g) _ ls w (Or.inr ⟨by rw [← cr_s_n hq91]; exact c_129, by rw [← cr_s_n hq91]⟩) dX8_readStall_145
      · refine lv_aload_n hx hb dX8_readStall_132 rfl (lv_at hl 6 rfl) ?_
        refine lv_iload_n hx hb dX8_readStall_133 rfl (lv_at hl 4 rfl) ?_
        have hS : cr_s C g n 25 0 = 0 := by
          rw [← cr_s_n hq91]
          exact c_129
        have hK := cr_s_k hS
        refine hg_sq (As := [.int ((mk_kind (mk_by C (C 24 0))))]) (rest := [.ref mk]) X w (c_X6_ofKind l D b0 L (ob_W D f oa (mk_pass ((mk_number (mk_pass ((mk_number (mk_pass ((mk_number (cr_b C g) 0 (g 2 - 1)).2) 44) 1 8).2) 44) 0 20).2) 59) mr im mk ad n g) (cr_k C) (cr_kv hK.1)) (va_cwS 1 hts gX8_readStall_X6_ofKind rfl rfl rfl hdX6_ofKind ⟨Nat.le_of_ble_eq_true rfl, Nat.le_of_ble_eq_true rfl⟩) rfl hl.1 rfl (Nat.le_of_ble_eq_true rfl) dX8_readStall_134 ⟨(Nat.le_of_ble_eq_true rfl), (Nat.le_of_ble_eq_true rfl)⟩ (fun v0 u0 H locs hp w => ?_)
        obtain ⟨q, rfl, hq, rfl⟩ := hp
        refine (show W p l e _ s m args below meth c H locs _ _ Q (F0 m 137 ls [.ref q, .ref mk]) from ?_)
        refine lv_iload_n hx hb dX8_readStall_137 rfl (lv_at hl 3 rfl) ?_
        refine lv_iload hx hb dX8_readStall_138 (lv_at hl 1 rfl) ?_
        refine lv_iload hx hb dX8_readStall_140 (lv_at hl 0 rfl) ?_
        have hn6 : n < 6 := by
          have h6 := hs.2.1
          rcases Nat.lt_or_ge n 6 with z | z
          · exact z
          · exact absurd (by rw [hs.1, show n = 6 by omega]; rfl) hK.2.1
        have hmq : mk ≠ q := fun z => hq (by rw [← z]; exact hm.1)
        refine hg_vv (As := [.ref q, .int ((mk_number (cr_b C g) 0 (g 2 - 1)).1), .int ((mk_number (mk_pass ((mk_number (cr_b C g) 0 (g 2 - 1)).2) 44) 1 8).1), .int ((mk_number (mk_pass ((mk_number (mk_pass ((mk_number (cr_b C g) 0 (g 2 - 1)).2) 44) 1 8).2) 44) 0 20).1)]) (rest := []) X w (c_X3_addStall l D b0 L (ob_F D f oa (mk_pass ((mk_number (mk_pass ((mk_number (mk_pass ((mk_number (cr_b C g) 0 (g 2 - 1)).2) 44) 1 8).2) 44) 0 20).2) 59) mr im) mk ad n g hm hs q hq hn6 hs.1 (cr_k C) ((mk_number (cr_b C g) 0 (g 2 - 1)).1) ((mk_number (mk_pass ((mk_number (cr_b C g) 0 (g 2 - 1)).2) 44) 1 8).1) ((mk_number (mk_pass ((mk_number (mk_pass ((mk_number (cr_b C g) 0 (g 2 - 1)).2) 44) 1 8).2) 44) 0 20).1)) (cwV 4 hts gX8_readStall_X3_addStall rfl rfl rfl hdX3_addStall ⟨Nat.le_of_ble_eq_true rfl, Nat.le_of_ble_eq_true rfl⟩) (List.mem_append_left _ hm.1) ((va_up_ne _ _ hmq).trans (mk_at0 D _ mk ad n g)) rfl rfl rfl hl.1 rfl (Nat.le_of_ble_eq_true rfl) dX8_readStall_142 ⟨(Nat.le_of_ble_eq_true rfl), (Nat.le_of_ble_eq_true rfl)⟩ (fun u H locs hp w => ?_)
        subst hp
        exact hend H locs (L ++ [q], mk_F D (ob_F D f oa (mk_pass ((mk_number (mk_pass ((mk_number (mk_pass ((mk_number (cr_b C g) 0 (g 2 - 1)).2) 44) 1 8).2) 44) 0 20).2) 59) mr im) mk (va_up ad (2 + n) q) (n + 1) (mk_as g n (cr_k C) (cr_c C g).1 (cr_e C g).1 (cr_h C g n).1)) _ ls (by rw [← cr_h_n (cr_s_std hS)]; exact w) (Or.inl ⟨hS, q, hq, by rw [← cr_s_n hq91]⟩) dX8_readStall_145
    · have hjq91 : jq91 < n := mk_std_lt hq91
      refine lv_ifnull hx hb dX8_readStall_94 ?_
      refine lv_aload_n hx hb dX8_readStall_97 rfl (lv_at hl 4 rfl) ?_
      refine lv_iconst (v := 2) hx hb dX8_readStall_98 (by decide) ?_
      refine lv_iload hx hb dX8_readStall_99 (lv_at hl 1 rfl) ?_
      refine hg_vvF (As := [.int (2), .int ((mk_pass ((mk_number (cr_b C g) 0 (g 2 - 1)).2) 44) 24 0)]) (rest := []) X w (c_X8_tellFault l D b0 L f oa ((mk_number (mk_pass ((mk_number (cr_b C g) 0 (g 2 - 1)).2) 44) 1 8).2) mr im mk ad n g hm hs ho 2 ((mk_pass ((mk_number (cr_b C g) 0 (g 2 - 1)).2) 44) 24 0)) (cwV 2 hts gX8_readStall_X8_tellFault rfl rfl rfl hdX8_tellFault ⟨Nat.le_of_ble_eq_true rfl, Nat.le_of_ble_eq_true rfl⟩) (ho.1 2 (by decide)).1 (ow_at ho (k := 2) (by decide)) rfl rfl rfl hl.1 rfl (Nat.le_of_ble_eq_true rfl) dX8_readStall_101 ⟨Nat.zero_le _, Nat.zero_le _⟩ (fun H locs w => ?_)
      refine lv_aload_n hx hb dX8_readStall_104 rfl (lv_at hl 4 rfl) ?_
      refine lv_bipush (v := 44) hx hb dX8_readStall_105 (by decide) ?_
      refine hg_vvF (As := [.int (44)]) (rest := []) X w (c_X8_pass l D b0 L f oa (mk_tf ((mk_number (mk_pass ((mk_number (cr_b C g) 0 (g 2 - 1)).2) 44) 1 8).2) 2 ((mk_pass ((mk_number (cr_b C g) 0 (g 2 - 1)).2) 44) 24 0)) mr im mk ad n g hm hs ho 44) (cwV 1 hts gX8_readStall_X8_pass rfl rfl rfl hdX8_pass ⟨Nat.le_of_ble_eq_true rfl, Nat.le_of_ble_eq_true rfl⟩) (ho.1 2 (by decide)).1 (ow_at ho (k := 2) (by decide)) rfl rfl rfl hl.1 rfl (Nat.le_of_ble_eq_true rfl) dX8_readStall_107 ⟨Nat.zero_le _, Nat.zero_le _⟩ (fun H locs w => ?_)
      refine lv_aload_n hx hb dX8_readStall_110 rfl (lv_at hl 4 rfl) ?_
      refine lv_iconst (v := 0) hx hb dX8_readStall_111 (by decide) ?_
      refine lv_bipush (v := 20) hx hb dX8_readStall_112 (by decide) ?_
      refine hg_viF (r := (mk_number (mk_pass (mk_tf ((mk_number (mk_pass ((mk_number (cr_b C g) 0 (g 2 - 1)).2) 44) 1 8).2) 2 ((mk_pass ((mk_number (cr_b C g) 0 (g 2 - 1)).2) 44) 24 0)) 44) 0 20).1) (As := [.int (0), .int (20)]) (rest := []) X w (c_X8_number l D b0 L f oa (mk_pass (mk_tf ((mk_number (mk_pass ((mk_number (cr_b C g) 0 (g 2 - 1)).2) 44) 1 8).2) 2 ((mk_pass ((mk_number (cr_b C g) 0 (g 2 - 1)).2) 44) 24 0)) 44) mr im mk ad n g hm hs ho 0 20) (cwV 2 hts gX8_readStall_X8_number rfl rfl rfl hdX8_number ⟨Nat.le_of_ble_eq_true rfl, Nat.le_of_ble_eq_true rfl⟩) (ho.1 2 (by decide)).1 (ow_at ho (k := 2) (by decide)) rfl rfl rfl hl.1 rfl (Nat.le_of_ble_eq_true rfl) dX8_readStall_114 ⟨Nat.zero_le _, Nat.zero_le _⟩ (fun H locs w => ?_)
      refine lv_istore (lv' := [(6, .int ((mk_number (mk_pass (mk_tf ((mk_number (mk_pass ((mk_number (cr_b C g) 0 (g 2 - 1)).2) 44) 1 8).2) 2 ((mk_pass ((mk_number (cr_b C g) 0 (g 2 - 1)).2) 44) 24 0)) 44) 0 20).1)), (5, .int ((mk_number (mk_pass ((mk_number (cr_b C g) 0 (g 2 - 1)).2) 44) 1 8).1)), (4, .int ((mk_pass ((mk_number (cr_b C g) 0 (g 2 - 1)).2) 44) 24 0)), (3, .int ((mk_number (cr_b C g) 0 (g 2 - 1)).1)), (2, .int ((mk_kind (mk_by C (C 24 0))))), (0, .ref (oa 2)), (1, .ref mk)]) hx hb dX8_readStall_117 hl (by decide) rfl (fun ls hl => ?_)
      refine lv_aload_n hx hb dX8_readStall_119 rfl (lv_at hl 5 rfl) ?_
      refine lv_bipush (v := 59) hx hb dX8_readStall_120 (by decide) ?_
      refine hg_vvF (As := [.int (59)]) (rest := []) X w (c_X8_pass l D b0 L f oa ((mk_number (mk_pass (mk_tf ((mk_number (mk_pass ((mk_number (cr_b C g) 0 (g 2 - 1)).2) 44) 1 8).2) 2 ((mk_pass ((mk_number (cr_b C g) 0 (g 2 - 1)).2) 44) 24 0)) 44) 0 20).2) mr im mk ad n g hm hs ho 59) (cwV 1 hts gX8_readStall_X8_pass rfl rfl rfl hdX8_pass ⟨Nat.le_of_ble_eq_true rfl, Nat.le_of_ble_eq_true rfl⟩) (ho.1 2 (by decide)).1 (ow_at ho (k := 2) (by decide)) rfl rfl rfl hl.1 rfl (Nat.le_of_ble_eq_true rfl) dX8_readStall_122 ⟨Nat.zero_le _, Nat.zero_le _⟩ (fun H locs w => ?_)
      refine lv_aload_n hx hb dX8_readStall_125 rfl (lv_at hl 5 rfl) ?_
      refine ob_get X w ho 2 (by decide) (C0 := RX8) (T := TX8) (N := 5) (ci := 6) rfl hin8 rfl 3 (by decide) (List.mem_of_getElem? (i := 5) rfl) rfl rfl dX8_readStall_126 ?_
      refine lv_if_ne (tgt := 145) hx hb dX8_readStall_129 (by decide) (fun c_129 => ?_) (fun c_129 => ?_)
      · refine W.widen (k := 1) (n := 7) (by omega) (by omega) ?_
        exact hend H locs (L, ob_W D f oa (mk_pass ((mk_number (mk_pass (mk_tf ((mk_number (mk_pass ((mk_number (cr_b C g) 0 (g 2 - 1)).2) 44) 1 8).2) 2 ((mk_pass ((mk_number (cr_b C g) 0 (g 2 - 1)).2) 44) 24 0)) 44) 0 20).2) 59) mr im mk ad n g) _ ls w (Or.inr ⟨by rw [← cr_s_s hq91]; exact c_129, by rw [← cr_s_s hq91]⟩) dX8_readStall_145
      · refine lv_aload_n hx hb dX8_readStall_132 rfl (lv_at hl 6 rfl) ?_
        refine lv_iload_n hx hb dX8_readStall_133 rfl (lv_at hl 4 rfl) ?_
        have hS : cr_s C g n 25 0 = 0 := by
          rw [← cr_s_s hq91]
          exact c_129
        have hK := cr_s_k hS
        refine hg_sq (As := [.int ((mk_kind (mk_by C (C 24 0))))]) (rest := [.ref mk]) X w (c_X6_ofKind l D b0 L (ob_W D f oa (mk_pass ((mk_number (mk_pass (mk_tf ((mk_number (mk_pass ((mk_number (cr_b C g) 0 (g 2 - 1)).2) 44) 1 8).2) 2 ((mk_pass ((mk_number (cr_b C g) 0 (g 2 - 1)).2) 44) 24 0)) 44) 0 20).2) 59) mr im mk ad n g) (cr_k C) (cr_kv hK.1)) (va_cwS 1 hts gX8_readStall_X6_ofKind rfl rfl rfl hdX6_ofKind ⟨Nat.le_of_ble_eq_true rfl, Nat.le_of_ble_eq_true rfl⟩) rfl hl.1 rfl (Nat.le_of_ble_eq_true rfl) dX8_readStall_134 ⟨(Nat.le_of_ble_eq_true rfl), (Nat.le_of_ble_eq_true rfl)⟩ (fun v0 u0 H locs hp w => ?_)
        obtain ⟨q, rfl, hq, rfl⟩ := hp
        refine (show W p l e _ s m args below meth c H locs _ _ Q (F0 m 137 ls [.ref q, .ref mk]) from ?_)
        refine lv_iload_n hx hb dX8_readStall_137 rfl (lv_at hl 3 rfl) ?_
        refine lv_iload hx hb dX8_readStall_138 (lv_at hl 1 rfl) ?_
        refine lv_iload hx hb dX8_readStall_140 (lv_at hl 0 rfl) ?_
        have hn6 : n < 6 := by
          have h6 := hs.2.1
          rcases Nat.lt_or_ge n 6 with z | z
          · exact z
          · exact absurd (by rw [hs.1, show n = 6 by omega]; rfl) hK.2.1
        have hmq : mk ≠ q := fun z => hq (by rw [← z]; exact hm.1)
        refine hg_vv (As := [.ref q, .int ((mk_number (cr_b C g) 0 (g 2 - 1)).1), .int ((mk_number (mk_pass ((mk_number (cr_b C g) 0 (g 2 - 1)).2) 44) 1 8).1), .int ((mk_number (mk_pass (mk_tf ((mk_number (mk_pass ((mk_number (cr_b C g) 0 (g 2 - 1)).2) 44) 1 8).2) 2 ((mk_pass ((mk_number (cr_b C g) 0 (g 2 - 1)).2) 44) 24 0)) 44) 0 20).1)]) (rest := []) X w (c_X3_addStall l D b0 L (ob_F D f oa (mk_pass ((mk_number (mk_pass (mk_tf ((mk_number (mk_pass ((mk_number (cr_b C g) 0 (g 2 - 1)).2) 44) 1 8).2) 2 ((mk_pass ((mk_number (cr_b C g) 0 (g 2 - 1)).2) 44) 24 0)) 44) 0 20).2) 59) mr im) mk ad n g hm hs q hq hn6 hs.1 (cr_k C) ((mk_number (cr_b C g) 0 (g 2 - 1)).1) ((mk_number (mk_pass ((mk_number (cr_b C g) 0 (g 2 - 1)).2) 44) 1 8).1) ((mk_number (mk_pass (mk_tf ((mk_number (mk_pass ((mk_number (cr_b C g) 0 (g 2 - 1)).2) 44) 1 8).2) 2 ((mk_pass ((mk_number (cr_b C g) 0 (g 2 - 1)).2) 44) 24 0)) 44) 0 20).1)) (cwV 4 hts gX8_readStall_X3_addStall rfl rfl rfl hdX3_addStall ⟨Nat.le_of_ble_eq_true rfl, Nat.le_of_ble_eq_true rfl⟩) (List.mem_append_left _ hm.1) ((va_up_ne _ _ hmq).trans (mk_at0 D _ mk ad n g)) rfl rfl rfl hl.1 rfl (Nat.le_of_ble_eq_true rfl) dX8_readStall_142 ⟨(Nat.le_of_ble_eq_true rfl), (Nat.le_of_ble_eq_true rfl)⟩ (fun u H locs hp w => ?_)
        subst hp
        exact hend H locs (L ++ [q], mk_F D (ob_F D f oa (mk_pass ((mk_number (mk_pass (mk_tf ((mk_number (mk_pass ((mk_number (cr_b C g) 0 (g 2 - 1)).2) 44) 1 8).2) 2 ((mk_pass ((mk_number (cr_b C g) 0 (g 2 - 1)).2) 44) 24 0)) 44) 0 20).2) 59) mr im) mk (va_up ad (2 + n) q) (n + 1) (mk_as g n (cr_k C) (cr_c C g).1 (cr_e C g).1 (cr_h C g n).1)) _ ls (by rw [← cr_h_n (cr_s_std hS)]; exact w) (Or.inl ⟨hS, q, hq, by rw [← cr_s_s hq91]⟩) dX8_readStall_145
