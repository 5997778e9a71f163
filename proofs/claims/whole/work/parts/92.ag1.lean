/-! BOTH SIDES AGREE: first what a market's numbers lie between -/
def ag_r (x : Int32) (a b : Int) : Prop := a ≤ x.toInt ∧ x.toInt ≤ b
theorem ag_add {x y : Int32} {a b c d : Int} (hx : ag_r x a b) (hy : ag_r y c d) (h1 : -2147483648 ≤ a + c) (h2 : b + d ≤ 2147483647) : ag_r (x + y) (a + c) (b + d) := by
  obtain ⟨p, q⟩ := hx
  obtain ⟨r, t⟩ := hy
  unfold ag_r
  rw [Int32.toInt_add, Int.bmod_eq_of_le (by omega) (by omega)]
  omega
theorem ag_sub {x y : Int32} {a b c d : Int} (hx : ag_r x a b) (hy : ag_r y c d) (h1 : -2147483648 ≤ a - d) (h2 : b - c ≤ 2147483647) : ag_r (x - y) (a - d) (b - c) := by
  obtain ⟨p, q⟩ := hx
  obtain ⟨r, t⟩ := hy
  unfold ag_r
  rw [Int32.toInt_sub, Int.bmod_eq_of_le (by omega) (by omega)]
  omega
theorem ag_w {x : Int32} {a b c d : Int} (hx : ag_r x a b) (h1 : c ≤ a) (h2 : b ≤ d) : ag_r x c d := ⟨Int.le_trans h1 hx.1, Int.le_trans hx.2 h2⟩
/-- times a number from 1 to 8 -/
theorem ag_mul8 {x y : Int32} {a b : Int} (hx : ag_r x a b) (hy : ag_r y 1 8) (ha : a ≤ 0) (hb : 0 ≤ b) (h1 : -200000000 ≤ a) (h2 : b ≤ 200000000) : ag_r (x * y) (8 * a) (8 * b) := by
  obtain ⟨p, q⟩ := hx
  obtain ⟨r, t⟩ := hy
  unfold ag_r
  have e : y.toInt = 1 ∨ y.toInt = 2 ∨ y.toInt = 3 ∨ y.toInt = 4 ∨ y.toInt = 5 ∨ y.toInt = 6 ∨ y.toInt = 7 ∨ y.toInt = 8 := by omega
  rw [Int32.toInt_mul]
  rcases e with e | e | e | e | e | e | e | e <;> rw [e, Int.bmod_eq_of_le (by omega) (by omega)] <;> omega
theorem ag_tdiv {x y : Int} (hy : 1 ≤ y) : (0 ≤ x → 0 ≤ x.tdiv y ∧ x.tdiv y ≤ x) ∧ (x ≤ 0 → x ≤ x.tdiv y ∧ x.tdiv y ≤ 0) := by
  have key : ∀ z : Int, 0 ≤ z → 0 ≤ z.tdiv y ∧ z.tdiv y ≤ z := by
    intro z hz
    rw [Int.tdiv_eq_ediv_of_nonneg hz]
    exact ⟨Int.ediv_nonneg hz (by omega), Int.ediv_le_self _ hz⟩
  refine ⟨key x, fun h => ?_⟩
  have h2 := key (-x) (by omega)
  rw [Int.neg_tdiv] at h2
  omega
theorem ag_div {x y : Int32} {a b : Int} (hx : ag_r x a b) (hy : 1 ≤ y) (ha : a ≤ 0) (hb : 0 ≤ b) : ag_r (x / y) a b := by
  obtain ⟨p, q⟩ := hx
  rw [Int32.le_iff_toInt_le] at hy
  have e1 : (1 : Int32).toInt = 1 := rfl
  rw [e1] at hy
  unfold ag_r
  rw [Int32.toInt_div_of_ne_right _ _ (by intro z; rw [z] at hy; exact absurd hy (by decide))]
  obtain ⟨k1, k2⟩ := ag_tdiv (x := x.toInt) hy
  rcases Int.le_total 0 x.toInt with z | z
  · have := k1 z; omega
  · have := k2 z; omega
theorem ag_neg {x : Int32} {a b : Int} (hx : ag_r x a b) (h1 : -2147483647 ≤ a) (h2 : b ≤ 2147483647) : ag_r (-x) (-b) (-a) := by
  obtain ⟨p, q⟩ := hx
  unfold ag_r
  rw [Int32.toInt_neg, Int.bmod_eq_of_le (by omega) (by omega)]
  omega
theorem ag_lit {n : Nat} {a b : Int} (h : n < 2147483648) (h1 : a ≤ n) (h2 : (n : Int) ≤ b) : ag_r (nI n) a b := by
  unfold ag_r
  rw [nI_toInt (by omega)]
  omega
theorem ag_z {a b : Int} (h1 : a ≤ 0) (h2 : 0 ≤ b) : ag_r 0 a b := by
  unfold ag_r
  have e : (0 : Int32).toInt = 0 := rfl
  rw [e]
  omega
theorem ag_nat {x : Int32} {a b : Nat} (hx : ag_r x a b) : ∃ q : Nat, a ≤ q ∧ q ≤ b ∧ x = nI q := by
  obtain ⟨p, q⟩ := hx
  have h0 : ¬ x < 0 := by
    rw [Int32.lt_iff_toInt_lt]
    have e : (0 : Int32).toInt = 0 := rfl
    omega
  obtain ⟨j, hj, rfl⟩ := nI_of h0
  rw [nI_toInt hj] at p q
  exact ⟨j, by omega, by omega, rfl⟩
/-- loose bounds, that what is foretold keeps to as well -/
def ag_B (g : Nat → Int32) (n nr : Nat) : Prop := mk_sr g n ∧ mk_t g nr ∧ ag_r (g 1) 0 1000 ∧ ∀ i, i < n → ag_r (g (14 + i)) 0 2 ∧ ag_r (g (20 + i)) 1 8 ∧ ag_r (g (26 + i)) 0 100 ∧ ag_r (g (32 + i)) 0 100 ∧ ag_r (g (38 + i)) 0 100
theorem ag_weight {g : Nat → Int32} {n nr i : Nat} (h : ag_B g n nr) (hi : i < n) : ag_r (hs_weight g i) (-100) 400 := by
  obtain ⟨-, -, -, h5⟩ := h
  obtain ⟨-, -, k3, k4, k5⟩ := h5 i hi
  have hg : ag_r (hs_goods g i) 0 100 := by
    unfold hs_goods
    split
    · exact ag_z (by omega) (by omega)
    · exact k3
  have hw : ag_r (hs_wares (g (8 + i)) (hs_goods g i)) (-100) 200 := by
    unfold hs_wares
    split
    · exact ag_w (ag_div (a := 0) (b := 100) hg (by decide) (by omega) (by omega)) (by omega) (by omega)
    split
    · have e : (2 : Int32) * hs_goods g i = hs_goods g i + hs_goods g i := by rw [Int32.two_mul]
      rw [e]
      exact ag_w (ag_add hg hg (by omega) (by omega)) (by omega) (by omega)
    split
    · exact ag_w (ag_neg hg (by omega) (by omega)) (by omega) (by omega)
    · exact ag_w hg (by omega) (by omega)
  have hb : ag_r (hs_buy g i) 0 100 := by
    unfold hs_buy
    split
    · exact ag_z (by omega) (by omega)
    · exact k4
  unfold hs_weight
  exact ag_w (ag_add (ag_add hw k5 (by omega) (by omega)) hb (by omega) (by omega)) (by omega) (by omega)
theorem ag_less {x y : Int32} (hx : ag_r x 1 8) (hy : ag_r y 1 8) : ag_r (hs_less x y) 1 8 := by
  unfold hs_less
  split
  · exact hx
  · exact hy
theorem ag_far {x y : Int32} (hx : ag_r x 1 8) (hy : ag_r y 1 8) : ag_r (9 - hs_far x y) 1 8 := by
  have h : ag_r (hs_far x y) 1 8 := by
    rw [← mk_max]
    split
    · exact hy
    · exact hx
  exact ag_w (ag_sub (x := 9) (a := 9) (b := 9) ⟨by decide, by decide⟩ h (by omega) (by omega)) (by omega) (by omega)
theorem ag_pull {g : Nat → Int32} {n nr : Nat} (h : ag_B g n nr) (rope : Int32) {x : Int32} (hx : ag_r x 1 8) : ∀ k, k ≤ n → ag_r (hs_pull g rope x k) (-6400 * k) (25600 * k) := by
  have h6 := h.1.2.1
  intro k
  induction k with
  | zero => intro _; exact ag_z (by omega) (by omega)
  | succ k ih =>
    intro hk
    have hp := (h.2.2.2 k (by omega)).2.1
    have h1 : ag_r (hs_weight g k * hs_less x (g (20 + k)) * (9 - hs_far x (g (20 + k)))) (-6400) 25600 := by
      have a1 := ag_mul8 (ag_weight h (i := k) (by omega)) (ag_less hx hp) (by omega) (by omega) (by omega) (by omega)
      exact ag_w (ag_mul8 a1 (ag_far hx hp) (by omega) (by omega) (by omega) (by omega)) (by omega) (by omega)
    have h2 : ag_r (if g (14 + k) = rope then hs_weight g k * hs_less x (g (20 + k)) * (9 - hs_far x (g (20 + k))) else 0) (-6400) 25600 := by
      split
      · exact h1
      · exact ag_z (by omega) (by omega)
    have := ag_add (ih (by omega)) h2 (by omega) (by omega)
    exact ag_w this (by omega) (by omega)
theorem ag_sag {g : Nat → Int32} {n nr : Nat} (h : ag_B g n nr) (rope : Int32) {x : Int32} (hx : ag_r x 1 8) : ag_r (hs_sag g n rope x) (-40000) 160000 := by
  have h6 := h.1.2.1
  unfold hs_sag
  split
  · exact ag_z (by omega) (by omega)
  · rename_i c
    obtain ⟨j, hj, e⟩ := hs_ro_1 (mk_ok_of h.1 h.2.1) c
    have h3 := h.2.1.2.1
    have ht := h.2.1.2.2.1 j hj
    rw [e, nI_clamp (by omega), ← e]
    have h1 := ag_w (ag_pull h rope hx n (Nat.le_refl n)) (c := -38400) (d := 153600) (by omega) (by omega)
    exact ag_w (ag_add (ag_div h1 ht (by omega) (by omega)) h.2.2.1 (by omega) (by omega)) (by omega) (by omega)
theorem ag_depth {g : Nat → Int32} {n nr : Nat} (h : ag_B g n nr) (rope : Int32) {x : Int32} (hx : ag_r x 1 8) : ag_r (hs_depth g n rope x) (-400000) 400000 := by
  unfold hs_depth
  have h1 := ag_add (ag_sag h (rope - 1) hx) (ag_sag h (rope + 1) hx) (by omega) (by omega)
  have h2 := ag_div (y := 4) (ag_w h1 (c := -80000) (d := 320000) (by omega) (by omega)) (by decide) (by omega) (by omega)
  exact ag_w (ag_sub (ag_sag h rope hx) h2 (by omega) (by omega)) (by omega) (by omega)
theorem ag_deep {g : Nat → Int32} {n nr s : Nat} (h : ag_B g n nr) (hs : s < n) : ag_r (hs_deep g n s) (-400000) 400000 := ag_depth h _ (h.2.2.2 s hs).2.1
theorem ag_abs1 {d : Int32} (h : ag_r d (-800000) 800000) : mk_abs d ≤ 1 ↔ (-1 ≤ d ∧ d ≤ 1) := by
  obtain ⟨p, q⟩ := h
  have e1 : (1 : Int32).toInt = 1 := rfl
  have e2 : (-1 : Int32).toInt = -1 := rfl
  have e0 : (0 : Int32).toInt = 0 := rfl
  unfold mk_abs
  split
  · rename_i c
    rw [Int32.le_iff_toInt_le, e0] at c
    rw [Int32.le_iff_toInt_le, Int32.le_iff_toInt_le, e1, e2]
    omega
  · rename_i c
    rw [Int32.le_iff_toInt_le, e0] at c
    rw [Int32.le_iff_toInt_le, Int32.le_iff_toInt_le, Int32.le_iff_toInt_le, Int32.toInt_sub, e0, e1, e2, Int.bmod_eq_of_le (by omega) (by omega)]
    omega
theorem ag_sq : ∀ a, a < 3 → ∀ b, b < 3 → (mk_abs (nI a - nI b) = 1 ↔ (nI a - nI b) * (nI a - nI b) = 1) ∧ (mk_abs (nI a - nI b) = mk_abs (nI b - nI a)) := by decide +kernel
theorem ag_walk {g : Nat → Int32} {n nr a b : Nat} (h : ag_B g n nr) (ha : a < n) (hb : b < n) : hs_walk g n a b = if mk_joins g a b = 0 then 0 else if mk_meets g n a b = 0 then 1 else 2 := by
  obtain ⟨p, -, hp, ep⟩ := ag_nat (a := 0) (b := 2) (h.2.2.2 a ha).1
  obtain ⟨q, -, hq, eq⟩ := ag_nat (a := 0) (b := 2) (h.2.2.2 b hb).1
  have h1 := (ag_sq p (by omega) q (by omega)).1
  have h2 := ag_abs1 (ag_w (ag_sub (ag_deep h ha) (ag_deep h hb) (by omega) (by omega)) (by omega) (by omega))
  have j1 : mk_joins g a b = 0 ↔ ¬ ((nI p - nI q) * (nI p - nI q) = 1 ∧ g (20 + a) = g (20 + b)) := by
    unfold mk_joins
    rw [hs_if10, ep, eq, h1]
  have j2 : mk_meets g n a b = 0 ↔ ¬ (-1 ≤ hs_deep g n a - hs_deep g n b ∧ hs_deep g n a - hs_deep g n b ≤ 1) := by
    unfold mk_meets
    rw [hs_if10, h2]
  unfold hs_walk
  rw [ep, eq]
  by_cases c1 : (nI p - nI q) * (nI p - nI q) = 1 ∧ g (20 + a) = g (20 + b)
  · rw [if_pos c1, if_neg (fun z => j1.mp z c1)]
    by_cases c2 : -1 ≤ hs_deep g n a - hs_deep g n b ∧ hs_deep g n a - hs_deep g n b ≤ 1
    · rw [if_pos c2, if_neg (fun z => j2.mp z c2)]
    · rw [if_neg c2, if_pos (j2.mpr c2)]
  · rw [if_neg c1, if_pos (j1.mpr c1)]
theorem ag_walk_sym {g : Nat → Int32} {n nr a b : Nat} (h : ag_B g n nr) (ha : a < n) (hb : b < n) : hs_walk g n a b = hs_walk g n b a := by
  have e1 : ∀ x y : Int32, (x - y) * (x - y) = (y - x) * (y - x) := by
    intro x y
    rw [← Int32.neg_sub (a := y) (b := x), Int32.neg_mul_neg]
  obtain ⟨d1, d2⟩ := ag_sub (ag_deep h ha) (ag_deep h hb) (by omega) (by omega)
  have n1 : (hs_deep g n b - hs_deep g n a).toInt = -(hs_deep g n a - hs_deep g n b).toInt := by
    obtain ⟨p1, p2⟩ := ag_deep h ha
    obtain ⟨q1, q2⟩ := ag_deep h hb
    rw [Int32.toInt_sub, Int32.toInt_sub, Int.bmod_eq_of_le (by omega) (by omega), Int.bmod_eq_of_le (by omega) (by omega)]
    omega
  have e2 : (-1 ≤ hs_deep g n a - hs_deep g n b ∧ hs_deep g n a - hs_deep g n b ≤ 1) ↔ (-1 ≤ hs_deep g n b - hs_deep g n a ∧ hs_deep g n b - hs_deep g n a ≤ 1) := by
    have f1 : (1 : Int32).toInt = 1 := rfl
    have f2 : (-1 : Int32).toInt = -1 := rfl
    rw [Int32.le_iff_toInt_le, Int32.le_iff_toInt_le, Int32.le_iff_toInt_le, Int32.le_iff_toInt_le, n1, f1, f2]
    omega
  unfold hs_walk
  rw [e1 (g (14 + a)) (g (14 + b))]
  by_cases c1 : (g (14 + b) - g (14 + a)) * (g (14 + b) - g (14 + a)) = 1 ∧ g (20 + a) = g (20 + b)
  · have c1' : (g (14 + b) - g (14 + a)) * (g (14 + b) - g (14 + a)) = 1 ∧ g (20 + b) = g (20 + a) := ⟨c1.1, c1.2.symm⟩
    by_cases c2 : -1 ≤ hs_deep g n a - hs_deep g n b ∧ hs_deep g n a - hs_deep g n b ≤ 1
    · have c3 := e2.mp c2
      rw [if_pos c1, if_pos c2, if_pos c1', if_pos c3]
    · have c3 : ¬ (-1 ≤ hs_deep g n b - hs_deep g n a ∧ hs_deep g n b - hs_deep g n a ≤ 1) := fun z => c2 (e2.mpr z)
      rw [if_pos c1, if_neg c2, if_pos c1', if_neg c3]
  · have c1' : ¬ ((g (14 + b) - g (14 + a)) * (g (14 + b) - g (14 + a)) = 1 ∧ g (20 + b) = g (20 + a)) := fun z => c1 ⟨z.1, z.2.symm⟩
    rw [if_neg c1, if_neg c1']
/-- pairs counted either way -/
def ag_c1 (t : Nat → Nat → Int32) (a : Nat) (c : Int32) : Nat → Int32
  | 0 => c
  | b + 1 => ag_c1 t a c b + (if a < b then t a b else 0)
def ag_c (t : Nat → Nat → Int32) (n : Nat) : Nat → Int32
  | 0 => 0
  | a + 1 => ag_c1 t a (ag_c t n a) n
def ag_k1 (t : Nat → Nat → Int32) (a : Nat) (c : Int32) : Nat → Int32
  | 0 => c
  | b + 1 => ag_k1 t a c b + t a b
def ag_k (t : Nat → Nat → Int32) : Nat → Int32
  | 0 => 0
  | a + 1 => ag_k1 t a (ag_k t a) a
theorem ag_ck {t : Nat → Nat → Int32} {n : Nat} (hn : n ≤ 6) (hs : ∀ a b, a < n → b < n → t a b = t b a) : ag_c t n n = ag_k t n := by
  rcases (show n = 0 ∨ n = 1 ∨ n = 2 ∨ n = 3 ∨ n = 4 ∨ n = 5 ∨ n = 6 by omega) with rfl | rfl | rfl | rfl | rfl | rfl | rfl
  · rfl
  · simp [ag_c, ag_c1, ag_k, ag_k1]
  · simp [ag_c, ag_c1, ag_k, ag_k1, hs 0 1 (by omega) (by omega)]
  · simp [ag_c, ag_c1, ag_k, ag_k1, hs 0 1 (by omega) (by omega), hs 0 2 (by omega) (by omega), hs 1 2 (by omega) (by omega)]
  · simp [ag_c, ag_c1, ag_k, ag_k1, hs 0 1 (by omega) (by omega), hs 0 2 (by omega) (by omega), hs 1 2 (by omega) (by omega), hs 0 3 (by omega) (by omega), hs 1 3 (by omega) (by omega), hs 2 3 (by omega) (by omega)]
    ac_rfl
  · simp [ag_c, ag_c1, ag_k, ag_k1, hs 0 1 (by omega) (by omega), hs 0 2 (by omega) (by omega), hs 1 2 (by omega) (by omega), hs 0 3 (by omega) (by omega), hs 1 3 (by omega) (by omega), hs 2 3 (by omega) (by omega), hs 0 4 (by omega) (by omega), hs 1 4 (by omega) (by omega), hs 2 4 (by omega) (by omega), hs 3 4 (by omega) (by omega)]
    ac_rfl
  · simp [ag_c, ag_c1, ag_k, ag_k1, hs 0 1 (by omega) (by omega), hs 0 2 (by omega) (by omega), hs 1 2 (by omega) (by omega), hs 0 3 (by omega) (by omega), hs 1 3 (by omega) (by omega), hs 2 3 (by omega) (by omega), hs 0 4 (by omega) (by omega), hs 1 4 (by omega) (by omega), hs 2 4 (by omega) (by omega), hs 3 4 (by omega) (by omega), hs 0 5 (by omega) (by omega), hs 1 5 (by omega) (by omega), hs 2 5 (by omega) (by omega), hs 3 5 (by omega) (by omega), hs 4 5 (by omega) (by omega)]
    ac_rfl
def ag_t (g : Nat → Int32) (n : Nat) (least : Int32) (a b : Nat) : Int32 := if hs_walk g n a b < least then 0 else 1
theorem ag_k1_e (g : Nat → Int32) (n : Nat) (least : Int32) (a : Nat) (c : Int32) : ∀ b, hs_wks1 g n least a c b = ag_k1 (ag_t g n least) a c b := by
  intro b
  induction b with
  | zero => rfl
  | succ b ih => show hs_wks1 g n least a c b + _ = ag_k1 (ag_t g n least) a c b + _; rw [ih]; rfl
theorem ag_k_e (g : Nat → Int32) (n : Nat) (least : Int32) : ∀ a, hs_wks g n least a = ag_k (ag_t g n least) a := by
  intro a
  induction a with
  | zero => rfl
  | succ a ih => show hs_wks1 g n least a (hs_wks g n least a) a = ag_k1 _ a (ag_k _ a) a; rw [ih, ag_k1_e]
theorem ag_t_e {g : Nat → Int32} {n nr a b : Nat} (h : ag_B g n nr) (ha : a < n) (hb : b < n) {only : Int32} (ho : only = 0 ∨ only = 1) : (if nI a < nI b ∧ ¬ mk_joins g a b = 0 ∧ (only = 0 ∨ ¬ mk_meets g n a b = 0) then (1 : Int32) else 0) = if a < b then ag_t g n (only + 1) a b else 0 := by
  have h6 := h.1.2.1
  have hl := nI_ltI (a := a) (b := b) (by omega) (by omega)
  unfold ag_t
  rw [ag_walk h ha hb]
  by_cases c0 : a < b
  · rw [if_pos c0]
    by_cases c1 : mk_joins g a b = 0
    · rw [if_neg (fun z => z.2.1 c1), if_pos c1, if_pos (by rcases ho with rfl | rfl <;> decide)]
    · rw [if_neg c1]
      by_cases c2 : mk_meets g n a b = 0
      · rw [if_pos c2]
        rcases ho with rfl | rfl
        · rw [if_pos ⟨hl.mpr c0, c1, Or.inl rfl⟩, if_neg (by decide)]
        · rw [if_neg (fun z => z.2.2.elim (by decide) (fun z => z c2)), if_pos (by decide)]
      · rw [if_neg c2, if_pos ⟨hl.mpr c0, c1, Or.inr c2⟩, if_neg (by rcases ho with rfl | rfl <;> decide)]
  · rw [if_neg c0, if_neg (fun z => c0 (hl.mp z.1))]
theorem ag_c1_e {g : Nat → Int32} {n nr a : Nat} (h : ag_B g n nr) (ha : a < n) {only : Int32} (ho : only = 0 ∨ only = 1) (c : Int32) : ∀ b, b ≤ n → mk_w1 g n only a c b = ag_c1 (ag_t g n (only + 1)) a c b := by
  intro b
  induction b with
  | zero => intro _; rfl
  | succ b ih => intro hb; show mk_w1 g n only a c b + _ = ag_c1 _ a c b + _; rw [ih (by omega), ag_t_e h ha (by omega) ho]
theorem ag_c_e {g : Nat → Int32} {n nr : Nat} (h : ag_B g n nr) {only : Int32} (ho : only = 0 ∨ only = 1) : ∀ a, a ≤ n → mk_w g n only a = ag_c (ag_t g n (only + 1)) n a := by
  intro a
  induction a with
  | zero => intro _; rfl
  | succ a ih => intro ha; show mk_w1 g n only a (mk_w g n only a) n = ag_c1 _ a (ag_c _ n a) n; rw [ih (by omega), ag_c1_e h (by omega) ho _ n (Nat.le_refl n)]
theorem ag_wks {g : Nat → Int32} {n nr : Nat} (h : ag_B g n nr) {only : Int32} (ho : only = 0 ∨ only = 1) : mk_w g n only n = hs_wks g n (only + 1) n := by
  rw [ag_c_e h ho n (Nat.le_refl n), ag_k_e, ag_ck h.1.2.1]
  intro a b ha hb
  unfold ag_t
  rw [ag_walk_sym h ha hb]
