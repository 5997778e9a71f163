/-! IN WHAT ORDER WARES ARE TAKEN OFF: the reference's way -/
def lw_had (g : Nat → Int32) : Nat → Int32
  | 0 => 0
  | k + 1 => lw_had g k ||| (g (44 + k) <<< (nI k &&& 31))
def lw_hN (g : Nat → Int32) : Nat → Nat
  | 0 => 0
  | k + 1 => if g (44 + k) = 0 then lw_hN g k else lw_hN g k + 2 ^ k
theorem lw_sh0 : ∀ k, k < 6 → (0 : Int32) <<< (nI k &&& 31) = 0 := by decide +kernel
theorem lw_had_n {g : Nat → Int32} {n : Nat} (ho : ∀ i, i < n → g (44 + i) = 0 ∨ g (44 + i) = 1) : ∀ k, k ≤ n → k ≤ 6 → lw_had g k = nI (lw_hN g k) ∧ lw_hN g k < 2 ^ k := by
  intro k
  induction k with
  | zero => intro _ _; exact ⟨rfl, Nat.one_pos⟩
  | succ k ih =>
    intro h1 h6
    obtain ⟨a, b⟩ := ih (by omega) (by omega)
    rw [lw_had, lw_hN, a]
    rcases ho k (by omega) with z | z
    · rw [z, if_pos rfl, lw_sh0 k (by omega), hs_or0]
      exact ⟨rfl, by rw [Nat.pow_succ]; omega⟩
    · rw [z, if_neg (by decide)]
      exact hs_bits k (by omega) _ b
theorem lw_hN_bit {g : Nat → Int32} {n : Nat} (ho : ∀ i, i < n → g (44 + i) = 0 ∨ g (44 + i) = 1) : ∀ k, k ≤ n → k ≤ 6 → ∀ i, i < 6 → ((lw_hN g k).testBit i = true ↔ (i < k ∧ g (44 + i) = 1)) := by
  intro k
  induction k with
  | zero => intro _ _ i _; simp [lw_hN]
  | succ k ih =>
    intro h1 h6 i hi
    have hb := (lw_had_n ho k (by omega) (by omega)).2
    have h3 := ih (by omega) (by omega) i hi
    rw [lw_hN]
    rcases ho k (by omega) with z | z
    · rw [if_pos z, h3]
      constructor
      · intro q; exact ⟨by omega, q.2⟩
      · intro q
        by_cases e : i = k
        · subst e; rw [z] at q; exact absurd q.2 (by decide)
        · exact ⟨by omega, q.2⟩
    · rw [if_neg (by rw [z]; decide), mk_bit1 k (by omega) _ hb i hi, h3]
      constructor
      · rintro (q | q)
        · subst q; exact ⟨by omega, z⟩
        · exact ⟨by omega, q.2⟩
      · intro q
        by_cases e : i = k
        · exact Or.inl e
        · exact Or.inr ⟨by omega, q.2⟩
theorem lw_all : ∀ n, n < 7 → ((1 : Int32) <<< (nI n &&& 31)) - 1 = nI (2 ^ n - 1) := by decide +kernel
/-- the wares off as the bits of a set say, of the first k -/
def lw_off (g : Nat → Int32) (set : Int32) (k : Nat) : Nat → Int32 := fun j => if 44 ≤ j ∧ j < 44 + k then (set >>> (nI (j - 44) &&& 31)) &&& 1 else g j
theorem lw_off_0 (g : Nat → Int32) (set : Int32) : lw_off g set 0 = g := by
  funext j
  unfold lw_off
  rw [if_neg (by omega)]
theorem lw_off_s (g : Nat → Int32) (set : Int32) (k : Nat) : va_up (lw_off g set k) (44 + k) ((set >>> (nI k &&& 31)) &&& 1) = lw_off g set (k + 1) := by
  funext j
  unfold lw_off
  by_cases h : j = 44 + k
  · rw [h, va_up_self, if_pos (by omega), show 44 + k - 44 = k by omega]
  · rw [va_up_ne _ _ h]
    by_cases h2 : 44 ≤ j ∧ j < 44 + k
    · rw [if_pos h2, if_pos (by omega)]
    · rw [if_neg h2, if_neg (by omega)]
def lw_ag (g G : Nat → Int32) (n : Nat) : Prop := ∀ j, ¬ (44 ≤ j ∧ j < 44 + n) → G j = g j
theorem lw_ag_r (g : Nat → Int32) (n : Nat) : lw_ag g g n := fun _ _ => rfl
theorem lw_ag_off {g G : Nat → Int32} {n k : Nat} (h : lw_ag g G n) (hk : k ≤ n) (set : Int32) : lw_ag g (lw_off G set k) n := by
  intro j hj
  unfold lw_off
  rw [if_neg (by omega)]
  exact h j hj
theorem lw_off_c {g G : Nat → Int32} {n : Nat} (h : lw_ag g G n) (set : Int32) : lw_off G set n = lw_off g set n := by
  funext j
  unfold lw_off
  by_cases c : 44 ≤ j ∧ j < 44 + n
  · rw [if_pos c, if_pos c]
  · rw [if_neg c, if_neg c]; exact h j c
theorem lw_ok_c {g G : Nat → Int32} {n nr : Nat} (h : lw_ag g G n) (hv : hs_ok g n nr) : hs_ok G n nr := by
  obtain ⟨h1, h2, h3, h4, h5⟩ := hv
  refine ⟨by rw [h 3 (by omega)]; exact h1, h2, by rw [h 2 (by omega)]; exact h3, h4, fun r hr => ?_⟩
  rw [h (5 + r) (by omega)]
  exact h5 r hr
/-- bits of a number below 64 -/
theorem lw_bit : ∀ d, d < 64 → ∀ i, i < 6 → ((nI d >>> (nI i &&& 31)) &&& 1 = if d.testBit i = true then 1 else 0) := by decide +kernel
theorem lw_hasN : ∀ d, d < 64 → ∀ i, i < 6 → (hs_has (nI d) (nI i) = if d.testBit i = true then 1 else 0) := by decide +kernel
theorem lw_or : ∀ d, d < 64 → ∀ i, i < 6 → (nI d ||| ((1 : Int32) <<< (nI i &&& 31))) = nI (d ||| 2 ^ i) ∧ d ||| 2 ^ i < 64 ∧ d ≤ d ||| 2 ^ i ∧ (d.testBit i = false → d < d ||| 2 ^ i) := by decide +kernel
def lw_sum (o : Nat → Int32) (q : Nat) : Nat → Int32
  | 0 => 0
  | k + 1 => lw_sum o q k + (if q.testBit k = true then 0 else o (q ||| 2 ^ k))
def lw_val (g : Nat → Int32) (n hd : Nat) (o : Nat → Int32) (q : Nat) : Int32 := if (nI q &&& nI hd) = nI hd then (if hs_drop (lw_off g (nI q) n) n n = 0 then (if q = 2 ^ n - 1 then 1 else lw_sum o q n) else 0) else 0
def lw_fill (g : Nat → Int32) (n hd : Nat) : (Nat → Int32) → Nat → (Nat → Int32)
  | o, 0 => o
  | o, q + 1 => lw_fill g n hd (va_up o q (lw_val g n hd o q)) q
def lw_M (M : Nat → Nat → Int32) (G o : Nat → Int32) : Nat → Nat → Int32 := va_up (va_up M 0 G) 15 o
theorem lw_M_0 (M : Nat → Nat → Int32) (G o : Nat → Int32) : lw_M M G o 0 = G := rfl
theorem lw_M_15 (M : Nat → Nat → Int32) (G o : Nat → Int32) : lw_M M G o 15 = o := rfl
theorem lw_M_r (M : Nat → Nat → Int32) : lw_M M (M 0) (M 15) = M := by
  unfold lw_M
  rw [hs_up_id]
  exact hs_up_id M 15
theorem lw_w15 (M : Nat → Nat → Int32) (G o : Nat → Int32) (j : Nat) (v : Int32) : mo_w (lw_M M G o) 15 j v = lw_M M G (va_up o j v) := by
  unfold lw_M
  exact hs_up_up _ _ _ _ _
theorem lw_w0 (M : Nat → Nat → Int32) (G o : Nat → Int32) (j : Nat) (v : Int32) : mo_w (lw_M M G o) 0 j v = lw_M M (va_up G j v) o := by
  funext k
  simp only [mo_w, lw_M]
  by_cases h0 : k = 0
  · subst h0
    rfl
  · rw [va_up_ne _ _ h0]
    by_cases h15 : k = 15
    · subst h15
      rw [va_up_self, va_up_self]
    · rw [va_up_ne _ _ h15, va_up_ne _ _ h15, va_up_ne _ _ h0, va_up_ne _ _ h0]
/-- what was off is off again -/
theorem lw_back {g G : Nat → Int32} {n : Nat} (hn : n ≤ 6) (h : lw_ag g G n) (ho : ∀ i, i < n → g (44 + i) = 0 ∨ g (44 + i) = 1) : lw_off G (nI (lw_hN g n)) n = g := by
  have h64 : lw_hN g n < 64 := Nat.lt_of_lt_of_le (lw_had_n ho n (Nat.le_refl n) hn).2 (Nat.le_trans (Nat.pow_le_pow_right (by decide) hn) (by decide))
  funext j
  unfold lw_off
  by_cases c : 44 ≤ j ∧ j < 44 + n
  · rw [if_pos c, lw_bit _ h64 (j - 44) (by omega)]
    have hb := lw_hN_bit ho n (Nat.le_refl n) hn (j - 44) (by omega)
    have e : 44 + (j - 44) = j := by omega
    rw [e] at hb
    have hj := ho (j - 44) (by omega)
    rw [e] at hj
    rcases hj with z | z
    · rw [if_neg (fun q => by have := (hb.mp q).2; rw [z] at this; exact absurd this (by decide)), z]
    · rw [if_pos (hb.mpr ⟨by omega, z⟩), z]
  · rw [if_neg c]; exact h j c
def sp_lay (M : Nat → Nat → Int32) (n : Nat) : Nat → Nat → Int32 := mo_w (va_up M 15 (lw_fill (M 0) n (lw_hN (M 0) n) (M 15) (2 ^ n))) 16 0 (nI (lw_hN (M 0) n))
/-- who comes next: the first that leaves a way -/
def lw_nx (o : Nat → Int32) (set : Nat) : Int32 → Nat → Int32
  | best, 0 => best
  | best, q + 1 => lw_nx o set (if set.testBit q = false ∧ 0 < o (set ||| 2 ^ q) then nI q else best) q
def lw_go (o : Nat → Int32) (n : Nat) : Nat → Nat → Int32
  | 0, set => if lw_nx o set (-1) n < 0 then hs_NONE else lw_nx o set (-1) n
  | k + 1, set => if lw_nx o set (-1) n < 0 then hs_NONE else lw_go o n k (set ||| 2 ^ (lw_nx o set (-1) n).toNatClampNeg)
def sp_unl (M : Nat → Nat → Int32) (n : Nat) (k : Int32) : sp_S :=
  if M 0 4 = 0 then (hs_STATE, M) else if hs_in k (-1) 5 = 0 then (hs_BAD, M) else
    (if k < 0 then lw_fill (M 0) n (lw_hN (M 0) n) (M 15) (2 ^ n) (lw_hN (M 0) n) else if lw_fill (M 0) n (lw_hN (M 0) n) (M 15) (2 ^ n) (lw_hN (M 0) n) = 0 then hs_NONE else lw_go (lw_fill (M 0) n (lw_hN (M 0) n) (M 15) (2 ^ n)) n k.toNatClampNeg (lw_hN (M 0) n), sp_lay M n)
theorem lw_nx_b (o : Nat → Int32) (set : Nat) : ∀ q best, lw_nx o set best q = best ∨ ∃ b, b < q ∧ lw_nx o set best q = nI b := by
  intro q
  induction q with
  | zero => intro best; exact Or.inl rfl
  | succ q ih =>
    intro best
    rw [lw_nx]
    rcases ih (if set.testBit q = false ∧ 0 < o (set ||| 2 ^ q) then nI q else best) with h | ⟨b, h1, h2⟩
    · rw [h]
      split
      · exact Or.inr ⟨q, by omega, rfl⟩
      · exact Or.inl rfl
    · exact Or.inr ⟨b, by omega, h2⟩
theorem lw_nx_p {o : Nat → Int32} {set n : Nat} (h : ¬ lw_nx o set (-1) n < 0) : ∃ b, b < n ∧ lw_nx o set (-1) n = nI b := by
  rcases lw_nx_b o set n (-1) with z | z
  · rw [z] at h; exact absurd (by decide) h
  · exact z
theorem lw_go_n {o : Nat → Int32} {n set k : Nat} (h : lw_nx o set (-1) n < 0) : hs_NONE = lw_go o n k set := by
  cases k with
  | zero => rw [lw_go, if_pos h]
  | succ k => rw [lw_go, if_pos h]
theorem lw_go_0 {o : Nat → Int32} {n set : Nat} (h : ¬ lw_nx o set (-1) n < 0) : lw_nx o set (-1) n = lw_go o n 0 set := by rw [lw_go, if_neg h]
theorem lw_go_s {o : Nat → Int32} {n set k b : Nat} (hb : b < 2147483648) (h : ¬ lw_nx o set (-1) n < 0) (e : lw_nx o set (-1) n = nI b) : lw_go o n (k + 1) set = lw_go o n k (set ||| 2 ^ b) := by
  rw [lw_go, if_neg h, e, nI_clamp (by omega)]
theorem lw_inm {k : Int32} (h : ¬ hs_in k (-1) 5 = 0) (h0 : ¬ k < 0) : ∃ j : Nat, j ≤ 5 ∧ k = nI j := by
  have h1 := hs_in_1 h
  exact hs_ix (n := 5) (by decide) ⟨Int32.not_lt.mp h0, h1.2⟩
