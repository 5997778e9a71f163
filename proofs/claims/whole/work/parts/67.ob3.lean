/-! the orders in which wares are taken off: the class's way -/
def mk_from (o : Nat → Int32) (to tk i : Int32) : Int32 := if ((to &&& (tk ^^^ (-1 : Int32))) &&& ((1 : Int32) <<< (i &&& 31))) = (0 : Int32) ∨ (tk ||| ((1 : Int32) <<< (i &&& 31))) < (0 : Int32) ∨ (64 : Int32) ≤ (tk ||| ((1 : Int32) <<< (i &&& 31))) then 0 else o (tk ||| ((1 : Int32) <<< (i &&& 31))).toNatClampNeg
def mk_sumF (o : Nat → Int32) (to tk : Int32) : Nat → Int32
  | 0 => 0
  | k + 1 => mk_sumF o to tk k + mk_from o to tk (nI k)
def mk_beh (o : Nat → Int32) (to tk : Int32) : Int32 := if tk = to then 1 else mk_sumF o to tk 6
def mk_nd (o : Nat → Int32) (to tk : Int32) : Int32 → Nat → Int32
  | best, 0 => best
  | best, q + 1 => mk_nd o to tk (if 0 < mk_from o to tk (nI q) then nI q else best) q
def mk_ifo (o : Nat → Int32) (to : Int32) : Nat → Int32 → Int32
  | 0, tk => mk_nd o to tk hs_NONE 6
  | k + 1, tk => if mk_nd o to tk hs_NONE 6 = hs_NONE then hs_NONE else mk_ifo o to k (tk ||| ((1 : Int32) <<< (mk_nd o to tk hs_NONE 6 &&& 31)))
def mk_ov (g : Nat → Int32) (n : Nat) (to : Int32) (o : Nat → Int32) (tk : Int32) : Int32 := if ¬ (tk &&& (to ^^^ (-1 : Int32))) = (0 : Int32) then 0 else if mk_fd (mk_tk g to tk n) n n = hs_NONE then mk_beh o to tk else 0
def mk_cod (g : Nat → Int32) (n : Nat) (to : Int32) : (Nat → Int32) → Nat → (Nat → Int32)
  | o, 0 => o
  | o, q + 1 => mk_cod g n to (va_up o q (mk_ov g n to o (nI q))) q
def mk_to (g : Nat → Int32) : Nat → Int32
  | 0 => 0
  | k + 1 => if g (44 + k) = 0 then mk_to g k ||| (1 <<< (nI k &&& 31)) else mk_to g k
def mk_toN (g : Nat → Int32) : Nat → Nat
  | 0 => 0
  | k + 1 => if g (44 + k) = 0 then mk_toN g k + 2 ^ k else mk_toN g k
theorem mk_to_n (g : Nat → Int32) : ∀ k, k ≤ 6 → mk_to g k = nI (mk_toN g k) ∧ mk_toN g k < 2 ^ k := by
  intro k
  induction k with
  | zero => intro _; exact ⟨rfl, Nat.one_pos⟩
  | succ k ih =>
    intro h
    obtain ⟨h1, h2⟩ := ih (by omega)
    rw [mk_to, mk_toN]
    split
    · rw [h1]
      exact hs_bits k (by omega) _ h2
    · refine ⟨h1, Nat.lt_trans h2 (Nat.pow_lt_pow_right (by decide) (by omega))⟩
theorem mk_bitN : ∀ d, d < 64 → ∀ i, i < 6 → (mk_bit (nI d) i ↔ d.testBit i = true) := by decide +kernel
theorem mk_bit1 : ∀ k, k < 6 → ∀ d, d < 2 ^ k → ∀ i, i < 6 → ((d + 2 ^ k).testBit i = true ↔ (i = k ∨ d.testBit i = true)) := by decide +kernel
theorem mk_bit2 : ∀ k, k < 6 → ∀ d, d < 2 ^ k → ∀ i, i < 6 → k ≤ i → d.testBit i = false := by decide +kernel
theorem mk_toN_bit (g : Nat → Int32) : ∀ k, k ≤ 6 → ∀ i, i < 6 → ((mk_toN g k).testBit i = true ↔ (i < k ∧ g (44 + i) = 0)) := by
  intro k
  induction k with
  | zero =>
    intro _ i _
    simp [mk_toN]
  | succ k ih =>
    intro h i hi
    have h2 := (mk_to_n g k (by omega)).2
    have h3 := ih (by omega) i hi
    rw [mk_toN]
    split
    · rename_i h4
      rw [mk_bit1 k (by omega) _ h2 i hi, h3]
      constructor
      · rintro (q | q)
        · subst q; exact ⟨by omega, h4⟩
        · exact ⟨by omega, q.2⟩
      · intro q
        by_cases e : i = k
        · exact Or.inl e
        · exact Or.inr ⟨by omega, q.2⟩
    · rename_i h4
      rw [h3]
      constructor
      · intro q; exact ⟨by omega, q.2⟩
      · intro q
        by_cases e : i = k
        · subst e; exact absurd q.2 h4
        · exact ⟨by omega, q.2⟩
theorem mk_to_hto {g : Nat → Int32} {n : Nat} (hn : n ≤ 6) : ∀ i, i < n → mk_bit (mk_to g n) i → g (44 + i) = 0 := by
  intro i hi h
  obtain ⟨h1, h2⟩ := mk_to_n g n hn
  have h64 : mk_toN g n < 64 := Nat.lt_of_lt_of_le h2 (Nat.le_trans (Nat.pow_le_pow_right (by decide) hn) (by decide))
  rw [h1, mk_bitN _ h64 i (by omega), mk_toN_bit g n hn i (by omega)] at h
  exact h.2
theorem mk_to_0 {g : Nat → Int32} {n k : Nat} (h : ¬ k < n) : mk_to g (min k n) = mk_to g (min (k + 1) n) := by rw [show min (k + 1) n = min k n by omega]
theorem mk_to_y {g : Nat → Int32} {n k : Nat} (h : k < n) (h1 : g (44 + k) = 0) : (mk_to g (min k n) ||| (1 <<< (nI k &&& 31))) = mk_to g (min (k + 1) n) := by rw [show min (k + 1) n = k + 1 by omega, show min k n = k by omega, mk_to, if_pos h1]
theorem mk_to_x {g : Nat → Int32} {n k : Nat} (h : k < n) (h1 : ¬ g (44 + k) = 0) : mk_to g (min k n) = mk_to g (min (k + 1) n) := by rw [show min (k + 1) n = k + 1 by omega, show min k n = k by omega, mk_to, if_neg h1]
theorem ob_eq {L : List Nat} {D : va_G} {f : Nat → va_E} {oa : Nat → Nat} {C C' : Nat → Nat → Int32} {mr : Nat} {im : Nat → Option Nat} {mk : Nat} {ad : Nat → Nat} {n : Nat} {g g' : Nat → Int32} (h1 : C = C') (h2 : g = g') : (L, ob_W D f oa C mr im mk ad n g) = (L, ob_W D f oa C' mr im mk ad n g') := by rw [h1, h2]
