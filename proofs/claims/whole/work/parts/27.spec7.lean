/-! wind: what is held over, and put back -/
def hs_hld (h g : Nat → Int32) (k : Nat) : Nat → Int32 := fun j => if j < k then g (5 + j) else h j
theorem hs_hld_0 (h g : Nat → Int32) : hs_hld h g 0 = h := by funext j; simp [hs_hld]
theorem hs_hld_s (h g : Nat → Int32) (k : Nat) : va_up (hs_hld h g k) k (g (5 + k)) = hs_hld h g (k + 1) := by
  funext j
  simp only [hs_hld, va_up]
  by_cases h1 : j = k
  · subst h1; simp
  · rw [if_neg h1]
    by_cases h2 : j < k
    · rw [if_pos h2, if_pos (by omega)]
    · rw [if_neg h2, if_neg (by omega)]
def hs_rst (g0 g : Nat → Int32) (k : Nat) : Nat → Int32 := fun j => if 5 ≤ j ∧ j < 5 + k then g0 j else g j
theorem hs_rst_0 (g0 g : Nat → Int32) : hs_rst g0 g 0 = g := by funext j; simp only [hs_rst]; rw [if_neg (by omega)]
theorem hs_rst_s (g0 g : Nat → Int32) (k : Nat) : va_up (hs_rst g0 g k) (5 + k) (g0 (5 + k)) = hs_rst g0 g (k + 1) := by
  funext j
  simp only [hs_rst, va_up]
  by_cases h1 : j = 5 + k
  · subst h1; rw [if_pos rfl, if_pos (by omega)]
  · rw [if_neg h1]
    by_cases h2 : 5 ≤ j ∧ j < 5 + k
    · rw [if_pos h2, if_pos (by omega)]
    · rw [if_neg h2, if_neg (by omega)]
theorem hs_rst_3 {g0 g : Nat → Int32} (h : ∀ j, j < 5 ∨ 8 ≤ j → g j = g0 j) : hs_rst g0 g 3 = g0 := by
  funext j
  simp only [hs_rst]
  by_cases h2 : 5 ≤ j ∧ j < 5 + 3
  · rw [if_pos h2]
  · rw [if_neg h2]; exact h j (by omega)
def mo_held (M : Nat → Nat → Int32) : Nat → Nat → Int32 := va_up M 6 (hs_hld (M 6) (M 0) 3)
theorem mo_held_0 (M : Nat → Nat → Int32) : mo_held M 0 = M 0 := rfl
theorem mo_held_6 (M : Nat → Nat → Int32) : mo_held M 6 = hs_hld (M 6) (M 0) 3 := rfl
theorem mo_held_up (M : Nat → Nat → Int32) : va_up (mo_held M) 0 (M 0) = mo_held M := hs_up_id (mo_held M) 0
def sp_wind (M : Nat → Nat → Int32) (n nr : Nat) (hours seed rope : Int32) : sp_S :=
  if M 0 4 = 0 ∨ hs_in hours 0 40 = 0 ∨ hs_in seed 1 999999 = 0 ∨ (¬ rope = -1 ∧ hs_isRo (M 0) rope = 0) then (q_wind (M 0) n nr hours seed rope, M) else (q_wind (M 0) n nr hours seed rope, mo_held M)
