/-! copy; the tape read by the reference -/
theorem hs_bars_in {M : Nat → Nat → Int32} {r : Nat} {x n : Int32} (hz : ∃ z : Nat, z ≤ 40 ∧ M 4 r = nI z) (h : ¬ 0 < hs_bars M r x n) : ∃ j z : Nat, j + z ≤ 40 ∧ x = nI j ∧ n = nI z := by
  obtain ⟨z, hz, hr⟩ := hz
  unfold hs_bars at h
  split at h
  · exact absurd h (by decide)
  · split at h
    · exact absurd h (by decide)
    · rename_i h1 h2
      have h3 : ¬ x < 0 := fun q => h2 (Or.inl q)
      have h5 : ¬ n < 0 := fun q => h2 (Or.inr (Or.inl q))
      have h4 : ¬ (M 4 r).toInt64 < x.toInt64 + n.toInt64 := fun q => h2 (Or.inr (Or.inr q))
      obtain ⟨j, hj, rfl⟩ := nI_of h3
      obtain ⟨y, hy, rfl⟩ := nI_of h5
      refine ⟨j, y, ?_, rfl, rfl⟩
      rw [hr] at h4
      rw [Int64.lt_iff_toInt_lt, Int64.toInt_add, Int32.toInt_toInt64, Int32.toInt_toInt64, Int32.toInt_toInt64, nI_toInt (by omega), nI_toInt hj, nI_toInt hy] at h4
      rw [Int.bmod_eq_of_le (by omega) (by omega)] at h4
      omega
def hs_get (h t : Nat → Int32) (src k : Nat) : Nat → Int32 := fun j => if j < k then t (src + j) else h j
theorem hs_get_0 (h t : Nat → Int32) (src : Nat) : hs_get h t src 0 = h := by funext j; simp [hs_get]
theorem hs_get_s (h t : Nat → Int32) (src k : Nat) : va_up (hs_get h t src k) k (t (src + k)) = hs_get h t src (k + 1) := by
  funext j
  simp only [hs_get, va_up]
  by_cases h1 : j = k
  · subst h1; simp
  · rw [if_neg h1]
    by_cases h2 : j < k
    · rw [if_pos h2, if_pos (by omega)]
    · rw [if_neg h2, if_neg (by omega)]
def hs_lay (t h : Nat → Int32) (dst k : Nat) : Nat → Int32 := fun j => if dst ≤ j ∧ j < dst + k then h (j - dst) else t j
theorem hs_lay_0 (t h : Nat → Int32) (dst : Nat) : hs_lay t h dst 0 = t := by funext j; simp only [hs_lay]; rw [if_neg (by omega)]
theorem hs_lay_s (t h : Nat → Int32) (dst k : Nat) : va_up (hs_lay t h dst k) (dst + k) (h k) = hs_lay t h dst (k + 1) := by
  funext j
  simp only [hs_lay, va_up]
  by_cases h1 : j = dst + k
  · subst h1; rw [if_pos rfl, if_pos (by omega)]; congr 1; omega
  · rw [if_neg h1]
    by_cases h2 : dst ≤ j ∧ j < dst + k
    · rw [if_pos h2, if_pos (by omega)]
    · rw [if_neg h2, if_neg (by omega)]
/-- what is copied, laid at its place; hd: whether the reference's own row is told too -/
def sp_copy (M : Nat → Nat → Int32) (a x b y n : Int32) : sp_S :=
  if hs_row a = 0 ∨ hs_row b = 0 then (hs_BAD, M) else if M 3 a.toNatClampNeg < 0 ∨ M 3 b.toNatClampNeg < 0 then sp_found M 1 else if ¬ M 3 a.toNatClampNeg = M 3 b.toNatClampNeg then sp_found M 5 else
  if 0 < hs_bars M a.toNatClampNeg x n ∨ 0 < hs_bars M b.toNatClampNeg y n then sp_found M 2 else
    sp_well (va_up (va_up M 6 (hs_get (M 6) (M 5) (40 * a.toNatClampNeg + x.toNatClampNeg) n.toNatClampNeg)) 5 (hs_lay (M 5) (hs_get (M 6) (M 5) (40 * a.toNatClampNeg + x.toNatClampNeg) n.toNatClampNeg) (40 * b.toNatClampNeg + y.toNatClampNeg) n.toNatClampNeg)) n
/-- THE TAPE: taped = t bytes, at = p -/
def hs_fig (M : Nat → Nat → Int32) (k : Nat) : Int32 := hs_in (hs_byte M k) 48 57
/-- the reader's own numbers: 11 at, 12 start, 13 fault, 14 value -/
def sp_rd (M : Nat → Nat → Int32) (at0 start fault value : Int32) : Nat → Nat → Int32 := mo_w (mo_w (mo_w (mo_w M 12 0 start) 13 0 fault) 14 0 value) 11 0 at0
def sp_takes (M : Nat → Nat → Int32) (p : Nat) (c : Int32) : sp_S :=
  if hs_byte M p = c then (1, mo_w (mo_w (mo_w M 12 0 (nI p)) 13 0 1) 11 0 (nI (p + 1))) else (0, mo_w (mo_w M 12 0 (nI p)) 13 0 1)
