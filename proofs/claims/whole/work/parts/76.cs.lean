/-! what the class's calls answer -/
theorem hs_if10 (P : Prop) [Decidable P] : ((if P then (1 : Int32) else 0) = 0) = ¬ P := by
  by_cases h : P
  · simp [h]
  · simp [h]
theorem hs_if0 {P : Prop} [Decidable P] (h : (if P then (1 : Int32) else 0) = 0) : ¬ P := by rw [hs_if10] at h; exact h
theorem hs_if1 {P : Prop} [Decidable P] (h : ¬ (if P then (1 : Int32) else 0) = 0) : P := by rw [hs_if10] at h; exact Classical.not_not.mp h
theorem mk_mis0 {x : Int32} (h : mk_mis x = 0) : ¬ x = -1 := hs_if0 h
theorem mk_mis1 {x : Int32} (h : ¬ mk_mis x = 0) : x = -1 := hs_if1 h
def cs_szs (C : Nat → Nat → Int32) : Prop := ∀ r, r < 8 → ∃ z : Nat, z ≤ 40 ∧ C 4 r = nI z
theorem mk_has_ix {z : Nat} (hz : z ≤ 40) {size x k : Int32} (hs : size = nI z) (h : ¬ mk_has size x k = 0) : ∃ i0 k0 : Nat, x = nI i0 ∧ k = nI k0 ∧ i0 + k0 ≤ z := by
  obtain ⟨h1, h2, h3, h4⟩ := hs_if1 h
  subst hs
  obtain ⟨i0, hi0, rfl⟩ := nI_of (Int32.not_lt.mpr h1)
  obtain ⟨k0, hk0, rfl⟩ := nI_of (Int32.not_lt.mpr h2)
  have e : ∀ q : Nat, q < 2 ^ 31 → (nI q).toInt = q := fun q hq => nI_toInt hq
  rw [Int32.le_iff_toInt_le, e k0 hk0, e z (by omega)] at h3
  rw [Int32.le_iff_toInt_le, e i0 hi0, Int32.toInt_sub, e k0 hk0, e z (by omega), Int.bmod_eq_of_le (by omega) (by omega)] at h4
  exact ⟨i0, k0, rfl, rfl, by omega⟩
def cs_set (C : Nat → Nat → Int32) (row x v : Int32) : sp_S :=
  if hs_row row = 0 then (hs_BAD, C) else if ¬ mk_mis (C 3 row.toNatClampNeg) = 0 then sp_found C 1 else if mk_has (C 4 row.toNatClampNeg) x 1 = 0 then sp_found C 2 else
    sp_well (mo_w C 5 (40 * row.toNatClampNeg + x.toNatClampNeg) (hs_cut (C 3 row.toNatClampNeg) v)) (hs_cut (C 3 row.toNatClampNeg) v)
def cs_drop (C : Nat → Nat → Int32) (row : Int32) : sp_S :=
  if hs_row row = 0 then (hs_BAD, C) else if ¬ mk_mis (C 3 row.toNatClampNeg) = 0 then sp_found C 1 else sp_well (mo_w C 3 row.toNatClampNeg (-1)) (C 4 row.toNatClampNeg)
def cs_copy (C : Nat → Nat → Int32) (a x b y n : Int32) : sp_S :=
  if hs_row a = 0 ∨ hs_row b = 0 then (hs_BAD, C) else if ¬ mk_mis (C 3 a.toNatClampNeg) = 0 ∨ ¬ mk_mis (C 3 b.toNatClampNeg) = 0 then sp_found C 1 else if ¬ C 3 a.toNatClampNeg = C 3 b.toNatClampNeg then sp_found C 5 else
  if mk_has (C 4 a.toNatClampNeg) x n = 0 ∨ mk_has (C 4 b.toNatClampNeg) y n = 0 then sp_found C 2 else
    sp_well (va_up C 5 (cs_cp (C 5) (40 * a.toNatClampNeg + x.toNatClampNeg) (40 * b.toNatClampNeg + y.toNatClampNeg) n.toNatClampNeg)) n
def cs_feed (C : Nat → Nat → Int32) (b : Int32) : sp_S :=
  if hs_in b 0 255 = 0 then (hs_BAD, C) else if C 9 0 < 100 then (C 9 0 + 1, mo_w (mo_w C 8 (C 9 0).toNatClampNeg b) 9 0 (C 9 0 + 1)) else (-1000003, C)
/-- how many rows are there -/
def cs_many (C : Nat → Nat → Int32) : Nat → Int32
  | 0 => 0
  | k + 1 => if mk_mis (C 3 k) = 0 then cs_many C k + 1 else cs_many C k
def cs_trace (C : Nat → Nat → Int32) (x : Int32) : Int32 := if x < 0 ∨ C 18 0 ≤ x ∨ 16 ≤ x then hs_NONE else C 17 x.toNatClampNeg
def cs_count (C : Nat → Nat → Int32) (g : Nat → Int32) (what : Int32) : Int32 :=
  if what = 0 then cs_many C 8 else if what = 1 then g 2 else if what = 2 then g 3 else if what = 3 then g 0 else if what = 4 then g 1 else if what = 5 then C 1 0 else if what = 6 then C 9 0 else hs_BAD
/-- the acts -/
def cs_forget (C : Nat → Nat → Int32) : Nat → Nat → Int32 := va_up (va_up (va_up (mo_w C 1 0 23) 21 (va_cpy (C 21) (C 21) 1 0 23)) 22 (va_cpy (C 22) (C 22) 1 0 23)) 23 (va_cpy (C 23) (C 23) 1 0 23)
def cs_log1 (C : Nat → Nat → Int32) (a : Nat) (what one before : Int32) : Nat → Nat → Int32 := mo_w (mo_w (mo_w (mo_w C 21 a what) 22 a one) 23 a before) 1 0 (nI (a + 1))
def cs_log (C : Nat → Nat → Int32) (a : Nat) (what one before : Int32) : Nat → Nat → Int32 := if a < 24 then cs_log1 C a what one before else cs_log1 (cs_forget C) 23 what one before
theorem mk_pm_w0 {g : Nat → Int32} {n j : Nat} {v : Int32} (h6 : n ≤ 6) (hj : j < n) : mk_pm g n 0 (nI j) v = va_up g (32 + j) v := by rw [mk_pm_a (by decide) (by decide) (by omega) hj]; rfl
theorem mk_pm_w1 {g : Nat → Int32} {n j : Nat} {v : Int32} (h6 : n ≤ 6) (hj : j < n) : mk_pm g n 1 (nI j) v = va_up g (38 + j) v := by rw [mk_pm_a (by decide) (by decide) (by omega) hj]; rfl
theorem mk_pm_w2 {g : Nat → Int32} {n j : Nat} {v : Int32} (h6 : n ≤ 6) (hj : j < n) : mk_pm g n 2 (nI j) v = va_up g (20 + j) v := by rw [mk_pm_a (by decide) (by decide) (by omega) hj]; rfl
theorem mk_pm_w3 {g : Nat → Int32} {n j : Nat} {v : Int32} (h6 : n ≤ 6) (hj : j < n) (hv : v = 0 ∨ v = 1) : mk_pm g n 3 (nI j) v = va_up g (44 + j) v := by
  rw [mk_pm_a (by decide) (by decide) (by omega) hj]
  rcases hv with rfl | rfl <;> rfl
theorem mk_pm_w4 {g : Nat → Int32} {n : Nat} {o v : Int32} : mk_pm g n 4 o v = va_up g 1 v := rfl
def cs_undo (C : Nat → Nat → Int32) (a : Nat) : sp_S := if a = 0 then (hs_STATE, C) else (nI (a - 1), mo_w C 1 0 (nI (a - 1)))
def cs_undoG (C : Nat → Nat → Int32) (g : Nat → Int32) (n a : Nat) : Nat → Int32 := if a = 0 then g else mk_pm g n (C 21 (a - 1)) (C 22 (a - 1)) (C 23 (a - 1))
theorem hs_inX (x a b : Int32) : hs_in x a b = if x < a ∨ b < x then 0 else 1 := by
  unfold hs_in
  by_cases h : a ≤ x ∧ x ≤ b
  · rw [if_pos h, if_neg]
    rintro (q | q)
    · exact absurd h.1 (Int32.not_le.mpr q)
    · exact absurd h.2 (Int32.not_le.mpr q)
  · rw [if_neg h, if_pos]
    rcases Classical.em (a ≤ x) with q | q
    · exact Or.inr (Int32.not_le.mp (fun z => h ⟨q, z⟩))
    · exact Or.inl (Int32.not_le.mp q)
theorem hs_leX (a b : Int32) : (a ≤ b) = ¬ b < a := by rw [Int32.not_lt]
