/-! the class's acts: answer, its numbers, its market -/
abbrev cs_T : Type := Int32 × (Nat → Nat → Int32) × (Nat → Int32)
def cs_buyers (C : Nat → Nat → Int32) (g : Nat → Int32) (a : Nat) (s k : Int32) : cs_T :=
  if hs_isSt g s = 0 ∨ hs_in k 0 20 = 0 then (hs_BAD, C, g) else (g (32 + s.toNatClampNeg), cs_log C a 0 s (g (32 + s.toNatClampNeg)), va_up g (32 + s.toNatClampNeg) k)
def cs_girl (C : Nat → Nat → Int32) (g : Nat → Int32) (a : Nat) (s k : Int32) : cs_T :=
  if hs_isSt g s = 0 ∨ (¬ k = 1 ∧ ¬ k = -1) then (hs_BAD, C, g) else if k = -1 ∧ g (38 + s.toNatClampNeg) = 0 then (hs_STATE, C, g) else if k = 1 ∧ ¬ g (38 + s.toNatClampNeg) < 9 then (hs_FULL, C, g) else
    (g (38 + s.toNatClampNeg) + k, cs_log C a 1 s (g (38 + s.toNatClampNeg)), va_up g (38 + s.toNatClampNeg) (g (38 + s.toNatClampNeg) + k))
def cs_slide (C : Nat → Nat → Int32) (g : Nat → Int32) (n a : Nat) (s k : Int32) : cs_T :=
  if hs_isSt g s = 0 ∨ hs_in k 1 8 = 0 then (hs_BAD, C, g) else if ¬ mk_std g (g (14 + s.toNatClampNeg)) k n = none then (hs_STATE, C, g) else (g (20 + s.toNatClampNeg), cs_log C a 2 s (g (20 + s.toNatClampNeg)), va_up g (20 + s.toNatClampNeg) k)
def cs_unload (C : Nat → Nat → Int32) (g : Nat → Int32) (a : Nat) (s k : Int32) : cs_T :=
  if hs_isSt g s = 0 ∨ (¬ k = 0 ∧ ¬ k = 1) then (hs_BAD, C, g) else if g (44 + s.toNatClampNeg) = k then (hs_STATE, C, g) else (hs_weight (va_up g (44 + s.toNatClampNeg) k) s.toNatClampNeg, cs_log C a 3 s (1 - k), va_up g (44 + s.toNatClampNeg) k)
def cs_rain (C : Nat → Nat → Int32) (g : Nat → Int32) (a : Nat) : cs_T :=
  if g 2 = 0 then (hs_STATE, C, g) else if ¬ g 1 < 99 then (hs_FULL, C, g) else (g 1 + 1, cs_log C a 4 0 (g 1), va_up g 1 (g 1 + 1))
def cs_cut (C : Nat → Nat → Int32) (g : Nat → Int32) (a : Nat) (rope : Int32) : cs_T :=
  if hs_isRo g rope = 0 then (hs_BAD, C, g) else if ¬ 1 < g (5 + rope.toNatClampNeg) then (hs_STATE, C, g) else (g (5 + rope.toNatClampNeg) - 1, cs_log C a 5 rope (g (5 + rope.toNatClampNeg)), va_up g (5 + rope.toNatClampNeg) (g (5 + rope.toNatClampNeg) - 1))
theorem cs_ro_1 {g : Nat → Int32} {nr r : Nat} (ht : mk_t g nr) (h : r < nr) : hs_isRo g (nI r) = 1 := by
  have := mk_ro1 ht h
  unfold hs_isRo hs_in at this ⊢
  split
  · rfl
  · rename_i q; rw [if_neg q] at this; exact absurd rfl this
theorem cs_ro_0 {g : Nat → Int32} {nr : Nat} (ht : mk_t g nr) {x : Int32} (h : x < 0 ∨ g 2 ≤ x ∨ ¬ x < 3) : hs_isRo g x = 0 := by
  refine mk_ro0 ht ?_
  rintro ⟨r, hr, rfl⟩
  have h3 := ht.2.1
  rcases h with h | h | h
  · exact nI_pos (n := r) (by omega) h
  · rw [ht.1] at h
    exact absurd (nI_lt (a := r) (b := nr) (by omega) (by omega)) (Int32.not_lt.mpr h)
  · exact h ((nI_ltI (a := r) (b := 3) (by omega) (by decide)).mpr (by omega))
theorem cs_ro_n {g : Nat → Int32} {nr : Nat} (hs : mk_t g nr) {x : Int32} (h1 : ¬ x < 0) (h2 : ¬ g 2 ≤ x) : ∃ r : Nat, r < nr ∧ x = nI r := by
  obtain ⟨r, hr, e⟩ := nI_of h1
  refine ⟨r, ?_, e⟩
  rw [hs.1, e] at h2
  have h3 := hs.2.1
  rcases Nat.lt_or_ge r nr with z | z
  · exact z
  · exact absurd (nI_le (a := nr) (b := r) z (by omega)) h2
theorem hs_lt2 (x : Int32) : (x < 2) = ¬ (1 < x) := by
  rw [Int32.lt_iff_toInt_lt, Int32.lt_iff_toInt_lt]
  have e1 : (1 : Int32).toInt = 1 := rfl
  have e2 : (2 : Int32).toInt = 2 := rfl
  rw [e1, e2]
  apply propext
  omega
theorem hs_in01 {x : Int32} (h0 : ¬ x = 0) (h1 : ¬ x = 1) : hs_in x 0 1 = 0 := by
  unfold hs_in
  rw [if_neg]
  rintro ⟨a, b⟩
  rw [Int32.le_iff_toInt_le] at a b
  have e1 : (1 : Int32).toInt = 1 := rfl
  have e0 : (0 : Int32).toInt = 0 := rfl
  rcases (show x.toInt = 0 ∨ x.toInt = 1 by omega) with q | q
  · exact h0 (Int32.toInt_inj.mp (by rw [q, e0]))
  · exact h1 (Int32.toInt_inj.mp (by rw [q, e1]))
