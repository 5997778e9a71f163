/-! THE TAPE's reader: the class's way -/
def mk_by (C : Nat → Nat → Int32) (x : Int32) : Int32 := if x < 0 ∨ C 9 0 ≤ x ∨ 100 ≤ x then hs_NONE else C 8 x.toNatClampNeg
def mk_tf (C : Nat → Nat → Int32) (num pl : Int32) : Nat → Nat → Int32 := if C 25 0 = 0 then mo_w (mo_w C 25 0 num) 26 0 pl else C
def mk_pass (C : Nat → Nat → Int32) (letter : Int32) : Nat → Nat → Int32 := if C 25 0 = 0 ∧ mk_by C (C 24 0) = letter then mo_w C 24 0 (C 24 0 + 1) else mk_tf C 1 (C 24 0)
def mk_kind (c : Int32) : Int32 := if c = 116 then 1 else if c = 106 then 2 else if c = 98 then 3 else if c = 110 then 4 else if c = 118 then 5 else hs_NONE
def mk_fg (C : Nat → Nat → Int32) (b : Int32) (k : Nat) : Int32 := hs_in (mk_by C (b + nI k)) 48 57
def mk_fk (C : Nat → Nat → Int32) (b : Int32) : Nat := if mk_fg C b 0 = 0 then 0 else if mk_fg C b 1 = 0 then 1 else if mk_fg C b 2 = 0 then 2 else 3
def mk_nv (C : Nat → Nat → Int32) (b : Int32) : Nat → Int32
  | 0 => 0
  | k + 1 => 10 * mk_nv C b k + mk_by C (b + nI k) - 48
def mk_n1 (C : Nat → Nat → Int32) (least most : Int32) : Nat → Nat → Int32 :=
  if mk_fk C (C 24 0) < 1 ∨ 2 < mk_fk C (C 24 0) then mk_tf C 1 (C 24 0) else if mk_nv C (C 24 0) (mk_fk C (C 24 0)) < least ∨ most < mk_nv C (C 24 0) (mk_fk C (C 24 0)) then mk_tf C 2 (C 24 0) else C
def mk_number (C : Nat → Nat → Int32) (least most : Int32) : sp_S :=
  if mk_n1 C least most 25 0 = 0 then (mk_nv C (C 24 0) (mk_fk C (C 24 0)), mo_w (mk_n1 C least most) 24 0 (C 24 0 + nI (mk_fk C (C 24 0)))) else (hs_NONE, mk_n1 C least most)
theorem mk_fk_e {C : Nat → Nat → Int32} {b : Int32} {k : Nat} (h : ∀ j, j < k → ¬ mk_fg C b j = 0) (hk : k ≤ 3) (h1 : k = 3 ∨ mk_fg C b k = 0) : mk_fk C b = k := by
  unfold mk_fk
  rcases (show k = 0 ∨ k = 1 ∨ k = 2 ∨ k = 3 by omega) with rfl | rfl | rfl | rfl
  · rw [if_pos (h1.resolve_left (by decide))]
  · rw [if_neg (h 0 (by omega)), if_pos (h1.resolve_left (by decide))]
  · rw [if_neg (h 0 (by omega)), if_neg (h 1 (by omega)), if_pos (h1.resolve_left (by decide))]
  · rw [if_neg (h 0 (by omega)), if_neg (h 1 (by omega)), if_neg (h 2 (by omega))]
theorem mk_lt1 : ∀ k, k < 4 → ((nI k < 1 ↔ k < 1) ∧ (nI k ≤ 2 ↔ k ≤ 2)) := by decide +kernel
theorem mk_n1_a {C : Nat → Nat → Int32} {least most : Int32} {k : Nat} (hk : mk_fk C (C 24 0) = k) (h3 : k < 4) (h : nI k < 1 ∨ ¬ nI k ≤ 2) : mk_n1 C least most = mk_tf C 1 (C 24 0) := by
  unfold mk_n1
  rw [hk, if_pos]
  rcases h with h | h
  · exact Or.inl ((mk_lt1 k h3).1.mp h)
  · exact Or.inr (by have := mt (mk_lt1 k h3).2.mpr h; omega)
theorem mk_n1_b {C : Nat → Nat → Int32} {least most : Int32} {k : Nat} (hk : mk_fk C (C 24 0) = k) (h3 : k < 4) (h1 : ¬ nI k < 1) (h2 : nI k ≤ 2) (h : mk_nv C (C 24 0) k < least ∨ ¬ mk_nv C (C 24 0) k ≤ most) : mk_n1 C least most = mk_tf C 2 (C 24 0) := by
  unfold mk_n1
  have a1 := mt (mk_lt1 k h3).1.mpr h1
  have a2 := (mk_lt1 k h3).2.mp h2
  rw [hk, if_neg (by omega), if_pos (h.imp id Int32.not_le.mp)]
theorem mk_n1_c {C : Nat → Nat → Int32} {least most : Int32} {k : Nat} (hk : mk_fk C (C 24 0) = k) (h3 : k < 4) (h1 : ¬ nI k < 1) (h2 : nI k ≤ 2) (h4 : ¬ mk_nv C (C 24 0) k < least) (h5 : mk_nv C (C 24 0) k ≤ most) : mk_n1 C least most = C := by
  unfold mk_n1
  have a1 := mt (mk_lt1 k h3).1.mpr h1
  have a2 := (mk_lt1 k h3).2.mp h2
  rw [hk, if_neg (by omega), if_neg (fun q => q.elim h4 (fun q => absurd q (Int32.not_lt.mpr h5)))]
theorem mk_nu_y {C C1 : Nat → Nat → Int32} {least most : Int32} {k : Nat} (hk : mk_fk C (C 24 0) = k) (h : mk_n1 C least most = C1) (h0 : C1 25 0 = 0) : mk_number C least most = (mk_nv C (C 24 0) k, mo_w C1 24 0 (C 24 0 + nI k)) := by
  unfold mk_number
  rw [h, if_pos h0, hk]
theorem mk_nu_n {C C1 : Nat → Nat → Int32} {least most : Int32} (h : mk_n1 C least most = C1) (h0 : ¬ C1 25 0 = 0) : mk_number C least most = (hs_NONE, C1) := by
  unfold mk_number
  rw [h, if_neg h0]
