/-! small arithmetic -/
theorem hs_lt {a b : Int32} (h : ¬ b ≤ a) : a < b := Int32.not_le.mp h
theorem hs_nlt {a b : Int32} (h : b ≤ a) : ¬ a < b := Int32.not_lt.mpr h
def hs_in (x a b : Int32) : Int32 := if a ≤ x ∧ x ≤ b then 1 else 0
theorem hs_l_le {x y : Int32} : x.toInt64 ≤ y.toInt64 ↔ x ≤ y := by
  rw [Int64.le_iff_toInt_le, Int32.le_iff_toInt_le, Int32.toInt_toInt64, Int32.toInt_toInt64]
theorem hs_cmp_lt {x y : Int32} : lg_cmp x.toInt64 y.toInt64 < 0 ↔ ¬ y ≤ x := by
  rw [← hs_l_le (x := y), ← lg_cmp_ge, Int32.lt_iff_toInt_lt, Int32.le_iff_toInt_le]
  omega
theorem hs_cmp_gt {x y : Int32} : 0 < lg_cmp x.toInt64 y.toInt64 ↔ ¬ x ≤ y := by
  rw [← hs_l_le (x := x)]
  unfold lg_cmp
  simp only [gt_iff_lt, Int64.lt_iff_toInt_lt, Int64.le_iff_toInt_le, ← Int64.toInt_inj]
  repeat' split
  all_goals (constructor <;> intro hh <;> first | omega | decide | exact absurd hh (by decide))
theorem hs_in_yes {v lo hi : Int64} {x a b : Int32} (hv : v = x.toInt64) (hlo : lo = a.toInt64) (hhi : hi = b.toInt64) (h1 : ¬ lg_cmp v lo < 0) (h2 : ¬ 0 < lg_cmp v hi) : 1 = hs_in x a b := by
  subst hv; subst hlo; subst hhi
  rw [hs_cmp_lt] at h1
  rw [hs_cmp_gt] at h2
  have h1 := Classical.not_not.mp h1
  have h2 := Classical.not_not.mp h2
  simp [hs_in, h1, h2]
theorem hs_in_no1 {v lo hi : Int64} {x a b : Int32} (hv : v = x.toInt64) (hlo : lo = a.toInt64) (_hhi : hi = b.toInt64) (h1 : lg_cmp v lo < 0) : 0 = hs_in x a b := by
  subst hv; subst hlo
  rw [hs_cmp_lt] at h1
  simp [hs_in, h1]
theorem hs_in_no2 {v lo hi : Int64} {x a b : Int32} (hv : v = x.toInt64) (_hlo : lo = a.toInt64) (hhi : hi = b.toInt64) (h2 : 0 < lg_cmp v hi) : 0 = hs_in x a b := by
  subst hv; subst hhi
  rw [hs_cmp_gt] at h2
  simp [hs_in, h2]
theorem hs_in_1 {x a b : Int32} (h : ¬ hs_in x a b = 0) : a ≤ x ∧ x ≤ b := by
  unfold hs_in at h
  split at h
  · assumption
  · exact absurd rfl h
theorem hs_in_0 {x a b : Int32} (h : hs_in x a b = 0) : ¬ (a ≤ x ∧ x ≤ b) := by
  unfold hs_in at h
  split at h
  · exact absurd h (by decide)
  · assumption
/-- an int between 0 and n is one of the numbers up to n -/
theorem hs_ix {x : Int32} {n : Nat} (hn : n < 2 ^ 31) (h : 0 ≤ x ∧ x ≤ nI n) : ∃ j : Nat, j ≤ n ∧ x = nI j := by
  refine nI_of2 (nI_toInt hn) ?_ h.2
  have := h.1
  rw [Int32.le_iff_toInt_le] at this
  rw [Int32.lt_iff_toInt_lt]
  omega
theorem hs_nlt0 {x : Int32} (h : ¬ x < 0) : 0 ≤ x := by
  rw [Int32.lt_iff_toInt_lt] at h
  rw [Int32.le_iff_toInt_le]
  omega
def hs_row (x : Int32) : Int32 := hs_in x 0 7
def hs_cut (lane v : Int32) : Int32 := if lane = 0 then v.toInt8.toInt32 else if lane = 1 then v.toInt16.toInt32 else v
def hs_has (set k : Int32) : Int32 := if (set >>> (k &&& 31)) &&& 1 = 1 then 1 else 0
def hs_less (a b : Int32) : Int32 := if a < b then a else b
def hs_sort (c : Int32) : Int32 := if c = 116 then 1 else if c = 106 then 2 else if c = 98 then 3 else if c = 110 then 4 else if c = 118 then 5 else 0
def hs_isof (sort kind : Int32) : Int32 := if kind = 0 ∨ kind = sort ∨ (kind = 1 ∧ sort ≤ 3) ∨ (kind = 4 ∧ sort = 5) then 1 else 0
/-! what the calls are to answer, and the state behind them, over the state M (both sides keep to these keys: 3 lanes, 4 sizes, 5 items, 7 status, 8 tape, 9 taped, 10 latest, 17 trace, 18 traced) -/
abbrev hs_BAD : Int32 := -1000001
abbrev sp_S : Type := Int32 × (Nat → Nat → Int32)
def sp_found (M : Nat → Nat → Int32) (k : Int32) : sp_S := (-1000010 - k, mo_w M 7 0 k)
def sp_well (M : Nat → Nat → Int32) (r : Int32) : sp_S := (r, mo_w M 7 0 0)
def hs_zero (g : Nat → Int32) (r n : Nat) : Nat → Int32 := fun j => if 40 * r ≤ j ∧ j < 40 * r + n then 0 else g j
def sp_row (M : Nat → Nat → Int32) (row lane n : Int32) : sp_S :=
  if hs_row row = 0 ∨ hs_in lane 0 2 = 0 ∨ ¬ n ≤ 40 then (hs_BAD, M) else if n < 0 then sp_found M 4 else
    sp_well (va_up (mo_w (mo_w M 3 row.toNatClampNeg lane) 4 row.toNatClampNeg n) 5 (hs_zero (M 5) row.toNatClampNeg 40)) n
/-- 0: n items of a row from i on are there; 1: the row is missing; 2: they aren't -/
def hs_bars (M : Nat → Nat → Int32) (r : Nat) (i n : Int32) : Int32 := if M 3 r < 0 then 1 else if i < 0 ∨ n < 0 ∨ (M 4 r).toInt64 < i.toInt64 + n.toInt64 then 2 else 0
def sp_set (M : Nat → Nat → Int32) (row i v : Int32) : sp_S :=
  if hs_row row = 0 then (hs_BAD, M) else if 0 < hs_bars M row.toNatClampNeg i 1 then sp_found M (hs_bars M row.toNatClampNeg i 1) else
    sp_well (mo_w M 5 (40 * row.toNatClampNeg + i.toNatClampNeg) (hs_cut (M 3 row.toNatClampNeg) v)) (hs_cut (M 3 row.toNatClampNeg) v)
def sp_drop (M : Nat → Nat → Int32) (row : Int32) : sp_S :=
  if hs_row row = 0 then (hs_BAD, M) else if M 3 row.toNatClampNeg < 0 then sp_found M 1 else sp_well (mo_w M 3 row.toNatClampNeg (-1)) (M 4 row.toNatClampNeg)
def sp_feed (M : Nat → Nat → Int32) (b : Int32) : sp_S :=
  if hs_in b 0 255 = 0 then (hs_BAD, M) else if M 9 0 = 100 then (-1000003, M) else (M 9 0 + 1, mo_w (mo_w M 8 (M 9 0).toNatClampNeg b) 9 0 (M 9 0 + 1))
def hs_byte (M : Nat → Nat → Int32) (k : Nat) : Int32 := if k < (M 9 0).toNatClampNeg then M 8 k else -1
theorem hs_up_up (M : Nat → Nat → Int32) (k j : Nat) (g : Nat → Int32) (v : Int32) : mo_w (va_up M k g) k j v = va_up M k (va_up g j v) := by
  simp only [mo_w, bx_uu, va_up_self]
theorem hs_zero_0 (g : Nat → Int32) (r : Nat) : hs_zero g r 0 = g := by
  funext j
  simp only [hs_zero]
  rw [if_neg (by omega)]
theorem hs_zero_s (g : Nat → Int32) (r k : Nat) : va_up (hs_zero g r k) (40 * r + k) 0 = hs_zero g r (k + 1) := by
  funext j
  simp only [hs_zero, va_up]
  by_cases h : j = 40 * r + k
  · rw [if_pos h, if_pos (by omega)]
  · rw [if_neg h]
    by_cases h2 : 40 * r ≤ j ∧ j < 40 * r + k
    · rw [if_pos h2, if_pos (by omega)]
    · rw [if_neg h2, if_neg (by omega)]
theorem hs_up_id {α : Type} (M : Nat → α) (k : Nat) : va_up M k (M k) = M := by
  funext j
  simp only [va_up]
  split
  · rename_i h; rw [h]
  · rfl
theorem hs_40 (r k : Nat) : (40 : Int32) * nI r + nI k = nI (40 * r + k) := by
  rw [← nI_add, ← pk_mul]; rfl
theorem hs_row_1 {x : Int32} (h : ¬ hs_row x = 0) : ∃ r : Nat, r < 8 ∧ x = nI r := by
  obtain ⟨j, h1, h2⟩ := hs_ix (n := 7) (by decide) (hs_in_1 h)
  exact ⟨j, by omega, h2⟩
theorem hs_row_n {r : Nat} (h : r < 8) : hs_row (nI r) = 1 := by
  unfold hs_row hs_in
  rw [if_pos ⟨nI_pos' (by omega), nI_le (a := r) (b := 7) (by omega) (by decide)⟩]
theorem hs_cl {r N : Nat} (h : r < N) (hN : N < 2 ^ 31) : (nI r).toNatClampNeg = r := nI_clamp (by omega)
theorem hs_bars_j {M : Nat → Nat → Int32} {r : Nat} {x : Int32} (hz : ∃ z : Nat, z ≤ 40 ∧ M 4 r = nI z) (h : ¬ 0 < hs_bars M r x 1) : ∃ j : Nat, j < 40 ∧ x = nI j := by
  obtain ⟨z, hz, hr⟩ := hz
  unfold hs_bars at h
  split at h
  · exact absurd h (by decide)
  · split at h
    · exact absurd h (by decide)
    · rename_i h1 h2
      have h3 : ¬ x < 0 := fun q => h2 (Or.inl q)
      have h4 : ¬ (M 4 r).toInt64 < x.toInt64 + (1 : Int32).toInt64 := fun q => h2 (Or.inr (Or.inr q))
      obtain ⟨j, hj, rfl⟩ := nI_of h3
      refine ⟨j, ?_, rfl⟩
      rw [hr] at h4
      rw [Int64.lt_iff_toInt_lt, Int64.toInt_add, Int32.toInt_toInt64, Int32.toInt_toInt64, Int32.toInt_toInt64, nI_toInt (by omega), nI_toInt hj] at h4
      have e1 : (1 : Int32).toInt = 1 := by decide
      rw [e1, Int.bmod_eq_of_le (by omega) (by omega)] at h4
      omega
theorem hs_addI {x y : Int32} {a b : Nat} (hx : x = nI a) (hy : y = nI b) : x + y = nI (a + b) := by rw [hx, hy, nI_add]
theorem hs_mulI {x y : Int32} {a b : Nat} (hx : x = nI a) (hy : y = nI b) : x * y = nI (a * b) := by rw [hx, hy, pk_mul]
theorem hs_lv {ls : Array Slot} {nL : Nat} {lv : List (Nat × Value)} {k i : Nat} {x y : Int32} (h : lv_has ls nL lv) (hk : lv[k]? = some (i, .int x)) (e : x = y) : lv_has ls nL (lv.set k (i, .int y)) := by
  subst e
  have e1 : lv.set k (i, .int x) = lv := by
    apply List.ext_getElem?
    intro j
    by_cases hj : k = j
    · subst hj
      rw [List.getElem?_set_self (List.getElem?_eq_some_iff.mp hk).1, hk]
    · rw [List.getElem?_set_ne hj]
  rw [e1]
  exact h
