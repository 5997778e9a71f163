/-! whoCut, reads, even, as the reference runs through them -/
theorem hs_m1 (x : Int32) : x + (-1) = x - 1 := by rw [Int32.sub_eq_add_neg]
theorem hs_bars_n {M : Nat → Nat → Int32} {r n : Nat} {x : Int32} (hz : ∃ z : Nat, z ≤ 40 ∧ M 4 r = nI z) (hn : n ≤ 6) (h : ¬ 0 < hs_bars M r x (nI n)) : ∃ j : Nat, j + n ≤ 40 ∧ x = nI j := by
  obtain ⟨z, hz, hr⟩ := hz
  unfold hs_bars at h
  split at h
  · exact absurd h (by decide)
  · split at h
    · exact absurd h (by decide)
    · rename_i h1 h2
      have h3 : ¬ x < 0 := fun q => h2 (Or.inl q)
      have h4 : ¬ (M 4 r).toInt64 < x.toInt64 + (nI n).toInt64 := fun q => h2 (Or.inr (Or.inr q))
      obtain ⟨j, hj, rfl⟩ := nI_of h3
      refine ⟨j, ?_, rfl⟩
      rw [hr] at h4
      rw [Int64.lt_iff_toInt_lt, Int64.toInt_add, Int32.toInt_toInt64, Int32.toInt_toInt64, Int32.toInt_toInt64, nI_toInt (by omega), nI_toInt hj, nI_toInt (by omega)] at h4
      rw [Int.bmod_eq_of_le (by omega) (by omega)] at h4
      omega
theorem hs_t1 {x : Int32} (h : 1 < x) : ¬ x - 1 = 0 := by
  intro q
  have e : x = 1 := by
    have := congrArg (· + 1) q
    simpa using this
  rw [e] at h
  exact absurd h (by decide)
theorem hs_incdec (M : Nat → Nat → Int32) (j : Nat) : mo_w M 0 j (mo_w M 0 j (M 0 j - 1) 0 j + 1) = M := by
  have e : mo_w M 0 j (M 0 j - 1) 0 j + 1 = M 0 j := by simp only [mo_w, va_up_self]; simp
  rw [e, mo_w_id]
theorem mo_w_sw (M : Nat → Nat → Int32) {p q : Nat} (h : p ≠ q) (u v z : Int32) : mo_w (mo_w (mo_w M 0 p u) 0 q v) 0 p z = mo_w (mo_w M 0 p z) 0 q v := by
  simp only [mo_w, bx_uu, va_up_self]
  congr 1
  funext j
  simp only [va_up]
  by_cases h1 : j = p
  · subst h1; simp [h]
  · by_cases h2 : j = q
    · subst h2; simp [h1]
    · simp [h1, h2]
def hs_cuts (g : Nat → Int32) (n : Nat) (t : Nat → Int32) (base : Nat) : Nat → Int32
  | 0 => 0
  | k + 1 => if 1 < g (5 + k) then hs_cuts g n t base k ||| (if hs_so (va_up g (5 + k) (g (5 + k) - 1)) n t base n = 0 then (0 : Int32) else 1 <<< (nI k &&& 31)) else hs_cuts g n t base k
def sp_whoCut (M : Nat → Nat → Int32) (n nr : Nat) (row x : Int32) : sp_S :=
  if M 0 4 = 0 then (hs_STATE, M) else if hs_row row = 0 then (hs_BAD, M) else if 0 < hs_bars M row.toNatClampNeg x (M 0 3) then sp_found M (hs_bars M row.toNatClampNeg x (M 0 3)) else
    sp_well M (hs_cuts (M 0) n (M 5) (40 * row.toNatClampNeg + x.toNatClampNeg) nr)
def hs_rdg (g : Nat → Int32) (a b : Nat) (k : Nat) : Nat → Int32 := va_up (va_up g (26 + a) (nI k / 21)) (26 + b) (nI k - nI k / 21 * 21)
def hs_rdN (g : Nat → Int32) (n : Nat) (t : Nat → Int32) (base a b : Nat) : Nat → Int32
  | 0 => 0
  | k + 1 => hs_rdN g n t base a b k + (if hs_so (hs_rdg g a b k) n t base n = 0 then 0 else 1)
def hs_rdF (g : Nat → Int32) (n : Nat) (t : Nat → Int32) (base a b : Nat) : Nat → Int32
  | 0 => hs_NONE
  | k + 1 => if hs_so (hs_rdg g a b k) n t base n = 0 then hs_rdF g n t base a b k else if hs_rdN g n t base a b k = 0 then nI k else hs_rdF g n t base a b k
def sp_reads (M : Nat → Nat → Int32) (n : Nat) (a b row x what : Int32) : sp_S :=
  if hs_isSt (M 0) a = 0 ∨ hs_isSt (M 0) b = 0 ∨ a = b ∨ hs_row row = 0 ∨ hs_in what 0 1 = 0 then (hs_BAD, M) else
  if 0 < hs_bars M row.toNatClampNeg x (M 0 3) then sp_found M (hs_bars M row.toNatClampNeg x (M 0 3)) else
    sp_well M (if what = 0 then hs_rdN (M 0) n (M 5) (40 * row.toNatClampNeg + x.toNatClampNeg) a.toNatClampNeg b.toNatClampNeg 441 else hs_rdF (M 0) n (M 5) (40 * row.toNatClampNeg + x.toNatClampNeg) a.toNatClampNeg b.toNatClampNeg 441)
/-- even: so many more girls at a, the rest of sum at b -/
def hs_evg (g : Nat → Int32) (a b sum m : Nat) : Nat → Int32 := va_up (va_up g (38 + a) (g (38 + a) + nI m)) (38 + b) (g (38 + b) + nI sum - nI m)
def hs_ev1 (g : Nat → Int32) (n a b sum : Nat) : Int32 → Nat → Int32
  | best, 0 => best
  | best, m + 1 => if 10 ≤ nI sum - nI m then best else hs_ev1 g n a b sum (if hs_walk (hs_evg g a b sum m) n a b = 2 then 19 * nI sum + nI m else best) m
def hs_ev (g : Nat → Int32) (n a b : Nat) : Int32 → Nat → Int32
  | best, 0 => best
  | best, q + 1 => hs_ev g n a b (hs_ev1 g n a b q best ((hs_less (nI q) 9).toNatClampNeg + 1)) q
def q_even (g : Nat → Int32) (n : Nat) (a b what : Int32) : Int32 :=
  if hs_isSt g a = 0 ∨ hs_isSt g b = 0 ∨ a = b ∨ hs_in what 0 1 = 0 then hs_BAD else if hs_walk g n a.toNatClampNeg b.toNatClampNeg = 0 then hs_STATE else
  if hs_ev g n a.toNatClampNeg b.toNatClampNeg hs_NONE 19 = hs_NONE then hs_NONE else if what = 0 then hs_ev g n a.toNatClampNeg b.toNatClampNeg hs_NONE 19 / 19 else
    hs_ev g n a.toNatClampNeg b.toNatClampNeg hs_NONE 19 - hs_ev g n a.toNatClampNeg b.toNatClampNeg hs_NONE 19 / 19 * 19
theorem hs_less9 {q : Nat} (h : q ≤ 18) : ∃ m : Nat, m ≤ 9 ∧ m ≤ q ∧ hs_less (nI q) 9 = nI m := by
  unfold hs_less
  split
  · rename_i c
    have := (nI_ltI (a := q) (b := 9) (by omega) (by omega)).mp c
    exact ⟨q, by omega, by omega, rfl⟩
  · rename_i c
    have : ¬ q < 9 := fun z => c ((nI_ltI (a := q) (b := 9) (by omega) (by omega)).mpr z)
    exact ⟨9, by omega, by omega, rfl⟩
