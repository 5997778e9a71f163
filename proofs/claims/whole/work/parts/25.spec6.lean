/-! falls and wind, as the reference runs through them -/
/-- the bits of hs_drop as a number -/
def hs_dropN (g : Nat → Int32) (n : Nat) : Nat → Nat
  | 0 => 0
  | k + 1 => hs_dropN g n k + (if g 0 < hs_deep g n k then 2 ^ k else 0)
theorem hs_bits : ∀ k, k < 6 → ∀ d, d < 2 ^ k → (nI d ||| 1 <<< (nI k &&& 31)) = nI (d + 2 ^ k) ∧ d + 2 ^ k < 2 ^ (k + 1) := by decide +kernel
theorem hs_or0 (x : Int32) : x ||| 0 = x := by simp
theorem hs_drop_n (g : Nat → Int32) (n : Nat) : ∀ k, k ≤ 6 → hs_drop g n k = nI (hs_dropN g n k) ∧ hs_dropN g n k < 2 ^ k := by
  intro k
  induction k with
  | zero => intro _; exact ⟨rfl, Nat.one_pos⟩
  | succ k ih =>
    intro hk
    obtain ⟨h1, h2⟩ := ih (by omega)
    unfold hs_drop hs_dropN
    split
    · rw [h1]
      exact hs_bits k (by omega) _ h2
    · rw [h1, hs_or0]
      exact ⟨rfl, by rw [Nat.pow_succ]; omega⟩
/-- the lowest bit -/
def hs_low (set : Int32) : Nat := if hs_has set 0 = 1 then 0 else if hs_has set 1 = 1 then 1 else if hs_has set 2 = 1 then 2 else if hs_has set 3 = 1 then 3 else if hs_has set 4 = 1 then 4 else 5
theorem hs_low_ok : ∀ d, d < 64 → (0 < d → hs_low (nI d) ≤ 5 ∧ ¬ hs_has (nI d) (nI (hs_low (nI d))) = 0 ∧ ∀ t, t < 6 → t < hs_low (nI d) → hs_has (nI d) (nI t) = 0) := by decide +kernel
def hs_fall (g : Nat → Int32) (n : Nat) (what : Int32) : Int32 → Nat → Int32
  | best, 0 => best
  | best, q + 1 => hs_fall g n what (if hs_drop (va_up g 1 (g 1 + nI q)) n n = 0 then best else if what = 0 then nI q else nI (hs_low (hs_drop (va_up g 1 (g 1 + nI q)) n n))) q
def q_falls (g : Nat → Int32) (n : Nat) (what : Int32) : Int32 := if g 4 = 0 then hs_STATE else if hs_in what 0 1 = 0 then hs_BAD else hs_fall g n what hs_NONE 100
/-- wind: a draw, and what it does to rope r -/
def hs_wx (x : Int64) : Int64 := x * 16807 - x * 16807 / 2147483647 * 2147483647
def hs_wt (g : Nat → Int32) (x : Int64) (r : Nat) : Int32 := g (5 + r) - (if hs_wx x - hs_wx x / 20 * 20 = 0 ∧ 1 < g (5 + r) then 1 else 0)
def hs_wr (g : Nat → Int32) (x : Int64) : Nat → (Nat → Int32) × Int64
  | 0 => (g, x)
  | k + 1 => (va_up (hs_wr g x k).1 (5 + k) (hs_wt (hs_wr g x k).1 (hs_wr g x k).2 k), hs_wx (hs_wr g x k).2)
/-- so many hours: the market, the draw, the hours that held -/
def hs_wh (g : Nat → Int32) (n nr : Nat) (x : Int64) : Nat → (Nat → Int32) × Int64 × Int32
  | 0 => (g, x, 0)
  | h + 1 => ((hs_wr (hs_wh g n nr x h).1 (hs_wh g n nr x h).2.1 nr).1, (hs_wr (hs_wh g n nr x h).1 (hs_wh g n nr x h).2.1 nr).2, (hs_wh g n nr x h).2.2 + (if hs_drop (hs_wr (hs_wh g n nr x h).1 (hs_wh g n nr x h).2.1 nr).1 n n = 0 then 1 else 0))
def q_wind (g : Nat → Int32) (n nr : Nat) (hours seed rope : Int32) : Int32 :=
  if g 4 = 0 then hs_STATE else if hs_in hours 0 40 = 0 ∨ hs_in seed 1 999999 = 0 ∨ (¬ rope = -1 ∧ hs_isRo g rope = 0) then hs_BAD else
  if 0 ≤ rope then (hs_wh g n nr seed.toInt64 hours.toNatClampNeg).1 (5 + rope.toNatClampNeg) else (hs_wh g n nr seed.toInt64 hours.toNatClampNeg).2.2
theorem hs_sub0 (x : Int32) : x - 0 = x := by simp
theorem hs_wr_ok {g : Nat → Int32} {n nr : Nat} {x : Int64} (hv : hs_ok g n nr) : ∀ k, k ≤ nr → hs_ok (hs_wr g x k).1 n nr := by
  intro k
  induction k with
  | zero => intro _; exact hv
  | succ k ih =>
    intro hk
    have h := ih (by omega)
    refine hs_ok_t (by have := hv.2.2.2.1; omega) ?_ h
    unfold hs_wt
    split
    · rename_i c; exact hs_t1 c.2
    · rw [hs_sub0]; exact h.2.2.2.2 k (by omega)
theorem hs_wh_ok {g : Nat → Int32} {n nr : Nat} {x : Int64} (hv : hs_ok g n nr) : ∀ k, hs_ok (hs_wh g n nr x k).1 n nr := by
  intro k
  induction k with
  | zero => exact hv
  | succ k ih => exact hs_wr_ok ih nr (Nat.le_refl _)
/-- only the strands change -/
theorem hs_wr_ne {g : Nat → Int32} {x : Int64} (j : Nat) (hj : j < 5 ∨ 8 ≤ j) : ∀ k, k ≤ 3 → (hs_wr g x k).1 j = g j := by
  intro k
  induction k with
  | zero => intro _; rfl
  | succ k ih =>
    intro hk
    show va_up (hs_wr g x k).1 (5 + k) _ j = g j
    rw [va_up_ne _ _ (by omega)]
    exact ih (by omega)
theorem hs_wh_ne {g : Nat → Int32} {n nr : Nat} {x : Int64} (hnr : nr ≤ 3) (j : Nat) (hj : j < 5 ∨ 8 ≤ j) : ∀ k, (hs_wh g n nr x k).1 j = g j := by
  intro k
  induction k with
  | zero => rfl
  | succ k ih =>
    show (hs_wr (hs_wh g n nr x k).1 (hs_wh g n nr x k).2.1 nr).1 j = g j
    rw [hs_wr_ne j hj nr hnr]
    exact ih
