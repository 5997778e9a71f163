/-! the market's further reading, as the class runs through it -/
theorem mk_maxz (v : Int32) : (if 0 < v then v else 0) = (if v < 0 then 0 else v) := by
  by_cases h : 0 < v
  · rw [if_pos h, if_neg]
    rw [Int32.lt_iff_toInt_lt] at h ⊢
    omega
  · rw [if_neg h]
    by_cases h2 : v < 0
    · rw [if_pos h2]
    · rw [if_neg h2]
      rw [Int32.lt_iff_toInt_lt] at h h2
      exact Int32.toInt_inj.mp (by omega)
theorem mk_drop_y {g : Nat → Int32} {n k : Nat} (hk : k < n) (h : ¬ hs_deep g n k ≤ g 0) : (hs_drop g n (min k n) ||| (1 <<< (nI k &&& 31))) = hs_drop g n (min (k + 1) n) := by
  rw [show min (k + 1) n = k + 1 by omega, show min k n = k by omega]
  show _ = hs_drop g n k ||| (if g 0 < hs_deep g n k then _ else _)
  rw [if_pos (hs_lt h)]
theorem mk_drop_n {g : Nat → Int32} {n k : Nat} (hk : k < n) (h : hs_deep g n k ≤ g 0) : hs_drop g n (min k n) = hs_drop g n (min (k + 1) n) := by
  rw [show min (k + 1) n = k + 1 by omega, show min k n = k by omega]
  show _ = hs_drop g n k ||| (if g 0 < hs_deep g n k then _ else _)
  rw [if_neg (hs_nlt h), hs_or0]
theorem mk_drop_0 {g : Nat → Int32} {n k : Nat} (hk : ¬ k < n) : hs_drop g n (min k n) = hs_drop g n (min (k + 1) n) := by
  rw [show min (k + 1) n = min k n by omega]
/-- the first that drops -/
def mk_fd (g : Nat → Int32) (n : Nat) : Nat → Int32
  | 0 => hs_NONE
  | k + 1 => if mk_fd g n k = hs_NONE then (if g 0 < hs_deep g n k then nI k else hs_NONE) else mk_fd g n k
theorem mk_nN {k : Nat} (h : k ≤ 6) : ¬ nI k = hs_NONE := by
  intro q
  have := congrArg Int32.toInt q
  rw [nI_toInt (by omega)] at this
  have e : hs_NONE.toInt = -1000000 := by decide
  omega
theorem mk_fd_up {g : Nat → Int32} {n k m : Nat} (h : ¬ mk_fd g n k = hs_NONE) : mk_fd g n (k + m) = mk_fd g n k := by
  induction m with
  | zero => rfl
  | succ m ih =>
    show (if mk_fd g n (k + m) = hs_NONE then _ else mk_fd g n (k + m)) = _
    rw [ih, if_neg h]
theorem mk_fd_y {g : Nat → Int32} {n k : Nat} (hn : n ≤ 6) (hk : k < n) (h0 : mk_fd g n (min k n) = hs_NONE) (h : ¬ hs_deep g n k ≤ g 0) : nI k = mk_fd g n n := by
  rw [show min k n = k by omega] at h0
  have e : mk_fd g n (k + 1) = nI k := by
    show (if mk_fd g n k = hs_NONE then (if g 0 < hs_deep g n k then nI k else hs_NONE) else _) = _
    rw [if_pos h0, if_pos (hs_lt h)]
  have := mk_fd_up (g := g) (n := n) (k := k + 1) (m := n - (k + 1)) (by rw [e]; exact mk_nN (by omega))
  rw [show k + 1 + (n - (k + 1)) = n by omega, e] at this
  exact this.symm
theorem mk_fd_n {g : Nat → Int32} {n k : Nat} (hk : k < n) (h0 : mk_fd g n (min k n) = hs_NONE) (h : hs_deep g n k ≤ g 0) : mk_fd g n (min (k + 1) n) = hs_NONE := by
  rw [show min k n = k by omega] at h0
  rw [show min (k + 1) n = k + 1 by omega]
  show (if mk_fd g n k = hs_NONE then (if g 0 < hs_deep g n k then nI k else hs_NONE) else _) = _
  rw [if_pos h0, if_neg (hs_nlt h)]
theorem mk_fd_0 {g : Nat → Int32} {n k : Nat} (hk : ¬ k < n) (h0 : mk_fd g n (min k n) = hs_NONE) : mk_fd g n (min (k + 1) n) = hs_NONE := by
  rw [show min (k + 1) n = min k n by omega]; exact h0
def mk_abs (x : Int32) : Int32 := if 0 ≤ x then x else 0 - x
def mk_joins (g : Nat → Int32) (a b : Nat) : Int32 := if mk_abs (g (14 + a) - g (14 + b)) = 1 ∧ g (20 + a) = g (20 + b) then 1 else 0
def mk_meets (g : Nat → Int32) (n a b : Nat) : Int32 := if mk_abs (hs_deep g n a - hs_deep g n b) ≤ 1 then 1 else 0
/-- walkways from a stall to those behind it, of the first so many -/
def mk_w1 (g : Nat → Int32) (n : Nat) (only : Int32) (a : Nat) (c : Int32) : Nat → Int32
  | 0 => c
  | b + 1 => mk_w1 g n only a c b + (if nI a < nI b ∧ ¬ mk_joins g a b = 0 ∧ (only = 0 ∨ ¬ mk_meets g n a b = 0) then 1 else 0)
def mk_w (g : Nat → Int32) (n : Nat) (only : Int32) : Nat → Int32
  | 0 => 0
  | a + 1 => mk_w1 g n only a (mk_w g n only a) n
theorem mk_w1_y {g : Nat → Int32} {n k a : Nat} {only c : Int32} (hk : k < n) (h1 : nI a < nI k) (h2 : ¬ mk_joins g a k = 0) (h3 : only = 0 ∨ ¬ mk_meets g n a k = 0) : mk_w1 g n only a c (min k n) + 1 = mk_w1 g n only a c (min (k + 1) n) := by
  rw [show min (k + 1) n = k + 1 by omega, show min k n = k by omega]
  show _ = mk_w1 g n only a c k + (if _ then _ else _)
  rw [if_pos ⟨h1, h2, h3⟩]
theorem mk_w1_n {g : Nat → Int32} {n k a : Nat} {only c : Int32} (hk : k < n) (h : ¬ (nI a < nI k ∧ ¬ mk_joins g a k = 0 ∧ (only = 0 ∨ ¬ mk_meets g n a k = 0))) : mk_w1 g n only a c (min k n) = mk_w1 g n only a c (min (k + 1) n) := by
  rw [show min (k + 1) n = k + 1 by omega, show min k n = k by omega]
  show _ = mk_w1 g n only a c k + (if _ then _ else _)
  rw [if_neg h]
  simp
theorem mk_w1_0 {g : Nat → Int32} {n k a : Nat} {only c : Int32} (hk : ¬ k < n) : mk_w1 g n only a c (min k n) = mk_w1 g n only a c (min (k + 1) n) := by
  rw [show min (k + 1) n = min k n by omega]
theorem mk_w_y {g : Nat → Int32} {n k : Nat} {only : Int32} (hn : n ≤ 6) (hk : k < n) : mk_w1 g n only k (mk_w g n only (min k n)) (min 6 n) = mk_w g n only (min (k + 1) n) := by
  rw [show min (k + 1) n = k + 1 by omega, show min k n = k by omega, show min 6 n = n by omega]
  rfl
theorem mk_w_0 {g : Nat → Int32} {n k : Nat} {only : Int32} (hk : ¬ k < n) : mk_w g n only (min k n) = mk_w g n only (min (k + 1) n) := by
  rw [show min (k + 1) n = min k n by omega]
/-- the first that stands there -/
def mk_std (g : Nat → Int32) (rope place : Int32) : Nat → Option Nat
  | 0 => none
  | k + 1 => match mk_std g rope place k with
    | some j => some j
    | none => if g (14 + k) = rope ∧ g (20 + k) = place then some k else none
theorem mk_std_up {g : Nat → Int32} {rope place : Int32} {k j m : Nat} (h : mk_std g rope place k = some j) : mk_std g rope place (k + m) = some j := by
  induction m with
  | zero => exact h
  | succ m ih =>
    show (match mk_std g rope place (k + m) with
      | some j => some j
      | none => _) = _
    rw [ih]
theorem mk_std_y {g : Nat → Int32} {n k : Nat} {rope place : Int32} (hk : k < n) (h0 : mk_std g rope place (min k n) = none) (h1 : g (14 + k) = rope) (h2 : g (20 + k) = place) : mk_std g rope place n = some k := by
  rw [show min k n = k by omega] at h0
  have e : mk_std g rope place (k + 1) = some k := by
    show (match mk_std g rope place k with
      | some j => some j
      | none => _) = _
    rw [h0]
    show (if _ then _ else _) = _
    rw [if_pos ⟨h1, h2⟩]
  have := mk_std_up (m := n - (k + 1)) e
  rwa [show k + 1 + (n - (k + 1)) = n by omega] at this
theorem mk_std_n {g : Nat → Int32} {n k : Nat} {rope place : Int32} (hk : k < n) (h0 : mk_std g rope place (min k n) = none) (h : ¬ (g (14 + k) = rope ∧ g (20 + k) = place)) : mk_std g rope place (min (k + 1) n) = none := by
  rw [show min k n = k by omega] at h0
  rw [show min (k + 1) n = k + 1 by omega]
  show (match mk_std g rope place k with
    | some j => some j
    | none => _) = _
  rw [h0]
  show (if _ then _ else _) = _
  rw [if_neg h]
theorem mk_std_0 {g : Nat → Int32} {n k : Nat} {rope place : Int32} (hk : ¬ k < n) (h0 : mk_std g rope place (min k n) = none) : mk_std g rope place (min (k + 1) n) = none := by
  rw [show min (k + 1) n = min k n by omega]; exact h0
