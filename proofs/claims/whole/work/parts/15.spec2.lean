/-! THE MARKET: g is 50 numbers as the reference lays them: 0 low, 1 slack, 2 ropes, 3 stalls, 4 there, 5 taut, 8 sort, 14 rope, 20 place, 26 goods, 32 buyers, 38 girls, 44 off -/
/-- n stalls, nr ropes, each of them with a strand -/
def hs_ok (g : Nat → Int32) (n nr : Nat) : Prop := g 3 = nI n ∧ n ≤ 6 ∧ g 2 = nI nr ∧ nr ≤ 3 ∧ ∀ r, r < nr → ¬ g (5 + r) = 0
def hs_isSt (g : Nat → Int32) (s : Int32) : Int32 := hs_in s 0 (g 3 - 1)
def hs_isRo (g : Nat → Int32) (r : Int32) : Int32 := hs_in r 0 (g 2 - 1)
def hs_goods (g : Nat → Int32) (s : Nat) : Int32 := if g (44 + s) = 1 then 0 else g (26 + s)
def hs_wares (sort goods : Int32) : Int32 := if sort = 2 then goods / 2 else if sort = 3 then 2 * goods else if sort = 5 then -goods else goods
def hs_buy (g : Nat → Int32) (s : Nat) : Int32 := if g (8 + s) = 4 ∨ g (8 + s) = 5 then 0 else g (32 + s)
def hs_weight (g : Nat → Int32) (s : Nat) : Int32 := hs_wares (g (8 + s)) (hs_goods g s) + g (38 + s) + hs_buy g s
/-- who stands at a place of a rope, of the first k; -1: nobody. g0: where the market lies in the row -/
def hs_who (g : Nat → Int32) (rope place : Int32) : Nat → Int32
  | 0 => -1
  | k + 1 => if g (14 + k) = rope ∧ g (20 + k) = place then nI k else hs_who g rope place k
def hs_far (x y : Int32) : Int32 := x + y - hs_less x y
def hs_pull (g : Nat → Int32) (rope x : Int32) : Nat → Int32
  | 0 => 0
  | k + 1 => hs_pull g rope x k + (if g (14 + k) = rope then hs_weight g k * hs_less x (g (20 + k)) * (9 - hs_far x (g (20 + k))) else 0)
def hs_sag (g : Nat → Int32) (n : Nat) (rope x : Int32) : Int32 := if hs_isRo g rope = 0 then 0 else hs_pull g rope x n / g (5 + rope.toNatClampNeg) + g 1
def hs_depth (g : Nat → Int32) (n : Nat) (rope x : Int32) : Int32 := hs_sag g n rope x - (hs_sag g n (rope - 1) x + hs_sag g n (rope + 1) x) / 4
def hs_deep (g : Nat → Int32) (n s : Nat) : Int32 := hs_depth g n (g (14 + s)) (g (20 + s))
def hs_price (g : Nat → Int32) (n s : Nat) : Int32 := if g (26 + s) - hs_deep g n s / 5 < 0 then 0 else g (26 + s) - hs_deep g n s / 5
def hs_drop (g : Nat → Int32) (n : Nat) : Nat → Int32
  | 0 => 0
  | k + 1 => hs_drop g n k ||| (if g 0 < hs_deep g n k then 1 <<< (nI k &&& 31) else 0)
def hs_walk (g : Nat → Int32) (n a b : Nat) : Int32 :=
  if (g (14 + a) - g (14 + b)) * (g (14 + a) - g (14 + b)) = 1 ∧ g (20 + a) = g (20 + b) then
    (if -1 ≤ hs_deep g n a - hs_deep g n b ∧ hs_deep g n a - hs_deep g n b ≤ 1 then 2 else 1) else 0
/-- how many of the pairs (a, b), b below a, that come ahead of (a, k) -/
def hs_wks1 (g : Nat → Int32) (n : Nat) (least : Int32) (a : Nat) (c : Int32) : Nat → Int32
  | 0 => c
  | b + 1 => hs_wks1 g n least a c b + (if hs_walk g n a b < least then 0 else 1)
def hs_wks (g : Nat → Int32) (n : Nat) (least : Int32) : Nat → Int32
  | 0 => 0
  | a + 1 => hs_wks1 g n least a (hs_wks g n least a) a
theorem hs_st_1 {g : Nat → Int32} {n nr : Nat} {x : Int32} (hv : hs_ok g n nr) (h : ¬ hs_isSt g x = 0) : ∃ j : Nat, j < n ∧ x = nI j := by
  have h1 := hs_in_1 h
  obtain ⟨h3, h6, -⟩ := hv
  rw [h3] at h1
  cases n with
  | zero =>
    exfalso
    have a := h1.1
    have b := h1.2
    rw [Int32.le_iff_toInt_le] at a b
    have e : (nI 0 - 1 : Int32).toInt = -1 := by decide +kernel
    have e0 : (0 : Int32).toInt = 0 := by decide
    omega
  | succ n =>
    rw [nI_pred] at h1
    obtain ⟨j, h1, h2⟩ := hs_ix (n := n) (by omega) h1
    exact ⟨j, by omega, h2⟩
theorem hs_ro_1 {g : Nat → Int32} {n nr : Nat} {x : Int32} (hv : hs_ok g n nr) (h : ¬ hs_isRo g x = 0) : ∃ j : Nat, j < nr ∧ x = nI j := by
  have h1 := hs_in_1 h
  obtain ⟨-, -, h3, h6, -⟩ := hv
  rw [h3] at h1
  cases nr with
  | zero =>
    exfalso
    have a := h1.1
    have b := h1.2
    rw [Int32.le_iff_toInt_le] at a b
    have e : (nI 0 - 1 : Int32).toInt = -1 := by decide +kernel
    have e0 : (0 : Int32).toInt = 0 := by decide
    omega
  | succ n =>
    rw [nI_pred] at h1
    obtain ⟨j, h1, h2⟩ := hs_ix (n := n) (by omega) h1
    exact ⟨j, by omega, h2⟩
