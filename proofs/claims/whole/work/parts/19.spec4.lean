/-! WHAT IS FORETOLD, as the reference runs through it -/
theorem mo_w_w (M : Nat → Nat → Int32) (k j : Nat) (u v : Int32) : mo_w (mo_w M k j u) k j v = mo_w M k j v := by simp only [mo_w, bx_uu, va_up_self]
theorem mo_w_id (M : Nat → Nat → Int32) (k j : Nat) : mo_w M k j (M k j) = M := by simp only [mo_w, hs_up_id]
theorem mo_w_0 (M : Nat → Nat → Int32) (j : Nat) (v : Int32) : mo_w M 0 j v 0 = va_up (M 0) j v := by simp only [mo_w, va_up_self]
theorem hs_ok_up {g : Nat → Int32} {n nr k : Nat} {v : Int32} (hk : k < 2 ∨ 8 ≤ k) (h : hs_ok g n nr) : hs_ok (va_up g k v) n nr := by
  obtain ⟨h1, h2, h3, h4, h5⟩ := h
  refine ⟨?_, h2, ?_, h4, fun r hr => ?_⟩
  · rw [va_up_ne _ _ (by omega)]; exact h1
  · rw [va_up_ne _ _ (by omega)]; exact h3
  · rw [va_up_ne _ _ (by omega)]; exact h5 r hr
theorem hs_ok_t {g : Nat → Int32} {n nr r : Nat} {v : Int32} (_hr : r < 3) (hv : ¬ v = 0) (h : hs_ok g n nr) : hs_ok (va_up g (5 + r) v) n nr := by
  obtain ⟨h1, h2, h3, h4, h5⟩ := h
  refine ⟨?_, h2, ?_, h4, fun r' hr' => ?_⟩
  · rw [va_up_ne _ _ (by omega)]; exact h1
  · rw [va_up_ne _ _ (by omega)]; exact h3
  · by_cases e : 5 + r' = 5 + r
    · rw [e, va_up_self]; exact hv
    · rw [va_up_ne _ _ e]; exact h5 r' hr'
theorem hs_ok_w {M : Nat → Nat → Int32} {n nr k : Nat} {v : Int32} (hk : k < 2 ∨ 8 ≤ k) (h : hs_ok (M 0) n nr) : hs_ok (mo_w M 0 k v 0) n nr := by rw [mo_w_0]; exact hs_ok_up hk h
theorem hs_ok_wt {M : Nat → Nat → Int32} {n nr r : Nat} {v : Int32} (hr : r < 3) (hv : ¬ v = 0) (h : hs_ok (M 0) n nr) : hs_ok (mo_w M 0 (5 + r) v 0) n nr := by rw [mo_w_0]; exact hs_ok_t hr hv h
theorem hs_dec {a : Nat} (h : 0 < a) : nI a + (-1) = nI (a - 1) := by
  obtain ⟨b, rfl⟩ : ∃ b, a = b + 1 := ⟨a - 1, by omega⟩
  exact pk_m1 b
/-- all stalls hang as the items from base on tell, of the first k -/
def hs_so (g : Nat → Int32) (n : Nat) (t : Nat → Int32) (base : Nat) : Nat → Int32
  | 0 => 1
  | k + 1 => if hs_so g n t base k = 0 then 0 else if hs_deep g n k = t (base + k) then 1 else 0
theorem hs_so_b (g : Nat → Int32) (n : Nat) (t : Nat → Int32) (base k : Nat) : hs_so g n t base k = 0 ∨ hs_so g n t base k = 1 := by
  cases k with
  | zero => exact Or.inr rfl
  | succ k =>
    unfold hs_so
    repeat' split
    all_goals simp
/-- box -/
def hs_boxL (g : Nat → Int32) (n j : Nat) (depth : Int32) : Nat → Int32
  | 0 => hs_NONE
  | k + 1 => if hs_deep (va_up g (26 + j) (nI k)) n j = depth then (if hs_boxL g n j depth k = hs_NONE then nI k else hs_boxL g n j depth k) else hs_boxL g n j depth k
def hs_boxM (g : Nat → Int32) (n j : Nat) (depth : Int32) : Nat → Int32
  | 0 => hs_NONE
  | k + 1 => if hs_deep (va_up g (26 + j) (nI k)) n j = depth then nI k else hs_boxM g n j depth k
def q_box (g : Nat → Int32) (n : Nat) (s depth what : Int32) : Int32 :=
  if hs_isSt g s = 0 ∨ hs_in depth (-9999) 9999 = 0 ∨ hs_in what 0 1 = 0 then hs_BAD else if what = 0 then hs_boxL g n s.toNatClampNeg depth 21 else hs_boxM g n s.toNatClampNeg depth 21
/-- holds: from 40 strands down -/
def hs_hold (g : Nat → Int32) (n r : Nat) : Nat → Int32
  | 0 => hs_NONE
  | k + 1 => if hs_drop (va_up g (5 + r) (nI (40 - k))) n n = 0 then nI (40 - k) else hs_hold g n r k
def q_holds (g : Nat → Int32) (n : Nat) (rope : Int32) : Int32 := if hs_isRo g rope = 0 then hs_BAD else hs_hold g n rope.toNatClampNeg 40
/-- dearest: the price at place k + 1, -1 if another stands there -/
def hs_prAt (g : Nat → Int32) (n j k : Nat) : Int32 :=
  if hs_who g (g (14 + j)) (nI (k + 1)) n < 0 ∨ hs_who g (g (14 + j)) (nI (k + 1)) n = nI j then hs_price (va_up g (20 + j) (nI (k + 1))) n j else -1
def hs_dearM (g : Nat → Int32) (n j : Nat) : Nat → Int32
  | 0 => -1
  | k + 1 => if hs_dearM g n j k < hs_prAt g n j k then hs_prAt g n j k else hs_dearM g n j k
def hs_dearB (g : Nat → Int32) (n j : Nat) : Nat → Int32
  | 0 => hs_NONE
  | k + 1 => if hs_dearM g n j k < hs_prAt g n j k then nI (k + 1) else hs_dearB g n j k
def q_dearest (g : Nat → Int32) (n : Nat) (s : Int32) : Int32 := if hs_isSt g s = 0 then hs_BAD else hs_dearB g n s.toNatClampNeg 8
/-- rented -/
def hs_rent (g : Nat → Int32) (n j a b : Nat) : Nat → Int32
  | 0 => 0
  | k + 1 => if hs_who g (g (14 + j)) (nI (k + 1)) n < 0 ∨ hs_who g (g (14 + j)) (nI (k + 1)) n = nI j then
      hs_rent g n j a b k ||| (if hs_walk (va_up g (20 + j) (nI (k + 1))) n a b = 2 then 1 <<< ((nI (k + 1) - 1) &&& 31) else 0) else hs_rent g n j a b k
def q_rented (g : Nat → Int32) (n : Nat) (s a b : Int32) : Int32 :=
  if hs_isSt g s = 0 ∨ hs_isSt g a = 0 ∨ hs_isSt g b = 0 ∨ a = b then hs_BAD else if g (8 + s.toNatClampNeg) < 4 ∨ hs_walk g n a.toNatClampNeg b.toNatClampNeg = 0 ∨ s = a ∨ s = b then hs_STATE else hs_rent g n s.toNatClampNeg a.toNatClampNeg b.toNatClampNeg 8
/-- bestSlide: for a stall s, the places 1 .. k: the best so far and how many meet there -/
def hs_free (g : Nat → Int32) (n s k : Nat) : Bool := decide (hs_who g (g (14 + s)) (nI (k + 1)) n < 0)
def hs_meet (g : Nat → Int32) (n s k : Nat) : Int32 := hs_wks (va_up g (20 + s) (nI (k + 1))) n 2 n
def hs_sl1 (g : Nat → Int32) (n s : Nat) (b m : Int32) : Nat → Int32 × Int32
  | 0 => (b, m)
  | k + 1 => if hs_free g n s k = true ∧ (hs_sl1 g n s b m k).2 < hs_meet g n s k then (9 * nI s + nI (k + 1), hs_meet g n s k) else hs_sl1 g n s b m k
def hs_sl (g : Nat → Int32) (n : Nat) : Nat → Int32 × Int32
  | 0 => (hs_NONE, -1)
  | s + 1 => hs_sl1 g n s (hs_sl g n s).1 (hs_sl g n s).2 8
def q_best (g : Nat → Int32) (n : Nat) (what : Int32) : Int32 :=
  if g 4 = 0 then hs_STATE else if hs_in what 0 1 = 0 then hs_BAD else if what = 0 ∨ (hs_sl g n n).1 = hs_NONE then (hs_sl g n n).1 else (hs_sl g n n).2
