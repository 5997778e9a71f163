/-! the slide by which most meet; the fewest girls; wares taken off -/
def mk_sl1 (g : Nat → Int32) (n s : Nat) (b m : Int32) : Nat → Int32 × Int32
  | 0 => (b, m)
  | k + 1 => if mk_std g (g (14 + s)) (nI (k + 1)) n = none ∧ (mk_sl1 g n s b m k).2 < mk_w (va_up g (20 + s) (nI (k + 1))) n 1 n then (9 * nI s + nI (k + 1), mk_w (va_up g (20 + s) (nI (k + 1))) n 1 n) else mk_sl1 g n s b m k
def mk_sl (g : Nat → Int32) (n : Nat) : Nat → Int32 × Int32
  | 0 => (hs_NONE, hs_NONE)
  | s + 1 => mk_sl1 g n s (mk_sl g n s).1 (mk_sl g n s).2 8
theorem mk_sl_0 {g : Nat → Int32} {n k : Nat} (h : ¬ k < n) : mk_sl g n (min k n) = mk_sl g n (min (k + 1) n) := by rw [show min (k + 1) n = min k n by omega]
theorem mk_sl_y {g : Nat → Int32} {n k : Nat} (h : k < n) : mk_sl1 g n k (mk_sl g n (min k n)).1 (mk_sl g n (min k n)).2 8 = mk_sl g n (min (k + 1) n) := by
  rw [show min (k + 1) n = k + 1 by omega, show min k n = k by omega]
  rfl
def mk_ev1 (g : Nat → Int32) (n a b : Nat) (what : Int32) (sum lo : Nat) : Nat → Int32
  | 0 => hs_NONE
  | k + 1 => if mk_ev1 g n a b what sum lo k = hs_NONE then (if mk_meets (hs_evg g a b sum (lo + k)) n a b = 0 then hs_NONE else if what = 0 then nI sum else nI (lo + k)) else mk_ev1 g n a b what sum lo k
theorem mk_ev1_up {g : Nat → Int32} {n a b sum lo k : Nat} {what : Int32} (h : ¬ mk_ev1 g n a b what sum lo k = hs_NONE) : ∀ m, mk_ev1 g n a b what sum lo (k + m) = mk_ev1 g n a b what sum lo k := by
  intro m
  induction m with
  | zero => rfl
  | succ m ih =>
    show (if mk_ev1 g n a b what sum lo (k + m) = hs_NONE then _ else mk_ev1 g n a b what sum lo (k + m)) = _
    rw [ih, if_neg h]
def mk_ev (g : Nat → Int32) (n a b : Nat) (what : Int32) : Nat → Int32
  | 0 => hs_NONE
  | q + 1 => if mk_ev g n a b what q = hs_NONE then mk_ev1 g n a b what q (q - 9) (min 9 q + 1 - (q - 9)) else mk_ev g n a b what q
theorem mk_ev_up {g : Nat → Int32} {n a b k : Nat} {what : Int32} (h : ¬ mk_ev g n a b what k = hs_NONE) : ∀ m, mk_ev g n a b what (k + m) = mk_ev g n a b what k := by
  intro m
  induction m with
  | zero => rfl
  | succ m ih =>
    show (if mk_ev g n a b what (k + m) = hs_NONE then _ else mk_ev g n a b what (k + m)) = _
    rw [ih, if_neg h]
theorem mk_ev_a : ∀ k, k < 19 → (if nI k < 9 then nI k else 9) = nI (min 9 k) ∧ (if 0 < (nI k - 9) then (nI k - 9) else 0) = nI (k - 9) := by decide +kernel
theorem mk_ev_s {g : Nat → Int32} {n a b k k2 : Nat} {what : Int32} (h : mk_ev g n a b what k = hs_NONE) (h2 : k2 ≤ min 9 k + 1 - (k - 9)) (h1 : k2 = min 9 k + 1 - (k - 9) ∨ ¬ mk_ev1 g n a b what k (k - 9) k2 = hs_NONE) : mk_ev1 g n a b what k (k - 9) k2 = mk_ev g n a b what (k + 1) := by
  rw [mk_ev, if_pos h]
  rcases h1 with h1 | h1
  · rw [h1]
  · rw [show min 9 k + 1 - (k - 9) = k2 + (min 9 k + 1 - (k - 9) - k2) by omega, mk_ev1_up h1]
/-- the wares of the stalls in a set taken off, or not -/
abbrev mk_bit (x : Int32) (i : Nat) : Prop := (x >>> (nI i &&& 31)) &&& 1 = 1
def mk_tk (g : Nat → Int32) (to tk : Int32) : Nat → (Nat → Int32)
  | 0 => g
  | k + 1 => if mk_bit to k then va_up (mk_tk g to tk k) (44 + k) (if mk_bit tk k then 1 else 0) else mk_tk g to tk k
theorem mk_tk_at (g : Nat → Int32) (to tk : Int32) : ∀ k j, mk_tk g to tk k j = if 44 ≤ j ∧ j < 44 + k ∧ mk_bit to (j - 44) then (if mk_bit tk (j - 44) then 1 else 0) else g j := by
  intro k
  induction k with
  | zero => intro j; rw [if_neg (by omega)]; rfl
  | succ k ih =>
    intro j
    rw [mk_tk]
    by_cases e : j = 44 + k
    · subst e
      by_cases hb : mk_bit to k
      · have e3 : 44 ≤ 44 + k ∧ 44 + k < 44 + (k + 1) ∧ mk_bit to (44 + k - 44) := ⟨by omega, by omega, by rw [show 44 + k - 44 = k by omega]; exact hb⟩
        rw [if_pos hb, va_up_self]
        refine Eq.trans ?_ (if_pos e3).symm
        rw [show 44 + k - 44 = k by omega]
      · rw [if_neg hb, ih, if_neg (by omega), if_neg (by rw [show 44 + k - 44 = k by omega]; exact fun q => hb q.2.2)]
    · have h2 : (44 ≤ j ∧ j < 44 + (k + 1) ∧ mk_bit to (j - 44)) ↔ (44 ≤ j ∧ j < 44 + k ∧ mk_bit to (j - 44)) := ⟨fun q => ⟨q.1, by omega, q.2.2⟩, fun q => ⟨q.1, by omega, q.2.2⟩⟩
      split
      · rw [va_up_ne _ _ e, ih]
        simp only [h2]
      · rw [ih]
        simp only [h2]
theorem mk_tk_lt (g : Nat → Int32) (to tk : Int32) (k : Nat) {j : Nat} (h : j < 44) : mk_tk g to tk k j = g j := by rw [mk_tk_at, if_neg (by omega)]
theorem mk_tk_sr {g : Nat → Int32} {n : Nat} (to tk : Int32) (k : Nat) (hs : mk_sr g n) : mk_sr (mk_tk g to tk k) n := by
  obtain ⟨h1, h2, h3, h4⟩ := hs
  refine ⟨by rw [mk_tk_lt _ _ _ _ (by omega)]; exact h1, h2, fun i hi => by rw [mk_tk_lt _ _ _ _ (by omega)]; exact h3 i hi, fun i hi => ?_⟩
  rw [mk_tk_at]
  split
  · split
    · exact Or.inr rfl
    · exact Or.inl rfl
  · exact h4 i hi
theorem mk_tk_t {g : Nat → Int32} {nr : Nat} (to tk : Int32) (k : Nat) (ht : mk_t g nr) : mk_t (mk_tk g to tk k) nr := by
  obtain ⟨h1, h2, h3, h4⟩ := ht
  exact ⟨by rw [mk_tk_lt _ _ _ _ (by omega)]; exact h1, h2, fun r hr => by rw [mk_tk_lt _ _ _ _ (by omega)]; exact h3 r hr, fun r hr hr3 => by rw [mk_tk_lt _ _ _ _ (by omega)]; exact h4 r hr hr3⟩
theorem mk_tk_0 {g : Nat → Int32} {to tk : Int32} {n k : Nat} (h : ¬ k < n) : mk_tk g to tk (min k n) = mk_tk g to tk (min (k + 1) n) := by rw [show min (k + 1) n = min k n by omega]
theorem mk_tk_n {g : Nat → Int32} {to tk : Int32} {n k : Nat} (h : k < n) (h1 : ¬ mk_bit to k) : mk_tk g to tk (min k n) = mk_tk g to tk (min (k + 1) n) := by
  rw [show min (k + 1) n = k + 1 by omega, show min k n = k by omega, mk_tk, if_neg h1]
theorem mk_tk_y {g : Nat → Int32} {to tk : Int32} {n k : Nat} (h : k < n) (h1 : mk_bit to k) (v : Int32) (hv : v = if mk_bit tk k then 1 else 0) : va_up (mk_tk g to tk (min k n)) (44 + k) v = mk_tk g to tk (min (k + 1) n) := by
  rw [show min (k + 1) n = k + 1 by omega, show min k n = k by omega, mk_tk, if_pos h1, hv]
theorem mk_bit0 (k : Nat) : ¬ mk_bit 0 k := by
  unfold mk_bit
  simp
/-- taken off, and put back -/
theorem mk_tk_back {g : Nat → Int32} {to tk : Int32} {n : Nat} (h : ∀ i, i < n → mk_bit to i → g (44 + i) = 0) : mk_tk (mk_tk g to tk n) to 0 n = g := by
  funext j
  rw [mk_tk_at, mk_tk_at]
  by_cases e : 44 ≤ j ∧ j < 44 + n ∧ mk_bit to (j - 44)
  · rw [if_pos e, if_neg (mk_bit0 _)]
    have := h (j - 44) (by omega) e.2.2
    rw [show 44 + (j - 44) = j by omega] at this
    exact this.symm
  · rw [if_neg e, if_neg e]
