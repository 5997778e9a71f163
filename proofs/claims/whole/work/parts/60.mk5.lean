/-! WHAT IS FORETOLD: the class's own ways -/
theorem mk_sw (g : Nat → Int32) {p q : Nat} (u v x : Int32) (h : p ≠ q) : va_up (va_up (va_up g p u) q v) p x = va_up (va_up g p x) q v := by
  funext j
  simp only [va_up]
  by_cases h1 : j = p
  · subst h1; rw [if_pos rfl, if_neg h, if_pos rfl]
  · rw [if_neg h1]
    by_cases h2 : j = q
    · rw [if_pos h2, if_pos h2]
    · rw [if_neg h2, if_neg h2, if_neg h1, if_neg h1]
theorem mk_std_lt {g : Nat → Int32} {rope place : Int32} : ∀ {n j : Nat}, mk_std g rope place n = some j → j < n := by
  intro n
  induction n with
  | zero => intro j h; exact absurd h (by simp [mk_std])
  | succ n ih =>
    intro j h
    cases h0 : mk_std g rope place n with
    | some i =>
      have := mk_std_up (m := 1) h0
      rw [this] at h
      have h2 := ih h0
      simp at h
      omega
    | none =>
      by_cases hc : g (14 + n) = rope ∧ g (20 + n) = place
      · have := mk_std_y (n := n + 1) (k := n) (by omega) (by rw [show min n (n + 1) = n by omega]; exact h0) hc.1 hc.2
        rw [this] at h
        simp at h
        omega
      · have := mk_std_n (n := n + 1) (k := n) (by omega) (by rw [show min n (n + 1) = n by omega]; exact h0) hc
        rw [show min (n + 1) (n + 1) = n + 1 by omega] at this
        rw [this] at h
        exact absurd h (by simp)
def mk_can (g : Nat → Int32) (n i : Nat) (place : Int32) : Int32 := match mk_std g (g (14 + i)) place n with
  | none => 1
  | some j => if nI j = nI i then 1 else 0
theorem mk_can_n {g : Nat → Int32} {n i : Nat} {place : Int32} (h : mk_std g (g (14 + i)) place n = none) : mk_can g n i place = 1 := by unfold mk_can; rw [h]
theorem mk_can_s {g : Nat → Int32} {n i j : Nat} {place : Int32} (h : mk_std g (g (14 + i)) place n = some j) : mk_can g n i place = if nI j = nI i then 1 else 0 := by unfold mk_can; rw [h]
def mk_lt (g : Nat → Int32) (n r : Nat) : Nat → Int32
  | 0 => hs_NONE
  | k + 1 => if mk_lt g n r k = hs_NONE then (if mk_fd (va_up g (5 + r) (nI (k + 1))) n n = hs_NONE then nI (k + 1) else hs_NONE) else mk_lt g n r k
theorem mk_lt_up {g : Nat → Int32} {n r k : Nat} (h : ¬ mk_lt g n r k = hs_NONE) : ∀ m, mk_lt g n r (k + m) = mk_lt g n r k := by
  intro m
  induction m with
  | zero => rfl
  | succ m ih =>
    show (if mk_lt g n r (k + m) = hs_NONE then _ else mk_lt g n r (k + m)) = _
    rw [ih, if_neg h]
def mk_rd (g : Nat → Int32) (n : Nat) (what : Int32) : Nat → Int32
  | 0 => hs_NONE
  | k + 1 => if mk_rd g n what k = hs_NONE then (if mk_fd (va_up g 1 (g 1 + nI k)) n n = hs_NONE then hs_NONE else if what = 0 then nI k else mk_fd (va_up g 1 (g 1 + nI k)) n n) else mk_rd g n what k
theorem mk_rd_up {g : Nat → Int32} {n k : Nat} {what : Int32} (h : ¬ mk_rd g n what k = hs_NONE) : ∀ m, mk_rd g n what (k + m) = mk_rd g n what k := by
  intro m
  induction m with
  | zero => rfl
  | succ m ih =>
    show (if mk_rd g n what (k + m) = hs_NONE then _ else mk_rd g n what (k + m)) = _
    rw [ih, if_neg h]
def mk_dear (g : Nat → Int32) (n i : Nat) : Nat → Int32 × Int32
  | 0 => (g (20 + i), hs_NONE)
  | k + 1 => if ¬ mk_can g n i (nI (k + 1)) = 0 ∧ (mk_dear g n i k).2 < hs_price (va_up g (20 + i) (nI (k + 1))) n i then (nI (k + 1), hs_price (va_up g (20 + i) (nI (k + 1))) n i) else mk_dear g n i k
def mk_rent (g : Nat → Int32) (n i a b : Nat) : Nat → Int32
  | 0 => 0
  | k + 1 => if ¬ mk_can g n i (nI (k + 1)) = 0 ∧ ¬ mk_meets (va_up g (20 + i) (nI (k + 1))) n a b = 0 then mk_rent g n i a b k ||| (1 <<< ((nI (k + 1) - 1) &&& 31)) else mk_rent g n i a b k
section HG
variable {p : Program} {l : Launch} {e : Env} {R : Room} {s : State} {m : MethodId} {args : Array Value} {below : List Frame} {meth : Method} {c : Code} {H : Heap} {locs : List Loc} {cells slots : Nat} {Q : State → Prop} {pc : Nat} {ls : Array Slot} {rest : List Value} {ad : Nat → Nat}
/-- a stall or none -/
theorem mk_qk {o : Option Nat} (h1 : o = none → W p l e R s m args below meth c H locs cells slots Q (F0 m pc ls (.null :: rest))) (h2 : ∀ j, o = some j → W p l e R s m args below meth c H locs cells slots Q (F0 m pc ls (.ref (ad (2 + j)) :: rest))) : W p l e R s m args below meth c H locs cells slots Q (F0 m pc ls (va_rf (o.map fun j => ad (2 + j)) :: rest)) := by
  cases o with
  | none => exact h1 rfl
  | some j => exact h2 j rfl
end HG
