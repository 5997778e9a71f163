section HW
variable {L : List Nat} {oa : Nat → Nat} {mk : Nat} {ad : Nat → Nat} {n : Nat} {D : va_G} {f : Nat → va_E} {C C' : Nat → Nat → Int32} {mr mr' : Nat} {im im' : Nat → Option Nat} {g : Nat → Int32}
theorem ob_eR3 {r : Nat} (hr : r < 8) (v : Int32) : ob_e D oa (mo_w C 3 r v) mr im (11 + r) = .inr (4, [.int (C 3 r), .int (C 4 r), .ref (oa (19 + r))].set 0 (.int v)) := by
  rw [ob_eR hr, mo_w, va_up_self, va_up_self, va_up_ne _ _ (by decide)]
  rfl
theorem ob_eR4 {r : Nat} (hr : r < 8) (v : Int32) : ob_e D oa (mo_w C 4 r v) mr im (11 + r) = .inr (4, [.int (C 3 r), .int (C 4 r), .ref (oa (19 + r))].set 1 (.int v)) := by
  rw [ob_eR hr, mo_w, va_up_self, va_up_self, va_up_ne _ _ (by decide)]
  rfl
theorem ob_eI5 {r x : Nat} (hx : x < 40) (v : Int32) : ob_e D oa (mo_w C 5 (40 * r + x) v) mr im (19 + r) = .inl (D.1 11, 40, .inl (va_up (ob_it C r) x v)) := by
  rw [ob_eI, ob_it_set C r x v hx]
end HW
section HG
variable {p : Program} {l : Launch} {e : Env} {R : Room} {s : State} {m : MethodId} {args : Array Value} {below : List Frame} {meth : Method} {c : Code} {H : Heap} {locs : List Loc} {cells slots : Nat} {Q : State → Prop}
variable {cc : ByteArray} {nL : Nat} {Ts : List Cond} {own : String} {D : va_G} {b0 : Nat} {L : List Nat} {f : Nat → va_E} {pc : Nat} {ls : Array Slot} {rest st : List Value} {a : Nat} {mk : Nat} {ad : Nat → Nat} {n : Nat} {g : Nat → Int32} {oa : Nat → Nat} {C : Nat → Nat → Int32} {mr : Nat} {im : Nat → Option Nat}
theorem ob_itald (X : hg_C p s m args c cc nL Ts own D b0) (w : hg_W D b0 L (ob_W D f oa C mr im mk ad n g) s.heap H locs) (ho : ob_ok L oa mk ad n) {r : Nat} (hr : r < 8) {i : Int32} (j : Nat) (hi : i = nI j) (hj : j < 40) (hdg : decode cc pc = .ok (.iaload, 1))
    (kk : W p l e R s m args below meth c H locs cells slots Q (F0 m (pc + 1) ls (.int (C 5 (40 * r + j)) :: rest))) : W p l e R s m args below meth c H locs cells slots Q (F0 m pc ls (.int i :: .ref (oa (19 + r)) :: rest)) := by
  refine ob_ald X w ho (19 + r) (by omega) ob_eI j hi hj (by decide) hdg ?_
  rw [ob_it, if_pos hj]
  exact kk
theorem ob_itast (X : hg_C p s m args c cc nL Ts own D b0) (w : hg_W D b0 L (ob_W D f oa C mr im mk ad n g) s.heap H locs) (ho : ob_ok L oa mk ad n) {r : Nat} (hr : r < 8) {i v : Int32} (j : Nat) (hi : i = nI j) (hj : j < 40) (hdg : decode cc pc = .ok (.iastore, 1))
    (kk : ∀ (H1 : Heap) (locs1 : List Loc), hg_W D b0 L (ob_W D f oa (mo_w C 5 (40 * r + j) v) mr im mk ad n g) s.heap H1 locs1 → W p l e R s m args below meth c H1 locs1 cells slots Q (F0 m (pc + 1) ls rest)) : W p l e R s m args below meth c H locs cells slots Q (F0 m pc ls (.int v :: .int i :: .ref (oa (19 + r)) :: rest)) :=
  ob_ast X w ho (19 + r) (by omega) ob_eI j hi hj (by decide) 5 (40 * r + j) (ob_eI5 hj v) (ob_oI C v hj) hdg kk
end HG
/-- a row has n items from i on: the class's way -/
def mk_has (size i n : Int32) : Int32 := if 0 ≤ i ∧ 0 ≤ n ∧ n ≤ size ∧ i ≤ size - n then 1 else 0
def mk_mis (lane : Int32) : Int32 := if lane = -1 then 1 else 0
/-- each stall hangs as told -/
def mk_so (g : Nat → Int32) (n : Nat) (t : Nat → Int32) (base : Nat) : Nat → Int32
  | 0 => 1
  | k + 1 => if mk_so g n t base k = 0 then 0 else if t (base + k) = hs_deep g n k then 1 else 0
theorem mk_so_0 {g : Nat → Int32} {n : Nat} {t : Nat → Int32} {base k : Nat} (h : ¬ k < n) (h0 : mk_so g n t base (min k n) = 1) : mk_so g n t base (min (k + 1) n) = 1 := by rw [show min (k + 1) n = min k n by omega]; exact h0
theorem mk_so_y {g : Nat → Int32} {n : Nat} {t : Nat → Int32} {base k : Nat} (h : k < n) (h0 : mk_so g n t base (min k n) = 1) (h1 : t (base + k) = hs_deep g n k) : mk_so g n t base (min (k + 1) n) = 1 := by
  rw [show min (k + 1) n = k + 1 by omega]
  rw [show min k n = k by omega] at h0
  rw [mk_so, h0, if_neg (by decide), if_pos h1]
theorem mk_so_zero {g : Nat → Int32} {n : Nat} {t : Nat → Int32} {base k : Nat} (h0 : mk_so g n t base k = 0) : ∀ m, mk_so g n t base (k + m) = 0 := by
  intro m
  induction m with
  | zero => exact h0
  | succ m ih => show (if mk_so g n t base (k + m) = 0 then 0 else _) = _; rw [if_pos ih]
theorem mk_so_n {g : Nat → Int32} {n : Nat} {t : Nat → Int32} {base k : Nat} (h : k < n) (h0 : mk_so g n t base (min k n) = 1) (h1 : ¬ t (base + k) = hs_deep g n k) : 0 = mk_so g n t base n := by
  rw [show min k n = k by omega] at h0
  have h2 : mk_so g n t base (k + 1) = 0 := by rw [mk_so, h0, if_neg (by decide), if_neg h1]
  have h3 := mk_so_zero h2 (n - (k + 1))
  rw [show k + 1 + (n - (k + 1)) = n by omega] at h3
  exact h3.symm
def mk_cuts (g : Nat → Int32) (n : Nat) (t : Nat → Int32) (base : Nat) : Nat → Int32
  | 0 => 0
  | k + 1 => if 1 < g (5 + k) ∧ ¬ mk_so (va_up g (5 + k) (g (5 + k) - 1)) n t base n = 0 then mk_cuts g n t base k ||| (1 <<< (nI k &&& 31)) else mk_cuts g n t base k
def mk_rN (g : Nat → Int32) (n : Nat) (t : Nat → Int32) (base a b x : Nat) (p : Int32 × Int32) : Nat → Int32 × Int32
  | 0 => p
  | k + 1 => if mk_so (va_up (va_up g (26 + a) (nI x)) (26 + b) (nI k)) n t base n = 0 then mk_rN g n t base a b x p k else ((mk_rN g n t base a b x p k).1 + 1, if (mk_rN g n t base a b x p k).2 = hs_NONE then 21 * nI x + nI k else (mk_rN g n t base a b x p k).2)
def mk_rr2 (g : Nat → Int32) (n : Nat) (t : Nat → Int32) (base a b : Nat) : Nat → Int32 × Int32
  | 0 => (0, hs_NONE)
  | x + 1 => mk_rN g n t base a b x (mk_rr2 g n t base a b x) 21
theorem mk_tcut {g : Nat → Int32} {nr r : Nat} (ht : mk_t g nr) (hr : r < 3) (h : 1 < g (5 + r)) : mk_t (va_up g (5 + r) (g (5 + r) - 1)) nr := by
  have hrn : r < nr := by
    rcases Nat.lt_or_ge r nr with q | q
    · exact q
    · rw [ht.2.2.2 r q hr] at h
      exact absurd h (by decide)
  refine mk_t_ta hrn ?_ ht
  rw [Int32.le_iff_toInt_le]
  rw [Int32.lt_iff_toInt_lt] at h
  have h1 : (1 : Int32).toInt = 1 := rfl
  rw [h1] at h
  have h3 := Int32.toInt_lt (g (5 + r))
  rw [Int32.toInt_sub, h1, Int.bmod_eq_of_le (by omega) (by omega)]
  omega
