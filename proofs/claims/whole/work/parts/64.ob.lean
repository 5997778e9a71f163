/-! THE CLASS'S OBJECT: 27 cells; its numbers are C, with the reference's keys where both have one (1 acts, 3 lanes, 4 sizes, 5 items, 7 status, 8 tape, 9 taped, 10 latest, 17 trace, 18 traced; its own: 20 orders, 21 to 23 the acts, 24 at, 25 fault, 26 the fault's place) -/
def ob_it (C : Nat → Nat → Int32) (r : Nat) : Nat → Int32 := fun j => if j < 40 then C 5 (40 * r + j) else 0
def ob_rr (oa : Nat → Nat) : Nat → Option Nat := fun j => if j < 8 then some (oa (11 + j)) else none
def ob_e (D : va_G) (oa : Nat → Nat) (C : Nat → Nat → Int32) (mr : Nat) (im : Nat → Option Nat) (k : Nat) : va_E := match k with
  | 0 => .inr (9, [.ref (oa 1), .ref (oa 2), .ref (oa 4), .ref (oa 6), .ref (oa 7), .ref (oa 8), .ref (oa 9), .ref (oa 10), .int (C 1 0), .ref mr, .int (C 10 0), .int (C 7 0)])
  | 1 => .inl (D.1 14, 8, .inr (.inr (.inr (.inr (ob_rr oa)))))
  | 2 => .inr (6, [.ref (oa 3), .int (C 9 0), .int (C 24 0), .int (C 25 0), .int (C 26 0)])
  | 3 => .inl (D.1 11, 100, .inl (C 8))
  | 4 => .inr (7, [.ref (oa 5), .int (C 18 0)])
  | 5 => .inl (D.1 11, 16, .inl (C 17))
  | 6 => .inl (D.1 13, 2, .inr (.inr (.inr (.inr im))))
  | 7 => .inl (D.1 11, 64, .inl (C 20))
  | 8 => .inl (D.1 11, 24, .inl (C 21))
  | 9 => .inl (D.1 11, 24, .inl (C 22))
  | 10 => .inl (D.1 11, 24, .inl (C 23))
  | j + 11 => if j < 8 then .inr (4, [.int (C 3 j), .int (C 4 j), .ref (oa (19 + j))]) else .inl (D.1 11, 40, .inl (ob_it C (j - 8)))
def ob_F (D : va_G) (f : Nat → va_E) (oa : Nat → Nat) (C : Nat → Nat → Int32) (mr : Nat) (im : Nat → Option Nat) : Nat → va_E := fun a => match (List.range 27).find? (fun k => decide (oa k = a)) with
  | some k => ob_e D oa C mr im k
  | none => f a
def ob_ok (L : List Nat) (oa : Nat → Nat) (mk : Nat) (ad : Nat → Nat) (n : Nat) : Prop := (∀ k, k < 27 → oa k ∈ L ∧ oa k ≠ mk ∧ ∀ j, j < n + 2 → ad j ≠ oa k) ∧ ∀ k, k < 27 → ∀ j, j < 27 → oa k = oa j → k = j
/-- the object, and a market -/
abbrev ob_W (D : va_G) (f : Nat → va_E) (oa : Nat → Nat) (C : Nat → Nat → Int32) (mr : Nat) (im : Nat → Option Nat) (mk : Nat) (ad : Nat → Nat) (n : Nat) (g : Nat → Int32) : Nat → va_E := mk_F D (ob_F D f oa C mr im) mk ad n g
theorem mk_out {D : va_G} {f : Nat → va_E} {mk : Nat} {ad : Nat → Nat} {n : Nat} {g : Nat → Int32} {a : Nat} (h1 : a ≠ mk) (h2 : ∀ j, j < n + 2 → ad j ≠ a) : mk_F D f mk ad n g a = f a := by
  unfold mk_F
  rw [if_neg h1]
  cases hq : (List.range (n + 2)).find? (fun k => decide (ad k = a)) with
  | none => rfl
  | some j =>
    have h3 : ad j = a := by simpa using List.find?_some hq
    exact absurd h3 (h2 j (List.mem_range.mp (List.mem_of_find?_eq_some hq)))
theorem mk_upo {D : va_G} {f : Nat → va_E} {mk : Nat} {ad : Nat → Nat} {n : Nat} {g : Nat → Int32} {a : Nat} {x : va_E} (h1 : a ≠ mk) (h2 : ∀ j, j < n + 2 → ad j ≠ a) : va_up (mk_F D f mk ad n g) a x = mk_F D (va_up f a x) mk ad n g := by
  funext b
  by_cases hb : b = a
  · subst hb
    rw [va_up_self, mk_out h1 h2, va_up_self]
  · rw [va_up_ne _ _ hb]
    unfold mk_F
    by_cases hm : b = mk
    · rw [if_pos hm, if_pos hm]
    · rw [if_neg hm, if_neg hm]
      cases hq : (List.range (n + 2)).find? (fun k => decide (ad k = b)) with
      | none => show f b = va_up f a x b; rw [va_up_ne _ _ hb]
      | some j => rfl
theorem ob_find {oa : Nat → Nat} (h : ∀ k, k < 27 → ∀ j, j < 27 → oa k = oa j → k = j) {k : Nat} (hk : k < 27) : (List.range 27).find? (fun j => decide (oa j = oa k)) = some k := by
  cases hh : (List.range 27).find? (fun j => decide (oa j = oa k)) with
  | none =>
    have := List.find?_eq_none.mp hh k (List.mem_range.mpr hk)
    simp at this
  | some j =>
    have h1 := List.find?_some hh
    have h2 := List.mem_range.mp (List.mem_of_find?_eq_some hh)
    rw [h j h2 k hk (by simpa using h1)]
theorem ob_at {oa : Nat → Nat} (h : ∀ k, k < 27 → ∀ j, j < 27 → oa k = oa j → k = j) {D : va_G} {f : Nat → va_E} {C : Nat → Nat → Int32} {mr : Nat} {im : Nat → Option Nat} {k : Nat} (hk : k < 27) : ob_F D f oa C mr im (oa k) = ob_e D oa C mr im k := by
  unfold ob_F
  rw [ob_find h hk]
theorem ob_up {oa : Nat → Nat} (h : ∀ k, k < 27 → ∀ j, j < 27 → oa k = oa j → k = j) {D : va_G} {f : Nat → va_E} {C C' : Nat → Nat → Int32} {mr mr' : Nat} {im im' : Nat → Option Nat} {k : Nat} (hk : k < 27) (he : ∀ j, j < 27 → j ≠ k → ob_e D oa C' mr' im' j = ob_e D oa C mr im j) : va_up (ob_F D f oa C mr im) (oa k) (ob_e D oa C' mr' im' k) = ob_F D f oa C' mr' im' := by
  funext a
  by_cases hb : a = oa k
  · subst hb
    rw [va_up_self, ob_at h hk]
  · rw [va_up_ne _ _ hb]
    unfold ob_F
    cases hq : (List.range 27).find? (fun k => decide (oa k = a)) with
    | none => rfl
    | some j =>
      have h1 : oa j = a := by simpa using List.find?_some hq
      have hne : j ≠ k := fun q => hb (by rw [← q]; exact h1.symm)
      show ob_e D oa C mr im j = ob_e D oa C' mr' im' j
      rw [he j (List.mem_range.mp (List.mem_of_find?_eq_some hq)) hne]
section HW
variable {L : List Nat} {oa : Nat → Nat} {mk : Nat} {ad : Nat → Nat} {n : Nat} {D : va_G} {f : Nat → va_E} {C C' : Nat → Nat → Int32} {mr mr' : Nat} {im im' : Nat → Option Nat} {g : Nat → Int32}
theorem ow_at (ho : ob_ok L oa mk ad n) {k : Nat} (hk : k < 27) : ob_W D f oa C mr im mk ad n g (oa k) = ob_e D oa C mr im k := by
  rw [ob_W, mk_out (ho.1 k hk).2.1 (ho.1 k hk).2.2, ob_at ho.2 hk]
theorem ow_up (ho : ob_ok L oa mk ad n) {k : Nat} (hk : k < 27) (he : ∀ j, j < 27 → j ≠ k → ob_e D oa C' mr' im' j = ob_e D oa C mr im j) : va_up (ob_W D f oa C mr im mk ad n g) (oa k) (ob_e D oa C' mr' im' k) = ob_W D f oa C' mr' im' mk ad n g := by
  rw [ob_W, mk_upo (ho.1 k hk).2.1 (ho.1 k hk).2.2, ob_up ho.2 hk he]
/-- the row r's cells -/
theorem ob_eR {r : Nat} (hr : r < 8) : ob_e D oa C mr im (11 + r) = .inr (4, [.int (C 3 r), .int (C 4 r), .ref (oa (19 + r))]) := by
  rw [Nat.add_comm 11 r]
  show (if r < 8 then _ else _) = _
  rw [if_pos hr]
theorem ob_eI {r : Nat} : ob_e D oa C mr im (19 + r) = .inl (D.1 11, 40, .inl (ob_it C r)) := by
  rw [show 19 + r = (r + 8) + 11 by omega]
  simp only [ob_e]
  rw [if_neg (by omega), show r + 8 - 8 = r by omega]
/-- one number set: the other cells stay -/
theorem ob_o0 (C : Nat → Nat → Int32) (v : Int32) {q kk : Nat} (h : (q = 0 ∧ kk = 1) ∨ (q = 0 ∧ kk = 10) ∨ (q = 0 ∧ kk = 7) ∨ (q = 2 ∧ kk = 9) ∨ (q = 2 ∧ kk = 24) ∨ (q = 2 ∧ kk = 25) ∨ (q = 2 ∧ kk = 26) ∨ (q = 4 ∧ kk = 18) ∨ (q = 3 ∧ kk = 8) ∨ (q = 5 ∧ kk = 17) ∨ (q = 7 ∧ kk = 20) ∨ (q = 8 ∧ kk = 21) ∨ (q = 9 ∧ kk = 22) ∨ (q = 10 ∧ kk = 23)) (x : Nat) : ∀ j, j < 27 → j ≠ q → ob_e D oa (mo_w C kk x v) mr im j = ob_e D oa C mr im j := by
  intro j _ hne
  rcases h with ⟨rfl, rfl⟩ | ⟨rfl, rfl⟩ | ⟨rfl, rfl⟩ | ⟨rfl, rfl⟩ | ⟨rfl, rfl⟩ | ⟨rfl, rfl⟩ | ⟨rfl, rfl⟩ | ⟨rfl, rfl⟩ | ⟨rfl, rfl⟩ | ⟨rfl, rfl⟩ | ⟨rfl, rfl⟩ | ⟨rfl, rfl⟩ | ⟨rfl, rfl⟩ | ⟨rfl, rfl⟩ <;>
  · match j with
    | 0 => first | rfl | exact absurd rfl hne
    | 1 => first | rfl | exact absurd rfl hne
    | 2 => first | rfl | exact absurd rfl hne
    | 3 => first | rfl | exact absurd rfl hne
    | 4 => first | rfl | exact absurd rfl hne
    | 5 => first | rfl | exact absurd rfl hne
    | 6 => first | rfl | exact absurd rfl hne
    | 7 => first | rfl | exact absurd rfl hne
    | 8 => first | rfl | exact absurd rfl hne
    | 9 => first | rfl | exact absurd rfl hne
    | 10 => first | rfl | exact absurd rfl hne
    | j + 11 => rfl
theorem ob_oR (C : Nat → Nat → Int32) (v : Int32) {r kk : Nat} (h : kk = 3 ∨ kk = 4) : ∀ j, j < 27 → j ≠ 11 + r → ob_e D oa (mo_w C kk r v) mr im j = ob_e D oa C mr im j := by
  intro j _ hne
  rcases h with rfl | rfl <;>
  · match j with
    | 0 | 1 | 2 | 3 | 4 | 5 | 6 | 7 | 8 | 9 | 10 => rfl
    | j + 11 =>
      have h1 : j ≠ r := by omega
      show (if j < 8 then _ else _) = if j < 8 then _ else _
      by_cases h8 : j < 8
      · rw [if_pos h8, if_pos h8]
        simp [mo_w, va_up, h1]
      · rw [if_neg h8, if_neg h8]
        rfl
theorem ob_it_set (C : Nat → Nat → Int32) (r x : Nat) (v : Int32) (hx : x < 40) : va_up (ob_it C r) x v = ob_it (mo_w C 5 (40 * r + x) v) r := by
  funext j
  simp only [ob_it, mo_w]
  by_cases h1 : j = x
  · subst h1
    rw [va_up_self, if_pos hx, va_up_self, va_up_self]
  · rw [va_up_ne _ _ h1]
    by_cases h2 : j < 40
    · rw [if_pos h2, ob_it, if_pos h2, va_up_self, va_up_ne _ _ (by omega)]
    · rw [if_neg h2, ob_it, if_neg h2]
theorem ob_it_ne (C : Nat → Nat → Int32) (r q x : Nat) (v : Int32) (hx : x < 40) (hq : q ≠ r) : ob_it (mo_w C 5 (40 * r + x) v) q = ob_it C q := by
  funext j
  simp only [ob_it, mo_w]
  by_cases h2 : j < 40
  · rw [if_pos h2, if_pos h2, va_up_self, va_up_ne _ _ (by omega)]
  · rw [if_neg h2, if_neg h2]
theorem ob_oI (C : Nat → Nat → Int32) (v : Int32) {r x : Nat} (hx : x < 40) : ∀ j, j < 27 → j ≠ 19 + r → ob_e D oa (mo_w C 5 (40 * r + x) v) mr im j = ob_e D oa C mr im j := by
  intro j _ hne
  match j with
  | 0 | 1 | 2 | 3 | 4 | 5 | 6 | 7 | 8 | 9 | 10 => rfl
  | j + 11 =>
    show (if j < 8 then _ else _) = if j < 8 then _ else _
    by_cases h8 : j < 8
    · rw [if_pos h8, if_pos h8]
      rfl
    · rw [if_neg h8, if_neg h8, ob_it_ne C r (j - 8) x v hx (by omega)]
end HW
section HG
variable {p : Program} {l : Launch} {e : Env} {R : Room} {s : State} {m : MethodId} {args : Array Value} {below : List Frame} {meth : Method} {c : Code} {H : Heap} {locs : List Loc} {cells slots : Nat} {Q : State → Prop}
variable {cc : ByteArray} {nL : Nat} {Ts : List Cond} {own : String} {D : va_G} {b0 : Nat} {L : List Nat} {f : Nat → va_E} {pc : Nat} {ls : Array Slot} {rest st : List Value} {a : Nat} {mk : Nat} {ad : Nat → Nat} {n : Nat} {g : Nat → Int32} {oa : Nat → Nat} {C : Nat → Nat → Int32} {mr : Nat} {im : Nat → Option Nat}
/-- a field of one of its objects -/
theorem ob_get (X : hg_C p s m args c cc nL Ts own D b0) (w : hg_W D b0 L (ob_W D f oa C mr im mk ad n g) s.heap H locs) (ho : ob_ok L oa mk ad n) (q : Nat) (hq : q < 27) {C0 : String} {T : u_T} {N ci index : Nat} {fs : List Value} (he : ob_e D oa C mr im q = .inr (ci, fs)) (hin : ∀ w ∈ u_ws C0 T N, w ∈ Ts) (hc : vwCl[ci]? = some (C0, T, N)) (k : Nat) (hk : k < N) (hlink : Cond.fieldLink own index C0 (T k).2.1 (T k).2.2.1 ∈ Ts) (hsame : C0 = (T k).1) {v : Value} (hv : fs[k]? = some v) (hdg : decode cc pc = .ok (.getfield index, 3))
    (kk : W p l e R s m args below meth c H locs cells slots Q (F0 m (pc + 3) ls (v :: rest))) : W p l e R s m args below meth c H locs cells slots Q (F0 m pc ls (.ref (oa q) :: rest)) :=
  hg_get X w (ho.1 q hq).1 (by rw [ow_at ho hq]; exact he) hin hc k hk hlink (Or.inl hsame) hv hdg kk
/-- a number of one of its objects set -/
theorem ob_put (X : hg_C p s m args c cc nL Ts own D b0) (w : hg_W D b0 L (ob_W D f oa C mr im mk ad n g) s.heap H locs) (ho : ob_ok L oa mk ad n) (q : Nat) (hq : q < 27) {C0 : String} {T : u_T} {N ci index : Nat} {fs : List Value} (he : ob_e D oa C mr im q = .inr (ci, fs)) (hin : ∀ w ∈ u_ws C0 T N, w ∈ Ts) {ty0 : Nat → FieldType} (hty : ∀ k, k < N → parseFieldDescriptor (T k).2.2.1 = some (ty0 k)) (hnm : ∀ a, a < N → ∀ b, b < N → a ≠ b → (T a).2.1 ≠ (T b).2.1) (hc : vwCl[ci]? = some (C0, T, N)) (k : Nat) (hk : k < N) (hlink : Cond.fieldLink own index C0 (T k).2.1 (T k).2.2.1 ∈ Ts) (hsame : C0 = (T k).1) (hfin : (T k).2.2.2 = false) (hi : ty0 k = .int) (hl : k < fs.length) {v : Int32} (kx jx : Nat)
    (he' : ob_e D oa (mo_w C kx jx v) mr im q = .inr (ci, fs.set k (.int v))) (hoth : ∀ j, j < 27 → j ≠ q → ob_e D oa (mo_w C kx jx v) mr im j = ob_e D oa C mr im j) (hdg : decode cc pc = .ok (.putfield index, 3))
    (kk : ∀ (H1 : Heap) (locs1 : List Loc), hg_W D b0 L (ob_W D f oa (mo_w C kx jx v) mr im mk ad n g) s.heap H1 locs1 → W p l e R s m args below meth c H1 locs1 cells slots Q (F0 m (pc + 3) ls rest)) : W p l e R s m args below meth c H locs cells slots Q (F0 m pc ls (.int v :: .ref (oa q) :: rest)) :=
  hg_put X w (ho.1 q hq).1 (by rw [ow_at ho hq]; exact he) hin hty hnm hc k hk hlink (Or.inl hsame) hfin (by rw [hi]; rfl) (by rw [hi]; rfl) hl hdg (fun H1 locs1 w1 => kk H1 locs1 (by rw [← he', ow_up ho hq hoth] at w1; exact w1))
/-- its int arrays -/
theorem ob_ald (X : hg_C p s m args c cc nL Ts own D b0) (w : hg_W D b0 L (ob_W D f oa C mr im mk ad n g) s.heap H locs) (ho : ob_ok L oa mk ad n) (q : Nat) (hq : q < 27) {N : Nat} {t : Nat → Int32} (he : ob_e D oa C mr im q = .inl (D.1 11, N, .inl t)) {i : Int32} (j : Nat) (hi : i = nI j) (hj : j < N) (hN : N < 2 ^ 31) (hdg : decode cc pc = .ok (.iaload, 1))
    (kk : W p l e R s m args below meth c H locs cells slots Q (F0 m (pc + 1) ls (.int (t j) :: rest))) : W p l e R s m args below meth c H locs cells slots Q (F0 m pc ls (.int i :: .ref (oa q) :: rest)) :=
  hg_iald X w (ho.1 q hq).1 (by rw [ow_at ho hq]; exact he) j hi hj hN hdg kk
theorem ob_ast (X : hg_C p s m args c cc nL Ts own D b0) (w : hg_W D b0 L (ob_W D f oa C mr im mk ad n g) s.heap H locs) (ho : ob_ok L oa mk ad n) (q : Nat) (hq : q < 27) {N : Nat} {t : Nat → Int32} (he : ob_e D oa C mr im q = .inl (D.1 11, N, .inl t)) {i v : Int32} (j : Nat) (hi : i = nI j) (hj : j < N) (hN : N < 2 ^ 31) (kx jx : Nat)
    (he' : ob_e D oa (mo_w C kx jx v) mr im q = .inl (D.1 11, N, .inl (va_up t j v))) (hoth : ∀ j, j < 27 → j ≠ q → ob_e D oa (mo_w C kx jx v) mr im j = ob_e D oa C mr im j) (hdg : decode cc pc = .ok (.iastore, 1))
    (kk : ∀ (H1 : Heap) (locs1 : List Loc), hg_W D b0 L (ob_W D f oa (mo_w C kx jx v) mr im mk ad n g) s.heap H1 locs1 → W p l e R s m args below meth c H1 locs1 cells slots Q (F0 m (pc + 1) ls rest)) : W p l e R s m args below meth c H locs cells slots Q (F0 m pc ls (.int v :: .int i :: .ref (oa q) :: rest)) :=
  hg_iast X w (ho.1 q hq).1 (by rw [ow_at ho hq]; exact he) j hi hj hN hdg (fun H1 locs1 w1 => kk H1 locs1 (by rw [← he', ow_up ho hq hoth] at w1; exact w1))
theorem ob_alen (X : hg_C p s m args c cc nL Ts own D b0) (w : hg_W D b0 L (ob_W D f oa C mr im mk ad n g) s.heap H locs) (ho : ob_ok L oa mk ad n) (q : Nat) (hq : q < 27) {N : Nat} {t : Nat → Int32} (he : ob_e D oa C mr im q = .inl (D.1 11, N, .inl t)) (hdg : decode cc pc = .ok (.arraylength, 1))
    (kk : W p l e R s m args below meth c H locs cells slots Q (F0 m (pc + 1) ls (.int (nI N) :: rest))) : W p l e R s m args below meth c H locs cells slots Q (F0 m pc ls (.ref (oa q) :: rest)) :=
  hg_alen X w (ho.1 q hq).1 (by rw [ow_at ho hq]; exact he) hdg kk
/-- the rows' row: its length, a row -/
theorem ob_rlen (X : hg_C p s m args c cc nL Ts own D b0) (w : hg_W D b0 L (ob_W D f oa C mr im mk ad n g) s.heap H locs) (ho : ob_ok L oa mk ad n) (hdg : decode cc pc = .ok (.arraylength, 1))
    (kk : W p l e R s m args below meth c H locs cells slots Q (F0 m (pc + 1) ls (.int 8 :: rest))) : W p l e R s m args below meth c H locs cells slots Q (F0 m pc ls (.ref (oa 1) :: rest)) := by
  obtain ⟨⟨hx, hb, hml, hown, hts⟩, hK, hb0⟩ := X
  obtain ⟨q0, hq⟩ := hg_at (ho.1 1 (by decide)).1 (ow_at (D := D) (f := f) (C := C) (mr := mr) (im := im) (g := g) ho (k := 1) (by decide))
  exact va_alen hx hb hK.1 w.1.1 q0 3 hq rfl rfl hdg kk
theorem ob_rald (X : hg_C p s m args c cc nL Ts own D b0) (w : hg_W D b0 L (ob_W D f oa C mr im mk ad n g) s.heap H locs) (ho : ob_ok L oa mk ad n) {i : Int32} (j : Nat) (hi : i = nI j) (hj : j < 8) (hdg : decode cc pc = .ok (.aaload, 1))
    (kk : W p l e R s m args below meth c H locs cells slots Q (F0 m (pc + 1) ls (.ref (oa (11 + j)) :: rest))) : W p l e R s m args below meth c H locs cells slots Q (F0 m pc ls (.int i :: .ref (oa 1) :: rest)) := by
  obtain ⟨⟨hx, hb, hml, hown, hts⟩, hK, hb0⟩ := X
  obtain ⟨q0, hq⟩ := hg_at (ho.1 1 (by decide)).1 (ow_at (D := D) (f := f) (C := C) (mr := mr) (im := im) (g := g) ho (k := 1) (by decide))
  subst hi
  refine va_aldq hx hb hK.1 w.1.1 q0 3 hq rfl (vp_in_nI hj (by decide)) hdg ?_
  rw [nI_clamp (by omega), ob_rr, if_pos hj]
  exact kk
/-- an image, or none -/
theorem ob_iald (X : hg_C p s m args c cc nL Ts own D b0) (w : hg_W D b0 L (ob_W D f oa C mr im mk ad n g) s.heap H locs) (ho : ob_ok L oa mk ad n) {i : Int32} (j : Nat) (hi : i = nI j) (hj : j < 2) (hdg : decode cc pc = .ok (.aaload, 1))
    (k1 : im j = none → W p l e R s m args below meth c H locs cells slots Q (F0 m (pc + 1) ls (.null :: rest))) (k2 : ∀ b, im j = some b → W p l e R s m args below meth c H locs cells slots Q (F0 m (pc + 1) ls (.ref b :: rest))) : W p l e R s m args below meth c H locs cells slots Q (F0 m pc ls (.int i :: .ref (oa 6) :: rest)) := by
  obtain ⟨⟨hx, hb, hml, hown, hts⟩, hK, hb0⟩ := X
  obtain ⟨q0, hq⟩ := hg_at (ho.1 6 (by decide)).1 (ow_at (D := D) (f := f) (C := C) (mr := mr) (im := im) (g := g) ho (k := 6) (by decide))
  subst hi
  refine va_aldq hx hb hK.1 w.1.1 q0 2 hq rfl (vp_in_nI hj (by decide)) hdg ?_
  rw [nI_clamp (by omega)]
  cases h : im j with
  | none => exact k1 h
  | some b => exact k2 b h
end HG
