/-! the object beside a market, and a market that is new -/
theorem cr_eq0 {k : Nat} (h : k < 100) (e : nI k = 0) : k = 0 := (nI_eq (b := 0) (by omega) (by omega)).mp e
theorem cr_1_e (C : Nat → Nat → Int32) : cr_1 C = cr_rs (cr_0 C) 4 := by
  unfold cr_1
  rfl
theorem ob_mk_comm {L : List Nat} {D : va_G} {f : Nat → va_E} {oa : Nat → Nat} {C : Nat → Nat → Int32} {mr : Nat} {im : Nat → Option Nat} {mk : Nat} {ad : Nat → Nat} {n : Nat} {g : Nat → Int32} (ho : ob_ok L oa mk ad n) : ob_F D (mk_F D f mk ad n g) oa C mr im = mk_F D (ob_F D f oa C mr im) mk ad n g := by
  funext a
  by_cases h : ∃ k, k < 27 ∧ oa k = a
  · obtain ⟨k, hk, rfl⟩ := h
    rw [ob_at ho.2 hk, mk_out (ho.1 k hk).2.1 (ho.1 k hk).2.2, ob_at ho.2 hk]
  · have h1 : ∀ k, k < 27 → oa k ≠ a := fun k hk e => h ⟨k, hk, e⟩
    rw [ob_out h1]
    unfold mk_F
    by_cases c : a = mk
    · rw [if_pos c, if_pos c]
    · rw [if_neg c, if_neg c]
      cases (List.range (n + 2)).find? (fun k => decide (ad k = a)) with
      | none => exact (ob_out h1).symm
      | some j => rfl
theorem ob_ok_new {L N : List Nat} {oa : Nat → Nat} {mk mk2 : Nat} {ad ad2 : Nat → Nat} {n n2 : Nat} (ho : ob_ok L oa mk ad n) (h1 : mk2 ∉ L) (h2 : ∀ j, j < n2 + 2 → ad2 j ∉ L) : ob_ok (L ++ N) oa mk2 ad2 n2 :=
  ⟨fun k hk => ⟨List.mem_append_left _ (ho.1 k hk).1, fun e => h1 (by rw [← e]; exact (ho.1 k hk).1), fun j hj e => h2 j hj (by rw [e]; exact (ho.1 k hk).1)⟩, ho.2⟩
section HG
variable {p : Program} {l : Launch} {e : Env} {R : Room} {s : State} {m : MethodId} {args : Array Value} {below : List Frame} {meth : Method} {c : Code} {H : Heap} {locs : List Loc} {cells slots : Nat} {Q : State → Prop}
variable {cc : ByteArray} {nL : Nat} {Ts : List Cond} {own : String} {D : va_G} {b0 : Nat} {L : List Nat} {f : Nat → va_E} {pc : Nat} {ls : Array Slot} {rest st : List Value} {a : Nat} {mk : Nat} {ad : Nat → Nat} {n : Nat} {g : Nat → Int32} {oa : Nat → Nat} {C : Nat → Nat → Int32} {mr : Nat} {im : Nat → Option Nat}
/-- the object's market set -/
theorem ob_putm (X : hg_C p s m args c cc nL Ts own D b0) (w : hg_W D b0 L (ob_W D f oa C mr im mk ad n g) s.heap H locs) (ho : ob_ok L oa mk ad n) (hin : ∀ w ∈ wsX110, w ∈ Ts) {index q : Nat} (hlink : Cond.fieldLink own index RX11 "market" "LHungStalls$Market;" ∈ Ts) (hdg : decode cc pc = .ok (.putfield index, 3))
    (kk : ∀ (H1 : Heap) (locs1 : List Loc), hg_W D b0 L (ob_W D f oa C q im mk ad n g) s.heap H1 locs1 → W p l e R s m args below meth c H1 locs1 cells slots Q (F0 m (pc + 3) ls rest)) : W p l e R s m args below meth c H locs cells slots Q (F0 m pc ls (.ref q :: .ref (oa 0) :: rest)) := by
  refine hg_put (C := RX11) (T := TX11) (N := 12) (ty0 := tyX11) (ci := 9) (fs := [.ref (oa 1), .ref (oa 2), .ref (oa 4), .ref (oa 6), .ref (oa 7), .ref (oa 8), .ref (oa 9), .ref (oa 10), .int (C 1 0), .ref mr, .int (C 10 0), .int (C 7 0)]) X w (ho.1 0 (by decide)).1 (ow_at ho (k := 0) (by decide)) hin tyX11_ok nmX11 rfl 9 (by decide) hlink (Or.inl rfl) rfl rfl rfl (by show 9 < 12; decide) hdg (fun H1 locs1 w1 => kk H1 locs1 ?_)
  have e := ow_up (D := D) (f := f) (g := g) (C := C) (C' := C) (mr := mr) (mr' := q) (im := im) (im' := im) ho (k := 0) (by decide) (fun j hj hne => by
    match j with
    | 0 => exact absurd rfl hne
    | 1 | 2 | 3 | 4 | 5 | 6 | 7 | 8 | 9 | 10 => rfl
    | j + 11 => rfl)
  rw [← e]
  exact w1
/-- an image set -/
theorem ob_ist (X : hg_C p s m args c cc nL Ts own D b0) (w : hg_W D b0 L (ob_W D f oa C mr im mk ad n g) s.heap H locs) (ho : ob_ok L oa mk ad n) (hm : mk_ok L mk ad n) {i : Int32} (j : Nat) (hi : i = nI j) (hj : j < 2) (hdg : decode cc pc = .ok (.aastore, 1))
    (kk : ∀ (H1 : Heap) (locs1 : List Loc), hg_W D b0 L (ob_W D f oa C mr (va_up im j (some mk)) mk ad n g) s.heap H1 locs1 → W p l e R s m args below meth c H1 locs1 cells slots Q (F0 m (pc + 1) ls rest)) : W p l e R s m args below meth c H locs cells slots Q (F0 m pc ls (.ref mk :: .int i :: .ref (oa 6) :: rest)) := by
  refine hg_aast X w 2 rfl (ho.1 6 (by decide)).1 (ow_at ho (k := 6) (by decide)) hm.1 (mk_at0 D _ mk ad n g) rfl (Or.inr rfl) j hi hj (by decide) hdg (fun H1 locs1 w1 => kk H1 locs1 ?_)
  have e := ow_up (D := D) (f := f) (g := g) (C := C) (C' := C) (mr := mr) (mr' := mr) (im := im) (im' := va_up im j (some mk)) ho (k := 6) (by decide) (fun j hj hne => by
    match j with
    | 6 => exact absurd rfl hne
    | 0 | 1 | 2 | 3 | 4 | 5 | 7 | 8 | 9 | 10 => rfl
    | j + 11 => rfl)
  rw [← e]
  exact w1
end HG
theorem mk_over {L : List Nat} {D : va_G} {F : Nat → va_E} {mk : Nat} {ad : Nat → Nat} {n : Nat} {g : Nat → Int32} (h : mk_H D F mk ad n g) {mk2 : Nat} {ad2 : Nat → Nat} {n2 : Nat} {g2 : Nat → Int32} : mk_F D (mk_F D F mk ad n g) mk2 ad2 n2 g2 = mk_F D F mk2 ad2 n2 g2 := by rw [mk_self h]
