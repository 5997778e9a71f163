/-! BOTH OBJECTS MADE -/
theorem al_eq {f G : Nat → va_E} {li : List (Nat × va_E)} (hn : (li.map Prod.fst).Nodup) (h : ∀ (k a : Nat) (x : va_E), li[k]? = some (a, x) → G a = x) (h2 : ∀ a, a ∉ li.map Prod.fst → G a = f a) : al_F f li = G := by
  funext a
  by_cases hm : a ∈ li.map Prod.fst
  · obtain ⟨p, hp, e⟩ := List.mem_map.mp hm
    obtain ⟨j, hj⟩ := List.getElem?_of_mem hp
    obtain ⟨p1, p2⟩ := p
    have e : p1 = a := e
    subst e
    rw [al_at hn hj, h j p1 p2 hj]
  · rw [al_out hm, h2 a hm]
theorem mo_out {D : va_G} {f : Nat → va_E} {mo : Nat} {ma : Nat → Nat} {M : Nat → Nat → Int32} {a : Nat} (h1 : a ≠ mo) (h2 : ∀ k ∈ mo_ks, ma k ≠ a) : mo_F D f mo ma M a = f a := by
  unfold mo_F
  rw [if_neg h1]
  cases hq : mo_ks.find? (fun k => decide (ma k = a)) with
  | none => rfl
  | some j =>
    have h3 : ma j = a := by simpa using List.find?_some hq
    exact absurd h3 (h2 j (List.mem_of_find?_eq_some hq))
section HG
variable {p : Program} {l : Launch} {e : Env} {R : Room} {s : State} {m : MethodId} {args : Array Value} {below : List Frame} {meth : Method} {c : Code} {H : Heap} {locs : List Loc} {cells slots : Nat} {Q : State → Prop}
variable {cc : ByteArray} {nL : Nat} {Ts : List Cond} {own : String} {D : va_G} {b0 : Nat} {L : List Nat} {f : Nat → va_E} {pc : Nat} {ls : Array Slot} {rest st : List Value} {a : Nat}
theorem hg_newI2 (X : hg_C p s m args c cc nL Ts own D b0) (w : hg_W D b0 L f s.heap H locs) {k : Int32} (N : Nat) (e1 : k = nI N) (hN : N < 10000) (harr : Cond.arrayClass .int ∈ Ts) (hcells : cells + 1 ≤ R.cells) (hslots : slots + N ≤ R.slots) (hdg : decode cc pc = .ok (.newarray .int, 2))
    (kk : ∀ (q : Nat) (H1 : Heap), q ∉ L → hg_W D b0 (L ++ [q]) (va_up f q (.inl (D.1 11, N, .inl (fun _ => 0)))) s.heap H1 locs → W p l e R s m args below meth c H1 locs (cells + 1) (slots + N) Q (F0 m (pc + 2) ls (.ref q :: rest))) : W p l e R s m args below meth c H locs cells slots Q (F0 m pc ls (.int k :: rest)) := by
  obtain ⟨⟨hx, hb, hml, hown, hts⟩, hK, hb0⟩ := X
  subst e1
  refine va_newa (atype := .int) (ty := .int) (a0 := (N, .inl (fun _ => 0))) hx hb (hts _ harr) rfl hK.1 w.1.1 w.1.2 w.2 (fun q h => Nat.le_trans hb0 h) (fun cA => rfl) (nI_pos (by omega)) (nI_clamp (by omega)) (by show N * 4 ≤ 536870912; omega) hcells hslots hdg (fun q cA H1 h0 h1 h2 h3 => ?_)
  have e2 : cA = D.1 11 := Option.some.inj ((h0.2 5 (cA, .int) rfl).2.symm.trans (hK.1.2 0 (D.1 11, .int) rfl).2)
  subst e2
  have hq := hg_fresh h2
  rw [va_pl_push hq] at h1 h2
  exact kk q H1 hq ⟨⟨h1, h2⟩, h3⟩
theorem hg_newZ (X : hg_C p s m args c cc nL Ts own D b0) (w : hg_W D b0 L f s.heap H locs) {k : Int32} (N : Nat) (e1 : k = nI N) (hN : N < 1000) (harr : Cond.arrayClass .boolean ∈ Ts) (hcells : cells + 1 ≤ R.cells) (hslots : slots + N ≤ R.slots) (hdg : decode cc pc = .ok (.newarray .boolean, 2))
    (kk : ∀ (q : Nat) (H1 : Heap), q ∉ L → hg_W D b0 (L ++ [q]) (va_up f q (.inl (D.1 12, N, .inl (fun _ => 0)))) s.heap H1 locs → W p l e R s m args below meth c H1 locs (cells + 1) (slots + N) Q (F0 m (pc + 2) ls (.ref q :: rest))) : W p l e R s m args below meth c H locs cells slots Q (F0 m pc ls (.int k :: rest)) := by
  obtain ⟨⟨hx, hb, hml, hown, hts⟩, hK, hb0⟩ := X
  subst e1
  refine va_newa (atype := .boolean) (ty := .boolean) (a0 := (N, .inl (fun _ => 0))) hx hb (hts _ harr) rfl hK.1 w.1.1 w.1.2 w.2 (fun q h => Nat.le_trans hb0 h) (fun cA => rfl) (nI_pos (by omega)) (nI_clamp (by omega)) (by show N * 1 ≤ 536870912; omega) hcells hslots hdg (fun q cA H1 h0 h1 h2 h3 => ?_)
  have e2 : cA = D.1 12 := Option.some.inj ((h0.2 5 (cA, .boolean) rfl).2.symm.trans (hK.1.2 1 (D.1 12, .boolean) rfl).2)
  subst e2
  have hq := hg_fresh h2
  rw [va_pl_push hq] at h1 h2
  exact kk q H1 hq ⟨⟨h1, h2⟩, h3⟩
end HG
/-- the reference as it is made -/
def mo_M0 : Nat → Nat → Int32 := fun k j => if k = 3 then (if j < 8 then -1 else 0) else 0
def mo_sg (k : Nat) : Nat := if k = 0 then 1 else if k = 2 then 2 else if k = 3 then 3 else if k = 4 then 4 else if k = 5 then 5 else if k = 6 then 6 else if k = 8 then 7 else if k = 15 then 8 else 9
theorem mo_sg_i : ∀ k ∈ mo_ks, ∀ j ∈ mo_ks, mo_sg k = mo_sg j → k = j := by decide
theorem mo_sg_b : ∀ k ∈ mo_ks, 1 ≤ mo_sg k ∧ mo_sg k < 10 := by decide
theorem al_ndg {l : List Nat} (h : l.Nodup) {i j : Nat} (hi : i < l.length) (hj : j < l.length) (e : l.getD i 0 = l.getD j 0) : i = j := by
  rw [List.getD_eq_getElem?_getD, List.getD_eq_getElem?_getD, List.getElem?_eq_getElem hi, List.getElem?_eq_getElem hj] at e
  have e : l[i] = l[j] := by simpa using e
  have hp := List.pairwise_iff_getElem.mp h
  rcases Nat.lt_trichotomy i j with z | z | z
  · exact absurd e (hp i j hi hj z)
  · exact z
  · exact absurd e.symm (hp j i hj hi z)
theorem al_gm {a : Nat} {N L : List Nat} (ha : a ∈ L) {i : Nat} (hi : i < (a :: N).length) : (a :: N).getD i 0 ∈ L ++ N := by
  cases i with
  | zero => exact List.mem_append_left _ ha
  | succ i =>
    have hi' : i < N.length := by simpa using hi
    refine List.mem_append_right _ ?_
    show N.getD i 0 ∈ N
    rw [List.getD_eq_getElem?_getD, List.getElem?_eq_getElem hi']
    exact List.getElem_mem hi'
theorem mo_lane : va_up (va_up (va_up (va_up (va_up (va_up (va_up (va_up (fun _ => (0 : Int32)) 0 (-1)) 1 (-1)) 2 (-1)) 3 (-1)) 4 (-1)) 5 (-1)) 6 (-1)) 7 (-1) = mo_M0 3 := by
  funext j
  have e : mo_M0 3 j = if j < 8 then -1 else 0 := rfl
  rw [e]
  by_cases h : j < 8
  · rw [if_pos h]
    rcases (show j = 0 ∨ j = 1 ∨ j = 2 ∨ j = 3 ∨ j = 4 ∨ j = 5 ∨ j = 6 ∨ j = 7 by omega) with rfl | rfl | rfl | rfl | rfl | rfl | rfl | rfl <;> rfl
  · rw [if_neg h, va_up_ne _ _ (by omega), va_up_ne _ _ (by omega), va_up_ne _ _ (by omega), va_up_ne _ _ (by omega), va_up_ne _ _ (by omega), va_up_ne _ _ (by omega), va_up_ne _ _ (by omega), va_up_ne _ _ (by omega)]
theorem al_gm0 {a : Nat} {N : List Nat} {i : Nat} (hi : i < (a :: N).length) : (a :: N).getD i 0 ∈ a :: N := by
  rw [List.getD_eq_getElem?_getD, List.getElem?_eq_getElem hi]
  exact List.getElem_mem hi
theorem al_upK {f : Nat → va_E} {l : List (Nat × va_E)} {K : List Nat} (hn : K.Nodup) {k a : Nat} {x y : va_E} (hk : l[k]? = some (a, x)) (he : l.map Prod.fst = K) : va_up (al_F f l) a y = al_F f (l.set k (a, y)) := al_up (by rw [he]; exact hn) hk
theorem al_notinK {l : List (Nat × va_E)} {K : List Nat} {q : Nat} (he : l.map Prod.fst = K) (h : q ∉ K) : q ∉ l.map Prod.fst := by rw [he]; exact h
/-- the class as it is made -/
def ob_C0 : Nat → Nat → Int32 := fun k j => if k = 3 then (if j < 8 then -1 else 0) else 0
def ob_sg (k : Nat) : Nat := if k < 11 then k else if k < 19 then 14 + 2 * (k - 11) else 15 + 2 * (k - 19)
theorem ob_sg_b : ∀ k, k < 27 → ob_sg k < 30 ∧ ob_sg k ≠ 11 ∧ ob_sg k ≠ 12 ∧ ob_sg k ≠ 13 := by decide
theorem ob_sg_i : ∀ k, k < 27 → ∀ j, j < 27 → ob_sg k = ob_sg j → k = j := by decide
theorem al_it0 (r : Nat) : ob_it ob_C0 r = fun _ => 0 := by
  funext j
  unfold ob_it
  split
  · rfl
  · rfl
theorem al_rr0 {ad : Nat → Nat} : mk_rr ad 0 = fun _ => none := by
  funext j
  unfold mk_rr
  rw [if_neg (by omega)]
theorem al_rr (oa : Nat → Nat) : va_up (va_up (va_up (va_up (va_up (va_up (va_up (va_up (fun _ => none) 0 (some (oa 11))) 1 (some (oa 12))) 2 (some (oa 13))) 3 (some (oa 14))) 4 (some (oa 15))) 5 (some (oa 16))) 6 (some (oa 17))) 7 (some (oa 18)) = ob_rr oa := by
  funext j
  unfold ob_rr
  by_cases h : j < 8
  · rw [if_pos h]
    rcases (show j = 0 ∨ j = 1 ∨ j = 2 ∨ j = 3 ∨ j = 4 ∨ j = 5 ∨ j = 6 ∨ j = 7 by omega) with rfl | rfl | rfl | rfl | rfl | rfl | rfl | rfl <;> rfl
  · rw [if_neg h, va_up_ne _ _ (by omega), va_up_ne _ _ (by omega), va_up_ne _ _ (by omega), va_up_ne _ _ (by omega), va_up_ne _ _ (by omega), va_up_ne _ _ (by omega), va_up_ne _ _ (by omega), va_up_ne _ _ (by omega)]
theorem al_mk0 {a : Nat} {N L : List Nat} (ha : a ∈ L) (hn : (a :: N).Nodup) (hl : (a :: N).length = 30) : mk_ok (L ++ N) ((a :: N).getD 11 0) (fun j => (a :: N).getD (12 + j) 0) 0 := by
  refine ⟨al_gm ha (by omega), fun k hk => ⟨al_gm ha (by omega), fun z => ?_⟩, fun k hk j hj z => ?_⟩
  · have := al_ndg hn (i := 12 + k) (j := 11) (by omega) (by omega) z
    omega
  · have := al_ndg hn (i := 12 + k) (j := 12 + j) (by omega) (by omega) z
    omega
theorem al_ob0 {a : Nat} {N L : List Nat} (ha : a ∈ L) (hn : (a :: N).Nodup) (hl : (a :: N).length = 30) : ob_ok (L ++ N) (fun k => (a :: N).getD (ob_sg k) 0) ((a :: N).getD 11 0) (fun j => (a :: N).getD (12 + j) 0) 0 := by
  refine ⟨fun k hk => ⟨al_gm ha (by have := (ob_sg_b k hk).1; omega), fun z => ?_, fun j hj z => ?_⟩, fun k hk j hj z => ?_⟩
  · exact (ob_sg_b k hk).2.1 (al_ndg hn (by have := (ob_sg_b k hk).1; omega) (by omega) z)
  · have h1 := al_ndg hn (i := 12 + j) (by omega) (by have := (ob_sg_b k hk).1; omega) z
    have h2 := ob_sg_b k hk
    omega
  · exact ob_sg_i k hk j hj (al_ndg hn (by have := (ob_sg_b k hk).1; omega) (by have := (ob_sg_b j hj).1; omega) z)
