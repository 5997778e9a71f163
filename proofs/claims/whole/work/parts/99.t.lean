/-! BOTH OBJECTS MADE -/
theorem al_eq {f G : Nat → va_E} {li : List (Nat × va_E)} (hn : (li.map Prod.fst).Nodup) (h : ∀ (k a : Nat) (x : va_E), li[k]? = some (a, x) → G a = x) (h2 : ∀ a, a ∉ li.map Prod.fst → G a = f a) : al_F f li = G := by
  funext a
  by_cases hm : a ∈ li.map Prod.fst
  · obtain ⟨p, hp, e⟩ := List.mem_map.mp hm
    obtain ⟨j, hj⟩ := List.getElem?_of_mem hp
    obtain ⟨p1, p2⟩ := p
    have e : p1 = a := e
    subst e
    rw [al_at hn hj, h j p1 p2 hj]
  · rw [al_out hm, h2 a hm]
theorem mo_out {D : va_G} {f : Nat → va_E} {mo : Nat} {ma : Nat → Nat} {M : Nat → Nat → Int32} {a : Nat} (h1 : a ≠ mo) (h2 : ∀ k ∈ mo_ks, ma k ≠ a) : mo_F D f mo ma M a = f a := by
  unfold mo_F
  rw [if_neg h1]
  cases hq : mo_ks.find? (fun k => decide (ma k = a)) with
  | none => rfl
  | some j =>
    have h3 : ma j = a := by simpa using List.find?_some hq
    exact absurd h3 (h2 j (List.mem_of_find?_eq_some hq))
section HG
variable {p : Program} {l : Launch} {e : Env} {R : Room} {s : State} {m : MethodId} {args : Array Value} {below : List Frame} {meth : Method} {c : Code} {H : Heap} {locs : List Loc} {cells slots : Nat} {Q : State → Prop}
variable {cc : ByteArray} {nL : Nat} {Ts : List Cond} {own : String} {D : va_G} {b0 : Nat} {L : List Nat} {f : Nat → va_E} {pc : Nat} {ls : Array Slot} {rest st : List Value} {a : Nat}
theorem hg_newI2 (X : hg_C p s m args c cc nL Ts own D b0) (w : hg_W D b0 L f s.heap H locs) {k : Int32} (N : Nat) (e1 : k = nI N) (hN : N < 10000) (harr : Cond.arrayClass .int ∈ Ts) (hcells : cells + 1 ≤ R.cells) (hslots : slots + N ≤ R.slots) (hdg : decode cc pc = .ok (.newarray .int, 2))
    (kk : ∀ (q : Nat) (H1 : Heap), q ∉ L → hg_W D b0 (L ++ [q]) (va_up f q (.inl (D.1 11, N, .inl (fun _ => 0)))) s.heap H1 locs → W p l e R s m args below meth c H1 locs (cells + 1) (slots + N) Q (F0 m (pc + 2) ls (.ref q :: rest))) : W p l e R s m args below meth c H locs cells slots Q (F0 m pc ls (.int k :: rest)) := by
  obtain ⟨⟨hx, hb, hml, hown, hts⟩, hK, hb0⟩ := X
  subst e1
  refine va_newa (atype := .int) (ty := .int) (a0 := (N, .inl (fun _ => 0))) hx hb (hts _ harr) rfl hK.1 w.1.1 w.1.2 w.2 (fun q h => Nat.le_trans hb0 h) (fun cA => rfl) (nI_pos (by omega)) (nI_clamp (by omega)) (by show N * 4 ≤ 536870912; omega) hcells hslots hdg (fun q cA H1 h0 h1 h2 h3 => ?_)
  have e2 : cA = D.1 11 := Option.some.inj ((h0.2 5 (cA, .int) rfl).2.symm.trans (hK.1.2 0 (D.1 11, .int) rfl).2)
  subst e2
  have hq := hg_fresh h2
  rw [va_pl_push hq] at h1 h2
  exact kk q H1 hq ⟨⟨h1, h2⟩, h3⟩
theorem hg_newZ (X : hg_C p s m args c cc nL Ts own D b0) (w : hg_W D b0 L f s.heap H locs) {k : Int32} (N : Nat) (e1 : k = nI N) (hN : N < 1000) (harr : Cond.arrayClass .boolean ∈ Ts) (hcells : cells + 1 ≤ R.cells) (hslots : slots + N ≤ R.slots) (hdg : decode cc pc = .ok (.newarray .boolean, 2))
    (kk : ∀ (q : Nat) (H1 : Heap), q ∉ L → hg_W D b0 (L ++ [q]) (va_up f q (.inl (D.1 12, N, .inl (fun _ => 0)))) s.heap H1 locs → W p l e R s m args below meth c H1 locs (cells + 1) (slots + N) Q (F0 m (pc + 2) ls (.ref q :: rest))) : W p l e R s m args below meth c H locs cells slots Q (F0 m pc ls (.int k :: rest)) := by
  obtain ⟨⟨hx, hb, hml, hown, hts⟩, hK, hb0⟩ := X
  subst e1
  refine va_newa (atype := .boolean) (ty := .boolean) (a0 := (N, .inl (fun _ => 0))) hx hb (hts _ harr) rfl hK.1 w.1.1 w.1.2 w.2 (fun q h => Nat.le_trans hb0 h) (fun cA => rfl) (nI_pos (by omega)) (nI_clamp (by omega)) (by show N * 1 ≤ 536870912; omega) hcells hslots hdg (fun q cA H1 h0 h1 h2 h3 => ?_)
  have e2 : cA = D.1 12 := Option.some.inj ((h0.2 5 (cA, .boolean) rfl).2.symm.trans (hK.1.2 1 (D.1 12, .boolean) rfl).2)
  subst e2
  have hq := hg_fresh h2
  rw [va_pl_push hq] at h1 h2
  exact kk q H1 hq ⟨⟨h1, h2⟩, h3⟩
end HG
/-- the reference as it is made -/
def mo_M0 : Nat → Nat → Int32 := fun k j => if k = 3 then (if j < 8 then -1 else 0) else 0
def mo_sg (k : Nat) : Nat := if k = 0 then 1 else if k = 2 then 2 else if k = 3 then 3 else if k = 4 then 4 else if k = 5 then 5 else if k = 6 then 6 else if k = 8 then 7 else if k = 15 then 8 else 9
theorem mo_sg_i : ∀ k ∈ mo_ks, ∀ j ∈ mo_ks, mo_sg k = mo_sg j → k = j := by decide
theorem mo_sg_b : ∀ k ∈ mo_ks, 1 ≤ mo_sg k ∧ mo_sg k < 10 := by decide
theorem al_ndg {l : List Nat} (h : l.Nodup) {i j : Nat} (hi : i < l.length) (hj : j < l.length) (e : l.getD i 0 = l.getD j 0) : i = j := by
  rw [List.getD_eq_getElem?_getD, List.getD_eq_getElem?_getD, List.getElem?_eq_getElem hi, List.getElem?_eq_getElem hj] at e
  have e : l[i] = l[j] := by simpa using e
  have hp := List.pairwise_iff_getElem.mp h
  rcases Nat.lt_trichotomy i j with z | z | z
  · exact absurd e (hp i j hi hj z)
  · exact z
  · exact absurd e.symm (hp j i hj hi z)
theorem al_gm {a : Nat} {N L : List Nat} (ha : a ∈ L) {i : Nat} (hi : i < (a :: N).length) : (a :: N).getD i 0 ∈ L ++ N := by
  cases i with
  | zero => exact List.mem_append_left _ ha
  | succ i =>
    have hi' : i < N.length := by simpa using hi
    refine List.mem_append_right _ ?_
    show N.getD i 0 ∈ N
    rw [List.getD_eq_getElem?_getD, List.getElem?_eq_getElem hi']
    exact List.getElem_mem hi'
theorem mo_lane : va_up (va_up (va_up (va_up (va_up (va_up (va_up (va_up (fun _ => (0 : Int32)) 0 (-1)) 1 (-1)) 2 (-1)) 3 (-1)) 4 (-1)) 5 (-1)) 6 (-1)) 7 (-1) = mo_M0 3 := by
  funext j
  have e : mo_M0 3 j = if j < 8 then -1 else 0 := rfl
  rw [e]
  by_cases h : j < 8
  · rw [if_pos h]
    rcases (show j = 0 ∨ j = 1 ∨ j = 2 ∨ j = 3 ∨ j = 4 ∨ j = 5 ∨ j = 6 ∨ j = 7 by omega) with rfl | rfl | rfl | rfl | rfl | rfl | rfl | rfl <;> rfl
  · rw [if_neg h, va_up_ne _ _ (by omega), va_up_ne _ _ (by omega), va_up_ne _ _ (by omega), va_up_ne _ _ (by omega), va_up_ne _ _ (by omega), va_up_ne _ _ (by omega), va_up_ne _ _ (by omega), va_up_ne _ _ (by omega)]
theorem al_gm0 {a : Nat} {N : List Nat} {i : Nat} (hi : i < (a :: N).length) : (a :: N).getD i 0 ∈ a :: N := by
  rw [List.getD_eq_getElem?_getD, List.getElem?_eq_getElem hi]
  exact List.getElem_mem hi
theorem al_upK {f : Nat → va_E} {l : List (Nat × va_E)} {K : List Nat} (hn : K.Nodup) {k a : Nat} {x y : va_E} (hk : l[k]? = some (a, x)) (he : l.map Prod.fst = K) : va_up (al_F f l) a y = al_F f (l.set k (a, y)) := al_up (by rw [he]; exact hn) hk
theorem al_notinK {l : List (Nat × va_E)} {K : List Nat} {q : Nat} (he : l.map Prod.fst = K) (h : q ∉ K) : q ∉ l.map Prod.fst := by rw [he]; exact h
/-- the class as it is made -/
def ob_C0 : Nat → Nat → Int32 := fun k j => if k = 3 then (if j < 8 then -1 else 0) else 0
def ob_sg (k : Nat) : Nat := if k < 11 then k else if k < 19 then 14 + 2 * (k - 11) else 15 + 2 * (k - 19)
theorem ob_sg_b : ∀ k, k < 27 → ob_sg k < 30 ∧ ob_sg k ≠ 11 ∧ ob_sg k ≠ 12 ∧ ob_sg k ≠ 13 := by decide
theorem ob_sg_i : ∀ k, k < 27 → ∀ j, j < 27 → ob_sg k = ob_sg j → k = j := by decide
theorem al_it0 (r : Nat) : ob_it ob_C0 r = fun _ => 0 := by
  funext j
  unfold ob_it
  split
  · rfl
  · rfl
theorem al_rr0 {ad : Nat → Nat} : mk_rr ad 0 = fun _ => none := by
  funext j
  unfold mk_rr
  rw [if_neg (by omega)]
theorem al_rr (oa : Nat → Nat) : va_up (va_up (va_up (va_up (va_up (va_up (va_up (va_up (fun _ => none) 0 (some (oa 11))) 1 (some (oa 12))) 2 (some (oa 13))) 3 (some (oa 14))) 4 (some (oa 15))) 5 (some (oa 16))) 6 (some (oa 17))) 7 (some (oa 18)) = ob_rr oa := by
  funext j
  unfold ob_rr
  by_cases h : j < 8
  · rw [if_pos h]
    rcases (show j = 0 ∨ j = 1 ∨ j = 2 ∨ j = 3 ∨ j = 4 ∨ j = 5 ∨ j = 6 ∨ j = 7 by omega) with rfl | rfl | rfl | rfl | rfl | rfl | rfl | rfl <;> rfl
  · rw [if_neg h, va_up_ne _ _ (by omega), va_up_ne _ _ (by omega), va_up_ne _ _ (by omega), va_up_ne _ _ (by omega), va_up_ne _ _ (by omega), va_up_ne _ _ (by omega), va_up_ne _ _ (by omega), va_up_ne _ _ (by omega)]
theorem al_mk0 {a : Nat} {N L : List Nat} (ha : a ∈ L) (hn : (a :: N).Nodup) (hl : (a :: N).length = 30) : mk_ok (L ++ N) ((a :: N).getD 11 0) (fun j => (a :: N).getD (12 + j) 0) 0 := by
  refine ⟨al_gm ha (by omega), fun k hk => ⟨al_gm ha (by omega), fun z => ?_⟩, fun k hk j hj z => ?_⟩
  · have := al_ndg hn (i := 12 + k) (j := 11) (by omega) (by omega) z
    omega
  · have := al_ndg hn (i := 12 + k) (j := 12 + j) (by omega) (by omega) z
    omega
theorem al_ob0 {a : Nat} {N L : List Nat} (ha : a ∈ L) (hn : (a :: N).Nodup) (hl : (a :: N).length = 30) : ob_ok (L ++ N) (fun k => (a :: N).getD (ob_sg k) 0) ((a :: N).getD 11 0) (fun j => (a :: N).getD (12 + j) 0) 0 := by
  refine ⟨fun k hk => ⟨al_gm ha (by have := (ob_sg_b k hk).1; omega), fun z => ?_, fun j hj z => ?_⟩, fun k hk j hj z => ?_⟩
  · exact (ob_sg_b k hk).2.1 (al_ndg hn (by have := (ob_sg_b k hk).1; omega) (by omega) z)
  · have h1 := al_ndg hn (i := 12 + j) (by omega) (by have := (ob_sg_b k hk).1; omega) z
    have h2 := ob_sg_b k hk
    omega
  · exact ob_sg_i k hk j hj (al_ndg hn (by have := (ob_sg_b k hk).1; omega) (by have := (ob_sg_b j hj).1; omega) z)
/-! IN WHAT ORDER WARES ARE TAKEN OFF: the reference's way -/
def lw_had (g : Nat → Int32) : Nat → Int32
  | 0 => 0
  | k + 1 => lw_had g k ||| (g (44 + k) <<< (nI k &&& 31))
def lw_hN (g : Nat → Int32) : Nat → Nat
  | 0 => 0
  | k + 1 => if g (44 + k) = 0 then lw_hN g k else lw_hN g k + 2 ^ k
theorem lw_sh0 : ∀ k, k < 6 → (0 : Int32) <<< (nI k &&& 31) = 0 := by decide +kernel
theorem lw_had_n {g : Nat → Int32} {n : Nat} (ho : ∀ i, i < n → g (44 + i) = 0 ∨ g (44 + i) = 1) : ∀ k, k ≤ n → k ≤ 6 → lw_had g k = nI (lw_hN g k) ∧ lw_hN g k < 2 ^ k := by
  intro k
  induction k with
  | zero => intro _ _; exact ⟨rfl, Nat.one_pos⟩
  | succ k ih =>
    intro h1 h6
    obtain ⟨a, b⟩ := ih (by omega) (by omega)
    rw [lw_had, lw_hN, a]
    rcases ho k (by omega) with z | z
    · rw [z, if_pos rfl, lw_sh0 k (by omega), hs_or0]
      exact ⟨rfl, by rw [Nat.pow_succ]; omega⟩
    · rw [z, if_neg (by decide)]
      exact hs_bits k (by omega) _ b
theorem lw_hN_bit {g : Nat → Int32} {n : Nat} (ho : ∀ i, i < n → g (44 + i) = 0 ∨ g (44 + i) = 1) : ∀ k, k ≤ n → k ≤ 6 → ∀ i, i < 6 → ((lw_hN g k).testBit i = true ↔ (i < k ∧ g (44 + i) = 1)) := by
  intro k
  induction k with
  | zero => intro _ _ i _; simp [lw_hN]
  | succ k ih =>
    intro h1 h6 i hi
    have hb := (lw_had_n ho k (by omega) (by omega)).2
    have h3 := ih (by omega) (by omega) i hi
    rw [lw_hN]
    rcases ho k (by omega) with z | z
    · rw [if_pos z, h3]
      constructor
      · intro q; exact ⟨by omega, q.2⟩
      · intro q
        by_cases e : i = k
        · subst e; rw [z] at q; exact absurd q.2 (by decide)
        · exact ⟨by omega, q.2⟩
    · rw [if_neg (by rw [z]; decide), mk_bit1 k (by omega) _ hb i hi, h3]
      constructor
      · rintro (q | q)
        · subst q; exact ⟨by omega, z⟩
        · exact ⟨by omega, q.2⟩
      · intro q
        by_cases e : i = k
        · exact Or.inl e
        · exact Or.inr ⟨by omega, q.2⟩
theorem lw_all : ∀ n, n < 7 → ((1 : Int32) <<< (nI n &&& 31)) - 1 = nI (2 ^ n - 1) := by decide +kernel
/-- the wares off as the bits of a set say, of the first k -/
def lw_off (g : Nat → Int32) (set : Int32) (k : Nat) : Nat → Int32 := fun j => if 44 ≤ j ∧ j < 44 + k then (set >>> (nI (j - 44) &&& 31)) &&& 1 else g j
theorem lw_off_0 (g : Nat → Int32) (set : Int32) : lw_off g set 0 = g := by
  funext j
  unfold lw_off
  rw [if_neg (by omega)]
theorem lw_off_s (g : Nat → Int32) (set : Int32) (k : Nat) : va_up (lw_off g set k) (44 + k) ((set >>> (nI k &&& 31)) &&& 1) = lw_off g set (k + 1) := by
  funext j
  unfold lw_off
  by_cases h : j = 44 + k
  · rw [h, va_up_self, if_pos (by omega), show 44 + k - 44 = k by omega]
  · rw [va_up_ne _ _ h]
    by_cases h2 : 44 ≤ j ∧ j < 44 + k
    · rw [if_pos h2, if_pos (by omega)]
    · rw [if_neg h2, if_neg (by omega)]
def lw_ag (g G : Nat → Int32) (n : Nat) : Prop := ∀ j, ¬ (44 ≤ j ∧ j < 44 + n) → G j = g j
theorem lw_ag_r (g : Nat → Int32) (n : Nat) : lw_ag g g n := fun _ _ => rfl
theorem lw_ag_off {g G : Nat → Int32} {n k : Nat} (h : lw_ag g G n) (hk : k ≤ n) (set : Int32) : lw_ag g (lw_off G set k) n := by
  intro j hj
  unfold lw_off
  rw [if_neg (by omega)]
  exact h j hj
theorem lw_off_c {g G : Nat → Int32} {n : Nat} (h : lw_ag g G n) (set : Int32) : lw_off G set n = lw_off g set n := by
  funext j
  unfold lw_off
  by_cases c : 44 ≤ j ∧ j < 44 + n
  · rw [if_pos c, if_pos c]
  · rw [if_neg c, if_neg c]; exact h j c
theorem lw_ok_c {g G : Nat → Int32} {n nr : Nat} (h : lw_ag g G n) (hv : hs_ok g n nr) : hs_ok G n nr := by
  obtain ⟨h1, h2, h3, h4, h5⟩ := hv
  refine ⟨by rw [h 3 (by omega)]; exact h1, h2, by rw [h 2 (by omega)]; exact h3, h4, fun r hr => ?_⟩
  rw [h (5 + r) (by omega)]
  exact h5 r hr
/-- bits of a number below 64 -/
theorem lw_bit : ∀ d, d < 64 → ∀ i, i < 6 → ((nI d >>> (nI i &&& 31)) &&& 1 = if d.testBit i = true then 1 else 0) := by decide +kernel
theorem lw_hasN : ∀ d, d < 64 → ∀ i, i < 6 → (hs_has (nI d) (nI i) = if d.testBit i = true then 1 else 0) := by decide +kernel
theorem lw_or : ∀ d, d < 64 → ∀ i, i < 6 → (nI d ||| ((1 : Int32) <<< (nI i &&& 31))) = nI (d ||| 2 ^ i) ∧ d ||| 2 ^ i < 64 ∧ d ≤ d ||| 2 ^ i ∧ (d.testBit i = false → d < d ||| 2 ^ i) := by decide +kernel
def lw_sum (o : Nat → Int32) (q : Nat) : Nat → Int32
  | 0 => 0
  | k + 1 => lw_sum o q k + (if q.testBit k = true then 0 else o (q ||| 2 ^ k))
def lw_val (g : Nat → Int32) (n hd : Nat) (o : Nat → Int32) (q : Nat) : Int32 := if (nI q &&& nI hd) = nI hd then (if hs_drop (lw_off g (nI q) n) n n = 0 then (if q = 2 ^ n - 1 then 1 else lw_sum o q n) else 0) else 0
def lw_fill (g : Nat → Int32) (n hd : Nat) : (Nat → Int32) → Nat → (Nat → Int32)
  | o, 0 => o
  | o, q + 1 => lw_fill g n hd (va_up o q (lw_val g n hd o q)) q
def lw_M (M : Nat → Nat → Int32) (G o : Nat → Int32) : Nat → Nat → Int32 := va_up (va_up M 0 G) 15 o
theorem lw_M_0 (M : Nat → Nat → Int32) (G o : Nat → Int32) : lw_M M G o 0 = G := rfl
theorem lw_M_15 (M : Nat → Nat → Int32) (G o : Nat → Int32) : lw_M M G o 15 = o := rfl
theorem lw_M_r (M : Nat → Nat → Int32) : lw_M M (M 0) (M 15) = M := by
  unfold lw_M
  rw [hs_up_id]
  exact hs_up_id M 15
theorem lw_w15 (M : Nat → Nat → Int32) (G o : Nat → Int32) (j : Nat) (v : Int32) : mo_w (lw_M M G o) 15 j v = lw_M M G (va_up o j v) := by
  unfold lw_M
  exact hs_up_up _ _ _ _ _
theorem lw_w0 (M : Nat → Nat → Int32) (G o : Nat → Int32) (j : Nat) (v : Int32) : mo_w (lw_M M G o) 0 j v = lw_M M (va_up G j v) o := by
  funext k
  simp only [mo_w, lw_M]
  by_cases h0 : k = 0
  · subst h0
    rw [va_up_self, va_up_ne _ _ (by decide), va_up_ne _ _ (by decide), va_up_self, va_up_self]
  · rw [va_up_ne _ _ h0]
    by_cases h15 : k = 15
    · subst h15
      rw [va_up_self, va_up_self]
    · rw [va_up_ne _ _ h15, va_up_ne _ _ h15, va_up_ne _ _ h0, va_up_ne _ _ h0]
/-- what was off is off again -/
theorem lw_back {g G : Nat → Int32} {n : Nat} (hn : n ≤ 6) (h : lw_ag g G n) (ho : ∀ i, i < n → g (44 + i) = 0 ∨ g (44 + i) = 1) : lw_off G (nI (lw_hN g n)) n = g := by
  have h64 : lw_hN g n < 64 := Nat.lt_of_lt_of_le (lw_had_n ho n (Nat.le_refl n) hn).2 (Nat.le_trans (Nat.pow_le_pow_right (by decide) hn) (by decide))
  funext j
  unfold lw_off
  by_cases c : 44 ≤ j ∧ j < 44 + n
  · rw [if_pos c, lw_bit _ h64 (j - 44) (by omega)]
    have hb := lw_hN_bit ho n (Nat.le_refl n) hn (j - 44) (by omega)
    have e : 44 + (j - 44) = j := by omega
    rw [e] at hb
    have hj := ho (j - 44) (by omega)
    rw [e] at hj
    rcases hj with z | z
    · rw [if_neg (fun q => by have := (hb.mp q).2; rw [z] at this; exact absurd this (by decide)), z]
    · rw [if_pos (hb.mpr ⟨by omega, z⟩), z]
  · rw [if_neg c]; exact h j c
def sp_lay (M : Nat → Nat → Int32) (n : Nat) : Nat → Nat → Int32 := mo_w (va_up M 15 (lw_fill (M 0) n (lw_hN (M 0) n) (M 15) (2 ^ n))) 16 0 (nI (lw_hN (M 0) n))
/-- who comes next: the first that leaves a way -/
def lw_nx (o : Nat → Int32) (set : Nat) : Int32 → Nat → Int32
  | best, 0 => best
  | best, q + 1 => lw_nx o set (if set.testBit q = false ∧ 0 < o (set ||| 2 ^ q) then nI q else best) q
def lw_go (o : Nat → Int32) (n : Nat) : Nat → Nat → Int32
  | 0, set => if lw_nx o set (-1) n < 0 then hs_NONE else lw_nx o set (-1) n
  | k + 1, set => if lw_nx o set (-1) n < 0 then hs_NONE else lw_go o n k (set ||| 2 ^ (lw_nx o set (-1) n).toNatClampNeg)
def sp_unl (M : Nat → Nat → Int32) (n : Nat) (k : Int32) : sp_S :=
  if M 0 4 = 0 then (hs_STATE, M) else if hs_in k (-1) 5 = 0 then (hs_BAD, M) else
    (if k < 0 then lw_fill (M 0) n (lw_hN (M 0) n) (M 15) (2 ^ n) (lw_hN (M 0) n) else if lw_fill (M 0) n (lw_hN (M 0) n) (M 15) (2 ^ n) (lw_hN (M 0) n) = 0 then hs_NONE else lw_go (lw_fill (M 0) n (lw_hN (M 0) n) (M 15) (2 ^ n)) n k.toNatClampNeg (lw_hN (M 0) n), sp_lay M n)
theorem lw_nx_b (o : Nat → Int32) (set : Nat) : ∀ q best, lw_nx o set best q = best ∨ ∃ b, b < q ∧ lw_nx o set best q = nI b := by
  intro q
  induction q with
  | zero => intro best; exact Or.inl rfl
  | succ q ih =>
    intro best
    rw [lw_nx]
    rcases ih (if set.testBit q = false ∧ 0 < o (set ||| 2 ^ q) then nI q else best) with h | ⟨b, h1, h2⟩
    · rw [h]
      split
      · exact Or.inr ⟨q, by omega, rfl⟩
      · exact Or.inl rfl
    · exact Or.inr ⟨b, by omega, h2⟩
theorem lw_nx_p {o : Nat → Int32} {set n : Nat} (h : ¬ lw_nx o set (-1) n < 0) : ∃ b, b < n ∧ lw_nx o set (-1) n = nI b := by
  rcases lw_nx_b o set n (-1) with z | z
  · rw [z] at h; exact absurd (by decide) h
  · exact z
theorem lw_go_n {o : Nat → Int32} {n set k : Nat} (h : lw_nx o set (-1) n < 0) : hs_NONE = lw_go o n k set := by
  cases k with
  | zero => rw [lw_go, if_pos h]
  | succ k => rw [lw_go, if_pos h]
theorem lw_go_0 {o : Nat → Int32} {n set : Nat} (h : ¬ lw_nx o set (-1) n < 0) : lw_nx o set (-1) n = lw_go o n 0 set := by rw [lw_go, if_neg h]
theorem lw_go_s {o : Nat → Int32} {n set k b : Nat} (hb : b < 2147483648) (h : ¬ lw_nx o set (-1) n < 0) (e : lw_nx o set (-1) n = nI b) : lw_go o n (k + 1) set = lw_go o n k (set ||| 2 ^ b) := by
  rw [lw_go, if_neg h, e, nI_clamp (by omega)]
theorem lw_inm {k : Int32} (h : ¬ hs_in k (-1) 5 = 0) (h0 : ¬ k < 0) : ∃ j : Nat, j ≤ 5 ∧ k = nI j := by
  have h1 := hs_in_1 h
  exact hs_ix (n := 5) (by decide) ⟨Int32.not_lt.mp h0, h1.2⟩
/-! IN WHAT ORDER WARES ARE TAKEN OFF, both ways: a row of counts laid from its end down -/
def ag_fl (V : (Nat → Int32) → Nat → Int32) : (Nat → Int32) → Nat → (Nat → Int32)
  | o, 0 => o
  | o, q + 1 => ag_fl V (va_up o q (V o q)) q
theorem ag_fl_ok {V : (Nat → Int32) → Nat → Int32} (hV : ∀ o o' q, q < 64 → (∀ j, q < j → j < 64 → o j = o' j) → V o q = V o' q) : ∀ Q, Q ≤ 64 → ∀ o, (∀ j, Q ≤ j → ag_fl V o Q j = o j) ∧ ∀ j, j < Q → ag_fl V o Q j = V (ag_fl V o Q) j := by
  intro Q
  induction Q with
  | zero => intro _ o; exact ⟨fun _ _ => rfl, fun j hj => absurd hj (by omega)⟩
  | succ Q ih =>
    intro hQ o
    obtain ⟨h1, h2⟩ := ih (by omega) (va_up o Q (V o Q))
    have e : ag_fl V o (Q + 1) = ag_fl V (va_up o Q (V o Q)) Q := rfl
    rw [e]
    refine ⟨fun j hj => ?_, fun j hj => ?_⟩
    · rw [h1 j (by omega), va_up_ne _ _ (by omega)]
    · by_cases c : j = Q
      · subst c
        rw [h1 j (Nat.le_refl _), va_up_self]
        refine hV _ _ j (by omega) (fun i hi hi6 => ?_)
        rw [h1 i (by omega), va_up_ne _ _ (by omega)]
      · exact h2 j (by omega)
theorem ag_fl_c (g : Nat → Int32) (n : Nat) (to : Int32) : ∀ Q o, mk_cod g n to o Q = ag_fl (fun o q => mk_ov g n to o (nI q)) o Q := by
  intro Q
  induction Q with
  | zero => intro o; rfl
  | succ Q ih => intro o; rw [mk_cod, ih]; rfl
theorem ag_fl_m (g : Nat → Int32) (n hd : Nat) : ∀ Q o, lw_fill g n hd o Q = ag_fl (lw_val g n hd) o Q := by
  intro Q
  induction Q with
  | zero => intro o; rfl
  | succ Q ih => intro o; rw [lw_fill, ih]; rfl
theorem ag_b1 : ∀ a, a < 64 → ∀ b, b < 64 → ∀ i, i < 6 → (((nI a &&& (nI b ^^^ (-1 : Int32))) &&& ((1 : Int32) <<< (nI i &&& 31))) = 0 ↔ ¬ (a.testBit i = true ∧ b.testBit i = false)) := by decide +kernel
theorem ag_b2 : ∀ a, a < 64 → ∀ b, b < 64 → ((nI a &&& (nI b ^^^ (-1 : Int32))) = 0 ↔ ∀ i, i < 6 → a.testBit i = true → b.testBit i = true) := by decide +kernel
theorem ag_b3 : ∀ a, a < 64 → ∀ b, b < 64 → (nI (b ||| a) &&& nI b) = nI b := by decide +kernel
theorem ag_from {o : Nat → Int32} {tN q i : Nat} (ht : tN < 64) (hq : q < 64) (hi : i < 6) : mk_from o (nI tN) (nI q) (nI i) = if tN.testBit i = true ∧ q.testBit i = false then o (q ||| 2 ^ i) else 0 := by
  obtain ⟨e1, e2, -⟩ := lw_or q hq i hi
  have hb := ag_b1 tN ht q hq i hi
  unfold mk_from
  rw [e1, nI_clamp (by omega)]
  by_cases c : tN.testBit i = true ∧ q.testBit i = false
  · rw [if_pos c, if_neg]
    rintro (z | z | z)
    · exact hb.mp z c
    · exact nI_pos (n := q ||| 2 ^ i) (by omega) z
    · exact nI_ge (a := q ||| 2 ^ i) (b := 64) (by omega) (by omega) z
  · rw [if_neg c, if_pos (Or.inl (hb.mpr c))]
theorem ag_sumF_c {o o' : Nat → Int32} {tN q : Nat} (ht : tN < 64) (hq : q < 64) (h : ∀ j, q < j → j < 64 → o j = o' j) : ∀ k, k ≤ 6 → mk_sumF o (nI tN) (nI q) k = mk_sumF o' (nI tN) (nI q) k := by
  intro k
  induction k with
  | zero => intro _; rfl
  | succ k ih =>
    intro hk
    rw [mk_sumF, mk_sumF, ih (by omega), ag_from ht hq (by omega), ag_from ht hq (by omega)]
    by_cases c : tN.testBit k = true ∧ q.testBit k = false
    · obtain ⟨-, e2, -, e4⟩ := lw_or q hq k (by omega)
      rw [if_pos c, if_pos c, h _ (e4 c.2) e2]
    · rw [if_neg c, if_neg c]
theorem ag_dep_c (g : Nat → Int32) (n tN : Nat) (ht : tN < 64) : ∀ o o' q, q < 64 → (∀ j, q < j → j < 64 → o j = o' j) → mk_ov g n (nI tN) o (nI q) = mk_ov g n (nI tN) o' (nI q) := by
  intro o o' q hq h
  unfold mk_ov mk_beh
  rw [ag_sumF_c ht hq h 6 (Nat.le_refl _)]
theorem ag_dep_m (g : Nat → Int32) (n hd : Nat) (hn : n ≤ 6) : ∀ o o' q, q < 64 → (∀ j, q < j → j < 64 → o j = o' j) → lw_val g n hd o q = lw_val g n hd o' q := by
  intro o o' q hq h
  have hs : ∀ k, k ≤ 6 → lw_sum o q k = lw_sum o' q k := by
    intro k
    induction k with
    | zero => intro _; rfl
    | succ k ih =>
      intro hk
      rw [lw_sum, lw_sum, ih (by omega)]
      cases hb : q.testBit k with
      | true => rw [if_pos rfl, if_pos rfl]
      | false =>
        obtain ⟨-, e2, -, e4⟩ := lw_or q hq k (by omega)
        rw [if_neg (by decide), if_neg (by decide), h _ (e4 hb) e2]
  unfold lw_val
  rw [hs n hn]
/-- T: so many taken off by then, out of those that may be -/
def ag_sub_ (T tN : Nat) : Prop := ∀ i, i < 6 → T.testBit i = true → tN.testBit i = true
theorem ag_bits6 {a b : Nat} (ha : a < 64) (hb : b < 64) (h : ∀ i, i < 6 → a.testBit i = b.testBit i) : a = b := by
  apply Nat.eq_of_testBit_eq
  intro i
  by_cases c : i < 6
  · exact h i c
  · rw [Nat.testBit_lt_two_pow (Nat.lt_of_lt_of_le ha (Nat.le_trans (by decide) (Nat.pow_le_pow_right (by decide) (show 6 ≤ i by omega)))), Nat.testBit_lt_two_pow (Nat.lt_of_lt_of_le hb (Nat.le_trans (by decide) (Nat.pow_le_pow_right (by decide) (show 6 ≤ i by omega))))]
theorem ag_ones : ∀ n, n < 7 → ∀ i, i < 6 → (2 ^ n - 1).testBit i = decide (i < n) := by decide +kernel
section AGU
variable {g : Nat → Int32} {n nr tN hd : Nat}
/-- both sides' sets: what may be taken off, what was off -/
def ag_TH (g : Nat → Int32) (n tN hd : Nat) : Prop := n ≤ 6 ∧ tN < 2 ^ n ∧ hd < 2 ^ n ∧ (∀ i, i < 6 → (tN.testBit i = true ↔ (i < n ∧ g (44 + i) = 0))) ∧ (∀ i, i < 6 → (hd.testBit i = true ↔ (i < n ∧ g (44 + i) = 1))) ∧ ∀ i, i < n → g (44 + i) = 0 ∨ g (44 + i) = 1
theorem ag_TH_ok (hs : mk_sr g n) : ag_TH g n (mk_toN g n) (lw_hN g n) :=
  ⟨hs.2.1, (mk_to_n g n hs.2.1).2, (lw_had_n hs.2.2.2 n (Nat.le_refl n) hs.2.1).2, fun i hi => mk_toN_bit g n hs.2.1 i hi, fun i hi => lw_hN_bit hs.2.2.2 n (Nat.le_refl n) hs.2.1 i hi, hs.2.2.2⟩
theorem ag_p64 (hn : n ≤ 6) : 2 ^ n ≤ 64 := Nat.le_trans (Nat.pow_le_pow_right (by decide) hn) (by decide)
theorem ag_S (h : ag_TH g n tN hd) {T : Nat} (hT : T < 64) (hs : ag_sub_ T tN) : (hd ||| T) < 2 ^ n ∧ ∀ i, i < 6 → ((hd ||| T).testBit i = true ↔ (hd.testBit i = true ∨ T.testBit i = true)) := by
  obtain ⟨hn, h1, h2, h3, h4, h5⟩ := h
  have hp := ag_p64 hn
  have hT2 : T < 2 ^ n := by
    refine Nat.lt_pow_two_of_testBit T (fun i hi => ?_)
    by_cases c : i < 6
    · cases hb : T.testBit i with
      | false => rfl
      | true =>
        have := ((h3 i c).mp (hs i c hb)).1
        omega
    · exact Nat.testBit_lt_two_pow (Nat.lt_of_lt_of_le hT (Nat.le_trans (by decide) (Nat.pow_le_pow_right (by decide) (show 6 ≤ i by omega))))
  refine ⟨Nat.or_lt_two_pow h2 hT2, fun i hi => ?_⟩
  rw [Nat.testBit_or, Bool.or_eq_true]
/-- the markets looked at are one -/
theorem ag_mkt (h : ag_TH g n tN hd) {T : Nat} (hT : T < 64) (hs : ag_sub_ T tN) : mk_tk g (nI tN) (nI T) n = lw_off g (nI (hd ||| T)) n := by
  obtain ⟨hS, hSb⟩ := ag_S h hT hs
  obtain ⟨hn, h1, h2, h3, h4, h5⟩ := h
  have hp := ag_p64 hn
  funext j
  rw [mk_tk_at]
  unfold lw_off
  by_cases c : 44 ≤ j ∧ j < 44 + n
  · have hi : j - 44 < 6 := by omega
    have ej : 44 + (j - 44) = j := by omega
    have k3 := h3 (j - 44) hi
    have k4 := h4 (j - 44) hi
    have k5 := h5 (j - 44) (by omega)
    rw [ej] at k3 k4 k5
    rw [if_pos c, lw_bit _ (by omega) (j - 44) hi]
    by_cases ct : tN.testBit (j - 44) = true
    · have g0 := (k3.mp ct).2
      have hdn : ¬ hd.testBit (j - 44) = true := fun z => by have := (k4.mp z).2; rw [g0] at this; exact absurd this (by decide)
      rw [if_pos ⟨c.1, c.2, (mk_bitN tN (by omega) (j - 44) hi).mpr ct⟩]
      by_cases cT : T.testBit (j - 44) = true
      · rw [if_pos ((mk_bitN T hT (j - 44) hi).mpr cT), if_pos ((hSb _ hi).mpr (Or.inr cT))]
      · rw [if_neg (fun z => cT ((mk_bitN T hT (j - 44) hi).mp z)), if_neg (fun z => ((hSb _ hi).mp z).elim hdn cT)]
    · rw [if_neg (fun z => ct ((mk_bitN tN (by omega) (j - 44) hi).mp z.2.2))]
      have g1 : g j = 1 := k5.resolve_left (fun z => ct (k3.mpr ⟨by omega, z⟩))
      rw [if_pos ((hSb _ hi).mpr (Or.inl (k4.mpr ⟨by omega, g1⟩))), g1]
  · rw [if_neg c, if_neg (fun z => c ⟨z.1, z.2.1⟩)]
theorem ag_full (h : ag_TH g n tN hd) {T : Nat} (hT : T < 64) (hs : ag_sub_ T tN) : nI T = nI tN ↔ (hd ||| T) = 2 ^ n - 1 := by
  obtain ⟨hS, hSb⟩ := ag_S h hT hs
  obtain ⟨hn, h1, h2, h3, h4, h5⟩ := h
  have hp := ag_p64 hn
  rw [nI_eq (by omega) (by omega)]
  constructor
  · intro e
    subst e
    refine ag_bits6 (by omega) (by omega) (fun i hi => ?_)
    rw [ag_ones n (by omega) i hi]
    by_cases c : i < n
    · rw [decide_eq_true c]
      refine (hSb i hi).mpr ?_
      rcases h5 i c with z | z
      · exact Or.inr ((h3 i hi).mpr ⟨c, z⟩)
      · exact Or.inl ((h4 i hi).mpr ⟨c, z⟩)
    · rw [decide_eq_false c]
      cases hb : (hd ||| T).testBit i with
      | false => rfl
      | true =>
        rcases (hSb i hi).mp hb with z | z
        · exact absurd ((h4 i hi).mp z).1 c
        · exact absurd ((h3 i hi).mp z).1 c
  · intro e
    refine ag_bits6 hT (by omega) (fun i hi => ?_)
    cases hb : tN.testBit i with
    | false =>
      cases ht : T.testBit i with
      | false => rfl
      | true => have := hs i hi ht; rw [hb] at this; exact absurd this (by decide)
    | true =>
      have k := (h3 i hi).mp hb
      have h1' : (hd ||| T).testBit i = true := by rw [e, ag_ones n (by omega) i hi]; exact decide_eq_true k.1
      rcases (hSb i hi).mp h1' with z | z
      · have := ((h4 i hi).mp z).2
        rw [k.2] at this
        exact absurd this (by decide)
      · exact z
/-- i may come next on either side -/
theorem ag_next (h : ag_TH g n tN hd) {T i : Nat} (hT : T < 64) (hs : ag_sub_ T tN) (hi : i < n) : (tN.testBit i = true ∧ T.testBit i = false) ↔ (hd ||| T).testBit i = false := by
  obtain ⟨hS, hSb⟩ := ag_S h hT hs
  obtain ⟨hn, h1, h2, h3, h4, h5⟩ := h
  have hi6 : i < 6 := by omega
  constructor
  · rintro ⟨a, b⟩
    cases hb : (hd ||| T).testBit i with
    | false => rfl
    | true =>
      rcases (hSb i hi6).mp hb with z | z
      · have e1 := ((h3 i hi6).mp a).2
        have e2 := ((h4 i hi6).mp z).2
        rw [e1] at e2
        exact absurd e2 (by decide)
      · rw [b] at z; exact absurd z (by decide)
  · intro hb
    have n1 : ¬ hd.testBit i = true := fun z => by have := (hSb i hi6).mpr (Or.inl z); rw [hb] at this; exact absurd this (by decide)
    have n2 : ¬ T.testBit i = true := fun z => by have := (hSb i hi6).mpr (Or.inr z); rw [hb] at this; exact absurd this (by decide)
    refine ⟨?_, by cases ht : T.testBit i with
      | false => rfl
      | true => exact absurd ht n2⟩
    rcases h5 i hi with z | z
    · exact (h3 i hi6).mpr ⟨hi, z⟩
    · exact absurd ((h4 i hi6).mpr ⟨hi, z⟩) n1
theorem ag_sub_s (h : ag_TH g n tN hd) {T i : Nat} (hT : T < 64) (hs : ag_sub_ T tN) (hi : i < 6) (ht : tN.testBit i = true) : ag_sub_ (T ||| 2 ^ i) tN := by
  intro j hj hb
  rw [Nat.testBit_or, Bool.or_eq_true] at hb
  rcases hb with z | z
  · exact hs j hj z
  · rw [Nat.testBit_two_pow] at z
    have : i = j := by simpa using z
    subst this
    exact ht
theorem ag_orders (h : ag_TH g n tN hd) {Fc Fm : Nat → Int32} (hc : ∀ j, j < 64 → Fc j = mk_ov g n (nI tN) Fc (nI j)) (hm : ∀ j, j < 2 ^ n → Fm j = lw_val g n hd Fm j) : ∀ m T, 64 ≤ T + m → T < 64 → ag_sub_ T tN → Fc T = Fm (hd ||| T) := by
  have hn := h.1
  have hp := ag_p64 hn
  have ht64 : tN < 64 := by have := h.2.1; omega
  have hh64 : hd < 64 := by have := h.2.2.1; omega
  intro m
  induction m with
  | zero => intro T h1 h2; omega
  | succ m ih =>
    intro T h1 hT hs
    obtain ⟨hS, hSb⟩ := ag_S h hT hs
    rw [hc T hT, hm _ hS]
    unfold mk_ov lw_val
    rw [if_neg (fun z => z ((ag_b2 T hT tN ht64).mpr hs)), if_pos (ag_b3 T hT hd hh64), ag_mkt h hT hs]
    have hd0 := ag_fd0 (g := lw_off g (nI (hd ||| T)) n) hn
    by_cases c : hs_drop (lw_off g (nI (hd ||| T)) n) n n = 0
    · rw [if_pos (hd0.mpr c), if_pos c]
      unfold mk_beh
      by_cases c2 : nI T = nI tN
      · rw [if_pos c2, if_pos ((ag_full h hT hs).mp c2)]
      · rw [if_neg c2, if_neg (fun z => c2 ((ag_full h hT hs).mpr z))]
        have hk : ∀ k, k ≤ n → mk_sumF Fc (nI tN) (nI T) k = lw_sum Fm (hd ||| T) k := by
          intro k
          induction k with
          | zero => intro _; rfl
          | succ k ihk =>
            intro hk
            have hx := ag_next h hT hs (i := k) (by omega)
            rw [mk_sumF, lw_sum, ihk (by omega), ag_from ht64 hT (by omega)]
            by_cases c3 : tN.testBit k = true ∧ T.testBit k = false
            · obtain ⟨-, e2, -, e4⟩ := lw_or T hT k (by omega)
              have e5 := e4 c3.2
              rw [if_pos c3, if_neg (by rw [hx.mp c3]; decide), ih _ (by omega) e2 (ag_sub_s h hT hs (by omega) c3.1), Nat.or_assoc]
            · rw [if_neg c3, if_pos]
              cases hb : (hd ||| T).testBit k with
              | true => rfl
              | false => exact absurd (hx.mpr hb) c3
        have hk2 : ∀ k, n + k ≤ 6 → mk_sumF Fc (nI tN) (nI T) (n + k) = mk_sumF Fc (nI tN) (nI T) n := by
          intro k
          induction k with
          | zero => intro _; rfl
          | succ k ihk =>
            intro hk
            rw [show n + (k + 1) = (n + k) + 1 by omega, mk_sumF, ihk (by omega), ag_from ht64 hT (by omega), if_neg]
            · simp
            · rintro ⟨z, -⟩
              have := ((h.2.2.2.1 (n + k) (by omega)).mp z).1
              omega
        rw [← hk n (Nat.le_refl n), ← hk2 (6 - n) (by omega), show n + (6 - n) = 6 by omega]
    · rw [if_neg (fun z => c (hd0.mp z)), if_neg c]
def ag_bR (n tN T : Nat) (bc bm : Int32) : Prop := (bc = hs_NONE ∧ bm = -1) ∨ ∃ b, b < n ∧ bc = nI b ∧ bm = nI b ∧ tN.testBit b = true ∧ T.testBit b = false
theorem ag_nd (h : ag_TH g n tN hd) {Fc Fm : Nat → Int32} (hF : ∀ T, T < 64 → ag_sub_ T tN → Fc T = Fm (hd ||| T)) {T : Nat} (hT : T < 64) (hs : ag_sub_ T tN) : ag_bR n tN T (mk_nd Fc (nI tN) (nI T) hs_NONE 6) (lw_nx Fm (hd ||| T) (-1) n) := by
  have hn := h.1
  have hp := ag_p64 hn
  have ht64 : tN < 64 := by have := h.2.1; omega
  have e6 : ∀ k, n + k ≤ 6 → mk_nd Fc (nI tN) (nI T) hs_NONE (n + k) = mk_nd Fc (nI tN) (nI T) hs_NONE n := by
    intro k
    induction k with
    | zero => intro _; rfl
    | succ k ihk =>
      intro hk
      have hf : mk_from Fc (nI tN) (nI T) (nI (n + k)) = 0 := by
        rw [ag_from ht64 hT (by omega), if_neg]
        rintro ⟨z, -⟩
        have := ((h.2.2.2.1 (n + k) (by omega)).mp z).1
        omega
      rw [show n + (k + 1) = (n + k) + 1 by omega, mk_nd, hf, if_neg (by decide), ihk (by omega)]
  have key : ∀ q, q ≤ n → ∀ bc bm, ag_bR n tN T bc bm → ag_bR n tN T (mk_nd Fc (nI tN) (nI T) bc q) (lw_nx Fm (hd ||| T) bm q) := by
    intro q
    induction q with
    | zero => intro _ bc bm hb; exact hb
    | succ q ih =>
      intro hq bc bm hb
      have hx := ag_next h hT hs (i := q) (by omega)
      rw [mk_nd, lw_nx, ag_from ht64 hT (by omega)]
      by_cases c3 : tN.testBit q = true ∧ T.testBit q = false
      · obtain ⟨-, e2, -, e4⟩ := lw_or T hT q (by omega)
        rw [if_pos c3, hF _ e2 (ag_sub_s h hT hs (by omega) c3.1), ← Nat.or_assoc]
        by_cases c4 : 0 < Fm (hd ||| T ||| 2 ^ q)
        · rw [if_pos c4, if_pos ⟨hx.mp c3, c4⟩]
          exact ih (by omega) _ _ (Or.inr ⟨q, by omega, rfl, rfl, c3.1, c3.2⟩)
        · rw [if_neg c4, if_neg (fun z => c4 z.2)]
          exact ih (by omega) _ _ hb
      · rw [if_neg c3, if_neg (by decide), if_neg (fun z => c3 (hx.mpr z.1))]
        exact ih (by omega) _ _ hb
  rw [← show n + (6 - n) = 6 by omega, e6 (6 - n) (by omega)]
  exact key n (Nat.le_refl n) _ _ (Or.inl ⟨rfl, rfl⟩)
theorem ag_go (h : ag_TH g n tN hd) {Fc Fm : Nat → Int32} (hF : ∀ T, T < 64 → ag_sub_ T tN → Fc T = Fm (hd ||| T)) : ∀ k T, T < 64 → ag_sub_ T tN → mk_ifo Fc (nI tN) k (nI T) = lw_go Fm n k (hd ||| T) := by
  have hn := h.1
  intro k
  induction k with
  | zero =>
    intro T hT hs
    rw [mk_ifo, lw_go]
    rcases ag_nd h hF hT hs with ⟨a, b⟩ | ⟨b, b1, b2, b3, b4, b5⟩
    · rw [a, b, if_pos (by decide)]
    · rw [b2, b3, if_neg (nI_pos (by omega))]
  | succ k ih =>
    intro T hT hs
    rw [mk_ifo, lw_go]
    rcases ag_nd h hF hT hs with ⟨a, b⟩ | ⟨b, b1, b2, b3, b4, b5⟩
    · rw [a, b, if_pos (by decide), if_pos rfl]
    · obtain ⟨e1, e2, -⟩ := lw_or T hT b (by omega)
      rw [b2, b3, if_neg (nI_pos (by omega)), if_neg (ag_nN (by omega)), e1, nI_clamp (by omega), ih _ e2 (ag_sub_s h hT hs (by omega) b4), Nat.or_assoc]
end AGU
theorem ag_unloaded {C M : Nat → Nat → Int32} {n : Nat} (hE : ag_E C M) (hs : mk_sr (M 0) n) (h4 : M 0 4 = 0 ↔ M 0 2 = 0) (k : Int32) : ag_2 (cs_unloaded C (M 0) n k) (sp_unl M n k) := by
  have hTH := ag_TH_ok hs
  have hn := hs.2.1
  have hp := ag_p64 hn
  have ht64 : mk_toN (M 0) n < 64 := by have := hTH.2.1; omega
  have hto : mk_to (M 0) n = nI (mk_toN (M 0) n) := (mk_to_n (M 0) n hn).1
  unfold cs_unloaded sp_unl
  by_cases c : M 0 2 = 0
  · rw [if_pos c, if_pos (h4.mpr c)]; exact ag_2r hE _
  rw [if_neg c, if_neg (fun z => c (h4.mp z))]
  have hin : (k < -1 ∨ ¬ k < 6) ↔ hs_in k (-1) 5 = 0 := by
    rw [hs_inX]
    have e5 : ¬ k < 6 ↔ 5 < k := by
      rw [Int32.lt_iff_toInt_lt, Int32.lt_iff_toInt_lt]
      have e1 : (6 : Int32).toInt = 6 := rfl
      have e2 : (5 : Int32).toInt = 5 := rfl
      omega
    rw [e5]
    by_cases z : k < -1 ∨ 5 < k
    · rw [if_pos z]; exact ⟨fun _ => rfl, fun _ => z⟩
    · rw [if_neg z]; exact ⟨fun y => absurd y z, fun y => absurd y (by decide)⟩
  by_cases c2 : hs_in k (-1) 5 = 0
  · rw [if_pos (hin.mpr c2), if_pos c2]; exact ag_2r hE _
  rw [if_neg (fun z => c2 (hin.mp z)), if_neg c2, hto]
  refine ⟨?_, ?_⟩
  · show (if k = -1 then _ else _) = (if k < 0 then _ else _)
    rw [ag_fl_c, ag_fl_m]
    obtain ⟨-, fc⟩ := ag_fl_ok (V := fun o q => mk_ov (M 0) n (nI (mk_toN (M 0) n)) o (nI q)) (ag_dep_c (M 0) n _ ht64) 64 (Nat.le_refl _) (C 20)
    obtain ⟨-, fm⟩ := ag_fl_ok (V := lw_val (M 0) n (lw_hN (M 0) n)) (ag_dep_m (M 0) n _ hn) (2 ^ n) hp (M 15)
    generalize ag_fl (fun o q => mk_ov (M 0) n (nI (mk_toN (M 0) n)) o (nI q)) (C 20) 64 = Fc at fc ⊢
    generalize ag_fl (lw_val (M 0) n (lw_hN (M 0) n)) (M 15) (2 ^ n) = Fm at fm ⊢
    have hF : ∀ T, T < 64 → ag_sub_ T (mk_toN (M 0) n) → Fc T = Fm (lw_hN (M 0) n ||| T) := fun T hT hsT => ag_orders hTH fc fm 64 T (by omega) hT hsT
    have hz : ag_sub_ 0 (mk_toN (M 0) n) := fun i _ hb => by rw [Nat.zero_testBit] at hb; exact absurd hb (by decide)
    have h0 := hF 0 (by omega) hz
    rw [Nat.or_zero] at h0
    have hg := fun j => ag_go hTH hF j 0 (by omega) hz
    rw [h0]
    by_cases c3 : k = -1
    · rw [if_pos c3, if_pos (by rw [c3]; decide)]
    · have hk0 : ¬ k < 0 := hs_ge0 (fun z => c2 (hin.mp (Or.inl z))) c3
      rw [if_neg c3, if_neg hk0]
      have := hg k.toNatClampNeg
      rw [Nat.or_zero] at this
      by_cases c4 : Fm (lw_hN (M 0) n) = 0
      · rw [if_pos c4, if_pos c4]
      · rw [if_neg c4, if_neg c4]
        exact this
  · unfold sp_lay
    exact ag_E_L (ag_E_R (ag_E_R hE (by unfold ag_key; omega) _) (by unfold ag_key; omega) _) (by unfold ag_key; omega) _
