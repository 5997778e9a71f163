/-! WHAT IS MADE, in a walk: the world f overlaid with a list of cells whose addresses are apart -/
def al_F (f : Nat → va_E) (l : List (Nat × va_E)) : Nat → va_E := fun a => match l.find? (fun p => decide (p.1 = a)) with
  | some p => p.2
  | none => f a
theorem al_nil (f : Nat → va_E) : al_F f [] = f := rfl
theorem al_find {l : List (Nat × va_E)} (hn : (l.map Prod.fst).Nodup) {k a : Nat} {x : va_E} (hk : l[k]? = some (a, x)) : l.find? (fun p => decide (p.1 = a)) = some (a, x) := by
  induction l generalizing k with
  | nil => simp at hk
  | cons p l ih =>
    rw [List.map_cons, List.nodup_cons] at hn
    cases k with
    | zero =>
      have e : p = (a, x) := by simpa using hk
      subst e
      simp
    | succ k =>
      have hk' : l[k]? = some (a, x) := by simpa using hk
      have hm : a ∈ l.map Prod.fst := List.mem_map.mpr ⟨(a, x), List.mem_of_getElem? hk', rfl⟩
      have hne : ¬ p.1 = a := fun q => hn.1 (by rw [q]; exact hm)
      rw [List.find?_cons_of_neg (by simpa using hne)]
      exact ih hn.2 hk'
theorem al_at {f : Nat → va_E} {l : List (Nat × va_E)} (hn : (l.map Prod.fst).Nodup) {k a : Nat} {x : va_E} (hk : l[k]? = some (a, x)) : al_F f l a = x := by
  unfold al_F
  rw [al_find hn hk]
theorem al_out {f : Nat → va_E} {l : List (Nat × va_E)} {a : Nat} (h : a ∉ l.map Prod.fst) : al_F f l a = f a := by
  unfold al_F
  cases hq : l.find? (fun p => decide (p.1 = a)) with
  | none => rfl
  | some p =>
    have h1 : p.1 = a := by simpa using List.find?_some hq
    exact absurd (List.mem_map.mpr ⟨p, List.mem_of_find?_eq_some hq, h1⟩) h
theorem al_new {f : Nat → va_E} {l : List (Nat × va_E)} {q : Nat} {x : va_E} (h : q ∉ l.map Prod.fst) : va_up (al_F f l) q x = al_F f (l ++ [(q, x)]) := by
  funext a
  by_cases ha : a = q
  · subst ha
    rw [va_up_self]
    unfold al_F
    have hn : l.find? (fun p => decide (p.1 = a)) = none := by
      apply List.find?_eq_none.mpr
      intro p hp
      simp only [decide_eq_true_eq]
      exact fun e => h (List.mem_map.mpr ⟨p, hp, e⟩)
    rw [List.find?_append, hn]
    simp
  · rw [va_up_ne _ _ ha]
    unfold al_F
    rw [List.find?_append]
    cases l.find? (fun p => decide (p.1 = a)) with
    | some p => rfl
    | none =>
      have : [(q, x)].find? (fun p => decide (p.1 = a)) = none := by simpa using fun z : q = a => ha z.symm
      rw [this]
      rfl
theorem al_set_fst {l : List (Nat × va_E)} {k a : Nat} {x y : va_E} (hk : l[k]? = some (a, x)) : (l.set k (a, y)).map Prod.fst = l.map Prod.fst := by
  apply List.ext_getElem?
  intro j
  rw [List.getElem?_map, List.getElem?_map, List.getElem?_set]
  by_cases e : k = j
  · subst e
    have hl := (List.getElem?_eq_some_iff.mp hk).1
    rw [if_pos rfl, if_pos hl, hk]
    rfl
  · rw [if_neg e]
theorem al_up {f : Nat → va_E} {l : List (Nat × va_E)} (hn : (l.map Prod.fst).Nodup) {k a : Nat} {x y : va_E} (hk : l[k]? = some (a, x)) : va_up (al_F f l) a y = al_F f (l.set k (a, y)) := by
  have hl := (List.getElem?_eq_some_iff.mp hk).1
  have hn2 : ((l.set k (a, y)).map Prod.fst).Nodup := by rw [al_set_fst hk]; exact hn
  funext b
  by_cases hb : b = a
  · subst hb
    rw [va_up_self, al_at hn2 (k := k) (x := y) (by rw [List.getElem?_set_self hl])]
  · rw [va_up_ne _ _ hb]
    by_cases hm : b ∈ l.map Prod.fst
    · obtain ⟨p, hp, e⟩ := List.mem_map.mp hm
      obtain ⟨j, hj⟩ := List.getElem?_of_mem hp
      obtain ⟨p1, p2⟩ := p
      have e : p1 = b := e
      subst e
      have hjk : k ≠ j := by
        intro q
        subst q
        rw [hk] at hj
        exact hb (by injection hj with z; injection z with z1 z2; exact z1.symm)
      rw [al_at hn hj, al_at hn2 (k := j) (x := p2) (by rw [List.getElem?_set_ne hjk]; exact hj)]
    · rw [al_out hm, al_out (by rw [al_set_fst hk]; exact hm)]
/-- the addresses: a first, then those that are new -/
theorem al_nd {L N : List Nat} {a q : Nat} (h : (a :: N).Nodup) (ha : a ∈ L) (hq : q ∉ L ++ N) : (a :: (N ++ [q])).Nodup := by
  rw [List.nodup_cons] at h ⊢
  have h1 : a ≠ q := fun z => hq (by rw [← z]; exact List.mem_append_left _ ha)
  refine ⟨?_, ?_⟩
  · intro z
    rcases List.mem_append.mp z with z | z
    · exact h.1 z
    · exact h1 (by simpa using z)
  · rw [List.nodup_append]
    refine ⟨h.2, by simp, ?_⟩
    intro x hx y hy e
    have hy : y = q := by simpa using hy
    subst e
    rw [hy] at hx
    exact hq (List.mem_append_right _ hx)
theorem al_nd0 {L N : List Nat} {q : Nat} (h : N.Nodup) (hq : q ∉ L ++ N) : (N ++ [q]).Nodup := by
  rw [List.nodup_append]
  refine ⟨h, by simp, ?_⟩
  intro x hx y hy e
  have hy : y = q := by simpa using hy
  subst e
  rw [hy] at hx
  exact hq (List.mem_append_right _ hx)
theorem al_notin {L N : List Nat} {a q : Nat} (ha : a ∈ L) (hq : q ∉ L ++ N) : q ∉ a :: N := by
  intro z
  rcases List.mem_cons.mp z with z | z
  · exact hq (by rw [z]; exact List.mem_append_left _ ha)
  · exact hq (List.mem_append_right _ z)
theorem al_notin0 {L N : List Nat} {q : Nat} (hq : q ∉ L ++ N) : q ∉ N := fun z => hq (List.mem_append_right _ z)
section HG
variable {p : Program} {l : Launch} {e : Env} {R : Room} {s : State} {m : MethodId} {args : Array Value} {below : List Frame} {meth : Method} {c : Code} {H : Heap} {locs : List Loc} {cells slots : Nat} {Q : State → Prop}
variable {cc : ByteArray} {nL : Nat} {Ts : List Cond} {own : String} {D : va_G} {b0 : Nat} {L N : List Nat} {f : Nat → va_E} {pc : Nat} {ls : Array Slot} {rest st : List Value} {a : Nat} {li : List (Nat × va_E)}
/-- one cell more -/
theorem al_grow {q : Nat} {x : va_E} (w : hg_W D b0 (L ++ N ++ [q]) (va_up (al_F f li) q x) s.heap H locs) (h : q ∉ li.map Prod.fst) : hg_W D b0 (L ++ (N ++ [q])) (al_F f (li ++ [(q, x)])) s.heap H locs := by
  rw [al_new h, List.append_assoc] at w
  exact w
theorem al_chg {k : Nat} {x y : va_E} (hn : (li.map Prod.fst).Nodup) (hk : li[k]? = some (a, x)) (w : hg_W D b0 L (va_up (al_F f li) a y) s.heap H locs) : hg_W D b0 L (al_F f (li.set k (a, y))) s.heap H locs := by
  rw [al_up hn hk] at w
  exact w
/-- a final field, in a constructor -/
theorem al_putF (X : hg_C p s m args c cc nL Ts own D b0) (w : hg_W D b0 L f s.heap H locs) {C : String} {T : u_T} {N0 ci index : Nat} {fs : List Value} (hname : meth.name = "<init>") (ha : a ∈ L) (hf : f a = .inr (ci, fs)) (hin : ∀ w ∈ u_ws C T N0, w ∈ Ts) {ty0 : Nat → FieldType} (hty : ∀ k, k < N0 → parseFieldDescriptor (T k).2.2.1 = some (ty0 k)) (hnm : ∀ a, a < N0 → ∀ b, b < N0 → a ≠ b → (T a).2.1 ≠ (T b).2.1) (hc : vwCl[ci]? = some (C, T, N0)) (k : Nat) (hk : k < N0) (hlink : Cond.fieldLink own index (T k).1 (T k).2.1 (T k).2.2.1 ∈ Ts)
    (hfin : (T k).2.2.2 = true) (hdecl : (T k).1 = own) {v : Value} (hn : narrow (ty0 k) v = v) (hfit : fits (ty0 k) v = true) (hl : k < fs.length) (hdg : decode cc pc = .ok (.putfield index, 3))
    (kk : ∀ (H1 : Heap) (locs1 : List Loc), hg_W D b0 L (va_up f a (.inr (ci, fs.set k v))) s.heap H1 locs1 → W p l e R s m args below meth c H1 locs1 cells slots Q (F0 m (pc + 3) ls rest)) : W p l e R s m args below meth c H locs cells slots Q (F0 m pc ls (v :: .ref a :: rest)) := by
  obtain ⟨⟨hx, hb, hml, hown, hts⟩, hK, hb0⟩ := X
  obtain ⟨q0, hq⟩ := hg_at ha hf
  refine va_putF (C := C) (T := T) (N := N0) hx hb hts hin ty0 hty hnm hown hK.1 w.1.1 w.1.2 w.2 q0 hq hc k hk (hts _ hlink) (fun x h9 => h9) hfin hname hdecl (hty k hk) hn hfit hl hdg (fun H1 locs1 h1 h2 h3 => ?_)
  rw [hg_up w.1.2 ha hq] at h1 h2
  exact kk H1 locs1 ⟨⟨h1, h2⟩, h3⟩
end HG
section HG
variable {p : Program} {l : Launch} {e : Env} {R : Room} {s : State} {m : MethodId} {args : Array Value} {below : List Frame} {meth : Method} {c : Code} {H : Heap} {locs : List Loc} {cells slots : Nat} {Q : State → Prop}
variable {cc : ByteArray} {nL : Nat} {Ts : List Cond} {own : String} {D : va_G} {b0 : Nat} {L N : List Nat} {f : Nat → va_E} {pc : Nat} {ls : Array Slot} {rest st : List Value} {a q1 q2 : Nat} {x y z : va_E}
theorem al_e1 : al_F f [(a, x)] = va_up f a x := by
  have h := al_new (f := f) (l := []) (q := a) (x := x) (by simp)
  rw [al_nil] at h
  exact h.symm
theorem al_start (hf : f a = x) (w : hg_W D b0 L f s.heap H locs) : hg_W D b0 (L ++ []) (al_F f [(a, x)]) s.heap H locs := by
  rw [al_e1, ← hf, hs_up_id, List.append_nil]
  exact w
theorem al_e2 (hn : [a, q1].Nodup) : (L ++ [q1], al_F f [(a, x), (q1, y)]) = (L ++ [q1], va_up (va_up f a x) q1 y) := by
  have h := al_new (f := f) (l := [(a, x)]) (q := q1) (x := y) (by
    simp only [List.map_cons, List.map_nil]
    intro z
    rw [List.nodup_cons] at hn
    exact hn.1 (by simpa using (show q1 = a by simpa using z).symm))
  rw [al_e1] at h
  rw [h]
  rfl
theorem al_e3 (hn : [a, q1, q2].Nodup) : (L ++ [q1, q2], al_F f [(a, x), (q1, y), (q2, z)]) = (L ++ [q1, q2], va_up (va_up (va_up f a x) q1 y) q2 z) := by
  have h2 : [a, q1].Nodup := by
    rw [List.nodup_cons] at hn ⊢
    refine ⟨fun z => hn.1 (List.mem_cons.mpr (Or.inl (by simpa using z))), by simp⟩
  have h := al_new (f := f) (l := [(a, x), (q1, y)]) (q := q2) (x := z) (by
    simp only [List.map_cons, List.map_nil]
    intro z
    rw [List.nodup_cons, List.nodup_cons] at hn
    rcases List.mem_cons.mp z with z | z
    · exact hn.1 (by simp [z])
    · exact hn.2.1 (by simpa using (show q2 = q1 by simpa using z).symm))
  have h3 := (al_e2 (L := L) (f := f) (x := x) (y := y) h2)
  have h4 : al_F f [(a, x), (q1, y)] = va_up (va_up f a x) q1 y := congrArg Prod.snd h3
  rw [h4] at h
  rw [h]
  rfl
theorem hg_alenR (X : hg_C p s m args c cc nL Ts own D b0) (w : hg_W D b0 L f s.heap H locs) (t : Nat) {cid : ClassId} {E : String} {n : Nat} {g : Nat → Option Nat} (ht : (hg_T D)[t]? = some (cid, .object E)) (ha : a ∈ L) (hf : f a = .inl (cid, n, .inr (.inr (.inr (.inr g))))) (hdg : decode cc pc = .ok (.arraylength, 1))
    (kk : W p l e R s m args below meth c H locs cells slots Q (F0 m (pc + 1) ls (.int (nI n) :: rest))) : W p l e R s m args below meth c H locs cells slots Q (F0 m pc ls (.ref a :: rest)) := by
  obtain ⟨⟨hx, hb, hml, hown, hts⟩, hK, hb0⟩ := X
  obtain ⟨q0, hq⟩ := hg_at ha hf
  exact va_alen hx hb hK.1 w.1.1 q0 t hq ht rfl hdg kk
end HG
