/-! WIND: what the class keeps of its strands -/
theorem ag_wr_y {g : Nat → Int32} {x : Int64} {k : Nat} {G : Nat → Int32} {x2 : Int64} (h : hs_wr g x k = (G, x2)) (h1 : hs_wx x2 - hs_wx x2 / 20 * 20 = 0) (h2 : 1 < G (5 + k)) : hs_wr g x (k + 1) = (va_up G (5 + k) (G (5 + k) - 1), hs_wx x2) := by
  have e : hs_wt G x2 k = G (5 + k) - 1 := by
    show G (5 + k) - (if hs_wx x2 - hs_wx x2 / 20 * 20 = 0 ∧ 1 < G (5 + k) then 1 else 0) = _
    rw [if_pos ⟨h1, h2⟩]
  simp only [hs_wr, h, e]
theorem ag_wr_n {g : Nat → Int32} {x : Int64} {k : Nat} {G : Nat → Int32} {x2 : Int64} (h : hs_wr g x k = (G, x2)) (h1 : ¬ (hs_wx x2 - hs_wx x2 / 20 * 20 = 0 ∧ 1 < G (5 + k))) : hs_wr g x (k + 1) = (G, hs_wx x2) := by
  have e : hs_wt G x2 k = G (5 + k) := by
    show G (5 + k) - (if hs_wx x2 - hs_wx x2 / 20 * 20 = 0 ∧ 1 < G (5 + k) then 1 else 0) = _
    rw [if_neg h1]
    simp
  simp only [hs_wr, h, e, hs_up_id]
theorem ag_wr_t {g : Nat → Int32} {nr : Nat} {x : Int64} (ht : mk_t g nr) : ∀ k, k ≤ nr → mk_t (hs_wr g x k).1 nr := by
  intro k
  induction k with
  | zero => intro _; exact ht
  | succ k ih =>
    intro hk
    have h := ih (by omega)
    have h3 := ht.2.1
    generalize hW : hs_wr g x k = P at h
    obtain ⟨G, x2⟩ := P
    have h : mk_t G nr := h
    by_cases c : hs_wx x2 - hs_wx x2 / 20 * 20 = 0 ∧ 1 < G (5 + k)
    · rw [ag_wr_y hW c.1 c.2]
      exact mk_tcut h (by omega) c.2
    · rw [ag_wr_n hW c]
      exact h
theorem ag_wh_t {g : Nat → Int32} {n nr : Nat} {x : Int64} (ht : mk_t g nr) : ∀ k, mk_t (hs_wh g n nr x k).1 nr := by
  intro k
  induction k with
  | zero => exact ht
  | succ k ih => exact ag_wr_t ih nr (Nat.le_refl _)
theorem ag_sr_57 {g h : Nat → Int32} {n : Nat} (e : ∀ j, j < 5 ∨ 8 ≤ j → h j = g j) (k : mk_sr g n) : mk_sr h n := by
  obtain ⟨h1, h2, h3, h4⟩ := k
  refine ⟨?_, h2, fun i hi => ?_, fun i hi => ?_⟩
  · rw [e 3 (by omega)]; exact h1
  · rw [e (8 + i) (by omega)]; exact h3 i hi
  · rw [e (44 + i) (by omega)]; exact h4 i hi
theorem mk_back {L : List Nat} {D : va_G} {f : Nat → va_E} {mk : Nat} {ad : Nat → Nat} {n : Nat} {g G : Nat → Int32} (hm : mk_ok L mk ad n) (e : ∀ j, j < 5 ∨ 8 ≤ j → G j = g j) : va_up (mk_F D f mk ad n G) (ad 0) (.inl (D.1 11, 3, .inl (va_cpy (mk_ta g) (mk_ta G) 0 0 3))) = mk_F D f mk ad n g := by
  have ec : va_cpy (mk_ta g) (mk_ta G) 0 0 3 = mk_ta g := by
    funext j
    simp only [va_cpy, mk_ta]
    by_cases h : j < 3
    · rw [if_pos (by omega), if_pos h, if_pos (by omega)]; congr 1; omega
    · rw [if_neg (by omega), if_neg h, if_neg h]
  rw [ec]
  refine mk_upk hm (k := 0) (by omega) ?_ (fun j hj hne => ?_)
  · simp only [mk_fs]
    rw [e 0 (by omega), e 1 (by omega), e 2 (by omega), e 3 (by omega)]
  · match j with
    | 0 => exact absurd rfl hne
    | 1 => rfl
    | i + 2 =>
      show Sum.inr (mk_kc _, mk_st g i) = Sum.inr (mk_kc _, mk_st G i)
      simp only [mk_st]
      rw [e (8 + i) (by omega), e (14 + i) (by omega), e (20 + i) (by omega), e (26 + i) (by omega), e (32 + i) (by omega), e (38 + i) (by omega), e (44 + i) (by omega)]
section HG
variable {p : Program} {l : Launch} {e : Env} {R : Room} {s : State} {m : MethodId} {args : Array Value} {below : List Frame} {meth : Method} {c : Code} {H : Heap} {locs : List Loc} {cells slots : Nat} {Q : State → Prop}
variable {cc : ByteArray} {nL : Nat} {Ts : List Cond} {own : String} {D : va_G} {b0 : Nat} {L : List Nat} {f : Nat → va_E} {pc : Nat} {ls : Array Slot} {rest st : List Value} {a : Nat}
theorem hg_clone (X : hg_C p s m args c cc nL Ts own D b0) (w : hg_W D b0 L f s.heap H locs) {n : Nat} {t : Nat → Int32} (ha : a ∈ L) (hf : f a = .inl (D.1 11, n, .inl t)) {index : Nat} (h1 : Cond.methodLink own index ⟨"[I", "clone", "()Ljava/lang/Object;"⟩ ∈ Ts) (h2 : Cond.sameMethod "[I" "java/lang/Object" "clone" "()Ljava/lang/Object;" ∈ Ts) (h3 : Cond.native ⟨"java/lang/Object", "clone", "()Ljava/lang/Object;"⟩ ∈ Ts) (h4 : Cond.instanceMethod ⟨"java/lang/Object", "clone", "()Ljava/lang/Object;"⟩ ∈ Ts) (h5 : Cond.selects "[I" ⟨"[I", "clone", "()Ljava/lang/Object;"⟩ ⟨"java/lang/Object", "clone", "()Ljava/lang/Object;"⟩ ∈ Ts) (hls : ls.size = nL) (hfr : 1 ≤ R.frames) (hlo : (rest.map fun v => v.category).sum + 14 ≤ R.locals) (hcells : cells + 1 ≤ R.cells) (hslots : slots + n ≤ R.slots) (hdg : decode cc pc = .ok (.invokevirtual index, 3))
    (kk : ∀ (q : Nat) (H1 : Heap), q ∉ L → hg_W D b0 (L ++ [q]) (va_up f q (.inl (D.1 11, n, .inl t))) s.heap H1 locs → W p l e R s m args below meth c H1 locs (cells + 1) (slots + n) Q (F0 m (pc + 3) ls (.ref q :: rest))) : W p l e R s m args below meth c H locs cells slots Q (F0 m pc ls (.ref a :: rest)) := by
  obtain ⟨⟨hx, hb, hml, hown, hts⟩, hK, hb0⟩ := X
  obtain ⟨q0, hq⟩ := hg_at ha hf
  refine va_clone (x := (n, .inl t)) hx hb (hml.trans hls.symm) hown (hts _ h1) (hts _ h2) (hts _ h3) (hts _ h4) (hts _ h5) (hK.2.2.1 ("[I", "java/lang/Cloneable") (List.mem_of_getElem? (i := 5) rfl)) hK.1 w.1.1 w.1.2 w.2 (fun q h => Nat.le_trans hb0 h) q0 0 hq rfl (hK.1.2 0 (D.1 11, .int) rfl).2 (fun i v hv => ?_) hfr hlo hcells hslots hdg (fun q H1 k0 k1 k2 k3 => ?_)
  · have hlt : i < (vp_cell (D.1 11) (n, .inl t)).slots.size := (Array.getElem?_eq_some_iff.mp hv).1
    rw [vp_cell_i, arrV_size] at hlt
    rw [vp_cell_i, arrV_read _ _ hlt] at hv
    cases hv
    rfl
  · have hq := hg_fresh k2
    rw [va_pl_push hq] at k1 k2
    exact kk q H1 hq ⟨⟨k1, k2⟩, k3⟩
theorem hg_castI (X : hg_C p s m args c cc nL Ts own D b0) (w : hg_W D b0 L f s.heap H locs) {n : Nat} {t : Nat → Int32} (ha : a ∈ L) (hf : f a = .inl (D.1 11, n, .inl t)) {index : Nat} (h1 : Cond.classLink own index "[I" ∈ Ts) (hdg : decode cc pc = .ok (.checkcast index, 3))
    (kk : W p l e R s m args below meth c H locs cells slots Q (F0 m (pc + 3) ls (.ref a :: rest))) : W p l e R s m args below meth c H locs cells slots Q (F0 m pc ls (.ref a :: rest)) := by
  obtain ⟨⟨hx, hb, hml, hown, hts⟩, hK, hb0⟩ := X
  obtain ⟨q0, hq⟩ := hg_at ha hf
  exact va_castA hx hb hown (hts _ h1) w.1.1 q0 hq (hK.1.2 0 (D.1 11, .int) rfl).2 hdg kk
end HG
def cq_wind (g : Nat → Int32) (n nr : Nat) (hours seed rope : Int32) : Int32 :=
  if g 2 = 0 then hs_STATE else if hs_in hours 0 40 = 0 ∨ hs_in seed 1 999999 = 0 ∨ (¬ rope = -1 ∧ hs_isRo g rope = 0) then hs_BAD else
  if rope < 0 ∨ 3 ≤ rope then (hs_wh g n nr seed.toInt64 hours.toNatClampNeg).2.2 else (hs_wh g n nr seed.toInt64 hours.toNatClampNeg).1 (5 + rope.toNatClampNeg)
theorem cq_wind_B {g : Nat → Int32} {n nr : Nat} {hours seed rope : Int32} (h : ¬ g 2 = 0) (h2 : hours < 0 ∨ 40 < hours ∨ seed < 1 ∨ 999999 < seed ∨ (¬ rope = -1 ∧ hs_isRo g rope = 0)) : cq_wind g n nr hours seed rope = hs_BAD := by
  unfold cq_wind
  rw [if_neg h, if_pos]
  rw [hs_inX, hs_inX]
  rcases h2 with z | z | z | z | z
  · exact Or.inl (if_pos (Or.inl z))
  · exact Or.inl (if_pos (Or.inr z))
  · exact Or.inr (Or.inl (if_pos (Or.inl z)))
  · exact Or.inr (Or.inl (if_pos (Or.inr z)))
  · exact Or.inr (Or.inr z)
theorem cq_wind_Y {g : Nat → Int32} {n nr h : Nat} {seed rope : Int32} (h0 : ¬ g 2 = 0) (hh : h ≤ 40) (h3 : ¬ seed < 1) (h4 : ¬ 999999 < seed) (h5 : rope = -1 ∨ ¬ hs_isRo g rope = 0) : cq_wind g n nr (nI h) seed rope = if rope < 0 ∨ 3 ≤ rope then (hs_wh g n nr seed.toInt64 h).2.2 else (hs_wh g n nr seed.toInt64 h).1 (5 + rope.toNatClampNeg) := by
  unfold cq_wind
  rw [if_neg h0, if_neg, nI_clamp (by omega)]
  rw [hs_inX, hs_inX]
  rintro (z | z | z)
  · rw [if_neg (by
      rintro (y | y)
      · exact nI_pos (n := h) (by omega) y
      · exact absurd ((nI_ltI (a := 40) (b := h) (by omega) (by omega)).mp y) (by omega))] at z
    exact absurd z (by decide)
  · rw [if_neg (fun y => y.elim h3 h4)] at z
    exact absurd z (by decide)
  · exact h5.elim (fun y => z.1 y) (fun y => y z.2)
theorem ag_wind {M : Nat → Nat → Int32} {n nr : Nat} (ht : mk_t (M 0) nr) (h4 : M 0 4 = 0 ↔ M 0 2 = 0) (hours seed rope : Int32) : cq_wind (M 0) n nr hours seed rope = (sp_wind M n nr hours seed rope).1 ∧ ((sp_wind M n nr hours seed rope).2 = M ∨ (sp_wind M n nr hours seed rope).2 = mo_held M) := by
  have e1 : cq_wind (M 0) n nr hours seed rope = q_wind (M 0) n nr hours seed rope := by
    unfold cq_wind q_wind
    by_cases c : M 0 2 = 0
    · rw [if_pos c, if_pos (h4.mpr c)]
    rw [if_neg c, if_neg (fun z => c (h4.mp z))]
    by_cases c2 : hs_in hours 0 40 = 0 ∨ hs_in seed 1 999999 = 0 ∨ (¬ rope = -1 ∧ hs_isRo (M 0) rope = 0)
    · rw [if_pos c2, if_pos c2]
    rw [if_neg c2, if_neg c2]
    by_cases c3 : rope = -1
    · subst c3
      rw [if_pos (Or.inl (by decide)), if_neg (by decide)]
    · have h3 := ht.2.1
      have hr : ¬ hs_isRo (M 0) rope = 0 := fun z => c2 (Or.inr (Or.inr ⟨c3, z⟩))
      have hex : ∃ r : Nat, r < nr ∧ rope = nI r := Classical.byContradiction (fun z => hr (mk_ro0 ht z))
      obtain ⟨r, hr1, e⟩ := hex
      subst e
      rw [if_neg (by
        rintro (z | z)
        · exact nI_pos (n := r) (by omega) z
        · exact nI_ge (a := r) (b := 3) (by omega) (by omega) z), if_pos (nI_pos' (by omega))]
  rw [e1]
  unfold sp_wind
  split
  · exact ⟨rfl, Or.inl rfl⟩
  · exact ⟨rfl, Or.inr rfl⟩
