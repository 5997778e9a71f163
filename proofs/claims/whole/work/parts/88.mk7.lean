/-! a market held in a world; a market that grows -/
def mk_H (D : va_G) (F : Nat → va_E) (mk : Nat) (ad : Nat → Nat) (n : Nat) (g : Nat → Int32) : Prop := F mk = .inr (2, mk_fs ad g) ∧ ∀ k, k < n + 2 → F (ad k) = mk_e D ad n g k
theorem mk_self {D : va_G} {F : Nat → va_E} {mk : Nat} {ad : Nat → Nat} {n : Nat} {g : Nat → Int32} (h : mk_H D F mk ad n g) : mk_F D F mk ad n g = F := by
  funext a
  unfold mk_F
  by_cases ha : a = mk
  · rw [if_pos ha, ha, h.1]
  · rw [if_neg ha]
    cases hq : (List.range (n + 2)).find? (fun k => decide (ad k = a)) with
    | none => rfl
    | some j =>
      have h1 : ad j = a := by simpa using List.find?_some hq
      show mk_e D ad n g j = F a
      rw [← h1, h.2 j (List.mem_range.mp (List.mem_of_find?_eq_some hq))]
theorem mk_H_F {L : List Nat} {D : va_G} {f : Nat → va_E} {mk : Nat} {ad : Nat → Nat} {n : Nat} {g : Nat → Int32} (hm : mk_ok L mk ad n) : mk_H D (mk_F D f mk ad n g) mk ad n g := ⟨mk_at0 D f mk ad n g, fun _ hk => mk_atk hm D f g hk⟩
/-- what lies elsewhere is kept -/
theorem mk_H_of {D : va_G} {F G : Nat → va_E} {mk : Nat} {ad : Nat → Nat} {n : Nat} {g : Nat → Int32} (h : mk_H D F mk ad n g) (h0 : G mk = F mk) (h1 : ∀ k, k < n + 2 → G (ad k) = F (ad k)) : mk_H D G mk ad n g := ⟨h0.trans h.1, fun k hk => (h1 k hk).trans (h.2 k hk)⟩
/-- only what a market's cells show matters -/
theorem mk_congr {D : va_G} {f : Nat → va_E} {mk : Nat} {ad : Nat → Nat} {n : Nat} {g g' : Nat → Int32} (h0 : mk_fs ad g = mk_fs ad g') (h : ∀ k, k < n + 2 → mk_e D ad n g k = mk_e D ad n g' k) : mk_F D f mk ad n g = mk_F D f mk ad n g' := by
  funext a
  unfold mk_F
  rw [h0]
  cases hq : (List.range (n + 2)).find? (fun k => decide (ad k = a)) with
  | none => rfl
  | some j => simp only [h j (List.mem_range.mp (List.mem_of_find?_eq_some hq))]
theorem mk_ok_mono {L N : List Nat} {mk : Nat} {ad : Nat → Nat} {n : Nat} (hm : mk_ok L mk ad n) : mk_ok (L ++ N) mk ad n := ⟨List.mem_append_left _ hm.1, fun k hk => ⟨List.mem_append_left _ (hm.2.1 k hk).1, (hm.2.1 k hk).2⟩, hm.2.2⟩
theorem mk_ok_grow {L : List Nat} {mk q : Nat} {ad : Nat → Nat} {n : Nat} (hm : mk_ok L mk ad n) (hq : q ∉ L) : mk_ok (L ++ [q]) mk (va_up ad (2 + n) q) (n + 1) := by
  have hne : ∀ k, k < n + 2 → ad k ≠ q := fun k hk e => hq (by rw [← e]; exact (hm.2.1 k hk).1)
  refine ⟨List.mem_append_left _ hm.1, fun k hk => ?_, fun k hk j hj e => ?_⟩
  · by_cases e : k = 2 + n
    · subst e
      rw [va_up_self]
      exact ⟨by simp, fun z => hq (by rw [z]; exact hm.1)⟩
    · rw [va_up_ne _ _ e]
      exact ⟨List.mem_append_left _ (hm.2.1 k (by omega)).1, (hm.2.1 k (by omega)).2⟩
  · by_cases e1 : k = 2 + n
    · by_cases e2 : j = 2 + n
      · omega
      · subst e1
        rw [va_up_self, va_up_ne _ _ e2] at e
        exact absurd e.symm (hne j (by omega))
    · by_cases e2 : j = 2 + n
      · subst e2
        rw [va_up_self, va_up_ne _ _ e1] at e
        exact absurd e (hne k (by omega))
      · rw [va_up_ne _ _ e1, va_up_ne _ _ e2] at e
        exact hm.2.2 k (by omega) j (by omega) e
theorem mk_grow {L : List Nat} {D : va_G} {f : Nat → va_E} {mk q : Nat} {ad : Nat → Nat} {n : Nat} {g : Nat → Int32} (hm : mk_ok L mk ad n) (hq : q ∉ L) : va_up (va_up (mk_F D f mk ad n g) q (.inr (mk_kc (g (8 + n)), mk_st g n))) (ad 1) (.inl (D.1 15, 6, .inr (.inr (.inr (.inr (va_up (mk_rr ad n) n (some q))))))) = mk_F D f mk (va_up ad (2 + n) q) (n + 1) g := by
  have hm' := mk_ok_grow hm hq
  have hne : ∀ k, k < n + 2 → ad k ≠ q := fun k hk e => hq (by rw [← e]; exact (hm.2.1 k hk).1)
  have hqm : q ≠ mk := fun e => hq (by rw [e]; exact hm.1)
  have hfs : mk_fs (va_up ad (2 + n) q) g = mk_fs ad g := by
    simp only [mk_fs]
    rw [va_up_ne _ _ (by omega), va_up_ne _ _ (by omega)]
  have hrr : mk_rr (va_up ad (2 + n) q) (n + 1) = va_up (mk_rr ad n) n (some q) := by
    funext j
    simp only [mk_rr, va_up]
    by_cases e : j = n
    · subst e; rw [if_pos (by omega), if_pos rfl, if_pos rfl]
    · rw [if_neg e]
      by_cases h : j < n
      · rw [if_pos h, if_pos (by omega), if_neg (by omega)]
      · rw [if_neg h, if_neg (by omega)]
  funext a
  by_cases ha : a = mk
  · subst ha
    rw [va_up_ne _ _ (fun e => (hm.2.1 1 (by omega)).2 e.symm), va_up_ne _ _ (fun e => hqm e.symm), mk_at0, mk_at0, hfs]
  · by_cases h1 : a = ad 1
    · subst h1
      rw [va_up_self]
      have := mk_atk hm' D f g (k := 1) (by omega)
      rw [va_up_ne _ _ (by omega)] at this
      rw [this, mk_e, hrr]
    · rw [va_up_ne _ _ h1]
      by_cases h2 : a = q
      · subst h2
        rw [va_up_self]
        have := mk_atk hm' D f g (k := 2 + n) (by omega)
        rw [va_up_self] at this
        rw [this, Nat.add_comm 2 n]
        rfl
      · rw [va_up_ne _ _ h2]
        by_cases hx : ∃ k, k < n + 2 ∧ ad k = a
        · obtain ⟨k, hk, rfl⟩ := hx
          have h3 := mk_atk hm' D f g (k := k) (by omega)
          rw [va_up_ne _ _ (by omega)] at h3
          rw [mk_atk hm D f g hk, h3]
          match k with
          | 0 => rfl
          | 1 => exact absurd rfl h1
          | k + 2 => rfl
        · rw [mk_out ha (fun j hj e => hx ⟨j, hj, e⟩), mk_out ha (fun j hj e => ?_)]
          by_cases e1 : j = 2 + n
          · subst e1; rw [va_up_self] at e; exact h2 e.symm
          · rw [va_up_ne _ _ e1] at e; exact hx ⟨j, by omega, e⟩
section HG
variable {p : Program} {l : Launch} {e : Env} {R : Room} {s : State} {m : MethodId} {args : Array Value} {below : List Frame} {meth : Method} {c : Code} {H : Heap} {locs : List Loc} {cells slots : Nat} {Q : State → Prop}
variable {cc : ByteArray} {nL : Nat} {Ts : List Cond} {own : String} {D : va_G} {b0 : Nat} {L : List Nat} {f : Nat → va_E} {pc : Nat} {ls : Array Slot} {rest st : List Value} {a : Nat} {mk : Nat} {ad : Nat → Nat} {n : Nat} {g : Nat → Int32}
/-- a number of the market itself set: slack, ropes, count -/
theorem mk_putN (X : hg_C p s m args c cc nL Ts own D b0) (w : hg_W D b0 L (mk_F D f mk ad n g) s.heap H locs) (hm : mk_ok L mk ad n) (hin : ∀ w ∈ wsX30, w ∈ Ts) {index : Nat} (k : Nat) (hk : k = 1 ∨ k = 2 ∨ k = 3) (hlink : Cond.fieldLink own index RX3 (TX3 k).2.1 (TX3 k).2.2.1 ∈ Ts) {v : Int32} (hdg : decode cc pc = .ok (.putfield index, 3))
    (kk : ∀ (H1 : Heap) (locs1 : List Loc), hg_W D b0 L (mk_F D f mk ad n (va_up g k v)) s.heap H1 locs1 → W p l e R s m args below meth c H1 locs1 cells slots Q (F0 m (pc + 3) ls rest)) : W p l e R s m args below meth c H locs cells slots Q (F0 m pc ls (.int v :: .ref mk :: rest)) := by
  have h6 : k < 6 := by omega
  refine hg_put (C := RX3) (T := TX3) (N := 6) (ty0 := tyX3) (ci := 2) X w hm.1 (mk_at0 D f mk ad n g) hin tyX3_ok nmX3 rfl k h6 hlink (Or.inl ?_) ?_ ?_ ?_ (by show k < 6; exact h6) hdg (fun H1 locs1 w1 => kk H1 locs1 ?_)
  · rcases hk with rfl | rfl | rfl <;> rfl
  · rcases hk with rfl | rfl | rfl <;> rfl
  · rcases hk with rfl | rfl | rfl <;> rfl
  · rcases hk with rfl | rfl | rfl <;> rfl
  · have e1 : (mk_fs ad g).set k (.int v) = mk_fs ad (va_up g k v) := by rcases hk with rfl | rfl | rfl <;> rfl
    rw [e1, mk_up0 (fun q hq => by
      match q with
      | 0 => show Sum.inl _ = Sum.inl _; rw [mk_ta_up _ _ (by omega)]
      | 1 => rfl
      | q + 2 =>
        show Sum.inr (mk_kc _, mk_st _ q) = Sum.inr (mk_kc _, mk_st g q)
        rw [mk_st_up _ _ (by omega), va_up_ne _ _ (by omega)])] at w1
    exact w1
end HG
/-- a market with no rope and no stall -/
def mk_g0 (low slack : Int32) : Nat → Int32 := fun j => if j = 0 then low else if j = 1 then slack else 0
def mk_a2 (q1 q2 : Nat) : Nat → Nat := fun k => if k = 0 then q1 else q2
theorem mk_ok_0 {L : List Nat} {a q1 q2 : Nat} (ha : a ∈ L) (h1 : q1 ∉ L) (h2 : q2 ∉ L ++ [q1]) : mk_ok (L ++ [q1, q2]) a (mk_a2 q1 q2) 0 := by
  have h3 : q2 ∉ L := fun z => h2 (List.mem_append_left _ z)
  have h4 : q1 ≠ q2 := fun z => h2 (List.mem_append_right _ (by simp [z]))
  refine ⟨List.mem_append_left _ ha, fun k hk => ?_, fun k hk j hj e => ?_⟩
  · rcases (show k = 0 ∨ k = 1 by omega) with rfl | rfl
    · exact ⟨by simp [mk_a2], fun z => h1 (by rw [show q1 = a from z]; exact ha)⟩
    · exact ⟨by simp [mk_a2], fun z => h3 (by rw [show q2 = a from z]; exact ha)⟩
  · rcases (show k = 0 ∨ k = 1 by omega) with rfl | rfl <;> rcases (show j = 0 ∨ j = 1 by omega) with rfl | rfl
    · rfl
    · exact absurd (show q1 = q2 from e) h4
    · exact absurd (show q2 = q1 from e).symm h4
    · rfl
/-- three cells that make such a market, with numbers g -/
theorem mk_three {L : List Nat} {D : va_G} {f : Nat → va_E} {a q1 q2 : Nat} {g : Nat → Int32} {t : Nat → Int32} (hm : mk_ok (L ++ [q1, q2]) a (mk_a2 q1 q2) 0) (ht : t = mk_ta g) : va_up (va_up (va_up f a (.inr (2, [.int (g 0), .int (g 1), .int (g 2), .int (g 3), .ref q1, .ref q2]))) q1 (.inl (D.1 11, 3, .inl t))) q2 (.inl (D.1 15, 6, .inr (.inr (.inr (.inr (fun _ => none)))))) = mk_F D f a (mk_a2 q1 q2) 0 g := by
  have h0 := mk_atk hm D f g (k := 0) (by omega)
  have h1 := mk_atk hm D f g (k := 1) (by omega)
  have n0 : q1 ≠ a := (hm.2.1 0 (by omega)).2
  have n1 : q2 ≠ a := (hm.2.1 1 (by omega)).2
  have n2 : q1 ≠ q2 := fun z => absurd (hm.2.2 0 (by omega) 1 (by omega) z) (by decide)
  have hr : mk_rr (mk_a2 q1 q2) 0 = fun _ => none := by funext j; simp [mk_rr]
  funext x
  by_cases e2 : x = q2
  · subst e2
    rw [va_up_self]
    have h1 : mk_F D f a (mk_a2 q1 x) 0 g x = mk_e D (mk_a2 q1 x) 0 g 1 := h1
    rw [h1, mk_e, hr]
  · rw [va_up_ne _ _ e2]
    by_cases e1 : x = q1
    · subst e1
      rw [va_up_self]
      have h0 : mk_F D f a (mk_a2 x q2) 0 g x = mk_e D (mk_a2 x q2) 0 g 0 := h0
      rw [h0, mk_e, ht]
    · rw [va_up_ne _ _ e1]
      by_cases e0 : x = a
      · subst e0
        rw [va_up_self, mk_at0]
        rfl
      · rw [va_up_ne _ _ e0, mk_out e0 (fun j hj z => ?_)]
        rcases (show j = 0 ∨ j = 1 by omega) with rfl | rfl
        · exact e1 z.symm
        · exact e2 z.symm
theorem mk_ta_cpy (g : Nat → Int32) : va_cpy (mk_ta g) (fun _ => 0) 0 0 3 = mk_ta g := by
  funext j
  simp only [va_cpy, mk_ta]
  by_cases h : j < 3
  · rw [if_pos (by omega), if_pos h, if_pos (by omega)]; congr 1; omega
  · rw [if_neg (by omega), if_neg h]
theorem mk_H_over {L : List Nat} {D : va_G} {F : Nat → va_E} {mk q0 : Nat} {ad ad' : Nat → Nat} {n n' : Nat} {g g' : Nat → Int32} (hm : mk_ok L mk ad n) (h : mk_H D F mk ad n g) (hq : q0 ∉ L) (ha : ∀ j, j < n' + 2 → ad' j ∉ L) : mk_H D (mk_F D F q0 ad' n' g') mk ad n g :=
  mk_H_of h (mk_out (fun e => hq (by rw [← e]; exact hm.1)) (fun j hj e => ha j hj (by rw [e]; exact hm.1))) (fun k hk => mk_out (fun e => hq (by rw [← e]; exact (hm.2.1 k hk).1)) (fun j hj e => ha j hj (by rw [e]; exact (hm.2.1 k hk).1)))
/-- the strands copied: a twin of no stalls -/
theorem mk_tw {L : List Nat} {D : va_G} {F : Nat → va_E} {q0 : Nat} {ad : Nat → Nat} {G g : Nat → Int32} (hm : mk_ok L q0 ad 0) (h0 : G 0 = g 0) (h1 : G 1 = g 1) (h2 : G 2 = g 2) (h3 : G 3 = g 3) : va_up (mk_F D F q0 ad 0 G) (ad 0) (.inl (D.1 11, 3, .inl (va_cpy (mk_ta g) (mk_ta G) 0 0 3))) = mk_F D F q0 ad 0 g := by
  have e : va_cpy (mk_ta g) (mk_ta G) 0 0 3 = mk_ta g := by
    funext j
    simp only [va_cpy, mk_ta]
    by_cases h : j < 3
    · rw [if_pos (by omega), if_pos h, if_pos (by omega)]; congr 1; omega
    · rw [if_neg (by omega), if_neg h, if_neg h]
  rw [e]
  refine mk_upk hm (k := 0) (by omega) ?_ (fun j hj hne => ?_)
  · simp only [mk_fs, h0, h1, h2, h3]
  · rw [show j = 1 by omega]; rfl
theorem al_uc {f : Nat → va_E} {a b : Nat} {x y : va_E} (h : a ≠ b) : va_up (va_up f a x) b y = va_up (va_up f b y) a x := by
  funext j
  simp only [va_up]
  by_cases h1 : j = a
  · subst h1; rw [if_neg h, if_pos rfl]; simp
  · by_cases h2 : j = b
    · subst h2; simp [h1]
    · simp [h1, h2]
theorem al_cast {D : va_G} {s : State} (hK : hg_K D s) {ci : Nat} (hci : al_five ci) : ∃ r : vw_C, vwCl[ci]? = some r ∧ va_Nw (.castable r.1 "HungStalls$Stall") s := by
  rcases hci with rfl | rfl | rfl | rfl | rfl
  · exact ⟨_, rfl, hK.2.2.1 ("HungStalls$Table", "HungStalls$Stall") (List.mem_of_getElem? (i := 3) rfl)⟩
  · exact ⟨_, rfl, hK.2.2.1 ("HungStalls$Jeweller", "HungStalls$Stall") (List.mem_of_getElem? (i := 1) rfl)⟩
  · exact ⟨_, rfl, hK.2.2.1 ("HungStalls$Butcher", "HungStalls$Stall") (List.mem_of_getElem? (i := 0) rfl)⟩
  · exact ⟨_, rfl, hK.2.2.1 ("HungStalls$Notary", "HungStalls$Stall") (List.mem_of_getElem? (i := 2) rfl)⟩
  · exact ⟨_, rfl, hK.2.2.1 ("HungStalls$Vulture", "HungStalls$Stall") (List.mem_of_getElem? (i := 4) rfl)⟩
/-- one stall more -/
def mk_as (g : Nat → Int32) (n : Nat) (sort rope place goods : Int32) : Nat → Int32 := fun j =>
  if j = 3 then nI (n + 1) else if j = 8 + n then sort else if j = 14 + n then rope else if j = 20 + n then place else if j = 26 + n then goods else if j = 32 + n ∨ j = 38 + n ∨ j = 44 + n then 0 else g j
theorem mk_as_o (g : Nat → Int32) {n j : Nat} (sort rope place goods : Int32) (h : j ≠ 3 ∧ j ≠ 8 + n ∧ j ≠ 14 + n ∧ j ≠ 20 + n ∧ j ≠ 26 + n ∧ j ≠ 32 + n ∧ j ≠ 38 + n ∧ j ≠ 44 + n) : mk_as g n sort rope place goods j = g j := by
  obtain ⟨h1, h2, h3, h4, h5, h6, h7, h8⟩ := h
  unfold mk_as
  rw [if_neg h1, if_neg h2, if_neg h3, if_neg h4, if_neg h5, if_neg (by omega)]
theorem mk_as_s (g : Nat → Int32) {n : Nat} (hn : n < 6) (sort rope place goods : Int32) : mk_as g n sort rope place goods (8 + n) = sort ∧ mk_st (mk_as g n sort rope place goods) n = [.int (nI n), .int rope, .int place, .int goods, .int 0, .int 0, .int 0] := by
  have e8 : mk_as g n sort rope place goods (8 + n) = sort := by unfold mk_as; rw [if_neg (by omega), if_pos rfl]
  have e14 : mk_as g n sort rope place goods (14 + n) = rope := by unfold mk_as; rw [if_neg (by omega), if_neg (by omega), if_pos rfl]
  have e20 : mk_as g n sort rope place goods (20 + n) = place := by unfold mk_as; rw [if_neg (by omega), if_neg (by omega), if_neg (by omega), if_pos rfl]
  have e26 : mk_as g n sort rope place goods (26 + n) = goods := by unfold mk_as; rw [if_neg (by omega), if_neg (by omega), if_neg (by omega), if_neg (by omega), if_pos rfl]
  have e32 : mk_as g n sort rope place goods (32 + n) = 0 := by unfold mk_as; rw [if_neg (by omega), if_neg (by omega), if_neg (by omega), if_neg (by omega), if_neg (by omega), if_pos (by omega)]
  have e38 : mk_as g n sort rope place goods (38 + n) = 0 := by unfold mk_as; rw [if_neg (by omega), if_neg (by omega), if_neg (by omega), if_neg (by omega), if_neg (by omega), if_pos (by omega)]
  have e44 : mk_as g n sort rope place goods (44 + n) = 0 := by unfold mk_as; rw [if_neg (by omega), if_neg (by omega), if_neg (by omega), if_neg (by omega), if_neg (by omega), if_pos (by omega)]
  exact ⟨e8, by simp only [mk_st, e14, e20, e26, e32, e38, e44]⟩
theorem mk_addS {L : List Nat} {D : va_G} {f : Nat → va_E} {mk q : Nat} {ad : Nat → Nat} {n : Nat} {g : Nat → Int32} (hm : mk_ok L mk ad n) (hq : q ∉ L) (hn : n < 6) (h3 : g 3 = nI n) (sort rope place goods : Int32) : va_up (va_up (va_up (mk_F D f mk ad n g) q (.inr (mk_kc sort, [.int (g 3), .int rope, .int place, .int goods, .int 0, .int 0, .int 0]))) (ad 1) (.inl (D.1 15, 6, .inr (.inr (.inr (.inr (va_up (mk_rr ad n) n (some q)))))))) mk (.inr (2, [.int (g 0), .int (g 1), .int (g 2), .int (g 3 + 1), .ref (ad 0), .ref (ad 1)])) = mk_F D f mk (va_up ad (2 + n) q) (n + 1) (mk_as g n sort rope place goods) := by
  have hqm : q ≠ mk := fun e => hq (by rw [e]; exact hm.1)
  obtain ⟨e8, est⟩ := mk_as_s g hn sort rope place goods
  have hfs : [.int (g 0), .int (g 1), .int (g 2), .int (g 3 + 1), .ref (ad 0), .ref (ad 1)] = mk_fs ad (mk_as g n sort rope place goods) := by
    simp only [mk_fs]
    rw [mk_as_o g sort rope place goods (j := 0) (by omega), mk_as_o g sort rope place goods (j := 1) (by omega), mk_as_o g sort rope place goods (j := 2) (by omega), h3, nI_1]
    rfl
  rw [al_uc (hm.2.1 1 (by omega)).2, al_uc hqm, hfs, mk_up0 (fun j hj => ?_), h3, ← mk_grow hm hq, e8, est]
  match j with
  | 0 =>
    show Sum.inl _ = Sum.inl _
    have : mk_ta (mk_as g n sort rope place goods) = mk_ta g := by
      funext r
      simp only [mk_ta]
      by_cases h : r < 3
      · rw [if_pos h, if_pos h, mk_as_o g sort rope place goods (by omega)]
      · rw [if_neg h, if_neg h]
    rw [this]
  | 1 => rfl
  | i + 2 =>
    show Sum.inr (mk_kc _, mk_st _ i) = Sum.inr (mk_kc _, mk_st g i)
    simp only [mk_st]
    rw [mk_as_o g sort rope place goods (j := 8 + i) (by omega), mk_as_o g sort rope place goods (j := 14 + i) (by omega), mk_as_o g sort rope place goods (j := 20 + i) (by omega), mk_as_o g sort rope place goods (j := 26 + i) (by omega), mk_as_o g sort rope place goods (j := 32 + i) (by omega), mk_as_o g sort rope place goods (j := 38 + i) (by omega), mk_as_o g sort rope place goods (j := 44 + i) (by omega)]
