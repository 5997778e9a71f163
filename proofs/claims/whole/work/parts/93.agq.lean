section AGQ
variable {C M : Nat → Nat → Int32} {t p : Nat}
theorem ag_rope_p (S : ps_S) {g : Nat → Int32} {nr : Nat} (hk : ag_K C M S.2.1) (ht : M 9 0 = nI t) (ht1 : t ≤ 100) (hp : S.2.1 ≤ t) (hg : S.1 = g) (h2 : g 2 = nI nr) (h3 : nr ≤ 3) (hl : nr = 3 → hs_byte M S.2.1 = 108) : ag_o (cr_rope C g) M (ps_rope M S) ∧ (¬ (ps_rope M S).1 = 0 → (ps_rope M S).2.1 = va_up (va_up g (5 + nr) (cr_r2 C g).1) 2 (nI (nr + 1)) ∧ nr < 3) := by
  have hro : ps_ro S = nr := by rw [ps_ro, hg, h2]; exact nI_clamp (by omega)
  have hp' : C 24 0 = nI S.2.1 := hk.2.1
  have p1 : (pr1 M S).2.1 ≤ t := ps_takes_le ht ht1 (by decide) hp
  have p2 : (pr2 M S).2.1 ≤ t := ps_num_le ht ht1 p1
  by_cases c3 : nr = 3
  · have hb := hl c3
    have e3 : S.1 2 = 3 := by rw [hg, h2, c3]; rfl
    have e1 : ¬ (ps_takes M 108 S).1 = 0 := by
      unfold ps_takes
      rw [if_pos hb]
      show ¬ (1 : Int32) = 0
      decide
    have e0 : cr_r0 C g = mk_tf C 3 (nI S.2.1) := by
      unfold cr_r0
      rw [if_pos (by rw [← hg]; exact e3), hp']
    have hf : ag_f (cr_r0 C g) 3 S.2.1 := by rw [e0]; exact ag_tf_k hk (by decide)
    have hF : ag_f (cr_rope C g) 3 S.2.1 := by
      unfold cr_rope cr_r2 cr_r1
      exact ag_pass_f (ag_num_f (ag_pass_f hf))
    have es : (pr1 M S).2.2.1 = S.2.1 := by
      unfold pr1 ps_takes
      rw [if_pos hb]
    unfold ps_rope
    rw [if_neg e1, if_pos e3]
    refine ⟨ag_o_n ?_, ag_no⟩
    show ag_f (cr_rope C g) 3 (pr1 M S).2.2.1
    rw [es]
    exact hF
  · have n3 : ¬ g 2 = 3 := by rw [h2]; exact fun z => c3 ((nI_eq (b := 3) (by omega) (by omega)).mp z)
    have n3' : ¬ S.1 2 = 3 := by rw [hg]; exact n3
    have e0 : cr_r0 C g = C := by unfold cr_r0; rw [if_neg n3]
    have a1 : ag_o (cr_r1 C g) M (ps_takes M 108 S) := by
      unfold cr_r1
      rw [e0]
      exact ag_takes S hk ht ht1 hp (by decide) (by decide)
    have f1 : (ps_takes M 108 S).2 = pr1 M S := rfl
    have f2 : (ps_num M 1 20 (pr1 M S)).2 = pr2 M S := rfl
    have t2 : ∀ S' : ps_S, ag_ff2 (cr_r2 C g).2 S' → ag_ff2 (cr_rope C g) S' := fun S' h => by unfold cr_rope; exact ag_ff_p h
    have t1 : ∀ S' : ps_S, ag_ff2 (cr_r1 C g) S' → ag_ff2 (cr_r2 C g).2 S' := fun S' h => by unfold cr_r2; exact ag_ff_n h
    unfold ps_rope
    by_cases c1 : (ps_takes M 108 S).1 = 0
    · rw [if_pos c1]
      exact ⟨ag_o_n (t2 _ (t1 _ (ag_o_0 f1 a1 c1))), ag_no⟩
    rw [if_neg c1, if_neg n3']
    have hk1 : ag_K (cr_r1 C g) M (pr1 M S).2.1 := ag_o_1 f1 a1 c1
    obtain ⟨a2, v2⟩ := ag_num (pr1 M S) hk1 ht ht1 p1 1 20
    have a2 : ag_o (cr_r2 C g).2 M (ps_num M 1 20 (pr1 M S)) := a2
    by_cases c2 : (ps_num M 1 20 (pr1 M S)).1 = 0
    · rw [if_pos c2]
      exact ⟨ag_o_n (t2 _ (ag_o_0 f2 a2 c2)), ag_no⟩
    rw [if_neg c2]
    have hk2 : ag_K (cr_r2 C g).2 M (pr2 M S).2.1 := ag_o_1 f2 a2 c2
    have w2 : (cr_r2 C g).1 = (pr2 M S).2.2.2.2 := v2 c2
    have e2 : (pr2 M S).1 = g := (ps_num_h _ _ _ _).trans ((ps_takes_h _ _ _).trans hg)
    refine ⟨?_, fun _ => ⟨?_, by omega⟩⟩
    · unfold cr_rope
      exact ag_takes (ps_set (ps_set (pr2 M S) (5 + ps_ro S) (pr2 M S).2.2.2.2) 2 (nI (ps_ro S + 1))) hk2 ht ht1 (ps_set_le (ps_set_le p2)) (by decide) (by decide)
    · rw [ps_takes_h, ps_set_1, ps_set_1, e2, hro, w2]
theorem ag_kind (c : Int32) : (hs_sort c = 0 ∧ mk_kind c = hs_NONE) ∨ (¬ hs_sort c = 0 ∧ mk_kind c = hs_sort c ∧ ¬ mk_kind c = hs_NONE) := by
  unfold hs_sort mk_kind
  by_cases c1 : c = 116
  · rw [if_pos c1, if_pos c1]; exact Or.inr ⟨by decide, rfl, by decide⟩
  rw [if_neg c1, if_neg c1]
  by_cases c2 : c = 106
  · rw [if_pos c2, if_pos c2]; exact Or.inr ⟨by decide, rfl, by decide⟩
  rw [if_neg c2, if_neg c2]
  by_cases c3 : c = 98
  · rw [if_pos c3, if_pos c3]; exact Or.inr ⟨by decide, rfl, by decide⟩
  rw [if_neg c3, if_neg c3]
  by_cases c4 : c = 110
  · rw [if_pos c4, if_pos c4]; exact Or.inr ⟨by decide, rfl, by decide⟩
  rw [if_neg c4, if_neg c4]
  by_cases c5 : c = 118
  · rw [if_pos c5, if_pos c5]; exact Or.inr ⟨by decide, rfl, by decide⟩
  rw [if_neg c5, if_neg c5]
  exact Or.inl ⟨rfl, rfl⟩
theorem ag_f_24 {f v : Int32} {q : Nat} (h : ag_f C f q) : ag_f (mo_w C 24 0 v) f q := h
theorem ag_who_c {g h : Nat → Int32} {rope place : Int32} : ∀ n, (∀ k, k < n → h (14 + k) = g (14 + k) ∧ h (20 + k) = g (20 + k)) → hs_who h rope place n = hs_who g rope place n := by
  intro n
  induction n with
  | zero => intro _; rfl
  | succ n ih =>
    intro e
    have e1 := e n (by omega)
    show (if h (14 + n) = rope ∧ h (20 + n) = place then nI n else hs_who h rope place n) = (if g (14 + n) = rope ∧ g (20 + n) = place then nI n else hs_who g rope place n)
    rw [ih (fun k hk => e k (by omega)), e1.1, e1.2]
theorem ag_num_s (M : Nat → Nat → Int32) (lo hi : Int32) (S : ps_S) : (ps_num M lo hi S).2.2.2.1 = S.2.1 := by
  unfold ps_num
  split <;> rfl
/-- the fault of a number that is read but too small, too large, or taken, is 2 -/
theorem ag_num_2 {M : Nat → Nat → Int32} {lo hi : Int32} {S : ps_S} (h : ¬ (ps_num M lo hi S).1 = 0) : (ps_num M lo hi S).2.2.2.2.1 = 2 := by
  unfold ps_num at h ⊢
  by_cases c : hs_n M S.2.1 = 0 ∨ 2 < hs_n M S.2.1
  · rw [if_pos c] at h; exact absurd rfl h
  · rw [if_neg c]
theorem ag_as_e {g : Nat → Int32} {n : Nat} (hn : n < 6) (h0 : g (32 + n) = 0 ∧ g (38 + n) = 0 ∧ g (44 + n) = 0) (sort rope place goods : Int32) : va_up (va_up (va_up (va_up (va_up g (8 + n) sort) (14 + n) rope) (20 + n) place) (26 + n) goods) 3 (nI (n + 1)) = mk_as g n sort rope place goods := by
  funext j
  unfold mk_as
  by_cases c1 : j = 3
  · rw [c1, va_up_self, if_pos rfl]
  rw [va_up_ne _ _ c1, if_neg c1]
  by_cases c5 : j = 26 + n
  · rw [c5, va_up_self, if_neg (by omega), if_neg (by omega), if_neg (by omega), if_pos rfl]
  rw [va_up_ne _ _ c5]
  by_cases c4 : j = 20 + n
  · rw [c4, va_up_self, if_neg (by omega), if_neg (by omega), if_pos rfl]
  rw [va_up_ne _ _ c4]
  by_cases c3 : j = 14 + n
  · rw [c3, va_up_self, if_neg (by omega), if_pos rfl]
  rw [va_up_ne _ _ c3]
  by_cases c2 : j = 8 + n
  · rw [c2, va_up_self, if_pos rfl]
  rw [va_up_ne _ _ c2, if_neg c2, if_neg c3, if_neg c4, if_neg c5]
  by_cases c6 : j = 32 + n ∨ j = 38 + n ∨ j = 44 + n
  · rw [if_pos c6]
    rcases c6 with c | c | c
    · rw [c]; exact h0.1
    · rw [c]; exact h0.2.1
    · rw [c]; exact h0.2.2
  · rw [if_neg c6]
theorem ag_itn {α : Type} {P : Prop} [Decidable P] {X Y : α} (R : α → Prop) (h : ¬ P) (k : R Y) : R (if P then X else Y) := by rw [if_neg h]; exact k
theorem ag_ity {α : Type} {P : Prop} [Decidable P] {X Y : α} (R : α → Prop) (h : P) (k : R X) : R (if P then X else Y) := by rw [if_pos h]; exact k
theorem ag_vv {X : Int32 × ps_S} {S' : ps_S} {x : Int32} (e : X.2 = S') (h : x = ps_v X.2) : x = S'.2.2.2.2 := by subst e; exact h
def ag_R (C M : Nat → Nat → Int32) (g : Nat → Int32) (n : Nat) (X : Int32 × ps_S) : Prop := ag_o (cr_s C g n) M X ∧ (¬ X.1 = 0 → X.2.1 = mk_as g n (cr_k C) (cr_c C g).1 (cr_e C g).1 (cr_h C g n).1 ∧ n < 6)
theorem ag_R0 {C M : Nat → Nat → Int32} {g : Nat → Int32} {n : Nat} {S' : ps_S} (h : ag_ff2 (cr_s C g n) S') : ag_R C M g n (0, S') := ⟨ag_o_n h, ag_no⟩
theorem ag_stall_p (S : ps_S) {g : Nat → Int32} {n : Nat} (hk : ag_K C M S.2.1) (ht : M 9 0 = nI t) (ht1 : t ≤ 100) (hp : S.2.1 ≤ t) (hg : S.1 = g) (h3 : g 3 = nI n) (h6 : n ≤ 6) (h0 : n < 6 → g (32 + n) = 0 ∧ g (38 + n) = 0 ∧ g (44 + n) = 0) : ag_R C M g n (ps_stall M S) := by
  have hst : ps_st S = n := by rw [ps_st, hg, h3]; exact nI_clamp (by omega)
  have hp' : C 24 0 = nI S.2.1 := hk.2.1
  have t_h : ∀ S' : ps_S, ag_ff2 (cr_h C g n).2 S' → ag_ff2 (cr_s C g n) S' := fun S' h => by unfold cr_s; exact ag_ff_p h
  have t_g : ∀ S' : ps_S, ag_ff2 (cr_g C g n) S' → ag_ff2 (cr_s C g n) S' := fun S' h => t_h S' (by unfold cr_h; exact ag_ff_n h)
  have t_f : ∀ S' : ps_S, ag_ff2 (cr_f C g n) S' → ag_ff2 (cr_s C g n) S' := fun S' h => t_g S' (by unfold cr_g; exact ag_ff_p h)
  have t_e : ∀ S' : ps_S, ag_ff2 (cr_e C g).2 S' → ag_ff2 (cr_s C g n) S' := fun S' h => t_f S' (by
    unfold cr_f
    by_cases z : mk_std g (cr_c C g).1 (cr_e C g).1 n = none
    · rw [if_pos z]; exact h
    · rw [if_neg z]; exact ag_ff_t h)
  have t_d : ∀ S' : ps_S, ag_ff2 (cr_d C g) S' → ag_ff2 (cr_s C g n) S' := fun S' h => t_e S' (by unfold cr_e; exact ag_ff_n h)
  have t_c : ∀ S' : ps_S, ag_ff2 (cr_c C g).2 S' → ag_ff2 (cr_s C g n) S' := fun S' h => t_d S' (by unfold cr_d; exact ag_ff_p h)
  have t_a : ∀ S' : ps_S, ag_ff2 (cr_a C g) S' → ag_ff2 (cr_s C g n) S' := fun S' h => t_c S' (by
    have hb : ag_ff2 (cr_b C g) S' := by unfold cr_b; exact h
    unfold cr_c; exact ag_ff_n hb)
  have ek : cr_k C = mk_kind (mk_by C (nI S.2.1)) := by unfold cr_k; rw [hp']
  have kk : (hs_sort (hs_byte M S.2.1) = 0 ∧ cr_k C = hs_NONE) ∨ (¬ hs_sort (hs_byte M S.2.1) = 0 ∧ cr_k C = hs_sort (hs_byte M S.2.1) ∧ ¬ cr_k C = hs_NONE ∧ S.2.1 < t) := by
    rcases Nat.lt_or_ge S.2.1 t with z | z
    · rw [ek, ag_by_in hk ht ht1 z]
      rcases ag_kind (hs_byte M S.2.1) with h | h
      · exact Or.inl h
      · exact Or.inr ⟨h.1, h.2.1, h.2.2, z⟩
    · obtain ⟨e1, e2⟩ := ag_by_out hk ht ht1 z (by omega)
      rw [ek, e1, e2]
      exact Or.inl ⟨by decide, by decide⟩
  unfold ps_stall
  rcases kk with ⟨k1, k2⟩ | ⟨k1, k2, k3, hlt⟩
  · refine ag_ity (ag_R C M g n) k1 (ag_R0 (t_a _ ?_))
    show ag_f (cr_a C g) 1 S.2.1
    unfold cr_a
    rw [if_pos k2, hp']
    exact ag_tf_k hk (by decide)
  refine ag_itn (ag_R C M g n) k1 ?_
  by_cases c6 : n = 6
  · have e6 : S.1 3 = 6 := by rw [hg, h3, c6]; rfl
    refine ag_ity (ag_R C M g n) e6 (ag_R0 (t_a _ ?_))
    show ag_f (cr_a C g) 3 S.2.1
    unfold cr_a
    rw [if_neg k3, if_pos (by rw [← hg]; exact e6), hp']
    exact ag_tf_k hk (by decide)
  have hn : n < 6 := by omega
  have n6 : ¬ g 3 = 6 := by rw [h3]; exact fun z => c6 ((nI_eq (b := 6) (by omega) (by omega)).mp z)
  have ea : cr_a C g = C := by unfold cr_a; rw [if_neg k3, if_neg n6]
  have hkb : ag_K (cr_b C g) M (pt1 S).2.1 := by
    unfold cr_b
    rw [ea, hp', nI_1]
    exact ⟨hk.1, rfl, hk.2.2.1, hk.2.2.2⟩
  have n6' : ¬ S.1 3 = 6 := by rw [hg]; exact n6
  refine ag_itn (ag_R C M g n) n6' ?_
  have p1 : (pt1 S).2.1 ≤ t := pt1_le hlt
  have p2 : (pt2 M S).2.1 ≤ t := ps_set_le p1
  have p3 : (pt3 M S).2.1 ≤ t := ps_num_le ht ht1 p2
  have p4 : (pt4 M S).2.1 ≤ t := ps_set_le p3
  have p5 : (pt5 M S).2.1 ≤ t := ps_takes_le ht ht1 (by decide) p4
  have p6 : (pt6 M S).2.1 ≤ t := ps_num_le ht ht1 p5
  have p7 : (pt7 M S).2.1 ≤ t := ps_set_le p6
  have p8 : (pt8 M S).2.1 ≤ t := ps_takes_le ht ht1 (by decide) p7
  have p9 : (pt9 M S).2.1 ≤ t := ps_num_le ht ht1 p8
  have p10 : (pt10 M S).2.1 ≤ t := ps_set_le (ps_set_le p9)
  have g2 : (pt2 M S).1 = va_up g (8 + n) (cr_k C) := by unfold pt2; rw [ps_set_1, pt1_1, hg, hst, k2]
  -- the rope
  obtain ⟨a3, v3⟩ := ag_num (C := cr_b C g) (pt2 M S) hkb ht ht1 p2 0 (S.1 2 - 1)
  have ec : mk_number (cr_b C g) 0 (S.1 2 - 1) = cr_c C g := by unfold cr_c; rw [hg]
  rw [ec] at a3 v3
  have f3 : (ps_num M 0 (S.1 2 - 1) (pt2 M S)).2 = pt3 M S := rfl
  have f5 : (ps_takes M 44 (pt4 M S)).2 = pt5 M S := rfl
  have f6 : (ps_num M 1 8 (pt5 M S)).2 = pt6 M S := rfl
  have f8 : (ps_takes M 44 (pt7 M S)).2 = pt8 M S := rfl
  have f9 : (ps_num M 0 20 (pt8 M S)).2 = pt9 M S := rfl
  by_cases c3 : (ps_num M 0 (S.1 2 - 1) (pt2 M S)).1 = 0
  · exact ag_ity (ag_R C M g n) c3 (ag_R0 (t_c _ (ag_o_0 f3 a3 c3)))
  refine ag_itn (ag_R C M g n) c3 ?_
  have hkc : ag_K (cr_c C g).2 M (pt3 M S).2.1 := ag_o_1 f3 a3 c3
  have w3 : (cr_c C g).1 = (pt3 M S).2.2.2.2 := ag_vv f3 (v3 c3)
  have g3 : (pt3 M S).1 = va_up g (8 + n) (cr_k C) := (ps_num_h _ _ _ _).trans g2
  have g4 : (pt4 M S).1 = va_up (va_up g (8 + n) (cr_k C)) (14 + n) (cr_c C g).1 := by unfold pt4; rw [ps_set_1, g3, hst, w3]
  -- the comma
  have a5 : ag_o (cr_d C g) M (ps_takes M 44 (pt4 M S)) := by
    unfold cr_d
    exact ag_takes (pt4 M S) hkc ht ht1 p4 (by decide) (by decide)
  by_cases c5 : (ps_takes M 44 (pt4 M S)).1 = 0
  · exact ag_ity (ag_R C M g n) c5 (ag_R0 (t_d _ (ag_o_0 f5 a5 c5)))
  refine ag_itn (ag_R C M g n) c5 ?_
  have hkd : ag_K (cr_d C g) M (pt5 M S).2.1 := ag_o_1 f5 a5 c5
  have g5 : (pt5 M S).1 = va_up (va_up g (8 + n) (cr_k C)) (14 + n) (cr_c C g).1 := (ps_takes_h _ _ _).trans g4
  -- the place
  obtain ⟨a6, v6⟩ := ag_num (C := cr_d C g) (pt5 M S) hkd ht ht1 p5 1 8
  have ee : mk_number (cr_d C g) 1 8 = cr_e C g := rfl
  rw [ee] at a6 v6
  by_cases c7 : (ps_num M 1 8 (pt5 M S)).1 = 0
  · exact ag_ity (ag_R C M g n) c7 (ag_R0 (t_e _ (ag_o_0 f6 a6 c7)))
  refine ag_itn (ag_R C M g n) c7 ?_
  have hke : ag_K (cr_e C g).2 M (pt6 M S).2.1 := ag_o_1 f6 a6 c7
  have w6 : (cr_e C g).1 = (pt6 M S).2.2.2.2 := ag_vv f6 (v6 c7)
  have g6 : (pt6 M S).1 = va_up (va_up g (8 + n) (cr_k C)) (14 + n) (cr_c C g).1 := (ps_num_h _ _ _ _).trans g5
  have ew : hs_who (pt6 M S).1 ((pt6 M S).1 (14 + ps_st S)) (pt6 M S).2.2.2.2 (ps_st S) = hs_who g (cr_c C g).1 (cr_e C g).1 n := by
    rw [hst, g6, va_up_self, w6]
    refine ag_who_c n (fun k hk => ?_)
    rw [va_up_ne _ _ (by omega), va_up_ne _ _ (by omega), va_up_ne _ _ (by omega), va_up_ne _ _ (by omega)]
    exact ⟨rfl, rfl⟩
  rw [ew]
  have hw := ag_who_n (g := g) h6 (cr_c C g).1 (cr_e C g).1
  by_cases c8 : hs_who g (cr_c C g).1 (cr_e C g).1 n < 0
  · refine ag_ity (ag_R C M g n) c8 ?_
    have ef : cr_f C g n = (cr_e C g).2 := by unfold cr_f; rw [if_pos (hw.mpr c8)]
    have g7 : (pt7 M S).1 = va_up (va_up (va_up g (8 + n) (cr_k C)) (14 + n) (cr_c C g).1) (20 + n) (cr_e C g).1 := by unfold pt7; rw [ps_set_1, g6, hst, w6]
    have a8 : ag_o (cr_g C g n) M (ps_takes M 44 (pt7 M S)) := by
      unfold cr_g
      rw [ef]
      exact ag_takes (pt7 M S) hke ht ht1 p7 (by decide) (by decide)
    by_cases c9 : (ps_takes M 44 (pt7 M S)).1 = 0
    · exact ag_ity (ag_R C M g n) c9 (ag_R0 (t_g _ (ag_o_0 f8 a8 c9)))
    refine ag_itn (ag_R C M g n) c9 ?_
    have hkg : ag_K (cr_g C g n) M (pt8 M S).2.1 := ag_o_1 f8 a8 c9
    have g8 : (pt8 M S).1 = va_up (va_up (va_up g (8 + n) (cr_k C)) (14 + n) (cr_c C g).1) (20 + n) (cr_e C g).1 := (ps_takes_h _ _ _).trans g7
    obtain ⟨a9, v9⟩ := ag_num (C := cr_g C g n) (pt8 M S) hkg ht ht1 p8 0 20
    have eh : mk_number (cr_g C g n) 0 20 = cr_h C g n := rfl
    rw [eh] at a9 v9
    by_cases c10 : (ps_num M 0 20 (pt8 M S)).1 = 0
    · exact ag_ity (ag_R C M g n) c10 (ag_R0 (t_h _ (ag_o_0 f9 a9 c10)))
    refine ag_itn (ag_R C M g n) c10 ?_
    have hkh : ag_K (cr_h C g n).2 M (pt9 M S).2.1 := ag_o_1 f9 a9 c10
    have w9 : (cr_h C g n).1 = (pt9 M S).2.2.2.2 := ag_vv f9 (v9 c10)
    have g9 : (pt9 M S).1 = va_up (va_up (va_up g (8 + n) (cr_k C)) (14 + n) (cr_c C g).1) (20 + n) (cr_e C g).1 := (ps_num_h _ _ _ _).trans g8
    refine ⟨?_, fun _ => ⟨?_, hn⟩⟩
    · unfold cr_s
      exact ag_takes (pt10 M S) hkh ht ht1 p10 (by decide) (by decide)
    · rw [ps_takes_h]
      unfold pt10
      rw [ps_set_1, ps_set_1, g9, hst, ← w9]
      exact ag_as_e hn (h0 hn) _ _ _ _
  · refine ag_itn (ag_R C M g n) c8 (ag_R0 (t_f _ ?_))
    have s6 : (pt6 M S).2.2.1 = (pt5 M S).2.1 := ag_num_s M 1 8 (pt5 M S)
    have f62 : (pt6 M S).2.2.2.1 = 2 := ag_num_2 c7
    show ag_f (cr_f C g n) (pt6 M S).2.2.2.1 (pt6 M S).2.2.1
    rw [s6, f62]
    unfold cr_f
    rw [if_neg (fun z => c8 (hw.mp z)), hkd.2.1]
    exact ag_tf_k hke (by decide)
end AGQ
