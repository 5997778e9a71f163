/-! THE TAPE read both ways: the class goes on behind a fault, the first of them stays; the reference stops -/
/-- no fault yet, at p -/
def ag_K (C M : Nat → Nat → Int32) (p : Nat) : Prop := C 25 0 = 0 ∧ C 24 0 = nI p ∧ C 8 = M 8 ∧ C 9 = M 9
/-- a fault told -/
def ag_f (C : Nat → Nat → Int32) (f : Int32) (q : Nat) : Prop := C 25 0 = f ∧ ¬ f = 0 ∧ C 26 0 = nI q
theorem ag_tf_f {C : Nat → Nat → Int32} {f num pl : Int32} {q : Nat} (h : ag_f C f q) : ag_f (mk_tf C num pl) f q := by
  unfold mk_tf
  rw [if_neg (fun z => h.2.1 (h.1.symm.trans z))]
  exact h
theorem ag_tf_k {C M : Nat → Nat → Int32} {num : Int32} {p q : Nat} (h : ag_K C M p) (hn : ¬ num = 0) : ag_f (mk_tf C num (nI q)) num q := by
  unfold mk_tf
  rw [if_pos h.1]
  exact ⟨rfl, hn, rfl⟩
theorem ag_pass_f {C : Nat → Nat → Int32} {f x : Int32} {q : Nat} (h : ag_f C f q) : ag_f (mk_pass C x) f q := by
  unfold mk_pass
  rw [if_neg (fun z => h.2.1 (h.1.symm.trans z.1))]
  exact ag_tf_f h
theorem ag_n1_f {C : Nat → Nat → Int32} {f a b : Int32} {q : Nat} (h : ag_f C f q) : ag_f (mk_n1 C a b) f q := by
  unfold mk_n1
  by_cases c : mk_fk C (C 24 0) < 1 ∨ 2 < mk_fk C (C 24 0)
  · rw [if_pos c]; exact ag_tf_f h
  · rw [if_neg c]
    by_cases c2 : mk_nv C (C 24 0) (mk_fk C (C 24 0)) < a ∨ b < mk_nv C (C 24 0) (mk_fk C (C 24 0))
    · rw [if_pos c2]; exact ag_tf_f h
    · rw [if_neg c2]; exact h
theorem ag_num_f {C : Nat → Nat → Int32} {f a b : Int32} {q : Nat} (h : ag_f C f q) : ag_f (mk_number C a b).2 f q := by
  have h1 := ag_n1_f (a := a) (b := b) h
  unfold mk_number
  rw [if_neg (fun z => h1.2.1 (h1.1.symm.trans z))]
  exact h1
section AGP
variable {C M : Nat → Nat → Int32} {t p : Nat}
theorem ag_by_in (hk : ag_K C M p) (ht : M 9 0 = nI t) (ht1 : t ≤ 100) {q : Nat} (hq : q < t) : mk_by C (nI q) = hs_byte M q := by
  unfold mk_by hs_byte
  rw [hk.2.2.1, hk.2.2.2, ht, nI_clamp (by omega), nI_clamp (by omega), if_pos hq, if_neg]
  rintro (z | z | z)
  · exact nI_pos (n := q) (by omega) z
  · exact nI_ge hq (by omega) z
  · exact nI_ge (a := q) (b := 100) (by omega) (by omega) z
theorem ag_by_out (hk : ag_K C M p) (ht : M 9 0 = nI t) (ht1 : t ≤ 100) {q : Nat} (hq : t ≤ q) (hq2 : q < 2147483648) : mk_by C (nI q) = hs_NONE ∧ hs_byte M q = -1 := by
  unfold mk_by hs_byte
  have n1 : nI q < 0 ∨ nI t ≤ nI q ∨ 100 ≤ nI q := Or.inr (Or.inl (nI_le hq (by omega)))
  have n2 : ¬ q < t := by omega
  rw [hk.2.2.2, ht, nI_clamp (n := q) (by omega), nI_clamp (n := t) (by omega), if_pos n1, if_neg n2]
  exact ⟨rfl, rfl⟩
/-- no letter is -1 or NONE -/
theorem ag_by_eq (hk : ag_K C M p) (ht : M 9 0 = nI t) (ht1 : t ≤ 100) {q : Nat} (hq2 : q < 2147483648) {c : Int32} (h1 : ¬ c = -1) (h2 : ¬ c = hs_NONE) : mk_by C (nI q) = c ↔ hs_byte M q = c := by
  rcases Nat.lt_or_ge q t with z | z
  · rw [ag_by_in hk ht ht1 z]
  · obtain ⟨e1, e2⟩ := ag_by_out hk ht ht1 z hq2
    rw [e1, e2]
    exact ⟨fun y => absurd y.symm h2, fun y => absurd y.symm h1⟩
theorem ag_by_fig (hk : ag_K C M p) (ht : M 9 0 = nI t) (ht1 : t ≤ 100) {q : Nat} (hq2 : q < 2147483648) : hs_in (mk_by C (nI q)) 48 57 = hs_fig M q := by
  unfold hs_fig
  rcases Nat.lt_or_ge q t with z | z
  · rw [ag_by_in hk ht ht1 z]
  · obtain ⟨e1, e2⟩ := ag_by_out hk ht ht1 z hq2
    rw [e1, e2]
    decide
theorem ag_pass_k (hk : ag_K C M p) (ht : M 9 0 = nI t) (ht1 : t ≤ 100) (hp : p ≤ t) {c : Int32} (h1 : ¬ c = -1) (h2 : ¬ c = hs_NONE) : (hs_byte M p = c → ag_K (mk_pass C c) M (p + 1)) ∧ (¬ hs_byte M p = c → ag_f (mk_pass C c) 1 p) := by
  have e := ag_by_eq hk ht ht1 (q := p) (by omega) h1 h2
  have hp' : C 24 0 = nI p := hk.2.1
  refine ⟨fun z => ?_, fun z => ?_⟩
  · unfold mk_pass
    rw [hp', if_pos ⟨hk.1, e.mpr z⟩, nI_1]
    exact ⟨hk.1, rfl, hk.2.2.1, hk.2.2.2⟩
  · unfold mk_pass
    rw [hp', if_neg (fun y => z (e.mp y.2))]
    exact ag_tf_k hk (by decide)
theorem ag_nf_s (M : Nat → Nat → Int32) (p f : Nat) : hs_nf M p (f + 1) = if hs_fig M p = 0 then 0 else hs_nf M (p + 1) f + 1 := rfl
theorem ag_fk (hk : ag_K C M p) (ht : M 9 0 = nI t) (ht1 : t ≤ 100) (hp : p ≤ t) : mk_fk C (nI p) = min (hs_n M p) 3 := by
  have e : ∀ j, j < 4 → mk_fg C (nI p) j = hs_fig M (p + j) := by
    intro j hj
    unfold mk_fg
    rw [nI_add]
    exact ag_by_fig hk ht ht1 (by omega)
  unfold mk_fk hs_n
  rw [e 0 (by omega), e 1 (by omega), e 2 (by omega), ag_nf_s M p 101, Nat.add_zero]
  by_cases c0 : hs_fig M p = 0
  · rw [if_pos c0, if_pos c0]
    rfl
  rw [if_neg c0, if_neg c0, ag_nf_s M (p + 1) 100]
  by_cases c1 : hs_fig M (p + 1) = 0
  · rw [if_pos c1, if_pos c1]
    rfl
  rw [if_neg c1, if_neg c1, ag_nf_s M (p + 1 + 1) 99, show p + 1 + 1 = p + 2 by omega]
  by_cases c2 : hs_fig M (p + 2) = 0
  · rw [if_pos c2, if_pos c2]
    rfl
  rw [if_neg c2, if_neg c2]
  omega
theorem ag_fig_lt (ht : M 9 0 = nI t) (ht1 : t ≤ 100) {q : Nat} (h : ¬ hs_fig M q = 0) : q < t := by
  rcases Nat.lt_or_ge q t with z | z
  · exact z
  · exact absurd (hs_fig_end M ht ht1 z) h
theorem ag_nv (hk : ag_K C M p) (ht : M 9 0 = nI t) (ht1 : t ≤ 100) (hp : p ≤ t) : ∀ k, k ≤ 2 → k ≤ hs_n M p → mk_nv C (nI p) k = hs_val M p k := by
  have hn := hs_nf_ok M ht ht1 102 p (by omega)
  intro k
  induction k with
  | zero => intro _ _; rfl
  | succ k ih =>
    intro h2 hk2
    have hlt : p + k < t := ag_fig_lt ht ht1 (hn.1 k (Nat.lt_of_succ_le hk2))
    have e2 : hs_val M p (k + 1) = if 2 ≤ k then hs_val M p k else 10 * hs_val M p k + hs_byte M (p + k) - 48 := rfl
    rw [mk_nv, ih (by omega) (by omega), nI_add, ag_by_in hk ht ht1 hlt, e2, if_neg (by omega)]
theorem ag_num_k (hk : ag_K C M p) (ht : M 9 0 = nI t) (ht1 : t ≤ 100) (hp : p ≤ t) (lo hi : Int32) :
    ((hs_n M p = 0 ∨ 2 < hs_n M p) → ag_f (mk_number C lo hi).2 1 p) ∧ (¬ (hs_n M p = 0 ∨ 2 < hs_n M p) → hs_in (hs_val M p (hs_n M p)) lo hi = 0 → ag_f (mk_number C lo hi).2 2 p) ∧
    (¬ (hs_n M p = 0 ∨ 2 < hs_n M p) → ¬ hs_in (hs_val M p (hs_n M p)) lo hi = 0 → (mk_number C lo hi).1 = hs_val M p (hs_n M p) ∧ ag_K (mk_number C lo hi).2 M (p + hs_n M p)) := by
  have hf := ag_fk hk ht ht1 hp
  have hp' : C 24 0 = nI p := hk.2.1
  refine ⟨fun z => ?_, fun z y => ?_, fun z y => ?_⟩
  · have e1 : mk_n1 C lo hi = mk_tf C 1 (nI p) := by
      unfold mk_n1
      rw [hp', hf, if_pos (by omega)]
    have h1 : ag_f (mk_n1 C lo hi) 1 p := by rw [e1]; exact ag_tf_k hk (by decide)
    unfold mk_number
    rw [if_neg (fun q => h1.2.1 (h1.1.symm.trans q))]
    exact h1
  · have em : min (hs_n M p) 3 = hs_n M p := by omega
    have e1 : mk_n1 C lo hi = mk_tf C 2 (nI p) := by
      unfold mk_n1
      rw [hp', hf, em, if_neg (by omega), ag_nv hk ht ht1 hp _ (by omega) (Nat.le_refl _), if_pos]
      have := hs_in_0 y
      rcases Classical.em (lo ≤ hs_val M p (hs_n M p)) with q | q
      · exact Or.inr (Int32.not_le.mp (fun x => this ⟨q, x⟩))
      · exact Or.inl (Int32.not_le.mp q)
    have h1 : ag_f (mk_n1 C lo hi) 2 p := by rw [e1]; exact ag_tf_k hk (by decide)
    unfold mk_number
    rw [if_neg (fun q => h1.2.1 (h1.1.symm.trans q))]
    exact h1
  · have em : min (hs_n M p) 3 = hs_n M p := by omega
    have hv := ag_nv hk ht ht1 hp _ (by omega) (Nat.le_refl (hs_n M p))
    have e1 : mk_n1 C lo hi = C := by
      unfold mk_n1
      rw [hp', hf, em, if_neg (by omega), hv, if_neg]
      have := hs_in_1 y
      rintro (q | q)
      · exact absurd this.1 (Int32.not_le.mpr q)
      · exact absurd this.2 (Int32.not_le.mpr q)
    unfold mk_number
    rw [e1, if_pos hk.1, hp', hf, em, hv, nI_add]
    exact ⟨rfl, hk.1, rfl, hk.2.2.1, hk.2.2.2⟩
/-- what a piece gives: the reference says yes and both stand at one place, or no and both tell one fault -/
def ag_o (C M : Nat → Nat → Int32) (X : Int32 × ps_S) : Prop := (¬ X.1 = 0 ∧ ag_K C M X.2.2.1) ∨ (X.1 = 0 ∧ ag_f C X.2.2.2.2.1 X.2.2.2.1)
/-- a fault stays to the end of a piece -/
def ag_ff2 (C : Nat → Nat → Int32) (S : ps_S) : Prop := ag_f C S.2.2.2.1 S.2.2.1
theorem ag_o_0 {X : Int32 × ps_S} {S' : ps_S} (e : X.2 = S') (h : ag_o C M X) (h0 : X.1 = 0) : ag_ff2 C S' := by
  subst e
  rcases h with h | h
  · exact absurd h0 h.1
  · exact h.2
theorem ag_o_1 {X : Int32 × ps_S} {S' : ps_S} (e : X.2 = S') (h : ag_o C M X) (h0 : ¬ X.1 = 0) : ag_K C M S'.2.1 := by
  subst e
  rcases h with h | h
  · exact h.2
  · exact absurd h.1 h0
theorem ag_o_n {S' : ps_S} (h : ag_ff2 C S') : ag_o C M (0, S') := Or.inr ⟨rfl, h⟩
theorem ag_o_y {x f v : Int32} {h : Nat → Int32} {q s : Nat} (hx : ¬ x = 0) (k : ag_K C M q) : ag_o C M (x, h, q, s, f, v) := Or.inl ⟨hx, k⟩
theorem ag_o_z {x f v : Int32} {h : Nat → Int32} {q s : Nat} (hx : x = 0) (k : ag_f C f s) : ag_o C M (x, h, q, s, f, v) := Or.inr ⟨hx, k⟩
theorem ag_no {P : Prop} {S' : ps_S} : ¬ ((0 : Int32), S').1 = 0 → P := fun z => absurd rfl z
theorem ag_ff_p {S' : ps_S} {x : Int32} (h : ag_ff2 C S') : ag_ff2 (mk_pass C x) S' := ag_pass_f h
theorem ag_ff_n {S' : ps_S} {a b : Int32} (h : ag_ff2 C S') : ag_ff2 (mk_number C a b).2 S' := ag_num_f h
theorem ag_ff_t {S' : ps_S} {a b : Int32} (h : ag_ff2 C S') : ag_ff2 (mk_tf C a b) S' := ag_tf_f h
theorem ag_takes (S : ps_S) (hk : ag_K C M S.2.1) (ht : M 9 0 = nI t) (ht1 : t ≤ 100) (hp : S.2.1 ≤ t) {c : Int32} (h1 : ¬ c = -1) (h2 : ¬ c = hs_NONE) : ag_o (mk_pass C c) M (ps_takes M c S) := by
  obtain ⟨k1, k2⟩ := ag_pass_k hk ht ht1 hp h1 h2
  unfold ps_takes
  by_cases c : hs_byte M S.2.1 = c
  · rw [if_pos c]
    exact ag_o_y (by decide) (k1 c)
  · rw [if_neg c]
    exact ag_o_z rfl (k2 c)
theorem ag_num (S : ps_S) (hk : ag_K C M S.2.1) (ht : M 9 0 = nI t) (ht1 : t ≤ 100) (hp : S.2.1 ≤ t) (lo hi : Int32) : ag_o (mk_number C lo hi).2 M (ps_num M lo hi S) ∧ (¬ (ps_num M lo hi S).1 = 0 → (mk_number C lo hi).1 = ps_v (ps_num M lo hi S).2) := by
  obtain ⟨k1, k2, k3⟩ := ag_num_k hk ht ht1 hp lo hi
  unfold ps_num
  generalize mk_number C lo hi = N at k1 k2 k3 ⊢
  generalize hs_val M S.2.1 (hs_n M S.2.1) = v at k1 k2 k3 ⊢
  generalize hs_n M S.2.1 = m at k1 k2 k3 ⊢
  by_cases c : m = 0 ∨ 2 < m
  · rw [if_pos c]
    exact ⟨ag_o_z rfl (k1 c), ag_no⟩
  · rw [if_neg c]
    by_cases c2 : hs_in v lo hi = 0
    · exact ⟨ag_o_z c2 (k2 c c2), fun z => absurd c2 z⟩
    · obtain ⟨a1, a2⟩ := k3 c c2
      exact ⟨ag_o_y c2 a2, fun _ => a1⟩
theorem ag_l1 {S' : ps_S} (h : ag_ff2 (cr_l1 C) S') : ag_ff2 (cr_l2 C).2 S' := by unfold cr_l2; exact ag_ff_n h
theorem ag_l2 {S' : ps_S} (h : ag_ff2 (cr_l2 C).2 S') : ag_ff2 (cr_l3 C) S' := by unfold cr_l3; exact ag_ff_p h
theorem ag_l3 {S' : ps_S} (h : ag_ff2 (cr_l3 C) S') : ag_ff2 (cr_l4 C).2 S' := by unfold cr_l4; exact ag_ff_n h
theorem ag_l4 {S' : ps_S} (h : ag_ff2 (cr_l4 C).2 S') : ag_ff2 (cr_law C) S' := by unfold cr_law; exact ag_ff_p h
theorem ag_law (S : ps_S) (hk : ag_K C M S.2.1) (ht : M 9 0 = nI t) (ht1 : t ≤ 100) (hp : S.2.1 ≤ t) : ag_o (cr_law C) M (ps_law M S) ∧ (¬ (ps_law M S).1 = 0 → (ps_law M S).2.1 = va_up (va_up S.1 0 (cr_l2 C).1) 1 (cr_l4 C).1) := by
  have a1 : ag_o (cr_l1 C) M (ps_takes M 109 S) := ag_takes S hk ht ht1 hp (by decide) (by decide)
  have p1 : (pl1 M S).2.1 ≤ t := ps_takes_le ht ht1 (by decide) hp
  have p2 : (pl2 M S).2.1 ≤ t := ps_num_le ht ht1 p1
  have p3 : (pl3 M S).2.1 ≤ t := ps_takes_le ht ht1 (by decide) (ps_set_le p2)
  have p4 : (pl4 M S).2.1 ≤ t := ps_num_le ht ht1 p3
  have f1 : (ps_takes M 109 S).2 = pl1 M S := rfl
  have f2 : (ps_num M 0 99 (pl1 M S)).2 = pl2 M S := rfl
  have f3 : (ps_takes M 44 (ps_set (pl2 M S) 0 (pl2 M S).2.2.2.2)).2 = pl3 M S := rfl
  have f4 : (ps_num M 0 20 (pl3 M S)).2 = pl4 M S := rfl
  unfold ps_law
  by_cases c1 : (ps_takes M 109 S).1 = 0
  · rw [if_pos c1]
    have h1 : ag_ff2 (cr_l1 C) (pl1 M S) := ag_o_0 f1 a1 c1
    exact ⟨ag_o_n (ag_l4 (ag_l3 (ag_l2 (ag_l1 h1)))), ag_no⟩
  rw [if_neg c1]
  have k1 : ag_K (cr_l1 C) M (pl1 M S).2.1 := ag_o_1 f1 a1 c1
  obtain ⟨a2, v2⟩ := ag_num (pl1 M S) k1 ht ht1 p1 0 99
  have a2 : ag_o (cr_l2 C).2 M (ps_num M 0 99 (pl1 M S)) := a2
  by_cases c2 : (ps_num M 0 99 (pl1 M S)).1 = 0
  · rw [if_pos c2]
    have h2 : ag_ff2 (cr_l2 C).2 (pl2 M S) := ag_o_0 f2 a2 c2
    exact ⟨ag_o_n (ag_l4 (ag_l3 (ag_l2 h2))), ag_no⟩
  rw [if_neg c2]
  have k2 : ag_K (cr_l2 C).2 M (pl2 M S).2.1 := ag_o_1 f2 a2 c2
  have a3 : ag_o (cr_l3 C) M (ps_takes M 44 (ps_set (pl2 M S) 0 (pl2 M S).2.2.2.2)) := ag_takes (ps_set (pl2 M S) 0 (pl2 M S).2.2.2.2) k2 ht ht1 (ps_set_le p2) (by decide) (by decide)
  by_cases c3 : (ps_takes M 44 (ps_set (pl2 M S) 0 (pl2 M S).2.2.2.2)).1 = 0
  · rw [if_pos c3]
    have h3 : ag_ff2 (cr_l3 C) (pl3 M S) := ag_o_0 f3 a3 c3
    exact ⟨ag_o_n (ag_l4 (ag_l3 h3)), ag_no⟩
  rw [if_neg c3]
  have k3 : ag_K (cr_l3 C) M (pl3 M S).2.1 := ag_o_1 f3 a3 c3
  obtain ⟨a4, v4⟩ := ag_num (pl3 M S) k3 ht ht1 p3 0 20
  have a4 : ag_o (cr_l4 C).2 M (ps_num M 0 20 (pl3 M S)) := a4
  by_cases c4 : (ps_num M 0 20 (pl3 M S)).1 = 0
  · rw [if_pos c4]
    have h4 : ag_ff2 (cr_l4 C).2 (pl4 M S) := ag_o_0 f4 a4 c4
    exact ⟨ag_o_n (ag_l4 h4), ag_no⟩
  rw [if_neg c4]
  have k4 : ag_K (cr_l4 C).2 M (pl4 M S).2.1 := ag_o_1 f4 a4 c4
  have a5 : ag_o (cr_law C) M (ps_takes M 59 (ps_set (pl4 M S) 1 (pl4 M S).2.2.2.2)) := ag_takes (ps_set (pl4 M S) 1 (pl4 M S).2.2.2.2) k4 ht ht1 (ps_set_le p4) (by decide) (by decide)
  refine ⟨a5, fun _ => ?_⟩
  have w2 : (cr_l2 C).1 = (pl2 M S).2.2.2.2 := v2 c2
  have w4 : (cr_l4 C).1 = (pl4 M S).2.2.2.2 := v4 c4
  have e1 : (pl1 M S).1 = S.1 := ps_takes_h _ _ _
  have e2 : (pl2 M S).1 = S.1 := (ps_num_h _ _ _ _).trans e1
  have e3 : (pl3 M S).1 = va_up S.1 0 (pl2 M S).2.2.2.2 := by unfold pl3; rw [ps_takes_h, ps_set_1, e2]
  have e4 : (pl4 M S).1 = va_up S.1 0 (pl2 M S).2.2.2.2 := (ps_num_h _ _ _ _).trans e3
  rw [ps_takes_h, ps_set_1, e4, w2, w4]
end AGP
section AGQ
variable {C M : Nat → Nat → Int32} {t p : Nat}
theorem ag_rope_p (S : ps_S) {g : Nat → Int32} {nr : Nat} (hk : ag_K C M S.2.1) (ht : M 9 0 = nI t) (ht1 : t ≤ 100) (hp : S.2.1 ≤ t) (hg : S.1 = g) (h2 : g 2 = nI nr) (h3 : nr ≤ 3) (hl : nr = 3 → hs_byte M S.2.1 = 108) : ag_o (cr_rope C g) M (ps_rope M S) ∧ (¬ (ps_rope M S).1 = 0 → (ps_rope M S).2.1 = va_up (va_up g (5 + nr) (cr_r2 C g).1) 2 (nI (nr + 1)) ∧ nr < 3) := by
  have hro : ps_ro S = nr := by rw [ps_ro, hg, h2]; exact nI_clamp (by omega)
  have hp' : C 24 0 = nI S.2.1 := hk.2.1
  have p1 : (pr1 M S).2.1 ≤ t := ps_takes_le ht ht1 (by decide) hp
  have p2 : (pr2 M S).2.1 ≤ t := ps_num_le ht ht1 p1
  by_cases c3 : nr = 3
  · have hb := hl c3
    have e3 : S.1 2 = 3 := by rw [hg, h2, c3]; rfl
    have e1 : ¬ (ps_takes M 108 S).1 = 0 := by
      unfold ps_takes
      rw [if_pos hb]
      show ¬ (1 : Int32) = 0
      decide
    have e0 : cr_r0 C g = mk_tf C 3 (nI S.2.1) := by
      unfold cr_r0
      rw [if_pos (by rw [← hg]; exact e3), hp']
    have hf : ag_f (cr_r0 C g) 3 S.2.1 := by rw [e0]; exact ag_tf_k hk (by decide)
    have hF : ag_f (cr_rope C g) 3 S.2.1 := by
      unfold cr_rope cr_r2 cr_r1
      exact ag_pass_f (ag_num_f (ag_pass_f hf))
    have es : (pr1 M S).2.2.1 = S.2.1 := by
      unfold pr1 ps_takes
      rw [if_pos hb]
    unfold ps_rope
    rw [if_neg e1, if_pos e3]
    refine ⟨ag_o_n ?_, ag_no⟩
    show ag_f (cr_rope C g) 3 (pr1 M S).2.2.1
    rw [es]
    exact hF
  · have n3 : ¬ g 2 = 3 := by rw [h2]; exact fun z => c3 ((nI_eq (b := 3) (by omega) (by omega)).mp z)
    have n3' : ¬ S.1 2 = 3 := by rw [hg]; exact n3
    have e0 : cr_r0 C g = C := by unfold cr_r0; rw [if_neg n3]
    have a1 : ag_o (cr_r1 C g) M (ps_takes M 108 S) := by
      unfold cr_r1
      rw [e0]
      exact ag_takes S hk ht ht1 hp (by decide) (by decide)
    have f1 : (ps_takes M 108 S).2 = pr1 M S := rfl
    have f2 : (ps_num M 1 20 (pr1 M S)).2 = pr2 M S := rfl
    have t2 : ∀ S' : ps_S, ag_ff2 (cr_r2 C g).2 S' → ag_ff2 (cr_rope C g) S' := fun S' h => by unfold cr_rope; exact ag_ff_p h
    have t1 : ∀ S' : ps_S, ag_ff2 (cr_r1 C g) S' → ag_ff2 (cr_r2 C g).2 S' := fun S' h => by unfold cr_r2; exact ag_ff_n h
    unfold ps_rope
    by_cases c1 : (ps_takes M 108 S).1 = 0
    · rw [if_pos c1]
      exact ⟨ag_o_n (t2 _ (t1 _ (ag_o_0 f1 a1 c1))), ag_no⟩
    rw [if_neg c1, if_neg n3']
    have hk1 : ag_K (cr_r1 C g) M (pr1 M S).2.1 := ag_o_1 f1 a1 c1
    obtain ⟨a2, v2⟩ := ag_num (pr1 M S) hk1 ht ht1 p1 1 20
    have a2 : ag_o (cr_r2 C g).2 M (ps_num M 1 20 (pr1 M S)) := a2
    by_cases c2 : (ps_num M 1 20 (pr1 M S)).1 = 0
    · rw [if_pos c2]
      exact ⟨ag_o_n (t2 _ (ag_o_0 f2 a2 c2)), ag_no⟩
    rw [if_neg c2]
    have hk2 : ag_K (cr_r2 C g).2 M (pr2 M S).2.1 := ag_o_1 f2 a2 c2
    have w2 : (cr_r2 C g).1 = (pr2 M S).2.2.2.2 := v2 c2
    have e2 : (pr2 M S).1 = g := (ps_num_h _ _ _ _).trans ((ps_takes_h _ _ _).trans hg)
    refine ⟨?_, fun _ => ⟨?_, by omega⟩⟩
    · unfold cr_rope
      exact ag_takes (ps_set (ps_set (pr2 M S) (5 + ps_ro S) (pr2 M S).2.2.2.2) 2 (nI (ps_ro S + 1))) hk2 ht ht1 (ps_set_le (ps_set_le p2)) (by decide) (by decide)
    · rw [ps_takes_h, ps_set_1, ps_set_1, e2, hro, w2]
theorem ag_kind (c : Int32) : (hs_sort c = 0 ∧ mk_kind c = hs_NONE) ∨ (¬ hs_sort c = 0 ∧ mk_kind c = hs_sort c ∧ ¬ mk_kind c = hs_NONE) := by
  unfold hs_sort mk_kind
  by_cases c1 : c = 116
  · rw [if_pos c1, if_pos c1]; exact Or.inr ⟨by decide, rfl, by decide⟩
  rw [if_neg c1, if_neg c1]
  by_cases c2 : c = 106
  · rw [if_pos c2, if_pos c2]; exact Or.inr ⟨by decide, rfl, by decide⟩
  rw [if_neg c2, if_neg c2]
  by_cases c3 : c = 98
  · rw [if_pos c3, if_pos c3]; exact Or.inr ⟨by decide, rfl, by decide⟩
  rw [if_neg c3, if_neg c3]
  by_cases c4 : c = 110
  · rw [if_pos c4, if_pos c4]; exact Or.inr ⟨by decide, rfl, by decide⟩
  rw [if_neg c4, if_neg c4]
  by_cases c5 : c = 118
  · rw [if_pos c5, if_pos c5]; exact Or.inr ⟨by decide, rfl, by decide⟩
  rw [if_neg c5, if_neg c5]
  exact Or.inl ⟨rfl, rfl⟩
theorem ag_f_24 {f v : Int32} {q : Nat} (h : ag_f C f q) : ag_f (mo_w C 24 0 v) f q := h
theorem ag_who_c {g h : Nat → Int32} {rope place : Int32} : ∀ n, (∀ k, k < n → h (14 + k) = g (14 + k) ∧ h (20 + k) = g (20 + k)) → hs_who h rope place n = hs_who g rope place n := by
  intro n
  induction n with
  | zero => intro _; rfl
  | succ n ih =>
    intro e
    have e1 := e n (by omega)
    show (if h (14 + n) = rope ∧ h (20 + n) = place then nI n else hs_who h rope place n) = (if g (14 + n) = rope ∧ g (20 + n) = place then nI n else hs_who g rope place n)
    rw [ih (fun k hk => e k (by omega)), e1.1, e1.2]
theorem ag_num_s (M : Nat → Nat → Int32) (lo hi : Int32) (S : ps_S) : (ps_num M lo hi S).2.2.2.1 = S.2.1 := by
  unfold ps_num
  split <;> rfl
/-- the fault of a number that is read but too small, too large, or taken, is 2 -/
theorem ag_num_2 {M : Nat → Nat → Int32} {lo hi : Int32} {S : ps_S} (h : ¬ (ps_num M lo hi S).1 = 0) : (ps_num M lo hi S).2.2.2.2.1 = 2 := by
  unfold ps_num at h ⊢
  by_cases c : hs_n M S.2.1 = 0 ∨ 2 < hs_n M S.2.1
  · rw [if_pos c] at h; exact absurd rfl h
  · rw [if_neg c]
theorem ag_as_e {g : Nat → Int32} {n : Nat} (hn : n < 6) (h0 : g (32 + n) = 0 ∧ g (38 + n) = 0 ∧ g (44 + n) = 0) (sort rope place goods : Int32) : va_up (va_up (va_up (va_up (va_up g (8 + n) sort) (14 + n) rope) (20 + n) place) (26 + n) goods) 3 (nI (n + 1)) = mk_as g n sort rope place goods := by
  funext j
  unfold mk_as
  by_cases c1 : j = 3
  · rw [c1, va_up_self, if_pos rfl]
  rw [va_up_ne _ _ c1, if_neg c1]
  by_cases c5 : j = 26 + n
  · rw [c5, va_up_self, if_neg (by omega), if_neg (by omega), if_neg (by omega), if_pos rfl]
  rw [va_up_ne _ _ c5]
  by_cases c4 : j = 20 + n
  · rw [c4, va_up_self, if_neg (by omega), if_neg (by omega), if_pos rfl]
  rw [va_up_ne _ _ c4]
  by_cases c3 : j = 14 + n
  · rw [c3, va_up_self, if_neg (by omega), if_pos rfl]
  rw [va_up_ne _ _ c3]
  by_cases c2 : j = 8 + n
  · rw [c2, va_up_self, if_pos rfl]
  rw [va_up_ne _ _ c2, if_neg c2, if_neg c3, if_neg c4, if_neg c5]
  by_cases c6 : j = 32 + n ∨ j = 38 + n ∨ j = 44 + n
  · rw [if_pos c6]
    rcases c6 with c | c | c
    · rw [c]; exact h0.1
    · rw [c]; exact h0.2.1
    · rw [c]; exact h0.2.2
  · rw [if_neg c6]
theorem ag_stall_p (S : ps_S) {g : Nat → Int32} {n : Nat} (hk : ag_K C M S.2.1) (ht : M 9 0 = nI t) (ht1 : t ≤ 100) (hp : S.2.1 ≤ t) (hg : S.1 = g) (h3 : g 3 = nI n) (h6 : n ≤ 6) (h0 : n < 6 → g (32 + n) = 0 ∧ g (38 + n) = 0 ∧ g (44 + n) = 0) : ag_o (cr_s C g n) M (ps_stall M S) ∧ (¬ (ps_stall M S).1 = 0 → (ps_stall M S).2.1 = mk_as g n (cr_k C) (cr_c C g).1 (cr_e C g).1 (cr_h C g n).1 ∧ n < 6) := by
  have hst : ps_st S = n := by rw [ps_st, hg, h3]; exact nI_clamp (by omega)
  have hp' : C 24 0 = nI S.2.1 := hk.2.1
  have t_h : ∀ S' : ps_S, ag_ff2 (cr_h C g n).2 S' → ag_ff2 (cr_s C g n) S' := fun S' h => by unfold cr_s; exact ag_ff_p h
  have t_g : ∀ S' : ps_S, ag_ff2 (cr_g C g n) S' → ag_ff2 (cr_s C g n) S' := fun S' h => t_h S' (by unfold cr_h; exact ag_ff_n h)
  have t_f : ∀ S' : ps_S, ag_ff2 (cr_f C g n) S' → ag_ff2 (cr_s C g n) S' := fun S' h => t_g S' (by unfold cr_g; exact ag_ff_p h)
  have t_e : ∀ S' : ps_S, ag_ff2 (cr_e C g).2 S' → ag_ff2 (cr_s C g n) S' := fun S' h => t_f S' (by
    unfold cr_f
    by_cases z : mk_std g (cr_c C g).1 (cr_e C g).1 n = none
    · rw [if_pos z]; exact h
    · rw [if_neg z]; exact ag_ff_t h)
  have t_d : ∀ S' : ps_S, ag_ff2 (cr_d C g) S' → ag_ff2 (cr_s C g n) S' := fun S' h => t_e S' (by unfold cr_e; exact ag_ff_n h)
  have t_c : ∀ S' : ps_S, ag_ff2 (cr_c C g).2 S' → ag_ff2 (cr_s C g n) S' := fun S' h => t_d S' (by unfold cr_d; exact ag_ff_p h)
  have t_a : ∀ S' : ps_S, ag_ff2 (cr_a C g) S' → ag_ff2 (cr_s C g n) S' := fun S' h => t_c S' (by
    have hb : ag_ff2 (cr_b C g) S' := by unfold cr_b; exact h
    unfold cr_c; exact ag_ff_n hb)
  have ek : cr_k C = mk_kind (mk_by C (nI S.2.1)) := by unfold cr_k; rw [hp']
  have kk : (hs_sort (hs_byte M S.2.1) = 0 ∧ cr_k C = hs_NONE) ∨ (¬ hs_sort (hs_byte M S.2.1) = 0 ∧ cr_k C = hs_sort (hs_byte M S.2.1) ∧ ¬ cr_k C = hs_NONE ∧ S.2.1 < t) := by
    rcases Nat.lt_or_ge S.2.1 t with z | z
    · rw [ek, ag_by_in hk ht ht1 z]
      rcases ag_kind (hs_byte M S.2.1) with h | h
      · exact Or.inl h
      · exact Or.inr ⟨h.1, h.2.1, h.2.2, z⟩
    · obtain ⟨e1, e2⟩ := ag_by_out hk ht ht1 z (by omega)
      rw [ek, e1, e2]
      exact Or.inl ⟨by decide, by decide⟩
  unfold ps_stall
  rcases kk with ⟨k1, k2⟩ | ⟨k1, k2, k3, hlt⟩
  · rw [if_pos k1]
    refine ⟨ag_o_n (t_a _ ?_), ag_no⟩
    show ag_f (cr_a C g) 1 S.2.1
    unfold cr_a
    rw [if_pos k2, hp']
    exact ag_tf_k hk (by decide)
  rw [if_neg k1]
  by_cases c6 : n = 6
  · have e6 : S.1 3 = 6 := by rw [hg, h3, c6]; rfl
    rw [if_pos e6]
    refine ⟨ag_o_n (t_a _ ?_), ag_no⟩
    show ag_f (cr_a C g) 3 S.2.1
    unfold cr_a
    rw [if_neg k3, if_pos (by rw [← hg]; exact e6), hp']
    exact ag_tf_k hk (by decide)
  have hn : n < 6 := by omega
  have n6 : ¬ g 3 = 6 := by rw [h3]; exact fun z => c6 ((nI_eq (b := 6) (by omega) (by omega)).mp z)
  have ea : cr_a C g = C := by unfold cr_a; rw [if_neg k3, if_neg n6]
  have hkb : ag_K (cr_b C g) M (pt1 S).2.1 := by
    unfold cr_b
    rw [ea, hp', nI_1]
    exact ⟨hk.1, rfl, hk.2.2.1, hk.2.2.2⟩
  rw [if_neg (by rw [hg]; exact n6)]
  have p1 : (pt1 S).2.1 ≤ t := pt1_le hlt
  have p2 : (pt2 M S).2.1 ≤ t := ps_set_le p1
  have p3 : (pt3 M S).2.1 ≤ t := ps_num_le ht ht1 p2
  have p4 : (pt4 M S).2.1 ≤ t := ps_set_le p3
  have p5 : (pt5 M S).2.1 ≤ t := ps_takes_le ht ht1 (by decide) p4
  have p6 : (pt6 M S).2.1 ≤ t := ps_num_le ht ht1 p5
  have p7 : (pt7 M S).2.1 ≤ t := ps_set_le p6
  have p8 : (pt8 M S).2.1 ≤ t := ps_takes_le ht ht1 (by decide) p7
  have p9 : (pt9 M S).2.1 ≤ t := ps_num_le ht ht1 p8
  have p10 : (pt10 M S).2.1 ≤ t := ps_set_le (ps_set_le p9)
  have g2 : (pt2 M S).1 = va_up g (8 + n) (cr_k C) := by unfold pt2; rw [ps_set_1, pt1_1, hg, hst, k2]
  -- the rope
  obtain ⟨a3, v3⟩ := ag_num (C := cr_b C g) (pt2 M S) hkb ht ht1 p2 0 (S.1 2 - 1)
  have ec : mk_number (cr_b C g) 0 (S.1 2 - 1) = cr_c C g := by unfold cr_c; rw [hg]
  rw [ec] at a3 v3
  have f3 : (ps_num M 0 (S.1 2 - 1) (pt2 M S)).2 = pt3 M S := rfl
  have f5 : (ps_takes M 44 (pt4 M S)).2 = pt5 M S := rfl
  have f6 : (ps_num M 1 8 (pt5 M S)).2 = pt6 M S := rfl
  have f8 : (ps_takes M 44 (pt7 M S)).2 = pt8 M S := rfl
  have f9 : (ps_num M 0 20 (pt8 M S)).2 = pt9 M S := rfl
  by_cases c3 : (ps_num M 0 (S.1 2 - 1) (pt2 M S)).1 = 0
  · rw [if_pos c3]
    exact ⟨ag_o_n (t_c _ (ag_o_0 f3 a3 c3)), ag_no⟩
  rw [if_neg c3]
  have hkc : ag_K (cr_c C g).2 M (pt3 M S).2.1 := ag_o_1 f3 a3 c3
  have w3 : (cr_c C g).1 = (pt3 M S).2.2.2.2 := v3 c3
  have g3 : (pt3 M S).1 = va_up g (8 + n) (cr_k C) := (ps_num_h _ _ _ _).trans g2
  have g4 : (pt4 M S).1 = va_up (va_up g (8 + n) (cr_k C)) (14 + n) (cr_c C g).1 := by unfold pt4; rw [ps_set_1, g3, hst, w3]
  -- the comma
  have a5 : ag_o (cr_d C g) M (ps_takes M 44 (pt4 M S)) := by
    unfold cr_d
    exact ag_takes (pt4 M S) hkc ht ht1 p4 (by decide) (by decide)
  by_cases c5 : (ps_takes M 44 (pt4 M S)).1 = 0
  · rw [if_pos c5]
    exact ⟨ag_o_n (t_d _ (ag_o_0 f5 a5 c5)), ag_no⟩
  rw [if_neg c5]
  have hkd : ag_K (cr_d C g) M (pt5 M S).2.1 := ag_o_1 f5 a5 c5
  have g5 : (pt5 M S).1 = va_up (va_up g (8 + n) (cr_k C)) (14 + n) (cr_c C g).1 := (ps_takes_h _ _ _).trans g4
  -- the place
  obtain ⟨a6, v6⟩ := ag_num (C := cr_d C g) (pt5 M S) hkd ht ht1 p5 1 8
  have ee : mk_number (cr_d C g) 1 8 = cr_e C g := rfl
  rw [ee] at a6 v6
  by_cases c7 : (ps_num M 1 8 (pt5 M S)).1 = 0
  · rw [if_pos c7]
    exact ⟨ag_o_n (t_e _ (ag_o_0 f6 a6 c7)), ag_no⟩
  rw [if_neg c7]
  have hke : ag_K (cr_e C g).2 M (pt6 M S).2.1 := ag_o_1 f6 a6 c7
  have w6 : (cr_e C g).1 = (pt6 M S).2.2.2.2 := v6 c7
  have g6 : (pt6 M S).1 = va_up (va_up g (8 + n) (cr_k C)) (14 + n) (cr_c C g).1 := (ps_num_h _ _ _ _).trans g5
  have ew : hs_who (pt6 M S).1 ((pt6 M S).1 (14 + ps_st S)) (pt6 M S).2.2.2.2 (ps_st S) = hs_who g (cr_c C g).1 (cr_e C g).1 n := by
    rw [hst, g6, va_up_self, w6]
    refine ag_who_c n (fun k hk => ?_)
    rw [va_up_ne _ _ (by omega), va_up_ne _ _ (by omega), va_up_ne _ _ (by omega), va_up_ne _ _ (by omega)]
    exact ⟨rfl, rfl⟩
  rw [ew]
  have hw := ag_who_n (g := g) h6 (cr_c C g).1 (cr_e C g).1
  by_cases c8 : hs_who g (cr_c C g).1 (cr_e C g).1 n < 0
  · rw [if_pos c8]
    have ef : cr_f C g n = (cr_e C g).2 := by unfold cr_f; rw [if_pos (hw.mpr c8)]
    have g7 : (pt7 M S).1 = va_up (va_up (va_up g (8 + n) (cr_k C)) (14 + n) (cr_c C g).1) (20 + n) (cr_e C g).1 := by unfold pt7; rw [ps_set_1, g6, hst, w6]
    have a8 : ag_o (cr_g C g n) M (ps_takes M 44 (pt7 M S)) := by
      unfold cr_g
      rw [ef]
      exact ag_takes (pt7 M S) hke ht ht1 p7 (by decide) (by decide)
    by_cases c9 : (ps_takes M 44 (pt7 M S)).1 = 0
    · rw [if_pos c9]
      exact ⟨ag_o_n (t_g _ (ag_o_0 f8 a8 c9)), ag_no⟩
    rw [if_neg c9]
    have hkg : ag_K (cr_g C g n) M (pt8 M S).2.1 := ag_o_1 f8 a8 c9
    have g8 : (pt8 M S).1 = va_up (va_up (va_up g (8 + n) (cr_k C)) (14 + n) (cr_c C g).1) (20 + n) (cr_e C g).1 := (ps_takes_h _ _ _).trans g7
    obtain ⟨a9, v9⟩ := ag_num (C := cr_g C g n) (pt8 M S) hkg ht ht1 p8 0 20
    have eh : mk_number (cr_g C g n) 0 20 = cr_h C g n := rfl
    rw [eh] at a9 v9
    by_cases c10 : (ps_num M 0 20 (pt8 M S)).1 = 0
    · rw [if_pos c10]
      exact ⟨ag_o_n (t_h _ (ag_o_0 f9 a9 c10)), ag_no⟩
    rw [if_neg c10]
    have hkh : ag_K (cr_h C g n).2 M (pt9 M S).2.1 := ag_o_1 f9 a9 c10
    have w9 : (cr_h C g n).1 = (pt9 M S).2.2.2.2 := v9 c10
    have g9 : (pt9 M S).1 = va_up (va_up (va_up g (8 + n) (cr_k C)) (14 + n) (cr_c C g).1) (20 + n) (cr_e C g).1 := (ps_num_h _ _ _ _).trans g8
    refine ⟨?_, fun _ => ⟨?_, hn⟩⟩
    · unfold cr_s
      exact ag_takes (pt10 M S) hkh ht ht1 p10 (by decide) (by decide)
    · rw [ps_takes_h]
      unfold pt10
      rw [ps_set_1, ps_set_1, g9, hst, ← w9]
      exact ag_as_e hn (h0 hn) _ _ _ _
  · rw [if_neg c8]
    refine ⟨ag_o_n (t_f _ ?_), ag_no⟩
    have s6 : (pt6 M S).2.2.1 = (pt5 M S).2.1 := ag_num_s M 1 8 (pt5 M S)
    have f62 : (pt6 M S).2.2.2.1 = 2 := ag_num_2 c7
    show ag_f (cr_f C g n) (pt6 M S).2.2.2.1 (pt6 M S).2.2.1
    rw [s6, f62]
    unfold cr_f
    rw [if_neg (fun z => c8 (hw.mp z)), hkd.2.1]
    exact ag_tf_k hke (by decide)
end AGQ
/-! the tape's loops, and the whole market read both ways -/
def ag_RR (M : Nat → Nat → Int32) (t : Nat) (C : Nat → Nat → Int32) (g : Nat → Int32) (Y : Int32 × ps_S) : Prop := (¬ Y.1 = 0 ∧ ag_K C M Y.2.2.1 ∧ Y.2.1 = g ∧ Y.2.2.1 ≤ t) ∨ (Y.1 = 0 ∧ ag_f C Y.2.2.2.2.1 Y.2.2.2.1)
section AGR
variable {C M : Nat → Nat → Int32} {t : Nat}
theorem ag_RR_rope {g : Nat → Int32} {nr n : Nat} (S : ps_S) (ht : M 9 0 = nI t) (ht1 : t ≤ 100) (hJ : cr_J g nr n) (hk : ag_K C M S.2.1) (hg : S.1 = g) (hp : S.2.1 ≤ t) (hl : nr = 3 → hs_byte M S.2.1 = 108) : ag_RR M t (cr_rope C g) (cr_rg C g nr) (ps_rope M S) ∧ (¬ (ps_rope M S).1 = 0 → cr_rn C g nr = nr + 1) := by
  obtain ⟨h1, h2⟩ := ag_rope_p S hk ht ht1 hp hg hJ.2.1 hJ.2.2 hl
  have hle := ps_rope_le (S := S) ht ht1 hp
  rcases h1 with ⟨a1, a2⟩ | ⟨a1, a2⟩
  · have e25 : cr_rope C g 25 0 = 0 := a2.1
    obtain ⟨b1, b2⟩ := h2 a1
    refine ⟨Or.inl ⟨a1, a2, ?_, hle⟩, fun _ => ?_⟩
    · rw [b1]
      unfold cr_rg
      rw [if_pos e25]
    · unfold cr_rn
      rw [if_pos e25]
  · exact ⟨Or.inr ⟨a1, a2⟩, fun z => absurd a1 z⟩
def ag_Z0 (g : Nat → Int32) (n : Nat) : Prop := ∀ i, n ≤ i → i < 6 → g (32 + i) = 0 ∧ g (38 + i) = 0 ∧ g (44 + i) = 0
theorem ag_Z0_rg {g : Nat → Int32} {nr n : Nat} (h : ag_Z0 g n) (h3 : nr ≤ 3) : ag_Z0 (cr_rg C g nr) n := by
  unfold cr_rg
  split
  · intro i hi h6
    rw [va_up_ne _ _ (by omega), va_up_ne _ _ (by omega), va_up_ne _ _ (by omega), va_up_ne _ _ (by omega), va_up_ne _ _ (by omega), va_up_ne _ _ (by omega)]
    exact h i hi h6
  · exact h
theorem ag_Z0_as {g : Nat → Int32} {n : Nat} {k ro pl go : Int32} (h : ag_Z0 g n) (hn : n < 6) : ag_Z0 (mk_as g n k ro pl go) (n + 1) := by
  intro i hi h6
  rw [mk_as_o g k ro pl go (by omega), mk_as_o g k ro pl go (by omega), mk_as_o g k ro pl go (by omega)]
  exact h i (by omega) h6
theorem ag_RR_stall {g : Nat → Int32} {nr n : Nat} (S : ps_S) (ht : M 9 0 = nI t) (ht1 : t ≤ 100) (hJ : cr_J g nr n) (hz : ag_Z0 g n) (hk : ag_K C M S.2.1) (hg : S.1 = g) (hp : S.2.1 ≤ t) : ag_RR M t (cr_s C g n) (cr_sg C g n) (ps_stall M S) ∧ (¬ (ps_stall M S).1 = 0 → cr_sn C g n = n + 1) ∧ ag_Z0 (cr_sg C g n) (cr_sn C g n) := by
  obtain ⟨h1, h2⟩ := ag_stall_p S hk ht ht1 hp hg hJ.1.1 hJ.1.2.1 (fun h => hz n (Nat.le_refl n) h)
  have hle := ps_stall_le (S := S) ht ht1 hp
  rcases h1 with ⟨a1, a2⟩ | ⟨a1, a2⟩
  · have e25 : cr_s C g n 25 0 = 0 := a2.1
    obtain ⟨b1, b2⟩ := h2 a1
    have e1 : cr_sg C g n = mk_as g n (cr_k C) (cr_c C g).1 (cr_e C g).1 (cr_h C g n).1 := by
      unfold cr_sg
      rw [if_pos e25]
    have e2 : cr_sn C g n = n + 1 := by
      unfold cr_sn
      rw [if_pos e25]
    refine ⟨Or.inl ⟨a1, a2, by rw [b1, e1], hle⟩, fun _ => e2, ?_⟩
    rw [e1, e2]
    exact ag_Z0_as hz b2
  · have e25 : ¬ cr_s C g n 25 0 = 0 := fun z => a2.2.1 (a2.1.symm.trans z)
    have e1 : cr_sg C g n = g := by
      unfold cr_sg
      rw [if_neg e25]
    have e2 : cr_sn C g n = n := by
      unfold cr_sn
      rw [if_neg e25]
    refine ⟨Or.inr ⟨a1, a2⟩, fun z => absurd a1 z, ?_⟩
    rw [e1, e2]
    exact hz
end AGR
/-- the reference's loops stand still where they are done -/
theorem ag_pr_s {M : Nat → Nat → Int32} {Y : Int32 × ps_S} (h : Y.1 = 0 ∨ ¬ hs_byte M Y.2.2.1 = 108) : ∀ f, ps_ropes M f Y = Y := by
  intro f
  cases f with
  | zero => rfl
  | succ f =>
    rw [ps_ropes]
    rcases h with h | h
    · rw [if_pos h]
    · rw [if_neg h]
      split <;> rfl
theorem ag_ps_s {M : Nat → Nat → Int32} {t : Nat} {Y : Int32 × ps_S} (h : Y.1 = 0 ∨ ¬ Y.2.2.1 < t) : ∀ f, ps_stalls M t f Y = Y := by
  intro f
  cases f with
  | zero => rfl
  | succ f =>
    rw [ps_stalls]
    rcases h with h | h
    · rw [if_pos h]
    · rw [if_neg h]
      split <;> rfl
theorem ag_pr_add (M : Nat → Nat → Int32) : ∀ (m j : Nat) (Y : Int32 × ps_S), ps_ropes M (m + j) Y = ps_ropes M j (ps_ropes M m Y) := by
  intro m
  induction m with
  | zero => intro j Y; rw [Nat.zero_add]; rfl
  | succ m ih =>
    intro j Y
    rw [show m + 1 + j = (m + j) + 1 by omega, ps_ropes, ps_ropes]
    by_cases c : Y.1 = 0
    · rw [if_pos c, if_pos c, ag_pr_s (Or.inl c)]
    · rw [if_neg c, if_neg c]
      by_cases c2 : hs_byte M Y.2.2.1 = 108
      · rw [if_pos c2, if_pos c2, ih]
      · rw [if_neg c2, if_neg c2, ag_pr_s (Or.inr c2)]
theorem ag_ps_add (M : Nat → Nat → Int32) (t : Nat) : ∀ (m j : Nat) (Y : Int32 × ps_S), ps_stalls M t (m + j) Y = ps_stalls M t j (ps_stalls M t m Y) := by
  intro m
  induction m with
  | zero => intro j Y; rw [Nat.zero_add]; rfl
  | succ m ih =>
    intro j Y
    rw [show m + 1 + j = (m + j) + 1 by omega, ps_stalls, ps_stalls]
    by_cases c : Y.1 = 0
    · rw [if_pos c, if_pos c, ag_ps_s (Or.inl c)]
    · rw [if_neg c, if_neg c]
      by_cases c2 : Y.2.2.1 < t
      · rw [if_pos c2, if_pos c2, ih]
      · rw [if_neg c2, if_neg c2, ag_ps_s (Or.inr c2)]
theorem ag_rs_y {X : cr_R} {k : Nat} (h : (cr_rs X k).1 25 0 = 0 ∧ (k = 0 ∨ mk_by (cr_rs X k).1 ((cr_rs X k).1 24 0) = 108)) : cr_rs X (k + 1) = cr_rp (cr_rs X k) := by
  rw [cr_rs]
  exact if_pos h
theorem ag_rs_n {X : cr_R} {k : Nat} (h : ¬ ((cr_rs X k).1 25 0 = 0 ∧ (k = 0 ∨ mk_by (cr_rs X k).1 ((cr_rs X k).1 24 0) = 108))) : cr_rs X (k + 1) = cr_rs X k := by
  rw [cr_rs]
  exact if_neg h
theorem ag_ss_y {X : cr_R} {k : Nat} (h : (cr_ss X k).1 25 0 = 0 ∧ (cr_ss X k).1 24 0 < (cr_ss X k).1 9 0) : cr_ss X (k + 1) = cr_st (cr_ss X k) := by
  rw [cr_ss]
  exact if_pos h
theorem ag_ss_n {X : cr_R} {k : Nat} (h : ¬ ((cr_ss X k).1 25 0 = 0 ∧ (cr_ss X k).1 24 0 < (cr_ss X k).1 9 0)) : cr_ss X (k + 1) = cr_ss X k := by
  rw [cr_ss]
  exact if_neg h
theorem cr_rp_1 (X : cr_R) : (cr_rp X).1 = cr_rope X.1 X.2.1 := by unfold cr_rp; dsimp only
theorem cr_rp_2 (X : cr_R) : (cr_rp X).2.1 = cr_rg X.1 X.2.1 X.2.2.1 := by unfold cr_rp; dsimp only
theorem cr_rp_3 (X : cr_R) : (cr_rp X).2.2.1 = cr_rn X.1 X.2.1 X.2.2.1 := by unfold cr_rp; dsimp only
theorem cr_st_1 (X : cr_R) : (cr_st X).1 = cr_s X.1 X.2.1 X.2.2.2 := by unfold cr_st; dsimp only
theorem cr_st_2 (X : cr_R) : (cr_st X).2.1 = cr_sg X.1 X.2.1 X.2.2.2 := by unfold cr_st; dsimp only
theorem cr_st_3 (X : cr_R) : (cr_st X).2.2.1 = X.2.2.1 := by unfold cr_st; dsimp only
theorem cr_st_4 (X : cr_R) : (cr_st X).2.2.2 = cr_sn X.1 X.2.1 X.2.2.2 := by unfold cr_st; dsimp only
section AGR
variable {C M : Nat → Nat → Int32} {t : Nat}
/-- what stands behind k ropes: all of them read, or the reading has ended -/
def ag_RK (M : Nat → Nat → Int32) (t : Nat) (X : cr_R) (k : Nat) (Y : Int32 × ps_S) : Prop := ag_RR M t X.1 X.2.1 Y ∧ cr_J X.2.1 X.2.2.1 X.2.2.2 ∧ ag_Z0 X.2.1 X.2.2.2 ∧ (¬ Y.1 = 0 → X.2.2.1 = k ∨ ¬ hs_byte M Y.2.2.1 = 108)
theorem ag_rs_step {X : cr_R} {k : Nat} {Y : Int32 × ps_S} (ht : M 9 0 = nI t) (ht1 : t ≤ 100) (hk1 : 1 ≤ k) (h : ag_RK M t (cr_rs X k) k Y) : ∃ Y', ag_RK M t (cr_rs X (k + 1)) (k + 1) Y' ∧ ∀ f, ps_ropes M (f + 1) Y = ps_ropes M f Y' := by
  obtain ⟨h1, h2, h4, h3⟩ := h
  rcases h1 with ⟨a1, a2, a3, a4⟩ | ⟨a1, a2⟩
  · have e24 : (cr_rs X k).1 24 0 = nI Y.2.2.1 := a2.2.1
    have e := ag_by_eq a2 ht ht1 (q := Y.2.2.1) (by omega) (c := 108) (by decide) (by decide)
    by_cases c : hs_byte M Y.2.2.1 = 108
    · have hnr : (cr_rs X k).2.2.1 = k := (h3 a1).resolve_right (fun z => z c)
      obtain ⟨b1, b2⟩ := ag_RR_rope Y.2 ht ht1 h2 a2 a3 a4 (fun _ => c)
      refine ⟨ps_rope M Y.2, ?_, fun f => ?_⟩
      · rw [ag_rs_y ⟨a2.1, Or.inr (by rw [e24]; exact e.mpr c)⟩]
        unfold ag_RK
        rw [cr_rp_1, cr_rp_2, cr_rp_3, cr_rp_n]
        exact ⟨b1, cr_J_rp h2, ag_Z0_rg h4 h2.2.2, fun z => Or.inl (by rw [b2 z, hnr])⟩
      · rw [ps_ropes, if_neg a1, if_pos c]
    · refine ⟨Y, ?_, fun f => ?_⟩
      · rw [ag_rs_n (by
          rintro ⟨-, z | z⟩
          · omega
          · rw [e24] at z; exact c (e.mp z))]
        exact ⟨Or.inl ⟨a1, a2, a3, a4⟩, h2, h4, fun _ => Or.inr c⟩
      · rw [ag_pr_s (Or.inr c), ag_pr_s (Or.inr c)]
  · refine ⟨Y, ?_, fun f => ?_⟩
    · rw [ag_rs_n (fun z => a2.2.1 (a2.1.symm.trans z.1))]
      exact ⟨Or.inr ⟨a1, a2⟩, h2, h4, fun z => absurd a1 z⟩
    · rw [ag_pr_s (Or.inl a1), ag_pr_s (Or.inl a1)]
theorem ag_rs_all {X : cr_R} {Y : Int32 × ps_S} (ht : M 9 0 = nI t) (ht1 : t ≤ 100) (h : ag_RK M t (cr_rs X 1) 1 Y) : ag_RR M t (cr_rs X 4).1 (cr_rs X 4).2.1 (ps_ropes M 5 Y) ∧ cr_J (cr_rs X 4).2.1 (cr_rs X 4).2.2.1 (cr_rs X 4).2.2.2 ∧ ag_Z0 (cr_rs X 4).2.1 (cr_rs X 4).2.2.2 := by
  obtain ⟨Y2, h2, e2⟩ := ag_rs_step ht ht1 (by omega) h
  obtain ⟨Y3, h3, e3⟩ := ag_rs_step ht ht1 (by omega) h2
  obtain ⟨Y4, h4, e4⟩ := ag_rs_step ht ht1 (by omega) h3
  obtain ⟨k1, k2, k3, k4⟩ := h4
  have h3' := k2.2.2
  rw [e2 4, e3 3, e4 2, ag_pr_s]
  · exact ⟨k1, k2, k3⟩
  · by_cases c : Y4.1 = 0
    · exact Or.inl c
    · rcases k4 c with z | z
      · omega
      · exact Or.inr z
def ag_SK (M : Nat → Nat → Int32) (t : Nat) (X : cr_R) (k : Nat) (Y : Int32 × ps_S) : Prop := ag_RR M t X.1 X.2.1 Y ∧ cr_J X.2.1 X.2.2.1 X.2.2.2 ∧ ag_Z0 X.2.1 X.2.2.2 ∧ (¬ Y.1 = 0 → X.2.2.2 = k ∨ ¬ Y.2.2.1 < t)
theorem ag_ss_step {X : cr_R} {k : Nat} {Y : Int32 × ps_S} (ht : M 9 0 = nI t) (ht1 : t ≤ 100) (h : ag_SK M t (cr_ss X k) k Y) : ∃ Y', ag_SK M t (cr_ss X (k + 1)) (k + 1) Y' ∧ ∀ f, ps_stalls M t (f + 1) Y = ps_stalls M t f Y' := by
  obtain ⟨h1, h2, h4, h3⟩ := h
  rcases h1 with ⟨a1, a2, a3, a4⟩ | ⟨a1, a2⟩
  · have e24 : (cr_ss X k).1 24 0 = nI Y.2.2.1 := a2.2.1
    have e9 : (cr_ss X k).1 9 0 = nI t := by rw [a2.2.2.2]; exact ht
    have e := nI_ltI (a := Y.2.2.1) (b := t) (by omega) (by omega)
    by_cases c : Y.2.2.1 < t
    · have hnr : (cr_ss X k).2.2.2 = k := (h3 a1).resolve_right (fun z => z c)
      obtain ⟨b1, b2, b3⟩ := ag_RR_stall Y.2 ht ht1 h2 h4 a2 a3 a4
      refine ⟨ps_stall M Y.2, ?_, fun f => ?_⟩
      · rw [ag_ss_y ⟨a2.1, by rw [e24, e9]; exact e.mpr c⟩]
        unfold ag_SK
        rw [cr_st_1, cr_st_2, cr_st_3, cr_st_4]
        exact ⟨b1, cr_J_st h2, b3, fun z => Or.inl (by rw [b2 z, hnr])⟩
      · rw [ps_stalls, if_neg a1, if_pos c]
    · refine ⟨Y, ?_, fun f => ?_⟩
      · rw [ag_ss_n (by
          rintro ⟨-, z⟩
          rw [e24, e9] at z
          exact c (e.mp z))]
        exact ⟨Or.inl ⟨a1, a2, a3, a4⟩, h2, h4, fun _ => Or.inr c⟩
      · rw [ag_ps_s (Or.inr c), ag_ps_s (Or.inr c)]
  · refine ⟨Y, ?_, fun f => ?_⟩
    · rw [ag_ss_n (fun z => a2.2.1 (a2.1.symm.trans z.1))]
      exact ⟨Or.inr ⟨a1, a2⟩, h2, h4, fun z => absurd a1 z⟩
    · rw [ag_ps_s (Or.inl a1), ag_ps_s (Or.inl a1)]
theorem ag_ss_q {X : cr_R} {Y : Int32 × ps_S} (h1 : ag_RR M t X.1 X.2.1 Y) (h2 : cr_J X.2.1 X.2.2.1 X.2.2.2) : ag_RR M t X.1 X.2.1 Y ∧ cr_J X.2.1 X.2.2.1 X.2.2.2 := ⟨h1, h2⟩
theorem ag_ss_all {X : cr_R} {Y : Int32 × ps_S} (ht : M 9 0 = nI t) (ht1 : t ≤ 100) (h : ag_SK M t (cr_ss X 0) 0 Y) : ag_RR M t (cr_ss X 7).1 (cr_ss X 7).2.1 (ps_stalls M t 8 Y) ∧ cr_J (cr_ss X 7).2.1 (cr_ss X 7).2.2.1 (cr_ss X 7).2.2.2 := by
  obtain ⟨Y1, h1, e1⟩ := ag_ss_step ht ht1 h
  obtain ⟨Y2, h2, e2⟩ := ag_ss_step ht ht1 h1
  obtain ⟨Y3, h3, e3⟩ := ag_ss_step ht ht1 h2
  obtain ⟨Y4, h4, e4⟩ := ag_ss_step ht ht1 h3
  obtain ⟨Y5, h5, e5⟩ := ag_ss_step ht ht1 h4
  obtain ⟨Y6, h6, e6⟩ := ag_ss_step ht ht1 h5
  obtain ⟨Y7, h7, e7⟩ := ag_ss_step ht ht1 h6
  obtain ⟨k1, k2, k3, k4⟩ := h7
  have h6' := k2.1.2.1
  rw [e1 7, e2 6, e3 5, e4 4, e5 3, e6 2, e7 1, ag_ps_s]
  · exact ag_ss_q k1 k2
  · by_cases c : Y7.1 = 0
    · exact Or.inl c
    · rcases k4 c with z | z
      · omega
      · exact Or.inr z
theorem ag_g0_e (a b : Int32) : va_up (va_up (fun _ => 0) 0 a) 1 b = mk_g0 a b := by
  funext j
  unfold mk_g0
  by_cases c1 : j = 1
  · rw [c1, va_up_self, if_neg (by omega), if_pos rfl]
  rw [va_up_ne _ _ c1]
  by_cases c0 : j = 0
  · rw [c0, va_up_self, if_pos rfl]
  · rw [va_up_ne _ _ c0, if_neg c0, if_neg c1]
theorem ag_Z0_g0 (a b : Int32) : ag_Z0 (mk_g0 a b) 0 := by
  intro i _ _
  unfold mk_g0
  rw [if_neg (by omega), if_neg (by omega), if_neg (by omega), if_neg (by omega), if_neg (by omega), if_neg (by omega)]
  exact ⟨rfl, rfl, rfl⟩
theorem cr_0_1 (C : Nat → Nat → Int32) : (cr_0 C).1 = cr_law (cr_S0 C) := by unfold cr_0; dsimp only
theorem cr_0_2 (C : Nat → Nat → Int32) : (cr_0 C).2.1 = mk_g0 (cr_l2 (cr_S0 C)).1 (cr_l4 (cr_S0 C)).1 := by unfold cr_0; dsimp only
theorem cr_0_3 (C : Nat → Nat → Int32) : (cr_0 C).2.2.1 = 0 := by unfold cr_0; dsimp only
theorem cr_0_4 (C : Nat → Nat → Int32) : (cr_0 C).2.2.2 = 0 := by unfold cr_0; dsimp only
theorem cr_rs_0 (X : cr_R) : cr_rs X 0 = X := by rw [cr_rs]
theorem cr_ss_0 (X : cr_R) : cr_ss X 0 = X := by rw [cr_ss]
/-- THE WHOLE TAPE: a market read alike, or one fault at one place -/
theorem ag_read (s0 : Nat) (h8 : C 8 = M 8) (h9 : C 9 = M 9) (ht : M 9 0 = nI t) (ht1 : t ≤ 100) : ag_RR M t (cr_all C).1 (cr_all C).2.1 (ps_market M t s0) ∧ cr_J (cr_all C).2.1 (cr_all C).2.2.1 (cr_all C).2.2.2 := by
  have hk0 : ag_K (cr_S0 C) M (ps_S0 M s0).2.1 := ⟨rfl, rfl, h8, h9⟩
  obtain ⟨l1, l2⟩ := ag_law (C := cr_S0 C) (ps_S0 M s0) hk0 ht ht1 (Nat.zero_le _)
  have hle := ps_law_le (S := ps_S0 M s0) ht ht1 (Nat.zero_le _)
  have eS : (ps_S0 M s0).1 = fun _ => 0 := rfl
  have hJ0 : cr_J (cr_0 C).2.1 (cr_0 C).2.2.1 (cr_0 C).2.2.2 := by
    rw [cr_0_2, cr_0_3, cr_0_4]
    exact cr_J_g0 _ _
  have hZ0 : ag_Z0 (cr_0 C).2.1 (cr_0 C).2.2.2 := by
    rw [cr_0_2, cr_0_4]
    exact ag_Z0_g0 _ _
  have h1 : ag_RK M t (cr_rs (cr_0 C) 1) 1 (ps_start M (ps_S0 M s0)) := by
    unfold ps_start
    by_cases c : (ps_law M (ps_S0 M s0)).1 = 0
    · rw [if_pos c]
      have hf : ag_ff2 (cr_law (cr_S0 C)) (ps_law M (ps_S0 M s0)).2 := ag_o_0 rfl l1 c
      have hf' : ag_f (cr_rs (cr_0 C) 0).1 (ps_law M (ps_S0 M s0)).2.2.2.2.1 (ps_law M (ps_S0 M s0)).2.2.2.1 := by
        rw [cr_rs_0, cr_0_1]
        exact hf
      rw [ag_rs_n (fun z => hf'.2.1 (hf'.1.symm.trans z.1)), cr_rs_0]
      rw [cr_rs_0] at hf'
      exact ⟨Or.inr ⟨rfl, hf'⟩, hJ0, hZ0, fun z => absurd rfl z⟩
    · rw [if_neg c]
      have hk1 : ag_K (cr_law (cr_S0 C)) M (ps_law M (ps_S0 M s0)).2.2.1 := ag_o_1 rfl l1 c
      have hg1 := l2 c
      rw [eS, ag_g0_e] at hg1
      have hkk : ag_K (cr_0 C).1 M (ps_law M (ps_S0 M s0)).2.2.1 := by rw [cr_0_1]; exact hk1
      have hgg : (ps_law M (ps_S0 M s0)).2.1 = (cr_0 C).2.1 := by rw [cr_0_2]; exact hg1
      obtain ⟨b1, b2⟩ := ag_RR_rope (ps_law M (ps_S0 M s0)).2 ht ht1 hJ0 hkk hgg hle (fun z => by rw [cr_0_3] at z; omega)
      rw [ag_rs_y ⟨by rw [cr_rs_0]; exact hkk.1, Or.inl rfl⟩, cr_rs_0]
      by_cases c2 : (ps_rope M (ps_law M (ps_S0 M s0)).2).1 = 0
      · rw [if_pos c2]
        unfold ag_RK
        rw [cr_rp_1, cr_rp_2, cr_rp_3, cr_rp_n]
        refine ⟨?_, cr_J_rp hJ0, ag_Z0_rg hZ0 hJ0.2.2, fun z => absurd rfl z⟩
        rcases b1 with ⟨z, -⟩ | ⟨-, z⟩
        · exact absurd c2 z
        · exact Or.inr ⟨rfl, z⟩
      · rw [if_neg c2]
        unfold ag_RK
        rw [cr_rp_1, cr_rp_2, cr_rp_3, cr_rp_n]
        refine ⟨?_, cr_J_rp hJ0, ag_Z0_rg hZ0 hJ0.2.2, fun _ => Or.inl (by rw [b2 c2, cr_0_3])⟩
        rcases b1 with ⟨-, z⟩ | ⟨z, -⟩
        · exact Or.inl ⟨by decide, z⟩
        · exact absurd z c2
  obtain ⟨r1, r2, r3⟩ := ag_rs_all ht ht1 h1
  have n4 : (cr_rs (cr_0 C) 4).2.2.2 = 0 := by rw [cr_rs_n, cr_0_4]
  have h2 : ag_SK M t (cr_ss (cr_1 C) 0) 0 (ps_ropes M 5 (ps_start M (ps_S0 M s0))) := by
    rw [cr_ss_0]
    unfold cr_1
    exact ⟨r1, r2, r3, fun _ => Or.inl n4⟩
  have h3 := ag_ss_all ht ht1 h2
  unfold cr_all ps_market
  exact h3
end AGR
