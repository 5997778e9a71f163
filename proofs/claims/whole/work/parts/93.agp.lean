/-! THE TAPE read both ways: the class goes on behind a fault, the first of them stays; the reference stops -/
/-- no fault yet, at p -/
def ag_K (C M : Nat → Nat → Int32) (p : Nat) : Prop := C 25 0 = 0 ∧ C 24 0 = nI p ∧ C 8 = M 8 ∧ C 9 = M 9
/-- a fault told -/
def ag_f (C : Nat → Nat → Int32) (f : Int32) (q : Nat) : Prop := C 25 0 = f ∧ ¬ f = 0 ∧ C 26 0 = nI q
theorem ag_tf_f {C : Nat → Nat → Int32} {f num pl : Int32} {q : Nat} (h : ag_f C f q) : ag_f (mk_tf C num pl) f q := by
  unfold mk_tf
  rw [if_neg (fun z => h.2.1 (h.1.symm.trans z))]
  exact h
theorem ag_tf_k {C M : Nat → Nat → Int32} {num : Int32} {p q : Nat} (h : ag_K C M p) (hn : ¬ num = 0) : ag_f (mk_tf C num (nI q)) num q := by
  unfold mk_tf
  rw [if_pos h.1]
  exact ⟨rfl, hn, rfl⟩
theorem ag_pass_f {C : Nat → Nat → Int32} {f x : Int32} {q : Nat} (h : ag_f C f q) : ag_f (mk_pass C x) f q := by
  unfold mk_pass
  rw [if_neg (fun z => h.2.1 (h.1.symm.trans z.1))]
  exact ag_tf_f h
theorem ag_n1_f {C : Nat → Nat → Int32} {f a b : Int32} {q : Nat} (h : ag_f C f q) : ag_f (mk_n1 C a b) f q := by
  unfold mk_n1
  by_cases c : mk_fk C (C 24 0) < 1 ∨ 2 < mk_fk C (C 24 0)
  · rw [if_pos c]; exact ag_tf_f h
  · rw [if_neg c]
    by_cases c2 : mk_nv C (C 24 0) (mk_fk C (C 24 0)) < a ∨ b < mk_nv C (C 24 0) (mk_fk C (C 24 0))
    · rw [if_pos c2]; exact ag_tf_f h
    · rw [if_neg c2]; exact h
theorem ag_num_f {C : Nat → Nat → Int32} {f a b : Int32} {q : Nat} (h : ag_f C f q) : ag_f (mk_number C a b).2 f q := by
  have h1 := ag_n1_f (a := a) (b := b) h
  unfold mk_number
  rw [if_neg (fun z => h1.2.1 (h1.1.symm.trans z))]
  exact h1
section AGP
variable {C M : Nat → Nat → Int32} {t p : Nat}
theorem ag_by_in (hk : ag_K C M p) (ht : M 9 0 = nI t) (ht1 : t ≤ 100) {q : Nat} (hq : q < t) : mk_by C (nI q) = hs_byte M q := by
  unfold mk_by hs_byte
  rw [hk.2.2.1, hk.2.2.2, ht, nI_clamp (by omega), nI_clamp (by omega), if_pos hq, if_neg]
  rintro (z | z | z)
  · exact nI_pos (n := q) (by omega) z
  · exact nI_ge hq (by omega) z
  · exact nI_ge (a := q) (b := 100) (by omega) (by omega) z
theorem ag_by_out (hk : ag_K C M p) (ht : M 9 0 = nI t) (ht1 : t ≤ 100) {q : Nat} (hq : t ≤ q) (hq2 : q < 2147483648) : mk_by C (nI q) = hs_NONE ∧ hs_byte M q = -1 := by
  unfold mk_by hs_byte
  have n1 : nI q < 0 ∨ nI t ≤ nI q ∨ 100 ≤ nI q := Or.inr (Or.inl (nI_le hq (by omega)))
  have n2 : ¬ q < t := by omega
  rw [hk.2.2.2, ht, nI_clamp (n := q) (by omega), nI_clamp (n := t) (by omega), if_pos n1, if_neg n2]
  exact ⟨rfl, rfl⟩
/-- no letter is -1 or NONE -/
theorem ag_by_eq (hk : ag_K C M p) (ht : M 9 0 = nI t) (ht1 : t ≤ 100) {q : Nat} (hq2 : q < 2147483648) {c : Int32} (h1 : ¬ c = -1) (h2 : ¬ c = hs_NONE) : mk_by C (nI q) = c ↔ hs_byte M q = c := by
  rcases Nat.lt_or_ge q t with z | z
  · rw [ag_by_in hk ht ht1 z]
  · obtain ⟨e1, e2⟩ := ag_by_out hk ht ht1 z hq2
    rw [e1, e2]
    exact ⟨fun y => absurd y.symm h2, fun y => absurd y.symm h1⟩
theorem ag_by_fig (hk : ag_K C M p) (ht : M 9 0 = nI t) (ht1 : t ≤ 100) {q : Nat} (hq2 : q < 2147483648) : hs_in (mk_by C (nI q)) 48 57 = hs_fig M q := by
  unfold hs_fig
  rcases Nat.lt_or_ge q t with z | z
  · rw [ag_by_in hk ht ht1 z]
  · obtain ⟨e1, e2⟩ := ag_by_out hk ht ht1 z hq2
    rw [e1, e2]
    decide
theorem ag_pass_k (hk : ag_K C M p) (ht : M 9 0 = nI t) (ht1 : t ≤ 100) (hp : p ≤ t) {c : Int32} (h1 : ¬ c = -1) (h2 : ¬ c = hs_NONE) : (hs_byte M p = c → ag_K (mk_pass C c) M (p + 1)) ∧ (¬ hs_byte M p = c → ag_f (mk_pass C c) 1 p) := by
  have e := ag_by_eq hk ht ht1 (q := p) (by omega) h1 h2
  have hp' : C 24 0 = nI p := hk.2.1
  refine ⟨fun z => ?_, fun z => ?_⟩
  · unfold mk_pass
    rw [hp', if_pos ⟨hk.1, e.mpr z⟩, nI_1]
    exact ⟨hk.1, rfl, hk.2.2.1, hk.2.2.2⟩
  · unfold mk_pass
    rw [hp', if_neg (fun y => z (e.mp y.2))]
    exact ag_tf_k hk (by decide)
theorem ag_nf_s (M : Nat → Nat → Int32) (p f : Nat) : hs_nf M p (f + 1) = if hs_fig M p = 0 then 0 else hs_nf M (p + 1) f + 1 := rfl
theorem ag_fk (hk : ag_K C M p) (ht : M 9 0 = nI t) (ht1 : t ≤ 100) (hp : p ≤ t) : mk_fk C (nI p) = min (hs_n M p) 3 := by
  have e : ∀ j, j < 4 → mk_fg C (nI p) j = hs_fig M (p + j) := by
    intro j hj
    unfold mk_fg
    rw [nI_add]
    exact ag_by_fig hk ht ht1 (by omega)
  unfold mk_fk hs_n
  rw [e 0 (by omega), e 1 (by omega), e 2 (by omega), ag_nf_s M p 101, Nat.add_zero]
  by_cases c0 : hs_fig M p = 0
  · rw [if_pos c0, if_pos c0]
    rfl
  rw [if_neg c0, if_neg c0, ag_nf_s M (p + 1) 100]
  by_cases c1 : hs_fig M (p + 1) = 0
  · rw [if_pos c1, if_pos c1]
    rfl
  rw [if_neg c1, if_neg c1, ag_nf_s M (p + 1 + 1) 99, show p + 1 + 1 = p + 2 by omega]
  by_cases c2 : hs_fig M (p + 2) = 0
  · rw [if_pos c2, if_pos c2]
    rfl
  rw [if_neg c2, if_neg c2]
  omega
theorem ag_fig_lt (ht : M 9 0 = nI t) (ht1 : t ≤ 100) {q : Nat} (h : ¬ hs_fig M q = 0) : q < t := by
  rcases Nat.lt_or_ge q t with z | z
  · exact z
  · exact absurd (hs_fig_end M ht ht1 z) h
theorem ag_nv (hk : ag_K C M p) (ht : M 9 0 = nI t) (ht1 : t ≤ 100) (hp : p ≤ t) : ∀ k, k ≤ 2 → k ≤ hs_n M p → mk_nv C (nI p) k = hs_val M p k := by
  have hn := hs_nf_ok M ht ht1 102 p (by omega)
  intro k
  induction k with
  | zero => intro _ _; rfl
  | succ k ih =>
    intro h2 hk2
    have hlt : p + k < t := ag_fig_lt ht ht1 (hn.1 k (Nat.lt_of_succ_le hk2))
    have e2 : hs_val M p (k + 1) = if 2 ≤ k then hs_val M p k else 10 * hs_val M p k + hs_byte M (p + k) - 48 := rfl
    rw [mk_nv, ih (by omega) (by omega), nI_add, ag_by_in hk ht ht1 hlt, e2, if_neg (by omega)]
theorem ag_num_k (hk : ag_K C M p) (ht : M 9 0 = nI t) (ht1 : t ≤ 100) (hp : p ≤ t) (lo hi : Int32) :
    ((hs_n M p = 0 ∨ 2 < hs_n M p) → ag_f (mk_number C lo hi).2 1 p) ∧ (¬ (hs_n M p = 0 ∨ 2 < hs_n M p) → hs_in (hs_val M p (hs_n M p)) lo hi = 0 → ag_f (mk_number C lo hi).2 2 p) ∧
    (¬ (hs_n M p = 0 ∨ 2 < hs_n M p) → ¬ hs_in (hs_val M p (hs_n M p)) lo hi = 0 → (mk_number C lo hi).1 = hs_val M p (hs_n M p) ∧ ag_K (mk_number C lo hi).2 M (p + hs_n M p)) := by
  have hf := ag_fk hk ht ht1 hp
  have hp' : C 24 0 = nI p := hk.2.1
  refine ⟨fun z => ?_, fun z y => ?_, fun z y => ?_⟩
  · have e1 : mk_n1 C lo hi = mk_tf C 1 (nI p) := by
      unfold mk_n1
      rw [hp', hf, if_pos (by omega)]
    have h1 : ag_f (mk_n1 C lo hi) 1 p := by rw [e1]; exact ag_tf_k hk (by decide)
    unfold mk_number
    rw [if_neg (fun q => h1.2.1 (h1.1.symm.trans q))]
    exact h1
  · have em : min (hs_n M p) 3 = hs_n M p := by omega
    have e1 : mk_n1 C lo hi = mk_tf C 2 (nI p) := by
      unfold mk_n1
      rw [hp', hf, em, if_neg (by omega), ag_nv hk ht ht1 hp _ (by omega) (Nat.le_refl _), if_pos]
      have := hs_in_0 y
      rcases Classical.em (lo ≤ hs_val M p (hs_n M p)) with q | q
      · exact Or.inr (Int32.not_le.mp (fun x => this ⟨q, x⟩))
      · exact Or.inl (Int32.not_le.mp q)
    have h1 : ag_f (mk_n1 C lo hi) 2 p := by rw [e1]; exact ag_tf_k hk (by decide)
    unfold mk_number
    rw [if_neg (fun q => h1.2.1 (h1.1.symm.trans q))]
    exact h1
  · have em : min (hs_n M p) 3 = hs_n M p := by omega
    have hv := ag_nv hk ht ht1 hp _ (by omega) (Nat.le_refl (hs_n M p))
    have e1 : mk_n1 C lo hi = C := by
      unfold mk_n1
      rw [hp', hf, em, if_neg (by omega), hv, if_neg]
      have := hs_in_1 y
      rintro (q | q)
      · exact absurd this.1 (Int32.not_le.mpr q)
      · exact absurd this.2 (Int32.not_le.mpr q)
    unfold mk_number
    rw [e1, if_pos hk.1, hp', hf, em, hv, nI_add]
    exact ⟨rfl, hk.1, rfl, hk.2.2.1, hk.2.2.2⟩
/-- what a piece gives: the reference says yes and both stand at one place, or no and both tell one fault -/
def ag_o (C M : Nat → Nat → Int32) (X : Int32 × ps_S) : Prop := (¬ X.1 = 0 ∧ ag_K C M X.2.2.1) ∨ (X.1 = 0 ∧ ag_f C X.2.2.2.2.1 X.2.2.2.1)
/-- a fault stays to the end of a piece -/
def ag_ff2 (C : Nat → Nat → Int32) (S : ps_S) : Prop := ag_f C S.2.2.2.1 S.2.2.1
theorem ag_o_0 {X : Int32 × ps_S} {S' : ps_S} (e : X.2 = S') (h : ag_o C M X) (h0 : X.1 = 0) : ag_ff2 C S' := by
  subst e
  rcases h with h | h
  · exact absurd h0 h.1
  · exact h.2
theorem ag_o_1 {X : Int32 × ps_S} {S' : ps_S} (e : X.2 = S') (h : ag_o C M X) (h0 : ¬ X.1 = 0) : ag_K C M S'.2.1 := by
  subst e
  rcases h with h | h
  · exact h.2
  · exact absurd h.1 h0
theorem ag_o_n {S' : ps_S} (h : ag_ff2 C S') : ag_o C M (0, S') := Or.inr ⟨rfl, h⟩
theorem ag_o_y {x f v : Int32} {h : Nat → Int32} {q s : Nat} (hx : ¬ x = 0) (k : ag_K C M q) : ag_o C M (x, h, q, s, f, v) := Or.inl ⟨hx, k⟩
theorem ag_o_z {x f v : Int32} {h : Nat → Int32} {q s : Nat} (hx : x = 0) (k : ag_f C f s) : ag_o C M (x, h, q, s, f, v) := Or.inr ⟨hx, k⟩
theorem ag_no {P : Prop} {S' : ps_S} : ¬ ((0 : Int32), S').1 = 0 → P := fun z => absurd rfl z
theorem ag_ff_p {S' : ps_S} {x : Int32} (h : ag_ff2 C S') : ag_ff2 (mk_pass C x) S' := ag_pass_f h
theorem ag_ff_n {S' : ps_S} {a b : Int32} (h : ag_ff2 C S') : ag_ff2 (mk_number C a b).2 S' := ag_num_f h
theorem ag_ff_t {S' : ps_S} {a b : Int32} (h : ag_ff2 C S') : ag_ff2 (mk_tf C a b) S' := ag_tf_f h
theorem ag_takes (S : ps_S) (hk : ag_K C M S.2.1) (ht : M 9 0 = nI t) (ht1 : t ≤ 100) (hp : S.2.1 ≤ t) {c : Int32} (h1 : ¬ c = -1) (h2 : ¬ c = hs_NONE) : ag_o (mk_pass C c) M (ps_takes M c S) := by
  obtain ⟨k1, k2⟩ := ag_pass_k hk ht ht1 hp h1 h2
  unfold ps_takes
  by_cases c : hs_byte M S.2.1 = c
  · rw [if_pos c]
    exact ag_o_y (by decide) (k1 c)
  · rw [if_neg c]
    exact ag_o_z rfl (k2 c)
theorem ag_num (S : ps_S) (hk : ag_K C M S.2.1) (ht : M 9 0 = nI t) (ht1 : t ≤ 100) (hp : S.2.1 ≤ t) (lo hi : Int32) : ag_o (mk_number C lo hi).2 M (ps_num M lo hi S) ∧ (¬ (ps_num M lo hi S).1 = 0 → (mk_number C lo hi).1 = ps_v (ps_num M lo hi S).2) := by
  obtain ⟨k1, k2, k3⟩ := ag_num_k hk ht ht1 hp lo hi
  unfold ps_num
  generalize mk_number C lo hi = N at k1 k2 k3 ⊢
  generalize hs_val M S.2.1 (hs_n M S.2.1) = v at k1 k2 k3 ⊢
  generalize hs_n M S.2.1 = m at k1 k2 k3 ⊢
  by_cases c : m = 0 ∨ 2 < m
  · rw [if_pos c]
    exact ⟨ag_o_z rfl (k1 c), ag_no⟩
  · rw [if_neg c]
    by_cases c2 : hs_in v lo hi = 0
    · exact ⟨ag_o_z c2 (k2 c c2), fun z => absurd c2 z⟩
    · obtain ⟨a1, a2⟩ := k3 c c2
      exact ⟨ag_o_y c2 a2, fun _ => a1⟩
theorem ag_l1 {S' : ps_S} (h : ag_ff2 (cr_l1 C) S') : ag_ff2 (cr_l2 C).2 S' := by unfold cr_l2; exact ag_ff_n h
theorem ag_l2 {S' : ps_S} (h : ag_ff2 (cr_l2 C).2 S') : ag_ff2 (cr_l3 C) S' := by unfold cr_l3; exact ag_ff_p h
theorem ag_l3 {S' : ps_S} (h : ag_ff2 (cr_l3 C) S') : ag_ff2 (cr_l4 C).2 S' := by unfold cr_l4; exact ag_ff_n h
theorem ag_l4 {S' : ps_S} (h : ag_ff2 (cr_l4 C).2 S') : ag_ff2 (cr_law C) S' := by unfold cr_law; exact ag_ff_p h
theorem ag_law (S : ps_S) (hk : ag_K C M S.2.1) (ht : M 9 0 = nI t) (ht1 : t ≤ 100) (hp : S.2.1 ≤ t) : ag_o (cr_law C) M (ps_law M S) ∧ (¬ (ps_law M S).1 = 0 → (ps_law M S).2.1 = va_up (va_up S.1 0 (cr_l2 C).1) 1 (cr_l4 C).1) := by
  have a1 : ag_o (cr_l1 C) M (ps_takes M 109 S) := ag_takes S hk ht ht1 hp (by decide) (by decide)
  have p1 : (pl1 M S).2.1 ≤ t := ps_takes_le ht ht1 (by decide) hp
  have p2 : (pl2 M S).2.1 ≤ t := ps_num_le ht ht1 p1
  have p3 : (pl3 M S).2.1 ≤ t := ps_takes_le ht ht1 (by decide) (ps_set_le p2)
  have p4 : (pl4 M S).2.1 ≤ t := ps_num_le ht ht1 p3
  have f1 : (ps_takes M 109 S).2 = pl1 M S := rfl
  have f2 : (ps_num M 0 99 (pl1 M S)).2 = pl2 M S := rfl
  have f3 : (ps_takes M 44 (ps_set (pl2 M S) 0 (pl2 M S).2.2.2.2)).2 = pl3 M S := rfl
  have f4 : (ps_num M 0 20 (pl3 M S)).2 = pl4 M S := rfl
  unfold ps_law
  by_cases c1 : (ps_takes M 109 S).1 = 0
  · rw [if_pos c1]
    have h1 : ag_ff2 (cr_l1 C) (pl1 M S) := ag_o_0 f1 a1 c1
    exact ⟨ag_o_n (ag_l4 (ag_l3 (ag_l2 (ag_l1 h1)))), ag_no⟩
  rw [if_neg c1]
  have k1 : ag_K (cr_l1 C) M (pl1 M S).2.1 := ag_o_1 f1 a1 c1
  obtain ⟨a2, v2⟩ := ag_num (pl1 M S) k1 ht ht1 p1 0 99
  have a2 : ag_o (cr_l2 C).2 M (ps_num M 0 99 (pl1 M S)) := a2
  by_cases c2 : (ps_num M 0 99 (pl1 M S)).1 = 0
  · rw [if_pos c2]
    have h2 : ag_ff2 (cr_l2 C).2 (pl2 M S) := ag_o_0 f2 a2 c2
    exact ⟨ag_o_n (ag_l4 (ag_l3 (ag_l2 h2))), ag_no⟩
  rw [if_neg c2]
  have k2 : ag_K (cr_l2 C).2 M (pl2 M S).2.1 := ag_o_1 f2 a2 c2
  have a3 : ag_o (cr_l3 C) M (ps_takes M 44 (ps_set (pl2 M S) 0 (pl2 M S).2.2.2.2)) := ag_takes (ps_set (pl2 M S) 0 (pl2 M S).2.2.2.2) k2 ht ht1 (ps_set_le p2) (by decide) (by decide)
  by_cases c3 : (ps_takes M 44 (ps_set (pl2 M S) 0 (pl2 M S).2.2.2.2)).1 = 0
  · rw [if_pos c3]
    have h3 : ag_ff2 (cr_l3 C) (pl3 M S) := ag_o_0 f3 a3 c3
    exact ⟨ag_o_n (ag_l4 (ag_l3 h3)), ag_no⟩
  rw [if_neg c3]
  have k3 : ag_K (cr_l3 C) M (pl3 M S).2.1 := ag_o_1 f3 a3 c3
  obtain ⟨a4, v4⟩ := ag_num (pl3 M S) k3 ht ht1 p3 0 20
  have a4 : ag_o (cr_l4 C).2 M (ps_num M 0 20 (pl3 M S)) := a4
  by_cases c4 : (ps_num M 0 20 (pl3 M S)).1 = 0
  · rw [if_pos c4]
    have h4 : ag_ff2 (cr_l4 C).2 (pl4 M S) := ag_o_0 f4 a4 c4
    exact ⟨ag_o_n (ag_l4 h4), ag_no⟩
  rw [if_neg c4]
  have k4 : ag_K (cr_l4 C).2 M (pl4 M S).2.1 := ag_o_1 f4 a4 c4
  have a5 : ag_o (cr_law C) M (ps_takes M 59 (ps_set (pl4 M S) 1 (pl4 M S).2.2.2.2)) := ag_takes (ps_set (pl4 M S) 1 (pl4 M S).2.2.2.2) k4 ht ht1 (ps_set_le p4) (by decide) (by decide)
  refine ⟨a5, fun _ => ?_⟩
  have w2 : (cr_l2 C).1 = (pl2 M S).2.2.2.2 := v2 c2
  have w4 : (cr_l4 C).1 = (pl4 M S).2.2.2.2 := v4 c4
  have e1 : (pl1 M S).1 = S.1 := ps_takes_h _ _ _
  have e2 : (pl2 M S).1 = S.1 := (ps_num_h _ _ _ _).trans e1
  have e3 : (pl3 M S).1 = va_up S.1 0 (pl2 M S).2.2.2.2 := by unfold pl3; rw [ps_takes_h, ps_set_1, e2]
  have e4 : (pl4 M S).1 = va_up S.1 0 (pl2 M S).2.2.2.2 := (ps_num_h _ _ _ _).trans e3
  rw [ps_takes_h, ps_set_1, e4, w2, w4]
end AGP
