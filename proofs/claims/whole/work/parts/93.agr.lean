/-! the tape's loops, and the whole market read both ways -/
def ag_RR (M : Nat → Nat → Int32) (t : Nat) (C : Nat → Nat → Int32) (g : Nat → Int32) (Y : Int32 × ps_S) : Prop := (¬ Y.1 = 0 ∧ ag_K C M Y.2.2.1 ∧ Y.2.1 = g ∧ Y.2.2.1 ≤ t) ∨ (Y.1 = 0 ∧ ag_f C Y.2.2.2.2.1 Y.2.2.2.1)
section AGR
variable {C M : Nat → Nat → Int32} {t : Nat}
theorem ag_RR_rope {g : Nat → Int32} {nr n : Nat} (S : ps_S) (ht : M 9 0 = nI t) (ht1 : t ≤ 100) (hJ : cr_J g nr n) (hk : ag_K C M S.2.1) (hg : S.1 = g) (hp : S.2.1 ≤ t) (hl : nr = 3 → hs_byte M S.2.1 = 108) : ag_RR M t (cr_rope C g) (cr_rg C g nr) (ps_rope M S) ∧ (¬ (ps_rope M S).1 = 0 → cr_rn C g nr = nr + 1) := by
  obtain ⟨h1, h2⟩ := ag_rope_p S hk ht ht1 hp hg hJ.2.1 hJ.2.2 hl
  have hle := ps_rope_le (S := S) ht ht1 hp
  rcases h1 with ⟨a1, a2⟩ | ⟨a1, a2⟩
  · have e25 : cr_rope C g 25 0 = 0 := a2.1
    obtain ⟨b1, b2⟩ := h2 a1
    refine ⟨Or.inl ⟨a1, a2, ?_, hle⟩, fun _ => ?_⟩
    · rw [b1]
      unfold cr_rg
      rw [if_pos e25]
    · unfold cr_rn
      rw [if_pos e25]
  · exact ⟨Or.inr ⟨a1, a2⟩, fun z => absurd a1 z⟩
def ag_Z0 (g : Nat → Int32) (n : Nat) : Prop := ∀ i, n ≤ i → i < 6 → g (32 + i) = 0 ∧ g (38 + i) = 0 ∧ g (44 + i) = 0
theorem ag_Z0_rg {g : Nat → Int32} {nr n : Nat} (h : ag_Z0 g n) (h3 : nr ≤ 3) : ag_Z0 (cr_rg C g nr) n := by
  unfold cr_rg
  split
  · intro i hi h6
    rw [va_up_ne _ _ (by omega), va_up_ne _ _ (by omega), va_up_ne _ _ (by omega), va_up_ne _ _ (by omega), va_up_ne _ _ (by omega), va_up_ne _ _ (by omega)]
    exact h i hi h6
  · exact h
theorem ag_Z0_as {g : Nat → Int32} {n : Nat} {k ro pl go : Int32} (h : ag_Z0 g n) (hn : n < 6) : ag_Z0 (mk_as g n k ro pl go) (n + 1) := by
  intro i hi h6
  rw [mk_as_o g k ro pl go (by omega), mk_as_o g k ro pl go (by omega), mk_as_o g k ro pl go (by omega)]
  exact h i (by omega) h6
theorem ag_RR_stall {g : Nat → Int32} {nr n : Nat} (S : ps_S) (ht : M 9 0 = nI t) (ht1 : t ≤ 100) (hJ : cr_J g nr n) (hz : ag_Z0 g n) (hk : ag_K C M S.2.1) (hg : S.1 = g) (hp : S.2.1 ≤ t) : ag_RR M t (cr_s C g n) (cr_sg C g n) (ps_stall M S) ∧ (¬ (ps_stall M S).1 = 0 → cr_sn C g n = n + 1) ∧ ag_Z0 (cr_sg C g n) (cr_sn C g n) := by
  obtain ⟨h1, h2⟩ := ag_stall_p S hk ht ht1 hp hg hJ.1.1 hJ.1.2.1 (fun h => hz n (Nat.le_refl n) h)
  have hle := ps_stall_le (S := S) ht ht1 hp
  rcases h1 with ⟨a1, a2⟩ | ⟨a1, a2⟩
  · have e25 : cr_s C g n 25 0 = 0 := a2.1
    obtain ⟨b1, b2⟩ := h2 a1
    have e1 : cr_sg C g n = mk_as g n (cr_k C) (cr_c C g).1 (cr_e C g).1 (cr_h C g n).1 := by
      unfold cr_sg
      rw [if_pos e25]
    have e2 : cr_sn C g n = n + 1 := by
      unfold cr_sn
      rw [if_pos e25]
    refine ⟨Or.inl ⟨a1, a2, by rw [b1, e1], hle⟩, fun _ => e2, ?_⟩
    rw [e1, e2]
    exact ag_Z0_as hz b2
  · have e25 : ¬ cr_s C g n 25 0 = 0 := fun z => a2.2.1 (a2.1.symm.trans z)
    have e1 : cr_sg C g n = g := by
      unfold cr_sg
      rw [if_neg e25]
    have e2 : cr_sn C g n = n := by
      unfold cr_sn
      rw [if_neg e25]
    refine ⟨Or.inr ⟨a1, a2⟩, fun z => absurd a1 z, ?_⟩
    rw [e1, e2]
    exact hz
end AGR
/-- the reference's loops stand still where they are done -/
theorem ag_pr_s {M : Nat → Nat → Int32} {Y : Int32 × ps_S} (h : Y.1 = 0 ∨ ¬ hs_byte M Y.2.2.1 = 108) : ∀ f, ps_ropes M f Y = Y := by
  intro f
  cases f with
  | zero => rfl
  | succ f =>
    rw [ps_ropes]
    rcases h with h | h
    · rw [if_pos h]
    · rw [if_neg h]
      split <;> rfl
theorem ag_ps_s {M : Nat → Nat → Int32} {t : Nat} {Y : Int32 × ps_S} (h : Y.1 = 0 ∨ ¬ Y.2.2.1 < t) : ∀ f, ps_stalls M t f Y = Y := by
  intro f
  cases f with
  | zero => rfl
  | succ f =>
    rw [ps_stalls]
    rcases h with h | h
    · rw [if_pos h]
    · rw [if_neg h]
      split <;> rfl
theorem ag_pr_add (M : Nat → Nat → Int32) : ∀ (m j : Nat) (Y : Int32 × ps_S), ps_ropes M (m + j) Y = ps_ropes M j (ps_ropes M m Y) := by
  intro m
  induction m with
  | zero => intro j Y; rw [Nat.zero_add]; rfl
  | succ m ih =>
    intro j Y
    rw [show m + 1 + j = (m + j) + 1 by omega, ps_ropes, ps_ropes]
    by_cases c : Y.1 = 0
    · rw [if_pos c, if_pos c, ag_pr_s (Or.inl c)]
    · rw [if_neg c, if_neg c]
      by_cases c2 : hs_byte M Y.2.2.1 = 108
      · rw [if_pos c2, if_pos c2, ih]
      · rw [if_neg c2, if_neg c2, ag_pr_s (Or.inr c2)]
theorem ag_ps_add (M : Nat → Nat → Int32) (t : Nat) : ∀ (m j : Nat) (Y : Int32 × ps_S), ps_stalls M t (m + j) Y = ps_stalls M t j (ps_stalls M t m Y) := by
  intro m
  induction m with
  | zero => intro j Y; rw [Nat.zero_add]; rfl
  | succ m ih =>
    intro j Y
    rw [show m + 1 + j = (m + j) + 1 by omega, ps_stalls, ps_stalls]
    by_cases c : Y.1 = 0
    · rw [if_pos c, if_pos c, ag_ps_s (Or.inl c)]
    · rw [if_neg c, if_neg c]
      by_cases c2 : Y.2.2.1 < t
      · rw [if_pos c2, if_pos c2, ih]
      · rw [if_neg c2, if_neg c2, ag_ps_s (Or.inr c2)]
theorem ag_rs_y {X : cr_R} {k : Nat} (h : (cr_rs X k).1 25 0 = 0 ∧ (k = 0 ∨ mk_by (cr_rs X k).1 ((cr_rs X k).1 24 0) = 108)) : cr_rs X (k + 1) = cr_rp (cr_rs X k) := by
  rw [cr_rs]
  exact if_pos h
theorem ag_rs_n {X : cr_R} {k : Nat} (h : ¬ ((cr_rs X k).1 25 0 = 0 ∧ (k = 0 ∨ mk_by (cr_rs X k).1 ((cr_rs X k).1 24 0) = 108))) : cr_rs X (k + 1) = cr_rs X k := by
  rw [cr_rs]
  exact if_neg h
theorem ag_ss_y {X : cr_R} {k : Nat} (h : (cr_ss X k).1 25 0 = 0 ∧ (cr_ss X k).1 24 0 < (cr_ss X k).1 9 0) : cr_ss X (k + 1) = cr_st (cr_ss X k) := by
  rw [cr_ss]
  exact if_pos h
theorem ag_ss_n {X : cr_R} {k : Nat} (h : ¬ ((cr_ss X k).1 25 0 = 0 ∧ (cr_ss X k).1 24 0 < (cr_ss X k).1 9 0)) : cr_ss X (k + 1) = cr_ss X k := by
  rw [cr_ss]
  exact if_neg h
theorem cr_rp_1 (X : cr_R) : (cr_rp X).1 = cr_rope X.1 X.2.1 := by unfold cr_rp; dsimp only
theorem cr_rp_2 (X : cr_R) : (cr_rp X).2.1 = cr_rg X.1 X.2.1 X.2.2.1 := by unfold cr_rp; dsimp only
theorem cr_rp_3 (X : cr_R) : (cr_rp X).2.2.1 = cr_rn X.1 X.2.1 X.2.2.1 := by unfold cr_rp; dsimp only
theorem cr_st_1 (X : cr_R) : (cr_st X).1 = cr_s X.1 X.2.1 X.2.2.2 := by unfold cr_st; dsimp only
theorem cr_st_2 (X : cr_R) : (cr_st X).2.1 = cr_sg X.1 X.2.1 X.2.2.2 := by unfold cr_st; dsimp only
theorem cr_st_3 (X : cr_R) : (cr_st X).2.2.1 = X.2.2.1 := by unfold cr_st; dsimp only
theorem cr_st_4 (X : cr_R) : (cr_st X).2.2.2 = cr_sn X.1 X.2.1 X.2.2.2 := by unfold cr_st; dsimp only
section AGR
variable {C M : Nat → Nat → Int32} {t : Nat}
/-- what stands behind k ropes: all of them read, or the reading has ended -/
def ag_RK (M : Nat → Nat → Int32) (t : Nat) (X : cr_R) (k : Nat) (Y : Int32 × ps_S) : Prop := ag_RR M t X.1 X.2.1 Y ∧ cr_J X.2.1 X.2.2.1 X.2.2.2 ∧ ag_Z0 X.2.1 X.2.2.2 ∧ (¬ Y.1 = 0 → X.2.2.1 = k ∨ ¬ hs_byte M Y.2.2.1 = 108)
theorem ag_rs_step {X : cr_R} {k : Nat} {Y : Int32 × ps_S} (ht : M 9 0 = nI t) (ht1 : t ≤ 100) (hk1 : 1 ≤ k) (h : ag_RK M t (cr_rs X k) k Y) : ∃ Y', ag_RK M t (cr_rs X (k + 1)) (k + 1) Y' ∧ ∀ f, ps_ropes M (f + 1) Y = ps_ropes M f Y' := by
  obtain ⟨h1, h2, h4, h3⟩ := h
  rcases h1 with ⟨a1, a2, a3, a4⟩ | ⟨a1, a2⟩
  · have e24 : (cr_rs X k).1 24 0 = nI Y.2.2.1 := a2.2.1
    have e := ag_by_eq a2 ht ht1 (q := Y.2.2.1) (by omega) (c := 108) (by decide) (by decide)
    by_cases c : hs_byte M Y.2.2.1 = 108
    · have hnr : (cr_rs X k).2.2.1 = k := (h3 a1).resolve_right (fun z => z c)
      obtain ⟨b1, b2⟩ := ag_RR_rope Y.2 ht ht1 h2 a2 a3 a4 (fun _ => c)
      refine ⟨ps_rope M Y.2, ?_, fun f => ?_⟩
      · rw [ag_rs_y ⟨a2.1, Or.inr (by rw [e24]; exact e.mpr c)⟩]
        unfold ag_RK
        rw [cr_rp_1, cr_rp_2, cr_rp_3, cr_rp_n]
        exact ⟨b1, cr_J_rp h2, ag_Z0_rg h4 h2.2.2, fun z => Or.inl (by rw [b2 z, hnr])⟩
      · rw [ps_ropes, if_neg a1, if_pos c]
    · refine ⟨Y, ?_, fun f => ?_⟩
      · rw [ag_rs_n (by
          rintro ⟨-, z | z⟩
          · omega
          · rw [e24] at z; exact c (e.mp z))]
        exact ⟨Or.inl ⟨a1, a2, a3, a4⟩, h2, h4, fun _ => Or.inr c⟩
      · rw [ag_pr_s (Or.inr c), ag_pr_s (Or.inr c)]
  · refine ⟨Y, ?_, fun f => ?_⟩
    · rw [ag_rs_n (fun z => a2.2.1 (a2.1.symm.trans z.1))]
      exact ⟨Or.inr ⟨a1, a2⟩, h2, h4, fun z => absurd a1 z⟩
    · rw [ag_pr_s (Or.inl a1), ag_pr_s (Or.inl a1)]
theorem ag_rs_all {X : cr_R} {Y : Int32 × ps_S} (ht : M 9 0 = nI t) (ht1 : t ≤ 100) (h : ag_RK M t (cr_rs X 1) 1 Y) : ag_RR M t (cr_rs X 4).1 (cr_rs X 4).2.1 (ps_ropes M 5 Y) ∧ cr_J (cr_rs X 4).2.1 (cr_rs X 4).2.2.1 (cr_rs X 4).2.2.2 ∧ ag_Z0 (cr_rs X 4).2.1 (cr_rs X 4).2.2.2 := by
  obtain ⟨Y2, h2, e2⟩ := ag_rs_step ht ht1 (by omega) h
  obtain ⟨Y3, h3, e3⟩ := ag_rs_step ht ht1 (by omega) h2
  obtain ⟨Y4, h4, e4⟩ := ag_rs_step ht ht1 (by omega) h3
  obtain ⟨k1, k2, k3, k4⟩ := h4
  have h3' := k2.2.2
  rw [e2 4, e3 3, e4 2, ag_pr_s]
  · exact ⟨k1, k2, k3⟩
  · by_cases c : Y4.1 = 0
    · exact Or.inl c
    · rcases k4 c with z | z
      · omega
      · exact Or.inr z
def ag_SK (M : Nat → Nat → Int32) (t : Nat) (X : cr_R) (k : Nat) (Y : Int32 × ps_S) : Prop := ag_RR M t X.1 X.2.1 Y ∧ cr_J X.2.1 X.2.2.1 X.2.2.2 ∧ ag_Z0 X.2.1 X.2.2.2 ∧ (¬ Y.1 = 0 → X.2.2.2 = k ∨ ¬ Y.2.2.1 < t)
theorem ag_ss_step {X : cr_R} {k k' : Nat} {Y : Int32 × ps_S} (hk' : k' = k + 1) (ht : M 9 0 = nI t) (ht1 : t ≤ 100) (h : ag_SK M t (cr_ss X k) k Y) : ∃ Y', ag_SK M t (cr_ss X k') k' Y' ∧ ∀ f, ps_stalls M t (f + 1) Y = ps_stalls M t f Y' := by
  subst hk'
  obtain ⟨h1, h2, h4, h3⟩ := h
  rcases h1 with ⟨a1, a2, a3, a4⟩ | ⟨a1, a2⟩
  · have e24 : (cr_ss X k).1 24 0 = nI Y.2.2.1 := a2.2.1
    have e9 : (cr_ss X k).1 9 0 = nI t := by rw [a2.2.2.2]; exact ht
    have e := nI_ltI (a := Y.2.2.1) (b := t) (by omega) (by omega)
    by_cases c : Y.2.2.1 < t
    · have hnr : (cr_ss X k).2.2.2 = k := (h3 a1).resolve_right (fun z => z c)
      obtain ⟨b1, b2, b3⟩ := ag_RR_stall Y.2 ht ht1 h2 h4 a2 a3 a4
      refine ⟨ps_stall M Y.2, ?_, fun f => ?_⟩
      · rw [ag_ss_y ⟨a2.1, by rw [e24, e9]; exact e.mpr c⟩]
        unfold ag_SK
        rw [cr_st_1, cr_st_2, cr_st_3, cr_st_4]
        exact ⟨b1, cr_J_st h2, b3, fun z => Or.inl (by rw [b2 z, hnr])⟩
      · rw [ps_stalls, if_neg a1, if_pos c]
    · refine ⟨Y, ?_, fun f => ?_⟩
      · rw [ag_ss_n (by
          rintro ⟨-, z⟩
          rw [e24, e9] at z
          exact c (e.mp z))]
        exact ⟨Or.inl ⟨a1, a2, a3, a4⟩, h2, h4, fun _ => Or.inr c⟩
      · rw [ag_ps_s (Or.inr c), ag_ps_s (Or.inr c)]
  · refine ⟨Y, ?_, fun f => ?_⟩
    · rw [ag_ss_n (fun z => a2.2.1 (a2.1.symm.trans z.1))]
      exact ⟨Or.inr ⟨a1, a2⟩, h2, h4, fun z => absurd a1 z⟩
    · rw [ag_ps_s (Or.inl a1), ag_ps_s (Or.inl a1)]
theorem ag_ss_q {X : cr_R} {Y : Int32 × ps_S} (h1 : ag_RR M t X.1 X.2.1 Y) (h2 : cr_J X.2.1 X.2.2.1 X.2.2.2) : ag_RR M t X.1 X.2.1 Y ∧ cr_J X.2.1 X.2.2.1 X.2.2.2 := ⟨h1, h2⟩
theorem ag_ss_all {X : cr_R} {Y : Int32 × ps_S} (ht : M 9 0 = nI t) (ht1 : t ≤ 100) (h : ag_SK M t (cr_ss X 0) 0 Y) : ag_RR M t (cr_ss X 7).1 (cr_ss X 7).2.1 (ps_stalls M t 8 Y) ∧ cr_J (cr_ss X 7).2.1 (cr_ss X 7).2.2.1 (cr_ss X 7).2.2.2 := by
  obtain ⟨Y1, h1, e1⟩ := ag_ss_step (k' := 1) rfl ht ht1 h
  obtain ⟨Y2, h2, e2⟩ := ag_ss_step (k' := 2) rfl ht ht1 h1
  obtain ⟨Y3, h3, e3⟩ := ag_ss_step (k' := 3) rfl ht ht1 h2
  obtain ⟨Y4, h4, e4⟩ := ag_ss_step (k' := 4) rfl ht ht1 h3
  obtain ⟨Y5, h5, e5⟩ := ag_ss_step (k' := 5) rfl ht ht1 h4
  obtain ⟨Y6, h6, e6⟩ := ag_ss_step (k' := 6) rfl ht ht1 h5
  obtain ⟨Y7, h7, e7⟩ := ag_ss_step (k' := 7) rfl ht ht1 h6
  obtain ⟨k1, k2, k3, k4⟩ := h7
  have h6' := k2.1.2.1
  rw [e1 7, e2 6, e3 5, e4 4, e5 3, e6 2, e7 1, ag_ps_s]
  · exact ag_ss_q k1 k2
  · by_cases c : Y7.1 = 0
    · exact Or.inl c
    · rcases k4 c with z | z
      · omega
      · exact Or.inr z
theorem ag_g0_e (a b : Int32) : va_up (va_up (fun _ => 0) 0 a) 1 b = mk_g0 a b := by
  funext j
  unfold mk_g0
  by_cases c1 : j = 1
  · rw [c1, va_up_self, if_neg (by omega), if_pos rfl]
  rw [va_up_ne _ _ c1]
  by_cases c0 : j = 0
  · rw [c0, va_up_self, if_pos rfl]
  · rw [va_up_ne _ _ c0, if_neg c0, if_neg c1]
theorem ag_Z0_g0 (a b : Int32) : ag_Z0 (mk_g0 a b) 0 := by
  intro i _ _
  unfold mk_g0
  rw [if_neg (by omega), if_neg (by omega), if_neg (by omega), if_neg (by omega), if_neg (by omega), if_neg (by omega)]
  exact ⟨rfl, rfl, rfl⟩
theorem cr_0_1 (C : Nat → Nat → Int32) : (cr_0 C).1 = cr_law (cr_S0 C) := by unfold cr_0; dsimp only
theorem cr_0_2 (C : Nat → Nat → Int32) : (cr_0 C).2.1 = mk_g0 (cr_l2 (cr_S0 C)).1 (cr_l4 (cr_S0 C)).1 := by unfold cr_0; dsimp only
theorem cr_0_3 (C : Nat → Nat → Int32) : (cr_0 C).2.2.1 = 0 := by unfold cr_0; dsimp only
theorem cr_0_4 (C : Nat → Nat → Int32) : (cr_0 C).2.2.2 = 0 := by unfold cr_0; dsimp only
theorem cr_rs_0 (X : cr_R) : cr_rs X 0 = X := by rw [cr_rs]
theorem cr_ss_0 (X : cr_R) : cr_ss X 0 = X := by rw [cr_ss]
/-- THE WHOLE TAPE: a market read alike, or one fault at one place -/
theorem ag_read (s0 : Nat) (h8 : C 8 = M 8) (h9 : C 9 = M 9) (ht : M 9 0 = nI t) (ht1 : t ≤ 100) : ag_RR M t (cr_all C).1 (cr_all C).2.1 (ps_market M t s0) ∧ cr_J (cr_all C).2.1 (cr_all C).2.2.1 (cr_all C).2.2.2 := by
  have hk0 : ag_K (cr_S0 C) M (ps_S0 M s0).2.1 := ⟨rfl, rfl, h8, h9⟩
  obtain ⟨l1, l2⟩ := ag_law (C := cr_S0 C) (ps_S0 M s0) hk0 ht ht1 (Nat.zero_le _)
  have hle := ps_law_le (S := ps_S0 M s0) ht ht1 (Nat.zero_le _)
  have eS : (ps_S0 M s0).1 = fun _ => 0 := rfl
  have hJ0 : cr_J (cr_0 C).2.1 (cr_0 C).2.2.1 (cr_0 C).2.2.2 := by
    rw [cr_0_2, cr_0_3, cr_0_4]
    exact cr_J_g0 _ _
  have hZ0 : ag_Z0 (cr_0 C).2.1 (cr_0 C).2.2.2 := by
    rw [cr_0_2, cr_0_4]
    exact ag_Z0_g0 _ _
  have h1 : ag_RK M t (cr_rs (cr_0 C) 1) 1 (ps_start M (ps_S0 M s0)) := by
    unfold ps_start
    by_cases c : (ps_law M (ps_S0 M s0)).1 = 0
    · rw [if_pos c]
      have hf : ag_ff2 (cr_law (cr_S0 C)) (ps_law M (ps_S0 M s0)).2 := ag_o_0 rfl l1 c
      have hf' : ag_f (cr_rs (cr_0 C) 0).1 (ps_law M (ps_S0 M s0)).2.2.2.2.1 (ps_law M (ps_S0 M s0)).2.2.2.1 := by
        rw [cr_rs_0, cr_0_1]
        exact hf
      rw [ag_rs_n (fun z => hf'.2.1 (hf'.1.symm.trans z.1)), cr_rs_0]
      rw [cr_rs_0] at hf'
      exact ⟨Or.inr ⟨rfl, hf'⟩, hJ0, hZ0, fun z => absurd rfl z⟩
    · rw [if_neg c]
      have hk1 : ag_K (cr_law (cr_S0 C)) M (ps_law M (ps_S0 M s0)).2.2.1 := ag_o_1 rfl l1 c
      have hg1 := l2 c
      rw [eS, ag_g0_e] at hg1
      have hkk : ag_K (cr_0 C).1 M (ps_law M (ps_S0 M s0)).2.2.1 := by rw [cr_0_1]; exact hk1
      have hgg : (ps_law M (ps_S0 M s0)).2.1 = (cr_0 C).2.1 := by rw [cr_0_2]; exact hg1
      obtain ⟨b1, b2⟩ := ag_RR_rope (ps_law M (ps_S0 M s0)).2 ht ht1 hJ0 hkk hgg hle (fun z => by rw [cr_0_3] at z; omega)
      rw [ag_rs_y ⟨by rw [cr_rs_0]; exact hkk.1, Or.inl rfl⟩, cr_rs_0]
      by_cases c2 : (ps_rope M (ps_law M (ps_S0 M s0)).2).1 = 0
      · rw [if_pos c2]
        unfold ag_RK
        rw [cr_rp_1, cr_rp_2, cr_rp_3, cr_rp_n]
        refine ⟨?_, cr_J_rp hJ0, ag_Z0_rg hZ0 hJ0.2.2, fun z => absurd rfl z⟩
        rcases b1 with ⟨z, -⟩ | ⟨-, z⟩
        · exact absurd c2 z
        · exact Or.inr ⟨rfl, z⟩
      · rw [if_neg c2]
        unfold ag_RK
        rw [cr_rp_1, cr_rp_2, cr_rp_3, cr_rp_n]
        refine ⟨?_, cr_J_rp hJ0, ag_Z0_rg hZ0 hJ0.2.2, fun _ => Or.inl (by rw [b2 c2, cr_0_3])⟩
        rcases b1 with ⟨-, z⟩ | ⟨z, -⟩
        · exact Or.inl ⟨(show ¬ (1 : Int32) = 0 by decide), z⟩
        · exact absurd z c2
  obtain ⟨r1, r2, r3⟩ := ag_rs_all ht ht1 h1
  have n4 : (cr_rs (cr_0 C) 4).2.2.2 = 0 := by rw [cr_rs_n, cr_0_4]
  have h2 : ag_SK M t (cr_ss (cr_1 C) 0) 0 (ps_ropes M 5 (ps_start M (ps_S0 M s0))) := by
    rw [cr_ss_0]
    unfold cr_1
    exact ⟨r1, r2, r3, fun _ => Or.inl n4⟩
  have h3 := ag_ss_all ht ht1 h2
  unfold cr_all ps_market
  exact h3
end AGR
