/-! THE ACTS, both ways -/
/-- a step: one answer, the numbers behind it, the market's fifty alike, the images as they were -/
def ag_st (M : Nat → Nat → Int32) (n nr : Nat) (p : cs_T) (q : sp_S) : Prop := p.1 = q.1 ∧ (∃ a, ag_I p.2.1 q.2 n nr a) ∧ (∀ j, j < 50 → p.2.2 j = q.2 0 j) ∧ (∀ j, 50 ≤ j → j < 150 → q.2 0 j = M 0 j) ∧ q.2 2 = M 2
theorem ag_st0 {C M : Nat → Nat → Int32} {n nr a : Nat} (h : ag_I C M n nr a) (r : Int32) : ag_st M n nr (r, C, M 0) (r, M) := ⟨rfl, ⟨a, h⟩, fun _ _ => rfl, fun _ _ _ => rfl, rfl⟩
theorem ag_mk {C' M M' : Nat → Nat → Int32} {n nr a : Nat} {g' : Nat → Int32} {r r' : Int32} (h1 : r = r') (h2 : ag_I C' M' n nr a) (h3 : ∀ j, j < 50 → g' j = M' 0 j) (h4 : ∀ j, 50 ≤ j → j < 150 → M' 0 j = M 0 j) (h5 : M' 2 = M 2) : ag_st M n nr (r, C', g') (r', M') := ⟨h1, ⟨a, h2⟩, h3, h4, h5⟩
theorem ag_hp {M : Nat → Nat → Int32} {n κ : Nat} {what one : Int32} (h : ∀ g, mk_pm g n what one (M 0 κ) = va_up g κ (M 0 κ)) : ∀ (g : Nat → Int32) (x : Int32), (x = M 0 κ) → ∀ j, j < 50 → (j ≠ κ → g j = M 0 j) → mk_pm g n what one x j = M 0 j := by
  intro g x hx j hj hne
  rw [hx, h g]
  by_cases c : j = κ
  · rw [c, va_up_self]
  · rw [va_up_ne _ _ c]; exact hne c
theorem ag_log1 (C : Nat → Nat → Int32) {a : Nat} (ha : a ≤ 24) (what one before : Int32) : cs_log C a what one before 1 = va_up (C 1) 0 (nI (hs_pa a)) ∧ ∀ k, k ≠ 1 → k ≠ 21 → k ≠ 22 → k ≠ 23 → cs_log C a what one before k = C k := by
  by_cases h : a = 24
  · subst h
    have e : cs_log C 24 what one before = cs_log1 (cs_forget C) 23 what one before := if_neg (by omega)
    rw [e]
    refine ⟨?_, fun k h1 h2 h3 h4 => ?_⟩
    · have e1 : cs_log1 (cs_forget C) 23 what one before 1 = va_up (va_up (C 1) 0 23) 0 (nI 24) := rfl
      rw [e1, bx_uu]
      rfl
    · unfold cs_log1 cs_forget
      simp only [mo_w]
      rw [va_up_ne _ _ h1, va_up_ne _ _ h4, va_up_ne _ _ h3, va_up_ne _ _ h2, va_up_ne _ _ h4, va_up_ne _ _ h3, va_up_ne _ _ h2, va_up_ne _ _ h1]
  · have e : cs_log C a what one before = cs_log1 C a what one before := if_pos (by omega)
    rw [e]
    refine ⟨?_, fun k h1 h2 h3 h4 => ?_⟩
    · have e1 : cs_log1 C a what one before 1 = va_up (C 1) 0 (nI (a + 1)) := rfl
      rw [e1, hs_pa, if_neg h]
    · unfold cs_log1
      simp only [mo_w]
      rw [va_up_ne _ _ h1, va_up_ne _ _ h4, va_up_ne _ _ h3, va_up_ne _ _ h2]
theorem ag_do {C M : Nat → Nat → Int32} {n nr a κ : Nat} {what one v : Int32} (hI : ag_I C M n nr a) (h4 : M 0 4 = 1) (hκ : κ < 50) (hκ4 : κ ≠ 4) (hV : ag_V (va_up (M 0) κ v) n nr) (hp : ∀ g, mk_pm g n what one (M 0 κ) = va_up g κ (M 0 κ)) (r : Int32) : ag_st M n nr (r, cs_log C a what one (M 0 κ), va_up (M 0) κ v) (r, mo_w (sp_minds M a) 0 κ v) := by
  obtain ⟨hE, hZ, hT, hR, ⟨h1, ha⟩, h12, hVM, hth, hG⟩ := id hI
  obtain ⟨l1, l2⟩ := ag_log1 C ha what one (M 0 κ)
  have m0 : mo_w (sp_minds M a) 0 κ v 0 = va_up (hs_push (M 0) a) κ v := by
    rw [mo_w, va_up_self]
    rfl
  have m1 : mo_w (sp_minds M a) 0 κ v 1 = va_up (M 1) 0 (nI (hs_pa a)) := by
    rw [mo_w, va_up_ne _ _ (by decide)]
    rfl
  have mk_ : ∀ k, k ≠ 0 → k ≠ 1 → mo_w (sp_minds M a) 0 κ v k = M k := by
    intro k k0 k1
    rw [mo_w, va_up_ne _ _ k0]
    unfold sp_minds
    rw [mo_w, va_up_ne _ _ k1, va_up_ne _ _ k0]
  have hg : ∀ j, j < 50 → va_up (M 0) κ v j = mo_w (sp_minds M a) 0 κ v 0 j := by
    intro j hj
    rw [m0]
    by_cases c : j = κ
    · rw [c, va_up_self, va_up_self]
    · rw [va_up_ne _ _ c, va_up_ne _ _ c, hs_push_lt _ _ (by omega)]
  refine ag_mk (a := hs_pa a) rfl ?_ hg (fun j h50 h150 => ?_) (mk_ 2 (by decide) (by decide))
  · refine ⟨?_, ?_, ?_, ?_, ⟨?_, ?_⟩, ?_, ag_V_c hg hV, Or.inr ⟨?_, ?_⟩, ?_⟩
    · intro k hk
      by_cases c : k = 1
      · subst c
        rw [m1, ← hE 1 hk]
        exact l1
      · have hk0 : k ≠ 0 := by unfold ag_key at hk; omega
        have := l2 k c (by unfold ag_key at hk; omega) (by unfold ag_key at hk; omega) (by unfold ag_key at hk; omega)
        rw [mk_ k hk0 c, ← hE k hk]
        exact this
    · have e3 := mk_ 3 (by decide) (by decide)
      have e4 := mk_ 4 (by decide) (by decide)
      unfold ag_Z
      rw [e3, e4]
      exact hZ
    · rw [mk_ 9 (by decide) (by decide)]; exact hT
    · unfold hs_tr
      rw [mk_ 18 (by decide) (by decide)]; exact hR
    · rw [m1, va_up_self]
    · unfold hs_pa; split <;> omega
    · rw [mk_ 12 (by decide) (by decide)]; exact h12
    · rw [← hg 4 (by omega), va_up_ne _ _ (fun z => hκ4 z.symm)]; exact h4
    · rcases hth with ⟨z, -⟩ | ⟨-, z⟩
      · rw [z] at h4; exact absurd h4 (by decide)
      · exact z
    · exact ag_act ha hκ h4 hVM hG (ag_hp hp)
  · rw [m0, va_up_ne _ _ (by omega), hs_push_lt _ _ (by omega)]
/-- a market with a stall, or with a rope, is there -/
theorem ag_there {C M : Nat → Nat → Int32} {n nr a : Nat} (hI : ag_I C M n nr a) (h : 0 < n ∨ 0 < nr) : M 0 4 = 1 := by
  obtain ⟨-, -, -, -, -, -, -, h4, -⟩ := hI
  rcases h4 with ⟨-, h2, h3, -⟩ | ⟨h1, -⟩
  · omega
  · exact h1
theorem ag_rg {x : Int32} {a b : Nat} (h : ¬ hs_in x (nI a) (nI b) = 0) (ha : a < 2147483648) (hb : b < 2147483648) : ag_r x a b := by
  have h1 := hs_in_1 h
  rw [Int32.le_iff_toInt_le, Int32.le_iff_toInt_le, nI_toInt (by omega), nI_toInt (by omega)] at h1
  exact h1
theorem ag_V_32 {g : Nat → Int32} {n nr i : Nat} {v : Int32} (h : ag_V g n nr) (_hi : i < n) (hv : ag_r v 0 100) : ag_V (va_up g (32 + i) v) n nr := by
  obtain ⟨⟨h1, h2, h3, h4⟩, h5, h6, h7⟩ := h
  have hn := h1.2.1
  refine ⟨⟨mk_sr_up (by omega) h1, mk_t_up (by omega) h2, by rw [va_up_ne _ _ (by omega)]; exact h3, fun j hj => ?_⟩, fun p q hp hq => ?_, by rw [va_up_ne _ _ (by omega)]; exact h6, fun j hj => by rw [va_up_ne _ _ (by omega)]; exact h7 j hj⟩
  · obtain ⟨k1, k2, k3, k4, k5⟩ := h4 j hj
    rw [va_up_ne _ _ (show 14 + j ≠ 32 + i by omega), va_up_ne _ _ (show 26 + j ≠ 32 + i by omega), va_up_ne _ _ (show 20 + j ≠ 32 + i by omega), va_up_ne _ _ (show 38 + j ≠ 32 + i by omega)]
    refine ⟨k1, k2, k3, ?_, k5⟩
    by_cases e : 32 + j = 32 + i
    · rw [e, va_up_self]; exact hv
    · rw [va_up_ne _ _ e]; exact k4
  · rw [va_up_ne _ _ (show 14 + p ≠ 32 + i by omega), va_up_ne _ _ (show 14 + q ≠ 32 + i by omega), va_up_ne _ _ (show 20 + p ≠ 32 + i by omega), va_up_ne _ _ (show 20 + q ≠ 32 + i by omega)]
    exact h5 p q hp hq
theorem ag_V_38 {g : Nat → Int32} {n nr i : Nat} {v : Int32} (h : ag_V g n nr) (hi : i < n) (hv : ag_r v 0 9) : ag_V (va_up g (38 + i) v) n nr := by
  obtain ⟨hB, h5, h6, h7⟩ := h
  have hn := hB.1.2.1
  refine ⟨ag_B_38 hB hi (ag_w hv (by omega) (by omega)), fun p q hp hq => ?_, by rw [va_up_ne _ _ (by omega)]; exact h6, fun j hj => ?_⟩
  · rw [va_up_ne _ _ (show 14 + p ≠ 38 + i by omega), va_up_ne _ _ (show 14 + q ≠ 38 + i by omega), va_up_ne _ _ (show 20 + p ≠ 38 + i by omega), va_up_ne _ _ (show 20 + q ≠ 38 + i by omega)]
    exact h5 p q hp hq
  · by_cases e : 38 + j = 38 + i
    · rw [e, va_up_self]; exact hv
    · rw [va_up_ne _ _ e]; exact h7 j hj
theorem ag_V_20 {g : Nat → Int32} {n nr i : Nat} {v : Int32} (h : ag_V g n nr) (hi : i < n) (hv : ag_r v 1 8) (hf : mk_std g (g (14 + i)) v n = none) : ag_V (va_up g (20 + i) v) n nr := by
  obtain ⟨hB, h5, h6, h7⟩ := h
  have hn := hB.1.2.1
  have hno : ∀ k, k ≤ n → ∀ j, j < k → ¬ (g (14 + j) = g (14 + i) ∧ g (20 + j) = v) := by
    intro k
    induction k with
    | zero => intro _ j hj; omega
    | succ k ih =>
      intro hk j hj c
      by_cases e : j = k
      · subst e
        cases h0 : mk_std g (g (14 + i)) v j with
        | some q =>
          have := mk_std_up (m := n - j) h0
          rw [show j + (n - j) = n by omega, hf] at this
          exact absurd this (by simp)
        | none =>
          have := mk_std_y (n := n) (k := j) (by omega) (by rw [show min j n = j by omega]; exact h0) c.1 c.2
          rw [hf] at this
          exact absurd this (by simp)
      · exact ih (by omega) j (by omega) c
  refine ⟨ag_B_20 hB hi hv, fun p q hp hq => ?_, by rw [va_up_ne _ _ (by omega)]; exact h6, fun j hj => by rw [va_up_ne _ _ (by omega)]; exact h7 j hj⟩
  rw [va_up_ne _ _ (show 14 + p ≠ 20 + i by omega), va_up_ne _ _ (show 14 + q ≠ 20 + i by omega)]
  intro er ep
  by_cases e1 : p = i
  · by_cases e2 : q = i
    · omega
    · subst e1
      rw [va_up_self, va_up_ne _ _ (by omega)] at ep
      exact absurd ⟨er.symm, ep.symm⟩ (hno n (Nat.le_refl n) q hq)
  · by_cases e2 : q = i
    · subst e2
      rw [va_up_self, va_up_ne _ _ (by omega)] at ep
      exact absurd ⟨er, ep⟩ (hno n (Nat.le_refl n) p hp)
    · rw [va_up_ne _ _ (by omega), va_up_ne _ _ (by omega)] at ep
      exact h5 p q hp hq er ep
theorem ag_V_44 {g : Nat → Int32} {n nr i : Nat} {v : Int32} (h : ag_V g n nr) (_hi : i < n) (hv : v = 0 ∨ v = 1) : ag_V (va_up g (44 + i) v) n nr := by
  obtain ⟨⟨h1, h2, h3, h4⟩, h5, h6, h7⟩ := h
  have hn := h1.2.1
  refine ⟨⟨mk_sr_off (by omega) hv h1, mk_t_up (by omega) h2, by rw [va_up_ne _ _ (by omega)]; exact h3, fun j hj => ?_⟩, fun p q hp hq => ?_, by rw [va_up_ne _ _ (by omega)]; exact h6, fun j hj => by rw [va_up_ne _ _ (by omega)]; exact h7 j hj⟩
  · rw [va_up_ne _ _ (show 14 + j ≠ 44 + i by omega), va_up_ne _ _ (show 26 + j ≠ 44 + i by omega), va_up_ne _ _ (show 20 + j ≠ 44 + i by omega), va_up_ne _ _ (show 32 + j ≠ 44 + i by omega), va_up_ne _ _ (show 38 + j ≠ 44 + i by omega)]
    exact h4 j hj
  · rw [va_up_ne _ _ (show 14 + p ≠ 44 + i by omega), va_up_ne _ _ (show 14 + q ≠ 44 + i by omega), va_up_ne _ _ (show 20 + p ≠ 44 + i by omega), va_up_ne _ _ (show 20 + q ≠ 44 + i by omega)]
    exact h5 p q hp hq
theorem ag_V_s {g : Nat → Int32} {n nr κ : Nat} {v : Int32} (h : ag_V g n nr) (h1 : mk_t (va_up g κ v) nr) (hκ : κ = 1 ∨ (5 ≤ κ ∧ κ < 8)) (hv : κ = 1 → ag_r v 0 99) : ag_V (va_up g κ v) n nr := by
  obtain ⟨⟨h1', h2, h3, h4⟩, h5, h6, h7⟩ := h
  have hn := h1'.2.1
  have hs : ag_r (va_up g κ v 1) 0 99 := by
    rcases hκ with e | e
    · rw [e, va_up_self]; exact hv e
    · rw [va_up_ne _ _ (by omega)]; exact h6
  refine ⟨⟨mk_sr_up (by omega) h1', h1, ag_w hs (by omega) (by omega), fun j hj => ?_⟩, fun p q hp hq => ?_, hs, fun j hj => by rw [va_up_ne _ _ (by omega)]; exact h7 j hj⟩
  · rw [va_up_ne _ _ (show 14 + j ≠ κ by omega), va_up_ne _ _ (show 26 + j ≠ κ by omega), va_up_ne _ _ (show 20 + j ≠ κ by omega), va_up_ne _ _ (show 32 + j ≠ κ by omega), va_up_ne _ _ (show 38 + j ≠ κ by omega)]
    exact h4 j hj
  · rw [va_up_ne _ _ (show 14 + p ≠ κ by omega), va_up_ne _ _ (show 14 + q ≠ κ by omega), va_up_ne _ _ (show 20 + p ≠ κ by omega), va_up_ne _ _ (show 20 + q ≠ κ by omega)]
    exact h5 p q hp hq
section AG
variable {C M : Nat → Nat → Int32} {n nr a : Nat}
theorem ag_buyers (hI : ag_I C M n nr a) (s k : Int32) : ag_st M n nr (cs_buyers C (M 0) a s k) (sp_buyers M a s k) := by
  have hV := hI.2.2.2.2.2.2.1
  have hn := hV.1.1.2.1
  unfold cs_buyers sp_buyers
  by_cases c : hs_isSt (M 0) s = 0 ∨ hs_in k 0 20 = 0
  · rw [if_pos c, if_pos c]; exact ag_st0 hI _
  rw [if_neg c, if_neg c]
  obtain ⟨i, hi, e⟩ := hs_st_1 (mk_ok_of hV.1.1 hV.1.2.1) (fun z => c (Or.inl z))
  subst e
  rw [nI_clamp (by omega)]
  exact ag_do hI (ag_there hI (by omega)) (by omega) (by omega) (ag_V_32 hV hi (ag_w (ag_rg (a := 0) (b := 20) (fun z => c (Or.inr z)) (by omega) (by omega)) (by omega) (by omega))) (fun g => mk_pm_w0 hn hi) _
theorem ag_girl (hI : ag_I C M n nr a) (s k : Int32) : ag_st M n nr (cs_girl C (M 0) a s k) (sp_girl M a s k) := by
  have hV := hI.2.2.2.2.2.2.1
  have hn := hV.1.1.2.1
  unfold cs_girl sp_girl
  by_cases c : hs_isSt (M 0) s = 0 ∨ (¬ k = 1 ∧ ¬ k = -1)
  · rw [if_pos c, if_pos c]; exact ag_st0 hI _
  rw [if_neg c, if_neg c]
  obtain ⟨i, hi, e⟩ := hs_st_1 (mk_ok_of hV.1.1 hV.1.2.1) (fun z => c (Or.inl z))
  subst e
  rw [nI_clamp (by omega)]
  obtain ⟨q, -, hq, eq⟩ := ag_nat (a := 0) (b := 9) (hV.2.2.2 i hi)
  have hk : k = 1 ∨ k = -1 := by
    rcases Classical.em (k = 1) with z | z
    · exact Or.inl z
    · exact Or.inr (Classical.byContradiction (fun y => c (Or.inr ⟨z, y⟩)))
  rcases hk with rfl | rfl
  · have n1 : ¬ ((1 : Int32) < 0 ∧ M 0 (38 + i) = 0) := fun z => absurd z.1 (by decide)
    have n2 : ¬ ((1 : Int32) = -1 ∧ M 0 (38 + i) = 0) := fun z => absurd z.1 (by decide)
    rw [if_neg n1, if_neg n2]
    by_cases c9 : q = 9
    · have n3 : (1 : Int32) = 1 ∧ ¬ M 0 (38 + i) < 9 := ⟨rfl, by rw [eq, c9]; decide⟩
      have n4 : (0 : Int32) < 1 ∧ M 0 (38 + i) = 9 := ⟨by decide, by rw [eq, c9]; rfl⟩
      rw [if_pos n3, if_pos n4]; exact ag_st0 hI _
    · have n3 : ¬ ((1 : Int32) = 1 ∧ ¬ M 0 (38 + i) < 9) := fun z => z.2 (by rw [eq]; exact nI_lt (b := 9) (by omega) (by omega))
      have n4 : ¬ ((0 : Int32) < 1 ∧ M 0 (38 + i) = 9) := fun z => c9 ((nI_eq (b := 9) (by omega) (by omega)).mp (eq.symm.trans z.2))
      rw [if_neg n3, if_neg n4]
      exact ag_do hI (ag_there hI (by omega)) (by omega) (by omega) (ag_V_38 hV hi (by rw [eq, nI_1]; exact ag_lit (by omega) (by omega) (by omega))) (fun g => mk_pm_w1 hn hi) _
  · by_cases c0 : q = 0
    · have n3 : (-1 : Int32) = -1 ∧ M 0 (38 + i) = 0 := ⟨rfl, by rw [eq, c0]; rfl⟩
      have n4 : (-1 : Int32) < 0 ∧ M 0 (38 + i) = 0 := ⟨by decide, by rw [eq, c0]; rfl⟩
      rw [if_pos n3, if_pos n4]; exact ag_st0 hI _
    · have hne : ¬ M 0 (38 + i) = 0 := by rw [eq]; exact nI_ne0 (by omega) (by omega)
      have n3 : ¬ ((-1 : Int32) = -1 ∧ M 0 (38 + i) = 0) := fun z => hne z.2
      have n4 : ¬ ((-1 : Int32) < 0 ∧ M 0 (38 + i) = 0) := fun z => hne z.2
      have n5 : ¬ ((-1 : Int32) = 1 ∧ ¬ M 0 (38 + i) < 9) := fun z => absurd z.1 (by decide)
      have n6 : ¬ ((0 : Int32) < -1 ∧ M 0 (38 + i) = 9) := fun z => absurd z.1 (by decide)
      rw [if_neg n3, if_neg n4, if_neg n5, if_neg n6]
      exact ag_do hI (ag_there hI (by omega)) (by omega) (by omega) (ag_V_38 hV hi (by rw [eq, hs_dec (by omega)]; exact ag_lit (by omega) (by omega) (by omega))) (fun g => mk_pm_w1 hn hi) _
theorem ag_slide (hI : ag_I C M n nr a) (s k : Int32) : ag_st M n nr (cs_slide C (M 0) n a s k) (sp_slide M n a s k) := by
  have hV := hI.2.2.2.2.2.2.1
  have hn := hV.1.1.2.1
  unfold cs_slide sp_slide
  by_cases c : hs_isSt (M 0) s = 0 ∨ hs_in k 1 8 = 0
  · rw [if_pos c, if_pos c]; exact ag_st0 hI _
  rw [if_neg c, if_neg c]
  obtain ⟨i, hi, e⟩ := hs_st_1 (mk_ok_of hV.1.1 hV.1.2.1) (fun z => c (Or.inl z))
  subst e
  rw [nI_clamp (by omega)]
  have hw := ag_who_n (g := M 0) hn (M 0 (14 + i)) k
  by_cases c2 : mk_std (M 0) (M 0 (14 + i)) k n = none
  · rw [if_neg (fun z => z c2), if_pos (hw.mp c2)]
    exact ag_do hI (ag_there hI (by omega)) (by omega) (by omega) (ag_V_20 hV hi (ag_rg (a := 1) (b := 8) (fun z => c (Or.inr z)) (by omega) (by omega)) c2) (fun g => mk_pm_w2 hn hi) _
  · rw [if_pos c2, if_neg (fun z => c2 (hw.mpr z))]; exact ag_st0 hI _
theorem ag_unload (hI : ag_I C M n nr a) (s k : Int32) : ag_st M n nr (cs_unload C (M 0) a s k) (sp_unload M a s k) := by
  have hV := hI.2.2.2.2.2.2.1
  have hn := hV.1.1.2.1
  unfold cs_unload sp_unload
  have hk : (¬ k = 0 ∧ ¬ k = 1) ↔ hs_in k 0 1 = 0 := by
    constructor
    · intro z; exact hs_in01 z.1 z.2
    · intro z
      constructor
      · intro y; rw [y] at z; exact absurd z (by decide)
      · intro y; rw [y] at z; exact absurd z (by decide)
  by_cases c : hs_isSt (M 0) s = 0 ∨ hs_in k 0 1 = 0
  · rw [if_pos (c.imp id hk.mpr), if_pos c]; exact ag_st0 hI _
  rw [if_neg (fun z => c (z.imp id hk.mp)), if_neg c]
  obtain ⟨i, hi, e⟩ := hs_st_1 (mk_ok_of hV.1.1 hV.1.2.1) (fun z => c (Or.inl z))
  subst e
  rw [nI_clamp (by omega)]
  have h01 := ag_in01 (fun z => c (Or.inr z))
  by_cases c2 : M 0 (44 + i) = k
  · rw [if_pos c2, if_pos c2]; exact ag_st0 hI _
  · rw [if_neg c2, if_neg c2]
    have ho := hV.1.1.2.2.2 i hi
    have e1 : 1 - k = M 0 (44 + i) := by
      rcases h01 with z | z <;> rcases ho with y | y
      · exact absurd (y.trans z.symm) c2
      · rw [z, y]; decide
      · rw [z, y]; decide
      · exact absurd (y.trans z.symm) c2
    rw [e1]
    exact ag_do hI (ag_there hI (by omega)) (by omega) (by omega) (ag_V_44 hV hi h01) (fun g => mk_pm_w3 hn hi ho) _
theorem ag_rain (hI : ag_I C M n nr a) : ag_st M n nr (cs_rain C (M 0) a) (sp_rain M a) := by
  have hV := hI.2.2.2.2.2.2.1
  have h4 := ag_I4 hI
  unfold cs_rain sp_rain
  by_cases c : M 0 2 = 0
  · rw [if_pos c, if_pos (h4.mpr c)]; exact ag_st0 hI _
  rw [if_neg c, if_neg (fun z => c (h4.mp z))]
  obtain ⟨q, -, hq, eq⟩ := ag_nat (a := 0) (b := 99) hV.2.2.1
  have hr : 0 < nr := by
    rcases Nat.eq_zero_or_pos nr with z | z
    · exact absurd (by rw [hV.1.2.1.1, z]; rfl) c
    · exact z
  by_cases c9 : q = 99
  · have n3 : ¬ M 0 1 < 99 := by rw [eq, c9]; decide
    have n4 : M 0 1 = 99 := by rw [eq, c9]; rfl
    rw [if_pos n3, if_pos n4]; exact ag_st0 hI _
  · have n3 : ¬ ¬ M 0 1 < 99 := fun z => z (by rw [eq]; exact nI_lt (b := 99) (by omega) (by omega))
    have n4 : ¬ M 0 1 = 99 := fun z => c9 ((nI_eq (b := 99) (by omega) (by omega)).mp (eq.symm.trans z))
    rw [if_neg n3, if_neg n4]
    exact ag_do hI (ag_there hI (Or.inr hr)) (by omega) (by omega) (ag_V_s hV (mk_t_up (by omega) hV.1.2.1) (Or.inl rfl) (fun _ => by rw [eq, nI_1]; exact ag_lit (by omega) (by omega) (by omega))) (fun g => mk_pm_w4) _
theorem ag_cut (hI : ag_I C M n nr a) (rope : Int32) : ag_st M n nr (cs_cut C (M 0) a rope) (sp_cut M a rope) := by
  have hV := hI.2.2.2.2.2.2.1
  have ht := hV.1.2.1
  have h3 := ht.2.1
  unfold cs_cut sp_cut
  by_cases c : hs_isRo (M 0) rope = 0
  · rw [if_pos c, if_pos c]; exact ag_st0 hI _
  rw [if_neg c, if_neg c]
  obtain ⟨r, hr, e⟩ := hs_ro_1 (mk_ok_of hV.1.1 ht) c
  subst e
  rw [nI_clamp (by omega)]
  have h1 := ht.2.2.1 r hr
  by_cases c1 : M 0 (5 + r) = 1
  · rw [if_pos (by rw [c1]; decide), if_pos c1]; exact ag_st0 hI _
  · have h2 : 1 < M 0 (5 + r) := by
      rw [Int32.le_iff_toInt_le] at h1
      rw [Int32.lt_iff_toInt_lt]
      rcases Int.lt_or_eq_of_le h1 with z | z
      · exact z
      · exact absurd (Int32.toInt_inj.mp z).symm c1
    rw [if_neg (fun z => z h2), if_neg c1]
    exact ag_do hI (ag_there hI (by omega)) (by omega) (by omega) (ag_V_s hV (mk_tcut ht (by omega) h2) (by omega) (fun z => absurd z (by omega))) (fun g => mk_pm_5 rfl (by omega)) _
theorem ag_undo (hI : ag_I C M n nr a) : ag_st M n nr ((cs_undo C a).1, (cs_undo C a).2, cs_undoG C (M 0) n a) (sp_undo M a) := by
  obtain ⟨hE, hZ, hT, hR, ⟨h1, ha⟩, h12, hVM, hth, hG⟩ := id hI
  unfold cs_undo sp_undo cs_undoG
  by_cases c : a = 0
  · rw [if_pos c, if_pos c, if_pos c]; exact ag_st0 hI _
  rw [if_neg c, if_neg c, if_neg c]
  obtain ⟨g1, g2, g3⟩ := hG (a - 1) (by omega)
  have t1 : ∀ j, ag_T M a (a - 1) j = M 0 (200 + 50 * (a - 1) + j) := fun j => if_pos (by omega)
  have t2 : ag_T M a (a - 1 + 1) = M 0 := by
    funext j
    exact if_neg (by omega)
  rw [t2] at g3
  have m0 : mo_w (va_up M 0 (hs_blk (M 0) 0 (200 + 50 * (a - 1)) 50)) 1 0 (nI (a - 1)) 0 = hs_blk (M 0) 0 (200 + 50 * (a - 1)) 50 := rfl
  have m1 : mo_w (va_up M 0 (hs_blk (M 0) 0 (200 + 50 * (a - 1)) 50)) 1 0 (nI (a - 1)) 1 = va_up (M 1) 0 (nI (a - 1)) := rfl
  have mk_ : ∀ k, k ≠ 0 → k ≠ 1 → mo_w (va_up M 0 (hs_blk (M 0) 0 (200 + 50 * (a - 1)) 50)) 1 0 (nI (a - 1)) k = M k := by
    intro k k0 k1
    rw [mo_w, va_up_ne _ _ k1, va_up_ne _ _ k0]
  have b1 : ∀ j, j < 50 → hs_blk (M 0) 0 (200 + 50 * (a - 1)) 50 j = ag_T M a (a - 1) j := by
    intro j hj
    rw [t1]
    unfold hs_blk
    rw [if_pos (by omega)]
    congr 1
    omega
  have b2 : ∀ j, 50 ≤ j → hs_blk (M 0) 0 (200 + 50 * (a - 1)) 50 j = M 0 j := fun j hj => hs_blk_out _ (by omega)
  refine ag_mk (a := a - 1) rfl ?_ (fun j hj => ?_) (fun j h50 h150 => ?_) (mk_ 2 (by decide) (by decide))
  · refine ⟨?_, ?_, ?_, ?_, ⟨?_, by omega⟩, ?_, ?_, Or.inr ⟨?_, ?_⟩, ?_⟩
    · intro k hk
      show mo_w C 1 0 (nI (a - 1)) k = _
      by_cases z : k = 1
      · subst z
        rw [m1, ← hE 1 hk]
        rfl
      · rw [mk_ k (by unfold ag_key at hk; omega) z, ← hE k hk]
        exact va_up_ne _ _ z
    · have e3 := mk_ 3 (by decide) (by decide)
      have e4 := mk_ 4 (by decide) (by decide)
      unfold ag_Z
      rw [e3, e4]
      exact hZ
    · rw [mk_ 9 (by decide) (by decide)]; exact hT
    · unfold hs_tr
      rw [mk_ 18 (by decide) (by decide)]; exact hR
    · rw [m1, va_up_self]
    · rw [mk_ 12 (by decide) (by decide)]; exact h12
    · rw [m0]
      exact ag_V_c (fun j hj => (b1 j hj).symm) g1
    · rw [m0, b1 4 (by omega)]; exact g2
    · rcases hth with ⟨-, -, -, z⟩ | ⟨-, z⟩
      · exact absurd z c
      · exact z
    · show ag_G _ (mo_w C 1 0 (nI (a - 1)) 21) (mo_w C 1 0 (nI (a - 1)) 22) (mo_w C 1 0 (nI (a - 1)) 23) n nr (a - 1)
      have e21 : mo_w C 1 0 (nI (a - 1)) 21 = C 21 := rfl
      have e22 : mo_w C 1 0 (nI (a - 1)) 22 = C 22 := rfl
      have e23 : mo_w C 1 0 (nI (a - 1)) 23 = C 23 := rfl
      rw [e21, e22, e23]
      refine ag_G_c (fun i hi j hj => ?_) (fun i hi => ⟨rfl, rfl, rfl⟩) (ag_G_less (b := a - 1) (by omega) hG)
      by_cases z : i < a - 1
      · show (if i < a then M 0 (200 + 50 * i + j) else M 0 j) = (if i < a - 1 then mo_w (va_up M 0 (hs_blk (M 0) 0 (200 + 50 * (a - 1)) 50)) 1 0 (nI (a - 1)) 0 (200 + 50 * i + j) else _)
        rw [if_pos (by omega), if_pos z, m0, b2 _ (by omega)]
      · have : i = a - 1 := by omega
        subst this
        show ag_T M a (a - 1) j = (if a - 1 < a - 1 then _ else mo_w (va_up M 0 (hs_blk (M 0) 0 (200 + 50 * (a - 1)) 50)) 1 0 (nI (a - 1)) 0 j)
        rw [if_neg (by omega), m0, b1 j hj]
  · show mk_pm (M 0) n (C 21 (a - 1)) (C 22 (a - 1)) (C 23 (a - 1)) j = _
    rw [m0, b1 j hj]
    exact g3 j hj
  · show hs_blk (M 0) 0 (200 + 50 * (a - 1)) 50 j = _
    exact b2 j h50
end AG
