/-! A MARKET THAT MAY STAND: what holds of it; only its fifty numbers matter -/
def ag_V (g : Nat → Int32) (n nr : Nat) : Prop := ag_B g n nr ∧ ag_U g n ∧ ag_r (g 1) 0 99 ∧ ∀ i, i < n → ag_r (g (38 + i)) 0 9
theorem mk_sr_c {g h : Nat → Int32} {n : Nat} (e : ∀ j, j < 50 → g j = h j) (k : mk_sr g n) : mk_sr h n := by
  obtain ⟨h1, h2, h3, h4⟩ := k
  refine ⟨?_, h2, fun i hi => ?_, fun i hi => ?_⟩
  · rw [← e 3 (by omega)]; exact h1
  · rw [← e (8 + i) (by omega)]; exact h3 i hi
  · rw [← e (44 + i) (by omega)]; exact h4 i hi
theorem mk_t_c {g h : Nat → Int32} {nr : Nat} (e : ∀ j, j < 50 → g j = h j) (k : mk_t g nr) : mk_t h nr := by
  obtain ⟨h1, h2, h3, h4⟩ := k
  refine ⟨?_, h2, fun r hr => ?_, fun r hr hr3 => ?_⟩
  · rw [← e 2 (by omega)]; exact h1
  · rw [← e (5 + r) (by omega)]; exact h3 r hr
  · rw [← e (5 + r) (by omega)]; exact h4 r hr hr3
theorem ag_V_c {g h : Nat → Int32} {n nr : Nat} (e : ∀ j, j < 50 → g j = h j) (k : ag_V g n nr) : ag_V h n nr := by
  obtain ⟨⟨h1, h2, h3, h4⟩, h5, h6, h7⟩ := k
  have hn := h1.2.1
  refine ⟨⟨mk_sr_c e h1, mk_t_c e h2, by rw [← e 1 (by omega)]; exact h3, fun i hi => ?_⟩, fun i j hi hj => ?_, by rw [← e 1 (by omega)]; exact h6, fun i hi => ?_⟩
  · rw [← e (14 + i) (by omega), ← e (20 + i) (by omega), ← e (26 + i) (by omega), ← e (32 + i) (by omega), ← e (38 + i) (by omega)]
    exact h4 i hi
  · rw [← e (14 + i) (by omega), ← e (20 + i) (by omega), ← e (14 + j) (by omega), ← e (20 + j) (by omega)]
    exact h5 i j hi hj
  · rw [← e (38 + i) (by omega)]
    exact h7 i hi
theorem mk_e_c {D : va_G} {ad : Nat → Nat} {n : Nat} {g h : Nat → Int32} (hn : n ≤ 6) (e : ∀ j, j < 50 → g j = h j) : mk_fs ad g = mk_fs ad h ∧ ∀ k, k < n + 2 → mk_e D ad n g k = mk_e D ad n h k := by
  refine ⟨?_, fun k hk => ?_⟩
  · simp only [mk_fs]
    rw [e 0 (by omega), e 1 (by omega), e 2 (by omega), e 3 (by omega)]
  · match k with
    | 0 =>
      show Sum.inl _ = Sum.inl _
      have : mk_ta g = mk_ta h := by
        funext j
        simp only [mk_ta]
        by_cases c : j < 3
        · rw [if_pos c, if_pos c, e _ (by omega)]
        · rw [if_neg c, if_neg c]
      rw [this]
    | 1 => rfl
    | i + 2 =>
      show Sum.inr (mk_kc _, mk_st g i) = Sum.inr (mk_kc _, mk_st h i)
      simp only [mk_st]
      rw [e (8 + i) (by omega), e (14 + i) (by omega), e (20 + i) (by omega), e (26 + i) (by omega), e (32 + i) (by omega), e (38 + i) (by omega), e (44 + i) (by omega)]
theorem mk_H_c {D : va_G} {F : Nat → va_E} {mk : Nat} {ad : Nat → Nat} {n : Nat} {g h : Nat → Int32} (hn : n ≤ 6) (e : ∀ j, j < 50 → g j = h j) (k : mk_H D F mk ad n g) : mk_H D F mk ad n h := by
  obtain ⟨e1, e2⟩ := mk_e_c (D := D) (ad := ad) hn e
  exact ⟨by rw [← e1]; exact k.1, fun j hj => by rw [← e2 j hj]; exact k.2 j hj⟩
/-- what an act does to one number depends on that number alone -/
theorem ag_pm_c {g h : Nat → Int32} {n j : Nat} {w o v : Int32} (e : g j = h j) : mk_pm g n w o v j = mk_pm h n w o v j := by
  have u : ∀ (k : Nat) (x : Int32), va_up g k x j = va_up h k x j := by
    intro k x
    by_cases c : j = k
    · rw [c, va_up_self, va_up_self]
    · rw [va_up_ne _ _ c, va_up_ne _ _ c, e]
  unfold mk_pm mk_pt
  repeat' split
  all_goals first | exact u _ _ | exact e
/-- THE ACTS: T i the numbers ahead of act i, T a those that stand -/
def ag_G (T : Nat → Nat → Int32) (A B K : Nat → Int32) (n nr a : Nat) : Prop := ∀ i, i < a → ag_V (T i) n nr ∧ T i 4 = 1 ∧ ∀ j, j < 50 → mk_pm (T (i + 1)) n (A i) (B i) (K i) j = T i j
def ag_T (M : Nat → Nat → Int32) (a : Nat) : Nat → Nat → Int32 := fun i j => if i < a then M 0 (200 + 50 * i + j) else M 0 j
theorem ag_G_c {T U : Nat → Nat → Int32} {A B K A' B' K' : Nat → Int32} {n nr a : Nat} (hT : ∀ i, i ≤ a → ∀ j, j < 50 → T i j = U i j) (hA : ∀ i, i < a → A i = A' i ∧ B i = B' i ∧ K i = K' i) (h : ag_G T A B K n nr a) : ag_G U A' B' K' n nr a := by
  intro i hi
  obtain ⟨h1, h2, h3⟩ := h i hi
  obtain ⟨e1, e2, e3⟩ := hA i hi
  refine ⟨ag_V_c (hT i (by omega)) h1, by rw [← hT i (by omega) 4 (by omega)]; exact h2, fun j hj => ?_⟩
  rw [← e1, ← e2, ← e3, ← hT i (by omega) j hj, ← h3 j hj]
  exact (ag_pm_c (hT (i + 1) (by omega) j hj)).symm
theorem ag_G_push {T : Nat → Nat → Int32} {A B K : Nat → Int32} {n nr a : Nat} (h : ag_G T A B K n nr a) (hV : ag_V (T a) n nr) (h4 : T a 4 = 1) (hp : ∀ j, j < 50 → mk_pm (T (a + 1)) n (A a) (B a) (K a) j = T a j) : ag_G T A B K n nr (a + 1) := by
  intro i hi
  by_cases e : i = a
  · subst e; exact ⟨hV, h4, hp⟩
  · exact h i (by omega)
theorem ag_G_drop {T : Nat → Nat → Int32} {A B K : Nat → Int32} {n nr a : Nat} (h : ag_G T A B K n nr (a + 1)) : ag_G (fun i => T (i + 1)) (fun i => A (i + 1)) (fun i => B (i + 1)) (fun i => K (i + 1)) n nr a := fun i hi => h (i + 1) (by omega)
theorem ag_G_less {T : Nat → Nat → Int32} {A B K : Nat → Int32} {n nr a b : Nat} (hb : b ≤ a) (h : ag_G T A B K n nr a) : ag_G T A B K n nr b := fun i hi => h i (by omega)
/-- an act more, as both sides lay it down -/
theorem ag_act {C M : Nat → Nat → Int32} {n nr a κ : Nat} {what one v : Int32} (ha : a ≤ 24) (hκ : κ < 50) (h4 : M 0 4 = 1) (hV : ag_V (M 0) n nr) (hG : ag_G (ag_T M a) (C 21) (C 22) (C 23) n nr a) (hp : ∀ (g : Nat → Int32) (x : Int32), (x = M 0 κ) → ∀ j, j < 50 → (j ≠ κ → g j = M 0 j) → mk_pm g n what one x j = M 0 j) :
    ag_G (ag_T (mo_w (sp_minds M a) 0 κ v) (hs_pa a)) (cs_log C a what one (M 0 κ) 21) (cs_log C a what one (M 0 κ) 22) (cs_log C a what one (M 0 κ) 23) n nr (hs_pa a) := by
  have e0 : mo_w (sp_minds M a) 0 κ v 0 = va_up (hs_push (M 0) a) κ v := by
    rw [mo_w, va_up_self]
    rfl
  by_cases h : a = 24
  · subst h
    have hpa : hs_pa 24 = 24 := rfl
    have l1 : cs_log C 24 what one (M 0 κ) = cs_log1 (cs_forget C) 23 what one (M 0 κ) := if_neg (by omega)
    have eA : cs_log1 (cs_forget C) 23 what one (M 0 κ) 21 = va_up (va_cpy (C 21) (C 21) 1 0 23) 23 what := rfl
    have eB : cs_log1 (cs_forget C) 23 what one (M 0 κ) 22 = va_up (va_cpy (C 22) (C 22) 1 0 23) 23 one := rfl
    have eK : cs_log1 (cs_forget C) 23 what one (M 0 κ) 23 = va_up (va_cpy (C 23) (C 23) 1 0 23) 23 (M 0 κ) := rfl
    rw [hpa, l1, eA, eB, eK]
    have hM : ∀ j, 200 ≤ j → va_up (hs_push (M 0) 24) κ v j = if j < 1350 then M 0 (j + 50) else if j < 1400 then M 0 (j - 1350) else M 0 j := by
      intro j hj
      rw [va_up_ne _ _ (by omega), hs_push, if_pos rfl]
      unfold hs_blk
      by_cases c1 : j < 1350
      · rw [if_neg (by omega), if_pos (by omega), if_pos c1]
        exact congrArg (M 0) (by omega)
      · rw [if_neg c1]
        by_cases c2 : j < 1400
        · rw [if_pos (by omega), if_pos c2, if_neg (by omega)]
          exact congrArg (M 0) (by omega)
        · rw [if_neg (by omega), if_neg (by omega), if_neg c2]
    refine ag_G_push (a := 23) ?_ ?_ ?_ ?_
    · refine ag_G_c (T := fun i => ag_T M 24 (i + 1)) (A := fun i => C 21 (i + 1)) (B := fun i => C 22 (i + 1)) (K := fun i => C 23 (i + 1)) (fun i hi j hj => ?_) (fun i hi => ?_) (ag_G_drop (a := 23) hG)
      · show (if i + 1 < 24 then M 0 (200 + 50 * (i + 1) + j) else M 0 j) = (if i < 24 then mo_w (sp_minds M 24) 0 κ v 0 (200 + 50 * i + j) else _)
        rw [if_pos (show i < 24 by omega), e0, hM _ (by omega)]
        by_cases c : i + 1 < 24
        · rw [if_pos c, if_pos (by omega)]
          exact congrArg (M 0) (by omega)
        · rw [if_neg c, if_neg (by omega), if_pos (by omega)]
          exact congrArg (M 0) (by omega)
      · rw [va_up_ne _ _ (by omega), va_up_ne _ _ (by omega), va_up_ne _ _ (by omega)]
        unfold va_cpy
        rw [if_pos (by omega), if_pos (by omega), if_pos (by omega)]
        exact ⟨congrArg (C 21) (by omega), congrArg (C 22) (by omega), congrArg (C 23) (by omega)⟩
    · refine ag_V_c (fun j hj => ?_) hV
      show M 0 j = (if 23 < 24 then mo_w (sp_minds M 24) 0 κ v 0 (200 + 50 * 23 + j) else _)
      rw [if_pos (by omega), e0, hM _ (by omega), if_neg (by omega), if_pos (by omega)]
      exact congrArg (M 0) (by omega)
    · show (if 23 < 24 then mo_w (sp_minds M 24) 0 κ v 0 (200 + 50 * 23 + 4) else _) = 1
      rw [if_pos (by omega), e0, hM _ (by omega), if_neg (by omega), if_pos (by omega)]
      exact h4
    · intro j hj
      rw [va_up_self, va_up_self, va_up_self]
      have e1 : ag_T (mo_w (sp_minds M 24) 0 κ v) 24 23 j = M 0 j := by
        show (if 23 < 24 then mo_w (sp_minds M 24) 0 κ v 0 (200 + 50 * 23 + j) else _) = _
        rw [if_pos (by omega), e0, hM _ (by omega), if_neg (by omega), if_pos (by omega)]
        exact congrArg (M 0) (by omega)
      rw [e1]
      refine hp _ _ rfl j hj (fun hne => ?_)
      show (if 24 < 24 then _ else mo_w (sp_minds M 24) 0 κ v 0 j) = _
      rw [if_neg (by omega), e0, va_up_ne _ _ hne, hs_push_lt _ _ (by omega)]
  · have hpa : hs_pa a = a + 1 := if_neg h
    have l1 : cs_log C a what one (M 0 κ) = cs_log1 C a what one (M 0 κ) := if_pos (by omega)
    have eA : cs_log1 C a what one (M 0 κ) 21 = va_up (C 21) a what := rfl
    have eB : cs_log1 C a what one (M 0 κ) 22 = va_up (C 22) a one := rfl
    have eK : cs_log1 C a what one (M 0 κ) 23 = va_up (C 23) a (M 0 κ) := rfl
    rw [hpa, l1, eA, eB, eK]
    have hM : ∀ j, 200 ≤ j → va_up (hs_push (M 0) a) κ v j = if 200 + 50 * a ≤ j ∧ j < 250 + 50 * a then M 0 (j - (200 + 50 * a)) else M 0 j := by
      intro j hj
      rw [va_up_ne _ _ (by omega), hs_push, if_neg h]
      unfold hs_blk
      by_cases c1 : 200 + 50 * a ≤ j ∧ j < 250 + 50 * a
      · rw [if_pos (by omega), if_pos c1]
        exact congrArg (M 0) (by omega)
      · rw [if_neg (by omega), if_neg c1]
    refine ag_G_push ?_ ?_ ?_ ?_
    · refine ag_G_c (fun i hi j hj => ?_) (fun i hi => ?_) hG
      · show (if i < a then M 0 (200 + 50 * i + j) else M 0 j) = (if i < a + 1 then mo_w (sp_minds M a) 0 κ v 0 (200 + 50 * i + j) else _)
        rw [if_pos (show i < a + 1 by omega), e0, hM _ (by omega)]
        by_cases c : i < a
        · rw [if_pos c, if_neg (by omega)]
        · rw [if_neg c, if_pos (by omega)]
          exact congrArg (M 0) (by omega)
      · rw [va_up_ne _ _ (by omega), va_up_ne _ _ (by omega), va_up_ne _ _ (by omega)]
        exact ⟨rfl, rfl, rfl⟩
    · refine ag_V_c (fun j hj => ?_) hV
      show M 0 j = (if a < a + 1 then mo_w (sp_minds M a) 0 κ v 0 (200 + 50 * a + j) else _)
      rw [if_pos (by omega), e0, hM _ (by omega), if_pos (by omega)]
      exact congrArg (M 0) (by omega)
    · show (if a < a + 1 then mo_w (sp_minds M a) 0 κ v 0 (200 + 50 * a + 4) else _) = 1
      rw [if_pos (by omega), e0, hM _ (by omega), if_pos (by omega), show 200 + 50 * a + 4 - (200 + 50 * a) = 4 by omega]
      exact h4
    · intro j hj
      rw [va_up_self, va_up_self, va_up_self]
      have e1 : ag_T (mo_w (sp_minds M a) 0 κ v) (a + 1) a j = M 0 j := by
        show (if a < a + 1 then mo_w (sp_minds M a) 0 κ v 0 (200 + 50 * a + j) else _) = _
        rw [if_pos (by omega), e0, hM _ (by omega), if_pos (by omega)]
        exact congrArg (M 0) (by omega)
      rw [e1]
      refine hp _ _ rfl j hj (fun hne => ?_)
      show (if a + 1 < a + 1 then _ else mo_w (sp_minds M a) 0 κ v 0 j) = _
      rw [if_neg (by omega), e0, va_up_ne _ _ hne, hs_push_lt _ _ (by omega)]
/-- all that is pure: the class's numbers C, the reference's M; n stalls, nr ropes, a acts -/
def ag_I (C M : Nat → Nat → Int32) (n nr a : Nat) : Prop :=
  ag_E C M ∧ ag_Z M ∧ (∃ t : Nat, t ≤ 100 ∧ M 9 0 = nI t) ∧ hs_tr M ∧ (M 1 0 = nI a ∧ a ≤ 24) ∧ (∃ s0 : Nat, M 12 0 = nI s0) ∧ ag_V (M 0) n nr ∧ ((M 0 4 = 0 ∧ nr = 0 ∧ n = 0 ∧ a = 0) ∨ (M 0 4 = 1 ∧ 1 ≤ nr)) ∧ ag_G (ag_T M a) (C 21) (C 22) (C 23) n nr a
theorem ag_I4 {C M : Nat → Nat → Int32} {n nr a : Nat} (h : ag_I C M n nr a) : M 0 4 = 0 ↔ M 0 2 = 0 := by
  obtain ⟨-, -, -, -, -, -, hV, h4, -⟩ := h
  have h2 := hV.1.2.1.1
  have h3 := hV.1.2.1.2.1
  rw [h2]
  rcases h4 with ⟨k1, k2, -⟩ | ⟨k1, k2⟩
  · rw [k1, k2]; exact ⟨fun _ => rfl, fun _ => rfl⟩
  · rw [k1]; exact ⟨fun z => absurd z (by decide), fun z => absurd z (nI_ne0 (by omega) (by omega))⟩
/-- where the markets and the acts are left alone -/
theorem ag_I_of {C M C' M' : Nat → Nat → Int32} {n nr a : Nat} (h : ag_I C M n nr a) (hE : ag_E C' M') (h0 : M' 0 = M 0) (h1 : M' 1 0 = M 1 0) (h12 : M' 12 0 = M 12 0) (h21 : C' 21 = C 21) (h22 : C' 22 = C 22) (h23 : C' 23 = C 23) (hZ : ag_Z M') (hT : ∃ t : Nat, t ≤ 100 ∧ M' 9 0 = nI t) (hR : hs_tr M') : ag_I C' M' n nr a := by
  obtain ⟨-, -, -, -, k5, k6, k7, k8, k9⟩ := h
  refine ⟨hE, hZ, hT, hR, by rw [h1]; exact k5, by rw [h12]; exact k6, by rw [h0]; exact k7, by rw [h0]; exact k8, ?_⟩
  rw [h21, h22, h23]
  have e : ag_T M' a = ag_T M a := by
    funext i j
    simp only [ag_T, h0]
  rw [e]
  exact k9
