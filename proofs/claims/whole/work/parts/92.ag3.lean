/-! what is foretold, both ways -/
theorem ag_B_20 {g : Nat → Int32} {n nr i : Nat} {v : Int32} (h : ag_B g n nr) (_hi : i < n) (hv : ag_r v 1 8) : ag_B (va_up g (20 + i) v) n nr := by
  obtain ⟨h1, h2, h3, h4⟩ := h
  have h6 := h1.2.1
  refine ⟨mk_sr_up (by omega) h1, mk_t_up (by omega) h2, by rw [va_up_ne _ _ (by omega)]; exact h3, fun j hj => ?_⟩
  obtain ⟨k1, k2, k3, k4, k5⟩ := h4 j hj
  rw [va_up_ne _ _ (show 14 + j ≠ 20 + i by omega), va_up_ne _ _ (show 26 + j ≠ 20 + i by omega), va_up_ne _ _ (show 32 + j ≠ 20 + i by omega), va_up_ne _ _ (show 38 + j ≠ 20 + i by omega)]
  refine ⟨k1, ?_, k3, k4, k5⟩
  by_cases e : 20 + j = 20 + i
  · rw [e, va_up_self]; exact hv
  · rw [va_up_ne _ _ e]; exact k2
theorem ag_B_38 {g : Nat → Int32} {n nr i : Nat} {v : Int32} (h : ag_B g n nr) (_hi : i < n) (hv : ag_r v 0 100) : ag_B (va_up g (38 + i) v) n nr := by
  obtain ⟨h1, h2, h3, h4⟩ := h
  have h6 := h1.2.1
  refine ⟨mk_sr_up (by omega) h1, mk_t_up (by omega) h2, by rw [va_up_ne _ _ (by omega)]; exact h3, fun j hj => ?_⟩
  obtain ⟨k1, k2, k3, k4, k5⟩ := h4 j hj
  rw [va_up_ne _ _ (show 14 + j ≠ 38 + i by omega), va_up_ne _ _ (show 26 + j ≠ 38 + i by omega), va_up_ne _ _ (show 32 + j ≠ 38 + i by omega), va_up_ne _ _ (show 20 + j ≠ 38 + i by omega)]
  refine ⟨k1, k2, k3, k4, ?_⟩
  by_cases e : 38 + j = 38 + i
  · rw [e, va_up_self]; exact hv
  · rw [va_up_ne _ _ e]; exact k5
theorem ag_walk2 {g : Nat → Int32} {n nr a b : Nat} (h : ag_B g n nr) (ha : a < n) (hb : b < n) (hj : ¬ mk_joins g a b = 0) : hs_walk g n a b = 2 ↔ ¬ mk_meets g n a b = 0 := by
  rw [ag_walk h ha hb, if_neg hj]
  by_cases c : mk_meets g n a b = 0
  · rw [if_pos c]
    exact ⟨fun z => absurd z (by decide), fun z => absurd c z⟩
  · rw [if_neg c]
    exact ⟨fun _ => c, fun _ => rfl⟩
/-- rented -/
theorem ag_rent {g : Nat → Int32} {n nr i a b : Nat} (hB : ag_B g n nr) (hu : ag_U g n) (hi : i < n) (ha : a < n) (hb : b < n) (hia : i ≠ a) (hib : i ≠ b) (hj : ¬ mk_joins g a b = 0) : ∀ k, k ≤ 8 → mk_rent g n i a b k = hs_rent g n i a b k := by
  have hn := hB.1.2.1
  intro k
  induction k with
  | zero => intro _; rfl
  | succ k ih =>
    intro hk
    have hc := ag_can hn hu hi (nI (k + 1))
    have hB2 := ag_B_20 (v := nI (k + 1)) hB hi (ag_lit (by omega) (by omega) (by omega))
    have hj2 : ¬ mk_joins (va_up g (20 + i) (nI (k + 1))) a b = 0 := by
      unfold mk_joins at hj ⊢
      rw [va_up_ne _ _ (show 14 + a ≠ 20 + i by omega), va_up_ne _ _ (show 14 + b ≠ 20 + i by omega), va_up_ne _ _ (show 20 + a ≠ 20 + i by omega), va_up_ne _ _ (show 20 + b ≠ 20 + i by omega)]
      exact hj
    have hw := ag_walk2 hB2 ha hb hj2
    rw [mk_rent, hs_rent, ih (by omega)]
    by_cases c : mk_can g n i (nI (k + 1)) = 0
    · rw [if_neg (fun z => z.1 c), if_neg (fun z => hc.mpr z c)]
    · rw [if_pos (hc.mp c)]
      by_cases c2 : mk_meets (va_up g (20 + i) (nI (k + 1))) n a b = 0
      · rw [if_neg (fun z => z.2 c2), if_neg (fun z => hw.mp z c2), hs_or0]
      · rw [if_pos ⟨c, c2⟩, if_pos (hw.mpr c2)]
theorem ag_joins0 {g : Nat → Int32} {n nr a b : Nat} (h : ag_B g n nr) (ha : a < n) (hb : b < n) : mk_joins g a b = 0 ↔ hs_walk g n a b = 0 := by
  rw [ag_walk h ha hb]
  by_cases c : mk_joins g a b = 0
  · rw [if_pos c]
    exact ⟨fun _ => rfl, fun _ => c⟩
  · rw [if_neg c]
    refine ⟨fun z => absurd z c, fun z => ?_⟩
    split at z
    · exact absurd z (by decide)
    · exact absurd z (by decide)
theorem ag_isof4 {s : Int32} (h : s = 1 ∨ s = 2 ∨ s = 3 ∨ s = 4 ∨ s = 5) : hs_isof s 4 = 0 ↔ s < 4 := by
  rcases h with rfl | rfl | rfl | rfl | rfl <;> decide
theorem ag_rented {g : Nat → Int32} {n nr : Nat} (hB : ag_B g n nr) (hu : ag_U g n) (s a b : Int32) : cq_rented g n s a b = q_rented g n s a b := by
  have hn := hB.1.2.1
  unfold cq_rented q_rented
  by_cases c : hs_isSt g s = 0 ∨ hs_isSt g a = 0 ∨ hs_isSt g b = 0 ∨ a = b
  · rw [if_pos c, if_pos c]
  · rw [if_neg c, if_neg c]
    have hv := mk_ok_of hB.1 hB.2.1
    obtain ⟨i, hi, es⟩ := hs_st_1 hv (fun z => c (Or.inl z))
    obtain ⟨p, hp, ea⟩ := hs_st_1 hv (fun z => c (Or.inr (Or.inl z)))
    obtain ⟨q, hq, eb⟩ := hs_st_1 hv (fun z => c (Or.inr (Or.inr (Or.inl z))))
    subst es ea eb
    rw [nI_clamp (by omega), nI_clamp (by omega), nI_clamp (by omega)]
    have e1 := ag_isof4 (hB.1.2.2.1 i hi)
    have e2 := ag_joins0 hB hp hq
    by_cases c2 : hs_isof (g (8 + i)) 4 = 0 ∨ mk_joins g p q = 0 ∨ nI i = nI p ∨ nI i = nI q
    · rw [if_pos c2, if_pos (by rw [← e1, ← e2]; exact c2)]
    · rw [if_neg c2, if_neg (by rw [← e1, ← e2]; exact c2)]
      exact ag_rent hB hu hi hp hq (fun z => c2 (Or.inr (Or.inr (Or.inl (by rw [z]))))) (fun z => c2 (Or.inr (Or.inr (Or.inr (by rw [z]))))) (fun z => c2 (Or.inr (Or.inl z))) 8 (Nat.le_refl _)
/-- bestSlide -/
theorem ag_k1_nn {t : Nat → Nat → Int32} (ht : ∀ a b, t a b = 0 ∨ t a b = 1) (a : Nat) {c : Int32} {z : Nat} (hc : ∃ q : Nat, q ≤ z ∧ c = nI q) : ∀ b, ∃ q : Nat, q ≤ z + b ∧ ag_k1 t a c b = nI q := by
  intro b
  induction b with
  | zero => exact hc
  | succ b ih =>
    obtain ⟨q, h1, h2⟩ := ih
    rw [ag_k1, h2]
    rcases ht a b with e | e
    · exact ⟨q, by omega, by rw [e]; simp⟩
    · exact ⟨q + 1, by omega, by rw [e, nI_1]⟩
theorem ag_k_nn {t : Nat → Nat → Int32} (ht : ∀ a b, t a b = 0 ∨ t a b = 1) : ∀ a, a ≤ 6 → ∃ q : Nat, q ≤ 6 * a ∧ ag_k t a = nI q := by
  intro a
  induction a with
  | zero => intro _; exact ⟨0, by omega, rfl⟩
  | succ a ih =>
    intro ha
    obtain ⟨q, h1, h2⟩ := ag_k1_nn ht a (z := 6 * a) (ih (by omega)) a
    exact ⟨q, by omega, h2⟩
theorem ag_wks_nn (g : Nat → Int32) (n : Nat) (least : Int32) (hn : n ≤ 6) : ¬ hs_wks g n least n < 0 := by
  rw [ag_k_e]
  obtain ⟨q, h1, h2⟩ := ag_k_nn (t := ag_t g n least) (fun a b => by unfold ag_t; split <;> simp) n hn
  rw [h2]
  exact nI_pos (by omega)
def ag_sR (p q : Int32 × Int32) : Prop := (p = (hs_NONE, hs_NONE) ∧ q = (hs_NONE, -1)) ∨ (p = q ∧ ¬ q.2 < 0 ∧ ¬ q.1 = hs_NONE)
theorem ag_sl1 {g : Nat → Int32} {n nr s : Nat} (hB : ag_B g n nr) (hs : s < n) {p q : Int32 × Int32} (h : ag_sR p q) : ∀ k, k ≤ 8 → ag_sR (mk_sl1 g n s p.1 p.2 k) (hs_sl1 g n s q.1 q.2 k) := by
  have hn := hB.1.2.1
  intro k
  induction k with
  | zero => intro _; exact h
  | succ k ih =>
    intro hk
    have ih := ih (by omega)
    have hB2 := ag_B_20 (v := nI (k + 1)) hB hs (ag_lit (by omega) (by omega) (by omega))
    have hw : mk_w (va_up g (20 + s) (nI (k + 1))) n 1 n = hs_meet g n s k := ag_wks hB2 (only := 1) (Or.inr rfl)
    have hf : mk_std g (g (14 + s)) (nI (k + 1)) n = none ↔ hs_free g n s k = true := by
      unfold hs_free
      rw [ag_who_n hn]
      simp
    have hm : ¬ hs_meet g n s k < 0 := ag_wks_nn _ n 2 hn
    have hl := ag_lt_none hm
    have hN : ¬ (9 * nI s + nI (k + 1)) = hs_NONE := by
      rw [show (9 : Int32) * nI s + nI (k + 1) = nI (9 * s + (k + 1)) from hs_addI (hs_mulI (a := 9) rfl rfl) rfl]
      exact ag_nN (by omega)
    rw [mk_sl1, hs_sl1, hw]
    by_cases c : hs_free g n s k = true
    · rcases ih with ⟨a1, a2⟩ | ⟨a1, a2, a3⟩
      · rw [a1, a2, if_pos ⟨hf.mpr c, hl.1⟩, if_pos ⟨c, hl.2⟩]
        exact Or.inr ⟨rfl, hm, hN⟩
      · rw [a1]
        by_cases c2 : (hs_sl1 g n s q.1 q.2 k).2 < hs_meet g n s k
        · rw [if_pos ⟨hf.mpr c, c2⟩, if_pos ⟨c, c2⟩]
          exact Or.inr ⟨rfl, hm, hN⟩
        · rw [if_neg (fun z => c2 z.2), if_neg (fun z => c2 z.2)]
          exact Or.inr ⟨rfl, a2, a3⟩
    · rw [if_neg (fun z => c (hf.mp z.1)), if_neg (fun z => c z.1)]
      exact ih
theorem ag_sl {g : Nat → Int32} {n nr : Nat} (hB : ag_B g n nr) : ∀ s, s ≤ n → ag_sR (mk_sl g n s) (hs_sl g n s) := by
  intro s
  induction s with
  | zero => intro _; exact Or.inl ⟨rfl, rfl⟩
  | succ s ih =>
    intro hs
    rw [mk_sl, hs_sl]
    exact ag_sl1 hB (by omega) (ih (by omega)) 8 (Nat.le_refl _)
theorem ag_in01 {x : Int32} (h : ¬ hs_in x 0 1 = 0) : x = 0 ∨ x = 1 := by
  rcases Classical.em (x = 0) with q | q
  · exact Or.inl q
  · exact Or.inr (Classical.byContradiction (fun z => h (hs_in01 q z)))
theorem ag_best {g : Nat → Int32} {n nr : Nat} (hB : ag_B g n nr) (what : Int32) (h4 : g 4 = 0 ↔ g 2 = 0) : cq_best g n what = q_best g n what := by
  unfold cq_best q_best
  by_cases c : g 2 = 0
  · rw [if_pos c, if_pos (h4.mpr c)]
  · rw [if_neg c, if_neg (fun z => c (h4.mp z))]
    by_cases c2 : hs_in what 0 1 = 0
    · rw [if_pos c2, if_pos c2]
    · rw [if_neg c2, if_neg c2]
      rcases ag_sl hB n (Nat.le_refl n) with ⟨a1, a2⟩ | ⟨a1, a2, a3⟩
      · rw [a1, a2]
        simp
      · rw [a1]
        by_cases c3 : what = 0
        · rw [if_pos c3, if_pos (Or.inl c3)]
        · rw [if_neg c3, if_neg (fun z => z.elim c3 a3)]
theorem ag_walkways {g : Nat → Int32} {n nr : Nat} (hB : ag_B g n nr) (what : Int32) (h4 : g 4 = 0 ↔ g 2 = 0) : cq_walkways g n what = q_walkways g n what := by
  unfold cq_walkways q_walkways
  by_cases c : g 2 = 0
  · rw [if_pos c, if_pos (h4.mpr c)]
  · rw [if_neg c, if_neg (fun z => c (h4.mp z))]
    by_cases c2 : hs_in what 0 1 = 0
    · rw [if_pos c2, if_pos c2]
    · rw [if_neg c2, if_neg c2]
      rcases ag_in01 c2 with rfl | rfl
      · exact ag_wks hB (only := 0) (Or.inl rfl)
      · exact ag_wks hB (only := 1) (Or.inr rfl)
theorem ag_walkway {g : Nat → Int32} {n nr : Nat} (hB : ag_B g n nr) (a b : Int32) : cq_walkway g n a b = q_walkway g n a b := by
  have hn := hB.1.2.1
  unfold cq_walkway q_walkway
  by_cases c : hs_isSt g a = 0 ∨ hs_isSt g b = 0 ∨ a = b
  · rw [if_pos c, if_pos c]
  · rw [if_neg c, if_neg c]
    have hv := mk_ok_of hB.1 hB.2.1
    obtain ⟨p, hp, ea⟩ := hs_st_1 hv (fun z => c (Or.inl z))
    obtain ⟨q, hq, eb⟩ := hs_st_1 hv (fun z => c (Or.inr (Or.inl z)))
    subst ea eb
    rw [nI_clamp (by omega), nI_clamp (by omega), ag_walk hB hp hq]
/-- even -/
def ag_e1 (f : Nat → Int32) (sum : Nat) : Int32 → Nat → Int32
  | best, 0 => best
  | best, m + 1 => if 10 ≤ nI sum - nI m then best else ag_e1 f sum (if f m = 0 then best else nI m) m
theorem ag_10 : ∀ sum, sum < 19 → ∀ m, m < 10 → m ≤ sum → (10 ≤ nI sum - nI m ↔ m < sum - 9) := by decide +kernel
/-- the least m from lo on that meets, or none; as the class runs -/
theorem ag_ev1 {g : Nat → Int32} {n a b sum : Nat} (hsum : sum < 19) (hw : ∀ m, m ≤ 9 → m ≤ sum → sum - m ≤ 9 → (hs_walk (hs_evg g a b sum m) n a b = 2 ↔ ¬ mk_meets (hs_evg g a b sum m) n a b = 0)) : ∀ k, sum - 9 + k ≤ min 9 sum + 1 → ∀ best, hs_ev1 g n a b sum best (sum - 9 + k) = if mk_ev1 g n a b 1 sum (sum - 9) k = hs_NONE then best else 19 * nI sum + mk_ev1 g n a b 1 sum (sum - 9) k := by
  intro k
  induction k with
  | zero =>
    intro hk best
    have e : mk_ev1 g n a b 1 sum (sum - 9) 0 = hs_NONE := rfl
    rw [if_pos e]
    rcases Nat.eq_zero_or_pos (sum - 9) with z | z
    · rw [z]; rfl
    · obtain ⟨m, hm⟩ : ∃ m, sum - 9 + 0 = m + 1 := ⟨sum - 9 - 1, by omega⟩
      rw [hm, hs_ev1, if_pos ((ag_10 sum hsum m (by omega) (by omega)).mpr (by omega))]
  | succ k ih =>
    intro hk best
    have hn10 : ¬ 10 ≤ nI sum - nI (sum - 9 + k) := fun z => absurd ((ag_10 sum hsum (sum - 9 + k) (by omega) (by omega)).mp z) (by omega)
    rw [show sum - 9 + (k + 1) = (sum - 9 + k) + 1 by omega, hs_ev1, if_neg hn10, ih (by omega), mk_ev1]
    have hm := hw (sum - 9 + k) (by omega) (by omega) (by omega)
    by_cases c : mk_ev1 g n a b 1 sum (sum - 9) k = hs_NONE
    · rw [if_pos c, if_pos c]
      by_cases c2 : mk_meets (hs_evg g a b sum (sum - 9 + k)) n a b = 0
      · rw [if_neg (fun z => hm.mp z c2), if_pos c2, if_pos rfl]
      · have h10 : ¬ (1 : Int32) = 0 := by decide
        have hN : ¬ nI (sum - 9 + k) = hs_NONE := ag_nN (by omega)
        rw [if_pos (hm.mpr c2), if_neg c2, if_neg h10, if_neg hN]
    · rw [if_neg c, if_neg c, if_neg c]
theorem ag_ev1w {g : Nat → Int32} {n a b sum lo : Nat} (hs : sum < 2147483648) (hl : lo + 20 < 2147483648) : ∀ k, k ≤ 20 → (mk_ev1 g n a b 0 sum lo k = if mk_ev1 g n a b 1 sum lo k = hs_NONE then hs_NONE else nI sum) ∧ (mk_ev1 g n a b 1 sum lo k = hs_NONE ∨ ∃ m : Nat, m < lo + k ∧ lo ≤ m ∧ mk_ev1 g n a b 1 sum lo k = nI m) := by
  intro k
  induction k with
  | zero => intro _; exact ⟨rfl, Or.inl rfl⟩
  | succ k ih =>
    intro hk
    obtain ⟨h1, h2⟩ := ih (by omega)
    rw [mk_ev1, mk_ev1, h1]
    by_cases c : mk_ev1 g n a b 1 sum lo k = hs_NONE
    · rw [if_pos c, if_pos rfl, if_pos c]
      by_cases c2 : mk_meets (hs_evg g a b sum (lo + k)) n a b = 0
      · rw [if_pos c2, if_pos c2, if_pos rfl]
        exact ⟨rfl, Or.inl rfl⟩
      · have h10 : ¬ (1 : Int32) = 0 := by decide
        have hN : ¬ nI (lo + k) = hs_NONE := ag_nN (by omega)
        rw [if_neg c2, if_neg c2, if_pos rfl, if_neg h10, if_neg hN]
        exact ⟨rfl, Or.inr ⟨lo + k, by omega, by omega, rfl⟩⟩
    · rw [if_neg c, if_neg (ag_nN hs), if_neg c, if_neg c]
      refine ⟨rfl, ?_⟩
      rcases h2 with h2 | ⟨m, h3, h4, h5⟩
      · exact absurd h2 c
      · exact Or.inr ⟨m, by omega, h4, h5⟩
/-- what all sums below q give: none, or the least sum and the least number at a -/
theorem ag_evA {g : Nat → Int32} {n a b : Nat} (hw : ∀ sum, sum < 19 → ∀ m, m ≤ 9 → m ≤ sum → sum - m ≤ 9 → (hs_walk (hs_evg g a b sum m) n a b = 2 ↔ ¬ mk_meets (hs_evg g a b sum m) n a b = 0)) : ∀ q, q ≤ 19 → ∀ best, (mk_ev g n a b 0 q = hs_NONE ∧ mk_ev g n a b 1 q = hs_NONE ∧ hs_ev g n a b best q = best) ∨ (∃ s m : Nat, s < q ∧ m ≤ 9 ∧ mk_ev g n a b 0 q = nI s ∧ mk_ev g n a b 1 q = nI m ∧ hs_ev g n a b best q = nI (19 * s + m)) := by
  intro q
  induction q with
  | zero => intro _ best; exact Or.inl ⟨rfl, rfl, rfl⟩
  | succ q ih =>
    intro hq best
    have e9 : (hs_less (nI q) 9).toNatClampNeg + 1 = q - 9 + (min 9 q + 1 - (q - 9)) := by
      have : hs_less (nI q) 9 = nI (min 9 q) := by
        have := (mk_ev_a q (by omega)).1
        unfold hs_less
        exact this
      rw [this, nI_clamp (by omega)]
      omega
    rw [hs_ev, e9, ag_ev1 (by omega) (hw q (by omega)) _ (by omega), mk_ev, mk_ev]
    rcases ih (by omega) (if mk_ev1 g n a b 1 q (q - 9) (min 9 q + 1 - (q - 9)) = hs_NONE then best else 19 * nI q + mk_ev1 g n a b 1 q (q - 9) (min 9 q + 1 - (q - 9))) with ⟨a1, a2, a3⟩ | ⟨s, m, b1, b2, b3, b4, b5⟩
    · rw [if_pos a1, if_pos a2, a3]
      obtain ⟨h1, h2⟩ := ag_ev1w (g := g) (n := n) (a := a) (b := b) (sum := q) (lo := q - 9) (by omega) (by omega) (min 9 q + 1 - (q - 9)) (by omega)
      rw [h1]
      rcases h2 with h2 | ⟨m, h3, h4, h5⟩
      · rw [if_pos h2, if_pos h2]
        exact Or.inl ⟨rfl, h2, rfl⟩
      · rw [h5, if_neg (ag_nN (by omega)), if_neg (ag_nN (by omega))]
        refine Or.inr ⟨q, m, by omega, by omega, rfl, rfl, ?_⟩
        rw [← nI_add, ← pk_mul]
        rfl
    · rw [if_neg (by rw [b3]; exact ag_nN (by omega)), if_neg (by rw [b4]; exact ag_nN (by omega)), b5]
      exact Or.inr ⟨s, m, by omega, b2, b3, b4, rfl⟩
theorem ag_19 : ∀ s, s < 19 → ∀ m, m < 10 → nI (19 * s + m) / 19 = nI s ∧ nI (19 * s + m) - nI (19 * s + m) / 19 * 19 = nI m := by decide +kernel
theorem ag_even {g : Nat → Int32} {n nr : Nat} (hB : ag_B g n nr) (hg : ∀ i, i < n → ag_r (g (38 + i)) 0 9) (a b what : Int32) : cq_even g n a b what = q_even g n a b what := by
  have hn := hB.1.2.1
  unfold cq_even q_even
  by_cases c : hs_isSt g a = 0 ∨ hs_isSt g b = 0 ∨ a = b ∨ hs_in what 0 1 = 0
  · rw [if_pos c, if_pos c]
  · rw [if_neg c, if_neg c]
    have hv := mk_ok_of hB.1 hB.2.1
    obtain ⟨p, hp, ea⟩ := hs_st_1 hv (fun z => c (Or.inl z))
    obtain ⟨q, hq, eb⟩ := hs_st_1 hv (fun z => c (Or.inr (Or.inl z)))
    have hpq : p ≠ q := fun z => c (Or.inr (Or.inr (Or.inl (by rw [ea, eb, z]))))
    have hwh := ag_in01 (fun z => c (Or.inr (Or.inr (Or.inr z))))
    subst ea eb
    rw [nI_clamp (by omega), nI_clamp (by omega)]
    by_cases c2 : mk_joins g p q = 0
    · rw [if_pos c2, if_pos ((ag_joins0 hB hp hq).mp c2)]
    · rw [if_neg c2, if_neg (fun z => c2 ((ag_joins0 hB hp hq).mpr z))]
      have hw : ∀ sum, sum < 19 → ∀ m, m ≤ 9 → m ≤ sum → sum - m ≤ 9 → (hs_walk (hs_evg g p q sum m) n p q = 2 ↔ ¬ mk_meets (hs_evg g p q sum m) n p q = 0) := by
        intro sum hsum m hm hms hsm
        have b1 : ag_r (g (38 + p) + nI m) 0 100 := ag_w (ag_add (hg p hp) (ag_lit (n := m) (a := 0) (b := 9) (by omega) (by omega) (by omega)) (by omega) (by omega)) (by omega) (by omega)
        have b2 : ag_r (g (38 + q) + nI sum - nI m) 0 100 := by
          have e : g (38 + q) + nI sum - nI m = g (38 + q) + nI (sum - m) := by
            rw [← pk_sub hms, Int32.sub_eq_add_neg, Int32.sub_eq_add_neg, Int32.add_assoc]
          rw [e]
          exact ag_w (ag_add (hg q hq) (ag_lit (n := sum - m) (a := 0) (b := 9) (by omega) (by omega) (by omega)) (by omega) (by omega)) (by omega) (by omega)
        have hB2 : ag_B (hs_evg g p q sum m) n nr := by
          unfold hs_evg
          exact ag_B_38 (ag_B_38 hB hp b1) hq b2
        refine ag_walk2 hB2 hp hq ?_
        unfold hs_evg
        unfold mk_joins at c2 ⊢
        rw [va_up_ne _ _ (show 14 + p ≠ 38 + q by omega), va_up_ne _ _ (show 14 + p ≠ 38 + p by omega), va_up_ne _ _ (show 14 + q ≠ 38 + q by omega), va_up_ne _ _ (show 14 + q ≠ 38 + p by omega), va_up_ne _ _ (show 20 + p ≠ 38 + q by omega), va_up_ne _ _ (show 20 + p ≠ 38 + p by omega), va_up_ne _ _ (show 20 + q ≠ 38 + q by omega), va_up_ne _ _ (show 20 + q ≠ 38 + p by omega)]
        exact c2
      rcases ag_evA hw 19 (Nat.le_refl _) hs_NONE with ⟨a1, a2, a3⟩ | ⟨s, m, b1, b2, b3, b4, b5⟩
      · rw [a3, if_pos rfl]
        rcases hwh with rfl | rfl
        · exact a1
        · exact a2
      · obtain ⟨k1, k2⟩ := ag_19 s b1 m (by omega)
        rw [b5, if_neg (ag_nN (by omega)), k2, k1]
        rcases hwh with rfl | rfl
        · rw [if_pos rfl]; exact b3
        · rw [if_neg (by decide)]; exact b4
