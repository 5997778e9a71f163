/-! IMAGE, RESTORE, MARKET, WIND: the law's world behind both calls -/
theorem ag_I_of2 {C M C' M' : Nat → Nat → Int32} {n nr a : Nat} (h : ag_I C M n nr a) (hE : ag_E C' M') (h0 : ∀ j, j < 50 ∨ 200 ≤ j → M' 0 j = M 0 j) (h1 : M' 1 0 = M 1 0) (h12 : ∃ s0 : Nat, M' 12 0 = nI s0) (h21 : C' 21 = C 21) (h22 : C' 22 = C 22) (h23 : C' 23 = C 23) (hZ : ag_Z M') (hT : ∃ t : Nat, t ≤ 100 ∧ M' 9 0 = nI t) (hR : hs_tr M') : ag_I C' M' n nr a := by
  obtain ⟨-, -, -, -, k5, k6, k7, k8, k9⟩ := h
  have e : ∀ j, j < 50 → M 0 j = M' 0 j := fun j hj => (h0 j (Or.inl hj)).symm
  refine ⟨hE, hZ, hT, hR, by rw [h1]; exact k5, h12, ag_V_c e k7, by rw [← e 4 (by omega)]; exact k8, ?_⟩
  rw [h21, h22, h23]
  refine ag_G_c (fun i hi j hj => ?_) (fun i hi => ⟨rfl, rfl, rfl⟩) k9
  show (if i < a then M 0 (200 + 50 * i + j) else M 0 j) = (if i < a then M' 0 (200 + 50 * i + j) else M' 0 j)
  rw [h0 (200 + 50 * i + j) (by omega), h0 j (by omega)]
def lc_I (D : va_G) (L : List Nat) (F : Nat → va_E) (x mo : Nat) (ma : Nat → Nat) : Prop := ∃ oa C M mk ad n nr im col, oa 0 = x ∧ wl_S D L F oa mo ma C M mk ad n nr im col
section WM
variable {D : va_G} {L : List Nat} {F : Nat → va_E} {oa : Nat → Nat} {mo : Nat} {ma : Nat → Nat} {C M : Nat → Nat → Int32} {mk : Nat} {ad : Nat → Nat} {n nr : Nat} {im : Nat → Option Nat} {col : Nat → Nat}
/-- what the law needs behind the first call -/
def wl_P (D : va_G) (L : List Nat) (x mo : Nat) (ma : Nat → Nat) (M : Nat → Nat → Int32) (r : Int32) (u : hg_S) (q : sp_S) : Prop := r = q.1 ∧ mo_H D u.2 mo ma M ∧ (∀ a ∈ L, a ∈ u.1) ∧ lc_I D u.1 (mo_F D u.2 mo ma q.2) x mo ma
theorem wl_P_ord (h : wl_S D L F oa mo ma C M mk ad n nr im col) {P : cs_T} {q : sp_S} (hs : ag_st M n nr P q) : wl_P D L (oa 0) mo ma M P.1 (L, ob_W D F oa P.2.1 mk im mk ad n P.2.2) q :=
  ⟨hs.1, wl_mo h _ _, fun _ ha => ha, oa, P.2.1, q.2, mk, ad, n, nr, im, col, rfl, wl_ord h hs⟩
theorem wl_P_wind (h : wl_S D L F oa mo ma C M mk ad n nr im col) {hours seed rope r : Int32} {u : hg_S} (hp : r = cq_wind (M 0) n nr hours seed rope ∧ (u = (L, ob_W D F oa C mk im mk ad n (M 0)) ∨ ∃ q x, q ∉ L ∧ u = (L ++ [q], va_up (ob_W D F oa C mk im mk ad n (M 0)) q x))) : wl_P D L (oa 0) mo ma M r u (sp_wind M n nr hours seed rope) := by
  obtain ⟨a, hI⟩ := h.2.2.2.2.2.2.2.2.2.2
  have hs := ag_t_wind hI hours seed rope
  obtain ⟨hr, hu⟩ := hp
  subst hr
  rcases hu with rfl | ⟨q, x, hq, rfl⟩
  · exact wl_P_ord h hs
  · rw [wl_W h]
    have h' : wl_S D (L ++ [q]) (va_up F q x) oa mo ma C M mk ad n nr im col := wl_more h (fun b hb => va_up_ne _ _ (fun e => hq (by rw [← e]; exact hb))) (fun b hb => List.mem_append_left _ hb)
    obtain ⟨p1, p2, -, p4⟩ := wl_P_ord h' hs
    have e : ob_W D (va_up F q x) oa C mk im mk ad n (M 0) = va_up F q x := wl_W h'
    refine ⟨p1, ?_, fun b hb => List.mem_append_left _ hb, ?_⟩
    · rw [← e]; exact p2
    · rw [← e]; exact p4
theorem ag_inI {k : Int32} (h : ¬ hs_in k 0 1 = 0) : ∃ j : Nat, j < 2 ∧ k = nI j := by
  obtain ⟨j, h1, h2⟩ := hs_in_j (n := 1) rfl (by omega) h
  exact ⟨j, by omega, h2⟩
theorem ag_in1 {j : Nat} (hj : j < 2) : ¬ hs_in (nI j) 0 1 = 0 := by
  rcases (show j = 0 ∨ j = 1 by omega) with rfl | rfl <;> decide
theorem wl_P_image (h : wl_S D L F oa mo ma C M mk ad n nr im col) {k r : Int32} {u : hg_S} (hp : (hs_in k 0 1 = 0 ∧ r = hs_BAD ∧ u = (L, ob_W D F oa C mk im mk ad n (M 0))) ∨ (¬ hs_in k 0 1 = 0 ∧ M 0 2 = 0 ∧ r = hs_STATE ∧ u = (L, ob_W D F oa C mk im mk ad n (M 0))) ∨ ∃ j, j < 2 ∧ k = nI j ∧ ¬ M 0 2 = 0 ∧ r = 1 ∧ ∃ mk2 ad2 N, mk2 ∉ L ∧ (∀ i, i < n + 2 → ad2 i ∉ L) ∧ mk_ok (L ++ N) mk2 ad2 n ∧ u = (L ++ N, ob_W D (mk_F D F mk ad n (M 0)) oa C mk (va_up im j (some mk2)) mk2 ad2 n (M 0))) : wl_P D L (oa 0) mo ma M r u (sp_image M k) := by
  obtain ⟨a, hI⟩ := h.2.2.2.2.2.2.2.2.2.2
  have h4 := ag_I4 hI
  rcases hp with ⟨c1, rfl, rfl⟩ | ⟨c1, c2, rfl, rfl⟩ | ⟨j, hj, rfl, c2, rfl, mk2, ad2, N, b1, b2, b3, rfl⟩
  · have e : sp_image M k = (hs_BAD, M) := by unfold sp_image; rw [if_pos c1]
    rw [e]
    exact wl_P_ord h (P := (hs_BAD, C, M 0)) (ag_st0 hI _)
  · have e : sp_image M k = (hs_STATE, M) := by unfold sp_image; rw [if_neg c1, if_pos (h4.mpr c2)]
    rw [e]
    exact wl_P_ord h (P := (hs_STATE, C, M 0)) (ag_st0 hI _)
  · have e : sp_image M (nI j) = (1, mo_w (va_up M 0 (hs_blk (M 0) (50 * (j + 1)) 0 50)) 2 j 1) := by
      unfold sp_image
      rw [if_neg (ag_in1 hj), if_neg (fun z => c2 (h4.mp z)), nI_clamp (by omega)]
    rw [e]
    obtain ⟨hE, hZ, hT, hR, h1, h12, hV, hth, hG⟩ := id hI
    have ht : M 0 4 = 1 ∧ 1 ≤ nr := by
      rcases hth with ⟨z, -⟩ | z
      · exact absurd (h4.mp z) c2
      · exact z
    have m0 : ∀ i, mo_w (va_up M 0 (hs_blk (M 0) (50 * (j + 1)) 0 50)) 2 j 1 0 i = hs_blk (M 0) (50 * (j + 1)) 0 50 i := fun _ => rfl
    have bo : ∀ i, ¬ (50 * (j + 1) ≤ i ∧ i < 50 * (j + 1) + 50) → hs_blk (M 0) (50 * (j + 1)) 0 50 i = M 0 i := fun i hi => by unfold hs_blk; rw [if_neg hi]
    have bi : ∀ i, i < 50 → hs_blk (M 0) (50 * (j + 1)) 0 50 (50 * (j + 1) + i) = M 0 i := fun i hi => by
      unfold hs_blk
      rw [if_pos (by omega)]
      exact congrArg (M 0) (by omega)
    have hI' : ag_I C (mo_w (va_up M 0 (hs_blk (M 0) (50 * (j + 1)) 0 50)) 2 j 1) n nr a := by
      refine ag_I_of2 hI (ag_E_R (ag_E_R hE (by unfold ag_key; omega) _) (by unfold ag_key; omega) _) (fun i hi => ?_) rfl h12 rfl rfl rfl hZ hT hR
      rw [m0]
      exact bo i (by omega)
    obtain ⟨q1, q2⟩ := wl_img h (N := N) (M' := mo_w (va_up M 0 (hs_blk (M 0) (50 * (j + 1)) 0 50)) 2 j 1) hj b1 b2 b3 (fun i hi => by rw [m0]; exact bo i (by omega)) (fun i hi => by rw [m0]; exact bi i hi) (fun k hk hne => ⟨fun i z1 z2 => by rw [m0]; exact bo i (by omega), by
      show va_up (M 2) j 1 k = M 2 k
      exact va_up_ne _ _ hne⟩) (by
      show va_up (M 2) j 1 j = 1
      exact va_up_self _ _ _) ht.1 ht.2 ⟨a, hI'⟩
    exact ⟨rfl, q1, fun b hb => List.mem_append_left _ hb, oa, _, _, _, _, _, _, _, _, rfl, q2⟩
theorem wl_P_restore (h : wl_S D L F oa mo ma C M mk ad n nr im col) {ni : Nat → Nat} {gi : Nat → Nat → Int32} (hgi : ∀ j, j < 2 → ∀ b, im j = some b → (∃ nr', ag_V (fun i => M 0 (50 * (j + 1) + i)) (ni j) nr' ∧ 1 ≤ nr') ∧ M 2 j = 1 ∧ M 0 (50 * (j + 1) + 4) = 1 ∧ gi j = fun i => M 0 (50 * (j + 1) + i)) {k r : Int32} {u : hg_S} (hp : (hs_in k 0 1 = 0 ∧ r = hs_BAD ∧ u = (L, ob_W D F oa C mk im mk ad n (M 0))) ∨ (∃ j, j < 2 ∧ k = nI j ∧ im j = none ∧ r = hs_STATE ∧ u = (L, ob_W D F oa C mk im mk ad n (M 0))) ∨ ∃ j, j < 2 ∧ ∃ bi, k = nI j ∧ im j = some bi ∧ r = 1 ∧ ∃ mk2 ad2 N, mk2 ∉ L ∧ (∀ i, i < ni j + 2 → ad2 i ∉ L) ∧ mk_ok (L ++ N) mk2 ad2 (ni j) ∧ u = (L ++ N, ob_W D (mk_F D F mk ad n (M 0)) oa (mo_w C 1 0 0) mk2 im mk2 ad2 (ni j) (gi j))) : wl_P D L (oa 0) mo ma M r u (sp_restore M k) := by
  obtain ⟨a, hI⟩ := h.2.2.2.2.2.2.2.2.2.2
  have k10 := h.2.2.2.2.2.2.2.2.2.1
  rcases hp with ⟨c1, rfl, rfl⟩ | ⟨j, hj, rfl, c2, rfl, rfl⟩ | ⟨j, hj, bi, rfl, c2, rfl, mk2, ad2, N, b1, b2, b3, rfl⟩
  · have e : sp_restore M k = (hs_BAD, M) := by unfold sp_restore; rw [if_pos c1]
    rw [e]
    exact wl_P_ord h (P := (hs_BAD, C, M 0)) (ag_st0 hI _)
  · have e2 : M 2 j = 0 := by
      rcases k10 j hj with ⟨-, z⟩ | ⟨q, ad', n', nr', z, -⟩
      · exact z
      · rw [c2] at z; exact absurd z (by simp)
    have e : sp_restore M (nI j) = (hs_STATE, M) := by
      unfold sp_restore
      rw [if_neg (ag_in1 hj), nI_clamp (by omega), if_pos e2]
    rw [e]
    exact wl_P_ord h (P := (hs_STATE, C, M 0)) (ag_st0 hI _)
  · obtain ⟨⟨nr', hV', hn1⟩, z2, z4, zg⟩ := hgi j hj bi c2
    have e : sp_restore M (nI j) = (1, mo_w (va_up M 0 (hs_blk (M 0) 0 (50 * (j + 1)) 50)) 1 0 0) := by
      unfold sp_restore
      rw [if_neg (ag_in1 hj), nI_clamp (by omega), if_neg (by rw [z2]; decide)]
    rw [e]
    obtain ⟨hE, hZ, hT, hR, h1, h12, hV, hth, hG⟩ := id hI
    have m0 : ∀ i, mo_w (va_up M 0 (hs_blk (M 0) 0 (50 * (j + 1)) 50)) 1 0 0 0 i = hs_blk (M 0) 0 (50 * (j + 1)) 50 i := fun _ => rfl
    have bo : ∀ i, 50 ≤ i → hs_blk (M 0) 0 (50 * (j + 1)) 50 i = M 0 i := fun i hi => by unfold hs_blk; rw [if_neg (by omega)]
    have bi' : ∀ i, i < 50 → (fun i => M 0 (50 * (j + 1) + i)) i = mo_w (va_up M 0 (hs_blk (M 0) 0 (50 * (j + 1)) 50)) 1 0 0 0 i := fun i hi => by
      rw [m0]
      unfold hs_blk
      rw [if_pos (by omega)]
      exact congrArg (M 0) (by omega)
    have hI' : ag_I (mo_w C 1 0 0) (mo_w (va_up M 0 (hs_blk (M 0) 0 (50 * (j + 1)) 50)) 1 0 0) (ni j) nr' 0 := by
      refine ⟨?_, hZ, hT, hR, ⟨rfl, by omega⟩, h12, ag_V_c bi' hV', Or.inr ⟨by rw [← bi' 4 (by omega)]; exact z4, hn1⟩, fun i hi => absurd hi (by omega)⟩
      intro k hk
      by_cases c : k = 1
      · subst c
        show va_up (C 1) 0 0 = va_up (M 1) 0 0
        rw [hE 1 hk]
      · have k0 : k ≠ 0 := by unfold ag_key at hk; omega
        rw [mo_w, va_up_ne _ _ c, mo_w, va_up_ne _ _ c, va_up_ne _ _ k0]
        exact hE k hk
    obtain ⟨q1, q2⟩ := wl_new h (N := N) (C' := mo_w C 1 0 0) (M' := mo_w (va_up M 0 (hs_blk (M 0) 0 (50 * (j + 1)) 50)) 1 0 0) (g2 := gi j) b1 b2 b3 (fun F0 hh => mk_H_c hV'.1.1.2.1 (fun i hi => by rw [zg]; exact bi' i hi) hh) (fun i z1 z2 => by rw [m0]; exact bo i z1) rfl ⟨0, hI'⟩
    exact ⟨rfl, q1, fun b hb => List.mem_append_left _ hb, oa, _, _, _, _, _, _, _, _, rfl, q2⟩
end WM
theorem mk_H_4 {D : va_G} {F : Nat → va_E} {mk : Nat} {ad : Nat → Nat} {n : Nat} {g : Nat → Int32} (x : Int32) (hn : n ≤ 6) (h : mk_H D F mk ad n g) : mk_H D F mk ad n (va_up g 4 x) := by
  refine ⟨h.1, fun k hk => ?_⟩
  rw [h.2 k hk]
  match k, hk with
  | 0, _ =>
    show Sum.inl (D.1 11, 3, Sum.inl (mk_ta g)) = Sum.inl (D.1 11, 3, Sum.inl (mk_ta (va_up g 4 x)))
    have e : mk_ta g = mk_ta (va_up g 4 x) := by
      funext j
      simp only [mk_ta]
      by_cases c : j < 3
      · rw [if_pos c, if_pos c, va_up_ne _ _ (by omega)]
      · rw [if_neg c, if_neg c]
    rw [e]
  | 1, _ => rfl
  | i + 2, _ =>
    show Sum.inr (mk_kc (g (8 + i)), mk_st g i) = Sum.inr (mk_kc (va_up g 4 x (8 + i)), mk_st (va_up g 4 x) i)
    simp only [mk_st]
    rw [va_up_ne _ _ (show 8 + i ≠ 4 by omega), va_up_ne _ _ (show 14 + i ≠ 4 by omega), va_up_ne _ _ (show 20 + i ≠ 4 by omega), va_up_ne _ _ (show 26 + i ≠ 4 by omega), va_up_ne _ _ (show 32 + i ≠ 4 by omega), va_up_ne _ _ (show 38 + i ≠ 4 by omega), va_up_ne _ _ (show 44 + i ≠ 4 by omega)]
theorem ag_V_4 {g : Nat → Int32} {n nr : Nat} {x : Int32} (h : ag_V g n nr) : ag_V (va_up g 4 x) n nr := by
  obtain ⟨⟨h1, h2, h3, h4⟩, h5, h6, h7⟩ := h
  refine ⟨⟨mk_sr_up (by omega) h1, mk_t_up (by omega) h2, by rw [va_up_ne _ _ (by omega)]; exact h3, fun j hj => ?_⟩, fun p q hp hq => ?_, by rw [va_up_ne _ _ (by omega)]; exact h6, fun j hj => by rw [va_up_ne _ _ (by omega)]; exact h7 j hj⟩
  · rw [va_up_ne _ _ (show 14 + j ≠ 4 by omega), va_up_ne _ _ (show 20 + j ≠ 4 by omega), va_up_ne _ _ (show 26 + j ≠ 4 by omega), va_up_ne _ _ (show 32 + j ≠ 4 by omega), va_up_ne _ _ (show 38 + j ≠ 4 by omega)]
    exact h4 j hj
  · rw [va_up_ne _ _ (show 14 + p ≠ 4 by omega), va_up_ne _ _ (show 14 + q ≠ 4 by omega), va_up_ne _ _ (show 20 + p ≠ 4 by omega), va_up_ne _ _ (show 20 + q ≠ 4 by omega)]
    exact h5 p q hp hq
section WM
variable {D : va_G} {L : List Nat} {F : Nat → va_E} {oa : Nat → Nat} {mo : Nat} {ma : Nat → Nat} {C M : Nat → Nat → Int32} {mk : Nat} {ad : Nat → Nat} {n nr : Nat} {im : Nat → Option Nat} {col : Nat → Nat}
theorem mo_mk_k (M : Nat → Nat → Int32) (S : ps_S) {k : Nat} (h0 : k ≠ 0) (h9 : k ≠ 9) (h1 : k ≠ 11) (h2 : k ≠ 12) (h3 : k ≠ 13) (h4 : k ≠ 14) : mo_mk M S k = M k := by
  unfold mo_mk mo_ps mo_rd
  rw [mo_w, va_up_ne _ _ h9]
  show (if k = 0 then _ else _) = _
  rw [if_neg h0, if_neg h1, if_neg h2, if_neg h3, if_neg h4]
theorem mo_mk_o (M : Nat → Nat → Int32) (S : ps_S) {j : Nat} (h : ¬ (150 ≤ j ∧ j < 200)) : mo_mk M S 0 j = M 0 j := by
  show hs_ov (M 0) S.1 j = M 0 j
  unfold hs_ov
  rw [if_neg h]
theorem mo_mk_at (M : Nat → Nat → Int32) (S : ps_S) {j : Nat} (h : j < 50) : mo_mk M S 0 (150 + j) = S.1 j := mo_ps_at M S h
theorem wl_P_market (h : wl_S D L F oa mo ma C M mk ad n nr im col) {t s0 : Nat} (ht : M 9 0 = nI t) (ht1 : t ≤ 100) {r : Int32} {u : hg_S} (hp : ∃ mk2 ad2 N, mk2 ∉ L ∧ (∀ j, j < (cr_all C).2.2.2 + 2 → ad2 j ∉ L) ∧ mk_ok (L ++ N) mk2 ad2 (cr_all C).2.2.2 ∧ (((cr_all C).1 25 0 = 0 ∧ r = (cr_all C).2.1 3 ∧ u = (L ++ N, ob_W D (mk_F D F mk ad n (M 0)) oa (mo_w (mo_w (cr_all C).1 9 0 0) 1 0 0) mk2 im mk2 ad2 (cr_all C).2.2.2 (cr_all C).2.1)) ∨ (¬ (cr_all C).1 25 0 = 0 ∧ r = -1000100 - (cr_all C).1 26 0 ∧ u = (L ++ N, ob_W D (mk_F D F mk ad n (M 0)) oa (mo_w (mo_w (cr_all C).1 9 0 0) 10 0 ((cr_all C).1 25 0)) mk im mk2 ad2 (cr_all C).2.2.2 (cr_all C).2.1)))) : wl_P D L (oa 0) mo ma M r u (sp_market M t s0) := by
  obtain ⟨a, hI⟩ := h.2.2.2.2.2.2.2.2.2.2
  obtain ⟨hE, hZ, hT, hR, h1, h12, hV, hth, hG⟩ := id hI
  obtain ⟨hRR, hJ⟩ := ag_read (C := C) (M := M) s0 (hE 8 (by unfold ag_key; omega)) (hE 9 (by unfold ag_key; omega)) ht ht1
  have hkk := cr_kk_all C
  have hVV := cr_VV_all C
  have hNN := cr_N_all C
  unfold sp_market
  generalize cr_all C = X at hp hRR hJ hkk hVV hNN
  generalize ps_market M t s0 = Y at hRR ⊢
  obtain ⟨y, S⟩ := Y
  obtain ⟨mk2, ad2, N, b1, b2, b3, hp⟩ := hp
  have mk_ : ∀ k, k ≠ 0 → k ≠ 9 → k ≠ 11 → k ≠ 12 → k ≠ 13 → k ≠ 14 → mo_mk M S k = M k := fun k z0 z9 z1 z2 z3 z4 => mo_mk_k M S z0 z9 z1 z2 z3 z4
  have hZm : ag_Z (mo_mk M S) := ag_Z_c (mk_ 3 (by decide) (by decide) (by decide) (by decide) (by decide) (by decide)) (mk_ 4 (by decide) (by decide) (by decide) (by decide) (by decide) (by decide)) hZ
  have hRm : hs_tr (mo_mk M S) := by
    unfold hs_tr
    rw [mk_ 18 (by decide) (by decide) (by decide) (by decide) (by decide) (by decide)]
    exact hR
  have h9m : mo_mk M S 9 = va_up (M 9) 0 0 := rfl
  rcases hp with ⟨c1, rfl, rfl⟩ | ⟨c1, rfl, rfl⟩
  · rcases hRR with ⟨y1, y2, y3, y4⟩ | ⟨y1, y2⟩
    · have y1 : ¬ y = 0 := y1
      have y3 : S.1 = X.2.1 := y3
      rw [if_neg y1]
      have hV2 := cr_V_V (hVV c1)
      have e0 : ∀ j, mo_w (mo_w (va_up (mo_mk M S) 0 (hs_blk (mo_mk M S 0) 0 150 50)) 0 4 1) 1 0 0 0 j = va_up (hs_blk (mo_mk M S 0) 0 150 50) 4 1 j := fun _ => rfl
      have eb : ∀ j, j < 50 → va_up X.2.1 4 1 j = mo_w (mo_w (va_up (mo_mk M S) 0 (hs_blk (mo_mk M S 0) 0 150 50)) 0 4 1) 1 0 0 0 j := by
        intro j hj
        rw [e0]
        by_cases c : j = 4
        · rw [c, va_up_self, va_up_self]
        · rw [va_up_ne _ _ c, va_up_ne _ _ c, ← y3]
          unfold hs_blk
          rw [if_pos (by omega), ← mo_mk_at M S hj]
          exact congrArg (mo_mk M S 0) (by omega)
      have eo : ∀ j, 50 ≤ j → j < 150 → mo_w (mo_w (va_up (mo_mk M S) 0 (hs_blk (mo_mk M S 0) 0 150 50)) 0 4 1) 1 0 0 0 j = M 0 j := by
        intro j z1 z2
        rw [e0, va_up_ne _ _ (by omega)]
        unfold hs_blk
        rw [if_neg (by omega)]
        exact mo_mk_o M S (by omega)
      have ek : ∀ k, k ≠ 0 → k ≠ 1 → mo_w (mo_w (va_up (mo_mk M S) 0 (hs_blk (mo_mk M S 0) 0 150 50)) 0 4 1) 1 0 0 k = mo_mk M S k := by
        intro k z0 z1
        rw [mo_w, va_up_ne _ _ z1, mo_w, va_up_ne _ _ z0, va_up_ne _ _ z0]
      have hI' : ag_I (mo_w (mo_w X.1 9 0 0) 1 0 0) (mo_w (mo_w (va_up (mo_mk M S) 0 (hs_blk (mo_mk M S 0) 0 150 50)) 0 4 1) 1 0 0) X.2.2.2 X.2.2.1 0 := by
        refine ⟨?_, ag_Z_c (ek 3 (by decide) (by decide)) (ek 4 (by decide) (by decide)) hZm, ⟨0, by omega, by rw [ek 9 (by decide) (by decide), h9m, va_up_self]; rfl⟩, ?_, ⟨rfl, by omega⟩, ⟨S.2.2.1, by rw [ek 12 (by decide) (by decide)]; rfl⟩, ag_V_c eb (ag_V_4 hV2), Or.inr ⟨by rw [← eb 4 (by omega), va_up_self], hNN c1⟩, fun i hi => absurd hi (by omega)⟩
        · intro k hk
          by_cases c : k = 1
          · subst c
            show va_up (X.1 1) 0 0 = va_up (mo_mk M S 1) 0 0
            rw [mk_ 1 (by decide) (by decide) (by decide) (by decide) (by decide) (by decide), hkk 1 (by decide) (by decide) (by decide), hE 1 hk]
          · rw [mo_w, va_up_ne _ _ c, ek k (by unfold ag_key at hk; omega) c]
            by_cases c9 : k = 9
            · subst c9
              show va_up (X.1 9) 0 0 = va_up (M 9) 0 0
              rw [hkk 9 (by decide) (by decide) (by decide), hE 9 hk]
            · rw [mo_w, va_up_ne _ _ c9, mk_ k (by unfold ag_key at hk; omega) c9 (by unfold ag_key at hk; omega) (by unfold ag_key at hk; omega) (by unfold ag_key at hk; omega) (by unfold ag_key at hk; omega), hkk k (by unfold ag_key at hk; omega) (by unfold ag_key at hk; omega) (by unfold ag_key at hk; omega), hE k hk]
        · unfold hs_tr
          rw [ek 18 (by decide) (by decide)]
          exact hRm
      obtain ⟨q1, q2⟩ := wl_new h (N := N) (C' := mo_w (mo_w X.1 9 0 0) 1 0 0) (M' := mo_w (mo_w (va_up (mo_mk M S) 0 (hs_blk (mo_mk M S 0) 0 150 50)) 0 4 1) 1 0 0) (g2 := X.2.1) b1 b2 b3 (fun F0 hh => mk_H_c hV2.1.1.2.1 eb (mk_H_4 1 hV2.1.1.2.1 hh)) eo (by rw [ek 2 (by decide) (by decide), mk_ 2 (by decide) (by decide) (by decide) (by decide) (by decide) (by decide)]) ⟨0, hI'⟩
      exact ⟨congrFun y3.symm 3, q1, fun b hb => List.mem_append_left _ hb, oa, _, _, _, _, _, _, _, _, rfl, q2⟩
    · exact absurd c1 (fun z => y2.2.1 (y2.1.symm.trans z))
  · rcases hRR with ⟨y1, y2, y3, y4⟩ | ⟨y1, y2⟩
    · exact absurd y2.1 c1
    · have y1 : y = 0 := y1
      have yf : X.1 25 0 = S.2.2.2.1 := y2.1
      have yq : X.1 26 0 = nI S.2.2.1 := y2.2.2
      rw [if_pos y1]
      have ek : ∀ k, k ≠ 10 → mo_w (mo_mk M S) 10 0 S.2.2.2.1 k = mo_mk M S k := fun k z => by rw [mo_w, va_up_ne _ _ z]
      have hst : ag_st M n nr (-1000100 - X.1 26 0, mo_w (mo_w X.1 9 0 0) 10 0 (X.1 25 0), M 0) (-1000100 - nI S.2.2.1, mo_w (mo_mk M S) 10 0 S.2.2.2.1) := by
        refine ag_mk (a := a) (by rw [yq]) (ag_I_of2 hI ?_ (fun j hj => by rw [ek 0 (by decide)]; exact mo_mk_o M S (by omega)) (by rw [ek 1 (by decide), mk_ 1 (by decide) (by decide) (by decide) (by decide) (by decide) (by decide)]) ⟨S.2.2.1, by rw [ek 12 (by decide)]; rfl⟩ ?_ ?_ ?_ (ag_Z_c (ek 3 (by decide)) (ek 4 (by decide)) hZm) ⟨0, by omega, by rw [ek 9 (by decide), h9m, va_up_self]; rfl⟩ ?_) (fun j hj => by rw [ek 0 (by decide)]; exact (mo_mk_o M S (by omega)).symm) (fun j z1 z2 => by rw [ek 0 (by decide)]; exact mo_mk_o M S (by omega)) (by rw [ek 2 (by decide), mk_ 2 (by decide) (by decide) (by decide) (by decide) (by decide) (by decide)])
        · intro k hk
          by_cases c : k = 10
          · subst c
            show va_up (X.1 10) 0 (X.1 25 0) = va_up (mo_mk M S 10) 0 S.2.2.2.1
            rw [yf, mk_ 10 (by decide) (by decide) (by decide) (by decide) (by decide) (by decide), hkk 10 (by decide) (by decide) (by decide), hE 10 hk]
          · rw [mo_w, va_up_ne _ _ c, ek k c]
            by_cases c9 : k = 9
            · subst c9
              show va_up (X.1 9) 0 0 = va_up (M 9) 0 0
              rw [hkk 9 (by decide) (by decide) (by decide), hE 9 hk]
            · rw [mo_w, va_up_ne _ _ c9, mk_ k (by unfold ag_key at hk; omega) c9 (by unfold ag_key at hk; omega) (by unfold ag_key at hk; omega) (by unfold ag_key at hk; omega) (by unfold ag_key at hk; omega), hkk k (by unfold ag_key at hk; omega) (by unfold ag_key at hk; omega) (by unfold ag_key at hk; omega), hE k hk]
        · exact hkk 21 (by decide) (by decide) (by decide)
        · exact hkk 22 (by decide) (by decide) (by decide)
        · exact hkk 23 (by decide) (by decide) (by decide)
        · unfold hs_tr
          rw [ek 18 (by decide)]
          exact hRm
      obtain ⟨q1, q2⟩ := wl_waste h (N := N) (g2 := X.2.1) b1 b2 ⟨_, _, hst⟩
      exact ⟨by rw [yq], q1, fun b hb => List.mem_append_left _ hb, oa, _, _, _, _, _, _, _, _, rfl, q2⟩
end WM
