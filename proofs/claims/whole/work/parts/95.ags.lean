/-! EVERY CALL, both ways, in one form -/
def ag_kp (M M' : Nat → Nat → Int32) : Prop := (∀ k, k ≠ 17 → k ≠ 18 → M' k = M k) ∧ (hs_tr M → hs_tr M')
theorem ag_kp_r (M : Nat → Nat → Int32) : ag_kp M M := ⟨fun _ _ _ => rfl, fun h => h⟩
theorem ag_kp_l {M M' : Nat → Nat → Int32} {b : Int32} (h : ag_kp M M') : ag_kp M (sp_leave M' b) := ⟨fun k a c => (sp_leave_ne M' b a c).trans (h.1 k a c), fun z => hs_tr_l (h.2 z)⟩
theorem ag_kp_0 (M : Nat → Nat → Int32) : ag_kp M (mo_w M 18 0 0) := ⟨fun k _ c => by rw [mo_w, va_up_ne _ _ c], fun _ => hs_tr_0 M⟩
theorem ag_kp_tm {M M' : Nat → Nat → Int32} (h : ag_kp M M') (s : Nat) : ag_kp M (sp_tmark M' s).2 := by
  unfold sp_tmark
  exact ag_kp_l (ag_kp_l h)
theorem ag_kp_mt {M M' : Nat → Nat → Int32} (h : ag_kp M M') (s : Nat) : ag_kp M (sp_markT M' s).2 := by
  unfold sp_markT
  split
  · exact ag_kp_tm (ag_kp_l h) s
  split
  · exact ag_kp_tm (ag_kp_l h) s
  · exact ag_kp_tm h s
theorem ag_kp_ts {M M' : Nat → Nat → Int32} (h : ag_kp M M') (s : Nat) : ag_kp M (sp_tsize M' s).2 := by
  unfold sp_tsize
  exact ag_kp_mt (ag_kp_l (ag_kp_l h)) s
theorem ag_kp_ns {M M' : Nat → Nat → Int32} (h : ag_kp M M') (s : Nat) : ag_kp M (sp_nsize M' s).2 := by
  unfold sp_nsize
  exact ag_kp_l (ag_kp_l h)
theorem ag_kp_sz {M M' : Nat → Nat → Int32} (h : ag_kp M M') (s : Nat) : ag_kp M (sp_size M' s).2 := by
  unfold sp_size
  split
  · dsimp only
    exact ag_kp_ts (ag_kp_l h) s
  split
  · exact ag_kp_ns h s
  split
  · dsimp only
    exact ag_kp_ns (ag_kp_l h) s
  · exact ag_kp_ts h s
theorem ag_kp_mk {M M' : Nat → Nat → Int32} (h : ag_kp M M') (s : Nat) : ag_kp M (sp_mark M' s).2 := by
  unfold sp_mark
  split
  · exact ag_kp_mt h s
  · dsimp only
    exact ag_kp_sz (ag_kp_l (ag_kp_l h)) s
theorem ag_kp_ask (M : Nat → Nat → Int32) (one what : Int32) : ag_kp M (sp_ask M one what).2 := by
  unfold sp_ask
  split
  · exact ag_kp_r M
  split
  · exact ag_kp_sz (ag_kp_0 M) _
  · exact ag_kp_mk (ag_kp_0 M) _
theorem ag_kp_mc {M M' : Nat → Nat → Int32} (h : ag_kp M M') (k : Int32) : ag_kp M (ms_mc M' k) := by
  unfold ms_mc
  refine ag_kp_l (ag_kp_l ?_)
  split
  · exact ag_kp_l h
  split
  · exact ag_kp_l h
  · exact h
theorem ag_kp_nc {M M' : Nat → Nat → Int32} (h : ag_kp M M') (k : Int32) : ag_kp M (ms_nc M' k) := by
  unfold ms_nc
  refine ag_kp_l (ag_kp_l ?_)
  split
  · exact ag_kp_l h
  · exact h
theorem ag_kp_cask (C : Nat → Nat → Int32) (g : Nat → Int32) (one what : Int32) : ag_kp C (cs_ask C g one what).2 := by
  unfold cs_ask
  split
  · exact ag_kp_r C
  split
  · show ag_kp C (ms_sc (mo_w C 18 0 0) _)
    unfold ms_sc
    split
    · exact ag_kp_mc (ag_kp_l (ag_kp_l (ag_kp_l (ag_kp_0 C)))) _
    split
    · exact ag_kp_nc (ag_kp_0 C) _
    · exact ag_kp_mc (ag_kp_l (ag_kp_l (ag_kp_0 C))) _
  · show ag_kp C (ms_kc (mo_w C 18 0 0) _)
    unfold ms_kc
    split
    · exact ag_kp_nc (ag_kp_l (ag_kp_l (ag_kp_0 C))) _
    · exact ag_kp_mc (ag_kp_0 C) _
section AGS
variable {C M : Nat → Nat → Int32} {n nr a : Nat}
theorem ag_s2 (hI : ag_I C M n nr a) {p q : sp_S} (h2 : ag_2 p q) (e0 : q.2 0 = M 0) (e1 : q.2 1 = M 1) (e2 : q.2 2 = M 2) (e12 : q.2 12 = M 12) (c1 : p.2 21 = C 21) (c2 : p.2 22 = C 22) (c3 : p.2 23 = C 23) (hZ : ag_Z q.2) (hT : ∃ t : Nat, t ≤ 100 ∧ q.2 9 0 = nI t) (hR : hs_tr q.2) : ag_st M n nr (p.1, p.2, M 0) q :=
  ⟨h2.1, ⟨a, ag_I_of hI h2.2 e0 (by rw [e1]) (by rw [e12]) c1 c2 c3 hZ hT hR⟩, fun j _ => by rw [e0], fun j _ _ => by rw [e0], e2⟩
theorem ag_Z_c {M M' : Nat → Nat → Int32} (e3 : M' 3 = M 3) (e4 : M' 4 = M 4) (h : ag_Z M) : ag_Z M' := by
  unfold ag_Z
  rw [e3, e4]
  exact h
theorem ag_s3 (hI : ag_I C M n nr a) {p q : sp_S} (h2 : ag_2 p q) (hM : ∀ k, k ≠ 5 → k ≠ 6 → k ≠ 7 → k ≠ 15 → k ≠ 16 → q.2 k = M k) (hC : ∀ k, 20 < k → p.2 k = C k) : ag_st M n nr (p.1, p.2, M 0) q := by
  obtain ⟨-, hZ, hT, hR, -⟩ := id hI
  refine ag_s2 hI h2 (hM 0 (by decide) (by decide) (by decide) (by decide) (by decide)) (hM 1 (by decide) (by decide) (by decide) (by decide) (by decide)) (hM 2 (by decide) (by decide) (by decide) (by decide) (by decide)) (hM 12 (by decide) (by decide) (by decide) (by decide) (by decide)) (hC 21 (by decide)) (hC 22 (by decide)) (hC 23 (by decide)) (ag_Z_c (hM 3 (by decide) (by decide) (by decide) (by decide) (by decide)) (hM 4 (by decide) (by decide) (by decide) (by decide) (by decide)) hZ) ?_ ?_
  · rw [hM 9 (by decide) (by decide) (by decide) (by decide) (by decide)]; exact hT
  · unfold hs_tr
    rw [hM 18 (by decide) (by decide) (by decide) (by decide) (by decide)]; exact hR
theorem ag_t_set (hI : ag_I C M n nr a) (row x v : Int32) : ag_st M n nr ((cs_set C row x v).1, (cs_set C row x v).2, M 0) (sp_set M row x v) := by
  refine ag_s3 hI (ag_set hI.1 hI.2.1 row x v) (fun k h5 h6 h7 h15 h16 => ?_) (fun k hk => ?_)
  · unfold sp_set sp_found sp_well
    repeat' split
    all_goals simp [mo_w, va_up, h5, h7]
  · unfold cs_set sp_found sp_well
    have h5 : k ≠ 5 := by omega
    have h7 : k ≠ 7 := by omega
    repeat' split
    all_goals simp [mo_w, va_up, h5, h7]
theorem ag_t_copy (hI : ag_I C M n nr a) (a0 x b y k0 : Int32) : ag_st M n nr ((cs_copy C a0 x b y k0).1, (cs_copy C a0 x b y k0).2, M 0) (sp_copy M a0 x b y k0) := by
  refine ag_s3 hI (ag_copy hI.1 hI.2.1 a0 x b y k0) (fun k h5 h6 h7 h15 h16 => ?_) (fun k hk => ?_)
  · unfold sp_copy sp_found sp_well
    repeat' split
    all_goals simp [mo_w, va_up, h5, h6, h7]
  · unfold cs_copy sp_found sp_well
    have h5 : k ≠ 5 := by omega
    have h7 : k ≠ 7 := by omega
    repeat' split
    all_goals simp [mo_w, va_up, h5, h7]
theorem ag_t_whoCut (hI : ag_I C M n nr a) (row x : Int32) : ag_st M n nr ((cs_whoCut C (M 0) n row x).1, (cs_whoCut C (M 0) n row x).2, M 0) (sp_whoCut M n nr row x) := by
  refine ag_s3 hI (ag_whoCut hI.1 hI.2.1 hI.2.2.2.2.2.2.1.1.2.1 (ag_I4 hI) row x) (fun k h5 h6 h7 h15 h16 => ?_) (fun k hk => ?_)
  · unfold sp_whoCut sp_found sp_well
    repeat' split
    all_goals simp [mo_w, va_up, h7]
  · unfold cs_whoCut sp_found sp_well
    have h7 : k ≠ 7 := by omega
    repeat' split
    all_goals simp [mo_w, va_up, h7]
theorem ag_t_reads (hI : ag_I C M n nr a) (a0 b row x what : Int32) : ag_st M n nr ((cs_reads C (M 0) n a0 b row x what).1, (cs_reads C (M 0) n a0 b row x what).2, M 0) (sp_reads M n a0 b row x what) := by
  refine ag_s3 hI (ag_reads hI.1 hI.2.1 a0 b row x what) (fun k h5 h6 h7 h15 h16 => ?_) (fun k hk => ?_)
  · unfold sp_reads sp_found sp_well
    by_cases c1 : hs_isSt (M 0) a0 = 0 ∨ hs_isSt (M 0) b = 0 ∨ a0 = b ∨ hs_row row = 0 ∨ hs_in what 0 1 = 0
    · rw [if_pos c1]
    rw [if_neg c1]
    by_cases c2 : 0 < hs_bars M row.toNatClampNeg x (M 0 3)
    · rw [if_pos c2]; exact va_up_ne _ _ h7
    · rw [if_neg c2]; exact va_up_ne _ _ h7
  · unfold cs_reads sp_found sp_well
    have h7 : k ≠ 7 := by omega
    by_cases c1 : hs_isSt (M 0) a0 = 0 ∨ hs_isSt (M 0) b = 0 ∨ a0 = b ∨ hs_row row = 0 ∨ hs_in what 0 1 = 0
    · rw [if_pos c1]
    rw [if_neg c1]
    by_cases c2 : ¬ mk_mis (C 3 row.toNatClampNeg) = 0
    · rw [if_pos c2]; exact va_up_ne _ _ h7
    rw [if_neg c2]
    by_cases c3 : mk_has (C 4 row.toNatClampNeg) x (M 0 3) = 0
    · rw [if_pos c3]; exact va_up_ne _ _ h7
    · rw [if_neg c3]; exact va_up_ne _ _ h7
theorem ag_t_as (hI : ag_I C M n nr a) (one kind : Int32) : ag_st M n nr ((cs_as C (M 0) one kind).1, (cs_as C (M 0) one kind).2, M 0) (sp_as M one kind) := by
  refine ag_s3 hI (ag_as hI.1 one kind) (fun k h5 h6 h7 h15 h16 => ?_) (fun k hk => ?_)
  · unfold sp_as sp_found sp_well
    repeat' split
    all_goals simp [mo_w, va_up, h7]
  · unfold cs_as sp_found sp_well
    have h7 : k ≠ 7 := by omega
    repeat' split
    all_goals simp [mo_w, va_up, h7]
theorem ag_t_unloaded (hI : ag_I C M n nr a) (k0 : Int32) : ag_st M n nr ((cs_unloaded C (M 0) n k0).1, (cs_unloaded C (M 0) n k0).2, M 0) (sp_unl M n k0) := by
  refine ag_s3 hI (ag_unloaded hI.1 hI.2.2.2.2.2.2.1.1.1 (ag_I4 hI) k0) (fun k h5 h6 h7 h15 h16 => ?_) (fun k hk => ?_)
  · unfold sp_unl
    by_cases c1 : M 0 4 = 0
    · rw [if_pos c1]
    rw [if_neg c1]
    by_cases c2 : hs_in k0 (-1) 5 = 0
    · rw [if_pos c2]
    rw [if_neg c2]
    show sp_lay M n k = M k
    unfold sp_lay
    rw [mo_w, va_up_ne _ _ h16, va_up_ne _ _ h15]
  · unfold cs_unloaded
    by_cases c1 : M 0 2 = 0
    · rw [if_pos c1]
    rw [if_neg c1]
    by_cases c2 : k0 < -1 ∨ ¬ k0 < 6
    · rw [if_pos c2]
    rw [if_neg c2]
    exact va_up_ne _ _ (by omega)
theorem ag_t_ask (hI : ag_I C M n nr a) (one what : Int32) : ag_st M n nr ((cs_ask C (M 0) one what).1, (cs_ask C (M 0) one what).2, M 0) (sp_ask M one what) := by
  obtain ⟨hE, hZ, hT, hR, -, -, hV, -⟩ := id hI
  obtain ⟨k1, k2⟩ := ag_kp_ask M one what
  obtain ⟨k3, -⟩ := ag_kp_cask C (M 0) one what
  exact ag_s2 hI (ag_ask hE hV.1.1 hV.1.2.1 one what) (k1 0 (by decide) (by decide)) (k1 1 (by decide) (by decide)) (k1 2 (by decide) (by decide)) (k1 12 (by decide) (by decide)) (k3 21 (by decide) (by decide)) (k3 22 (by decide) (by decide)) (k3 23 (by decide) (by decide)) (ag_Z_c (k1 3 (by decide) (by decide)) (k1 4 (by decide) (by decide)) hZ) (by rw [k1 9 (by decide) (by decide)]; exact hT) (k2 hR)
theorem ag_t_feed (hI : ag_I C M n nr a) (b : Int32) : ag_st M n nr ((cs_feed C b).1, (cs_feed C b).2, M 0) (sp_feed M b) := by
  obtain ⟨hE, hZ, ⟨t, ht1, ht⟩, hR, -, -, hV, -⟩ := id hI
  have k1 : ∀ k, k ≠ 8 → k ≠ 9 → (sp_feed M b).2 k = M k := by
    intro k h8 h9
    unfold sp_feed
    repeat' split
    all_goals simp [mo_w, va_up, h8, h9]
  have k3 : ∀ k, k ≠ 8 → k ≠ 9 → (cs_feed C b).2 k = C k := by
    intro k h8 h9
    unfold cs_feed
    repeat' split
    all_goals simp [mo_w, va_up, h8, h9]
  have hT : ∃ t : Nat, t ≤ 100 ∧ (sp_feed M b).2 9 0 = nI t := by
    unfold sp_feed
    by_cases c1 : hs_in b 0 255 = 0
    · rw [if_pos c1]; exact ⟨t, ht1, ht⟩
    rw [if_neg c1]
    by_cases c2 : M 9 0 = 100
    · rw [if_pos c2]; exact ⟨t, ht1, ht⟩
    rw [if_neg c2]
    have h100 : t ≠ 100 := fun z => c2 (by rw [ht, z]; rfl)
    refine ⟨t + 1, by omega, ?_⟩
    show mo_w (mo_w M 8 (M 9 0).toNatClampNeg b) 9 0 (M 9 0 + 1) 9 0 = _
    rw [mo_w, va_up_self, va_up_self, ht, nI_1]
  refine ag_s2 hI (ag_feed hE ht ht1 b) (k1 0 (by decide) (by decide)) (k1 1 (by decide) (by decide)) (k1 2 (by decide) (by decide)) (k1 12 (by decide) (by decide)) (k3 21 (by decide) (by decide)) (k3 22 (by decide) (by decide)) (k3 23 (by decide) (by decide)) (ag_Z_c (k1 3 (by decide) (by decide)) (k1 4 (by decide) (by decide)) hZ) hT ?_
  unfold hs_tr
  rw [k1 18 (by decide) (by decide)]; exact hR
theorem ag_t_drop (hI : ag_I C M n nr a) (row : Int32) : ag_st M n nr ((cs_drop C row).1, (cs_drop C row).2, M 0) (sp_drop M row) := by
  obtain ⟨hE, hZ, hT, hR, -, -, hV, -⟩ := id hI
  have k1 : ∀ k, k ≠ 3 → k ≠ 7 → (sp_drop M row).2 k = M k := by
    intro k h8 h9
    unfold sp_drop sp_found sp_well
    repeat' split
    all_goals simp [mo_w, va_up, h8, h9]
  have k3 : ∀ k, k ≠ 3 → k ≠ 7 → (cs_drop C row).2 k = C k := by
    intro k h8 h9
    unfold cs_drop sp_found sp_well
    repeat' split
    all_goals simp [mo_w, va_up, h8, h9]
  have hZ' : ag_Z (sp_drop M row).2 := by
    refine ⟨fun r hr => by rw [k1 4 (by decide) (by decide)]; exact hZ.1 r hr, fun r hr => ?_⟩
    unfold sp_drop
    by_cases c1 : hs_row row = 0
    · rw [if_pos c1]; exact hZ.2 r hr
    rw [if_neg c1]
    by_cases c2 : M 3 row.toNatClampNeg < 0
    · rw [if_pos c2]; exact hZ.2 r hr
    rw [if_neg c2]
    show va_up (M 3) row.toNatClampNeg (-1) r = -1 ∨ 0 ≤ va_up (M 3) row.toNatClampNeg (-1) r
    by_cases e : r = row.toNatClampNeg
    · rw [e, va_up_self]; exact Or.inl rfl
    · rw [va_up_ne _ _ e]; exact hZ.2 r hr
  refine ag_s2 hI (ag_drop hE hZ row) (k1 0 (by decide) (by decide)) (k1 1 (by decide) (by decide)) (k1 2 (by decide) (by decide)) (k1 12 (by decide) (by decide)) (k3 21 (by decide) (by decide)) (k3 22 (by decide) (by decide)) (k3 23 (by decide) (by decide)) hZ' (by rw [k1 9 (by decide) (by decide)]; exact hT) ?_
  unfold hs_tr
  rw [k1 18 (by decide) (by decide)]; exact hR
theorem ag_k_row (M : Nat → Nat → Int32) (row lane k0 : Int32) : ∀ k, k ≠ 3 → k ≠ 4 → k ≠ 5 → k ≠ 7 → (sp_row M row lane k0).2 k = M k := by
  intro k h3 h4 h5 h7
  unfold sp_row sp_found sp_well
  repeat' split
  all_goals simp [mo_w, va_up, h3, h4, h5, h7]
theorem ag_t_row (hI : ag_I C M n nr a) (row lane k0 : Int32) : ag_st M n nr ((sp_row C row lane k0).1, (sp_row C row lane k0).2, M 0) (sp_row M row lane k0) := by
  obtain ⟨hE, hZ, hT, hR, -, -, hV, -⟩ := id hI
  have k1 := ag_k_row M row lane k0
  have k3 := ag_k_row C row lane k0
  have hZ' : ag_Z (sp_row M row lane k0).2 := by
    unfold sp_row
    by_cases c1 : hs_row row = 0 ∨ hs_in lane 0 2 = 0 ∨ ¬ k0 ≤ 40
    · rw [if_pos c1]; exact hZ
    rw [if_neg c1]
    by_cases c2 : k0 < 0
    · rw [if_pos c2]; exact hZ
    rw [if_neg c2]
    obtain ⟨z, hz, ez⟩ := nI_of c2
    have hz40 : z ≤ 40 := by
      have h1 : k0 ≤ 40 := Classical.byContradiction (fun q => c1 (Or.inr (Or.inr q)))
      rw [ez, Int32.le_iff_toInt_le, nI_toInt (by omega)] at h1
      have : (40 : Int32).toInt = 40 := rfl
      omega
    have hl := hs_in_1 (fun q => c1 (Or.inr (Or.inl q)))
    have e3 : (sp_well (va_up (mo_w (mo_w M 3 row.toNatClampNeg lane) 4 row.toNatClampNeg k0) 5 (hs_zero (M 5) row.toNatClampNeg 40)) k0).2 3 = va_up (M 3) row.toNatClampNeg lane := rfl
    have e4 : (sp_well (va_up (mo_w (mo_w M 3 row.toNatClampNeg lane) 4 row.toNatClampNeg k0) 5 (hs_zero (M 5) row.toNatClampNeg 40)) k0).2 4 = va_up (M 4) row.toNatClampNeg k0 := rfl
    refine ⟨fun r hr => ?_, fun r hr => ?_⟩
    · rw [e4]
      by_cases e : r = row.toNatClampNeg
      · rw [e, va_up_self]; exact ⟨z, hz40, ez⟩
      · rw [va_up_ne _ _ e]; exact hZ.1 r hr
    · rw [e3]
      by_cases e : r = row.toNatClampNeg
      · rw [e, va_up_self]; exact Or.inr hl.1
      · rw [va_up_ne _ _ e]; exact hZ.2 r hr
  refine ag_s2 hI (ag_row hE row lane k0) (k1 0 (by decide) (by decide) (by decide) (by decide)) (k1 1 (by decide) (by decide) (by decide) (by decide)) (k1 2 (by decide) (by decide) (by decide) (by decide)) (k1 12 (by decide) (by decide) (by decide) (by decide)) (k3 21 (by decide) (by decide) (by decide) (by decide)) (k3 22 (by decide) (by decide) (by decide) (by decide)) (k3 23 (by decide) (by decide) (by decide) (by decide)) hZ' (by rw [k1 9 (by decide) (by decide) (by decide) (by decide)]; exact hT) ?_
  unfold hs_tr
  rw [k1 18 (by decide) (by decide) (by decide) (by decide)]; exact hR
theorem ag_t_q (hI : ag_I C M n nr a) {x y : Int32} (e : x = y) : ag_st M n nr (x, C, M 0) (y, M) := by
  subst e
  exact ag_st0 hI _
/-- wind: what is held may change, nothing else -/
theorem ag_t_wind (hI : ag_I C M n nr a) (hours seed rope : Int32) : ag_st M n nr (cq_wind (M 0) n nr hours seed rope, C, M 0) (sp_wind M n nr hours seed rope) := by
  obtain ⟨h1, h2⟩ := ag_wind (n := n) hI.2.2.2.2.2.2.1.1.2.1 (ag_I4 hI) hours seed rope
  have e : sp_wind M n nr hours seed rope = ((sp_wind M n nr hours seed rope).1, (sp_wind M n nr hours seed rope).2) := rfl
  rw [e, ← h1]
  rcases h2 with z | z
  · rw [z]; exact ag_st0 hI _
  · rw [z]
    obtain ⟨hE, hZ, hT, hR, -⟩ := id hI
    refine ag_mk (a := a) rfl (ag_I_of hI ?_ rfl rfl rfl rfl rfl rfl hZ hT hR) (fun _ _ => rfl) (fun _ _ _ => rfl) rfl
    exact ag_E_R hE (by unfold ag_key; omega) _
end AGS
