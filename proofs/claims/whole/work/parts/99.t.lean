/-! EVERY CALL, both ways, in one form -/
def ag_kp (M M' : Nat → Nat → Int32) : Prop := (∀ k, k ≠ 17 → k ≠ 18 → M' k = M k) ∧ (hs_tr M → hs_tr M')
theorem ag_kp_r (M : Nat → Nat → Int32) : ag_kp M M := ⟨fun _ _ _ => rfl, fun h => h⟩
theorem ag_kp_l {M M' : Nat → Nat → Int32} {b : Int32} (h : ag_kp M M') : ag_kp M (sp_leave M' b) := ⟨fun k a c => (sp_leave_ne M' b a c).trans (h.1 k a c), fun z => hs_tr_l (h.2 z)⟩
theorem ag_kp_0 (M : Nat → Nat → Int32) : ag_kp M (mo_w M 18 0 0) := ⟨fun k _ c => by rw [mo_w, va_up_ne _ _ c], fun _ => hs_tr_0 M⟩
theorem ag_kp_tm {M M' : Nat → Nat → Int32} (h : ag_kp M M') (s : Nat) : ag_kp M (sp_tmark M' s).2 := by
  unfold sp_tmark
  exact ag_kp_l (ag_kp_l h)
theorem ag_kp_mt {M M' : Nat → Nat → Int32} (h : ag_kp M M') (s : Nat) : ag_kp M (sp_markT M' s).2 := by
  unfold sp_markT
  split
  · exact ag_kp_tm (ag_kp_l h) s
  split
  · exact ag_kp_tm (ag_kp_l h) s
  · exact ag_kp_tm h s
theorem ag_kp_ts {M M' : Nat → Nat → Int32} (h : ag_kp M M') (s : Nat) : ag_kp M (sp_tsize M' s).2 := by
  unfold sp_tsize
  exact ag_kp_mt (ag_kp_l (ag_kp_l h)) s
theorem ag_kp_ns {M M' : Nat → Nat → Int32} (h : ag_kp M M') (s : Nat) : ag_kp M (sp_nsize M' s).2 := by
  unfold sp_nsize
  exact ag_kp_l (ag_kp_l h)
theorem ag_kp_sz {M M' : Nat → Nat → Int32} (h : ag_kp M M') (s : Nat) : ag_kp M (sp_size M' s).2 := by
  unfold sp_size
  split
  · dsimp only
    exact ag_kp_ts (ag_kp_l h) s
  split
  · exact ag_kp_ns h s
  split
  · dsimp only
    exact ag_kp_ns (ag_kp_l h) s
  · exact ag_kp_ts h s
theorem ag_kp_mk {M M' : Nat → Nat → Int32} (h : ag_kp M M') (s : Nat) : ag_kp M (sp_mark M' s).2 := by
  unfold sp_mark
  split
  · exact ag_kp_mt h s
  · dsimp only
    exact ag_kp_sz (ag_kp_l (ag_kp_l h)) s
theorem ag_kp_ask (M : Nat → Nat → Int32) (one what : Int32) : ag_kp M (sp_ask M one what).2 := by
  unfold sp_ask
  split
  · exact ag_kp_r M
  split
  · exact ag_kp_sz (ag_kp_0 M) _
  · exact ag_kp_mk (ag_kp_0 M) _
theorem ag_kp_mc {M M' : Nat → Nat → Int32} (h : ag_kp M M') (k : Int32) : ag_kp M (ms_mc M' k) := by
  unfold ms_mc
  refine ag_kp_l (ag_kp_l ?_)
  split
  · exact ag_kp_l h
  split
  · exact ag_kp_l h
  · exact h
theorem ag_kp_nc {M M' : Nat → Nat → Int32} (h : ag_kp M M') (k : Int32) : ag_kp M (ms_nc M' k) := by
  unfold ms_nc
  refine ag_kp_l (ag_kp_l ?_)
  split
  · exact ag_kp_l h
  · exact h
theorem ag_kp_cask (C : Nat → Nat → Int32) (g : Nat → Int32) (one what : Int32) : ag_kp C (cs_ask C g one what).2 := by
  unfold cs_ask
  split
  · exact ag_kp_r C
  split
  · show ag_kp C (ms_sc (mo_w C 18 0 0) _)
    unfold ms_sc
    split
    · exact ag_kp_mc (ag_kp_l (ag_kp_l (ag_kp_l (ag_kp_0 C)))) _
    split
    · exact ag_kp_nc (ag_kp_0 C) _
    · exact ag_kp_mc (ag_kp_l (ag_kp_l (ag_kp_0 C))) _
  · show ag_kp C (ms_kc (mo_w C 18 0 0) _)
    unfold ms_kc
    split
    · exact ag_kp_nc (ag_kp_l (ag_kp_l (ag_kp_0 C))) _
    · exact ag_kp_mc (ag_kp_0 C) _
section AGS
variable {C M : Nat → Nat → Int32} {n nr a : Nat}
theorem ag_s2 (hI : ag_I C M n nr a) {p q : sp_S} (h2 : ag_2 p q) (e0 : q.2 0 = M 0) (e1 : q.2 1 = M 1) (e2 : q.2 2 = M 2) (e12 : q.2 12 = M 12) (c1 : p.2 21 = C 21) (c2 : p.2 22 = C 22) (c3 : p.2 23 = C 23) (hZ : ag_Z q.2) (hT : ∃ t : Nat, t ≤ 100 ∧ q.2 9 0 = nI t) (hR : hs_tr q.2) : ag_st M n nr (p.1, p.2, M 0) q :=
  ⟨h2.1, ⟨a, ag_I_of hI h2.2 e0 (by rw [e1]) (by rw [e12]) c1 c2 c3 hZ hT hR⟩, fun j _ => by rw [e0], fun j _ _ => by rw [e0], e2⟩
theorem ag_Z_c {M M' : Nat → Nat → Int32} (e3 : M' 3 = M 3) (e4 : M' 4 = M 4) (h : ag_Z M) : ag_Z M' := by
  unfold ag_Z
  rw [e3, e4]
  exact h
theorem ag_s3 (hI : ag_I C M n nr a) {p q : sp_S} (h2 : ag_2 p q) (hM : ∀ k, k ≠ 5 → k ≠ 6 → k ≠ 7 → k ≠ 15 → k ≠ 16 → q.2 k = M k) (hC : ∀ k, 20 < k → p.2 k = C k) : ag_st M n nr (p.1, p.2, M 0) q := by
  obtain ⟨-, hZ, hT, hR, -⟩ := id hI
  refine ag_s2 hI h2 (hM 0 (by decide) (by decide) (by decide) (by decide) (by decide)) (hM 1 (by decide) (by decide) (by decide) (by decide) (by decide)) (hM 2 (by decide) (by decide) (by decide) (by decide) (by decide)) (hM 12 (by decide) (by decide) (by decide) (by decide) (by decide)) (hC 21 (by decide)) (hC 22 (by decide)) (hC 23 (by decide)) (ag_Z_c (hM 3 (by decide) (by decide) (by decide) (by decide) (by decide)) (hM 4 (by decide) (by decide) (by decide) (by decide) (by decide)) hZ) ?_ ?_
  · rw [hM 9 (by decide) (by decide) (by decide) (by decide) (by decide)]; exact hT
  · unfold hs_tr
    rw [hM 18 (by decide) (by decide) (by decide) (by decide) (by decide)]; exact hR
theorem ag_t_set (hI : ag_I C M n nr a) (row x v : Int32) : ag_st M n nr ((cs_set C row x v).1, (cs_set C row x v).2, M 0) (sp_set M row x v) := by
  refine ag_s3 hI (ag_set hI.1 hI.2.1 row x v) (fun k h5 h6 h7 h15 h16 => ?_) (fun k hk => ?_)
  · unfold sp_set sp_found sp_well
    repeat' split
    all_goals simp [mo_w, va_up, h5, h7]
  · unfold cs_set sp_found sp_well
    have h5 : k ≠ 5 := by omega
    have h7 : k ≠ 7 := by omega
    repeat' split
    all_goals simp [mo_w, va_up, h5, h7]
theorem ag_t_copy (hI : ag_I C M n nr a) (a0 x b y k0 : Int32) : ag_st M n nr ((cs_copy C a0 x b y k0).1, (cs_copy C a0 x b y k0).2, M 0) (sp_copy M a0 x b y k0) := by
  refine ag_s3 hI (ag_copy hI.1 hI.2.1 a0 x b y k0) (fun k h5 h6 h7 h15 h16 => ?_) (fun k hk => ?_)
  · unfold sp_copy sp_found sp_well
    repeat' split
    all_goals simp [mo_w, va_up, h5, h6, h7]
  · unfold cs_copy sp_found sp_well
    have h5 : k ≠ 5 := by omega
    have h7 : k ≠ 7 := by omega
    repeat' split
    all_goals simp [mo_w, va_up, h5, h7]
theorem ag_t_whoCut (hI : ag_I C M n nr a) (row x : Int32) : ag_st M n nr ((cs_whoCut C (M 0) n row x).1, (cs_whoCut C (M 0) n row x).2, M 0) (sp_whoCut M n nr row x) := by
  refine ag_s3 hI (ag_whoCut hI.1 hI.2.1 hI.2.2.2.2.2.2.1.1.2.1 (ag_I4 hI) row x) (fun k h5 h6 h7 h15 h16 => ?_) (fun k hk => ?_)
  · unfold sp_whoCut sp_found sp_well
    repeat' split
    all_goals simp [mo_w, va_up, h7]
  · unfold cs_whoCut sp_found sp_well
    have h7 : k ≠ 7 := by omega
    repeat' split
    all_goals simp [mo_w, va_up, h7]
theorem ag_t_reads (hI : ag_I C M n nr a) (a0 b row x what : Int32) : ag_st M n nr ((cs_reads C (M 0) n a0 b row x what).1, (cs_reads C (M 0) n a0 b row x what).2, M 0) (sp_reads M n a0 b row x what) := by
  refine ag_s3 hI (ag_reads hI.1 hI.2.1 a0 b row x what) (fun k h5 h6 h7 h15 h16 => ?_) (fun k hk => ?_)
  · unfold sp_reads sp_found sp_well
    by_cases c1 : hs_isSt (M 0) a0 = 0 ∨ hs_isSt (M 0) b = 0 ∨ a0 = b ∨ hs_row row = 0 ∨ hs_in what 0 1 = 0
    · rw [if_pos c1]
    rw [if_neg c1]
    by_cases c2 : 0 < hs_bars M row.toNatClampNeg x (M 0 3)
    · rw [if_pos c2]; exact va_up_ne _ _ h7
    · rw [if_neg c2]; exact va_up_ne _ _ h7
  · unfold cs_reads sp_found sp_well
    have h7 : k ≠ 7 := by omega
    by_cases c1 : hs_isSt (M 0) a0 = 0 ∨ hs_isSt (M 0) b = 0 ∨ a0 = b ∨ hs_row row = 0 ∨ hs_in what 0 1 = 0
    · rw [if_pos c1]
    rw [if_neg c1]
    by_cases c2 : ¬ mk_mis (C 3 row.toNatClampNeg) = 0
    · rw [if_pos c2]; exact va_up_ne _ _ h7
    rw [if_neg c2]
    by_cases c3 : mk_has (C 4 row.toNatClampNeg) x (M 0 3) = 0
    · rw [if_pos c3]; exact va_up_ne _ _ h7
    · rw [if_neg c3]; exact va_up_ne _ _ h7
theorem ag_t_as (hI : ag_I C M n nr a) (one kind : Int32) : ag_st M n nr ((cs_as C (M 0) one kind).1, (cs_as C (M 0) one kind).2, M 0) (sp_as M one kind) := by
  refine ag_s3 hI (ag_as hI.1 one kind) (fun k h5 h6 h7 h15 h16 => ?_) (fun k hk => ?_)
  · unfold sp_as sp_found sp_well
    repeat' split
    all_goals simp [mo_w, va_up, h7]
  · unfold cs_as sp_found sp_well
    have h7 : k ≠ 7 := by omega
    repeat' split
    all_goals simp [mo_w, va_up, h7]
theorem ag_t_unloaded (hI : ag_I C M n nr a) (k0 : Int32) : ag_st M n nr ((cs_unloaded C (M 0) n k0).1, (cs_unloaded C (M 0) n k0).2, M 0) (sp_unl M n k0) := by
  refine ag_s3 hI (ag_unloaded hI.1 hI.2.2.2.2.2.2.1.1.1 (ag_I4 hI) k0) (fun k h5 h6 h7 h15 h16 => ?_) (fun k hk => ?_)
  · unfold sp_unl
    by_cases c1 : M 0 4 = 0
    · rw [if_pos c1]
    rw [if_neg c1]
    by_cases c2 : hs_in k0 (-1) 5 = 0
    · rw [if_pos c2]
    rw [if_neg c2]
    show sp_lay M n k = M k
    unfold sp_lay
    rw [mo_w, va_up_ne _ _ h16, va_up_ne _ _ h15]
  · unfold cs_unloaded
    by_cases c1 : M 0 2 = 0
    · rw [if_pos c1]
    rw [if_neg c1]
    by_cases c2 : k0 < -1 ∨ ¬ k0 < 6
    · rw [if_pos c2]
    rw [if_neg c2]
    exact va_up_ne _ _ (by omega)
theorem ag_t_ask (hI : ag_I C M n nr a) (one what : Int32) : ag_st M n nr ((cs_ask C (M 0) one what).1, (cs_ask C (M 0) one what).2, M 0) (sp_ask M one what) := by
  obtain ⟨hE, hZ, hT, hR, -, -, hV, -⟩ := id hI
  obtain ⟨k1, k2⟩ := ag_kp_ask M one what
  obtain ⟨k3, -⟩ := ag_kp_cask C (M 0) one what
  exact ag_s2 hI (ag_ask hE hV.1.1 hV.1.2.1 one what) (k1 0 (by decide) (by decide)) (k1 1 (by decide) (by decide)) (k1 2 (by decide) (by decide)) (k1 12 (by decide) (by decide)) (k3 21 (by decide) (by decide)) (k3 22 (by decide) (by decide)) (k3 23 (by decide) (by decide)) (ag_Z_c (k1 3 (by decide) (by decide)) (k1 4 (by decide) (by decide)) hZ) (by rw [k1 9 (by decide) (by decide)]; exact hT) (k2 hR)
theorem ag_t_feed (hI : ag_I C M n nr a) (b : Int32) : ag_st M n nr ((cs_feed C b).1, (cs_feed C b).2, M 0) (sp_feed M b) := by
  obtain ⟨hE, hZ, ⟨t, ht1, ht⟩, hR, -, -, hV, -⟩ := id hI
  have k1 : ∀ k, k ≠ 8 → k ≠ 9 → (sp_feed M b).2 k = M k := by
    intro k h8 h9
    unfold sp_feed
    repeat' split
    all_goals simp [mo_w, va_up, h8, h9]
  have k3 : ∀ k, k ≠ 8 → k ≠ 9 → (cs_feed C b).2 k = C k := by
    intro k h8 h9
    unfold cs_feed
    repeat' split
    all_goals simp [mo_w, va_up, h8, h9]
  have hT : ∃ t : Nat, t ≤ 100 ∧ (sp_feed M b).2 9 0 = nI t := by
    unfold sp_feed
    by_cases c1 : hs_in b 0 255 = 0
    · rw [if_pos c1]; exact ⟨t, ht1, ht⟩
    rw [if_neg c1]
    by_cases c2 : M 9 0 = 100
    · rw [if_pos c2]; exact ⟨t, ht1, ht⟩
    rw [if_neg c2]
    have h100 : t ≠ 100 := fun z => c2 (by rw [ht, z]; rfl)
    refine ⟨t + 1, by omega, ?_⟩
    show mo_w (mo_w M 8 (M 9 0).toNatClampNeg b) 9 0 (M 9 0 + 1) 9 0 = _
    rw [mo_w, va_up_self, va_up_self, ht, nI_1]
  refine ag_s2 hI (ag_feed hE ht ht1 b) (k1 0 (by decide) (by decide)) (k1 1 (by decide) (by decide)) (k1 2 (by decide) (by decide)) (k1 12 (by decide) (by decide)) (k3 21 (by decide) (by decide)) (k3 22 (by decide) (by decide)) (k3 23 (by decide) (by decide)) (ag_Z_c (k1 3 (by decide) (by decide)) (k1 4 (by decide) (by decide)) hZ) hT ?_
  unfold hs_tr
  rw [k1 18 (by decide) (by decide)]; exact hR
theorem ag_t_drop (hI : ag_I C M n nr a) (row : Int32) : ag_st M n nr ((cs_drop C row).1, (cs_drop C row).2, M 0) (sp_drop M row) := by
  obtain ⟨hE, hZ, hT, hR, -, -, hV, -⟩ := id hI
  have k1 : ∀ k, k ≠ 3 → k ≠ 7 → (sp_drop M row).2 k = M k := by
    intro k h8 h9
    unfold sp_drop sp_found sp_well
    repeat' split
    all_goals simp [mo_w, va_up, h8, h9]
  have k3 : ∀ k, k ≠ 3 → k ≠ 7 → (cs_drop C row).2 k = C k := by
    intro k h8 h9
    unfold cs_drop sp_found sp_well
    repeat' split
    all_goals simp [mo_w, va_up, h8, h9]
  have hZ' : ag_Z (sp_drop M row).2 := by
    refine ⟨fun r hr => by rw [k1 4 (by decide) (by decide)]; exact hZ.1 r hr, fun r hr => ?_⟩
    unfold sp_drop
    by_cases c1 : hs_row row = 0
    · rw [if_pos c1]; exact hZ.2 r hr
    rw [if_neg c1]
    by_cases c2 : M 3 row.toNatClampNeg < 0
    · rw [if_pos c2]; exact hZ.2 r hr
    rw [if_neg c2]
    show va_up (M 3) row.toNatClampNeg (-1) r = -1 ∨ 0 ≤ va_up (M 3) row.toNatClampNeg (-1) r
    by_cases e : r = row.toNatClampNeg
    · rw [e, va_up_self]; exact Or.inl rfl
    · rw [va_up_ne _ _ e]; exact hZ.2 r hr
  refine ag_s2 hI (ag_drop hE hZ row) (k1 0 (by decide) (by decide)) (k1 1 (by decide) (by decide)) (k1 2 (by decide) (by decide)) (k1 12 (by decide) (by decide)) (k3 21 (by decide) (by decide)) (k3 22 (by decide) (by decide)) (k3 23 (by decide) (by decide)) hZ' (by rw [k1 9 (by decide) (by decide)]; exact hT) ?_
  unfold hs_tr
  rw [k1 18 (by decide) (by decide)]; exact hR
theorem ag_k_row (M : Nat → Nat → Int32) (row lane k0 : Int32) : ∀ k, k ≠ 3 → k ≠ 4 → k ≠ 5 → k ≠ 7 → (sp_row M row lane k0).2 k = M k := by
  intro k h3 h4 h5 h7
  unfold sp_row sp_found sp_well
  repeat' split
  all_goals simp [mo_w, va_up, h3, h4, h5, h7]
theorem ag_t_row (hI : ag_I C M n nr a) (row lane k0 : Int32) : ag_st M n nr ((sp_row C row lane k0).1, (sp_row C row lane k0).2, M 0) (sp_row M row lane k0) := by
  obtain ⟨hE, hZ, hT, hR, -, -, hV, -⟩ := id hI
  have k1 := ag_k_row M row lane k0
  have k3 := ag_k_row C row lane k0
  have hZ' : ag_Z (sp_row M row lane k0).2 := by
    unfold sp_row
    by_cases c1 : hs_row row = 0 ∨ hs_in lane 0 2 = 0 ∨ ¬ k0 ≤ 40
    · rw [if_pos c1]; exact hZ
    rw [if_neg c1]
    by_cases c2 : k0 < 0
    · rw [if_pos c2]; exact hZ
    rw [if_neg c2]
    obtain ⟨z, hz, ez⟩ := nI_of c2
    have hz40 : z ≤ 40 := by
      have h1 : k0 ≤ 40 := Classical.byContradiction (fun q => c1 (Or.inr (Or.inr q)))
      rw [ez, Int32.le_iff_toInt_le, nI_toInt (by omega)] at h1
      have : (40 : Int32).toInt = 40 := rfl
      omega
    have hl := hs_in_1 (fun q => c1 (Or.inr (Or.inl q)))
    have e3 : (sp_well (va_up (mo_w (mo_w M 3 row.toNatClampNeg lane) 4 row.toNatClampNeg k0) 5 (hs_zero (M 5) row.toNatClampNeg 40)) k0).2 3 = va_up (M 3) row.toNatClampNeg lane := rfl
    have e4 : (sp_well (va_up (mo_w (mo_w M 3 row.toNatClampNeg lane) 4 row.toNatClampNeg k0) 5 (hs_zero (M 5) row.toNatClampNeg 40)) k0).2 4 = va_up (M 4) row.toNatClampNeg k0 := rfl
    refine ⟨fun r hr => ?_, fun r hr => ?_⟩
    · rw [e4]
      by_cases e : r = row.toNatClampNeg
      · rw [e, va_up_self]; exact ⟨z, hz40, ez⟩
      · rw [va_up_ne _ _ e]; exact hZ.1 r hr
    · rw [e3]
      by_cases e : r = row.toNatClampNeg
      · rw [e, va_up_self]; exact Or.inr hl.1
      · rw [va_up_ne _ _ e]; exact hZ.2 r hr
  refine ag_s2 hI (ag_row hE row lane k0) (k1 0 (by decide) (by decide) (by decide) (by decide)) (k1 1 (by decide) (by decide) (by decide) (by decide)) (k1 2 (by decide) (by decide) (by decide) (by decide)) (k1 12 (by decide) (by decide) (by decide) (by decide)) (k3 21 (by decide) (by decide) (by decide) (by decide)) (k3 22 (by decide) (by decide) (by decide) (by decide)) (k3 23 (by decide) (by decide) (by decide) (by decide)) hZ' (by rw [k1 9 (by decide) (by decide) (by decide) (by decide)]; exact hT) ?_
  unfold hs_tr
  rw [k1 18 (by decide) (by decide) (by decide) (by decide)]; exact hR
theorem ag_t_q (hI : ag_I C M n nr a) {x y : Int32} (e : x = y) : ag_st M n nr (x, C, M 0) (y, M) := by
  subst e
  exact ag_st0 hI _
/-- wind: what is held may change, nothing else -/
theorem ag_t_wind (hI : ag_I C M n nr a) (hours seed rope : Int32) : ag_st M n nr (cq_wind (M 0) n nr hours seed rope, C, M 0) (sp_wind M n nr hours seed rope) := by
  obtain ⟨h1, h2⟩ := ag_wind (n := n) hI.2.2.2.2.2.2.1.1.2.1 (ag_I4 hI) hours seed rope
  have e : sp_wind M n nr hours seed rope = ((sp_wind M n nr hours seed rope).1, (sp_wind M n nr hours seed rope).2) := rfl
  rw [e, ← h1]
  rcases h2 with z | z
  · rw [z]; exact ag_st0 hI _
  · rw [z]
    obtain ⟨hE, hZ, hT, hR, -⟩ := id hI
    refine ag_mk (a := a) rfl (ag_I_of hI ?_ rfl rfl rfl rfl rfl rfl hZ hT hR) (fun _ _ => rfl) (fun _ _ _ => rfl) rfl
    exact ag_E_R hE (by unfold ag_key; omega) _
end AGS
/-! WHAT IS READ: nothing but the tape's own numbers changes; a market read without a fault is a good one -/
def cr_kk (C C' : Nat → Nat → Int32) : Prop := ∀ k, k ≠ 24 → k ≠ 25 → k ≠ 26 → C' k = C k
theorem cr_kk_r (C : Nat → Nat → Int32) : cr_kk C C := fun _ _ _ _ => rfl
theorem cr_kk_w {C C' : Nat → Nat → Int32} {j k : Nat} {v : Int32} (h : cr_kk C C') (hk : k = 24 ∨ k = 25 ∨ k = 26) : cr_kk C (mo_w C' k j v) := by
  intro i h1 h2 h3
  rw [mo_w, va_up_ne _ _ (by omega)]
  exact h i h1 h2 h3
theorem cr_kk_t {C C' : Nat → Nat → Int32} {a b : Int32} (h : cr_kk C C') : cr_kk C (mk_tf C' a b) := by
  unfold mk_tf
  split
  · exact cr_kk_w (cr_kk_w h (Or.inr (Or.inl rfl))) (Or.inr (Or.inr rfl))
  · exact h
theorem cr_kk_p {C C' : Nat → Nat → Int32} {a : Int32} (h : cr_kk C C') : cr_kk C (mk_pass C' a) := by
  unfold mk_pass
  split
  · exact cr_kk_w h (Or.inl rfl)
  · exact cr_kk_t h
theorem cr_kk_1 {C C' : Nat → Nat → Int32} {a b : Int32} (h : cr_kk C C') : cr_kk C (mk_n1 C' a b) := by
  unfold mk_n1
  split
  · exact cr_kk_t h
  split
  · exact cr_kk_t h
  · exact h
theorem cr_kk_n {C C' : Nat → Nat → Int32} {a b : Int32} (h : cr_kk C C') : cr_kk C (mk_number C' a b).2 := by
  unfold mk_number
  split
  · exact cr_kk_w (cr_kk_1 h) (Or.inl rfl)
  · exact cr_kk_1 h
theorem cr_kk_law {C C' : Nat → Nat → Int32} (h : cr_kk C C') : cr_kk C (cr_law C') := by
  have h1 : cr_kk C (cr_l1 C') := cr_kk_p h
  have h2 : cr_kk C (cr_l2 C').2 := by unfold cr_l2; exact cr_kk_n h1
  have h3 : cr_kk C (cr_l3 C') := cr_kk_p h2
  have h4 : cr_kk C (cr_l4 C').2 := by unfold cr_l4; exact cr_kk_n h3
  exact cr_kk_p h4
theorem cr_kk_rope {C C' : Nat → Nat → Int32} {g : Nat → Int32} (h : cr_kk C C') : cr_kk C (cr_rope C' g) := by
  have h0 : cr_kk C (cr_r0 C' g) := by
    unfold cr_r0
    split
    · exact cr_kk_t h
    · exact h
  have h1 : cr_kk C (cr_r1 C' g) := cr_kk_p h0
  have h2 : cr_kk C (cr_r2 C' g).2 := by unfold cr_r2; exact cr_kk_n h1
  exact cr_kk_p h2
theorem cr_kk_s {C C' : Nat → Nat → Int32} {g : Nat → Int32} {n : Nat} (h : cr_kk C C') : cr_kk C (cr_s C' g n) := by
  have h0 : cr_kk C (cr_a C' g) := by
    unfold cr_a
    split
    · exact cr_kk_t h
    split
    · exact cr_kk_t h
    · exact h
  have h1 : cr_kk C (cr_b C' g) := cr_kk_w h0 (Or.inl rfl)
  have h2 : cr_kk C (cr_c C' g).2 := by unfold cr_c; exact cr_kk_n h1
  have h3 : cr_kk C (cr_d C' g) := cr_kk_p h2
  have h4 : cr_kk C (cr_e C' g).2 := by unfold cr_e; exact cr_kk_n h3
  have h5 : cr_kk C (cr_f C' g n) := by
    unfold cr_f
    split
    · exact h4
    · exact cr_kk_t h4
  have h6 : cr_kk C (cr_g C' g n) := cr_kk_p h5
  have h7 : cr_kk C (cr_h C' g n).2 := by unfold cr_h; exact cr_kk_n h6
  exact cr_kk_p h7
theorem cr_kk_rs {C : Nat → Nat → Int32} {X : cr_R} (h : cr_kk C X.1) : ∀ k, cr_kk C (cr_rs X k).1 := by
  intro k
  induction k with
  | zero => rw [cr_rs_0]; exact h
  | succ k ih =>
    by_cases c : (cr_rs X k).1 25 0 = 0 ∧ (k = 0 ∨ mk_by (cr_rs X k).1 ((cr_rs X k).1 24 0) = 108)
    · rw [ag_rs_y c, cr_rp_1]; exact cr_kk_rope ih
    · rw [ag_rs_n c]; exact ih
theorem cr_kk_ss {C : Nat → Nat → Int32} {X : cr_R} (h : cr_kk C X.1) : ∀ k, cr_kk C (cr_ss X k).1 := by
  intro k
  induction k with
  | zero => rw [cr_ss_0]; exact h
  | succ k ih =>
    by_cases c : (cr_ss X k).1 25 0 = 0 ∧ (cr_ss X k).1 24 0 < (cr_ss X k).1 9 0
    · rw [ag_ss_y c, cr_st_1]; exact cr_kk_s ih
    · rw [ag_ss_n c]; exact ih
theorem cr_kk_all (C : Nat → Nat → Int32) : cr_kk C (cr_all C).1 := by
  have h0 : cr_kk C (cr_0 C).1 := by
    rw [cr_0_1]
    exact cr_kk_law (cr_kk_w (cr_kk_w (cr_kk_r C) (Or.inl rfl)) (Or.inr (Or.inl rfl)))
  have h1 : cr_kk C (cr_1 C).1 := by
    rw [cr_1_e]
    exact cr_kk_rs h0 4
  unfold cr_all
  exact cr_kk_ss h1 7
theorem cr_nb {C : Nat → Nat → Int32} {a b : Int32} (h : (mk_number C a b).2 25 0 = 0) : a ≤ (mk_number C a b).1 ∧ (mk_number C a b).1 ≤ b := by
  unfold mk_number at h ⊢
  by_cases c : mk_n1 C a b 25 0 = 0
  · rw [if_pos c]
    show a ≤ mk_nv C (C 24 0) (mk_fk C (C 24 0)) ∧ mk_nv C (C 24 0) (mk_fk C (C 24 0)) ≤ b
    unfold mk_n1 at c
    by_cases c1 : mk_fk C (C 24 0) < 1 ∨ 2 < mk_fk C (C 24 0)
    · rw [if_pos c1] at c; exact absurd c (cr_tf1 (by decide))
    · rw [if_neg c1] at c
      by_cases c2 : mk_nv C (C 24 0) (mk_fk C (C 24 0)) < a ∨ b < mk_nv C (C 24 0) (mk_fk C (C 24 0))
      · rw [if_pos c2] at c; exact absurd c (cr_tf1 (by decide))
      · exact ⟨Int32.not_lt.mp (fun z => c2 (Or.inl z)), Int32.not_lt.mp (fun z => c2 (Or.inr z))⟩
  · rw [if_neg c] at h
    exact absurd h c
theorem ag_rl {x : Int32} {a b : Nat} (h1 : nI a ≤ x) (h2 : x ≤ nI b) (ha : a < 2147483648) (hb : b < 2147483648) : ag_r x a b := by
  rw [Int32.le_iff_toInt_le, nI_toInt (by omega)] at h1 h2
  exact ⟨h1, h2⟩
def cr_V (g : Nat → Int32) (nr n : Nat) : Prop := mk_sr g n ∧ mk_t g nr ∧ ag_r (g 1) 0 20 ∧ (∀ i, i < n → ag_r (g (14 + i)) 0 2 ∧ ag_r (g (20 + i)) 1 8 ∧ ag_r (g (26 + i)) 0 20 ∧ g (32 + i) = 0 ∧ g (38 + i) = 0) ∧ ag_U g n
theorem ag_r0 {x : Int32} (h : x = 0) {b : Int} (hb : 0 ≤ b) : ag_r x 0 b := by
  rw [h]
  exact ⟨Int.le_refl _, hb⟩
theorem cr_V_V {g : Nat → Int32} {nr n : Nat} (h : cr_V g nr n) : ag_V g n nr := by
  obtain ⟨h1, h2, h3, h4, h5⟩ := h
  refine ⟨⟨h1, h2, ag_w h3 (by omega) (by omega), fun i hi => ?_⟩, h5, ag_w h3 (by omega) (by omega), fun i hi => ag_r0 (h4 i hi).2.2.2.2 (by omega)⟩
  obtain ⟨k1, k2, k3, k4, k5⟩ := h4 i hi
  exact ⟨k1, k2, ag_w k3 (by omega) (by omega), ag_r0 k4 (by omega), ag_r0 k5 (by omega)⟩
theorem cr_V_0 {low slack : Int32} (h : ag_r slack 0 20) : cr_V (mk_g0 low slack) 0 0 := by
  refine ⟨(cr_J_g0 low slack).1, ⟨rfl, by omega, fun r hr => absurd hr (by omega), fun r _ _ => ?_⟩, h, fun i hi => absurd hi (by omega), fun i j hi => absurd hi (by omega)⟩
  unfold mk_g0
  rw [if_neg (by omega), if_neg (by omega)]
theorem cr_V_r {g : Nat → Int32} {nr n : Nat} {x : Int32} (h : cr_V g nr n) (h3 : nr < 3) (hx : 1 ≤ x) : cr_V (va_up (va_up g (5 + nr) x) 2 (nI (nr + 1))) (nr + 1) n := by
  obtain ⟨h1, ⟨t1, t2, t3, t4⟩, k3, h4, h5⟩ := h
  have hn := h1.2.1
  have e : ∀ j, j ≠ 2 → j ≠ 5 + nr → va_up (va_up g (5 + nr) x) 2 (nI (nr + 1)) j = g j := fun j a b => by rw [va_up_ne _ _ a, va_up_ne _ _ b]
  refine ⟨mk_sr_up (by omega) (mk_sr_up (by omega) h1), ⟨va_up_self _ _ _, by omega, fun r hr => ?_, fun r hr hr3 => ?_⟩, by rw [e 1 (by omega) (by omega)]; exact k3, fun i hi => ?_, fun i j hi hj => ?_⟩
  · rw [va_up_ne _ _ (by omega)]
    by_cases c : r = nr
    · rw [c, va_up_self]; exact hx
    · rw [va_up_ne _ _ (by omega)]; exact t3 r (by omega)
  · rw [e _ (by omega) (by omega)]; exact t4 r (by omega) hr3
  · rw [e (14 + i) (by omega) (by omega), e (20 + i) (by omega) (by omega), e (26 + i) (by omega) (by omega), e (32 + i) (by omega) (by omega), e (38 + i) (by omega) (by omega)]
    exact h4 i hi
  · rw [e (14 + i) (by omega) (by omega), e (20 + i) (by omega) (by omega), e (14 + j) (by omega) (by omega), e (20 + j) (by omega) (by omega)]
    exact h5 i j hi hj
theorem ag_std_no {g : Nat → Int32} {n : Nat} {ro pl : Int32} (hf : mk_std g ro pl n = none) : ∀ k, k ≤ n → ∀ j, j < k → ¬ (g (14 + j) = ro ∧ g (20 + j) = pl) := by
  intro k
  induction k with
  | zero => intro _ j hj; omega
  | succ k ih =>
    intro hk j hj c
    by_cases e : j = k
    · subst e
      cases h0 : mk_std g ro pl j with
      | some q =>
        have := mk_std_up (m := n - j) h0
        rw [show j + (n - j) = n by omega, hf] at this
        exact absurd this (by simp)
      | none =>
        have := mk_std_y (n := n) (k := j) (by omega) (by rw [show min j n = j by omega]; exact h0) c.1 c.2
        rw [hf] at this
        exact absurd this (by simp)
    · exact ih (by omega) j (by omega) c
theorem cr_V_s {g : Nat → Int32} {nr n : Nat} {k ro pl go : Int32} (h : cr_V g nr n) (hn : n < 6) (hk : k = 1 ∨ k = 2 ∨ k = 3 ∨ k = 4 ∨ k = 5) (hr : ag_r ro 0 2) (hp : ag_r pl 1 8) (hg : ag_r go 0 20) (hf : mk_std g ro pl n = none) : cr_V (mk_as g n k ro pl go) nr (n + 1) := by
  obtain ⟨h1, ⟨t1, t2, t3, t4⟩, k3, h4, h5⟩ := h
  have hno := ag_std_no hf n (Nat.le_refl n)
  have a2 : mk_as g n k ro pl go (14 + n) = ro := by unfold mk_as; rw [if_neg (by omega), if_neg (by omega), if_pos rfl]
  have a3 : mk_as g n k ro pl go (20 + n) = pl := by unfold mk_as; rw [if_neg (by omega), if_neg (by omega), if_neg (by omega), if_pos rfl]
  have a4 : mk_as g n k ro pl go (26 + n) = go := by unfold mk_as; rw [if_neg (by omega), if_neg (by omega), if_neg (by omega), if_neg (by omega), if_pos rfl]
  have a5 : mk_as g n k ro pl go (32 + n) = 0 := by
    unfold mk_as
    rw [if_neg (by omega), if_neg (by omega), if_neg (by omega), if_neg (by omega), if_neg (by omega), if_pos (by omega)]
  have a6 : mk_as g n k ro pl go (38 + n) = 0 := by
    unfold mk_as
    rw [if_neg (by omega), if_neg (by omega), if_neg (by omega), if_neg (by omega), if_neg (by omega), if_pos (by omega)]
  refine ⟨mk_sr_as h1 hn hk, ⟨by rw [mk_as_o g k ro pl go (by omega)]; exact t1, t2, fun r hr => by rw [mk_as_o g k ro pl go (by omega)]; exact t3 r hr, fun r hr hr3 => by rw [mk_as_o g k ro pl go (by omega)]; exact t4 r hr hr3⟩, by rw [mk_as_o g k ro pl go (by omega)]; exact k3, fun i hi => ?_, fun i j hi hj => ?_⟩
  · by_cases c : i = n
    · subst c
      rw [a2, a3, a4, a5, a6]
      exact ⟨hr, hp, hg, rfl, rfl⟩
    · rw [mk_as_o g k ro pl go (j := 14 + i) (by omega), mk_as_o g k ro pl go (j := 20 + i) (by omega), mk_as_o g k ro pl go (j := 26 + i) (by omega), mk_as_o g k ro pl go (j := 32 + i) (by omega), mk_as_o g k ro pl go (j := 38 + i) (by omega)]
      exact h4 i (by omega)
  · by_cases c : i = n
    · by_cases c2 : j = n
      · intro _ _; omega
      · subst c
        rw [a2, a3, mk_as_o g k ro pl go (j := 14 + j) (by omega), mk_as_o g k ro pl go (j := 20 + j) (by omega)]
        intro z1 z2
        exact absurd ⟨z1.symm, z2.symm⟩ (hno j (by omega))
    · by_cases c2 : j = n
      · subst c2
        rw [a2, a3, mk_as_o g k ro pl go (j := 14 + i) (by omega), mk_as_o g k ro pl go (j := 20 + i) (by omega)]
        intro z1 z2
        exact absurd ⟨z1, z2⟩ (hno i (by omega))
      · rw [mk_as_o g k ro pl go (j := 14 + i) (by omega), mk_as_o g k ro pl go (j := 20 + i) (by omega), mk_as_o g k ro pl go (j := 14 + j) (by omega), mk_as_o g k ro pl go (j := 20 + j) (by omega)]
        exact h5 i j (by omega) (by omega)
def cr_VV (X : cr_R) : Prop := X.1 25 0 = 0 → cr_V X.2.1 X.2.2.1 X.2.2.2
theorem cr_VV_0 (C : Nat → Nat → Int32) : cr_VV (cr_0 C) := by
  intro h
  rw [cr_0_1] at h
  rw [cr_0_2, cr_0_3, cr_0_4]
  have h4 : (cr_l4 (cr_S0 C)).2 25 0 = 0 := by
    unfold cr_law at h
    exact cr_p0 h
  have hb : (0 : Int32) ≤ (cr_l4 (cr_S0 C)).1 ∧ (cr_l4 (cr_S0 C)).1 ≤ 20 := by
    unfold cr_l4 at h4 ⊢
    exact cr_nb h4
  exact cr_V_0 (ag_rl (a := 0) (b := 20) hb.1 hb.2 (by omega) (by omega))
theorem cr_VV_rp {X : cr_R} (h : cr_VV X) : cr_VV (cr_rp X) := by
  intro h0
  rw [cr_rp_1] at h0
  rw [cr_rp_2, cr_rp_3, cr_rp_n]
  have n3 := cr_rope_3 h0
  have h2 : (cr_r2 X.1 X.2.1).2 25 0 = 0 := by
    unfold cr_rope at h0
    exact cr_p0 h0
  have hb : (1 : Int32) ≤ (cr_r2 X.1 X.2.1).1 := by
    unfold cr_r2 at h2 ⊢
    exact (cr_nb h2).1
  have hC : X.1 25 0 = 0 := by
    unfold cr_r2 cr_r1 at h2
    have h1 := cr_p0 (cr_n0 h2)
    rw [cr_r0, if_neg n3] at h1
    exact h1
  have hV := h hC
  have hnr : X.2.2.1 < 3 := by
    have t1 := hV.2.1.1
    have t2 := hV.2.1.2.1
    rcases Nat.lt_or_ge X.2.2.1 3 with z | z
    · exact z
    · exact absurd (by rw [t1, show X.2.2.1 = 3 by omega]; rfl) n3
  unfold cr_rg cr_rn
  rw [if_pos h0, if_pos h0]
  exact cr_V_r hV hnr hb
theorem cr_VV_st {X : cr_R} (h : cr_VV X) : cr_VV (cr_st X) := by
  intro h0
  rw [cr_st_1] at h0
  rw [cr_st_2, cr_st_3, cr_st_4]
  obtain ⟨k1, k2, k3⟩ := cr_s_k h0
  have hf := cr_s_f h0
  have hstd := cr_s_std h0
  have hV := h k3
  have h6 : X.2.2.2 < 6 := by
    have t1 := hV.1.1
    have t2 := hV.1.2.1
    rcases Nat.lt_or_ge X.2.2.2 6 with z | z
    · exact z
    · exact absurd (by rw [t1, show X.2.2.2 = 6 by omega]; rfl) k2
  have hh : (cr_h X.1 X.2.1 X.2.2.2).2 25 0 = 0 := by
    unfold cr_s at h0
    exact cr_p0 h0
  have hgo : (0 : Int32) ≤ (cr_h X.1 X.2.1 X.2.2.2).1 ∧ (cr_h X.1 X.2.1 X.2.2.2).1 ≤ 20 := by
    unfold cr_h at hh ⊢
    exact cr_nb hh
  have he : (cr_e X.1 X.2.1).2 25 0 = 0 := by
    unfold cr_f at hf
    rw [if_pos hstd] at hf
    exact hf
  have hpl : (1 : Int32) ≤ (cr_e X.1 X.2.1).1 ∧ (cr_e X.1 X.2.1).1 ≤ 8 := by
    unfold cr_e at he ⊢
    exact cr_nb he
  have hc : (cr_c X.1 X.2.1).2 25 0 = 0 := by
    unfold cr_e cr_d at he
    exact cr_p0 (cr_n0 he)
  have hro : (0 : Int32) ≤ (cr_c X.1 X.2.1).1 ∧ (cr_c X.1 X.2.1).1 ≤ X.2.1 2 - 1 := by
    unfold cr_c at hc ⊢
    exact cr_nb hc
  have hro2 : ag_r (cr_c X.1 X.2.1).1 0 2 := by
    obtain ⟨z1, z2⟩ := hro
    have t1 := hV.2.1.1
    have t2 := hV.2.1.2.1
    rw [t1] at z2
    refine ag_rl (a := 0) (b := 2) z1 (Int32.le_trans z2 ?_) (by omega) (by omega)
    rcases (show X.2.2.1 = 0 ∨ X.2.2.1 = 1 ∨ X.2.2.1 = 2 ∨ X.2.2.1 = 3 by omega) with e | e | e | e <;> rw [e] <;> decide
  unfold cr_sg cr_sn
  rw [if_pos h0, if_pos h0]
  exact cr_V_s hV h6 (cr_kv k1) hro2 (ag_rl (a := 1) (b := 8) hpl.1 hpl.2 (by omega) (by omega)) (ag_rl (a := 0) (b := 20) hgo.1 hgo.2 (by omega) (by omega)) hstd
theorem cr_VV_rs {X : cr_R} (h : cr_VV X) : ∀ k, cr_VV (cr_rs X k) := by
  intro k
  induction k with
  | zero => rw [cr_rs_0]; exact h
  | succ k ih =>
    by_cases c : (cr_rs X k).1 25 0 = 0 ∧ (k = 0 ∨ mk_by (cr_rs X k).1 ((cr_rs X k).1 24 0) = 108)
    · rw [ag_rs_y c]; exact cr_VV_rp ih
    · rw [ag_rs_n c]; exact ih
theorem cr_VV_ss {X : cr_R} (h : cr_VV X) : ∀ k, cr_VV (cr_ss X k) := by
  intro k
  induction k with
  | zero => rw [cr_ss_0]; exact h
  | succ k ih =>
    by_cases c : (cr_ss X k).1 25 0 = 0 ∧ (cr_ss X k).1 24 0 < (cr_ss X k).1 9 0
    · rw [ag_ss_y c]; exact cr_VV_st ih
    · rw [ag_ss_n c]; exact ih
theorem cr_VV_all (C : Nat → Nat → Int32) : cr_VV (cr_all C) := by
  unfold cr_all
  refine cr_VV_ss ?_ 7
  rw [cr_1_e]
  exact cr_VV_rs (cr_VV_0 C) 4
def cr_N (X : cr_R) : Prop := X.1 25 0 = 0 → 1 ≤ X.2.2.1
theorem cr_N_1 (X : cr_R) : cr_N (cr_rs X 1) := by
  by_cases c : (cr_rs X 0).1 25 0 = 0 ∧ (0 = 0 ∨ mk_by (cr_rs X 0).1 ((cr_rs X 0).1 24 0) = 108)
  · intro h
    rw [ag_rs_y (k := 0) c] at h ⊢
    rw [cr_rp_1] at h
    rw [cr_rp_3]
    unfold cr_rn
    rw [if_pos h]
    omega
  · intro h
    rw [ag_rs_n (k := 0) c] at h
    exact absurd ⟨h, Or.inl rfl⟩ c
theorem cr_N_rs {X : cr_R} {k : Nat} (h : cr_N (cr_rs X k)) (hk : 1 ≤ k) : cr_N (cr_rs X (k + 1)) := by
  by_cases c : (cr_rs X k).1 25 0 = 0 ∧ (k = 0 ∨ mk_by (cr_rs X k).1 ((cr_rs X k).1 24 0) = 108)
  · have hh := h c.1
    intro h0
    rw [ag_rs_y c] at h0 ⊢
    rw [cr_rp_1] at h0
    rw [cr_rp_3]
    unfold cr_rn
    rw [if_pos h0]
    omega
  · rw [ag_rs_n c]; exact h
theorem cr_N_ss {X : cr_R} (h : cr_N X) : ∀ k, cr_N (cr_ss X k) := by
  intro k
  induction k with
  | zero => rw [cr_ss_0]; exact h
  | succ k ih =>
    by_cases c : (cr_ss X k).1 25 0 = 0 ∧ (cr_ss X k).1 24 0 < (cr_ss X k).1 9 0
    · have hh := ih c.1
      intro h0
      rw [ag_ss_y c, cr_st_3]
      exact hh
    · rw [ag_ss_n c]; exact ih
theorem cr_N_all (C : Nat → Nat → Int32) : cr_N (cr_all C) := by
  unfold cr_all
  refine cr_N_ss ?_ 7
  rw [cr_1_e]
  exact cr_N_rs (cr_N_rs (cr_N_rs (cr_N_1 (cr_0 C)) (by omega)) (by omega)) (by omega)
/-! THE LAW'S WORLD: who lies where, what each holds. Colours: 0 the object, 1 the reference, 2 the market, 3 and 4 the images, 9 what nobody holds any more -/
def mo_H (D : va_G) (F : Nat → va_E) (mo : Nat) (ma : Nat → Nat) (M : Nat → Nat → Int32) : Prop := F mo = .inr (10, mo_fs ma M) ∧ ∀ k ∈ mo_ks, F (ma k) = mo_ar D k (M k)
theorem mo_self {D : va_G} {F : Nat → va_E} {mo : Nat} {ma : Nat → Nat} {M : Nat → Nat → Int32} (h : mo_H D F mo ma M) : mo_F D F mo ma M = F := by
  funext a
  unfold mo_F
  by_cases c : a = mo
  · rw [if_pos c, c]; exact h.1.symm
  · rw [if_neg c]
    cases hq : mo_ks.find? (fun k => decide (ma k = a)) with
    | none => rfl
    | some j =>
      have h3 : ma j = a := by simpa using List.find?_some hq
      show mo_ar D j (M j) = F a
      rw [← h3]
      exact (h.2 j (List.mem_of_find?_eq_some hq)).symm
theorem mo_H_F {L : List Nat} {D : va_G} {f : Nat → va_E} {mo : Nat} {ma : Nat → Nat} {M : Nat → Nat → Int32} (hm : mo_ok L mo ma) : mo_H D (mo_F D f mo ma M) mo ma M := ⟨mo_at0 D f mo ma M, fun _ hk => mo_atk hm D f M hk⟩
theorem mk_H_fr {D : va_G} {F F' : Nat → va_E} {q : Nat} {ad : Nat → Nat} {n : Nat} {g : Nat → Int32} (h : mk_H D F q ad n g) (h1 : F' q = F q) (h2 : ∀ j, j < n + 2 → F' (ad j) = F (ad j)) : mk_H D F' q ad n g := ⟨h1.trans h.1, fun k hk => (h2 k hk).trans (h.2 k hk)⟩
theorem mk_ok_L {L L' : List Nat} {q : Nat} {ad : Nat → Nat} {n : Nat} (h : mk_ok L q ad n) (hL : ∀ a ∈ L, a ∈ L') : mk_ok L' q ad n := ⟨hL _ h.1, fun k hk => ⟨hL _ (h.2.1 k hk).1, (h.2.1 k hk).2⟩, h.2.2⟩
theorem ob_ok_L {L L' : List Nat} {oa : Nat → Nat} {q : Nat} {ad : Nat → Nat} {n : Nat} (h : ob_ok L oa q ad n) (hL : ∀ a ∈ L, a ∈ L') : ob_ok L' oa q ad n := ⟨fun k hk => ⟨hL _ (h.1 k hk).1, (h.1 k hk).2⟩, h.2⟩
theorem mo_ok_L {L L' : List Nat} {mo : Nat} {ma : Nat → Nat} (h : mo_ok L mo ma) (hL : ∀ a ∈ L, a ∈ L') : mo_ok L' mo ma := ⟨hL _ h.1, fun k hk => ⟨hL _ (h.2.1 k hk).1, (h.2.1 k hk).2⟩, h.2.2⟩
def wl_im (D : va_G) (L : List Nat) (F : Nat → va_E) (col : Nat → Nat) (M : Nat → Nat → Int32) (k : Nat) (o : Option Nat) : Prop := (o = none ∧ M 2 k = 0) ∨ ∃ q ad n nr, o = some q ∧ M 2 k = 1 ∧ mk_H D F q ad n (fun j => M 0 (50 * (k + 1) + j)) ∧ mk_ok L q ad n ∧ ag_V (fun j => M 0 (50 * (k + 1) + j)) n nr ∧ M 0 (50 * (k + 1) + 4) = 1 ∧ 1 ≤ nr ∧ col q = 3 + k ∧ ∀ j, j < n + 2 → col (ad j) = 3 + k
def wl_S (D : va_G) (L : List Nat) (F : Nat → va_E) (oa : Nat → Nat) (mo : Nat) (ma : Nat → Nat) (C M : Nat → Nat → Int32) (mk : Nat) (ad : Nat → Nat) (n nr : Nat) (im : Nat → Option Nat) (col : Nat → Nat) : Prop :=
  ob_H D F oa C mk im ∧ mk_H D F mk ad n (M 0) ∧ mo_H D F mo ma M ∧ ob_ok L oa mk ad n ∧ mk_ok L mk ad n ∧ mo_ok L mo ma ∧ (∀ k, k < 27 → col (oa k) = 0) ∧ (col mk = 2 ∧ ∀ j, j < n + 2 → col (ad j) = 2) ∧ (col mo = 1 ∧ ∀ k ∈ mo_ks, col (ma k) = 1) ∧ (∀ k, k < 2 → wl_im D L F col M k (im k)) ∧ ∃ a, ag_I C M n nr a
section WL
variable {D : va_G} {L L' : List Nat} {F F' : Nat → va_E} {oa : Nat → Nat} {mo : Nat} {ma : Nat → Nat} {C M : Nat → Nat → Int32} {mk : Nat} {ad : Nat → Nat} {n nr : Nat} {im : Nat → Option Nat} {col : Nat → Nat}
theorem wl_W (h : wl_S D L F oa mo ma C M mk ad n nr im col) : ob_W D F oa C mk im mk ad n (M 0) = F := by
  unfold ob_W
  rw [ob_self h.1, mk_self h.2.1]
theorem wl_out {C' : Nat → Nat → Int32} {mr' : Nat} {im' : Nat → Option Nat} {mk2 : Nat} {ad2 : Nat → Nat} {n2 : Nat} {g' : Nat → Int32} {a : Nat} (h1 : ∀ k, k < 27 → oa k ≠ a) (h2 : a ≠ mk2) (h3 : ∀ j, j < n2 + 2 → ad2 j ≠ a) : ob_W D F oa C' mr' im' mk2 ad2 n2 g' a = F a := by
  unfold ob_W
  rw [mk_out h2 h3, ob_out h1]
theorem wl_1 (h : wl_S D L F oa mo ma C M mk ad n nr im col) {C' : Nat → Nat → Int32} {g' : Nat → Int32} {a : Nat} (h0 : col a ≠ 0) (h2 : col a ≠ 2) : ob_W D F oa C' mk im mk ad n g' a = F a := by
  obtain ⟨-, -, -, -, -, -, k7, k8, -⟩ := h
  exact wl_out (fun k hk e => h0 (by rw [← e]; exact k7 k hk)) (fun e => h2 (by rw [e]; exact k8.1)) (fun j hj e => h2 (by rw [← e]; exact k8.2 j hj))
theorem wl_mo (h : wl_S D L F oa mo ma C M mk ad n nr im col) (C' : Nat → Nat → Int32) (g' : Nat → Int32) : mo_H D (ob_W D F oa C' mk im mk ad n g') mo ma M := by
  obtain ⟨-, -, k3, -, -, -, -, -, k9, -⟩ := id h
  exact ⟨(wl_1 h (by rw [k9.1]; decide) (by rw [k9.1]; decide)).trans k3.1, fun k hk => (wl_1 h (by rw [k9.2 k hk]; decide) (by rw [k9.2 k hk]; decide)).trans (k3.2 k hk)⟩
theorem wl_im_c {col' : Nat → Nat} {M' : Nat → Nat → Int32} {k : Nat} {o : Option Nat} (hk : k < 2) (hF : ∀ a ∈ L, col a = 3 + k → F' a = F a) (hL : ∀ a ∈ L, a ∈ L') (hc : ∀ a ∈ L, col a = 3 + k → col' a = 3 + k) (hM : ∀ j, 50 * (k + 1) ≤ j → j < 50 * (k + 1) + 50 → M' 0 j = M 0 j) (h2 : M' 2 k = M 2 k) (h : wl_im D L F col M k o) : wl_im D L' F' col' M' k o := by
  rcases h with ⟨h1, h3⟩ | ⟨q, ad, n, nr, h1, h3, h4, h5, h6, h7, h8, h9, h10⟩
  · exact Or.inl ⟨h1, by rw [h2]; exact h3⟩
  · have e : ∀ j, j < 50 → (fun j => M 0 (50 * (k + 1) + j)) j = (fun j => M' 0 (50 * (k + 1) + j)) j := fun j hj => (hM _ (by omega) (by omega)).symm
    refine Or.inr ⟨q, ad, n, nr, h1, by rw [h2]; exact h3, mk_H_c h6.1.1.2.1 e (mk_H_fr h4 (hF _ h5.1 h9) (fun j hj => hF _ (h5.2.1 j hj).1 (h10 j hj))), mk_ok_L h5 hL, ag_V_c e h6, by rw [hM _ (by omega) (by omega)]; exact h7, h8, hc _ h5.1 h9, fun j hj => hc _ (h5.2.1 j hj).1 (h10 j hj)⟩
/-- a call that makes nothing, on both sides -/
theorem wl_ord (h : wl_S D L F oa mo ma C M mk ad n nr im col) {P : cs_T} {q : sp_S} (hs : ag_st M n nr P q) : wl_S D L (mo_F D (ob_W D F oa P.2.1 mk im mk ad n P.2.2) mo ma q.2) oa mo ma P.2.1 q.2 mk ad n nr im col := by
  obtain ⟨k1, k2, k3, k4, k5, k6, k7, k8, k9, k10, -⟩ := id h
  obtain ⟨s1, s2, s3, s4, s5⟩ := hs
  obtain ⟨a2, i2⟩ := id s2
  have hn : n ≤ 6 := i2.2.2.2.2.2.2.1.1.1.2.1
  have out1 : ∀ a, col a ≠ 1 → mo_F D (ob_W D F oa P.2.1 mk im mk ad n P.2.2) mo ma q.2 a = ob_W D F oa P.2.1 mk im mk ad n P.2.2 a := fun a ha => mo_out (fun e => ha (by rw [e]; exact k9.1)) (fun k hk e => ha (by rw [← e]; exact k9.2 k hk))
  refine ⟨fun k hk => ?_, ?_, mo_H_F k6, k4, k5, k6, k7, k8, k9, fun k hk => ?_, s2⟩
  · rw [out1 _ (by rw [k7 k hk]; decide)]
    unfold ob_W
    rw [mk_out (k4.1 k hk).2.1 (k4.1 k hk).2.2, ob_at k4.2 hk]
  · refine mk_H_c hn s3 (mk_H_fr (F := ob_W D F oa P.2.1 mk im mk ad n P.2.2) (mk_H_F k5) (out1 mk (by rw [k8.1]; decide)) (fun j hj => out1 (ad j) (by rw [k8.2 j hj]; decide)))
  · exact wl_im_c hk (fun a _ hc => (out1 a (by omega)).trans (wl_1 h (by omega) (by omega))) (fun a ha => ha) (fun a _ hc => hc) (fun j h1 h2 => s4 j (by omega) (by omega)) (by rw [s5]) (k10 k hk)
/-- more cells, those that were there as they were -/
theorem wl_more (h : wl_S D L F oa mo ma C M mk ad n nr im col) (hF : ∀ a ∈ L, F' a = F a) (hL : ∀ a ∈ L, a ∈ L') : wl_S D L' F' oa mo ma C M mk ad n nr im col := by
  obtain ⟨k1, k2, k3, k4, k5, k6, k7, k8, k9, k10, k11⟩ := h
  exact ⟨fun k hk => (hF _ (k4.1 k hk).1).trans (k1 k hk), mk_H_fr k2 (hF _ k5.1) (fun j hj => hF _ (k5.2.1 j hj).1), ⟨(hF _ k6.1).trans k3.1, fun k hk => (hF _ (k6.2.1 k hk).1).trans (k3.2 k hk)⟩, ob_ok_L k4 hL, mk_ok_L k5 hL, mo_ok_L k6 hL, k7, k8, k9, fun k hk => wl_im_c hk (fun a ha _ => hF a ha) hL (fun a _ hc => hc) (fun _ _ _ => rfl) rfl (k10 k hk), k11⟩
/-- new cells coloured c, what had that colour is nobody's -/
def wl_re (col : Nat → Nat) (mk2 : Nat) (ad2 : Nat → Nat) (n2 c : Nat) : Nat → Nat := fun a => if decide (a = mk2) || (List.range (n2 + 2)).any (fun j => decide (ad2 j = a)) then c else if col a = c then 9 else col a
theorem wl_re_m (col : Nat → Nat) (mk2 : Nat) (ad2 : Nat → Nat) (n2 c : Nat) : wl_re col mk2 ad2 n2 c mk2 = c := by
  unfold wl_re
  rw [if_pos (by simp)]
theorem wl_re_a (col : Nat → Nat) (mk2 : Nat) (ad2 : Nat → Nat) (n2 c : Nat) {j : Nat} (hj : j < n2 + 2) : wl_re col mk2 ad2 n2 c (ad2 j) = c := by
  unfold wl_re
  rw [if_pos]
  rw [Bool.or_eq_true, List.any_eq_true]
  exact Or.inr ⟨j, List.mem_range.mpr hj, by simp⟩
theorem wl_re_o (col : Nat → Nat) {mk2 : Nat} {ad2 : Nat → Nat} {n2 c a : Nat} (h1 : a ≠ mk2) (h2 : ∀ j, j < n2 + 2 → ad2 j ≠ a) (h3 : col a ≠ c) : wl_re col mk2 ad2 n2 c a = col a := by
  unfold wl_re
  rw [if_neg, if_neg h3]
  rw [Bool.or_eq_true, List.any_eq_true]
  rintro (z | ⟨j, z1, z2⟩)
  · exact h1 (by simpa using z)
  · exact h2 j (List.mem_range.mp z1) (by simpa using z2)
/-- the market is another, a new one -/
theorem wl_new (h : wl_S D L F oa mo ma C M mk ad n nr im col) {N : List Nat} {C' M' : Nat → Nat → Int32} {mk2 : Nat} {ad2 : Nat → Nat} {n2 nr2 : Nat} {g2 : Nat → Int32} (h1 : mk2 ∉ L) (h2 : ∀ j, j < n2 + 2 → ad2 j ∉ L) (h3 : mk_ok (L ++ N) mk2 ad2 n2) (hg : ∀ F0 : Nat → va_E, mk_H D F0 mk2 ad2 n2 g2 → mk_H D F0 mk2 ad2 n2 (M' 0)) (h4 : ∀ j, 50 ≤ j → j < 150 → M' 0 j = M 0 j) (h5 : M' 2 = M 2) (hI : ∃ a, ag_I C' M' n2 nr2 a) :
    mo_H D (ob_W D (mk_F D F mk ad n (M 0)) oa C' mk2 im mk2 ad2 n2 g2) mo ma M ∧ wl_S D (L ++ N) (mo_F D (ob_W D (mk_F D F mk ad n (M 0)) oa C' mk2 im mk2 ad2 n2 g2) mo ma M') oa mo ma C' M' mk2 ad2 n2 nr2 im (wl_re col mk2 ad2 n2 2) := by
  obtain ⟨k1, k2, k3, k4, k5, k6, k7, k8, k9, k10, -⟩ := id h
  rw [mk_self k2]
  have ne : ∀ a ∈ L, a ≠ mk2 ∧ ∀ j, j < n2 + 2 → ad2 j ≠ a := fun a ha => ⟨fun e => h1 (by rw [← e]; exact ha), fun j hj e => h2 j hj (by rw [e]; exact ha)⟩
  have out0 : ∀ a ∈ L, col a ≠ 0 → ob_W D F oa C' mk2 im mk2 ad2 n2 g2 a = F a := fun a ha hc => wl_out (fun k hk e => hc (by rw [← e]; exact k7 k hk)) (ne a ha).1 (ne a ha).2
  have cs : ∀ a ∈ L, col a ≠ 2 → wl_re col mk2 ad2 n2 2 a = col a := fun a ha hc => wl_re_o col (ne a ha).1 (ne a ha).2 hc
  have hL : ∀ a ∈ L, a ∈ L ++ N := fun a ha => List.mem_append_left _ ha
  have ho2 : ob_ok (L ++ N) oa mk2 ad2 n2 := ob_ok_new k4 h1 h2
  have hmoL : ∀ a, a = mo ∨ (∃ k ∈ mo_ks, ma k = a) → a ∈ L := by
    rintro a (e | ⟨k, hk, e⟩)
    · rw [e]; exact k6.1
    · rw [← e]; exact (k6.2.1 k hk).1
  refine ⟨⟨(out0 mo k6.1 (by rw [k9.1]; decide)).trans k3.1, fun k hk => (out0 _ (k6.2.1 k hk).1 (by rw [k9.2 k hk]; decide)).trans (k3.2 k hk)⟩, fun k hk => ?_, ?_, mo_H_F (mo_ok_L k6 hL), ho2, h3, mo_ok_L k6 hL, fun k hk => by rw [cs _ (k4.1 k hk).1 (by rw [k7 k hk]; decide)]; exact k7 k hk, ⟨wl_re_m _ _ _ _ _, fun j hj => wl_re_a _ _ _ _ _ hj⟩, ⟨by rw [cs _ k6.1 (by rw [k9.1]; decide)]; exact k9.1, fun k hk => by rw [cs _ (k6.2.1 k hk).1 (by rw [k9.2 k hk]; decide)]; exact k9.2 k hk⟩, fun k hk => ?_, hI⟩
  · rw [mo_out (fun e => by have := k7 k hk; rw [e, k9.1] at this; exact absurd this (by decide)) (fun j hj e => by have := k7 k hk; rw [← e, k9.2 j hj] at this; exact absurd this (by decide))]
    unfold ob_W
    rw [mk_out (ho2.1 k hk).2.1 (ho2.1 k hk).2.2, ob_at k4.2 hk]
  · refine hg _ (mk_H_fr (F := ob_W D F oa C' mk2 im mk2 ad2 n2 g2) (mk_H_F h3) (mo_out (fun e => h1 (hmoL _ (Or.inl e))) (fun k hk e => h1 (hmoL _ (Or.inr ⟨k, hk, e⟩)))) (fun j hj => mo_out (fun e => h2 j hj (hmoL _ (Or.inl e))) (fun k hk e => h2 j hj (hmoL _ (Or.inr ⟨k, hk, e⟩)))))
  · refine wl_im_c hk (fun a ha hc => ?_) hL (fun a ha hc => by rw [cs a ha (by omega)]; exact hc) (fun j z1 z2 => h4 j (by omega) (by omega)) (by rw [h5]) (k10 k hk)
    rw [mo_out (fun e => by rw [e, k9.1] at hc; omega) (fun j hj e => by rw [← e, k9.2 j hj] at hc; omega)]
    exact out0 a ha (by omega)
/-- a market made for nothing -/
theorem wl_waste (h : wl_S D L F oa mo ma C M mk ad n nr im col) {N : List Nat} {C' M' : Nat → Nat → Int32} {mk2 : Nat} {ad2 : Nat → Nat} {n2 : Nat} {g2 : Nat → Int32} (h1 : mk2 ∉ L) (h2 : ∀ j, j < n2 + 2 → ad2 j ∉ L) (hs : ∃ r r', ag_st M n nr (r, C', M 0) (r', M')) :
    mo_H D (ob_W D (mk_F D F mk ad n (M 0)) oa C' mk im mk2 ad2 n2 g2) mo ma M ∧ wl_S D (L ++ N) (mo_F D (ob_W D (mk_F D F mk ad n (M 0)) oa C' mk im mk2 ad2 n2 g2) mo ma M') oa mo ma C' M' mk ad n nr im col := by
  obtain ⟨k1, k2, k3, k4, k5, k6, k7, k8, k9, k10, -⟩ := id h
  obtain ⟨r, r', hs⟩ := hs
  have hw := wl_ord h hs
  have e1 : ∀ a ∈ L, ob_W D (mk_F D F mk ad n (M 0)) oa C' mk im mk2 ad2 n2 g2 a = ob_W D F oa C' mk im mk ad n (M 0) a := by
    intro a ha
    show mk_F D (ob_F D (mk_F D F mk ad n (M 0)) oa C' mk im) mk2 ad2 n2 g2 a = mk_F D (ob_F D F oa C' mk im) mk ad n (M 0) a
    rw [mk_out (fun e => h1 (by rw [← e]; exact ha)) (fun j hj e => h2 j hj (by rw [e]; exact ha)), ob_mk_comm k4]
  have hm0 := wl_mo h C' (M 0)
  refine ⟨⟨(e1 _ k6.1).trans hm0.1, fun k hk => (e1 _ (k6.2.1 k hk).1).trans (hm0.2 k hk)⟩, wl_more hw (fun a ha => ?_) (fun a ha => List.mem_append_left _ ha)⟩
  unfold mo_F
  rw [e1 a ha]
/-- an image taken -/
theorem wl_img (h : wl_S D L F oa mo ma C M mk ad n nr im col) {N : List Nat} {M' : Nat → Nat → Int32} {mk2 : Nat} {ad2 : Nat → Nat} {i : Nat} (hi : i < 2) (h1 : mk2 ∉ L) (h2 : ∀ j, j < n + 2 → ad2 j ∉ L) (h3 : mk_ok (L ++ N) mk2 ad2 n) (h4 : ∀ j, j < 50 → M' 0 j = M 0 j) (h5 : ∀ j, j < 50 → M' 0 (50 * (i + 1) + j) = M 0 j) (h6 : ∀ k, k < 2 → k ≠ i → (∀ j, 50 * (k + 1) ≤ j → j < 50 * (k + 1) + 50 → M' 0 j = M 0 j) ∧ M' 2 k = M 2 k) (h7 : M' 2 i = 1) (h8 : M 0 4 = 1) (h9 : 1 ≤ nr) (hI : ∃ a, ag_I C M' n nr a) :
    mo_H D (ob_W D (mk_F D F mk ad n (M 0)) oa C mk (va_up im i (some mk2)) mk2 ad2 n (M 0)) mo ma M ∧ wl_S D (L ++ N) (mo_F D (ob_W D (mk_F D F mk ad n (M 0)) oa C mk (va_up im i (some mk2)) mk2 ad2 n (M 0)) mo ma M') oa mo ma C M' mk ad n nr (va_up im i (some mk2)) (wl_re col mk2 ad2 n (3 + i)) := by
  obtain ⟨k1, k2, k3, k4, k5, k6, k7, k8, k9, k10, a0, i0⟩ := id h
  have hV := i0.2.2.2.2.2.2.1
  have hn : n ≤ 6 := hV.1.1.2.1
  rw [mk_self k2]
  have ne : ∀ a ∈ L, a ≠ mk2 ∧ ∀ j, j < n + 2 → ad2 j ≠ a := fun a ha => ⟨fun e => h1 (by rw [← e]; exact ha), fun j hj e => h2 j hj (by rw [e]; exact ha)⟩
  have out0 : ∀ a ∈ L, col a ≠ 0 → ob_W D F oa C mk (va_up im i (some mk2)) mk2 ad2 n (M 0) a = F a := fun a ha hc => wl_out (fun k hk e => hc (by rw [← e]; exact k7 k hk)) (ne a ha).1 (ne a ha).2
  have cs : ∀ a ∈ L, col a ≠ 3 + i → wl_re col mk2 ad2 n (3 + i) a = col a := fun a ha hc => wl_re_o col (ne a ha).1 (ne a ha).2 hc
  have hL : ∀ a ∈ L, a ∈ L ++ N := fun a ha => List.mem_append_left _ ha
  have ho2 : ob_ok (L ++ N) oa mk2 ad2 n := ob_ok_new k4 h1 h2
  have hmoL : ∀ a, a = mo ∨ (∃ k ∈ mo_ks, ma k = a) → a ∈ L := by
    rintro a (e | ⟨k, hk, e⟩)
    · rw [e]; exact k6.1
    · rw [← e]; exact (k6.2.1 k hk).1
  have outm : ∀ a, col a ≠ 1 → mo_F D (ob_W D F oa C mk (va_up im i (some mk2)) mk2 ad2 n (M 0)) mo ma M' a = ob_W D F oa C mk (va_up im i (some mk2)) mk2 ad2 n (M 0) a := fun a ha => mo_out (fun e => ha (by rw [e]; exact k9.1)) (fun k hk e => ha (by rw [← e]; exact k9.2 k hk))
  refine ⟨⟨(out0 mo k6.1 (by rw [k9.1]; decide)).trans k3.1, fun k hk => (out0 _ (k6.2.1 k hk).1 (by rw [k9.2 k hk]; decide)).trans (k3.2 k hk)⟩, fun k hk => ?_, ?_, mo_H_F (mo_ok_L k6 hL), ob_ok_L k4 hL, mk_ok_L k5 hL, mo_ok_L k6 hL, fun k hk => by rw [cs _ (k4.1 k hk).1 (by rw [k7 k hk]; omega)]; exact k7 k hk, ⟨by rw [cs _ k5.1 (by rw [k8.1]; omega)]; exact k8.1, fun j hj => by rw [cs _ (k5.2.1 j hj).1 (by rw [k8.2 j hj]; omega)]; exact k8.2 j hj⟩, ⟨by rw [cs _ k6.1 (by rw [k9.1]; omega)]; exact k9.1, fun k hk => by rw [cs _ (k6.2.1 k hk).1 (by rw [k9.2 k hk]; omega)]; exact k9.2 k hk⟩, fun k hk => ?_, hI⟩
  · rw [outm _ (by rw [k7 k hk]; decide)]
    unfold ob_W
    rw [mk_out (ho2.1 k hk).2.1 (ho2.1 k hk).2.2, ob_at k4.2 hk]
  · refine mk_H_c hn (fun j hj => (h4 j hj).symm) (mk_H_fr k2 ?_ (fun j hj => ?_))
    · rw [outm _ (by rw [k8.1]; decide)]
      exact out0 _ k5.1 (by rw [k8.1]; decide)
    · rw [outm _ (by rw [k8.2 j hj]; decide)]
      exact out0 _ (k5.2.1 j hj).1 (by rw [k8.2 j hj]; decide)
  · by_cases e : k = i
    · subst e
      rw [va_up_self]
      refine Or.inr ⟨mk2, ad2, n, nr, rfl, h7, ?_, h3, ag_V_c (fun j hj => (h5 j hj).symm) hV, by rw [h5 4 (by omega)]; exact h8, h9, wl_re_m _ _ _ _ _, fun j hj => wl_re_a _ _ _ _ _ hj⟩
      refine mk_H_c hn (fun j hj => (h5 j hj).symm) (mk_H_fr (F := ob_W D F oa C mk (va_up im k (some mk2)) mk2 ad2 n (M 0)) (mk_H_F h3) (mo_out (fun e => h1 (hmoL _ (Or.inl e))) (fun k hk e => h1 (hmoL _ (Or.inr ⟨k, hk, e⟩)))) (fun j hj => mo_out (fun e => h2 j hj (hmoL _ (Or.inl e))) (fun k hk e => h2 j hj (hmoL _ (Or.inr ⟨k, hk, e⟩)))))
    · rw [va_up_ne _ _ e]
      refine wl_im_c hk (fun a ha hc => ?_) hL (fun a ha hc => by rw [cs a ha (by omega)]; exact hc) (h6 k hk e).1 (h6 k hk e).2 (k10 k hk)
      rw [outm a (by omega)]
      exact out0 a ha (by omega)
end WL
/-! IMAGE, RESTORE, MARKET, WIND: the law's world behind both calls -/
theorem ag_I_of2 {C M C' M' : Nat → Nat → Int32} {n nr a : Nat} (h : ag_I C M n nr a) (hE : ag_E C' M') (h0 : ∀ j, j < 50 ∨ 200 ≤ j → M' 0 j = M 0 j) (h1 : M' 1 0 = M 1 0) (h12 : ∃ s0 : Nat, M' 12 0 = nI s0) (h21 : C' 21 = C 21) (h22 : C' 22 = C 22) (h23 : C' 23 = C 23) (hZ : ag_Z M') (hT : ∃ t : Nat, t ≤ 100 ∧ M' 9 0 = nI t) (hR : hs_tr M') : ag_I C' M' n nr a := by
  obtain ⟨-, -, -, -, k5, k6, k7, k8, k9⟩ := h
  have e : ∀ j, j < 50 → M 0 j = M' 0 j := fun j hj => (h0 j (Or.inl hj)).symm
  refine ⟨hE, hZ, hT, hR, by rw [h1]; exact k5, h12, ag_V_c e k7, by rw [← e 4 (by omega)]; exact k8, ?_⟩
  rw [h21, h22, h23]
  refine ag_G_c (fun i hi j hj => ?_) (fun i hi => ⟨rfl, rfl, rfl⟩) k9
  show (if i < a then M 0 (200 + 50 * i + j) else M 0 j) = (if i < a then M' 0 (200 + 50 * i + j) else M' 0 j)
  rw [h0 (200 + 50 * i + j) (by omega), h0 j (by omega)]
def lc_I (D : va_G) (L : List Nat) (F : Nat → va_E) (x mo : Nat) (ma : Nat → Nat) : Prop := ∃ oa C M mk ad n nr im col, oa 0 = x ∧ wl_S D L F oa mo ma C M mk ad n nr im col
section WM
variable {D : va_G} {L : List Nat} {F : Nat → va_E} {oa : Nat → Nat} {mo : Nat} {ma : Nat → Nat} {C M : Nat → Nat → Int32} {mk : Nat} {ad : Nat → Nat} {n nr : Nat} {im : Nat → Option Nat} {col : Nat → Nat}
/-- what the law needs behind the first call -/
def wl_P (D : va_G) (L : List Nat) (x mo : Nat) (ma : Nat → Nat) (M : Nat → Nat → Int32) (r : Int32) (u : hg_S) (q : sp_S) : Prop := r = q.1 ∧ mo_H D u.2 mo ma M ∧ (∀ a ∈ L, a ∈ u.1) ∧ lc_I D u.1 (mo_F D u.2 mo ma q.2) x mo ma
theorem wl_P_ord (h : wl_S D L F oa mo ma C M mk ad n nr im col) {P : cs_T} {q : sp_S} (hs : ag_st M n nr P q) : wl_P D L (oa 0) mo ma M P.1 (L, ob_W D F oa P.2.1 mk im mk ad n P.2.2) q :=
  ⟨hs.1, wl_mo h _ _, fun _ ha => ha, oa, P.2.1, q.2, mk, ad, n, nr, im, col, rfl, wl_ord h hs⟩
theorem wl_P_wind (h : wl_S D L F oa mo ma C M mk ad n nr im col) {hours seed rope r : Int32} {u : hg_S} (hp : r = cq_wind (M 0) n nr hours seed rope ∧ (u = (L, ob_W D F oa C mk im mk ad n (M 0)) ∨ ∃ q x, q ∉ L ∧ u = (L ++ [q], va_up (ob_W D F oa C mk im mk ad n (M 0)) q x))) : wl_P D L (oa 0) mo ma M r u (sp_wind M n nr hours seed rope) := by
  obtain ⟨a, hI⟩ := h.2.2.2.2.2.2.2.2.2.2
  have hs := ag_t_wind hI hours seed rope
  obtain ⟨hr, hu⟩ := hp
  subst hr
  rcases hu with rfl | ⟨q, x, hq, rfl⟩
  · exact wl_P_ord h hs
  · rw [wl_W h]
    have h' : wl_S D (L ++ [q]) (va_up F q x) oa mo ma C M mk ad n nr im col := wl_more h (fun b hb => va_up_ne _ _ (fun e => hq (by rw [← e]; exact hb))) (fun b hb => List.mem_append_left _ hb)
    obtain ⟨p1, p2, -, p4⟩ := wl_P_ord h' hs
    have e : ob_W D (va_up F q x) oa C mk im mk ad n (M 0) = va_up F q x := wl_W h'
    refine ⟨p1, ?_, fun b hb => List.mem_append_left _ hb, ?_⟩
    · rw [← e]; exact p2
    · rw [← e]; exact p4
theorem ag_inI {k : Int32} (h : ¬ hs_in k 0 1 = 0) : ∃ j : Nat, j < 2 ∧ k = nI j := by
  obtain ⟨j, h1, h2⟩ := hs_in_j (n := 1) rfl (by omega) h
  exact ⟨j, by omega, h2⟩
theorem ag_in1 {j : Nat} (hj : j < 2) : ¬ hs_in (nI j) 0 1 = 0 := by
  rcases (show j = 0 ∨ j = 1 by omega) with rfl | rfl <;> decide
theorem wl_P_image (h : wl_S D L F oa mo ma C M mk ad n nr im col) {k r : Int32} {u : hg_S} (hp : (hs_in k 0 1 = 0 ∧ r = hs_BAD ∧ u = (L, ob_W D F oa C mk im mk ad n (M 0))) ∨ (¬ hs_in k 0 1 = 0 ∧ M 0 2 = 0 ∧ r = hs_STATE ∧ u = (L, ob_W D F oa C mk im mk ad n (M 0))) ∨ ∃ j, j < 2 ∧ k = nI j ∧ ¬ M 0 2 = 0 ∧ r = 1 ∧ ∃ mk2 ad2 N, mk2 ∉ L ∧ (∀ i, i < n + 2 → ad2 i ∉ L) ∧ mk_ok (L ++ N) mk2 ad2 n ∧ u = (L ++ N, ob_W D (mk_F D F mk ad n (M 0)) oa C mk (va_up im j (some mk2)) mk2 ad2 n (M 0))) : wl_P D L (oa 0) mo ma M r u (sp_image M k) := by
  obtain ⟨a, hI⟩ := h.2.2.2.2.2.2.2.2.2.2
  have h4 := ag_I4 hI
  rcases hp with ⟨c1, rfl, rfl⟩ | ⟨c1, c2, rfl, rfl⟩ | ⟨j, hj, rfl, c2, rfl, mk2, ad2, N, b1, b2, b3, rfl⟩
  · have e : sp_image M k = (hs_BAD, M) := by unfold sp_image; rw [if_pos c1]
    rw [e]
    exact wl_P_ord h (P := (hs_BAD, C, M 0)) (ag_st0 hI _)
  · have e : sp_image M k = (hs_STATE, M) := by unfold sp_image; rw [if_neg c1, if_pos (h4.mpr c2)]
    rw [e]
    exact wl_P_ord h (P := (hs_STATE, C, M 0)) (ag_st0 hI _)
  · have e : sp_image M (nI j) = (1, mo_w (va_up M 0 (hs_blk (M 0) (50 * (j + 1)) 0 50)) 2 j 1) := by
      unfold sp_image
      rw [if_neg (ag_in1 hj), if_neg (fun z => c2 (h4.mp z)), nI_clamp (by omega)]
    rw [e]
    obtain ⟨hE, hZ, hT, hR, h1, h12, hV, hth, hG⟩ := id hI
    have ht : M 0 4 = 1 ∧ 1 ≤ nr := by
      rcases hth with ⟨z, -⟩ | z
      · exact absurd (h4.mp z) c2
      · exact z
    have m0 : ∀ i, mo_w (va_up M 0 (hs_blk (M 0) (50 * (j + 1)) 0 50)) 2 j 1 0 i = hs_blk (M 0) (50 * (j + 1)) 0 50 i := fun _ => rfl
    have bo : ∀ i, ¬ (50 * (j + 1) ≤ i ∧ i < 50 * (j + 1) + 50) → hs_blk (M 0) (50 * (j + 1)) 0 50 i = M 0 i := fun i hi => by unfold hs_blk; rw [if_neg hi]
    have bi : ∀ i, i < 50 → hs_blk (M 0) (50 * (j + 1)) 0 50 (50 * (j + 1) + i) = M 0 i := fun i hi => by
      unfold hs_blk
      rw [if_pos (by omega)]
      exact congrArg (M 0) (by omega)
    have hI' : ag_I C (mo_w (va_up M 0 (hs_blk (M 0) (50 * (j + 1)) 0 50)) 2 j 1) n nr a := by
      refine ag_I_of2 hI (ag_E_R (ag_E_R hE (by unfold ag_key; omega) _) (by unfold ag_key; omega) _) (fun i hi => ?_) rfl h12 rfl rfl rfl hZ hT hR
      rw [m0]
      exact bo i (by omega)
    obtain ⟨q1, q2⟩ := wl_img h (N := N) (M' := mo_w (va_up M 0 (hs_blk (M 0) (50 * (j + 1)) 0 50)) 2 j 1) hj b1 b2 b3 (fun i hi => by rw [m0]; exact bo i (by omega)) (fun i hi => by rw [m0]; exact bi i hi) (fun k hk hne => ⟨fun i z1 z2 => by rw [m0]; exact bo i (by omega), by
      show va_up (M 2) j 1 k = M 2 k
      exact va_up_ne _ _ hne⟩) (by
      show va_up (M 2) j 1 j = 1
      exact va_up_self _ _ _) ht.1 ht.2 ⟨a, hI'⟩
    exact ⟨rfl, q1, fun b hb => List.mem_append_left _ hb, oa, _, _, _, _, _, _, _, _, rfl, q2⟩
theorem wl_P_restore (h : wl_S D L F oa mo ma C M mk ad n nr im col) {ni : Nat → Nat} {gi : Nat → Nat → Int32} (hgi : ∀ j, j < 2 → ∀ b, im j = some b → (∃ nr', ag_V (fun i => M 0 (50 * (j + 1) + i)) (ni j) nr' ∧ 1 ≤ nr') ∧ M 2 j = 1 ∧ M 0 (50 * (j + 1) + 4) = 1 ∧ gi j = fun i => M 0 (50 * (j + 1) + i)) {k r : Int32} {u : hg_S} (hp : (hs_in k 0 1 = 0 ∧ r = hs_BAD ∧ u = (L, ob_W D F oa C mk im mk ad n (M 0))) ∨ (∃ j, j < 2 ∧ k = nI j ∧ im j = none ∧ r = hs_STATE ∧ u = (L, ob_W D F oa C mk im mk ad n (M 0))) ∨ ∃ j, j < 2 ∧ ∃ bi, k = nI j ∧ im j = some bi ∧ r = 1 ∧ ∃ mk2 ad2 N, mk2 ∉ L ∧ (∀ i, i < ni j + 2 → ad2 i ∉ L) ∧ mk_ok (L ++ N) mk2 ad2 (ni j) ∧ u = (L ++ N, ob_W D (mk_F D F mk ad n (M 0)) oa (mo_w C 1 0 0) mk2 im mk2 ad2 (ni j) (gi j))) : wl_P D L (oa 0) mo ma M r u (sp_restore M k) := by
  obtain ⟨a, hI⟩ := h.2.2.2.2.2.2.2.2.2.2
  have k10 := h.2.2.2.2.2.2.2.2.2.1
  rcases hp with ⟨c1, rfl, rfl⟩ | ⟨j, hj, rfl, c2, rfl, rfl⟩ | ⟨j, hj, bi, rfl, c2, rfl, mk2, ad2, N, b1, b2, b3, rfl⟩
  · have e : sp_restore M k = (hs_BAD, M) := by unfold sp_restore; rw [if_pos c1]
    rw [e]
    exact wl_P_ord h (P := (hs_BAD, C, M 0)) (ag_st0 hI _)
  · have e2 : M 2 j = 0 := by
      rcases k10 j hj with ⟨-, z⟩ | ⟨q, ad', n', nr', z, -⟩
      · exact z
      · rw [c2] at z; exact absurd z (by simp)
    have e : sp_restore M (nI j) = (hs_STATE, M) := by
      unfold sp_restore
      rw [if_neg (ag_in1 hj), nI_clamp (by omega), if_pos e2]
    rw [e]
    exact wl_P_ord h (P := (hs_STATE, C, M 0)) (ag_st0 hI _)
  · obtain ⟨⟨nr', hV', hn1⟩, z2, z4, zg⟩ := hgi j hj bi c2
    have e : sp_restore M (nI j) = (1, mo_w (va_up M 0 (hs_blk (M 0) 0 (50 * (j + 1)) 50)) 1 0 0) := by
      unfold sp_restore
      rw [if_neg (ag_in1 hj), nI_clamp (by omega), if_neg (by rw [z2]; decide)]
    rw [e]
    obtain ⟨hE, hZ, hT, hR, h1, h12, hV, hth, hG⟩ := id hI
    have m0 : ∀ i, mo_w (va_up M 0 (hs_blk (M 0) 0 (50 * (j + 1)) 50)) 1 0 0 0 i = hs_blk (M 0) 0 (50 * (j + 1)) 50 i := fun _ => rfl
    have bo : ∀ i, 50 ≤ i → hs_blk (M 0) 0 (50 * (j + 1)) 50 i = M 0 i := fun i hi => by unfold hs_blk; rw [if_neg (by omega)]
    have bi' : ∀ i, i < 50 → (fun i => M 0 (50 * (j + 1) + i)) i = mo_w (va_up M 0 (hs_blk (M 0) 0 (50 * (j + 1)) 50)) 1 0 0 0 i := fun i hi => by
      rw [m0]
      unfold hs_blk
      rw [if_pos (by omega)]
      exact congrArg (M 0) (by omega)
    have hI' : ag_I (mo_w C 1 0 0) (mo_w (va_up M 0 (hs_blk (M 0) 0 (50 * (j + 1)) 50)) 1 0 0) (ni j) nr' 0 := by
      refine ⟨?_, hZ, hT, hR, ⟨rfl, by omega⟩, h12, ag_V_c bi' hV', Or.inr ⟨by rw [← bi' 4 (by omega)]; exact z4, hn1⟩, fun i hi => absurd hi (by omega)⟩
      intro k hk
      by_cases c : k = 1
      · subst c
        show va_up (C 1) 0 0 = va_up (M 1) 0 0
        rw [hE 1 hk]
      · have k0 : k ≠ 0 := by unfold ag_key at hk; omega
        rw [mo_w, va_up_ne _ _ c, mo_w, va_up_ne _ _ c, va_up_ne _ _ k0]
        exact hE k hk
    obtain ⟨q1, q2⟩ := wl_new h (N := N) (C' := mo_w C 1 0 0) (M' := mo_w (va_up M 0 (hs_blk (M 0) 0 (50 * (j + 1)) 50)) 1 0 0) (g2 := gi j) b1 b2 b3 (fun F0 hh => mk_H_c hV'.1.1.2.1 (fun i hi => by rw [zg]; exact bi' i hi) hh) (fun i z1 z2 => by rw [m0]; exact bo i z1) rfl ⟨0, hI'⟩
    exact ⟨rfl, q1, fun b hb => List.mem_append_left _ hb, oa, _, _, _, _, _, _, _, _, rfl, q2⟩
end WM
theorem mk_H_4 {D : va_G} {F : Nat → va_E} {mk : Nat} {ad : Nat → Nat} {n : Nat} {g : Nat → Int32} (x : Int32) (hn : n ≤ 6) (h : mk_H D F mk ad n g) : mk_H D F mk ad n (va_up g 4 x) := by
  refine ⟨h.1, fun k hk => ?_⟩
  rw [h.2 k hk]
  match k, hk with
  | 0, _ =>
    show Sum.inl (D.1 11, 3, Sum.inl (mk_ta g)) = Sum.inl (D.1 11, 3, Sum.inl (mk_ta (va_up g 4 x)))
    have e : mk_ta g = mk_ta (va_up g 4 x) := by
      funext j
      simp only [mk_ta]
      by_cases c : j < 3
      · rw [if_pos c, if_pos c, va_up_ne _ _ (by omega)]
      · rw [if_neg c, if_neg c]
    rw [e]
  | 1, _ => rfl
  | i + 2, _ =>
    show Sum.inr (mk_kc (g (8 + i)), mk_st g i) = Sum.inr (mk_kc (va_up g 4 x (8 + i)), mk_st (va_up g 4 x) i)
    simp only [mk_st]
    rw [va_up_ne _ _ (show 8 + i ≠ 4 by omega), va_up_ne _ _ (show 14 + i ≠ 4 by omega), va_up_ne _ _ (show 20 + i ≠ 4 by omega), va_up_ne _ _ (show 26 + i ≠ 4 by omega), va_up_ne _ _ (show 32 + i ≠ 4 by omega), va_up_ne _ _ (show 38 + i ≠ 4 by omega), va_up_ne _ _ (show 44 + i ≠ 4 by omega)]
theorem ag_V_4 {g : Nat → Int32} {n nr : Nat} {x : Int32} (h : ag_V g n nr) : ag_V (va_up g 4 x) n nr := by
  obtain ⟨⟨h1, h2, h3, h4⟩, h5, h6, h7⟩ := h
  refine ⟨⟨mk_sr_up (by omega) h1, mk_t_up (by omega) h2, by rw [va_up_ne _ _ (by omega)]; exact h3, fun j hj => ?_⟩, fun p q hp hq => ?_, by rw [va_up_ne _ _ (by omega)]; exact h6, fun j hj => by rw [va_up_ne _ _ (by omega)]; exact h7 j hj⟩
  · rw [va_up_ne _ _ (show 14 + j ≠ 4 by omega), va_up_ne _ _ (show 20 + j ≠ 4 by omega), va_up_ne _ _ (show 26 + j ≠ 4 by omega), va_up_ne _ _ (show 32 + j ≠ 4 by omega), va_up_ne _ _ (show 38 + j ≠ 4 by omega)]
    exact h4 j hj
  · rw [va_up_ne _ _ (show 14 + p ≠ 4 by omega), va_up_ne _ _ (show 14 + q ≠ 4 by omega), va_up_ne _ _ (show 20 + p ≠ 4 by omega), va_up_ne _ _ (show 20 + q ≠ 4 by omega)]
    exact h5 p q hp hq
section WM
variable {D : va_G} {L : List Nat} {F : Nat → va_E} {oa : Nat → Nat} {mo : Nat} {ma : Nat → Nat} {C M : Nat → Nat → Int32} {mk : Nat} {ad : Nat → Nat} {n nr : Nat} {im : Nat → Option Nat} {col : Nat → Nat}
theorem mo_mk_k (M : Nat → Nat → Int32) (S : ps_S) {k : Nat} (h0 : k ≠ 0) (h9 : k ≠ 9) (h1 : k ≠ 11) (h2 : k ≠ 12) (h3 : k ≠ 13) (h4 : k ≠ 14) : mo_mk M S k = M k := by
  unfold mo_mk mo_ps mo_rd
  rw [mo_w, va_up_ne _ _ h9]
  show (if k = 0 then _ else _) = _
  rw [if_neg h0, if_neg h1, if_neg h2, if_neg h3, if_neg h4]
theorem mo_mk_o (M : Nat → Nat → Int32) (S : ps_S) {j : Nat} (h : ¬ (150 ≤ j ∧ j < 200)) : mo_mk M S 0 j = M 0 j := by
  show hs_ov (M 0) S.1 j = M 0 j
  unfold hs_ov
  rw [if_neg h]
theorem mo_mk_at (M : Nat → Nat → Int32) (S : ps_S) {j : Nat} (h : j < 50) : mo_mk M S 0 (150 + j) = S.1 j := mo_ps_at M S h
theorem wl_P_market (h : wl_S D L F oa mo ma C M mk ad n nr im col) {t s0 : Nat} (ht : M 9 0 = nI t) (ht1 : t ≤ 100) {r : Int32} {u : hg_S} (hp : ∃ mk2 ad2 N, mk2 ∉ L ∧ (∀ j, j < (cr_all C).2.2.2 + 2 → ad2 j ∉ L) ∧ mk_ok (L ++ N) mk2 ad2 (cr_all C).2.2.2 ∧ (((cr_all C).1 25 0 = 0 ∧ r = (cr_all C).2.1 3 ∧ u = (L ++ N, ob_W D (mk_F D F mk ad n (M 0)) oa (mo_w (mo_w (cr_all C).1 9 0 0) 1 0 0) mk2 im mk2 ad2 (cr_all C).2.2.2 (cr_all C).2.1)) ∨ (¬ (cr_all C).1 25 0 = 0 ∧ r = -1000100 - (cr_all C).1 26 0 ∧ u = (L ++ N, ob_W D (mk_F D F mk ad n (M 0)) oa (mo_w (mo_w (cr_all C).1 9 0 0) 10 0 ((cr_all C).1 25 0)) mk im mk2 ad2 (cr_all C).2.2.2 (cr_all C).2.1)))) : wl_P D L (oa 0) mo ma M r u (sp_market M t s0) := by
  obtain ⟨a, hI⟩ := h.2.2.2.2.2.2.2.2.2.2
  obtain ⟨hE, hZ, hT, hR, h1, h12, hV, hth, hG⟩ := id hI
  obtain ⟨hRR, hJ⟩ := ag_read (C := C) (M := M) s0 (hE 8 (by unfold ag_key; omega)) (hE 9 (by unfold ag_key; omega)) ht ht1
  have hkk := cr_kk_all C
  have hVV := cr_VV_all C
  have hNN := cr_N_all C
  unfold sp_market
  generalize cr_all C = X at hp hRR hJ hkk hVV hNN
  generalize ps_market M t s0 = Y at hRR ⊢
  obtain ⟨y, S⟩ := Y
  obtain ⟨mk2, ad2, N, b1, b2, b3, hp⟩ := hp
  have mk_ : ∀ k, k ≠ 0 → k ≠ 9 → k ≠ 11 → k ≠ 12 → k ≠ 13 → k ≠ 14 → mo_mk M S k = M k := fun k z0 z9 z1 z2 z3 z4 => mo_mk_k M S z0 z9 z1 z2 z3 z4
  have hZm : ag_Z (mo_mk M S) := ag_Z_c (mk_ 3 (by decide) (by decide) (by decide) (by decide) (by decide) (by decide)) (mk_ 4 (by decide) (by decide) (by decide) (by decide) (by decide) (by decide)) hZ
  have hRm : hs_tr (mo_mk M S) := by
    unfold hs_tr
    rw [mk_ 18 (by decide) (by decide) (by decide) (by decide) (by decide) (by decide)]
    exact hR
  have h9m : mo_mk M S 9 = va_up (M 9) 0 0 := rfl
  rcases hp with ⟨c1, rfl, rfl⟩ | ⟨c1, rfl, rfl⟩
  · rcases hRR with ⟨y1, y2, y3, y4⟩ | ⟨y1, y2⟩
    · have y1 : ¬ y = 0 := y1
      have y3 : S.1 = X.2.1 := y3
      rw [if_neg y1]
      have hV2 := cr_V_V (hVV c1)
      have e0 : ∀ j, mo_w (mo_w (va_up (mo_mk M S) 0 (hs_blk (mo_mk M S 0) 0 150 50)) 0 4 1) 1 0 0 0 j = va_up (hs_blk (mo_mk M S 0) 0 150 50) 4 1 j := fun _ => rfl
      have eb : ∀ j, j < 50 → va_up X.2.1 4 1 j = mo_w (mo_w (va_up (mo_mk M S) 0 (hs_blk (mo_mk M S 0) 0 150 50)) 0 4 1) 1 0 0 0 j := by
        intro j hj
        rw [e0]
        by_cases c : j = 4
        · rw [c, va_up_self, va_up_self]
        · rw [va_up_ne _ _ c, va_up_ne _ _ c, ← y3]
          unfold hs_blk
          rw [if_pos (by omega), ← mo_mk_at M S hj]
          exact congrArg (mo_mk M S 0) (by omega)
      have eo : ∀ j, 50 ≤ j → j < 150 → mo_w (mo_w (va_up (mo_mk M S) 0 (hs_blk (mo_mk M S 0) 0 150 50)) 0 4 1) 1 0 0 0 j = M 0 j := by
        intro j z1 z2
        rw [e0, va_up_ne _ _ (by omega)]
        unfold hs_blk
        rw [if_neg (by omega)]
        exact mo_mk_o M S (by omega)
      have ek : ∀ k, k ≠ 0 → k ≠ 1 → mo_w (mo_w (va_up (mo_mk M S) 0 (hs_blk (mo_mk M S 0) 0 150 50)) 0 4 1) 1 0 0 k = mo_mk M S k := by
        intro k z0 z1
        rw [mo_w, va_up_ne _ _ z1, mo_w, va_up_ne _ _ z0, va_up_ne _ _ z0]
      have hI' : ag_I (mo_w (mo_w X.1 9 0 0) 1 0 0) (mo_w (mo_w (va_up (mo_mk M S) 0 (hs_blk (mo_mk M S 0) 0 150 50)) 0 4 1) 1 0 0) X.2.2.2 X.2.2.1 0 := by
        refine ⟨?_, ag_Z_c (ek 3 (by decide) (by decide)) (ek 4 (by decide) (by decide)) hZm, ⟨0, by omega, by rw [ek 9 (by decide) (by decide), h9m, va_up_self]; rfl⟩, ?_, ⟨rfl, by omega⟩, ⟨S.2.2.1, by rw [ek 12 (by decide) (by decide)]; rfl⟩, ag_V_c eb (ag_V_4 hV2), Or.inr ⟨by rw [← eb 4 (by omega), va_up_self], hNN c1⟩, fun i hi => absurd hi (by omega)⟩
        · intro k hk
          by_cases c : k = 1
          · subst c
            show va_up (X.1 1) 0 0 = va_up (mo_mk M S 1) 0 0
            rw [mk_ 1 (by decide) (by decide) (by decide) (by decide) (by decide) (by decide), hkk 1 (by decide) (by decide) (by decide), hE 1 hk]
          · rw [mo_w, va_up_ne _ _ c, ek k (by unfold ag_key at hk; omega) c]
            by_cases c9 : k = 9
            · subst c9
              show va_up (X.1 9) 0 0 = va_up (M 9) 0 0
              rw [hkk 9 (by decide) (by decide) (by decide), hE 9 hk]
            · rw [mo_w, va_up_ne _ _ c9, mk_ k (by unfold ag_key at hk; omega) c9 (by unfold ag_key at hk; omega) (by unfold ag_key at hk; omega) (by unfold ag_key at hk; omega) (by unfold ag_key at hk; omega), hkk k (by unfold ag_key at hk; omega) (by unfold ag_key at hk; omega) (by unfold ag_key at hk; omega), hE k hk]
        · unfold hs_tr
          rw [ek 18 (by decide) (by decide)]
          exact hRm
      obtain ⟨q1, q2⟩ := wl_new h (N := N) (C' := mo_w (mo_w X.1 9 0 0) 1 0 0) (M' := mo_w (mo_w (va_up (mo_mk M S) 0 (hs_blk (mo_mk M S 0) 0 150 50)) 0 4 1) 1 0 0) (g2 := X.2.1) b1 b2 b3 (fun F0 hh => mk_H_c hV2.1.1.2.1 eb (mk_H_4 1 hV2.1.1.2.1 hh)) eo (by rw [ek 2 (by decide) (by decide), mk_ 2 (by decide) (by decide) (by decide) (by decide) (by decide) (by decide)]) ⟨0, hI'⟩
      exact ⟨congrFun y3.symm 3, q1, fun b hb => List.mem_append_left _ hb, oa, _, _, _, _, _, _, _, _, rfl, q2⟩
    · exact absurd c1 (fun z => y2.2.1 (y2.1.symm.trans z))
  · rcases hRR with ⟨y1, y2, y3, y4⟩ | ⟨y1, y2⟩
    · exact absurd y2.1 c1
    · have y1 : y = 0 := y1
      have yf : X.1 25 0 = S.2.2.2.1 := y2.1
      have yq : X.1 26 0 = nI S.2.2.1 := y2.2.2
      rw [if_pos y1]
      have ek : ∀ k, k ≠ 10 → mo_w (mo_mk M S) 10 0 S.2.2.2.1 k = mo_mk M S k := fun k z => by rw [mo_w, va_up_ne _ _ z]
      have hst : ag_st M n nr (-1000100 - X.1 26 0, mo_w (mo_w X.1 9 0 0) 10 0 (X.1 25 0), M 0) (-1000100 - nI S.2.2.1, mo_w (mo_mk M S) 10 0 S.2.2.2.1) := by
        refine ag_mk (a := a) (by rw [yq]) (ag_I_of2 hI ?_ (fun j hj => by rw [ek 0 (by decide)]; exact mo_mk_o M S (by omega)) (by rw [ek 1 (by decide), mk_ 1 (by decide) (by decide) (by decide) (by decide) (by decide) (by decide)]) ⟨S.2.2.1, by rw [ek 12 (by decide)]; rfl⟩ ?_ ?_ ?_ (ag_Z_c (ek 3 (by decide)) (ek 4 (by decide)) hZm) ⟨0, by omega, by rw [ek 9 (by decide), h9m, va_up_self]; rfl⟩ ?_) (fun j hj => by rw [ek 0 (by decide)]; exact (mo_mk_o M S (by omega)).symm) (fun j z1 z2 => by rw [ek 0 (by decide)]; exact mo_mk_o M S (by omega)) (by rw [ek 2 (by decide), mk_ 2 (by decide) (by decide) (by decide) (by decide) (by decide) (by decide)])
        · intro k hk
          by_cases c : k = 10
          · subst c
            show va_up (X.1 10) 0 (X.1 25 0) = va_up (mo_mk M S 10) 0 S.2.2.2.1
            rw [yf, mk_ 10 (by decide) (by decide) (by decide) (by decide) (by decide) (by decide), hkk 10 (by decide) (by decide) (by decide), hE 10 hk]
          · rw [mo_w, va_up_ne _ _ c, ek k c]
            by_cases c9 : k = 9
            · subst c9
              show va_up (X.1 9) 0 0 = va_up (M 9) 0 0
              rw [hkk 9 (by decide) (by decide) (by decide), hE 9 hk]
            · rw [mo_w, va_up_ne _ _ c9, mk_ k (by unfold ag_key at hk; omega) c9 (by unfold ag_key at hk; omega) (by unfold ag_key at hk; omega) (by unfold ag_key at hk; omega) (by unfold ag_key at hk; omega), hkk k (by unfold ag_key at hk; omega) (by unfold ag_key at hk; omega) (by unfold ag_key at hk; omega), hE k hk]
        · exact hkk 21 (by decide) (by decide) (by decide)
        · exact hkk 22 (by decide) (by decide) (by decide)
        · exact hkk 23 (by decide) (by decide) (by decide)
        · unfold hs_tr
          rw [ek 18 (by decide)]
          exact hRm
      obtain ⟨q1, q2⟩ := wl_waste h (N := N) (g2 := X.2.1) b1 b2 ⟨_, _, hst⟩
      exact ⟨by rw [yq], q1, fun b hb => List.mem_append_left _ hb, oa, _, _, _, _, _, _, _, _, rfl, q2⟩
end WM
