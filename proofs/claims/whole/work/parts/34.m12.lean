set_option maxRecDepth 100000 in
set_option maxHeartbeats 4000000 in
/-- takes -/
theorem c_X12_takes (l : Launch) (D : va_G) (b0 : Nat) (L : List Nat) (f : Nat → va_E) (mo : Nat) (ma : Nat → Nat) (M : Nat → Nat → Int32) (hm : mo_ok L mo ma) (t : Nat) (ht : M 9 0 = nI t) (ht1 : t ≤ 100) (S : ps_S) (hS : S.2.1 ≤ t) (ch : Int32) : mo_Fi l yX12_takes wsX12_takes ({ frames := 1, cells := 0, slots := 0, locals := 21 }) D b0 L f mo ma ((mo_ps M S)) [.int (ch)] ((ps_takes M ch S).1) (mo_ps M (ps_takes M ch S).2) := by
  refine hg_in_i (cc := cX12_takes) (nL := 3) (by decide) rfl (Nat.le_of_ble_eq_true rfl) (fun p e s m args below meth c R Q X hR hend H locs ls w hl => ?_)
  subst hR
  obtain ⟨hx, hb, hml, hown, hts⟩ := id X.1
  have hin : ∀ w ∈ wsX120, w ∈ wsX12_takes := fun w h => List.mem_cons_of_mem _ (List.mem_append_right _ h)
  have hl : lv_has ls 3 [(0, .ref mo), (1, .int (ch))] := hl
  refine lv_aload_n hx hb dX12_takes_0 rfl (lv_at hl 0 rfl) ?_
  refine lv_aload_n hx hb dX12_takes_1 rfl (lv_at hl 0 rfl) ?_
  refine mo_get (v := .int (nI S.2.1)) X w hm hin 11 (by decide) (List.mem_of_getElem? (i := 1) rfl) rfl dX12_takes_2 ?_
  refine mo_put X w hm hin 12 (by decide) (List.mem_of_getElem? (i := 2) rfl) dX12_takes_5 (fun H locs w => ?_)
  rw [mo_ps, mo_rd_12] at w
  have w : hg_W D b0 L (mo_F D f mo ma (mo_ps M (S.1, S.2.1, S.2.1, S.2.2.2.1, S.2.2.2.2))) s.heap H locs := w
  refine lv_aload_n hx hb dX12_takes_8 rfl (lv_at hl 0 rfl) ?_
  refine lv_iconst (v := 1) hx hb dX12_takes_9 (by decide) ?_
  refine mo_put X w hm hin 13 (by decide) (List.mem_of_getElem? (i := 3) rfl) dX12_takes_10 (fun H locs w => ?_)
  rw [mo_ps, mo_rd_13] at w
  have w : hg_W D b0 L (mo_F D f mo ma (mo_ps M (S.1, S.2.1, S.2.1, 1, S.2.2.2.2))) s.heap H locs := w
  refine lv_aload_n hx hb dX12_takes_13 rfl (lv_at hl 0 rfl) ?_
  refine lv_aload_n hx hb dX12_takes_14 rfl (lv_at hl 0 rfl) ?_
  refine mo_get (v := .int (nI S.2.1)) X w hm hin 11 (by decide) (List.mem_of_getElem? (i := 1) rfl) rfl dX12_takes_15 ?_
  refine hg_viF (r := (hs_byte M S.2.1)) (As := [.int (nI S.2.1)]) (rest := []) X w (c_X12_byteAt l D b0 L f mo ma (mo_ps M (S.1, S.2.1, S.2.1, 1, S.2.2.2.2)) hm t ht ht1 S.2.1 (by omega)) (cwV 1 hts gX12_takes_X12_byteAt rfl rfl rfl hdX12_byteAt ⟨Nat.le_of_ble_eq_true rfl, Nat.le_of_ble_eq_true rfl⟩) hm.1 (mo_at0 D f mo ma _) rfl rfl rfl hl.1 rfl (Nat.le_of_ble_eq_true rfl) dX12_takes_18 ⟨Nat.zero_le _, Nat.zero_le _⟩ (fun H locs w => ?_)
  refine lv_iload_n hx hb dX12_takes_21 rfl (lv_at hl 1 rfl) ?_
  refine lv_icmp_ne (tgt := 29) hx hb dX12_takes_22 (by decide) (fun c_22 => ?_) (fun c_22 => ?_)
  · refine lv_iconst (v := 0) hx hb dX12_takes_29 (by decide) ?_
    refine lv_istore_n (lv' := [(2, .int (0)), (0, .ref mo), (1, .int (ch))]) hx hb dX12_takes_30 rfl hl (by decide) rfl (fun ls hl => ?_)
    refine lv_aload_n hx hb dX12_takes_31 rfl (lv_at hl 1 rfl) ?_
    refine lv_dup hx hb dX12_takes_32 rfl ?_
    refine mo_get (v := .int (nI S.2.1)) X w hm hin 11 (by decide) (List.mem_of_getElem? (i := 1) rfl) rfl dX12_takes_33 ?_
    refine lv_iload_n hx hb dX12_takes_36 rfl (lv_at hl 0 rfl) ?_
    refine lv_if_eq (tgt := 44) hx hb dX12_takes_37 (by decide) (fun c_37 => ?_) (fun c_37 => ?_)
    · refine lv_iconst (v := 0) hx hb dX12_takes_44 (by decide) ?_
      refine lv_iadd hx hb dX12_takes_45 ?_
      refine mo_put X w hm hin 11 (by decide) (List.mem_of_getElem? (i := 1) rfl) dX12_takes_46 (fun H locs w => ?_)
      rw [mo_ps, mo_rd_11, show (nI S.2.1 + 0) = nI (S.2.1) from (by simp)] at w
      have w : hg_W D b0 L (mo_F D f mo ma (mo_ps M (S.1, S.2.1, S.2.1, 1, S.2.2.2.2))) s.heap H locs := w
      refine lv_iload_n hx hb dX12_takes_49 rfl (lv_at hl 0 rfl) ?_
      exact hend H locs (0) (L, mo_F D f mo ma (mo_ps M (S.1, S.2.1, S.2.1, 1, S.2.2.2.2))) _ ls w ⟨(by unfold ps_takes; rw [if_neg c_22]), (congrArg (fun z => (L, mo_F D f mo ma (mo_ps M z))) (by unfold ps_takes; rw [if_neg c_22]))⟩ (by decide) dX12_takes_50
    · exact absurd c_37 (by decide)
  · refine lv_iconst (v := 1) hx hb dX12_takes_25 (by decide) ?_
    refine lv_goto (tgt := 30) hx hb dX12_takes_26 (by decide) ?_
    refine lv_istore_n (lv' := [(2, .int (1)), (0, .ref mo), (1, .int (ch))]) hx hb dX12_takes_30 rfl hl (by decide) rfl (fun ls hl => ?_)
    refine lv_aload_n hx hb dX12_takes_31 rfl (lv_at hl 1 rfl) ?_
    refine lv_dup hx hb dX12_takes_32 rfl ?_
    refine mo_get (v := .int (nI S.2.1)) X w hm hin 11 (by decide) (List.mem_of_getElem? (i := 1) rfl) rfl dX12_takes_33 ?_
    refine lv_iload_n hx hb dX12_takes_36 rfl (lv_at hl 0 rfl) ?_
    refine lv_if_eq (tgt := 44) hx hb dX12_takes_37 (by decide) (fun c_37 => ?_) (fun c_37 => ?_)
    · exact absurd c_37 (by decide)
    · refine lv_iconst (v := 1) hx hb dX12_takes_40 (by decide) ?_
      refine lv_goto (tgt := 45) hx hb dX12_takes_41 (by decide) ?_
      refine lv_iadd hx hb dX12_takes_45 ?_
      refine mo_put X w hm hin 11 (by decide) (List.mem_of_getElem? (i := 1) rfl) dX12_takes_46 (fun H locs w => ?_)
      rw [mo_ps, mo_rd_11, show (nI S.2.1 + 1) = nI (S.2.1 + 1) from (nI_1 _)] at w
      have w : hg_W D b0 L (mo_F D f mo ma (mo_ps M (S.1, S.2.1 + 1, S.2.1, 1, S.2.2.2.2))) s.heap H locs := w
      refine lv_iload_n hx hb dX12_takes_49 rfl (lv_at hl 0 rfl) ?_
      exact hend H locs (1) (L, mo_F D f mo ma (mo_ps M (S.1, S.2.1 + 1, S.2.1, 1, S.2.2.2.2))) _ ls w ⟨(by unfold ps_takes; rw [if_pos c_22]), (congrArg (fun z => (L, mo_F D f mo ma (mo_ps M z))) (by unfold ps_takes; rw [if_pos c_22]))⟩ (by decide) dX12_takes_50
theorem hdX12_isFigure : yX12_isFigure.cls = RX12 ∧ yX12_isFigure.cls ≠ "java/lang/invoke/MethodHandle" ∧ yX12_isFigure.cls ≠ "java/lang/invoke/VarHandle" ∧ (parseMethodDescriptor yX12_isFigure.desc).map (fun d => d.parameters.length) = some 1 := by decide +kernel
set_option maxRecDepth 100000 in
set_option maxHeartbeats 4000000 in
/-- takesNumber -/
theorem c_X12_takesNumber (l : Launch) (D : va_G) (b0 : Nat) (L : List Nat) (f : Nat → va_E) (mo : Nat) (ma : Nat → Nat) (M : Nat → Nat → Int32) (hm : mo_ok L mo ma) (t : Nat) (ht : M 9 0 = nI t) (ht1 : t ≤ 100) (S : ps_S) (hS : S.2.1 ≤ t) (lo hi : Int32) : mo_Fi l yX12_takesNumber wsX12_takesNumber ({ frames := 2, cells := 0, slots := 0, locals := 46 }) D b0 L f mo ma ((mo_ps M S)) [.int (lo), .int (hi)] ((ps_num M lo hi S).1) (mo_ps M (ps_num M lo hi S).2) := by
  refine hg_in_i (cc := cX12_takesNumber) (nL := 4) (by decide) rfl (Nat.le_of_ble_eq_true rfl) (fun p e s m args below meth c R Q X hR hend H locs ls w hl => ?_)
  subst hR
  obtain ⟨hx, hb, hml, hown, hts⟩ := id X.1
  have hin : ∀ w ∈ wsX120, w ∈ wsX12_takesNumber := fun w h => List.mem_cons_of_mem _ (List.mem_append_right _ h)
  have hl : lv_has ls 4 [(0, .ref mo), (1, .int (lo)), (2, .int (hi))] := hl
  refine lv_aload_n hx hb dX12_takesNumber_0 rfl (lv_at hl 0 rfl) ?_
  refine lv_aload_n hx hb dX12_takesNumber_1 rfl (lv_at hl 0 rfl) ?_
  refine mo_get (v := .int (nI S.2.1)) X w hm hin 11 (by decide) (List.mem_of_getElem? (i := 1) rfl) rfl dX12_takesNumber_2 ?_
  refine mo_put X w hm hin 12 (by decide) (List.mem_of_getElem? (i := 2) rfl) dX12_takesNumber_5 (fun H locs w => ?_)
  rw [mo_ps, mo_rd_12] at w
  have w : hg_W D b0 L (mo_F D f mo ma (mo_ps M (S.1, S.2.1, S.2.1, S.2.2.2.1, S.2.2.2.2))) s.heap H locs := w
  refine lv_aload_n hx hb dX12_takesNumber_8 rfl (lv_at hl 0 rfl) ?_
  refine lv_iconst (v := 1) hx hb dX12_takesNumber_9 (by decide) ?_
  refine mo_put X w hm hin 13 (by decide) (List.mem_of_getElem? (i := 3) rfl) dX12_takesNumber_10 (fun H locs w => ?_)
  rw [mo_ps, mo_rd_13] at w
  have w : hg_W D b0 L (mo_F D f mo ma (mo_ps M (S.1, S.2.1, S.2.1, 1, S.2.2.2.2))) s.heap H locs := w
  refine lv_iconst (v := 0) hx hb dX12_takesNumber_13 (by decide) ?_
  refine lv_istore_n (lv' := [(3, .int (0)), (0, .ref mo), (1, .int (lo)), (2, .int (hi))]) hx hb dX12_takesNumber_14 rfl hl (by decide) rfl (fun ls hl => ?_)
  refine lv_aload_n hx hb dX12_takesNumber_15 rfl (lv_at hl 1 rfl) ?_
  refine lv_iconst (v := 0) hx hb dX12_takesNumber_16 (by decide) ?_
  refine mo_put X w hm hin 14 (by decide) (List.mem_of_getElem? (i := 4) rfl) dX12_takesNumber_17 (fun H locs w => ?_)
  rw [mo_ps, mo_rd_14] at w
  have w : hg_W D b0 L (mo_F D f mo ma (mo_ps M (S.1, S.2.1, S.2.1, 1, 0))) s.heap H locs := w
  obtain ⟨hf1, hf2, hf3⟩ := hs_nf_ok M ht ht1 102 S.2.1 (by omega)
  obtain ⟨N0, hN0⟩ : ∃ z, hs_n M S.2.1 = z := ⟨_, rfl⟩
  have hN1 : hs_nf M S.2.1 102 = N0 := hN0
  rw [hN1] at hf1 hf2 hf3
  have hf3 := hf3 hS
  have loop : ∀ (n0 k : Nat), k ≤ N0 → N0 + 1 ≤ k + n0 → ∀ (H : Heap) (locs : List Loc) (ls : Array Slot), hg_W D b0 L (mo_F D f mo ma (mo_ps M (S.1, S.2.1, S.2.1, 1, hs_val M S.2.1 k))) s.heap H locs → lv_has ls 4 [(0, .ref mo), (1, .int (lo)), (2, .int (hi)), (3, .int (nI k))] → W p l e ({ frames := 2, cells := 0, slots := 0, locals := 46 }) s m args below meth c H locs 0 0 Q (F0 m 20 ls []) := by
    intro n0
    induction n0 with
    | zero =>
      intro k h1 h2
      exact absurd h2 (by omega)
    | succ n0 ih =>
      intro k hk hn0 H locs ls w hl
      refine lv_aload_n hx hb dX12_takesNumber_20 rfl (lv_at hl 0 rfl) ?_
      refine lv_aload_n hx hb dX12_takesNumber_21 rfl (lv_at hl 0 rfl) ?_
      refine mo_get (v := .int (nI S.2.1)) X w hm hin 11 (by decide) (List.mem_of_getElem? (i := 1) rfl) rfl dX12_takesNumber_22 ?_
      refine lv_iload_n hx hb dX12_takesNumber_25 rfl (lv_at hl 3 rfl) ?_
      refine lv_iadd hx hb dX12_takesNumber_26 ?_
      rw [show nI S.2.1 + nI k = nI (S.2.1 + k) from nI_add _ _]
      refine hg_viF (r := (hs_fig M (S.2.1 + k))) (As := [.int (nI (S.2.1 + k))]) (rest := []) X w (c_X12_isFigure l D b0 L f mo ma (mo_ps M (S.1, S.2.1, S.2.1, 1, hs_val M S.2.1 k)) hm t ht ht1 (S.2.1 + k) (by omega)) (cwV 1 hts gX12_takesNumber_X12_isFigure rfl rfl rfl hdX12_isFigure ⟨Nat.le_of_ble_eq_true rfl, Nat.le_of_ble_eq_true rfl⟩) hm.1 (mo_at0 D f mo ma _) rfl rfl rfl hl.1 rfl (Nat.le_of_ble_eq_true rfl) dX12_takesNumber_27 ⟨Nat.zero_le _, Nat.zero_le _⟩ (fun H locs w => ?_)
      refine lv_if_eq (tgt := 76) hx hb dX12_takesNumber_30 (by decide) (fun c_30 => ?_) (fun c_30 => ?_)
      · have hk0 : N0 = k := by
          rcases Nat.lt_or_ge k N0 with q | q
          · exact absurd c_30 (hf1 k q)
          · omega
        subst hk0
        refine lv_iload_n hx hb dX12_takesNumber_76 rfl (lv_at hl 3 rfl) ?_
        refine lv_if_eq (tgt := 85) hx hb dX12_takesNumber_77 (by decide) (fun c_77 => ?_) (fun c_77 => ?_)
        · have hz0 : N0 = 0 := (nI_eq (by omega) (by decide)).mp c_77
          refine lv_iconst (v := 0) hx hb dX12_takesNumber_85 (by decide) ?_
          exact hend H locs (0) (L, mo_F D f mo ma (mo_ps M (S.1, S.2.1, S.2.1, 1, hs_val M S.2.1 N0))) _ ls w ⟨(by unfold ps_num; rw [hN0]; rw [if_pos (Or.inl hz0)]), (congrArg (fun z => (L, mo_F D f mo ma (mo_ps M z))) (by unfold ps_num; rw [hN0]; rw [if_pos (Or.inl hz0)]))⟩ (by decide) dX12_takesNumber_86
        · have hz0 : ¬ N0 = 0 := fun q => c_77 (by rw [q]; rfl)
          refine lv_iload_n hx hb dX12_takesNumber_80 rfl (lv_at hl 3 rfl) ?_
          refine lv_iconst (v := 2) hx hb dX12_takesNumber_81 (by decide) ?_
          refine lv_icmp_le (tgt := 87) hx hb dX12_takesNumber_82 (by decide) (fun c_82 => ?_) (fun c_82 => ?_)
          · have hz2 : ¬ 2 < N0 := fun q => nI_ge (a := 2) q (by omega) c_82
            refine lv_aload_n hx hb dX12_takesNumber_87 rfl (lv_at hl 0 rfl) ?_
            refine lv_dup hx hb dX12_takesNumber_88 rfl ?_
            refine mo_get (v := .int (nI S.2.1)) X w hm hin 11 (by decide) (List.mem_of_getElem? (i := 1) rfl) rfl dX12_takesNumber_89 ?_
            refine lv_iload_n hx hb dX12_takesNumber_92 rfl (lv_at hl 3 rfl) ?_
            refine lv_iadd hx hb dX12_takesNumber_93 ?_
            refine mo_put X w hm hin 11 (by decide) (List.mem_of_getElem? (i := 1) rfl) dX12_takesNumber_94 (fun H locs w => ?_)
            rw [mo_ps, mo_rd_11, show (nI S.2.1 + nI N0) = nI (S.2.1 + N0) from (nI_add _ _)] at w
            have w : hg_W D b0 L (mo_F D f mo ma (mo_ps M (S.1, S.2.1 + N0, S.2.1, 1, hs_val M S.2.1 N0))) s.heap H locs := w
            refine lv_aload_n hx hb dX12_takesNumber_97 rfl (lv_at hl 0 rfl) ?_
            refine lv_iconst (v := 2) hx hb dX12_takesNumber_98 (by decide) ?_
            refine mo_put X w hm hin 13 (by decide) (List.mem_of_getElem? (i := 3) rfl) dX12_takesNumber_99 (fun H locs w => ?_)
            rw [mo_ps, mo_rd_13] at w
            have w : hg_W D b0 L (mo_F D f mo ma (mo_ps M (S.1, S.2.1 + N0, S.2.1, 2, hs_val M S.2.1 N0))) s.heap H locs := w
            refine lv_aload_n hx hb dX12_takesNumber_102 rfl (lv_at hl 0 rfl) ?_
            refine mo_get (v := .int (hs_val M S.2.1 N0)) X w hm hin 14 (by decide) (List.mem_of_getElem? (i := 4) rfl) rfl dX12_takesNumber_103 ?_
            refine lv_i2l hx hb dX12_takesNumber_106 rfl ?_
            refine lv_iload_n hx hb dX12_takesNumber_107 rfl (lv_at hl 1 rfl) ?_
            refine lv_i2l hx hb dX12_takesNumber_108 rfl ?_
            refine lv_iload_n hx hb dX12_takesNumber_109 rfl (lv_at hl 2 rfl) ?_
            refine lv_i2l hx hb dX12_takesNumber_110 rfl ?_
            refine hg_siF (r := hs_in (hs_val M S.2.1 N0) lo hi) (As := [.long ((hs_val M S.2.1 N0).toInt64), .long ((lo).toInt64), .long ((hi).toInt64)]) (rest := []) X w (c_X12_in l D b0 L _ ((hs_val M S.2.1 N0).toInt64) ((lo).toInt64) ((hi).toInt64) (hs_val M S.2.1 N0) lo hi rfl rfl rfl) (va_cwS 3 hts gX12_takesNumber_X12_in rfl rfl rfl hdX12_in ⟨Nat.le_of_ble_eq_true rfl, Nat.le_of_ble_eq_true rfl⟩) rfl hl.1 rfl (Nat.le_of_ble_eq_true rfl) dX12_takesNumber_111 ⟨Nat.zero_le _, Nat.zero_le _⟩ (fun H locs w => ?_)
            exact hend H locs (hs_in (hs_val M S.2.1 N0) lo hi) (L, mo_F D f mo ma (mo_ps M (S.1, S.2.1 + N0, S.2.1, 2, hs_val M S.2.1 N0))) _ ls w ⟨(by unfold ps_num; rw [hN0]; rw [if_neg (fun q => q.elim hz0 hz2)]), (congrArg (fun z => (L, mo_F D f mo ma (mo_ps M z))) (by unfold ps_num; rw [hN0]; rw [if_neg (fun q => q.elim hz0 hz2)]))⟩ (by unfold hs_in; split <;> decide) dX12_takesNumber_114
          · have hz2 : 2 < N0 := by
              rcases Nat.lt_or_ge 2 N0 with q | q
              · exact q
              · exact absurd (nI_le (b := 2) q (by omega)) c_82
            refine lv_iconst (v := 0) hx hb dX12_takesNumber_85 (by decide) ?_
            exact hend H locs (0) (L, mo_F D f mo ma (mo_ps M (S.1, S.2.1, S.2.1, 1, hs_val M S.2.1 N0))) _ ls w ⟨(by unfold ps_num; rw [hN0]; rw [if_pos (Or.inr hz2)]), (congrArg (fun z => (L, mo_F D f mo ma (mo_ps M z))) (by unfold ps_num; rw [hN0]; rw [if_pos (Or.inr hz2)]))⟩ (by decide) dX12_takesNumber_86
      · have hkl : k < N0 := by
          rcases Nat.lt_or_ge k N0 with q | q
          · exact q
          · exact absurd (by rw [show k = N0 by omega]; exact hf2) c_30
        refine lv_aload_n hx hb dX12_takesNumber_33 rfl (lv_at hl 0 rfl) ?_
        refine lv_iload_n hx hb dX12_takesNumber_34 rfl (lv_at hl 3 rfl) ?_
        refine lv_iconst (v := 2) hx hb dX12_takesNumber_35 (by decide) ?_
        refine lv_icmp_ge (tgt := 63) hx hb dX12_takesNumber_36 (by decide) (fun c_36 => ?_) (fun c_36 => ?_)
        · have h2k : 2 ≤ k := (nI_leI (a := 2) (b := k) (by omega) (by omega)).mp c_36
          refine lv_aload_n hx hb dX12_takesNumber_63 rfl (lv_at hl 0 rfl) ?_
          refine mo_get (v := .int (hs_val M S.2.1 k)) X w hm hin 14 (by decide) (List.mem_of_getElem? (i := 4) rfl) rfl dX12_takesNumber_64 ?_
          refine mo_put X w hm hin 14 (by decide) (List.mem_of_getElem? (i := 4) rfl) dX12_takesNumber_67 (fun H locs w => ?_)
          rw [mo_ps, mo_rd_14] at w
          have w : hg_W D b0 L (mo_F D f mo ma (mo_ps M (S.1, S.2.1, S.2.1, 1, hs_val M S.2.1 k))) s.heap H locs := w
          refine lv_iinc (v := nI k + 1) (lv' := [(3, .int (nI k + 1)), (0, .ref mo), (1, .int (lo)), (2, .int (hi))]) hx hb dX12_takesNumber_70 hl (k := 3) rfl rfl (by decide) rfl (fun ls hl => ?_)
          refine lv_goto (tgt := 20) hx hb dX12_takesNumber_73 (by decide) ?_
          have hl := hs_lv hl (k := 0) rfl (nI_1 k)
          exact ih (k + 1) (by omega) (by omega) H locs ls (by rw [show (hs_val M S.2.1 k) = hs_val M S.2.1 (k + 1) from (if_pos h2k).symm] at w; exact w) (lv_sub hl [1, 2, 3, 0] rfl)
        · have h2k : ¬ 2 ≤ k := fun q => c_36 (nI_le (a := 2) q (by omega))
          refine lv_bipush (v := 10) hx hb dX12_takesNumber_39 (by decide) ?_
          refine lv_aload_n hx hb dX12_takesNumber_41 rfl (lv_at hl 0 rfl) ?_
          refine mo_get (v := .int (hs_val M S.2.1 k)) X w hm hin 14 (by decide) (List.mem_of_getElem? (i := 4) rfl) rfl dX12_takesNumber_42 ?_
          refine lv_imul hx hb dX12_takesNumber_45 ?_
          refine lv_aload_n hx hb dX12_takesNumber_46 rfl (lv_at hl 0 rfl) ?_
          refine lv_aload_n hx hb dX12_takesNumber_47 rfl (lv_at hl 0 rfl) ?_
          refine mo_get (v := .int (nI S.2.1)) X w hm hin 11 (by decide) (List.mem_of_getElem? (i := 1) rfl) rfl dX12_takesNumber_48 ?_
          refine lv_iload_n hx hb dX12_takesNumber_51 rfl (lv_at hl 3 rfl) ?_
          refine lv_iadd hx hb dX12_takesNumber_52 ?_
          rw [show nI S.2.1 + nI k = nI (S.2.1 + k) from nI_add _ _]
          refine hg_viF (r := (hs_byte M (S.2.1 + k))) (As := [.int (nI (S.2.1 + k))]) (rest := [.int ((10 * hs_val M S.2.1 k)), .ref mo]) X w (c_X12_byteAt l D b0 L f mo ma (mo_ps M (S.1, S.2.1, S.2.1, 1, hs_val M S.2.1 k)) hm t ht ht1 (S.2.1 + k) (by omega)) (cwV 1 hts gX12_takesNumber_X12_byteAt rfl rfl rfl hdX12_byteAt ⟨Nat.le_of_ble_eq_true rfl, Nat.le_of_ble_eq_true rfl⟩) hm.1 (mo_at0 D f mo ma _) rfl rfl rfl hl.1 rfl (Nat.le_of_ble_eq_true rfl) dX12_takesNumber_53 ⟨Nat.zero_le _, Nat.zero_le _⟩ (fun H locs w => ?_)
          refine lv_iadd hx hb dX12_takesNumber_56 ?_
          refine lv_bipush (v := 48) hx hb dX12_takesNumber_57 (by decide) ?_
          refine lv_isub hx hb dX12_takesNumber_59 ?_
          refine lv_goto (tgt := 67) hx hb dX12_takesNumber_60 (by decide) ?_
          refine mo_put X w hm hin 14 (by decide) (List.mem_of_getElem? (i := 4) rfl) dX12_takesNumber_67 (fun H locs w => ?_)
          rw [mo_ps, mo_rd_14] at w
          have w : hg_W D b0 L (mo_F D f mo ma (mo_ps M (S.1, S.2.1, S.2.1, 1, (((10 * hs_val M S.2.1 k) + (hs_byte M (S.2.1 + k))) - 48)))) s.heap H locs := w
          refine lv_iinc (v := nI k + 1) (lv' := [(3, .int (nI k + 1)), (0, .ref mo), (1, .int (lo)), (2, .int (hi))]) hx hb dX12_takesNumber_70 hl (k := 3) rfl rfl (by decide) rfl (fun ls hl => ?_)
          refine lv_goto (tgt := 20) hx hb dX12_takesNumber_73 (by decide) ?_
          have hl := hs_lv hl (k := 0) rfl (nI_1 k)
          exact ih (k + 1) (by omega) (by omega) H locs ls (by rw [show (((10 * hs_val M S.2.1 k) + (hs_byte M (S.2.1 + k))) - 48) = hs_val M S.2.1 (k + 1) from (if_neg h2k).symm] at w; exact w) (lv_sub hl [1, 2, 3, 0] rfl)
  exact loop (N0 + 1) 0 (by omega) (by omega) H locs ls w (lv_sub hl [1, 2, 3, 0] rfl)
