theorem hdX12_takes : yX12_takes.cls = RX12 ∧ yX12_takes.cls ≠ "java/lang/invoke/MethodHandle" ∧ yX12_takes.cls ≠ "java/lang/invoke/VarHandle" ∧ (parseMethodDescriptor yX12_takes.desc).map (fun d => d.parameters.length) = some 1 := by decide +kernel
theorem hdX12_takesNumber : yX12_takesNumber.cls = RX12 ∧ yX12_takesNumber.cls ≠ "java/lang/invoke/MethodHandle" ∧ yX12_takesNumber.cls ≠ "java/lang/invoke/VarHandle" ∧ (parseMethodDescriptor yX12_takesNumber.desc).map (fun d => d.parameters.length) = some 2 := by decide +kernel
set_option maxRecDepth 100000 in
set_option maxHeartbeats 4000000 in
/-- takesLaw -/
theorem c_X12_takesLaw (l : Launch) (D : va_G) (b0 : Nat) (L : List Nat) (f : Nat → va_E) (mo : Nat) (ma : Nat → Nat) (M : Nat → Nat → Int32) (hm : mo_ok L mo ma) (t : Nat) (ht : M 9 0 = nI t) (ht1 : t ≤ 100) (S : ps_S) (hS : S.2.1 ≤ t)  : mo_Fi l yX12_takesLaw wsX12_takesLaw ({ frames := 3, cells := 0, slots := 0, locals := 69 }) D b0 L f mo ma ((mo_ps M S)) [] ((ps_law M S).1) (mo_ps M (ps_law M S).2) := by
  refine hg_in_i (cc := cX12_takesLaw) (nL := 1) (by decide) rfl (Nat.le_of_ble_eq_true rfl) (fun p e s m args below meth c R Q X hR hend H locs ls w hl => ?_)
  subst hR
  obtain ⟨hx, hb, hml, hown, hts⟩ := id X.1
  have hin : ∀ w ∈ wsX120, w ∈ wsX12_takesLaw := fun w h => List.mem_cons_of_mem _ (List.mem_append_right _ h)
  have hl : lv_has ls 1 [(0, .ref mo)] := hl
  refine lv_aload_n hx hb dX12_takesLaw_0 rfl (lv_at hl 0 rfl) ?_
  refine lv_bipush (v := 109) hx hb dX12_takesLaw_1 (by decide) ?_
  refine hg_viF (r := (ps_takes M 109 S).1) (As := [.int (109)]) (rest := []) X w (c_X12_takes l D b0 L f mo ma M hm t ht ht1 S hS 109) (cwV 1 hts gX12_takesLaw_X12_takes rfl rfl rfl hdX12_takes ⟨Nat.le_of_ble_eq_true rfl, Nat.le_of_ble_eq_true rfl⟩) hm.1 (mo_at0 D f mo ma _) rfl rfl rfl hl.1 rfl (Nat.le_of_ble_eq_true rfl) dX12_takesLaw_3 ⟨Nat.zero_le _, Nat.zero_le _⟩ (fun H locs w => ?_)
  refine lv_if_eq (tgt := 19) hx hb dX12_takesLaw_6 (by decide) (fun c_6 => ?_) (fun c_6 => ?_)
  · refine lv_iconst (v := 0) hx hb dX12_takesLaw_19 (by decide) ?_
    exact hend H locs (0) (L, mo_F D f mo ma (mo_ps M (ps_takes M 109 S).2)) _ ls w ⟨(by (try simp only [lg_cmp_le, lg_cmp_ge, lg_cmp_lt, lg_cmp_gt, ← Int32.not_lt, ← Int64.not_lt, Classical.not_not] at c_6); first | (simp [ps_law, pl1, pl2, pl3, pl4, c_6]; done) | (simp [ps_law, pl1, pl2, pl3, pl4, eq_true c_6]; done) | (exfalso; clear hend ; simp_all; done)), (congrArg (fun z => (L, mo_F D f mo ma (mo_ps M z))) (by (try simp only [lg_cmp_le, lg_cmp_ge, lg_cmp_lt, lg_cmp_gt, ← Int32.not_lt, ← Int64.not_lt, Classical.not_not] at c_6); first | (simp [ps_law, pl1, pl2, pl3, pl4, c_6]; done) | (simp [ps_law, pl1, pl2, pl3, pl4, eq_true c_6]; done) | (exfalso; clear hend ; simp_all; done)))⟩ (by decide) dX12_takesLaw_20
  · refine lv_aload_n hx hb dX12_takesLaw_9 rfl (lv_at hl 0 rfl) ?_
    refine lv_iconst (v := 0) hx hb dX12_takesLaw_10 (by decide) ?_
    refine lv_bipush (v := 99) hx hb dX12_takesLaw_11 (by decide) ?_
    refine hg_viF (r := (ps_num M 0 99 (ps_takes M 109 S).2).1) (As := [.int (0), .int (99)]) (rest := []) X w (c_X12_takesNumber l D b0 L f mo ma M hm t ht ht1 (ps_takes M 109 S).2 (ps_takes_le ht ht1 (by decide) hS) 0 99) (cwV 2 hts gX12_takesLaw_X12_takesNumber rfl rfl rfl hdX12_takesNumber ⟨Nat.le_of_ble_eq_true rfl, Nat.le_of_ble_eq_true rfl⟩) hm.1 (mo_at0 D f mo ma _) rfl rfl rfl hl.1 rfl (Nat.le_of_ble_eq_true rfl) dX12_takesLaw_13 ⟨Nat.zero_le _, Nat.zero_le _⟩ (fun H locs w => ?_)
    refine lv_if_ne (tgt := 21) hx hb dX12_takesLaw_16 (by decide) (fun c_16 => ?_) (fun c_16 => ?_)
    · refine lv_aload_n hx hb dX12_takesLaw_21 rfl (lv_at hl 0 rfl) ?_
      refine mo_get X w hm hin 0 (by decide) (List.mem_of_getElem? (i := 1) rfl) (mo_ps_g0 ma M (ps_num M 0 99 (ps_takes M 109 S).2).2) dX12_takesLaw_22 ?_
      refine lv_sipush (v := 150) hx hb dX12_takesLaw_25 (by decide) ?_
      refine lv_aload_n hx hb dX12_takesLaw_28 rfl (lv_at hl 0 rfl) ?_
      refine mo_get X w hm hin 14 (by decide) (List.mem_of_getElem? (i := 2) rfl) (mo_ps_g14 ma M (ps_num M 0 99 (ps_takes M 109 S).2).2) dX12_takesLaw_29 ?_
      refine mo_iast X w hm 0 (by decide) (by decide) (150 + 0) rfl (by show _ < 1400; omega) dX12_takesLaw_32 (fun H locs w => ?_)
      rw [mo_ps_set _ _ _ (by omega)] at w
      refine lv_aload_n hx hb dX12_takesLaw_33 rfl (lv_at hl 0 rfl) ?_
      refine lv_bipush (v := 44) hx hb dX12_takesLaw_34 (by decide) ?_
      refine hg_viF (r := (ps_takes M 44 (ps_set (ps_num M 0 99 (ps_takes M 109 S).2).2 0 ((ps_num M 0 99 (ps_takes M 109 S).2).2.2.2.2.2))).1) (As := [.int (44)]) (rest := []) X w (c_X12_takes l D b0 L f mo ma M hm t ht ht1 (ps_set (ps_num M 0 99 (ps_takes M 109 S).2).2 0 ((ps_num M 0 99 (ps_takes M 109 S).2).2.2.2.2.2)) (ps_set_le (ps_num_le ht ht1 (ps_takes_le ht ht1 (by decide) hS))) 44) (cwV 1 hts gX12_takesLaw_X12_takes rfl rfl rfl hdX12_takes ⟨Nat.le_of_ble_eq_true rfl, Nat.le_of_ble_eq_true rfl⟩) hm.1 (mo_at0 D f mo ma _) rfl rfl rfl hl.1 rfl (Nat.le_of_ble_eq_true rfl) dX12_takesLaw_36 ⟨Nat.zero_le _, Nat.zero_le _⟩ (fun H locs w => ?_)
      refine lv_if_eq (tgt := 52) hx hb dX12_takesLaw_39 (by decide) (fun c_39 => ?_) (fun c_39 => ?_)
      · refine lv_iconst (v := 0) hx hb dX12_takesLaw_52 (by decide) ?_
        exact hend H locs (0) (L, mo_F D f mo ma (mo_ps M (ps_takes M 44 (ps_set (ps_num M 0 99 (ps_takes M 109 S).2).2 0 ((ps_num M 0 99 (ps_takes M 109 S).2).2.2.2.2.2))).2)) _ ls w ⟨(by (try simp only [lg_cmp_le, lg_cmp_ge, lg_cmp_lt, lg_cmp_gt, ← Int32.not_lt, ← Int64.not_lt, Classical.not_not] at c_6 c_16 c_39); first | (simp [ps_law, pl1, pl2, pl3, pl4, c_6, c_16, c_39]; done) | (simp [ps_law, pl1, pl2, pl3, pl4, c_6, c_16, eq_true c_39]; done) | (exfalso; clear hend ; simp_all; done)), (congrArg (fun z => (L, mo_F D f mo ma (mo_ps M z))) (by (try simp only [lg_cmp_le, lg_cmp_ge, lg_cmp_lt, lg_cmp_gt, ← Int32.not_lt, ← Int64.not_lt, Classical.not_not] at c_6 c_16 c_39); first | (simp [ps_law, pl1, pl2, pl3, pl4, c_6, c_16, c_39]; done) | (simp [ps_law, pl1, pl2, pl3, pl4, c_6, c_16, eq_true c_39]; done) | (exfalso; clear hend ; simp_all; done)))⟩ (by decide) dX12_takesLaw_53
      · refine lv_aload_n hx hb dX12_takesLaw_42 rfl (lv_at hl 0 rfl) ?_
        refine lv_iconst (v := 0) hx hb dX12_takesLaw_43 (by decide) ?_
        refine lv_bipush (v := 20) hx hb dX12_takesLaw_44 (by decide) ?_
        refine hg_viF (r := (ps_num M 0 20 (ps_takes M 44 (ps_set (ps_num M 0 99 (ps_takes M 109 S).2).2 0 ((ps_num M 0 99 (ps_takes M 109 S).2).2.2.2.2.2))).2).1) (As := [.int (0), .int (20)]) (rest := []) X w (c_X12_takesNumber l D b0 L f mo ma M hm t ht ht1 (ps_takes M 44 (ps_set (ps_num M 0 99 (ps_takes M 109 S).2).2 0 ((ps_num M 0 99 (ps_takes M 109 S).2).2.2.2.2.2))).2 (ps_takes_le ht ht1 (by decide) (ps_set_le (ps_num_le ht ht1 (ps_takes_le ht ht1 (by decide) hS)))) 0 20) (cwV 2 hts gX12_takesLaw_X12_takesNumber rfl rfl rfl hdX12_takesNumber ⟨Nat.le_of_ble_eq_true rfl, Nat.le_of_ble_eq_true rfl⟩) hm.1 (mo_at0 D f mo ma _) rfl rfl rfl hl.1 rfl (Nat.le_of_ble_eq_true rfl) dX12_takesLaw_46 ⟨Nat.zero_le _, Nat.zero_le _⟩ (fun H locs w => ?_)
        refine lv_if_ne (tgt := 54) hx hb dX12_takesLaw_49 (by decide) (fun c_49 => ?_) (fun c_49 => ?_)
        · refine lv_aload_n hx hb dX12_takesLaw_54 rfl (lv_at hl 0 rfl) ?_
          refine mo_get X w hm hin 0 (by decide) (List.mem_of_getElem? (i := 1) rfl) (mo_ps_g0 ma M (ps_num M 0 20 (ps_takes M 44 (ps_set (ps_num M 0 99 (ps_takes M 109 S).2).2 0 ((ps_num M 0 99 (ps_takes M 109 S).2).2.2.2.2.2))).2).2) dX12_takesLaw_55 ?_
          refine lv_sipush (v := 151) hx hb dX12_takesLaw_58 (by decide) ?_
          refine lv_aload_n hx hb dX12_takesLaw_61 rfl (lv_at hl 0 rfl) ?_
          refine mo_get X w hm hin 14 (by decide) (List.mem_of_getElem? (i := 2) rfl) (mo_ps_g14 ma M (ps_num M 0 20 (ps_takes M 44 (ps_set (ps_num M 0 99 (ps_takes M 109 S).2).2 0 ((ps_num M 0 99 (ps_takes M 109 S).2).2.2.2.2.2))).2).2) dX12_takesLaw_62 ?_
          refine mo_iast X w hm 0 (by decide) (by decide) (150 + 1) rfl (by show _ < 1400; omega) dX12_takesLaw_65 (fun H locs w => ?_)
          rw [mo_ps_set _ _ _ (by omega)] at w
          refine lv_aload_n hx hb dX12_takesLaw_66 rfl (lv_at hl 0 rfl) ?_
          refine lv_bipush (v := 59) hx hb dX12_takesLaw_67 (by decide) ?_
          refine hg_viF (r := (ps_takes M 59 (ps_set (ps_num M 0 20 (ps_takes M 44 (ps_set (ps_num M 0 99 (ps_takes M 109 S).2).2 0 ((ps_num M 0 99 (ps_takes M 109 S).2).2.2.2.2.2))).2).2 1 ((ps_num M 0 20 (ps_takes M 44 (ps_set (ps_num M 0 99 (ps_takes M 109 S).2).2 0 ((ps_num M 0 99 (ps_takes M 109 S).2).2.2.2.2.2))).2).2.2.2.2.2))).1) (As := [.int (59)]) (rest := []) X w (c_X12_takes l D b0 L f mo ma M hm t ht ht1 (ps_set (ps_num M 0 20 (ps_takes M 44 (ps_set (ps_num M 0 99 (ps_takes M 109 S).2).2 0 ((ps_num M 0 99 (ps_takes M 109 S).2).2.2.2.2.2))).2).2 1 ((ps_num M 0 20 (ps_takes M 44 (ps_set (ps_num M 0 99 (ps_takes M 109 S).2).2 0 ((ps_num M 0 99 (ps_takes M 109 S).2).2.2.2.2.2))).2).2.2.2.2.2)) (ps_set_le (ps_num_le ht ht1 (ps_takes_le ht ht1 (by decide) (ps_set_le (ps_num_le ht ht1 (ps_takes_le ht ht1 (by decide) hS)))))) 59) (cwV 1 hts gX12_takesLaw_X12_takes rfl rfl rfl hdX12_takes ⟨Nat.le_of_ble_eq_true rfl, Nat.le_of_ble_eq_true rfl⟩) hm.1 (mo_at0 D f mo ma _) rfl rfl rfl hl.1 rfl (Nat.le_of_ble_eq_true rfl) dX12_takesLaw_69 ⟨Nat.zero_le _, Nat.zero_le _⟩ (fun H locs w => ?_)
          exact hend H locs ((ps_takes M 59 (ps_set (ps_num M 0 20 (ps_takes M 44 (ps_set (ps_num M 0 99 (ps_takes M 109 S).2).2 0 ((ps_num M 0 99 (ps_takes M 109 S).2).2.2.2.2.2))).2).2 1 ((ps_num M 0 20 (ps_takes M 44 (ps_set (ps_num M 0 99 (ps_takes M 109 S).2).2 0 ((ps_num M 0 99 (ps_takes M 109 S).2).2.2.2.2.2))).2).2.2.2.2.2))).1) (L, mo_F D f mo ma (mo_ps M (ps_takes M 59 (ps_set (ps_num M 0 20 (ps_takes M 44 (ps_set (ps_num M 0 99 (ps_takes M 109 S).2).2 0 ((ps_num M 0 99 (ps_takes M 109 S).2).2.2.2.2.2))).2).2 1 ((ps_num M 0 20 (ps_takes M 44 (ps_set (ps_num M 0 99 (ps_takes M 109 S).2).2 0 ((ps_num M 0 99 (ps_takes M 109 S).2).2.2.2.2.2))).2).2.2.2.2.2))).2)) _ ls w ⟨(by (try simp only [lg_cmp_le, lg_cmp_ge, lg_cmp_lt, lg_cmp_gt, ← Int32.not_lt, ← Int64.not_lt, Classical.not_not] at c_6 c_16 c_39 c_49); first | (simp [ps_law, pl1, pl2, pl3, pl4, c_6, c_16, c_39, c_49]; done) | (simp [ps_law, pl1, pl2, pl3, pl4, c_6, c_16, c_39, c_49]; done) | (exfalso; clear hend ; simp_all; done)), (congrArg (fun z => (L, mo_F D f mo ma (mo_ps M z))) (by (try simp only [lg_cmp_le, lg_cmp_ge, lg_cmp_lt, lg_cmp_gt, ← Int32.not_lt, ← Int64.not_lt, Classical.not_not] at c_6 c_16 c_39 c_49); first | (simp [ps_law, pl1, pl2, pl3, pl4, c_6, c_16, c_39, c_49]; done) | (simp [ps_law, pl1, pl2, pl3, pl4, c_6, c_16, c_39, c_49]; done) | (exfalso; clear hend ; simp_all; done)))⟩ (by rcases ps_takes_b M 59 _ with q | q <;> rw [q] <;> decide) dX12_takesLaw_72
        · refine lv_iconst (v := 0) hx hb dX12_takesLaw_52 (by decide) ?_
          exact hend H locs (0) (L, mo_F D f mo ma (mo_ps M (ps_num M 0 20 (ps_takes M 44 (ps_set (ps_num M 0 99 (ps_takes M 109 S).2).2 0 ((ps_num M 0 99 (ps_takes M 109 S).2).2.2.2.2.2))).2).2)) _ ls w ⟨(by (try simp only [lg_cmp_le, lg_cmp_ge, lg_cmp_lt, lg_cmp_gt, ← Int32.not_lt, ← Int64.not_lt, Classical.not_not] at c_6 c_16 c_39 c_49); first | (simp [ps_law, pl1, pl2, pl3, pl4, c_6, c_16, c_39, c_49]; done) | (simp [ps_law, pl1, pl2, pl3, pl4, c_6, c_16, c_39, eq_true c_49]; done) | (exfalso; clear hend ; simp_all; done)), (congrArg (fun z => (L, mo_F D f mo ma (mo_ps M z))) (by (try simp only [lg_cmp_le, lg_cmp_ge, lg_cmp_lt, lg_cmp_gt, ← Int32.not_lt, ← Int64.not_lt, Classical.not_not] at c_6 c_16 c_39 c_49); first | (simp [ps_law, pl1, pl2, pl3, pl4, c_6, c_16, c_39, c_49]; done) | (simp [ps_law, pl1, pl2, pl3, pl4, c_6, c_16, c_39, eq_true c_49]; done) | (exfalso; clear hend ; simp_all; done)))⟩ (by decide) dX12_takesLaw_53
    · refine lv_iconst (v := 0) hx hb dX12_takesLaw_19 (by decide) ?_
      exact hend H locs (0) (L, mo_F D f mo ma (mo_ps M (ps_num M 0 99 (ps_takes M 109 S).2).2)) _ ls w ⟨(by (try simp only [lg_cmp_le, lg_cmp_ge, lg_cmp_lt, lg_cmp_gt, ← Int32.not_lt, ← Int64.not_lt, Classical.not_not] at c_6 c_16); first | (simp [ps_law, pl1, pl2, pl3, pl4, c_6, c_16]; done) | (simp [ps_law, pl1, pl2, pl3, pl4, c_6, eq_true c_16]; done) | (exfalso; clear hend ; simp_all; done)), (congrArg (fun z => (L, mo_F D f mo ma (mo_ps M z))) (by (try simp only [lg_cmp_le, lg_cmp_ge, lg_cmp_lt, lg_cmp_gt, ← Int32.not_lt, ← Int64.not_lt, Classical.not_not] at c_6 c_16); first | (simp [ps_law, pl1, pl2, pl3, pl4, c_6, c_16]; done) | (simp [ps_law, pl1, pl2, pl3, pl4, c_6, eq_true c_16]; done) | (exfalso; clear hend ; simp_all; done)))⟩ (by decide) dX12_takesLaw_20
set_option maxRecDepth 100000 in
set_option maxHeartbeats 4000000 in
/-- takesRope -/
theorem c_X12_takesRope (l : Launch) (D : va_G) (b0 : Nat) (L : List Nat) (f : Nat → va_E) (mo : Nat) (ma : Nat → Nat) (M : Nat → Nat → Int32) (hm : mo_ok L mo ma) (t : Nat) (ht : M 9 0 = nI t) (ht1 : t ≤ 100) (S : ps_S) (hS : S.2.1 ≤ t) (r : Nat) (hr2 : S.1 2 = nI r) (hr3 : r ≤ 3) : mo_Fi l yX12_takesRope wsX12_takesRope ({ frames := 3, cells := 0, slots := 0, locals := 69 }) D b0 L f mo ma ((mo_ps M S)) [] ((ps_rope M S).1) (mo_ps M (ps_rope M S).2) := by
  refine hg_in_i (cc := cX12_takesRope) (nL := 1) (by decide) rfl (Nat.le_of_ble_eq_true rfl) (fun p e s m args below meth c R Q X hR hend H locs ls w hl => ?_)
  subst hR
  obtain ⟨hx, hb, hml, hown, hts⟩ := id X.1
  have hin : ∀ w ∈ wsX120, w ∈ wsX12_takesRope := fun w h => List.mem_cons_of_mem _ (List.mem_append_right _ h)
  have hl : lv_has ls 1 [(0, .ref mo)] := hl
  refine lv_aload_n hx hb dX12_takesRope_0 rfl (lv_at hl 0 rfl) ?_
  refine lv_bipush (v := 108) hx hb dX12_takesRope_1 (by decide) ?_
  refine hg_viF (r := (ps_takes M 108 S).1) (As := [.int (108)]) (rest := []) X w (c_X12_takes l D b0 L f mo ma M hm t ht ht1 S hS 108) (cwV 1 hts gX12_takesRope_X12_takes rfl rfl rfl hdX12_takes ⟨Nat.le_of_ble_eq_true rfl, Nat.le_of_ble_eq_true rfl⟩) hm.1 (mo_at0 D f mo ma _) rfl rfl rfl hl.1 rfl (Nat.le_of_ble_eq_true rfl) dX12_takesRope_3 ⟨Nat.zero_le _, Nat.zero_le _⟩ (fun H locs w => ?_)
  refine lv_if_ne (tgt := 11) hx hb dX12_takesRope_6 (by decide) (fun c_6 => ?_) (fun c_6 => ?_)
  · refine lv_aload_n hx hb dX12_takesRope_11 rfl (lv_at hl 0 rfl) ?_
    refine mo_get X w hm hin 0 (by decide) (List.mem_of_getElem? (i := 1) rfl) (mo_ps_g0 ma M (ps_takes M 108 S).2) dX12_takesRope_12 ?_
    refine lv_sipush (v := 152) hx hb dX12_takesRope_15 (by decide) ?_
    refine mo_ialdv X w hm 0 (by decide) (by decide) (150 + 2) rfl (by show _ < 1400; omega) (S.1 2) ((mo_ps_at M (ps_takes M 108 S).2 (by omega)).trans (by rw [ps_takes_h])) dX12_takesRope_18 ?_
    refine lv_iconst (v := 3) hx hb dX12_takesRope_19 (by decide) ?_
    refine lv_icmp_ne (tgt := 30) hx hb dX12_takesRope_20 (by decide) (fun c_20 => ?_) (fun c_20 => ?_)
    · have hr4 : ¬ r = 3 := fun q => c_20 (by rw [hr2, q]; rfl)
      have hro : ps_ro S = r := by rw [ps_ro, hr2]; exact nI_clamp (by omega)
      refine lv_aload_n hx hb dX12_takesRope_30 rfl (lv_at hl 0 rfl) ?_
      refine lv_iconst (v := 1) hx hb dX12_takesRope_31 (by decide) ?_
      refine lv_bipush (v := 20) hx hb dX12_takesRope_32 (by decide) ?_
      refine hg_viF (r := (ps_num M 1 20 (ps_takes M 108 S).2).1) (As := [.int (1), .int (20)]) (rest := []) X w (c_X12_takesNumber l D b0 L f mo ma M hm t ht ht1 (ps_takes M 108 S).2 (ps_takes_le ht ht1 (by decide) hS) 1 20) (cwV 2 hts gX12_takesRope_X12_takesNumber rfl rfl rfl hdX12_takesNumber ⟨Nat.le_of_ble_eq_true rfl, Nat.le_of_ble_eq_true rfl⟩) hm.1 (mo_at0 D f mo ma _) rfl rfl rfl hl.1 rfl (Nat.le_of_ble_eq_true rfl) dX12_takesRope_34 ⟨Nat.zero_le _, Nat.zero_le _⟩ (fun H locs w => ?_)
      refine lv_if_ne (tgt := 42) hx hb dX12_takesRope_37 (by decide) (fun c_37 => ?_) (fun c_37 => ?_)
      · refine lv_aload_n hx hb dX12_takesRope_42 rfl (lv_at hl 0 rfl) ?_
        refine mo_get X w hm hin 0 (by decide) (List.mem_of_getElem? (i := 1) rfl) (mo_ps_g0 ma M (ps_num M 1 20 (ps_takes M 108 S).2).2) dX12_takesRope_43 ?_
        refine lv_sipush (v := 155) hx hb dX12_takesRope_46 (by decide) ?_
        refine lv_aload_n hx hb dX12_takesRope_49 rfl (lv_at hl 0 rfl) ?_
        refine mo_get X w hm hin 0 (by decide) (List.mem_of_getElem? (i := 1) rfl) (mo_ps_g0 ma M (ps_num M 1 20 (ps_takes M 108 S).2).2) dX12_takesRope_50 ?_
        refine lv_sipush (v := 152) hx hb dX12_takesRope_53 (by decide) ?_
        refine mo_ialdv X w hm 0 (by decide) (by decide) (150 + 2) rfl (by show _ < 1400; omega) (S.1 2) ((mo_ps_at M (ps_num M 1 20 (ps_takes M 108 S).2).2 (by omega)).trans (by rw [ps_num_h, ps_takes_h])) dX12_takesRope_56 ?_
        refine lv_iadd hx hb dX12_takesRope_57 ?_
        refine lv_aload_n hx hb dX12_takesRope_58 rfl (lv_at hl 0 rfl) ?_
        refine mo_get X w hm hin 14 (by decide) (List.mem_of_getElem? (i := 3) rfl) (mo_ps_g14 ma M (ps_num M 1 20 (ps_takes M 108 S).2).2) dX12_takesRope_59 ?_
        refine mo_iast X w hm 0 (by decide) (by decide) (150 + (5 + r)) (by rw [hr2]; exact (hs_addI (a := 155) (b := r) rfl rfl).trans (by rw [show 155 + r = 150 + (5 + r) by omega])) (by show _ < 1400; omega) dX12_takesRope_62 (fun H locs w => ?_)
        rw [mo_ps_set _ _ _ (by omega)] at w
        refine lv_aload_n hx hb dX12_takesRope_63 rfl (lv_at hl 0 rfl) ?_
        refine mo_get X w hm hin 0 (by decide) (List.mem_of_getElem? (i := 1) rfl) (mo_ps_g0 ma M (ps_set (ps_num M 1 20 (ps_takes M 108 S).2).2 (5 + r) ((ps_num M 1 20 (ps_takes M 108 S).2).2.2.2.2.2))) dX12_takesRope_64 ?_
        refine lv_sipush (v := 152) hx hb dX12_takesRope_67 (by decide) ?_
        refine lv_dup2_11 hx hb dX12_takesRope_70 rfl rfl ?_
        refine mo_ialdv X w hm 0 (by decide) (by decide) (150 + 2) rfl (by show _ < 1400; omega) (nI r) ((mo_ps_at M (ps_set (ps_num M 1 20 (ps_takes M 108 S).2).2 (5 + r) ((ps_num M 1 20 (ps_takes M 108 S).2).2.2.2.2.2)) (by omega)).trans (by show va_up _ (5 + r) _ 2 = nI r; rw [va_up_ne _ _ (by omega), ps_num_h, ps_takes_h]; exact hr2)) dX12_takesRope_71 ?_
        refine lv_iconst (v := 1) hx hb dX12_takesRope_72 (by decide) ?_
        refine lv_iadd hx hb dX12_takesRope_73 ?_
        refine mo_iast X w hm 0 (by decide) (by decide) (150 + 2) rfl (by show _ < 1400; omega) dX12_takesRope_74 (fun H locs w => ?_)
        rw [mo_ps_set _ _ _ (by omega)] at w
        refine lv_aload_n hx hb dX12_takesRope_75 rfl (lv_at hl 0 rfl) ?_
        refine lv_bipush (v := 59) hx hb dX12_takesRope_76 (by decide) ?_
        refine hg_viF (r := (ps_takes M 59 (ps_set (ps_set (ps_num M 1 20 (ps_takes M 108 S).2).2 (5 + r) ((ps_num M 1 20 (ps_takes M 108 S).2).2.2.2.2.2)) 2 (nI r + 1))).1) (As := [.int (59)]) (rest := []) X w (c_X12_takes l D b0 L f mo ma M hm t ht ht1 (ps_set (ps_set (ps_num M 1 20 (ps_takes M 108 S).2).2 (5 + r) ((ps_num M 1 20 (ps_takes M 108 S).2).2.2.2.2.2)) 2 (nI r + 1)) (ps_set_le (ps_set_le (ps_num_le ht ht1 (ps_takes_le ht ht1 (by decide) hS)))) 59) (cwV 1 hts gX12_takesRope_X12_takes rfl rfl rfl hdX12_takes ⟨Nat.le_of_ble_eq_true rfl, Nat.le_of_ble_eq_true rfl⟩) hm.1 (mo_at0 D f mo ma _) rfl rfl rfl hl.1 rfl (Nat.le_of_ble_eq_true rfl) dX12_takesRope_78 ⟨Nat.zero_le _, Nat.zero_le _⟩ (fun H locs w => ?_)
        exact hend H locs ((ps_takes M 59 (ps_set (ps_set (ps_num M 1 20 (ps_takes M 108 S).2).2 (5 + r) ((ps_num M 1 20 (ps_takes M 108 S).2).2.2.2.2.2)) 2 (nI r + 1))).1) (L, mo_F D f mo ma (mo_ps M (ps_takes M 59 (ps_set (ps_set (ps_num M 1 20 (ps_takes M 108 S).2).2 (5 + r) ((ps_num M 1 20 (ps_takes M 108 S).2).2.2.2.2.2)) 2 (nI r + 1))).2)) _ ls w ⟨(by (try simp only [lg_cmp_le, lg_cmp_ge, lg_cmp_lt, lg_cmp_gt, ← Int32.not_lt, ← Int64.not_lt, Classical.not_not] at c_6 c_20 c_37); first | (simp [ps_rope, pr1, pr2, hro, nI_1, c_6, c_20, c_37]; done) | (simp [ps_rope, pr1, pr2, hro, nI_1, c_6, c_20, c_37]; done) | (exfalso; clear hend ; simp_all; done)), (congrArg (fun z => (L, mo_F D f mo ma (mo_ps M z))) (by (try simp only [lg_cmp_le, lg_cmp_ge, lg_cmp_lt, lg_cmp_gt, ← Int32.not_lt, ← Int64.not_lt, Classical.not_not] at c_6 c_20 c_37); first | (simp [ps_rope, pr1, pr2, hro, nI_1, c_6, c_20, c_37]; done) | (simp [ps_rope, pr1, pr2, hro, nI_1, c_6, c_20, c_37]; done) | (exfalso; clear hend ; simp_all; done)))⟩ (by rcases ps_takes_b M 59 _ with q | q <;> rw [q] <;> decide) dX12_takesRope_81
      · refine lv_iconst (v := 0) hx hb dX12_takesRope_40 (by decide) ?_
        exact hend H locs (0) (L, mo_F D f mo ma (mo_ps M (ps_num M 1 20 (ps_takes M 108 S).2).2)) _ ls w ⟨(by (try simp only [lg_cmp_le, lg_cmp_ge, lg_cmp_lt, lg_cmp_gt, ← Int32.not_lt, ← Int64.not_lt, Classical.not_not] at c_6 c_20 c_37); first | (simp [ps_rope, pr1, pr2, hro, nI_1, c_6, c_20, c_37]; done) | (simp [ps_rope, pr1, pr2, hro, nI_1, c_6, c_20, eq_true c_37]; done) | (exfalso; clear hend ; simp_all; done)), (congrArg (fun z => (L, mo_F D f mo ma (mo_ps M z))) (by (try simp only [lg_cmp_le, lg_cmp_ge, lg_cmp_lt, lg_cmp_gt, ← Int32.not_lt, ← Int64.not_lt, Classical.not_not] at c_6 c_20 c_37); first | (simp [ps_rope, pr1, pr2, hro, nI_1, c_6, c_20, c_37]; done) | (simp [ps_rope, pr1, pr2, hro, nI_1, c_6, c_20, eq_true c_37]; done) | (exfalso; clear hend ; simp_all; done)))⟩ (by decide) dX12_takesRope_41
    · refine lv_aload_n hx hb dX12_takesRope_23 rfl (lv_at hl 0 rfl) ?_
      refine lv_iconst (v := 3) hx hb dX12_takesRope_24 (by decide) ?_
      refine mo_put X w hm hin 13 (by decide) (List.mem_of_getElem? (i := 2) rfl) dX12_takesRope_25 (fun H locs w => ?_)
      rw [mo_ps_f] at w
      refine lv_iconst (v := 0) hx hb dX12_takesRope_28 (by decide) ?_
      exact hend H locs (0) (L, mo_F D f mo ma (mo_ps M (ps_f (ps_takes M 108 S).2 3))) _ ls w ⟨(by (try simp only [lg_cmp_le, lg_cmp_ge, lg_cmp_lt, lg_cmp_gt, ← Int32.not_lt, ← Int64.not_lt, Classical.not_not] at c_6 c_20); first | (simp [ps_rope, pr1, pr2, c_6, c_20]; done) | (simp [ps_rope, pr1, pr2, c_6, eq_true c_20]; done) | (exfalso; clear hend ; simp_all; done)), (congrArg (fun z => (L, mo_F D f mo ma (mo_ps M z))) (by (try simp only [lg_cmp_le, lg_cmp_ge, lg_cmp_lt, lg_cmp_gt, ← Int32.not_lt, ← Int64.not_lt, Classical.not_not] at c_6 c_20); first | (simp [ps_rope, pr1, pr2, c_6, c_20]; done) | (simp [ps_rope, pr1, pr2, c_6, eq_true c_20]; done) | (exfalso; clear hend ; simp_all; done)))⟩ (by decide) dX12_takesRope_29
  · refine lv_iconst (v := 0) hx hb dX12_takesRope_9 (by decide) ?_
    exact hend H locs (0) (L, mo_F D f mo ma (mo_ps M (ps_takes M 108 S).2)) _ ls w ⟨(by (try simp only [lg_cmp_le, lg_cmp_ge, lg_cmp_lt, lg_cmp_gt, ← Int32.not_lt, ← Int64.not_lt, Classical.not_not] at c_6); first | (simp [ps_rope, pr1, pr2, c_6]; done) | (simp [ps_rope, pr1, pr2, eq_true c_6]; done) | (exfalso; clear hend ; simp_all; done)), (congrArg (fun z => (L, mo_F D f mo ma (mo_ps M z))) (by (try simp only [lg_cmp_le, lg_cmp_ge, lg_cmp_lt, lg_cmp_gt, ← Int32.not_lt, ← Int64.not_lt, Classical.not_not] at c_6); first | (simp [ps_rope, pr1, pr2, c_6]; done) | (simp [ps_rope, pr1, pr2, eq_true c_6]; done) | (exfalso; clear hend ; simp_all; done)))⟩ (by decide) dX12_takesRope_10
