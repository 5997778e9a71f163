set_option maxRecDepth 100000 in
set_option maxHeartbeats 4000000 in
/-- fault -/
theorem c_X12_fault (l : Launch) (D : va_G) (b0 : Nat) (L : List Nat) (f : Nat → va_E) (mo : Nat) (ma : Nat → Nat) (M : Nat → Nat → Int32) (hm : mo_ok L mo ma)  : mo_Fi l yX12_fault wsX12_fault ({ frames := 0, cells := 0, slots := 0, locals := 0 }) D b0 L f mo ma M [] (M 10 0) (M) := by
  refine hg_in_i (cc := cX12_fault) (nL := 1) (by decide) rfl (Nat.le_of_ble_eq_true rfl) (fun p e s m args below meth c R Q X hR hend H locs ls w hl => ?_)
  subst hR
  obtain ⟨hx, hb, hml, hown, hts⟩ := id X.1
  have hin : ∀ w ∈ wsX120, w ∈ wsX12_fault := fun w h => List.mem_cons_of_mem _ (List.mem_append_right _ h)
  have hl : lv_has ls 1 [(0, .ref mo)] := hl
  refine lv_aload_n hx hb dX12_fault_0 rfl (lv_at hl 0 rfl) ?_
  refine mo_get X w hm hin 10 (by decide) (List.mem_of_getElem? (i := 1) rfl) rfl dX12_fault_1 ?_
  exact hend H locs (M 10 0) (L, mo_F D f mo ma M) _ ls w ⟨rfl, rfl⟩ rfl dX12_fault_4
set_option maxRecDepth 100000 in
set_option maxHeartbeats 4000000 in
/-- status -/
theorem c_X12_status (l : Launch) (D : va_G) (b0 : Nat) (L : List Nat) (f : Nat → va_E) (mo : Nat) (ma : Nat → Nat) (M : Nat → Nat → Int32) (hm : mo_ok L mo ma)  : mo_Fi l yX12_status wsX12_status ({ frames := 0, cells := 0, slots := 0, locals := 0 }) D b0 L f mo ma M [] (M 7 0) (M) := by
  refine hg_in_i (cc := cX12_status) (nL := 1) (by decide) rfl (Nat.le_of_ble_eq_true rfl) (fun p e s m args below meth c R Q X hR hend H locs ls w hl => ?_)
  subst hR
  obtain ⟨hx, hb, hml, hown, hts⟩ := id X.1
  have hin : ∀ w ∈ wsX120, w ∈ wsX12_status := fun w h => List.mem_cons_of_mem _ (List.mem_append_right _ h)
  have hl : lv_has ls 1 [(0, .ref mo)] := hl
  refine lv_aload_n hx hb dX12_status_0 rfl (lv_at hl 0 rfl) ?_
  refine mo_get X w hm hin 7 (by decide) (List.mem_of_getElem? (i := 1) rfl) rfl dX12_status_1 ?_
  exact hend H locs (M 7 0) (L, mo_F D f mo ma M) _ ls w ⟨rfl, rfl⟩ rfl dX12_status_4
theorem hdX12_dropping : yX12_dropping.cls = RX12 ∧ yX12_dropping.cls ≠ "java/lang/invoke/MethodHandle" ∧ yX12_dropping.cls ≠ "java/lang/invoke/VarHandle" ∧ (parseMethodDescriptor yX12_dropping.desc).map (fun d => d.parameters.length) = some 0 := by decide +kernel
set_option maxRecDepth 100000 in
set_option maxHeartbeats 4000000 in
/-- drops -/
theorem c_X12_drops (l : Launch) (D : va_G) (b0 : Nat) (L : List Nat) (f : Nat → va_E) (mo : Nat) (ma : Nat → Nat) (M : Nat → Nat → Int32) (hm : mo_ok L mo ma) (n nr : Nat) (hv : hs_ok (M 0) n nr) : mo_Fi l yX12_drops wsX12_drops ({ frames := 6, cells := 0, slots := 0, locals := 138 }) D b0 L f mo ma M [] (q_drops (M 0) n) (M) := by
  refine hg_in_i (cc := cX12_drops) (nL := 1) (by decide) rfl (Nat.le_of_ble_eq_true rfl) (fun p e s m args below meth c R Q X hR hend H locs ls w hl => ?_)
  subst hR
  obtain ⟨hx, hb, hml, hown, hts⟩ := id X.1
  have hin : ∀ w ∈ wsX120, w ∈ wsX12_drops := fun w h => List.mem_cons_of_mem _ (List.mem_append_right _ h)
  have hl : lv_has ls 1 [(0, .ref mo)] := hl
  refine lv_aload_n hx hb dX12_drops_0 rfl (lv_at hl 0 rfl) ?_
  refine mo_get X w hm hin 0 (by decide) (List.mem_of_getElem? (i := 1) rfl) rfl dX12_drops_1 ?_
  refine lv_iconst (v := 4) hx hb dX12_drops_4 (by decide) ?_
  refine mo_iald X w hm 0 (by decide) (by decide) 4 rfl (by show _ < 1400; omega) dX12_drops_5 ?_
  refine lv_if_ne (tgt := 14) hx hb dX12_drops_6 (by decide) (fun c_6 => ?_) (fun c_6 => ?_)
  · refine lv_aload_n hx hb dX12_drops_14 rfl (lv_at hl 0 rfl) ?_
    refine hg_viF (r := (hs_drop (M 0) n n)) (As := []) (rest := []) X w (c_X12_dropping l D b0 L f mo ma M hm n nr hv) (cwV 0 hts gX12_drops_X12_dropping rfl rfl rfl hdX12_dropping ⟨Nat.le_of_ble_eq_true rfl, Nat.le_of_ble_eq_true rfl⟩) hm.1 (mo_at0 D f mo ma _) rfl rfl rfl hl.1 rfl (Nat.le_of_ble_eq_true rfl) dX12_drops_15 ⟨Nat.zero_le _, Nat.zero_le _⟩ (fun H locs w => ?_)
    exact hend H locs ((hs_drop (M 0) n n)) (L, mo_F D f mo ma M) _ ls w ⟨(by (try simp only [lg_cmp_le, lg_cmp_ge, lg_cmp_lt, lg_cmp_gt, ← Int32.not_lt, ← Int64.not_lt, Classical.not_not] at c_6); first | (simp [q_drops, c_6]; done) | (simp [q_drops, c_6]; done) | (exfalso; clear hend; simp_all; done)), rfl⟩ rfl dX12_drops_18
  · refine lv_ldc (v := (-1000002)) hx hb hown (hts _ (List.mem_of_getElem? (i := 2) rfl)) dX12_drops_9 ?_
    refine lv_goto (tgt := 18) hx hb dX12_drops_11 (by decide) ?_
    exact hend H locs ((-1000002)) (L, mo_F D f mo ma M) _ ls w ⟨(by (try simp only [lg_cmp_le, lg_cmp_ge, lg_cmp_lt, lg_cmp_gt, ← Int32.not_lt, ← Int64.not_lt, Classical.not_not] at c_6); first | (simp [q_drops, c_6]; done) | (simp [q_drops, eq_true c_6]; done) | (exfalso; clear hend; simp_all; done)), rfl⟩ rfl dX12_drops_18
theorem hdX12_isStall : yX12_isStall.cls = RX12 ∧ yX12_isStall.cls ≠ "java/lang/invoke/MethodHandle" ∧ yX12_isStall.cls ≠ "java/lang/invoke/VarHandle" ∧ (parseMethodDescriptor yX12_isStall.desc).map (fun d => d.parameters.length) = some 1 := by decide +kernel
set_option maxRecDepth 100000 in
set_option maxHeartbeats 4000000 in
/-- kind -/
theorem c_X12_kind (l : Launch) (D : va_G) (b0 : Nat) (L : List Nat) (f : Nat → va_E) (mo : Nat) (ma : Nat → Nat) (M : Nat → Nat → Int32) (hm : mo_ok L mo ma) (n nr : Nat) (hv : hs_ok (M 0) n nr) (one : Int32) : mo_Fi l yX12_kind wsX12_kind ({ frames := 2, cells := 0, slots := 0, locals := 46 }) D b0 L f mo ma M [.int (one)] (q_kind (M 0) one) (M) := by
  refine hg_in_i (cc := cX12_kind) (nL := 2) (by decide) rfl (Nat.le_of_ble_eq_true rfl) (fun p e s m args below meth c R Q X hR hend H locs ls w hl => ?_)
  subst hR
  obtain ⟨hx, hb, hml, hown, hts⟩ := id X.1
  have hin : ∀ w ∈ wsX120, w ∈ wsX12_kind := fun w h => List.mem_cons_of_mem _ (List.mem_append_right _ h)
  have hl : lv_has ls 2 [(0, .ref mo), (1, .int (one))] := hl
  obtain ⟨hn, hn6, hnr, hnr3, htt⟩ := id hv
  refine lv_aload_n hx hb dX12_kind_0 rfl (lv_at hl 0 rfl) ?_
  refine lv_iload_n hx hb dX12_kind_1 rfl (lv_at hl 1 rfl) ?_
  refine hg_viF (r := hs_isSt (M 0) one) (As := [.int (one)]) (rest := []) X w (c_X12_isStall l D b0 L f mo ma M hm one) (cwV 1 hts gX12_kind_X12_isStall rfl rfl rfl hdX12_isStall ⟨Nat.le_of_ble_eq_true rfl, Nat.le_of_ble_eq_true rfl⟩) hm.1 (mo_at0 D f mo ma _) rfl rfl rfl hl.1 rfl (Nat.le_of_ble_eq_true rfl) dX12_kind_2 ⟨Nat.zero_le _, Nat.zero_le _⟩ (fun H locs w => ?_)
  refine lv_if_eq (tgt := 20) hx hb dX12_kind_5 (by decide) (fun c_5 => ?_) (fun c_5 => ?_)
  · refine lv_ldc (v := (-1000001)) hx hb hown (hts _ (List.mem_of_getElem? (i := 2) rfl)) dX12_kind_20 ?_
    exact hend H locs ((-1000001)) (L, mo_F D f mo ma M) _ ls w ⟨(by (try simp only [lg_cmp_le, lg_cmp_ge, lg_cmp_lt, lg_cmp_gt, ← Int32.not_lt, ← Int64.not_lt, Classical.not_not] at c_5); first | (simp [q_kind, c_5]; done) | (simp [q_kind, eq_true c_5]; done) | (exfalso; clear hend; simp_all; done)), rfl⟩ rfl dX12_kind_22
  · obtain ⟨j, hj, rfl⟩ := hs_st_1 hv c_5
    have hjc := hs_cl hj (by omega)
    refine lv_aload_n hx hb dX12_kind_8 rfl (lv_at hl 0 rfl) ?_
    refine mo_get X w hm hin 0 (by decide) (List.mem_of_getElem? (i := 1) rfl) rfl dX12_kind_9 ?_
    refine lv_bipush (v := 8) hx hb dX12_kind_12 (by decide) ?_
    refine lv_iload_n hx hb dX12_kind_14 rfl (lv_at hl 1 rfl) ?_
    refine lv_iadd hx hb dX12_kind_15 ?_
    refine mo_iald X w hm 0 (by decide) (by decide) (8 + j) (hs_addI rfl rfl) (by show _ < 1400; omega) dX12_kind_16 ?_
    refine lv_goto (tgt := 22) hx hb dX12_kind_17 (by decide) ?_
    exact hend H locs (M 0 (8 + j)) (L, mo_F D f mo ma M) _ ls w ⟨(by (try simp only [lg_cmp_le, lg_cmp_ge, lg_cmp_lt, lg_cmp_gt, ← Int32.not_lt, ← Int64.not_lt, Classical.not_not] at c_5); first | (simp [q_kind, c_5, hjc]; done) | (simp [q_kind, c_5, hjc]; done) | (exfalso; clear hend; simp_all; done)), rfl⟩ rfl dX12_kind_22
theorem hdX12_walks : yX12_walks.cls = RX12 ∧ yX12_walks.cls ≠ "java/lang/invoke/MethodHandle" ∧ yX12_walks.cls ≠ "java/lang/invoke/VarHandle" ∧ (parseMethodDescriptor yX12_walks.desc).map (fun d => d.parameters.length) = some 1 := by decide +kernel
set_option maxRecDepth 100000 in
set_option maxHeartbeats 4000000 in
/-- walkways -/
theorem c_X12_walkways (l : Launch) (D : va_G) (b0 : Nat) (L : List Nat) (f : Nat → va_E) (mo : Nat) (ma : Nat → Nat) (M : Nat → Nat → Int32) (hm : mo_ok L mo ma) (n nr : Nat) (hv : hs_ok (M 0) n nr) (what : Int32) : mo_Fi l yX12_walkways wsX12_walkways ({ frames := 7, cells := 0, slots := 0, locals := 164 }) D b0 L f mo ma M [.int (what)] (q_walkways (M 0) n what) (M) := by
  refine hg_in_i (cc := cX12_walkways) (nL := 2) (by decide) rfl (Nat.le_of_ble_eq_true rfl) (fun p e s m args below meth c R Q X hR hend H locs ls w hl => ?_)
  subst hR
  obtain ⟨hx, hb, hml, hown, hts⟩ := id X.1
  have hin : ∀ w ∈ wsX120, w ∈ wsX12_walkways := fun w h => List.mem_cons_of_mem _ (List.mem_append_right _ h)
  have hl : lv_has ls 2 [(0, .ref mo), (1, .int (what))] := hl
  refine lv_aload_n hx hb dX12_walkways_0 rfl (lv_at hl 0 rfl) ?_
  refine mo_get X w hm hin 0 (by decide) (List.mem_of_getElem? (i := 1) rfl) rfl dX12_walkways_1 ?_
  refine lv_iconst (v := 4) hx hb dX12_walkways_4 (by decide) ?_
  refine mo_iald X w hm 0 (by decide) (by decide) 4 rfl (by show _ < 1400; omega) dX12_walkways_5 ?_
  refine lv_if_ne (tgt := 12) hx hb dX12_walkways_6 (by decide) (fun c_6 => ?_) (fun c_6 => ?_)
  · refine lv_iload_n hx hb dX12_walkways_12 rfl (lv_at hl 1 rfl) ?_
    refine lv_i2l hx hb dX12_walkways_13 rfl ?_
    refine lv_lconst (v := 0) hx hb dX12_walkways_14 (by decide) ?_
    refine lv_lconst (v := 1) hx hb dX12_walkways_15 (by decide) ?_
    refine hg_siF (r := hs_in what 0 1) (As := [.long ((what).toInt64), .long (0), .long (1)]) (rest := []) X w (c_X12_in l D b0 L _ ((what).toInt64) 0 1 what 0 1 rfl (by decide) (by decide)) (va_cwS 3 hts gX12_walkways_X12_in rfl rfl rfl hdX12_in ⟨Nat.le_of_ble_eq_true rfl, Nat.le_of_ble_eq_true rfl⟩) rfl hl.1 rfl (Nat.le_of_ble_eq_true rfl) dX12_walkways_16 ⟨Nat.zero_le _, Nat.zero_le _⟩ (fun H locs w => ?_)
    refine lv_if_eq (tgt := 32) hx hb dX12_walkways_19 (by decide) (fun c_19 => ?_) (fun c_19 => ?_)
    · refine lv_ldc (v := (-1000001)) hx hb hown (hts _ (List.mem_of_getElem? (i := 3) rfl)) dX12_walkways_32 ?_
      exact hend H locs ((-1000001)) (L, mo_F D f mo ma M) _ ls w ⟨(by (try simp only [lg_cmp_le, lg_cmp_ge, lg_cmp_lt, lg_cmp_gt, ← Int32.not_lt, ← Int64.not_lt, Classical.not_not] at c_6 c_19); first | (simp [q_walkways, c_6, c_19]; done) | (simp [q_walkways, c_6, eq_true c_19]; done) | (exfalso; clear hend; simp_all; done)), rfl⟩ rfl dX12_walkways_34
    · refine lv_aload_n hx hb dX12_walkways_22 rfl (lv_at hl 0 rfl) ?_
      refine lv_iload_n hx hb dX12_walkways_23 rfl (lv_at hl 1 rfl) ?_
      refine lv_iconst (v := 1) hx hb dX12_walkways_24 (by decide) ?_
      refine lv_iadd hx hb dX12_walkways_25 ?_
      refine hg_viF (r := (hs_wks (M 0) n (what + 1) n)) (As := [.int ((what + 1))]) (rest := []) X w (c_X12_walks l D b0 L f mo ma M hm n nr hv (what + 1)) (cwV 1 hts gX12_walkways_X12_walks rfl rfl rfl hdX12_walks ⟨Nat.le_of_ble_eq_true rfl, Nat.le_of_ble_eq_true rfl⟩) hm.1 (mo_at0 D f mo ma _) rfl rfl rfl hl.1 rfl (Nat.le_of_ble_eq_true rfl) dX12_walkways_26 ⟨Nat.zero_le _, Nat.zero_le _⟩ (fun H locs w => ?_)
      refine lv_goto (tgt := 34) hx hb dX12_walkways_29 (by decide) ?_
      exact hend H locs ((hs_wks (M 0) n (what + 1) n)) (L, mo_F D f mo ma M) _ ls w ⟨(by (try simp only [lg_cmp_le, lg_cmp_ge, lg_cmp_lt, lg_cmp_gt, ← Int32.not_lt, ← Int64.not_lt, Classical.not_not] at c_6 c_19); first | (simp [q_walkways, c_6, c_19]; done) | (simp [q_walkways, c_6, c_19]; done) | (exfalso; clear hend; simp_all; done)), rfl⟩ rfl dX12_walkways_34
  · refine lv_ldc (v := (-1000002)) hx hb hown (hts _ (List.mem_of_getElem? (i := 2) rfl)) dX12_walkways_9 ?_
    exact hend H locs ((-1000002)) (L, mo_F D f mo ma M) _ ls w ⟨(by (try simp only [lg_cmp_le, lg_cmp_ge, lg_cmp_lt, lg_cmp_gt, ← Int32.not_lt, ← Int64.not_lt, Classical.not_not] at c_6); first | (simp [q_walkways, c_6]; done) | (simp [q_walkways, eq_true c_6]; done) | (exfalso; clear hend; simp_all; done)), rfl⟩ rfl dX12_walkways_11
set_option maxRecDepth 100000 in
set_option maxHeartbeats 4000000 in
/-- walkway -/
theorem c_X12_walkway (l : Launch) (D : va_G) (b0 : Nat) (L : List Nat) (f : Nat → va_E) (mo : Nat) (ma : Nat → Nat) (M : Nat → Nat → Int32) (hm : mo_ok L mo ma) (n nr : Nat) (hv : hs_ok (M 0) n nr) (a b : Int32) : mo_Fi l yX12_walkway wsX12_walkway ({ frames := 6, cells := 0, slots := 0, locals := 140 }) D b0 L f mo ma M [.int (a), .int (b)] (q_walkway (M 0) n a b) (M) := by
  refine hg_in_i (cc := cX12_walkway) (nL := 3) (by decide) rfl (Nat.le_of_ble_eq_true rfl) (fun p e s m args below meth c R Q X hR hend H locs ls w hl => ?_)
  subst hR
  obtain ⟨hx, hb, hml, hown, hts⟩ := id X.1
  have hin : ∀ w ∈ wsX120, w ∈ wsX12_walkway := fun w h => List.mem_cons_of_mem _ (List.mem_append_right _ h)
  have hl : lv_has ls 3 [(0, .ref mo), (1, .int (a)), (2, .int (b))] := hl
  obtain ⟨hn, hn6, hnr, hnr3, htt⟩ := id hv
  refine lv_aload_n hx hb dX12_walkway_0 rfl (lv_at hl 0 rfl) ?_
  refine lv_iload_n hx hb dX12_walkway_1 rfl (lv_at hl 1 rfl) ?_
  refine hg_viF (r := hs_isSt (M 0) a) (As := [.int (a)]) (rest := []) X w (c_X12_isStall l D b0 L f mo ma M hm a) (cwV 1 hts gX12_walkway_X12_isStall rfl rfl rfl hdX12_isStall ⟨Nat.le_of_ble_eq_true rfl, Nat.le_of_ble_eq_true rfl⟩) hm.1 (mo_at0 D f mo ma _) rfl rfl rfl hl.1 rfl (Nat.le_of_ble_eq_true rfl) dX12_walkway_2 ⟨Nat.zero_le _, Nat.zero_le _⟩ (fun H locs w => ?_)
  refine lv_if_eq (tgt := 30) hx hb dX12_walkway_5 (by decide) (fun c_5 => ?_) (fun c_5 => ?_)
  · refine lv_ldc (v := (-1000001)) hx hb hown (hts _ (List.mem_of_getElem? (i := 1) rfl)) dX12_walkway_30 ?_
    exact hend H locs ((-1000001)) (L, mo_F D f mo ma M) _ ls w ⟨(by (try simp only [lg_cmp_le, lg_cmp_ge, lg_cmp_lt, lg_cmp_gt, ← Int32.not_lt, ← Int64.not_lt, Classical.not_not] at c_5); first | (simp [q_walkway, c_5]; done) | (simp [q_walkway, eq_true c_5]; done) | (exfalso; clear hend; simp_all; done)), rfl⟩ rfl dX12_walkway_32
  · obtain ⟨ja, hja, rfl⟩ := hs_st_1 hv c_5
    have hjac := hs_cl hja (by omega)
    refine lv_aload_n hx hb dX12_walkway_8 rfl (lv_at hl 0 rfl) ?_
    refine lv_iload_n hx hb dX12_walkway_9 rfl (lv_at hl 2 rfl) ?_
    refine hg_viF (r := hs_isSt (M 0) b) (As := [.int (b)]) (rest := []) X w (c_X12_isStall l D b0 L f mo ma M hm b) (cwV 1 hts gX12_walkway_X12_isStall rfl rfl rfl hdX12_isStall ⟨Nat.le_of_ble_eq_true rfl, Nat.le_of_ble_eq_true rfl⟩) hm.1 (mo_at0 D f mo ma _) rfl rfl rfl hl.1 rfl (Nat.le_of_ble_eq_true rfl) dX12_walkway_10 ⟨Nat.zero_le _, Nat.zero_le _⟩ (fun H locs w => ?_)
    refine lv_if_eq (tgt := 30) hx hb dX12_walkway_13 (by decide) (fun c_13 => ?_) (fun c_13 => ?_)
    · refine lv_ldc (v := (-1000001)) hx hb hown (hts _ (List.mem_of_getElem? (i := 1) rfl)) dX12_walkway_30 ?_
      exact hend H locs ((-1000001)) (L, mo_F D f mo ma M) _ ls w ⟨(by (try simp only [lg_cmp_le, lg_cmp_ge, lg_cmp_lt, lg_cmp_gt, ← Int32.not_lt, ← Int64.not_lt, Classical.not_not] at c_5 c_13); first | (simp [q_walkway, c_5, c_13, hjac]; done) | (simp [q_walkway, c_5, eq_true c_13, hjac]; done) | (exfalso; clear hend; simp_all; done)), rfl⟩ rfl dX12_walkway_32
    · obtain ⟨jb, hjb, rfl⟩ := hs_st_1 hv c_13
      have hjbc := hs_cl hjb (by omega)
      refine lv_iload_n hx hb dX12_walkway_16 rfl (lv_at hl 1 rfl) ?_
      refine lv_iload_n hx hb dX12_walkway_17 rfl (lv_at hl 2 rfl) ?_
      refine lv_icmp_eq (tgt := 30) hx hb dX12_walkway_18 (by decide) (fun c_18 => ?_) (fun c_18 => ?_)
      · refine lv_ldc (v := (-1000001)) hx hb hown (hts _ (List.mem_of_getElem? (i := 1) rfl)) dX12_walkway_30 ?_
        exact hend H locs ((-1000001)) (L, mo_F D f mo ma M) _ ls w ⟨(by (try simp only [lg_cmp_le, lg_cmp_ge, lg_cmp_lt, lg_cmp_gt, ← Int32.not_lt, ← Int64.not_lt, Classical.not_not] at c_5 c_13 c_18); first | (simp [q_walkway, c_5, c_13, c_18, hjac, hjbc]; done) | (simp [q_walkway, c_5, c_13, eq_true c_18, hjac, hjbc]; done) | (exfalso; clear hend; simp_all; done)), rfl⟩ rfl dX12_walkway_32
      · refine lv_aload_n hx hb dX12_walkway_21 rfl (lv_at hl 0 rfl) ?_
        refine lv_iload_n hx hb dX12_walkway_22 rfl (lv_at hl 1 rfl) ?_
        refine lv_iload_n hx hb dX12_walkway_23 rfl (lv_at hl 2 rfl) ?_
        refine hg_viF (r := (hs_walk (M 0) n ja jb)) (As := [.int (nI ja), .int (nI jb)]) (rest := []) X w (c_X12_walk l D b0 L f mo ma M hm n nr hv ja jb (by omega) (by omega)) (cwV 2 hts gX12_walkway_X12_walk rfl rfl rfl hdX12_walk ⟨Nat.le_of_ble_eq_true rfl, Nat.le_of_ble_eq_true rfl⟩) hm.1 (mo_at0 D f mo ma _) rfl rfl rfl hl.1 rfl (Nat.le_of_ble_eq_true rfl) dX12_walkway_24 ⟨Nat.zero_le _, Nat.zero_le _⟩ (fun H locs w => ?_)
        refine lv_goto (tgt := 32) hx hb dX12_walkway_27 (by decide) ?_
        exact hend H locs ((hs_walk (M 0) n ja jb)) (L, mo_F D f mo ma M) _ ls w ⟨(by (try simp only [lg_cmp_le, lg_cmp_ge, lg_cmp_lt, lg_cmp_gt, ← Int32.not_lt, ← Int64.not_lt, Classical.not_not] at c_5 c_13 c_18); first | (simp [q_walkway, c_5, c_13, c_18, hjac, hjbc]; done) | (simp [q_walkway, c_5, c_13, c_18, hjac, hjbc]; done) | (exfalso; clear hend; simp_all; done)), rfl⟩ rfl dX12_walkway_32
theorem hdX12_priceOf : yX12_priceOf.cls = RX12 ∧ yX12_priceOf.cls ≠ "java/lang/invoke/MethodHandle" ∧ yX12_priceOf.cls ≠ "java/lang/invoke/VarHandle" ∧ (parseMethodDescriptor yX12_priceOf.desc).map (fun d => d.parameters.length) = some 1 := by decide +kernel
set_option maxRecDepth 100000 in
set_option maxHeartbeats 4000000 in
/-- stall -/
theorem c_X12_stall (l : Launch) (D : va_G) (b0 : Nat) (L : List Nat) (f : Nat → va_E) (mo : Nat) (ma : Nat → Nat) (M : Nat → Nat → Int32) (hm : mo_ok L mo ma) (n nr : Nat) (hv : hs_ok (M 0) n nr) (x what : Int32) : mo_Fi l yX12_stall wsX12_stall ({ frames := 6, cells := 0, slots := 0, locals := 138 }) D b0 L f mo ma M [.int (x), .int (what)] (q_stall (M 0) n x what) (M) := by
  refine hg_in_i (cc := cX12_stall) (nL := 3) (by decide) rfl (Nat.le_of_ble_eq_true rfl) (fun p e s m args below meth c R Q X hR hend H locs ls w hl => ?_)
  subst hR
  obtain ⟨hx, hb, hml, hown, hts⟩ := id X.1
  have hin : ∀ w ∈ wsX120, w ∈ wsX12_stall := fun w h => List.mem_cons_of_mem _ (List.mem_append_right _ h)
  have hl : lv_has ls 3 [(0, .ref mo), (1, .int (x)), (2, .int (what))] := hl
  obtain ⟨hn, hn6, hnr, hnr3, htt⟩ := id hv
  refine lv_aload_n hx hb dX12_stall_0 rfl (lv_at hl 0 rfl) ?_
  refine lv_iload_n hx hb dX12_stall_1 rfl (lv_at hl 1 rfl) ?_
  refine hg_viF (r := hs_isSt (M 0) x) (As := [.int (x)]) (rest := []) X w (c_X12_isStall l D b0 L f mo ma M hm x) (cwV 1 hts gX12_stall_X12_isStall rfl rfl rfl hdX12_isStall ⟨Nat.le_of_ble_eq_true rfl, Nat.le_of_ble_eq_true rfl⟩) hm.1 (mo_at0 D f mo ma _) rfl rfl rfl hl.1 rfl (Nat.le_of_ble_eq_true rfl) dX12_stall_2 ⟨Nat.zero_le _, Nat.zero_le _⟩ (fun H locs w => ?_)
  refine lv_if_eq (tgt := 20) hx hb dX12_stall_5 (by decide) (fun c_5 => ?_) (fun c_5 => ?_)
  · refine lv_ldc (v := (-1000001)) hx hb hown (hts _ (List.mem_of_getElem? (i := 2) rfl)) dX12_stall_20 ?_
    exact hend H locs ((-1000001)) (L, mo_F D f mo ma M) _ ls w ⟨(by (try simp only [lg_cmp_le, lg_cmp_ge, lg_cmp_lt, lg_cmp_gt, ← Int32.not_lt, ← Int64.not_lt, Classical.not_not] at c_5); first | (simp [q_stall, c_5]; done) | (simp [q_stall, eq_true c_5]; done) | (exfalso; clear hend; simp_all; done)), rfl⟩ rfl dX12_stall_22
  · obtain ⟨j, hj, rfl⟩ := hs_st_1 hv c_5
    have hjc := hs_cl hj (by omega)
    refine lv_iload_n hx hb dX12_stall_8 rfl (lv_at hl 2 rfl) ?_
    refine lv_i2l hx hb dX12_stall_9 rfl ?_
    refine lv_lconst (v := 0) hx hb dX12_stall_10 (by decide) ?_
    refine lv_ldc2 (v := 8) hx hb hown (hts _ (List.mem_of_getElem? (i := 1) rfl)) dX12_stall_11 ?_
    refine hg_siF (r := hs_in what 0 8) (As := [.long ((what).toInt64), .long (0), .long (8)]) (rest := []) X w (c_X12_in l D b0 L _ ((what).toInt64) 0 8 what 0 8 rfl (by decide) (by decide)) (va_cwS 3 hts gX12_stall_X12_in rfl rfl rfl hdX12_in ⟨Nat.le_of_ble_eq_true rfl, Nat.le_of_ble_eq_true rfl⟩) rfl hl.1 rfl (Nat.le_of_ble_eq_true rfl) dX12_stall_14 ⟨Nat.zero_le _, Nat.zero_le _⟩ (fun H locs w => ?_)
    refine lv_if_ne (tgt := 23) hx hb dX12_stall_17 (by decide) (fun c_17 => ?_) (fun c_17 => ?_)
    · obtain ⟨q, hq, rfl⟩ := hs_in_j (n := 8) rfl (by decide) c_17
      have hqc : (nI q).toNatClampNeg = q := nI_clamp (by omega)
      refine lv_iload_n hx hb dX12_stall_23 rfl (lv_at hl 2 rfl) ?_
      refine lv_bipush (v := 6) hx hb dX12_stall_24 (by decide) ?_
      refine lv_icmp_ge (tgt := 46) hx hb dX12_stall_26 (by decide) (fun c_26 => ?_) (fun c_26 => ?_)
      · refine lv_iload_n hx hb dX12_stall_46 rfl (lv_at hl 2 rfl) ?_
        refine lv_bipush (v := 6) hx hb dX12_stall_47 (by decide) ?_
        refine lv_icmp_ne (tgt := 60) hx hb dX12_stall_49 (by decide) (fun c_49 => ?_) (fun c_49 => ?_)
        · refine lv_iload_n hx hb dX12_stall_60 rfl (lv_at hl 2 rfl) ?_
          refine lv_bipush (v := 7) hx hb dX12_stall_61 (by decide) ?_
          refine lv_icmp_ne (tgt := 74) hx hb dX12_stall_63 (by decide) (fun c_63 => ?_) (fun c_63 => ?_)
          · refine lv_aload_n hx hb dX12_stall_74 rfl (lv_at hl 0 rfl) ?_
            refine lv_iload_n hx hb dX12_stall_75 rfl (lv_at hl 1 rfl) ?_
            refine hg_viF (r := (hs_price (M 0) n j)) (As := [.int (nI j)]) (rest := []) X w (c_X12_priceOf l D b0 L f mo ma M hm n nr hv j (by omega)) (cwV 1 hts gX12_stall_X12_priceOf rfl rfl rfl hdX12_priceOf ⟨Nat.le_of_ble_eq_true rfl, Nat.le_of_ble_eq_true rfl⟩) hm.1 (mo_at0 D f mo ma _) rfl rfl rfl hl.1 rfl (Nat.le_of_ble_eq_true rfl) dX12_stall_76 ⟨Nat.zero_le _, Nat.zero_le _⟩ (fun H locs w => ?_)
            exact hend H locs ((hs_price (M 0) n j)) (L, mo_F D f mo ma M) _ ls w ⟨(by (try simp only [lg_cmp_le, lg_cmp_ge, lg_cmp_lt, lg_cmp_gt, ← Int32.not_lt, ← Int64.not_lt, Classical.not_not] at c_5 c_17 c_26 c_49 c_63); first | (simp [q_stall, c_5, c_17, c_26, c_49, c_63, hjc, hqc]; done) | (simp [q_stall, c_5, c_17, c_26, c_49, c_63, hjc, hqc]; done) | (exfalso; clear hend; simp_all; done)), rfl⟩ rfl dX12_stall_79
          · refine lv_aload_n hx hb dX12_stall_66 rfl (lv_at hl 0 rfl) ?_
            refine lv_iload_n hx hb dX12_stall_67 rfl (lv_at hl 1 rfl) ?_
            refine hg_viF (r := (hs_deep (M 0) n j)) (As := [.int (nI j)]) (rest := []) X w (c_X12_depthOf l D b0 L f mo ma M hm n nr hv j (by omega)) (cwV 1 hts gX12_stall_X12_depthOf rfl rfl rfl hdX12_depthOf ⟨Nat.le_of_ble_eq_true rfl, Nat.le_of_ble_eq_true rfl⟩) hm.1 (mo_at0 D f mo ma _) rfl rfl rfl hl.1 rfl (Nat.le_of_ble_eq_true rfl) dX12_stall_68 ⟨Nat.zero_le _, Nat.zero_le _⟩ (fun H locs w => ?_)
            refine lv_goto (tgt := 79) hx hb dX12_stall_71 (by decide) ?_
            exact hend H locs ((hs_deep (M 0) n j)) (L, mo_F D f mo ma M) _ ls w ⟨(by (try simp only [lg_cmp_le, lg_cmp_ge, lg_cmp_lt, lg_cmp_gt, ← Int32.not_lt, ← Int64.not_lt, Classical.not_not] at c_5 c_17 c_26 c_49 c_63); first | (simp [q_stall, c_5, c_17, c_26, c_49, c_63, hjc, hqc]; done) | (simp [q_stall, c_5, c_17, c_26, c_49, eq_true c_63, hjc, hqc]; done) | (exfalso; clear hend; simp_all; done)), rfl⟩ rfl dX12_stall_79
        · refine lv_aload_n hx hb dX12_stall_52 rfl (lv_at hl 0 rfl) ?_
          refine lv_iload_n hx hb dX12_stall_53 rfl (lv_at hl 1 rfl) ?_
          refine hg_viF (r := hs_weight (M 0) j) (As := [.int (nI j)]) (rest := []) X w (c_X12_weightOf l D b0 L f mo ma M hm j (by omega)) (cwV 1 hts gX12_stall_X12_weightOf rfl rfl rfl hdX12_weightOf ⟨Nat.le_of_ble_eq_true rfl, Nat.le_of_ble_eq_true rfl⟩) hm.1 (mo_at0 D f mo ma _) rfl rfl rfl hl.1 rfl (Nat.le_of_ble_eq_true rfl) dX12_stall_54 ⟨Nat.zero_le _, Nat.zero_le _⟩ (fun H locs w => ?_)
          refine lv_goto (tgt := 79) hx hb dX12_stall_57 (by decide) ?_
          exact hend H locs (hs_weight (M 0) j) (L, mo_F D f mo ma M) _ ls w ⟨(by (try simp only [lg_cmp_le, lg_cmp_ge, lg_cmp_lt, lg_cmp_gt, ← Int32.not_lt, ← Int64.not_lt, Classical.not_not] at c_5 c_17 c_26 c_49); first | (simp [q_stall, c_5, c_17, c_26, c_49, hjc, hqc]; done) | (simp [q_stall, c_5, c_17, c_26, eq_true c_49, hjc, hqc]; done) | (exfalso; clear hend; simp_all; done)), rfl⟩ rfl dX12_stall_79
      · have hq6 := hs_w6 rfl hq c_26
        refine lv_aload_n hx hb dX12_stall_29 rfl (lv_at hl 0 rfl) ?_
        refine mo_get X w hm hin 0 (by decide) (List.mem_of_getElem? (i := 3) rfl) rfl dX12_stall_30 ?_
        refine lv_bipush (v := 14) hx hb dX12_stall_33 (by decide) ?_
        refine lv_bipush (v := 6) hx hb dX12_stall_35 (by decide) ?_
        refine lv_iload_n hx hb dX12_stall_37 rfl (lv_at hl 2 rfl) ?_
        refine lv_imul hx hb dX12_stall_38 ?_
        refine lv_iadd hx hb dX12_stall_39 ?_
        refine lv_iload_n hx hb dX12_stall_40 rfl (lv_at hl 1 rfl) ?_
        refine lv_iadd hx hb dX12_stall_41 ?_
        refine mo_iald X w hm 0 (by decide) (by decide) (14 + (6 * q) + j) (hs_addI (hs_addI rfl (hs_mulI rfl rfl)) rfl) (by show _ < 1400; omega) dX12_stall_42 ?_
        refine lv_goto (tgt := 79) hx hb dX12_stall_43 (by decide) ?_
        exact hend H locs (M 0 (14 + (6 * q) + j)) (L, mo_F D f mo ma M) _ ls w ⟨(by (try simp only [lg_cmp_le, lg_cmp_ge, lg_cmp_lt, lg_cmp_gt, ← Int32.not_lt, ← Int64.not_lt, Classical.not_not] at c_5 c_17 c_26); first | (simp [q_stall, c_5, c_17, c_26, hjc, hqc]; done) | (simp [q_stall, c_5, c_17, c_26, hjc, hqc]; done) | (exfalso; clear hend; simp_all; done)), rfl⟩ rfl dX12_stall_79
    · refine lv_ldc (v := (-1000001)) hx hb hown (hts _ (List.mem_of_getElem? (i := 2) rfl)) dX12_stall_20 ?_
      exact hend H locs ((-1000001)) (L, mo_F D f mo ma M) _ ls w ⟨(by (try simp only [lg_cmp_le, lg_cmp_ge, lg_cmp_lt, lg_cmp_gt, ← Int32.not_lt, ← Int64.not_lt, Classical.not_not] at c_5 c_17); first | (simp [q_stall, c_5, c_17, hjc]; done) | (simp [q_stall, c_5, eq_true c_17, hjc]; done) | (exfalso; clear hend; simp_all; done)), rfl⟩ rfl dX12_stall_22
theorem c_X12_whoIs0 (l : Launch) (D : va_G) (b0 : Nat) (L : List Nat) (f : Nat → va_E) (mo : Nat) (ma : Nat → Nat) (M : Nat → Nat → Int32) (hm : mo_ok L mo ma) (n : Nat) (hn : M 0 3 = nI n) (hn6 : n ≤ 6) (rope place : Int32) : mo_Fi l yX12_whoIs wsX12_whoIs ({ frames := 0, cells := 0, slots := 0, locals := 0 }) D b0 L f mo ma M [.int 0, .int rope, .int place] (hs_who (M 0) rope place n) M := by
  have h := c_X12_whoIs l D b0 L f mo ma M hm 0 n (by omega) (by simpa using hn) hn6 rope place
  rw [show (fun z => M 0 (0 + z)) = M 0 from funext fun z => by rw [Nat.zero_add]] at h
  exact h
theorem hdX12_whoIs : yX12_whoIs.cls = RX12 ∧ yX12_whoIs.cls ≠ "java/lang/invoke/MethodHandle" ∧ yX12_whoIs.cls ≠ "java/lang/invoke/VarHandle" ∧ (parseMethodDescriptor yX12_whoIs.desc).map (fun d => d.parameters.length) = some 3 := by decide +kernel
set_option maxRecDepth 100000 in
set_option maxHeartbeats 4000000 in
/-- rope -/
theorem c_X12_rope (l : Launch) (D : va_G) (b0 : Nat) (L : List Nat) (f : Nat → va_E) (mo : Nat) (ma : Nat → Nat) (M : Nat → Nat → Int32) (hm : mo_ok L mo ma) (n nr : Nat) (hv : hs_ok (M 0) n nr) (rope place what : Int32) : mo_Fi l yX12_rope wsX12_rope ({ frames := 4, cells := 0, slots := 0, locals := 95 }) D b0 L f mo ma M [.int (rope), .int (place), .int (what)] (q_rope (M 0) n rope place what) (M) := by
  refine hg_in_i (cc := cX12_rope) (nL := 5) (by decide) rfl (Nat.le_of_ble_eq_true rfl) (fun p e s m args below meth c R Q X hR hend H locs ls w hl => ?_)
  subst hR
  obtain ⟨hx, hb, hml, hown, hts⟩ := id X.1
  have hin : ∀ w ∈ wsX120, w ∈ wsX12_rope := fun w h => List.mem_cons_of_mem _ (List.mem_append_right _ h)
  have hl : lv_has ls 5 [(0, .ref mo), (1, .int (rope)), (2, .int (place)), (3, .int (what))] := hl
  obtain ⟨hn, hn6, hnr, hnr3, htt⟩ := id hv
  refine lv_aload_n hx hb dX12_rope_0 rfl (lv_at hl 0 rfl) ?_
  refine lv_iload_n hx hb dX12_rope_1 rfl (lv_at hl 1 rfl) ?_
  refine hg_viF (r := hs_isRo (M 0) rope) (As := [.int (rope)]) (rest := []) X w (c_X12_isRope l D b0 L f mo ma M hm rope) (cwV 1 hts gX12_rope_X12_isRope rfl rfl rfl hdX12_isRope ⟨Nat.le_of_ble_eq_true rfl, Nat.le_of_ble_eq_true rfl⟩) hm.1 (mo_at0 D f mo ma _) rfl rfl rfl hl.1 rfl (Nat.le_of_ble_eq_true rfl) dX12_rope_2 ⟨Nat.zero_le _, Nat.zero_le _⟩ (fun H locs w => ?_)
  refine lv_if_eq (tgt := 32) hx hb dX12_rope_5 (by decide) (fun c_5 => ?_) (fun c_5 => ?_)
  · refine lv_ldc (v := (-1000001)) hx hb hown (hts _ (List.mem_of_getElem? (i := 3) rfl)) dX12_rope_32 ?_
    exact hend H locs ((-1000001)) (L, mo_F D f mo ma M) _ ls w ⟨(by (try simp only [lg_cmp_le, lg_cmp_ge, lg_cmp_lt, lg_cmp_gt, ← Int32.not_lt, ← Int64.not_lt, Classical.not_not] at c_5); first | (simp [q_rope, c_5]; done) | (simp [q_rope, eq_true c_5]; done) | (exfalso; clear hend; simp_all; done)), rfl⟩ rfl dX12_rope_34
  · obtain ⟨r, hr, rfl⟩ := hs_ro_1 hv c_5
    have hrc := hs_cl hr (by omega)
    refine lv_iload_n hx hb dX12_rope_8 rfl (lv_at hl 2 rfl) ?_
    refine lv_i2l hx hb dX12_rope_9 rfl ?_
    refine lv_lconst (v := 1) hx hb dX12_rope_10 (by decide) ?_
    refine lv_ldc2 (v := 8) hx hb hown (hts _ (List.mem_of_getElem? (i := 1) rfl)) dX12_rope_11 ?_
    refine hg_siF (r := hs_in place 1 8) (As := [.long ((place).toInt64), .long (1), .long (8)]) (rest := []) X w (c_X12_in l D b0 L _ ((place).toInt64) 1 8 place 1 8 rfl (by decide) (by decide)) (va_cwS 3 hts gX12_rope_X12_in rfl rfl rfl hdX12_in ⟨Nat.le_of_ble_eq_true rfl, Nat.le_of_ble_eq_true rfl⟩) rfl hl.1 rfl (Nat.le_of_ble_eq_true rfl) dX12_rope_14 ⟨Nat.zero_le _, Nat.zero_le _⟩ (fun H locs w => ?_)
    refine lv_if_eq (tgt := 32) hx hb dX12_rope_17 (by decide) (fun c_17 => ?_) (fun c_17 => ?_)
    · refine lv_ldc (v := (-1000001)) hx hb hown (hts _ (List.mem_of_getElem? (i := 3) rfl)) dX12_rope_32 ?_
      exact hend H locs ((-1000001)) (L, mo_F D f mo ma M) _ ls w ⟨(by (try simp only [lg_cmp_le, lg_cmp_ge, lg_cmp_lt, lg_cmp_gt, ← Int32.not_lt, ← Int64.not_lt, Classical.not_not] at c_5 c_17); first | (simp [q_rope, c_5, c_17, hrc]; done) | (simp [q_rope, c_5, eq_true c_17, hrc]; done) | (exfalso; clear hend; simp_all; done)), rfl⟩ rfl dX12_rope_34
    · refine lv_iload_n hx hb dX12_rope_20 rfl (lv_at hl 3 rfl) ?_
      refine lv_i2l hx hb dX12_rope_21 rfl ?_
      refine lv_lconst (v := 0) hx hb dX12_rope_22 (by decide) ?_
      refine lv_ldc2 (v := 3) hx hb hown (hts _ (List.mem_of_getElem? (i := 2) rfl)) dX12_rope_23 ?_
      refine hg_siF (r := hs_in what 0 3) (As := [.long ((what).toInt64), .long (0), .long (3)]) (rest := []) X w (c_X12_in l D b0 L _ ((what).toInt64) 0 3 what 0 3 rfl (by decide) (by decide)) (va_cwS 3 hts gX12_rope_X12_in rfl rfl rfl hdX12_in ⟨Nat.le_of_ble_eq_true rfl, Nat.le_of_ble_eq_true rfl⟩) rfl hl.1 rfl (Nat.le_of_ble_eq_true rfl) dX12_rope_26 ⟨Nat.zero_le _, Nat.zero_le _⟩ (fun H locs w => ?_)
      refine lv_if_ne (tgt := 35) hx hb dX12_rope_29 (by decide) (fun c_29 => ?_) (fun c_29 => ?_)
      · refine lv_aload_n hx hb dX12_rope_35 rfl (lv_at hl 0 rfl) ?_
        refine lv_iconst (v := 0) hx hb dX12_rope_36 (by decide) ?_
        refine lv_iload_n hx hb dX12_rope_37 rfl (lv_at hl 1 rfl) ?_
        refine lv_iload_n hx hb dX12_rope_38 rfl (lv_at hl 2 rfl) ?_
        refine hg_viF (r := (hs_who (M 0) (nI r) place n)) (As := [.int (0), .int (nI r), .int (place)]) (rest := []) X w (c_X12_whoIs0 l D b0 L f mo ma M hm n hn hn6 (nI r) place) (cwV 3 hts gX12_rope_X12_whoIs rfl rfl rfl hdX12_whoIs ⟨Nat.le_of_ble_eq_true rfl, Nat.le_of_ble_eq_true rfl⟩) hm.1 (mo_at0 D f mo ma _) rfl rfl rfl hl.1 rfl (Nat.le_of_ble_eq_true rfl) dX12_rope_39 ⟨Nat.zero_le _, Nat.zero_le _⟩ (fun H locs w => ?_)
        refine lv_istore (lv' := [(4, .int ((hs_who (M 0) (nI r) place n))), (0, .ref mo), (1, .int (nI r)), (2, .int (place)), (3, .int (what))]) hx hb dX12_rope_42 hl (by decide) rfl (fun ls hl => ?_)
        refine lv_iload_n hx hb dX12_rope_44 rfl (lv_at hl 4 rfl) ?_
        refine lv_if_ne (tgt := 57) hx hb dX12_rope_45 (by decide) (fun c_45 => ?_) (fun c_45 => ?_)
        · refine lv_iload_n hx hb dX12_rope_57 rfl (lv_at hl 4 rfl) ?_
          refine lv_iconst (v := 1) hx hb dX12_rope_58 (by decide) ?_
          refine lv_icmp_ne (tgt := 71) hx hb dX12_rope_59 (by decide) (fun c_59 => ?_) (fun c_59 => ?_)
          · refine lv_iload_n hx hb dX12_rope_71 rfl (lv_at hl 4 rfl) ?_
            refine lv_iconst (v := 2) hx hb dX12_rope_72 (by decide) ?_
            refine lv_icmp_ne (tgt := 87) hx hb dX12_rope_73 (by decide) (fun c_73 => ?_) (fun c_73 => ?_)
            · refine lv_iload hx hb dX12_rope_87 (lv_at hl 0 rfl) ?_
              refine lv_if_ge (tgt := 97) hx hb dX12_rope_89 (by decide) (fun c_89 => ?_) (fun c_89 => ?_)
              · refine lv_iload hx hb dX12_rope_97 (lv_at hl 0 rfl) ?_
                exact hend H locs ((hs_who (M 0) (nI r) place n)) (L, mo_F D f mo ma M) _ ls w ⟨(by (try simp only [lg_cmp_le, lg_cmp_ge, lg_cmp_lt, lg_cmp_gt, ← Int32.not_lt, ← Int64.not_lt, Classical.not_not] at c_5 c_17 c_29 c_45 c_59 c_73 c_89); first | (simp [q_rope, c_5, c_17, c_29, c_45, c_59, c_73, c_89, hrc]; done) | (simp [q_rope, c_5, c_17, c_29, c_45, c_59, c_73, c_89, hrc]; done) | (exfalso; clear hend; simp_all; done)), rfl⟩ rfl dX12_rope_99
              · refine lv_ldc (v := (-1000000)) hx hb hown (hts _ (List.mem_of_getElem? (i := 5) rfl)) dX12_rope_92 ?_
                refine lv_goto (tgt := 99) hx hb dX12_rope_94 (by decide) ?_
                exact hend H locs ((-1000000)) (L, mo_F D f mo ma M) _ ls w ⟨(by (try simp only [lg_cmp_le, lg_cmp_ge, lg_cmp_lt, lg_cmp_gt, ← Int32.not_lt, ← Int64.not_lt, Classical.not_not] at c_5 c_17 c_29 c_45 c_59 c_73 c_89); first | (simp [q_rope, c_5, c_17, c_29, c_45, c_59, c_73, c_89, hrc]; done) | (simp [q_rope, c_5, c_17, c_29, c_45, c_59, c_73, c_89, hrc]; done) | (exfalso; clear hend; simp_all; done)), rfl⟩ rfl dX12_rope_99
            · refine lv_aload_n hx hb dX12_rope_76 rfl (lv_at hl 1 rfl) ?_
              refine mo_get X w hm hin 0 (by decide) (List.mem_of_getElem? (i := 4) rfl) rfl dX12_rope_77 ?_
              refine lv_iconst (v := 5) hx hb dX12_rope_80 (by decide) ?_
              refine lv_iload_n hx hb dX12_rope_81 rfl (lv_at hl 2 rfl) ?_
              refine lv_iadd hx hb dX12_rope_82 ?_
              refine mo_iald X w hm 0 (by decide) (by decide) (5 + r) (hs_addI rfl rfl) (by show _ < 1400; omega) dX12_rope_83 ?_
              refine lv_goto (tgt := 99) hx hb dX12_rope_84 (by decide) ?_
              exact hend H locs (M 0 (5 + r)) (L, mo_F D f mo ma M) _ ls w ⟨(by (try simp only [lg_cmp_le, lg_cmp_ge, lg_cmp_lt, lg_cmp_gt, ← Int32.not_lt, ← Int64.not_lt, Classical.not_not] at c_5 c_17 c_29 c_45 c_59 c_73); first | (simp [q_rope, c_5, c_17, c_29, c_45, c_59, c_73, hrc]; done) | (simp [q_rope, c_5, c_17, c_29, c_45, c_59, eq_true c_73, hrc]; done) | (exfalso; clear hend; simp_all; done)), rfl⟩ rfl dX12_rope_99
          · refine lv_aload_n hx hb dX12_rope_62 rfl (lv_at hl 1 rfl) ?_
            refine lv_iload_n hx hb dX12_rope_63 rfl (lv_at hl 2 rfl) ?_
            refine lv_iload_n hx hb dX12_rope_64 rfl (lv_at hl 3 rfl) ?_
            refine hg_viF (r := (hs_depth (M 0) n (nI r) place)) (As := [.int (nI r), .int (place)]) (rest := []) X w (c_X12_depthAt l D b0 L f mo ma M hm n nr hv (nI r) place) (cwV 2 hts gX12_rope_X12_depthAt rfl rfl rfl hdX12_depthAt ⟨Nat.le_of_ble_eq_true rfl, Nat.le_of_ble_eq_true rfl⟩) hm.1 (mo_at0 D f mo ma _) rfl rfl rfl hl.1 rfl (Nat.le_of_ble_eq_true rfl) dX12_rope_65 ⟨Nat.zero_le _, Nat.zero_le _⟩ (fun H locs w => ?_)
            refine lv_goto (tgt := 99) hx hb dX12_rope_68 (by decide) ?_
            exact hend H locs ((hs_depth (M 0) n (nI r) place)) (L, mo_F D f mo ma M) _ ls w ⟨(by (try simp only [lg_cmp_le, lg_cmp_ge, lg_cmp_lt, lg_cmp_gt, ← Int32.not_lt, ← Int64.not_lt, Classical.not_not] at c_5 c_17 c_29 c_45 c_59); first | (simp [q_rope, c_5, c_17, c_29, c_45, c_59, hrc]; done) | (simp [q_rope, c_5, c_17, c_29, c_45, eq_true c_59, hrc]; done) | (exfalso; clear hend; simp_all; done)), rfl⟩ rfl dX12_rope_99
        · refine lv_aload_n hx hb dX12_rope_48 rfl (lv_at hl 1 rfl) ?_
          refine lv_iload_n hx hb dX12_rope_49 rfl (lv_at hl 2 rfl) ?_
          refine lv_iload_n hx hb dX12_rope_50 rfl (lv_at hl 3 rfl) ?_
          refine hg_viF (r := (hs_sag (M 0) n (nI r) place)) (As := [.int (nI r), .int (place)]) (rest := []) X w (c_X12_sagOf l D b0 L f mo ma M hm n nr hv (nI r) place) (cwV 2 hts gX12_rope_X12_sagOf rfl rfl rfl hdX12_sagOf ⟨Nat.le_of_ble_eq_true rfl, Nat.le_of_ble_eq_true rfl⟩) hm.1 (mo_at0 D f mo ma _) rfl rfl rfl hl.1 rfl (Nat.le_of_ble_eq_true rfl) dX12_rope_51 ⟨Nat.zero_le _, Nat.zero_le _⟩ (fun H locs w => ?_)
          refine lv_goto (tgt := 99) hx hb dX12_rope_54 (by decide) ?_
          exact hend H locs ((hs_sag (M 0) n (nI r) place)) (L, mo_F D f mo ma M) _ ls w ⟨(by (try simp only [lg_cmp_le, lg_cmp_ge, lg_cmp_lt, lg_cmp_gt, ← Int32.not_lt, ← Int64.not_lt, Classical.not_not] at c_5 c_17 c_29 c_45); first | (simp [q_rope, c_5, c_17, c_29, c_45, hrc]; done) | (simp [q_rope, c_5, c_17, c_29, eq_true c_45, hrc]; done) | (exfalso; clear hend; simp_all; done)), rfl⟩ rfl dX12_rope_99
      · refine lv_ldc (v := (-1000001)) hx hb hown (hts _ (List.mem_of_getElem? (i := 3) rfl)) dX12_rope_32 ?_
        exact hend H locs ((-1000001)) (L, mo_F D f mo ma M) _ ls w ⟨(by (try simp only [lg_cmp_le, lg_cmp_ge, lg_cmp_lt, lg_cmp_gt, ← Int32.not_lt, ← Int64.not_lt, Classical.not_not] at c_5 c_17 c_29); first | (simp [q_rope, c_5, c_17, c_29, hrc]; done) | (simp [q_rope, c_5, c_17, eq_true c_29, hrc]; done) | (exfalso; clear hend; simp_all; done)), rfl⟩ rfl dX12_rope_34
theorem hdX12_isOf : yX12_isOf.cls ≠ "java/lang/invoke/MethodHandle" ∧ yX12_isOf.cls ≠ "java/lang/invoke/VarHandle" ∧ (parseMethodDescriptor yX12_isOf.desc).map (fun d => d.parameters.length) = some 2 := by decide +kernel
set_option maxRecDepth 100000 in
set_option maxHeartbeats 4000000 in
/-- as -/
theorem c_X12_as (l : Launch) (D : va_G) (b0 : Nat) (L : List Nat) (f : Nat → va_E) (mo : Nat) (ma : Nat → Nat) (M : Nat → Nat → Int32) (hm : mo_ok L mo ma) (n nr : Nat) (hv : hs_ok (M 0) n nr) (one kind : Int32) : mo_Fi l yX12_as wsX12_as ({ frames := 2, cells := 0, slots := 0, locals := 46 }) D b0 L f mo ma M [.int (one), .int (kind)] ((sp_as M one kind).1) ((sp_as M one kind).2) := by
  refine hg_in_i (cc := cX12_as) (nL := 3) (by decide) rfl (Nat.le_of_ble_eq_true rfl) (fun p e s m args below meth c R Q X hR hend H locs ls w hl => ?_)
  subst hR
  obtain ⟨hx, hb, hml, hown, hts⟩ := id X.1
  have hin : ∀ w ∈ wsX120, w ∈ wsX12_as := fun w h => List.mem_cons_of_mem _ (List.mem_append_right _ h)
  have hl : lv_has ls 3 [(0, .ref mo), (1, .int (one)), (2, .int (kind))] := hl
  obtain ⟨hn, hn6, hnr, hnr3, htt⟩ := id hv
  refine lv_aload_n hx hb dX12_as_0 rfl (lv_at hl 0 rfl) ?_
  refine lv_iload_n hx hb dX12_as_1 rfl (lv_at hl 1 rfl) ?_
  refine hg_viF (r := hs_isSt (M 0) one) (As := [.int (one)]) (rest := []) X w (c_X12_isStall l D b0 L f mo ma M hm one) (cwV 1 hts gX12_as_X12_isStall rfl rfl rfl hdX12_isStall ⟨Nat.le_of_ble_eq_true rfl, Nat.le_of_ble_eq_true rfl⟩) hm.1 (mo_at0 D f mo ma _) rfl rfl rfl hl.1 rfl (Nat.le_of_ble_eq_true rfl) dX12_as_2 ⟨Nat.zero_le _, Nat.zero_le _⟩ (fun H locs w => ?_)
  refine lv_if_eq (tgt := 20) hx hb dX12_as_5 (by decide) (fun c_5 => ?_) (fun c_5 => ?_)
  · refine lv_ldc (v := (-1000001)) hx hb hown (hts _ (List.mem_of_getElem? (i := 2) rfl)) dX12_as_20 ?_
    exact hend H locs ((-1000001)) (L, mo_F D f mo ma M) _ ls w ⟨(by (try simp only [lg_cmp_le, lg_cmp_ge, lg_cmp_lt, lg_cmp_gt, ← Int32.not_lt, ← Int64.not_lt, Classical.not_not] at c_5); first | (simp [sp_as, sp_found, sp_well, c_5]; done) | (simp [sp_as, sp_found, sp_well, eq_true c_5]; done) | (exfalso; clear hend; simp_all; done)), (congrArg (fun z => (L, mo_F D f mo ma z)) (by (try simp only [lg_cmp_le, lg_cmp_ge, lg_cmp_lt, lg_cmp_gt, ← Int32.not_lt, ← Int64.not_lt, Classical.not_not] at c_5); first | (simp [sp_as, sp_found, sp_well, c_5]; done) | (simp [sp_as, sp_found, sp_well, eq_true c_5]; done) | (exfalso; clear hend; simp_all; done)))⟩ rfl dX12_as_22
  · obtain ⟨j, hj, rfl⟩ := hs_st_1 hv c_5
    have hjc := hs_cl hj (by omega)
    refine lv_iload_n hx hb dX12_as_8 rfl (lv_at hl 2 rfl) ?_
    refine lv_i2l hx hb dX12_as_9 rfl ?_
    refine lv_lconst (v := 0) hx hb dX12_as_10 (by decide) ?_
    refine lv_ldc2 (v := 5) hx hb hown (hts _ (List.mem_of_getElem? (i := 1) rfl)) dX12_as_11 ?_
    refine hg_siF (r := hs_in kind 0 5) (As := [.long ((kind).toInt64), .long (0), .long (5)]) (rest := []) X w (c_X12_in l D b0 L _ ((kind).toInt64) 0 5 kind 0 5 rfl (by decide) (by decide)) (va_cwS 3 hts gX12_as_X12_in rfl rfl rfl hdX12_in ⟨Nat.le_of_ble_eq_true rfl, Nat.le_of_ble_eq_true rfl⟩) rfl hl.1 rfl (Nat.le_of_ble_eq_true rfl) dX12_as_14 ⟨Nat.zero_le _, Nat.zero_le _⟩ (fun H locs w => ?_)
    refine lv_if_ne (tgt := 23) hx hb dX12_as_17 (by decide) (fun c_17 => ?_) (fun c_17 => ?_)
    · refine lv_aload_n hx hb dX12_as_23 rfl (lv_at hl 0 rfl) ?_
      refine mo_get X w hm hin 0 (by decide) (List.mem_of_getElem? (i := 3) rfl) rfl dX12_as_24 ?_
      refine lv_bipush (v := 8) hx hb dX12_as_27 (by decide) ?_
      refine lv_iload_n hx hb dX12_as_29 rfl (lv_at hl 1 rfl) ?_
      refine lv_iadd hx hb dX12_as_30 ?_
      refine mo_iald X w hm 0 (by decide) (by decide) (8 + j) (hs_addI rfl rfl) (by show _ < 1400; omega) dX12_as_31 ?_
      refine lv_iload_n hx hb dX12_as_32 rfl (lv_at hl 2 rfl) ?_
      refine hg_siF (r := hs_isof (M 0 (8 + j)) kind) (As := [.int (M 0 (8 + j)), .int (kind)]) (rest := []) X w (c_X12_isOf l D b0 L _ (M 0 (8 + j)) kind) (va_cwS 2 hts gX12_as_X12_isOf rfl rfl rfl hdX12_isOf ⟨Nat.le_of_ble_eq_true rfl, Nat.le_of_ble_eq_true rfl⟩) rfl hl.1 rfl (Nat.le_of_ble_eq_true rfl) dX12_as_33 ⟨Nat.zero_le _, Nat.zero_le _⟩ (fun H locs w => ?_)
      refine lv_if_eq (tgt := 47) hx hb dX12_as_36 (by decide) (fun c_36 => ?_) (fun c_36 => ?_)
      · refine lv_aload_n hx hb dX12_as_47 rfl (lv_at hl 0 rfl) ?_
        refine lv_iconst (v := 3) hx hb dX12_as_48 (by decide) ?_
        refine hg_viF (r := (-1000010 - 3)) (As := [.int (3)]) (rest := []) X w (c_X12_found l D b0 L f mo ma M hm 3) (cwV 1 hts gX12_as_X12_found rfl rfl rfl hdX12_found ⟨Nat.le_of_ble_eq_true rfl, Nat.le_of_ble_eq_true rfl⟩) hm.1 (mo_at0 D f mo ma _) rfl rfl rfl hl.1 rfl (Nat.le_of_ble_eq_true rfl) dX12_as_49 ⟨Nat.zero_le _, Nat.zero_le _⟩ (fun H locs w => ?_)
        exact hend H locs ((-1000010 - 3)) (L, mo_F D f mo ma (mo_w M 7 0 3)) _ ls w ⟨(by (try simp only [lg_cmp_le, lg_cmp_ge, lg_cmp_lt, lg_cmp_gt, ← Int32.not_lt, ← Int64.not_lt, Classical.not_not] at c_5 c_17 c_36); first | (simp [sp_as, sp_found, sp_well, c_5, c_17, c_36, hjc]; done) | (simp [sp_as, sp_found, sp_well, c_5, c_17, eq_true c_36, hjc]; done) | (exfalso; clear hend; simp_all; done)), (congrArg (fun z => (L, mo_F D f mo ma z)) (by (try simp only [lg_cmp_le, lg_cmp_ge, lg_cmp_lt, lg_cmp_gt, ← Int32.not_lt, ← Int64.not_lt, Classical.not_not] at c_5 c_17 c_36); first | (simp [sp_as, sp_found, sp_well, c_5, c_17, c_36, hjc]; done) | (simp [sp_as, sp_found, sp_well, c_5, c_17, eq_true c_36, hjc]; done) | (exfalso; clear hend; simp_all; done)))⟩ rfl dX12_as_52
      · refine lv_aload_n hx hb dX12_as_39 rfl (lv_at hl 0 rfl) ?_
        refine lv_iload_n hx hb dX12_as_40 rfl (lv_at hl 1 rfl) ?_
        refine hg_viF (r := nI j) (As := [.int (nI j)]) (rest := []) X w (c_X12_well l D b0 L f mo ma M hm (nI j)) (cwV 1 hts gX12_as_X12_well rfl rfl rfl hdX12_well ⟨Nat.le_of_ble_eq_true rfl, Nat.le_of_ble_eq_true rfl⟩) hm.1 (mo_at0 D f mo ma _) rfl rfl rfl hl.1 rfl (Nat.le_of_ble_eq_true rfl) dX12_as_41 ⟨Nat.zero_le _, Nat.zero_le _⟩ (fun H locs w => ?_)
        refine lv_goto (tgt := 52) hx hb dX12_as_44 (by decide) ?_
        exact hend H locs (nI j) (L, mo_F D f mo ma (mo_w M 7 0 0)) _ ls w ⟨(by (try simp only [lg_cmp_le, lg_cmp_ge, lg_cmp_lt, lg_cmp_gt, ← Int32.not_lt, ← Int64.not_lt, Classical.not_not] at c_5 c_17 c_36); first | (simp [sp_as, sp_found, sp_well, c_5, c_17, c_36, hjc]; done) | (simp [sp_as, sp_found, sp_well, c_5, c_17, c_36, hjc]; done) | (exfalso; clear hend; simp_all; done)), (congrArg (fun z => (L, mo_F D f mo ma z)) (by (try simp only [lg_cmp_le, lg_cmp_ge, lg_cmp_lt, lg_cmp_gt, ← Int32.not_lt, ← Int64.not_lt, Classical.not_not] at c_5 c_17 c_36); first | (simp [sp_as, sp_found, sp_well, c_5, c_17, c_36, hjc]; done) | (simp [sp_as, sp_found, sp_well, c_5, c_17, c_36, hjc]; done) | (exfalso; clear hend; simp_all; done)))⟩ rfl dX12_as_52
    · refine lv_ldc (v := (-1000001)) hx hb hown (hts _ (List.mem_of_getElem? (i := 2) rfl)) dX12_as_20 ?_
      exact hend H locs ((-1000001)) (L, mo_F D f mo ma M) _ ls w ⟨(by (try simp only [lg_cmp_le, lg_cmp_ge, lg_cmp_lt, lg_cmp_gt, ← Int32.not_lt, ← Int64.not_lt, Classical.not_not] at c_5 c_17); first | (simp [sp_as, sp_found, sp_well, c_5, c_17, hjc]; done) | (simp [sp_as, sp_found, sp_well, c_5, eq_true c_17, hjc]; done) | (exfalso; clear hend; simp_all; done)), (congrArg (fun z => (L, mo_F D f mo ma z)) (by (try simp only [lg_cmp_le, lg_cmp_ge, lg_cmp_lt, lg_cmp_gt, ← Int32.not_lt, ← Int64.not_lt, Classical.not_not] at c_5 c_17); first | (simp [sp_as, sp_found, sp_well, c_5, c_17, hjc]; done) | (simp [sp_as, sp_found, sp_well, c_5, eq_true c_17, hjc]; done) | (exfalso; clear hend; simp_all; done)))⟩ rfl dX12_as_22
set_option maxRecDepth 100000 in
set_option maxHeartbeats 4000000 in
/-- trace -/
theorem c_X12_trace (l : Launch) (D : va_G) (b0 : Nat) (L : List Nat) (f : Nat → va_E) (mo : Nat) (ma : Nat → Nat) (M : Nat → Nat → Int32) (hm : mo_ok L mo ma) (hT : hs_tr M) (x : Int32) : mo_Fi l yX12_trace wsX12_trace ({ frames := 1, cells := 0, slots := 0, locals := 25 }) D b0 L f mo ma M [.int (x)] (q_trace M x) (M) := by
  refine hg_in_i (cc := cX12_trace) (nL := 2) (by decide) rfl (Nat.le_of_ble_eq_true rfl) (fun p e s m args below meth c R Q X hR hend H locs ls w hl => ?_)
  subst hR
  obtain ⟨hx, hb, hml, hown, hts⟩ := id X.1
  have hin : ∀ w ∈ wsX120, w ∈ wsX12_trace := fun w h => List.mem_cons_of_mem _ (List.mem_append_right _ h)
  have hl : lv_has ls 2 [(0, .ref mo), (1, .int (x))] := hl
  refine lv_iload_n hx hb dX12_trace_0 rfl (lv_at hl 1 rfl) ?_
  refine lv_i2l hx hb dX12_trace_1 rfl ?_
  refine lv_lconst (v := 0) hx hb dX12_trace_2 (by decide) ?_
  refine lv_aload_n hx hb dX12_trace_3 rfl (lv_at hl 0 rfl) ?_
  refine mo_get X w hm hin 18 (by decide) (List.mem_of_getElem? (i := 1) rfl) rfl dX12_trace_4 ?_
  refine lv_iconst (v := 1) hx hb dX12_trace_7 (by decide) ?_
  refine lv_isub hx hb dX12_trace_8 ?_
  refine lv_i2l hx hb dX12_trace_9 rfl ?_
  refine hg_siF (r := hs_in x 0 (M 18 0 - 1)) (As := [.long ((x).toInt64), .long (0), .long (((M 18 0 - 1)).toInt64)]) (rest := []) X w (c_X12_in l D b0 L _ ((x).toInt64) 0 (((M 18 0 - 1)).toInt64) x 0 (M 18 0 - 1) rfl (by decide) rfl) (va_cwS 3 hts gX12_trace_X12_in rfl rfl rfl hdX12_in ⟨Nat.le_of_ble_eq_true rfl, Nat.le_of_ble_eq_true rfl⟩) rfl hl.1 rfl (Nat.le_of_ble_eq_true rfl) dX12_trace_10 ⟨Nat.zero_le _, Nat.zero_le _⟩ (fun H locs w => ?_)
  refine lv_if_eq (tgt := 25) hx hb dX12_trace_13 (by decide) (fun c_13 => ?_) (fun c_13 => ?_)
  · refine lv_ldc (v := (-1000000)) hx hb hown (hts _ (List.mem_of_getElem? (i := 3) rfl)) dX12_trace_25 ?_
    exact hend H locs ((-1000000)) (L, mo_F D f mo ma M) _ ls w ⟨(by (try simp only [lg_cmp_le, lg_cmp_ge, lg_cmp_lt, lg_cmp_gt, ← Int32.not_lt, ← Int64.not_lt, Classical.not_not] at c_13); first | (simp [q_trace, c_13]; done) | (simp [q_trace, eq_true c_13]; done) | (exfalso; clear hend; simp_all; done)), rfl⟩ rfl dX12_trace_27
  · obtain ⟨t, ht1, ht⟩ := hT
    rw [ht] at c_13
    obtain ⟨j, hj, rfl⟩ := hs_in_jm (by omega) c_13
    have hjc := hs_cl hj (by omega)
    rw [← ht] at c_13
    refine lv_aload_n hx hb dX12_trace_16 rfl (lv_at hl 0 rfl) ?_
    refine mo_get X w hm hin 17 (by decide) (List.mem_of_getElem? (i := 2) rfl) rfl dX12_trace_17 ?_
    refine lv_iload_n hx hb dX12_trace_20 rfl (lv_at hl 1 rfl) ?_
    refine mo_iald X w hm 17 (by decide) (by decide) j rfl (by show _ < 16; omega) dX12_trace_21 ?_
    refine lv_goto (tgt := 27) hx hb dX12_trace_22 (by decide) ?_
    exact hend H locs (M 17 j) (L, mo_F D f mo ma M) _ ls w ⟨(by (try simp only [lg_cmp_le, lg_cmp_ge, lg_cmp_lt, lg_cmp_gt, ← Int32.not_lt, ← Int64.not_lt, Classical.not_not] at c_13); first | (simp [q_trace, c_13, hjc]; done) | (simp [q_trace, c_13, hjc]; done) | (exfalso; clear hend; simp_all; done)), rfl⟩ rfl dX12_trace_27
set_option maxRecDepth 100000 in
set_option maxHeartbeats 4000000 in
/-- rowsMany -/
theorem c_X12_rowsMany (l : Launch) (D : va_G) (b0 : Nat) (L : List Nat) (f : Nat → va_E) (mo : Nat) (ma : Nat → Nat) (M : Nat → Nat → Int32) (hm : mo_ok L mo ma)  : mo_Fi l yX12_rowsMany wsX12_rowsMany ({ frames := 0, cells := 0, slots := 0, locals := 0 }) D b0 L f mo ma M [] (hs_many M 8) (M) := by
  refine hg_in_i (cc := cX12_rowsMany) (nL := 3) (by decide) rfl (Nat.le_of_ble_eq_true rfl) (fun p e s m args below meth c R Q X hR hend H locs ls w hl => ?_)
  subst hR
  obtain ⟨hx, hb, hml, hown, hts⟩ := id X.1
  have hin : ∀ w ∈ wsX120, w ∈ wsX12_rowsMany := fun w h => List.mem_cons_of_mem _ (List.mem_append_right _ h)
  have hl : lv_has ls 3 [(0, .ref mo)] := hl
  refine lv_iconst (v := 0) hx hb dX12_rowsMany_0 (by decide) ?_
  refine lv_istore_n (lv' := [(1, .int (0)), (0, .ref mo)]) hx hb dX12_rowsMany_1 rfl hl (by decide) rfl (fun ls hl => ?_)
  refine lv_iconst (v := 0) hx hb dX12_rowsMany_2 (by decide) ?_
  refine lv_istore_n (lv' := [(2, .int (0)), (1, .int (0)), (0, .ref mo)]) hx hb dX12_rowsMany_3 rfl hl (by decide) rfl (fun ls hl => ?_)
  have loop : ∀ (n0 k : Nat), k ≤ 8 → 8 + 1 ≤ k + n0 → ∀ (H : Heap) (locs : List Loc) (ls : Array Slot), hg_W D b0 L (mo_F D f mo ma M) s.heap H locs → lv_has ls 3 [(0, .ref mo), (1, .int (hs_many M k)), (2, .int (nI k))] → W p l e ({ frames := 0, cells := 0, slots := 0, locals := 0 }) s m args below meth c H locs 0 0 Q (F0 m 4 ls []) := by
    intro n0
    induction n0 with
    | zero =>
      intro k h1 h2
      exact absurd h2 (by omega)
    | succ n0 ih =>
      intro k hk hn0 H locs ls w hl
      refine lv_iload_n hx hb dX12_rowsMany_4 rfl (lv_at hl 2 rfl) ?_
      refine lv_bipush (v := 8) hx hb dX12_rowsMany_5 (by decide) ?_
      refine lv_icmp_ge (tgt := 33) hx hb dX12_rowsMany_7 (by decide) (fun c_7 => ?_) (fun c_7 => ?_)
      · have hk : 8 = k := by
          rcases Nat.lt_or_ge k 8 with q | q
          · exact absurd c_7 (nI_ge (a := k) (b := 8) q (by omega))
          · omega
        subst hk
        refine lv_iload_n hx hb dX12_rowsMany_33 rfl (lv_at hl 1 rfl) ?_
        exact hend H locs (hs_many M 8) (L, mo_F D f mo ma M) _ ls w ⟨rfl, rfl⟩ rfl dX12_rowsMany_34
      · have hkl : k < 8 := by
          rcases Nat.lt_or_ge k 8 with q | q
          · exact q
          · exact absurd (nI_le (a := 8) (b := k) q (by omega)) c_7
        refine lv_iload_n hx hb dX12_rowsMany_10 rfl (lv_at hl 1 rfl) ?_
        refine lv_aload_n hx hb dX12_rowsMany_11 rfl (lv_at hl 0 rfl) ?_
        refine mo_get X w hm hin 3 (by decide) (List.mem_of_getElem? (i := 1) rfl) rfl dX12_rowsMany_12 ?_
        refine lv_iload_n hx hb dX12_rowsMany_15 rfl (lv_at hl 2 rfl) ?_
        refine mo_iald X w hm 3 (by decide) (by decide) k rfl (by show _ < 8; omega) dX12_rowsMany_16 ?_
        refine lv_if_ge (tgt := 24) hx hb dX12_rowsMany_17 (by decide) (fun c_17 => ?_) (fun c_17 => ?_)
        · refine lv_iconst (v := 1) hx hb dX12_rowsMany_24 (by decide) ?_
          refine lv_iadd hx hb dX12_rowsMany_25 ?_
          refine lv_istore_n (lv' := [(1, .int ((hs_many M k + 1))), (0, .ref mo), (2, .int (nI k))]) hx hb dX12_rowsMany_26 rfl hl (by decide) rfl (fun ls hl => ?_)
          refine lv_iinc (v := nI k + 1) (lv' := [(2, .int (nI k + 1)), (1, .int ((hs_many M k + 1))), (0, .ref mo)]) hx hb dX12_rowsMany_27 hl (k := 2) rfl rfl (by decide) rfl (fun ls hl => ?_)
          refine lv_goto (tgt := 4) hx hb dX12_rowsMany_30 (by decide) ?_
          have he1 : (hs_many M k + 1) = hs_many M (k + 1) := by (try simp only [← Int32.not_lt, Classical.not_not] at c_17); simp [hs_many, c_17]
          have hl := hs_lv hl (k := 1) rfl he1
          have hl := hs_lv hl (k := 0) rfl (nI_1 k)
          exact ih (k + 1) (by omega) (by omega) H locs ls w (lv_sub hl [2, 1, 0] rfl)
        · refine lv_iconst (v := 0) hx hb dX12_rowsMany_20 (by decide) ?_
          refine lv_goto (tgt := 25) hx hb dX12_rowsMany_21 (by decide) ?_
          refine lv_iadd hx hb dX12_rowsMany_25 ?_
          refine lv_istore_n (lv' := [(1, .int ((hs_many M k + 0))), (0, .ref mo), (2, .int (nI k))]) hx hb dX12_rowsMany_26 rfl hl (by decide) rfl (fun ls hl => ?_)
          refine lv_iinc (v := nI k + 1) (lv' := [(2, .int (nI k + 1)), (1, .int ((hs_many M k + 0))), (0, .ref mo)]) hx hb dX12_rowsMany_27 hl (k := 2) rfl rfl (by decide) rfl (fun ls hl => ?_)
          refine lv_goto (tgt := 4) hx hb dX12_rowsMany_30 (by decide) ?_
          have he1 : (hs_many M k + 0) = hs_many M (k + 1) := by (try simp only [← Int32.not_lt, Classical.not_not] at c_17); simp [hs_many, c_17]
          have hl := hs_lv hl (k := 1) rfl he1
          have hl := hs_lv hl (k := 0) rfl (nI_1 k)
          exact ih (k + 1) (by omega) (by omega) H locs ls w (lv_sub hl [2, 1, 0] rfl)
  exact loop 9 0 (by omega) (by omega) H locs ls w (lv_sub hl [2, 1, 0] rfl)
theorem hdX12_rowsMany : yX12_rowsMany.cls = RX12 ∧ yX12_rowsMany.cls ≠ "java/lang/invoke/MethodHandle" ∧ yX12_rowsMany.cls ≠ "java/lang/invoke/VarHandle" ∧ (parseMethodDescriptor yX12_rowsMany.desc).map (fun d => d.parameters.length) = some 0 := by decide +kernel
set_option maxRecDepth 100000 in
set_option maxHeartbeats 4000000 in
/-- count -/
theorem c_X12_count (l : Launch) (D : va_G) (b0 : Nat) (L : List Nat) (f : Nat → va_E) (mo : Nat) (ma : Nat → Nat) (M : Nat → Nat → Int32) (hm : mo_ok L mo ma) (what : Int32) : mo_Fi l yX12_count wsX12_count ({ frames := 1, cells := 0, slots := 0, locals := 22 }) D b0 L f mo ma M [.int (what)] (q_count M what) (M) := by
  refine hg_in_i (cc := cX12_count) (nL := 2) (by decide) rfl (Nat.le_of_ble_eq_true rfl) (fun p e s m args below meth c R Q X hR hend H locs ls w hl => ?_)
  subst hR
  obtain ⟨hx, hb, hml, hown, hts⟩ := id X.1
  have hin : ∀ w ∈ wsX120, w ∈ wsX12_count := fun w h => List.mem_cons_of_mem _ (List.mem_append_right _ h)
  have hl : lv_has ls 2 [(0, .ref mo), (1, .int (what))] := hl
  refine lv_iload_n hx hb dX12_count_0 rfl (lv_at hl 1 rfl) ?_
  by_cases s_1_0 : what = 0
  · refine lv_tableIn (off := 43) (tgt := 44) hx hb dX12_count_1 (by rw [s_1_0]; decide) (by rw [s_1_0]; decide) (by rw [s_1_0]; decide) (by decide) ?_
    refine lv_aload_n hx hb dX12_count_44 rfl (lv_at hl 0 rfl) ?_
    refine hg_viF (r := (hs_many M 8)) (As := []) (rest := []) X w (c_X12_rowsMany l D b0 L f mo ma M hm ) (cwV 0 hts gX12_count_X12_rowsMany rfl rfl rfl hdX12_rowsMany ⟨Nat.le_of_ble_eq_true rfl, Nat.le_of_ble_eq_true rfl⟩) hm.1 (mo_at0 D f mo ma _) rfl rfl rfl hl.1 rfl (Nat.le_of_ble_eq_true rfl) dX12_count_45 ⟨Nat.zero_le _, Nat.zero_le _⟩ (fun H locs w => ?_)
    exact hend H locs ((hs_many M 8)) (L, mo_F D f mo ma M) _ ls w ⟨(by (try simp only [lg_cmp_le, lg_cmp_ge, lg_cmp_lt, lg_cmp_gt, ← Int32.not_lt, ← Int64.not_lt, Classical.not_not] at s_1_0); first | (simp [q_count, s_1_0]; done) | (simp [q_count, eq_true s_1_0]; done) | (exfalso; clear hend; simp_all; done)), rfl⟩ rfl dX12_count_48
  by_cases s_1_1 : what = 1
  · refine lv_tableIn (off := 48) (tgt := 49) hx hb dX12_count_1 (by rw [s_1_1]; decide) (by rw [s_1_1]; decide) (by rw [s_1_1]; decide) (by decide) ?_
    refine lv_aload_n hx hb dX12_count_49 rfl (lv_at hl 0 rfl) ?_
    refine mo_get X w hm hin 0 (by decide) (List.mem_of_getElem? (i := 1) rfl) rfl dX12_count_50 ?_
    refine lv_iconst (v := 2) hx hb dX12_count_53 (by decide) ?_
    refine mo_iald X w hm 0 (by decide) (by decide) 2 rfl (by show _ < 1400; omega) dX12_count_54 ?_
    exact hend H locs (M 0 2) (L, mo_F D f mo ma M) _ ls w ⟨(by (try simp only [lg_cmp_le, lg_cmp_ge, lg_cmp_lt, lg_cmp_gt, ← Int32.not_lt, ← Int64.not_lt, Classical.not_not] at s_1_0 s_1_1); first | (simp [q_count, s_1_0, s_1_1]; done) | (simp [q_count, s_1_0, eq_true s_1_1]; done) | (exfalso; clear hend; simp_all; done)), rfl⟩ rfl dX12_count_55
  by_cases s_1_2 : what = 2
  · refine lv_tableIn (off := 55) (tgt := 56) hx hb dX12_count_1 (by rw [s_1_2]; decide) (by rw [s_1_2]; decide) (by rw [s_1_2]; decide) (by decide) ?_
    refine lv_aload_n hx hb dX12_count_56 rfl (lv_at hl 0 rfl) ?_
    refine mo_get X w hm hin 0 (by decide) (List.mem_of_getElem? (i := 1) rfl) rfl dX12_count_57 ?_
    refine lv_iconst (v := 3) hx hb dX12_count_60 (by decide) ?_
    refine mo_iald X w hm 0 (by decide) (by decide) 3 rfl (by show _ < 1400; omega) dX12_count_61 ?_
    exact hend H locs (M 0 3) (L, mo_F D f mo ma M) _ ls w ⟨(by (try simp only [lg_cmp_le, lg_cmp_ge, lg_cmp_lt, lg_cmp_gt, ← Int32.not_lt, ← Int64.not_lt, Classical.not_not] at s_1_0 s_1_1 s_1_2); first | (simp [q_count, s_1_0, s_1_1, s_1_2]; done) | (simp [q_count, s_1_0, s_1_1, eq_true s_1_2]; done) | (exfalso; clear hend; simp_all; done)), rfl⟩ rfl dX12_count_62
  by_cases s_1_3 : what = 3
  · refine lv_tableIn (off := 62) (tgt := 63) hx hb dX12_count_1 (by rw [s_1_3]; decide) (by rw [s_1_3]; decide) (by rw [s_1_3]; decide) (by decide) ?_
    refine lv_aload_n hx hb dX12_count_63 rfl (lv_at hl 0 rfl) ?_
    refine mo_get X w hm hin 0 (by decide) (List.mem_of_getElem? (i := 1) rfl) rfl dX12_count_64 ?_
    refine lv_iconst (v := 0) hx hb dX12_count_67 (by decide) ?_
    refine mo_iald X w hm 0 (by decide) (by decide) 0 rfl (by show _ < 1400; omega) dX12_count_68 ?_
    exact hend H locs (M 0 0) (L, mo_F D f mo ma M) _ ls w ⟨(by (try simp only [lg_cmp_le, lg_cmp_ge, lg_cmp_lt, lg_cmp_gt, ← Int32.not_lt, ← Int64.not_lt, Classical.not_not] at s_1_0 s_1_1 s_1_2 s_1_3); first | (simp [q_count, s_1_0, s_1_1, s_1_2, s_1_3]; done) | (simp [q_count, s_1_0, s_1_1, s_1_2, eq_true s_1_3]; done) | (exfalso; clear hend; simp_all; done)), rfl⟩ rfl dX12_count_69
  by_cases s_1_4 : what = 4
  · refine lv_tableIn (off := 69) (tgt := 70) hx hb dX12_count_1 (by rw [s_1_4]; decide) (by rw [s_1_4]; decide) (by rw [s_1_4]; decide) (by decide) ?_
    refine lv_aload_n hx hb dX12_count_70 rfl (lv_at hl 0 rfl) ?_
    refine mo_get X w hm hin 0 (by decide) (List.mem_of_getElem? (i := 1) rfl) rfl dX12_count_71 ?_
    refine lv_iconst (v := 1) hx hb dX12_count_74 (by decide) ?_
    refine mo_iald X w hm 0 (by decide) (by decide) 1 rfl (by show _ < 1400; omega) dX12_count_75 ?_
    exact hend H locs (M 0 1) (L, mo_F D f mo ma M) _ ls w ⟨(by (try simp only [lg_cmp_le, lg_cmp_ge, lg_cmp_lt, lg_cmp_gt, ← Int32.not_lt, ← Int64.not_lt, Classical.not_not] at s_1_0 s_1_1 s_1_2 s_1_3 s_1_4); first | (simp [q_count, s_1_0, s_1_1, s_1_2, s_1_3, s_1_4]; done) | (simp [q_count, s_1_0, s_1_1, s_1_2, s_1_3, eq_true s_1_4]; done) | (exfalso; clear hend; simp_all; done)), rfl⟩ rfl dX12_count_76
  by_cases s_1_5 : what = 5
  · refine lv_tableIn (off := 76) (tgt := 77) hx hb dX12_count_1 (by rw [s_1_5]; decide) (by rw [s_1_5]; decide) (by rw [s_1_5]; decide) (by decide) ?_
    refine lv_aload_n hx hb dX12_count_77 rfl (lv_at hl 0 rfl) ?_
    refine mo_get X w hm hin 1 (by decide) (List.mem_of_getElem? (i := 2) rfl) rfl dX12_count_78 ?_
    exact hend H locs (M 1 0) (L, mo_F D f mo ma M) _ ls w ⟨(by (try simp only [lg_cmp_le, lg_cmp_ge, lg_cmp_lt, lg_cmp_gt, ← Int32.not_lt, ← Int64.not_lt, Classical.not_not] at s_1_0 s_1_1 s_1_2 s_1_3 s_1_4 s_1_5); first | (simp [q_count, s_1_0, s_1_1, s_1_2, s_1_3, s_1_4, s_1_5]; done) | (simp [q_count, s_1_0, s_1_1, s_1_2, s_1_3, s_1_4, eq_true s_1_5]; done) | (exfalso; clear hend; simp_all; done)), rfl⟩ rfl dX12_count_81
  by_cases s_1_6 : what = 6
  · refine lv_tableIn (off := 81) (tgt := 82) hx hb dX12_count_1 (by rw [s_1_6]; decide) (by rw [s_1_6]; decide) (by rw [s_1_6]; decide) (by decide) ?_
    refine lv_aload_n hx hb dX12_count_82 rfl (lv_at hl 0 rfl) ?_
    refine mo_get X w hm hin 9 (by decide) (List.mem_of_getElem? (i := 3) rfl) rfl dX12_count_83 ?_
    exact hend H locs (M 9 0) (L, mo_F D f mo ma M) _ ls w ⟨(by (try simp only [lg_cmp_le, lg_cmp_ge, lg_cmp_lt, lg_cmp_gt, ← Int32.not_lt, ← Int64.not_lt, Classical.not_not] at s_1_0 s_1_1 s_1_2 s_1_3 s_1_4 s_1_5 s_1_6); first | (simp [q_count, s_1_0, s_1_1, s_1_2, s_1_3, s_1_4, s_1_5, s_1_6]; done) | (simp [q_count, s_1_0, s_1_1, s_1_2, s_1_3, s_1_4, s_1_5, eq_true s_1_6]; done) | (exfalso; clear hend; simp_all; done)), rfl⟩ rfl dX12_count_86
  refine lv_tableOut (tgt := 87) hx hb dX12_count_1 (by have t0 := lv_neT s_1_0 (a := 0) (by decide); have t1 := lv_neT s_1_1 (a := 1) (by decide); have t2 := lv_neT s_1_2 (a := 2) (by decide); have t3 := lv_neT s_1_3 (a := 3) (by decide); have t4 := lv_neT s_1_4 (a := 4) (by decide); have t5 := lv_neT s_1_5 (a := 5) (by decide); have t6 := lv_neT s_1_6 (a := 6) (by decide); omega) (by decide) ?_
  refine lv_ldc (v := (-1000001)) hx hb hown (hts _ (List.mem_of_getElem? (i := 4) rfl)) dX12_count_87 ?_
  exact hend H locs ((-1000001)) (L, mo_F D f mo ma M) _ ls w ⟨(by (try simp only [lg_cmp_le, lg_cmp_ge, lg_cmp_lt, lg_cmp_gt, ← Int32.not_lt, ← Int64.not_lt, Classical.not_not] at s_1_0 s_1_1 s_1_2 s_1_3 s_1_4 s_1_5 s_1_6); first | (simp [q_count, s_1_0, s_1_1, s_1_2, s_1_3, s_1_4, s_1_5, s_1_6]; done) | (simp [q_count, s_1_0, s_1_1, s_1_2, s_1_3, s_1_4, s_1_5, s_1_6]; done) | (exfalso; clear hend; simp_all; done)), rfl⟩ rfl dX12_count_89
set_option maxRecDepth 100000 in
set_option maxHeartbeats 4000000 in
/-- leaves -/
theorem c_X12_leaves (l : Launch) (D : va_G) (b0 : Nat) (L : List Nat) (f : Nat → va_E) (mo : Nat) (ma : Nat → Nat) (M : Nat → Nat → Int32) (hm : mo_ok L mo ma) (hT : hs_tr M) (b : Int32) : mo_Fv l yX12_leaves wsX12_leaves ({ frames := 0, cells := 0, slots := 0, locals := 0 }) D b0 L f mo ma M [.int (b)] (sp_leave M b) := by
  refine hg_in_v (cc := cX12_leaves) (nL := 2) (by decide) rfl (Nat.le_of_ble_eq_true rfl) (fun p e s m args below meth c R Q X _ hR hend H locs ls w hl => ?_)
  subst hR
  obtain ⟨hx, hb, hml, hown, hts⟩ := id X.1
  have hin : ∀ w ∈ wsX120, w ∈ wsX12_leaves := fun w h => List.mem_cons_of_mem _ (List.mem_append_right _ h)
  have hl : lv_has ls 2 [(0, .ref mo), (1, .int (b))] := hl
  obtain ⟨t, ht1, ht⟩ := id hT
  refine lv_aload_n hx hb dX12_leaves_0 rfl (lv_at hl 0 rfl) ?_
  refine mo_get X w hm hin 18 (by decide) (List.mem_of_getElem? (i := 1) rfl) rfl dX12_leaves_1 ?_
  refine lv_bipush (v := 16) hx hb dX12_leaves_4 (by decide) ?_
  refine lv_icmp_ge (tgt := 29) hx hb dX12_leaves_6 (by decide) (fun c_6 => ?_) (fun c_6 => ?_)
  · exact hend H locs (L, mo_F D f mo ma M) _ ls w (congrArg (fun z => (L, mo_F D f mo ma z)) (by unfold sp_leave; rw [if_neg (Int32.not_lt.mpr c_6)])) dX12_leaves_29
  · refine lv_aload_n hx hb dX12_leaves_9 rfl (lv_at hl 0 rfl) ?_
    refine mo_get X w hm hin 17 (by decide) (List.mem_of_getElem? (i := 2) rfl) rfl dX12_leaves_10 ?_
    refine lv_aload_n hx hb dX12_leaves_13 rfl (lv_at hl 0 rfl) ?_
    refine mo_get X w hm hin 18 (by decide) (List.mem_of_getElem? (i := 1) rfl) rfl dX12_leaves_14 ?_
    refine lv_iload_n hx hb dX12_leaves_17 rfl (lv_at hl 1 rfl) ?_
    refine mo_iast X w hm 17 (by decide) (by decide) t ht (by show _ < 16; rw [ht] at c_6; have hq : ¬ 16 ≤ t := fun q => c_6 (nI_le (a := 16) q (by omega)); omega) dX12_leaves_18 (fun H locs w => ?_)
    refine lv_aload_n hx hb dX12_leaves_19 rfl (lv_at hl 0 rfl) ?_
    refine lv_dup hx hb dX12_leaves_20 rfl ?_
    refine mo_get X w hm hin 18 (by decide) (List.mem_of_getElem? (i := 1) rfl) rfl dX12_leaves_21 ?_
    refine lv_iconst (v := 1) hx hb dX12_leaves_24 (by decide) ?_
    refine lv_iadd hx hb dX12_leaves_25 ?_
    refine mo_put X w hm hin 18 (by decide) (List.mem_of_getElem? (i := 1) rfl) dX12_leaves_26 (fun H locs w => ?_)
    exact hend H locs (L, mo_F D f mo ma (mo_w (mo_w M 17 t (b)) 18 0 (((mo_w M 17 t (b)) 18 0 + 1)))) _ ls w (congrArg (fun z => (L, mo_F D f mo ma z)) (by unfold sp_leave; rw [if_pos (hs_lt c_6), ht, nI_clamp (by omega)]; simp [va_up, ht])) dX12_leaves_29
theorem hdX12_leaves : yX12_leaves.cls = RX12 ∧ yX12_leaves.cls ≠ "java/lang/invoke/MethodHandle" ∧ yX12_leaves.cls ≠ "java/lang/invoke/VarHandle" ∧ (parseMethodDescriptor yX12_leaves.desc).map (fun d => d.parameters.length) = some 1 := by decide +kernel
set_option maxRecDepth 100000 in
set_option maxHeartbeats 4000000 in
/-- bareSize -/
theorem c_X12_bareSize (l : Launch) (D : va_G) (b0 : Nat) (L : List Nat) (f : Nat → va_E) (mo : Nat) (ma : Nat → Nat) (M : Nat → Nat → Int32) (hm : mo_ok L mo ma) (hT : hs_tr M) (j : Nat) (hj : j < 6) : mo_Fi l yX12_bareSize wsX12_bareSize ({ frames := 1, cells := 0, slots := 0, locals := 21 }) D b0 L f mo ma M [.int (nI j)] (M 0 (26 + j)) (sp_leave M 10) := by
  refine hg_in_i (cc := cX12_bareSize) (nL := 2) (by decide) rfl (Nat.le_of_ble_eq_true rfl) (fun p e s m args below meth c R Q X hR hend H locs ls w hl => ?_)
  subst hR
  obtain ⟨hx, hb, hml, hown, hts⟩ := id X.1
  have hin : ∀ w ∈ wsX120, w ∈ wsX12_bareSize := fun w h => List.mem_cons_of_mem _ (List.mem_append_right _ h)
  have hl : lv_has ls 2 [(0, .ref mo), (1, .int (nI j))] := hl
  refine lv_aload_n hx hb dX12_bareSize_0 rfl (lv_at hl 0 rfl) ?_
  refine lv_bipush (v := 10) hx hb dX12_bareSize_1 (by decide) ?_
  refine hg_vvF (As := [.int (10)]) (rest := []) X w (c_X12_leaves l D b0 L f mo ma M hm hT 10) (cwV 1 hts gX12_bareSize_X12_leaves rfl rfl rfl hdX12_leaves ⟨Nat.le_of_ble_eq_true rfl, Nat.le_of_ble_eq_true rfl⟩) hm.1 (mo_at0 D f mo ma _) rfl rfl rfl hl.1 rfl (Nat.le_of_ble_eq_true rfl) dX12_bareSize_3 ⟨Nat.zero_le _, Nat.zero_le _⟩ (fun H locs w => ?_)
  refine lv_aload_n hx hb dX12_bareSize_6 rfl (lv_at hl 0 rfl) ?_
  refine mo_get X w hm hin 0 (by decide) (List.mem_of_getElem? (i := 1) rfl) rfl dX12_bareSize_7 ?_
  refine lv_bipush (v := 26) hx hb dX12_bareSize_10 (by decide) ?_
  refine lv_iload_n hx hb dX12_bareSize_12 rfl (lv_at hl 1 rfl) ?_
  refine lv_iadd hx hb dX12_bareSize_13 ?_
  refine mo_iald X w hm 0 (by decide) (by decide) (26 + j) (hs_addI rfl rfl) (by show _ < 1400; omega) dX12_bareSize_14 ?_
  exact hend H locs ((sp_leave M 10) 0 (26 + j)) (L, mo_F D f mo ma (sp_leave M 10)) _ ls w ⟨(by rw [sp_leave_0]), rfl⟩ rfl dX12_bareSize_15
set_option maxRecDepth 100000 in
set_option maxHeartbeats 4000000 in
/-- bareMark -/
theorem c_X12_bareMark (l : Launch) (D : va_G) (b0 : Nat) (L : List Nat) (f : Nat → va_E) (mo : Nat) (ma : Nat → Nat) (M : Nat → Nat → Int32) (hm : mo_ok L mo ma) (hT : hs_tr M) (j : Nat) (hj : j < 6) : mo_Fi l yX12_bareMark wsX12_bareMark ({ frames := 1, cells := 0, slots := 0, locals := 21 }) D b0 L f mo ma M [.int (nI j)] (nI j) (sp_leave M 20) := by
  refine hg_in_i (cc := cX12_bareMark) (nL := 2) (by decide) rfl (Nat.le_of_ble_eq_true rfl) (fun p e s m args below meth c R Q X hR hend H locs ls w hl => ?_)
  subst hR
  obtain ⟨hx, hb, hml, hown, hts⟩ := id X.1
  have hin : ∀ w ∈ wsX120, w ∈ wsX12_bareMark := fun w h => List.mem_cons_of_mem _ (List.mem_append_right _ h)
  have hl : lv_has ls 2 [(0, .ref mo), (1, .int (nI j))] := hl
  refine lv_aload_n hx hb dX12_bareMark_0 rfl (lv_at hl 0 rfl) ?_
  refine lv_bipush (v := 20) hx hb dX12_bareMark_1 (by decide) ?_
  refine hg_vvF (As := [.int (20)]) (rest := []) X w (c_X12_leaves l D b0 L f mo ma M hm hT 20) (cwV 1 hts gX12_bareMark_X12_leaves rfl rfl rfl hdX12_leaves ⟨Nat.le_of_ble_eq_true rfl, Nat.le_of_ble_eq_true rfl⟩) hm.1 (mo_at0 D f mo ma _) rfl rfl rfl hl.1 rfl (Nat.le_of_ble_eq_true rfl) dX12_bareMark_3 ⟨Nat.zero_le _, Nat.zero_le _⟩ (fun H locs w => ?_)
  refine lv_iload_n hx hb dX12_bareMark_6 rfl (lv_at hl 1 rfl) ?_
  exact hend H locs (nI j) (L, mo_F D f mo ma (sp_leave M 20)) _ ls w ⟨rfl, rfl⟩ rfl dX12_bareMark_7
theorem hdX12_bareMark : yX12_bareMark.cls = RX12 ∧ yX12_bareMark.cls ≠ "java/lang/invoke/MethodHandle" ∧ yX12_bareMark.cls ≠ "java/lang/invoke/VarHandle" ∧ (parseMethodDescriptor yX12_bareMark.desc).map (fun d => d.parameters.length) = some 1 := by decide +kernel
set_option maxRecDepth 100000 in
set_option maxHeartbeats 4000000 in
/-- tableMark -/
theorem c_X12_tableMark (l : Launch) (D : va_G) (b0 : Nat) (L : List Nat) (f : Nat → va_E) (mo : Nat) (ma : Nat → Nat) (M : Nat → Nat → Int32) (hm : mo_ok L mo ma) (hT : hs_tr M) (j : Nat) (hj : j < 6) : mo_Fi l yX12_tableMark wsX12_tableMark ({ frames := 2, cells := 0, slots := 0, locals := 42 }) D b0 L f mo ma M [.int (nI j)] ((sp_tmark M j).1) ((sp_tmark M j).2) := by
  refine hg_in_i (cc := cX12_tableMark) (nL := 2) (by decide) rfl (Nat.le_of_ble_eq_true rfl) (fun p e s m args below meth c R Q X hR hend H locs ls w hl => ?_)
  subst hR
  obtain ⟨hx, hb, hml, hown, hts⟩ := id X.1
  have hin : ∀ w ∈ wsX120, w ∈ wsX12_tableMark := fun w h => List.mem_cons_of_mem _ (List.mem_append_right _ h)
  have hl : lv_has ls 2 [(0, .ref mo), (1, .int (nI j))] := hl
  refine lv_aload_n hx hb dX12_tableMark_0 rfl (lv_at hl 0 rfl) ?_
  refine lv_bipush (v := 21) hx hb dX12_tableMark_1 (by decide) ?_
  refine hg_vvF (As := [.int (21)]) (rest := []) X w (c_X12_leaves l D b0 L f mo ma M hm hT 21) (cwV 1 hts gX12_tableMark_X12_leaves rfl rfl rfl hdX12_leaves ⟨Nat.le_of_ble_eq_true rfl, Nat.le_of_ble_eq_true rfl⟩) hm.1 (mo_at0 D f mo ma _) rfl rfl rfl hl.1 rfl (Nat.le_of_ble_eq_true rfl) dX12_tableMark_3 ⟨Nat.zero_le _, Nat.zero_le _⟩ (fun H locs w => ?_)
  refine lv_aload_n hx hb dX12_tableMark_6 rfl (lv_at hl 0 rfl) ?_
  refine lv_iload_n hx hb dX12_tableMark_7 rfl (lv_at hl 1 rfl) ?_
  refine hg_viF (r := nI j) (As := [.int (nI j)]) (rest := []) X w (c_X12_bareMark l D b0 L f mo ma (sp_leave M 21) hm (hs_tr_l hT) j hj) (cwV 1 hts gX12_tableMark_X12_bareMark rfl rfl rfl hdX12_bareMark ⟨Nat.le_of_ble_eq_true rfl, Nat.le_of_ble_eq_true rfl⟩) hm.1 (mo_at0 D f mo ma _) rfl rfl rfl hl.1 rfl (Nat.le_of_ble_eq_true rfl) dX12_tableMark_8 ⟨Nat.zero_le _, Nat.zero_le _⟩ (fun H locs w => ?_)
  refine lv_aload_n hx hb dX12_tableMark_11 rfl (lv_at hl 0 rfl) ?_
  refine lv_iload_n hx hb dX12_tableMark_12 rfl (lv_at hl 1 rfl) ?_
  refine hg_viF (r := hs_weight ((sp_leave (sp_leave M 21) 20) 0) j) (As := [.int (nI j)]) (rest := [.int (nI j)]) X w (c_X12_weightOf l D b0 L f mo ma (sp_leave (sp_leave M 21) 20) hm j (by omega)) (cwV 1 hts gX12_tableMark_X12_weightOf rfl rfl rfl hdX12_weightOf ⟨Nat.le_of_ble_eq_true rfl, Nat.le_of_ble_eq_true rfl⟩) hm.1 (mo_at0 D f mo ma _) rfl rfl rfl hl.1 rfl (Nat.le_of_ble_eq_true rfl) dX12_tableMark_13 ⟨Nat.zero_le _, Nat.zero_le _⟩ (fun H locs w => ?_)
  refine lv_iadd hx hb dX12_tableMark_16 ?_
  exact hend H locs ((nI j + hs_weight ((sp_leave (sp_leave M 21) 20) 0) j)) (L, mo_F D f mo ma (sp_leave (sp_leave M 21) 20)) _ ls w ⟨(by simp only [sp_tmark, sp_leave_0]), rfl⟩ rfl dX12_tableMark_17
theorem hdX12_tableMark : yX12_tableMark.cls = RX12 ∧ yX12_tableMark.cls ≠ "java/lang/invoke/MethodHandle" ∧ yX12_tableMark.cls ≠ "java/lang/invoke/VarHandle" ∧ (parseMethodDescriptor yX12_tableMark.desc).map (fun d => d.parameters.length) = some 1 := by decide +kernel
set_option maxRecDepth 100000 in
set_option maxHeartbeats 4000000 in
/-- markOfTable -/
theorem c_X12_markOfTable (l : Launch) (D : va_G) (b0 : Nat) (L : List Nat) (f : Nat → va_E) (mo : Nat) (ma : Nat → Nat) (M : Nat → Nat → Int32) (hm : mo_ok L mo ma) (hT : hs_tr M) (j : Nat) (hj : j < 6) : mo_Fi l yX12_markOfTable wsX12_markOfTable ({ frames := 3, cells := 0, slots := 0, locals := 63 }) D b0 L f mo ma M [.int (nI j)] ((sp_markT M j).1) ((sp_markT M j).2) := by
  refine hg_in_i (cc := cX12_markOfTable) (nL := 2) (by decide) rfl (Nat.le_of_ble_eq_true rfl) (fun p e s m args below meth c R Q X hR hend H locs ls w hl => ?_)
  subst hR
  obtain ⟨hx, hb, hml, hown, hts⟩ := id X.1
  have hin : ∀ w ∈ wsX120, w ∈ wsX12_markOfTable := fun w h => List.mem_cons_of_mem _ (List.mem_append_right _ h)
  have hl : lv_has ls 2 [(0, .ref mo), (1, .int (nI j))] := hl
  refine lv_aload_n hx hb dX12_markOfTable_0 rfl (lv_at hl 0 rfl) ?_
  refine mo_get X w hm hin 0 (by decide) (List.mem_of_getElem? (i := 1) rfl) rfl dX12_markOfTable_1 ?_
  refine lv_bipush (v := 8) hx hb dX12_markOfTable_4 (by decide) ?_
  refine lv_iload_n hx hb dX12_markOfTable_6 rfl (lv_at hl 1 rfl) ?_
  refine lv_iadd hx hb dX12_markOfTable_7 ?_
  refine mo_iald X w hm 0 (by decide) (by decide) (8 + j) (hs_addI rfl rfl) (by show _ < 1400; omega) dX12_markOfTable_8 ?_
  refine lv_iconst (v := 2) hx hb dX12_markOfTable_9 (by decide) ?_
  refine lv_icmp_ne (tgt := 27) hx hb dX12_markOfTable_10 (by decide) (fun c_10 => ?_) (fun c_10 => ?_)
  · refine lv_aload_n hx hb dX12_markOfTable_27 rfl (lv_at hl 0 rfl) ?_
    refine mo_get X w hm hin 0 (by decide) (List.mem_of_getElem? (i := 1) rfl) rfl dX12_markOfTable_28 ?_
    refine lv_bipush (v := 8) hx hb dX12_markOfTable_31 (by decide) ?_
    refine lv_iload_n hx hb dX12_markOfTable_33 rfl (lv_at hl 1 rfl) ?_
    refine lv_iadd hx hb dX12_markOfTable_34 ?_
    refine mo_iald X w hm 0 (by decide) (by decide) (8 + j) (hs_addI rfl rfl) (by show _ < 1400; omega) dX12_markOfTable_35 ?_
    refine lv_iconst (v := 3) hx hb dX12_markOfTable_36 (by decide) ?_
    refine lv_icmp_ne (tgt := 56) hx hb dX12_markOfTable_37 (by decide) (fun c_37 => ?_) (fun c_37 => ?_)
    · refine lv_aload_n hx hb dX12_markOfTable_56 rfl (lv_at hl 0 rfl) ?_
      refine lv_iload_n hx hb dX12_markOfTable_57 rfl (lv_at hl 1 rfl) ?_
      refine hg_viF (r := (sp_tmark M j).1) (As := [.int (nI j)]) (rest := []) X w (c_X12_tableMark l D b0 L f mo ma M hm hT j hj) (cwV 1 hts gX12_markOfTable_X12_tableMark rfl rfl rfl hdX12_tableMark ⟨Nat.le_of_ble_eq_true rfl, Nat.le_of_ble_eq_true rfl⟩) hm.1 (mo_at0 D f mo ma _) rfl rfl rfl hl.1 rfl (Nat.le_of_ble_eq_true rfl) dX12_markOfTable_58 ⟨Nat.zero_le _, Nat.zero_le _⟩ (fun H locs w => ?_)
      exact hend H locs ((sp_tmark M j).1) (L, mo_F D f mo ma (sp_tmark M j).2) _ ls w ⟨(by (try simp only [lg_cmp_le, lg_cmp_ge, lg_cmp_lt, lg_cmp_gt, ← Int32.not_lt, ← Int64.not_lt, Classical.not_not] at c_10 c_37); first | (simp [sp_markT, sp_tmark, sp_leave_0, c_10, c_37]; done) | (simp [sp_markT, sp_tmark, sp_leave_0, c_10, c_37]; done) | (exfalso; clear hend; simp_all; done)), (congrArg (fun z => (L, mo_F D f mo ma z)) (by (try simp only [lg_cmp_le, lg_cmp_ge, lg_cmp_lt, lg_cmp_gt, ← Int32.not_lt, ← Int64.not_lt, Classical.not_not] at c_10 c_37); first | (simp [sp_markT, c_10, c_37]; done) | (simp [sp_markT, c_10, c_37]; done) | (exfalso; clear hend; simp_all; done)))⟩ rfl dX12_markOfTable_61
    · refine lv_aload_n hx hb dX12_markOfTable_40 rfl (lv_at hl 0 rfl) ?_
      refine lv_bipush (v := 22) hx hb dX12_markOfTable_41 (by decide) ?_
      refine hg_vvF (As := [.int (22)]) (rest := []) X w (c_X12_leaves l D b0 L f mo ma M hm hT 22) (cwV 1 hts gX12_markOfTable_X12_leaves rfl rfl rfl hdX12_leaves ⟨Nat.le_of_ble_eq_true rfl, Nat.le_of_ble_eq_true rfl⟩) hm.1 (mo_at0 D f mo ma _) rfl rfl rfl hl.1 rfl (Nat.le_of_ble_eq_true rfl) dX12_markOfTable_43 ⟨Nat.zero_le _, Nat.zero_le _⟩ (fun H locs w => ?_)
      refine lv_aload_n hx hb dX12_markOfTable_46 rfl (lv_at hl 0 rfl) ?_
      refine lv_iload_n hx hb dX12_markOfTable_47 rfl (lv_at hl 1 rfl) ?_
      refine hg_viF (r := (sp_tmark (sp_leave M 22) j).1) (As := [.int (nI j)]) (rest := []) X w (c_X12_tableMark l D b0 L f mo ma (sp_leave M 22) hm (hs_tr_l hT) j hj) (cwV 1 hts gX12_markOfTable_X12_tableMark rfl rfl rfl hdX12_tableMark ⟨Nat.le_of_ble_eq_true rfl, Nat.le_of_ble_eq_true rfl⟩) hm.1 (mo_at0 D f mo ma _) rfl rfl rfl hl.1 rfl (Nat.le_of_ble_eq_true rfl) dX12_markOfTable_48 ⟨Nat.zero_le _, Nat.zero_le _⟩ (fun H locs w => ?_)
      refine lv_sipush (v := 1000) hx hb dX12_markOfTable_51 (by decide) ?_
      refine lv_isub hx hb dX12_markOfTable_54 ?_
      exact hend H locs (((sp_tmark (sp_leave M 22) j).1 - 1000)) (L, mo_F D f mo ma (sp_tmark (sp_leave M 22) j).2) _ ls w ⟨(by (try simp only [lg_cmp_le, lg_cmp_ge, lg_cmp_lt, lg_cmp_gt, ← Int32.not_lt, ← Int64.not_lt, Classical.not_not] at c_10 c_37); first | (simp [sp_markT, sp_tmark, sp_leave_0, c_10, c_37]; done) | (simp [sp_markT, sp_tmark, sp_leave_0, c_10, eq_true c_37]; done) | (exfalso; clear hend; simp_all; done)), (congrArg (fun z => (L, mo_F D f mo ma z)) (by (try simp only [lg_cmp_le, lg_cmp_ge, lg_cmp_lt, lg_cmp_gt, ← Int32.not_lt, ← Int64.not_lt, Classical.not_not] at c_10 c_37); first | (simp [sp_markT, c_10, c_37]; done) | (simp [sp_markT, c_10, eq_true c_37]; done) | (exfalso; clear hend; simp_all; done)))⟩ rfl dX12_markOfTable_55
  · refine lv_aload_n hx hb dX12_markOfTable_13 rfl (lv_at hl 0 rfl) ?_
    refine lv_bipush (v := 24) hx hb dX12_markOfTable_14 (by decide) ?_
    refine hg_vvF (As := [.int (24)]) (rest := []) X w (c_X12_leaves l D b0 L f mo ma M hm hT 24) (cwV 1 hts gX12_markOfTable_X12_leaves rfl rfl rfl hdX12_leaves ⟨Nat.le_of_ble_eq_true rfl, Nat.le_of_ble_eq_true rfl⟩) hm.1 (mo_at0 D f mo ma _) rfl rfl rfl hl.1 rfl (Nat.le_of_ble_eq_true rfl) dX12_markOfTable_16 ⟨Nat.zero_le _, Nat.zero_le _⟩ (fun H locs w => ?_)
    refine lv_iconst (v := 2) hx hb dX12_markOfTable_19 (by decide) ?_
    refine lv_aload_n hx hb dX12_markOfTable_20 rfl (lv_at hl 0 rfl) ?_
    refine lv_iload_n hx hb dX12_markOfTable_21 rfl (lv_at hl 1 rfl) ?_
    refine hg_viF (r := (sp_tmark (sp_leave M 24) j).1) (As := [.int (nI j)]) (rest := [.int (2)]) X w (c_X12_tableMark l D b0 L f mo ma (sp_leave M 24) hm (hs_tr_l hT) j hj) (cwV 1 hts gX12_markOfTable_X12_tableMark rfl rfl rfl hdX12_tableMark ⟨Nat.le_of_ble_eq_true rfl, Nat.le_of_ble_eq_true rfl⟩) hm.1 (mo_at0 D f mo ma _) rfl rfl rfl hl.1 rfl (Nat.le_of_ble_eq_true rfl) dX12_markOfTable_22 ⟨Nat.zero_le _, Nat.zero_le _⟩ (fun H locs w => ?_)
    refine lv_imul hx hb dX12_markOfTable_25 ?_
    exact hend H locs ((2 * (sp_tmark (sp_leave M 24) j).1)) (L, mo_F D f mo ma (sp_tmark (sp_leave M 24) j).2) _ ls w ⟨(by (try simp only [lg_cmp_le, lg_cmp_ge, lg_cmp_lt, lg_cmp_gt, ← Int32.not_lt, ← Int64.not_lt, Classical.not_not] at c_10); first | (simp [sp_markT, sp_tmark, sp_leave_0, c_10]; done) | (simp [sp_markT, sp_tmark, sp_leave_0, eq_true c_10]; done) | (exfalso; clear hend; simp_all; done)), (congrArg (fun z => (L, mo_F D f mo ma z)) (by (try simp only [lg_cmp_le, lg_cmp_ge, lg_cmp_lt, lg_cmp_gt, ← Int32.not_lt, ← Int64.not_lt, Classical.not_not] at c_10); first | (simp [sp_markT, c_10]; done) | (simp [sp_markT, eq_true c_10]; done) | (exfalso; clear hend; simp_all; done)))⟩ rfl dX12_markOfTable_26
theorem hdX12_bareSize : yX12_bareSize.cls = RX12 ∧ yX12_bareSize.cls ≠ "java/lang/invoke/MethodHandle" ∧ yX12_bareSize.cls ≠ "java/lang/invoke/VarHandle" ∧ (parseMethodDescriptor yX12_bareSize.desc).map (fun d => d.parameters.length) = some 1 := by decide +kernel
theorem hdX12_markOfTable : yX12_markOfTable.cls = RX12 ∧ yX12_markOfTable.cls ≠ "java/lang/invoke/MethodHandle" ∧ yX12_markOfTable.cls ≠ "java/lang/invoke/VarHandle" ∧ (parseMethodDescriptor yX12_markOfTable.desc).map (fun d => d.parameters.length) = some 1 := by decide +kernel
set_option maxRecDepth 100000 in
set_option maxHeartbeats 4000000 in
/-- tableSize -/
theorem c_X12_tableSize (l : Launch) (D : va_G) (b0 : Nat) (L : List Nat) (f : Nat → va_E) (mo : Nat) (ma : Nat → Nat) (M : Nat → Nat → Int32) (hm : mo_ok L mo ma) (hT : hs_tr M) (j : Nat) (hj : j < 6) : mo_Fi l yX12_tableSize wsX12_tableSize ({ frames := 4, cells := 0, slots := 0, locals := 84 }) D b0 L f mo ma M [.int (nI j)] ((sp_tsize M j).1) ((sp_tsize M j).2) := by
  refine hg_in_i (cc := cX12_tableSize) (nL := 3) (by decide) rfl (Nat.le_of_ble_eq_true rfl) (fun p e s m args below meth c R Q X hR hend H locs ls w hl => ?_)
  subst hR
  obtain ⟨hx, hb, hml, hown, hts⟩ := id X.1
  have hin : ∀ w ∈ wsX120, w ∈ wsX12_tableSize := fun w h => List.mem_cons_of_mem _ (List.mem_append_right _ h)
  have hl : lv_has ls 3 [(0, .ref mo), (1, .int (nI j))] := hl
  refine lv_aload_n hx hb dX12_tableSize_0 rfl (lv_at hl 0 rfl) ?_
  refine lv_bipush (v := 11) hx hb dX12_tableSize_1 (by decide) ?_
  refine hg_vvF (As := [.int (11)]) (rest := []) X w (c_X12_leaves l D b0 L f mo ma M hm hT 11) (cwV 1 hts gX12_tableSize_X12_leaves rfl rfl rfl hdX12_leaves ⟨Nat.le_of_ble_eq_true rfl, Nat.le_of_ble_eq_true rfl⟩) hm.1 (mo_at0 D f mo ma _) rfl rfl rfl hl.1 rfl (Nat.le_of_ble_eq_true rfl) dX12_tableSize_3 ⟨Nat.zero_le _, Nat.zero_le _⟩ (fun H locs w => ?_)
  refine lv_aload_n hx hb dX12_tableSize_6 rfl (lv_at hl 0 rfl) ?_
  refine lv_iload_n hx hb dX12_tableSize_7 rfl (lv_at hl 1 rfl) ?_
  refine hg_viF (r := (sp_leave M 11) 0 (26 + j)) (As := [.int (nI j)]) (rest := []) X w (c_X12_bareSize l D b0 L f mo ma (sp_leave M 11) hm (hs_tr_l hT) j hj) (cwV 1 hts gX12_tableSize_X12_bareSize rfl rfl rfl hdX12_bareSize ⟨Nat.le_of_ble_eq_true rfl, Nat.le_of_ble_eq_true rfl⟩) hm.1 (mo_at0 D f mo ma _) rfl rfl rfl hl.1 rfl (Nat.le_of_ble_eq_true rfl) dX12_tableSize_8 ⟨Nat.zero_le _, Nat.zero_le _⟩ (fun H locs w => ?_)
  refine lv_istore_n (lv' := [(2, .int ((sp_leave M 11) 0 (26 + j))), (0, .ref mo), (1, .int (nI j))]) hx hb dX12_tableSize_11 rfl hl (by decide) rfl (fun ls hl => ?_)
  refine lv_iload_n hx hb dX12_tableSize_12 rfl (lv_at hl 0 rfl) ?_
  refine lv_aload_n hx hb dX12_tableSize_13 rfl (lv_at hl 1 rfl) ?_
  refine lv_iload_n hx hb dX12_tableSize_14 rfl (lv_at hl 2 rfl) ?_
  refine hg_viF (r := (sp_markT (sp_leave (sp_leave M 11) 10) j).1) (As := [.int (nI j)]) (rest := [.int ((sp_leave M 11) 0 (26 + j))]) X w (c_X12_markOfTable l D b0 L f mo ma (sp_leave (sp_leave M 11) 10) hm (hs_tr_l (hs_tr_l hT)) j hj) (cwV 1 hts gX12_tableSize_X12_markOfTable rfl rfl rfl hdX12_markOfTable ⟨Nat.le_of_ble_eq_true rfl, Nat.le_of_ble_eq_true rfl⟩) hm.1 (mo_at0 D f mo ma _) rfl rfl rfl hl.1 rfl (Nat.le_of_ble_eq_true rfl) dX12_tableSize_15 ⟨Nat.zero_le _, Nat.zero_le _⟩ (fun H locs w => ?_)
  refine lv_iadd hx hb dX12_tableSize_18 ?_
  exact hend H locs (((sp_leave M 11) 0 (26 + j) + (sp_markT (sp_leave (sp_leave M 11) 10) j).1)) (L, mo_F D f mo ma (sp_markT (sp_leave (sp_leave M 11) 10) j).2) _ ls w ⟨(by rw [sp_tsize, sp_markT_1 (M := sp_leave (sp_leave M 11) 10) (N := M) (by rw [sp_leave_0, sp_leave_0]), sp_leave_0]), rfl⟩ rfl dX12_tableSize_19
set_option maxRecDepth 100000 in
set_option maxHeartbeats 4000000 in
/-- notarySize -/
theorem c_X12_notarySize (l : Launch) (D : va_G) (b0 : Nat) (L : List Nat) (f : Nat → va_E) (mo : Nat) (ma : Nat → Nat) (M : Nat → Nat → Int32) (hm : mo_ok L mo ma) (hT : hs_tr M) (j : Nat) (hj : j < 6) : mo_Fi l yX12_notarySize wsX12_notarySize ({ frames := 2, cells := 0, slots := 0, locals := 42 }) D b0 L f mo ma M [.int (nI j)] ((sp_nsize M j).1) ((sp_nsize M j).2) := by
  refine hg_in_i (cc := cX12_notarySize) (nL := 2) (by decide) rfl (Nat.le_of_ble_eq_true rfl) (fun p e s m args below meth c R Q X hR hend H locs ls w hl => ?_)
  subst hR
  obtain ⟨hx, hb, hml, hown, hts⟩ := id X.1
  have hin : ∀ w ∈ wsX120, w ∈ wsX12_notarySize := fun w h => List.mem_cons_of_mem _ (List.mem_append_right _ h)
  have hl : lv_has ls 2 [(0, .ref mo), (1, .int (nI j))] := hl
  refine lv_aload_n hx hb dX12_notarySize_0 rfl (lv_at hl 0 rfl) ?_
  refine lv_bipush (v := 13) hx hb dX12_notarySize_1 (by decide) ?_
  refine hg_vvF (As := [.int (13)]) (rest := []) X w (c_X12_leaves l D b0 L f mo ma M hm hT 13) (cwV 1 hts gX12_notarySize_X12_leaves rfl rfl rfl hdX12_leaves ⟨Nat.le_of_ble_eq_true rfl, Nat.le_of_ble_eq_true rfl⟩) hm.1 (mo_at0 D f mo ma _) rfl rfl rfl hl.1 rfl (Nat.le_of_ble_eq_true rfl) dX12_notarySize_3 ⟨Nat.zero_le _, Nat.zero_le _⟩ (fun H locs w => ?_)
  refine lv_aload_n hx hb dX12_notarySize_6 rfl (lv_at hl 0 rfl) ?_
  refine lv_iload_n hx hb dX12_notarySize_7 rfl (lv_at hl 1 rfl) ?_
  refine hg_viF (r := (sp_leave M 13) 0 (26 + j)) (As := [.int (nI j)]) (rest := []) X w (c_X12_bareSize l D b0 L f mo ma (sp_leave M 13) hm (hs_tr_l hT) j hj) (cwV 1 hts gX12_notarySize_X12_bareSize rfl rfl rfl hdX12_bareSize ⟨Nat.le_of_ble_eq_true rfl, Nat.le_of_ble_eq_true rfl⟩) hm.1 (mo_at0 D f mo ma _) rfl rfl rfl hl.1 rfl (Nat.le_of_ble_eq_true rfl) dX12_notarySize_8 ⟨Nat.zero_le _, Nat.zero_le _⟩ (fun H locs w => ?_)
  refine lv_bipush (v := 100) hx hb dX12_notarySize_11 (by decide) ?_
  refine lv_isub hx hb dX12_notarySize_13 ?_
  exact hend H locs (((sp_leave M 13) 0 (26 + j) - 100)) (L, mo_F D f mo ma (sp_leave (sp_leave M 13) 10)) _ ls w ⟨(by rw [sp_nsize, sp_leave_0]), rfl⟩ rfl dX12_notarySize_14
theorem hdX12_notarySize : yX12_notarySize.cls = RX12 ∧ yX12_notarySize.cls ≠ "java/lang/invoke/MethodHandle" ∧ yX12_notarySize.cls ≠ "java/lang/invoke/VarHandle" ∧ (parseMethodDescriptor yX12_notarySize.desc).map (fun d => d.parameters.length) = some 1 := by decide +kernel
theorem hdX12_tableSize : yX12_tableSize.cls = RX12 ∧ yX12_tableSize.cls ≠ "java/lang/invoke/MethodHandle" ∧ yX12_tableSize.cls ≠ "java/lang/invoke/VarHandle" ∧ (parseMethodDescriptor yX12_tableSize.desc).map (fun d => d.parameters.length) = some 1 := by decide +kernel
set_option maxRecDepth 100000 in
set_option maxHeartbeats 4000000 in
/-- sizeOf -/
theorem c_X12_sizeOf (l : Launch) (D : va_G) (b0 : Nat) (L : List Nat) (f : Nat → va_E) (mo : Nat) (ma : Nat → Nat) (M : Nat → Nat → Int32) (hm : mo_ok L mo ma) (hT : hs_tr M) (j : Nat) (hj : j < 6) : mo_Fi l yX12_sizeOf wsX12_sizeOf ({ frames := 5, cells := 0, slots := 0, locals := 106 }) D b0 L f mo ma M [.int (nI j)] ((sp_size M j).1) ((sp_size M j).2) := by
  refine hg_in_i (cc := cX12_sizeOf) (nL := 2) (by decide) rfl (Nat.le_of_ble_eq_true rfl) (fun p e s m args below meth c R Q X hR hend H locs ls w hl => ?_)
  subst hR
  obtain ⟨hx, hb, hml, hown, hts⟩ := id X.1
  have hin : ∀ w ∈ wsX120, w ∈ wsX12_sizeOf := fun w h => List.mem_cons_of_mem _ (List.mem_append_right _ h)
  have hl : lv_has ls 2 [(0, .ref mo), (1, .int (nI j))] := hl
  refine lv_aload_n hx hb dX12_sizeOf_0 rfl (lv_at hl 0 rfl) ?_
  refine mo_get X w hm hin 0 (by decide) (List.mem_of_getElem? (i := 1) rfl) rfl dX12_sizeOf_1 ?_
  refine lv_bipush (v := 8) hx hb dX12_sizeOf_4 (by decide) ?_
  refine lv_iload_n hx hb dX12_sizeOf_6 rfl (lv_at hl 1 rfl) ?_
  refine lv_iadd hx hb dX12_sizeOf_7 ?_
  refine mo_iald X w hm 0 (by decide) (by decide) (8 + j) (hs_addI rfl rfl) (by show _ < 1400; omega) dX12_sizeOf_8 ?_
  by_cases s_9_2 : (M 0 (8 + j)) = 2
  · refine lv_tableIn (off := 31) (tgt := 40) hx hb dX12_sizeOf_9 (by rw [s_9_2]; decide) (by rw [s_9_2]; decide) (by rw [s_9_2]; decide) (by decide) ?_
    refine lv_aload_n hx hb dX12_sizeOf_40 rfl (lv_at hl 0 rfl) ?_
    refine lv_bipush (v := 12) hx hb dX12_sizeOf_41 (by decide) ?_
    refine hg_vvF (As := [.int (12)]) (rest := []) X w (c_X12_leaves l D b0 L f mo ma M hm hT 12) (cwV 1 hts gX12_sizeOf_X12_leaves rfl rfl rfl hdX12_leaves ⟨Nat.le_of_ble_eq_true rfl, Nat.le_of_ble_eq_true rfl⟩) hm.1 (mo_at0 D f mo ma _) rfl rfl rfl hl.1 rfl (Nat.le_of_ble_eq_true rfl) dX12_sizeOf_43 ⟨Nat.zero_le _, Nat.zero_le _⟩ (fun H locs w => ?_)
    refine lv_aload_n hx hb dX12_sizeOf_46 rfl (lv_at hl 0 rfl) ?_
    refine lv_iload_n hx hb dX12_sizeOf_47 rfl (lv_at hl 1 rfl) ?_
    refine hg_viF (r := (sp_tsize (sp_leave M 12) j).1) (As := [.int (nI j)]) (rest := []) X w (c_X12_tableSize l D b0 L f mo ma (sp_leave M 12) hm (hs_tr_l hT) j hj) (cwV 1 hts gX12_sizeOf_X12_tableSize rfl rfl rfl hdX12_tableSize ⟨Nat.le_of_ble_eq_true rfl, Nat.le_of_ble_eq_true rfl⟩) hm.1 (mo_at0 D f mo ma _) rfl rfl rfl hl.1 rfl (Nat.le_of_ble_eq_true rfl) dX12_sizeOf_48 ⟨Nat.zero_le _, Nat.zero_le _⟩ (fun H locs w => ?_)
    refine lv_ineg hx hb dX12_sizeOf_51 ?_
    exact hend H locs ((-(sp_tsize (sp_leave M 12) j).1)) (L, mo_F D f mo ma (sp_tsize (sp_leave M 12) j).2) _ ls w ⟨(by have e1 := sp_tsize_1 (M := sp_leave M 12) (N := M) (sp_leave_0 M 12) j; have e2 := sp_nsize_1 (M := sp_leave M 14) (N := M) (sp_leave_0 M 14) j; simp [sp_size, e1, e2, s_9_2]), (congrArg (fun z => (L, mo_F D f mo ma z)) (by (try simp only [lg_cmp_le, lg_cmp_ge, lg_cmp_lt, lg_cmp_gt, ← Int32.not_lt, ← Int64.not_lt, Classical.not_not] at s_9_2); first | (simp [sp_size, s_9_2]; done) | (simp [sp_size, eq_true s_9_2]; done) | (exfalso; clear hend; simp_all; done)))⟩ rfl dX12_sizeOf_52
  by_cases s_9_3 : (M 0 (8 + j)) = 3
  · refine lv_tableIn (off := 64) (tgt := 73) hx hb dX12_sizeOf_9 (by rw [s_9_3]; decide) (by rw [s_9_3]; decide) (by rw [s_9_3]; decide) (by decide) ?_
    refine lv_aload_n hx hb dX12_sizeOf_73 rfl (lv_at hl 0 rfl) ?_
    refine lv_iload_n hx hb dX12_sizeOf_74 rfl (lv_at hl 1 rfl) ?_
    refine hg_viF (r := (sp_tsize M j).1) (As := [.int (nI j)]) (rest := []) X w (c_X12_tableSize l D b0 L f mo ma M hm hT j hj) (cwV 1 hts gX12_sizeOf_X12_tableSize rfl rfl rfl hdX12_tableSize ⟨Nat.le_of_ble_eq_true rfl, Nat.le_of_ble_eq_true rfl⟩) hm.1 (mo_at0 D f mo ma _) rfl rfl rfl hl.1 rfl (Nat.le_of_ble_eq_true rfl) dX12_sizeOf_75 ⟨Nat.zero_le _, Nat.zero_le _⟩ (fun H locs w => ?_)
    exact hend H locs ((sp_tsize M j).1) (L, mo_F D f mo ma (sp_tsize M j).2) _ ls w ⟨(by have e1 := sp_tsize_1 (M := sp_leave M 12) (N := M) (sp_leave_0 M 12) j; have e2 := sp_nsize_1 (M := sp_leave M 14) (N := M) (sp_leave_0 M 14) j; simp [sp_size, e1, e2, s_9_2, s_9_3]), (congrArg (fun z => (L, mo_F D f mo ma z)) (by (try simp only [lg_cmp_le, lg_cmp_ge, lg_cmp_lt, lg_cmp_gt, ← Int32.not_lt, ← Int64.not_lt, Classical.not_not] at s_9_2 s_9_3); first | (simp [sp_size, s_9_2, s_9_3]; done) | (simp [sp_size, s_9_2, eq_true s_9_3]; done) | (exfalso; clear hend; simp_all; done)))⟩ rfl dX12_sizeOf_78
  by_cases s_9_4 : (M 0 (8 + j)) = 4
  · refine lv_tableIn (off := 44) (tgt := 53) hx hb dX12_sizeOf_9 (by rw [s_9_4]; decide) (by rw [s_9_4]; decide) (by rw [s_9_4]; decide) (by decide) ?_
    refine lv_aload_n hx hb dX12_sizeOf_53 rfl (lv_at hl 0 rfl) ?_
    refine lv_iload_n hx hb dX12_sizeOf_54 rfl (lv_at hl 1 rfl) ?_
    refine hg_viF (r := (sp_nsize M j).1) (As := [.int (nI j)]) (rest := []) X w (c_X12_notarySize l D b0 L f mo ma M hm hT j hj) (cwV 1 hts gX12_sizeOf_X12_notarySize rfl rfl rfl hdX12_notarySize ⟨Nat.le_of_ble_eq_true rfl, Nat.le_of_ble_eq_true rfl⟩) hm.1 (mo_at0 D f mo ma _) rfl rfl rfl hl.1 rfl (Nat.le_of_ble_eq_true rfl) dX12_sizeOf_55 ⟨Nat.zero_le _, Nat.zero_le _⟩ (fun H locs w => ?_)
    exact hend H locs ((sp_nsize M j).1) (L, mo_F D f mo ma (sp_nsize M j).2) _ ls w ⟨(by have e1 := sp_tsize_1 (M := sp_leave M 12) (N := M) (sp_leave_0 M 12) j; have e2 := sp_nsize_1 (M := sp_leave M 14) (N := M) (sp_leave_0 M 14) j; simp [sp_size, e1, e2, s_9_2, s_9_3, s_9_4]), (congrArg (fun z => (L, mo_F D f mo ma z)) (by (try simp only [lg_cmp_le, lg_cmp_ge, lg_cmp_lt, lg_cmp_gt, ← Int32.not_lt, ← Int64.not_lt, Classical.not_not] at s_9_2 s_9_3 s_9_4); first | (simp [sp_size, s_9_2, s_9_3, s_9_4]; done) | (simp [sp_size, s_9_2, s_9_3, eq_true s_9_4]; done) | (exfalso; clear hend; simp_all; done)))⟩ rfl dX12_sizeOf_58
  by_cases s_9_5 : (M 0 (8 + j)) = 5
  · refine lv_tableIn (off := 50) (tgt := 59) hx hb dX12_sizeOf_9 (by rw [s_9_5]; decide) (by rw [s_9_5]; decide) (by rw [s_9_5]; decide) (by decide) ?_
    refine lv_aload_n hx hb dX12_sizeOf_59 rfl (lv_at hl 0 rfl) ?_
    refine lv_bipush (v := 14) hx hb dX12_sizeOf_60 (by decide) ?_
    refine hg_vvF (As := [.int (14)]) (rest := []) X w (c_X12_leaves l D b0 L f mo ma M hm hT 14) (cwV 1 hts gX12_sizeOf_X12_leaves rfl rfl rfl hdX12_leaves ⟨Nat.le_of_ble_eq_true rfl, Nat.le_of_ble_eq_true rfl⟩) hm.1 (mo_at0 D f mo ma _) rfl rfl rfl hl.1 rfl (Nat.le_of_ble_eq_true rfl) dX12_sizeOf_62 ⟨Nat.zero_le _, Nat.zero_le _⟩ (fun H locs w => ?_)
    refine lv_iconst (v := 2) hx hb dX12_sizeOf_65 (by decide) ?_
    refine lv_aload_n hx hb dX12_sizeOf_66 rfl (lv_at hl 0 rfl) ?_
    refine lv_iload_n hx hb dX12_sizeOf_67 rfl (lv_at hl 1 rfl) ?_
    refine hg_viF (r := (sp_nsize (sp_leave M 14) j).1) (As := [.int (nI j)]) (rest := [.int (2)]) X w (c_X12_notarySize l D b0 L f mo ma (sp_leave M 14) hm (hs_tr_l hT) j hj) (cwV 1 hts gX12_sizeOf_X12_notarySize rfl rfl rfl hdX12_notarySize ⟨Nat.le_of_ble_eq_true rfl, Nat.le_of_ble_eq_true rfl⟩) hm.1 (mo_at0 D f mo ma _) rfl rfl rfl hl.1 rfl (Nat.le_of_ble_eq_true rfl) dX12_sizeOf_68 ⟨Nat.zero_le _, Nat.zero_le _⟩ (fun H locs w => ?_)
    refine lv_imul hx hb dX12_sizeOf_71 ?_
    exact hend H locs ((2 * (sp_nsize (sp_leave M 14) j).1)) (L, mo_F D f mo ma (sp_nsize (sp_leave M 14) j).2) _ ls w ⟨(by have e1 := sp_tsize_1 (M := sp_leave M 12) (N := M) (sp_leave_0 M 12) j; have e2 := sp_nsize_1 (M := sp_leave M 14) (N := M) (sp_leave_0 M 14) j; simp [sp_size, e1, e2, s_9_2, s_9_3, s_9_4, s_9_5]), (congrArg (fun z => (L, mo_F D f mo ma z)) (by (try simp only [lg_cmp_le, lg_cmp_ge, lg_cmp_lt, lg_cmp_gt, ← Int32.not_lt, ← Int64.not_lt, Classical.not_not] at s_9_2 s_9_3 s_9_4 s_9_5); first | (simp [sp_size, s_9_2, s_9_3, s_9_4, s_9_5]; done) | (simp [sp_size, s_9_2, s_9_3, s_9_4, eq_true s_9_5]; done) | (exfalso; clear hend; simp_all; done)))⟩ rfl dX12_sizeOf_72
  refine lv_tableOut (tgt := 73) hx hb dX12_sizeOf_9 (by have t2 := lv_neT s_9_2 (a := 2) (by decide); have t3 := lv_neT s_9_3 (a := 3) (by decide); have t4 := lv_neT s_9_4 (a := 4) (by decide); have t5 := lv_neT s_9_5 (a := 5) (by decide); omega) (by decide) ?_
  refine lv_aload_n hx hb dX12_sizeOf_73 rfl (lv_at hl 0 rfl) ?_
  refine lv_iload_n hx hb dX12_sizeOf_74 rfl (lv_at hl 1 rfl) ?_
  refine hg_viF (r := (sp_tsize M j).1) (As := [.int (nI j)]) (rest := []) X w (c_X12_tableSize l D b0 L f mo ma M hm hT j hj) (cwV 1 hts gX12_sizeOf_X12_tableSize rfl rfl rfl hdX12_tableSize ⟨Nat.le_of_ble_eq_true rfl, Nat.le_of_ble_eq_true rfl⟩) hm.1 (mo_at0 D f mo ma _) rfl rfl rfl hl.1 rfl (Nat.le_of_ble_eq_true rfl) dX12_sizeOf_75 ⟨Nat.zero_le _, Nat.zero_le _⟩ (fun H locs w => ?_)
  exact hend H locs ((sp_tsize M j).1) (L, mo_F D f mo ma (sp_tsize M j).2) _ ls w ⟨(by have e1 := sp_tsize_1 (M := sp_leave M 12) (N := M) (sp_leave_0 M 12) j; have e2 := sp_nsize_1 (M := sp_leave M 14) (N := M) (sp_leave_0 M 14) j; simp [sp_size, e1, e2, s_9_2, s_9_3, s_9_4, s_9_5]), (congrArg (fun z => (L, mo_F D f mo ma z)) (by (try simp only [lg_cmp_le, lg_cmp_ge, lg_cmp_lt, lg_cmp_gt, ← Int32.not_lt, ← Int64.not_lt, Classical.not_not] at s_9_2 s_9_3 s_9_4 s_9_5); first | (simp [sp_size, s_9_2, s_9_3, s_9_4, s_9_5]; done) | (simp [sp_size, s_9_2, s_9_3, s_9_4, s_9_5]; done) | (exfalso; clear hend; simp_all; done)))⟩ rfl dX12_sizeOf_78
theorem hdX12_sizeOf : yX12_sizeOf.cls = RX12 ∧ yX12_sizeOf.cls ≠ "java/lang/invoke/MethodHandle" ∧ yX12_sizeOf.cls ≠ "java/lang/invoke/VarHandle" ∧ (parseMethodDescriptor yX12_sizeOf.desc).map (fun d => d.parameters.length) = some 1 := by decide +kernel
set_option maxRecDepth 100000 in
set_option maxHeartbeats 4000000 in
/-- markOf -/
theorem c_X12_markOf (l : Launch) (D : va_G) (b0 : Nat) (L : List Nat) (f : Nat → va_E) (mo : Nat) (ma : Nat → Nat) (M : Nat → Nat → Int32) (hm : mo_ok L mo ma) (hT : hs_tr M) (j : Nat) (hj : j < 6) : mo_Fi l yX12_markOf wsX12_markOf ({ frames := 6, cells := 0, slots := 0, locals := 127 }) D b0 L f mo ma M [.int (nI j)] ((sp_mark M j).1) ((sp_mark M j).2) := by
  refine hg_in_i (cc := cX12_markOf) (nL := 3) (by decide) rfl (Nat.le_of_ble_eq_true rfl) (fun p e s m args below meth c R Q X hR hend H locs ls w hl => ?_)
  subst hR
  obtain ⟨hx, hb, hml, hown, hts⟩ := id X.1
  have hin : ∀ w ∈ wsX120, w ∈ wsX12_markOf := fun w h => List.mem_cons_of_mem _ (List.mem_append_right _ h)
  have hl : lv_has ls 3 [(0, .ref mo), (1, .int (nI j))] := hl
  refine lv_aload_n hx hb dX12_markOf_0 rfl (lv_at hl 0 rfl) ?_
  refine mo_get X w hm hin 0 (by decide) (List.mem_of_getElem? (i := 1) rfl) rfl dX12_markOf_1 ?_
  refine lv_bipush (v := 8) hx hb dX12_markOf_4 (by decide) ?_
  refine lv_iload_n hx hb dX12_markOf_6 rfl (lv_at hl 1 rfl) ?_
  refine lv_iadd hx hb dX12_markOf_7 ?_
  refine mo_iald X w hm 0 (by decide) (by decide) (8 + j) (hs_addI rfl rfl) (by show _ < 1400; omega) dX12_markOf_8 ?_
  refine lv_iconst (v := 4) hx hb dX12_markOf_9 (by decide) ?_
  refine lv_icmp_ge (tgt := 19) hx hb dX12_markOf_10 (by decide) (fun c_10 => ?_) (fun c_10 => ?_)
  · refine lv_aload_n hx hb dX12_markOf_19 rfl (lv_at hl 0 rfl) ?_
    refine lv_bipush (v := 23) hx hb dX12_markOf_20 (by decide) ?_
    refine hg_vvF (As := [.int (23)]) (rest := []) X w (c_X12_leaves l D b0 L f mo ma M hm hT 23) (cwV 1 hts gX12_markOf_X12_leaves rfl rfl rfl hdX12_leaves ⟨Nat.le_of_ble_eq_true rfl, Nat.le_of_ble_eq_true rfl⟩) hm.1 (mo_at0 D f mo ma _) rfl rfl rfl hl.1 rfl (Nat.le_of_ble_eq_true rfl) dX12_markOf_22 ⟨Nat.zero_le _, Nat.zero_le _⟩ (fun H locs w => ?_)
    refine lv_aload_n hx hb dX12_markOf_25 rfl (lv_at hl 0 rfl) ?_
    refine lv_iload_n hx hb dX12_markOf_26 rfl (lv_at hl 1 rfl) ?_
    refine hg_viF (r := nI j) (As := [.int (nI j)]) (rest := []) X w (c_X12_bareMark l D b0 L f mo ma (sp_leave M 23) hm (hs_tr_l hT) j hj) (cwV 1 hts gX12_markOf_X12_bareMark rfl rfl rfl hdX12_bareMark ⟨Nat.le_of_ble_eq_true rfl, Nat.le_of_ble_eq_true rfl⟩) hm.1 (mo_at0 D f mo ma _) rfl rfl rfl hl.1 rfl (Nat.le_of_ble_eq_true rfl) dX12_markOf_27 ⟨Nat.zero_le _, Nat.zero_le _⟩ (fun H locs w => ?_)
    refine lv_istore_n (lv' := [(2, .int (nI j)), (0, .ref mo), (1, .int (nI j))]) hx hb dX12_markOf_30 rfl hl (by decide) rfl (fun ls hl => ?_)
    refine lv_iload_n hx hb dX12_markOf_31 rfl (lv_at hl 0 rfl) ?_
    refine lv_aload_n hx hb dX12_markOf_32 rfl (lv_at hl 1 rfl) ?_
    refine lv_iload_n hx hb dX12_markOf_33 rfl (lv_at hl 2 rfl) ?_
    refine hg_viF (r := (sp_size (sp_leave (sp_leave M 23) 20) j).1) (As := [.int (nI j)]) (rest := [.int (nI j)]) X w (c_X12_sizeOf l D b0 L f mo ma (sp_leave (sp_leave M 23) 20) hm (hs_tr_l (hs_tr_l hT)) j hj) (cwV 1 hts gX12_markOf_X12_sizeOf rfl rfl rfl hdX12_sizeOf ⟨Nat.le_of_ble_eq_true rfl, Nat.le_of_ble_eq_true rfl⟩) hm.1 (mo_at0 D f mo ma _) rfl rfl rfl hl.1 rfl (Nat.le_of_ble_eq_true rfl) dX12_markOf_34 ⟨Nat.zero_le _, Nat.zero_le _⟩ (fun H locs w => ?_)
    refine lv_isub hx hb dX12_markOf_37 ?_
    exact hend H locs ((nI j - (sp_size (sp_leave (sp_leave M 23) 20) j).1)) (L, mo_F D f mo ma (sp_size (sp_leave (sp_leave M 23) 20) j).2) _ ls w ⟨(by have e1 := sp_size_1 (M := sp_leave (sp_leave M 23) 20) (N := M) (by rw [sp_leave_0, sp_leave_0]) j; (try simp only [← Int32.not_lt, Classical.not_not] at c_10); simp [sp_mark, e1, c_10]), (congrArg (fun z => (L, mo_F D f mo ma z)) (by (try simp only [lg_cmp_le, lg_cmp_ge, lg_cmp_lt, lg_cmp_gt, ← Int32.not_lt, ← Int64.not_lt, Classical.not_not] at c_10); first | (simp [sp_mark, c_10]; done) | (simp [sp_mark, c_10]; done) | (exfalso; clear hend; simp_all; done)))⟩ rfl dX12_markOf_38
  · refine lv_aload_n hx hb dX12_markOf_13 rfl (lv_at hl 0 rfl) ?_
    refine lv_iload_n hx hb dX12_markOf_14 rfl (lv_at hl 1 rfl) ?_
    refine hg_viF (r := (sp_markT M j).1) (As := [.int (nI j)]) (rest := []) X w (c_X12_markOfTable l D b0 L f mo ma M hm hT j hj) (cwV 1 hts gX12_markOf_X12_markOfTable rfl rfl rfl hdX12_markOfTable ⟨Nat.le_of_ble_eq_true rfl, Nat.le_of_ble_eq_true rfl⟩) hm.1 (mo_at0 D f mo ma _) rfl rfl rfl hl.1 rfl (Nat.le_of_ble_eq_true rfl) dX12_markOf_15 ⟨Nat.zero_le _, Nat.zero_le _⟩ (fun H locs w => ?_)
    exact hend H locs ((sp_markT M j).1) (L, mo_F D f mo ma (sp_markT M j).2) _ ls w ⟨(by have e1 := sp_size_1 (M := sp_leave (sp_leave M 23) 20) (N := M) (by rw [sp_leave_0, sp_leave_0]) j; (try simp only [← Int32.not_lt, Classical.not_not] at c_10); simp [sp_mark, e1, c_10]), (congrArg (fun z => (L, mo_F D f mo ma z)) (by (try simp only [lg_cmp_le, lg_cmp_ge, lg_cmp_lt, lg_cmp_gt, ← Int32.not_lt, ← Int64.not_lt, Classical.not_not] at c_10); first | (simp [sp_mark, c_10]; done) | (simp [sp_mark, c_10]; done) | (exfalso; clear hend; simp_all; done)))⟩ rfl dX12_markOf_18
theorem hdX12_markOf : yX12_markOf.cls = RX12 ∧ yX12_markOf.cls ≠ "java/lang/invoke/MethodHandle" ∧ yX12_markOf.cls ≠ "java/lang/invoke/VarHandle" ∧ (parseMethodDescriptor yX12_markOf.desc).map (fun d => d.parameters.length) = some 1 := by decide +kernel
set_option maxRecDepth 100000 in
set_option maxHeartbeats 4000000 in
/-- ask -/
theorem c_X12_ask (l : Launch) (D : va_G) (b0 : Nat) (L : List Nat) (f : Nat → va_E) (mo : Nat) (ma : Nat → Nat) (M : Nat → Nat → Int32) (hm : mo_ok L mo ma) (n nr : Nat) (hv : hs_ok (M 0) n nr) (one what : Int32) : mo_Fi l yX12_ask wsX12_ask ({ frames := 7, cells := 0, slots := 0, locals := 149 }) D b0 L f mo ma M [.int (one), .int (what)] ((sp_ask M one what).1) ((sp_ask M one what).2) := by
  refine hg_in_i (cc := cX12_ask) (nL := 3) (by decide) rfl (Nat.le_of_ble_eq_true rfl) (fun p e s m args below meth c R Q X hR hend H locs ls w hl => ?_)
  subst hR
  obtain ⟨hx, hb, hml, hown, hts⟩ := id X.1
  have hin : ∀ w ∈ wsX120, w ∈ wsX12_ask := fun w h => List.mem_cons_of_mem _ (List.mem_append_right _ h)
  have hl : lv_has ls 3 [(0, .ref mo), (1, .int (one)), (2, .int (what))] := hl
  obtain ⟨hn, hn6, hnr, hnr3, htt⟩ := id hv
  refine lv_aload_n hx hb dX12_ask_0 rfl (lv_at hl 0 rfl) ?_
  refine lv_iload_n hx hb dX12_ask_1 rfl (lv_at hl 1 rfl) ?_
  refine hg_viF (r := hs_isSt (M 0) one) (As := [.int (one)]) (rest := []) X w (c_X12_isStall l D b0 L f mo ma M hm one) (cwV 1 hts gX12_ask_X12_isStall rfl rfl rfl hdX12_isStall ⟨Nat.le_of_ble_eq_true rfl, Nat.le_of_ble_eq_true rfl⟩) hm.1 (mo_at0 D f mo ma _) rfl rfl rfl hl.1 rfl (Nat.le_of_ble_eq_true rfl) dX12_ask_2 ⟨Nat.zero_le _, Nat.zero_le _⟩ (fun H locs w => ?_)
  refine lv_if_eq (tgt := 18) hx hb dX12_ask_5 (by decide) (fun c_5 => ?_) (fun c_5 => ?_)
  · refine lv_ldc (v := (-1000001)) hx hb hown (hts _ (List.mem_of_getElem? (i := 1) rfl)) dX12_ask_18 ?_
    exact hend H locs ((-1000001)) (L, mo_F D f mo ma M) _ ls w ⟨(by (try simp only [lg_cmp_le, lg_cmp_ge, lg_cmp_lt, lg_cmp_gt, ← Int32.not_lt, ← Int64.not_lt, Classical.not_not] at c_5); first | (simp [sp_ask, c_5]; done) | (simp [sp_ask, eq_true c_5]; done) | (exfalso; clear hend; simp_all; done)), (congrArg (fun z => (L, mo_F D f mo ma z)) (by (try simp only [lg_cmp_le, lg_cmp_ge, lg_cmp_lt, lg_cmp_gt, ← Int32.not_lt, ← Int64.not_lt, Classical.not_not] at c_5); first | (simp [sp_ask, c_5]; done) | (simp [sp_ask, eq_true c_5]; done) | (exfalso; clear hend; simp_all; done)))⟩ rfl dX12_ask_20
  · obtain ⟨j, hj, rfl⟩ := hs_st_1 hv c_5
    have hjc := hs_cl hj (by omega)
    refine lv_iload_n hx hb dX12_ask_8 rfl (lv_at hl 2 rfl) ?_
    refine lv_i2l hx hb dX12_ask_9 rfl ?_
    refine lv_lconst (v := 0) hx hb dX12_ask_10 (by decide) ?_
    refine lv_lconst (v := 1) hx hb dX12_ask_11 (by decide) ?_
    refine hg_siF (r := hs_in what 0 1) (As := [.long ((what).toInt64), .long (0), .long (1)]) (rest := []) X w (c_X12_in l D b0 L _ ((what).toInt64) 0 1 what 0 1 rfl (by decide) (by decide)) (va_cwS 3 hts gX12_ask_X12_in rfl rfl rfl hdX12_in ⟨Nat.le_of_ble_eq_true rfl, Nat.le_of_ble_eq_true rfl⟩) rfl hl.1 rfl (Nat.le_of_ble_eq_true rfl) dX12_ask_12 ⟨Nat.zero_le _, Nat.zero_le _⟩ (fun H locs w => ?_)
    refine lv_if_ne (tgt := 21) hx hb dX12_ask_15 (by decide) (fun c_15 => ?_) (fun c_15 => ?_)
    · refine lv_aload_n hx hb dX12_ask_21 rfl (lv_at hl 0 rfl) ?_
      refine lv_iconst (v := 0) hx hb dX12_ask_22 (by decide) ?_
      refine mo_put X w hm hin 18 (by decide) (List.mem_of_getElem? (i := 2) rfl) dX12_ask_23 (fun H locs w => ?_)
      refine lv_iload_n hx hb dX12_ask_26 rfl (lv_at hl 2 rfl) ?_
      refine lv_if_ne (tgt := 38) hx hb dX12_ask_27 (by decide) (fun c_27 => ?_) (fun c_27 => ?_)
      · refine lv_aload_n hx hb dX12_ask_38 rfl (lv_at hl 0 rfl) ?_
        refine lv_iload_n hx hb dX12_ask_39 rfl (lv_at hl 1 rfl) ?_
        refine hg_viF (r := (sp_mark (mo_w M 18 0 (0)) j).1) (As := [.int (nI j)]) (rest := []) X w (c_X12_markOf l D b0 L f mo ma (mo_w M 18 0 (0)) hm (hs_tr_0 M) j (by omega)) (cwV 1 hts gX12_ask_X12_markOf rfl rfl rfl hdX12_markOf ⟨Nat.le_of_ble_eq_true rfl, Nat.le_of_ble_eq_true rfl⟩) hm.1 (mo_at0 D f mo ma _) rfl rfl rfl hl.1 rfl (Nat.le_of_ble_eq_true rfl) dX12_ask_40 ⟨Nat.zero_le _, Nat.zero_le _⟩ (fun H locs w => ?_)
        exact hend H locs ((sp_mark (mo_w M 18 0 (0)) j).1) (L, mo_F D f mo ma (sp_mark (mo_w M 18 0 (0)) j).2) _ ls w ⟨(by (try simp only [lg_cmp_le, lg_cmp_ge, lg_cmp_lt, lg_cmp_gt, ← Int32.not_lt, ← Int64.not_lt, Classical.not_not] at c_5 c_15 c_27); first | (simp [sp_ask, c_5, c_15, c_27, hjc]; done) | (simp [sp_ask, c_5, c_15, c_27, hjc]; done) | (exfalso; clear hend; simp_all; done)), (congrArg (fun z => (L, mo_F D f mo ma z)) (by (try simp only [lg_cmp_le, lg_cmp_ge, lg_cmp_lt, lg_cmp_gt, ← Int32.not_lt, ← Int64.not_lt, Classical.not_not] at c_5 c_15 c_27); first | (simp [sp_ask, c_5, c_15, c_27, hjc]; done) | (simp [sp_ask, c_5, c_15, c_27, hjc]; done) | (exfalso; clear hend; simp_all; done)))⟩ rfl dX12_ask_43
      · refine lv_aload_n hx hb dX12_ask_30 rfl (lv_at hl 0 rfl) ?_
        refine lv_iload_n hx hb dX12_ask_31 rfl (lv_at hl 1 rfl) ?_
        refine hg_viF (r := (sp_size (mo_w M 18 0 (0)) j).1) (As := [.int (nI j)]) (rest := []) X w (c_X12_sizeOf l D b0 L f mo ma (mo_w M 18 0 (0)) hm (hs_tr_0 M) j (by omega)) (cwV 1 hts gX12_ask_X12_sizeOf rfl rfl rfl hdX12_sizeOf ⟨Nat.le_of_ble_eq_true rfl, Nat.le_of_ble_eq_true rfl⟩) hm.1 (mo_at0 D f mo ma _) rfl rfl rfl hl.1 rfl (Nat.le_of_ble_eq_true rfl) dX12_ask_32 ⟨Nat.zero_le _, Nat.zero_le _⟩ (fun H locs w => ?_)
        refine lv_goto (tgt := 43) hx hb dX12_ask_35 (by decide) ?_
        exact hend H locs ((sp_size (mo_w M 18 0 (0)) j).1) (L, mo_F D f mo ma (sp_size (mo_w M 18 0 (0)) j).2) _ ls w ⟨(by (try simp only [lg_cmp_le, lg_cmp_ge, lg_cmp_lt, lg_cmp_gt, ← Int32.not_lt, ← Int64.not_lt, Classical.not_not] at c_5 c_15 c_27); first | (simp [sp_ask, c_5, c_15, c_27, hjc]; done) | (simp [sp_ask, c_5, c_15, eq_true c_27, hjc]; done) | (exfalso; clear hend; simp_all; done)), (congrArg (fun z => (L, mo_F D f mo ma z)) (by (try simp only [lg_cmp_le, lg_cmp_ge, lg_cmp_lt, lg_cmp_gt, ← Int32.not_lt, ← Int64.not_lt, Classical.not_not] at c_5 c_15 c_27); first | (simp [sp_ask, c_5, c_15, c_27, hjc]; done) | (simp [sp_ask, c_5, c_15, eq_true c_27, hjc]; done) | (exfalso; clear hend; simp_all; done)))⟩ rfl dX12_ask_43
    · refine lv_ldc (v := (-1000001)) hx hb hown (hts _ (List.mem_of_getElem? (i := 1) rfl)) dX12_ask_18 ?_
      exact hend H locs ((-1000001)) (L, mo_F D f mo ma M) _ ls w ⟨(by (try simp only [lg_cmp_le, lg_cmp_ge, lg_cmp_lt, lg_cmp_gt, ← Int32.not_lt, ← Int64.not_lt, Classical.not_not] at c_5 c_15); first | (simp [sp_ask, c_5, c_15, hjc]; done) | (simp [sp_ask, c_5, eq_true c_15, hjc]; done) | (exfalso; clear hend; simp_all; done)), (congrArg (fun z => (L, mo_F D f mo ma z)) (by (try simp only [lg_cmp_le, lg_cmp_ge, lg_cmp_lt, lg_cmp_gt, ← Int32.not_lt, ← Int64.not_lt, Classical.not_not] at c_5 c_15); first | (simp [sp_ask, c_5, c_15, hjc]; done) | (simp [sp_ask, c_5, eq_true c_15, hjc]; done) | (exfalso; clear hend; simp_all; done)))⟩ rfl dX12_ask_20
