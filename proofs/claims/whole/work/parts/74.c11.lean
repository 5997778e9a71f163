theorem hdX9_leave : yX9_leave.cls = RX9 ∧ yX9_leave.cls ≠ "java/lang/invoke/MethodHandle" ∧ yX9_leave.cls ≠ "java/lang/invoke/VarHandle" ∧ (parseMethodDescriptor yX9_leave.desc).map (fun d => d.parameters.length) = some 1 := by decide +kernel
set_option maxRecDepth 100000 in
set_option maxHeartbeats 4000000 in
theorem c_X6_size (l : Launch) (D : va_G) (b0 : Nat) (L : List Nat) (f : Nat → va_E) (oa : Nat → Nat) (C : Nat → Nat → Int32) (mr : Nat) (im : Nat → Option Nat) (mk : Nat) (ad : Nat → Nat) (n : Nat) (g : Nat → Int32) (hm : mk_ok L mk ad n) (hs : mk_sr g n) (ho : ob_ok L oa mk ad n) (htr : hs_tr C) (i : Nat) (hi : i < n) : hg_Fi l yX6_size wsX6_size ({ frames := 1, cells := 0, slots := 0, locals := 21 }) D b0 L (ob_W D f oa C mr im mk ad n g) [.ref (ad (2 + i)), .ref (oa 4)] (g (26 + i)) (ob_W D f oa (sp_leave C 10) mr im mk ad n g) := by
  refine hg_in_i (cc := cX6_size) (nL := 2) (by decide) rfl (Nat.le_of_ble_eq_true rfl) (fun p e s m args below meth c R Q X hR hend H locs ls w hl => ?_)
  subst hR
  obtain ⟨hx, hb, hml, hown, hts⟩ := id X.1
  have hin : mk_in wsX6_size := ⟨fun w h => List.mem_cons_of_mem _ (List.mem_append_left _ (List.mem_append_left _ (List.mem_append_left _ (List.mem_append_left _ (List.mem_append_left _ (List.mem_append_right _ h)))))), fun w h => List.mem_cons_of_mem _ (List.mem_append_left _ (List.mem_append_left _ (List.mem_append_left _ (List.mem_append_left _ (List.mem_append_right _ h))))), fun w h => List.mem_cons_of_mem _ (List.mem_append_left _ (List.mem_append_left _ (List.mem_append_left _ (List.mem_append_right _ h)))), fun w h => List.mem_cons_of_mem _ (List.mem_append_left _ (List.mem_append_left _ (List.mem_append_right _ h))), fun w h => List.mem_cons_of_mem _ (List.mem_append_left _ (List.mem_append_right _ h))⟩
  have hin9 : ∀ w ∈ wsX90, w ∈ wsX6_size := fun w h => List.mem_cons_of_mem _ (List.mem_append_right _ h)
  have hl : lv_has ls 2 [(0, .ref (ad (2 + i))), (1, .ref (oa 4))] := hl
  refine lv_aload_n hx hb dX6_size_0 rfl (lv_at hl 1 rfl) ?_
  refine lv_bipush (v := 10) hx hb dX6_size_1 (by decide) ?_
  refine hg_vvF (As := [.int (10)]) (rest := []) X w (c_X9_leave l D b0 L f oa C mr im mk ad n g hm hs ho htr 10) (cwV 1 hts gX6_size_X9_leave rfl rfl rfl hdX9_leave ⟨Nat.le_of_ble_eq_true rfl, Nat.le_of_ble_eq_true rfl⟩) (ho.1 4 (by decide)).1 (ow_at ho (k := 4) (by decide)) rfl rfl rfl hl.1 rfl (Nat.le_of_ble_eq_true rfl) dX6_size_3 ⟨Nat.zero_le _, Nat.zero_le _⟩ (fun H locs w => ?_)
  refine lv_aload_n hx hb dX6_size_6 rfl (lv_at hl 0 rfl) ?_
  refine mk_get X w hm hs hin hi 3 (by decide) (List.mem_of_getElem? (i := 1) rfl) (Or.inl rfl) rfl dX6_size_7 ?_
  exact hend H locs (g (26 + i)) (L, ob_W D f oa (sp_leave C 10) mr im mk ad n g) _ ls w ⟨rfl, rfl⟩ rfl dX6_size_10
set_option maxRecDepth 100000 in
set_option maxHeartbeats 4000000 in
theorem c_X6_mark (l : Launch) (D : va_G) (b0 : Nat) (L : List Nat) (f : Nat → va_E) (oa : Nat → Nat) (C : Nat → Nat → Int32) (mr : Nat) (im : Nat → Option Nat) (mk : Nat) (ad : Nat → Nat) (n : Nat) (g : Nat → Int32) (hm : mk_ok L mk ad n) (hs : mk_sr g n) (ho : ob_ok L oa mk ad n) (htr : hs_tr C) (i : Nat) (hi : i < n) : hg_Fi l yX6_mark wsX6_mark ({ frames := 1, cells := 0, slots := 0, locals := 21 }) D b0 L (ob_W D f oa C mr im mk ad n g) [.ref (ad (2 + i)), .ref (oa 4)] (nI i) (ob_W D f oa (sp_leave C 20) mr im mk ad n g) := by
  refine hg_in_i (cc := cX6_mark) (nL := 2) (by decide) rfl (Nat.le_of_ble_eq_true rfl) (fun p e s m args below meth c R Q X hR hend H locs ls w hl => ?_)
  subst hR
  obtain ⟨hx, hb, hml, hown, hts⟩ := id X.1
  have hin : mk_in wsX6_mark := ⟨fun w h => List.mem_cons_of_mem _ (List.mem_append_left _ (List.mem_append_left _ (List.mem_append_left _ (List.mem_append_left _ (List.mem_append_left _ (List.mem_append_right _ h)))))), fun w h => List.mem_cons_of_mem _ (List.mem_append_left _ (List.mem_append_left _ (List.mem_append_left _ (List.mem_append_left _ (List.mem_append_right _ h))))), fun w h => List.mem_cons_of_mem _ (List.mem_append_left _ (List.mem_append_left _ (List.mem_append_left _ (List.mem_append_right _ h)))), fun w h => List.mem_cons_of_mem _ (List.mem_append_left _ (List.mem_append_left _ (List.mem_append_right _ h))), fun w h => List.mem_cons_of_mem _ (List.mem_append_left _ (List.mem_append_right _ h))⟩
  have hin9 : ∀ w ∈ wsX90, w ∈ wsX6_mark := fun w h => List.mem_cons_of_mem _ (List.mem_append_right _ h)
  have hl : lv_has ls 2 [(0, .ref (ad (2 + i))), (1, .ref (oa 4))] := hl
  refine lv_aload_n hx hb dX6_mark_0 rfl (lv_at hl 1 rfl) ?_
  refine lv_bipush (v := 20) hx hb dX6_mark_1 (by decide) ?_
  refine hg_vvF (As := [.int (20)]) (rest := []) X w (c_X9_leave l D b0 L f oa C mr im mk ad n g hm hs ho htr 20) (cwV 1 hts gX6_mark_X9_leave rfl rfl rfl hdX9_leave ⟨Nat.le_of_ble_eq_true rfl, Nat.le_of_ble_eq_true rfl⟩) (ho.1 4 (by decide)).1 (ow_at ho (k := 4) (by decide)) rfl rfl rfl hl.1 rfl (Nat.le_of_ble_eq_true rfl) dX6_mark_3 ⟨Nat.zero_le _, Nat.zero_le _⟩ (fun H locs w => ?_)
  refine lv_aload_n hx hb dX6_mark_6 rfl (lv_at hl 0 rfl) ?_
  refine mk_get X w hm hs hin hi 0 (by decide) (List.mem_of_getElem? (i := 1) rfl) (Or.inl rfl) rfl dX6_mark_7 ?_
  exact hend H locs (nI i) (L, ob_W D f oa (sp_leave C 20) mr im mk ad n g) _ ls w ⟨rfl, rfl⟩ rfl dX6_mark_10
set_option maxRecDepth 100000 in
set_option maxHeartbeats 4000000 in
theorem c_X7_mark (l : Launch) (D : va_G) (b0 : Nat) (L : List Nat) (f : Nat → va_E) (oa : Nat → Nat) (C : Nat → Nat → Int32) (mr : Nat) (im : Nat → Option Nat) (mk : Nat) (ad : Nat → Nat) (n : Nat) (g : Nat → Int32) (hm : mk_ok L mk ad n) (hs : mk_sr g n) (ho : ob_ok L oa mk ad n) (htr : hs_tr C) (i : Nat) (hi : i < n) (hk0 : g (8 + i) = 1 ∨ g (8 + i) = 2 ∨ g (8 + i) = 3) : hg_Fi l yX7_mark wsX7_mark ({ frames := 2, cells := 0, slots := 0, locals := 42 }) D b0 L (ob_W D f oa C mr im mk ad n g) [.ref (ad (2 + i)), .ref (oa 4)] (nI i + hs_weight g i) (ob_W D f oa (sp_leave (sp_leave C 21) 20) mr im mk ad n g) := by
  refine hg_in_i (cc := cX7_mark) (nL := 2) (by decide) rfl (Nat.le_of_ble_eq_true rfl) (fun p e s m args below meth c R Q X hR hend H locs ls w hl => ?_)
  subst hR
  obtain ⟨hx, hb, hml, hown, hts⟩ := id X.1
  have hin : mk_in wsX7_mark := ⟨fun w h => List.mem_cons_of_mem _ (List.mem_append_left _ (List.mem_append_left _ (List.mem_append_left _ (List.mem_append_left _ (List.mem_append_right _ h))))), fun w h => List.mem_cons_of_mem _ (List.mem_append_left _ (List.mem_append_left _ (List.mem_append_left _ (List.mem_append_right _ h)))), fun w h => List.mem_cons_of_mem _ (List.mem_append_left _ (List.mem_append_left _ (List.mem_append_right _ h))), fun w h => List.mem_cons_of_mem _ (List.mem_append_left _ (List.mem_append_right _ h)), fun w h => List.mem_cons_of_mem _ (List.mem_append_right _ h)⟩
  have hin9 : ∀ w ∈ wsX90, w ∈ wsX7_mark := fun w h => List.mem_cons_of_mem _ (List.mem_append_left _ (List.mem_append_left _ (List.mem_append_left _ (List.mem_append_left _ (List.mem_append_left _ (List.mem_append_right _ h))))))
  have hl : lv_has ls 2 [(0, .ref (ad (2 + i))), (1, .ref (oa 4))] := hl
  rcases hk0 with hk | hk | hk
  · refine lv_aload_n hx hb dX7_mark_0 rfl (lv_at hl 1 rfl) ?_
    refine lv_bipush (v := 21) hx hb dX7_mark_1 (by decide) ?_
    refine hg_vvF (As := [.int (21)]) (rest := []) X w (c_X9_leave l D b0 L f oa C mr im mk ad n g hm hs ho htr 21) (cwV 1 hts gX7_mark_X9_leave rfl rfl rfl hdX9_leave ⟨Nat.le_of_ble_eq_true rfl, Nat.le_of_ble_eq_true rfl⟩) (ho.1 4 (by decide)).1 (ow_at ho (k := 4) (by decide)) rfl rfl rfl hl.1 rfl (Nat.le_of_ble_eq_true rfl) dX7_mark_3 ⟨Nat.zero_le _, Nat.zero_le _⟩ (fun H locs w => ?_)
    refine lv_aload_n hx hb dX7_mark_6 rfl (lv_at hl 0 rfl) ?_
    refine lv_aload_n hx hb dX7_mark_7 rfl (lv_at hl 1 rfl) ?_
    refine hg_xiF (r := (nI i)) (As := [.ref (oa 4)]) (rest := []) X w (c_X6_mark l D b0 L f oa (sp_leave C 21) mr im mk ad n g hm hs ho (hs_tr_l htr) i hi) (va_cwSU 1 hts gX7_mark_X6_mark_s24 rfl rfl rfl (by decide +kernel) ⟨Nat.le_of_ble_eq_true rfl, Nat.le_of_ble_eq_true rfl⟩) (hm.2.1 (2 + i) (by omega)).1 ((mk_atS hm hi).trans (by rw [hk]; first | done | rfl)) rfl rfl hl.1 rfl (Nat.le_of_ble_eq_true rfl) dX7_mark_8 ⟨Nat.zero_le _, Nat.zero_le _⟩ (fun H locs w => ?_)
    refine lv_aload_n hx hb dX7_mark_11 rfl (lv_at hl 0 rfl) ?_
    refine hg_uiF (C := RX7) (r := (hs_weight g i)) (As := []) (rest := [.int ((nI i))]) X w (c_X6_weight l D b0 L (ob_F D f oa (sp_leave (sp_leave C 21) 20) mr im) mk ad n g hm hs i hi) (va_cwU 0 hts gX7_mark_X6_weight_u25X7 rfl rfl rfl rfl (by decide +kernel) ⟨Nat.le_of_ble_eq_true rfl, Nat.le_of_ble_eq_true rfl⟩) (hm.2.1 (2 + i) (by omega)).1 ((mk_atS hm hi).trans (by rw [hk]; first | done | rfl)) rfl rfl rfl hl.1 rfl (Nat.le_of_ble_eq_true rfl) dX7_mark_12 ⟨Nat.zero_le _, Nat.zero_le _⟩ (fun H locs w => ?_)
    refine lv_iadd hx hb dX7_mark_15 ?_
    exact hend H locs (((nI i) + (hs_weight g i))) (L, ob_W D f oa (sp_leave (sp_leave C 21) 20) mr im mk ad n g) _ ls w ⟨rfl, rfl⟩ rfl dX7_mark_16
  · refine lv_aload_n hx hb dX7_mark_0 rfl (lv_at hl 1 rfl) ?_
    refine lv_bipush (v := 21) hx hb dX7_mark_1 (by decide) ?_
    refine hg_vvF (As := [.int (21)]) (rest := []) X w (c_X9_leave l D b0 L f oa C mr im mk ad n g hm hs ho htr 21) (cwV 1 hts gX7_mark_X9_leave rfl rfl rfl hdX9_leave ⟨Nat.le_of_ble_eq_true rfl, Nat.le_of_ble_eq_true rfl⟩) (ho.1 4 (by decide)).1 (ow_at ho (k := 4) (by decide)) rfl rfl rfl hl.1 rfl (Nat.le_of_ble_eq_true rfl) dX7_mark_3 ⟨Nat.zero_le _, Nat.zero_le _⟩ (fun H locs w => ?_)
    refine lv_aload_n hx hb dX7_mark_6 rfl (lv_at hl 0 rfl) ?_
    refine lv_aload_n hx hb dX7_mark_7 rfl (lv_at hl 1 rfl) ?_
    refine hg_xiF (r := (nI i)) (As := [.ref (oa 4)]) (rest := []) X w (c_X6_mark l D b0 L f oa (sp_leave C 21) mr im mk ad n g hm hs ho (hs_tr_l htr) i hi) (va_cwSU 1 hts gX7_mark_X6_mark_s24 rfl rfl rfl (by decide +kernel) ⟨Nat.le_of_ble_eq_true rfl, Nat.le_of_ble_eq_true rfl⟩) (hm.2.1 (2 + i) (by omega)).1 ((mk_atS hm hi).trans (by rw [hk]; first | done | rfl)) rfl rfl hl.1 rfl (Nat.le_of_ble_eq_true rfl) dX7_mark_8 ⟨Nat.zero_le _, Nat.zero_le _⟩ (fun H locs w => ?_)
    refine lv_aload_n hx hb dX7_mark_11 rfl (lv_at hl 0 rfl) ?_
    refine hg_uiF (C := RX2) (r := (hs_weight g i)) (As := []) (rest := [.int ((nI i))]) X w (c_X6_weight l D b0 L (ob_F D f oa (sp_leave (sp_leave C 21) 20) mr im) mk ad n g hm hs i hi) (va_cwU 0 hts gX7_mark_X6_weight_u25X2 rfl rfl rfl rfl (by decide +kernel) ⟨Nat.le_of_ble_eq_true rfl, Nat.le_of_ble_eq_true rfl⟩) (hm.2.1 (2 + i) (by omega)).1 ((mk_atS hm hi).trans (by rw [hk]; first | done | rfl)) rfl rfl rfl hl.1 rfl (Nat.le_of_ble_eq_true rfl) dX7_mark_12 ⟨Nat.zero_le _, Nat.zero_le _⟩ (fun H locs w => ?_)
    refine lv_iadd hx hb dX7_mark_15 ?_
    exact hend H locs (((nI i) + (hs_weight g i))) (L, ob_W D f oa (sp_leave (sp_leave C 21) 20) mr im mk ad n g) _ ls w ⟨rfl, rfl⟩ rfl dX7_mark_16
  · refine lv_aload_n hx hb dX7_mark_0 rfl (lv_at hl 1 rfl) ?_
    refine lv_bipush (v := 21) hx hb dX7_mark_1 (by decide) ?_
    refine hg_vvF (As := [.int (21)]) (rest := []) X w (c_X9_leave l D b0 L f oa C mr im mk ad n g hm hs ho htr 21) (cwV 1 hts gX7_mark_X9_leave rfl rfl rfl hdX9_leave ⟨Nat.le_of_ble_eq_true rfl, Nat.le_of_ble_eq_true rfl⟩) (ho.1 4 (by decide)).1 (ow_at ho (k := 4) (by decide)) rfl rfl rfl hl.1 rfl (Nat.le_of_ble_eq_true rfl) dX7_mark_3 ⟨Nat.zero_le _, Nat.zero_le _⟩ (fun H locs w => ?_)
    refine lv_aload_n hx hb dX7_mark_6 rfl (lv_at hl 0 rfl) ?_
    refine lv_aload_n hx hb dX7_mark_7 rfl (lv_at hl 1 rfl) ?_
    refine hg_xiF (r := (nI i)) (As := [.ref (oa 4)]) (rest := []) X w (c_X6_mark l D b0 L f oa (sp_leave C 21) mr im mk ad n g hm hs ho (hs_tr_l htr) i hi) (va_cwSU 1 hts gX7_mark_X6_mark_s24 rfl rfl rfl (by decide +kernel) ⟨Nat.le_of_ble_eq_true rfl, Nat.le_of_ble_eq_true rfl⟩) (hm.2.1 (2 + i) (by omega)).1 ((mk_atS hm hi).trans (by rw [hk]; first | done | rfl)) rfl rfl hl.1 rfl (Nat.le_of_ble_eq_true rfl) dX7_mark_8 ⟨Nat.zero_le _, Nat.zero_le _⟩ (fun H locs w => ?_)
    refine lv_aload_n hx hb dX7_mark_11 rfl (lv_at hl 0 rfl) ?_
    refine hg_uiF (C := RX0) (r := (hs_weight g i)) (As := []) (rest := [.int ((nI i))]) X w (c_X6_weight l D b0 L (ob_F D f oa (sp_leave (sp_leave C 21) 20) mr im) mk ad n g hm hs i hi) (va_cwU 0 hts gX7_mark_X6_weight_u25X0 rfl rfl rfl rfl (by decide +kernel) ⟨Nat.le_of_ble_eq_true rfl, Nat.le_of_ble_eq_true rfl⟩) (hm.2.1 (2 + i) (by omega)).1 ((mk_atS hm hi).trans (by rw [hk]; first | done | rfl)) rfl rfl rfl hl.1 rfl (Nat.le_of_ble_eq_true rfl) dX7_mark_12 ⟨Nat.zero_le _, Nat.zero_le _⟩ (fun H locs w => ?_)
    refine lv_iadd hx hb dX7_mark_15 ?_
    exact hend H locs (((nI i) + (hs_weight g i))) (L, ob_W D f oa (sp_leave (sp_leave C 21) 20) mr im mk ad n g) _ ls w ⟨rfl, rfl⟩ rfl dX7_mark_16
set_option maxRecDepth 100000 in
set_option maxHeartbeats 4000000 in
theorem c_X0_mark (l : Launch) (D : va_G) (b0 : Nat) (L : List Nat) (f : Nat → va_E) (oa : Nat → Nat) (C : Nat → Nat → Int32) (mr : Nat) (im : Nat → Option Nat) (mk : Nat) (ad : Nat → Nat) (n : Nat) (g : Nat → Int32) (hm : mk_ok L mk ad n) (hs : mk_sr g n) (ho : ob_ok L oa mk ad n) (htr : hs_tr C) (i : Nat) (hi : i < n) (hk0 : g (8 + i) = 3) : hg_Fi l yX0_mark wsX0_mark ({ frames := 3, cells := 0, slots := 0, locals := 63 }) D b0 L (ob_W D f oa C mr im mk ad n g) [.ref (ad (2 + i)), .ref (oa 4)] (nI i + hs_weight g i - 1000) (ob_W D f oa (sp_leave (sp_leave (sp_leave C 22) 21) 20) mr im mk ad n g) := by
  refine hg_in_i (cc := cX0_mark) (nL := 2) (by decide) rfl (Nat.le_of_ble_eq_true rfl) (fun p e s m args below meth c R Q X hR hend H locs ls w hl => ?_)
  subst hR
  obtain ⟨hx, hb, hml, hown, hts⟩ := id X.1
  have hin : mk_in wsX0_mark := ⟨fun w h => List.mem_cons_of_mem _ (List.mem_append_left _ (List.mem_append_left _ (List.mem_append_left _ (List.mem_append_left _ (List.mem_append_right _ h))))), fun w h => List.mem_cons_of_mem _ (List.mem_append_left _ (List.mem_append_left _ (List.mem_append_left _ (List.mem_append_right _ h)))), fun w h => List.mem_cons_of_mem _ (List.mem_append_left _ (List.mem_append_left _ (List.mem_append_right _ h))), fun w h => List.mem_cons_of_mem _ (List.mem_append_left _ (List.mem_append_right _ h)), fun w h => List.mem_cons_of_mem _ (List.mem_append_right _ h)⟩
  have hin9 : ∀ w ∈ wsX90, w ∈ wsX0_mark := fun w h => List.mem_cons_of_mem _ (List.mem_append_left _ (List.mem_append_left _ (List.mem_append_left _ (List.mem_append_left _ (List.mem_append_left _ (List.mem_append_right _ h))))))
  have hl : lv_has ls 2 [(0, .ref (ad (2 + i))), (1, .ref (oa 4))] := hl
  have hk := hk0
  refine lv_aload_n hx hb dX0_mark_0 rfl (lv_at hl 1 rfl) ?_
  refine lv_bipush (v := 22) hx hb dX0_mark_1 (by decide) ?_
  refine hg_vvF (As := [.int (22)]) (rest := []) X w (c_X9_leave l D b0 L f oa C mr im mk ad n g hm hs ho htr 22) (cwV 1 hts gX0_mark_X9_leave rfl rfl rfl hdX9_leave ⟨Nat.le_of_ble_eq_true rfl, Nat.le_of_ble_eq_true rfl⟩) (ho.1 4 (by decide)).1 (ow_at ho (k := 4) (by decide)) rfl rfl rfl hl.1 rfl (Nat.le_of_ble_eq_true rfl) dX0_mark_3 ⟨Nat.zero_le _, Nat.zero_le _⟩ (fun H locs w => ?_)
  refine lv_aload_n hx hb dX0_mark_6 rfl (lv_at hl 0 rfl) ?_
  refine lv_aload_n hx hb dX0_mark_7 rfl (lv_at hl 1 rfl) ?_
  refine hg_xiF (r := (nI i + hs_weight g i)) (As := [.ref (oa 4)]) (rest := []) X w (c_X7_mark l D b0 L f oa (sp_leave C 22) mr im mk ad n g hm hs ho (hs_tr_l htr) i hi (Or.inr (Or.inr hk))) (va_cwSU 1 hts gX0_mark_X7_mark_s21 rfl rfl rfl (by decide +kernel) ⟨Nat.le_of_ble_eq_true rfl, Nat.le_of_ble_eq_true rfl⟩) (hm.2.1 (2 + i) (by omega)).1 ((mk_atS hm hi).trans (by rw [hk]; first | done | rfl)) rfl rfl hl.1 rfl (Nat.le_of_ble_eq_true rfl) dX0_mark_8 ⟨Nat.zero_le _, Nat.zero_le _⟩ (fun H locs w => ?_)
  refine lv_sipush (v := 1000) hx hb dX0_mark_11 (by decide) ?_
  refine lv_isub hx hb dX0_mark_14 ?_
  exact hend H locs (((nI i + hs_weight g i) - 1000)) (L, ob_W D f oa (sp_leave (sp_leave (sp_leave C 22) 21) 20) mr im mk ad n g) _ ls w ⟨rfl, rfl⟩ rfl dX0_mark_15
set_option maxRecDepth 100000 in
set_option maxHeartbeats 4000000 in
theorem c_X2_mark (l : Launch) (D : va_G) (b0 : Nat) (L : List Nat) (f : Nat → va_E) (oa : Nat → Nat) (C : Nat → Nat → Int32) (mr : Nat) (im : Nat → Option Nat) (mk : Nat) (ad : Nat → Nat) (n : Nat) (g : Nat → Int32) (hm : mk_ok L mk ad n) (hs : mk_sr g n) (ho : ob_ok L oa mk ad n) (htr : hs_tr C) (i : Nat) (hi : i < n) (hk0 : g (8 + i) = 2) : hg_Fi l yX2_mark wsX2_mark ({ frames := 3, cells := 0, slots := 0, locals := 63 }) D b0 L (ob_W D f oa C mr im mk ad n g) [.ref (ad (2 + i)), .ref (oa 4)] (2 * (nI i + hs_weight g i)) (ob_W D f oa (sp_leave (sp_leave (sp_leave C 24) 21) 20) mr im mk ad n g) := by
  refine hg_in_i (cc := cX2_mark) (nL := 2) (by decide) rfl (Nat.le_of_ble_eq_true rfl) (fun p e s m args below meth c R Q X hR hend H locs ls w hl => ?_)
  subst hR
  obtain ⟨hx, hb, hml, hown, hts⟩ := id X.1
  have hin : mk_in wsX2_mark := ⟨fun w h => List.mem_cons_of_mem _ (List.mem_append_left _ (List.mem_append_left _ (List.mem_append_left _ (List.mem_append_left _ (List.mem_append_right _ h))))), fun w h => List.mem_cons_of_mem _ (List.mem_append_left _ (List.mem_append_left _ (List.mem_append_left _ (List.mem_append_right _ h)))), fun w h => List.mem_cons_of_mem _ (List.mem_append_left _ (List.mem_append_left _ (List.mem_append_right _ h))), fun w h => List.mem_cons_of_mem _ (List.mem_append_left _ (List.mem_append_right _ h)), fun w h => List.mem_cons_of_mem _ (List.mem_append_right _ h)⟩
  have hin9 : ∀ w ∈ wsX90, w ∈ wsX2_mark := fun w h => List.mem_cons_of_mem _ (List.mem_append_left _ (List.mem_append_left _ (List.mem_append_left _ (List.mem_append_left _ (List.mem_append_left _ (List.mem_append_right _ h))))))
  have hl : lv_has ls 2 [(0, .ref (ad (2 + i))), (1, .ref (oa 4))] := hl
  have hk := hk0
  refine lv_aload_n hx hb dX2_mark_0 rfl (lv_at hl 1 rfl) ?_
  refine lv_bipush (v := 24) hx hb dX2_mark_1 (by decide) ?_
  refine hg_vvF (As := [.int (24)]) (rest := []) X w (c_X9_leave l D b0 L f oa C mr im mk ad n g hm hs ho htr 24) (cwV 1 hts gX2_mark_X9_leave rfl rfl rfl hdX9_leave ⟨Nat.le_of_ble_eq_true rfl, Nat.le_of_ble_eq_true rfl⟩) (ho.1 4 (by decide)).1 (ow_at ho (k := 4) (by decide)) rfl rfl rfl hl.1 rfl (Nat.le_of_ble_eq_true rfl) dX2_mark_3 ⟨Nat.zero_le _, Nat.zero_le _⟩ (fun H locs w => ?_)
  refine lv_iconst (v := 2) hx hb dX2_mark_6 (by decide) ?_
  refine lv_aload_n hx hb dX2_mark_7 rfl (lv_at hl 0 rfl) ?_
  refine lv_aload_n hx hb dX2_mark_8 rfl (lv_at hl 1 rfl) ?_
  refine hg_xiF (r := (nI i + hs_weight g i)) (As := [.ref (oa 4)]) (rest := [.int (2)]) X w (c_X7_mark l D b0 L f oa (sp_leave C 24) mr im mk ad n g hm hs ho (hs_tr_l htr) i hi (Or.inr (Or.inl hk))) (va_cwSU 1 hts gX2_mark_X7_mark_s25 rfl rfl rfl (by decide +kernel) ⟨Nat.le_of_ble_eq_true rfl, Nat.le_of_ble_eq_true rfl⟩) (hm.2.1 (2 + i) (by omega)).1 ((mk_atS hm hi).trans (by rw [hk]; first | done | rfl)) rfl rfl hl.1 rfl (Nat.le_of_ble_eq_true rfl) dX2_mark_9 ⟨Nat.zero_le _, Nat.zero_le _⟩ (fun H locs w => ?_)
  refine lv_imul hx hb dX2_mark_12 ?_
  exact hend H locs ((2 * (nI i + hs_weight g i))) (L, ob_W D f oa (sp_leave (sp_leave (sp_leave C 24) 21) 20) mr im mk ad n g) _ ls w ⟨rfl, rfl⟩ rfl dX2_mark_13
theorem hdX7_mark : yX7_mark.cls = RX7 ∧ yX7_mark.cls ≠ "java/lang/invoke/MethodHandle" ∧ yX7_mark.cls ≠ "java/lang/invoke/VarHandle" ∧ (parseMethodDescriptor yX7_mark.desc).map (fun d => d.parameters.length) = some 1 := by decide +kernel
set_option maxRecDepth 100000 in
set_option maxHeartbeats 4000000 in
theorem c_X7_size (l : Launch) (D : va_G) (b0 : Nat) (L : List Nat) (f : Nat → va_E) (oa : Nat → Nat) (C : Nat → Nat → Int32) (mr : Nat) (im : Nat → Option Nat) (mk : Nat) (ad : Nat → Nat) (n : Nat) (g : Nat → Int32) (hm : mk_ok L mk ad n) (hs : mk_sr g n) (ho : ob_ok L oa mk ad n) (htr : hs_tr C) (i : Nat) (hi : i < n) (hk0 : g (8 + i) = 1 ∨ g (8 + i) = 2 ∨ g (8 + i) = 3) : hg_Fi l yX7_size wsX7_size ({ frames := 4, cells := 0, slots := 0, locals := 84 }) D b0 L (ob_W D f oa C mr im mk ad n g) [.ref (ad (2 + i)), .ref (oa 4)] (g (26 + i) + ms_mr g i) (ob_W D f oa (ms_mc (sp_leave (sp_leave C 11) 10) (g (8 + i))) mr im mk ad n g) := by
  refine hg_in_i (cc := cX7_size) (nL := 3) (by decide) rfl (Nat.le_of_ble_eq_true rfl) (fun p e s m args below meth c R Q X hR hend H locs ls w hl => ?_)
  subst hR
  obtain ⟨hx, hb, hml, hown, hts⟩ := id X.1
  have hin : mk_in wsX7_size := ⟨fun w h => List.mem_cons_of_mem _ (List.mem_append_left _ (List.mem_append_left _ (List.mem_append_left _ (List.mem_append_left _ (List.mem_append_right _ h))))), fun w h => List.mem_cons_of_mem _ (List.mem_append_left _ (List.mem_append_left _ (List.mem_append_left _ (List.mem_append_right _ h)))), fun w h => List.mem_cons_of_mem _ (List.mem_append_left _ (List.mem_append_left _ (List.mem_append_right _ h))), fun w h => List.mem_cons_of_mem _ (List.mem_append_left _ (List.mem_append_right _ h)), fun w h => List.mem_cons_of_mem _ (List.mem_append_right _ h)⟩
  have hin9 : ∀ w ∈ wsX90, w ∈ wsX7_size := fun w h => List.mem_cons_of_mem _ (List.mem_append_left _ (List.mem_append_left _ (List.mem_append_left _ (List.mem_append_left _ (List.mem_append_left _ (List.mem_append_right _ h))))))
  have hl : lv_has ls 3 [(0, .ref (ad (2 + i))), (1, .ref (oa 4))] := hl
  rcases hk0 with hk | hk | hk
  · refine lv_aload_n hx hb dX7_size_0 rfl (lv_at hl 1 rfl) ?_
    refine lv_bipush (v := 11) hx hb dX7_size_1 (by decide) ?_
    refine hg_vvF (As := [.int (11)]) (rest := []) X w (c_X9_leave l D b0 L f oa C mr im mk ad n g hm hs ho htr 11) (cwV 1 hts gX7_size_X9_leave rfl rfl rfl hdX9_leave ⟨Nat.le_of_ble_eq_true rfl, Nat.le_of_ble_eq_true rfl⟩) (ho.1 4 (by decide)).1 (ow_at ho (k := 4) (by decide)) rfl rfl rfl hl.1 rfl (Nat.le_of_ble_eq_true rfl) dX7_size_3 ⟨Nat.zero_le _, Nat.zero_le _⟩ (fun H locs w => ?_)
    refine lv_aload_n hx hb dX7_size_6 rfl (lv_at hl 0 rfl) ?_
    refine lv_aload_n hx hb dX7_size_7 rfl (lv_at hl 1 rfl) ?_
    refine hg_xiF (r := (g (26 + i))) (As := [.ref (oa 4)]) (rest := []) X w (c_X6_size l D b0 L f oa (sp_leave C 11) mr im mk ad n g hm hs ho (hs_tr_l htr) i hi) (va_cwSU 1 hts gX7_size_X6_size_s15 rfl rfl rfl (by decide +kernel) ⟨Nat.le_of_ble_eq_true rfl, Nat.le_of_ble_eq_true rfl⟩) (hm.2.1 (2 + i) (by omega)).1 ((mk_atS hm hi).trans (by rw [hk]; first | done | rfl)) rfl rfl hl.1 rfl (Nat.le_of_ble_eq_true rfl) dX7_size_8 ⟨Nat.zero_le _, Nat.zero_le _⟩ (fun H locs w => ?_)
    refine lv_istore_n (lv' := [(2, .int ((g (26 + i)))), (0, .ref (ad (2 + i))), (1, .ref (oa 4))]) hx hb dX7_size_11 rfl hl (by decide) rfl (fun ls hl => ?_)
    refine lv_iload_n hx hb dX7_size_12 rfl (lv_at hl 0 rfl) ?_
    refine lv_aload_n hx hb dX7_size_13 rfl (lv_at hl 1 rfl) ?_
    refine lv_aload_n hx hb dX7_size_14 rfl (lv_at hl 2 rfl) ?_
    refine hg_viF (r := (nI i + hs_weight g i)) (As := [.ref (oa 4)]) (rest := [.int ((g (26 + i)))]) X w (c_X7_mark l D b0 L f oa (sp_leave (sp_leave C 11) 10) mr im mk ad n g hm hs ho (hs_tr_l (hs_tr_l htr)) i hi (Or.inl hk)) (cwV 1 hts gX7_size_X7_mark rfl rfl rfl hdX7_mark ⟨Nat.le_of_ble_eq_true rfl, Nat.le_of_ble_eq_true rfl⟩) (hm.2.1 (2 + i) (by omega)).1 ((mk_atS hm hi).trans (by rw [hk]; first | done | rfl)) rfl rfl rfl hl.1 rfl (Nat.le_of_ble_eq_true rfl) dX7_size_15 ⟨Nat.zero_le _, Nat.zero_le _⟩ (fun H locs w => ?_)
    refine lv_iadd hx hb dX7_size_18 ?_
    exact hend H locs (((g (26 + i)) + (nI i + hs_weight g i))) (L, ob_W D f oa (sp_leave (sp_leave (sp_leave (sp_leave C 11) 10) 21) 20) mr im mk ad n g) _ ls w ⟨(by simp [ms_mr, hk]), (ob_eq (by simp [ms_mc, hk]) rfl)⟩ rfl dX7_size_19
  · refine lv_aload_n hx hb dX7_size_0 rfl (lv_at hl 1 rfl) ?_
    refine lv_bipush (v := 11) hx hb dX7_size_1 (by decide) ?_
    refine hg_vvF (As := [.int (11)]) (rest := []) X w (c_X9_leave l D b0 L f oa C mr im mk ad n g hm hs ho htr 11) (cwV 1 hts gX7_size_X9_leave rfl rfl rfl hdX9_leave ⟨Nat.le_of_ble_eq_true rfl, Nat.le_of_ble_eq_true rfl⟩) (ho.1 4 (by decide)).1 (ow_at ho (k := 4) (by decide)) rfl rfl rfl hl.1 rfl (Nat.le_of_ble_eq_true rfl) dX7_size_3 ⟨Nat.zero_le _, Nat.zero_le _⟩ (fun H locs w => ?_)
    refine lv_aload_n hx hb dX7_size_6 rfl (lv_at hl 0 rfl) ?_
    refine lv_aload_n hx hb dX7_size_7 rfl (lv_at hl 1 rfl) ?_
    refine hg_xiF (r := (g (26 + i))) (As := [.ref (oa 4)]) (rest := []) X w (c_X6_size l D b0 L f oa (sp_leave C 11) mr im mk ad n g hm hs ho (hs_tr_l htr) i hi) (va_cwSU 1 hts gX7_size_X6_size_s15 rfl rfl rfl (by decide +kernel) ⟨Nat.le_of_ble_eq_true rfl, Nat.le_of_ble_eq_true rfl⟩) (hm.2.1 (2 + i) (by omega)).1 ((mk_atS hm hi).trans (by rw [hk]; first | done | rfl)) rfl rfl hl.1 rfl (Nat.le_of_ble_eq_true rfl) dX7_size_8 ⟨Nat.zero_le _, Nat.zero_le _⟩ (fun H locs w => ?_)
    refine lv_istore_n (lv' := [(2, .int ((g (26 + i)))), (0, .ref (ad (2 + i))), (1, .ref (oa 4))]) hx hb dX7_size_11 rfl hl (by decide) rfl (fun ls hl => ?_)
    refine lv_iload_n hx hb dX7_size_12 rfl (lv_at hl 0 rfl) ?_
    refine lv_aload_n hx hb dX7_size_13 rfl (lv_at hl 1 rfl) ?_
    refine lv_aload_n hx hb dX7_size_14 rfl (lv_at hl 2 rfl) ?_
    refine hg_uiF (C := RX2) (r := (2 * (nI i + hs_weight g i))) (As := [.ref (oa 4)]) (rest := [.int ((g (26 + i)))]) X w (c_X2_mark l D b0 L f oa (sp_leave (sp_leave C 11) 10) mr im mk ad n g hm hs ho (hs_tr_l (hs_tr_l htr)) i hi hk) (va_cwO 1 hts gX7_size_X2_mark_u19X2 rfl rfl rfl (List.mem_of_getElem? (i := 28) rfl) (by decide +kernel) ⟨Nat.le_of_ble_eq_true rfl, Nat.le_of_ble_eq_true rfl⟩) (hm.2.1 (2 + i) (by omega)).1 ((mk_atS hm hi).trans (by rw [hk]; first | done | rfl)) rfl rfl rfl hl.1 rfl (Nat.le_of_ble_eq_true rfl) dX7_size_15 ⟨Nat.zero_le _, Nat.zero_le _⟩ (fun H locs w => ?_)
    refine lv_iadd hx hb dX7_size_18 ?_
    exact hend H locs (((g (26 + i)) + (2 * (nI i + hs_weight g i)))) (L, ob_W D f oa (sp_leave (sp_leave (sp_leave (sp_leave (sp_leave C 11) 10) 24) 21) 20) mr im mk ad n g) _ ls w ⟨(by simp [ms_mr, hk]), (ob_eq (by simp [ms_mc, hk]) rfl)⟩ rfl dX7_size_19
  · refine lv_aload_n hx hb dX7_size_0 rfl (lv_at hl 1 rfl) ?_
    refine lv_bipush (v := 11) hx hb dX7_size_1 (by decide) ?_
    refine hg_vvF (As := [.int (11)]) (rest := []) X w (c_X9_leave l D b0 L f oa C mr im mk ad n g hm hs ho htr 11) (cwV 1 hts gX7_size_X9_leave rfl rfl rfl hdX9_leave ⟨Nat.le_of_ble_eq_true rfl, Nat.le_of_ble_eq_true rfl⟩) (ho.1 4 (by decide)).1 (ow_at ho (k := 4) (by decide)) rfl rfl rfl hl.1 rfl (Nat.le_of_ble_eq_true rfl) dX7_size_3 ⟨Nat.zero_le _, Nat.zero_le _⟩ (fun H locs w => ?_)
    refine lv_aload_n hx hb dX7_size_6 rfl (lv_at hl 0 rfl) ?_
    refine lv_aload_n hx hb dX7_size_7 rfl (lv_at hl 1 rfl) ?_
    refine hg_xiF (r := (g (26 + i))) (As := [.ref (oa 4)]) (rest := []) X w (c_X6_size l D b0 L f oa (sp_leave C 11) mr im mk ad n g hm hs ho (hs_tr_l htr) i hi) (va_cwSU 1 hts gX7_size_X6_size_s15 rfl rfl rfl (by decide +kernel) ⟨Nat.le_of_ble_eq_true rfl, Nat.le_of_ble_eq_true rfl⟩) (hm.2.1 (2 + i) (by omega)).1 ((mk_atS hm hi).trans (by rw [hk]; first | done | rfl)) rfl rfl hl.1 rfl (Nat.le_of_ble_eq_true rfl) dX7_size_8 ⟨Nat.zero_le _, Nat.zero_le _⟩ (fun H locs w => ?_)
    refine lv_istore_n (lv' := [(2, .int ((g (26 + i)))), (0, .ref (ad (2 + i))), (1, .ref (oa 4))]) hx hb dX7_size_11 rfl hl (by decide) rfl (fun ls hl => ?_)
    refine lv_iload_n hx hb dX7_size_12 rfl (lv_at hl 0 rfl) ?_
    refine lv_aload_n hx hb dX7_size_13 rfl (lv_at hl 1 rfl) ?_
    refine lv_aload_n hx hb dX7_size_14 rfl (lv_at hl 2 rfl) ?_
    refine hg_uiF (C := RX0) (r := (nI i + hs_weight g i - 1000)) (As := [.ref (oa 4)]) (rest := [.int ((g (26 + i)))]) X w (c_X0_mark l D b0 L f oa (sp_leave (sp_leave C 11) 10) mr im mk ad n g hm hs ho (hs_tr_l (hs_tr_l htr)) i hi hk) (va_cwO 1 hts gX7_size_X0_mark_u19X0 rfl rfl rfl (List.mem_of_getElem? (i := 28) rfl) (by decide +kernel) ⟨Nat.le_of_ble_eq_true rfl, Nat.le_of_ble_eq_true rfl⟩) (hm.2.1 (2 + i) (by omega)).1 ((mk_atS hm hi).trans (by rw [hk]; first | done | rfl)) rfl rfl rfl hl.1 rfl (Nat.le_of_ble_eq_true rfl) dX7_size_15 ⟨Nat.zero_le _, Nat.zero_le _⟩ (fun H locs w => ?_)
    refine lv_iadd hx hb dX7_size_18 ?_
    exact hend H locs (((g (26 + i)) + (nI i + hs_weight g i - 1000))) (L, ob_W D f oa (sp_leave (sp_leave (sp_leave (sp_leave (sp_leave C 11) 10) 22) 21) 20) mr im mk ad n g) _ ls w ⟨(by simp [ms_mr, hk]), (ob_eq (by simp [ms_mc, hk]) rfl)⟩ rfl dX7_size_19
set_option maxRecDepth 100000 in
set_option maxHeartbeats 4000000 in
theorem c_X2_size (l : Launch) (D : va_G) (b0 : Nat) (L : List Nat) (f : Nat → va_E) (oa : Nat → Nat) (C : Nat → Nat → Int32) (mr : Nat) (im : Nat → Option Nat) (mk : Nat) (ad : Nat → Nat) (n : Nat) (g : Nat → Int32) (hm : mk_ok L mk ad n) (hs : mk_sr g n) (ho : ob_ok L oa mk ad n) (htr : hs_tr C) (i : Nat) (hi : i < n) (hk0 : g (8 + i) = 2) : hg_Fi l yX2_size wsX2_size ({ frames := 5, cells := 0, slots := 0, locals := 106 }) D b0 L (ob_W D f oa C mr im mk ad n g) [.ref (ad (2 + i)), .ref (oa 4)] (-(g (26 + i) + ms_mr g i)) (ob_W D f oa (ms_mc (sp_leave (sp_leave (sp_leave C 12) 11) 10) (g (8 + i))) mr im mk ad n g) := by
  refine hg_in_i (cc := cX2_size) (nL := 2) (by decide) rfl (Nat.le_of_ble_eq_true rfl) (fun p e s m args below meth c R Q X hR hend H locs ls w hl => ?_)
  subst hR
  obtain ⟨hx, hb, hml, hown, hts⟩ := id X.1
  have hin : mk_in wsX2_size := ⟨fun w h => List.mem_cons_of_mem _ (List.mem_append_left _ (List.mem_append_left _ (List.mem_append_left _ (List.mem_append_left _ (List.mem_append_right _ h))))), fun w h => List.mem_cons_of_mem _ (List.mem_append_left _ (List.mem_append_left _ (List.mem_append_left _ (List.mem_append_right _ h)))), fun w h => List.mem_cons_of_mem _ (List.mem_append_left _ (List.mem_append_left _ (List.mem_append_right _ h))), fun w h => List.mem_cons_of_mem _ (List.mem_append_left _ (List.mem_append_right _ h)), fun w h => List.mem_cons_of_mem _ (List.mem_append_right _ h)⟩
  have hin9 : ∀ w ∈ wsX90, w ∈ wsX2_size := fun w h => List.mem_cons_of_mem _ (List.mem_append_left _ (List.mem_append_left _ (List.mem_append_left _ (List.mem_append_left _ (List.mem_append_left _ (List.mem_append_right _ h))))))
  have hl : lv_has ls 2 [(0, .ref (ad (2 + i))), (1, .ref (oa 4))] := hl
  have hk := hk0
  refine lv_aload_n hx hb dX2_size_0 rfl (lv_at hl 1 rfl) ?_
  refine lv_bipush (v := 12) hx hb dX2_size_1 (by decide) ?_
  refine hg_vvF (As := [.int (12)]) (rest := []) X w (c_X9_leave l D b0 L f oa C mr im mk ad n g hm hs ho htr 12) (cwV 1 hts gX2_size_X9_leave rfl rfl rfl hdX9_leave ⟨Nat.le_of_ble_eq_true rfl, Nat.le_of_ble_eq_true rfl⟩) (ho.1 4 (by decide)).1 (ow_at ho (k := 4) (by decide)) rfl rfl rfl hl.1 rfl (Nat.le_of_ble_eq_true rfl) dX2_size_3 ⟨Nat.zero_le _, Nat.zero_le _⟩ (fun H locs w => ?_)
  refine lv_aload_n hx hb dX2_size_6 rfl (lv_at hl 0 rfl) ?_
  refine lv_aload_n hx hb dX2_size_7 rfl (lv_at hl 1 rfl) ?_
  refine hg_xiF (r := (g (26 + i) + ms_mr g i)) (As := [.ref (oa 4)]) (rest := []) X w (c_X7_size l D b0 L f oa (sp_leave C 12) mr im mk ad n g hm hs ho (hs_tr_l htr) i hi (Or.inr (Or.inl hk))) (va_cwSU 1 hts gX2_size_X7_size_s21 rfl rfl rfl (by decide +kernel) ⟨Nat.le_of_ble_eq_true rfl, Nat.le_of_ble_eq_true rfl⟩) (hm.2.1 (2 + i) (by omega)).1 ((mk_atS hm hi).trans (by rw [hk]; first | done | rfl)) rfl rfl hl.1 rfl (Nat.le_of_ble_eq_true rfl) dX2_size_8 ⟨Nat.zero_le _, Nat.zero_le _⟩ (fun H locs w => ?_)
  refine lv_ineg hx hb dX2_size_11 ?_
  exact hend H locs ((-(g (26 + i) + ms_mr g i))) (L, ob_W D f oa (ms_mc (sp_leave (sp_leave (sp_leave C 12) 11) 10) (g (8 + i))) mr im mk ad n g) _ ls w ⟨rfl, rfl⟩ rfl dX2_size_12
set_option maxRecDepth 100000 in
set_option maxHeartbeats 4000000 in
theorem c_X4_size (l : Launch) (D : va_G) (b0 : Nat) (L : List Nat) (f : Nat → va_E) (oa : Nat → Nat) (C : Nat → Nat → Int32) (mr : Nat) (im : Nat → Option Nat) (mk : Nat) (ad : Nat → Nat) (n : Nat) (g : Nat → Int32) (hm : mk_ok L mk ad n) (hs : mk_sr g n) (ho : ob_ok L oa mk ad n) (htr : hs_tr C) (i : Nat) (hi : i < n) (hk0 : g (8 + i) = 4 ∨ g (8 + i) = 5) : hg_Fi l yX4_size wsX4_size ({ frames := 2, cells := 0, slots := 0, locals := 42 }) D b0 L (ob_W D f oa C mr im mk ad n g) [.ref (ad (2 + i)), .ref (oa 4)] (g (26 + i) - 100) (ob_W D f oa (sp_leave (sp_leave C 13) 10) mr im mk ad n g) := by
  refine hg_in_i (cc := cX4_size) (nL := 2) (by decide) rfl (Nat.le_of_ble_eq_true rfl) (fun p e s m args below meth c R Q X hR hend H locs ls w hl => ?_)
  subst hR
  obtain ⟨hx, hb, hml, hown, hts⟩ := id X.1
  have hin : mk_in wsX4_size := ⟨fun w h => List.mem_cons_of_mem _ (List.mem_append_left _ (List.mem_append_left _ (List.mem_append_left _ (List.mem_append_left _ (List.mem_append_right _ h))))), fun w h => List.mem_cons_of_mem _ (List.mem_append_left _ (List.mem_append_left _ (List.mem_append_left _ (List.mem_append_right _ h)))), fun w h => List.mem_cons_of_mem _ (List.mem_append_left _ (List.mem_append_left _ (List.mem_append_right _ h))), fun w h => List.mem_cons_of_mem _ (List.mem_append_left _ (List.mem_append_right _ h)), fun w h => List.mem_cons_of_mem _ (List.mem_append_right _ h)⟩
  have hin9 : ∀ w ∈ wsX90, w ∈ wsX4_size := fun w h => List.mem_cons_of_mem _ (List.mem_append_left _ (List.mem_append_left _ (List.mem_append_left _ (List.mem_append_left _ (List.mem_append_left _ (List.mem_append_right _ h))))))
  have hl : lv_has ls 2 [(0, .ref (ad (2 + i))), (1, .ref (oa 4))] := hl
  rcases hk0 with hk | hk
  · refine lv_aload_n hx hb dX4_size_0 rfl (lv_at hl 1 rfl) ?_
    refine lv_bipush (v := 13) hx hb dX4_size_1 (by decide) ?_
    refine hg_vvF (As := [.int (13)]) (rest := []) X w (c_X9_leave l D b0 L f oa C mr im mk ad n g hm hs ho htr 13) (cwV 1 hts gX4_size_X9_leave rfl rfl rfl hdX9_leave ⟨Nat.le_of_ble_eq_true rfl, Nat.le_of_ble_eq_true rfl⟩) (ho.1 4 (by decide)).1 (ow_at ho (k := 4) (by decide)) rfl rfl rfl hl.1 rfl (Nat.le_of_ble_eq_true rfl) dX4_size_3 ⟨Nat.zero_le _, Nat.zero_le _⟩ (fun H locs w => ?_)
    refine lv_aload_n hx hb dX4_size_6 rfl (lv_at hl 0 rfl) ?_
    refine lv_aload_n hx hb dX4_size_7 rfl (lv_at hl 1 rfl) ?_
    refine hg_xiF (r := (g (26 + i))) (As := [.ref (oa 4)]) (rest := []) X w (c_X6_size l D b0 L f oa (sp_leave C 13) mr im mk ad n g hm hs ho (hs_tr_l htr) i hi) (va_cwSU 1 hts gX4_size_X6_size_s15 rfl rfl rfl (by decide +kernel) ⟨Nat.le_of_ble_eq_true rfl, Nat.le_of_ble_eq_true rfl⟩) (hm.2.1 (2 + i) (by omega)).1 ((mk_atS hm hi).trans (by rw [hk]; first | done | rfl)) rfl rfl hl.1 rfl (Nat.le_of_ble_eq_true rfl) dX4_size_8 ⟨Nat.zero_le _, Nat.zero_le _⟩ (fun H locs w => ?_)
    refine lv_bipush (v := 100) hx hb dX4_size_11 (by decide) ?_
    refine lv_isub hx hb dX4_size_13 ?_
    exact hend H locs (((g (26 + i)) - 100)) (L, ob_W D f oa (sp_leave (sp_leave C 13) 10) mr im mk ad n g) _ ls w ⟨rfl, rfl⟩ rfl dX4_size_14
  · refine lv_aload_n hx hb dX4_size_0 rfl (lv_at hl 1 rfl) ?_
    refine lv_bipush (v := 13) hx hb dX4_size_1 (by decide) ?_
    refine hg_vvF (As := [.int (13)]) (rest := []) X w (c_X9_leave l D b0 L f oa C mr im mk ad n g hm hs ho htr 13) (cwV 1 hts gX4_size_X9_leave rfl rfl rfl hdX9_leave ⟨Nat.le_of_ble_eq_true rfl, Nat.le_of_ble_eq_true rfl⟩) (ho.1 4 (by decide)).1 (ow_at ho (k := 4) (by decide)) rfl rfl rfl hl.1 rfl (Nat.le_of_ble_eq_true rfl) dX4_size_3 ⟨Nat.zero_le _, Nat.zero_le _⟩ (fun H locs w => ?_)
    refine lv_aload_n hx hb dX4_size_6 rfl (lv_at hl 0 rfl) ?_
    refine lv_aload_n hx hb dX4_size_7 rfl (lv_at hl 1 rfl) ?_
    refine hg_xiF (r := (g (26 + i))) (As := [.ref (oa 4)]) (rest := []) X w (c_X6_size l D b0 L f oa (sp_leave C 13) mr im mk ad n g hm hs ho (hs_tr_l htr) i hi) (va_cwSU 1 hts gX4_size_X6_size_s15 rfl rfl rfl (by decide +kernel) ⟨Nat.le_of_ble_eq_true rfl, Nat.le_of_ble_eq_true rfl⟩) (hm.2.1 (2 + i) (by omega)).1 ((mk_atS hm hi).trans (by rw [hk]; first | done | rfl)) rfl rfl hl.1 rfl (Nat.le_of_ble_eq_true rfl) dX4_size_8 ⟨Nat.zero_le _, Nat.zero_le _⟩ (fun H locs w => ?_)
    refine lv_bipush (v := 100) hx hb dX4_size_11 (by decide) ?_
    refine lv_isub hx hb dX4_size_13 ?_
    exact hend H locs (((g (26 + i)) - 100)) (L, ob_W D f oa (sp_leave (sp_leave C 13) 10) mr im mk ad n g) _ ls w ⟨rfl, rfl⟩ rfl dX4_size_14
set_option maxRecDepth 100000 in
set_option maxHeartbeats 4000000 in
theorem c_X10_size (l : Launch) (D : va_G) (b0 : Nat) (L : List Nat) (f : Nat → va_E) (oa : Nat → Nat) (C : Nat → Nat → Int32) (mr : Nat) (im : Nat → Option Nat) (mk : Nat) (ad : Nat → Nat) (n : Nat) (g : Nat → Int32) (hm : mk_ok L mk ad n) (hs : mk_sr g n) (ho : ob_ok L oa mk ad n) (htr : hs_tr C) (i : Nat) (hi : i < n) (hk0 : g (8 + i) = 5) : hg_Fi l yX10_size wsX10_size ({ frames := 3, cells := 0, slots := 0, locals := 63 }) D b0 L (ob_W D f oa C mr im mk ad n g) [.ref (ad (2 + i)), .ref (oa 4)] (2 * (g (26 + i) - 100)) (ob_W D f oa (sp_leave (sp_leave (sp_leave C 14) 13) 10) mr im mk ad n g) := by
  refine hg_in_i (cc := cX10_size) (nL := 2) (by decide) rfl (Nat.le_of_ble_eq_true rfl) (fun p e s m args below meth c R Q X hR hend H locs ls w hl => ?_)
  subst hR
  obtain ⟨hx, hb, hml, hown, hts⟩ := id X.1
  have hin : mk_in wsX10_size := ⟨fun w h => List.mem_cons_of_mem _ (List.mem_append_left _ (List.mem_append_left _ (List.mem_append_left _ (List.mem_append_left _ (List.mem_append_right _ h))))), fun w h => List.mem_cons_of_mem _ (List.mem_append_left _ (List.mem_append_left _ (List.mem_append_left _ (List.mem_append_right _ h)))), fun w h => List.mem_cons_of_mem _ (List.mem_append_left _ (List.mem_append_left _ (List.mem_append_right _ h))), fun w h => List.mem_cons_of_mem _ (List.mem_append_left _ (List.mem_append_right _ h)), fun w h => List.mem_cons_of_mem _ (List.mem_append_right _ h)⟩
  have hin9 : ∀ w ∈ wsX90, w ∈ wsX10_size := fun w h => List.mem_cons_of_mem _ (List.mem_append_left _ (List.mem_append_left _ (List.mem_append_left _ (List.mem_append_left _ (List.mem_append_left _ (List.mem_append_right _ h))))))
  have hl : lv_has ls 2 [(0, .ref (ad (2 + i))), (1, .ref (oa 4))] := hl
  have hk := hk0
  refine lv_aload_n hx hb dX10_size_0 rfl (lv_at hl 1 rfl) ?_
  refine lv_bipush (v := 14) hx hb dX10_size_1 (by decide) ?_
  refine hg_vvF (As := [.int (14)]) (rest := []) X w (c_X9_leave l D b0 L f oa C mr im mk ad n g hm hs ho htr 14) (cwV 1 hts gX10_size_X9_leave rfl rfl rfl hdX9_leave ⟨Nat.le_of_ble_eq_true rfl, Nat.le_of_ble_eq_true rfl⟩) (ho.1 4 (by decide)).1 (ow_at ho (k := 4) (by decide)) rfl rfl rfl hl.1 rfl (Nat.le_of_ble_eq_true rfl) dX10_size_3 ⟨Nat.zero_le _, Nat.zero_le _⟩ (fun H locs w => ?_)
  refine lv_iconst (v := 2) hx hb dX10_size_6 (by decide) ?_
  refine lv_aload_n hx hb dX10_size_7 rfl (lv_at hl 0 rfl) ?_
  refine lv_aload_n hx hb dX10_size_8 rfl (lv_at hl 1 rfl) ?_
  refine hg_xiF (r := (g (26 + i) - 100)) (As := [.ref (oa 4)]) (rest := [.int (2)]) X w (c_X4_size l D b0 L f oa (sp_leave C 14) mr im mk ad n g hm hs ho (hs_tr_l htr) i hi (Or.inr hk)) (va_cwSU 1 hts gX10_size_X4_size_s21 rfl rfl rfl (by decide +kernel) ⟨Nat.le_of_ble_eq_true rfl, Nat.le_of_ble_eq_true rfl⟩) (hm.2.1 (2 + i) (by omega)).1 ((mk_atS hm hi).trans (by rw [hk]; first | done | rfl)) rfl rfl hl.1 rfl (Nat.le_of_ble_eq_true rfl) dX10_size_9 ⟨Nat.zero_le _, Nat.zero_le _⟩ (fun H locs w => ?_)
  refine lv_imul hx hb dX10_size_12 ?_
  exact hend H locs ((2 * (g (26 + i) - 100))) (L, ob_W D f oa (sp_leave (sp_leave (sp_leave C 14) 13) 10) mr im mk ad n g) _ ls w ⟨rfl, rfl⟩ rfl dX10_size_13
theorem hdX4_size : yX4_size.cls = RX4 ∧ yX4_size.cls ≠ "java/lang/invoke/MethodHandle" ∧ yX4_size.cls ≠ "java/lang/invoke/VarHandle" ∧ (parseMethodDescriptor yX4_size.desc).map (fun d => d.parameters.length) = some 1 := by decide +kernel
set_option maxRecDepth 100000 in
set_option maxHeartbeats 4000000 in
theorem c_X4_mark (l : Launch) (D : va_G) (b0 : Nat) (L : List Nat) (f : Nat → va_E) (oa : Nat → Nat) (C : Nat → Nat → Int32) (mr : Nat) (im : Nat → Option Nat) (mk : Nat) (ad : Nat → Nat) (n : Nat) (g : Nat → Int32) (hm : mk_ok L mk ad n) (hs : mk_sr g n) (ho : ob_ok L oa mk ad n) (htr : hs_tr C) (i : Nat) (hi : i < n) (hk0 : g (8 + i) = 4 ∨ g (8 + i) = 5) : hg_Fi l yX4_mark wsX4_mark ({ frames := 4, cells := 0, slots := 0, locals := 84 }) D b0 L (ob_W D f oa C mr im mk ad n g) [.ref (ad (2 + i)), .ref (oa 4)] (nI i - ms_ns g i) (ob_W D f oa (ms_nc (sp_leave (sp_leave C 23) 20) (g (8 + i))) mr im mk ad n g) := by
  refine hg_in_i (cc := cX4_mark) (nL := 3) (by decide) rfl (Nat.le_of_ble_eq_true rfl) (fun p e s m args below meth c R Q X hR hend H locs ls w hl => ?_)
  subst hR
  obtain ⟨hx, hb, hml, hown, hts⟩ := id X.1
  have hin : mk_in wsX4_mark := ⟨fun w h => List.mem_cons_of_mem _ (List.mem_append_left _ (List.mem_append_left _ (List.mem_append_left _ (List.mem_append_left _ (List.mem_append_right _ h))))), fun w h => List.mem_cons_of_mem _ (List.mem_append_left _ (List.mem_append_left _ (List.mem_append_left _ (List.mem_append_right _ h)))), fun w h => List.mem_cons_of_mem _ (List.mem_append_left _ (List.mem_append_left _ (List.mem_append_right _ h))), fun w h => List.mem_cons_of_mem _ (List.mem_append_left _ (List.mem_append_right _ h)), fun w h => List.mem_cons_of_mem _ (List.mem_append_right _ h)⟩
  have hin9 : ∀ w ∈ wsX90, w ∈ wsX4_mark := fun w h => List.mem_cons_of_mem _ (List.mem_append_left _ (List.mem_append_left _ (List.mem_append_left _ (List.mem_append_left _ (List.mem_append_left _ (List.mem_append_right _ h))))))
  have hl : lv_has ls 3 [(0, .ref (ad (2 + i))), (1, .ref (oa 4))] := hl
  rcases hk0 with hk | hk
  · refine lv_aload_n hx hb dX4_mark_0 rfl (lv_at hl 1 rfl) ?_
    refine lv_bipush (v := 23) hx hb dX4_mark_1 (by decide) ?_
    refine hg_vvF (As := [.int (23)]) (rest := []) X w (c_X9_leave l D b0 L f oa C mr im mk ad n g hm hs ho htr 23) (cwV 1 hts gX4_mark_X9_leave rfl rfl rfl hdX9_leave ⟨Nat.le_of_ble_eq_true rfl, Nat.le_of_ble_eq_true rfl⟩) (ho.1 4 (by decide)).1 (ow_at ho (k := 4) (by decide)) rfl rfl rfl hl.1 rfl (Nat.le_of_ble_eq_true rfl) dX4_mark_3 ⟨Nat.zero_le _, Nat.zero_le _⟩ (fun H locs w => ?_)
    refine lv_aload_n hx hb dX4_mark_6 rfl (lv_at hl 0 rfl) ?_
    refine lv_aload_n hx hb dX4_mark_7 rfl (lv_at hl 1 rfl) ?_
    refine hg_xiF (r := (nI i)) (As := [.ref (oa 4)]) (rest := []) X w (c_X6_mark l D b0 L f oa (sp_leave C 23) mr im mk ad n g hm hs ho (hs_tr_l htr) i hi) (va_cwSU 1 hts gX4_mark_X6_mark_s19 rfl rfl rfl (by decide +kernel) ⟨Nat.le_of_ble_eq_true rfl, Nat.le_of_ble_eq_true rfl⟩) (hm.2.1 (2 + i) (by omega)).1 ((mk_atS hm hi).trans (by rw [hk]; first | done | rfl)) rfl rfl hl.1 rfl (Nat.le_of_ble_eq_true rfl) dX4_mark_8 ⟨Nat.zero_le _, Nat.zero_le _⟩ (fun H locs w => ?_)
    refine lv_istore_n (lv' := [(2, .int ((nI i))), (0, .ref (ad (2 + i))), (1, .ref (oa 4))]) hx hb dX4_mark_11 rfl hl (by decide) rfl (fun ls hl => ?_)
    refine lv_iload_n hx hb dX4_mark_12 rfl (lv_at hl 0 rfl) ?_
    refine lv_aload_n hx hb dX4_mark_13 rfl (lv_at hl 1 rfl) ?_
    refine lv_aload_n hx hb dX4_mark_14 rfl (lv_at hl 2 rfl) ?_
    refine hg_viF (r := (g (26 + i) - 100)) (As := [.ref (oa 4)]) (rest := [.int ((nI i))]) X w (c_X4_size l D b0 L f oa (sp_leave (sp_leave C 23) 20) mr im mk ad n g hm hs ho (hs_tr_l (hs_tr_l htr)) i hi (Or.inl hk)) (cwV 1 hts gX4_mark_X4_size rfl rfl rfl hdX4_size ⟨Nat.le_of_ble_eq_true rfl, Nat.le_of_ble_eq_true rfl⟩) (hm.2.1 (2 + i) (by omega)).1 ((mk_atS hm hi).trans (by rw [hk]; first | done | rfl)) rfl rfl rfl hl.1 rfl (Nat.le_of_ble_eq_true rfl) dX4_mark_15 ⟨Nat.zero_le _, Nat.zero_le _⟩ (fun H locs w => ?_)
    refine lv_isub hx hb dX4_mark_18 ?_
    exact hend H locs (((nI i) - (g (26 + i) - 100))) (L, ob_W D f oa (sp_leave (sp_leave (sp_leave (sp_leave C 23) 20) 13) 10) mr im mk ad n g) _ ls w ⟨(by simp [ms_ns, hk]), (ob_eq (by simp [ms_nc, hk]) rfl)⟩ rfl dX4_mark_19
  · refine lv_aload_n hx hb dX4_mark_0 rfl (lv_at hl 1 rfl) ?_
    refine lv_bipush (v := 23) hx hb dX4_mark_1 (by decide) ?_
    refine hg_vvF (As := [.int (23)]) (rest := []) X w (c_X9_leave l D b0 L f oa C mr im mk ad n g hm hs ho htr 23) (cwV 1 hts gX4_mark_X9_leave rfl rfl rfl hdX9_leave ⟨Nat.le_of_ble_eq_true rfl, Nat.le_of_ble_eq_true rfl⟩) (ho.1 4 (by decide)).1 (ow_at ho (k := 4) (by decide)) rfl rfl rfl hl.1 rfl (Nat.le_of_ble_eq_true rfl) dX4_mark_3 ⟨Nat.zero_le _, Nat.zero_le _⟩ (fun H locs w => ?_)
    refine lv_aload_n hx hb dX4_mark_6 rfl (lv_at hl 0 rfl) ?_
    refine lv_aload_n hx hb dX4_mark_7 rfl (lv_at hl 1 rfl) ?_
    refine hg_xiF (r := (nI i)) (As := [.ref (oa 4)]) (rest := []) X w (c_X6_mark l D b0 L f oa (sp_leave C 23) mr im mk ad n g hm hs ho (hs_tr_l htr) i hi) (va_cwSU 1 hts gX4_mark_X6_mark_s19 rfl rfl rfl (by decide +kernel) ⟨Nat.le_of_ble_eq_true rfl, Nat.le_of_ble_eq_true rfl⟩) (hm.2.1 (2 + i) (by omega)).1 ((mk_atS hm hi).trans (by rw [hk]; first | done | rfl)) rfl rfl hl.1 rfl (Nat.le_of_ble_eq_true rfl) dX4_mark_8 ⟨Nat.zero_le _, Nat.zero_le _⟩ (fun H locs w => ?_)
    refine lv_istore_n (lv' := [(2, .int ((nI i))), (0, .ref (ad (2 + i))), (1, .ref (oa 4))]) hx hb dX4_mark_11 rfl hl (by decide) rfl (fun ls hl => ?_)
    refine lv_iload_n hx hb dX4_mark_12 rfl (lv_at hl 0 rfl) ?_
    refine lv_aload_n hx hb dX4_mark_13 rfl (lv_at hl 1 rfl) ?_
    refine lv_aload_n hx hb dX4_mark_14 rfl (lv_at hl 2 rfl) ?_
    refine hg_uiF (C := RX10) (r := (2 * (g (26 + i) - 100))) (As := [.ref (oa 4)]) (rest := [.int ((nI i))]) X w (c_X10_size l D b0 L f oa (sp_leave (sp_leave C 23) 20) mr im mk ad n g hm hs ho (hs_tr_l (hs_tr_l htr)) i hi hk) (va_cwO 1 hts gX4_mark_X10_size_u22X10 rfl rfl rfl (List.mem_of_getElem? (i := 20) rfl) (by decide +kernel) ⟨Nat.le_of_ble_eq_true rfl, Nat.le_of_ble_eq_true rfl⟩) (hm.2.1 (2 + i) (by omega)).1 ((mk_atS hm hi).trans (by rw [hk]; first | done | rfl)) rfl rfl rfl hl.1 rfl (Nat.le_of_ble_eq_true rfl) dX4_mark_15 ⟨Nat.zero_le _, Nat.zero_le _⟩ (fun H locs w => ?_)
    refine lv_isub hx hb dX4_mark_18 ?_
    exact hend H locs (((nI i) - (2 * (g (26 + i) - 100)))) (L, ob_W D f oa (sp_leave (sp_leave (sp_leave (sp_leave (sp_leave C 23) 20) 14) 13) 10) mr im mk ad n g) _ ls w ⟨(by simp [ms_ns, hk]), (ob_eq (by simp [ms_nc, hk]) rfl)⟩ rfl dX4_mark_19
set_option maxRecDepth 100000 in
set_option maxHeartbeats 4000000 in
theorem c_X7_kindTold (l : Launch) (D : va_G) (b0 : Nat) (L : List Nat) (f : Nat → va_E) (mk : Nat) (ad : Nat → Nat) (n : Nat) (g : Nat → Int32) (hm : mk_ok L mk ad n) (hs : mk_sr g n) (i : Nat) (hi : i < n) : hg_Fi l yX7_kindTold wsX7_kindTold ({ frames := 0, cells := 0, slots := 0, locals := 0 }) D b0 L (mk_F D f mk ad n g) [.ref (ad (2 + i))] (1) (mk_F D f mk ad n g) := by
  refine hg_in_i (cc := cX7_kindTold) (nL := 1) (by decide) rfl (Nat.le_of_ble_eq_true rfl) (fun p e s m args below meth c R Q X hR hend H locs ls w hl => ?_)
  subst hR
  obtain ⟨hx, hb, hml, hown, hts⟩ := id X.1
  have hl : lv_has ls 1 [(0, .ref (ad (2 + i)))] := hl
  refine lv_iconst (v := 1) hx hb dX7_kindTold_0 (by decide) ?_
  exact hend H locs (1) (L, mk_F D f mk ad n g) _ ls w ⟨rfl, rfl⟩ rfl dX7_kindTold_1
set_option maxRecDepth 100000 in
set_option maxHeartbeats 4000000 in
theorem c_X2_kindTold (l : Launch) (D : va_G) (b0 : Nat) (L : List Nat) (f : Nat → va_E) (mk : Nat) (ad : Nat → Nat) (n : Nat) (g : Nat → Int32) (hm : mk_ok L mk ad n) (hs : mk_sr g n) (i : Nat) (hi : i < n) : hg_Fi l yX2_kindTold wsX2_kindTold ({ frames := 0, cells := 0, slots := 0, locals := 0 }) D b0 L (mk_F D f mk ad n g) [.ref (ad (2 + i))] (2) (mk_F D f mk ad n g) := by
  refine hg_in_i (cc := cX2_kindTold) (nL := 1) (by decide) rfl (Nat.le_of_ble_eq_true rfl) (fun p e s m args below meth c R Q X hR hend H locs ls w hl => ?_)
  subst hR
  obtain ⟨hx, hb, hml, hown, hts⟩ := id X.1
  have hl : lv_has ls 1 [(0, .ref (ad (2 + i)))] := hl
  refine lv_iconst (v := 2) hx hb dX2_kindTold_0 (by decide) ?_
  exact hend H locs (2) (L, mk_F D f mk ad n g) _ ls w ⟨rfl, rfl⟩ rfl dX2_kindTold_1
set_option maxRecDepth 100000 in
set_option maxHeartbeats 4000000 in
theorem c_X0_kindTold (l : Launch) (D : va_G) (b0 : Nat) (L : List Nat) (f : Nat → va_E) (mk : Nat) (ad : Nat → Nat) (n : Nat) (g : Nat → Int32) (hm : mk_ok L mk ad n) (hs : mk_sr g n) (i : Nat) (hi : i < n) : hg_Fi l yX0_kindTold wsX0_kindTold ({ frames := 0, cells := 0, slots := 0, locals := 0 }) D b0 L (mk_F D f mk ad n g) [.ref (ad (2 + i))] (3) (mk_F D f mk ad n g) := by
  refine hg_in_i (cc := cX0_kindTold) (nL := 1) (by decide) rfl (Nat.le_of_ble_eq_true rfl) (fun p e s m args below meth c R Q X hR hend H locs ls w hl => ?_)
  subst hR
  obtain ⟨hx, hb, hml, hown, hts⟩ := id X.1
  have hl : lv_has ls 1 [(0, .ref (ad (2 + i)))] := hl
  refine lv_iconst (v := 3) hx hb dX0_kindTold_0 (by decide) ?_
  exact hend H locs (3) (L, mk_F D f mk ad n g) _ ls w ⟨rfl, rfl⟩ rfl dX0_kindTold_1
set_option maxRecDepth 100000 in
set_option maxHeartbeats 4000000 in
theorem c_X4_kindTold (l : Launch) (D : va_G) (b0 : Nat) (L : List Nat) (f : Nat → va_E) (mk : Nat) (ad : Nat → Nat) (n : Nat) (g : Nat → Int32) (hm : mk_ok L mk ad n) (hs : mk_sr g n) (i : Nat) (hi : i < n) : hg_Fi l yX4_kindTold wsX4_kindTold ({ frames := 0, cells := 0, slots := 0, locals := 0 }) D b0 L (mk_F D f mk ad n g) [.ref (ad (2 + i))] (4) (mk_F D f mk ad n g) := by
  refine hg_in_i (cc := cX4_kindTold) (nL := 1) (by decide) rfl (Nat.le_of_ble_eq_true rfl) (fun p e s m args below meth c R Q X hR hend H locs ls w hl => ?_)
  subst hR
  obtain ⟨hx, hb, hml, hown, hts⟩ := id X.1
  have hl : lv_has ls 1 [(0, .ref (ad (2 + i)))] := hl
  refine lv_iconst (v := 4) hx hb dX4_kindTold_0 (by decide) ?_
  exact hend H locs (4) (L, mk_F D f mk ad n g) _ ls w ⟨rfl, rfl⟩ rfl dX4_kindTold_1
set_option maxRecDepth 100000 in
set_option maxHeartbeats 4000000 in
theorem c_X10_kindTold (l : Launch) (D : va_G) (b0 : Nat) (L : List Nat) (f : Nat → va_E) (mk : Nat) (ad : Nat → Nat) (n : Nat) (g : Nat → Int32) (hm : mk_ok L mk ad n) (hs : mk_sr g n) (i : Nat) (hi : i < n) : hg_Fi l yX10_kindTold wsX10_kindTold ({ frames := 0, cells := 0, slots := 0, locals := 0 }) D b0 L (mk_F D f mk ad n g) [.ref (ad (2 + i))] (5) (mk_F D f mk ad n g) := by
  refine hg_in_i (cc := cX10_kindTold) (nL := 1) (by decide) rfl (Nat.le_of_ble_eq_true rfl) (fun p e s m args below meth c R Q X hR hend H locs ls w hl => ?_)
  subst hR
  obtain ⟨hx, hb, hml, hown, hts⟩ := id X.1
  have hl : lv_has ls 1 [(0, .ref (ad (2 + i)))] := hl
  refine lv_iconst (v := 5) hx hb dX10_kindTold_0 (by decide) ?_
  exact hend H locs (5) (L, mk_F D f mk ad n g) _ ls w ⟨rfl, rfl⟩ rfl dX10_kindTold_1
