set_option maxRecDepth 100000 in
set_option maxHeartbeats 4000000 in
theorem c_X0_wares (l : Launch) (D : va_G) (b0 : Nat) (L : List Nat) (f : Nat → va_E) (mk : Nat) (ad : Nat → Nat) (n : Nat) (g : Nat → Int32) (hm : mk_ok L mk ad n) (hs : mk_sr g n) (i : Nat) (hi : i < n) : hg_Fi l yX0_wares wsX0_wares ({ frames := 0, cells := 0, slots := 0, locals := 0 }) D b0 L (mk_F D f mk ad n g) [.ref (ad (2 + i))] (2 * g (26 + i)) (mk_F D f mk ad n g) := by
  refine hg_in_i (cc := cX0_wares) (nL := 1) (by decide) rfl (Nat.le_of_ble_eq_true rfl) (fun p e s m args below meth c R Q X hR hend H locs ls w hl => ?_)
  subst hR
  obtain ⟨hx, hb, hml, hown, hts⟩ := id X.1
  have hin : mk_in wsX0_wares := ⟨fun w h => List.mem_cons_of_mem _ (List.mem_append_left _ (List.mem_append_left _ (List.mem_append_left _ (List.mem_append_left _ (List.mem_append_right _ h))))), fun w h => List.mem_cons_of_mem _ (List.mem_append_left _ (List.mem_append_left _ (List.mem_append_left _ (List.mem_append_right _ h)))), fun w h => List.mem_cons_of_mem _ (List.mem_append_left _ (List.mem_append_left _ (List.mem_append_right _ h))), fun w h => List.mem_cons_of_mem _ (List.mem_append_left _ (List.mem_append_right _ h)), fun w h => List.mem_cons_of_mem _ (List.mem_append_right _ h)⟩
  have hl : lv_has ls 1 [(0, .ref (ad (2 + i)))] := hl
  refine lv_iconst (v := 2) hx hb dX0_wares_0 (by decide) ?_
  refine lv_aload_n hx hb dX0_wares_1 rfl (lv_at hl 0 rfl) ?_
  refine mk_get X w hm hs hin hi 3 (by decide) (List.mem_of_getElem? (i := 1) rfl) (Or.inr (List.mem_of_getElem? (i := 2) rfl)) rfl dX0_wares_2 ?_
  refine lv_imul hx hb dX0_wares_5 ?_
  exact hend H locs ((2 * g (26 + i))) (L, mk_F D f mk ad n g) _ ls w ⟨rfl, rfl⟩ rfl dX0_wares_6
set_option maxRecDepth 100000 in
set_option maxHeartbeats 4000000 in
theorem c_X2_wares (l : Launch) (D : va_G) (b0 : Nat) (L : List Nat) (f : Nat → va_E) (mk : Nat) (ad : Nat → Nat) (n : Nat) (g : Nat → Int32) (hm : mk_ok L mk ad n) (hs : mk_sr g n) (i : Nat) (hi : i < n) : hg_Fi l yX2_wares wsX2_wares ({ frames := 0, cells := 0, slots := 0, locals := 0 }) D b0 L (mk_F D f mk ad n g) [.ref (ad (2 + i))] (g (26 + i) / 2) (mk_F D f mk ad n g) := by
  refine hg_in_i (cc := cX2_wares) (nL := 1) (by decide) rfl (Nat.le_of_ble_eq_true rfl) (fun p e s m args below meth c R Q X hR hend H locs ls w hl => ?_)
  subst hR
  obtain ⟨hx, hb, hml, hown, hts⟩ := id X.1
  have hin : mk_in wsX2_wares := ⟨fun w h => List.mem_cons_of_mem _ (List.mem_append_left _ (List.mem_append_left _ (List.mem_append_left _ (List.mem_append_left _ (List.mem_append_right _ h))))), fun w h => List.mem_cons_of_mem _ (List.mem_append_left _ (List.mem_append_left _ (List.mem_append_left _ (List.mem_append_right _ h)))), fun w h => List.mem_cons_of_mem _ (List.mem_append_left _ (List.mem_append_left _ (List.mem_append_right _ h))), fun w h => List.mem_cons_of_mem _ (List.mem_append_left _ (List.mem_append_right _ h)), fun w h => List.mem_cons_of_mem _ (List.mem_append_right _ h)⟩
  have hl : lv_has ls 1 [(0, .ref (ad (2 + i)))] := hl
  refine lv_aload_n hx hb dX2_wares_0 rfl (lv_at hl 0 rfl) ?_
  refine mk_get X w hm hs hin hi 3 (by decide) (List.mem_of_getElem? (i := 1) rfl) (Or.inr (List.mem_of_getElem? (i := 2) rfl)) rfl dX2_wares_1 ?_
  refine lv_iconst (v := 2) hx hb dX2_wares_4 (by decide) ?_
  refine lv_idiv hx hb dX2_wares_5 (by decide) ?_
  exact hend H locs ((g (26 + i) / 2)) (L, mk_F D f mk ad n g) _ ls w ⟨rfl, rfl⟩ rfl dX2_wares_6
set_option maxRecDepth 100000 in
set_option maxHeartbeats 4000000 in
theorem c_X10_wares (l : Launch) (D : va_G) (b0 : Nat) (L : List Nat) (f : Nat → va_E) (mk : Nat) (ad : Nat → Nat) (n : Nat) (g : Nat → Int32) (hm : mk_ok L mk ad n) (hs : mk_sr g n) (i : Nat) (hi : i < n) : hg_Fi l yX10_wares wsX10_wares ({ frames := 0, cells := 0, slots := 0, locals := 0 }) D b0 L (mk_F D f mk ad n g) [.ref (ad (2 + i))] (-g (26 + i)) (mk_F D f mk ad n g) := by
  refine hg_in_i (cc := cX10_wares) (nL := 1) (by decide) rfl (Nat.le_of_ble_eq_true rfl) (fun p e s m args below meth c R Q X hR hend H locs ls w hl => ?_)
  subst hR
  obtain ⟨hx, hb, hml, hown, hts⟩ := id X.1
  have hin : mk_in wsX10_wares := ⟨fun w h => List.mem_cons_of_mem _ (List.mem_append_left _ (List.mem_append_left _ (List.mem_append_left _ (List.mem_append_left _ (List.mem_append_right _ h))))), fun w h => List.mem_cons_of_mem _ (List.mem_append_left _ (List.mem_append_left _ (List.mem_append_left _ (List.mem_append_right _ h)))), fun w h => List.mem_cons_of_mem _ (List.mem_append_left _ (List.mem_append_left _ (List.mem_append_right _ h))), fun w h => List.mem_cons_of_mem _ (List.mem_append_left _ (List.mem_append_right _ h)), fun w h => List.mem_cons_of_mem _ (List.mem_append_right _ h)⟩
  have hl : lv_has ls 1 [(0, .ref (ad (2 + i)))] := hl
  refine lv_aload_n hx hb dX10_wares_0 rfl (lv_at hl 0 rfl) ?_
  refine mk_get X w hm hs hin hi 3 (by decide) (List.mem_of_getElem? (i := 1) rfl) (Or.inr (List.mem_of_getElem? (i := 2) rfl)) rfl dX10_wares_1 ?_
  refine lv_ineg hx hb dX10_wares_4 ?_
  exact hend H locs ((-g (26 + i))) (L, mk_F D f mk ad n g) _ ls w ⟨rfl, rfl⟩ rfl dX10_wares_5
set_option maxRecDepth 100000 in
set_option maxHeartbeats 4000000 in
theorem c_X6_wares (l : Launch) (D : va_G) (b0 : Nat) (L : List Nat) (f : Nat → va_E) (mk : Nat) (ad : Nat → Nat) (n : Nat) (g : Nat → Int32) (hm : mk_ok L mk ad n) (hs : mk_sr g n) (i : Nat) (hi : i < n) : hg_Fi l yX6_wares wsX6_wares ({ frames := 0, cells := 0, slots := 0, locals := 0 }) D b0 L (mk_F D f mk ad n g) [.ref (ad (2 + i))] (g (26 + i)) (mk_F D f mk ad n g) := by
  refine hg_in_i (cc := cX6_wares) (nL := 1) (by decide) rfl (Nat.le_of_ble_eq_true rfl) (fun p e s m args below meth c R Q X hR hend H locs ls w hl => ?_)
  subst hR
  obtain ⟨hx, hb, hml, hown, hts⟩ := id X.1
  have hin : mk_in wsX6_wares := ⟨fun w h => List.mem_cons_of_mem _ (List.mem_append_left _ (List.mem_append_left _ (List.mem_append_left _ (List.mem_append_left _ (List.mem_append_right _ h))))), fun w h => List.mem_cons_of_mem _ (List.mem_append_left _ (List.mem_append_left _ (List.mem_append_left _ (List.mem_append_right _ h)))), fun w h => List.mem_cons_of_mem _ (List.mem_append_left _ (List.mem_append_left _ (List.mem_append_right _ h))), fun w h => List.mem_cons_of_mem _ (List.mem_append_left _ (List.mem_append_right _ h)), fun w h => List.mem_cons_of_mem _ (List.mem_append_right _ h)⟩
  have hl : lv_has ls 1 [(0, .ref (ad (2 + i)))] := hl
  refine lv_aload_n hx hb dX6_wares_0 rfl (lv_at hl 0 rfl) ?_
  refine mk_get X w hm hs hin hi 3 (by decide) (List.mem_of_getElem? (i := 1) rfl) (Or.inl rfl) rfl dX6_wares_1 ?_
  exact hend H locs (g (26 + i)) (L, mk_F D f mk ad n g) _ ls w ⟨rfl, rfl⟩ rfl dX6_wares_4
set_option maxRecDepth 100000 in
set_option maxHeartbeats 4000000 in
theorem c_X6_buyersThatCount (l : Launch) (D : va_G) (b0 : Nat) (L : List Nat) (f : Nat → va_E) (mk : Nat) (ad : Nat → Nat) (n : Nat) (g : Nat → Int32) (hm : mk_ok L mk ad n) (hs : mk_sr g n) (i : Nat) (hi : i < n) : hg_Fi l yX6_buyersThatCount wsX6_buyersThatCount ({ frames := 0, cells := 0, slots := 0, locals := 0 }) D b0 L (mk_F D f mk ad n g) [.ref (ad (2 + i))] (g (32 + i)) (mk_F D f mk ad n g) := by
  refine hg_in_i (cc := cX6_buyersThatCount) (nL := 1) (by decide) rfl (Nat.le_of_ble_eq_true rfl) (fun p e s m args below meth c R Q X hR hend H locs ls w hl => ?_)
  subst hR
  obtain ⟨hx, hb, hml, hown, hts⟩ := id X.1
  have hin : mk_in wsX6_buyersThatCount := ⟨fun w h => List.mem_cons_of_mem _ (List.mem_append_left _ (List.mem_append_left _ (List.mem_append_left _ (List.mem_append_left _ (List.mem_append_right _ h))))), fun w h => List.mem_cons_of_mem _ (List.mem_append_left _ (List.mem_append_left _ (List.mem_append_left _ (List.mem_append_right _ h)))), fun w h => List.mem_cons_of_mem _ (List.mem_append_left _ (List.mem_append_left _ (List.mem_append_right _ h))), fun w h => List.mem_cons_of_mem _ (List.mem_append_left _ (List.mem_append_right _ h)), fun w h => List.mem_cons_of_mem _ (List.mem_append_right _ h)⟩
  have hl : lv_has ls 1 [(0, .ref (ad (2 + i)))] := hl
  refine lv_aload_n hx hb dX6_buyersThatCount_0 rfl (lv_at hl 0 rfl) ?_
  refine mk_get X w hm hs hin hi 4 (by decide) (List.mem_of_getElem? (i := 1) rfl) (Or.inl rfl) rfl dX6_buyersThatCount_1 ?_
  exact hend H locs (g (32 + i)) (L, mk_F D f mk ad n g) _ ls w ⟨rfl, rfl⟩ rfl dX6_buyersThatCount_4
set_option maxRecDepth 100000 in
set_option maxHeartbeats 4000000 in
theorem c_X4_buyersThatCount (l : Launch) (D : va_G) (b0 : Nat) (L : List Nat) (f : Nat → va_E) (mk : Nat) (ad : Nat → Nat) (n : Nat) (g : Nat → Int32) (hm : mk_ok L mk ad n) (hs : mk_sr g n) (i : Nat) (hi : i < n) : hg_Fi l yX4_buyersThatCount wsX4_buyersThatCount ({ frames := 0, cells := 0, slots := 0, locals := 0 }) D b0 L (mk_F D f mk ad n g) [.ref (ad (2 + i))] (0) (mk_F D f mk ad n g) := by
  refine hg_in_i (cc := cX4_buyersThatCount) (nL := 1) (by decide) rfl (Nat.le_of_ble_eq_true rfl) (fun p e s m args below meth c R Q X hR hend H locs ls w hl => ?_)
  subst hR
  obtain ⟨hx, hb, hml, hown, hts⟩ := id X.1
  have hl : lv_has ls 1 [(0, .ref (ad (2 + i)))] := hl
  refine lv_iconst (v := 0) hx hb dX4_buyersThatCount_0 (by decide) ?_
  exact hend H locs (0) (L, mk_F D f mk ad n g) _ ls w ⟨rfl, rfl⟩ rfl dX4_buyersThatCount_1
set_option maxRecDepth 100000 in
set_option maxHeartbeats 4000000 in
theorem c_X6_weight (l : Launch) (D : va_G) (b0 : Nat) (L : List Nat) (f : Nat → va_E) (mk : Nat) (ad : Nat → Nat) (n : Nat) (g : Nat → Int32) (hm : mk_ok L mk ad n) (hs : mk_sr g n) (i : Nat) (hi : i < n) : hg_Fi l yX6_weight wsX6_weight ({ frames := 1, cells := 0, slots := 0, locals := 20 }) D b0 L (mk_F D f mk ad n g) [.ref (ad (2 + i))] (hs_weight g i) (mk_F D f mk ad n g) := by
  refine hg_in_i (cc := cX6_weight) (nL := 1) (by decide) rfl (Nat.le_of_ble_eq_true rfl) (fun p e s m args below meth c R Q X hR hend H locs ls w hl => ?_)
  subst hR
  obtain ⟨hx, hb, hml, hown, hts⟩ := id X.1
  have hin : mk_in wsX6_weight := ⟨fun w h => List.mem_cons_of_mem _ (List.mem_append_left _ (List.mem_append_left _ (List.mem_append_left _ (List.mem_append_left _ (List.mem_append_right _ h))))), fun w h => List.mem_cons_of_mem _ (List.mem_append_left _ (List.mem_append_left _ (List.mem_append_left _ (List.mem_append_right _ h)))), fun w h => List.mem_cons_of_mem _ (List.mem_append_left _ (List.mem_append_left _ (List.mem_append_right _ h))), fun w h => List.mem_cons_of_mem _ (List.mem_append_left _ (List.mem_append_right _ h)), fun w h => List.mem_cons_of_mem _ (List.mem_append_right _ h)⟩
  have hl : lv_has ls 1 [(0, .ref (ad (2 + i)))] := hl
  refine lv_aload_n hx hb dX6_weight_0 rfl (lv_at hl 0 rfl) ?_
  refine mk_get X w hm hs hin hi 6 (by decide) (List.mem_of_getElem? (i := 1) rfl) (Or.inl rfl) rfl dX6_weight_1 ?_
  refine lv_if_eq (tgt := 11) hx hb dX6_weight_4 (by decide) (fun c_4 => ?_) (fun c_4 => ?_)
  · refine lv_aload_n hx hb dX6_weight_11 rfl (lv_at hl 0 rfl) ?_
    refine hg_back (rest := []) (post := fun x u => x = hs_wares (g (8 + i)) (g (26 + i)) ∧ u = (L, mk_F D f mk ad n g)) w (by
      rcases hs.2.2.1 i hi with hk | hk | hk | hk | hk
      · exact mk_runU (As := []) (C := RX7) (ci := 5) (fs := mk_st g i) X w (by rw [show hs_wares (g (8 + i)) (g (26 + i)) = g (26 + i) from (by rw [hk]; simp [hs_wares])]; exact c_X6_wares l D b0 L f mk ad n g hm hs i hi) (va_cwU 0 hts gX6_weight_X6_wares_u57X7 rfl rfl rfl rfl (by decide +kernel) ⟨Nat.le_of_ble_eq_true rfl, Nat.le_of_ble_eq_true rfl⟩) (hm.2.1 (2 + i) (by omega)).1 (by rw [mk_atS hm hi, hk]; rfl) rfl rfl rfl hl.1 rfl (Nat.le_of_ble_eq_true rfl) dX6_weight_12 ⟨Nat.zero_le _, Nat.zero_le _⟩
      · exact mk_runU (As := []) (C := RX2) (ci := 1) (fs := mk_st g i) X w (by rw [show hs_wares (g (8 + i)) (g (26 + i)) = g (26 + i) / 2 from (by rw [hk]; simp [hs_wares])]; exact c_X2_wares l D b0 L f mk ad n g hm hs i hi) (va_cwO 0 hts gX6_weight_X2_wares_u57X2 rfl rfl rfl (List.mem_of_getElem? (i := 12) rfl) (by decide +kernel) ⟨Nat.le_of_ble_eq_true rfl, Nat.le_of_ble_eq_true rfl⟩) (hm.2.1 (2 + i) (by omega)).1 (by rw [mk_atS hm hi, hk]; rfl) rfl rfl rfl hl.1 rfl (Nat.le_of_ble_eq_true rfl) dX6_weight_12 ⟨Nat.zero_le _, Nat.zero_le _⟩
      · exact mk_runU (As := []) (C := RX0) (ci := 0) (fs := mk_st g i) X w (by rw [show hs_wares (g (8 + i)) (g (26 + i)) = 2 * g (26 + i) from (by rw [hk]; simp [hs_wares])]; exact c_X0_wares l D b0 L f mk ad n g hm hs i hi) (va_cwO 0 hts gX6_weight_X0_wares_u57X0 rfl rfl rfl (List.mem_of_getElem? (i := 12) rfl) (by decide +kernel) ⟨Nat.le_of_ble_eq_true rfl, Nat.le_of_ble_eq_true rfl⟩) (hm.2.1 (2 + i) (by omega)).1 (by rw [mk_atS hm hi, hk]; rfl) rfl rfl rfl hl.1 rfl (Nat.le_of_ble_eq_true rfl) dX6_weight_12 ⟨Nat.zero_le _, Nat.zero_le _⟩
      · exact mk_runU (As := []) (C := RX4) (ci := 3) (fs := mk_st g i) X w (by rw [show hs_wares (g (8 + i)) (g (26 + i)) = g (26 + i) from (by rw [hk]; simp [hs_wares])]; exact c_X6_wares l D b0 L f mk ad n g hm hs i hi) (va_cwU 0 hts gX6_weight_X6_wares_u57X4 rfl rfl rfl rfl (by decide +kernel) ⟨Nat.le_of_ble_eq_true rfl, Nat.le_of_ble_eq_true rfl⟩) (hm.2.1 (2 + i) (by omega)).1 (by rw [mk_atS hm hi, hk]; rfl) rfl rfl rfl hl.1 rfl (Nat.le_of_ble_eq_true rfl) dX6_weight_12 ⟨Nat.zero_le _, Nat.zero_le _⟩
      · exact mk_runU (As := []) (C := RX10) (ci := 8) (fs := mk_st g i) X w (by rw [show hs_wares (g (8 + i)) (g (26 + i)) = -g (26 + i) from (by rw [hk]; simp [hs_wares])]; exact c_X10_wares l D b0 L f mk ad n g hm hs i hi) (va_cwO 0 hts gX6_weight_X10_wares_u57X10 rfl rfl rfl (List.mem_of_getElem? (i := 12) rfl) (by decide +kernel) ⟨Nat.le_of_ble_eq_true rfl, Nat.le_of_ble_eq_true rfl⟩) (hm.2.1 (2 + i) (by omega)).1 (by rw [mk_atS hm hi, hk]; rfl) rfl rfl rfl hl.1 rfl (Nat.le_of_ble_eq_true rfl) dX6_weight_12 ⟨Nat.zero_le _, Nat.zero_le _⟩) (fun r0 u0 H locs hp w => ?_)
    obtain ⟨rfl, rfl⟩ := hp
    have w : hg_W D b0 L (mk_F D f mk ad n g) s.heap H locs := w
    refine lv_aload_n hx hb dX6_weight_15 rfl (lv_at hl 0 rfl) ?_
    refine hg_back (rest := [.int (hs_wares (g (8 + i)) (g (26 + i)))]) (post := fun x u => x = hs_buy g i ∧ u = (L, mk_F D f mk ad n g)) w (by
      rcases hs.2.2.1 i hi with hk | hk | hk | hk | hk
      · exact mk_runU (As := []) (C := RX7) (ci := 5) (fs := mk_st g i) X w (by rw [show hs_buy g i = g (32 + i) from (by simp [hs_buy, hk])]; exact c_X6_buyersThatCount l D b0 L f mk ad n g hm hs i hi) (va_cwU 0 hts gX6_weight_X6_buyersThatCount_u60X7 rfl rfl rfl rfl (by decide +kernel) ⟨Nat.le_of_ble_eq_true rfl, Nat.le_of_ble_eq_true rfl⟩) (hm.2.1 (2 + i) (by omega)).1 (by rw [mk_atS hm hi, hk]; rfl) rfl rfl rfl hl.1 rfl (Nat.le_of_ble_eq_true rfl) dX6_weight_16 ⟨Nat.zero_le _, Nat.zero_le _⟩
      · exact mk_runU (As := []) (C := RX2) (ci := 1) (fs := mk_st g i) X w (by rw [show hs_buy g i = g (32 + i) from (by simp [hs_buy, hk])]; exact c_X6_buyersThatCount l D b0 L f mk ad n g hm hs i hi) (va_cwU 0 hts gX6_weight_X6_buyersThatCount_u60X2 rfl rfl rfl rfl (by decide +kernel) ⟨Nat.le_of_ble_eq_true rfl, Nat.le_of_ble_eq_true rfl⟩) (hm.2.1 (2 + i) (by omega)).1 (by rw [mk_atS hm hi, hk]; rfl) rfl rfl rfl hl.1 rfl (Nat.le_of_ble_eq_true rfl) dX6_weight_16 ⟨Nat.zero_le _, Nat.zero_le _⟩
      · exact mk_runU (As := []) (C := RX0) (ci := 0) (fs := mk_st g i) X w (by rw [show hs_buy g i = g (32 + i) from (by simp [hs_buy, hk])]; exact c_X6_buyersThatCount l D b0 L f mk ad n g hm hs i hi) (va_cwU 0 hts gX6_weight_X6_buyersThatCount_u60X0 rfl rfl rfl rfl (by decide +kernel) ⟨Nat.le_of_ble_eq_true rfl, Nat.le_of_ble_eq_true rfl⟩) (hm.2.1 (2 + i) (by omega)).1 (by rw [mk_atS hm hi, hk]; rfl) rfl rfl rfl hl.1 rfl (Nat.le_of_ble_eq_true rfl) dX6_weight_16 ⟨Nat.zero_le _, Nat.zero_le _⟩
      · exact mk_runU (As := []) (C := RX4) (ci := 3) (fs := mk_st g i) X w (by rw [show hs_buy g i = 0 from (by simp [hs_buy, hk])]; exact c_X4_buyersThatCount l D b0 L f mk ad n g hm hs i hi) (va_cwO 0 hts gX6_weight_X4_buyersThatCount_u60X4 rfl rfl rfl (List.mem_of_getElem? (i := 34) rfl) (by decide +kernel) ⟨Nat.le_of_ble_eq_true rfl, Nat.le_of_ble_eq_true rfl⟩) (hm.2.1 (2 + i) (by omega)).1 (by rw [mk_atS hm hi, hk]; rfl) rfl rfl rfl hl.1 rfl (Nat.le_of_ble_eq_true rfl) dX6_weight_16 ⟨Nat.zero_le _, Nat.zero_le _⟩
      · exact mk_runU (As := []) (C := RX10) (ci := 8) (fs := mk_st g i) X w (by rw [show hs_buy g i = 0 from (by simp [hs_buy, hk])]; exact c_X4_buyersThatCount l D b0 L f mk ad n g hm hs i hi) (va_cwO 0 hts gX6_weight_X4_buyersThatCount_u60X10 rfl rfl rfl (List.mem_of_getElem? (i := 34) rfl) (by decide +kernel) ⟨Nat.le_of_ble_eq_true rfl, Nat.le_of_ble_eq_true rfl⟩) (hm.2.1 (2 + i) (by omega)).1 (by rw [mk_atS hm hi, hk]; rfl) rfl rfl rfl hl.1 rfl (Nat.le_of_ble_eq_true rfl) dX6_weight_16 ⟨Nat.zero_le _, Nat.zero_le _⟩) (fun r0 u0 H locs hp w => ?_)
    obtain ⟨rfl, rfl⟩ := hp
    have w : hg_W D b0 L (mk_F D f mk ad n g) s.heap H locs := w
    refine lv_iadd hx hb dX6_weight_19 ?_
    refine lv_aload_n hx hb dX6_weight_20 rfl (lv_at hl 0 rfl) ?_
    refine mk_get X w hm hs hin hi 5 (by decide) (List.mem_of_getElem? (i := 2) rfl) (Or.inl rfl) rfl dX6_weight_21 ?_
    refine lv_iadd hx hb dX6_weight_24 ?_
    exact hend H locs (((hs_wares (g (8 + i)) (g (26 + i)) + hs_buy g i) + g (38 + i))) (L, mk_F D f mk ad n g) _ ls w ⟨(by rw [← mk_weight_eq hs hi, if_pos c_4]), rfl⟩ rfl dX6_weight_25
  · refine lv_iconst (v := 0) hx hb dX6_weight_7 (by decide) ?_
    refine lv_goto (tgt := 15) hx hb dX6_weight_8 (by decide) ?_
    refine lv_aload_n hx hb dX6_weight_15 rfl (lv_at hl 0 rfl) ?_
    refine hg_back (rest := [.int (0)]) (post := fun x u => x = hs_buy g i ∧ u = (L, mk_F D f mk ad n g)) w (by
      rcases hs.2.2.1 i hi with hk | hk | hk | hk | hk
      · exact mk_runU (As := []) (C := RX7) (ci := 5) (fs := mk_st g i) X w (by rw [show hs_buy g i = g (32 + i) from (by simp [hs_buy, hk])]; exact c_X6_buyersThatCount l D b0 L f mk ad n g hm hs i hi) (va_cwU 0 hts gX6_weight_X6_buyersThatCount_u60X7 rfl rfl rfl rfl (by decide +kernel) ⟨Nat.le_of_ble_eq_true rfl, Nat.le_of_ble_eq_true rfl⟩) (hm.2.1 (2 + i) (by omega)).1 (by rw [mk_atS hm hi, hk]; rfl) rfl rfl rfl hl.1 rfl (Nat.le_of_ble_eq_true rfl) dX6_weight_16 ⟨Nat.zero_le _, Nat.zero_le _⟩
      · exact mk_runU (As := []) (C := RX2) (ci := 1) (fs := mk_st g i) X w (by rw [show hs_buy g i = g (32 + i) from (by simp [hs_buy, hk])]; exact c_X6_buyersThatCount l D b0 L f mk ad n g hm hs i hi) (va_cwU 0 hts gX6_weight_X6_buyersThatCount_u60X2 rfl rfl rfl rfl (by decide +kernel) ⟨Nat.le_of_ble_eq_true rfl, Nat.le_of_ble_eq_true rfl⟩) (hm.2.1 (2 + i) (by omega)).1 (by rw [mk_atS hm hi, hk]; rfl) rfl rfl rfl hl.1 rfl (Nat.le_of_ble_eq_true rfl) dX6_weight_16 ⟨Nat.zero_le _, Nat.zero_le _⟩
      · exact mk_runU (As := []) (C := RX0) (ci := 0) (fs := mk_st g i) X w (by rw [show hs_buy g i = g (32 + i) from (by simp [hs_buy, hk])]; exact c_X6_buyersThatCount l D b0 L f mk ad n g hm hs i hi) (va_cwU 0 hts gX6_weight_X6_buyersThatCount_u60X0 rfl rfl rfl rfl (by decide +kernel) ⟨Nat.le_of_ble_eq_true rfl, Nat.le_of_ble_eq_true rfl⟩) (hm.2.1 (2 + i) (by omega)).1 (by rw [mk_atS hm hi, hk]; rfl) rfl rfl rfl hl.1 rfl (Nat.le_of_ble_eq_true rfl) dX6_weight_16 ⟨Nat.zero_le _, Nat.zero_le _⟩
      · exact mk_runU (As := []) (C := RX4) (ci := 3) (fs := mk_st g i) X w (by rw [show hs_buy g i = 0 from (by simp [hs_buy, hk])]; exact c_X4_buyersThatCount l D b0 L f mk ad n g hm hs i hi) (va_cwO 0 hts gX6_weight_X4_buyersThatCount_u60X4 rfl rfl rfl (List.mem_of_getElem? (i := 34) rfl) (by decide +kernel) ⟨Nat.le_of_ble_eq_true rfl, Nat.le_of_ble_eq_true rfl⟩) (hm.2.1 (2 + i) (by omega)).1 (by rw [mk_atS hm hi, hk]; rfl) rfl rfl rfl hl.1 rfl (Nat.le_of_ble_eq_true rfl) dX6_weight_16 ⟨Nat.zero_le _, Nat.zero_le _⟩
      · exact mk_runU (As := []) (C := RX10) (ci := 8) (fs := mk_st g i) X w (by rw [show hs_buy g i = 0 from (by simp [hs_buy, hk])]; exact c_X4_buyersThatCount l D b0 L f mk ad n g hm hs i hi) (va_cwO 0 hts gX6_weight_X4_buyersThatCount_u60X10 rfl rfl rfl (List.mem_of_getElem? (i := 34) rfl) (by decide +kernel) ⟨Nat.le_of_ble_eq_true rfl, Nat.le_of_ble_eq_true rfl⟩) (hm.2.1 (2 + i) (by omega)).1 (by rw [mk_atS hm hi, hk]; rfl) rfl rfl rfl hl.1 rfl (Nat.le_of_ble_eq_true rfl) dX6_weight_16 ⟨Nat.zero_le _, Nat.zero_le _⟩) (fun r0 u0 H locs hp w => ?_)
    obtain ⟨rfl, rfl⟩ := hp
    have w : hg_W D b0 L (mk_F D f mk ad n g) s.heap H locs := w
    refine lv_iadd hx hb dX6_weight_19 ?_
    refine lv_aload_n hx hb dX6_weight_20 rfl (lv_at hl 0 rfl) ?_
    refine mk_get X w hm hs hin hi 5 (by decide) (List.mem_of_getElem? (i := 2) rfl) (Or.inl rfl) rfl dX6_weight_21 ?_
    refine lv_iadd hx hb dX6_weight_24 ?_
    exact hend H locs (((0 + hs_buy g i) + g (38 + i))) (L, mk_F D f mk ad n g) _ ls w ⟨(by rw [← mk_weight_eq hs hi, if_neg c_4]), rfl⟩ rfl dX6_weight_25
