set_option maxRecDepth 100000 in
set_option maxHeartbeats 4000000 in
theorem c_X5_isMissing (l : Launch) (D : va_G) (b0 : Nat) (L : List Nat) (f : Nat → va_E) (oa : Nat → Nat) (C : Nat → Nat → Int32) (mr : Nat) (im : Nat → Option Nat) (mk : Nat) (ad : Nat → Nat) (n : Nat) (g : Nat → Int32) (hm : mk_ok L mk ad n) (hs : mk_sr g n) (ho : ob_ok L oa mk ad n) (r : Nat) (hr : r < 8) : hg_Fi l yX5_isMissing wsX5_isMissing ({ frames := 0, cells := 0, slots := 0, locals := 0 }) D b0 L (ob_W D f oa C mr im mk ad n g) [.ref (oa (11 + r))] (mk_mis (C 3 r)) (ob_W D f oa C mr im mk ad n g) := by
  refine hg_in_i (cc := cX5_isMissing) (nL := 1) (by decide) rfl (Nat.le_of_ble_eq_true rfl) (fun p e s m args below meth c R Q X hR hend H locs ls w hl => ?_)
  subst hR
  obtain ⟨hx, hb, hml, hown, hts⟩ := id X.1
  have hin5 : ∀ w ∈ wsX50, w ∈ wsX5_isMissing := fun w h => List.mem_cons_of_mem _ (List.mem_append_right _ h)
  have hl : lv_has ls 1 [(0, .ref (oa (11 + r)))] := hl
  refine lv_aload_n hx hb dX5_isMissing_0 rfl (lv_at hl 0 rfl) ?_
  refine ob_get X w ho (11 + r) (by omega) (C0 := RX5) (T := TX5) (N := 3) (ci := 4) (ob_eR hr) hin5 rfl 0 (by decide) (List.mem_of_getElem? (i := 1) rfl) rfl rfl dX5_isMissing_1 ?_
  refine lv_iconst (v := (-1)) hx hb dX5_isMissing_4 (by decide) ?_
  refine lv_icmp_ne (tgt := 12) hx hb dX5_isMissing_5 (by decide) (fun c_5 => ?_) (fun c_5 => ?_)
  · refine lv_iconst (v := 0) hx hb dX5_isMissing_12 (by decide) ?_
    exact hend H locs (0) (L, ob_W D f oa C mr im mk ad n g) _ ls w ⟨(if_neg c_5).symm, rfl⟩ (by decide) dX5_isMissing_13
  · refine lv_iconst (v := 1) hx hb dX5_isMissing_8 (by decide) ?_
    refine lv_goto (tgt := 13) hx hb dX5_isMissing_9 (by decide) ?_
    exact hend H locs (1) (L, ob_W D f oa C mr im mk ad n g) _ ls w ⟨(if_pos c_5).symm, rfl⟩ (by decide) dX5_isMissing_13
set_option maxRecDepth 100000 in
set_option maxHeartbeats 4000000 in
theorem c_X5_has (l : Launch) (D : va_G) (b0 : Nat) (L : List Nat) (f : Nat → va_E) (oa : Nat → Nat) (C : Nat → Nat → Int32) (mr : Nat) (im : Nat → Option Nat) (mk : Nat) (ad : Nat → Nat) (n : Nat) (g : Nat → Int32) (hm : mk_ok L mk ad n) (hs : mk_sr g n) (ho : ob_ok L oa mk ad n) (r : Nat) (hr : r < 8) (x k : Int32) : hg_Fi l yX5_has wsX5_has ({ frames := 0, cells := 0, slots := 0, locals := 0 }) D b0 L (ob_W D f oa C mr im mk ad n g) [.ref (oa (11 + r)), .int (x), .int (k)] (mk_has (C 4 r) x k) (ob_W D f oa C mr im mk ad n g) := by
  refine hg_in_i (cc := cX5_has) (nL := 3) (by decide) rfl (Nat.le_of_ble_eq_true rfl) (fun p e s m args below meth c R Q X hR hend H locs ls w hl => ?_)
  subst hR
  obtain ⟨hx, hb, hml, hown, hts⟩ := id X.1
  have hin5 : ∀ w ∈ wsX50, w ∈ wsX5_has := fun w h => List.mem_cons_of_mem _ (List.mem_append_right _ h)
  have hl : lv_has ls 3 [(0, .ref (oa (11 + r))), (1, .int (x)), (2, .int (k))] := hl
  refine lv_iload_n hx hb dX5_has_0 rfl (lv_at hl 1 rfl) ?_
  refine lv_if_lt (tgt := 30) hx hb dX5_has_1 (by decide) (fun c_1 => ?_) (fun c_1 => ?_)
  · refine lv_iconst (v := 0) hx hb dX5_has_30 (by decide) ?_
    exact hend H locs (0) (L, ob_W D f oa C mr im mk ad n g) _ ls w ⟨(if_neg (fun q => absurd q.1 (Int32.not_le.mpr c_1))).symm, rfl⟩ (by decide) dX5_has_31
  · refine lv_iload_n hx hb dX5_has_4 rfl (lv_at hl 2 rfl) ?_
    refine lv_if_lt (tgt := 30) hx hb dX5_has_5 (by decide) (fun c_5 => ?_) (fun c_5 => ?_)
    · refine lv_iconst (v := 0) hx hb dX5_has_30 (by decide) ?_
      exact hend H locs (0) (L, ob_W D f oa C mr im mk ad n g) _ ls w ⟨(if_neg (fun q => absurd q.2.1 (Int32.not_le.mpr c_5))).symm, rfl⟩ (by decide) dX5_has_31
    · refine lv_iload_n hx hb dX5_has_8 rfl (lv_at hl 2 rfl) ?_
      refine lv_aload_n hx hb dX5_has_9 rfl (lv_at hl 0 rfl) ?_
      refine ob_get X w ho (11 + r) (by omega) (C0 := RX5) (T := TX5) (N := 3) (ci := 4) (ob_eR hr) hin5 rfl 1 (by decide) (List.mem_of_getElem? (i := 1) rfl) rfl rfl dX5_has_10 ?_
      refine lv_icmp_gt (tgt := 30) hx hb dX5_has_13 (by decide) (fun c_13 => ?_) (fun c_13 => ?_)
      · refine lv_iconst (v := 0) hx hb dX5_has_30 (by decide) ?_
        exact hend H locs (0) (L, ob_W D f oa C mr im mk ad n g) _ ls w ⟨(if_neg (fun q => absurd q.2.2.1 (Int32.not_le.mpr c_13))).symm, rfl⟩ (by decide) dX5_has_31
      · refine lv_iload_n hx hb dX5_has_16 rfl (lv_at hl 1 rfl) ?_
        refine lv_aload_n hx hb dX5_has_17 rfl (lv_at hl 0 rfl) ?_
        refine ob_get X w ho (11 + r) (by omega) (C0 := RX5) (T := TX5) (N := 3) (ci := 4) (ob_eR hr) hin5 rfl 1 (by decide) (List.mem_of_getElem? (i := 1) rfl) rfl rfl dX5_has_18 ?_
        refine lv_iload_n hx hb dX5_has_21 rfl (lv_at hl 2 rfl) ?_
        refine lv_isub hx hb dX5_has_22 ?_
        refine lv_icmp_gt (tgt := 30) hx hb dX5_has_23 (by decide) (fun c_23 => ?_) (fun c_23 => ?_)
        · refine lv_iconst (v := 0) hx hb dX5_has_30 (by decide) ?_
          exact hend H locs (0) (L, ob_W D f oa C mr im mk ad n g) _ ls w ⟨(if_neg (fun q => absurd q.2.2.2 (Int32.not_le.mpr c_23))).symm, rfl⟩ (by decide) dX5_has_31
        · refine lv_iconst (v := 1) hx hb dX5_has_26 (by decide) ?_
          refine lv_goto (tgt := 31) hx hb dX5_has_27 (by decide) ?_
          exact hend H locs (1) (L, ob_W D f oa C mr im mk ad n g) _ ls w ⟨(if_pos ⟨Int32.not_lt.mp c_1, Int32.not_lt.mp c_5, Int32.not_lt.mp c_13, Int32.not_lt.mp c_23⟩).symm, rfl⟩ (by decide) dX5_has_31
set_option maxRecDepth 100000 in
set_option maxHeartbeats 4000000 in
theorem c_X5_cutToLane (l : Launch) (D : va_G) (b0 : Nat) (L : List Nat) (f : Nat → va_E) (oa : Nat → Nat) (C : Nat → Nat → Int32) (mr : Nat) (im : Nat → Option Nat) (mk : Nat) (ad : Nat → Nat) (n : Nat) (g : Nat → Int32) (hm : mk_ok L mk ad n) (hs : mk_sr g n) (ho : ob_ok L oa mk ad n) (r : Nat) (hr : r < 8) (v : Int32) : hg_Fi l yX5_cutToLane wsX5_cutToLane ({ frames := 0, cells := 0, slots := 0, locals := 0 }) D b0 L (ob_W D f oa C mr im mk ad n g) [.ref (oa (11 + r)), .int (v)] (hs_cut (C 3 r) v) (ob_W D f oa C mr im mk ad n g) := by
  refine hg_in_i (cc := cX5_cutToLane) (nL := 2) (by decide) rfl (Nat.le_of_ble_eq_true rfl) (fun p e s m args below meth c R Q X hR hend H locs ls w hl => ?_)
  subst hR
  obtain ⟨hx, hb, hml, hown, hts⟩ := id X.1
  have hin5 : ∀ w ∈ wsX50, w ∈ wsX5_cutToLane := fun w h => List.mem_cons_of_mem _ (List.mem_append_right _ h)
  have hl : lv_has ls 2 [(0, .ref (oa (11 + r))), (1, .int (v))] := hl
  refine lv_aload_n hx hb dX5_cutToLane_0 rfl (lv_at hl 0 rfl) ?_
  refine ob_get X w ho (11 + r) (by omega) (C0 := RX5) (T := TX5) (N := 3) (ci := 4) (ob_eR hr) hin5 rfl 0 (by decide) (List.mem_of_getElem? (i := 1) rfl) rfl rfl dX5_cutToLane_1 ?_
  by_cases s_4_0 : (C 3 r) = 0
  · refine lv_lookup (off := 28) (tgt := 32) hx hb dX5_cutToLane_4 (by decide) (by rw [s_4_0]; decide) (by decide) ?_
    refine lv_iload_n hx hb dX5_cutToLane_32 rfl (lv_at hl 1 rfl) ?_
    refine lv_i2b hx hb dX5_cutToLane_33 rfl ?_
    exact hend H locs ((v).toInt8.toInt32) (L, ob_W D f oa C mr im mk ad n g) _ ls w ⟨(by simp [hs_cut, s_4_0]), rfl⟩ rfl dX5_cutToLane_34
  by_cases s_4_1 : (C 3 r) = 1
  · refine lv_lookup (off := 31) (tgt := 35) hx hb dX5_cutToLane_4 (by decide) (by rw [s_4_1]; decide) (by decide) ?_
    refine lv_iload_n hx hb dX5_cutToLane_35 rfl (lv_at hl 1 rfl) ?_
    refine lv_i2s hx hb dX5_cutToLane_36 rfl ?_
    exact hend H locs ((v).toInt16.toInt32) (L, ob_W D f oa C mr im mk ad n g) _ ls w ⟨(by simp [hs_cut, s_4_0, s_4_1]), rfl⟩ rfl dX5_cutToLane_37
  refine lv_lookup (off := 34) (tgt := 38) hx hb dX5_cutToLane_4 (by decide) (by rw [lv_osw s_4_0 (by decide)]; rw [lv_osw s_4_1 (by decide)]; rfl) (by decide) ?_
  refine lv_iload_n hx hb dX5_cutToLane_38 rfl (lv_at hl 1 rfl) ?_
  exact hend H locs (v) (L, ob_W D f oa C mr im mk ad n g) _ ls w ⟨(by simp [hs_cut, s_4_0, s_4_1]), rfl⟩ rfl dX5_cutToLane_39
theorem hdX5_has : yX5_has.cls = RX5 ∧ yX5_has.cls ≠ "java/lang/invoke/MethodHandle" ∧ yX5_has.cls ≠ "java/lang/invoke/VarHandle" ∧ (parseMethodDescriptor yX5_has.desc).map (fun d => d.parameters.length) = some 2 := by decide +kernel
set_option maxRecDepth 100000 in
set_option maxHeartbeats 4000000 in
theorem c_X3_hangsAs (l : Launch) (D : va_G) (b0 : Nat) (L : List Nat) (f : Nat → va_E) (oa : Nat → Nat) (C : Nat → Nat → Int32) (mr : Nat) (im : Nat → Option Nat) (mk : Nat) (ad : Nat → Nat) (n : Nat) (g : Nat → Int32) (hm : mk_ok L mk ad n) (hs : mk_sr g n) (ho : ob_ok L oa mk ad n) (nr : Nat) (ht : mk_t g nr) (r : Nat) (hr : r < 8) (x : Nat) (hx40 : x + n ≤ 40) (hhas : mk_has (C 4 r) (nI x) (g 3) = 1) : hg_Fi l yX3_hangsAs wsX3_hangsAs ({ frames := 4, cells := 0, slots := 0, locals := 90 }) D b0 L (ob_W D f oa C mr im mk ad n g) [.ref mk, .ref (oa (11 + r)), .int (nI x)] (mk_so g n (C 5) (40 * r + x) n) (ob_W D f oa C mr im mk ad n g) := by
  refine hg_in_i (cc := cX3_hangsAs) (nL := 7) (by decide) rfl (Nat.le_of_ble_eq_true rfl) (fun p e s m args below meth c R Q X hR hend H locs ls w hl => ?_)
  subst hR
  obtain ⟨hx, hb, hml, hown, hts⟩ := id X.1
  have hin : mk_in wsX3_hangsAs := ⟨fun w h => List.mem_cons_of_mem _ (List.mem_append_left _ (List.mem_append_left _ (List.mem_append_left _ (List.mem_append_left _ (List.mem_append_right _ h))))), fun w h => List.mem_cons_of_mem _ (List.mem_append_left _ (List.mem_append_left _ (List.mem_append_left _ (List.mem_append_right _ h)))), fun w h => List.mem_cons_of_mem _ (List.mem_append_left _ (List.mem_append_left _ (List.mem_append_right _ h))), fun w h => List.mem_cons_of_mem _ (List.mem_append_left _ (List.mem_append_right _ h)), fun w h => List.mem_cons_of_mem _ (List.mem_append_right _ h)⟩
  have hin3 : ∀ w ∈ wsX30, w ∈ wsX3_hangsAs := fun w h => List.mem_cons_of_mem _ (List.mem_append_left _ (List.mem_append_left _ (List.mem_append_left _ (List.mem_append_left _ (List.mem_append_left _ (List.mem_append_left _ (List.mem_append_right _ h)))))))
  have hin5 : ∀ w ∈ wsX50, w ∈ wsX3_hangsAs := fun w h => List.mem_cons_of_mem _ (List.mem_append_left _ (List.mem_append_left _ (List.mem_append_left _ (List.mem_append_left _ (List.mem_append_left _ (List.mem_append_right _ h))))))
  have hl : lv_has ls 7 [(0, .ref mk), (1, .ref (oa (11 + r))), (2, .int (nI x))] := hl
  have hn6 := hs.2.1
  refine lv_aload_n hx hb dX3_hangsAs_0 rfl (lv_at hl 1 rfl) ?_
  refine lv_iload_n hx hb dX3_hangsAs_1 rfl (lv_at hl 2 rfl) ?_
  refine lv_aload_n hx hb dX3_hangsAs_2 rfl (lv_at hl 0 rfl) ?_
  refine mk_getM X w hm hin3 3 (by decide) (List.mem_of_getElem? (i := 1) rfl) rfl dX3_hangsAs_3 ?_
  refine hg_viF (r := (mk_has (C 4 r) (nI x) (g 3))) (As := [.int (nI x), .int (g 3)]) (rest := []) X w (c_X5_has l D b0 L f oa C mr im mk ad n g hm hs ho r hr (nI x) (g 3)) (cwV 2 hts gX3_hangsAs_X5_has rfl rfl rfl hdX5_has ⟨Nat.le_of_ble_eq_true rfl, Nat.le_of_ble_eq_true rfl⟩) (ho.1 (11 + r) (by omega)).1 (by rw [ow_at ho (k := 11 + r) (by omega)]; exact ob_eR hr) rfl rfl rfl hl.1 rfl (Nat.le_of_ble_eq_true rfl) dX3_hangsAs_6 ⟨Nat.zero_le _, Nat.zero_le _⟩ (fun H locs w => ?_)
  refine lv_if_ne (tgt := 14) hx hb dX3_hangsAs_9 (by decide) (fun c_9 => ?_) (fun c_9 => ?_)
  · refine lv_aload_n hx hb dX3_hangsAs_14 rfl (lv_at hl 0 rfl) ?_
    refine mk_getM X w hm hin3 5 (by decide) (List.mem_of_getElem? (i := 2) rfl) rfl dX3_hangsAs_15 ?_
    refine lv_astore_n (lv' := [(3, .ref (ad 1)), (0, .ref mk), (1, .ref (oa (11 + r))), (2, .int (nI x))]) hx hb dX3_hangsAs_18 rfl hl (by decide) rfl (fun ls hl => ?_)
    refine lv_aload_n hx hb dX3_hangsAs_19 rfl (lv_at hl 0 rfl) ?_
    refine mk_len X w hm dX3_hangsAs_20 ?_
    refine lv_istore (lv' := [(4, .int (6)), (3, .ref (ad 1)), (0, .ref mk), (1, .ref (oa (11 + r))), (2, .int (nI x))]) hx hb dX3_hangsAs_21 hl (by decide) rfl (fun ls hl => ?_)
    refine lv_iconst (v := 0) hx hb dX3_hangsAs_23 (by decide) ?_
    refine lv_istore (lv' := [(5, .int (0)), (4, .int (6)), (3, .ref (ad 1)), (0, .ref mk), (1, .ref (oa (11 + r))), (2, .int (nI x))]) hx hb dX3_hangsAs_24 hl (by decide) rfl (fun ls hl => ?_)
    have loop : ∀ (n0 k : Nat), k ≤ 6 → 6 + 1 ≤ k + n0 → mk_so g n (C 5) (40 * r + x) (min k n) = 1 → ∀ (H : Heap) (locs : List Loc) (ls : Array Slot), hg_W D b0 L (ob_W D f oa C mr im mk ad n g) s.heap H locs → lv_has ls 7 [(0, .ref mk), (1, .ref (oa (11 + r))), (2, .int (nI x)), (3, .ref (ad 1)), (4, .int (6)), (5, .int (nI k))] → W p l e ({ frames := 4, cells := 0, slots := 0, locals := 90 }) s m args below meth c H locs 0 0 Q (F0 m 26 ls []) := by
      intro n0
      induction n0 with
      | zero =>
        intro k h1 h2
        exact absurd h2 (by omega)
      | succ n0 ih =>
        intro k hk hn0 h0 H locs ls w hl
        refine lv_iload hx hb dX3_hangsAs_26 (lv_at hl 5 rfl) ?_
        refine lv_iload hx hb dX3_hangsAs_28 (lv_at hl 4 rfl) ?_
        refine lv_icmp_ge (tgt := 81) hx hb dX3_hangsAs_30 (by decide) (fun c_30 => ?_) (fun c_30 => ?_)
        · have hk : 6 = k := by
            rcases Nat.lt_or_ge k 6 with q | q
            · exact absurd c_30 (nI_ge (a := k) (b := 6) q (by omega))
            · omega
          subst hk
          refine lv_iconst (v := 1) hx hb dX3_hangsAs_81 (by decide) ?_
          exact hend H locs (1) (L, ob_W D f oa C mr im mk ad n g) _ ls w ⟨(by rw [show min 6 n = n by omega] at h0; exact h0.symm), rfl⟩ (by decide) dX3_hangsAs_82
        · have hkl : k < 6 := by
            rcases Nat.lt_or_ge k 6 with q | q
            · exact q
            · exact absurd (nI_le (a := 6) (b := k) q (by omega)) c_30
          refine lv_aload_n hx hb dX3_hangsAs_33 rfl (lv_at hl 3 rfl) ?_
          refine lv_iload hx hb dX3_hangsAs_34 (lv_at hl 5 rfl) ?_
          refine mk_ald X w hm k rfl (by omega) dX3_hangsAs_36 (fun hjk => ?_) (fun hjk => ?_)
          · refine lv_astore (lv' := [(6, .ref (ad (2 + k))), (0, .ref mk), (1, .ref (oa (11 + r))), (2, .int (nI x)), (3, .ref (ad 1)), (4, .int (6)), (5, .int (nI k))]) hx hb dX3_hangsAs_37 hl (by decide) rfl (fun ls hl => ?_)
            refine lv_aload hx hb dX3_hangsAs_39 (lv_at hl 0 rfl) ?_
            refine lv_ifnull hx hb dX3_hangsAs_41 ?_
            refine lv_aload_n hx hb dX3_hangsAs_44 rfl (lv_at hl 2 rfl) ?_
            refine ob_get X w ho (11 + r) (by omega) (C0 := RX5) (T := TX5) (N := 3) (ci := 4) (ob_eR hr) hin5 rfl 2 (by decide) (List.mem_of_getElem? (i := 3) rfl) rfl rfl dX3_hangsAs_45 ?_
            refine lv_iload_n hx hb dX3_hangsAs_48 rfl (lv_at hl 3 rfl) ?_
            refine lv_aload hx hb dX3_hangsAs_49 (lv_at hl 0 rfl) ?_
            refine mk_get X w hm hs hin hjk 0 (by decide) (List.mem_of_getElem? (i := 4) rfl) (Or.inl rfl) rfl dX3_hangsAs_51 ?_
            refine lv_iadd hx hb dX3_hangsAs_54 ?_
            refine ob_itald X w ho hr (x + k) (hs_addI rfl rfl) (by omega) dX3_hangsAs_55 ?_
            refine lv_aload_n hx hb dX3_hangsAs_56 rfl (lv_at hl 1 rfl) ?_
            refine lv_aload hx hb dX3_hangsAs_57 (lv_at hl 0 rfl) ?_
            refine mk_get X w hm hs hin hjk 1 (by decide) (List.mem_of_getElem? (i := 5) rfl) (Or.inl rfl) rfl dX3_hangsAs_59 ?_
            refine lv_aload hx hb dX3_hangsAs_62 (lv_at hl 0 rfl) ?_
            refine mk_get X w hm hs hin hjk 2 (by decide) (List.mem_of_getElem? (i := 6) rfl) (Or.inl rfl) rfl dX3_hangsAs_64 ?_
            refine hg_viF (r := (hs_depth g n (g (14 + k)) (g (20 + k)))) (As := [.int (g (14 + k)), .int (g (20 + k))]) (rest := [.int (C 5 (40 * r + (x + k)))]) X w (c_X3_depth l D b0 L (ob_F D f oa C mr im) mk ad n g hm hs nr ht (g (14 + k)) (g (20 + k))) (cwV 2 hts gX3_hangsAs_X3_depth rfl rfl rfl hdX3_depth ⟨Nat.le_of_ble_eq_true rfl, Nat.le_of_ble_eq_true rfl⟩) hm.1 (mk_at0 D _ mk ad n _) rfl rfl rfl hl.1 rfl (Nat.le_of_ble_eq_true rfl) dX3_hangsAs_67 ⟨Nat.zero_le _, Nat.zero_le _⟩ (fun H locs w => ?_)
            refine lv_icmp_eq (tgt := 75) hx hb dX3_hangsAs_70 (by decide) (fun c_70 => ?_) (fun c_70 => ?_)
            · refine lv_iinc (v := nI k + 1) (lv' := [(5, .int (nI k + 1)), (6, .ref (ad (2 + k))), (0, .ref mk), (1, .ref (oa (11 + r))), (2, .int (nI x)), (3, .ref (ad 1)), (4, .int (6))]) hx hb dX3_hangsAs_75 hl (k := 6) rfl rfl (by decide) rfl (fun ls hl => ?_)
              refine lv_goto (tgt := 26) hx hb dX3_hangsAs_78 (by decide) ?_
              have hl := hs_lv hl (k := 0) rfl (nI_1 k)
              exact ih (k + 1) (by omega) (by omega) (mk_so_y hjk h0 (by rw [Nat.add_assoc]; exact c_70)) H locs ls w (lv_sub hl [2, 3, 4, 5, 6, 0] rfl)
            · refine lv_iconst (v := 0) hx hb dX3_hangsAs_73 (by decide) ?_
              exact hend H locs (0) (L, ob_W D f oa C mr im mk ad n g) _ ls w ⟨(mk_so_n hjk h0 (by rw [Nat.add_assoc]; exact c_70)), rfl⟩ (by decide) dX3_hangsAs_74
          · refine lv_astoreN (lv' := [(6, .null), (0, .ref mk), (1, .ref (oa (11 + r))), (2, .int (nI x)), (3, .ref (ad 1)), (4, .int (6)), (5, .int (nI k))]) hx hb dX3_hangsAs_37 hl (by decide) rfl (fun ls hl => ?_)
            refine lv_aloadN hx hb dX3_hangsAs_39 (lv_at hl 0 rfl) ?_
            refine lv_ifnullN (tgt := 75) hx hb dX3_hangsAs_41 (by decide) ?_
            refine lv_iinc (v := nI k + 1) (lv' := [(5, .int (nI k + 1)), (6, .null), (0, .ref mk), (1, .ref (oa (11 + r))), (2, .int (nI x)), (3, .ref (ad 1)), (4, .int (6))]) hx hb dX3_hangsAs_75 hl (k := 6) rfl rfl (by decide) rfl (fun ls hl => ?_)
            refine lv_goto (tgt := 26) hx hb dX3_hangsAs_78 (by decide) ?_
            have hl := hs_lv hl (k := 0) rfl (nI_1 k)
            exact ih (k + 1) (by omega) (by omega) (mk_so_0 hjk h0) H locs ls w (lv_sub hl [2, 3, 4, 5, 6, 0] rfl)
    exact loop 7 0 (by omega) (by omega) (by rw [show min 0 n = 0 by omega]; rfl) H locs ls w (lv_sub hl [3, 4, 5, 2, 1, 0] rfl)
  · exact absurd c_9 (by rw [hhas]; decide)
