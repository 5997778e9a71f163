set_option maxRecDepth 100000 in
set_option maxHeartbeats 4000000 in
theorem c_X8_byteAt (l : Launch) (D : va_G) (b0 : Nat) (L : List Nat) (f : Nat → va_E) (oa : Nat → Nat) (C : Nat → Nat → Int32) (mr : Nat) (im : Nat → Option Nat) (mk : Nat) (ad : Nat → Nat) (n : Nat) (g : Nat → Int32) (hm : mk_ok L mk ad n) (hs : mk_sr g n) (ho : ob_ok L oa mk ad n) (x : Int32) : hg_Fi l yX8_byteAt wsX8_byteAt ({ frames := 0, cells := 0, slots := 0, locals := 0 }) D b0 L (ob_W D f oa C mr im mk ad n g) [.ref (oa 2), .int (x)] (mk_by C x) (ob_W D f oa C mr im mk ad n g) := by
  refine hg_in_i (cc := cX8_byteAt) (nL := 2) (by decide) rfl (Nat.le_of_ble_eq_true rfl) (fun p e s m args below meth c R Q X hR hend H locs ls w hl => ?_)
  subst hR
  obtain ⟨hx, hb, hml, hown, hts⟩ := id X.1
  have hin8 : ∀ w ∈ wsX80, w ∈ wsX8_byteAt := fun w h => List.mem_cons_of_mem _ (List.mem_append_right _ h)
  have hl : lv_has ls 2 [(0, .ref (oa 2)), (1, .int (x))] := hl
  refine lv_iload_n hx hb dX8_byteAt_0 rfl (lv_at hl 1 rfl) ?_
  refine lv_if_lt (tgt := 18) hx hb dX8_byteAt_1 (by decide) (fun c_1 => ?_) (fun c_1 => ?_)
  · refine lv_ldc (v := (-1000000)) hx hb hown (hts _ (List.mem_of_getElem? (i := 2) rfl)) dX8_byteAt_18 ?_
    refine lv_goto (tgt := 29) hx hb dX8_byteAt_20 (by decide) ?_
    exact hend H locs ((-1000000)) (L, ob_W D f oa C mr im mk ad n g) _ ls w ⟨(if_pos (Or.inl c_1)).symm, rfl⟩ rfl dX8_byteAt_29
  · refine lv_iload_n hx hb dX8_byteAt_4 rfl (lv_at hl 1 rfl) ?_
    refine lv_aload_n hx hb dX8_byteAt_5 rfl (lv_at hl 0 rfl) ?_
    refine ob_get X w ho 2 (by decide) (C0 := RX8) (T := TX8) (N := 5) (ci := 6) rfl hin8 rfl 1 (by decide) (List.mem_of_getElem? (i := 1) rfl) rfl rfl dX8_byteAt_6 ?_
    refine lv_icmp_ge (tgt := 18) hx hb dX8_byteAt_9 (by decide) (fun c_9 => ?_) (fun c_9 => ?_)
    · refine lv_ldc (v := (-1000000)) hx hb hown (hts _ (List.mem_of_getElem? (i := 2) rfl)) dX8_byteAt_18 ?_
      refine lv_goto (tgt := 29) hx hb dX8_byteAt_20 (by decide) ?_
      exact hend H locs ((-1000000)) (L, ob_W D f oa C mr im mk ad n g) _ ls w ⟨(if_pos (Or.inr (Or.inl c_9))).symm, rfl⟩ rfl dX8_byteAt_29
    · refine lv_iload_n hx hb dX8_byteAt_12 rfl (lv_at hl 1 rfl) ?_
      refine lv_bipush (v := 100) hx hb dX8_byteAt_13 (by decide) ?_
      refine lv_icmp_lt (tgt := 23) hx hb dX8_byteAt_15 (by decide) (fun c_15 => ?_) (fun c_15 => ?_)
      · obtain ⟨j5, hj5, hje⟩ : ∃ q : Nat, q < 100 ∧ x = nI q := by
          obtain ⟨q, hq, e⟩ := nI_of c_1
          rw [e] at c_15 ⊢
          exact ⟨q, (nI_ltI (b := 100) hq (by decide)).mp c_15, rfl⟩
        refine lv_aload_n hx hb dX8_byteAt_23 rfl (lv_at hl 0 rfl) ?_
        refine ob_get X w ho 2 (by decide) (C0 := RX8) (T := TX8) (N := 5) (ci := 6) rfl hin8 rfl 0 (by decide) (List.mem_of_getElem? (i := 3) rfl) rfl rfl dX8_byteAt_24 ?_
        refine lv_iload_n hx hb dX8_byteAt_27 rfl (lv_at hl 1 rfl) ?_
        refine ob_ald X w ho 3 (by decide) (N := 100) rfl j5 hje (by omega) (by decide) dX8_byteAt_28 ?_
        exact hend H locs (C 8 j5) (L, ob_W D f oa C mr im mk ad n g) _ ls w ⟨(by unfold mk_by; rw [if_neg (fun q => q.elim c_1 (fun q => q.elim c_9 (fun q => absurd c_15 (Int32.not_lt.mpr q)))), hje, nI_clamp (by omega)]), rfl⟩ rfl dX8_byteAt_29
      · refine lv_ldc (v := (-1000000)) hx hb hown (hts _ (List.mem_of_getElem? (i := 2) rfl)) dX8_byteAt_18 ?_
        refine lv_goto (tgt := 29) hx hb dX8_byteAt_20 (by decide) ?_
        exact hend H locs ((-1000000)) (L, ob_W D f oa C mr im mk ad n g) _ ls w ⟨(if_pos (Or.inr (Or.inr (Int32.not_lt.mp c_15)))).symm, rfl⟩ rfl dX8_byteAt_29
theorem hdX8_byteAt : yX8_byteAt.cls = RX8 ∧ yX8_byteAt.cls ≠ "java/lang/invoke/MethodHandle" ∧ yX8_byteAt.cls ≠ "java/lang/invoke/VarHandle" ∧ (parseMethodDescriptor yX8_byteAt.desc).map (fun d => d.parameters.length) = some 1 := by decide +kernel
set_option maxRecDepth 100000 in
set_option maxHeartbeats 4000000 in
theorem c_X8_next (l : Launch) (D : va_G) (b0 : Nat) (L : List Nat) (f : Nat → va_E) (oa : Nat → Nat) (C : Nat → Nat → Int32) (mr : Nat) (im : Nat → Option Nat) (mk : Nat) (ad : Nat → Nat) (n : Nat) (g : Nat → Int32) (hm : mk_ok L mk ad n) (hs : mk_sr g n) (ho : ob_ok L oa mk ad n)  : hg_Fi l yX8_next wsX8_next ({ frames := 1, cells := 0, slots := 0, locals := 21 }) D b0 L (ob_W D f oa C mr im mk ad n g) [.ref (oa 2)] (mk_by C (C 24 0)) (ob_W D f oa C mr im mk ad n g) := by
  refine hg_in_i (cc := cX8_next) (nL := 1) (by decide) rfl (Nat.le_of_ble_eq_true rfl) (fun p e s m args below meth c R Q X hR hend H locs ls w hl => ?_)
  subst hR
  obtain ⟨hx, hb, hml, hown, hts⟩ := id X.1
  have hin8 : ∀ w ∈ wsX80, w ∈ wsX8_next := fun w h => List.mem_cons_of_mem _ (List.mem_append_right _ h)
  have hl : lv_has ls 1 [(0, .ref (oa 2))] := hl
  refine lv_aload_n hx hb dX8_next_0 rfl (lv_at hl 0 rfl) ?_
  refine lv_aload_n hx hb dX8_next_1 rfl (lv_at hl 0 rfl) ?_
  refine ob_get X w ho 2 (by decide) (C0 := RX8) (T := TX8) (N := 5) (ci := 6) rfl hin8 rfl 2 (by decide) (List.mem_of_getElem? (i := 1) rfl) rfl rfl dX8_next_2 ?_
  refine hg_viF (r := (mk_by C (C 24 0))) (As := [.int (C 24 0)]) (rest := []) X w (c_X8_byteAt l D b0 L f oa C mr im mk ad n g hm hs ho (C 24 0)) (cwV 1 hts gX8_next_X8_byteAt rfl rfl rfl hdX8_byteAt ⟨Nat.le_of_ble_eq_true rfl, Nat.le_of_ble_eq_true rfl⟩) (ho.1 2 (by decide)).1 (ow_at ho (k := 2) (by decide)) rfl rfl rfl hl.1 rfl (Nat.le_of_ble_eq_true rfl) dX8_next_5 ⟨Nat.zero_le _, Nat.zero_le _⟩ (fun H locs w => ?_)
  exact hend H locs ((mk_by C (C 24 0))) (L, ob_W D f oa C mr im mk ad n g) _ ls w ⟨rfl, rfl⟩ rfl dX8_next_8
set_option maxRecDepth 100000 in
set_option maxHeartbeats 4000000 in
theorem c_X8_tellFault (l : Launch) (D : va_G) (b0 : Nat) (L : List Nat) (f : Nat → va_E) (oa : Nat → Nat) (C : Nat → Nat → Int32) (mr : Nat) (im : Nat → Option Nat) (mk : Nat) (ad : Nat → Nat) (n : Nat) (g : Nat → Int32) (hm : mk_ok L mk ad n) (hs : mk_sr g n) (ho : ob_ok L oa mk ad n) (num pl : Int32) : hg_Fv l yX8_tellFault wsX8_tellFault ({ frames := 0, cells := 0, slots := 0, locals := 0 }) D b0 L (ob_W D f oa C mr im mk ad n g) [.ref (oa 2), .int (num), .int (pl)] (ob_W D f oa (mk_tf C num pl) mr im mk ad n g) := by
  refine hg_in_v (cc := cX8_tellFault) (nL := 3) (by decide) rfl (Nat.le_of_ble_eq_true rfl) (fun p e s m args below meth c R Q X _ hR hend H locs ls w hl => ?_)
  subst hR
  obtain ⟨hx, hb, hml, hown, hts⟩ := id X.1
  have hin8 : ∀ w ∈ wsX80, w ∈ wsX8_tellFault := fun w h => List.mem_cons_of_mem _ (List.mem_append_right _ h)
  have hl : lv_has ls 3 [(0, .ref (oa 2)), (1, .int (num)), (2, .int (pl))] := hl
  refine lv_aload_n hx hb dX8_tellFault_0 rfl (lv_at hl 0 rfl) ?_
  refine ob_get X w ho 2 (by decide) (C0 := RX8) (T := TX8) (N := 5) (ci := 6) rfl hin8 rfl 3 (by decide) (List.mem_of_getElem? (i := 1) rfl) rfl rfl dX8_tellFault_1 ?_
  refine lv_if_ne (tgt := 17) hx hb dX8_tellFault_4 (by decide) (fun c_4 => ?_) (fun c_4 => ?_)
  · exact hend H locs (L, ob_W D f oa C mr im mk ad n g) _ ls w (ob_eq (if_neg c_4).symm rfl) dX8_tellFault_17
  · refine lv_aload_n hx hb dX8_tellFault_7 rfl (lv_at hl 0 rfl) ?_
    refine lv_iload_n hx hb dX8_tellFault_8 rfl (lv_at hl 1 rfl) ?_
    refine ob_put X w ho 2 (by decide) (C0 := RX8) (T := TX8) (N := 5) (ci := 6) rfl hin8 tyX8_ok nmX8 rfl 3 (by decide) (List.mem_of_getElem? (i := 1) rfl) rfl rfl rfl (by show _ < 5; decide) 25 0 rfl (ob_o0 _ _ (by decide) 0) dX8_tellFault_9 (fun H locs w => ?_)
    refine lv_aload_n hx hb dX8_tellFault_12 rfl (lv_at hl 0 rfl) ?_
    refine lv_iload_n hx hb dX8_tellFault_13 rfl (lv_at hl 2 rfl) ?_
    refine ob_put X w ho 2 (by decide) (C0 := RX8) (T := TX8) (N := 5) (ci := 6) rfl hin8 tyX8_ok nmX8 rfl 4 (by decide) (List.mem_of_getElem? (i := 2) rfl) rfl rfl rfl (by show _ < 5; decide) 26 0 rfl (ob_o0 _ _ (by decide) 0) dX8_tellFault_14 (fun H locs w => ?_)
    exact hend H locs (L, ob_W D f oa (mo_w (mo_w C 25 0 (num)) 26 0 (pl)) mr im mk ad n g) _ ls w (ob_eq (if_pos c_4).symm rfl) dX8_tellFault_17
theorem hdX8_next : yX8_next.cls = RX8 ∧ yX8_next.cls ≠ "java/lang/invoke/MethodHandle" ∧ yX8_next.cls ≠ "java/lang/invoke/VarHandle" ∧ (parseMethodDescriptor yX8_next.desc).map (fun d => d.parameters.length) = some 0 := by decide +kernel
theorem hdX8_tellFault : yX8_tellFault.cls = RX8 ∧ yX8_tellFault.cls ≠ "java/lang/invoke/MethodHandle" ∧ yX8_tellFault.cls ≠ "java/lang/invoke/VarHandle" ∧ (parseMethodDescriptor yX8_tellFault.desc).map (fun d => d.parameters.length) = some 2 := by decide +kernel
set_option maxRecDepth 100000 in
set_option maxHeartbeats 4000000 in
theorem c_X8_pass (l : Launch) (D : va_G) (b0 : Nat) (L : List Nat) (f : Nat → va_E) (oa : Nat → Nat) (C : Nat → Nat → Int32) (mr : Nat) (im : Nat → Option Nat) (mk : Nat) (ad : Nat → Nat) (n : Nat) (g : Nat → Int32) (hm : mk_ok L mk ad n) (hs : mk_sr g n) (ho : ob_ok L oa mk ad n) (letter : Int32) : hg_Fv l yX8_pass wsX8_pass ({ frames := 2, cells := 0, slots := 0, locals := 41 }) D b0 L (ob_W D f oa C mr im mk ad n g) [.ref (oa 2), .int (letter)] (ob_W D f oa (mk_pass C letter) mr im mk ad n g) := by
  refine hg_in_v (cc := cX8_pass) (nL := 2) (by decide) rfl (Nat.le_of_ble_eq_true rfl) (fun p e s m args below meth c R Q X _ hR hend H locs ls w hl => ?_)
  subst hR
  obtain ⟨hx, hb, hml, hown, hts⟩ := id X.1
  have hin8 : ∀ w ∈ wsX80, w ∈ wsX8_pass := fun w h => List.mem_cons_of_mem _ (List.mem_append_right _ h)
  have hl : lv_has ls 2 [(0, .ref (oa 2)), (1, .int (letter))] := hl
  refine lv_aload_n hx hb dX8_pass_0 rfl (lv_at hl 0 rfl) ?_
  refine ob_get X w ho 2 (by decide) (C0 := RX8) (T := TX8) (N := 5) (ci := 6) rfl hin8 rfl 3 (by decide) (List.mem_of_getElem? (i := 1) rfl) rfl rfl dX8_pass_1 ?_
  refine lv_if_ne (tgt := 28) hx hb dX8_pass_4 (by decide) (fun c_4 => ?_) (fun c_4 => ?_)
  · refine lv_aload_n hx hb dX8_pass_28 rfl (lv_at hl 0 rfl) ?_
    refine lv_iconst (v := 1) hx hb dX8_pass_29 (by decide) ?_
    refine lv_aload_n hx hb dX8_pass_30 rfl (lv_at hl 0 rfl) ?_
    refine ob_get X w ho 2 (by decide) (C0 := RX8) (T := TX8) (N := 5) (ci := 6) rfl hin8 rfl 2 (by decide) (List.mem_of_getElem? (i := 2) rfl) rfl rfl dX8_pass_31 ?_
    refine hg_vvF (As := [.int (1), .int (C 24 0)]) (rest := []) X w (c_X8_tellFault l D b0 L f oa C mr im mk ad n g hm hs ho 1 (C 24 0)) (cwV 2 hts gX8_pass_X8_tellFault rfl rfl rfl hdX8_tellFault ⟨Nat.le_of_ble_eq_true rfl, Nat.le_of_ble_eq_true rfl⟩) (ho.1 2 (by decide)).1 (ow_at ho (k := 2) (by decide)) rfl rfl rfl hl.1 rfl (Nat.le_of_ble_eq_true rfl) dX8_pass_34 ⟨Nat.zero_le _, Nat.zero_le _⟩ (fun H locs w => ?_)
    exact hend H locs (L, ob_W D f oa (mk_tf C 1 (C 24 0)) mr im mk ad n g) _ ls w (ob_eq (if_neg (fun q => c_4 q.1)).symm rfl) dX8_pass_37
  · refine lv_aload_n hx hb dX8_pass_7 rfl (lv_at hl 0 rfl) ?_
    refine hg_viF (r := (mk_by C (C 24 0))) (As := []) (rest := []) X w (c_X8_next l D b0 L f oa C mr im mk ad n g hm hs ho ) (cwV 0 hts gX8_pass_X8_next rfl rfl rfl hdX8_next ⟨Nat.le_of_ble_eq_true rfl, Nat.le_of_ble_eq_true rfl⟩) (ho.1 2 (by decide)).1 (ow_at ho (k := 2) (by decide)) rfl rfl rfl hl.1 rfl (Nat.le_of_ble_eq_true rfl) dX8_pass_8 ⟨Nat.zero_le _, Nat.zero_le _⟩ (fun H locs w => ?_)
    refine lv_iload_n hx hb dX8_pass_11 rfl (lv_at hl 1 rfl) ?_
    refine lv_icmp_ne (tgt := 28) hx hb dX8_pass_12 (by decide) (fun c_12 => ?_) (fun c_12 => ?_)
    · refine lv_aload_n hx hb dX8_pass_28 rfl (lv_at hl 0 rfl) ?_
      refine lv_iconst (v := 1) hx hb dX8_pass_29 (by decide) ?_
      refine lv_aload_n hx hb dX8_pass_30 rfl (lv_at hl 0 rfl) ?_
      refine ob_get X w ho 2 (by decide) (C0 := RX8) (T := TX8) (N := 5) (ci := 6) rfl hin8 rfl 2 (by decide) (List.mem_of_getElem? (i := 2) rfl) rfl rfl dX8_pass_31 ?_
      refine hg_vvF (As := [.int (1), .int (C 24 0)]) (rest := []) X w (c_X8_tellFault l D b0 L f oa C mr im mk ad n g hm hs ho 1 (C 24 0)) (cwV 2 hts gX8_pass_X8_tellFault rfl rfl rfl hdX8_tellFault ⟨Nat.le_of_ble_eq_true rfl, Nat.le_of_ble_eq_true rfl⟩) (ho.1 2 (by decide)).1 (ow_at ho (k := 2) (by decide)) rfl rfl rfl hl.1 rfl (Nat.le_of_ble_eq_true rfl) dX8_pass_34 ⟨Nat.zero_le _, Nat.zero_le _⟩ (fun H locs w => ?_)
      exact hend H locs (L, ob_W D f oa (mk_tf C 1 (C 24 0)) mr im mk ad n g) _ ls w (ob_eq (if_neg (fun q => c_12 q.2)).symm rfl) dX8_pass_37
    · refine lv_aload_n hx hb dX8_pass_15 rfl (lv_at hl 0 rfl) ?_
      refine lv_dup hx hb dX8_pass_16 rfl ?_
      refine ob_get X w ho 2 (by decide) (C0 := RX8) (T := TX8) (N := 5) (ci := 6) rfl hin8 rfl 2 (by decide) (List.mem_of_getElem? (i := 2) rfl) rfl rfl dX8_pass_17 ?_
      refine lv_iconst (v := 1) hx hb dX8_pass_20 (by decide) ?_
      refine lv_iadd hx hb dX8_pass_21 ?_
      refine ob_put X w ho 2 (by decide) (C0 := RX8) (T := TX8) (N := 5) (ci := 6) rfl hin8 tyX8_ok nmX8 rfl 2 (by decide) (List.mem_of_getElem? (i := 2) rfl) rfl rfl rfl (by show _ < 5; decide) 24 0 rfl (ob_o0 _ _ (by decide) 0) dX8_pass_22 (fun H locs w => ?_)
      refine lv_goto (tgt := 37) hx hb dX8_pass_25 (by decide) ?_
      exact hend H locs (L, ob_W D f oa (mo_w C 24 0 ((C 24 0 + 1))) mr im mk ad n g) _ ls w (ob_eq (if_pos ⟨c_4, c_12⟩).symm rfl) dX8_pass_37
set_option maxRecDepth 100000 in
set_option maxHeartbeats 4000000 in
theorem c_X8_isFigure (l : Launch) (D : va_G) (b0 : Nat) (L : List Nat) (f : Nat → va_E) (oa : Nat → Nat) (C : Nat → Nat → Int32) (mr : Nat) (im : Nat → Option Nat) (mk : Nat) (ad : Nat → Nat) (n : Nat) (g : Nat → Int32) (hm : mk_ok L mk ad n) (hs : mk_sr g n) (ho : ob_ok L oa mk ad n) (x : Int32) : hg_Fi l yX8_isFigure wsX8_isFigure ({ frames := 0, cells := 0, slots := 0, locals := 0 }) D b0 L (ob_W D f oa C mr im mk ad n g) [.int (x)] (hs_in x 48 57) (ob_W D f oa C mr im mk ad n g) := by
  refine hg_in_i (cc := cX8_isFigure) (nL := 1) (by decide) rfl (Nat.le_of_ble_eq_true rfl) (fun p e s m args below meth c R Q X hR hend H locs ls w hl => ?_)
  subst hR
  obtain ⟨hx, hb, hml, hown, hts⟩ := id X.1
  have hl : lv_has ls 1 [(0, .int (x))] := hl
  refine lv_iload_n hx hb dX8_isFigure_0 rfl (lv_at hl 0 rfl) ?_
  refine lv_bipush (v := 48) hx hb dX8_isFigure_1 (by decide) ?_
  refine lv_icmp_lt (tgt := 16) hx hb dX8_isFigure_3 (by decide) (fun c_3 => ?_) (fun c_3 => ?_)
  · refine lv_iconst (v := 0) hx hb dX8_isFigure_16 (by decide) ?_
    exact hend H locs (0) (L, ob_W D f oa C mr im mk ad n g) _ ls w ⟨(if_neg (fun q => absurd q.1 (Int32.not_le.mpr c_3))).symm, rfl⟩ (by decide) dX8_isFigure_17
  · refine lv_iload_n hx hb dX8_isFigure_6 rfl (lv_at hl 0 rfl) ?_
    refine lv_bipush (v := 57) hx hb dX8_isFigure_7 (by decide) ?_
    refine lv_icmp_gt (tgt := 16) hx hb dX8_isFigure_9 (by decide) (fun c_9 => ?_) (fun c_9 => ?_)
    · refine lv_iconst (v := 0) hx hb dX8_isFigure_16 (by decide) ?_
      exact hend H locs (0) (L, ob_W D f oa C mr im mk ad n g) _ ls w ⟨(if_neg (fun q => absurd q.2 (Int32.not_le.mpr c_9))).symm, rfl⟩ (by decide) dX8_isFigure_17
    · refine lv_iconst (v := 1) hx hb dX8_isFigure_12 (by decide) ?_
      refine lv_goto (tgt := 17) hx hb dX8_isFigure_13 (by decide) ?_
      exact hend H locs (1) (L, ob_W D f oa C mr im mk ad n g) _ ls w ⟨(if_pos ⟨Int32.not_lt.mp c_3, Int32.not_lt.mp c_9⟩).symm, rfl⟩ (by decide) dX8_isFigure_17
set_option maxRecDepth 100000 in
set_option maxHeartbeats 4000000 in
theorem c_X8_kindOf (l : Launch) (D : va_G) (b0 : Nat) (L : List Nat) (f : Nat → va_E) (oa : Nat → Nat) (C : Nat → Nat → Int32) (mr : Nat) (im : Nat → Option Nat) (mk : Nat) (ad : Nat → Nat) (n : Nat) (g : Nat → Int32) (hm : mk_ok L mk ad n) (hs : mk_sr g n) (ho : ob_ok L oa mk ad n) (x : Int32) : hg_Fi l yX8_kindOf wsX8_kindOf ({ frames := 0, cells := 0, slots := 0, locals := 0 }) D b0 L (ob_W D f oa C mr im mk ad n g) [.int (x)] (mk_kind x) (ob_W D f oa C mr im mk ad n g) := by
  refine hg_in_i (cc := cX8_kindOf) (nL := 1) (by decide) rfl (Nat.le_of_ble_eq_true rfl) (fun p e s m args below meth c R Q X hR hend H locs ls w hl => ?_)
  subst hR
  obtain ⟨hx, hb, hml, hown, hts⟩ := id X.1
  have hl : lv_has ls 1 [(0, .int (x))] := hl
  refine lv_iload_n hx hb dX8_kindOf_0 rfl (lv_at hl 0 rfl) ?_
  by_cases s_1_98 : x = 98
  · refine lv_lookup (off := 55) (tgt := 56) hx hb dX8_kindOf_1 (by decide) (by rw [s_1_98]; decide) (by decide) ?_
    refine lv_iconst (v := 3) hx hb dX8_kindOf_56 (by decide) ?_
    exact hend H locs (3) (L, ob_W D f oa C mr im mk ad n g) _ ls w ⟨(by simp [mk_kind, s_1_98]), rfl⟩ rfl dX8_kindOf_57
  by_cases s_1_106 : x = 106
  · refine lv_lookup (off := 53) (tgt := 54) hx hb dX8_kindOf_1 (by decide) (by rw [s_1_106]; decide) (by decide) ?_
    refine lv_iconst (v := 2) hx hb dX8_kindOf_54 (by decide) ?_
    exact hend H locs (2) (L, ob_W D f oa C mr im mk ad n g) _ ls w ⟨(by simp [mk_kind, s_1_98, s_1_106]), rfl⟩ rfl dX8_kindOf_55
  by_cases s_1_110 : x = 110
  · refine lv_lookup (off := 57) (tgt := 58) hx hb dX8_kindOf_1 (by decide) (by rw [s_1_110]; decide) (by decide) ?_
    refine lv_iconst (v := 4) hx hb dX8_kindOf_58 (by decide) ?_
    exact hend H locs (4) (L, ob_W D f oa C mr im mk ad n g) _ ls w ⟨(by simp [mk_kind, s_1_98, s_1_106, s_1_110]), rfl⟩ rfl dX8_kindOf_59
  by_cases s_1_116 : x = 116
  · refine lv_lookup (off := 51) (tgt := 52) hx hb dX8_kindOf_1 (by decide) (by rw [s_1_116]; decide) (by decide) ?_
    refine lv_iconst (v := 1) hx hb dX8_kindOf_52 (by decide) ?_
    exact hend H locs (1) (L, ob_W D f oa C mr im mk ad n g) _ ls w ⟨(by simp [mk_kind, s_1_98, s_1_106, s_1_110, s_1_116]), rfl⟩ rfl dX8_kindOf_53
  by_cases s_1_118 : x = 118
  · refine lv_lookup (off := 59) (tgt := 60) hx hb dX8_kindOf_1 (by decide) (by rw [s_1_118]; decide) (by decide) ?_
    refine lv_iconst (v := 5) hx hb dX8_kindOf_60 (by decide) ?_
    exact hend H locs (5) (L, ob_W D f oa C mr im mk ad n g) _ ls w ⟨(by simp [mk_kind, s_1_98, s_1_106, s_1_110, s_1_116, s_1_118]), rfl⟩ rfl dX8_kindOf_61
  refine lv_lookup (off := 61) (tgt := 62) hx hb dX8_kindOf_1 (by decide) (by rw [lv_osw s_1_98 (by decide)]; rw [lv_osw s_1_106 (by decide)]; rw [lv_osw s_1_110 (by decide)]; rw [lv_osw s_1_116 (by decide)]; rw [lv_osw s_1_118 (by decide)]; rfl) (by decide) ?_
  refine lv_ldc (v := (-1000000)) hx hb hown (hts _ (List.mem_of_getElem? (i := 1) rfl)) dX8_kindOf_62 ?_
  exact hend H locs ((-1000000)) (L, ob_W D f oa C mr im mk ad n g) _ ls w ⟨(by simp [mk_kind, s_1_98, s_1_106, s_1_110, s_1_116, s_1_118]), rfl⟩ rfl dX8_kindOf_64
theorem hdX8_isFigure : yX8_isFigure.cls ≠ "java/lang/invoke/MethodHandle" ∧ yX8_isFigure.cls ≠ "java/lang/invoke/VarHandle" ∧ (parseMethodDescriptor yX8_isFigure.desc).map (fun d => d.parameters.length) = some 1 := by decide +kernel
set_option maxRecDepth 100000 in
set_option maxHeartbeats 4000000 in
theorem c_X8_number (l : Launch) (D : va_G) (b0 : Nat) (L : List Nat) (f : Nat → va_E) (oa : Nat → Nat) (C : Nat → Nat → Int32) (mr : Nat) (im : Nat → Option Nat) (mk : Nat) (ad : Nat → Nat) (n : Nat) (g : Nat → Int32) (hm : mk_ok L mk ad n) (hs : mk_sr g n) (ho : ob_ok L oa mk ad n) (least most : Int32) : hg_Fi l yX8_number wsX8_number ({ frames := 1, cells := 0, slots := 0, locals := 22 }) D b0 L (ob_W D f oa C mr im mk ad n g) [.ref (oa 2), .int (least), .int (most)] ((mk_number C least most).1) (ob_W D f oa ((mk_number C least most).2) mr im mk ad n g) := by
  refine hg_in_i (cc := cX8_number) (nL := 6) (by decide) rfl (Nat.le_of_ble_eq_true rfl) (fun p e s m args below meth c R Q X hR hend H locs ls w hl => ?_)
  subst hR
  obtain ⟨hx, hb, hml, hown, hts⟩ := id X.1
  have hin8 : ∀ w ∈ wsX80, w ∈ wsX8_number := fun w h => List.mem_cons_of_mem _ (List.mem_append_right _ h)
  have hl : lv_has ls 6 [(0, .ref (oa 2)), (1, .int (least)), (2, .int (most))] := hl
  refine lv_aload_n hx hb dX8_number_0 rfl (lv_at hl 0 rfl) ?_
  refine ob_get X w ho 2 (by decide) (C0 := RX8) (T := TX8) (N := 5) (ci := 6) rfl hin8 rfl 2 (by decide) (List.mem_of_getElem? (i := 1) rfl) rfl rfl dX8_number_1 ?_
  refine lv_istore_n (lv' := [(3, .int (C 24 0)), (0, .ref (oa 2)), (1, .int (least)), (2, .int (most))]) hx hb dX8_number_4 rfl hl (by decide) rfl (fun ls hl => ?_)
  refine lv_iconst (v := 0) hx hb dX8_number_5 (by decide) ?_
  refine lv_istore (lv' := [(4, .int (0)), (3, .int (C 24 0)), (0, .ref (oa 2)), (1, .int (least)), (2, .int (most))]) hx hb dX8_number_6 hl (by decide) rfl (fun ls hl => ?_)
  refine lv_iconst (v := 0) hx hb dX8_number_8 (by decide) ?_
  refine lv_istore (lv' := [(5, .int (0)), (4, .int (0)), (3, .int (C 24 0)), (0, .ref (oa 2)), (1, .int (least)), (2, .int (most))]) hx hb dX8_number_9 hl (by decide) rfl (fun ls hl => ?_)
  have loop : ∀ (n0 k : Nat), k ≤ 3 → 3 + 1 ≤ k + n0 → (∀ j, j < k → ¬ mk_fg C (C 24 0) j = 0) → ∀ (H : Heap) (locs : List Loc) (ls : Array Slot), hg_W D b0 L (ob_W D f oa C mr im mk ad n g) s.heap H locs → lv_has ls 6 [(0, .ref (oa 2)), (1, .int (least)), (2, .int (most)), (3, .int (C 24 0)), (4, .int (mk_nv C (C 24 0) k)), (5, .int (nI k))] → W p l e ({ frames := 1, cells := 0, slots := 0, locals := 22 }) s m args below meth c H locs 0 0 Q (F0 m 11 ls []) := by
    intro n0
    induction n0 with
    | zero =>
      intro k h1 h2
      exact absurd h2 (by omega)
    | succ n0 ih =>
      intro k hk hn0 hI H locs ls w hl
      refine lv_iload hx hb dX8_number_11 (lv_at hl 5 rfl) ?_
      refine lv_iconst (v := 2) hx hb dX8_number_13 (by decide) ?_
      refine lv_icmp_gt (tgt := 56) hx hb dX8_number_14 (by decide) (fun c_14 => ?_) (fun c_14 => ?_)
      · have hk : 3 = k := by
          rcases Nat.lt_or_ge k 3 with q | q
          · exact absurd c_14 (nI_nlt (a := 2) (b := k) (by omega) (by omega))
          · omega
        subst hk
        have hfk := mk_fk_e hI (by omega) (Or.inl rfl)
        refine lv_iload hx hb dX8_number_56 (lv_at hl 5 rfl) ?_
        refine lv_iconst (v := 1) hx hb dX8_number_58 (by decide) ?_
        refine lv_icmp_lt (tgt := 68) hx hb dX8_number_59 (by decide) (fun c_59 => ?_) (fun c_59 => ?_)
        · refine lv_aload_n hx hb dX8_number_68 rfl (lv_at hl 0 rfl) ?_
          refine lv_iconst (v := 1) hx hb dX8_number_69 (by decide) ?_
          refine lv_iload_n hx hb dX8_number_70 rfl (lv_at hl 3 rfl) ?_
          refine hg_vvF (As := [.int (1), .int (C 24 0)]) (rest := []) X w (c_X8_tellFault l D b0 L f oa C mr im mk ad n g hm hs ho 1 (C 24 0)) (cwV 2 hts gX8_number_X8_tellFault rfl rfl rfl hdX8_tellFault ⟨Nat.le_of_ble_eq_true rfl, Nat.le_of_ble_eq_true rfl⟩) (ho.1 2 (by decide)).1 (ow_at ho (k := 2) (by decide)) rfl rfl rfl hl.1 rfl (Nat.le_of_ble_eq_true rfl) dX8_number_71 ⟨Nat.zero_le _, Nat.zero_le _⟩ (fun H locs w => ?_)
          refine lv_goto (tgt := 95) hx hb dX8_number_74 (by decide) ?_
          refine lv_aload_n hx hb dX8_number_95 rfl (lv_at hl 0 rfl) ?_
          refine ob_get X w ho 2 (by decide) (C0 := RX8) (T := TX8) (N := 5) (ci := 6) rfl hin8 rfl 3 (by decide) (List.mem_of_getElem? (i := 2) rfl) rfl rfl dX8_number_96 ?_
          refine lv_if_eq (tgt := 105) hx hb dX8_number_99 (by decide) (fun c_99 => ?_) (fun c_99 => ?_)
          · refine lv_aload_n hx hb dX8_number_105 rfl (lv_at hl 0 rfl) ?_
            refine lv_iload_n hx hb dX8_number_106 rfl (lv_at hl 3 rfl) ?_
            refine lv_iload hx hb dX8_number_107 (lv_at hl 5 rfl) ?_
            refine lv_iadd hx hb dX8_number_109 ?_
            refine ob_put X w ho 2 (by decide) (C0 := RX8) (T := TX8) (N := 5) (ci := 6) rfl hin8 tyX8_ok nmX8 rfl 2 (by decide) (List.mem_of_getElem? (i := 1) rfl) rfl rfl rfl (by show _ < 5; decide) 24 0 rfl (ob_o0 _ _ (by decide) 0) dX8_number_110 (fun H locs w => ?_)
            refine lv_iload hx hb dX8_number_113 (lv_at hl 4 rfl) ?_
            exact hend H locs (mk_nv C (C 24 0) 3) (L, ob_W D f oa (mo_w (mk_tf C 1 (C 24 0)) 24 0 ((C 24 0 + nI 3))) mr im mk ad n g) _ ls w ⟨(by rw [mk_nu_y hfk (mk_n1_a hfk (by omega) (Or.inl c_59)) c_99]), (ob_eq (by rw [mk_nu_y hfk (mk_n1_a hfk (by omega) (Or.inl c_59)) c_99]) rfl)⟩ rfl dX8_number_115
          · refine lv_ldc (v := (-1000000)) hx hb hown (hts _ (List.mem_of_getElem? (i := 3) rfl)) dX8_number_102 ?_
            exact hend H locs ((-1000000)) (L, ob_W D f oa (mk_tf C 1 (C 24 0)) mr im mk ad n g) _ ls w ⟨(by rw [mk_nu_n (mk_n1_a hfk (by omega) (Or.inl c_59)) c_99]), (ob_eq (by rw [mk_nu_n (mk_n1_a hfk (by omega) (Or.inl c_59)) c_99]) rfl)⟩ rfl dX8_number_104
        · refine lv_iload hx hb dX8_number_62 (lv_at hl 5 rfl) ?_
          refine lv_iconst (v := 2) hx hb dX8_number_64 (by decide) ?_
          refine lv_icmp_le (tgt := 77) hx hb dX8_number_65 (by decide) (fun c_65 => ?_) (fun c_65 => ?_)
          · refine lv_iload hx hb dX8_number_77 (lv_at hl 4 rfl) ?_
            refine lv_iload_n hx hb dX8_number_79 rfl (lv_at hl 1 rfl) ?_
            refine lv_icmp_lt (tgt := 89) hx hb dX8_number_80 (by decide) (fun c_80 => ?_) (fun c_80 => ?_)
            · refine lv_aload_n hx hb dX8_number_89 rfl (lv_at hl 0 rfl) ?_
              refine lv_iconst (v := 2) hx hb dX8_number_90 (by decide) ?_
              refine lv_iload_n hx hb dX8_number_91 rfl (lv_at hl 3 rfl) ?_
              refine hg_vvF (As := [.int (2), .int (C 24 0)]) (rest := []) X w (c_X8_tellFault l D b0 L f oa C mr im mk ad n g hm hs ho 2 (C 24 0)) (cwV 2 hts gX8_number_X8_tellFault rfl rfl rfl hdX8_tellFault ⟨Nat.le_of_ble_eq_true rfl, Nat.le_of_ble_eq_true rfl⟩) (ho.1 2 (by decide)).1 (ow_at ho (k := 2) (by decide)) rfl rfl rfl hl.1 rfl (Nat.le_of_ble_eq_true rfl) dX8_number_92 ⟨Nat.zero_le _, Nat.zero_le _⟩ (fun H locs w => ?_)
              refine lv_aload_n hx hb dX8_number_95 rfl (lv_at hl 0 rfl) ?_
              refine ob_get X w ho 2 (by decide) (C0 := RX8) (T := TX8) (N := 5) (ci := 6) rfl hin8 rfl 3 (by decide) (List.mem_of_getElem? (i := 2) rfl) rfl rfl dX8_number_96 ?_
              refine lv_if_eq (tgt := 105) hx hb dX8_number_99 (by decide) (fun c_99 => ?_) (fun c_99 => ?_)
              · refine lv_aload_n hx hb dX8_number_105 rfl (lv_at hl 0 rfl) ?_
                refine lv_iload_n hx hb dX8_number_106 rfl (lv_at hl 3 rfl) ?_
                refine lv_iload hx hb dX8_number_107 (lv_at hl 5 rfl) ?_
                refine lv_iadd hx hb dX8_number_109 ?_
                refine ob_put X w ho 2 (by decide) (C0 := RX8) (T := TX8) (N := 5) (ci := 6) rfl hin8 tyX8_ok nmX8 rfl 2 (by decide) (List.mem_of_getElem? (i := 1) rfl) rfl rfl rfl (by show _ < 5; decide) 24 0 rfl (ob_o0 _ _ (by decide) 0) dX8_number_110 (fun H locs w => ?_)
                refine lv_iload hx hb dX8_number_113 (lv_at hl 4 rfl) ?_
                exact hend H locs (mk_nv C (C 24 0) 3) (L, ob_W D f oa (mo_w (mk_tf C 2 (C 24 0)) 24 0 ((C 24 0 + nI 3))) mr im mk ad n g) _ ls w ⟨(by rw [mk_nu_y hfk (mk_n1_b hfk (by omega) c_59 c_65 (Or.inl c_80)) c_99]), (ob_eq (by rw [mk_nu_y hfk (mk_n1_b hfk (by omega) c_59 c_65 (Or.inl c_80)) c_99]) rfl)⟩ rfl dX8_number_115
              · refine lv_ldc (v := (-1000000)) hx hb hown (hts _ (List.mem_of_getElem? (i := 3) rfl)) dX8_number_102 ?_
                exact hend H locs ((-1000000)) (L, ob_W D f oa (mk_tf C 2 (C 24 0)) mr im mk ad n g) _ ls w ⟨(by rw [mk_nu_n (mk_n1_b hfk (by omega) c_59 c_65 (Or.inl c_80)) c_99]), (ob_eq (by rw [mk_nu_n (mk_n1_b hfk (by omega) c_59 c_65 (Or.inl c_80)) c_99]) rfl)⟩ rfl dX8_number_104
            · refine lv_iload hx hb dX8_number_83 (lv_at hl 4 rfl) ?_
              refine lv_iload_n hx hb dX8_number_85 rfl (lv_at hl 2 rfl) ?_
              refine lv_icmp_le (tgt := 95) hx hb dX8_number_86 (by decide) (fun c_86 => ?_) (fun c_86 => ?_)
              · refine lv_aload_n hx hb dX8_number_95 rfl (lv_at hl 0 rfl) ?_
                refine ob_get X w ho 2 (by decide) (C0 := RX8) (T := TX8) (N := 5) (ci := 6) rfl hin8 rfl 3 (by decide) (List.mem_of_getElem? (i := 2) rfl) rfl rfl dX8_number_96 ?_
                refine lv_if_eq (tgt := 105) hx hb dX8_number_99 (by decide) (fun c_99 => ?_) (fun c_99 => ?_)
                · refine lv_aload_n hx hb dX8_number_105 rfl (lv_at hl 0 rfl) ?_
                  refine lv_iload_n hx hb dX8_number_106 rfl (lv_at hl 3 rfl) ?_
                  refine lv_iload hx hb dX8_number_107 (lv_at hl 5 rfl) ?_
                  refine lv_iadd hx hb dX8_number_109 ?_
                  refine ob_put X w ho 2 (by decide) (C0 := RX8) (T := TX8) (N := 5) (ci := 6) rfl hin8 tyX8_ok nmX8 rfl 2 (by decide) (List.mem_of_getElem? (i := 1) rfl) rfl rfl rfl (by show _ < 5; decide) 24 0 rfl (ob_o0 _ _ (by decide) 0) dX8_number_110 (fun H locs w => ?_)
                  refine lv_iload hx hb dX8_number_113 (lv_at hl 4 rfl) ?_
                  exact hend H locs (mk_nv C (C 24 0) 3) (L, ob_W D f oa (mo_w C 24 0 ((C 24 0 + nI 3))) mr im mk ad n g) _ ls w ⟨(by rw [mk_nu_y hfk (mk_n1_c hfk (by omega) c_59 c_65 c_80 c_86) c_99]), (ob_eq (by rw [mk_nu_y hfk (mk_n1_c hfk (by omega) c_59 c_65 c_80 c_86) c_99]) rfl)⟩ rfl dX8_number_115
                · refine lv_ldc (v := (-1000000)) hx hb hown (hts _ (List.mem_of_getElem? (i := 3) rfl)) dX8_number_102 ?_
                  exact hend H locs ((-1000000)) (L, ob_W D f oa C mr im mk ad n g) _ ls w ⟨(by rw [mk_nu_n (mk_n1_c hfk (by omega) c_59 c_65 c_80 c_86) c_99]), (ob_eq (by rw [mk_nu_n (mk_n1_c hfk (by omega) c_59 c_65 c_80 c_86) c_99]) rfl)⟩ rfl dX8_number_104
              · refine lv_aload_n hx hb dX8_number_89 rfl (lv_at hl 0 rfl) ?_
                refine lv_iconst (v := 2) hx hb dX8_number_90 (by decide) ?_
                refine lv_iload_n hx hb dX8_number_91 rfl (lv_at hl 3 rfl) ?_
                refine hg_vvF (As := [.int (2), .int (C 24 0)]) (rest := []) X w (c_X8_tellFault l D b0 L f oa C mr im mk ad n g hm hs ho 2 (C 24 0)) (cwV 2 hts gX8_number_X8_tellFault rfl rfl rfl hdX8_tellFault ⟨Nat.le_of_ble_eq_true rfl, Nat.le_of_ble_eq_true rfl⟩) (ho.1 2 (by decide)).1 (ow_at ho (k := 2) (by decide)) rfl rfl rfl hl.1 rfl (Nat.le_of_ble_eq_true rfl) dX8_number_92 ⟨Nat.zero_le _, Nat.zero_le _⟩ (fun H locs w => ?_)
                refine lv_aload_n hx hb dX8_number_95 rfl (lv_at hl 0 rfl) ?_
                refine ob_get X w ho 2 (by decide) (C0 := RX8) (T := TX8) (N := 5) (ci := 6) rfl hin8 rfl 3 (by decide) (List.mem_of_getElem? (i := 2) rfl) rfl rfl dX8_number_96 ?_
                refine lv_if_eq (tgt := 105) hx hb dX8_number_99 (by decide) (fun c_99 => ?_) (fun c_99 => ?_)
                · refine lv_aload_n hx hb dX8_number_105 rfl (lv_at hl 0 rfl) ?_
                  refine lv_iload_n hx hb dX8_number_106 rfl (lv_at hl 3 rfl) ?_
                  refine lv_iload hx hb dX8_number_107 (lv_at hl 5 rfl) ?_
                  refine lv_iadd hx hb dX8_number_109 ?_
                  refine ob_put X w ho 2 (by decide) (C0 := RX8) (T := TX8) (N := 5) (ci := 6) rfl hin8 tyX8_ok nmX8 rfl 2 (by decide) (List.mem_of_getElem? (i := 1) rfl) rfl rfl rfl (by show _ < 5; decide) 24 0 rfl (ob_o0 _ _ (by decide) 0) dX8_number_110 (fun H locs w => ?_)
                  refine lv_iload hx hb dX8_number_113 (lv_at hl 4 rfl) ?_
                  exact hend H locs (mk_nv C (C 24 0) 3) (L, ob_W D f oa (mo_w (mk_tf C 2 (C 24 0)) 24 0 ((C 24 0 + nI 3))) mr im mk ad n g) _ ls w ⟨(by rw [mk_nu_y hfk (mk_n1_b hfk (by omega) c_59 c_65 (Or.inr c_86)) c_99]), (ob_eq (by rw [mk_nu_y hfk (mk_n1_b hfk (by omega) c_59 c_65 (Or.inr c_86)) c_99]) rfl)⟩ rfl dX8_number_115
                · refine lv_ldc (v := (-1000000)) hx hb hown (hts _ (List.mem_of_getElem? (i := 3) rfl)) dX8_number_102 ?_
                  exact hend H locs ((-1000000)) (L, ob_W D f oa (mk_tf C 2 (C 24 0)) mr im mk ad n g) _ ls w ⟨(by rw [mk_nu_n (mk_n1_b hfk (by omega) c_59 c_65 (Or.inr c_86)) c_99]), (ob_eq (by rw [mk_nu_n (mk_n1_b hfk (by omega) c_59 c_65 (Or.inr c_86)) c_99]) rfl)⟩ rfl dX8_number_104
          · refine lv_aload_n hx hb dX8_number_68 rfl (lv_at hl 0 rfl) ?_
            refine lv_iconst (v := 1) hx hb dX8_number_69 (by decide) ?_
            refine lv_iload_n hx hb dX8_number_70 rfl (lv_at hl 3 rfl) ?_
            refine hg_vvF (As := [.int (1), .int (C 24 0)]) (rest := []) X w (c_X8_tellFault l D b0 L f oa C mr im mk ad n g hm hs ho 1 (C 24 0)) (cwV 2 hts gX8_number_X8_tellFault rfl rfl rfl hdX8_tellFault ⟨Nat.le_of_ble_eq_true rfl, Nat.le_of_ble_eq_true rfl⟩) (ho.1 2 (by decide)).1 (ow_at ho (k := 2) (by decide)) rfl rfl rfl hl.1 rfl (Nat.le_of_ble_eq_true rfl) dX8_number_71 ⟨Nat.zero_le _, Nat.zero_le _⟩ (fun H locs w => ?_)
            refine lv_goto (tgt := 95) hx hb dX8_number_74 (by decide) ?_
            refine lv_aload_n hx hb dX8_number_95 rfl (lv_at hl 0 rfl) ?_
            refine ob_get X w ho 2 (by decide) (C0 := RX8) (T := TX8) (N := 5) (ci := 6) rfl hin8 rfl 3 (by decide) (List.mem_of_getElem? (i := 2) rfl) rfl rfl dX8_number_96 ?_
            refine lv_if_eq (tgt := 105) hx hb dX8_number_99 (by decide) (fun c_99 => ?_) (fun c_99 => ?_)
            · refine lv_aload_n hx hb dX8_number_105 rfl (lv_at hl 0 rfl) ?_
              refine lv_iload_n hx hb dX8_number_106 rfl (lv_at hl 3 rfl) ?_
              refine lv_iload hx hb dX8_number_107 (lv_at hl 5 rfl) ?_
              refine lv_iadd hx hb dX8_number_109 ?_
              refine ob_put X w ho 2 (by decide) (C0 := RX8) (T := TX8) (N := 5) (ci := 6) rfl hin8 tyX8_ok nmX8 rfl 2 (by decide) (List.mem_of_getElem? (i := 1) rfl) rfl rfl rfl (by show _ < 5; decide) 24 0 rfl (ob_o0 _ _ (by decide) 0) dX8_number_110 (fun H locs w => ?_)
              refine lv_iload hx hb dX8_number_113 (lv_at hl 4 rfl) ?_
              exact hend H locs (mk_nv C (C 24 0) 3) (L, ob_W D f oa (mo_w (mk_tf C 1 (C 24 0)) 24 0 ((C 24 0 + nI 3))) mr im mk ad n g) _ ls w ⟨(by rw [mk_nu_y hfk (mk_n1_a hfk (by omega) (Or.inr c_65)) c_99]), (ob_eq (by rw [mk_nu_y hfk (mk_n1_a hfk (by omega) (Or.inr c_65)) c_99]) rfl)⟩ rfl dX8_number_115
            · refine lv_ldc (v := (-1000000)) hx hb hown (hts _ (List.mem_of_getElem? (i := 3) rfl)) dX8_number_102 ?_
              exact hend H locs ((-1000000)) (L, ob_W D f oa (mk_tf C 1 (C 24 0)) mr im mk ad n g) _ ls w ⟨(by rw [mk_nu_n (mk_n1_a hfk (by omega) (Or.inr c_65)) c_99]), (ob_eq (by rw [mk_nu_n (mk_n1_a hfk (by omega) (Or.inr c_65)) c_99]) rfl)⟩ rfl dX8_number_104
      · have hkl : k < 3 := by
          rcases Nat.lt_or_ge k 3 with q | q
          · exact q
          · exact absurd (nI_lt (a := 2) (b := k) (by omega) (by omega)) c_14
        refine lv_aload_n hx hb dX8_number_17 rfl (lv_at hl 0 rfl) ?_
        refine lv_iload_n hx hb dX8_number_18 rfl (lv_at hl 3 rfl) ?_
        refine lv_iload hx hb dX8_number_19 (lv_at hl 5 rfl) ?_
        refine lv_iadd hx hb dX8_number_21 ?_
        refine hg_viF (r := (mk_by C (C 24 0 + nI k))) (As := [.int ((C 24 0 + nI k))]) (rest := []) X w (c_X8_byteAt l D b0 L f oa C mr im mk ad n g hm hs ho (C 24 0 + nI k)) (cwV 1 hts gX8_number_X8_byteAt rfl rfl rfl hdX8_byteAt ⟨Nat.le_of_ble_eq_true rfl, Nat.le_of_ble_eq_true rfl⟩) (ho.1 2 (by decide)).1 (ow_at ho (k := 2) (by decide)) rfl rfl rfl hl.1 rfl (Nat.le_of_ble_eq_true rfl) dX8_number_22 ⟨Nat.zero_le _, Nat.zero_le _⟩ (fun H locs w => ?_)
        refine hg_siF (r := (hs_in (mk_by C (C 24 0 + nI k)) 48 57)) (As := [.int ((mk_by C (C 24 0 + nI k)))]) (rest := []) X w (c_X8_isFigure l D b0 L f oa C mr im mk ad n g hm hs ho (mk_by C (C 24 0 + nI k))) (va_cwS 1 hts gX8_number_X8_isFigure rfl rfl rfl hdX8_isFigure ⟨Nat.le_of_ble_eq_true rfl, Nat.le_of_ble_eq_true rfl⟩) rfl hl.1 rfl (Nat.le_of_ble_eq_true rfl) dX8_number_25 ⟨Nat.zero_le _, Nat.zero_le _⟩ (fun H locs w => ?_)
        refine lv_if_eq (tgt := 56) hx hb dX8_number_28 (by decide) (fun c_28 => ?_) (fun c_28 => ?_)
        · have hfk := mk_fk_e hI (by omega) (Or.inr c_28)
          refine lv_iload hx hb dX8_number_56 (lv_at hl 5 rfl) ?_
          refine lv_iconst (v := 1) hx hb dX8_number_58 (by decide) ?_
          refine lv_icmp_lt (tgt := 68) hx hb dX8_number_59 (by decide) (fun c_59 => ?_) (fun c_59 => ?_)
          · refine lv_aload_n hx hb dX8_number_68 rfl (lv_at hl 0 rfl) ?_
            refine lv_iconst (v := 1) hx hb dX8_number_69 (by decide) ?_
            refine lv_iload_n hx hb dX8_number_70 rfl (lv_at hl 3 rfl) ?_
            refine hg_vvF (As := [.int (1), .int (C 24 0)]) (rest := []) X w (c_X8_tellFault l D b0 L f oa C mr im mk ad n g hm hs ho 1 (C 24 0)) (cwV 2 hts gX8_number_X8_tellFault rfl rfl rfl hdX8_tellFault ⟨Nat.le_of_ble_eq_true rfl, Nat.le_of_ble_eq_true rfl⟩) (ho.1 2 (by decide)).1 (ow_at ho (k := 2) (by decide)) rfl rfl rfl hl.1 rfl (Nat.le_of_ble_eq_true rfl) dX8_number_71 ⟨Nat.zero_le _, Nat.zero_le _⟩ (fun H locs w => ?_)
            refine lv_goto (tgt := 95) hx hb dX8_number_74 (by decide) ?_
            refine lv_aload_n hx hb dX8_number_95 rfl (lv_at hl 0 rfl) ?_
            refine ob_get X w ho 2 (by decide) (C0 := RX8) (T := TX8) (N := 5) (ci := 6) rfl hin8 rfl 3 (by decide) (List.mem_of_getElem? (i := 2) rfl) rfl rfl dX8_number_96 ?_
            refine lv_if_eq (tgt := 105) hx hb dX8_number_99 (by decide) (fun c_99 => ?_) (fun c_99 => ?_)
            · refine lv_aload_n hx hb dX8_number_105 rfl (lv_at hl 0 rfl) ?_
              refine lv_iload_n hx hb dX8_number_106 rfl (lv_at hl 3 rfl) ?_
              refine lv_iload hx hb dX8_number_107 (lv_at hl 5 rfl) ?_
              refine lv_iadd hx hb dX8_number_109 ?_
              refine ob_put X w ho 2 (by decide) (C0 := RX8) (T := TX8) (N := 5) (ci := 6) rfl hin8 tyX8_ok nmX8 rfl 2 (by decide) (List.mem_of_getElem? (i := 1) rfl) rfl rfl rfl (by show _ < 5; decide) 24 0 rfl (ob_o0 _ _ (by decide) 0) dX8_number_110 (fun H locs w => ?_)
              refine lv_iload hx hb dX8_number_113 (lv_at hl 4 rfl) ?_
              exact hend H locs (mk_nv C (C 24 0) k) (L, ob_W D f oa (mo_w (mk_tf C 1 (C 24 0)) 24 0 ((C 24 0 + nI k))) mr im mk ad n g) _ ls w ⟨(by rw [mk_nu_y hfk (mk_n1_a hfk (by omega) (Or.inl c_59)) c_99]), (ob_eq (by rw [mk_nu_y hfk (mk_n1_a hfk (by omega) (Or.inl c_59)) c_99]) rfl)⟩ rfl dX8_number_115
            · refine lv_ldc (v := (-1000000)) hx hb hown (hts _ (List.mem_of_getElem? (i := 3) rfl)) dX8_number_102 ?_
              exact hend H locs ((-1000000)) (L, ob_W D f oa (mk_tf C 1 (C 24 0)) mr im mk ad n g) _ ls w ⟨(by rw [mk_nu_n (mk_n1_a hfk (by omega) (Or.inl c_59)) c_99]), (ob_eq (by rw [mk_nu_n (mk_n1_a hfk (by omega) (Or.inl c_59)) c_99]) rfl)⟩ rfl dX8_number_104
          · refine lv_iload hx hb dX8_number_62 (lv_at hl 5 rfl) ?_
            refine lv_iconst (v := 2) hx hb dX8_number_64 (by decide) ?_
            refine lv_icmp_le (tgt := 77) hx hb dX8_number_65 (by decide) (fun c_65 => ?_) (fun c_65 => ?_)
            · refine lv_iload hx hb dX8_number_77 (lv_at hl 4 rfl) ?_
              refine lv_iload_n hx hb dX8_number_79 rfl (lv_at hl 1 rfl) ?_
              refine lv_icmp_lt (tgt := 89) hx hb dX8_number_80 (by decide) (fun c_80 => ?_) (fun c_80 => ?_)
              · refine lv_aload_n hx hb dX8_number_89 rfl (lv_at hl 0 rfl) ?_
                refine lv_iconst (v := 2) hx hb dX8_number_90 (by decide) ?_
                refine lv_iload_n hx hb dX8_number_91 rfl (lv_at hl 3 rfl) ?_
                refine hg_vvF (As := [.int (2), .int (C 24 0)]) (rest := []) X w (c_X8_tellFault l D b0 L f oa C mr im mk ad n g hm hs ho 2 (C 24 0)) (cwV 2 hts gX8_number_X8_tellFault rfl rfl rfl hdX8_tellFault ⟨Nat.le_of_ble_eq_true rfl, Nat.le_of_ble_eq_true rfl⟩) (ho.1 2 (by decide)).1 (ow_at ho (k := 2) (by decide)) rfl rfl rfl hl.1 rfl (Nat.le_of_ble_eq_true rfl) dX8_number_92 ⟨Nat.zero_le _, Nat.zero_le _⟩ (fun H locs w => ?_)
                refine lv_aload_n hx hb dX8_number_95 rfl (lv_at hl 0 rfl) ?_
                refine ob_get X w ho 2 (by decide) (C0 := RX8) (T := TX8) (N := 5) (ci := 6) rfl hin8 rfl 3 (by decide) (List.mem_of_getElem? (i := 2) rfl) rfl rfl dX8_number_96 ?_
                refine lv_if_eq (tgt := 105) hx hb dX8_number_99 (by decide) (fun c_99 => ?_) (fun c_99 => ?_)
                · refine lv_aload_n hx hb dX8_number_105 rfl (lv_at hl 0 rfl) ?_
                  refine lv_iload_n hx hb dX8_number_106 rfl (lv_at hl 3 rfl) ?_
                  refine lv_iload hx hb dX8_number_107 (lv_at hl 5 rfl) ?_
                  refine lv_iadd hx hb dX8_number_109 ?_
                  refine ob_put X w ho 2 (by decide) (C0 := RX8) (T := TX8) (N := 5) (ci := 6) rfl hin8 tyX8_ok nmX8 rfl 2 (by decide) (List.mem_of_getElem? (i := 1) rfl) rfl rfl rfl (by show _ < 5; decide) 24 0 rfl (ob_o0 _ _ (by decide) 0) dX8_number_110 (fun H locs w => ?_)
                  refine lv_iload hx hb dX8_number_113 (lv_at hl 4 rfl) ?_
                  exact hend H locs (mk_nv C (C 24 0) k) (L, ob_W D f oa (mo_w (mk_tf C 2 (C 24 0)) 24 0 ((C 24 0 + nI k))) mr im mk ad n g) _ ls w ⟨(by rw [mk_nu_y hfk (mk_n1_b hfk (by omega) c_59 c_65 (Or.inl c_80)) c_99]), (ob_eq (by rw [mk_nu_y hfk (mk_n1_b hfk (by omega) c_59 c_65 (Or.inl c_80)) c_99]) rfl)⟩ rfl dX8_number_115
                · refine lv_ldc (v := (-1000000)) hx hb hown (hts _ (List.mem_of_getElem? (i := 3) rfl)) dX8_number_102 ?_
                  exact hend H locs ((-1000000)) (L, ob_W D f oa (mk_tf C 2 (C 24 0)) mr im mk ad n g) _ ls w ⟨(by rw [mk_nu_n (mk_n1_b hfk (by omega) c_59 c_65 (Or.inl c_80)) c_99]), (ob_eq (by rw [mk_nu_n (mk_n1_b hfk (by omega) c_59 c_65 (Or.inl c_80)) c_99]) rfl)⟩ rfl dX8_number_104
              · refine lv_iload hx hb dX8_number_83 (lv_at hl 4 rfl) ?_
                refine lv_iload_n hx hb dX8_number_85 rfl (lv_at hl 2 rfl) ?_
                refine lv_icmp_le (tgt := 95) hx hb dX8_number_86 (by decide) (fun c_86 => ?_) (fun c_86 => ?_)
                · refine lv_aload_n hx hb dX8_number_95 rfl (lv_at hl 0 rfl) ?_
                  refine ob_get X w ho 2 (by decide) (C0 := RX8) (T := TX8) (N := 5) (ci := 6) rfl hin8 rfl 3 (by decide) (List.mem_of_getElem? (i := 2) rfl) rfl rfl dX8_number_96 ?_
                  refine lv_if_eq (tgt := 105) hx hb dX8_number_99 (by decide) (fun c_99 => ?_) (fun c_99 => ?_)
                  · refine lv_aload_n hx hb dX8_number_105 rfl (lv_at hl 0 rfl) ?_
                    refine lv_iload_n hx hb dX8_number_106 rfl (lv_at hl 3 rfl) ?_
                    refine lv_iload hx hb dX8_number_107 (lv_at hl 5 rfl) ?_
                    refine lv_iadd hx hb dX8_number_109 ?_
                    refine ob_put X w ho 2 (by decide) (C0 := RX8) (T := TX8) (N := 5) (ci := 6) rfl hin8 tyX8_ok nmX8 rfl 2 (by decide) (List.mem_of_getElem? (i := 1) rfl) rfl rfl rfl (by show _ < 5; decide) 24 0 rfl (ob_o0 _ _ (by decide) 0) dX8_number_110 (fun H locs w => ?_)
                    refine lv_iload hx hb dX8_number_113 (lv_at hl 4 rfl) ?_
                    exact hend H locs (mk_nv C (C 24 0) k) (L, ob_W D f oa (mo_w C 24 0 ((C 24 0 + nI k))) mr im mk ad n g) _ ls w ⟨(by rw [mk_nu_y hfk (mk_n1_c hfk (by omega) c_59 c_65 c_80 c_86) c_99]), (ob_eq (by rw [mk_nu_y hfk (mk_n1_c hfk (by omega) c_59 c_65 c_80 c_86) c_99]) rfl)⟩ rfl dX8_number_115
                  · refine lv_ldc (v := (-1000000)) hx hb hown (hts _ (List.mem_of_getElem? (i := 3) rfl)) dX8_number_102 ?_
                    exact hend H locs ((-1000000)) (L, ob_W D f oa C mr im mk ad n g) _ ls w ⟨(by rw [mk_nu_n (mk_n1_c hfk (by omega) c_59 c_65 c_80 c_86) c_99]), (ob_eq (by rw [mk_nu_n (mk_n1_c hfk (by omega) c_59 c_65 c_80 c_86) c_99]) rfl)⟩ rfl dX8_number_104
                · refine lv_aload_n hx hb dX8_number_89 rfl (lv_at hl 0 rfl) ?_
                  refine lv_iconst (v := 2) hx hb dX8_number_90 (by decide) ?_
                  refine lv_iload_n hx hb dX8_number_91 rfl (lv_at hl 3 rfl) ?_
                  refine hg_vvF (As := [.int (2), .int (C 24 0)]) (rest := []) X w (c_X8_tellFault l D b0 L f oa C mr im mk ad n g hm hs ho 2 (C 24 0)) (cwV 2 hts gX8_number_X8_tellFault rfl rfl rfl hdX8_tellFault ⟨Nat.le_of_ble_eq_true rfl, Nat.le_of_ble_eq_true rfl⟩) (ho.1 2 (by decide)).1 (ow_at ho (k := 2) (by decide)) rfl rfl rfl hl.1 rfl (Nat.le_of_ble_eq_true rfl) dX8_number_92 ⟨Nat.zero_le _, Nat.zero_le _⟩ (fun H locs w => ?_)
                  refine lv_aload_n hx hb dX8_number_95 rfl (lv_at hl 0 rfl) ?_
                  refine ob_get X w ho 2 (by decide) (C0 := RX8) (T := TX8) (N := 5) (ci := 6) rfl hin8 rfl 3 (by decide) (List.mem_of_getElem? (i := 2) rfl) rfl rfl dX8_number_96 ?_
                  refine lv_if_eq (tgt := 105) hx hb dX8_number_99 (by decide) (fun c_99 => ?_) (fun c_99 => ?_)
                  · refine lv_aload_n hx hb dX8_number_105 rfl (lv_at hl 0 rfl) ?_
                    refine lv_iload_n hx hb dX8_number_106 rfl (lv_at hl 3 rfl) ?_
                    refine lv_iload hx hb dX8_number_107 (lv_at hl 5 rfl) ?_
                    refine lv_iadd hx hb dX8_number_109 ?_
                    refine ob_put X w ho 2 (by decide) (C0 := RX8) (T := TX8) (N := 5) (ci := 6) rfl hin8 tyX8_ok nmX8 rfl 2 (by decide) (List.mem_of_getElem? (i := 1) rfl) rfl rfl rfl (by show _ < 5; decide) 24 0 rfl (ob_o0 _ _ (by decide) 0) dX8_number_110 (fun H locs w => ?_)
                    refine lv_iload hx hb dX8_number_113 (lv_at hl 4 rfl) ?_
                    exact hend H locs (mk_nv C (C 24 0) k) (L, ob_W D f oa (mo_w (mk_tf C 2 (C 24 0)) 24 0 ((C 24 0 + nI k))) mr im mk ad n g) _ ls w ⟨(by rw [mk_nu_y hfk (mk_n1_b hfk (by omega) c_59 c_65 (Or.inr c_86)) c_99]), (ob_eq (by rw [mk_nu_y hfk (mk_n1_b hfk (by omega) c_59 c_65 (Or.inr c_86)) c_99]) rfl)⟩ rfl dX8_number_115
                  · refine lv_ldc (v := (-1000000)) hx hb hown (hts _ (List.mem_of_getElem? (i := 3) rfl)) dX8_number_102 ?_
                    exact hend H locs ((-1000000)) (L, ob_W D f oa (mk_tf C 2 (C 24 0)) mr im mk ad n g) _ ls w ⟨(by rw [mk_nu_n (mk_n1_b hfk (by omega) c_59 c_65 (Or.inr c_86)) c_99]), (ob_eq (by rw [mk_nu_n (mk_n1_b hfk (by omega) c_59 c_65 (Or.inr c_86)) c_99]) rfl)⟩ rfl dX8_number_104
            · refine lv_aload_n hx hb dX8_number_68 rfl (lv_at hl 0 rfl) ?_
              refine lv_iconst (v := 1) hx hb dX8_number_69 (by decide) ?_
              refine lv_iload_n hx hb dX8_number_70 rfl (lv_at hl 3 rfl) ?_
              refine hg_vvF (As := [.int (1), .int (C 24 0)]) (rest := []) X w (c_X8_tellFault l D b0 L f oa C mr im mk ad n g hm hs ho 1 (C 24 0)) (cwV 2 hts gX8_number_X8_tellFault rfl rfl rfl hdX8_tellFault ⟨Nat.le_of_ble_eq_true rfl, Nat.le_of_ble_eq_true rfl⟩) (ho.1 2 (by decide)).1 (ow_at ho (k := 2) (by decide)) rfl rfl rfl hl.1 rfl (Nat.le_of_ble_eq_true rfl) dX8_number_71 ⟨Nat.zero_le _, Nat.zero_le _⟩ (fun H locs w => ?_)
              refine lv_goto (tgt := 95) hx hb dX8_number_74 (by decide) ?_
              refine lv_aload_n hx hb dX8_number_95 rfl (lv_at hl 0 rfl) ?_
              refine ob_get X w ho 2 (by decide) (C0 := RX8) (T := TX8) (N := 5) (ci := 6) rfl hin8 rfl 3 (by decide) (List.mem_of_getElem? (i := 2) rfl) rfl rfl dX8_number_96 ?_
              refine lv_if_eq (tgt := 105) hx hb dX8_number_99 (by decide) (fun c_99 => ?_) (fun c_99 => ?_)
              · refine lv_aload_n hx hb dX8_number_105 rfl (lv_at hl 0 rfl) ?_
                refine lv_iload_n hx hb dX8_number_106 rfl (lv_at hl 3 rfl) ?_
                refine lv_iload hx hb dX8_number_107 (lv_at hl 5 rfl) ?_
                refine lv_iadd hx hb dX8_number_109 ?_
                refine ob_put X w ho 2 (by decide) (C0 := RX8) (T := TX8) (N := 5) (ci := 6) rfl hin8 tyX8_ok nmX8 rfl 2 (by decide) (List.mem_of_getElem? (i := 1) rfl) rfl rfl rfl (by show _ < 5; decide) 24 0 rfl (ob_o0 _ _ (by decide) 0) dX8_number_110 (fun H locs w => ?_)
                refine lv_iload hx hb dX8_number_113 (lv_at hl 4 rfl) ?_
                exact hend H locs (mk_nv C (C 24 0) k) (L, ob_W D f oa (mo_w (mk_tf C 1 (C 24 0)) 24 0 ((C 24 0 + nI k))) mr im mk ad n g) _ ls w ⟨(by rw [mk_nu_y hfk (mk_n1_a hfk (by omega) (Or.inr c_65)) c_99]), (ob_eq (by rw [mk_nu_y hfk (mk_n1_a hfk (by omega) (Or.inr c_65)) c_99]) rfl)⟩ rfl dX8_number_115
              · refine lv_ldc (v := (-1000000)) hx hb hown (hts _ (List.mem_of_getElem? (i := 3) rfl)) dX8_number_102 ?_
                exact hend H locs ((-1000000)) (L, ob_W D f oa (mk_tf C 1 (C 24 0)) mr im mk ad n g) _ ls w ⟨(by rw [mk_nu_n (mk_n1_a hfk (by omega) (Or.inr c_65)) c_99]), (ob_eq (by rw [mk_nu_n (mk_n1_a hfk (by omega) (Or.inr c_65)) c_99]) rfl)⟩ rfl dX8_number_104
        · refine lv_bipush (v := 10) hx hb dX8_number_31 (by decide) ?_
          refine lv_iload hx hb dX8_number_33 (lv_at hl 4 rfl) ?_
          refine lv_imul hx hb dX8_number_35 ?_
          refine lv_aload_n hx hb dX8_number_36 rfl (lv_at hl 0 rfl) ?_
          refine lv_iload_n hx hb dX8_number_37 rfl (lv_at hl 3 rfl) ?_
          refine lv_iload hx hb dX8_number_38 (lv_at hl 5 rfl) ?_
          refine lv_iadd hx hb dX8_number_40 ?_
          refine hg_viF (r := (mk_by C (C 24 0 + nI k))) (As := [.int ((C 24 0 + nI k))]) (rest := [.int ((10 * mk_nv C (C 24 0) k))]) X w (c_X8_byteAt l D b0 L f oa C mr im mk ad n g hm hs ho (C 24 0 + nI k)) (cwV 1 hts gX8_number_X8_byteAt rfl rfl rfl hdX8_byteAt ⟨Nat.le_of_ble_eq_true rfl, Nat.le_of_ble_eq_true rfl⟩) (ho.1 2 (by decide)).1 (ow_at ho (k := 2) (by decide)) rfl rfl rfl hl.1 rfl (Nat.le_of_ble_eq_true rfl) dX8_number_41 ⟨Nat.zero_le _, Nat.zero_le _⟩ (fun H locs w => ?_)
          refine lv_iadd hx hb dX8_number_44 ?_
          refine lv_bipush (v := 48) hx hb dX8_number_45 (by decide) ?_
          refine lv_isub hx hb dX8_number_47 ?_
          refine lv_istore (lv' := [(4, .int ((((10 * mk_nv C (C 24 0) k) + (mk_by C (C 24 0 + nI k))) - 48))), (0, .ref (oa 2)), (1, .int (least)), (2, .int (most)), (3, .int (C 24 0)), (5, .int (nI k))]) hx hb dX8_number_48 hl (by decide) rfl (fun ls hl => ?_)
          refine lv_iinc (v := nI k + 1) (lv' := [(5, .int (nI k + 1)), (4, .int ((((10 * mk_nv C (C 24 0) k) + (mk_by C (C 24 0 + nI k))) - 48))), (0, .ref (oa 2)), (1, .int (least)), (2, .int (most)), (3, .int (C 24 0))]) hx hb dX8_number_50 hl (k := 5) rfl rfl (by decide) rfl (fun ls hl => ?_)
          refine lv_goto (tgt := 11) hx hb dX8_number_53 (by decide) ?_
          have he4 : (((10 * mk_nv C (C 24 0) k) + (mk_by C (C 24 0 + nI k))) - 48) = mk_nv C (C 24 0) (k + 1) := by rfl
          have hl := hs_lv hl (k := 1) rfl he4
          have hl := hs_lv hl (k := 0) rfl (nI_1 k)
          exact ih (k + 1) (by omega) (by omega) (fun j hj => by rcases Nat.lt_or_ge j k with z | z; exact hI j z; rw [show j = k by omega]; exact c_28) H locs ls w (lv_sub hl [2, 3, 4, 5, 1, 0] rfl)
  exact loop 4 0 (by omega) (by omega) (fun j hj => absurd hj (by omega)) H locs ls w (lv_sub hl [3, 4, 5, 2, 1, 0] rfl)
