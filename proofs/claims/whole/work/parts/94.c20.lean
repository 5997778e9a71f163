theorem hdX8_number : yX8_number.cls = RX8 ∧ yX8_number.cls ≠ "java/lang/invoke/MethodHandle" ∧ yX8_number.cls ≠ "java/lang/invoke/VarHandle" ∧ (parseMethodDescriptor yX8_number.desc).map (fun d => d.parameters.length) = some 2 := by decide +kernel
theorem hdX8_pass : yX8_pass.cls = RX8 ∧ yX8_pass.cls ≠ "java/lang/invoke/MethodHandle" ∧ yX8_pass.cls ≠ "java/lang/invoke/VarHandle" ∧ (parseMethodDescriptor yX8_pass.desc).map (fun d => d.parameters.length) = some 1 := by decide +kernel
set_option maxRecDepth 100000 in
set_option maxHeartbeats 4000000 in
theorem c_X8_readLaw (l : Launch) (D : va_G) (b0 : Nat) (L : List Nat) (f : Nat → va_E) (oa : Nat → Nat) (C : Nat → Nat → Int32) (mr : Nat) (im : Nat → Option Nat) (mk : Nat) (ad : Nat → Nat) (n : Nat) (g : Nat → Int32) (hm : mk_ok L mk ad n) (hs : mk_sr g n) (ho : ob_ok L oa mk ad n) : hg_Mq l yX8_readLaw wsX8_readLaw ({ frames := 3, cells := 3, slots := 15, locals := 62 }) D b0 L (ob_W D f oa C mr im mk ad n g) [.ref (oa 2)] (fun v u => ∃ mk2 ad2 N, v = some mk2 ∧ mk2 ∉ L ∧ (∀ j, j < 0 + 2 → ad2 j ∉ L) ∧ mk_ok (L ++ N) mk2 ad2 0 ∧ u = (L ++ N, mk_F D (ob_W D f oa (cr_law C) mr im mk ad n g) mk2 ad2 0 (mk_g0 (cr_l2 C).1 (cr_l4 C).1))) 3 15 := by
  refine hg_in_q (cc := cX8_readLaw) (nL := 3) (by decide) rfl (Nat.le_of_ble_eq_true rfl) (fun p e s m args below meth c R Q X hR hend H locs ls w hl => ?_)
  subst hR
  obtain ⟨hx, hb, hml, hown, hts⟩ := id X.1
  have hin3 : ∀ w ∈ wsX30, w ∈ wsX8_readLaw := fun w h => List.mem_cons_of_mem _ (List.mem_append_left _ (List.mem_append_right _ h))
  have hin8 : ∀ w ∈ wsX80, w ∈ wsX8_readLaw := fun w h => List.mem_cons_of_mem _ (List.mem_append_right _ h)
  have hl : lv_has ls 3 [(0, .ref (oa 2))] := hl
  refine lv_aload_n hx hb dX8_readLaw_0 rfl (lv_at hl 0 rfl) ?_
  refine lv_bipush (v := 109) hx hb dX8_readLaw_1 (by decide) ?_
  refine hg_vvF (As := [.int (109)]) (rest := []) X w (c_X8_pass l D b0 L f oa C mr im mk ad n g hm hs ho 109) (cwV 1 hts gX8_readLaw_X8_pass rfl rfl rfl hdX8_pass ⟨Nat.le_of_ble_eq_true rfl, Nat.le_of_ble_eq_true rfl⟩) (ho.1 2 (by decide)).1 (ow_at ho (k := 2) (by decide)) rfl rfl rfl hl.1 rfl (Nat.le_of_ble_eq_true rfl) dX8_readLaw_3 ⟨Nat.zero_le _, Nat.zero_le _⟩ (fun H locs w => ?_)
  refine lv_aload_n hx hb dX8_readLaw_6 rfl (lv_at hl 0 rfl) ?_
  refine lv_iconst (v := 0) hx hb dX8_readLaw_7 (by decide) ?_
  refine lv_bipush (v := 99) hx hb dX8_readLaw_8 (by decide) ?_
  refine hg_viF (r := (mk_number (mk_pass C 109) 0 99).1) (As := [.int (0), .int (99)]) (rest := []) X w (c_X8_number l D b0 L f oa (mk_pass C 109) mr im mk ad n g hm hs ho 0 99) (cwV 2 hts gX8_readLaw_X8_number rfl rfl rfl hdX8_number ⟨Nat.le_of_ble_eq_true rfl, Nat.le_of_ble_eq_true rfl⟩) (ho.1 2 (by decide)).1 (ow_at ho (k := 2) (by decide)) rfl rfl rfl hl.1 rfl (Nat.le_of_ble_eq_true rfl) dX8_readLaw_10 ⟨Nat.zero_le _, Nat.zero_le _⟩ (fun H locs w => ?_)
  refine lv_istore_n (lv' := [(1, .int ((mk_number (mk_pass C 109) 0 99).1)), (0, .ref (oa 2))]) hx hb dX8_readLaw_13 rfl hl (by decide) rfl (fun ls hl => ?_)
  refine lv_aload_n hx hb dX8_readLaw_14 rfl (lv_at hl 1 rfl) ?_
  refine lv_bipush (v := 44) hx hb dX8_readLaw_15 (by decide) ?_
  refine hg_vvF (As := [.int (44)]) (rest := []) X w (c_X8_pass l D b0 L f oa ((mk_number (mk_pass C 109) 0 99).2) mr im mk ad n g hm hs ho 44) (cwV 1 hts gX8_readLaw_X8_pass rfl rfl rfl hdX8_pass ⟨Nat.le_of_ble_eq_true rfl, Nat.le_of_ble_eq_true rfl⟩) (ho.1 2 (by decide)).1 (ow_at ho (k := 2) (by decide)) rfl rfl rfl hl.1 rfl (Nat.le_of_ble_eq_true rfl) dX8_readLaw_17 ⟨Nat.zero_le _, Nat.zero_le _⟩ (fun H locs w => ?_)
  refine lv_aload_n hx hb dX8_readLaw_20 rfl (lv_at hl 1 rfl) ?_
  refine lv_iconst (v := 0) hx hb dX8_readLaw_21 (by decide) ?_
  refine lv_bipush (v := 20) hx hb dX8_readLaw_22 (by decide) ?_
  refine hg_viF (r := (mk_number (mk_pass ((mk_number (mk_pass C 109) 0 99).2) 44) 0 20).1) (As := [.int (0), .int (20)]) (rest := []) X w (c_X8_number l D b0 L f oa (mk_pass ((mk_number (mk_pass C 109) 0 99).2) 44) mr im mk ad n g hm hs ho 0 20) (cwV 2 hts gX8_readLaw_X8_number rfl rfl rfl hdX8_number ⟨Nat.le_of_ble_eq_true rfl, Nat.le_of_ble_eq_true rfl⟩) (ho.1 2 (by decide)).1 (ow_at ho (k := 2) (by decide)) rfl rfl rfl hl.1 rfl (Nat.le_of_ble_eq_true rfl) dX8_readLaw_24 ⟨Nat.zero_le _, Nat.zero_le _⟩ (fun H locs w => ?_)
  refine lv_istore_n (lv' := [(2, .int ((mk_number (mk_pass ((mk_number (mk_pass C 109) 0 99).2) 44) 0 20).1)), (1, .int ((mk_number (mk_pass C 109) 0 99).1)), (0, .ref (oa 2))]) hx hb dX8_readLaw_27 rfl hl (by decide) rfl (fun ls hl => ?_)
  refine lv_aload_n hx hb dX8_readLaw_28 rfl (lv_at hl 2 rfl) ?_
  refine lv_bipush (v := 59) hx hb dX8_readLaw_29 (by decide) ?_
  refine hg_vvF (As := [.int (59)]) (rest := []) X w (c_X8_pass l D b0 L f oa ((mk_number (mk_pass ((mk_number (mk_pass C 109) 0 99).2) 44) 0 20).2) mr im mk ad n g hm hs ho 59) (cwV 1 hts gX8_readLaw_X8_pass rfl rfl rfl hdX8_pass ⟨Nat.le_of_ble_eq_true rfl, Nat.le_of_ble_eq_true rfl⟩) (ho.1 2 (by decide)).1 (ow_at ho (k := 2) (by decide)) rfl rfl rfl hl.1 rfl (Nat.le_of_ble_eq_true rfl) dX8_readLaw_31 ⟨Nat.zero_le _, Nat.zero_le _⟩ (fun H locs w => ?_)
  refine hg_new X w (C := RX3) (T := TX3) (N := 6) (ci := 2) (ty0 := tyX3) hin3 tyX3_ok rfl (List.mem_of_getElem? (i := 1) rfl) (List.mem_of_getElem? (i := 2) rfl) (List.mem_of_getElem? (i := 3) rfl) (fs := [.int 0, .int 0, .int 0, .int 0, .null, .null]) (fun j hj => by match j, hj with | 0, _ | 1, _ | 2, _ | 3, _ | 4, _ | 5, _ => rfl) (Nat.le_of_ble_eq_true rfl) (Nat.le_of_ble_eq_true rfl) dX8_readLaw_34 (fun q0 H hq0 w => ?_)
  refine lv_dup hx hb dX8_readLaw_37 rfl ?_
  refine lv_iload_n hx hb dX8_readLaw_38 rfl (lv_at hl 1 rfl) ?_
  refine lv_iload_n hx hb dX8_readLaw_39 rfl (lv_at hl 0 rfl) ?_
  refine hg_init (As := [.int ((mk_number (mk_pass C 109) 0 99).1), .int ((mk_number (mk_pass ((mk_number (mk_pass C 109) 0 99).2) 44) 0 20).1)]) (rest := [.ref q0]) X w (c_X3_init l D b0 (L ++ [q0]) (va_up (ob_W D f oa (mk_pass ((mk_number (mk_pass ((mk_number (mk_pass C 109) 0 99).2) 44) 0 20).2) 59) mr im mk ad n g) q0 (.inr (2, [.int 0, .int 0, .int 0, .int 0, .null, .null]))) q0 (List.mem_append_right _ (List.mem_of_getElem? (i := 0) rfl)) (va_up_self _ _ _) ((mk_number (mk_pass C 109) 0 99).1) ((mk_number (mk_pass ((mk_number (mk_pass C 109) 0 99).2) 44) 0 20).1)) (cwI 2 hts ggX8_readLaw_X3_init rfl rfl rfl (hts _ (List.mem_of_getElem? (i := 3) rfl)) (hts _ (List.mem_of_getElem? (i := 34) rfl)) (hts _ (List.mem_of_getElem? (i := 35) rfl)) rfl hdX3_init ⟨Nat.le_of_ble_eq_true rfl, Nat.le_of_ble_eq_true rfl⟩) rfl hl.1 rfl (Nat.le_of_ble_eq_true rfl) dX8_readLaw_40 ⟨(Nat.le_of_ble_eq_true rfl), (Nat.le_of_ble_eq_true rfl)⟩ (fun u H locs hp w => ?_)
  obtain ⟨q1, q2, hq1, hq2, rfl⟩ := hp
  have hmo := mk_ok_0 (List.mem_append_right L (List.mem_of_getElem? (l := [q0]) (i := 0) rfl)) hq1 hq2
  have w : hg_W D b0 (L ++ [q0] ++ [q1, q2]) (mk_F D (ob_W D f oa (mk_pass ((mk_number (mk_pass ((mk_number (mk_pass C 109) 0 99).2) 44) 0 20).2) 59) mr im mk ad n g) q0 (mk_a2 q1 q2) 0 (mk_g0 ((mk_number (mk_pass C 109) 0 99).1) ((mk_number (mk_pass ((mk_number (mk_pass C 109) 0 99).2) 44) 0 20).1))) s.heap H locs := by
    have e := mk_three (D := D) (f := ob_W D f oa (mk_pass ((mk_number (mk_pass ((mk_number (mk_pass C 109) 0 99).2) 44) 0 20).2) 59) mr im mk ad n g) (g := (mk_g0 ((mk_number (mk_pass C 109) 0 99).1) ((mk_number (mk_pass ((mk_number (mk_pass C 109) 0 99).2) 44) 0 20).1))) hmo (t := fun _ => 0) (mk_ta_g0 _ _).symm
    rw [← e]
    rw [bx_uu] at w
    exact w
  rw [List.append_assoc] at w hmo
  exact hend H locs (some q0) (L ++ ([q0] ++ [q1, q2]), mk_F D (ob_W D f oa (mk_pass ((mk_number (mk_pass ((mk_number (mk_pass C 109) 0 99).2) 44) 0 20).2) 59) mr im mk ad n g) q0 (mk_a2 q1 q2) 0 (mk_g0 ((mk_number (mk_pass C 109) 0 99).1) ((mk_number (mk_pass ((mk_number (mk_pass C 109) 0 99).2) 44) 0 20).1))) _ ls w ⟨q0, mk_a2 q1 q2, [q0] ++ [q1, q2], rfl, hq0, (by
    intro j hj
    rcases (show j = 0 ∨ j = 1 by omega) with rfl | rfl
    · exact fun z => hq1 (List.mem_append_left _ z)
    · exact fun z => hq2 (List.mem_append_left _ (List.mem_append_left _ z))), hmo, rfl⟩ dX8_readLaw_43
theorem hdX3_addRope : yX3_addRope.cls = RX3 ∧ yX3_addRope.cls ≠ "java/lang/invoke/MethodHandle" ∧ yX3_addRope.cls ≠ "java/lang/invoke/VarHandle" ∧ (parseMethodDescriptor yX3_addRope.desc).map (fun d => d.parameters.length) = some 1 := by decide +kernel
set_option maxRecDepth 100000 in
set_option maxHeartbeats 4000000 in
theorem c_X8_readRope (l : Launch) (D : va_G) (b0 : Nat) (L : List Nat) (f : Nat → va_E) (oa : Nat → Nat) (C : Nat → Nat → Int32) (mr : Nat) (im : Nat → Option Nat) (mk : Nat) (ad : Nat → Nat) (n : Nat) (g : Nat → Int32) (hm : mk_ok L mk ad n) (hs : mk_sr g n) (ho : ob_ok L oa mk ad n) (nr : Nat) (h2 : g 2 = nI nr) (h3 : nr ≤ 3) : hg_Fv l yX8_readRope wsX8_readRope ({ frames := 3, cells := 0, slots := 0, locals := 62 }) D b0 L (ob_W D f oa C mr im mk ad n g) [.ref (oa 2), .ref mk] (ob_W D f oa (cr_rope C g) mr im mk ad n (cr_rg C g nr)) := by
  refine hg_in_v (cc := cX8_readRope) (nL := 3) (by decide) rfl (Nat.le_of_ble_eq_true rfl) (fun p e s m args below meth c R Q X _ hR hend H locs ls w hl => ?_)
  subst hR
  obtain ⟨hx, hb, hml, hown, hts⟩ := id X.1
  have hin3 : ∀ w ∈ wsX30, w ∈ wsX8_readRope := fun w h => List.mem_cons_of_mem _ (List.mem_append_left _ (List.mem_append_right _ h))
  have hin8 : ∀ w ∈ wsX80, w ∈ wsX8_readRope := fun w h => List.mem_cons_of_mem _ (List.mem_append_right _ h)
  have hl : lv_has ls 3 [(0, .ref (oa 2)), (1, .ref mk)] := hl
  refine lv_aload_n hx hb dX8_readRope_0 rfl (lv_at hl 1 rfl) ?_
  refine mk_getM X w hm hin3 2 (by decide) (List.mem_of_getElem? (i := 1) rfl) rfl dX8_readRope_1 ?_
  refine lv_iconst (v := 3) hx hb dX8_readRope_4 (by decide) ?_
  refine lv_icmp_ne (tgt := 17) hx hb dX8_readRope_5 (by decide) (fun c_5 => ?_) (fun c_5 => ?_)
  · refine lv_aload_n hx hb dX8_readRope_17 rfl (lv_at hl 0 rfl) ?_
    refine lv_bipush (v := 108) hx hb dX8_readRope_18 (by decide) ?_
    refine hg_vvF (As := [.int (108)]) (rest := []) X w (c_X8_pass l D b0 L f oa C mr im mk ad n g hm hs ho 108) (cwV 1 hts gX8_readRope_X8_pass rfl rfl rfl hdX8_pass ⟨Nat.le_of_ble_eq_true rfl, Nat.le_of_ble_eq_true rfl⟩) (ho.1 2 (by decide)).1 (ow_at ho (k := 2) (by decide)) rfl rfl rfl hl.1 rfl (Nat.le_of_ble_eq_true rfl) dX8_readRope_20 ⟨Nat.zero_le _, Nat.zero_le _⟩ (fun H locs w => ?_)
    refine lv_aload_n hx hb dX8_readRope_23 rfl (lv_at hl 0 rfl) ?_
    refine lv_iconst (v := 1) hx hb dX8_readRope_24 (by decide) ?_
    refine lv_bipush (v := 20) hx hb dX8_readRope_25 (by decide) ?_
    refine hg_viF (r := (mk_number (mk_pass C 108) 1 20).1) (As := [.int (1), .int (20)]) (rest := []) X w (c_X8_number l D b0 L f oa (mk_pass C 108) mr im mk ad n g hm hs ho 1 20) (cwV 2 hts gX8_readRope_X8_number rfl rfl rfl hdX8_number ⟨Nat.le_of_ble_eq_true rfl, Nat.le_of_ble_eq_true rfl⟩) (ho.1 2 (by decide)).1 (ow_at ho (k := 2) (by decide)) rfl rfl rfl hl.1 rfl (Nat.le_of_ble_eq_true rfl) dX8_readRope_27 ⟨Nat.zero_le _, Nat.zero_le _⟩ (fun H locs w => ?_)
    refine lv_istore_n (lv' := [(2, .int ((mk_number (mk_pass C 108) 1 20).1)), (0, .ref (oa 2)), (1, .ref mk)]) hx hb dX8_readRope_30 rfl hl (by decide) rfl (fun ls hl => ?_)
    refine lv_aload_n hx hb dX8_readRope_31 rfl (lv_at hl 1 rfl) ?_
    refine lv_bipush (v := 59) hx hb dX8_readRope_32 (by decide) ?_
    refine hg_vvF (As := [.int (59)]) (rest := []) X w (c_X8_pass l D b0 L f oa ((mk_number (mk_pass C 108) 1 20).2) mr im mk ad n g hm hs ho 59) (cwV 1 hts gX8_readRope_X8_pass rfl rfl rfl hdX8_pass ⟨Nat.le_of_ble_eq_true rfl, Nat.le_of_ble_eq_true rfl⟩) (ho.1 2 (by decide)).1 (ow_at ho (k := 2) (by decide)) rfl rfl rfl hl.1 rfl (Nat.le_of_ble_eq_true rfl) dX8_readRope_34 ⟨Nat.zero_le _, Nat.zero_le _⟩ (fun H locs w => ?_)
    refine lv_aload_n hx hb dX8_readRope_37 rfl (lv_at hl 1 rfl) ?_
    refine ob_get X w ho 2 (by decide) (C0 := RX8) (T := TX8) (N := 5) (ci := 6) rfl hin8 rfl 3 (by decide) (List.mem_of_getElem? (i := 3) rfl) rfl rfl dX8_readRope_38 ?_
    refine lv_if_ne (tgt := 49) hx hb dX8_readRope_41 (by decide) (fun c_41 => ?_) (fun c_41 => ?_)
    · exact hend H locs (L, ob_W D f oa (mk_pass ((mk_number (mk_pass C 108) 1 20).2) 59) mr im mk ad n g) _ ls w (ob_eq (by unfold cr_rope cr_r2 cr_r1 cr_r0; rw [if_neg c_5]) (by unfold cr_rg cr_rope cr_r2 cr_r1 cr_r0; rw [if_neg c_5, if_neg c_41])) dX8_readRope_49
    · refine lv_aload_n hx hb dX8_readRope_44 rfl (lv_at hl 2 rfl) ?_
      refine lv_iload_n hx hb dX8_readRope_45 rfl (lv_at hl 0 rfl) ?_
      refine hg_vvF (As := [.int ((mk_number (mk_pass C 108) 1 20).1)]) (rest := []) X w (c_X3_addRope l D b0 L (ob_F D f oa (mk_pass ((mk_number (mk_pass C 108) 1 20).2) 59) mr im) mk ad n g hm hs nr (by have := cr_rope_3 (C := C) (g := g) (by unfold cr_rope cr_r2 cr_r1 cr_r0; rw [if_neg c_5]; exact c_41); rw [h2] at this; rcases Nat.lt_or_ge nr 3 with q | q; exact q; exact absurd (by rw [show nr = 3 by omega]; rfl) this) h2 ((mk_number (mk_pass C 108) 1 20).1)) (cwV 1 hts gX8_readRope_X3_addRope rfl rfl rfl hdX3_addRope ⟨Nat.le_of_ble_eq_true rfl, Nat.le_of_ble_eq_true rfl⟩) hm.1 (mk_at0 D _ mk ad n _) rfl rfl rfl hl.1 rfl (Nat.le_of_ble_eq_true rfl) dX8_readRope_46 ⟨Nat.zero_le _, Nat.zero_le _⟩ (fun H locs w => ?_)
      exact hend H locs (L, ob_W D f oa (mk_pass ((mk_number (mk_pass C 108) 1 20).2) 59) mr im mk ad n (va_up (va_up g (5 + nr) ((mk_number (mk_pass C 108) 1 20).1)) 2 (nI (nr + 1)))) _ ls w (ob_eq (by unfold cr_rope cr_r2 cr_r1 cr_r0; rw [if_neg c_5]) (by unfold cr_rg cr_rope cr_r2 cr_r1 cr_r0; rw [if_neg c_5, if_pos c_41])) dX8_readRope_49
  · refine lv_aload_n hx hb dX8_readRope_8 rfl (lv_at hl 0 rfl) ?_
    refine lv_iconst (v := 3) hx hb dX8_readRope_9 (by decide) ?_
    refine lv_aload_n hx hb dX8_readRope_10 rfl (lv_at hl 0 rfl) ?_
    refine ob_get X w ho 2 (by decide) (C0 := RX8) (T := TX8) (N := 5) (ci := 6) rfl hin8 rfl 2 (by decide) (List.mem_of_getElem? (i := 2) rfl) rfl rfl dX8_readRope_11 ?_
    refine hg_vvF (As := [.int (3), .int (C 24 0)]) (rest := []) X w (c_X8_tellFault l D b0 L f oa C mr im mk ad n g hm hs ho 3 (C 24 0)) (cwV 2 hts gX8_readRope_X8_tellFault rfl rfl rfl hdX8_tellFault ⟨Nat.le_of_ble_eq_true rfl, Nat.le_of_ble_eq_true rfl⟩) (ho.1 2 (by decide)).1 (ow_at ho (k := 2) (by decide)) rfl rfl rfl hl.1 rfl (Nat.le_of_ble_eq_true rfl) dX8_readRope_14 ⟨Nat.zero_le _, Nat.zero_le _⟩ (fun H locs w => ?_)
    refine lv_aload_n hx hb dX8_readRope_17 rfl (lv_at hl 0 rfl) ?_
    refine lv_bipush (v := 108) hx hb dX8_readRope_18 (by decide) ?_
    refine hg_vvF (As := [.int (108)]) (rest := []) X w (c_X8_pass l D b0 L f oa (mk_tf C 3 (C 24 0)) mr im mk ad n g hm hs ho 108) (cwV 1 hts gX8_readRope_X8_pass rfl rfl rfl hdX8_pass ⟨Nat.le_of_ble_eq_true rfl, Nat.le_of_ble_eq_true rfl⟩) (ho.1 2 (by decide)).1 (ow_at ho (k := 2) (by decide)) rfl rfl rfl hl.1 rfl (Nat.le_of_ble_eq_true rfl) dX8_readRope_20 ⟨Nat.zero_le _, Nat.zero_le _⟩ (fun H locs w => ?_)
    refine lv_aload_n hx hb dX8_readRope_23 rfl (lv_at hl 0 rfl) ?_
    refine lv_iconst (v := 1) hx hb dX8_readRope_24 (by decide) ?_
    refine lv_bipush (v := 20) hx hb dX8_readRope_25 (by decide) ?_
    refine hg_viF (r := (mk_number (mk_pass (mk_tf C 3 (C 24 0)) 108) 1 20).1) (As := [.int (1), .int (20)]) (rest := []) X w (c_X8_number l D b0 L f oa (mk_pass (mk_tf C 3 (C 24 0)) 108) mr im mk ad n g hm hs ho 1 20) (cwV 2 hts gX8_readRope_X8_number rfl rfl rfl hdX8_number ⟨Nat.le_of_ble_eq_true rfl, Nat.le_of_ble_eq_true rfl⟩) (ho.1 2 (by decide)).1 (ow_at ho (k := 2) (by decide)) rfl rfl rfl hl.1 rfl (Nat.le_of_ble_eq_true rfl) dX8_readRope_27 ⟨Nat.zero_le _, Nat.zero_le _⟩ (fun H locs w => ?_)
    refine lv_istore_n (lv' := [(2, .int ((mk_number (mk_pass (mk_tf C 3 (C 24 0)) 108) 1 20).1)), (0, .ref (oa 2)), (1, .ref mk)]) hx hb dX8_readRope_30 rfl hl (by decide) rfl (fun ls hl => ?_)
    refine lv_aload_n hx hb dX8_readRope_31 rfl (lv_at hl 1 rfl) ?_
    refine lv_bipush (v := 59) hx hb dX8_readRope_32 (by decide) ?_
    refine hg_vvF (As := [.int (59)]) (rest := []) X w (c_X8_pass l D b0 L f oa ((mk_number (mk_pass (mk_tf C 3 (C 24 0)) 108) 1 20).2) mr im mk ad n g hm hs ho 59) (cwV 1 hts gX8_readRope_X8_pass rfl rfl rfl hdX8_pass ⟨Nat.le_of_ble_eq_true rfl, Nat.le_of_ble_eq_true rfl⟩) (ho.1 2 (by decide)).1 (ow_at ho (k := 2) (by decide)) rfl rfl rfl hl.1 rfl (Nat.le_of_ble_eq_true rfl) dX8_readRope_34 ⟨Nat.zero_le _, Nat.zero_le _⟩ (fun H locs w => ?_)
    refine lv_aload_n hx hb dX8_readRope_37 rfl (lv_at hl 1 rfl) ?_
    refine ob_get X w ho 2 (by decide) (C0 := RX8) (T := TX8) (N := 5) (ci := 6) rfl hin8 rfl 3 (by decide) (List.mem_of_getElem? (i := 3) rfl) rfl rfl dX8_readRope_38 ?_
    refine lv_if_ne (tgt := 49) hx hb dX8_readRope_41 (by decide) (fun c_41 => ?_) (fun c_41 => ?_)
    · exact hend H locs (L, ob_W D f oa (mk_pass ((mk_number (mk_pass (mk_tf C 3 (C 24 0)) 108) 1 20).2) 59) mr im mk ad n g) _ ls w (ob_eq (by unfold cr_rope cr_r2 cr_r1 cr_r0; rw [if_pos c_5]) (by unfold cr_rg cr_rope cr_r2 cr_r1 cr_r0; rw [if_pos c_5, if_neg c_41])) dX8_readRope_49
    · refine lv_aload_n hx hb dX8_readRope_44 rfl (lv_at hl 2 rfl) ?_
      refine lv_iload_n hx hb dX8_readRope_45 rfl (lv_at hl 0 rfl) ?_
      refine hg_vvF (As := [.int ((mk_number (mk_pass (mk_tf C 3 (C 24 0)) 108) 1 20).1)]) (rest := []) X w (c_X3_addRope l D b0 L (ob_F D f oa (mk_pass ((mk_number (mk_pass (mk_tf C 3 (C 24 0)) 108) 1 20).2) 59) mr im) mk ad n g hm hs nr (by have := cr_rope_3 (C := C) (g := g) (by unfold cr_rope cr_r2 cr_r1 cr_r0; rw [if_pos c_5]; exact c_41); rw [h2] at this; rcases Nat.lt_or_ge nr 3 with q | q; exact q; exact absurd (by rw [show nr = 3 by omega]; rfl) this) h2 ((mk_number (mk_pass (mk_tf C 3 (C 24 0)) 108) 1 20).1)) (cwV 1 hts gX8_readRope_X3_addRope rfl rfl rfl hdX3_addRope ⟨Nat.le_of_ble_eq_true rfl, Nat.le_of_ble_eq_true rfl⟩) hm.1 (mk_at0 D _ mk ad n _) rfl rfl rfl hl.1 rfl (Nat.le_of_ble_eq_true rfl) dX8_readRope_46 ⟨Nat.zero_le _, Nat.zero_le _⟩ (fun H locs w => ?_)
      exact hend H locs (L, ob_W D f oa (mk_pass ((mk_number (mk_pass (mk_tf C 3 (C 24 0)) 108) 1 20).2) 59) mr im mk ad n (va_up (va_up g (5 + nr) ((mk_number (mk_pass (mk_tf C 3 (C 24 0)) 108) 1 20).1)) 2 (nI (nr + 1)))) _ ls w (ob_eq (by unfold cr_rope cr_r2 cr_r1 cr_r0; rw [if_pos c_5]) (by unfold cr_rg cr_rope cr_r2 cr_r1 cr_r0; rw [if_pos c_5, if_pos c_41])) dX8_readRope_49
theorem hdX3_addStall : yX3_addStall.cls = RX3 ∧ yX3_addStall.cls ≠ "java/lang/invoke/MethodHandle" ∧ yX3_addStall.cls ≠ "java/lang/invoke/VarHandle" ∧ (parseMethodDescriptor yX3_addStall.desc).map (fun d => d.parameters.length) = some 4 := by decide +kernel
theorem hdX8_kindOf : yX8_kindOf.cls ≠ "java/lang/invoke/MethodHandle" ∧ yX8_kindOf.cls ≠ "java/lang/invoke/VarHandle" ∧ (parseMethodDescriptor yX8_kindOf.desc).map (fun d => d.parameters.length) = some 1 := by decide +kernel
set_option maxRecDepth 100000 in
set_option maxHeartbeats 4000000 in
theorem c_X8_readStall (l : Launch) (D : va_G) (b0 : Nat) (L : List Nat) (f : Nat → va_E) (oa : Nat → Nat) (C : Nat → Nat → Int32) (mr : Nat) (im : Nat → Option Nat) (mk : Nat) (ad : Nat → Nat) (n : Nat) (g : Nat → Int32) (hm : mk_ok L mk ad n) (hs : mk_sr g n) (ho : ob_ok L oa mk ad n) : hg_Mv l yX8_readStall wsX8_readStall ({ frames := 5, cells := 1, slots := 7, locals := 92 }) D b0 L (ob_W D f oa C mr im mk ad n g) [.ref (oa 2), .ref mk] (fun u => (cr_s C g n 25 0 = 0 ∧ ∃ q, q ∉ L ∧ u = (L ++ [q], ob_W D f oa (cr_s C g n) mr im mk (va_up ad (2 + n) q) (n + 1) (mk_as g n (cr_k C) (cr_c C g).1 (cr_e C g).1 (cr_h C g n).1))) ∨ (¬ cr_s C g n 25 0 = 0 ∧ u = (L, ob_W D f oa (cr_s C g n) mr im mk ad n g))) 1 7 := by
  refine hg_in_v (cc := cX8_readStall) (nL := 7) (by decide) rfl (Nat.le_of_ble_eq_true rfl) (fun p e s m args below meth c R Q X hname hR hend H locs ls w hl => ?_)
  subst hR
  obtain ⟨hx, hb, hml, hown, hts⟩ := id X.1
  have hin : mk_in wsX8_readStall := ⟨fun w h => List.mem_cons_of_mem _ (List.mem_append_left _ (List.mem_append_left _ (List.mem_append_left _ (List.mem_append_left _ (List.mem_append_right _ h))))), fun w h => List.mem_cons_of_mem _ (List.mem_append_left _ (List.mem_append_left _ (List.mem_append_left _ (List.mem_append_right _ h)))), fun w h => List.mem_cons_of_mem _ (List.mem_append_left _ (List.mem_append_left _ (List.mem_append_right _ h))), fun w h => List.mem_cons_of_mem _ (List.mem_append_left _ (List.mem_append_right _ h)), fun w h => List.mem_cons_of_mem _ (List.mem_append_right _ h)⟩
  have hin3 : ∀ w ∈ wsX30, w ∈ wsX8_readStall := fun w h => List.mem_cons_of_mem _ (List.mem_append_left _ (List.mem_append_left _ (List.mem_append_left _ (List.mem_append_left _ (List.mem_append_left _ (List.mem_append_right _ h))))))
  have hin8 : ∀ w ∈ wsX80, w ∈ wsX8_readStall := fun w h => List.mem_cons_of_mem _ (List.mem_append_left _ (List.mem_append_left _ (List.mem_append_left _ (List.mem_append_left _ (List.mem_append_left _ (List.mem_append_left _ (List.mem_append_right _ h)))))))
  have hl : lv_has ls 7 [(0, .ref (oa 2)), (1, .ref mk)] := hl
  refine lv_aload_n hx hb dX8_readStall_0 rfl (lv_at hl 0 rfl) ?_
  refine hg_viF (r := (mk_by C (C 24 0))) (As := []) (rest := []) X w (c_X8_next l D b0 L f oa C mr im mk ad n g hm hs ho ) (cwV 0 hts gX8_readStall_X8_next rfl rfl rfl hdX8_next ⟨Nat.le_of_ble_eq_true rfl, Nat.le_of_ble_eq_true rfl⟩) (ho.1 2 (by decide)).1 (ow_at ho (k := 2) (by decide)) rfl rfl rfl hl.1 rfl (Nat.le_of_ble_eq_true rfl) dX8_readStall_1 ⟨Nat.zero_le _, Nat.zero_le _⟩ (fun H locs w => ?_)
  refine hg_siF (r := (mk_kind (mk_by C (C 24 0)))) (As := [.int ((mk_by C (C 24 0)))]) (rest := []) X w (c_X8_kindOf l D b0 L f oa C mr im mk ad n g hm hs ho (mk_by C (C 24 0))) (va_cwS 1 hts gX8_readStall_X8_kindOf rfl rfl rfl hdX8_kindOf ⟨Nat.le_of_ble_eq_true rfl, Nat.le_of_ble_eq_true rfl⟩) rfl hl.1 rfl (Nat.le_of_ble_eq_true rfl) dX8_readStall_4 ⟨Nat.zero_le _, Nat.zero_le _⟩ (fun H locs w => ?_)
  refine lv_istore_n (lv' := [(2, .int ((cr_k C))), (0, .ref (oa 2)), (1, .ref mk)]) hx hb dX8_readStall_7 rfl hl (by decide) rfl (fun ls hl => ?_)
  refine lv_iload_n hx hb dX8_readStall_8 rfl (lv_at hl 0 rfl) ?_
  refine lv_ldc (v := (-1000000)) hx hb hown (hts _ (List.mem_of_getElem? (i := 1) rfl)) dX8_readStall_9 ?_
  refine lv_icmp_ne (tgt := 26) hx hb dX8_readStall_11 (by decide) (fun c_11 => ?_) (fun c_11 => ?_)
  · refine lv_aload_n hx hb dX8_readStall_26 rfl (lv_at hl 2 rfl) ?_
    refine mk_getM X w hm hin3 3 (by decide) (List.mem_of_getElem? (i := 3) rfl) rfl dX8_readStall_27 ?_
    refine lv_bipush (v := 6) hx hb dX8_readStall_30 (by decide) ?_
    refine lv_icmp_ne (tgt := 44) hx hb dX8_readStall_32 (by decide) (fun c_32 => ?_) (fun c_32 => ?_)
    · refine lv_aload_n hx hb dX8_readStall_44 rfl (lv_at hl 1 rfl) ?_
      refine lv_dup hx hb dX8_readStall_45 rfl ?_
      refine ob_get X w ho 2 (by decide) (C0 := RX8) (T := TX8) (N := 5) (ci := 6) rfl hin8 rfl 2 (by decide) (List.mem_of_getElem? (i := 2) rfl) rfl rfl dX8_readStall_46 ?_
      refine lv_iconst (v := 1) hx hb dX8_readStall_49 (by decide) ?_
      refine lv_iadd hx hb dX8_readStall_50 ?_
      refine ob_put X w ho 2 (by decide) (C0 := RX8) (T := TX8) (N := 5) (ci := 6) rfl hin8 tyX8_ok nmX8 rfl 2 (by decide) (List.mem_of_getElem? (i := 2) rfl) rfl rfl rfl (by show _ < 5; decide) 24 0 rfl (ob_o0 _ _ (by decide) 0) dX8_readStall_51 (fun H locs w => ?_)
      have eC : (mo_w C 24 0 ((C 24 0 + 1))) = cr_b C g := by
        unfold cr_b cr_a
        rw [if_neg c_11, if_neg c_32]
      rw [eC] at w
      refine lv_aload_n hx hb dX8_readStall_54 rfl (lv_at hl 1 rfl) ?_
      refine lv_iconst (v := 0) hx hb dX8_readStall_55 (by decide) ?_
      refine lv_aload_n hx hb dX8_readStall_56 rfl (lv_at hl 2 rfl) ?_
      refine mk_getM X w hm hin3 2 (by decide) (List.mem_of_getElem? (i := 4) rfl) rfl dX8_readStall_57 ?_
      refine lv_iconst (v := 1) hx hb dX8_readStall_60 (by decide) ?_
      refine lv_isub hx hb dX8_readStall_61 ?_
      refine hg_viF (r := (mk_number (cr_b C g) 0 (g 2 - 1)).1) (As := [.int (0), .int ((g 2 - 1))]) (rest := []) X w (c_X8_number l D b0 L f oa (cr_b C g) mr im mk ad n g hm hs ho 0 (g 2 - 1)) (cwV 2 hts gX8_readStall_X8_number rfl rfl rfl hdX8_number ⟨Nat.le_of_ble_eq_true rfl, Nat.le_of_ble_eq_true rfl⟩) (ho.1 2 (by decide)).1 (ow_at ho (k := 2) (by decide)) rfl rfl rfl hl.1 rfl (Nat.le_of_ble_eq_true rfl) dX8_readStall_62 ⟨Nat.zero_le _, Nat.zero_le _⟩ (fun H locs w => ?_)
      have w : hg_W D b0 L (ob_W D f oa ((cr_c C g).2) mr im mk ad n g) s.heap H locs := w
      refine lv_istore_n (lv' := [(3, .int ((cr_c C g).1)), (2, .int ((cr_k C))), (0, .ref (oa 2)), (1, .ref mk)]) hx hb dX8_readStall_65 rfl hl (by decide) rfl (fun ls hl => ?_)
      refine lv_aload_n hx hb dX8_readStall_66 rfl (lv_at hl 2 rfl) ?_
      refine lv_bipush (v := 44) hx hb dX8_readStall_67 (by decide) ?_
      refine hg_vvF (As := [.int (44)]) (rest := []) X w (c_X8_pass l D b0 L f oa ((cr_c C g).2) mr im mk ad n g hm hs ho 44) (cwV 1 hts gX8_readStall_X8_pass rfl rfl rfl hdX8_pass ⟨Nat.le_of_ble_eq_true rfl, Nat.le_of_ble_eq_true rfl⟩) (ho.1 2 (by decide)).1 (ow_at ho (k := 2) (by decide)) rfl rfl rfl hl.1 rfl (Nat.le_of_ble_eq_true rfl) dX8_readStall_69 ⟨Nat.zero_le _, Nat.zero_le _⟩ (fun H locs w => ?_)
      have w : hg_W D b0 L (ob_W D f oa (cr_d C g) mr im mk ad n g) s.heap H locs := w
      refine lv_aload_n hx hb dX8_readStall_72 rfl (lv_at hl 2 rfl) ?_
      refine ob_get X w ho 2 (by decide) (C0 := RX8) (T := TX8) (N := 5) (ci := 6) rfl hin8 rfl 2 (by decide) (List.mem_of_getElem? (i := 2) rfl) rfl rfl dX8_readStall_73 ?_
      refine lv_istore (lv' := [(4, .int ((cr_d C g) 24 0)), (3, .int ((cr_c C g).1)), (2, .int ((cr_k C))), (0, .ref (oa 2)), (1, .ref mk)]) hx hb dX8_readStall_76 hl (by decide) rfl (fun ls hl => ?_)
      refine lv_aload_n hx hb dX8_readStall_78 rfl (lv_at hl 3 rfl) ?_
      refine lv_iconst (v := 1) hx hb dX8_readStall_79 (by decide) ?_
      refine lv_bipush (v := 8) hx hb dX8_readStall_80 (by decide) ?_
      refine hg_viF (r := (mk_number (cr_d C g) 1 8).1) (As := [.int (1), .int (8)]) (rest := []) X w (c_X8_number l D b0 L f oa (cr_d C g) mr im mk ad n g hm hs ho 1 8) (cwV 2 hts gX8_readStall_X8_number rfl rfl rfl hdX8_number ⟨Nat.le_of_ble_eq_true rfl, Nat.le_of_ble_eq_true rfl⟩) (ho.1 2 (by decide)).1 (ow_at ho (k := 2) (by decide)) rfl rfl rfl hl.1 rfl (Nat.le_of_ble_eq_true rfl) dX8_readStall_82 ⟨Nat.zero_le _, Nat.zero_le _⟩ (fun H locs w => ?_)
      have w : hg_W D b0 L (ob_W D f oa ((cr_e C g).2) mr im mk ad n g) s.heap H locs := w
      refine lv_istore (lv' := [(5, .int ((cr_e C g).1)), (4, .int ((cr_d C g) 24 0)), (3, .int ((cr_c C g).1)), (2, .int ((cr_k C))), (0, .ref (oa 2)), (1, .ref mk)]) hx hb dX8_readStall_85 hl (by decide) rfl (fun ls hl => ?_)
      refine lv_aload_n hx hb dX8_readStall_87 rfl (lv_at hl 5 rfl) ?_
      refine lv_iload_n hx hb dX8_readStall_88 rfl (lv_at hl 2 rfl) ?_
      refine lv_iload hx hb dX8_readStall_89 (lv_at hl 0 rfl) ?_
      refine hg_vqF (r := (mk_std g ((cr_c C g).1) ((cr_e C g).1) n).map (fun j => ad (2 + j))) (As := [.int ((cr_c C g).1), .int ((cr_e C g).1)]) (rest := []) X w (c_X3_standing l D b0 L (ob_F D f oa ((cr_e C g).2) mr im) mk ad n g hm hs ((cr_c C g).1) ((cr_e C g).1)) (cwV 2 hts gX8_readStall_X3_standing rfl rfl rfl hdX3_standing ⟨Nat.le_of_ble_eq_true rfl, Nat.le_of_ble_eq_true rfl⟩) (hm.1) (mk_at0 D _ mk ad n _) rfl rfl rfl hl.1 rfl (Nat.le_of_ble_eq_true rfl) dX8_readStall_91 ⟨Nat.zero_le _, Nat.zero_le _⟩ (fun H locs w => ?_)
      refine mk_qk (ad := ad) (fun hq91 => ?_) (fun jq91 hq91 => ?_)
      · refine lv_ifnullN (tgt := 104) hx hb dX8_readStall_94 (by decide) ?_
        have eF : cr_f C g n = (cr_e C g).2 := by
          unfold cr_f
          rw [if_pos hq91]
        have w : hg_W D b0 L (ob_W D f oa (cr_f C g n) mr im mk ad n g) s.heap H locs := by rw [eF]; exact w
        refine lv_aload_n hx hb dX8_readStall_104 rfl (lv_at hl 4 rfl) ?_
        refine lv_bipush (v := 44) hx hb dX8_readStall_105 (by decide) ?_
        refine hg_vvF (As := [.int (44)]) (rest := []) X w (c_X8_pass l D b0 L f oa (cr_f C g n) mr im mk ad n g hm hs ho 44) (cwV 1 hts gX8_readStall_X8_pass rfl rfl rfl hdX8_pass ⟨Nat.le_of_ble_eq_true rfl, Nat.le_of_ble_eq_true rfl⟩) (ho.1 2 (by decide)).1 (ow_at ho (k := 2) (by decide)) rfl rfl rfl hl.1 rfl (Nat.le_of_ble_eq_true rfl) dX8_readStall_107 ⟨Nat.zero_le _, Nat.zero_le _⟩ (fun H locs w => ?_)
        have w : hg_W D b0 L (ob_W D f oa (cr_g C g n) mr im mk ad n g) s.heap H locs := w
        refine lv_aload_n hx hb dX8_readStall_110 rfl (lv_at hl 4 rfl) ?_
        refine lv_iconst (v := 0) hx hb dX8_readStall_111 (by decide) ?_
        refine lv_bipush (v := 20) hx hb dX8_readStall_112 (by decide) ?_
        refine hg_viF (r := (mk_number (cr_g C g n) 0 20).1) (As := [.int (0), .int (20)]) (rest := []) X w (c_X8_number l D b0 L f oa (cr_g C g n) mr im mk ad n g hm hs ho 0 20) (cwV 2 hts gX8_readStall_X8_number rfl rfl rfl hdX8_number ⟨Nat.le_of_ble_eq_true rfl, Nat.le_of_ble_eq_true rfl⟩) (ho.1 2 (by decide)).1 (ow_at ho (k := 2) (by decide)) rfl rfl rfl hl.1 rfl (Nat.le_of_ble_eq_true rfl) dX8_readStall_114 ⟨Nat.zero_le _, Nat.zero_le _⟩ (fun H locs w => ?_)
        have w : hg_W D b0 L (ob_W D f oa ((cr_h C g n).2) mr im mk ad n g) s.heap H locs := w
        refine lv_istore (lv' := [(6, .int ((cr_h C g n).1)), (5, .int ((cr_e C g).1)), (4, .int ((cr_d C g) 24 0)), (3, .int ((cr_c C g).1)), (2, .int ((cr_k C))), (0, .ref (oa 2)), (1, .ref mk)]) hx hb dX8_readStall_117 hl (by decide) rfl (fun ls hl => ?_)
        refine lv_aload_n hx hb dX8_readStall_119 rfl (lv_at hl 5 rfl) ?_
        refine lv_bipush (v := 59) hx hb dX8_readStall_120 (by decide) ?_
        refine hg_vvF (As := [.int (59)]) (rest := []) X w (c_X8_pass l D b0 L f oa ((cr_h C g n).2) mr im mk ad n g hm hs ho 59) (cwV 1 hts gX8_readStall_X8_pass rfl rfl rfl hdX8_pass ⟨Nat.le_of_ble_eq_true rfl, Nat.le_of_ble_eq_true rfl⟩) (ho.1 2 (by decide)).1 (ow_at ho (k := 2) (by decide)) rfl rfl rfl hl.1 rfl (Nat.le_of_ble_eq_true rfl) dX8_readStall_122 ⟨Nat.zero_le _, Nat.zero_le _⟩ (fun H locs w => ?_)
        have w : hg_W D b0 L (ob_W D f oa (cr_s C g n) mr im mk ad n g) s.heap H locs := w
        refine lv_aload_n hx hb dX8_readStall_125 rfl (lv_at hl 5 rfl) ?_
        refine ob_get X w ho 2 (by decide) (C0 := RX8) (T := TX8) (N := 5) (ci := 6) rfl hin8 rfl 3 (by decide) (List.mem_of_getElem? (i := 5) rfl) rfl rfl dX8_readStall_126 ?_
        refine lv_if_ne (tgt := 145) hx hb dX8_readStall_129 (by decide) (fun c_129 => ?_) (fun c_129 => ?_)
        · refine W.widen (k := 1) (n := 7) (by omega) (by omega) ?_
          exact hend H locs (L, ob_W D f oa (cr_s C g n) mr im mk ad n g) _ ls w (Or.inr ⟨c_129, rfl⟩) dX8_readStall_145
        · refine lv_aload_n hx hb dX8_readStall_132 rfl (lv_at hl 6 rfl) ?_
          refine lv_iload_n hx hb dX8_readStall_133 rfl (lv_at hl 4 rfl) ?_
          have hS : cr_s C g n 25 0 = 0 := c_129
          have hK := cr_s_k hS
          refine hg_sq (As := [.int ((cr_k C))]) (rest := [.ref mk]) X w (c_X6_ofKind l D b0 L (ob_W D f oa (cr_s C g n) mr im mk ad n g) (cr_k C) (cr_kv hK.1)) (va_cwS 1 hts gX8_readStall_X6_ofKind rfl rfl rfl hdX6_ofKind ⟨Nat.le_of_ble_eq_true rfl, Nat.le_of_ble_eq_true rfl⟩) rfl hl.1 rfl (Nat.le_of_ble_eq_true rfl) dX8_readStall_134 ⟨(Nat.le_of_ble_eq_true rfl), (Nat.le_of_ble_eq_true rfl)⟩ (fun v0 u0 H locs hp w => ?_)
          obtain ⟨q, rfl, hq, rfl⟩ := hp
          refine (show W p l e _ s m args below meth c H locs _ _ Q (F0 m 137 ls [.ref q, .ref mk]) from ?_)
          refine lv_iload_n hx hb dX8_readStall_137 rfl (lv_at hl 3 rfl) ?_
          refine lv_iload hx hb dX8_readStall_138 (lv_at hl 1 rfl) ?_
          refine lv_iload hx hb dX8_readStall_140 (lv_at hl 0 rfl) ?_
          have hn6 : n < 6 := by
            have h6 := hs.2.1
            rcases Nat.lt_or_ge n 6 with z | z
            · exact z
            · exact absurd (by rw [hs.1, show n = 6 by omega]; rfl) hK.2.1
          have hmq : mk ≠ q := fun z => hq (by rw [← z]; exact hm.1)
          refine hg_vv (As := [.ref q, .int ((cr_c C g).1), .int ((cr_e C g).1), .int ((cr_h C g n).1)]) (rest := []) X w (c_X3_addStall l D b0 L (ob_F D f oa (cr_s C g n) mr im) mk ad n g hm hs q hq hn6 hs.1 (cr_k C) ((cr_c C g).1) ((cr_e C g).1) ((cr_h C g n).1)) (cwV 4 hts gX8_readStall_X3_addStall rfl rfl rfl hdX3_addStall ⟨Nat.le_of_ble_eq_true rfl, Nat.le_of_ble_eq_true rfl⟩) (List.mem_append_left _ hm.1) ((va_up_ne _ _ hmq).trans (mk_at0 D _ mk ad n g)) rfl rfl rfl hl.1 rfl (Nat.le_of_ble_eq_true rfl) dX8_readStall_142 ⟨(Nat.le_of_ble_eq_true rfl), (Nat.le_of_ble_eq_true rfl)⟩ (fun u H locs hp w => ?_)
          subst hp
          exact hend H locs (L ++ [q], ob_W D f oa (cr_s C g n) mr im mk (va_up ad (2 + n) q) (n + 1) (mk_as g n (cr_k C) (cr_c C g).1 (cr_e C g).1 (cr_h C g n).1)) _ ls w (Or.inl ⟨hS, q, hq, rfl⟩) dX8_readStall_145
      · have hjq91 : jq91 < n := mk_std_lt hq91
        refine lv_ifnull hx hb dX8_readStall_94 ?_
        refine lv_aload_n hx hb dX8_readStall_97 rfl (lv_at hl 4 rfl) ?_
        refine lv_iconst (v := 2) hx hb dX8_readStall_98 (by decide) ?_
        refine lv_iload hx hb dX8_readStall_99 (lv_at hl 1 rfl) ?_
        refine hg_vvF (As := [.int (2), .int ((cr_d C g) 24 0)]) (rest := []) X w (c_X8_tellFault l D b0 L f oa ((cr_e C g).2) mr im mk ad n g hm hs ho 2 ((cr_d C g) 24 0)) (cwV 2 hts gX8_readStall_X8_tellFault rfl rfl rfl hdX8_tellFault ⟨Nat.le_of_ble_eq_true rfl, Nat.le_of_ble_eq_true rfl⟩) (ho.1 2 (by decide)).1 (ow_at ho (k := 2) (by decide)) rfl rfl rfl hl.1 rfl (Nat.le_of_ble_eq_true rfl) dX8_readStall_101 ⟨Nat.zero_le _, Nat.zero_le _⟩ (fun H locs w => ?_)
        have eF : cr_f C g n = (mk_tf ((cr_e C g).2) 2 ((cr_d C g) 24 0)) := by
          unfold cr_f
          rw [if_neg (show ¬ mk_std g (cr_c C g).1 (cr_e C g).1 n = none by rw [hq91]; exact fun q => nomatch q)]
        have w : hg_W D b0 L (ob_W D f oa (cr_f C g n) mr im mk ad n g) s.heap H locs := by rw [eF]; exact w
        refine lv_aload_n hx hb dX8_readStall_104 rfl (lv_at hl 4 rfl) ?_
        refine lv_bipush (v := 44) hx hb dX8_readStall_105 (by decide) ?_
        refine hg_vvF (As := [.int (44)]) (rest := []) X w (c_X8_pass l D b0 L f oa (cr_f C g n) mr im mk ad n g hm hs ho 44) (cwV 1 hts gX8_readStall_X8_pass rfl rfl rfl hdX8_pass ⟨Nat.le_of_ble_eq_true rfl, Nat.le_of_ble_eq_true rfl⟩) (ho.1 2 (by decide)).1 (ow_at ho (k := 2) (by decide)) rfl rfl rfl hl.1 rfl (Nat.le_of_ble_eq_true rfl) dX8_readStall_107 ⟨Nat.zero_le _, Nat.zero_le _⟩ (fun H locs w => ?_)
        have w : hg_W D b0 L (ob_W D f oa (cr_g C g n) mr im mk ad n g) s.heap H locs := w
        refine lv_aload_n hx hb dX8_readStall_110 rfl (lv_at hl 4 rfl) ?_
        refine lv_iconst (v := 0) hx hb dX8_readStall_111 (by decide) ?_
        refine lv_bipush (v := 20) hx hb dX8_readStall_112 (by decide) ?_
        refine hg_viF (r := (mk_number (cr_g C g n) 0 20).1) (As := [.int (0), .int (20)]) (rest := []) X w (c_X8_number l D b0 L f oa (cr_g C g n) mr im mk ad n g hm hs ho 0 20) (cwV 2 hts gX8_readStall_X8_number rfl rfl rfl hdX8_number ⟨Nat.le_of_ble_eq_true rfl, Nat.le_of_ble_eq_true rfl⟩) (ho.1 2 (by decide)).1 (ow_at ho (k := 2) (by decide)) rfl rfl rfl hl.1 rfl (Nat.le_of_ble_eq_true rfl) dX8_readStall_114 ⟨Nat.zero_le _, Nat.zero_le _⟩ (fun H locs w => ?_)
        have w : hg_W D b0 L (ob_W D f oa ((cr_h C g n).2) mr im mk ad n g) s.heap H locs := w
        refine lv_istore (lv' := [(6, .int ((cr_h C g n).1)), (5, .int ((cr_e C g).1)), (4, .int ((cr_d C g) 24 0)), (3, .int ((cr_c C g).1)), (2, .int ((cr_k C))), (0, .ref (oa 2)), (1, .ref mk)]) hx hb dX8_readStall_117 hl (by decide) rfl (fun ls hl => ?_)
        refine lv_aload_n hx hb dX8_readStall_119 rfl (lv_at hl 5 rfl) ?_
        refine lv_bipush (v := 59) hx hb dX8_readStall_120 (by decide) ?_
        refine hg_vvF (As := [.int (59)]) (rest := []) X w (c_X8_pass l D b0 L f oa ((cr_h C g n).2) mr im mk ad n g hm hs ho 59) (cwV 1 hts gX8_readStall_X8_pass rfl rfl rfl hdX8_pass ⟨Nat.le_of_ble_eq_true rfl, Nat.le_of_ble_eq_true rfl⟩) (ho.1 2 (by decide)).1 (ow_at ho (k := 2) (by decide)) rfl rfl rfl hl.1 rfl (Nat.le_of_ble_eq_true rfl) dX8_readStall_122 ⟨Nat.zero_le _, Nat.zero_le _⟩ (fun H locs w => ?_)
        have w : hg_W D b0 L (ob_W D f oa (cr_s C g n) mr im mk ad n g) s.heap H locs := w
        refine lv_aload_n hx hb dX8_readStall_125 rfl (lv_at hl 5 rfl) ?_
        refine ob_get X w ho 2 (by decide) (C0 := RX8) (T := TX8) (N := 5) (ci := 6) rfl hin8 rfl 3 (by decide) (List.mem_of_getElem? (i := 5) rfl) rfl rfl dX8_readStall_126 ?_
        refine lv_if_ne (tgt := 145) hx hb dX8_readStall_129 (by decide) (fun c_129 => ?_) (fun c_129 => ?_)
        · refine W.widen (k := 1) (n := 7) (by omega) (by omega) ?_
          exact hend H locs (L, ob_W D f oa (cr_s C g n) mr im mk ad n g) _ ls w (Or.inr ⟨c_129, rfl⟩) dX8_readStall_145
        · refine lv_aload_n hx hb dX8_readStall_132 rfl (lv_at hl 6 rfl) ?_
          refine lv_iload_n hx hb dX8_readStall_133 rfl (lv_at hl 4 rfl) ?_
          have hS : cr_s C g n 25 0 = 0 := c_129
          have hK := cr_s_k hS
          refine hg_sq (As := [.int ((cr_k C))]) (rest := [.ref mk]) X w (c_X6_ofKind l D b0 L (ob_W D f oa (cr_s C g n) mr im mk ad n g) (cr_k C) (cr_kv hK.1)) (va_cwS 1 hts gX8_readStall_X6_ofKind rfl rfl rfl hdX6_ofKind ⟨Nat.le_of_ble_eq_true rfl, Nat.le_of_ble_eq_true rfl⟩) rfl hl.1 rfl (Nat.le_of_ble_eq_true rfl) dX8_readStall_134 ⟨(Nat.le_of_ble_eq_true rfl), (Nat.le_of_ble_eq_true rfl)⟩ (fun v0 u0 H locs hp w => ?_)
          obtain ⟨q, rfl, hq, rfl⟩ := hp
          refine (show W p l e _ s m args below meth c H locs _ _ Q (F0 m 137 ls [.ref q, .ref mk]) from ?_)
          refine lv_iload_n hx hb dX8_readStall_137 rfl (lv_at hl 3 rfl) ?_
          refine lv_iload hx hb dX8_readStall_138 (lv_at hl 1 rfl) ?_
          refine lv_iload hx hb dX8_readStall_140 (lv_at hl 0 rfl) ?_
          have hn6 : n < 6 := by
            have h6 := hs.2.1
            rcases Nat.lt_or_ge n 6 with z | z
            · exact z
            · exact absurd (by rw [hs.1, show n = 6 by omega]; rfl) hK.2.1
          have hmq : mk ≠ q := fun z => hq (by rw [← z]; exact hm.1)
          refine hg_vv (As := [.ref q, .int ((cr_c C g).1), .int ((cr_e C g).1), .int ((cr_h C g n).1)]) (rest := []) X w (c_X3_addStall l D b0 L (ob_F D f oa (cr_s C g n) mr im) mk ad n g hm hs q hq hn6 hs.1 (cr_k C) ((cr_c C g).1) ((cr_e C g).1) ((cr_h C g n).1)) (cwV 4 hts gX8_readStall_X3_addStall rfl rfl rfl hdX3_addStall ⟨Nat.le_of_ble_eq_true rfl, Nat.le_of_ble_eq_true rfl⟩) (List.mem_append_left _ hm.1) ((va_up_ne _ _ hmq).trans (mk_at0 D _ mk ad n g)) rfl rfl rfl hl.1 rfl (Nat.le_of_ble_eq_true rfl) dX8_readStall_142 ⟨(Nat.le_of_ble_eq_true rfl), (Nat.le_of_ble_eq_true rfl)⟩ (fun u H locs hp w => ?_)
          subst hp
          exact hend H locs (L ++ [q], ob_W D f oa (cr_s C g n) mr im mk (va_up ad (2 + n) q) (n + 1) (mk_as g n (cr_k C) (cr_c C g).1 (cr_e C g).1 (cr_h C g n).1)) _ ls w (Or.inl ⟨hS, q, hq, rfl⟩) dX8_readStall_145
    · refine lv_aload_n hx hb dX8_readStall_35 rfl (lv_at hl 1 rfl) ?_
      refine lv_iconst (v := 3) hx hb dX8_readStall_36 (by decide) ?_
      refine lv_aload_n hx hb dX8_readStall_37 rfl (lv_at hl 1 rfl) ?_
      refine ob_get X w ho 2 (by decide) (C0 := RX8) (T := TX8) (N := 5) (ci := 6) rfl hin8 rfl 2 (by decide) (List.mem_of_getElem? (i := 2) rfl) rfl rfl dX8_readStall_38 ?_
      refine hg_vvF (As := [.int (3), .int (C 24 0)]) (rest := []) X w (c_X8_tellFault l D b0 L f oa C mr im mk ad n g hm hs ho 3 (C 24 0)) (cwV 2 hts gX8_readStall_X8_tellFault rfl rfl rfl hdX8_tellFault ⟨Nat.le_of_ble_eq_true rfl, Nat.le_of_ble_eq_true rfl⟩) (ho.1 2 (by decide)).1 (ow_at ho (k := 2) (by decide)) rfl rfl rfl hl.1 rfl (Nat.le_of_ble_eq_true rfl) dX8_readStall_41 ⟨Nat.zero_le _, Nat.zero_le _⟩ (fun H locs w => ?_)
      refine lv_aload_n hx hb dX8_readStall_44 rfl (lv_at hl 1 rfl) ?_
      refine lv_dup hx hb dX8_readStall_45 rfl ?_
      refine ob_get X w ho 2 (by decide) (C0 := RX8) (T := TX8) (N := 5) (ci := 6) rfl hin8 rfl 2 (by decide) (List.mem_of_getElem? (i := 2) rfl) rfl rfl dX8_readStall_46 ?_
      refine lv_iconst (v := 1) hx hb dX8_readStall_49 (by decide) ?_
      refine lv_iadd hx hb dX8_readStall_50 ?_
      refine ob_put X w ho 2 (by decide) (C0 := RX8) (T := TX8) (N := 5) (ci := 6) rfl hin8 tyX8_ok nmX8 rfl 2 (by decide) (List.mem_of_getElem? (i := 2) rfl) rfl rfl rfl (by show _ < 5; decide) 24 0 rfl (ob_o0 _ _ (by decide) 0) dX8_readStall_51 (fun H locs w => ?_)
      have eC : (mo_w (mk_tf C 3 (C 24 0)) 24 0 (((mk_tf C 3 (C 24 0)) 24 0 + 1))) = cr_b C g := by
        unfold cr_b cr_a
        rw [if_neg c_11, if_pos c_32]
      rw [eC] at w
      refine lv_aload_n hx hb dX8_readStall_54 rfl (lv_at hl 1 rfl) ?_
      refine lv_iconst (v := 0) hx hb dX8_readStall_55 (by decide) ?_
      refine lv_aload_n hx hb dX8_readStall_56 rfl (lv_at hl 2 rfl) ?_
      refine mk_getM X w hm hin3 2 (by decide) (List.mem_of_getElem? (i := 4) rfl) rfl dX8_readStall_57 ?_
      refine lv_iconst (v := 1) hx hb dX8_readStall_60 (by decide) ?_
      refine lv_isub hx hb dX8_readStall_61 ?_
      refine hg_viF (r := (mk_number (cr_b C g) 0 (g 2 - 1)).1) (As := [.int (0), .int ((g 2 - 1))]) (rest := []) X w (c_X8_number l D b0 L f oa (cr_b C g) mr im mk ad n g hm hs ho 0 (g 2 - 1)) (cwV 2 hts gX8_readStall_X8_number rfl rfl rfl hdX8_number ⟨Nat.le_of_ble_eq_true rfl, Nat.le_of_ble_eq_true rfl⟩) (ho.1 2 (by decide)).1 (ow_at ho (k := 2) (by decide)) rfl rfl rfl hl.1 rfl (Nat.le_of_ble_eq_true rfl) dX8_readStall_62 ⟨Nat.zero_le _, Nat.zero_le _⟩ (fun H locs w => ?_)
      have w : hg_W D b0 L (ob_W D f oa ((cr_c C g).2) mr im mk ad n g) s.heap H locs := w
      refine lv_istore_n (lv' := [(3, .int ((cr_c C g).1)), (2, .int ((cr_k C))), (0, .ref (oa 2)), (1, .ref mk)]) hx hb dX8_readStall_65 rfl hl (by decide) rfl (fun ls hl => ?_)
      refine lv_aload_n hx hb dX8_readStall_66 rfl (lv_at hl 2 rfl) ?_
      refine lv_bipush (v := 44) hx hb dX8_readStall_67 (by decide) ?_
      refine hg_vvF (As := [.int (44)]) (rest := []) X w (c_X8_pass l D b0 L f oa ((cr_c C g).2) mr im mk ad n g hm hs ho 44) (cwV 1 hts gX8_readStall_X8_pass rfl rfl rfl hdX8_pass ⟨Nat.le_of_ble_eq_true rfl, Nat.le_of_ble_eq_true rfl⟩) (ho.1 2 (by decide)).1 (ow_at ho (k := 2) (by decide)) rfl rfl rfl hl.1 rfl (Nat.le_of_ble_eq_true rfl) dX8_readStall_69 ⟨Nat.zero_le _, Nat.zero_le _⟩ (fun H locs w => ?_)
      have w : hg_W D b0 L (ob_W D f oa (cr_d C g) mr im mk ad n g) s.heap H locs := w
      refine lv_aload_n hx hb dX8_readStall_72 rfl (lv_at hl 2 rfl) ?_
      refine ob_get X w ho 2 (by decide) (C0 := RX8) (T := TX8) (N := 5) (ci := 6) rfl hin8 rfl 2 (by decide) (List.mem_of_getElem? (i := 2) rfl) rfl rfl dX8_readStall_73 ?_
      refine lv_istore (lv' := [(4, .int ((cr_d C g) 24 0)), (3, .int ((cr_c C g).1)), (2, .int ((cr_k C))), (0, .ref (oa 2)), (1, .ref mk)]) hx hb dX8_readStall_76 hl (by decide) rfl (fun ls hl => ?_)
      refine lv_aload_n hx hb dX8_readStall_78 rfl (lv_at hl 3 rfl) ?_
      refine lv_iconst (v := 1) hx hb dX8_readStall_79 (by decide) ?_
      refine lv_bipush (v := 8) hx hb dX8_readStall_80 (by decide) ?_
      refine hg_viF (r := (mk_number (cr_d C g) 1 8).1) (As := [.int (1), .int (8)]) (rest := []) X w (c_X8_number l D b0 L f oa (cr_d C g) mr im mk ad n g hm hs ho 1 8) (cwV 2 hts gX8_readStall_X8_number rfl rfl rfl hdX8_number ⟨Nat.le_of_ble_eq_true rfl, Nat.le_of_ble_eq_true rfl⟩) (ho.1 2 (by decide)).1 (ow_at ho (k := 2) (by decide)) rfl rfl rfl hl.1 rfl (Nat.le_of_ble_eq_true rfl) dX8_readStall_82 ⟨Nat.zero_le _, Nat.zero_le _⟩ (fun H locs w => ?_)
      have w : hg_W D b0 L (ob_W D f oa ((cr_e C g).2) mr im mk ad n g) s.heap H locs := w
      refine lv_istore (lv' := [(5, .int ((cr_e C g).1)), (4, .int ((cr_d C g) 24 0)), (3, .int ((cr_c C g).1)), (2, .int ((cr_k C))), (0, .ref (oa 2)), (1, .ref mk)]) hx hb dX8_readStall_85 hl (by decide) rfl (fun ls hl => ?_)
      refine lv_aload_n hx hb dX8_readStall_87 rfl (lv_at hl 5 rfl) ?_
      refine lv_iload_n hx hb dX8_readStall_88 rfl (lv_at hl 2 rfl) ?_
      refine lv_iload hx hb dX8_readStall_89 (lv_at hl 0 rfl) ?_
      refine hg_vqF (r := (mk_std g ((cr_c C g).1) ((cr_e C g).1) n).map (fun j => ad (2 + j))) (As := [.int ((cr_c C g).1), .int ((cr_e C g).1)]) (rest := []) X w (c_X3_standing l D b0 L (ob_F D f oa ((cr_e C g).2) mr im) mk ad n g hm hs ((cr_c C g).1) ((cr_e C g).1)) (cwV 2 hts gX8_readStall_X3_standing rfl rfl rfl hdX3_standing ⟨Nat.le_of_ble_eq_true rfl, Nat.le_of_ble_eq_true rfl⟩) (hm.1) (mk_at0 D _ mk ad n _) rfl rfl rfl hl.1 rfl (Nat.le_of_ble_eq_true rfl) dX8_readStall_91 ⟨Nat.zero_le _, Nat.zero_le _⟩ (fun H locs w => ?_)
      refine mk_qk (ad := ad) (fun hq91 => ?_) (fun jq91 hq91 => ?_)
      · refine lv_ifnullN (tgt := 104) hx hb dX8_readStall_94 (by decide) ?_
        have eF : cr_f C g n = (cr_e C g).2 := by
          unfold cr_f
          rw [if_pos hq91]
        have w : hg_W D b0 L (ob_W D f oa (cr_f C g n) mr im mk ad n g) s.heap H locs := by rw [eF]; exact w
        refine lv_aload_n hx hb dX8_readStall_104 rfl (lv_at hl 4 rfl) ?_
        refine lv_bipush (v := 44) hx hb dX8_readStall_105 (by decide) ?_
        refine hg_vvF (As := [.int (44)]) (rest := []) X w (c_X8_pass l D b0 L f oa (cr_f C g n) mr im mk ad n g hm hs ho 44) (cwV 1 hts gX8_readStall_X8_pass rfl rfl rfl hdX8_pass ⟨Nat.le_of_ble_eq_true rfl, Nat.le_of_ble_eq_true rfl⟩) (ho.1 2 (by decide)).1 (ow_at ho (k := 2) (by decide)) rfl rfl rfl hl.1 rfl (Nat.le_of_ble_eq_true rfl) dX8_readStall_107 ⟨Nat.zero_le _, Nat.zero_le _⟩ (fun H locs w => ?_)
        have w : hg_W D b0 L (ob_W D f oa (cr_g C g n) mr im mk ad n g) s.heap H locs := w
        refine lv_aload_n hx hb dX8_readStall_110 rfl (lv_at hl 4 rfl) ?_
        refine lv_iconst (v := 0) hx hb dX8_readStall_111 (by decide) ?_
        refine lv_bipush (v := 20) hx hb dX8_readStall_112 (by decide) ?_
        refine hg_viF (r := (mk_number (cr_g C g n) 0 20).1) (As := [.int (0), .int (20)]) (rest := []) X w (c_X8_number l D b0 L f oa (cr_g C g n) mr im mk ad n g hm hs ho 0 20) (cwV 2 hts gX8_readStall_X8_number rfl rfl rfl hdX8_number ⟨Nat.le_of_ble_eq_true rfl, Nat.le_of_ble_eq_true rfl⟩) (ho.1 2 (by decide)).1 (ow_at ho (k := 2) (by decide)) rfl rfl rfl hl.1 rfl (Nat.le_of_ble_eq_true rfl) dX8_readStall_114 ⟨Nat.zero_le _, Nat.zero_le _⟩ (fun H locs w => ?_)
        have w : hg_W D b0 L (ob_W D f oa ((cr_h C g n).2) mr im mk ad n g) s.heap H locs := w
        refine lv_istore (lv' := [(6, .int ((cr_h C g n).1)), (5, .int ((cr_e C g).1)), (4, .int ((cr_d C g) 24 0)), (3, .int ((cr_c C g).1)), (2, .int ((cr_k C))), (0, .ref (oa 2)), (1, .ref mk)]) hx hb dX8_readStall_117 hl (by decide) rfl (fun ls hl => ?_)
        refine lv_aload_n hx hb dX8_readStall_119 rfl (lv_at hl 5 rfl) ?_
        refine lv_bipush (v := 59) hx hb dX8_readStall_120 (by decide) ?_
        refine hg_vvF (As := [.int (59)]) (rest := []) X w (c_X8_pass l D b0 L f oa ((cr_h C g n).2) mr im mk ad n g hm hs ho 59) (cwV 1 hts gX8_readStall_X8_pass rfl rfl rfl hdX8_pass ⟨Nat.le_of_ble_eq_true rfl, Nat.le_of_ble_eq_true rfl⟩) (ho.1 2 (by decide)).1 (ow_at ho (k := 2) (by decide)) rfl rfl rfl hl.1 rfl (Nat.le_of_ble_eq_true rfl) dX8_readStall_122 ⟨Nat.zero_le _, Nat.zero_le _⟩ (fun H locs w => ?_)
        have w : hg_W D b0 L (ob_W D f oa (cr_s C g n) mr im mk ad n g) s.heap H locs := w
        refine lv_aload_n hx hb dX8_readStall_125 rfl (lv_at hl 5 rfl) ?_
        refine ob_get X w ho 2 (by decide) (C0 := RX8) (T := TX8) (N := 5) (ci := 6) rfl hin8 rfl 3 (by decide) (List.mem_of_getElem? (i := 5) rfl) rfl rfl dX8_readStall_126 ?_
        refine lv_if_ne (tgt := 145) hx hb dX8_readStall_129 (by decide) (fun c_129 => ?_) (fun c_129 => ?_)
        · refine W.widen (k := 1) (n := 7) (by omega) (by omega) ?_
          exact hend H locs (L, ob_W D f oa (cr_s C g n) mr im mk ad n g) _ ls w (Or.inr ⟨c_129, rfl⟩) dX8_readStall_145
        · refine lv_aload_n hx hb dX8_readStall_132 rfl (lv_at hl 6 rfl) ?_
          refine lv_iload_n hx hb dX8_readStall_133 rfl (lv_at hl 4 rfl) ?_
          have hS : cr_s C g n 25 0 = 0 := c_129
          have hK := cr_s_k hS
          refine hg_sq (As := [.int ((cr_k C))]) (rest := [.ref mk]) X w (c_X6_ofKind l D b0 L (ob_W D f oa (cr_s C g n) mr im mk ad n g) (cr_k C) (cr_kv hK.1)) (va_cwS 1 hts gX8_readStall_X6_ofKind rfl rfl rfl hdX6_ofKind ⟨Nat.le_of_ble_eq_true rfl, Nat.le_of_ble_eq_true rfl⟩) rfl hl.1 rfl (Nat.le_of_ble_eq_true rfl) dX8_readStall_134 ⟨(Nat.le_of_ble_eq_true rfl), (Nat.le_of_ble_eq_true rfl)⟩ (fun v0 u0 H locs hp w => ?_)
          obtain ⟨q, rfl, hq, rfl⟩ := hp
          refine (show W p l e _ s m args below meth c H locs _ _ Q (F0 m 137 ls [.ref q, .ref mk]) from ?_)
          refine lv_iload_n hx hb dX8_readStall_137 rfl (lv_at hl 3 rfl) ?_
          refine lv_iload hx hb dX8_readStall_138 (lv_at hl 1 rfl) ?_
          refine lv_iload hx hb dX8_readStall_140 (lv_at hl 0 rfl) ?_
          have hn6 : n < 6 := by
            have h6 := hs.2.1
            rcases Nat.lt_or_ge n 6 with z | z
            · exact z
            · exact absurd (by rw [hs.1, show n = 6 by omega]; rfl) hK.2.1
          have hmq : mk ≠ q := fun z => hq (by rw [← z]; exact hm.1)
          refine hg_vv (As := [.ref q, .int ((cr_c C g).1), .int ((cr_e C g).1), .int ((cr_h C g n).1)]) (rest := []) X w (c_X3_addStall l D b0 L (ob_F D f oa (cr_s C g n) mr im) mk ad n g hm hs q hq hn6 hs.1 (cr_k C) ((cr_c C g).1) ((cr_e C g).1) ((cr_h C g n).1)) (cwV 4 hts gX8_readStall_X3_addStall rfl rfl rfl hdX3_addStall ⟨Nat.le_of_ble_eq_true rfl, Nat.le_of_ble_eq_true rfl⟩) (List.mem_append_left _ hm.1) ((va_up_ne _ _ hmq).trans (mk_at0 D _ mk ad n g)) rfl rfl rfl hl.1 rfl (Nat.le_of_ble_eq_true rfl) dX8_readStall_142 ⟨(Nat.le_of_ble_eq_true rfl), (Nat.le_of_ble_eq_true rfl)⟩ (fun u H locs hp w => ?_)
          subst hp
          exact hend H locs (L ++ [q], ob_W D f oa (cr_s C g n) mr im mk (va_up ad (2 + n) q) (n + 1) (mk_as g n (cr_k C) (cr_c C g).1 (cr_e C g).1 (cr_h C g n).1)) _ ls w (Or.inl ⟨hS, q, hq, rfl⟩) dX8_readStall_145
      · have hjq91 : jq91 < n := mk_std_lt hq91
        refine lv_ifnull hx hb dX8_readStall_94 ?_
        refine lv_aload_n hx hb dX8_readStall_97 rfl (lv_at hl 4 rfl) ?_
        refine lv_iconst (v := 2) hx hb dX8_readStall_98 (by decide) ?_
        refine lv_iload hx hb dX8_readStall_99 (lv_at hl 1 rfl) ?_
        refine hg_vvF (As := [.int (2), .int ((cr_d C g) 24 0)]) (rest := []) X w (c_X8_tellFault l D b0 L f oa ((cr_e C g).2) mr im mk ad n g hm hs ho 2 ((cr_d C g) 24 0)) (cwV 2 hts gX8_readStall_X8_tellFault rfl rfl rfl hdX8_tellFault ⟨Nat.le_of_ble_eq_true rfl, Nat.le_of_ble_eq_true rfl⟩) (ho.1 2 (by decide)).1 (ow_at ho (k := 2) (by decide)) rfl rfl rfl hl.1 rfl (Nat.le_of_ble_eq_true rfl) dX8_readStall_101 ⟨Nat.zero_le _, Nat.zero_le _⟩ (fun H locs w => ?_)
        have eF : cr_f C g n = (mk_tf ((cr_e C g).2) 2 ((cr_d C g) 24 0)) := by
          unfold cr_f
          rw [if_neg (show ¬ mk_std g (cr_c C g).1 (cr_e C g).1 n = none by rw [hq91]; exact fun q => nomatch q)]
        have w : hg_W D b0 L (ob_W D f oa (cr_f C g n) mr im mk ad n g) s.heap H locs := by rw [eF]; exact w
        refine lv_aload_n hx hb dX8_readStall_104 rfl (lv_at hl 4 rfl) ?_
        refine lv_bipush (v := 44) hx hb dX8_readStall_105 (by decide) ?_
        refine hg_vvF (As := [.int (44)]) (rest := []) X w (c_X8_pass l D b0 L f oa (cr_f C g n) mr im mk ad n g hm hs ho 44) (cwV 1 hts gX8_readStall_X8_pass rfl rfl rfl hdX8_pass ⟨Nat.le_of_ble_eq_true rfl, Nat.le_of_ble_eq_true rfl⟩) (ho.1 2 (by decide)).1 (ow_at ho (k := 2) (by decide)) rfl rfl rfl hl.1 rfl (Nat.le_of_ble_eq_true rfl) dX8_readStall_107 ⟨Nat.zero_le _, Nat.zero_le _⟩ (fun H locs w => ?_)
        have w : hg_W D b0 L (ob_W D f oa (cr_g C g n) mr im mk ad n g) s.heap H locs := w
        refine lv_aload_n hx hb dX8_readStall_110 rfl (lv_at hl 4 rfl) ?_
        refine lv_iconst (v := 0) hx hb dX8_readStall_111 (by decide) ?_
        refine lv_bipush (v := 20) hx hb dX8_readStall_112 (by decide) ?_
        refine hg_viF (r := (mk_number (cr_g C g n) 0 20).1) (As := [.int (0), .int (20)]) (rest := []) X w (c_X8_number l D b0 L f oa (cr_g C g n) mr im mk ad n g hm hs ho 0 20) (cwV 2 hts gX8_readStall_X8_number rfl rfl rfl hdX8_number ⟨Nat.le_of_ble_eq_true rfl, Nat.le_of_ble_eq_true rfl⟩) (ho.1 2 (by decide)).1 (ow_at ho (k := 2) (by decide)) rfl rfl rfl hl.1 rfl (Nat.le_of_ble_eq_true rfl) dX8_readStall_114 ⟨Nat.zero_le _, Nat.zero_le _⟩ (fun H locs w => ?_)
        have w : hg_W D b0 L (ob_W D f oa ((cr_h C g n).2) mr im mk ad n g) s.heap H locs := w
        refine lv_istore (lv' := [(6, .int ((cr_h C g n).1)), (5, .int ((cr_e C g).1)), (4, .int ((cr_d C g) 24 0)), (3, .int ((cr_c C g).1)), (2, .int ((cr_k C))), (0, .ref (oa 2)), (1, .ref mk)]) hx hb dX8_readStall_117 hl (by decide) rfl (fun ls hl => ?_)
        refine lv_aload_n hx hb dX8_readStall_119 rfl (lv_at hl 5 rfl) ?_
        refine lv_bipush (v := 59) hx hb dX8_readStall_120 (by decide) ?_
        refine hg_vvF (As := [.int (59)]) (rest := []) X w (c_X8_pass l D b0 L f oa ((cr_h C g n).2) mr im mk ad n g hm hs ho 59) (cwV 1 hts gX8_readStall_X8_pass rfl rfl rfl hdX8_pass ⟨Nat.le_of_ble_eq_true rfl, Nat.le_of_ble_eq_true rfl⟩) (ho.1 2 (by decide)).1 (ow_at ho (k := 2) (by decide)) rfl rfl rfl hl.1 rfl (Nat.le_of_ble_eq_true rfl) dX8_readStall_122 ⟨Nat.zero_le _, Nat.zero_le _⟩ (fun H locs w => ?_)
        have w : hg_W D b0 L (ob_W D f oa (cr_s C g n) mr im mk ad n g) s.heap H locs := w
        refine lv_aload_n hx hb dX8_readStall_125 rfl (lv_at hl 5 rfl) ?_
        refine ob_get X w ho 2 (by decide) (C0 := RX8) (T := TX8) (N := 5) (ci := 6) rfl hin8 rfl 3 (by decide) (List.mem_of_getElem? (i := 5) rfl) rfl rfl dX8_readStall_126 ?_
        refine lv_if_ne (tgt := 145) hx hb dX8_readStall_129 (by decide) (fun c_129 => ?_) (fun c_129 => ?_)
        · refine W.widen (k := 1) (n := 7) (by omega) (by omega) ?_
          exact hend H locs (L, ob_W D f oa (cr_s C g n) mr im mk ad n g) _ ls w (Or.inr ⟨c_129, rfl⟩) dX8_readStall_145
        · refine lv_aload_n hx hb dX8_readStall_132 rfl (lv_at hl 6 rfl) ?_
          refine lv_iload_n hx hb dX8_readStall_133 rfl (lv_at hl 4 rfl) ?_
          have hS : cr_s C g n 25 0 = 0 := c_129
          have hK := cr_s_k hS
          refine hg_sq (As := [.int ((cr_k C))]) (rest := [.ref mk]) X w (c_X6_ofKind l D b0 L (ob_W D f oa (cr_s C g n) mr im mk ad n g) (cr_k C) (cr_kv hK.1)) (va_cwS 1 hts gX8_readStall_X6_ofKind rfl rfl rfl hdX6_ofKind ⟨Nat.le_of_ble_eq_true rfl, Nat.le_of_ble_eq_true rfl⟩) rfl hl.1 rfl (Nat.le_of_ble_eq_true rfl) dX8_readStall_134 ⟨(Nat.le_of_ble_eq_true rfl), (Nat.le_of_ble_eq_true rfl)⟩ (fun v0 u0 H locs hp w => ?_)
          obtain ⟨q, rfl, hq, rfl⟩ := hp
          refine (show W p l e _ s m args below meth c H locs _ _ Q (F0 m 137 ls [.ref q, .ref mk]) from ?_)
          refine lv_iload_n hx hb dX8_readStall_137 rfl (lv_at hl 3 rfl) ?_
          refine lv_iload hx hb dX8_readStall_138 (lv_at hl 1 rfl) ?_
          refine lv_iload hx hb dX8_readStall_140 (lv_at hl 0 rfl) ?_
          have hn6 : n < 6 := by
            have h6 := hs.2.1
            rcases Nat.lt_or_ge n 6 with z | z
            · exact z
            · exact absurd (by rw [hs.1, show n = 6 by omega]; rfl) hK.2.1
          have hmq : mk ≠ q := fun z => hq (by rw [← z]; exact hm.1)
          refine hg_vv (As := [.ref q, .int ((cr_c C g).1), .int ((cr_e C g).1), .int ((cr_h C g n).1)]) (rest := []) X w (c_X3_addStall l D b0 L (ob_F D f oa (cr_s C g n) mr im) mk ad n g hm hs q hq hn6 hs.1 (cr_k C) ((cr_c C g).1) ((cr_e C g).1) ((cr_h C g n).1)) (cwV 4 hts gX8_readStall_X3_addStall rfl rfl rfl hdX3_addStall ⟨Nat.le_of_ble_eq_true rfl, Nat.le_of_ble_eq_true rfl⟩) (List.mem_append_left _ hm.1) ((va_up_ne _ _ hmq).trans (mk_at0 D _ mk ad n g)) rfl rfl rfl hl.1 rfl (Nat.le_of_ble_eq_true rfl) dX8_readStall_142 ⟨(Nat.le_of_ble_eq_true rfl), (Nat.le_of_ble_eq_true rfl)⟩ (fun u H locs hp w => ?_)
          subst hp
          exact hend H locs (L ++ [q], ob_W D f oa (cr_s C g n) mr im mk (va_up ad (2 + n) q) (n + 1) (mk_as g n (cr_k C) (cr_c C g).1 (cr_e C g).1 (cr_h C g n).1)) _ ls w (Or.inl ⟨hS, q, hq, rfl⟩) dX8_readStall_145
  · refine lv_aload_n hx hb dX8_readStall_14 rfl (lv_at hl 1 rfl) ?_
    refine lv_iconst (v := 1) hx hb dX8_readStall_15 (by decide) ?_
    refine lv_aload_n hx hb dX8_readStall_16 rfl (lv_at hl 1 rfl) ?_
    refine ob_get X w ho 2 (by decide) (C0 := RX8) (T := TX8) (N := 5) (ci := 6) rfl hin8 rfl 2 (by decide) (List.mem_of_getElem? (i := 2) rfl) rfl rfl dX8_readStall_17 ?_
    refine hg_vvF (As := [.int (1), .int (C 24 0)]) (rest := []) X w (c_X8_tellFault l D b0 L f oa C mr im mk ad n g hm hs ho 1 (C 24 0)) (cwV 2 hts gX8_readStall_X8_tellFault rfl rfl rfl hdX8_tellFault ⟨Nat.le_of_ble_eq_true rfl, Nat.le_of_ble_eq_true rfl⟩) (ho.1 2 (by decide)).1 (ow_at ho (k := 2) (by decide)) rfl rfl rfl hl.1 rfl (Nat.le_of_ble_eq_true rfl) dX8_readStall_20 ⟨Nat.zero_le _, Nat.zero_le _⟩ (fun H locs w => ?_)
    refine lv_goto (tgt := 44) hx hb dX8_readStall_23 (by decide) ?_
    refine lv_aload_n hx hb dX8_readStall_44 rfl (lv_at hl 1 rfl) ?_
    refine lv_dup hx hb dX8_readStall_45 rfl ?_
    refine ob_get X w ho 2 (by decide) (C0 := RX8) (T := TX8) (N := 5) (ci := 6) rfl hin8 rfl 2 (by decide) (List.mem_of_getElem? (i := 2) rfl) rfl rfl dX8_readStall_46 ?_
    refine lv_iconst (v := 1) hx hb dX8_readStall_49 (by decide) ?_
    refine lv_iadd hx hb dX8_readStall_50 ?_
    refine ob_put X w ho 2 (by decide) (C0 := RX8) (T := TX8) (N := 5) (ci := 6) rfl hin8 tyX8_ok nmX8 rfl 2 (by decide) (List.mem_of_getElem? (i := 2) rfl) rfl rfl rfl (by show _ < 5; decide) 24 0 rfl (ob_o0 _ _ (by decide) 0) dX8_readStall_51 (fun H locs w => ?_)
    have eC : (mo_w (mk_tf C 1 (C 24 0)) 24 0 (((mk_tf C 1 (C 24 0)) 24 0 + 1))) = cr_b C g := by
      unfold cr_b cr_a
      rw [if_pos c_11]
    rw [eC] at w
    refine lv_aload_n hx hb dX8_readStall_54 rfl (lv_at hl 1 rfl) ?_
    refine lv_iconst (v := 0) hx hb dX8_readStall_55 (by decide) ?_
    refine lv_aload_n hx hb dX8_readStall_56 rfl (lv_at hl 2 rfl) ?_
    refine mk_getM X w hm hin3 2 (by decide) (List.mem_of_getElem? (i := 4) rfl) rfl dX8_readStall_57 ?_
    refine lv_iconst (v := 1) hx hb dX8_readStall_60 (by decide) ?_
    refine lv_isub hx hb dX8_readStall_61 ?_
    refine hg_viF (r := (mk_number (cr_b C g) 0 (g 2 - 1)).1) (As := [.int (0), .int ((g 2 - 1))]) (rest := []) X w (c_X8_number l D b0 L f oa (cr_b C g) mr im mk ad n g hm hs ho 0 (g 2 - 1)) (cwV 2 hts gX8_readStall_X8_number rfl rfl rfl hdX8_number ⟨Nat.le_of_ble_eq_true rfl, Nat.le_of_ble_eq_true rfl⟩) (ho.1 2 (by decide)).1 (ow_at ho (k := 2) (by decide)) rfl rfl rfl hl.1 rfl (Nat.le_of_ble_eq_true rfl) dX8_readStall_62 ⟨Nat.zero_le _, Nat.zero_le _⟩ (fun H locs w => ?_)
    have w : hg_W D b0 L (ob_W D f oa ((cr_c C g).2) mr im mk ad n g) s.heap H locs := w
    refine lv_istore_n (lv' := [(3, .int ((cr_c C g).1)), (2, .int ((cr_k C))), (0, .ref (oa 2)), (1, .ref mk)]) hx hb dX8_readStall_65 rfl hl (by decide) rfl (fun ls hl => ?_)
    refine lv_aload_n hx hb dX8_readStall_66 rfl (lv_at hl 2 rfl) ?_
    refine lv_bipush (v := 44) hx hb dX8_readStall_67 (by decide) ?_
    refine hg_vvF (As := [.int (44)]) (rest := []) X w (c_X8_pass l D b0 L f oa ((cr_c C g).2) mr im mk ad n g hm hs ho 44) (cwV 1 hts gX8_readStall_X8_pass rfl rfl rfl hdX8_pass ⟨Nat.le_of_ble_eq_true rfl, Nat.le_of_ble_eq_true rfl⟩) (ho.1 2 (by decide)).1 (ow_at ho (k := 2) (by decide)) rfl rfl rfl hl.1 rfl (Nat.le_of_ble_eq_true rfl) dX8_readStall_69 ⟨Nat.zero_le _, Nat.zero_le _⟩ (fun H locs w => ?_)
    have w : hg_W D b0 L (ob_W D f oa (cr_d C g) mr im mk ad n g) s.heap H locs := w
    refine lv_aload_n hx hb dX8_readStall_72 rfl (lv_at hl 2 rfl) ?_
    refine ob_get X w ho 2 (by decide) (C0 := RX8) (T := TX8) (N := 5) (ci := 6) rfl hin8 rfl 2 (by decide) (List.mem_of_getElem? (i := 2) rfl) rfl rfl dX8_readStall_73 ?_
    refine lv_istore (lv' := [(4, .int ((cr_d C g) 24 0)), (3, .int ((cr_c C g).1)), (2, .int ((cr_k C))), (0, .ref (oa 2)), (1, .ref mk)]) hx hb dX8_readStall_76 hl (by decide) rfl (fun ls hl => ?_)
    refine lv_aload_n hx hb dX8_readStall_78 rfl (lv_at hl 3 rfl) ?_
    refine lv_iconst (v := 1) hx hb dX8_readStall_79 (by decide) ?_
    refine lv_bipush (v := 8) hx hb dX8_readStall_80 (by decide) ?_
    refine hg_viF (r := (mk_number (cr_d C g) 1 8).1) (As := [.int (1), .int (8)]) (rest := []) X w (c_X8_number l D b0 L f oa (cr_d C g) mr im mk ad n g hm hs ho 1 8) (cwV 2 hts gX8_readStall_X8_number rfl rfl rfl hdX8_number ⟨Nat.le_of_ble_eq_true rfl, Nat.le_of_ble_eq_true rfl⟩) (ho.1 2 (by decide)).1 (ow_at ho (k := 2) (by decide)) rfl rfl rfl hl.1 rfl (Nat.le_of_ble_eq_true rfl) dX8_readStall_82 ⟨Nat.zero_le _, Nat.zero_le _⟩ (fun H locs w => ?_)
    have w : hg_W D b0 L (ob_W D f oa ((cr_e C g).2) mr im mk ad n g) s.heap H locs := w
    refine lv_istore (lv' := [(5, .int ((cr_e C g).1)), (4, .int ((cr_d C g) 24 0)), (3, .int ((cr_c C g).1)), (2, .int ((cr_k C))), (0, .ref (oa 2)), (1, .ref mk)]) hx hb dX8_readStall_85 hl (by decide) rfl (fun ls hl => ?_)
    refine lv_aload_n hx hb dX8_readStall_87 rfl (lv_at hl 5 rfl) ?_
    refine lv_iload_n hx hb dX8_readStall_88 rfl (lv_at hl 2 rfl) ?_
    refine lv_iload hx hb dX8_readStall_89 (lv_at hl 0 rfl) ?_
    refine hg_vqF (r := (mk_std g ((cr_c C g).1) ((cr_e C g).1) n).map (fun j => ad (2 + j))) (As := [.int ((cr_c C g).1), .int ((cr_e C g).1)]) (rest := []) X w (c_X3_standing l D b0 L (ob_F D f oa ((cr_e C g).2) mr im) mk ad n g hm hs ((cr_c C g).1) ((cr_e C g).1)) (cwV 2 hts gX8_readStall_X3_standing rfl rfl rfl hdX3_standing ⟨Nat.le_of_ble_eq_true rfl, Nat.le_of_ble_eq_true rfl⟩) (hm.1) (mk_at0 D _ mk ad n _) rfl rfl rfl hl.1 rfl (Nat.le_of_ble_eq_true rfl) dX8_readStall_91 ⟨Nat.zero_le _, Nat.zero_le _⟩ (fun H locs w => ?_)
    refine mk_qk (ad := ad) (fun hq91 => ?_) (fun jq91 hq91 => ?_)
    · refine lv_ifnullN (tgt := 104) hx hb dX8_readStall_94 (by decide) ?_
      have eF : cr_f C g n = (cr_e C g).2 := by
        unfold cr_f
        rw [if_pos hq91]
      have w : hg_W D b0 L (ob_W D f oa (cr_f C g n) mr im mk ad n g) s.heap H locs := by rw [eF]; exact w
      refine lv_aload_n hx hb dX8_readStall_104 rfl (lv_at hl 4 rfl) ?_
      refine lv_bipush (v := 44) hx hb dX8_readStall_105 (by decide) ?_
      refine hg_vvF (As := [.int (44)]) (rest := []) X w (c_X8_pass l D b0 L f oa (cr_f C g n) mr im mk ad n g hm hs ho 44) (cwV 1 hts gX8_readStall_X8_pass rfl rfl rfl hdX8_pass ⟨Nat.le_of_ble_eq_true rfl, Nat.le_of_ble_eq_true rfl⟩) (ho.1 2 (by decide)).1 (ow_at ho (k := 2) (by decide)) rfl rfl rfl hl.1 rfl (Nat.le_of_ble_eq_true rfl) dX8_readStall_107 ⟨Nat.zero_le _, Nat.zero_le _⟩ (fun H locs w => ?_)
      have w : hg_W D b0 L (ob_W D f oa (cr_g C g n) mr im mk ad n g) s.heap H locs := w
      refine lv_aload_n hx hb dX8_readStall_110 rfl (lv_at hl 4 rfl) ?_
      refine lv_iconst (v := 0) hx hb dX8_readStall_111 (by decide) ?_
      refine lv_bipush (v := 20) hx hb dX8_readStall_112 (by decide) ?_
      refine hg_viF (r := (mk_number (cr_g C g n) 0 20).1) (As := [.int (0), .int (20)]) (rest := []) X w (c_X8_number l D b0 L f oa (cr_g C g n) mr im mk ad n g hm hs ho 0 20) (cwV 2 hts gX8_readStall_X8_number rfl rfl rfl hdX8_number ⟨Nat.le_of_ble_eq_true rfl, Nat.le_of_ble_eq_true rfl⟩) (ho.1 2 (by decide)).1 (ow_at ho (k := 2) (by decide)) rfl rfl rfl hl.1 rfl (Nat.le_of_ble_eq_true rfl) dX8_readStall_114 ⟨Nat.zero_le _, Nat.zero_le _⟩ (fun H locs w => ?_)
      have w : hg_W D b0 L (ob_W D f oa ((cr_h C g n).2) mr im mk ad n g) s.heap H locs := w
      refine lv_istore (lv' := [(6, .int ((cr_h C g n).1)), (5, .int ((cr_e C g).1)), (4, .int ((cr_d C g) 24 0)), (3, .int ((cr_c C g).1)), (2, .int ((cr_k C))), (0, .ref (oa 2)), (1, .ref mk)]) hx hb dX8_readStall_117 hl (by decide) rfl (fun ls hl => ?_)
      refine lv_aload_n hx hb dX8_readStall_119 rfl (lv_at hl 5 rfl) ?_
      refine lv_bipush (v := 59) hx hb dX8_readStall_120 (by decide) ?_
      refine hg_vvF (As := [.int (59)]) (rest := []) X w (c_X8_pass l D b0 L f oa ((cr_h C g n).2) mr im mk ad n g hm hs ho 59) (cwV 1 hts gX8_readStall_X8_pass rfl rfl rfl hdX8_pass ⟨Nat.le_of_ble_eq_true rfl, Nat.le_of_ble_eq_true rfl⟩) (ho.1 2 (by decide)).1 (ow_at ho (k := 2) (by decide)) rfl rfl rfl hl.1 rfl (Nat.le_of_ble_eq_true rfl) dX8_readStall_122 ⟨Nat.zero_le _, Nat.zero_le _⟩ (fun H locs w => ?_)
      have w : hg_W D b0 L (ob_W D f oa (cr_s C g n) mr im mk ad n g) s.heap H locs := w
      refine lv_aload_n hx hb dX8_readStall_125 rfl (lv_at hl 5 rfl) ?_
      refine ob_get X w ho 2 (by decide) (C0 := RX8) (T := TX8) (N := 5) (ci := 6) rfl hin8 rfl 3 (by decide) (List.mem_of_getElem? (i := 5) rfl) rfl rfl dX8_readStall_126 ?_
      refine lv_if_ne (tgt := 145) hx hb dX8_readStall_129 (by decide) (fun c_129 => ?_) (fun c_129 => ?_)
      · refine W.widen (k := 1) (n := 7) (by omega) (by omega) ?_
        exact hend H locs (L, ob_W D f oa (cr_s C g n) mr im mk ad n g) _ ls w (Or.inr ⟨c_129, rfl⟩) dX8_readStall_145
      · refine lv_aload_n hx hb dX8_readStall_132 rfl (lv_at hl 6 rfl) ?_
        refine lv_iload_n hx hb dX8_readStall_133 rfl (lv_at hl 4 rfl) ?_
        have hS : cr_s C g n 25 0 = 0 := c_129
        have hK := cr_s_k hS
        refine hg_sq (As := [.int ((cr_k C))]) (rest := [.ref mk]) X w (c_X6_ofKind l D b0 L (ob_W D f oa (cr_s C g n) mr im mk ad n g) (cr_k C) (cr_kv hK.1)) (va_cwS 1 hts gX8_readStall_X6_ofKind rfl rfl rfl hdX6_ofKind ⟨Nat.le_of_ble_eq_true rfl, Nat.le_of_ble_eq_true rfl⟩) rfl hl.1 rfl (Nat.le_of_ble_eq_true rfl) dX8_readStall_134 ⟨(Nat.le_of_ble_eq_true rfl), (Nat.le_of_ble_eq_true rfl)⟩ (fun v0 u0 H locs hp w => ?_)
        obtain ⟨q, rfl, hq, rfl⟩ := hp
        refine (show W p l e _ s m args below meth c H locs _ _ Q (F0 m 137 ls [.ref q, .ref mk]) from ?_)
        refine lv_iload_n hx hb dX8_readStall_137 rfl (lv_at hl 3 rfl) ?_
        refine lv_iload hx hb dX8_readStall_138 (lv_at hl 1 rfl) ?_
        refine lv_iload hx hb dX8_readStall_140 (lv_at hl 0 rfl) ?_
        have hn6 : n < 6 := by
          have h6 := hs.2.1
          rcases Nat.lt_or_ge n 6 with z | z
          · exact z
          · exact absurd (by rw [hs.1, show n = 6 by omega]; rfl) hK.2.1
        have hmq : mk ≠ q := fun z => hq (by rw [← z]; exact hm.1)
        refine hg_vv (As := [.ref q, .int ((cr_c C g).1), .int ((cr_e C g).1), .int ((cr_h C g n).1)]) (rest := []) X w (c_X3_addStall l D b0 L (ob_F D f oa (cr_s C g n) mr im) mk ad n g hm hs q hq hn6 hs.1 (cr_k C) ((cr_c C g).1) ((cr_e C g).1) ((cr_h C g n).1)) (cwV 4 hts gX8_readStall_X3_addStall rfl rfl rfl hdX3_addStall ⟨Nat.le_of_ble_eq_true rfl, Nat.le_of_ble_eq_true rfl⟩) (List.mem_append_left _ hm.1) ((va_up_ne _ _ hmq).trans (mk_at0 D _ mk ad n g)) rfl rfl rfl hl.1 rfl (Nat.le_of_ble_eq_true rfl) dX8_readStall_142 ⟨(Nat.le_of_ble_eq_true rfl), (Nat.le_of_ble_eq_true rfl)⟩ (fun u H locs hp w => ?_)
        subst hp
        exact hend H locs (L ++ [q], ob_W D f oa (cr_s C g n) mr im mk (va_up ad (2 + n) q) (n + 1) (mk_as g n (cr_k C) (cr_c C g).1 (cr_e C g).1 (cr_h C g n).1)) _ ls w (Or.inl ⟨hS, q, hq, rfl⟩) dX8_readStall_145
    · have hjq91 : jq91 < n := mk_std_lt hq91
      refine lv_ifnull hx hb dX8_readStall_94 ?_
      refine lv_aload_n hx hb dX8_readStall_97 rfl (lv_at hl 4 rfl) ?_
      refine lv_iconst (v := 2) hx hb dX8_readStall_98 (by decide) ?_
      refine lv_iload hx hb dX8_readStall_99 (lv_at hl 1 rfl) ?_
      refine hg_vvF (As := [.int (2), .int ((cr_d C g) 24 0)]) (rest := []) X w (c_X8_tellFault l D b0 L f oa ((cr_e C g).2) mr im mk ad n g hm hs ho 2 ((cr_d C g) 24 0)) (cwV 2 hts gX8_readStall_X8_tellFault rfl rfl rfl hdX8_tellFault ⟨Nat.le_of_ble_eq_true rfl, Nat.le_of_ble_eq_true rfl⟩) (ho.1 2 (by decide)).1 (ow_at ho (k := 2) (by decide)) rfl rfl rfl hl.1 rfl (Nat.le_of_ble_eq_true rfl) dX8_readStall_101 ⟨Nat.zero_le _, Nat.zero_le _⟩ (fun H locs w => ?_)
      have eF : cr_f C g n = (mk_tf ((cr_e C g).2) 2 ((cr_d C g) 24 0)) := by
        unfold cr_f
        rw [if_neg (show ¬ mk_std g (cr_c C g).1 (cr_e C g).1 n = none by rw [hq91]; exact fun q => nomatch q)]
      have w : hg_W D b0 L (ob_W D f oa (cr_f C g n) mr im mk ad n g) s.heap H locs := by rw [eF]; exact w
      refine lv_aload_n hx hb dX8_readStall_104 rfl (lv_at hl 4 rfl) ?_
      refine lv_bipush (v := 44) hx hb dX8_readStall_105 (by decide) ?_
      refine hg_vvF (As := [.int (44)]) (rest := []) X w (c_X8_pass l D b0 L f oa (cr_f C g n) mr im mk ad n g hm hs ho 44) (cwV 1 hts gX8_readStall_X8_pass rfl rfl rfl hdX8_pass ⟨Nat.le_of_ble_eq_true rfl, Nat.le_of_ble_eq_true rfl⟩) (ho.1 2 (by decide)).1 (ow_at ho (k := 2) (by decide)) rfl rfl rfl hl.1 rfl (Nat.le_of_ble_eq_true rfl) dX8_readStall_107 ⟨Nat.zero_le _, Nat.zero_le _⟩ (fun H locs w => ?_)
      have w : hg_W D b0 L (ob_W D f oa (cr_g C g n) mr im mk ad n g) s.heap H locs := w
      refine lv_aload_n hx hb dX8_readStall_110 rfl (lv_at hl 4 rfl) ?_
      refine lv_iconst (v := 0) hx hb dX8_readStall_111 (by decide) ?_
      refine lv_bipush (v := 20) hx hb dX8_readStall_112 (by decide) ?_
      refine hg_viF (r := (mk_number (cr_g C g n) 0 20).1) (As := [.int (0), .int (20)]) (rest := []) X w (c_X8_number l D b0 L f oa (cr_g C g n) mr im mk ad n g hm hs ho 0 20) (cwV 2 hts gX8_readStall_X8_number rfl rfl rfl hdX8_number ⟨Nat.le_of_ble_eq_true rfl, Nat.le_of_ble_eq_true rfl⟩) (ho.1 2 (by decide)).1 (ow_at ho (k := 2) (by decide)) rfl rfl rfl hl.1 rfl (Nat.le_of_ble_eq_true rfl) dX8_readStall_114 ⟨Nat.zero_le _, Nat.zero_le _⟩ (fun H locs w => ?_)
      have w : hg_W D b0 L (ob_W D f oa ((cr_h C g n).2) mr im mk ad n g) s.heap H locs := w
      refine lv_istore (lv' := [(6, .int ((cr_h C g n).1)), (5, .int ((cr_e C g).1)), (4, .int ((cr_d C g) 24 0)), (3, .int ((cr_c C g).1)), (2, .int ((cr_k C))), (0, .ref (oa 2)), (1, .ref mk)]) hx hb dX8_readStall_117 hl (by decide) rfl (fun ls hl => ?_)
      refine lv_aload_n hx hb dX8_readStall_119 rfl (lv_at hl 5 rfl) ?_
      refine lv_bipush (v := 59) hx hb dX8_readStall_120 (by decide) ?_
      refine hg_vvF (As := [.int (59)]) (rest := []) X w (c_X8_pass l D b0 L f oa ((cr_h C g n).2) mr im mk ad n g hm hs ho 59) (cwV 1 hts gX8_readStall_X8_pass rfl rfl rfl hdX8_pass ⟨Nat.le_of_ble_eq_true rfl, Nat.le_of_ble_eq_true rfl⟩) (ho.1 2 (by decide)).1 (ow_at ho (k := 2) (by decide)) rfl rfl rfl hl.1 rfl (Nat.le_of_ble_eq_true rfl) dX8_readStall_122 ⟨Nat.zero_le _, Nat.zero_le _⟩ (fun H locs w => ?_)
      have w : hg_W D b0 L (ob_W D f oa (cr_s C g n) mr im mk ad n g) s.heap H locs := w
      refine lv_aload_n hx hb dX8_readStall_125 rfl (lv_at hl 5 rfl) ?_
      refine ob_get X w ho 2 (by decide) (C0 := RX8) (T := TX8) (N := 5) (ci := 6) rfl hin8 rfl 3 (by decide) (List.mem_of_getElem? (i := 5) rfl) rfl rfl dX8_readStall_126 ?_
      refine lv_if_ne (tgt := 145) hx hb dX8_readStall_129 (by decide) (fun c_129 => ?_) (fun c_129 => ?_)
      · refine W.widen (k := 1) (n := 7) (by omega) (by omega) ?_
        exact hend H locs (L, ob_W D f oa (cr_s C g n) mr im mk ad n g) _ ls w (Or.inr ⟨c_129, rfl⟩) dX8_readStall_145
      · refine lv_aload_n hx hb dX8_readStall_132 rfl (lv_at hl 6 rfl) ?_
        refine lv_iload_n hx hb dX8_readStall_133 rfl (lv_at hl 4 rfl) ?_
        have hS : cr_s C g n 25 0 = 0 := c_129
        have hK := cr_s_k hS
        refine hg_sq (As := [.int ((cr_k C))]) (rest := [.ref mk]) X w (c_X6_ofKind l D b0 L (ob_W D f oa (cr_s C g n) mr im mk ad n g) (cr_k C) (cr_kv hK.1)) (va_cwS 1 hts gX8_readStall_X6_ofKind rfl rfl rfl hdX6_ofKind ⟨Nat.le_of_ble_eq_true rfl, Nat.le_of_ble_eq_true rfl⟩) rfl hl.1 rfl (Nat.le_of_ble_eq_true rfl) dX8_readStall_134 ⟨(Nat.le_of_ble_eq_true rfl), (Nat.le_of_ble_eq_true rfl)⟩ (fun v0 u0 H locs hp w => ?_)
        obtain ⟨q, rfl, hq, rfl⟩ := hp
        refine (show W p l e _ s m args below meth c H locs _ _ Q (F0 m 137 ls [.ref q, .ref mk]) from ?_)
        refine lv_iload_n hx hb dX8_readStall_137 rfl (lv_at hl 3 rfl) ?_
        refine lv_iload hx hb dX8_readStall_138 (lv_at hl 1 rfl) ?_
        refine lv_iload hx hb dX8_readStall_140 (lv_at hl 0 rfl) ?_
        have hn6 : n < 6 := by
          have h6 := hs.2.1
          rcases Nat.lt_or_ge n 6 with z | z
          · exact z
          · exact absurd (by rw [hs.1, show n = 6 by omega]; rfl) hK.2.1
        have hmq : mk ≠ q := fun z => hq (by rw [← z]; exact hm.1)
        refine hg_vv (As := [.ref q, .int ((cr_c C g).1), .int ((cr_e C g).1), .int ((cr_h C g n).1)]) (rest := []) X w (c_X3_addStall l D b0 L (ob_F D f oa (cr_s C g n) mr im) mk ad n g hm hs q hq hn6 hs.1 (cr_k C) ((cr_c C g).1) ((cr_e C g).1) ((cr_h C g n).1)) (cwV 4 hts gX8_readStall_X3_addStall rfl rfl rfl hdX3_addStall ⟨Nat.le_of_ble_eq_true rfl, Nat.le_of_ble_eq_true rfl⟩) (List.mem_append_left _ hm.1) ((va_up_ne _ _ hmq).trans (mk_at0 D _ mk ad n g)) rfl rfl rfl hl.1 rfl (Nat.le_of_ble_eq_true rfl) dX8_readStall_142 ⟨(Nat.le_of_ble_eq_true rfl), (Nat.le_of_ble_eq_true rfl)⟩ (fun u H locs hp w => ?_)
        subst hp
        exact hend H locs (L ++ [q], ob_W D f oa (cr_s C g n) mr im mk (va_up ad (2 + n) q) (n + 1) (mk_as g n (cr_k C) (cr_c C g).1 (cr_e C g).1 (cr_h C g n).1)) _ ls w (Or.inl ⟨hS, q, hq, rfl⟩) dX8_readStall_145
