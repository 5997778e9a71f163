theorem hdX8_number : yX8_number.cls = RX8 ∧ yX8_number.cls ≠ "java/lang/invoke/MethodHandle" ∧ yX8_number.cls ≠ "java/lang/invoke/VarHandle" ∧ (parseMethodDescriptor yX8_number.desc).map (fun d => d.parameters.length) = some 2 := by decide +kernel
theorem hdX8_pass : yX8_pass.cls = RX8 ∧ yX8_pass.cls ≠ "java/lang/invoke/MethodHandle" ∧ yX8_pass.cls ≠ "java/lang/invoke/VarHandle" ∧ (parseMethodDescriptor yX8_pass.desc).map (fun d => d.parameters.length) = some 1 := by decide +kernel
set_option maxRecDepth 100000 in
set_option maxHeartbeats 4000000 in
theorem c_X8_readLaw (l : Launch) (D : va_G) (b0 : Nat) (L : List Nat) (f : Nat → va_E) (oa : Nat → Nat) (C : Nat → Nat → Int32) (mr : Nat) (im : Nat → Option Nat) (mk : Nat) (ad : Nat → Nat) (n : Nat) (g : Nat → Int32) (hm : mk_ok L mk ad n) (hs : mk_sr g n) (ho : ob_ok L oa mk ad n) : hg_Mq l yX8_readLaw wsX8_readLaw ({ frames := 3, cells := 3, slots := 15, locals := 62 }) D b0 L (ob_W D f oa C mr im mk ad n g) [.ref (oa 2)] (fun v u => ∃ mk2 ad2 N, v = some mk2 ∧ mk2 ∉ L ∧ (∀ j, j < 0 + 2 → ad2 j ∉ L) ∧ mk_ok (L ++ N) mk2 ad2 0 ∧ u = (L ++ N, mk_F D (ob_W D f oa (cr_law C) mr im mk ad n g) mk2 ad2 0 (mk_g0 (cr_l2 C).1 (cr_l4 C).1))) 3 15 := by
  refine hg_in_q (cc := cX8_readLaw) (nL := 3) (by decide) rfl (Nat.le_of_ble_eq_true rfl) (fun p e s m args below meth c R Q X hR hend H locs ls w hl => ?_)
  subst hR
  obtain ⟨hx, hb, hml, hown, hts⟩ := id X.1
  have hin3 : ∀ w ∈ wsX30, w ∈ wsX8_readLaw := fun w h => List.mem_cons_of_mem _ (List.mem_append_left _ (List.mem_append_right _ h))
  have hin8 : ∀ w ∈ wsX80, w ∈ wsX8_readLaw := fun w h => List.mem_cons_of_mem _ (List.mem_append_right _ h)
  have hl : lv_has ls 3 [(0, .ref (oa 2))] := hl
  refine lv_aload_n hx hb dX8_readLaw_0 rfl (lv_at hl 0 rfl) ?_
  refine lv_bipush (v := 109) hx hb dX8_readLaw_1 (by decide) ?_
  refine hg_vvF (As := [.int (109)]) (rest := []) X w (c_X8_pass l D b0 L f oa C mr im mk ad n g hm hs ho 109) (cwV 1 hts gX8_readLaw_X8_pass rfl rfl rfl hdX8_pass ⟨Nat.le_of_ble_eq_true rfl, Nat.le_of_ble_eq_true rfl⟩) (ho.1 2 (by decide)).1 (ow_at ho (k := 2) (by decide)) rfl rfl rfl hl.1 rfl (Nat.le_of_ble_eq_true rfl) dX8_readLaw_3 ⟨Nat.zero_le _, Nat.zero_le _⟩ (fun H locs w => ?_)
  refine lv_aload_n hx hb dX8_readLaw_6 rfl (lv_at hl 0 rfl) ?_
  refine lv_iconst (v := 0) hx hb dX8_readLaw_7 (by decide) ?_
  refine lv_bipush (v := 99) hx hb dX8_readLaw_8 (by decide) ?_
  refine hg_viF (r := (mk_number (mk_pass C 109) 0 99).1) (As := [.int (0), .int (99)]) (rest := []) X w (c_X8_number l D b0 L f oa (mk_pass C 109) mr im mk ad n g hm hs ho 0 99) (cwV 2 hts gX8_readLaw_X8_number rfl rfl rfl hdX8_number ⟨Nat.le_of_ble_eq_true rfl, Nat.le_of_ble_eq_true rfl⟩) (ho.1 2 (by decide)).1 (ow_at ho (k := 2) (by decide)) rfl rfl rfl hl.1 rfl (Nat.le_of_ble_eq_true rfl) dX8_readLaw_10 ⟨Nat.zero_le _, Nat.zero_le _⟩ (fun H locs w => ?_)
  refine lv_istore_n (lv' := [(1, .int ((mk_number (mk_pass C 109) 0 99).1)), (0, .ref (oa 2))]) hx hb dX8_readLaw_13 rfl hl (by decide) rfl (fun ls hl => ?_)
  refine lv_aload_n hx hb dX8_readLaw_14 rfl (lv_at hl 1 rfl) ?_
  refine lv_bipush (v := 44) hx hb dX8_readLaw_15 (by decide) ?_
  refine hg_vvF (As := [.int (44)]) (rest := []) X w (c_X8_pass l D b0 L f oa ((mk_number (mk_pass C 109) 0 99).2) mr im mk ad n g hm hs ho 44) (cwV 1 hts gX8_readLaw_X8_pass rfl rfl rfl hdX8_pass ⟨Nat.le_of_ble_eq_true rfl, Nat.le_of_ble_eq_true rfl⟩) (ho.1 2 (by decide)).1 (ow_at ho (k := 2) (by decide)) rfl rfl rfl hl.1 rfl (Nat.le_of_ble_eq_true rfl) dX8_readLaw_17 ⟨Nat.zero_le _, Nat.zero_le _⟩ (fun H locs w => ?_)
  refine lv_aload_n hx hb dX8_readLaw_20 rfl (lv_at hl 1 rfl) ?_
  refine lv_iconst (v := 0) hx hb dX8_readLaw_21 (by decide) ?_
  refine lv_bipush (v := 20) hx hb dX8_readLaw_22 (by decide) ?_
  refine hg_viF (r := (mk_number (mk_pass ((mk_number (mk_pass C 109) 0 99).2) 44) 0 20).1) (As := [.int (0), .int (20)]) (rest := []) X w (c_X8_number l D b0 L f oa (mk_pass ((mk_number (mk_pass C 109) 0 99).2) 44) mr im mk ad n g hm hs ho 0 20) (cwV 2 hts gX8_readLaw_X8_number rfl rfl rfl hdX8_number ⟨Nat.le_of_ble_eq_true rfl, Nat.le_of_ble_eq_true rfl⟩) (ho.1 2 (by decide)).1 (ow_at ho (k := 2) (by decide)) rfl rfl rfl hl.1 rfl (Nat.le_of_ble_eq_true rfl) dX8_readLaw_24 ⟨Nat.zero_le _, Nat.zero_le _⟩ (fun H locs w => ?_)
  refine lv_istore_n (lv' := [(2, .int ((mk_number (mk_pass ((mk_number (mk_pass C 109) 0 99).2) 44) 0 20).1)), (1, .int ((mk_number (mk_pass C 109) 0 99).1)), (0, .ref (oa 2))]) hx hb dX8_readLaw_27 rfl hl (by decide) rfl (fun ls hl => ?_)
  refine lv_aload_n hx hb dX8_readLaw_28 rfl (lv_at hl 2 rfl) ?_
  refine lv_bipush (v := 59) hx hb dX8_readLaw_29 (by decide) ?_
  refine hg_vvF (As := [.int (59)]) (rest := []) X w (c_X8_pass l D b0 L f oa ((mk_number (mk_pass ((mk_number (mk_pass C 109) 0 99).2) 44) 0 20).2) mr im mk ad n g hm hs ho 59) (cwV 1 hts gX8_readLaw_X8_pass rfl rfl rfl hdX8_pass ⟨Nat.le_of_ble_eq_true rfl, Nat.le_of_ble_eq_true rfl⟩) (ho.1 2 (by decide)).1 (ow_at ho (k := 2) (by decide)) rfl rfl rfl hl.1 rfl (Nat.le_of_ble_eq_true rfl) dX8_readLaw_31 ⟨Nat.zero_le _, Nat.zero_le _⟩ (fun H locs w => ?_)
  refine hg_new X w (C := RX3) (T := TX3) (N := 6) (ci := 2) (ty0 := tyX3) hin3 tyX3_ok rfl (List.mem_of_getElem? (i := 1) rfl) (List.mem_of_getElem? (i := 2) rfl) (List.mem_of_getElem? (i := 3) rfl) (fs := [.int 0, .int 0, .int 0, .int 0, .null, .null]) (fun j hj => by match j, hj with | 0, _ | 1, _ | 2, _ | 3, _ | 4, _ | 5, _ => rfl) (Nat.le_of_ble_eq_true rfl) (Nat.le_of_ble_eq_true rfl) dX8_readLaw_34 (fun q0 H hq0 w => ?_)
  refine lv_dup hx hb dX8_readLaw_37 rfl ?_
  refine lv_iload_n hx hb dX8_readLaw_38 rfl (lv_at hl 1 rfl) ?_
  refine lv_iload_n hx hb dX8_readLaw_39 rfl (lv_at hl 0 rfl) ?_
  refine hg_init (As := [.int ((mk_number (mk_pass C 109) 0 99).1), .int ((mk_number (mk_pass ((mk_number (mk_pass C 109) 0 99).2) 44) 0 20).1)]) (rest := [.ref q0]) X w (c_X3_init l D b0 (L ++ [q0]) (va_up (ob_W D f oa (mk_pass ((mk_number (mk_pass ((mk_number (mk_pass C 109) 0 99).2) 44) 0 20).2) 59) mr im mk ad n g) q0 (.inr (2, [.int 0, .int 0, .int 0, .int 0, .null, .null]))) q0 (List.mem_append_right _ (List.mem_of_getElem? (i := 0) rfl)) (va_up_self _ _ _) ((mk_number (mk_pass C 109) 0 99).1) ((mk_number (mk_pass ((mk_number (mk_pass C 109) 0 99).2) 44) 0 20).1)) (cwI 2 hts ggX8_readLaw_X3_init rfl rfl rfl (hts _ (List.mem_of_getElem? (i := 3) rfl)) (hts _ (List.mem_of_getElem? (i := 34) rfl)) (hts _ (List.mem_of_getElem? (i := 35) rfl)) rfl hdX3_init ⟨Nat.le_of_ble_eq_true rfl, Nat.le_of_ble_eq_true rfl⟩) rfl hl.1 rfl (Nat.le_of_ble_eq_true rfl) dX8_readLaw_40 ⟨(Nat.le_of_ble_eq_true rfl), (Nat.le_of_ble_eq_true rfl)⟩ (fun u H locs hp w => ?_)
  obtain ⟨q1, q2, hq1, hq2, rfl⟩ := hp
  have hmo := mk_ok_0 (List.mem_append_right L (List.mem_of_getElem? (l := [q0]) (i := 0) rfl)) hq1 hq2
  have w : hg_W D b0 (L ++ [q0] ++ [q1, q2]) (mk_F D (ob_W D f oa (mk_pass ((mk_number (mk_pass ((mk_number (mk_pass C 109) 0 99).2) 44) 0 20).2) 59) mr im mk ad n g) q0 (mk_a2 q1 q2) 0 (mk_g0 ((mk_number (mk_pass C 109) 0 99).1) ((mk_number (mk_pass ((mk_number (mk_pass C 109) 0 99).2) 44) 0 20).1))) s.heap H locs := by
    have e := mk_three (D := D) (f := ob_W D f oa (mk_pass ((mk_number (mk_pass ((mk_number (mk_pass C 109) 0 99).2) 44) 0 20).2) 59) mr im mk ad n g) (g := (mk_g0 ((mk_number (mk_pass C 109) 0 99).1) ((mk_number (mk_pass ((mk_number (mk_pass C 109) 0 99).2) 44) 0 20).1))) hmo (t := fun _ => 0) (mk_ta_g0 _ _).symm
    rw [← e]
    rw [bx_uu] at w
    exact w
  rw [List.append_assoc] at w hmo
  exact hend H locs (some q0) (L ++ ([q0] ++ [q1, q2]), mk_F D (ob_W D f oa (mk_pass ((mk_number (mk_pass ((mk_number (mk_pass C 109) 0 99).2) 44) 0 20).2) 59) mr im mk ad n g) q0 (mk_a2 q1 q2) 0 (mk_g0 ((mk_number (mk_pass C 109) 0 99).1) ((mk_number (mk_pass ((mk_number (mk_pass C 109) 0 99).2) 44) 0 20).1))) _ ls w ⟨q0, mk_a2 q1 q2, [q0] ++ [q1, q2], rfl, hq0, (by
    intro j hj
    rcases (show j = 0 ∨ j = 1 by omega) with rfl | rfl
    · exact fun z => hq1 (List.mem_append_left _ z)
    · exact fun z => hq2 (List.mem_append_left _ (List.mem_append_left _ z))), hmo, rfl⟩ dX8_readLaw_43
theorem hdX3_addRope : yX3_addRope.cls = RX3 ∧ yX3_addRope.cls ≠ "java/lang/invoke/MethodHandle" ∧ yX3_addRope.cls ≠ "java/lang/invoke/VarHandle" ∧ (parseMethodDescriptor yX3_addRope.desc).map (fun d => d.parameters.length) = some 1 := by decide +kernel
set_option maxRecDepth 100000 in
set_option maxHeartbeats 4000000 in
theorem c_X8_readRope (l : Launch) (D : va_G) (b0 : Nat) (L : List Nat) (f : Nat → va_E) (oa : Nat → Nat) (C : Nat → Nat → Int32) (mr : Nat) (im : Nat → Option Nat) (mk : Nat) (ad : Nat → Nat) (n : Nat) (g : Nat → Int32) (hm : mk_ok L mk ad n) (hs : mk_sr g n) (ho : ob_ok L oa mk ad n) (nr : Nat) (h2 : g 2 = nI nr) (h3 : nr ≤ 3) : hg_Fv l yX8_readRope wsX8_readRope ({ frames := 3, cells := 0, slots := 0, locals := 62 }) D b0 L (ob_W D f oa C mr im mk ad n g) [.ref (oa 2), .ref mk] (ob_W D f oa (cr_rope C g) mr im mk ad n (cr_rg C g nr)) := by
  refine hg_in_v (cc := cX8_readRope) (nL := 3) (by decide) rfl (Nat.le_of_ble_eq_true rfl) (fun p e s m args below meth c R Q X _ hR hend H locs ls w hl => ?_)
  subst hR
  obtain ⟨hx, hb, hml, hown, hts⟩ := id X.1
  have hin3 : ∀ w ∈ wsX30, w ∈ wsX8_readRope := fun w h => List.mem_cons_of_mem _ (List.mem_append_left _ (List.mem_append_right _ h))
  have hin8 : ∀ w ∈ wsX80, w ∈ wsX8_readRope := fun w h => List.mem_cons_of_mem _ (List.mem_append_right _ h)
  have hl : lv_has ls 3 [(0, .ref (oa 2)), (1, .ref mk)] := hl
  refine lv_aload_n hx hb dX8_readRope_0 rfl (lv_at hl 1 rfl) ?_
  refine mk_getM X w hm hin3 2 (by decide) (List.mem_of_getElem? (i := 1) rfl) rfl dX8_readRope_1 ?_
  refine lv_iconst (v := 3) hx hb dX8_readRope_4 (by decide) ?_
  refine lv_icmp_ne (tgt := 17) hx hb dX8_readRope_5 (by decide) (fun c_5 => ?_) (fun c_5 => ?_)
  · refine lv_aload_n hx hb dX8_readRope_17 rfl (lv_at hl 0 rfl) ?_
    refine lv_bipush (v := 108) hx hb dX8_readRope_18 (by decide) ?_
    refine hg_vvF (As := [.int (108)]) (rest := []) X w (c_X8_pass l D b0 L f oa C mr im mk ad n g hm hs ho 108) (cwV 1 hts gX8_readRope_X8_pass rfl rfl rfl hdX8_pass ⟨Nat.le_of_ble_eq_true rfl, Nat.le_of_ble_eq_true rfl⟩) (ho.1 2 (by decide)).1 (ow_at ho (k := 2) (by decide)) rfl rfl rfl hl.1 rfl (Nat.le_of_ble_eq_true rfl) dX8_readRope_20 ⟨Nat.zero_le _, Nat.zero_le _⟩ (fun H locs w => ?_)
    refine lv_aload_n hx hb dX8_readRope_23 rfl (lv_at hl 0 rfl) ?_
    refine lv_iconst (v := 1) hx hb dX8_readRope_24 (by decide) ?_
    refine lv_bipush (v := 20) hx hb dX8_readRope_25 (by decide) ?_
    refine hg_viF (r := (mk_number (mk_pass C 108) 1 20).1) (As := [.int (1), .int (20)]) (rest := []) X w (c_X8_number l D b0 L f oa (mk_pass C 108) mr im mk ad n g hm hs ho 1 20) (cwV 2 hts gX8_readRope_X8_number rfl rfl rfl hdX8_number ⟨Nat.le_of_ble_eq_true rfl, Nat.le_of_ble_eq_true rfl⟩) (ho.1 2 (by decide)).1 (ow_at ho (k := 2) (by decide)) rfl rfl rfl hl.1 rfl (Nat.le_of_ble_eq_true rfl) dX8_readRope_27 ⟨Nat.zero_le _, Nat.zero_le _⟩ (fun H locs w => ?_)
    refine lv_istore_n (lv' := [(2, .int ((mk_number (mk_pass C 108) 1 20).1)), (0, .ref (oa 2)), (1, .ref mk)]) hx hb dX8_readRope_30 rfl hl (by decide) rfl (fun ls hl => ?_)
    refine lv_aload_n hx hb dX8_readRope_31 rfl (lv_at hl 1 rfl) ?_
    refine lv_bipush (v := 59) hx hb dX8_readRope_32 (by decide) ?_
    refine hg_vvF (As := [.int (59)]) (rest := []) X w (c_X8_pass l D b0 L f oa ((mk_number (mk_pass C 108) 1 20).2) mr im mk ad n g hm hs ho 59) (cwV 1 hts gX8_readRope_X8_pass rfl rfl rfl hdX8_pass ⟨Nat.le_of_ble_eq_true rfl, Nat.le_of_ble_eq_true rfl⟩) (ho.1 2 (by decide)).1 (ow_at ho (k := 2) (by decide)) rfl rfl rfl hl.1 rfl (Nat.le_of_ble_eq_true rfl) dX8_readRope_34 ⟨Nat.zero_le _, Nat.zero_le _⟩ (fun H locs w => ?_)
    refine lv_aload_n hx hb dX8_readRope_37 rfl (lv_at hl 1 rfl) ?_
    refine ob_get X w ho 2 (by decide) (C0 := RX8) (T := TX8) (N := 5) (ci := 6) rfl hin8 rfl 3 (by decide) (List.mem_of_getElem? (i := 3) rfl) rfl rfl dX8_readRope_38 ?_
    refine lv_if_ne (tgt := 49) hx hb dX8_readRope_41 (by decide) (fun c_41 => ?_) (fun c_41 => ?_)
    · exact hend H locs (L, ob_W D f oa (mk_pass ((mk_number (mk_pass C 108) 1 20).2) 59) mr im mk ad n g) _ ls w (ob_eq (by unfold cr_rope cr_r2 cr_r1 cr_r0; rw [if_neg c_5]) (by unfold cr_rg cr_rope cr_r2 cr_r1 cr_r0; rw [if_neg c_5, if_neg c_41])) dX8_readRope_49
    · refine lv_aload_n hx hb dX8_readRope_44 rfl (lv_at hl 2 rfl) ?_
      refine lv_iload_n hx hb dX8_readRope_45 rfl (lv_at hl 0 rfl) ?_
      refine hg_vvF (As := [.int ((mk_number (mk_pass C 108) 1 20).1)]) (rest := []) X w (c_X3_addRope l D b0 L (ob_F D f oa (mk_pass ((mk_number (mk_pass C 108) 1 20).2) 59) mr im) mk ad n g hm hs nr (by have := cr_rope_3 (C := C) (g := g) (by unfold cr_rope cr_r2 cr_r1 cr_r0; rw [if_neg c_5]; exact c_41); rw [h2] at this; rcases Nat.lt_or_ge nr 3 with q | q; exact q; exact absurd (by rw [show nr = 3 by omega]; rfl) this) h2 ((mk_number (mk_pass C 108) 1 20).1)) (cwV 1 hts gX8_readRope_X3_addRope rfl rfl rfl hdX3_addRope ⟨Nat.le_of_ble_eq_true rfl, Nat.le_of_ble_eq_true rfl⟩) hm.1 (mk_at0 D _ mk ad n _) rfl rfl rfl hl.1 rfl (Nat.le_of_ble_eq_true rfl) dX8_readRope_46 ⟨Nat.zero_le _, Nat.zero_le _⟩ (fun H locs w => ?_)
      exact hend H locs (L, ob_W D f oa (mk_pass ((mk_number (mk_pass C 108) 1 20).2) 59) mr im mk ad n (va_up (va_up g (5 + nr) ((mk_number (mk_pass C 108) 1 20).1)) 2 (nI (nr + 1)))) _ ls w (ob_eq (by unfold cr_rope cr_r2 cr_r1 cr_r0; rw [if_neg c_5]) (by unfold cr_rg cr_rope cr_r2 cr_r1 cr_r0; rw [if_neg c_5, if_pos c_41])) dX8_readRope_49
  · refine lv_aload_n hx hb dX8_readRope_8 rfl (lv_at hl 0 rfl) ?_
    refine lv_iconst (v := 3) hx hb dX8_readRope_9 (by decide) ?_
    refine lv_aload_n hx hb dX8_readRope_10 rfl (lv_at hl 0 rfl) ?_
    refine ob_get X w ho 2 (by decide) (C0 := RX8) (T := TX8) (N := 5) (ci := 6) rfl hin8 rfl 2 (by decide) (List.mem_of_getElem? (i := 2) rfl) rfl rfl dX8_readRope_11 ?_
    refine hg_vvF (As := [.int (3), .int (C 24 0)]) (rest := []) X w (c_X8_tellFault l D b0 L f oa C mr im mk ad n g hm hs ho 3 (C 24 0)) (cwV 2 hts gX8_readRope_X8_tellFault rfl rfl rfl hdX8_tellFault ⟨Nat.le_of_ble_eq_true rfl, Nat.le_of_ble_eq_true rfl⟩) (ho.1 2 (by decide)).1 (ow_at ho (k := 2) (by decide)) rfl rfl rfl hl.1 rfl (Nat.le_of_ble_eq_true rfl) dX8_readRope_14 ⟨Nat.zero_le _, Nat.zero_le _⟩ (fun H locs w => ?_)
    refine lv_aload_n hx hb dX8_readRope_17 rfl (lv_at hl 0 rfl) ?_
    refine lv_bipush (v := 108) hx hb dX8_readRope_18 (by decide) ?_
    refine hg_vvF (As := [.int (108)]) (rest := []) X w (c_X8_pass l D b0 L f oa (mk_tf C 3 (C 24 0)) mr im mk ad n g hm hs ho 108) (cwV 1 hts gX8_readRope_X8_pass rfl rfl rfl hdX8_pass ⟨Nat.le_of_ble_eq_true rfl, Nat.le_of_ble_eq_true rfl⟩) (ho.1 2 (by decide)).1 (ow_at ho (k := 2) (by decide)) rfl rfl rfl hl.1 rfl (Nat.le_of_ble_eq_true rfl) dX8_readRope_20 ⟨Nat.zero_le _, Nat.zero_le _⟩ (fun H locs w => ?_)
    refine lv_aload_n hx hb dX8_readRope_23 rfl (lv_at hl 0 rfl) ?_
    refine lv_iconst (v := 1) hx hb dX8_readRope_24 (by decide) ?_
    refine lv_bipush (v := 20) hx hb dX8_readRope_25 (by decide) ?_
    refine hg_viF (r := (mk_number (mk_pass (mk_tf C 3 (C 24 0)) 108) 1 20).1) (As := [.int (1), .int (20)]) (rest := []) X w (c_X8_number l D b0 L f oa (mk_pass (mk_tf C 3 (C 24 0)) 108) mr im mk ad n g hm hs ho 1 20) (cwV 2 hts gX8_readRope_X8_number rfl rfl rfl hdX8_number ⟨Nat.le_of_ble_eq_true rfl, Nat.le_of_ble_eq_true rfl⟩) (ho.1 2 (by decide)).1 (ow_at ho (k := 2) (by decide)) rfl rfl rfl hl.1 rfl (Nat.le_of_ble_eq_true rfl) dX8_readRope_27 ⟨Nat.zero_le _, Nat.zero_le _⟩ (fun H locs w => ?_)
    refine lv_istore_n (lv' := [(2, .int ((mk_number (mk_pass (mk_tf C 3 (C 24 0)) 108) 1 20).1)), (0, .ref (oa 2)), (1, .ref mk)]) hx hb dX8_readRope_30 rfl hl (by decide) rfl (fun ls hl => ?_)
    refine lv_aload_n hx hb dX8_readRope_31 rfl (lv_at hl 1 rfl) ?_
    refine lv_bipush (v := 59) hx hb dX8_readRope_32 (by decide) ?_
    refine hg_vvF (As := [.int (59)]) (rest := []) X w (c_X8_pass l D b0 L f oa ((mk_number (mk_pass (mk_tf C 3 (C 24 0)) 108) 1 20).2) mr im mk ad n g hm hs ho 59) (cwV 1 hts gX8_readRope_X8_pass rfl rfl rfl hdX8_pass ⟨Nat.le_of_ble_eq_true rfl, Nat.le_of_ble_eq_true rfl⟩) (ho.1 2 (by decide)).1 (ow_at ho (k := 2) (by decide)) rfl rfl rfl hl.1 rfl (Nat.le_of_ble_eq_true rfl) dX8_readRope_34 ⟨Nat.zero_le _, Nat.zero_le _⟩ (fun H locs w => ?_)
    refine lv_aload_n hx hb dX8_readRope_37 rfl (lv_at hl 1 rfl) ?_
    refine ob_get X w ho 2 (by decide) (C0 := RX8) (T := TX8) (N := 5) (ci := 6) rfl hin8 rfl 3 (by decide) (List.mem_of_getElem? (i := 3) rfl) rfl rfl dX8_readRope_38 ?_
    refine lv_if_ne (tgt := 49) hx hb dX8_readRope_41 (by decide) (fun c_41 => ?_) (fun c_41 => ?_)
    · exact hend H locs (L, ob_W D f oa (mk_pass ((mk_number (mk_pass (mk_tf C 3 (C 24 0)) 108) 1 20).2) 59) mr im mk ad n g) _ ls w (ob_eq (by unfold cr_rope cr_r2 cr_r1 cr_r0; rw [if_pos c_5]) (by unfold cr_rg cr_rope cr_r2 cr_r1 cr_r0; rw [if_pos c_5, if_neg c_41])) dX8_readRope_49
    · refine lv_aload_n hx hb dX8_readRope_44 rfl (lv_at hl 2 rfl) ?_
      refine lv_iload_n hx hb dX8_readRope_45 rfl (lv_at hl 0 rfl) ?_
      refine hg_vvF (As := [.int ((mk_number (mk_pass (mk_tf C 3 (C 24 0)) 108) 1 20).1)]) (rest := []) X w (c_X3_addRope l D b0 L (ob_F D f oa (mk_pass ((mk_number (mk_pass (mk_tf C 3 (C 24 0)) 108) 1 20).2) 59) mr im) mk ad n g hm hs nr (by have := cr_rope_3 (C := C) (g := g) (by unfold cr_rope cr_r2 cr_r1 cr_r0; rw [if_pos c_5]; exact c_41); rw [h2] at this; rcases Nat.lt_or_ge nr 3 with q | q; exact q; exact absurd (by rw [show nr = 3 by omega]; rfl) this) h2 ((mk_number (mk_pass (mk_tf C 3 (C 24 0)) 108) 1 20).1)) (cwV 1 hts gX8_readRope_X3_addRope rfl rfl rfl hdX3_addRope ⟨Nat.le_of_ble_eq_true rfl, Nat.le_of_ble_eq_true rfl⟩) hm.1 (mk_at0 D _ mk ad n _) rfl rfl rfl hl.1 rfl (Nat.le_of_ble_eq_true rfl) dX8_readRope_46 ⟨Nat.zero_le _, Nat.zero_le _⟩ (fun H locs w => ?_)
      exact hend H locs (L, ob_W D f oa (mk_pass ((mk_number (mk_pass (mk_tf C 3 (C 24 0)) 108) 1 20).2) 59) mr im mk ad n (va_up (va_up g (5 + nr) ((mk_number (mk_pass (mk_tf C 3 (C 24 0)) 108) 1 20).1)) 2 (nI (nr + 1)))) _ ls w (ob_eq (by unfold cr_rope cr_r2 cr_r1 cr_r0; rw [if_pos c_5]) (by unfold cr_rg cr_rope cr_r2 cr_r1 cr_r0; rw [if_pos c_5, if_pos c_41])) dX8_readRope_49
theorem hdX3_addStall : yX3_addStall.cls = RX3 ∧ yX3_addStall.cls ≠ "java/lang/invoke/MethodHandle" ∧ yX3_addStall.cls ≠ "java/lang/invoke/VarHandle" ∧ (parseMethodDescriptor yX3_addStall.desc).map (fun d => d.parameters.length) = some 4 := by decide +kernel
theorem hdX8_kindOf : yX8_kindOf.cls ≠ "java/lang/invoke/MethodHandle" ∧ yX8_kindOf.cls ≠ "java/lang/invoke/VarHandle" ∧ (parseMethodDescriptor yX8_kindOf.desc).map (fun d => d.parameters.length) = some 1 := by decide +kernel
set_option maxRecDepth 100000 in
set_option maxHeartbeats 4000000 in
theorem c_X8_readStall (l : Launch) (D : va_G) (b0 : Nat) (L : List Nat) (f : Nat → va_E) (oa : Nat → Nat) (C : Nat → Nat → Int32) (mr : Nat) (im : Nat → Option Nat) (mk : Nat) (ad : Nat → Nat) (n : Nat) (g : Nat → Int32) (hm : mk_ok L mk ad n) (hs : mk_sr g n) (ho : ob_ok L oa mk ad n) : hg_Mv l yX8_readStall wsX8_readStall ({ frames := 5, cells := 1, slots := 7, locals := 92 }) D b0 L (ob_W D f oa C mr im mk ad n g) [.ref (oa 2), .ref mk] (fun u => (cr_s C g n 25 0 = 0 ∧ ∃ q, q ∉ L ∧ u = (L ++ [q], ob_W D f oa (cr_s C g n) mr im mk (va_up ad (2 + n) q) (n + 1) (mk_as g n (cr_k C) (cr_c C g).1 (cr_e C g).1 (cr_h C g n).1))) ∨ (¬ cr_s C g n 25 0 = 0 ∧ u = (L, ob_W D f oa (cr_s C g n) mr im mk ad n g))) 1 7 := by
  refine hg_in_v (cc := cX8_readStall) (nL := 7) (by decide) rfl (Nat.le_of_ble_eq_true rfl) (fun p e s m args below meth c R Q X hname hR hend H locs ls w hl => ?_)
  subst hR
  obtain ⟨hx, hb, hml, hown, hts⟩ := id X.1
  have hin : mk_in wsX8_readStall := ⟨fun w h => List.mem_cons_of_mem _ (List.mem_append_left _ (List.mem_append_left _ (List.mem_append_left _ (List.mem_append_left _ (List.mem_append_right _ h))))), fun w h => List.mem_cons_of_mem _ (List.mem_append_left _ (List.mem_append_left _ (List.mem_append_left _ (List.mem_append_right _ h)))), fun w h => List.mem_cons_of_mem _ (List.mem_append_left _ (List.mem_append_left _ (List.mem_append_right _ h))), fun w h => List.mem_cons_of_mem _ (List.mem_append_left _ (List.mem_append_right _ h)), fun w h => List.mem_cons_of_mem _ (List.mem_append_right _ h)⟩
  have hin3 : ∀ w ∈ wsX30, w ∈ wsX8_readStall := fun w h => List.mem_cons_of_mem _ (List.mem_append_left _ (List.mem_append_left _ (List.mem_append_left _ (List.mem_append_left _ (List.mem_append_left _ (List.mem_append_right _ h))))))
  have hin8 : ∀ w ∈ wsX80, w ∈ wsX8_readStall := fun w h => List.mem_cons_of_mem _ (List.mem_append_left _ (List.mem_append_left _ (List.mem_append_left _ (List.mem_append_left _ (List.mem_append_left _ (List.mem_append_left _ (List.mem_append_right _ h)))))))
  have hl : lv_has ls 7 [(0, .ref (oa 2)), (1, .ref mk)] := hl
  refine lv_aload_n hx hb dX8_readStall_0 rfl (lv_at hl 0 rfl) ?_
  refine hg_viF (r := (mk_by C (C 24 0))) (As := []) (rest := []) X w (c_X8_next l D b0 L f oa C mr im mk ad n g hm hs ho ) (cwV 0 hts gX8_readStall_X8_next rfl rfl rfl hdX8_next ⟨Nat.le_of_ble_eq_true rfl, Nat.le_of_ble_eq_true rfl⟩) (ho.1 2 (by decide)).1 (ow_at ho (k := 2) (by decide)) rfl rfl rfl hl.1 rfl (Nat.le_of_ble_eq_true rfl) dX8_readStall_1 ⟨Nat.zero_le _, Nat.zero_le _⟩ (fun H locs w => ?_)
  refine hg_siF (r := (mk_kind (mk_by C (C 24 0)))) (As := [.int ((mk_by C (C 24 0)))]) (rest := []) X w (c_X8_kindOf l D b0 L f oa C mr im mk ad n g hm hs ho (mk_by C (C 24 0))) (va_cwS 1 hts gX8_readStall_X8_kindOf rfl rfl rfl hdX8_kindOf ⟨Nat.le_of_ble_eq_true rfl, Nat.le_of_ble_eq_true rfl⟩) rfl hl.1 rfl (Nat.le_of_ble_eq_true rfl) dX8_readStall_4 ⟨Nat.zero_le _, Nat.zero_le _⟩ (fun H locs w => ?_)
  refine lv_istore_n (lv' := [(2, .int ((cr_k C))), (0, .ref (oa 2)), (1, .ref mk)]) hx hb dX8_readStall_7 rfl hl (by decide) rfl (fun ls hl => ?_)
  refine lv_iload_n hx hb dX8_readStall_8 rfl (lv_at hl 0 rfl) ?_
  refine lv_ldc (v := (-1000000)) hx hb hown (hts _ (List.mem_of_getElem? (i := 1) rfl)) dX8_readStall_9 ?_
  refine lv_icmp_ne (tgt := 26) hx hb dX8_readStall_11 (by decide) (fun c_11 => ?_) (fun c_11 => ?_)
  · refine lv_aload_n hx hb dX8_readStall_26 rfl (lv_at hl 2 rfl) ?_
    refine mk_getM X w hm hin3 3 (by decide) (List.mem_of_getElem? (i := 3) rfl) rfl dX8_readStall_27 ?_
    refine lv_bipush (v := 6) hx hb dX8_readStall_30 (by decide) ?_
    refine lv_icmp_ne (tgt := 44) hx hb dX8_readStall_32 (by decide) (fun c_32 => ?_) (fun c_32 => ?_)
    · refine lv_aload_n hx hb dX8_readStall_44 rfl (lv_at hl 1 rfl) ?_
      refine lv_dup hx hb dX8_readStall_45 rfl ?_
      refine ob_get X w ho 2 (by decide) (C0 := RX8) (T := TX8) (N := 5) (ci := 6) rfl hin8 rfl 2 (by decide) (List.mem_of_getElem? (i := 2) rfl) rfl rfl dX8_readStall_46 ?_
      refine lv_iconst (v := 1) hx hb dX8_readStall_49 (by decide) ?_
      refine lv_iadd hx hb dX8_readStall_50 ?_
      refine ob_put X w ho 2 (by decide) (C0 := RX8) (T := TX8) (N := 5) (ci := 6) rfl hin8 tyX8_ok nmX8 rfl 2 (by decide) (List.mem_of_getElem? (i := 2) rfl) rfl rfl rfl (by show _ < 5; decide) 24 0 rfl (ob_o0 _ _ (by decide) 0) dX8_readStall_51 (fun H locs w => ?_)
      have eC : (mo_w C 24 0 ((C 24 0 + 1))) = cr_b C g := by
        unfold cr_b cr_a cr_k
        rw [if_neg c_11, if_neg c_32]
      rw [eC] at w
      refine lv_aload_n hx hb dX8_readStall_54 rfl (lv_at hl 1 rfl) ?_
      refine lv_iconst (v := 0) hx hb dX8_readStall_55 (by decide) ?_
      refine lv_aload_n hx hb dX8_readStall_56 rfl (lv_at hl 2 rfl) ?_
      refine mk_getM X w hm hin3 2 (by decide) (List.mem_of_getElem? (i := 4) rfl) rfl dX8_readStall_57 ?_
      refine lv_iconst (v := 1) hx hb dX8_readStall_60 (by decide) ?_
      refine lv_isub hx hb dX8_readStall_61 ?_
      refine hg_viF (r := (mk_number (cr_b C g) 0 (g 2 - 1)).1) (As := [.int (0), .int ((g 2 - 1))]) (rest := []) X w (c_X8_number l D b0 L f oa (cr_b C g) mr im mk ad n g hm hs ho 0 (g 2 - 1)) (cwV 2 hts gX8_readStall_X8_number rfl rfl rfl hdX8_number ⟨Nat.le_of_ble_eq_true rfl, Nat.le_of_ble_eq_true rfl⟩) (ho.1 2 (by decide)).1 (ow_at ho (k := 2) (by decide)) rfl rfl rfl hl.1 rfl (Nat.le_of_ble_eq_true rfl) dX8_readStall_62 ⟨Nat.zero_le _, Nat.zero_le _⟩ (fun H locs w => ?_)
      have w : hg_W D b0 L (ob_W D f oa ((cr_c C g).2) mr im mk ad n g) s.heap H locs := w
      refine lv_istore_n (lv' := [(3, .int ((cr_c C g).1)), (2, .int ((cr_k C))), (0, .ref (oa 2)), (1, .ref mk)]) hx hb dX8_readStall_65 rfl hl (by decide) rfl (fun ls hl => ?_)
      refine lv_aload_n hx hb dX8_readStall_66 rfl (lv_at hl 2 rfl) ?_
      refine lv_bipush (v := 44) hx hb dX8_readStall_67 (by decide) ?_
      refine hg_vvF (As := [.int (44)]) (rest := []) X w (c_X8_pass l D b0 L f oa ((cr_c C g).2) mr im mk ad n g hm hs ho 44) (cwV 1 hts gX8_readStall_X8_pass rfl rfl rfl hdX8_pass ⟨Nat.le_of_ble_eq_true rfl, Nat.le_of_ble_eq_true rfl⟩) (ho.1 2 (by decide)).1 (ow_at ho (k := 2) (by decide)) rfl rfl rfl hl.1 rfl (Nat.le_of_ble_eq_true rfl) dX8_readStall_69 ⟨Nat.zero_le _, Nat.zero_le _⟩ (fun H locs w => ?_)
      have w : hg_W D b0 L (ob_W D f oa (cr_d C g) mr im mk ad n g) s.heap H locs := w
      refine lv_aload_n hx hb dX8_readStall_72 rfl (lv_at hl 2 rfl) ?_
      refine ob_get X w ho 2 (by decide) (C0 := RX8) (T := TX8) (N := 5) (ci := 6) rfl hin8 rfl 2 (by decide) (List.mem_of_getElem? (i := 2) rfl) rfl rfl dX8_readStall_73 ?_
      refine lv_istore (lv' := [(4, .int ((cr_d C g) 24 0)), (3, .int ((cr_c C g).1)), (2, .int ((cr_k C))), (0, .ref (oa 2)), (1, .ref mk)]) hx hb dX8_readStall_76 hl (by decide) rfl (fun ls hl => ?_)
      refine lv_aload_n hx hb dX8_readStall_78 rfl (lv_at hl 3 rfl) ?_
      refine lv_iconst (v := 1) hx hb dX8_readStall_79 (by decide) ?_
      refine lv_bipush (v := 8) hx hb dX8_readStall_80 (by decide) ?_
      refine hg_viF (r := (mk_number (cr_d C g) 1 8).1) (As := [.int (1), .int (8)]) (rest := []) X w (c_X8_number l D b0 L f oa (cr_d C g) mr im mk ad n g hm hs ho 1 8) (cwV 2 hts gX8_readStall_X8_number rfl rfl rfl hdX8_number ⟨Nat.le_of_ble_eq_true rfl, Nat.le_of_ble_eq_true rfl⟩) (ho.1 2 (by decide)).1 (ow_at ho (k := 2) (by decide)) rfl rfl rfl hl.1 rfl (Nat.le_of_ble_eq_true rfl) dX8_readStall_82 ⟨Nat.zero_le _, Nat.zero_le _⟩ (fun H locs w => ?_)
      have w : hg_W D b0 L (ob_W D f oa ((cr_e C g).2) mr im mk ad n g) s.heap H locs := w
      refine lv_istore (lv' := [(5, .int ((cr_e C g).1)), (4, .int ((cr_d C g) 24 0)), (3, .int ((cr_c C g).1)), (2, .int ((cr_k C))), (0, .ref (oa 2)), (1, .ref mk)]) hx hb dX8_readStall_85 hl (by decide) rfl (fun ls hl => ?_)
      refine lv_aload_n hx hb dX8_readStall_87 rfl (lv_at hl 5 rfl) ?_
      refine lv_iload_n hx hb dX8_readStall_88 rfl (lv_at hl 2 rfl) ?_
      refine lv_iload hx hb dX8_readStall_89 (lv_at hl 0 rfl) ?_
      refine hg_vqF (r := (mk_std g ((cr_c C g).1) ((cr_e C g).1) n).map (fun j => ad (2 + j))) (As := [.int ((cr_c C g).1), .int ((cr_e C g).1)]) (rest := []) X w (c_X3_standing l D b0 L (ob_F D f oa ((cr_e C g).2) mr im) mk ad n g hm hs ((cr_c C g).1) ((cr_e C g).1)) (cwV 2 hts gX8_readStall_X3_standing rfl rfl rfl hdX3_standing ⟨Nat.le_of_ble_eq_true rfl, Nat.le_of_ble_eq_true rfl⟩) (hm.1) (mk_at0 D _ mk ad n _) rfl rfl rfl hl.1 rfl (Nat.le_of_ble_eq_true rfl) dX8_readStall_91 ⟨Nat.zero_le _, Nat.zero_le _⟩ (fun H locs w => ?_)
      refine mk_qk (ad := ad) (fun hq91 => ?_) (fun jq91 hq91 => ?_)
      · refine lv_ifnullN (tgt := 104) hx hb dX8_readStall_94 (by decide) ?_
        have eF : cr_f C g n = (cr_e C g).2 := by
          unfold cr_f
          rw [if_pos hq91]
        have w : hg_W D b0 L (ob_W D f oa (cr_f C g n) mr im mk ad n g) s.heap H locs := by rw [eF]; exact w
        refine lv_aload_n hx hb dX8_readStall_104 rfl (lv_at hl 4 rfl) ?_
        refine lv_bipush (v := 44) hx hb dX8_readStall_105 (by decide) ?_
        refine hg_vvF (As := [.int (44)]) (rest := []) X w (c_X8_pass l D b0 L f oa (cr_f C g n) mr im mk ad n g hm hs ho 44) (cwV 1 hts gX8_readStall_X8_pass rfl rfl rfl hdX8_pass ⟨Nat.le_of_ble_eq_true rfl, Nat.le_of_ble_eq_true rfl⟩) (ho.1 2 (by decide)).1 (ow_at ho (k := 2) (by decide)) rfl rfl rfl hl.1 rfl (Nat.le_of_ble_eq_true rfl) dX8_readStall_107 ⟨Nat.zero_le _, Nat.zero_le _⟩ (fun H locs w => ?_)
        have w : hg_W D b0 L (ob_W D f oa (cr_g C g n) mr im mk ad n g) s.heap H locs := w
        refine lv_aload_n hx hb dX8_readStall_110 rfl (lv_at hl 4 rfl) ?_
        refine lv_iconst (v := 0) hx hb dX8_readStall_111 (by decide) ?_
        refine lv_bipush (v := 20) hx hb dX8_readStall_112 (by decide) ?_
        refine hg_viF (r := (mk_number (cr_g C g n) 0 20).1) (As := [.int (0), .int (20)]) (rest := []) X w (c_X8_number l D b0 L f oa (cr_g C g n) mr im mk ad n g hm hs ho 0 20) (cwV 2 hts gX8_readStall_X8_number rfl rfl rfl hdX8_number ⟨Nat.le_of_ble_eq_true rfl, Nat.le_of_ble_eq_true rfl⟩) (ho.1 2 (by decide)).1 (ow_at ho (k := 2) (by decide)) rfl rfl rfl hl.1 rfl (Nat.le_of_ble_eq_true rfl) dX8_readStall_114 ⟨Nat.zero_le _, Nat.zero_le _⟩ (fun H locs w => ?_)
        have w : hg_W D b0 L (ob_W D f oa ((cr_h C g n).2) mr im mk ad n g) s.heap H locs := w
        refine lv_istore (lv' := [(6, .int ((cr_h C g n).1)), (5, .int ((cr_e C g).1)), (4, .int ((cr_d C g) 24 0)), (3, .int ((cr_c C g).1)), (2, .int ((cr_k C))), (0, .ref (oa 2)), (1, .ref mk)]) hx hb dX8_readStall_117 hl (by decide) rfl (fun ls hl => ?_)
        refine lv_aload_n hx hb dX8_readStall_119 rfl (lv_at hl 5 rfl) ?_
        refine lv_bipush (v := 59) hx hb dX8_readStall_120 (by decide) ?_
        refine hg_vvF (As := [.int (59)]) (rest := []) X w (c_X8_pass l D b0 L f oa ((cr_h C g n).2) mr im mk ad n g hm hs ho 59) (cwV 1 hts gX8_readStall_X8_pass rfl rfl rfl hdX8_pass ⟨Nat.le_of_ble_eq_true rfl, Nat.le_of_ble_eq_true rfl⟩) (ho.1 2 (by decide)).1 (ow_at ho (k := 2) (by decide)) rfl rfl rfl hl.1 rfl (Nat.le_of_ble_eq_true rfl) dX8_readStall_122 ⟨Nat.zero_le _, Nat.zero_le _⟩ (fun H locs w => ?_)
        have w : hg_W D b0 L (ob_W D f oa (cr_s C g n) mr im mk ad n g) s.heap H locs := w
        refine lv_aload_n hx hb dX8_readStall_125 rfl (lv_at hl 5 rfl) ?_
        refine ob_get X w ho 2 (by decide) (C0 := RX8) (T := TX8) (N := 5) (ci := 6) rfl hin8 rfl 3 (by decide) (List.mem_of_getElem? (i := 5) rfl) rfl rfl dX8_readStall_126 ?_
        refine lv_if_ne (tgt := 145) hx hb dX8_readStall_129 (by decide) (fun c_129 => ?_) (fun c_129 => ?_)
        · refine W.widen (k := 1) (n := 7) (by omega) (by omega) ?_
          exact hend H locs (L, ob_W D f oa (cr_s C g n) mr im mk ad n g) _ ls w (Or.inr ⟨c_129, rfl⟩) dX8_readStall_145
        · refine lv_aload_n hx hb dX8_readStall_132 rfl (lv_at hl 6 rfl) ?_
          refine lv_iload_n hx hb dX8_readStall_133 rfl (lv_at hl 4 rfl) ?_
          have hS : cr_s C g n 25 0 = 0 := c_129
          have hK := cr_s_k hS
          refine hg_sq (As := [.int ((cr_k C))]) (rest := [.ref mk]) X w (c_X6_ofKind l D b0 L (ob_W D f oa (cr_s C g n) mr im mk ad n g) (cr_k C) (cr_kv hK.1)) (va_cwS 1 hts gX8_readStall_X6_ofKind rfl rfl rfl hdX6_ofKind ⟨Nat.le_of_ble_eq_true rfl, Nat.le_of_ble_eq_true rfl⟩) rfl hl.1 rfl (Nat.le_of_ble_eq_true rfl) dX8_readStall_134 ⟨(Nat.le_of_ble_eq_true rfl), (Nat.le_of_ble_eq_true rfl)⟩ (fun v0 u0 H locs hp w => ?_)
          obtain ⟨q, rfl, hq, rfl⟩ := hp
          refine (show W p l e _ s m args below meth c H locs _ _ Q (F0 m 137 ls [.ref q, .ref mk]) from ?_)
          refine lv_iload_n hx hb dX8_readStall_137 rfl (lv_at hl 3 rfl) ?_
          refine lv_iload hx hb dX8_readStall_138 (lv_at hl 1 rfl) ?_
          refine lv_iload hx hb dX8_readStall_140 (lv_at hl 0 rfl) ?_
          have hn6 : n < 6 := by
            have h6 := hs.2.1
            rcases Nat.lt_or_ge n 6 with z | z
            · exact z
            · exact absurd (by rw [hs.1, show n = 6 by omega]; rfl) hK.2.1
          have hmq : mk ≠ q := fun z => hq (by rw [← z]; exact hm.1)
          refine hg_vv (As := [.ref q, .int ((cr_c C g).1), .int ((cr_e C g).1), .int ((cr_h C g n).1)]) (rest := []) X w (c_X3_addStall l D b0 L (ob_F D f oa (cr_s C g n) mr im) mk ad n g hm hs q hq hn6 hs.1 (cr_k C) ((cr_c C g).1) ((cr_e C g).1) ((cr_h C g n).1)) (cwV 4 hts gX8_readStall_X3_addStall rfl rfl rfl hdX3_addStall ⟨Nat.le_of_ble_eq_true rfl, Nat.le_of_ble_eq_true rfl⟩) (List.mem_append_left _ hm.1) ((va_up_ne _ _ hmq).trans (mk_at0 D _ mk ad n g)) rfl rfl rfl hl.1 rfl (Nat.le_of_ble_eq_true rfl) dX8_readStall_142 ⟨(Nat.le_of_ble_eq_true rfl), (Nat.le_of_ble_eq_true rfl)⟩ (fun u H locs hp w => ?_)
          subst hp
          exact hend H locs (L ++ [q], ob_W D f oa (cr_s C g n) mr im mk (va_up ad (2 + n) q) (n + 1) (mk_as g n (cr_k C) (cr_c C g).1 (cr_e C g).1 (cr_h C g n).1)) _ ls w (Or.inl ⟨hS, q, hq, rfl⟩) dX8_readStall_145
      · have hjq91 : jq91 < n := mk_std_lt hq91
        refine lv_ifnull hx hb dX8_readStall_94 ?_
        refine lv_aload_n hx hb dX8_readStall_97 rfl (lv_at hl 4 rfl) ?_
        refine lv_iconst (v := 2) hx hb dX8_readStall_98 (by decide) ?_
        refine lv_iload hx hb dX8_readStall_99 (lv_at hl 1 rfl) ?_
        refine hg_vvF (As := [.int (2), .int ((cr_d C g) 24 0)]) (rest := []) X w (c_X8_tellFault l D b0 L f oa ((cr_e C g).2) mr im mk ad n g hm hs ho 2 ((cr_d C g) 24 0)) (cwV 2 hts gX8_readStall_X8_tellFault rfl rfl rfl hdX8_tellFault ⟨Nat.le_of_ble_eq_true rfl, Nat.le_of_ble_eq_true rfl⟩) (ho.1 2 (by decide)).1 (ow_at ho (k := 2) (by decide)) rfl rfl rfl hl.1 rfl (Nat.le_of_ble_eq_true rfl) dX8_readStall_101 ⟨Nat.zero_le _, Nat.zero_le _⟩ (fun H locs w => ?_)
        have eF : cr_f C g n = (mk_tf ((cr_e C g).2) 2 ((cr_d C g) 24 0)) := by
          unfold cr_f
          rw [if_neg (show ¬ mk_std g (cr_c C g).1 (cr_e C g).1 n = none by rw [hq91]; exact fun q => nomatch q)]
        have w : hg_W D b0 L (ob_W D f oa (cr_f C g n) mr im mk ad n g) s.heap H locs := by rw [eF]; exact w
        refine lv_aload_n hx hb dX8_readStall_104 rfl (lv_at hl 4 rfl) ?_
        refine lv_bipush (v := 44) hx hb dX8_readStall_105 (by decide) ?_
        refine hg_vvF (As := [.int (44)]) (rest := []) X w (c_X8_pass l D b0 L f oa (cr_f C g n) mr im mk ad n g hm hs ho 44) (cwV 1 hts gX8_readStall_X8_pass rfl rfl rfl hdX8_pass ⟨Nat.le_of_ble_eq_true rfl, Nat.le_of_ble_eq_true rfl⟩) (ho.1 2 (by decide)).1 (ow_at ho (k := 2) (by decide)) rfl rfl rfl hl.1 rfl (Nat.le_of_ble_eq_true rfl) dX8_readStall_107 ⟨Nat.zero_le _, Nat.zero_le _⟩ (fun H locs w => ?_)
        have w : hg_W D b0 L (ob_W D f oa (cr_g C g n) mr im mk ad n g) s.heap H locs := w
        refine lv_aload_n hx hb dX8_readStall_110 rfl (lv_at hl 4 rfl) ?_
        refine lv_iconst (v := 0) hx hb dX8_readStall_111 (by decide) ?_
        refine lv_bipush (v := 20) hx hb dX8_readStall_112 (by decide) ?_
        refine hg_viF (r := (mk_number (cr_g C g n) 0 20).1) (As := [.int (0), .int (20)]) (rest := []) X w (c_X8_number l D b0 L f oa (cr_g C g n) mr im mk ad n g hm hs ho 0 20) (cwV 2 hts gX8_readStall_X8_number rfl rfl rfl hdX8_number ⟨Nat.le_of_ble_eq_true rfl, Nat.le_of_ble_eq_true rfl⟩) (ho.1 2 (by decide)).1 (ow_at ho (k := 2) (by decide)) rfl rfl rfl hl.1 rfl (Nat.le_of_ble_eq_true rfl) dX8_readStall_114 ⟨Nat.zero_le _, Nat.zero_le _⟩ (fun H locs w => ?_)
        have w : hg_W D b0 L (ob_W D f oa ((cr_h C g n).2) mr im mk ad n g) s.heap H locs := w
        refine lv_istore (lv' := [(6, .int ((cr_h C g n).1)), (5, .int ((cr_e C g).1)), (4, .int ((cr_d C g) 24 0)), (3, .int ((cr_c C g).1)), (2, .int ((cr_k C))), (0, .ref (oa 2)), (1, .ref mk)]) hx hb dX8_readStall_117 hl (by decide) rfl (fun ls hl => ?_)
        refine lv_aload_n hx hb dX8_readStall_119 rfl (lv_at hl 5 rfl) ?_
        refine lv_bipush (v := 59) hx hb dX8_readStall_120 (by decide) ?_
        refine hg_vvF (As := [.int (59)]) (rest := []) X w (c_X8_pass l D b0 L f oa ((cr_h C g n).2) mr im mk ad n g hm hs ho 59) (cwV 1 hts gX8_readStall_X8_pass rfl rfl rfl hdX8_pass ⟨Nat.le_of_ble_eq_true rfl, Nat.le_of_ble_eq_true rfl⟩) (ho.1 2 (by decide)).1 (ow_at ho (k := 2) (by decide)) rfl rfl rfl hl.1 rfl (Nat.le_of_ble_eq_true rfl) dX8_readStall_122 ⟨Nat.zero_le _, Nat.zero_le _⟩ (fun H locs w => ?_)
        have w : hg_W D b0 L (ob_W D f oa (cr_s C g n) mr im mk ad n g) s.heap H locs := w
        refine lv_aload_n hx hb dX8_readStall_125 rfl (lv_at hl 5 rfl) ?_
        refine ob_get X w ho 2 (by decide) (C0 := RX8) (T := TX8) (N := 5) (ci := 6) rfl hin8 rfl 3 (by decide) (List.mem_of_getElem? (i := 5) rfl) rfl rfl dX8_readStall_126 ?_
        refine lv_if_ne (tgt := 145) hx hb dX8_readStall_129 (by decide) (fun c_129 => ?_) (fun c_129 => ?_)
        · refine W.widen (k := 1) (n := 7) (by omega) (by omega) ?_
          exact hend H locs (L, ob_W D f oa (cr_s C g n) mr im mk ad n g) _ ls w (Or.inr ⟨c_129, rfl⟩) dX8_readStall_145
        · refine lv_aload_n hx hb dX8_readStall_132 rfl (lv_at hl 6 rfl) ?_
          refine lv_iload_n hx hb dX8_readStall_133 rfl (lv_at hl 4 rfl) ?_
          have hS : cr_s C g n 25 0 = 0 := c_129
          have hK := cr_s_k hS
          refine hg_sq (As := [.int ((cr_k C))]) (rest := [.ref mk]) X w (c_X6_ofKind l D b0 L (ob_W D f oa (cr_s C g n) mr im mk ad n g) (cr_k C) (cr_kv hK.1)) (va_cwS 1 hts gX8_readStall_X6_ofKind rfl rfl rfl hdX6_ofKind ⟨Nat.le_of_ble_eq_true rfl, Nat.le_of_ble_eq_true rfl⟩) rfl hl.1 rfl (Nat.le_of_ble_eq_true rfl) dX8_readStall_134 ⟨(Nat.le_of_ble_eq_true rfl), (Nat.le_of_ble_eq_true rfl)⟩ (fun v0 u0 H locs hp w => ?_)
          obtain ⟨q, rfl, hq, rfl⟩ := hp
          refine (show W p l e _ s m args below meth c H locs _ _ Q (F0 m 137 ls [.ref q, .ref mk]) from ?_)
          refine lv_iload_n hx hb dX8_readStall_137 rfl (lv_at hl 3 rfl) ?_
          refine lv_iload hx hb dX8_readStall_138 (lv_at hl 1 rfl) ?_
          refine lv_iload hx hb dX8_readStall_140 (lv_at hl 0 rfl) ?_
          have hn6 : n < 6 := by
            have h6 := hs.2.1
            rcases Nat.lt_or_ge n 6 with z | z
            · exact z
            · exact absurd (by rw [hs.1, show n = 6 by omega]; rfl) hK.2.1
          have hmq : mk ≠ q := fun z => hq (by rw [← z]; exact hm.1)
          refine hg_vv (As := [.ref q, .int ((cr_c C g).1), .int ((cr_e C g).1), .int ((cr_h C g n).1)]) (rest := []) X w (c_X3_addStall l D b0 L (ob_F D f oa (cr_s C g n) mr im) mk ad n g hm hs q hq hn6 hs.1 (cr_k C) ((cr_c C g).1) ((cr_e C g).1) ((cr_h C g n).1)) (cwV 4 hts gX8_readStall_X3_addStall rfl rfl rfl hdX3_addStall ⟨Nat.le_of_ble_eq_true rfl, Nat.le_of_ble_eq_true rfl⟩) (List.mem_append_left _ hm.1) ((va_up_ne _ _ hmq).trans (mk_at0 D _ mk ad n g)) rfl rfl rfl hl.1 rfl (Nat.le_of_ble_eq_true rfl) dX8_readStall_142 ⟨(Nat.le_of_ble_eq_true rfl), (Nat.le_of_ble_eq_true rfl)⟩ (fun u H locs hp w => ?_)
          subst hp
          exact hend H locs (L ++ [q], ob_W D f oa (cr_s C g n) mr im mk (va_up ad (2 + n) q) (n + 1) (mk_as g n (cr_k C) (cr_c C g).1 (cr_e C g).1 (cr_h C g n).1)) _ ls w (Or.inl ⟨hS, q, hq, rfl⟩) dX8_readStall_145
    · refine lv_aload_n hx hb dX8_readStall_35 rfl (lv_at hl 1 rfl) ?_
      refine lv_iconst (v := 3) hx hb dX8_readStall_36 (by decide) ?_
      refine lv_aload_n hx hb dX8_readStall_37 rfl (lv_at hl 1 rfl) ?_
      refine ob_get X w ho 2 (by decide) (C0 := RX8) (T := TX8) (N := 5) (ci := 6) rfl hin8 rfl 2 (by decide) (List.mem_of_getElem? (i := 2) rfl) rfl rfl dX8_readStall_38 ?_
      refine hg_vvF (As := [.int (3), .int (C 24 0)]) (rest := []) X w (c_X8_tellFault l D b0 L f oa C mr im mk ad n g hm hs ho 3 (C 24 0)) (cwV 2 hts gX8_readStall_X8_tellFault rfl rfl rfl hdX8_tellFault ⟨Nat.le_of_ble_eq_true rfl, Nat.le_of_ble_eq_true rfl⟩) (ho.1 2 (by decide)).1 (ow_at ho (k := 2) (by decide)) rfl rfl rfl hl.1 rfl (Nat.le_of_ble_eq_true rfl) dX8_readStall_41 ⟨Nat.zero_le _, Nat.zero_le _⟩ (fun H locs w => ?_)
      refine lv_aload_n hx hb dX8_readStall_44 rfl (lv_at hl 1 rfl) ?_
      refine lv_dup hx hb dX8_readStall_45 rfl ?_
      refine ob_get X w ho 2 (by decide) (C0 := RX8) (T := TX8) (N := 5) (ci := 6) rfl hin8 rfl 2 (by decide) (List.mem_of_getElem? (i := 2) rfl) rfl rfl dX8_readStall_46 ?_
      refine lv_iconst (v := 1) hx hb dX8_readStall_49 (by decide) ?_
      refine lv_iadd hx hb dX8_readStall_50 ?_
      refine ob_put X w ho 2 (by decide) (C0 := RX8) (T := TX8) (N := 5) (ci := 6) rfl hin8 tyX8_ok nmX8 rfl 2 (by decide) (List.mem_of_getElem? (i := 2) rfl) rfl rfl rfl (by show _ < 5; decide) 24 0 rfl (ob_o0 _ _ (by decide) 0) dX8_readStall_51 (fun H locs w => ?_)
      have eC : (mo_w (mk_tf C 3 (C 24 0)) 24 0 (((mk_tf C 3 (C 24 0)) 24 0 + 1))) = cr_b C g := by
        unfold cr_b cr_a cr_k
        rw [if_neg c_11, if_pos c_32]
      rw [eC] at w
      refine lv_aload_n hx hb dX8_readStall_54 rfl (lv_at hl 1 rfl) ?_
      refine lv_iconst (v := 0) hx hb dX8_readStall_55 (by decide) ?_
      refine lv_aload_n hx hb dX8_readStall_56 rfl (lv_at hl 2 rfl) ?_
      refine mk_getM X w hm hin3 2 (by decide) (List.mem_of_getElem? (i := 4) rfl) rfl dX8_readStall_57 ?_
      refine lv_iconst (v := 1) hx hb dX8_readStall_60 (by decide) ?_
      refine lv_isub hx hb dX8_readStall_61 ?_
      refine hg_viF (r := (mk_number (cr_b C g) 0 (g 2 - 1)).1) (As := [.int (0), .int ((g 2 - 1))]) (rest := []) X w (c_X8_number l D b0 L f oa (cr_b C g) mr im mk ad n g hm hs ho 0 (g 2 - 1)) (cwV 2 hts gX8_readStall_X8_number rfl rfl rfl hdX8_number ⟨Nat.le_of_ble_eq_true rfl, Nat.le_of_ble_eq_true rfl⟩) (ho.1 2 (by decide)).1 (ow_at ho (k := 2) (by decide)) rfl rfl rfl hl.1 rfl (Nat.le_of_ble_eq_true rfl) dX8_readStall_62 ⟨Nat.zero_le _, Nat.zero_le _⟩ (fun H locs w => ?_)
      have w : hg_W D b0 L (ob_W D f oa ((cr_c C g).2) mr im mk ad n g) s.heap H locs := w
      refine lv_istore_n (lv' := [(3, .int ((cr_c C g).1)), (2, .int ((cr_k C))), (0, .ref (oa 2)), (1, .ref mk)]) hx hb dX8_readStall_65 rfl hl (by decide) rfl (fun ls hl => ?_)
      refine lv_aload_n hx hb dX8_readStall_66 rfl (lv_at hl 2 rfl) ?_
      refine lv_bipush (v := 44) hx hb dX8_readStall_67 (by decide) ?_
      refine hg_vvF (As := [.int (44)]) (rest := []) X w (c_X8_pass l D b0 L f oa ((cr_c C g).2) mr im mk ad n g hm hs ho 44) (cwV 1 hts gX8_readStall_X8_pass rfl rfl rfl hdX8_pass ⟨Nat.le_of_ble_eq_true rfl, Nat.le_of_ble_eq_true rfl⟩) (ho.1 2 (by decide)).1 (ow_at ho (k := 2) (by decide)) rfl rfl rfl hl.1 rfl (Nat.le_of_ble_eq_true rfl) dX8_readStall_69 ⟨Nat.zero_le _, Nat.zero_le _⟩ (fun H locs w => ?_)
      have w : hg_W D b0 L (ob_W D f oa (cr_d C g) mr im mk ad n g) s.heap H locs := w
      refine lv_aload_n hx hb dX8_readStall_72 rfl (lv_at hl 2 rfl) ?_
      refine ob_get X w ho 2 (by decide) (C0 := RX8) (T := TX8) (N := 5) (ci := 6) rfl hin8 rfl 2 (by decide) (List.mem_of_getElem? (i := 2) rfl) rfl rfl dX8_readStall_73 ?_
      refine lv_istore (lv' := [(4, .int ((cr_d C g) 24 0)), (3, .int ((cr_c C g).1)), (2, .int ((cr_k C))), (0, .ref (oa 2)), (1, .ref mk)]) hx hb dX8_readStall_76 hl (by decide) rfl (fun ls hl => ?_)
      refine lv_aload_n hx hb dX8_readStall_78 rfl (lv_at hl 3 rfl) ?_
      refine lv_iconst (v := 1) hx hb dX8_readStall_79 (by decide) ?_
      refine lv_bipush (v := 8) hx hb dX8_readStall_80 (by decide) ?_
      refine hg_viF (r := (mk_number (cr_d C g) 1 8).1) (As := [.int (1), .int (8)]) (rest := []) X w (c_X8_number l D b0 L f oa (cr_d C g) mr im mk ad n g hm hs ho 1 8) (cwV 2 hts gX8_readStall_X8_number rfl rfl rfl hdX8_number ⟨Nat.le_of_ble_eq_true rfl, Nat.le_of_ble_eq_true rfl⟩) (ho.1 2 (by decide)).1 (ow_at ho (k := 2) (by decide)) rfl rfl rfl hl.1 rfl (Nat.le_of_ble_eq_true rfl) dX8_readStall_82 ⟨Nat.zero_le _, Nat.zero_le _⟩ (fun H locs w => ?_)
      have w : hg_W D b0 L (ob_W D f oa ((cr_e C g).2) mr im mk ad n g) s.heap H locs := w
      refine lv_istore (lv' := [(5, .int ((cr_e C g).1)), (4, .int ((cr_d C g) 24 0)), (3, .int ((cr_c C g).1)), (2, .int ((cr_k C))), (0, .ref (oa 2)), (1, .ref mk)]) hx hb dX8_readStall_85 hl (by decide) rfl (fun ls hl => ?_)
      refine lv_aload_n hx hb dX8_readStall_87 rfl (lv_at hl 5 rfl) ?_
      refine lv_iload_n hx hb dX8_readStall_88 rfl (lv_at hl 2 rfl) ?_
      refine lv_iload hx hb dX8_readStall_89 (lv_at hl 0 rfl) ?_
      refine hg_vqF (r := (mk_std g ((cr_c C g).1) ((cr_e C g).1) n).map (fun j => ad (2 + j))) (As := [.int ((cr_c C g).1), .int ((cr_e C g).1)]) (rest := []) X w (c_X3_standing l D b0 L (ob_F D f oa ((cr_e C g).2) mr im) mk ad n g hm hs ((cr_c C g).1) ((cr_e C g).1)) (cwV 2 hts gX8_readStall_X3_standing rfl rfl rfl hdX3_standing ⟨Nat.le_of_ble_eq_true rfl, Nat.le_of_ble_eq_true rfl⟩) (hm.1) (mk_at0 D _ mk ad n _) rfl rfl rfl hl.1 rfl (Nat.le_of_ble_eq_true rfl) dX8_readStall_91 ⟨Nat.zero_le _, Nat.zero_le _⟩ (fun H locs w => ?_)
      refine mk_qk (ad := ad) (fun hq91 => ?_) (fun jq91 hq91 => ?_)
      · refine lv_ifnullN (tgt := 104) hx hb dX8_readStall_94 (by decide) ?_
        have eF : cr_f C g n = (cr_e C g).2 := by
          unfold cr_f
          rw [if_pos hq91]
        have w : hg_W D b0 L (ob_W D f oa (cr_f C g n) mr im mk ad n g) s.heap H locs := by rw [eF]; exact w
        refine lv_aload_n hx hb dX8_readStall_104 rfl (lv_at hl 4 rfl) ?_
        refine lv_bipush (v := 44) hx hb dX8_readStall_105 (by decide) ?_
        refine hg_vvF (As := [.int (44)]) (rest := []) X w (c_X8_pass l D b0 L f oa (cr_f C g n) mr im mk ad n g hm hs ho 44) (cwV 1 hts gX8_readStall_X8_pass rfl rfl rfl hdX8_pass ⟨Nat.le_of_ble_eq_true rfl, Nat.le_of_ble_eq_true rfl⟩) (ho.1 2 (by decide)).1 (ow_at ho (k := 2) (by decide)) rfl rfl rfl hl.1 rfl (Nat.le_of_ble_eq_true rfl) dX8_readStall_107 ⟨Nat.zero_le _, Nat.zero_le _⟩ (fun H locs w => ?_)
        have w : hg_W D b0 L (ob_W D f oa (cr_g C g n) mr im mk ad n g) s.heap H locs := w
        refine lv_aload_n hx hb dX8_readStall_110 rfl (lv_at hl 4 rfl) ?_
        refine lv_iconst (v := 0) hx hb dX8_readStall_111 (by decide) ?_
        refine lv_bipush (v := 20) hx hb dX8_readStall_112 (by decide) ?_
        refine hg_viF (r := (mk_number (cr_g C g n) 0 20).1) (As := [.int (0), .int (20)]) (rest := []) X w (c_X8_number l D b0 L f oa (cr_g C g n) mr im mk ad n g hm hs ho 0 20) (cwV 2 hts gX8_readStall_X8_number rfl rfl rfl hdX8_number ⟨Nat.le_of_ble_eq_true rfl, Nat.le_of_ble_eq_true rfl⟩) (ho.1 2 (by decide)).1 (ow_at ho (k := 2) (by decide)) rfl rfl rfl hl.1 rfl (Nat.le_of_ble_eq_true rfl) dX8_readStall_114 ⟨Nat.zero_le _, Nat.zero_le _⟩ (fun H locs w => ?_)
        have w : hg_W D b0 L (ob_W D f oa ((cr_h C g n).2) mr im mk ad n g) s.heap H locs := w
        refine lv_istore (lv' := [(6, .int ((cr_h C g n).1)), (5, .int ((cr_e C g).1)), (4, .int ((cr_d C g) 24 0)), (3, .int ((cr_c C g).1)), (2, .int ((cr_k C))), (0, .ref (oa 2)), (1, .ref mk)]) hx hb dX8_readStall_117 hl (by decide) rfl (fun ls hl => ?_)
        refine lv_aload_n hx hb dX8_readStall_119 rfl (lv_at hl 5 rfl) ?_
        refine lv_bipush (v := 59) hx hb dX8_readStall_120 (by decide) ?_
        refine hg_vvF (As := [.int (59)]) (rest := []) X w (c_X8_pass l D b0 L f oa ((cr_h C g n).2) mr im mk ad n g hm hs ho 59) (cwV 1 hts gX8_readStall_X8_pass rfl rfl rfl hdX8_pass ⟨Nat.le_of_ble_eq_true rfl, Nat.le_of_ble_eq_true rfl⟩) (ho.1 2 (by decide)).1 (ow_at ho (k := 2) (by decide)) rfl rfl rfl hl.1 rfl (Nat.le_of_ble_eq_true rfl) dX8_readStall_122 ⟨Nat.zero_le _, Nat.zero_le _⟩ (fun H locs w => ?_)
        have w : hg_W D b0 L (ob_W D f oa (cr_s C g n) mr im mk ad n g) s.heap H locs := w
        refine lv_aload_n hx hb dX8_readStall_125 rfl (lv_at hl 5 rfl) ?_
        refine ob_get X w ho 2 (by decide) (C0 := RX8) (T := TX8) (N := 5) (ci := 6) rfl hin8 rfl 3 (by decide) (List.mem_of_getElem? (i := 5) rfl) rfl rfl dX8_readStall_126 ?_
        refine lv_if_ne (tgt := 145) hx hb dX8_readStall_129 (by decide) (fun c_129 => ?_) (fun c_129 => ?_)
        · refine W.widen (k := 1) (n := 7) (by omega) (by omega) ?_
          exact hend H locs (L, ob_W D f oa (cr_s C g n) mr im mk ad n g) _ ls w (Or.inr ⟨c_129, rfl⟩) dX8_readStall_145
        · refine lv_aload_n hx hb dX8_readStall_132 rfl (lv_at hl 6 rfl) ?_
          refine lv_iload_n hx hb dX8_readStall_133 rfl (lv_at hl 4 rfl) ?_
          have hS : cr_s C g n 25 0 = 0 := c_129
          have hK := cr_s_k hS
          refine hg_sq (As := [.int ((cr_k C))]) (rest := [.ref mk]) X w (c_X6_ofKind l D b0 L (ob_W D f oa (cr_s C g n) mr im mk ad n g) (cr_k C) (cr_kv hK.1)) (va_cwS 1 hts gX8_readStall_X6_ofKind rfl rfl rfl hdX6_ofKind ⟨Nat.le_of_ble_eq_true rfl, Nat.le_of_ble_eq_true rfl⟩) rfl hl.1 rfl (Nat.le_of_ble_eq_true rfl) dX8_readStall_134 ⟨(Nat.le_of_ble_eq_true rfl), (Nat.le_of_ble_eq_true rfl)⟩ (fun v0 u0 H locs hp w => ?_)
          obtain ⟨q, rfl, hq, rfl⟩ := hp
          refine (show W p l e _ s m args below meth c H locs _ _ Q (F0 m 137 ls [.ref q, .ref mk]) from ?_)
          refine lv_iload_n hx hb dX8_readStall_137 rfl (lv_at hl 3 rfl) ?_
          refine lv_iload hx hb dX8_readStall_138 (lv_at hl 1 rfl) ?_
          refine lv_iload hx hb dX8_readStall_140 (lv_at hl 0 rfl) ?_
          have hn6 : n < 6 := by
            have h6 := hs.2.1
            rcases Nat.lt_or_ge n 6 with z | z
            · exact z
            · exact absurd (by rw [hs.1, show n = 6 by omega]; rfl) hK.2.1
          have hmq : mk ≠ q := fun z => hq (by rw [← z]; exact hm.1)
          refine hg_vv (As := [.ref q, .int ((cr_c C g).1), .int ((cr_e C g).1), .int ((cr_h C g n).1)]) (rest := []) X w (c_X3_addStall l D b0 L (ob_F D f oa (cr_s C g n) mr im) mk ad n g hm hs q hq hn6 hs.1 (cr_k C) ((cr_c C g).1) ((cr_e C g).1) ((cr_h C g n).1)) (cwV 4 hts gX8_readStall_X3_addStall rfl rfl rfl hdX3_addStall ⟨Nat.le_of_ble_eq_true rfl, Nat.le_of_ble_eq_true rfl⟩) (List.mem_append_left _ hm.1) ((va_up_ne _ _ hmq).trans (mk_at0 D _ mk ad n g)) rfl rfl rfl hl.1 rfl (Nat.le_of_ble_eq_true rfl) dX8_readStall_142 ⟨(Nat.le_of_ble_eq_true rfl), (Nat.le_of_ble_eq_true rfl)⟩ (fun u H locs hp w => ?_)
          subst hp
          exact hend H locs (L ++ [q], ob_W D f oa (cr_s C g n) mr im mk (va_up ad (2 + n) q) (n + 1) (mk_as g n (cr_k C) (cr_c C g).1 (cr_e C g).1 (cr_h C g n).1)) _ ls w (Or.inl ⟨hS, q, hq, rfl⟩) dX8_readStall_145
      · have hjq91 : jq91 < n := mk_std_lt hq91
        refine lv_ifnull hx hb dX8_readStall_94 ?_
        refine lv_aload_n hx hb dX8_readStall_97 rfl (lv_at hl 4 rfl) ?_
        refine lv_iconst (v := 2) hx hb dX8_readStall_98 (by decide) ?_
        refine lv_iload hx hb dX8_readStall_99 (lv_at hl 1 rfl) ?_
        refine hg_vvF (As := [.int (2), .int ((cr_d C g) 24 0)]) (rest := []) X w (c_X8_tellFault l D b0 L f oa ((cr_e C g).2) mr im mk ad n g hm hs ho 2 ((cr_d C g) 24 0)) (cwV 2 hts gX8_readStall_X8_tellFault rfl rfl rfl hdX8_tellFault ⟨Nat.le_of_ble_eq_true rfl, Nat.le_of_ble_eq_true rfl⟩) (ho.1 2 (by decide)).1 (ow_at ho (k := 2) (by decide)) rfl rfl rfl hl.1 rfl (Nat.le_of_ble_eq_true rfl) dX8_readStall_101 ⟨Nat.zero_le _, Nat.zero_le _⟩ (fun H locs w => ?_)
        have eF : cr_f C g n = (mk_tf ((cr_e C g).2) 2 ((cr_d C g) 24 0)) := by
          unfold cr_f
          rw [if_neg (show ¬ mk_std g (cr_c C g).1 (cr_e C g).1 n = none by rw [hq91]; exact fun q => nomatch q)]
        have w : hg_W D b0 L (ob_W D f oa (cr_f C g n) mr im mk ad n g) s.heap H locs := by rw [eF]; exact w
        refine lv_aload_n hx hb dX8_readStall_104 rfl (lv_at hl 4 rfl) ?_
        refine lv_bipush (v := 44) hx hb dX8_readStall_105 (by decide) ?_
        refine hg_vvF (As := [.int (44)]) (rest := []) X w (c_X8_pass l D b0 L f oa (cr_f C g n) mr im mk ad n g hm hs ho 44) (cwV 1 hts gX8_readStall_X8_pass rfl rfl rfl hdX8_pass ⟨Nat.le_of_ble_eq_true rfl, Nat.le_of_ble_eq_true rfl⟩) (ho.1 2 (by decide)).1 (ow_at ho (k := 2) (by decide)) rfl rfl rfl hl.1 rfl (Nat.le_of_ble_eq_true rfl) dX8_readStall_107 ⟨Nat.zero_le _, Nat.zero_le _⟩ (fun H locs w => ?_)
        have w : hg_W D b0 L (ob_W D f oa (cr_g C g n) mr im mk ad n g) s.heap H locs := w
        refine lv_aload_n hx hb dX8_readStall_110 rfl (lv_at hl 4 rfl) ?_
        refine lv_iconst (v := 0) hx hb dX8_readStall_111 (by decide) ?_
        refine lv_bipush (v := 20) hx hb dX8_readStall_112 (by decide) ?_
        refine hg_viF (r := (mk_number (cr_g C g n) 0 20).1) (As := [.int (0), .int (20)]) (rest := []) X w (c_X8_number l D b0 L f oa (cr_g C g n) mr im mk ad n g hm hs ho 0 20) (cwV 2 hts gX8_readStall_X8_number rfl rfl rfl hdX8_number ⟨Nat.le_of_ble_eq_true rfl, Nat.le_of_ble_eq_true rfl⟩) (ho.1 2 (by decide)).1 (ow_at ho (k := 2) (by decide)) rfl rfl rfl hl.1 rfl (Nat.le_of_ble_eq_true rfl) dX8_readStall_114 ⟨Nat.zero_le _, Nat.zero_le _⟩ (fun H locs w => ?_)
        have w : hg_W D b0 L (ob_W D f oa ((cr_h C g n).2) mr im mk ad n g) s.heap H locs := w
        refine lv_istore (lv' := [(6, .int ((cr_h C g n).1)), (5, .int ((cr_e C g).1)), (4, .int ((cr_d C g) 24 0)), (3, .int ((cr_c C g).1)), (2, .int ((cr_k C))), (0, .ref (oa 2)), (1, .ref mk)]) hx hb dX8_readStall_117 hl (by decide) rfl (fun ls hl => ?_)
        refine lv_aload_n hx hb dX8_readStall_119 rfl (lv_at hl 5 rfl) ?_
        refine lv_bipush (v := 59) hx hb dX8_readStall_120 (by decide) ?_
        refine hg_vvF (As := [.int (59)]) (rest := []) X w (c_X8_pass l D b0 L f oa ((cr_h C g n).2) mr im mk ad n g hm hs ho 59) (cwV 1 hts gX8_readStall_X8_pass rfl rfl rfl hdX8_pass ⟨Nat.le_of_ble_eq_true rfl, Nat.le_of_ble_eq_true rfl⟩) (ho.1 2 (by decide)).1 (ow_at ho (k := 2) (by decide)) rfl rfl rfl hl.1 rfl (Nat.le_of_ble_eq_true rfl) dX8_readStall_122 ⟨Nat.zero_le _, Nat.zero_le _⟩ (fun H locs w => ?_)
        have w : hg_W D b0 L (ob_W D f oa (cr_s C g n) mr im mk ad n g) s.heap H locs := w
        refine lv_aload_n hx hb dX8_readStall_125 rfl (lv_at hl 5 rfl) ?_
        refine ob_get X w ho 2 (by decide) (C0 := RX8) (T := TX8) (N := 5) (ci := 6) rfl hin8 rfl 3 (by decide) (List.mem_of_getElem? (i := 5) rfl) rfl rfl dX8_readStall_126 ?_
        refine lv_if_ne (tgt := 145) hx hb dX8_readStall_129 (by decide) (fun c_129 => ?_) (fun c_129 => ?_)
        · refine W.widen (k := 1) (n := 7) (by omega) (by omega) ?_
          exact hend H locs (L, ob_W D f oa (cr_s C g n) mr im mk ad n g) _ ls w (Or.inr ⟨c_129, rfl⟩) dX8_readStall_145
        · refine lv_aload_n hx hb dX8_readStall_132 rfl (lv_at hl 6 rfl) ?_
          refine lv_iload_n hx hb dX8_readStall_133 rfl (lv_at hl 4 rfl) ?_
          have hS : cr_s C g n 25 0 = 0 := c_129
          have hK := cr_s_k hS
          refine hg_sq (As := [.int ((cr_k C))]) (rest := [.ref mk]) X w (c_X6_ofKind l D b0 L (ob_W D f oa (cr_s C g n) mr im mk ad n g) (cr_k C) (cr_kv hK.1)) (va_cwS 1 hts gX8_readStall_X6_ofKind rfl rfl rfl hdX6_ofKind ⟨Nat.le_of_ble_eq_true rfl, Nat.le_of_ble_eq_true rfl⟩) rfl hl.1 rfl (Nat.le_of_ble_eq_true rfl) dX8_readStall_134 ⟨(Nat.le_of_ble_eq_true rfl), (Nat.le_of_ble_eq_true rfl)⟩ (fun v0 u0 H locs hp w => ?_)
          obtain ⟨q, rfl, hq, rfl⟩ := hp
          refine (show W p l e _ s m args below meth c H locs _ _ Q (F0 m 137 ls [.ref q, .ref mk]) from ?_)
          refine lv_iload_n hx hb dX8_readStall_137 rfl (lv_at hl 3 rfl) ?_
          refine lv_iload hx hb dX8_readStall_138 (lv_at hl 1 rfl) ?_
          refine lv_iload hx hb dX8_readStall_140 (lv_at hl 0 rfl) ?_
          have hn6 : n < 6 := by
            have h6 := hs.2.1
            rcases Nat.lt_or_ge n 6 with z | z
            · exact z
            · exact absurd (by rw [hs.1, show n = 6 by omega]; rfl) hK.2.1
          have hmq : mk ≠ q := fun z => hq (by rw [← z]; exact hm.1)
          refine hg_vv (As := [.ref q, .int ((cr_c C g).1), .int ((cr_e C g).1), .int ((cr_h C g n).1)]) (rest := []) X w (c_X3_addStall l D b0 L (ob_F D f oa (cr_s C g n) mr im) mk ad n g hm hs q hq hn6 hs.1 (cr_k C) ((cr_c C g).1) ((cr_e C g).1) ((cr_h C g n).1)) (cwV 4 hts gX8_readStall_X3_addStall rfl rfl rfl hdX3_addStall ⟨Nat.le_of_ble_eq_true rfl, Nat.le_of_ble_eq_true rfl⟩) (List.mem_append_left _ hm.1) ((va_up_ne _ _ hmq).trans (mk_at0 D _ mk ad n g)) rfl rfl rfl hl.1 rfl (Nat.le_of_ble_eq_true rfl) dX8_readStall_142 ⟨(Nat.le_of_ble_eq_true rfl), (Nat.le_of_ble_eq_true rfl)⟩ (fun u H locs hp w => ?_)
          subst hp
          exact hend H locs (L ++ [q], ob_W D f oa (cr_s C g n) mr im mk (va_up ad (2 + n) q) (n + 1) (mk_as g n (cr_k C) (cr_c C g).1 (cr_e C g).1 (cr_h C g n).1)) _ ls w (Or.inl ⟨hS, q, hq, rfl⟩) dX8_readStall_145
  · refine lv_aload_n hx hb dX8_readStall_14 rfl (lv_at hl 1 rfl) ?_
    refine lv_iconst (v := 1) hx hb dX8_readStall_15 (by decide) ?_
    refine lv_aload_n hx hb dX8_readStall_16 rfl (lv_at hl 1 rfl) ?_
    refine ob_get X w ho 2 (by decide) (C0 := RX8) (T := TX8) (N := 5) (ci := 6) rfl hin8 rfl 2 (by decide) (List.mem_of_getElem? (i := 2) rfl) rfl rfl dX8_readStall_17 ?_
    refine hg_vvF (As := [.int (1), .int (C 24 0)]) (rest := []) X w (c_X8_tellFault l D b0 L f oa C mr im mk ad n g hm hs ho 1 (C 24 0)) (cwV 2 hts gX8_readStall_X8_tellFault rfl rfl rfl hdX8_tellFault ⟨Nat.le_of_ble_eq_true rfl, Nat.le_of_ble_eq_true rfl⟩) (ho.1 2 (by decide)).1 (ow_at ho (k := 2) (by decide)) rfl rfl rfl hl.1 rfl (Nat.le_of_ble_eq_true rfl) dX8_readStall_20 ⟨Nat.zero_le _, Nat.zero_le _⟩ (fun H locs w => ?_)
    refine lv_goto (tgt := 44) hx hb dX8_readStall_23 (by decide) ?_
    refine lv_aload_n hx hb dX8_readStall_44 rfl (lv_at hl 1 rfl) ?_
    refine lv_dup hx hb dX8_readStall_45 rfl ?_
    refine ob_get X w ho 2 (by decide) (C0 := RX8) (T := TX8) (N := 5) (ci := 6) rfl hin8 rfl 2 (by decide) (List.mem_of_getElem? (i := 2) rfl) rfl rfl dX8_readStall_46 ?_
    refine lv_iconst (v := 1) hx hb dX8_readStall_49 (by decide) ?_
    refine lv_iadd hx hb dX8_readStall_50 ?_
    refine ob_put X w ho 2 (by decide) (C0 := RX8) (T := TX8) (N := 5) (ci := 6) rfl hin8 tyX8_ok nmX8 rfl 2 (by decide) (List.mem_of_getElem? (i := 2) rfl) rfl rfl rfl (by show _ < 5; decide) 24 0 rfl (ob_o0 _ _ (by decide) 0) dX8_readStall_51 (fun H locs w => ?_)
    have eC : (mo_w (mk_tf C 1 (C 24 0)) 24 0 (((mk_tf C 1 (C 24 0)) 24 0 + 1))) = cr_b C g := by
      unfold cr_b cr_a cr_k
      rw [if_pos c_11]
    rw [eC] at w
    refine lv_aload_n hx hb dX8_readStall_54 rfl (lv_at hl 1 rfl) ?_
    refine lv_iconst (v := 0) hx hb dX8_readStall_55 (by decide) ?_
    refine lv_aload_n hx hb dX8_readStall_56 rfl (lv_at hl 2 rfl) ?_
    refine mk_getM X w hm hin3 2 (by decide) (List.mem_of_getElem? (i := 4) rfl) rfl dX8_readStall_57 ?_
    refine lv_iconst (v := 1) hx hb dX8_readStall_60 (by decide) ?_
    refine lv_isub hx hb dX8_readStall_61 ?_
    refine hg_viF (r := (mk_number (cr_b C g) 0 (g 2 - 1)).1) (As := [.int (0), .int ((g 2 - 1))]) (rest := []) X w (c_X8_number l D b0 L f oa (cr_b C g) mr im mk ad n g hm hs ho 0 (g 2 - 1)) (cwV 2 hts gX8_readStall_X8_number rfl rfl rfl hdX8_number ⟨Nat.le_of_ble_eq_true rfl, Nat.le_of_ble_eq_true rfl⟩) (ho.1 2 (by decide)).1 (ow_at ho (k := 2) (by decide)) rfl rfl rfl hl.1 rfl (Nat.le_of_ble_eq_true rfl) dX8_readStall_62 ⟨Nat.zero_le _, Nat.zero_le _⟩ (fun H locs w => ?_)
    have w : hg_W D b0 L (ob_W D f oa ((cr_c C g).2) mr im mk ad n g) s.heap H locs := w
    refine lv_istore_n (lv' := [(3, .int ((cr_c C g).1)), (2, .int ((cr_k C))), (0, .ref (oa 2)), (1, .ref mk)]) hx hb dX8_readStall_65 rfl hl (by decide) rfl (fun ls hl => ?_)
    refine lv_aload_n hx hb dX8_readStall_66 rfl (lv_at hl 2 rfl) ?_
    refine lv_bipush (v := 44) hx hb dX8_readStall_67 (by decide) ?_
    refine hg_vvF (As := [.int (44)]) (rest := []) X w (c_X8_pass l D b0 L f oa ((cr_c C g).2) mr im mk ad n g hm hs ho 44) (cwV 1 hts gX8_readStall_X8_pass rfl rfl rfl hdX8_pass ⟨Nat.le_of_ble_eq_true rfl, Nat.le_of_ble_eq_true rfl⟩) (ho.1 2 (by decide)).1 (ow_at ho (k := 2) (by decide)) rfl rfl rfl hl.1 rfl (Nat.le_of_ble_eq_true rfl) dX8_readStall_69 ⟨Nat.zero_le _, Nat.zero_le _⟩ (fun H locs w => ?_)
    have w : hg_W D b0 L (ob_W D f oa (cr_d C g) mr im mk ad n g) s.heap H locs := w
    refine lv_aload_n hx hb dX8_readStall_72 rfl (lv_at hl 2 rfl) ?_
    refine ob_get X w ho 2 (by decide) (C0 := RX8) (T := TX8) (N := 5) (ci := 6) rfl hin8 rfl 2 (by decide) (List.mem_of_getElem? (i := 2) rfl) rfl rfl dX8_readStall_73 ?_
    refine lv_istore (lv' := [(4, .int ((cr_d C g) 24 0)), (3, .int ((cr_c C g).1)), (2, .int ((cr_k C))), (0, .ref (oa 2)), (1, .ref mk)]) hx hb dX8_readStall_76 hl (by decide) rfl (fun ls hl => ?_)
    refine lv_aload_n hx hb dX8_readStall_78 rfl (lv_at hl 3 rfl) ?_
    refine lv_iconst (v := 1) hx hb dX8_readStall_79 (by decide) ?_
    refine lv_bipush (v := 8) hx hb dX8_readStall_80 (by decide) ?_
    refine hg_viF (r := (mk_number (cr_d C g) 1 8).1) (As := [.int (1), .int (8)]) (rest := []) X w (c_X8_number l D b0 L f oa (cr_d C g) mr im mk ad n g hm hs ho 1 8) (cwV 2 hts gX8_readStall_X8_number rfl rfl rfl hdX8_number ⟨Nat.le_of_ble_eq_true rfl, Nat.le_of_ble_eq_true rfl⟩) (ho.1 2 (by decide)).1 (ow_at ho (k := 2) (by decide)) rfl rfl rfl hl.1 rfl (Nat.le_of_ble_eq_true rfl) dX8_readStall_82 ⟨Nat.zero_le _, Nat.zero_le _⟩ (fun H locs w => ?_)
    have w : hg_W D b0 L (ob_W D f oa ((cr_e C g).2) mr im mk ad n g) s.heap H locs := w
    refine lv_istore (lv' := [(5, .int ((cr_e C g).1)), (4, .int ((cr_d C g) 24 0)), (3, .int ((cr_c C g).1)), (2, .int ((cr_k C))), (0, .ref (oa 2)), (1, .ref mk)]) hx hb dX8_readStall_85 hl (by decide) rfl (fun ls hl => ?_)
    refine lv_aload_n hx hb dX8_readStall_87 rfl (lv_at hl 5 rfl) ?_
    refine lv_iload_n hx hb dX8_readStall_88 rfl (lv_at hl 2 rfl) ?_
    refine lv_iload hx hb dX8_readStall_89 (lv_at hl 0 rfl) ?_
    refine hg_vqF (r := (mk_std g ((cr_c C g).1) ((cr_e C g).1) n).map (fun j => ad (2 + j))) (As := [.int ((cr_c C g).1), .int ((cr_e C g).1)]) (rest := []) X w (c_X3_standing l D b0 L (ob_F D f oa ((cr_e C g).2) mr im) mk ad n g hm hs ((cr_c C g).1) ((cr_e C g).1)) (cwV 2 hts gX8_readStall_X3_standing rfl rfl rfl hdX3_standing ⟨Nat.le_of_ble_eq_true rfl, Nat.le_of_ble_eq_true rfl⟩) (hm.1) (mk_at0 D _ mk ad n _) rfl rfl rfl hl.1 rfl (Nat.le_of_ble_eq_true rfl) dX8_readStall_91 ⟨Nat.zero_le _, Nat.zero_le _⟩ (fun H locs w => ?_)
    refine mk_qk (ad := ad) (fun hq91 => ?_) (fun jq91 hq91 => ?_)
    · refine lv_ifnullN (tgt := 104) hx hb dX8_readStall_94 (by decide) ?_
      have eF : cr_f C g n = (cr_e C g).2 := by
        unfold cr_f
        rw [if_pos hq91]
      have w : hg_W D b0 L (ob_W D f oa (cr_f C g n) mr im mk ad n g) s.heap H locs := by rw [eF]; exact w
      refine lv_aload_n hx hb dX8_readStall_104 rfl (lv_at hl 4 rfl) ?_
      refine lv_bipush (v := 44) hx hb dX8_readStall_105 (by decide) ?_
      refine hg_vvF (As := [.int (44)]) (rest := []) X w (c_X8_pass l D b0 L f oa (cr_f C g n) mr im mk ad n g hm hs ho 44) (cwV 1 hts gX8_readStall_X8_pass rfl rfl rfl hdX8_pass ⟨Nat.le_of_ble_eq_true rfl, Nat.le_of_ble_eq_true rfl⟩) (ho.1 2 (by decide)).1 (ow_at ho (k := 2) (by decide)) rfl rfl rfl hl.1 rfl (Nat.le_of_ble_eq_true rfl) dX8_readStall_107 ⟨Nat.zero_le _, Nat.zero_le _⟩ (fun H locs w => ?_)
      have w : hg_W D b0 L (ob_W D f oa (cr_g C g n) mr im mk ad n g) s.heap H locs := w
      refine lv_aload_n hx hb dX8_readStall_110 rfl (lv_at hl 4 rfl) ?_
      refine lv_iconst (v := 0) hx hb dX8_readStall_111 (by decide) ?_
      refine lv_bipush (v := 20) hx hb dX8_readStall_112 (by decide) ?_
      refine hg_viF (r := (mk_number (cr_g C g n) 0 20).1) (As := [.int (0), .int (20)]) (rest := []) X w (c_X8_number l D b0 L f oa (cr_g C g n) mr im mk ad n g hm hs ho 0 20) (cwV 2 hts gX8_readStall_X8_number rfl rfl rfl hdX8_number ⟨Nat.le_of_ble_eq_true rfl, Nat.le_of_ble_eq_true rfl⟩) (ho.1 2 (by decide)).1 (ow_at ho (k := 2) (by decide)) rfl rfl rfl hl.1 rfl (Nat.le_of_ble_eq_true rfl) dX8_readStall_114 ⟨Nat.zero_le _, Nat.zero_le _⟩ (fun H locs w => ?_)
      have w : hg_W D b0 L (ob_W D f oa ((cr_h C g n).2) mr im mk ad n g) s.heap H locs := w
      refine lv_istore (lv' := [(6, .int ((cr_h C g n).1)), (5, .int ((cr_e C g).1)), (4, .int ((cr_d C g) 24 0)), (3, .int ((cr_c C g).1)), (2, .int ((cr_k C))), (0, .ref (oa 2)), (1, .ref mk)]) hx hb dX8_readStall_117 hl (by decide) rfl (fun ls hl => ?_)
      refine lv_aload_n hx hb dX8_readStall_119 rfl (lv_at hl 5 rfl) ?_
      refine lv_bipush (v := 59) hx hb dX8_readStall_120 (by decide) ?_
      refine hg_vvF (As := [.int (59)]) (rest := []) X w (c_X8_pass l D b0 L f oa ((cr_h C g n).2) mr im mk ad n g hm hs ho 59) (cwV 1 hts gX8_readStall_X8_pass rfl rfl rfl hdX8_pass ⟨Nat.le_of_ble_eq_true rfl, Nat.le_of_ble_eq_true rfl⟩) (ho.1 2 (by decide)).1 (ow_at ho (k := 2) (by decide)) rfl rfl rfl hl.1 rfl (Nat.le_of_ble_eq_true rfl) dX8_readStall_122 ⟨Nat.zero_le _, Nat.zero_le _⟩ (fun H locs w => ?_)
      have w : hg_W D b0 L (ob_W D f oa (cr_s C g n) mr im mk ad n g) s.heap H locs := w
      refine lv_aload_n hx hb dX8_readStall_125 rfl (lv_at hl 5 rfl) ?_
      refine ob_get X w ho 2 (by decide) (C0 := RX8) (T := TX8) (N := 5) (ci := 6) rfl hin8 rfl 3 (by decide) (List.mem_of_getElem? (i := 5) rfl) rfl rfl dX8_readStall_126 ?_
      refine lv_if_ne (tgt := 145) hx hb dX8_readStall_129 (by decide) (fun c_129 => ?_) (fun c_129 => ?_)
      · refine W.widen (k := 1) (n := 7) (by omega) (by omega) ?_
        exact hend H locs (L, ob_W D f oa (cr_s C g n) mr im mk ad n g) _ ls w (Or.inr ⟨c_129, rfl⟩) dX8_readStall_145
      · refine lv_aload_n hx hb dX8_readStall_132 rfl (lv_at hl 6 rfl) ?_
        refine lv_iload_n hx hb dX8_readStall_133 rfl (lv_at hl 4 rfl) ?_
        have hS : cr_s C g n 25 0 = 0 := c_129
        have hK := cr_s_k hS
        refine hg_sq (As := [.int ((cr_k C))]) (rest := [.ref mk]) X w (c_X6_ofKind l D b0 L (ob_W D f oa (cr_s C g n) mr im mk ad n g) (cr_k C) (cr_kv hK.1)) (va_cwS 1 hts gX8_readStall_X6_ofKind rfl rfl rfl hdX6_ofKind ⟨Nat.le_of_ble_eq_true rfl, Nat.le_of_ble_eq_true rfl⟩) rfl hl.1 rfl (Nat.le_of_ble_eq_true rfl) dX8_readStall_134 ⟨(Nat.le_of_ble_eq_true rfl), (Nat.le_of_ble_eq_true rfl)⟩ (fun v0 u0 H locs hp w => ?_)
        obtain ⟨q, rfl, hq, rfl⟩ := hp
        refine (show W p l e _ s m args below meth c H locs _ _ Q (F0 m 137 ls [.ref q, .ref mk]) from ?_)
        refine lv_iload_n hx hb dX8_readStall_137 rfl (lv_at hl 3 rfl) ?_
        refine lv_iload hx hb dX8_readStall_138 (lv_at hl 1 rfl) ?_
        refine lv_iload hx hb dX8_readStall_140 (lv_at hl 0 rfl) ?_
        have hn6 : n < 6 := by
          have h6 := hs.2.1
          rcases Nat.lt_or_ge n 6 with z | z
          · exact z
          · exact absurd (by rw [hs.1, show n = 6 by omega]; rfl) hK.2.1
        have hmq : mk ≠ q := fun z => hq (by rw [← z]; exact hm.1)
        refine hg_vv (As := [.ref q, .int ((cr_c C g).1), .int ((cr_e C g).1), .int ((cr_h C g n).1)]) (rest := []) X w (c_X3_addStall l D b0 L (ob_F D f oa (cr_s C g n) mr im) mk ad n g hm hs q hq hn6 hs.1 (cr_k C) ((cr_c C g).1) ((cr_e C g).1) ((cr_h C g n).1)) (cwV 4 hts gX8_readStall_X3_addStall rfl rfl rfl hdX3_addStall ⟨Nat.le_of_ble_eq_true rfl, Nat.le_of_ble_eq_true rfl⟩) (List.mem_append_left _ hm.1) ((va_up_ne _ _ hmq).trans (mk_at0 D _ mk ad n g)) rfl rfl rfl hl.1 rfl (Nat.le_of_ble_eq_true rfl) dX8_readStall_142 ⟨(Nat.le_of_ble_eq_true rfl), (Nat.le_of_ble_eq_true rfl)⟩ (fun u H locs hp w => ?_)
        subst hp
        exact hend H locs (L ++ [q], ob_W D f oa (cr_s C g n) mr im mk (va_up ad (2 + n) q) (n + 1) (mk_as g n (cr_k C) (cr_c C g).1 (cr_e C g).1 (cr_h C g n).1)) _ ls w (Or.inl ⟨hS, q, hq, rfl⟩) dX8_readStall_145
    · have hjq91 : jq91 < n := mk_std_lt hq91
      refine lv_ifnull hx hb dX8_readStall_94 ?_
      refine lv_aload_n hx hb dX8_readStall_97 rfl (lv_at hl 4 rfl) ?_
      refine lv_iconst (v := 2) hx hb dX8_readStall_98 (by decide) ?_
      refine lv_iload hx hb dX8_readStall_99 (lv_at hl 1 rfl) ?_
      refine hg_vvF (As := [.int (2), .int ((cr_d C g) 24 0)]) (rest := []) X w (c_X8_tellFault l D b0 L f oa ((cr_e C g).2) mr im mk ad n g hm hs ho 2 ((cr_d C g) 24 0)) (cwV 2 hts gX8_readStall_X8_tellFault rfl rfl rfl hdX8_tellFault ⟨Nat.le_of_ble_eq_true rfl, Nat.le_of_ble_eq_true rfl⟩) (ho.1 2 (by decide)).1 (ow_at ho (k := 2) (by decide)) rfl rfl rfl hl.1 rfl (Nat.le_of_ble_eq_true rfl) dX8_readStall_101 ⟨Nat.zero_le _, Nat.zero_le _⟩ (fun H locs w => ?_)
      have eF : cr_f C g n = (mk_tf ((cr_e C g).2) 2 ((cr_d C g) 24 0)) := by
        unfold cr_f
        rw [if_neg (show ¬ mk_std g (cr_c C g).1 (cr_e C g).1 n = none by rw [hq91]; exact fun q => nomatch q)]
      have w : hg_W D b0 L (ob_W D f oa (cr_f C g n) mr im mk ad n g) s.heap H locs := by rw [eF]; exact w
      refine lv_aload_n hx hb dX8_readStall_104 rfl (lv_at hl 4 rfl) ?_
      refine lv_bipush (v := 44) hx hb dX8_readStall_105 (by decide) ?_
      refine hg_vvF (As := [.int (44)]) (rest := []) X w (c_X8_pass l D b0 L f oa (cr_f C g n) mr im mk ad n g hm hs ho 44) (cwV 1 hts gX8_readStall_X8_pass rfl rfl rfl hdX8_pass ⟨Nat.le_of_ble_eq_true rfl, Nat.le_of_ble_eq_true rfl⟩) (ho.1 2 (by decide)).1 (ow_at ho (k := 2) (by decide)) rfl rfl rfl hl.1 rfl (Nat.le_of_ble_eq_true rfl) dX8_readStall_107 ⟨Nat.zero_le _, Nat.zero_le _⟩ (fun H locs w => ?_)
      have w : hg_W D b0 L (ob_W D f oa (cr_g C g n) mr im mk ad n g) s.heap H locs := w
      refine lv_aload_n hx hb dX8_readStall_110 rfl (lv_at hl 4 rfl) ?_
      refine lv_iconst (v := 0) hx hb dX8_readStall_111 (by decide) ?_
      refine lv_bipush (v := 20) hx hb dX8_readStall_112 (by decide) ?_
      refine hg_viF (r := (mk_number (cr_g C g n) 0 20).1) (As := [.int (0), .int (20)]) (rest := []) X w (c_X8_number l D b0 L f oa (cr_g C g n) mr im mk ad n g hm hs ho 0 20) (cwV 2 hts gX8_readStall_X8_number rfl rfl rfl hdX8_number ⟨Nat.le_of_ble_eq_true rfl, Nat.le_of_ble_eq_true rfl⟩) (ho.1 2 (by decide)).1 (ow_at ho (k := 2) (by decide)) rfl rfl rfl hl.1 rfl (Nat.le_of_ble_eq_true rfl) dX8_readStall_114 ⟨Nat.zero_le _, Nat.zero_le _⟩ (fun H locs w => ?_)
      have w : hg_W D b0 L (ob_W D f oa ((cr_h C g n).2) mr im mk ad n g) s.heap H locs := w
      refine lv_istore (lv' := [(6, .int ((cr_h C g n).1)), (5, .int ((cr_e C g).1)), (4, .int ((cr_d C g) 24 0)), (3, .int ((cr_c C g).1)), (2, .int ((cr_k C))), (0, .ref (oa 2)), (1, .ref mk)]) hx hb dX8_readStall_117 hl (by decide) rfl (fun ls hl => ?_)
      refine lv_aload_n hx hb dX8_readStall_119 rfl (lv_at hl 5 rfl) ?_
      refine lv_bipush (v := 59) hx hb dX8_readStall_120 (by decide) ?_
      refine hg_vvF (As := [.int (59)]) (rest := []) X w (c_X8_pass l D b0 L f oa ((cr_h C g n).2) mr im mk ad n g hm hs ho 59) (cwV 1 hts gX8_readStall_X8_pass rfl rfl rfl hdX8_pass ⟨Nat.le_of_ble_eq_true rfl, Nat.le_of_ble_eq_true rfl⟩) (ho.1 2 (by decide)).1 (ow_at ho (k := 2) (by decide)) rfl rfl rfl hl.1 rfl (Nat.le_of_ble_eq_true rfl) dX8_readStall_122 ⟨Nat.zero_le _, Nat.zero_le _⟩ (fun H locs w => ?_)
      have w : hg_W D b0 L (ob_W D f oa (cr_s C g n) mr im mk ad n g) s.heap H locs := w
      refine lv_aload_n hx hb dX8_readStall_125 rfl (lv_at hl 5 rfl) ?_
      refine ob_get X w ho 2 (by decide) (C0 := RX8) (T := TX8) (N := 5) (ci := 6) rfl hin8 rfl 3 (by decide) (List.mem_of_getElem? (i := 5) rfl) rfl rfl dX8_readStall_126 ?_
      refine lv_if_ne (tgt := 145) hx hb dX8_readStall_129 (by decide) (fun c_129 => ?_) (fun c_129 => ?_)
      · refine W.widen (k := 1) (n := 7) (by omega) (by omega) ?_
        exact hend H locs (L, ob_W D f oa (cr_s C g n) mr im mk ad n g) _ ls w (Or.inr ⟨c_129, rfl⟩) dX8_readStall_145
      · refine lv_aload_n hx hb dX8_readStall_132 rfl (lv_at hl 6 rfl) ?_
        refine lv_iload_n hx hb dX8_readStall_133 rfl (lv_at hl 4 rfl) ?_
        have hS : cr_s C g n 25 0 = 0 := c_129
        have hK := cr_s_k hS
        refine hg_sq (As := [.int ((cr_k C))]) (rest := [.ref mk]) X w (c_X6_ofKind l D b0 L (ob_W D f oa (cr_s C g n) mr im mk ad n g) (cr_k C) (cr_kv hK.1)) (va_cwS 1 hts gX8_readStall_X6_ofKind rfl rfl rfl hdX6_ofKind ⟨Nat.le_of_ble_eq_true rfl, Nat.le_of_ble_eq_true rfl⟩) rfl hl.1 rfl (Nat.le_of_ble_eq_true rfl) dX8_readStall_134 ⟨(Nat.le_of_ble_eq_true rfl), (Nat.le_of_ble_eq_true rfl)⟩ (fun v0 u0 H locs hp w => ?_)
        obtain ⟨q, rfl, hq, rfl⟩ := hp
        refine (show W p l e _ s m args below meth c H locs _ _ Q (F0 m 137 ls [.ref q, .ref mk]) from ?_)
        refine lv_iload_n hx hb dX8_readStall_137 rfl (lv_at hl 3 rfl) ?_
        refine lv_iload hx hb dX8_readStall_138 (lv_at hl 1 rfl) ?_
        refine lv_iload hx hb dX8_readStall_140 (lv_at hl 0 rfl) ?_
        have hn6 : n < 6 := by
          have h6 := hs.2.1
          rcases Nat.lt_or_ge n 6 with z | z
          · exact z
          · exact absurd (by rw [hs.1, show n = 6 by omega]; rfl) hK.2.1
        have hmq : mk ≠ q := fun z => hq (by rw [← z]; exact hm.1)
        refine hg_vv (As := [.ref q, .int ((cr_c C g).1), .int ((cr_e C g).1), .int ((cr_h C g n).1)]) (rest := []) X w (c_X3_addStall l D b0 L (ob_F D f oa (cr_s C g n) mr im) mk ad n g hm hs q hq hn6 hs.1 (cr_k C) ((cr_c C g).1) ((cr_e C g).1) ((cr_h C g n).1)) (cwV 4 hts gX8_readStall_X3_addStall rfl rfl rfl hdX3_addStall ⟨Nat.le_of_ble_eq_true rfl, Nat.le_of_ble_eq_true rfl⟩) (List.mem_append_left _ hm.1) ((va_up_ne _ _ hmq).trans (mk_at0 D _ mk ad n g)) rfl rfl rfl hl.1 rfl (Nat.le_of_ble_eq_true rfl) dX8_readStall_142 ⟨(Nat.le_of_ble_eq_true rfl), (Nat.le_of_ble_eq_true rfl)⟩ (fun u H locs hp w => ?_)
        subst hp
        exact hend H locs (L ++ [q], ob_W D f oa (cr_s C g n) mr im mk (va_up ad (2 + n) q) (n + 1) (mk_as g n (cr_k C) (cr_c C g).1 (cr_e C g).1 (cr_h C g n).1)) _ ls w (Or.inl ⟨hS, q, hq, rfl⟩) dX8_readStall_145
set_option maxRecDepth 100000 in
set_option maxHeartbeats 4000000 in
theorem c_X1_afterWind (l : Launch) (D : va_G) (b0 : Nat) (L : List Nat) (f : Nat → va_E) (mk : Nat) (ad : Nat → Nat) (n : Nat) (g : Nat → Int32) (hm : mk_ok L mk ad n) (hs : mk_sr g n) (nr : Nat) (ht : mk_t g nr) (h : Nat) (hh : h ≤ 40) (seed rope : Int32) : hg_Mi l yX1_afterWind wsX1_afterWind ({ frames := 5, cells := 1, slots := 3, locals := 114 }) D b0 L (mk_F D f mk ad n g) [.ref mk, .int (nI h), .int (seed), .int (rope)] (fun v u => v = (if rope < 0 ∨ 3 ≤ rope then (hs_wh g n nr seed.toInt64 h).2.2 else (hs_wh g n nr seed.toInt64 h).1 (5 + rope.toNatClampNeg)) ∧ ∃ q, q ∉ L ∧ u = (L ++ [q], mk_F D (va_up f q (.inl (D.1 11, 3, .inl (mk_ta g)))) mk ad n g)) 1 3 := by
  refine hg_in_i (cc := cX1_afterWind) (nL := 10) (by decide) rfl (Nat.le_of_ble_eq_true rfl) (fun p e s m args below meth c R Q X hR hend H locs ls w hl => ?_)
  subst hR
  obtain ⟨hx, hb, hml, hown, hts⟩ := id X.1
  have hin : mk_in wsX1_afterWind := ⟨fun w h => List.mem_cons_of_mem _ (List.mem_append_left _ (List.mem_append_left _ (List.mem_append_left _ (List.mem_append_left _ (List.mem_append_right _ h))))), fun w h => List.mem_cons_of_mem _ (List.mem_append_left _ (List.mem_append_left _ (List.mem_append_left _ (List.mem_append_right _ h)))), fun w h => List.mem_cons_of_mem _ (List.mem_append_left _ (List.mem_append_left _ (List.mem_append_right _ h))), fun w h => List.mem_cons_of_mem _ (List.mem_append_left _ (List.mem_append_right _ h)), fun w h => List.mem_cons_of_mem _ (List.mem_append_right _ h)⟩
  have hin3 : ∀ w ∈ wsX30, w ∈ wsX1_afterWind := fun w h => List.mem_cons_of_mem _ (List.mem_append_left _ (List.mem_append_left _ (List.mem_append_left _ (List.mem_append_left _ (List.mem_append_left _ (List.mem_append_right _ h))))))
  have hl : lv_has ls 10 [(0, .ref mk), (1, .int (nI h)), (2, .int (seed)), (3, .int (rope))] := hl
  have hnr3 := ht.2.1
  refine lv_aload_n hx hb dX1_afterWind_0 rfl (lv_at hl 0 rfl) ?_
  refine mk_getM X w hm hin3 4 (by decide) (List.mem_of_getElem? (i := 1) rfl) rfl dX1_afterWind_1 ?_
  refine hg_clone X w (hm.2.1 0 (by omega)).1 (mk_atk hm D f g (k := 0) (by omega)) (List.mem_of_getElem? (i := 2) rfl) (List.mem_of_getElem? (i := 3) rfl) (List.mem_of_getElem? (i := 4) rfl) (List.mem_of_getElem? (i := 5) rfl) (List.mem_of_getElem? (i := 6) rfl) hl.1 (Nat.le_of_ble_eq_true rfl) (Nat.le_of_ble_eq_true rfl) (Nat.le_of_ble_eq_true rfl) (Nat.le_of_ble_eq_true rfl) dX1_afterWind_4 (fun q H hq w => ?_)
  refine (show W p l e _ s m args below meth c H locs 1 3 Q (F0 m 7 ls [.ref q]) from ?_)
  refine hg_castI X w (List.mem_append_right _ (List.mem_of_getElem? (i := 0) rfl)) (va_up_self _ _ _) (List.mem_of_getElem? (i := 7) rfl) dX1_afterWind_7 ?_
  refine lv_astore (lv' := [(4, .ref q), (0, .ref mk), (1, .int (nI h)), (2, .int (seed)), (3, .int (rope))]) hx hb dX1_afterWind_10 hl (by decide) rfl (fun ls hl => ?_)
  refine lv_iload_n hx hb dX1_afterWind_12 rfl (lv_at hl 3 rfl) ?_
  refine lv_i2l hx hb dX1_afterWind_13 rfl ?_
  refine lv_lstore (lv' := [(5, .long ((seed).toInt64)), (4, .ref q), (0, .ref mk), (1, .int (nI h)), (2, .int (seed)), (3, .int (rope))]) hx hb dX1_afterWind_14 hl (by decide) rfl (fun ls hl => ?_)
  refine lv_iconst (v := 0) hx hb dX1_afterWind_16 (by decide) ?_
  refine lv_istore (lv' := [(7, .int (0)), (5, .long ((seed).toInt64)), (4, .ref q), (0, .ref mk), (1, .int (nI h)), (2, .int (seed)), (3, .int (rope))]) hx hb dX1_afterWind_17 hl (by decide) rfl (fun ls hl => ?_)
  refine lv_iconst (v := 0) hx hb dX1_afterWind_19 (by decide) ?_
  refine lv_istore (lv' := [(8, .int (0)), (7, .int (0)), (5, .long ((seed).toInt64)), (4, .ref q), (0, .ref mk), (1, .int (nI h)), (2, .int (seed)), (3, .int (rope))]) hx hb dX1_afterWind_20 hl (by decide) rfl (fun ls hl => ?_)
  have w : hg_W D b0 (L ++ [q]) (mk_F D (va_up f q (.inl (D.1 11, 3, .inl (mk_ta g)))) mk ad n g) s.heap H locs := by
    rw [← mk_upo (fun e => hq (by rw [e]; exact hm.1)) (fun j hj e => hq (by rw [← e]; exact (hm.2.1 j hj).1))]
    exact w
  have hm0 := hm
  have hm := mk_ok_mono (N := [q]) hm
  have hqf : mk_F D (va_up f q (.inl (D.1 11, 3, .inl (mk_ta g)))) mk ad n g q = .inl (D.1 11, 3, .inl (mk_ta g)) := by
    rw [mk_out (fun e => hq (by rw [e]; exact hm0.1)) (fun j hj e => hq (by rw [← e]; exact (hm0.2.1 j hj).1)), va_up_self]
  have loop : ∀ (n0 k : Nat), k ≤ h → h + 1 ≤ k + n0 → ∀ (G : Nat → Int32) (x : Int64) (hrs : Int32), hs_wh g n nr seed.toInt64 k = (G, x, hrs) → ∀ (H : Heap) (locs : List Loc) (ls : Array Slot), hg_W D b0 (L ++ [q]) (mk_F D (va_up f q (.inl (D.1 11, 3, .inl (mk_ta g)))) mk ad n G) s.heap H locs → lv_has ls 10 [(0, .ref mk), (1, .int (nI h)), (2, .int (seed)), (3, .int (rope)), (4, .ref q), (5, .long (x)), (7, .int (hrs)), (8, .int (nI k))] → W p l e ({ frames := 5, cells := 1, slots := 3, locals := 114 }) s m args below meth c H locs 1 3 Q (F0 m 22 ls []) := by
    intro n0
    induction n0 with
    | zero =>
      intro k h1 h2
      exact absurd h2 (by omega)
    | succ n0 ih =>
      intro k hk hn0 G x hrs hW H locs ls w hl
      have htG : mk_t G nr := by have z := ag_wh_t (n := n) (x := seed.toInt64) ht k; rw [hW] at z; exact z
      have hne : ∀ j, j < 5 ∨ 8 ≤ j → G j = g j := by
        intro j hj
        have z := hs_wh_ne (g := g) (n := n) (nr := nr) (x := seed.toInt64) hnr3 j hj k
        rw [hW] at z
        exact z
      have hsG : mk_sr G n := ag_sr_57 hne hs
      refine lv_iload hx hb dX1_afterWind_22 (lv_at hl 7 rfl) ?_
      refine lv_iload_n hx hb dX1_afterWind_24 rfl (lv_at hl 1 rfl) ?_
      refine lv_icmp_ge (tgt := 115) hx hb dX1_afterWind_25 (by decide) (fun c_25 => ?_) (fun c_25 => ?_)
      · have hk : h = k := by
          rcases Nat.lt_or_ge k h with q | q
          · exact absurd c_25 (nI_ge (a := k) (b := h) q (by omega))
          · omega
        subst hk
        refine lv_iload_n hx hb dX1_afterWind_115 rfl (lv_at hl 3 rfl) ?_
        refine lv_if_lt (tgt := 133) hx hb dX1_afterWind_116 (by decide) (fun c_116 => ?_) (fun c_116 => ?_)
        · refine lv_iload hx hb dX1_afterWind_133 (lv_at hl 6 rfl) ?_
          refine lv_istore (lv' := [(8, .int (hrs)), (0, .ref mk), (1, .int (nI h)), (2, .int (seed)), (3, .int (rope)), (4, .ref q), (5, .long (x)), (7, .int (hrs))]) hx hb dX1_afterWind_135 hl (by decide) rfl (fun ls hl => ?_)
          refine lv_aload hx hb dX1_afterWind_137 (lv_at hl 5 rfl) ?_
          refine lv_iconst (v := 0) hx hb dX1_afterWind_139 (by decide) ?_
          refine lv_aload_n hx hb dX1_afterWind_140 rfl (lv_at hl 1 rfl) ?_
          refine mk_getM X w hm hin3 4 (by decide) (List.mem_of_getElem? (i := 1) rfl) rfl dX1_afterWind_141 ?_
          refine lv_iconst (v := 0) hx hb dX1_afterWind_144 (by decide) ?_
          refine lv_iconst (v := 3) hx hb dX1_afterWind_145 (by decide) ?_
          have hqG : mk_F D (va_up f q (.inl (D.1 11, 3, .inl (mk_ta g)))) mk ad n G q = .inl (D.1 11, 3, .inl (mk_ta g)) := by
            rw [mk_out (fun e => hq (by rw [e]; exact hm0.1)) (fun j hj e => hq (by rw [← e]; exact (hm0.2.1 j hj).1)), va_up_self]
          refine hg_copyi X w (List.mem_append_right _ (List.mem_of_getElem? (i := 0) rfl)) hqG (hm.2.1 0 (by omega)).1 (mk_atk hm D _ _ (k := 0) (by omega)) 0 0 3 rfl rfl rfl (by decide) (by decide) (by decide) (by decide) (List.mem_of_getElem? (i := 13) rfl) (List.mem_of_getElem? (i := 14) rfl) (List.mem_of_getElem? (i := 15) rfl) (List.mem_of_getElem? (i := 16) rfl) hl.1 (Nat.le_of_ble_eq_true rfl) (Nat.le_of_ble_eq_true rfl) dX1_afterWind_146 (fun H locs w => ?_)
          rw [mk_back hm hne] at w
          refine lv_iload hx hb dX1_afterWind_149 (lv_at hl 0 rfl) ?_
          exact hend H locs (hrs) (L ++ [q], mk_F D (va_up f q (.inl (D.1 11, 3, .inl (mk_ta g)))) mk ad n g) _ ls w ⟨(by rw [if_pos (Or.inl c_116), hW]), q, hq, rfl⟩ rfl dX1_afterWind_151
        · refine lv_iload_n hx hb dX1_afterWind_119 rfl (lv_at hl 3 rfl) ?_
          refine lv_iconst (v := 3) hx hb dX1_afterWind_120 (by decide) ?_
          refine lv_icmp_ge (tgt := 133) hx hb dX1_afterWind_121 (by decide) (fun c_121 => ?_) (fun c_121 => ?_)
          · refine lv_iload hx hb dX1_afterWind_133 (lv_at hl 6 rfl) ?_
            refine lv_istore (lv' := [(8, .int (hrs)), (0, .ref mk), (1, .int (nI h)), (2, .int (seed)), (3, .int (rope)), (4, .ref q), (5, .long (x)), (7, .int (hrs))]) hx hb dX1_afterWind_135 hl (by decide) rfl (fun ls hl => ?_)
            refine lv_aload hx hb dX1_afterWind_137 (lv_at hl 5 rfl) ?_
            refine lv_iconst (v := 0) hx hb dX1_afterWind_139 (by decide) ?_
            refine lv_aload_n hx hb dX1_afterWind_140 rfl (lv_at hl 1 rfl) ?_
            refine mk_getM X w hm hin3 4 (by decide) (List.mem_of_getElem? (i := 1) rfl) rfl dX1_afterWind_141 ?_
            refine lv_iconst (v := 0) hx hb dX1_afterWind_144 (by decide) ?_
            refine lv_iconst (v := 3) hx hb dX1_afterWind_145 (by decide) ?_
            have hqG : mk_F D (va_up f q (.inl (D.1 11, 3, .inl (mk_ta g)))) mk ad n G q = .inl (D.1 11, 3, .inl (mk_ta g)) := by
              rw [mk_out (fun e => hq (by rw [e]; exact hm0.1)) (fun j hj e => hq (by rw [← e]; exact (hm0.2.1 j hj).1)), va_up_self]
            refine hg_copyi X w (List.mem_append_right _ (List.mem_of_getElem? (i := 0) rfl)) hqG (hm.2.1 0 (by omega)).1 (mk_atk hm D _ _ (k := 0) (by omega)) 0 0 3 rfl rfl rfl (by decide) (by decide) (by decide) (by decide) (List.mem_of_getElem? (i := 13) rfl) (List.mem_of_getElem? (i := 14) rfl) (List.mem_of_getElem? (i := 15) rfl) (List.mem_of_getElem? (i := 16) rfl) hl.1 (Nat.le_of_ble_eq_true rfl) (Nat.le_of_ble_eq_true rfl) dX1_afterWind_146 (fun H locs w => ?_)
            rw [mk_back hm hne] at w
            refine lv_iload hx hb dX1_afterWind_149 (lv_at hl 0 rfl) ?_
            exact hend H locs (hrs) (L ++ [q], mk_F D (va_up f q (.inl (D.1 11, 3, .inl (mk_ta g)))) mk ad n g) _ ls w ⟨(by rw [if_pos (Or.inr c_121), hW]), q, hq, rfl⟩ rfl dX1_afterWind_151
          · obtain ⟨r, hr2, rfl⟩ := nI_of c_116
            have hr3 : r < 3 := by
              rcases Nat.lt_or_ge r 3 with z | z
              · exact z
              · exact absurd (nI_le (a := 3) (b := r) z (by omega)) c_121
            refine lv_aload_n hx hb dX1_afterWind_124 rfl (lv_at hl 0 rfl) ?_
            refine mk_getM X w hm hin3 4 (by decide) (List.mem_of_getElem? (i := 1) rfl) rfl dX1_afterWind_125 ?_
            refine lv_iload_n hx hb dX1_afterWind_128 rfl (lv_at hl 3 rfl) ?_
            refine mk_taut X w hm r rfl (by omega) dX1_afterWind_129 ?_
            refine lv_goto (tgt := 135) hx hb dX1_afterWind_130 (by decide) ?_
            refine lv_istore (lv' := [(8, .int (G (5 + r))), (0, .ref mk), (1, .int (nI h)), (2, .int (seed)), (3, .int (nI r)), (4, .ref q), (5, .long (x)), (7, .int (hrs))]) hx hb dX1_afterWind_135 hl (by decide) rfl (fun ls hl => ?_)
            refine lv_aload hx hb dX1_afterWind_137 (lv_at hl 5 rfl) ?_
            refine lv_iconst (v := 0) hx hb dX1_afterWind_139 (by decide) ?_
            refine lv_aload_n hx hb dX1_afterWind_140 rfl (lv_at hl 1 rfl) ?_
            refine mk_getM X w hm hin3 4 (by decide) (List.mem_of_getElem? (i := 1) rfl) rfl dX1_afterWind_141 ?_
            refine lv_iconst (v := 0) hx hb dX1_afterWind_144 (by decide) ?_
            refine lv_iconst (v := 3) hx hb dX1_afterWind_145 (by decide) ?_
            have hqG : mk_F D (va_up f q (.inl (D.1 11, 3, .inl (mk_ta g)))) mk ad n G q = .inl (D.1 11, 3, .inl (mk_ta g)) := by
              rw [mk_out (fun e => hq (by rw [e]; exact hm0.1)) (fun j hj e => hq (by rw [← e]; exact (hm0.2.1 j hj).1)), va_up_self]
            refine hg_copyi X w (List.mem_append_right _ (List.mem_of_getElem? (i := 0) rfl)) hqG (hm.2.1 0 (by omega)).1 (mk_atk hm D _ _ (k := 0) (by omega)) 0 0 3 rfl rfl rfl (by decide) (by decide) (by decide) (by decide) (List.mem_of_getElem? (i := 13) rfl) (List.mem_of_getElem? (i := 14) rfl) (List.mem_of_getElem? (i := 15) rfl) (List.mem_of_getElem? (i := 16) rfl) hl.1 (Nat.le_of_ble_eq_true rfl) (Nat.le_of_ble_eq_true rfl) dX1_afterWind_146 (fun H locs w => ?_)
            rw [mk_back hm hne] at w
            refine lv_iload hx hb dX1_afterWind_149 (lv_at hl 0 rfl) ?_
            exact hend H locs (G (5 + r)) (L ++ [q], mk_F D (va_up f q (.inl (D.1 11, 3, .inl (mk_ta g)))) mk ad n g) _ ls w ⟨(by rw [if_neg (fun z => z.elim c_116 c_121), hW]; rw [nI_clamp (by omega)]), q, hq, rfl⟩ rfl dX1_afterWind_151
      · have hkl : k < h := by
          rcases Nat.lt_or_ge k h with q | q
          · exact q
          · exact absurd (nI_le (a := h) (b := k) q (by omega)) c_25
        refine lv_iconst (v := 0) hx hb dX1_afterWind_28 (by decide) ?_
        refine lv_istore (lv' := [(9, .int (0)), (0, .ref mk), (1, .int (nI h)), (2, .int (seed)), (3, .int (rope)), (4, .ref q), (5, .long (x)), (7, .int (hrs)), (8, .int (nI k))]) hx hb dX1_afterWind_29 hl (by decide) rfl (fun ls hl => ?_)
        have loop2 : ∀ (n0 k2 : Nat), k2 ≤ nr → nr + 1 ≤ k2 + n0 → ∀ (G2 : Nat → Int32) (x2 : Int64), hs_wr G x k2 = (G2, x2) → ∀ (H : Heap) (locs : List Loc) (ls : Array Slot), hg_W D b0 (L ++ [q]) (mk_F D (va_up f q (.inl (D.1 11, 3, .inl (mk_ta g)))) mk ad n G2) s.heap H locs → lv_has ls 10 [(0, .ref mk), (1, .int (nI h)), (2, .int (seed)), (3, .int (rope)), (4, .ref q), (5, .long (x2)), (7, .int (hrs)), (8, .int (nI k)), (9, .int (nI k2))] → W p l e ({ frames := 5, cells := 1, slots := 3, locals := 114 }) s m args below meth c H locs 1 3 Q (F0 m 31 ls []) := by
          intro n0
          induction n0 with
          | zero =>
            intro k2 h1 h2
            exact absurd h2 (by omega)
          | succ n0 ih2 =>
            intro k2 hk2 hn2 G2 x2 hW2 H locs ls w hl
            have htG2 : mk_t G2 nr := by have z := ag_wr_t (x := x) htG k2 hk2; rw [hW2] at z; exact z
            have hne2 : ∀ j, j < 5 ∨ 8 ≤ j → G2 j = G j := by
              intro j hj
              have z := hs_wr_ne (g := G) (x := x) j hj k2 (by omega)
              rw [hW2] at z
              exact z
            have hsG2 : mk_sr G2 n := ag_sr_57 hne2 hsG
            refine lv_iload hx hb dX1_afterWind_31 (lv_at hl 8 rfl) ?_
            refine lv_aload_n hx hb dX1_afterWind_33 rfl (lv_at hl 0 rfl) ?_
            refine mk_getM X w hm hin3 2 (by decide) (List.mem_of_getElem? (i := 8) rfl) rfl dX1_afterWind_34 ?_
            refine lv_icmp_ge (tgt := 97) hx hb dX1_afterWind_37 (by decide) (fun c_37 => ?_) (fun c_37 => ?_)
            · rw [htG2.1] at c_37
              have hk2 : nr = k2 := by
                rcases Nat.lt_or_ge k2 nr with q | q
                · exact absurd c_37 (nI_ge (a := k2) (b := nr) q (by omega))
                · omega
              subst hk2
              refine lv_aload_n hx hb dX1_afterWind_97 rfl (lv_at hl 0 rfl) ?_
              refine hg_viF (r := (mk_fd G2 n n)) (As := []) (rest := []) X w (c_X3_firstDropping l D b0 (L ++ [q]) (va_up f q (.inl (D.1 11, 3, .inl (mk_ta g)))) mk ad n G2 hm hsG2 nr htG2) (cwV 0 hts gX1_afterWind_X3_firstDropping rfl rfl rfl hdX3_firstDropping ⟨Nat.le_of_ble_eq_true rfl, Nat.le_of_ble_eq_true rfl⟩) hm.1 (mk_at0 D _ mk ad n _) rfl rfl rfl hl.1 rfl (Nat.le_of_ble_eq_true rfl) dX1_afterWind_98 ⟨Nat.zero_le _, Nat.zero_le _⟩ (fun H locs w => ?_)
              refine lv_ldc (v := (-1000000)) hx hb hown (hts _ (List.mem_of_getElem? (i := 12) rfl)) dX1_afterWind_101 ?_
              refine lv_icmp_ne (tgt := 109) hx hb dX1_afterWind_103 (by decide) (fun c_103 => ?_) (fun c_103 => ?_)
              · refine lv_iinc (v := nI k + 1) (lv' := [(8, .int (nI k + 1)), (0, .ref mk), (1, .int (nI h)), (2, .int (seed)), (3, .int (rope)), (4, .ref q), (5, .long (x2)), (7, .int (hrs)), (9, .int (nI nr))]) hx hb dX1_afterWind_109 hl (k := 7) rfl rfl (by decide) rfl (fun ls hl => ?_)
                refine lv_goto (tgt := 22) hx hb dX1_afterWind_112 (by decide) ?_
                have hl := hs_lv hl (k := 0) rfl (nI_1 k)
                exact ih (k + 1) (by omega) (by omega) G2 x2 hrs (by simp only [hs_wh, hW, hW2]; rw [if_neg (fun z => c_103 ((ag_fd0 hs.2.1).mpr z))]; simp) H locs ls w (lv_sub hl [1, 2, 3, 4, 5, 6, 7, 0] rfl)
              · refine lv_iinc (v := hrs + 1) (lv' := [(7, .int (hrs + 1)), (0, .ref mk), (1, .int (nI h)), (2, .int (seed)), (3, .int (rope)), (4, .ref q), (5, .long (x2)), (8, .int (nI k)), (9, .int (nI nr))]) hx hb dX1_afterWind_106 hl (k := 6) rfl rfl (by decide) rfl (fun ls hl => ?_)
                refine lv_iinc (v := nI k + 1) (lv' := [(8, .int (nI k + 1)), (7, .int (hrs + 1)), (0, .ref mk), (1, .int (nI h)), (2, .int (seed)), (3, .int (rope)), (4, .ref q), (5, .long (x2)), (9, .int (nI nr))]) hx hb dX1_afterWind_109 hl (k := 7) rfl rfl (by decide) rfl (fun ls hl => ?_)
                refine lv_goto (tgt := 22) hx hb dX1_afterWind_112 (by decide) ?_
                have hl := hs_lv hl (k := 0) rfl (nI_1 k)
                exact ih (k + 1) (by omega) (by omega) G2 x2 (hrs + 1) (by simp only [hs_wh, hW, hW2]; rw [if_pos ((ag_fd0 hs.2.1).mp c_103)]) H locs ls w (lv_sub hl [2, 3, 4, 5, 6, 7, 1, 0] rfl)
            · rw [htG2.1] at c_37
              have hk2l : k2 < nr := by
                rcases Nat.lt_or_ge k2 nr with q | q
                · exact q
                · exact absurd (nI_le (a := nr) (b := k2) q (by omega)) c_37
              refine lv_iload hx hb dX1_afterWind_40 (lv_at hl 8 rfl) ?_
              refine lv_iconst (v := 3) hx hb dX1_afterWind_42 (by decide) ?_
              refine lv_icmp_ge (tgt := 97) hx hb dX1_afterWind_43 (by decide) (fun c_43 => ?_) (fun c_43 => ?_)
              · exact absurd c_43 (nI_ge (a := k2) (b := 3) (by omega) (by decide))
              · refine lv_lload hx hb dX1_afterWind_46 (lv_at hl 5 rfl) ?_
                refine lv_ldc2 (v := 16807) hx hb hown (hts _ (List.mem_of_getElem? (i := 9) rfl)) dX1_afterWind_48 ?_
                refine lv_lmul hx hb dX1_afterWind_51 ?_
                refine lv_ldc2 (v := 2147483647) hx hb hown (hts _ (List.mem_of_getElem? (i := 10) rfl)) dX1_afterWind_52 ?_
                refine lv_lrem hx hb dX1_afterWind_55 (by decide) ?_
                refine lv_lstore (lv' := [(5, .long (((x2 * 16807) - (x2 * 16807) / 2147483647 * 2147483647))), (0, .ref mk), (1, .int (nI h)), (2, .int (seed)), (3, .int (rope)), (4, .ref q), (7, .int (hrs)), (8, .int (nI k)), (9, .int (nI k2))]) hx hb dX1_afterWind_56 hl (by decide) rfl (fun ls hl => ?_)
                refine lv_lload hx hb dX1_afterWind_58 (lv_at hl 0 rfl) ?_
                refine lv_ldc2 (v := 20) hx hb hown (hts _ (List.mem_of_getElem? (i := 11) rfl)) dX1_afterWind_60 ?_
                refine lv_lrem hx hb dX1_afterWind_63 (by decide) ?_
                refine lv_lconst (v := 0) hx hb dX1_afterWind_64 (by decide) ?_
                refine W.lcmp hx hb dX1_afterWind_65 ?_
                refine lv_if_ne (tgt := 91) hx hb dX1_afterWind_66 (by decide) (fun c_66 => ?_) (fun c_66 => ?_)
                · refine lv_iinc (v := nI k2 + 1) (lv' := [(9, .int (nI k2 + 1)), (5, .long (((x2 * 16807) - (x2 * 16807) / 2147483647 * 2147483647))), (0, .ref mk), (1, .int (nI h)), (2, .int (seed)), (3, .int (rope)), (4, .ref q), (7, .int (hrs)), (8, .int (nI k))]) hx hb dX1_afterWind_91 hl (k := 8) rfl rfl (by decide) rfl (fun ls hl => ?_)
                  refine lv_goto (tgt := 31) hx hb dX1_afterWind_94 (by decide) ?_
                  have hl := hs_lv hl (k := 0) rfl (nI_1 k2)
                  exact ih2 (k2 + 1) (by omega) (by omega) G2 (hs_wx x2) (ag_wr_n hW2 (fun z => c_66 ((lg_cmp_eq _ _).mpr z.1))) H locs ls w (lv_sub hl [2, 3, 4, 5, 6, 1, 7, 8, 0] rfl)
                · refine lv_aload_n hx hb dX1_afterWind_69 rfl (lv_at hl 1 rfl) ?_
                  refine mk_getM X w hm hin3 4 (by decide) (List.mem_of_getElem? (i := 1) rfl) rfl dX1_afterWind_70 ?_
                  refine lv_iload hx hb dX1_afterWind_73 (lv_at hl 8 rfl) ?_
                  refine mk_taut X w hm k2 rfl (by omega) dX1_afterWind_75 ?_
                  refine lv_iconst (v := 1) hx hb dX1_afterWind_76 (by decide) ?_
                  refine lv_icmp_le (tgt := 91) hx hb dX1_afterWind_77 (by decide) (fun c_77 => ?_) (fun c_77 => ?_)
                  · refine lv_iinc (v := nI k2 + 1) (lv' := [(9, .int (nI k2 + 1)), (5, .long (((x2 * 16807) - (x2 * 16807) / 2147483647 * 2147483647))), (0, .ref mk), (1, .int (nI h)), (2, .int (seed)), (3, .int (rope)), (4, .ref q), (7, .int (hrs)), (8, .int (nI k))]) hx hb dX1_afterWind_91 hl (k := 8) rfl rfl (by decide) rfl (fun ls hl => ?_)
                    refine lv_goto (tgt := 31) hx hb dX1_afterWind_94 (by decide) ?_
                    have hl := hs_lv hl (k := 0) rfl (nI_1 k2)
                    exact ih2 (k2 + 1) (by omega) (by omega) G2 (hs_wx x2) (ag_wr_n hW2 (fun z => absurd z.2 (hs_nlt c_77))) H locs ls w (lv_sub hl [2, 3, 4, 5, 6, 1, 7, 8, 0] rfl)
                  · refine lv_aload_n hx hb dX1_afterWind_80 rfl (lv_at hl 1 rfl) ?_
                    refine mk_getM X w hm hin3 4 (by decide) (List.mem_of_getElem? (i := 1) rfl) rfl dX1_afterWind_81 ?_
                    refine lv_iload hx hb dX1_afterWind_84 (lv_at hl 8 rfl) ?_
                    refine lv_dup2_11 hx hb dX1_afterWind_86 rfl rfl ?_
                    refine mk_taut X w hm k2 rfl (by omega) dX1_afterWind_87 ?_
                    refine lv_iconst (v := 1) hx hb dX1_afterWind_88 (by decide) ?_
                    refine lv_isub hx hb dX1_afterWind_89 ?_
                    refine mk_tast X w hm k2 rfl (by omega) dX1_afterWind_90 (fun H locs w => ?_)
                    refine lv_iinc (v := nI k2 + 1) (lv' := [(9, .int (nI k2 + 1)), (5, .long (((x2 * 16807) - (x2 * 16807) / 2147483647 * 2147483647))), (0, .ref mk), (1, .int (nI h)), (2, .int (seed)), (3, .int (rope)), (4, .ref q), (7, .int (hrs)), (8, .int (nI k))]) hx hb dX1_afterWind_91 hl (k := 8) rfl rfl (by decide) rfl (fun ls hl => ?_)
                    refine lv_goto (tgt := 31) hx hb dX1_afterWind_94 (by decide) ?_
                    have hl := hs_lv hl (k := 0) rfl (nI_1 k2)
                    exact ih2 (k2 + 1) (by omega) (by omega) (va_up G2 (5 + k2) (G2 (5 + k2) - 1)) (hs_wx x2) (ag_wr_y hW2 ((lg_cmp_eq _ _).mp c_66) (hs_lt c_77)) H locs ls w (lv_sub hl [2, 3, 4, 5, 6, 1, 7, 8, 0] rfl)
        exact loop2 (nr + 1) 0 (by omega) (by omega) G x rfl H locs ls w (lv_sub hl [1, 2, 3, 4, 5, 6, 7, 8, 0] rfl)
  exact loop (h + 1) 0 (by omega) (by omega) g seed.toInt64 0 rfl H locs ls w (lv_sub hl [4, 5, 6, 7, 3, 2, 1, 0] rfl)
set_option maxRecDepth 100000 in
set_option maxHeartbeats 4000000 in
theorem c_X12_init (l : Launch) (D : va_G) (b0 : Nat) (L : List Nat) (f : Nat → va_E) (a : Nat) (ha : a ∈ L) (hf : f a = .inr (10, [.null, .int 0, .null, .null, .null, .null, .null, .int 0, .null, .int 0, .int 0, .int 0, .int 0, .int 0, .int 0, .null, .int 0, .null, .int 0])) : hg_Mv l yX12_init wsX12_init ({ frames := 1, cells := 9, slots := 1958, locals := 12 }) D b0 L (f) [.ref a] (fun u => ∃ ma N, (∀ b ∈ N, b ∉ L) ∧ mo_ok (L ++ N) a ma ∧ u = (L ++ N, mo_F D f a ma mo_M0)) 9 1958 := by
  refine hg_in_v (cc := cX12_init) (nL := 2) (by decide) rfl (Nat.le_of_ble_eq_true rfl) (fun p e s m args below meth c R Q X hname hR hend H locs ls w hl => ?_)
  subst hR
  obtain ⟨hx, hb, hml, hown, hts⟩ := id X.1
  have hin12 : ∀ w ∈ wsX120, w ∈ wsX12_init := fun w h => List.mem_cons_of_mem _ (List.mem_append_right _ h)
  have hl : lv_has ls 2 [(0, .ref a)] := hl
  have hnd : [a].Nodup := by simp
  have w : hg_W D b0 (L ++ []) (al_F f [(a, .inr (10, [.null, .int 0, .null, .null, .null, .null, .null, .int 0, .null, .int 0, .int 0, .int 0, .int 0, .int 0, .int 0, .null, .int 0, .null, .int 0]))]) s.heap H locs := al_start hf w
  refine lv_aload_n hx hb dX12_init_0 rfl (lv_at hl 0 rfl) ?_
  refine W.objInit hx hb hown (hts _ (List.mem_of_getElem? (i := 1) rfl)) (hts _ (List.mem_of_getElem? (i := 2) rfl)) (hts _ (List.mem_of_getElem? (i := 3) rfl)) rfl (by rw [hml]; exact hl.1) rfl dX12_init_1 (Nat.le_of_ble_eq_true rfl) (Nat.le_of_ble_eq_true rfl) ?_
  refine lv_aload_n hx hb dX12_init_4 rfl (lv_at hl 0 rfl) ?_
  refine lv_sipush (v := 1400) hx hb dX12_init_5 (by decide) ?_
  refine hg_newI2 X w 1400 rfl (by decide) (List.mem_of_getElem? (i := 4) rfl) (Nat.le_of_ble_eq_true rfl) (Nat.le_of_ble_eq_true rfl) dX12_init_8 (fun q1 H hq1 w => ?_)
  have hnd0 := hnd
  have w : hg_W D b0 (L ++ [q1]) (al_F f [(a, .inr (10, [.null, .int 0, .null, .null, .null, .null, .null, .int 0, .null, .int 0, .int 0, .int 0, .int 0, .int 0, .int 0, .null, .int 0, .null, .int 0])), (q1, .inl (D.1 11, 1400, .inl (fun _ => 0)))]) s.heap H locs := al_grow w (al_notin ha hq1)
  have hnd : [a, q1].Nodup := al_nd hnd0 ha hq1
  refine al_putF (C := RX12) (T := TX12) (N0 := 19) (ci := 10) (ty0 := tyX12) X w hname (List.mem_append_left _ ha) (al_atK hnd (k := 0) (by rfl) (by rfl)) hin12 tyX12_ok nmX12 rfl 0 (by decide) (List.mem_of_getElem? (i := 5) rfl) rfl rfl rfl rfl (by show _ < 19; decide) dX12_init_10 (fun H locs w => ?_)
  have w : hg_W D b0 (L ++ [q1]) (al_F f [(a, .inr (10, [.ref q1, .int 0, .null, .null, .null, .null, .null, .int 0, .null, .int 0, .int 0, .int 0, .int 0, .int 0, .int 0, .null, .int 0, .null, .int 0])), (q1, .inl (D.1 11, 1400, .inl (fun _ => 0)))]) s.heap H locs := al_chgK hnd (k := 0) w (by rfl) (by rfl)
  refine lv_aload_n hx hb dX12_init_13 rfl (lv_at hl 0 rfl) ?_
  refine lv_iconst (v := 2) hx hb dX12_init_14 (by decide) ?_
  refine hg_newZ X w 2 rfl (by decide) (List.mem_of_getElem? (i := 6) rfl) (Nat.le_of_ble_eq_true rfl) (Nat.le_of_ble_eq_true rfl) dX12_init_15 (fun q2 H hq2 w => ?_)
  have hnd0 := hnd
  have w : hg_W D b0 (L ++ [q1, q2]) (al_F f [(a, .inr (10, [.ref q1, .int 0, .null, .null, .null, .null, .null, .int 0, .null, .int 0, .int 0, .int 0, .int 0, .int 0, .int 0, .null, .int 0, .null, .int 0])), (q1, .inl (D.1 11, 1400, .inl (fun _ => 0))), (q2, .inl (D.1 12, 2, .inl (fun _ => 0)))]) s.heap H locs := al_grow w (al_notin ha hq2)
  have hnd : [a, q1, q2].Nodup := al_nd hnd0 ha hq2
  refine al_putF (C := RX12) (T := TX12) (N0 := 19) (ci := 10) (ty0 := tyX12) X w hname (List.mem_append_left _ ha) (al_atK hnd (k := 0) (by rfl) (by rfl)) hin12 tyX12_ok nmX12 rfl 2 (by decide) (List.mem_of_getElem? (i := 7) rfl) rfl rfl rfl rfl (by show _ < 19; decide) dX12_init_17 (fun H locs w => ?_)
  have w : hg_W D b0 (L ++ [q1, q2]) (al_F f [(a, .inr (10, [.ref q1, .int 0, .ref q2, .null, .null, .null, .null, .int 0, .null, .int 0, .int 0, .int 0, .int 0, .int 0, .int 0, .null, .int 0, .null, .int 0])), (q1, .inl (D.1 11, 1400, .inl (fun _ => 0))), (q2, .inl (D.1 12, 2, .inl (fun _ => 0)))]) s.heap H locs := al_chgK hnd (k := 0) w (by rfl) (by rfl)
  refine lv_aload_n hx hb dX12_init_20 rfl (lv_at hl 0 rfl) ?_
  refine lv_bipush (v := 8) hx hb dX12_init_21 (by decide) ?_
  refine hg_newI2 X w 8 rfl (by decide) (List.mem_of_getElem? (i := 4) rfl) (Nat.le_of_ble_eq_true rfl) (Nat.le_of_ble_eq_true rfl) dX12_init_23 (fun q3 H hq3 w => ?_)
  have hnd0 := hnd
  have w : hg_W D b0 (L ++ [q1, q2, q3]) (al_F f [(a, .inr (10, [.ref q1, .int 0, .ref q2, .null, .null, .null, .null, .int 0, .null, .int 0, .int 0, .int 0, .int 0, .int 0, .int 0, .null, .int 0, .null, .int 0])), (q1, .inl (D.1 11, 1400, .inl (fun _ => 0))), (q2, .inl (D.1 12, 2, .inl (fun _ => 0))), (q3, .inl (D.1 11, 8, .inl (fun _ => 0)))]) s.heap H locs := al_grow w (al_notin ha hq3)
  have hnd : [a, q1, q2, q3].Nodup := al_nd hnd0 ha hq3
  refine al_putF (C := RX12) (T := TX12) (N0 := 19) (ci := 10) (ty0 := tyX12) X w hname (List.mem_append_left _ ha) (al_atK hnd (k := 0) (by rfl) (by rfl)) hin12 tyX12_ok nmX12 rfl 3 (by decide) (List.mem_of_getElem? (i := 8) rfl) rfl rfl rfl rfl (by show _ < 19; decide) dX12_init_25 (fun H locs w => ?_)
  have w : hg_W D b0 (L ++ [q1, q2, q3]) (al_F f [(a, .inr (10, [.ref q1, .int 0, .ref q2, .ref q3, .null, .null, .null, .int 0, .null, .int 0, .int 0, .int 0, .int 0, .int 0, .int 0, .null, .int 0, .null, .int 0])), (q1, .inl (D.1 11, 1400, .inl (fun _ => 0))), (q2, .inl (D.1 12, 2, .inl (fun _ => 0))), (q3, .inl (D.1 11, 8, .inl (fun _ => 0)))]) s.heap H locs := al_chgK hnd (k := 0) w (by rfl) (by rfl)
  refine lv_aload_n hx hb dX12_init_28 rfl (lv_at hl 0 rfl) ?_
  refine lv_bipush (v := 8) hx hb dX12_init_29 (by decide) ?_
  refine hg_newI2 X w 8 rfl (by decide) (List.mem_of_getElem? (i := 4) rfl) (Nat.le_of_ble_eq_true rfl) (Nat.le_of_ble_eq_true rfl) dX12_init_31 (fun q4 H hq4 w => ?_)
  have hnd0 := hnd
  have w : hg_W D b0 (L ++ [q1, q2, q3, q4]) (al_F f [(a, .inr (10, [.ref q1, .int 0, .ref q2, .ref q3, .null, .null, .null, .int 0, .null, .int 0, .int 0, .int 0, .int 0, .int 0, .int 0, .null, .int 0, .null, .int 0])), (q1, .inl (D.1 11, 1400, .inl (fun _ => 0))), (q2, .inl (D.1 12, 2, .inl (fun _ => 0))), (q3, .inl (D.1 11, 8, .inl (fun _ => 0))), (q4, .inl (D.1 11, 8, .inl (fun _ => 0)))]) s.heap H locs := al_grow w (al_notin ha hq4)
  have hnd : [a, q1, q2, q3, q4].Nodup := al_nd hnd0 ha hq4
  refine al_putF (C := RX12) (T := TX12) (N0 := 19) (ci := 10) (ty0 := tyX12) X w hname (List.mem_append_left _ ha) (al_atK hnd (k := 0) (by rfl) (by rfl)) hin12 tyX12_ok nmX12 rfl 4 (by decide) (List.mem_of_getElem? (i := 9) rfl) rfl rfl rfl rfl (by show _ < 19; decide) dX12_init_33 (fun H locs w => ?_)
  have w : hg_W D b0 (L ++ [q1, q2, q3, q4]) (al_F f [(a, .inr (10, [.ref q1, .int 0, .ref q2, .ref q3, .ref q4, .null, .null, .int 0, .null, .int 0, .int 0, .int 0, .int 0, .int 0, .int 0, .null, .int 0, .null, .int 0])), (q1, .inl (D.1 11, 1400, .inl (fun _ => 0))), (q2, .inl (D.1 12, 2, .inl (fun _ => 0))), (q3, .inl (D.1 11, 8, .inl (fun _ => 0))), (q4, .inl (D.1 11, 8, .inl (fun _ => 0)))]) s.heap H locs := al_chgK hnd (k := 0) w (by rfl) (by rfl)
  refine lv_aload_n hx hb dX12_init_36 rfl (lv_at hl 0 rfl) ?_
  refine lv_sipush (v := 320) hx hb dX12_init_37 (by decide) ?_
  refine hg_newI2 X w 320 rfl (by decide) (List.mem_of_getElem? (i := 4) rfl) (Nat.le_of_ble_eq_true rfl) (Nat.le_of_ble_eq_true rfl) dX12_init_40 (fun q5 H hq5 w => ?_)
  have hnd0 := hnd
  have w : hg_W D b0 (L ++ [q1, q2, q3, q4, q5]) (al_F f [(a, .inr (10, [.ref q1, .int 0, .ref q2, .ref q3, .ref q4, .null, .null, .int 0, .null, .int 0, .int 0, .int 0, .int 0, .int 0, .int 0, .null, .int 0, .null, .int 0])), (q1, .inl (D.1 11, 1400, .inl (fun _ => 0))), (q2, .inl (D.1 12, 2, .inl (fun _ => 0))), (q3, .inl (D.1 11, 8, .inl (fun _ => 0))), (q4, .inl (D.1 11, 8, .inl (fun _ => 0))), (q5, .inl (D.1 11, 320, .inl (fun _ => 0)))]) s.heap H locs := al_grow w (al_notin ha hq5)
  have hnd : [a, q1, q2, q3, q4, q5].Nodup := al_nd hnd0 ha hq5
  refine al_putF (C := RX12) (T := TX12) (N0 := 19) (ci := 10) (ty0 := tyX12) X w hname (List.mem_append_left _ ha) (al_atK hnd (k := 0) (by rfl) (by rfl)) hin12 tyX12_ok nmX12 rfl 5 (by decide) (List.mem_of_getElem? (i := 10) rfl) rfl rfl rfl rfl (by show _ < 19; decide) dX12_init_42 (fun H locs w => ?_)
  have w : hg_W D b0 (L ++ [q1, q2, q3, q4, q5]) (al_F f [(a, .inr (10, [.ref q1, .int 0, .ref q2, .ref q3, .ref q4, .ref q5, .null, .int 0, .null, .int 0, .int 0, .int 0, .int 0, .int 0, .int 0, .null, .int 0, .null, .int 0])), (q1, .inl (D.1 11, 1400, .inl (fun _ => 0))), (q2, .inl (D.1 12, 2, .inl (fun _ => 0))), (q3, .inl (D.1 11, 8, .inl (fun _ => 0))), (q4, .inl (D.1 11, 8, .inl (fun _ => 0))), (q5, .inl (D.1 11, 320, .inl (fun _ => 0)))]) s.heap H locs := al_chgK hnd (k := 0) w (by rfl) (by rfl)
  refine lv_aload_n hx hb dX12_init_45 rfl (lv_at hl 0 rfl) ?_
  refine lv_bipush (v := 40) hx hb dX12_init_46 (by decide) ?_
  refine hg_newI2 X w 40 rfl (by decide) (List.mem_of_getElem? (i := 4) rfl) (Nat.le_of_ble_eq_true rfl) (Nat.le_of_ble_eq_true rfl) dX12_init_48 (fun q6 H hq6 w => ?_)
  have hnd0 := hnd
  have w : hg_W D b0 (L ++ [q1, q2, q3, q4, q5, q6]) (al_F f [(a, .inr (10, [.ref q1, .int 0, .ref q2, .ref q3, .ref q4, .ref q5, .null, .int 0, .null, .int 0, .int 0, .int 0, .int 0, .int 0, .int 0, .null, .int 0, .null, .int 0])), (q1, .inl (D.1 11, 1400, .inl (fun _ => 0))), (q2, .inl (D.1 12, 2, .inl (fun _ => 0))), (q3, .inl (D.1 11, 8, .inl (fun _ => 0))), (q4, .inl (D.1 11, 8, .inl (fun _ => 0))), (q5, .inl (D.1 11, 320, .inl (fun _ => 0))), (q6, .inl (D.1 11, 40, .inl (fun _ => 0)))]) s.heap H locs := al_grow w (al_notin ha hq6)
  have hnd : [a, q1, q2, q3, q4, q5, q6].Nodup := al_nd hnd0 ha hq6
  refine al_putF (C := RX12) (T := TX12) (N0 := 19) (ci := 10) (ty0 := tyX12) X w hname (List.mem_append_left _ ha) (al_atK hnd (k := 0) (by rfl) (by rfl)) hin12 tyX12_ok nmX12 rfl 6 (by decide) (List.mem_of_getElem? (i := 11) rfl) rfl rfl rfl rfl (by show _ < 19; decide) dX12_init_50 (fun H locs w => ?_)
  have w : hg_W D b0 (L ++ [q1, q2, q3, q4, q5, q6]) (al_F f [(a, .inr (10, [.ref q1, .int 0, .ref q2, .ref q3, .ref q4, .ref q5, .ref q6, .int 0, .null, .int 0, .int 0, .int 0, .int 0, .int 0, .int 0, .null, .int 0, .null, .int 0])), (q1, .inl (D.1 11, 1400, .inl (fun _ => 0))), (q2, .inl (D.1 12, 2, .inl (fun _ => 0))), (q3, .inl (D.1 11, 8, .inl (fun _ => 0))), (q4, .inl (D.1 11, 8, .inl (fun _ => 0))), (q5, .inl (D.1 11, 320, .inl (fun _ => 0))), (q6, .inl (D.1 11, 40, .inl (fun _ => 0)))]) s.heap H locs := al_chgK hnd (k := 0) w (by rfl) (by rfl)
  refine lv_aload_n hx hb dX12_init_53 rfl (lv_at hl 0 rfl) ?_
  refine lv_bipush (v := 100) hx hb dX12_init_54 (by decide) ?_
  refine hg_newI2 X w 100 rfl (by decide) (List.mem_of_getElem? (i := 4) rfl) (Nat.le_of_ble_eq_true rfl) (Nat.le_of_ble_eq_true rfl) dX12_init_56 (fun q7 H hq7 w => ?_)
  have hnd0 := hnd
  have w : hg_W D b0 (L ++ [q1, q2, q3, q4, q5, q6, q7]) (al_F f [(a, .inr (10, [.ref q1, .int 0, .ref q2, .ref q3, .ref q4, .ref q5, .ref q6, .int 0, .null, .int 0, .int 0, .int 0, .int 0, .int 0, .int 0, .null, .int 0, .null, .int 0])), (q1, .inl (D.1 11, 1400, .inl (fun _ => 0))), (q2, .inl (D.1 12, 2, .inl (fun _ => 0))), (q3, .inl (D.1 11, 8, .inl (fun _ => 0))), (q4, .inl (D.1 11, 8, .inl (fun _ => 0))), (q5, .inl (D.1 11, 320, .inl (fun _ => 0))), (q6, .inl (D.1 11, 40, .inl (fun _ => 0))), (q7, .inl (D.1 11, 100, .inl (fun _ => 0)))]) s.heap H locs := al_grow w (al_notin ha hq7)
  have hnd : [a, q1, q2, q3, q4, q5, q6, q7].Nodup := al_nd hnd0 ha hq7
  refine al_putF (C := RX12) (T := TX12) (N0 := 19) (ci := 10) (ty0 := tyX12) X w hname (List.mem_append_left _ ha) (al_atK hnd (k := 0) (by rfl) (by rfl)) hin12 tyX12_ok nmX12 rfl 8 (by decide) (List.mem_of_getElem? (i := 12) rfl) rfl rfl rfl rfl (by show _ < 19; decide) dX12_init_58 (fun H locs w => ?_)
  have w : hg_W D b0 (L ++ [q1, q2, q3, q4, q5, q6, q7]) (al_F f [(a, .inr (10, [.ref q1, .int 0, .ref q2, .ref q3, .ref q4, .ref q5, .ref q6, .int 0, .ref q7, .int 0, .int 0, .int 0, .int 0, .int 0, .int 0, .null, .int 0, .null, .int 0])), (q1, .inl (D.1 11, 1400, .inl (fun _ => 0))), (q2, .inl (D.1 12, 2, .inl (fun _ => 0))), (q3, .inl (D.1 11, 8, .inl (fun _ => 0))), (q4, .inl (D.1 11, 8, .inl (fun _ => 0))), (q5, .inl (D.1 11, 320, .inl (fun _ => 0))), (q6, .inl (D.1 11, 40, .inl (fun _ => 0))), (q7, .inl (D.1 11, 100, .inl (fun _ => 0)))]) s.heap H locs := al_chgK hnd (k := 0) w (by rfl) (by rfl)
  refine lv_aload_n hx hb dX12_init_61 rfl (lv_at hl 0 rfl) ?_
  refine lv_bipush (v := 64) hx hb dX12_init_62 (by decide) ?_
  refine hg_newI2 X w 64 rfl (by decide) (List.mem_of_getElem? (i := 4) rfl) (Nat.le_of_ble_eq_true rfl) (Nat.le_of_ble_eq_true rfl) dX12_init_64 (fun q8 H hq8 w => ?_)
  have hnd0 := hnd
  have w : hg_W D b0 (L ++ [q1, q2, q3, q4, q5, q6, q7, q8]) (al_F f [(a, .inr (10, [.ref q1, .int 0, .ref q2, .ref q3, .ref q4, .ref q5, .ref q6, .int 0, .ref q7, .int 0, .int 0, .int 0, .int 0, .int 0, .int 0, .null, .int 0, .null, .int 0])), (q1, .inl (D.1 11, 1400, .inl (fun _ => 0))), (q2, .inl (D.1 12, 2, .inl (fun _ => 0))), (q3, .inl (D.1 11, 8, .inl (fun _ => 0))), (q4, .inl (D.1 11, 8, .inl (fun _ => 0))), (q5, .inl (D.1 11, 320, .inl (fun _ => 0))), (q6, .inl (D.1 11, 40, .inl (fun _ => 0))), (q7, .inl (D.1 11, 100, .inl (fun _ => 0))), (q8, .inl (D.1 11, 64, .inl (fun _ => 0)))]) s.heap H locs := al_grow w (al_notin ha hq8)
  have hnd : [a, q1, q2, q3, q4, q5, q6, q7, q8].Nodup := al_nd hnd0 ha hq8
  refine al_putF (C := RX12) (T := TX12) (N0 := 19) (ci := 10) (ty0 := tyX12) X w hname (List.mem_append_left _ ha) (al_atK hnd (k := 0) (by rfl) (by rfl)) hin12 tyX12_ok nmX12 rfl 15 (by decide) (List.mem_of_getElem? (i := 13) rfl) rfl rfl rfl rfl (by show _ < 19; decide) dX12_init_66 (fun H locs w => ?_)
  have w : hg_W D b0 (L ++ [q1, q2, q3, q4, q5, q6, q7, q8]) (al_F f [(a, .inr (10, [.ref q1, .int 0, .ref q2, .ref q3, .ref q4, .ref q5, .ref q6, .int 0, .ref q7, .int 0, .int 0, .int 0, .int 0, .int 0, .int 0, .ref q8, .int 0, .null, .int 0])), (q1, .inl (D.1 11, 1400, .inl (fun _ => 0))), (q2, .inl (D.1 12, 2, .inl (fun _ => 0))), (q3, .inl (D.1 11, 8, .inl (fun _ => 0))), (q4, .inl (D.1 11, 8, .inl (fun _ => 0))), (q5, .inl (D.1 11, 320, .inl (fun _ => 0))), (q6, .inl (D.1 11, 40, .inl (fun _ => 0))), (q7, .inl (D.1 11, 100, .inl (fun _ => 0))), (q8, .inl (D.1 11, 64, .inl (fun _ => 0)))]) s.heap H locs := al_chgK hnd (k := 0) w (by rfl) (by rfl)
  refine lv_aload_n hx hb dX12_init_69 rfl (lv_at hl 0 rfl) ?_
  refine lv_bipush (v := 16) hx hb dX12_init_70 (by decide) ?_
  refine hg_newI2 X w 16 rfl (by decide) (List.mem_of_getElem? (i := 4) rfl) (Nat.le_of_ble_eq_true rfl) (Nat.le_of_ble_eq_true rfl) dX12_init_72 (fun q9 H hq9 w => ?_)
  have hnd0 := hnd
  have w : hg_W D b0 (L ++ [q1, q2, q3, q4, q5, q6, q7, q8, q9]) (al_F f [(a, .inr (10, [.ref q1, .int 0, .ref q2, .ref q3, .ref q4, .ref q5, .ref q6, .int 0, .ref q7, .int 0, .int 0, .int 0, .int 0, .int 0, .int 0, .ref q8, .int 0, .null, .int 0])), (q1, .inl (D.1 11, 1400, .inl (fun _ => 0))), (q2, .inl (D.1 12, 2, .inl (fun _ => 0))), (q3, .inl (D.1 11, 8, .inl (fun _ => 0))), (q4, .inl (D.1 11, 8, .inl (fun _ => 0))), (q5, .inl (D.1 11, 320, .inl (fun _ => 0))), (q6, .inl (D.1 11, 40, .inl (fun _ => 0))), (q7, .inl (D.1 11, 100, .inl (fun _ => 0))), (q8, .inl (D.1 11, 64, .inl (fun _ => 0))), (q9, .inl (D.1 11, 16, .inl (fun _ => 0)))]) s.heap H locs := al_grow w (al_notin ha hq9)
  have hnd : [a, q1, q2, q3, q4, q5, q6, q7, q8, q9].Nodup := al_nd hnd0 ha hq9
  refine al_putF (C := RX12) (T := TX12) (N0 := 19) (ci := 10) (ty0 := tyX12) X w hname (List.mem_append_left _ ha) (al_atK hnd (k := 0) (by rfl) (by rfl)) hin12 tyX12_ok nmX12 rfl 17 (by decide) (List.mem_of_getElem? (i := 14) rfl) rfl rfl rfl rfl (by show _ < 19; decide) dX12_init_74 (fun H locs w => ?_)
  have w : hg_W D b0 (L ++ [q1, q2, q3, q4, q5, q6, q7, q8, q9]) (al_F f [(a, .inr (10, [.ref q1, .int 0, .ref q2, .ref q3, .ref q4, .ref q5, .ref q6, .int 0, .ref q7, .int 0, .int 0, .int 0, .int 0, .int 0, .int 0, .ref q8, .int 0, .ref q9, .int 0])), (q1, .inl (D.1 11, 1400, .inl (fun _ => 0))), (q2, .inl (D.1 12, 2, .inl (fun _ => 0))), (q3, .inl (D.1 11, 8, .inl (fun _ => 0))), (q4, .inl (D.1 11, 8, .inl (fun _ => 0))), (q5, .inl (D.1 11, 320, .inl (fun _ => 0))), (q6, .inl (D.1 11, 40, .inl (fun _ => 0))), (q7, .inl (D.1 11, 100, .inl (fun _ => 0))), (q8, .inl (D.1 11, 64, .inl (fun _ => 0))), (q9, .inl (D.1 11, 16, .inl (fun _ => 0)))]) s.heap H locs := al_chgK hnd (k := 0) w (by rfl) (by rfl)
  refine lv_iconst (v := 0) hx hb dX12_init_77 (by decide) ?_
  refine lv_istore_n (lv' := [(1, .int (0)), (0, .ref a)]) hx hb dX12_init_78 rfl hl (by decide) rfl (fun ls hl => ?_)
  refine lv_iload_n hx hb dX12_init_79 rfl (lv_at hl 0 rfl) ?_
  refine lv_bipush (v := 8) hx hb dX12_init_80 (by decide) ?_
  refine lv_icmp_ge (tgt := 98) hx hb dX12_init_82 (by decide) (fun c_82 => ?_) (fun c_82 => ?_)
  · exact absurd c_82 (by decide)
  · refine lv_aload_n hx hb dX12_init_85 rfl (lv_at hl 1 rfl) ?_
    refine hg_get (C := RX12) (T := TX12) (N := 19) (ci := 10) X w (List.mem_append_left _ ha) (al_atK hnd (k := 0) (by rfl) (by rfl)) hin12 rfl 3 (by decide) (List.mem_of_getElem? (i := 8) rfl) (Or.inl rfl) rfl dX12_init_86 ?_
    refine lv_iload_n hx hb dX12_init_89 rfl (lv_at hl 0 rfl) ?_
    refine lv_iconst (v := (-1)) hx hb dX12_init_90 (by decide) ?_
    refine hg_iast X w (List.mem_append_right _ (List.mem_of_getElem? (i := 2) rfl)) (al_atK hnd (k := 3) (by rfl) (by rfl)) 0 rfl (by decide) (by decide) dX12_init_91 (fun H locs w => ?_)
    have w : hg_W D b0 (L ++ [q1, q2, q3, q4, q5, q6, q7, q8, q9]) (al_F f [(a, .inr (10, [.ref q1, .int 0, .ref q2, .ref q3, .ref q4, .ref q5, .ref q6, .int 0, .ref q7, .int 0, .int 0, .int 0, .int 0, .int 0, .int 0, .ref q8, .int 0, .ref q9, .int 0])), (q1, .inl (D.1 11, 1400, .inl (fun _ => 0))), (q2, .inl (D.1 12, 2, .inl (fun _ => 0))), (q3, .inl (D.1 11, 8, .inl (va_up (fun _ => 0) 0 (-1)))), (q4, .inl (D.1 11, 8, .inl (fun _ => 0))), (q5, .inl (D.1 11, 320, .inl (fun _ => 0))), (q6, .inl (D.1 11, 40, .inl (fun _ => 0))), (q7, .inl (D.1 11, 100, .inl (fun _ => 0))), (q8, .inl (D.1 11, 64, .inl (fun _ => 0))), (q9, .inl (D.1 11, 16, .inl (fun _ => 0)))]) s.heap H locs := al_chgK hnd (k := 3) w (by rfl) (by rfl)
    refine lv_iinc (v := 0 + 1) (lv' := [(1, .int (0 + 1)), (0, .ref a)]) hx hb dX12_init_92 hl (k := 0) rfl rfl (by decide) rfl (fun ls hl => ?_)
    refine lv_goto (tgt := 79) hx hb dX12_init_95 (by decide) ?_
    refine lv_iload_n hx hb dX12_init_79 rfl (lv_at hl 0 rfl) ?_
    refine lv_bipush (v := 8) hx hb dX12_init_80 (by decide) ?_
    refine lv_icmp_ge (tgt := 98) hx hb dX12_init_82 (by decide) (fun c_82 => ?_) (fun c_82 => ?_)
    · exact absurd c_82 (by decide)
    · refine lv_aload_n hx hb dX12_init_85 rfl (lv_at hl 1 rfl) ?_
      refine hg_get (C := RX12) (T := TX12) (N := 19) (ci := 10) X w (List.mem_append_left _ ha) (al_atK hnd (k := 0) (by rfl) (by rfl)) hin12 rfl 3 (by decide) (List.mem_of_getElem? (i := 8) rfl) (Or.inl rfl) rfl dX12_init_86 ?_
      refine lv_iload_n hx hb dX12_init_89 rfl (lv_at hl 0 rfl) ?_
      refine lv_iconst (v := (-1)) hx hb dX12_init_90 (by decide) ?_
      refine hg_iast X w (List.mem_append_right _ (List.mem_of_getElem? (i := 2) rfl)) (al_atK hnd (k := 3) (by rfl) (by rfl)) 1 rfl (by decide) (by decide) dX12_init_91 (fun H locs w => ?_)
      have w : hg_W D b0 (L ++ [q1, q2, q3, q4, q5, q6, q7, q8, q9]) (al_F f [(a, .inr (10, [.ref q1, .int 0, .ref q2, .ref q3, .ref q4, .ref q5, .ref q6, .int 0, .ref q7, .int 0, .int 0, .int 0, .int 0, .int 0, .int 0, .ref q8, .int 0, .ref q9, .int 0])), (q1, .inl (D.1 11, 1400, .inl (fun _ => 0))), (q2, .inl (D.1 12, 2, .inl (fun _ => 0))), (q3, .inl (D.1 11, 8, .inl (va_up (va_up (fun _ => 0) 0 (-1)) 1 (-1)))), (q4, .inl (D.1 11, 8, .inl (fun _ => 0))), (q5, .inl (D.1 11, 320, .inl (fun _ => 0))), (q6, .inl (D.1 11, 40, .inl (fun _ => 0))), (q7, .inl (D.1 11, 100, .inl (fun _ => 0))), (q8, .inl (D.1 11, 64, .inl (fun _ => 0))), (q9, .inl (D.1 11, 16, .inl (fun _ => 0)))]) s.heap H locs := al_chgK hnd (k := 3) w (by rfl) (by rfl)
      refine lv_iinc (v := 0 + 1 + 1) (lv' := [(1, .int (0 + 1 + 1)), (0, .ref a)]) hx hb dX12_init_92 hl (k := 0) rfl rfl (by decide) rfl (fun ls hl => ?_)
      refine lv_goto (tgt := 79) hx hb dX12_init_95 (by decide) ?_
      refine lv_iload_n hx hb dX12_init_79 rfl (lv_at hl 0 rfl) ?_
      refine lv_bipush (v := 8) hx hb dX12_init_80 (by decide) ?_
      refine lv_icmp_ge (tgt := 98) hx hb dX12_init_82 (by decide) (fun c_82 => ?_) (fun c_82 => ?_)
      · exact absurd c_82 (by decide)
      · refine lv_aload_n hx hb dX12_init_85 rfl (lv_at hl 1 rfl) ?_
        refine hg_get (C := RX12) (T := TX12) (N := 19) (ci := 10) X w (List.mem_append_left _ ha) (al_atK hnd (k := 0) (by rfl) (by rfl)) hin12 rfl 3 (by decide) (List.mem_of_getElem? (i := 8) rfl) (Or.inl rfl) rfl dX12_init_86 ?_
        refine lv_iload_n hx hb dX12_init_89 rfl (lv_at hl 0 rfl) ?_
        refine lv_iconst (v := (-1)) hx hb dX12_init_90 (by decide) ?_
        refine hg_iast X w (List.mem_append_right _ (List.mem_of_getElem? (i := 2) rfl)) (al_atK hnd (k := 3) (by rfl) (by rfl)) 2 rfl (by decide) (by decide) dX12_init_91 (fun H locs w => ?_)
        have w : hg_W D b0 (L ++ [q1, q2, q3, q4, q5, q6, q7, q8, q9]) (al_F f [(a, .inr (10, [.ref q1, .int 0, .ref q2, .ref q3, .ref q4, .ref q5, .ref q6, .int 0, .ref q7, .int 0, .int 0, .int 0, .int 0, .int 0, .int 0, .ref q8, .int 0, .ref q9, .int 0])), (q1, .inl (D.1 11, 1400, .inl (fun _ => 0))), (q2, .inl (D.1 12, 2, .inl (fun _ => 0))), (q3, .inl (D.1 11, 8, .inl (va_up (va_up (va_up (fun _ => 0) 0 (-1)) 1 (-1)) 2 (-1)))), (q4, .inl (D.1 11, 8, .inl (fun _ => 0))), (q5, .inl (D.1 11, 320, .inl (fun _ => 0))), (q6, .inl (D.1 11, 40, .inl (fun _ => 0))), (q7, .inl (D.1 11, 100, .inl (fun _ => 0))), (q8, .inl (D.1 11, 64, .inl (fun _ => 0))), (q9, .inl (D.1 11, 16, .inl (fun _ => 0)))]) s.heap H locs := al_chgK hnd (k := 3) w (by rfl) (by rfl)
        refine lv_iinc (v := 0 + 1 + 1 + 1) (lv' := [(1, .int (0 + 1 + 1 + 1)), (0, .ref a)]) hx hb dX12_init_92 hl (k := 0) rfl rfl (by decide) rfl (fun ls hl => ?_)
        refine lv_goto (tgt := 79) hx hb dX12_init_95 (by decide) ?_
        refine lv_iload_n hx hb dX12_init_79 rfl (lv_at hl 0 rfl) ?_
        refine lv_bipush (v := 8) hx hb dX12_init_80 (by decide) ?_
        refine lv_icmp_ge (tgt := 98) hx hb dX12_init_82 (by decide) (fun c_82 => ?_) (fun c_82 => ?_)
        · exact absurd c_82 (by decide)
        · refine lv_aload_n hx hb dX12_init_85 rfl (lv_at hl 1 rfl) ?_
          refine hg_get (C := RX12) (T := TX12) (N := 19) (ci := 10) X w (List.mem_append_left _ ha) (al_atK hnd (k := 0) (by rfl) (by rfl)) hin12 rfl 3 (by decide) (List.mem_of_getElem? (i := 8) rfl) (Or.inl rfl) rfl dX12_init_86 ?_
          refine lv_iload_n hx hb dX12_init_89 rfl (lv_at hl 0 rfl) ?_
          refine lv_iconst (v := (-1)) hx hb dX12_init_90 (by decide) ?_
          refine hg_iast X w (List.mem_append_right _ (List.mem_of_getElem? (i := 2) rfl)) (al_atK hnd (k := 3) (by rfl) (by rfl)) 3 rfl (by decide) (by decide) dX12_init_91 (fun H locs w => ?_)
          have w : hg_W D b0 (L ++ [q1, q2, q3, q4, q5, q6, q7, q8, q9]) (al_F f [(a, .inr (10, [.ref q1, .int 0, .ref q2, .ref q3, .ref q4, .ref q5, .ref q6, .int 0, .ref q7, .int 0, .int 0, .int 0, .int 0, .int 0, .int 0, .ref q8, .int 0, .ref q9, .int 0])), (q1, .inl (D.1 11, 1400, .inl (fun _ => 0))), (q2, .inl (D.1 12, 2, .inl (fun _ => 0))), (q3, .inl (D.1 11, 8, .inl (va_up (va_up (va_up (va_up (fun _ => 0) 0 (-1)) 1 (-1)) 2 (-1)) 3 (-1)))), (q4, .inl (D.1 11, 8, .inl (fun _ => 0))), (q5, .inl (D.1 11, 320, .inl (fun _ => 0))), (q6, .inl (D.1 11, 40, .inl (fun _ => 0))), (q7, .inl (D.1 11, 100, .inl (fun _ => 0))), (q8, .inl (D.1 11, 64, .inl (fun _ => 0))), (q9, .inl (D.1 11, 16, .inl (fun _ => 0)))]) s.heap H locs := al_chgK hnd (k := 3) w (by rfl) (by rfl)
          refine lv_iinc (v := 0 + 1 + 1 + 1 + 1) (lv' := [(1, .int (0 + 1 + 1 + 1 + 1)), (0, .ref a)]) hx hb dX12_init_92 hl (k := 0) rfl rfl (by decide) rfl (fun ls hl => ?_)
          refine lv_goto (tgt := 79) hx hb dX12_init_95 (by decide) ?_
          refine lv_iload_n hx hb dX12_init_79 rfl (lv_at hl 0 rfl) ?_
          refine lv_bipush (v := 8) hx hb dX12_init_80 (by decide) ?_
          refine lv_icmp_ge (tgt := 98) hx hb dX12_init_82 (by decide) (fun c_82 => ?_) (fun c_82 => ?_)
          · exact absurd c_82 (by decide)
          · refine lv_aload_n hx hb dX12_init_85 rfl (lv_at hl 1 rfl) ?_
            refine hg_get (C := RX12) (T := TX12) (N := 19) (ci := 10) X w (List.mem_append_left _ ha) (al_atK hnd (k := 0) (by rfl) (by rfl)) hin12 rfl 3 (by decide) (List.mem_of_getElem? (i := 8) rfl) (Or.inl rfl) rfl dX12_init_86 ?_
            refine lv_iload_n hx hb dX12_init_89 rfl (lv_at hl 0 rfl) ?_
            refine lv_iconst (v := (-1)) hx hb dX12_init_90 (by decide) ?_
            refine hg_iast X w (List.mem_append_right _ (List.mem_of_getElem? (i := 2) rfl)) (al_atK hnd (k := 3) (by rfl) (by rfl)) 4 rfl (by decide) (by decide) dX12_init_91 (fun H locs w => ?_)
            have w : hg_W D b0 (L ++ [q1, q2, q3, q4, q5, q6, q7, q8, q9]) (al_F f [(a, .inr (10, [.ref q1, .int 0, .ref q2, .ref q3, .ref q4, .ref q5, .ref q6, .int 0, .ref q7, .int 0, .int 0, .int 0, .int 0, .int 0, .int 0, .ref q8, .int 0, .ref q9, .int 0])), (q1, .inl (D.1 11, 1400, .inl (fun _ => 0))), (q2, .inl (D.1 12, 2, .inl (fun _ => 0))), (q3, .inl (D.1 11, 8, .inl (va_up (va_up (va_up (va_up (va_up (fun _ => 0) 0 (-1)) 1 (-1)) 2 (-1)) 3 (-1)) 4 (-1)))), (q4, .inl (D.1 11, 8, .inl (fun _ => 0))), (q5, .inl (D.1 11, 320, .inl (fun _ => 0))), (q6, .inl (D.1 11, 40, .inl (fun _ => 0))), (q7, .inl (D.1 11, 100, .inl (fun _ => 0))), (q8, .inl (D.1 11, 64, .inl (fun _ => 0))), (q9, .inl (D.1 11, 16, .inl (fun _ => 0)))]) s.heap H locs := al_chgK hnd (k := 3) w (by rfl) (by rfl)
            refine lv_iinc (v := 0 + 1 + 1 + 1 + 1 + 1) (lv' := [(1, .int (0 + 1 + 1 + 1 + 1 + 1)), (0, .ref a)]) hx hb dX12_init_92 hl (k := 0) rfl rfl (by decide) rfl (fun ls hl => ?_)
            refine lv_goto (tgt := 79) hx hb dX12_init_95 (by decide) ?_
            refine lv_iload_n hx hb dX12_init_79 rfl (lv_at hl 0 rfl) ?_
            refine lv_bipush (v := 8) hx hb dX12_init_80 (by decide) ?_
            refine lv_icmp_ge (tgt := 98) hx hb dX12_init_82 (by decide) (fun c_82 => ?_) (fun c_82 => ?_)
            · exact absurd c_82 (by decide)
            · refine lv_aload_n hx hb dX12_init_85 rfl (lv_at hl 1 rfl) ?_
              refine hg_get (C := RX12) (T := TX12) (N := 19) (ci := 10) X w (List.mem_append_left _ ha) (al_atK hnd (k := 0) (by rfl) (by rfl)) hin12 rfl 3 (by decide) (List.mem_of_getElem? (i := 8) rfl) (Or.inl rfl) rfl dX12_init_86 ?_
              refine lv_iload_n hx hb dX12_init_89 rfl (lv_at hl 0 rfl) ?_
              refine lv_iconst (v := (-1)) hx hb dX12_init_90 (by decide) ?_
              refine hg_iast X w (List.mem_append_right _ (List.mem_of_getElem? (i := 2) rfl)) (al_atK hnd (k := 3) (by rfl) (by rfl)) 5 rfl (by decide) (by decide) dX12_init_91 (fun H locs w => ?_)
              have w : hg_W D b0 (L ++ [q1, q2, q3, q4, q5, q6, q7, q8, q9]) (al_F f [(a, .inr (10, [.ref q1, .int 0, .ref q2, .ref q3, .ref q4, .ref q5, .ref q6, .int 0, .ref q7, .int 0, .int 0, .int 0, .int 0, .int 0, .int 0, .ref q8, .int 0, .ref q9, .int 0])), (q1, .inl (D.1 11, 1400, .inl (fun _ => 0))), (q2, .inl (D.1 12, 2, .inl (fun _ => 0))), (q3, .inl (D.1 11, 8, .inl (va_up (va_up (va_up (va_up (va_up (va_up (fun _ => 0) 0 (-1)) 1 (-1)) 2 (-1)) 3 (-1)) 4 (-1)) 5 (-1)))), (q4, .inl (D.1 11, 8, .inl (fun _ => 0))), (q5, .inl (D.1 11, 320, .inl (fun _ => 0))), (q6, .inl (D.1 11, 40, .inl (fun _ => 0))), (q7, .inl (D.1 11, 100, .inl (fun _ => 0))), (q8, .inl (D.1 11, 64, .inl (fun _ => 0))), (q9, .inl (D.1 11, 16, .inl (fun _ => 0)))]) s.heap H locs := al_chgK hnd (k := 3) w (by rfl) (by rfl)
              refine lv_iinc (v := 0 + 1 + 1 + 1 + 1 + 1 + 1) (lv' := [(1, .int (0 + 1 + 1 + 1 + 1 + 1 + 1)), (0, .ref a)]) hx hb dX12_init_92 hl (k := 0) rfl rfl (by decide) rfl (fun ls hl => ?_)
              refine lv_goto (tgt := 79) hx hb dX12_init_95 (by decide) ?_
              refine lv_iload_n hx hb dX12_init_79 rfl (lv_at hl 0 rfl) ?_
              refine lv_bipush (v := 8) hx hb dX12_init_80 (by decide) ?_
              refine lv_icmp_ge (tgt := 98) hx hb dX12_init_82 (by decide) (fun c_82 => ?_) (fun c_82 => ?_)
              · exact absurd c_82 (by decide)
              · refine lv_aload_n hx hb dX12_init_85 rfl (lv_at hl 1 rfl) ?_
                refine hg_get (C := RX12) (T := TX12) (N := 19) (ci := 10) X w (List.mem_append_left _ ha) (al_atK hnd (k := 0) (by rfl) (by rfl)) hin12 rfl 3 (by decide) (List.mem_of_getElem? (i := 8) rfl) (Or.inl rfl) rfl dX12_init_86 ?_
                refine lv_iload_n hx hb dX12_init_89 rfl (lv_at hl 0 rfl) ?_
                refine lv_iconst (v := (-1)) hx hb dX12_init_90 (by decide) ?_
                refine hg_iast X w (List.mem_append_right _ (List.mem_of_getElem? (i := 2) rfl)) (al_atK hnd (k := 3) (by rfl) (by rfl)) 6 rfl (by decide) (by decide) dX12_init_91 (fun H locs w => ?_)
                have w : hg_W D b0 (L ++ [q1, q2, q3, q4, q5, q6, q7, q8, q9]) (al_F f [(a, .inr (10, [.ref q1, .int 0, .ref q2, .ref q3, .ref q4, .ref q5, .ref q6, .int 0, .ref q7, .int 0, .int 0, .int 0, .int 0, .int 0, .int 0, .ref q8, .int 0, .ref q9, .int 0])), (q1, .inl (D.1 11, 1400, .inl (fun _ => 0))), (q2, .inl (D.1 12, 2, .inl (fun _ => 0))), (q3, .inl (D.1 11, 8, .inl (va_up (va_up (va_up (va_up (va_up (va_up (va_up (fun _ => 0) 0 (-1)) 1 (-1)) 2 (-1)) 3 (-1)) 4 (-1)) 5 (-1)) 6 (-1)))), (q4, .inl (D.1 11, 8, .inl (fun _ => 0))), (q5, .inl (D.1 11, 320, .inl (fun _ => 0))), (q6, .inl (D.1 11, 40, .inl (fun _ => 0))), (q7, .inl (D.1 11, 100, .inl (fun _ => 0))), (q8, .inl (D.1 11, 64, .inl (fun _ => 0))), (q9, .inl (D.1 11, 16, .inl (fun _ => 0)))]) s.heap H locs := al_chgK hnd (k := 3) w (by rfl) (by rfl)
                refine lv_iinc (v := 0 + 1 + 1 + 1 + 1 + 1 + 1 + 1) (lv' := [(1, .int (0 + 1 + 1 + 1 + 1 + 1 + 1 + 1)), (0, .ref a)]) hx hb dX12_init_92 hl (k := 0) rfl rfl (by decide) rfl (fun ls hl => ?_)
                refine lv_goto (tgt := 79) hx hb dX12_init_95 (by decide) ?_
                refine lv_iload_n hx hb dX12_init_79 rfl (lv_at hl 0 rfl) ?_
                refine lv_bipush (v := 8) hx hb dX12_init_80 (by decide) ?_
                refine lv_icmp_ge (tgt := 98) hx hb dX12_init_82 (by decide) (fun c_82 => ?_) (fun c_82 => ?_)
                · exact absurd c_82 (by decide)
                · refine lv_aload_n hx hb dX12_init_85 rfl (lv_at hl 1 rfl) ?_
                  refine hg_get (C := RX12) (T := TX12) (N := 19) (ci := 10) X w (List.mem_append_left _ ha) (al_atK hnd (k := 0) (by rfl) (by rfl)) hin12 rfl 3 (by decide) (List.mem_of_getElem? (i := 8) rfl) (Or.inl rfl) rfl dX12_init_86 ?_
                  refine lv_iload_n hx hb dX12_init_89 rfl (lv_at hl 0 rfl) ?_
                  refine lv_iconst (v := (-1)) hx hb dX12_init_90 (by decide) ?_
                  refine hg_iast X w (List.mem_append_right _ (List.mem_of_getElem? (i := 2) rfl)) (al_atK hnd (k := 3) (by rfl) (by rfl)) 7 rfl (by decide) (by decide) dX12_init_91 (fun H locs w => ?_)
                  have w : hg_W D b0 (L ++ [q1, q2, q3, q4, q5, q6, q7, q8, q9]) (al_F f [(a, .inr (10, [.ref q1, .int 0, .ref q2, .ref q3, .ref q4, .ref q5, .ref q6, .int 0, .ref q7, .int 0, .int 0, .int 0, .int 0, .int 0, .int 0, .ref q8, .int 0, .ref q9, .int 0])), (q1, .inl (D.1 11, 1400, .inl (fun _ => 0))), (q2, .inl (D.1 12, 2, .inl (fun _ => 0))), (q3, .inl (D.1 11, 8, .inl (va_up (va_up (va_up (va_up (va_up (va_up (va_up (va_up (fun _ => 0) 0 (-1)) 1 (-1)) 2 (-1)) 3 (-1)) 4 (-1)) 5 (-1)) 6 (-1)) 7 (-1)))), (q4, .inl (D.1 11, 8, .inl (fun _ => 0))), (q5, .inl (D.1 11, 320, .inl (fun _ => 0))), (q6, .inl (D.1 11, 40, .inl (fun _ => 0))), (q7, .inl (D.1 11, 100, .inl (fun _ => 0))), (q8, .inl (D.1 11, 64, .inl (fun _ => 0))), (q9, .inl (D.1 11, 16, .inl (fun _ => 0)))]) s.heap H locs := al_chgK hnd (k := 3) w (by rfl) (by rfl)
                  refine lv_iinc (v := 0 + 1 + 1 + 1 + 1 + 1 + 1 + 1 + 1) (lv' := [(1, .int (0 + 1 + 1 + 1 + 1 + 1 + 1 + 1 + 1)), (0, .ref a)]) hx hb dX12_init_92 hl (k := 0) rfl rfl (by decide) rfl (fun ls hl => ?_)
                  refine lv_goto (tgt := 79) hx hb dX12_init_95 (by decide) ?_
                  refine lv_iload_n hx hb dX12_init_79 rfl (lv_at hl 0 rfl) ?_
                  refine lv_bipush (v := 8) hx hb dX12_init_80 (by decide) ?_
                  refine lv_icmp_ge (tgt := 98) hx hb dX12_init_82 (by decide) (fun c_82 => ?_) (fun c_82 => ?_)
                  · have hnd1 : (a :: [q1, q2, q3, q4, q5, q6, q7, q8, q9]).Nodup := hnd
                    have hmo : mo_ok (L ++ [q1, q2, q3, q4, q5, q6, q7, q8, q9]) a (fun k => (a :: [q1, q2, q3, q4, q5, q6, q7, q8, q9]).getD (mo_sg k) 0) := by
                      refine ⟨List.mem_append_left _ ha, fun k hk => ⟨al_gm ha (by have := (mo_sg_b k hk).2; simpa using this), fun z => ?_⟩, fun k hk j hj z => ?_⟩
                      · have := al_ndg hnd1 (i := mo_sg k) (j := 0) (by have := (mo_sg_b k hk).2; simpa using this) (by simp) z
                        have := (mo_sg_b k hk).1
                        omega
                      · exact mo_sg_i k hk j hj (al_ndg hnd1 (by have := (mo_sg_b k hk).2; simpa using this) (by have := (mo_sg_b j hj).2; simpa using this) z)
                    have hG : al_F f [(a, .inr (10, [.ref q1, .int 0, .ref q2, .ref q3, .ref q4, .ref q5, .ref q6, .int 0, .ref q7, .int 0, .int 0, .int 0, .int 0, .int 0, .int 0, .ref q8, .int 0, .ref q9, .int 0])), (q1, .inl (D.1 11, 1400, .inl (fun _ => 0))), (q2, .inl (D.1 12, 2, .inl (fun _ => 0))), (q3, .inl (D.1 11, 8, .inl (va_up (va_up (va_up (va_up (va_up (va_up (va_up (va_up (fun _ => 0) 0 (-1)) 1 (-1)) 2 (-1)) 3 (-1)) 4 (-1)) 5 (-1)) 6 (-1)) 7 (-1)))), (q4, .inl (D.1 11, 8, .inl (fun _ => 0))), (q5, .inl (D.1 11, 320, .inl (fun _ => 0))), (q6, .inl (D.1 11, 40, .inl (fun _ => 0))), (q7, .inl (D.1 11, 100, .inl (fun _ => 0))), (q8, .inl (D.1 11, 64, .inl (fun _ => 0))), (q9, .inl (D.1 11, 16, .inl (fun _ => 0)))] = mo_F D f a (fun k => (a :: [q1, q2, q3, q4, q5, q6, q7, q8, q9]).getD (mo_sg k) 0) mo_M0 := by
                      refine al_eq hnd (fun k b x hk => ?_) (fun b hb2 => ?_)
                      · match k, hk with
                        | 0, hk => cases hk; exact mo_at0 D f a _ mo_M0
                        | 1, hk => cases hk; exact (mo_atk hmo D f mo_M0 (k := 0) (by decide))
                        | 2, hk => cases hk; exact (mo_atk hmo D f mo_M0 (k := 2) (by decide))
                        | 3, hk => cases hk; rw [mo_lane]; exact (mo_atk hmo D f mo_M0 (k := 3) (by decide))
                        | 4, hk => cases hk; exact (mo_atk hmo D f mo_M0 (k := 4) (by decide))
                        | 5, hk => cases hk; exact (mo_atk hmo D f mo_M0 (k := 5) (by decide))
                        | 6, hk => cases hk; exact (mo_atk hmo D f mo_M0 (k := 6) (by decide))
                        | 7, hk => cases hk; exact (mo_atk hmo D f mo_M0 (k := 8) (by decide))
                        | 8, hk => cases hk; exact (mo_atk hmo D f mo_M0 (k := 15) (by decide))
                        | 9, hk => cases hk; exact (mo_atk hmo D f mo_M0 (k := 17) (by decide))
                        | k + 10, hk => exact absurd hk (by simp)
                      · exact mo_out (fun z => hb2 (by rw [z]; exact List.mem_cons_self)) (fun k hk z => hb2 (by rw [← z]; exact al_gm0 (N := [q1, q2, q3, q4, q5, q6, q7, q8, q9]) (by have := (mo_sg_b k hk).2; simpa using this)))
                    have hfr : ∀ b ∈ [q1, q2, q3, q4, q5, q6, q7, q8, q9], b ∉ L := by
                      intro b hb2
                      simp only [List.mem_cons, List.not_mem_nil, or_false] at hb2
                      rcases hb2 with rfl | rfl | rfl | rfl | rfl | rfl | rfl | rfl | rfl
                      · exact fun z => hq1 (List.mem_append_left _ z)
                      · exact fun z => hq2 (List.mem_append_left _ z)
                      · exact fun z => hq3 (List.mem_append_left _ z)
                      · exact fun z => hq4 (List.mem_append_left _ z)
                      · exact fun z => hq5 (List.mem_append_left _ z)
                      · exact fun z => hq6 (List.mem_append_left _ z)
                      · exact fun z => hq7 (List.mem_append_left _ z)
                      · exact fun z => hq8 (List.mem_append_left _ z)
                      · exact fun z => hq9 (List.mem_append_left _ z)
                    rw [hG] at w
                    exact hend H locs (L ++ [q1, q2, q3, q4, q5, q6, q7, q8, q9], mo_F D f a (fun k => (a :: [q1, q2, q3, q4, q5, q6, q7, q8, q9]).getD (mo_sg k) 0) mo_M0) _ ls w ⟨_, [q1, q2, q3, q4, q5, q6, q7, q8, q9], hfr, hmo, rfl⟩ dX12_init_98
                  · exact absurd c_82 (by decide)
set_option maxRecDepth 100000 in
set_option maxHeartbeats 4000000 in
theorem c_X12_layWays (l : Launch) (D : va_G) (b0 : Nat) (L : List Nat) (f : Nat → va_E) (mo : Nat) (ma : Nat → Nat) (M : Nat → Nat → Int32) (hm : mo_ok L mo ma) (n nr : Nat) (hv : hs_ok (M 0) n nr) (ho : ∀ i, i < n → M 0 (44 + i) = 0 ∨ M 0 (44 + i) = 1) : mo_Fv l yX12_layWays wsX12_layWays ({ frames := 6, cells := 0, slots := 0, locals := 138 }) D b0 L f mo ma M [] (sp_lay M n) := by
  refine hg_in_v (cc := cX12_layWays) (nL := 6) (by decide) rfl (Nat.le_of_ble_eq_true rfl) (fun p e s m args below meth c R Q X _ hR hend H locs ls w hl => ?_)
  subst hR
  obtain ⟨hx, hb, hml, hown, hts⟩ := id X.1
  have hin : ∀ w ∈ wsX120, w ∈ wsX12_layWays := fun w h => List.mem_cons_of_mem _ (List.mem_append_right _ h)
  have hl : lv_has ls 6 [(0, .ref mo)] := hl
  obtain ⟨hn, hn6, hnr, hnr3, htt⟩ := id hv
  refine lv_iconst (v := 0) hx hb dX12_layWays_0 (by decide) ?_
  refine lv_istore_n (lv' := [(1, .int (0)), (0, .ref mo)]) hx hb dX12_layWays_1 rfl hl (by decide) rfl (fun ls hl => ?_)
  refine lv_iconst (v := 0) hx hb dX12_layWays_2 (by decide) ?_
  refine lv_istore_n (lv' := [(2, .int (0)), (1, .int (0)), (0, .ref mo)]) hx hb dX12_layWays_3 rfl hl (by decide) rfl (fun ls hl => ?_)
  have loopA : ∀ (n0 k : Nat), k ≤ n → n + 1 ≤ k + n0 → ∀ (H : Heap) (locs : List Loc) (ls : Array Slot), hg_W D b0 L (mo_F D f mo ma M) s.heap H locs → lv_has ls 6 [(0, .ref mo), (1, .int (lw_had (M 0) k)), (2, .int (nI k))] → W p l e ({ frames := 6, cells := 0, slots := 0, locals := 138 }) s m args below meth c H locs 0 0 Q (F0 m 4 ls []) := by
    intro n0
    induction n0 with
    | zero =>
      intro k h1 h2
      exact absurd h2 (by omega)
    | succ n0 ih =>
      intro k hk hn0 H locs ls w hl
      refine lv_iload_n hx hb dX12_layWays_4 rfl (lv_at hl 2 rfl) ?_
      refine lv_aload_n hx hb dX12_layWays_5 rfl (lv_at hl 0 rfl) ?_
      refine mo_get X w hm hin 0 (by decide) (List.mem_of_getElem? (i := 1) rfl) rfl dX12_layWays_6 ?_
      refine lv_iconst (v := 3) hx hb dX12_layWays_9 (by decide) ?_
      refine mo_iald X w hm 0 (by decide) (by decide) 3 rfl (by show _ < 1400; omega) dX12_layWays_10 ?_
      refine lv_icmp_ge (tgt := 34) hx hb dX12_layWays_11 (by decide) (fun c_11 => ?_) (fun c_11 => ?_)
      · rw [hv.1] at c_11
        have hk : n = k := by
          rcases Nat.lt_or_ge k n with q | q
          · exact absurd c_11 (nI_ge (a := k) (b := n) q (by omega))
          · omega
        subst hk
        refine lv_iconst (v := 1) hx hb dX12_layWays_34 (by decide) ?_
        refine lv_aload_n hx hb dX12_layWays_35 rfl (lv_at hl 0 rfl) ?_
        refine mo_get X w hm hin 0 (by decide) (List.mem_of_getElem? (i := 1) rfl) rfl dX12_layWays_36 ?_
        refine lv_iconst (v := 3) hx hb dX12_layWays_39 (by decide) ?_
        refine mo_ialdv X w hm 0 (by decide) (by decide) 3 rfl (by show _ < 1400; decide) (nI n) hv.1 dX12_layWays_40 ?_
        refine lv_ishl hx hb dX12_layWays_41 ?_
        refine lv_iconst (v := 1) hx hb dX12_layWays_42 (by decide) ?_
        refine lv_isub hx hb dX12_layWays_43 ?_
        refine lv_istore_n (lv' := [(2, .int (((1 <<< (nI n &&& 31)) - 1))), (0, .ref mo), (1, .int (lw_had (M 0) n))]) hx hb dX12_layWays_44 rfl hl (by decide) rfl (fun ls hl => ?_)
        refine lv_iload_n hx hb dX12_layWays_45 rfl (lv_at hl 0 rfl) ?_
        refine lv_istore_n (lv' := [(3, .int (((1 <<< (nI n &&& 31)) - 1))), (2, .int (((1 <<< (nI n &&& 31)) - 1))), (0, .ref mo), (1, .int (lw_had (M 0) n))]) hx hb dX12_layWays_46 rfl hl (by decide) rfl (fun ls hl => ?_)
        obtain ⟨hd, hhd⟩ : ∃ hd, hd = (lw_hN (M 0) n) := ⟨_, rfl⟩
        obtain ⟨hh1, hh2⟩ := lw_had_n ho n (Nat.le_refl n) hn6
        rw [← hhd] at hh1 hh2
        have hl := hs_lv hl (k := 3) rfl hh1
        have hp64 : 2 ^ n ≤ 64 := Nat.le_trans (Nat.pow_le_pow_right (by decide) hn6) (by decide)
        have hp1 : 1 ≤ 2 ^ n := Nat.one_le_two_pow
        have loopB : ∀ (q : Nat), q ≤ 2 ^ n → ∀ (G o : Nat → Int32), lw_ag (M 0) G n → lw_fill (M 0) n hd o q = lw_fill (M 0) n hd (M 15) (2 ^ n) → ∀ (H : Heap) (locs : List Loc) (ls : Array Slot), hg_W D b0 L (mo_F D f mo ma (lw_M M G o)) s.heap H locs → lv_has ls 6 [(0, .ref mo), (1, .int (nI hd)), (2, .int (nI (2 ^ n - 1))), (3, .int (nI q - 1))] → W p l e ({ frames := 6, cells := 0, slots := 0, locals := 138 }) s m args below meth c H locs 0 0 Q (F0 m 47 ls []) := by
          intro q
          induction q with
          | zero =>
            intro hq G o hag hT H locs ls w hl
            have hT : o = lw_fill (M 0) n hd (M 15) (2 ^ n) := hT
            refine lv_iload_n hx hb dX12_layWays_47 rfl (lv_at hl 3 rfl) ?_
            refine lv_if_lt (tgt := 205) hx hb dX12_layWays_48 (by decide) (fun c_48 => ?_) (fun c_48 => ?_)
            · refine lv_iconst (v := 0) hx hb dX12_layWays_205 (by decide) ?_
              refine lv_istore_n (lv' := [(3, .int (0)), (0, .ref mo), (1, .int (nI hd)), (2, .int (nI (2 ^ n - 1)))]) hx hb dX12_layWays_206 rfl hl (by decide) rfl (fun ls hl => ?_)
              have loopE : ∀ (n0 k : Nat), k ≤ n → n + 1 ≤ k + n0 → ∀ (H : Heap) (locs : List Loc) (ls : Array Slot), hg_W D b0 L (mo_F D f mo ma (lw_M M (lw_off G (nI hd) k) o)) s.heap H locs → lv_has ls 6 [(0, .ref mo), (1, .int (nI hd)), (3, .int (nI k))] → W p l e ({ frames := 6, cells := 0, slots := 0, locals := 138 }) s m args below meth c H locs 0 0 Q (F0 m 207 ls []) := by
                intro n0
                induction n0 with
                | zero =>
                  intro k h1 h2
                  exact absurd h2 (by omega)
                | succ n0 ihE =>
                  intro k hk hn0 H locs ls w hl
                  have hkE := lw_ok_c (lw_ag_off (k := k) hag hk (nI hd)) hv
                  refine lv_iload_n hx hb dX12_layWays_207 rfl (lv_at hl 2 rfl) ?_
                  refine lv_aload_n hx hb dX12_layWays_208 rfl (lv_at hl 0 rfl) ?_
                  refine mo_get X w hm hin 0 (by decide) (List.mem_of_getElem? (i := 1) rfl) rfl dX12_layWays_209 ?_
                  refine lv_iconst (v := 3) hx hb dX12_layWays_212 (by decide) ?_
                  refine mo_ialdv X w hm 0 (by decide) (by decide) 3 rfl (by show _ < 1400; omega) ((lw_off G (nI hd) k) 3) rfl dX12_layWays_213 ?_
                  refine lv_icmp_ge (tgt := 237) hx hb dX12_layWays_214 (by decide) (fun c_214 => ?_) (fun c_214 => ?_)
                  · rw [hkE.1] at c_214
                    have hk : n = k := by
                      rcases Nat.lt_or_ge k n with q | q
                      · exact absurd c_214 (nI_ge (a := k) (b := n) q (by omega))
                      · omega
                    subst hk
                    refine lv_aload_n hx hb dX12_layWays_237 rfl (lv_at hl 0 rfl) ?_
                    refine lv_iload_n hx hb dX12_layWays_238 rfl (lv_at hl 1 rfl) ?_
                    refine mo_put X w hm hin 16 (by decide) (List.mem_of_getElem? (i := 3) rfl) dX12_layWays_239 (fun H locs w => ?_)
                    rw [show lw_off G (nI hd) n = M 0 from by rw [hhd]; exact lw_back hn6 hag ho, hT] at w
                    exact hend H locs (L, mo_F D f mo ma (sp_lay M n)) _ ls (by
                      have e : sp_lay M n = mo_w (lw_M M (M 0) (lw_fill (M 0) n hd (M 15) (2 ^ n))) 16 0 (nI hd) := by
                        unfold sp_lay lw_M
                        rw [hs_up_id, ← hhd]
                      rw [e]
                      exact w) rfl dX12_layWays_242
                  · rw [hkE.1] at c_214
                    have hkl : k < n := by
                      rcases Nat.lt_or_ge k n with q | q
                      · exact q
                      · exact absurd (nI_le (a := n) (b := k) q (by omega)) c_214
                    refine lv_aload_n hx hb dX12_layWays_217 rfl (lv_at hl 0 rfl) ?_
                    refine mo_get X w hm hin 0 (by decide) (List.mem_of_getElem? (i := 1) rfl) rfl dX12_layWays_218 ?_
                    refine lv_bipush (v := 44) hx hb dX12_layWays_221 (by decide) ?_
                    refine lv_iload_n hx hb dX12_layWays_223 rfl (lv_at hl 2 rfl) ?_
                    refine lv_iadd hx hb dX12_layWays_224 ?_
                    refine lv_iload_n hx hb dX12_layWays_225 rfl (lv_at hl 1 rfl) ?_
                    refine lv_iload_n hx hb dX12_layWays_226 rfl (lv_at hl 2 rfl) ?_
                    refine lv_ishr hx hb dX12_layWays_227 ?_
                    refine lv_iconst (v := 1) hx hb dX12_layWays_228 (by decide) ?_
                    refine lv_iand hx hb dX12_layWays_229 ?_
                    refine mo_iast X w hm 0 (by decide) (by decide) (44 + k) (hs_addI rfl rfl) (by show _ < 1400; omega) dX12_layWays_230 (fun H locs w => ?_)
                    rw [lw_w0] at w
                    refine lv_iinc (v := nI k + 1) (lv' := [(3, .int (nI k + 1)), (0, .ref mo), (1, .int (nI hd))]) hx hb dX12_layWays_231 hl (k := 2) rfl rfl (by decide) rfl (fun ls hl => ?_)
                    refine lv_goto (tgt := 207) hx hb dX12_layWays_234 (by decide) ?_
                    rw [lw_off_s] at w
                    have hl := hs_lv hl (k := 0) rfl (nI_1 k)
                    exact ihE (k + 1) (by omega) (by omega) H locs ls w (lv_sub hl [1, 2, 0] rfl)
              exact loopE (n + 1) 0 (by omega) (by omega) H locs ls (by rw [lw_off_0]; exact w) (lv_sub hl [1, 2, 0] rfl)
            · exact absurd (by decide) c_48
          | succ q ihB =>
            intro hq G o hag hT H locs ls w hl
            have hq64 : q < 64 := by omega
            have hl := hs_lv hl (k := 3) rfl (nI_pred q)
            have hl : lv_has ls 6 [(0, .ref mo), (1, .int (nI hd)), (2, .int (nI (2 ^ n - 1))), (3, .int (nI q))] := hl
            refine lv_iload_n hx hb dX12_layWays_47 rfl (lv_at hl 3 rfl) ?_
            refine lv_if_lt (tgt := 205) hx hb dX12_layWays_48 (by decide) (fun c_48 => ?_) (fun c_48 => ?_)
            · exact absurd c_48 (nI_pos (n := q) (by omega))
            · refine lv_aload_n hx hb dX12_layWays_51 rfl (lv_at hl 0 rfl) ?_
              refine mo_get X w hm hin 15 (by decide) (List.mem_of_getElem? (i := 2) rfl) rfl dX12_layWays_52 ?_
              refine lv_iload_n hx hb dX12_layWays_55 rfl (lv_at hl 3 rfl) ?_
              refine lv_iconst (v := 0) hx hb dX12_layWays_56 (by decide) ?_
              refine mo_iast X w hm 15 (by decide) (by decide) q rfl (by show _ < 64; omega) dX12_layWays_57 (fun H locs w => ?_)
              rw [lw_w15] at w
              refine lv_iload_n hx hb dX12_layWays_58 rfl (lv_at hl 3 rfl) ?_
              refine lv_iload_n hx hb dX12_layWays_59 rfl (lv_at hl 1 rfl) ?_
              refine lv_iand hx hb dX12_layWays_60 ?_
              refine lv_iload_n hx hb dX12_layWays_61 rfl (lv_at hl 1 rfl) ?_
              refine lv_icmp_ne (tgt := 199) hx hb dX12_layWays_62 (by decide) (fun c_62 => ?_) (fun c_62 => ?_)
              · refine lv_iinc (v := nI q + (-1)) (lv' := [(3, .int (nI q + (-1))), (0, .ref mo), (1, .int (nI hd)), (2, .int (nI (2 ^ n - 1)))]) hx hb dX12_layWays_199 hl (k := 3) rfl rfl (by decide) rfl (fun ls hl => ?_)
                refine lv_goto (tgt := 47) hx hb dX12_layWays_202 (by decide) ?_
                have eO : (va_up o q 0) = va_up o q (lw_val (M 0) n hd o q) := by
                  unfold lw_val
                  rw [if_neg c_62]
                  (try rw [bx_uu])
                  (try rw [bx_uu])
                  (try rw [va_up_self])
                rw [eO] at w
                have hl := hs_lv hl (k := 0) rfl (hs_m1 (nI q))
                exact ihB (by omega) G _ hag (by rw [lw_fill] at hT; exact hT) H locs ls w (lv_sub hl [1, 2, 3, 0] rfl)
              · refine lv_iconst (v := 0) hx hb dX12_layWays_65 (by decide) ?_
                refine lv_istore (lv' := [(4, .int (0)), (0, .ref mo), (1, .int (nI hd)), (2, .int (nI (2 ^ n - 1))), (3, .int (nI q))]) hx hb dX12_layWays_66 hl (by decide) rfl (fun ls hl => ?_)
                have loopC : ∀ (n0 k : Nat), k ≤ n → n + 1 ≤ k + n0 → ∀ (H : Heap) (locs : List Loc) (ls : Array Slot), hg_W D b0 L (mo_F D f mo ma (lw_M M (lw_off G (nI q) k) (va_up o q 0))) s.heap H locs → lv_has ls 6 [(0, .ref mo), (1, .int (nI hd)), (2, .int (nI (2 ^ n - 1))), (3, .int (nI q)), (4, .int (nI k))] → W p l e ({ frames := 6, cells := 0, slots := 0, locals := 138 }) s m args below meth c H locs 0 0 Q (F0 m 68 ls []) := by
                  intro n0
                  induction n0 with
                  | zero =>
                    intro k h1 h2
                    exact absurd h2 (by omega)
                  | succ n0 ihC =>
                    intro k hk hn0 H locs ls w hl
                    have hkC : hs_ok (lw_M M (lw_off G (nI q) k) (va_up o q 0) 0) n nr := lw_ok_c (lw_ag_off (k := k) hag hk (nI q)) hv
                    refine lv_iload hx hb dX12_layWays_68 (lv_at hl 4 rfl) ?_
                    refine lv_aload_n hx hb dX12_layWays_70 rfl (lv_at hl 0 rfl) ?_
                    refine mo_get X w hm hin 0 (by decide) (List.mem_of_getElem? (i := 1) rfl) rfl dX12_layWays_71 ?_
                    refine lv_iconst (v := 3) hx hb dX12_layWays_74 (by decide) ?_
                    refine mo_ialdv X w hm 0 (by decide) (by decide) 3 rfl (by show _ < 1400; omega) ((lw_off G (nI q) k) 3) rfl dX12_layWays_75 ?_
                    refine lv_icmp_ge (tgt := 101) hx hb dX12_layWays_76 (by decide) (fun c_76 => ?_) (fun c_76 => ?_)
                    · rw [hkC.1] at c_76
                      have hk : n = k := by
                        rcases Nat.lt_or_ge k n with q | q
                        · exact absurd c_76 (nI_ge (a := k) (b := n) q (by omega))
                        · omega
                      subst hk
                      refine lv_aload_n hx hb dX12_layWays_101 rfl (lv_at hl 0 rfl) ?_
                      refine hg_viF (r := (hs_drop (lw_off G (nI q) n) n n)) (As := []) (rest := []) X w (c_X12_dropping l D b0 L f mo ma (lw_M M (lw_off G (nI q) n) (va_up o q 0)) hm n nr hkC) (cwV 0 hts gX12_layWays_X12_dropping rfl rfl rfl hdX12_dropping ⟨Nat.le_of_ble_eq_true rfl, Nat.le_of_ble_eq_true rfl⟩) hm.1 (mo_at0 D f mo ma _) rfl rfl rfl hl.1 rfl (Nat.le_of_ble_eq_true rfl) dX12_layWays_102 ⟨Nat.zero_le _, Nat.zero_le _⟩ (fun H locs w => ?_)
                      refine lv_if_ne (tgt := 112) hx hb dX12_layWays_105 (by decide) (fun c_105 => ?_) (fun c_105 => ?_)
                      · refine lv_iconst (v := 0) hx hb dX12_layWays_112 (by decide) ?_
                        refine lv_istore (lv' := [(4, .int (0)), (0, .ref mo), (1, .int (nI hd)), (2, .int (nI (2 ^ n - 1))), (3, .int (nI q))]) hx hb dX12_layWays_113 hl (by decide) rfl (fun ls hl => ?_)
                        refine lv_iconst (v := 0) hx hb dX12_layWays_115 (by decide) ?_
                        refine lv_istore (lv' := [(5, .int (0)), (4, .int (0)), (0, .ref mo), (1, .int (nI hd)), (2, .int (nI (2 ^ n - 1))), (3, .int (nI q))]) hx hb dX12_layWays_116 hl (by decide) rfl (fun ls hl => ?_)
                        refine lv_iload hx hb dX12_layWays_118 (lv_at hl 0 rfl) ?_
                        refine lv_aload_n hx hb dX12_layWays_120 rfl (lv_at hl 2 rfl) ?_
                        refine mo_get X w hm hin 0 (by decide) (List.mem_of_getElem? (i := 1) rfl) rfl dX12_layWays_121 ?_
                        refine lv_iconst (v := 3) hx hb dX12_layWays_124 (by decide) ?_
                        refine mo_ialdv X w hm 0 (by decide) (by decide) 3 rfl (by show _ < 1400; omega) ((lw_off G (nI q) n) 3) rfl dX12_layWays_125 ?_
                        refine lv_icmp_ge (tgt := 173) hx hb dX12_layWays_126 (by decide) (fun c_126 => ?_) (fun c_126 => ?_)
                        · refine lv_aload_n hx hb dX12_layWays_173 rfl (lv_at hl 2 rfl) ?_
                          refine mo_get X w hm hin 15 (by decide) (List.mem_of_getElem? (i := 2) rfl) rfl dX12_layWays_174 ?_
                          refine lv_iload_n hx hb dX12_layWays_177 rfl (lv_at hl 5 rfl) ?_
                          refine lv_iload hx hb dX12_layWays_178 (lv_at hl 1 rfl) ?_
                          refine lv_if_eq (tgt := 192) hx hb dX12_layWays_180 (by decide) (fun c_180 => ?_) (fun c_180 => ?_)
                          · refine lv_aload_n hx hb dX12_layWays_192 rfl (lv_at hl 2 rfl) ?_
                            refine mo_get X w hm hin 15 (by decide) (List.mem_of_getElem? (i := 2) rfl) rfl dX12_layWays_193 ?_
                            refine lv_iload_n hx hb dX12_layWays_196 rfl (lv_at hl 5 rfl) ?_
                            refine mo_ialdv X w hm 15 (by decide) (by decide) q rfl (by show _ < 64; omega) ((va_up o q 0) q) rfl dX12_layWays_197 ?_
                            refine mo_iast X w hm 15 (by decide) (by decide) q rfl (by show _ < 64; omega) dX12_layWays_198 (fun H locs w => ?_)
                            rw [lw_w15] at w
                            refine lv_iinc (v := nI q + (-1)) (lv' := [(3, .int (nI q + (-1))), (5, .int (0)), (4, .int (0)), (0, .ref mo), (1, .int (nI hd)), (2, .int (nI (2 ^ n - 1)))]) hx hb dX12_layWays_199 hl (k := 5) rfl rfl (by decide) rfl (fun ls hl => ?_)
                            refine lv_goto (tgt := 47) hx hb dX12_layWays_202 (by decide) ?_
                            have eO : (va_up (va_up o q 0) q ((va_up o q 0) q)) = va_up o q (lw_val (M 0) n hd o q) := by
                              unfold lw_val
                              rw [if_pos c_62, if_neg (by rw [← lw_off_c hag]; exact c_105)]
                              (try rw [bx_uu])
                              (try rw [bx_uu])
                              (try rw [va_up_self])
                            rw [eO] at w
                            have hl := hs_lv hl (k := 0) rfl (hs_m1 (nI q))
                            exact ihB (by omega) (lw_off G (nI q) n) _ (lw_ag_off hag (Nat.le_refl n) _) (by rw [lw_fill] at hT; exact hT) H locs ls w (lv_sub hl [3, 4, 5, 0] rfl)
                          · exact absurd c_180 (by decide)
                        · refine lv_iload hx hb dX12_layWays_129 (lv_at hl 1 rfl) ?_
                          refine lv_if_eq (tgt := 173) hx hb dX12_layWays_131 (by decide) (fun c_131 => ?_) (fun c_131 => ?_)
                          · refine lv_aload_n hx hb dX12_layWays_173 rfl (lv_at hl 2 rfl) ?_
                            refine mo_get X w hm hin 15 (by decide) (List.mem_of_getElem? (i := 2) rfl) rfl dX12_layWays_174 ?_
                            refine lv_iload_n hx hb dX12_layWays_177 rfl (lv_at hl 5 rfl) ?_
                            refine lv_iload hx hb dX12_layWays_178 (lv_at hl 1 rfl) ?_
                            refine lv_if_eq (tgt := 192) hx hb dX12_layWays_180 (by decide) (fun c_180 => ?_) (fun c_180 => ?_)
                            · refine lv_aload_n hx hb dX12_layWays_192 rfl (lv_at hl 2 rfl) ?_
                              refine mo_get X w hm hin 15 (by decide) (List.mem_of_getElem? (i := 2) rfl) rfl dX12_layWays_193 ?_
                              refine lv_iload_n hx hb dX12_layWays_196 rfl (lv_at hl 5 rfl) ?_
                              refine mo_ialdv X w hm 15 (by decide) (by decide) q rfl (by show _ < 64; omega) ((va_up o q 0) q) rfl dX12_layWays_197 ?_
                              refine mo_iast X w hm 15 (by decide) (by decide) q rfl (by show _ < 64; omega) dX12_layWays_198 (fun H locs w => ?_)
                              rw [lw_w15] at w
                              refine lv_iinc (v := nI q + (-1)) (lv' := [(3, .int (nI q + (-1))), (5, .int (0)), (4, .int (0)), (0, .ref mo), (1, .int (nI hd)), (2, .int (nI (2 ^ n - 1)))]) hx hb dX12_layWays_199 hl (k := 5) rfl rfl (by decide) rfl (fun ls hl => ?_)
                              refine lv_goto (tgt := 47) hx hb dX12_layWays_202 (by decide) ?_
                              have eO : (va_up (va_up o q 0) q ((va_up o q 0) q)) = va_up o q (lw_val (M 0) n hd o q) := by
                                unfold lw_val
                                rw [if_pos c_62, if_neg (by rw [← lw_off_c hag]; exact c_105)]
                                (try rw [bx_uu])
                                (try rw [bx_uu])
                                (try rw [va_up_self])
                              rw [eO] at w
                              have hl := hs_lv hl (k := 0) rfl (hs_m1 (nI q))
                              exact ihB (by omega) (lw_off G (nI q) n) _ (lw_ag_off hag (Nat.le_refl n) _) (by rw [lw_fill] at hT; exact hT) H locs ls w (lv_sub hl [3, 4, 5, 0] rfl)
                            · exact absurd c_180 (by decide)
                          · exact absurd c_131 (by decide)
                      · refine lv_iconst (v := 1) hx hb dX12_layWays_108 (by decide) ?_
                        refine lv_goto (tgt := 113) hx hb dX12_layWays_109 (by decide) ?_
                        refine lv_istore (lv' := [(4, .int (1)), (0, .ref mo), (1, .int (nI hd)), (2, .int (nI (2 ^ n - 1))), (3, .int (nI q))]) hx hb dX12_layWays_113 hl (by decide) rfl (fun ls hl => ?_)
                        refine lv_iconst (v := 0) hx hb dX12_layWays_115 (by decide) ?_
                        refine lv_istore (lv' := [(5, .int (0)), (4, .int (1)), (0, .ref mo), (1, .int (nI hd)), (2, .int (nI (2 ^ n - 1))), (3, .int (nI q))]) hx hb dX12_layWays_116 hl (by decide) rfl (fun ls hl => ?_)
                        have loopD : ∀ (n0 k : Nat), k ≤ n → n + 1 ≤ k + n0 → ∀ (H : Heap) (locs : List Loc) (ls : Array Slot), hg_W D b0 L (mo_F D f mo ma (lw_M M (lw_off G (nI q) n) (va_up o q (lw_sum o q k)))) s.heap H locs → lv_has ls 6 [(0, .ref mo), (1, .int (nI hd)), (2, .int (nI (2 ^ n - 1))), (3, .int (nI q)), (4, .int (1)), (5, .int (nI k))] → W p l e ({ frames := 6, cells := 0, slots := 0, locals := 138 }) s m args below meth c H locs 0 0 Q (F0 m 118 ls []) := by
                          intro n0
                          induction n0 with
                          | zero =>
                            intro k h1 h2
                            exact absurd h2 (by omega)
                          | succ n0 ihD =>
                            intro k hk hn0 H locs ls w hl
                            refine lv_iload hx hb dX12_layWays_118 (lv_at hl 5 rfl) ?_
                            refine lv_aload_n hx hb dX12_layWays_120 rfl (lv_at hl 0 rfl) ?_
                            refine mo_get X w hm hin 0 (by decide) (List.mem_of_getElem? (i := 1) rfl) rfl dX12_layWays_121 ?_
                            refine lv_iconst (v := 3) hx hb dX12_layWays_124 (by decide) ?_
                            refine mo_ialdv X w hm 0 (by decide) (by decide) 3 rfl (by show _ < 1400; omega) ((lw_off G (nI q) n) 3) rfl dX12_layWays_125 ?_
                            refine lv_icmp_ge (tgt := 173) hx hb dX12_layWays_126 (by decide) (fun c_126 => ?_) (fun c_126 => ?_)
                            · rw [hkC.1] at c_126
                              have hk : n = k := by
                                rcases Nat.lt_or_ge k n with q | q
                                · exact absurd c_126 (nI_ge (a := k) (b := n) q (by omega))
                                · omega
                              subst hk
                              refine lv_aload_n hx hb dX12_layWays_173 rfl (lv_at hl 0 rfl) ?_
                              refine mo_get X w hm hin 15 (by decide) (List.mem_of_getElem? (i := 2) rfl) rfl dX12_layWays_174 ?_
                              refine lv_iload_n hx hb dX12_layWays_177 rfl (lv_at hl 3 rfl) ?_
                              refine lv_iload hx hb dX12_layWays_178 (lv_at hl 4 rfl) ?_
                              refine lv_if_eq (tgt := 192) hx hb dX12_layWays_180 (by decide) (fun c_180 => ?_) (fun c_180 => ?_)
                              · exact absurd c_180 (by decide)
                              · refine lv_iload_n hx hb dX12_layWays_183 rfl (lv_at hl 3 rfl) ?_
                                refine lv_iload_n hx hb dX12_layWays_184 rfl (lv_at hl 2 rfl) ?_
                                refine lv_icmp_ne (tgt := 192) hx hb dX12_layWays_185 (by decide) (fun c_185 => ?_) (fun c_185 => ?_)
                                · refine lv_aload_n hx hb dX12_layWays_192 rfl (lv_at hl 0 rfl) ?_
                                  refine mo_get X w hm hin 15 (by decide) (List.mem_of_getElem? (i := 2) rfl) rfl dX12_layWays_193 ?_
                                  refine lv_iload_n hx hb dX12_layWays_196 rfl (lv_at hl 3 rfl) ?_
                                  refine mo_ialdv X w hm 15 (by decide) (by decide) q rfl (by show _ < 64; omega) ((va_up o q (lw_sum o q n)) q) rfl dX12_layWays_197 ?_
                                  refine mo_iast X w hm 15 (by decide) (by decide) q rfl (by show _ < 64; omega) dX12_layWays_198 (fun H locs w => ?_)
                                  rw [lw_w15] at w
                                  refine lv_iinc (v := nI q + (-1)) (lv' := [(3, .int (nI q + (-1))), (0, .ref mo), (1, .int (nI hd)), (2, .int (nI (2 ^ n - 1))), (4, .int (1)), (5, .int (nI n))]) hx hb dX12_layWays_199 hl (k := 3) rfl rfl (by decide) rfl (fun ls hl => ?_)
                                  refine lv_goto (tgt := 47) hx hb dX12_layWays_202 (by decide) ?_
                                  have eO : (va_up (va_up o q (lw_sum o q n)) q ((va_up o q (lw_sum o q n)) q)) = va_up o q (lw_val (M 0) n hd o q) := by
                                    unfold lw_val
                                    rw [if_pos c_62, if_pos (by rw [← lw_off_c hag]; exact c_105), if_neg (fun z => c_185 (by rw [z]))]
                                    (try rw [bx_uu])
                                    (try rw [bx_uu])
                                    (try rw [va_up_self])
                                  rw [eO] at w
                                  have hl := hs_lv hl (k := 0) rfl (hs_m1 (nI q))
                                  exact ihB (by omega) (lw_off G (nI q) n) _ (lw_ag_off hag (Nat.le_refl n) _) (by rw [lw_fill] at hT; exact hT) H locs ls w (lv_sub hl [1, 2, 3, 0] rfl)
                                · refine lv_iconst (v := 1) hx hb dX12_layWays_188 (by decide) ?_
                                  refine lv_goto (tgt := 198) hx hb dX12_layWays_189 (by decide) ?_
                                  refine mo_iast X w hm 15 (by decide) (by decide) q rfl (by show _ < 64; omega) dX12_layWays_198 (fun H locs w => ?_)
                                  rw [lw_w15] at w
                                  refine lv_iinc (v := nI q + (-1)) (lv' := [(3, .int (nI q + (-1))), (0, .ref mo), (1, .int (nI hd)), (2, .int (nI (2 ^ n - 1))), (4, .int (1)), (5, .int (nI n))]) hx hb dX12_layWays_199 hl (k := 3) rfl rfl (by decide) rfl (fun ls hl => ?_)
                                  refine lv_goto (tgt := 47) hx hb dX12_layWays_202 (by decide) ?_
                                  have eO : (va_up (va_up o q (lw_sum o q n)) q 1) = va_up o q (lw_val (M 0) n hd o q) := by
                                    unfold lw_val
                                    rw [if_pos c_62, if_pos (by rw [← lw_off_c hag]; exact c_105), if_pos ((nI_eq (by omega) (by omega)).mp c_185)]
                                    (try rw [bx_uu])
                                    (try rw [bx_uu])
                                    (try rw [va_up_self])
                                  rw [eO] at w
                                  have hl := hs_lv hl (k := 0) rfl (hs_m1 (nI q))
                                  exact ihB (by omega) (lw_off G (nI q) n) _ (lw_ag_off hag (Nat.le_refl n) _) (by rw [lw_fill] at hT; exact hT) H locs ls w (lv_sub hl [1, 2, 3, 0] rfl)
                            · rw [hkC.1] at c_126
                              have hkl : k < n := by
                                rcases Nat.lt_or_ge k n with q | q
                                · exact q
                                · exact absurd (nI_le (a := n) (b := k) q (by omega)) c_126
                              refine lv_iload hx hb dX12_layWays_129 (lv_at hl 4 rfl) ?_
                              refine lv_if_eq (tgt := 173) hx hb dX12_layWays_131 (by decide) (fun c_131 => ?_) (fun c_131 => ?_)
                              · exact absurd c_131 (by decide)
                              · refine lv_aload_n hx hb dX12_layWays_134 rfl (lv_at hl 0 rfl) ?_
                                refine mo_get X w hm hin 15 (by decide) (List.mem_of_getElem? (i := 2) rfl) rfl dX12_layWays_135 ?_
                                refine lv_iload_n hx hb dX12_layWays_138 rfl (lv_at hl 3 rfl) ?_
                                refine lv_dup2_11 hx hb dX12_layWays_139 rfl rfl ?_
                                refine mo_ialdv X w hm 15 (by decide) (by decide) q rfl (by show _ < 64; omega) ((va_up o q (lw_sum o q k)) q) rfl dX12_layWays_140 ?_
                                refine lv_iload_n hx hb dX12_layWays_141 rfl (lv_at hl 3 rfl) ?_
                                refine lv_iload hx hb dX12_layWays_142 (lv_at hl 5 rfl) ?_
                                refine hg_siF (r := hs_has (nI q) (nI k)) (As := [.int (nI q), .int (nI k)]) (rest := [.int ((va_up o q (lw_sum o q k)) q), .int (nI q), .ref (ma 15)]) X w (c_X12_has l D b0 L _ (nI q) (nI k)) (va_cwS 2 hts gX12_layWays_X12_has rfl rfl rfl hdX12_has ⟨Nat.le_of_ble_eq_true rfl, Nat.le_of_ble_eq_true rfl⟩) rfl hl.1 rfl (Nat.le_of_ble_eq_true rfl) dX12_layWays_144 ⟨Nat.zero_le _, Nat.zero_le _⟩ (fun H locs w => ?_)
                                refine lv_if_eq (tgt := 154) hx hb dX12_layWays_147 (by decide) (fun c_147 => ?_) (fun c_147 => ?_)
                                · refine lv_aload_n hx hb dX12_layWays_154 rfl (lv_at hl 0 rfl) ?_
                                  refine mo_get X w hm hin 15 (by decide) (List.mem_of_getElem? (i := 2) rfl) rfl dX12_layWays_155 ?_
                                  refine lv_iload_n hx hb dX12_layWays_158 rfl (lv_at hl 3 rfl) ?_
                                  refine lv_iconst (v := 1) hx hb dX12_layWays_159 (by decide) ?_
                                  refine lv_iload hx hb dX12_layWays_160 (lv_at hl 5 rfl) ?_
                                  refine lv_ishl hx hb dX12_layWays_162 ?_
                                  refine lv_ior hx hb dX12_layWays_163 ?_
                                  refine mo_ialdv X w hm 15 (by decide) (by decide) ((q ||| 2 ^ k)) (lw_or q hq64 k (by omega)).1 (by show _ < 64; exact (lw_or q hq64 k (by omega)).2.1) ((va_up o q (lw_sum o q k)) ((q ||| 2 ^ k))) rfl dX12_layWays_164 ?_
                                  refine lv_iadd hx hb dX12_layWays_165 ?_
                                  refine mo_iast X w hm 15 (by decide) (by decide) q rfl (by show _ < 64; omega) dX12_layWays_166 (fun H locs w => ?_)
                                  rw [lw_w15] at w
                                  refine lv_iinc (v := nI k + 1) (lv' := [(5, .int (nI k + 1)), (0, .ref mo), (1, .int (nI hd)), (2, .int (nI (2 ^ n - 1))), (3, .int (nI q)), (4, .int (1))]) hx hb dX12_layWays_167 hl (k := 5) rfl rfl (by decide) rfl (fun ls hl => ?_)
                                  refine lv_goto (tgt := 118) hx hb dX12_layWays_170 (by decide) ?_
                                  have hbk : q.testBit k = false := by
                                    have := lw_hasN q hq64 k (by omega)
                                    rw [c_147] at this
                                    cases hb : q.testBit k with
                                    | false => rfl
                                    | true => rw [hb, if_pos rfl] at this; exact absurd this (by decide)
                                  have hne : q ||| 2 ^ k ≠ q := by have := (lw_or q hq64 k (by omega)).2.2.2 hbk; omega
                                  have eS : va_up (va_up o q (lw_sum o q k)) q ((va_up o q (lw_sum o q k)) q + (va_up o q (lw_sum o q k)) (q ||| 2 ^ k)) = va_up o q (lw_sum o q (k + 1)) := by
                                    rw [va_up_self, va_up_ne _ _ hne, bx_uu, lw_sum, if_neg (by rw [hbk]; decide)]
                                  rw [eS] at w
                                  have hl := hs_lv hl (k := 0) rfl (nI_1 k)
                                  exact ihD (k + 1) (by omega) (by omega) H locs ls w (lv_sub hl [1, 2, 3, 4, 5, 0] rfl)
                                · refine lv_iconst (v := 0) hx hb dX12_layWays_150 (by decide) ?_
                                  refine lv_goto (tgt := 165) hx hb dX12_layWays_151 (by decide) ?_
                                  refine lv_iadd hx hb dX12_layWays_165 ?_
                                  refine mo_iast X w hm 15 (by decide) (by decide) q rfl (by show _ < 64; omega) dX12_layWays_166 (fun H locs w => ?_)
                                  rw [lw_w15] at w
                                  refine lv_iinc (v := nI k + 1) (lv' := [(5, .int (nI k + 1)), (0, .ref mo), (1, .int (nI hd)), (2, .int (nI (2 ^ n - 1))), (3, .int (nI q)), (4, .int (1))]) hx hb dX12_layWays_167 hl (k := 5) rfl rfl (by decide) rfl (fun ls hl => ?_)
                                  refine lv_goto (tgt := 118) hx hb dX12_layWays_170 (by decide) ?_
                                  have hbk : q.testBit k = true := by
                                    have := lw_hasN q hq64 k (by omega)
                                    cases hb : q.testBit k with
                                    | true => rfl
                                    | false => rw [hb, if_neg (by decide)] at this; exact absurd this c_147
                                  have eS : va_up (va_up o q (lw_sum o q k)) q ((va_up o q (lw_sum o q k)) q + 0) = va_up o q (lw_sum o q (k + 1)) := by
                                    rw [va_up_self, bx_uu, lw_sum, if_pos hbk]
                                  rw [eS] at w
                                  have hl := hs_lv hl (k := 0) rfl (nI_1 k)
                                  exact ihD (k + 1) (by omega) (by omega) H locs ls w (lv_sub hl [1, 2, 3, 4, 5, 0] rfl)
                        exact loopD (n + 1) 0 (by omega) (by omega) H locs ls w (lv_sub hl [2, 3, 4, 5, 1, 0] rfl)
                    · rw [hkC.1] at c_76
                      have hkl : k < n := by
                        rcases Nat.lt_or_ge k n with q | q
                        · exact q
                        · exact absurd (nI_le (a := n) (b := k) q (by omega)) c_76
                      refine lv_aload_n hx hb dX12_layWays_79 rfl (lv_at hl 0 rfl) ?_
                      refine mo_get X w hm hin 0 (by decide) (List.mem_of_getElem? (i := 1) rfl) rfl dX12_layWays_80 ?_
                      refine lv_bipush (v := 44) hx hb dX12_layWays_83 (by decide) ?_
                      refine lv_iload hx hb dX12_layWays_85 (lv_at hl 4 rfl) ?_
                      refine lv_iadd hx hb dX12_layWays_87 ?_
                      refine lv_iload_n hx hb dX12_layWays_88 rfl (lv_at hl 3 rfl) ?_
                      refine lv_iload hx hb dX12_layWays_89 (lv_at hl 4 rfl) ?_
                      refine lv_ishr hx hb dX12_layWays_91 ?_
                      refine lv_iconst (v := 1) hx hb dX12_layWays_92 (by decide) ?_
                      refine lv_iand hx hb dX12_layWays_93 ?_
                      refine mo_iast X w hm 0 (by decide) (by decide) (44 + k) (hs_addI rfl rfl) (by show _ < 1400; omega) dX12_layWays_94 (fun H locs w => ?_)
                      rw [lw_w0] at w
                      refine lv_iinc (v := nI k + 1) (lv' := [(4, .int (nI k + 1)), (0, .ref mo), (1, .int (nI hd)), (2, .int (nI (2 ^ n - 1))), (3, .int (nI q))]) hx hb dX12_layWays_95 hl (k := 4) rfl rfl (by decide) rfl (fun ls hl => ?_)
                      refine lv_goto (tgt := 68) hx hb dX12_layWays_98 (by decide) ?_
                      rw [lw_off_s] at w
                      have hl := hs_lv hl (k := 0) rfl (nI_1 k)
                      exact ihC (k + 1) (by omega) (by omega) H locs ls w (lv_sub hl [1, 2, 3, 4, 0] rfl)
                exact loopC (n + 1) 0 (by omega) (by omega) H locs ls (by rw [lw_off_0]; exact w) (lv_sub hl [1, 2, 3, 4, 0] rfl)
        have hall := lw_all n (by omega)
        have hl := hs_lv hl (k := 1) rfl hall
        have hl := hs_lv hl (k := 0) rfl (hall.trans (show nI (2 ^ n - 1) = nI (2 ^ n) - 1 from by rw [show 2 ^ n = (2 ^ n - 1) + 1 by omega, nI_pred, Nat.add_sub_cancel]))
        exact loopB (2 ^ n) (Nat.le_refl _) (M 0) (M 15) (lw_ag_r _ _) rfl H locs ls (by rw [lw_M_r]; exact w) (lv_sub hl [2, 3, 1, 0] rfl)
      · rw [hv.1] at c_11
        have hkl : k < n := by
          rcases Nat.lt_or_ge k n with q | q
          · exact q
          · exact absurd (nI_le (a := n) (b := k) q (by omega)) c_11
        refine lv_iload_n hx hb dX12_layWays_14 rfl (lv_at hl 1 rfl) ?_
        refine lv_aload_n hx hb dX12_layWays_15 rfl (lv_at hl 0 rfl) ?_
        refine mo_get X w hm hin 0 (by decide) (List.mem_of_getElem? (i := 1) rfl) rfl dX12_layWays_16 ?_
        refine lv_bipush (v := 44) hx hb dX12_layWays_19 (by decide) ?_
        refine lv_iload_n hx hb dX12_layWays_21 rfl (lv_at hl 2 rfl) ?_
        refine lv_iadd hx hb dX12_layWays_22 ?_
        refine mo_iald X w hm 0 (by decide) (by decide) (44 + k) (hs_addI rfl rfl) (by show _ < 1400; omega) dX12_layWays_23 ?_
        refine lv_iload_n hx hb dX12_layWays_24 rfl (lv_at hl 2 rfl) ?_
        refine lv_ishl hx hb dX12_layWays_25 ?_
        refine lv_ior hx hb dX12_layWays_26 ?_
        refine lv_istore_n (lv' := [(1, .int ((lw_had (M 0) k ||| (M 0 (44 + k) <<< (nI k &&& 31))))), (0, .ref mo), (2, .int (nI k))]) hx hb dX12_layWays_27 rfl hl (by decide) rfl (fun ls hl => ?_)
        refine lv_iinc (v := nI k + 1) (lv' := [(2, .int (nI k + 1)), (1, .int ((lw_had (M 0) k ||| (M 0 (44 + k) <<< (nI k &&& 31))))), (0, .ref mo)]) hx hb dX12_layWays_28 hl (k := 2) rfl rfl (by decide) rfl (fun ls hl => ?_)
        refine lv_goto (tgt := 4) hx hb dX12_layWays_31 (by decide) ?_
        have hl := hs_lv hl (k := 0) rfl (nI_1 k)
        exact ih (k + 1) (by omega) (by omega) H locs ls w (lv_sub hl [2, 1, 0] rfl)
  exact loopA (n + 1) 0 (by omega) (by omega) H locs ls w (lv_sub hl [2, 1, 0] rfl)
