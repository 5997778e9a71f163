set_option maxRecDepth 100000 in
set_option maxHeartbeats 4000000 in
theorem c_X6_init (l : Launch) (D : va_G) (b0 : Nat) (L : List Nat) (f : Nat → va_E) (a : Nat) (ha : a ∈ L) (ci : Nat) (hci : al_five ci) (hf : f a = .inr (ci, al_z7)) : hg_Mv l yX6_init wsX6_init ({ frames := 1, cells := 0, slots := 0, locals := 12 }) D b0 L (f) [.ref a] (fun u => u = (L, f)) 0 0 := by
  refine hg_in_v (cc := cX6_init) (nL := 1) (by decide) rfl (Nat.le_of_ble_eq_true rfl) (fun p e s m args below meth c R Q X hname hR hend H locs ls w hl => ?_)
  subst hR
  obtain ⟨hx, hb, hml, hown, hts⟩ := id X.1
  have hin : mk_in wsX6_init := ⟨fun w h => List.mem_cons_of_mem _ (List.mem_append_left _ (List.mem_append_left _ (List.mem_append_left _ (List.mem_append_left _ (List.mem_append_right _ h))))), fun w h => List.mem_cons_of_mem _ (List.mem_append_left _ (List.mem_append_left _ (List.mem_append_left _ (List.mem_append_right _ h)))), fun w h => List.mem_cons_of_mem _ (List.mem_append_left _ (List.mem_append_left _ (List.mem_append_right _ h))), fun w h => List.mem_cons_of_mem _ (List.mem_append_left _ (List.mem_append_right _ h)), fun w h => List.mem_cons_of_mem _ (List.mem_append_right _ h)⟩
  have hl : lv_has ls 1 [(0, .ref a)] := hl
  refine lv_aload_n hx hb dX6_init_0 rfl (lv_at hl 0 rfl) ?_
  refine W.objInit hx hb hown (hts _ (List.mem_of_getElem? (i := 1) rfl)) (hts _ (List.mem_of_getElem? (i := 2) rfl)) (hts _ (List.mem_of_getElem? (i := 3) rfl)) rfl (by rw [hml]; exact hl.1) rfl dX6_init_1 (Nat.le_of_ble_eq_true rfl) (Nat.le_of_ble_eq_true rfl) ?_
  refine lv_aload_n hx hb dX6_init_4 rfl (lv_at hl 0 rfl) ?_
  refine lv_iconst (v := 0) hx hb dX6_init_5 (by decide) ?_
  refine hg_put0 X w hin ha hci hf 0 (by decide) (List.mem_of_getElem? (i := 4) rfl) dX6_init_6 (fun H locs w => ?_)
  refine lv_aload_n hx hb dX6_init_9 rfl (lv_at hl 0 rfl) ?_
  refine lv_iconst (v := 0) hx hb dX6_init_10 (by decide) ?_
  refine hg_put0 X w hin ha hci hf 1 (by decide) (List.mem_of_getElem? (i := 5) rfl) dX6_init_11 (fun H locs w => ?_)
  refine lv_aload_n hx hb dX6_init_14 rfl (lv_at hl 0 rfl) ?_
  refine lv_iconst (v := 0) hx hb dX6_init_15 (by decide) ?_
  refine hg_put0 X w hin ha hci hf 2 (by decide) (List.mem_of_getElem? (i := 6) rfl) dX6_init_16 (fun H locs w => ?_)
  refine lv_aload_n hx hb dX6_init_19 rfl (lv_at hl 0 rfl) ?_
  refine lv_iconst (v := 0) hx hb dX6_init_20 (by decide) ?_
  refine hg_put0 X w hin ha hci hf 3 (by decide) (List.mem_of_getElem? (i := 7) rfl) dX6_init_21 (fun H locs w => ?_)
  refine lv_aload_n hx hb dX6_init_24 rfl (lv_at hl 0 rfl) ?_
  refine lv_iconst (v := 0) hx hb dX6_init_25 (by decide) ?_
  refine hg_put0 X w hin ha hci hf 4 (by decide) (List.mem_of_getElem? (i := 8) rfl) dX6_init_26 (fun H locs w => ?_)
  refine lv_aload_n hx hb dX6_init_29 rfl (lv_at hl 0 rfl) ?_
  refine lv_iconst (v := 0) hx hb dX6_init_30 (by decide) ?_
  refine hg_put0 X w hin ha hci hf 5 (by decide) (List.mem_of_getElem? (i := 9) rfl) dX6_init_31 (fun H locs w => ?_)
  refine lv_aload_n hx hb dX6_init_34 rfl (lv_at hl 0 rfl) ?_
  refine lv_iconst (v := 0) hx hb dX6_init_35 (by decide) ?_
  refine hg_put0 X w hin ha hci hf 6 (by decide) (List.mem_of_getElem? (i := 10) rfl) dX6_init_36 (fun H locs w => ?_)
  exact hend H locs (L, f) _ ls w rfl dX6_init_39
theorem hdX6_init : yX6_init.cls ≠ "java/lang/invoke/MethodHandle" ∧ yX6_init.cls ≠ "java/lang/invoke/VarHandle" ∧ (parseMethodDescriptor yX6_init.desc).map (fun d => d.parameters.length) = some 0 := by decide +kernel
set_option maxRecDepth 100000 in
set_option maxHeartbeats 4000000 in
theorem c_X7_init (l : Launch) (D : va_G) (b0 : Nat) (L : List Nat) (f : Nat → va_E) (a : Nat) (ha : a ∈ L) (ci : Nat) (hci : al_five ci) (hf : f a = .inr (ci, al_z7)) : hg_Mv l yX7_init wsX7_init ({ frames := 2, cells := 0, slots := 0, locals := 32 }) D b0 L (f) [.ref a] (fun u => u = (L, f)) 0 0 := by
  refine hg_in_v (cc := cX7_init) (nL := 1) (by decide) rfl (Nat.le_of_ble_eq_true rfl) (fun p e s m args below meth c R Q X hname hR hend H locs ls w hl => ?_)
  subst hR
  obtain ⟨hx, hb, hml, hown, hts⟩ := id X.1
  have hin : mk_in wsX7_init := ⟨fun w h => List.mem_cons_of_mem _ (List.mem_append_left _ (List.mem_append_left _ (List.mem_append_left _ (List.mem_append_left _ (List.mem_append_right _ h))))), fun w h => List.mem_cons_of_mem _ (List.mem_append_left _ (List.mem_append_left _ (List.mem_append_left _ (List.mem_append_right _ h)))), fun w h => List.mem_cons_of_mem _ (List.mem_append_left _ (List.mem_append_left _ (List.mem_append_right _ h))), fun w h => List.mem_cons_of_mem _ (List.mem_append_left _ (List.mem_append_right _ h)), fun w h => List.mem_cons_of_mem _ (List.mem_append_right _ h)⟩
  have hl : lv_has ls 1 [(0, .ref a)] := hl
  refine lv_aload_n hx hb dX7_init_0 rfl (lv_at hl 0 rfl) ?_
  refine hg_initN (As := []) (rest := []) X w (c_X6_init l D b0 L f a ha ci hci hf) ⟨va_cnB 0 hts ggX7_init_X6_init rfl rfl rfl (X.2.1.2.1 (_, _, _) (List.mem_of_getElem? (i := 11) rfl)) (hts _ (List.mem_of_getElem? (i := 2) rfl)) hdX6_init ⟨Nat.le_of_ble_eq_true rfl, Nat.le_of_ble_eq_true rfl⟩, rfl, hts _ (List.mem_of_getElem? (i := 1) rfl)⟩ rfl hl.1 rfl (Nat.le_of_ble_eq_true rfl) dX7_init_1 ⟨(Nat.le_of_ble_eq_true rfl), (Nat.le_of_ble_eq_true rfl)⟩ (fun u H locs hp w => ?_)
  subst hp
  exact hend H locs (L, f) _ ls w rfl dX7_init_4
set_option maxRecDepth 100000 in
set_option maxHeartbeats 4000000 in
theorem c_X4_init (l : Launch) (D : va_G) (b0 : Nat) (L : List Nat) (f : Nat → va_E) (a : Nat) (ha : a ∈ L) (ci : Nat) (hci : al_five ci) (hf : f a = .inr (ci, al_z7)) : hg_Mv l yX4_init wsX4_init ({ frames := 2, cells := 0, slots := 0, locals := 32 }) D b0 L (f) [.ref a] (fun u => u = (L, f)) 0 0 := by
  refine hg_in_v (cc := cX4_init) (nL := 1) (by decide) rfl (Nat.le_of_ble_eq_true rfl) (fun p e s m args below meth c R Q X hname hR hend H locs ls w hl => ?_)
  subst hR
  obtain ⟨hx, hb, hml, hown, hts⟩ := id X.1
  have hin : mk_in wsX4_init := ⟨fun w h => List.mem_cons_of_mem _ (List.mem_append_left _ (List.mem_append_left _ (List.mem_append_left _ (List.mem_append_left _ (List.mem_append_right _ h))))), fun w h => List.mem_cons_of_mem _ (List.mem_append_left _ (List.mem_append_left _ (List.mem_append_left _ (List.mem_append_right _ h)))), fun w h => List.mem_cons_of_mem _ (List.mem_append_left _ (List.mem_append_left _ (List.mem_append_right _ h))), fun w h => List.mem_cons_of_mem _ (List.mem_append_left _ (List.mem_append_right _ h)), fun w h => List.mem_cons_of_mem _ (List.mem_append_right _ h)⟩
  have hl : lv_has ls 1 [(0, .ref a)] := hl
  refine lv_aload_n hx hb dX4_init_0 rfl (lv_at hl 0 rfl) ?_
  refine hg_initN (As := []) (rest := []) X w (c_X6_init l D b0 L f a ha ci hci hf) ⟨va_cnB 0 hts ggX4_init_X6_init rfl rfl rfl (X.2.1.2.1 (_, _, _) (List.mem_of_getElem? (i := 5) rfl)) (hts _ (List.mem_of_getElem? (i := 2) rfl)) hdX6_init ⟨Nat.le_of_ble_eq_true rfl, Nat.le_of_ble_eq_true rfl⟩, rfl, hts _ (List.mem_of_getElem? (i := 1) rfl)⟩ rfl hl.1 rfl (Nat.le_of_ble_eq_true rfl) dX4_init_1 ⟨(Nat.le_of_ble_eq_true rfl), (Nat.le_of_ble_eq_true rfl)⟩ (fun u H locs hp w => ?_)
  subst hp
  exact hend H locs (L, f) _ ls w rfl dX4_init_4
theorem hdX7_init : yX7_init.cls ≠ "java/lang/invoke/MethodHandle" ∧ yX7_init.cls ≠ "java/lang/invoke/VarHandle" ∧ (parseMethodDescriptor yX7_init.desc).map (fun d => d.parameters.length) = some 0 := by decide +kernel
set_option maxRecDepth 100000 in
set_option maxHeartbeats 4000000 in
theorem c_X0_init (l : Launch) (D : va_G) (b0 : Nat) (L : List Nat) (f : Nat → va_E) (a : Nat) (ha : a ∈ L) (ci : Nat) (hci : al_five ci) (hf : f a = .inr (ci, al_z7)) : hg_Mv l yX0_init wsX0_init ({ frames := 3, cells := 0, slots := 0, locals := 52 }) D b0 L (f) [.ref a] (fun u => u = (L, f)) 0 0 := by
  refine hg_in_v (cc := cX0_init) (nL := 1) (by decide) rfl (Nat.le_of_ble_eq_true rfl) (fun p e s m args below meth c R Q X hname hR hend H locs ls w hl => ?_)
  subst hR
  obtain ⟨hx, hb, hml, hown, hts⟩ := id X.1
  have hin : mk_in wsX0_init := ⟨fun w h => List.mem_cons_of_mem _ (List.mem_append_left _ (List.mem_append_left _ (List.mem_append_left _ (List.mem_append_left _ (List.mem_append_right _ h))))), fun w h => List.mem_cons_of_mem _ (List.mem_append_left _ (List.mem_append_left _ (List.mem_append_left _ (List.mem_append_right _ h)))), fun w h => List.mem_cons_of_mem _ (List.mem_append_left _ (List.mem_append_left _ (List.mem_append_right _ h))), fun w h => List.mem_cons_of_mem _ (List.mem_append_left _ (List.mem_append_right _ h)), fun w h => List.mem_cons_of_mem _ (List.mem_append_right _ h)⟩
  have hl : lv_has ls 1 [(0, .ref a)] := hl
  refine lv_aload_n hx hb dX0_init_0 rfl (lv_at hl 0 rfl) ?_
  refine hg_initN (As := []) (rest := []) X w (c_X7_init l D b0 L f a ha ci hci hf) ⟨va_cnB 0 hts ggX0_init_X7_init rfl rfl rfl (X.2.1.2.1 (_, _, _) (List.mem_of_getElem? (i := 3) rfl)) (hts _ (List.mem_of_getElem? (i := 2) rfl)) hdX7_init ⟨Nat.le_of_ble_eq_true rfl, Nat.le_of_ble_eq_true rfl⟩, rfl, hts _ (List.mem_of_getElem? (i := 1) rfl)⟩ rfl hl.1 rfl (Nat.le_of_ble_eq_true rfl) dX0_init_1 ⟨(Nat.le_of_ble_eq_true rfl), (Nat.le_of_ble_eq_true rfl)⟩ (fun u H locs hp w => ?_)
  subst hp
  exact hend H locs (L, f) _ ls w rfl dX0_init_4
set_option maxRecDepth 100000 in
set_option maxHeartbeats 4000000 in
theorem c_X2_init (l : Launch) (D : va_G) (b0 : Nat) (L : List Nat) (f : Nat → va_E) (a : Nat) (ha : a ∈ L) (ci : Nat) (hci : al_five ci) (hf : f a = .inr (ci, al_z7)) : hg_Mv l yX2_init wsX2_init ({ frames := 3, cells := 0, slots := 0, locals := 52 }) D b0 L (f) [.ref a] (fun u => u = (L, f)) 0 0 := by
  refine hg_in_v (cc := cX2_init) (nL := 1) (by decide) rfl (Nat.le_of_ble_eq_true rfl) (fun p e s m args below meth c R Q X hname hR hend H locs ls w hl => ?_)
  subst hR
  obtain ⟨hx, hb, hml, hown, hts⟩ := id X.1
  have hin : mk_in wsX2_init := ⟨fun w h => List.mem_cons_of_mem _ (List.mem_append_left _ (List.mem_append_left _ (List.mem_append_left _ (List.mem_append_left _ (List.mem_append_right _ h))))), fun w h => List.mem_cons_of_mem _ (List.mem_append_left _ (List.mem_append_left _ (List.mem_append_left _ (List.mem_append_right _ h)))), fun w h => List.mem_cons_of_mem _ (List.mem_append_left _ (List.mem_append_left _ (List.mem_append_right _ h))), fun w h => List.mem_cons_of_mem _ (List.mem_append_left _ (List.mem_append_right _ h)), fun w h => List.mem_cons_of_mem _ (List.mem_append_right _ h)⟩
  have hl : lv_has ls 1 [(0, .ref a)] := hl
  refine lv_aload_n hx hb dX2_init_0 rfl (lv_at hl 0 rfl) ?_
  refine hg_initN (As := []) (rest := []) X w (c_X7_init l D b0 L f a ha ci hci hf) ⟨va_cnB 0 hts ggX2_init_X7_init rfl rfl rfl (X.2.1.2.1 (_, _, _) (List.mem_of_getElem? (i := 4) rfl)) (hts _ (List.mem_of_getElem? (i := 2) rfl)) hdX7_init ⟨Nat.le_of_ble_eq_true rfl, Nat.le_of_ble_eq_true rfl⟩, rfl, hts _ (List.mem_of_getElem? (i := 1) rfl)⟩ rfl hl.1 rfl (Nat.le_of_ble_eq_true rfl) dX2_init_1 ⟨(Nat.le_of_ble_eq_true rfl), (Nat.le_of_ble_eq_true rfl)⟩ (fun u H locs hp w => ?_)
  subst hp
  exact hend H locs (L, f) _ ls w rfl dX2_init_4
theorem hdX4_init : yX4_init.cls ≠ "java/lang/invoke/MethodHandle" ∧ yX4_init.cls ≠ "java/lang/invoke/VarHandle" ∧ (parseMethodDescriptor yX4_init.desc).map (fun d => d.parameters.length) = some 0 := by decide +kernel
set_option maxRecDepth 100000 in
set_option maxHeartbeats 4000000 in
theorem c_X10_init (l : Launch) (D : va_G) (b0 : Nat) (L : List Nat) (f : Nat → va_E) (a : Nat) (ha : a ∈ L) (ci : Nat) (hci : al_five ci) (hf : f a = .inr (ci, al_z7)) : hg_Mv l yX10_init wsX10_init ({ frames := 3, cells := 0, slots := 0, locals := 52 }) D b0 L (f) [.ref a] (fun u => u = (L, f)) 0 0 := by
  refine hg_in_v (cc := cX10_init) (nL := 1) (by decide) rfl (Nat.le_of_ble_eq_true rfl) (fun p e s m args below meth c R Q X hname hR hend H locs ls w hl => ?_)
  subst hR
  obtain ⟨hx, hb, hml, hown, hts⟩ := id X.1
  have hin : mk_in wsX10_init := ⟨fun w h => List.mem_cons_of_mem _ (List.mem_append_left _ (List.mem_append_left _ (List.mem_append_left _ (List.mem_append_left _ (List.mem_append_right _ h))))), fun w h => List.mem_cons_of_mem _ (List.mem_append_left _ (List.mem_append_left _ (List.mem_append_left _ (List.mem_append_right _ h)))), fun w h => List.mem_cons_of_mem _ (List.mem_append_left _ (List.mem_append_left _ (List.mem_append_right _ h))), fun w h => List.mem_cons_of_mem _ (List.mem_append_left _ (List.mem_append_right _ h)), fun w h => List.mem_cons_of_mem _ (List.mem_append_right _ h)⟩
  have hl : lv_has ls 1 [(0, .ref a)] := hl
  refine lv_aload_n hx hb dX10_init_0 rfl (lv_at hl 0 rfl) ?_
  refine hg_initN (As := []) (rest := []) X w (c_X4_init l D b0 L f a ha ci hci hf) ⟨va_cnB 0 hts ggX10_init_X4_init rfl rfl rfl (X.2.1.2.1 (_, _, _) (List.mem_of_getElem? (i := 12) rfl)) (hts _ (List.mem_of_getElem? (i := 2) rfl)) hdX4_init ⟨Nat.le_of_ble_eq_true rfl, Nat.le_of_ble_eq_true rfl⟩, rfl, hts _ (List.mem_of_getElem? (i := 1) rfl)⟩ rfl hl.1 rfl (Nat.le_of_ble_eq_true rfl) dX10_init_1 ⟨(Nat.le_of_ble_eq_true rfl), (Nat.le_of_ble_eq_true rfl)⟩ (fun u H locs hp w => ?_)
  subst hp
  exact hend H locs (L, f) _ ls w rfl dX10_init_4
theorem hdX0_init : yX0_init.cls ≠ "java/lang/invoke/MethodHandle" ∧ yX0_init.cls ≠ "java/lang/invoke/VarHandle" ∧ (parseMethodDescriptor yX0_init.desc).map (fun d => d.parameters.length) = some 0 := by decide +kernel
theorem hdX10_init : yX10_init.cls ≠ "java/lang/invoke/MethodHandle" ∧ yX10_init.cls ≠ "java/lang/invoke/VarHandle" ∧ (parseMethodDescriptor yX10_init.desc).map (fun d => d.parameters.length) = some 0 := by decide +kernel
theorem hdX2_init : yX2_init.cls ≠ "java/lang/invoke/MethodHandle" ∧ yX2_init.cls ≠ "java/lang/invoke/VarHandle" ∧ (parseMethodDescriptor yX2_init.desc).map (fun d => d.parameters.length) = some 0 := by decide +kernel
set_option maxRecDepth 100000 in
set_option maxHeartbeats 4000000 in
theorem c_X6_ofKind (l : Launch) (D : va_G) (b0 : Nat) (L : List Nat) (f : Nat → va_E) (kind : Int32) (hk0 : kind = 1 ∨ kind = 2 ∨ kind = 3 ∨ kind = 4 ∨ kind = 5) : hg_Mq l yX6_ofKind wsX6_ofKind ({ frames := 4, cells := 1, slots := 7, locals := 72 }) D b0 L (f) [.int (kind)] (fun v u => ∃ q, v = some q ∧ q ∉ L ∧ u = (L ++ [q], va_up f q (.inr (mk_kc kind, al_z7)))) 1 7 := by
  refine hg_in_q (cc := cX6_ofKind) (nL := 1) (by decide) rfl (Nat.le_of_ble_eq_true rfl) (fun p e s m args below meth c R Q X hR hend H locs ls w hl => ?_)
  subst hR
  obtain ⟨hx, hb, hml, hown, hts⟩ := id X.1
  have hin : mk_in wsX6_ofKind := ⟨fun w h => List.mem_cons_of_mem _ (List.mem_append_left _ (List.mem_append_left _ (List.mem_append_left _ (List.mem_append_right _ h)))), fun w h => List.mem_cons_of_mem _ (List.mem_append_left _ (List.mem_append_left _ (List.mem_append_left _ (List.mem_append_left _ (List.mem_append_right _ h))))), fun w h => List.mem_cons_of_mem _ (List.mem_append_left _ (List.mem_append_left _ (List.mem_append_right _ h))), fun w h => List.mem_cons_of_mem _ (List.mem_append_right _ h), fun w h => List.mem_cons_of_mem _ (List.mem_append_left _ (List.mem_append_right _ h))⟩
  have hl : lv_has ls 1 [(0, .int (kind))] := hl
  refine lv_iload_n hx hb dX6_ofKind_0 rfl (lv_at hl 0 rfl) ?_
  by_cases s_1_2 : kind = 2
  · refine lv_tableIn (off := 31) (tgt := 32) hx hb dX6_ofKind_1 (by rw [s_1_2]; decide) (by rw [s_1_2]; decide) (by rw [s_1_2]; decide) (by decide) ?_
    have hk := s_1_2
    refine hg_new X w (C := RX2) (T := TX2) (N := 7) (ci := 1) (ty0 := tyX2) hin.2.1 tyX2_ok rfl (List.mem_of_getElem? (i := 1) rfl) (List.mem_of_getElem? (i := 2) rfl) (List.mem_of_getElem? (i := 3) rfl) (fs := al_z7) (fun j hj => by rcases (show j = 0 ∨ j = 1 ∨ j = 2 ∨ j = 3 ∨ j = 4 ∨ j = 5 ∨ j = 6 by omega) with rfl | rfl | rfl | rfl | rfl | rfl | rfl <;> rfl) (Nat.le_of_ble_eq_true rfl) (Nat.le_of_ble_eq_true rfl) dX6_ofKind_32 (fun q H hq w => ?_)
    refine lv_dup hx hb dX6_ofKind_35 rfl ?_
    refine hg_initN (As := []) (rest := [.ref q]) X w (c_X2_init l D b0 (L ++ [q]) (va_up f q (.inr (1, al_z7))) q (List.mem_append_right _ (List.mem_of_getElem? (i := 0) rfl)) 1 (by decide) (va_up_self _ _ _)) ⟨va_cnB 0 hts ggX6_ofKind_X2_init rfl rfl rfl (X.2.1.2.1 (_, _, _) (List.mem_of_getElem? (i := 6) rfl)) (hts _ (List.mem_of_getElem? (i := 3) rfl)) hdX2_init ⟨Nat.le_of_ble_eq_true rfl, Nat.le_of_ble_eq_true rfl⟩, rfl, hts _ (List.mem_of_getElem? (i := 16) rfl)⟩ rfl hl.1 rfl (Nat.le_of_ble_eq_true rfl) dX6_ofKind_36 ⟨(Nat.le_of_ble_eq_true rfl), (Nat.le_of_ble_eq_true rfl)⟩ (fun u H locs hp w => ?_)
    subst hp
    exact hend H locs (some q) _ _ ls w ⟨q, rfl, hq, by rw [show mk_kc kind = 1 from (by rw [hk]; rfl)]⟩ dX6_ofKind_39
  by_cases s_1_3 : kind = 3
  · refine lv_tableIn (off := 39) (tgt := 40) hx hb dX6_ofKind_1 (by rw [s_1_3]; decide) (by rw [s_1_3]; decide) (by rw [s_1_3]; decide) (by decide) ?_
    have hk := s_1_3
    refine hg_new X w (C := RX0) (T := TX0) (N := 7) (ci := 0) (ty0 := tyX0) hin.1 tyX0_ok rfl (List.mem_of_getElem? (i := 4) rfl) (List.mem_of_getElem? (i := 5) rfl) (List.mem_of_getElem? (i := 6) rfl) (fs := al_z7) (fun j hj => by rcases (show j = 0 ∨ j = 1 ∨ j = 2 ∨ j = 3 ∨ j = 4 ∨ j = 5 ∨ j = 6 by omega) with rfl | rfl | rfl | rfl | rfl | rfl | rfl <;> rfl) (Nat.le_of_ble_eq_true rfl) (Nat.le_of_ble_eq_true rfl) dX6_ofKind_40 (fun q H hq w => ?_)
    refine lv_dup hx hb dX6_ofKind_43 rfl ?_
    refine hg_initN (As := []) (rest := [.ref q]) X w (c_X0_init l D b0 (L ++ [q]) (va_up f q (.inr (0, al_z7))) q (List.mem_append_right _ (List.mem_of_getElem? (i := 0) rfl)) 0 (by decide) (va_up_self _ _ _)) ⟨va_cnB 0 hts ggX6_ofKind_X0_init rfl rfl rfl (X.2.1.2.1 (_, _, _) (List.mem_of_getElem? (i := 7) rfl)) (hts _ (List.mem_of_getElem? (i := 6) rfl)) hdX0_init ⟨Nat.le_of_ble_eq_true rfl, Nat.le_of_ble_eq_true rfl⟩, rfl, hts _ (List.mem_of_getElem? (i := 33) rfl)⟩ rfl hl.1 rfl (Nat.le_of_ble_eq_true rfl) dX6_ofKind_44 ⟨(Nat.le_of_ble_eq_true rfl), (Nat.le_of_ble_eq_true rfl)⟩ (fun u H locs hp w => ?_)
    subst hp
    exact hend H locs (some q) _ _ ls w ⟨q, rfl, hq, by rw [show mk_kc kind = 0 from (by rw [hk]; rfl)]⟩ dX6_ofKind_47
  by_cases s_1_4 : kind = 4
  · refine lv_tableIn (off := 47) (tgt := 48) hx hb dX6_ofKind_1 (by rw [s_1_4]; decide) (by rw [s_1_4]; decide) (by rw [s_1_4]; decide) (by decide) ?_
    have hk := s_1_4
    refine hg_new X w (C := RX4) (T := TX4) (N := 7) (ci := 3) (ty0 := tyX4) hin.2.2.1 tyX4_ok rfl (List.mem_of_getElem? (i := 7) rfl) (List.mem_of_getElem? (i := 8) rfl) (List.mem_of_getElem? (i := 9) rfl) (fs := al_z7) (fun j hj => by rcases (show j = 0 ∨ j = 1 ∨ j = 2 ∨ j = 3 ∨ j = 4 ∨ j = 5 ∨ j = 6 by omega) with rfl | rfl | rfl | rfl | rfl | rfl | rfl <;> rfl) (Nat.le_of_ble_eq_true rfl) (Nat.le_of_ble_eq_true rfl) dX6_ofKind_48 (fun q H hq w => ?_)
    refine lv_dup hx hb dX6_ofKind_51 rfl ?_
    refine hg_initN (As := []) (rest := [.ref q]) X w (c_X4_init l D b0 (L ++ [q]) (va_up f q (.inr (3, al_z7))) q (List.mem_append_right _ (List.mem_of_getElem? (i := 0) rfl)) 3 (by decide) (va_up_self _ _ _)) ⟨va_cnB 0 hts ggX6_ofKind_X4_init rfl rfl rfl (X.2.1.2.1 (_, _, _) (List.mem_of_getElem? (i := 8) rfl)) (hts _ (List.mem_of_getElem? (i := 9) rfl)) hdX4_init ⟨Nat.le_of_ble_eq_true rfl, Nat.le_of_ble_eq_true rfl⟩, rfl, hts _ (List.mem_of_getElem? (i := 35) rfl)⟩ rfl hl.1 rfl (Nat.le_of_ble_eq_true rfl) dX6_ofKind_52 ⟨(Nat.le_of_ble_eq_true rfl), (Nat.le_of_ble_eq_true rfl)⟩ (fun u H locs hp w => ?_)
    subst hp
    exact hend H locs (some q) _ _ ls w ⟨q, rfl, hq, by rw [show mk_kc kind = 3 from (by rw [hk]; rfl)]⟩ dX6_ofKind_55
  by_cases s_1_5 : kind = 5
  · refine lv_tableIn (off := 55) (tgt := 56) hx hb dX6_ofKind_1 (by rw [s_1_5]; decide) (by rw [s_1_5]; decide) (by rw [s_1_5]; decide) (by decide) ?_
    have hk := s_1_5
    refine hg_new X w (C := RX10) (T := TX10) (N := 7) (ci := 8) (ty0 := tyX10) hin.2.2.2.2 tyX10_ok rfl (List.mem_of_getElem? (i := 10) rfl) (List.mem_of_getElem? (i := 11) rfl) (List.mem_of_getElem? (i := 12) rfl) (fs := al_z7) (fun j hj => by rcases (show j = 0 ∨ j = 1 ∨ j = 2 ∨ j = 3 ∨ j = 4 ∨ j = 5 ∨ j = 6 by omega) with rfl | rfl | rfl | rfl | rfl | rfl | rfl <;> rfl) (Nat.le_of_ble_eq_true rfl) (Nat.le_of_ble_eq_true rfl) dX6_ofKind_56 (fun q H hq w => ?_)
    refine lv_dup hx hb dX6_ofKind_59 rfl ?_
    refine hg_initN (As := []) (rest := [.ref q]) X w (c_X10_init l D b0 (L ++ [q]) (va_up f q (.inr (8, al_z7))) q (List.mem_append_right _ (List.mem_of_getElem? (i := 0) rfl)) 8 (by decide) (va_up_self _ _ _)) ⟨va_cnB 0 hts ggX6_ofKind_X10_init rfl rfl rfl (X.2.1.2.1 (_, _, _) (List.mem_of_getElem? (i := 9) rfl)) (hts _ (List.mem_of_getElem? (i := 12) rfl)) hdX10_init ⟨Nat.le_of_ble_eq_true rfl, Nat.le_of_ble_eq_true rfl⟩, rfl, hts _ (List.mem_of_getElem? (i := 37) rfl)⟩ rfl hl.1 rfl (Nat.le_of_ble_eq_true rfl) dX6_ofKind_60 ⟨(Nat.le_of_ble_eq_true rfl), (Nat.le_of_ble_eq_true rfl)⟩ (fun u H locs hp w => ?_)
    subst hp
    exact hend H locs (some q) _ _ ls w ⟨q, rfl, hq, by rw [show mk_kc kind = 8 from (by rw [hk]; rfl)]⟩ dX6_ofKind_63
  refine lv_tableOut (tgt := 64) hx hb dX6_ofKind_1 (by have t2 := lv_neT s_1_2 (a := 2) (by decide); have t3 := lv_neT s_1_3 (a := 3) (by decide); have t4 := lv_neT s_1_4 (a := 4) (by decide); have t5 := lv_neT s_1_5 (a := 5) (by decide); omega) (by decide) ?_
  refine hg_new X w (C := RX7) (T := TX7) (N := 7) (ci := 5) (ty0 := tyX7) hin.2.2.2.1 tyX7_ok rfl (List.mem_of_getElem? (i := 13) rfl) (List.mem_of_getElem? (i := 14) rfl) (List.mem_of_getElem? (i := 15) rfl) (fs := al_z7) (fun j hj => by rcases (show j = 0 ∨ j = 1 ∨ j = 2 ∨ j = 3 ∨ j = 4 ∨ j = 5 ∨ j = 6 by omega) with rfl | rfl | rfl | rfl | rfl | rfl | rfl <;> rfl) (Nat.le_of_ble_eq_true rfl) (Nat.le_of_ble_eq_true rfl) dX6_ofKind_64 (fun q H hq w => ?_)
  refine lv_dup hx hb dX6_ofKind_67 rfl ?_
  refine hg_initN (As := []) (rest := [.ref q]) X w (c_X7_init l D b0 (L ++ [q]) (va_up f q (.inr (5, al_z7))) q (List.mem_append_right _ (List.mem_of_getElem? (i := 0) rfl)) 5 (by decide) (va_up_self _ _ _)) ⟨va_cnB 0 hts ggX6_ofKind_X7_init rfl rfl rfl (X.2.1.2.1 (_, _, _) (List.mem_of_getElem? (i := 10) rfl)) (hts _ (List.mem_of_getElem? (i := 15) rfl)) hdX7_init ⟨Nat.le_of_ble_eq_true rfl, Nat.le_of_ble_eq_true rfl⟩, rfl, hts _ (List.mem_of_getElem? (i := 18) rfl)⟩ rfl hl.1 rfl (Nat.le_of_ble_eq_true rfl) dX6_ofKind_68 ⟨(Nat.le_of_ble_eq_true rfl), (Nat.le_of_ble_eq_true rfl)⟩ (fun u H locs hp w => ?_)
  subst hp
  exact hend H locs (some q) _ _ ls w ⟨q, rfl, hq, by rw [show mk_kc kind = 5 from (by rcases hk0 with h | h | h | h | h <;> first | (rw [h]; rfl) | (exact absurd h (by assumption)))]⟩ dX6_ofKind_71
