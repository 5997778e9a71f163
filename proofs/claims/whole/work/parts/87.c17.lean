set_option maxRecDepth 100000 in
set_option maxHeartbeats 4000000 in
theorem c_X5_init (l : Launch) (D : va_G) (b0 : Nat) (L : List Nat) (f : Nat → va_E) (a : Nat) (ha : a ∈ L) (hf : f a = .inr (4, [.int 0, .int 0, .null])) : hg_Mv l yX5_init wsX5_init ({ frames := 1, cells := 1, slots := 40, locals := 12 }) D b0 L (f) [.ref a] (fun u => ∃ q1, q1 ∉ L ∧ u = (L ++ [q1], va_up (va_up f a (.inr (4, [.int (-1), .int 0, .ref q1]))) q1 (.inl (D.1 11, 40, .inl (fun _ => 0))))) 1 40 := by
  refine hg_in_v (cc := cX5_init) (nL := 1) (by decide) rfl (Nat.le_of_ble_eq_true rfl) (fun p e s m args below meth c R Q X hname hR hend H locs ls w hl => ?_)
  subst hR
  obtain ⟨hx, hb, hml, hown, hts⟩ := id X.1
  have hin5 : ∀ w ∈ wsX50, w ∈ wsX5_init := fun w h => List.mem_cons_of_mem _ (List.mem_append_right _ h)
  have hl : lv_has ls 1 [(0, .ref a)] := hl
  have hnd : [a].Nodup := by simp
  have w : hg_W D b0 (L ++ []) (al_F f [(a, .inr (4, [.int 0, .int 0, .null]))]) s.heap H locs := al_start hf w
  refine lv_aload_n hx hb dX5_init_0 rfl (lv_at hl 0 rfl) ?_
  refine W.objInit hx hb hown (hts _ (List.mem_of_getElem? (i := 1) rfl)) (hts _ (List.mem_of_getElem? (i := 2) rfl)) (hts _ (List.mem_of_getElem? (i := 3) rfl)) rfl (by rw [hml]; exact hl.1) rfl dX5_init_1 (Nat.le_of_ble_eq_true rfl) (Nat.le_of_ble_eq_true rfl) ?_
  refine lv_aload_n hx hb dX5_init_4 rfl (lv_at hl 0 rfl) ?_
  refine lv_iconst (v := (-1)) hx hb dX5_init_5 (by decide) ?_
  refine hg_put (C := RX5) (T := TX5) (N := 3) (ci := 4) (ty0 := tyX5) X w (List.mem_append_left _ ha) (al_atK hnd (k := 0) (by rfl) (by rfl)) hin5 tyX5_ok nmX5 rfl 0 (by decide) (List.mem_of_getElem? (i := 4) rfl) (Or.inl rfl) rfl rfl rfl (by show _ < 3; decide) dX5_init_6 (fun H locs w => ?_)
  have w : hg_W D b0 (L ++ []) (al_F f [(a, .inr (4, [.int ((-1)), .int 0, .null]))]) s.heap H locs := al_chgK hnd (k := 0) w (by rfl) (by rfl)
  refine lv_aload_n hx hb dX5_init_9 rfl (lv_at hl 0 rfl) ?_
  refine lv_iconst (v := 0) hx hb dX5_init_10 (by decide) ?_
  refine hg_put (C := RX5) (T := TX5) (N := 3) (ci := 4) (ty0 := tyX5) X w (List.mem_append_left _ ha) (al_atK hnd (k := 0) (by rfl) (by rfl)) hin5 tyX5_ok nmX5 rfl 1 (by decide) (List.mem_of_getElem? (i := 5) rfl) (Or.inl rfl) rfl rfl rfl (by show _ < 3; decide) dX5_init_11 (fun H locs w => ?_)
  have w : hg_W D b0 (L ++ []) (al_F f [(a, .inr (4, [.int ((-1)), .int (0), .null]))]) s.heap H locs := al_chgK hnd (k := 0) w (by rfl) (by rfl)
  refine lv_aload_n hx hb dX5_init_14 rfl (lv_at hl 0 rfl) ?_
  refine lv_bipush (v := 40) hx hb dX5_init_15 (by decide) ?_
  refine hg_newI X w 40 rfl (by decide) (List.mem_of_getElem? (i := 6) rfl) (Nat.le_of_ble_eq_true rfl) (Nat.le_of_ble_eq_true rfl) dX5_init_17 (fun q1 H hq1 w => ?_)
  have hnd0 := hnd
  have w : hg_W D b0 (L ++ [q1]) (al_F f [(a, .inr (4, [.int ((-1)), .int (0), .null])), (q1, .inl (D.1 11, 40, .inl (fun _ => 0)))]) s.heap H locs := al_grow w (al_notin ha hq1)
  have hnd : [a, q1].Nodup := al_nd hnd0 ha hq1
  refine al_putF (C := RX5) (T := TX5) (N0 := 3) (ci := 4) (ty0 := tyX5) X w hname (List.mem_append_left _ ha) (al_atK hnd (k := 0) (by rfl) (by rfl)) hin5 tyX5_ok nmX5 rfl 2 (by decide) (List.mem_of_getElem? (i := 7) rfl) rfl rfl rfl rfl (by show _ < 3; decide) dX5_init_19 (fun H locs w => ?_)
  have w : hg_W D b0 (L ++ [q1]) (al_F f [(a, .inr (4, [.int ((-1)), .int (0), .ref q1])), (q1, .inl (D.1 11, 40, .inl (fun _ => 0)))]) s.heap H locs := al_chgK hnd (k := 0) w (by rfl) (by rfl)
  exact hend H locs (L ++ [q1], al_F f [(a, .inr (4, [.int ((-1)), .int (0), .ref q1])), (q1, .inl (D.1 11, 40, .inl (fun _ => 0)))]) _ ls w ⟨q1, (by simpa using hq1), al_e2 hnd⟩ dX5_init_22
set_option maxRecDepth 100000 in
set_option maxHeartbeats 4000000 in
theorem c_X9_init (l : Launch) (D : va_G) (b0 : Nat) (L : List Nat) (f : Nat → va_E) (a : Nat) (ha : a ∈ L) (hf : f a = .inr (7, [.null, .int 0])) : hg_Mv l yX9_init wsX9_init ({ frames := 1, cells := 1, slots := 16, locals := 12 }) D b0 L (f) [.ref a] (fun u => ∃ q1, q1 ∉ L ∧ u = (L ++ [q1], va_up (va_up f a (.inr (7, [.ref q1, .int 0]))) q1 (.inl (D.1 11, 16, .inl (fun _ => 0))))) 1 16 := by
  refine hg_in_v (cc := cX9_init) (nL := 1) (by decide) rfl (Nat.le_of_ble_eq_true rfl) (fun p e s m args below meth c R Q X hname hR hend H locs ls w hl => ?_)
  subst hR
  obtain ⟨hx, hb, hml, hown, hts⟩ := id X.1
  have hin9 : ∀ w ∈ wsX90, w ∈ wsX9_init := fun w h => List.mem_cons_of_mem _ (List.mem_append_right _ h)
  have hl : lv_has ls 1 [(0, .ref a)] := hl
  have hnd : [a].Nodup := by simp
  have w : hg_W D b0 (L ++ []) (al_F f [(a, .inr (7, [.null, .int 0]))]) s.heap H locs := al_start hf w
  refine lv_aload_n hx hb dX9_init_0 rfl (lv_at hl 0 rfl) ?_
  refine W.objInit hx hb hown (hts _ (List.mem_of_getElem? (i := 1) rfl)) (hts _ (List.mem_of_getElem? (i := 2) rfl)) (hts _ (List.mem_of_getElem? (i := 3) rfl)) rfl (by rw [hml]; exact hl.1) rfl dX9_init_1 (Nat.le_of_ble_eq_true rfl) (Nat.le_of_ble_eq_true rfl) ?_
  refine lv_aload_n hx hb dX9_init_4 rfl (lv_at hl 0 rfl) ?_
  refine lv_bipush (v := 16) hx hb dX9_init_5 (by decide) ?_
  refine hg_newI X w 16 rfl (by decide) (List.mem_of_getElem? (i := 4) rfl) (Nat.le_of_ble_eq_true rfl) (Nat.le_of_ble_eq_true rfl) dX9_init_7 (fun q1 H hq1 w => ?_)
  have hnd0 := hnd
  have w : hg_W D b0 (L ++ [q1]) (al_F f [(a, .inr (7, [.null, .int 0])), (q1, .inl (D.1 11, 16, .inl (fun _ => 0)))]) s.heap H locs := al_grow w (al_notin ha hq1)
  have hnd : [a, q1].Nodup := al_nd hnd0 ha hq1
  refine al_putF (C := RX9) (T := TX9) (N0 := 2) (ci := 7) (ty0 := tyX9) X w hname (List.mem_append_left _ ha) (al_atK hnd (k := 0) (by rfl) (by rfl)) hin9 tyX9_ok nmX9 rfl 0 (by decide) (List.mem_of_getElem? (i := 5) rfl) rfl rfl rfl rfl (by show _ < 2; decide) dX9_init_9 (fun H locs w => ?_)
  have w : hg_W D b0 (L ++ [q1]) (al_F f [(a, .inr (7, [.ref q1, .int 0])), (q1, .inl (D.1 11, 16, .inl (fun _ => 0)))]) s.heap H locs := al_chgK hnd (k := 0) w (by rfl) (by rfl)
  refine lv_aload_n hx hb dX9_init_12 rfl (lv_at hl 0 rfl) ?_
  refine lv_iconst (v := 0) hx hb dX9_init_13 (by decide) ?_
  refine hg_put (C := RX9) (T := TX9) (N := 2) (ci := 7) (ty0 := tyX9) X w (List.mem_append_left _ ha) (al_atK hnd (k := 0) (by rfl) (by rfl)) hin9 tyX9_ok nmX9 rfl 1 (by decide) (List.mem_of_getElem? (i := 6) rfl) (Or.inl rfl) rfl rfl rfl (by show _ < 2; decide) dX9_init_14 (fun H locs w => ?_)
  have w : hg_W D b0 (L ++ [q1]) (al_F f [(a, .inr (7, [.ref q1, .int (0)])), (q1, .inl (D.1 11, 16, .inl (fun _ => 0)))]) s.heap H locs := al_chgK hnd (k := 0) w (by rfl) (by rfl)
  exact hend H locs (L ++ [q1], al_F f [(a, .inr (7, [.ref q1, .int (0)])), (q1, .inl (D.1 11, 16, .inl (fun _ => 0)))]) _ ls w ⟨q1, (by simpa using hq1), al_e2 hnd⟩ dX9_init_17
set_option maxRecDepth 100000 in
set_option maxHeartbeats 4000000 in
theorem c_X8_init (l : Launch) (D : va_G) (b0 : Nat) (L : List Nat) (f : Nat → va_E) (a : Nat) (ha : a ∈ L) (hf : f a = .inr (6, [.null, .int 0, .int 0, .int 0, .int 0])) : hg_Mv l yX8_init wsX8_init ({ frames := 1, cells := 1, slots := 100, locals := 12 }) D b0 L (f) [.ref a] (fun u => ∃ q1, q1 ∉ L ∧ u = (L ++ [q1], va_up (va_up f a (.inr (6, [.ref q1, .int 0, .int 0, .int 0, .int 0]))) q1 (.inl (D.1 11, 100, .inl (fun _ => 0))))) 1 100 := by
  refine hg_in_v (cc := cX8_init) (nL := 1) (by decide) rfl (Nat.le_of_ble_eq_true rfl) (fun p e s m args below meth c R Q X hname hR hend H locs ls w hl => ?_)
  subst hR
  obtain ⟨hx, hb, hml, hown, hts⟩ := id X.1
  have hin8 : ∀ w ∈ wsX80, w ∈ wsX8_init := fun w h => List.mem_cons_of_mem _ (List.mem_append_right _ h)
  have hl : lv_has ls 1 [(0, .ref a)] := hl
  have hnd : [a].Nodup := by simp
  have w : hg_W D b0 (L ++ []) (al_F f [(a, .inr (6, [.null, .int 0, .int 0, .int 0, .int 0]))]) s.heap H locs := al_start hf w
  refine lv_aload_n hx hb dX8_init_0 rfl (lv_at hl 0 rfl) ?_
  refine W.objInit hx hb hown (hts _ (List.mem_of_getElem? (i := 1) rfl)) (hts _ (List.mem_of_getElem? (i := 2) rfl)) (hts _ (List.mem_of_getElem? (i := 3) rfl)) rfl (by rw [hml]; exact hl.1) rfl dX8_init_1 (Nat.le_of_ble_eq_true rfl) (Nat.le_of_ble_eq_true rfl) ?_
  refine lv_aload_n hx hb dX8_init_4 rfl (lv_at hl 0 rfl) ?_
  refine lv_bipush (v := 100) hx hb dX8_init_5 (by decide) ?_
  refine hg_newI X w 100 rfl (by decide) (List.mem_of_getElem? (i := 4) rfl) (Nat.le_of_ble_eq_true rfl) (Nat.le_of_ble_eq_true rfl) dX8_init_7 (fun q1 H hq1 w => ?_)
  have hnd0 := hnd
  have w : hg_W D b0 (L ++ [q1]) (al_F f [(a, .inr (6, [.null, .int 0, .int 0, .int 0, .int 0])), (q1, .inl (D.1 11, 100, .inl (fun _ => 0)))]) s.heap H locs := al_grow w (al_notin ha hq1)
  have hnd : [a, q1].Nodup := al_nd hnd0 ha hq1
  refine al_putF (C := RX8) (T := TX8) (N0 := 5) (ci := 6) (ty0 := tyX8) X w hname (List.mem_append_left _ ha) (al_atK hnd (k := 0) (by rfl) (by rfl)) hin8 tyX8_ok nmX8 rfl 0 (by decide) (List.mem_of_getElem? (i := 5) rfl) rfl rfl rfl rfl (by show _ < 5; decide) dX8_init_9 (fun H locs w => ?_)
  have w : hg_W D b0 (L ++ [q1]) (al_F f [(a, .inr (6, [.ref q1, .int 0, .int 0, .int 0, .int 0])), (q1, .inl (D.1 11, 100, .inl (fun _ => 0)))]) s.heap H locs := al_chgK hnd (k := 0) w (by rfl) (by rfl)
  refine lv_aload_n hx hb dX8_init_12 rfl (lv_at hl 0 rfl) ?_
  refine lv_iconst (v := 0) hx hb dX8_init_13 (by decide) ?_
  refine hg_put (C := RX8) (T := TX8) (N := 5) (ci := 6) (ty0 := tyX8) X w (List.mem_append_left _ ha) (al_atK hnd (k := 0) (by rfl) (by rfl)) hin8 tyX8_ok nmX8 rfl 1 (by decide) (List.mem_of_getElem? (i := 6) rfl) (Or.inl rfl) rfl rfl rfl (by show _ < 5; decide) dX8_init_14 (fun H locs w => ?_)
  have w : hg_W D b0 (L ++ [q1]) (al_F f [(a, .inr (6, [.ref q1, .int (0), .int 0, .int 0, .int 0])), (q1, .inl (D.1 11, 100, .inl (fun _ => 0)))]) s.heap H locs := al_chgK hnd (k := 0) w (by rfl) (by rfl)
  refine lv_aload_n hx hb dX8_init_17 rfl (lv_at hl 0 rfl) ?_
  refine lv_iconst (v := 0) hx hb dX8_init_18 (by decide) ?_
  refine hg_put (C := RX8) (T := TX8) (N := 5) (ci := 6) (ty0 := tyX8) X w (List.mem_append_left _ ha) (al_atK hnd (k := 0) (by rfl) (by rfl)) hin8 tyX8_ok nmX8 rfl 2 (by decide) (List.mem_of_getElem? (i := 7) rfl) (Or.inl rfl) rfl rfl rfl (by show _ < 5; decide) dX8_init_19 (fun H locs w => ?_)
  have w : hg_W D b0 (L ++ [q1]) (al_F f [(a, .inr (6, [.ref q1, .int (0), .int (0), .int 0, .int 0])), (q1, .inl (D.1 11, 100, .inl (fun _ => 0)))]) s.heap H locs := al_chgK hnd (k := 0) w (by rfl) (by rfl)
  refine lv_aload_n hx hb dX8_init_22 rfl (lv_at hl 0 rfl) ?_
  refine lv_iconst (v := 0) hx hb dX8_init_23 (by decide) ?_
  refine hg_put (C := RX8) (T := TX8) (N := 5) (ci := 6) (ty0 := tyX8) X w (List.mem_append_left _ ha) (al_atK hnd (k := 0) (by rfl) (by rfl)) hin8 tyX8_ok nmX8 rfl 3 (by decide) (List.mem_of_getElem? (i := 8) rfl) (Or.inl rfl) rfl rfl rfl (by show _ < 5; decide) dX8_init_24 (fun H locs w => ?_)
  have w : hg_W D b0 (L ++ [q1]) (al_F f [(a, .inr (6, [.ref q1, .int (0), .int (0), .int (0), .int 0])), (q1, .inl (D.1 11, 100, .inl (fun _ => 0)))]) s.heap H locs := al_chgK hnd (k := 0) w (by rfl) (by rfl)
  refine lv_aload_n hx hb dX8_init_27 rfl (lv_at hl 0 rfl) ?_
  refine lv_iconst (v := 0) hx hb dX8_init_28 (by decide) ?_
  refine hg_put (C := RX8) (T := TX8) (N := 5) (ci := 6) (ty0 := tyX8) X w (List.mem_append_left _ ha) (al_atK hnd (k := 0) (by rfl) (by rfl)) hin8 tyX8_ok nmX8 rfl 4 (by decide) (List.mem_of_getElem? (i := 9) rfl) (Or.inl rfl) rfl rfl rfl (by show _ < 5; decide) dX8_init_29 (fun H locs w => ?_)
  have w : hg_W D b0 (L ++ [q1]) (al_F f [(a, .inr (6, [.ref q1, .int (0), .int (0), .int (0), .int (0)])), (q1, .inl (D.1 11, 100, .inl (fun _ => 0)))]) s.heap H locs := al_chgK hnd (k := 0) w (by rfl) (by rfl)
  exact hend H locs (L ++ [q1], al_F f [(a, .inr (6, [.ref q1, .int (0), .int (0), .int (0), .int (0)])), (q1, .inl (D.1 11, 100, .inl (fun _ => 0)))]) _ ls w ⟨q1, (by simpa using hq1), al_e2 hnd⟩ dX8_init_32
set_option maxRecDepth 100000 in
set_option maxHeartbeats 4000000 in
theorem c_X3_init (l : Launch) (D : va_G) (b0 : Nat) (L : List Nat) (f : Nat → va_E) (a : Nat) (ha : a ∈ L) (hf : f a = .inr (2, [.int 0, .int 0, .int 0, .int 0, .null, .null])) (low slack : Int32) : hg_Mv l yX3_init wsX3_init ({ frames := 1, cells := 2, slots := 9, locals := 12 }) D b0 L (f) [.ref a, .int (low), .int (slack)] (fun u => ∃ q1 q2, q1 ∉ L ∧ q2 ∉ L ++ [q1] ∧ u = (L ++ [q1, q2], va_up (va_up (va_up f a (.inr (2, [.int low, .int slack, .int 0, .int 0, .ref q1, .ref q2]))) q1 (.inl (D.1 11, 3, .inl (fun _ => 0)))) q2 (.inl (D.1 15, 6, .inr (.inr (.inr (.inr (fun _ => none)))))))) 2 9 := by
  refine hg_in_v (cc := cX3_init) (nL := 3) (by decide) rfl (Nat.le_of_ble_eq_true rfl) (fun p e s m args below meth c R Q X hname hR hend H locs ls w hl => ?_)
  subst hR
  obtain ⟨hx, hb, hml, hown, hts⟩ := id X.1
  have hin3 : ∀ w ∈ wsX30, w ∈ wsX3_init := fun w h => List.mem_cons_of_mem _ (List.mem_append_right _ h)
  have hl : lv_has ls 3 [(0, .ref a), (1, .int (low)), (2, .int (slack))] := hl
  have hnd : [a].Nodup := by simp
  have w : hg_W D b0 (L ++ []) (al_F f [(a, .inr (2, [.int 0, .int 0, .int 0, .int 0, .null, .null]))]) s.heap H locs := al_start hf w
  refine lv_aload_n hx hb dX3_init_0 rfl (lv_at hl 0 rfl) ?_
  refine W.objInit hx hb hown (hts _ (List.mem_of_getElem? (i := 1) rfl)) (hts _ (List.mem_of_getElem? (i := 2) rfl)) (hts _ (List.mem_of_getElem? (i := 3) rfl)) rfl (by rw [hml]; exact hl.1) rfl dX3_init_1 (Nat.le_of_ble_eq_true rfl) (Nat.le_of_ble_eq_true rfl) ?_
  refine lv_aload_n hx hb dX3_init_4 rfl (lv_at hl 0 rfl) ?_
  refine lv_iconst (v := 0) hx hb dX3_init_5 (by decide) ?_
  refine hg_put (C := RX3) (T := TX3) (N := 6) (ci := 2) (ty0 := tyX3) X w (List.mem_append_left _ ha) (al_atK hnd (k := 0) (by rfl) (by rfl)) hin3 tyX3_ok nmX3 rfl 2 (by decide) (List.mem_of_getElem? (i := 4) rfl) (Or.inl rfl) rfl rfl rfl (by show _ < 6; decide) dX3_init_6 (fun H locs w => ?_)
  have w : hg_W D b0 (L ++ []) (al_F f [(a, .inr (2, [.int 0, .int 0, .int (0), .int 0, .null, .null]))]) s.heap H locs := al_chgK hnd (k := 0) w (by rfl) (by rfl)
  refine lv_aload_n hx hb dX3_init_9 rfl (lv_at hl 0 rfl) ?_
  refine lv_iconst (v := 0) hx hb dX3_init_10 (by decide) ?_
  refine hg_put (C := RX3) (T := TX3) (N := 6) (ci := 2) (ty0 := tyX3) X w (List.mem_append_left _ ha) (al_atK hnd (k := 0) (by rfl) (by rfl)) hin3 tyX3_ok nmX3 rfl 3 (by decide) (List.mem_of_getElem? (i := 5) rfl) (Or.inl rfl) rfl rfl rfl (by show _ < 6; decide) dX3_init_11 (fun H locs w => ?_)
  have w : hg_W D b0 (L ++ []) (al_F f [(a, .inr (2, [.int 0, .int 0, .int (0), .int (0), .null, .null]))]) s.heap H locs := al_chgK hnd (k := 0) w (by rfl) (by rfl)
  refine lv_aload_n hx hb dX3_init_14 rfl (lv_at hl 0 rfl) ?_
  refine lv_iconst (v := 3) hx hb dX3_init_15 (by decide) ?_
  refine hg_newI X w 3 rfl (by decide) (List.mem_of_getElem? (i := 6) rfl) (Nat.le_of_ble_eq_true rfl) (Nat.le_of_ble_eq_true rfl) dX3_init_16 (fun q1 H hq1 w => ?_)
  have hnd0 := hnd
  have w : hg_W D b0 (L ++ [q1]) (al_F f [(a, .inr (2, [.int 0, .int 0, .int (0), .int (0), .null, .null])), (q1, .inl (D.1 11, 3, .inl (fun _ => 0)))]) s.heap H locs := al_grow w (al_notin ha hq1)
  have hnd : [a, q1].Nodup := al_nd hnd0 ha hq1
  refine al_putF (C := RX3) (T := TX3) (N0 := 6) (ci := 2) (ty0 := tyX3) X w hname (List.mem_append_left _ ha) (al_atK hnd (k := 0) (by rfl) (by rfl)) hin3 tyX3_ok nmX3 rfl 4 (by decide) (List.mem_of_getElem? (i := 7) rfl) rfl rfl rfl rfl (by show _ < 6; decide) dX3_init_18 (fun H locs w => ?_)
  have w : hg_W D b0 (L ++ [q1]) (al_F f [(a, .inr (2, [.int 0, .int 0, .int (0), .int (0), .ref q1, .null])), (q1, .inl (D.1 11, 3, .inl (fun _ => 0)))]) s.heap H locs := al_chgK hnd (k := 0) w (by rfl) (by rfl)
  refine lv_aload_n hx hb dX3_init_21 rfl (lv_at hl 0 rfl) ?_
  refine lv_bipush (v := 6) hx hb dX3_init_22 (by decide) ?_
  refine hg_newR X w 4 (D.1 15) rfl (by decide) 6 rfl (by decide) (List.mem_of_getElem? (i := 8) rfl) (Nat.le_of_ble_eq_true rfl) (Nat.le_of_ble_eq_true rfl) dX3_init_24 (fun q2 H hq2 w => ?_)
  have hnd0 := hnd
  have w : hg_W D b0 (L ++ [q1, q2]) (al_F f [(a, .inr (2, [.int 0, .int 0, .int (0), .int (0), .ref q1, .null])), (q1, .inl (D.1 11, 3, .inl (fun _ => 0))), (q2, .inl (D.1 15, 6, .inr (.inr (.inr (.inr (fun _ => none))))))]) s.heap H locs := al_grow w (al_notin ha hq2)
  have hnd : [a, q1, q2].Nodup := al_nd hnd0 ha hq2
  refine al_putF (C := RX3) (T := TX3) (N0 := 6) (ci := 2) (ty0 := tyX3) X w hname (List.mem_append_left _ ha) (al_atK hnd (k := 0) (by rfl) (by rfl)) hin3 tyX3_ok nmX3 rfl 5 (by decide) (List.mem_of_getElem? (i := 9) rfl) rfl rfl rfl rfl (by show _ < 6; decide) dX3_init_27 (fun H locs w => ?_)
  have w : hg_W D b0 (L ++ [q1, q2]) (al_F f [(a, .inr (2, [.int 0, .int 0, .int (0), .int (0), .ref q1, .ref q2])), (q1, .inl (D.1 11, 3, .inl (fun _ => 0))), (q2, .inl (D.1 15, 6, .inr (.inr (.inr (.inr (fun _ => none))))))]) s.heap H locs := al_chgK hnd (k := 0) w (by rfl) (by rfl)
  refine lv_aload_n hx hb dX3_init_30 rfl (lv_at hl 0 rfl) ?_
  refine lv_iload_n hx hb dX3_init_31 rfl (lv_at hl 1 rfl) ?_
  refine al_putF (C := RX3) (T := TX3) (N0 := 6) (ci := 2) (ty0 := tyX3) X w hname (List.mem_append_left _ ha) (al_atK hnd (k := 0) (by rfl) (by rfl)) hin3 tyX3_ok nmX3 rfl 0 (by decide) (List.mem_of_getElem? (i := 10) rfl) rfl rfl rfl rfl (by show _ < 6; decide) dX3_init_32 (fun H locs w => ?_)
  have w : hg_W D b0 (L ++ [q1, q2]) (al_F f [(a, .inr (2, [.int (low), .int 0, .int (0), .int (0), .ref q1, .ref q2])), (q1, .inl (D.1 11, 3, .inl (fun _ => 0))), (q2, .inl (D.1 15, 6, .inr (.inr (.inr (.inr (fun _ => none))))))]) s.heap H locs := al_chgK hnd (k := 0) w (by rfl) (by rfl)
  refine lv_aload_n hx hb dX3_init_35 rfl (lv_at hl 0 rfl) ?_
  refine lv_iload_n hx hb dX3_init_36 rfl (lv_at hl 2 rfl) ?_
  refine hg_put (C := RX3) (T := TX3) (N := 6) (ci := 2) (ty0 := tyX3) X w (List.mem_append_left _ ha) (al_atK hnd (k := 0) (by rfl) (by rfl)) hin3 tyX3_ok nmX3 rfl 1 (by decide) (List.mem_of_getElem? (i := 11) rfl) (Or.inl rfl) rfl rfl rfl (by show _ < 6; decide) dX3_init_37 (fun H locs w => ?_)
  have w : hg_W D b0 (L ++ [q1, q2]) (al_F f [(a, .inr (2, [.int (low), .int (slack), .int (0), .int (0), .ref q1, .ref q2])), (q1, .inl (D.1 11, 3, .inl (fun _ => 0))), (q2, .inl (D.1 15, 6, .inr (.inr (.inr (.inr (fun _ => none))))))]) s.heap H locs := al_chgK hnd (k := 0) w (by rfl) (by rfl)
  exact hend H locs (L ++ [q1, q2], al_F f [(a, .inr (2, [.int (low), .int (slack), .int (0), .int (0), .ref q1, .ref q2])), (q1, .inl (D.1 11, 3, .inl (fun _ => 0))), (q2, .inl (D.1 15, 6, .inr (.inr (.inr (.inr (fun _ => none))))))]) _ ls w ⟨q1, q2, (by simpa using hq1), hq2, al_e3 hnd⟩ dX3_init_40
