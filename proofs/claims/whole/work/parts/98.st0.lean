theorem al_gmN {a : Nat} {N : List Nat} {i : Nat} (h1 : 1 ≤ i) (hi : i < (a :: N).length) : (a :: N).getD i 0 ∈ N := by
  obtain ⟨j, rfl⟩ : ∃ j, i = j + 1 := ⟨i - 1, by omega⟩
  have hj : j < N.length := by simpa using hi
  show N.getD j 0 ∈ N
  rw [List.getD_eq_getElem?_getD, List.getElem?_eq_getElem hj]
  exact List.getElem_mem hj
set_option maxRecDepth 100000 in
set_option maxHeartbeats 4000000 in
theorem c_X12_initF (l : Launch) (D : va_G) (b0 : Nat) (L : List Nat) (f : Nat → va_E) (a : Nat) (ha : a ∈ L) (hf : f a = .inr (10, [.null, .int 0, .null, .null, .null, .null, .null, .int 0, .null, .int 0, .int 0, .int 0, .int 0, .int 0, .int 0, .null, .int 0, .null, .int 0])) : hg_Mv l yX12_init wsX12_init ({ frames := 1, cells := 9, slots := 1958, locals := 12 }) D b0 L (f) [.ref a] (fun u => ∃ ma N, (∀ k ∈ mo_ks, ma k ∈ N) ∧ (∀ b ∈ N, b ∉ L) ∧ mo_ok (L ++ N) a ma ∧ u = (L ++ N, mo_F D f a ma mo_M0)) 9 1958 := by
  refine hg_in_v (cc := cX12_init) (nL := 2) (by decide) rfl (Nat.le_of_ble_eq_true rfl) (fun p e s m args below meth c R Q X hname hR hend H locs ls w hl => ?_)
  subst hR
  obtain ⟨hx, hb, hml, hown, hts⟩ := id X.1
  have hin12 : ∀ w ∈ wsX120, w ∈ wsX12_init := fun w h => List.mem_cons_of_mem _ (List.mem_append_right _ h)
  have hl : lv_has ls 2 [(0, .ref a)] := hl
  have hnd : [a].Nodup := by simp
  have w : hg_W D b0 (L ++ []) (al_F f [(a, .inr (10, [.null, .int 0, .null, .null, .null, .null, .null, .int 0, .null, .int 0, .int 0, .int 0, .int 0, .int 0, .int 0, .null, .int 0, .null, .int 0]))]) s.heap H locs := al_start hf w
  refine lv_aload_n hx hb dX12_init_0 rfl (lv_at hl 0 rfl) ?_
  refine W.objInit hx hb hown (hts _ (List.mem_of_getElem? (i := 1) rfl)) (hts _ (List.mem_of_getElem? (i := 2) rfl)) (hts _ (List.mem_of_getElem? (i := 3) rfl)) rfl (by rw [hml]; exact hl.1) rfl dX12_init_1 (Nat.le_of_ble_eq_true rfl) (Nat.le_of_ble_eq_true rfl) ?_
  refine (show W p l e _ s m args below meth c H locs _ _ Q (F0 m 4 ls []) from ?_)
  refine lv_aload_n hx hb dX12_init_4 rfl (lv_at hl 0 rfl) ?_
  refine lv_sipush (v := 1400) hx hb dX12_init_5 (by decide) ?_
  refine hg_newI2 X w 1400 rfl (by decide) (List.mem_of_getElem? (i := 4) rfl) (Nat.le_of_ble_eq_true rfl) (Nat.le_of_ble_eq_true rfl) dX12_init_8 (fun q1 H hq1 w => ?_)
  have hnd0 := hnd
  have w : hg_W D b0 (L ++ [q1]) (al_F f [(a, .inr (10, [.null, .int 0, .null, .null, .null, .null, .null, .int 0, .null, .int 0, .int 0, .int 0, .int 0, .int 0, .int 0, .null, .int 0, .null, .int 0])), (q1, .inl (D.1 11, 1400, .inl (fun _ => 0)))]) s.heap H locs := al_grow w (al_notin ha hq1)
  have hnd : [a, q1].Nodup := al_nd hnd0 ha hq1
  refine al_putF (C := RX12) (T := TX12) (N0 := 19) (ci := 10) (ty0 := tyX12) X w hname (List.mem_append_left _ ha) (al_atK hnd (k := 0) (by rfl) (by rfl)) hin12 tyX12_ok nmX12 rfl 0 (by decide) (List.mem_of_getElem? (i := 5) rfl) rfl rfl rfl rfl (by show _ < 19; decide) dX12_init_10 (fun H locs w => ?_)
  have w : hg_W D b0 (L ++ [q1]) (al_F f [(a, .inr (10, [.ref q1, .int 0, .null, .null, .null, .null, .null, .int 0, .null, .int 0, .int 0, .int 0, .int 0, .int 0, .int 0, .null, .int 0, .null, .int 0])), (q1, .inl (D.1 11, 1400, .inl (fun _ => 0)))]) s.heap H locs := al_chgK hnd (k := 0) w (by rfl) (by rfl)
  refine lv_aload_n hx hb dX12_init_13 rfl (lv_at hl 0 rfl) ?_
  refine lv_iconst (v := 2) hx hb dX12_init_14 (by decide) ?_
  refine hg_newZ X w 2 rfl (by decide) (List.mem_of_getElem? (i := 6) rfl) (Nat.le_of_ble_eq_true rfl) (Nat.le_of_ble_eq_true rfl) dX12_init_15 (fun q2 H hq2 w => ?_)
  have hnd0 := hnd
  have w : hg_W D b0 (L ++ [q1, q2]) (al_F f [(a, .inr (10, [.ref q1, .int 0, .null, .null, .null, .null, .null, .int 0, .null, .int 0, .int 0, .int 0, .int 0, .int 0, .int 0, .null, .int 0, .null, .int 0])), (q1, .inl (D.1 11, 1400, .inl (fun _ => 0))), (q2, .inl (D.1 12, 2, .inl (fun _ => 0)))]) s.heap H locs := al_grow w (al_notin ha hq2)
  have hnd : [a, q1, q2].Nodup := al_nd hnd0 ha hq2
  refine al_putF (C := RX12) (T := TX12) (N0 := 19) (ci := 10) (ty0 := tyX12) X w hname (List.mem_append_left _ ha) (al_atK hnd (k := 0) (by rfl) (by rfl)) hin12 tyX12_ok nmX12 rfl 2 (by decide) (List.mem_of_getElem? (i := 7) rfl) rfl rfl rfl rfl (by show _ < 19; decide) dX12_init_17 (fun H locs w => ?_)
  have w : hg_W D b0 (L ++ [q1, q2]) (al_F f [(a, .inr (10, [.ref q1, .int 0, .ref q2, .null, .null, .null, .null, .int 0, .null, .int 0, .int 0, .int 0, .int 0, .int 0, .int 0, .null, .int 0, .null, .int 0])), (q1, .inl (D.1 11, 1400, .inl (fun _ => 0))), (q2, .inl (D.1 12, 2, .inl (fun _ => 0)))]) s.heap H locs := al_chgK hnd (k := 0) w (by rfl) (by rfl)
  refine lv_aload_n hx hb dX12_init_20 rfl (lv_at hl 0 rfl) ?_
  refine lv_bipush (v := 8) hx hb dX12_init_21 (by decide) ?_
  refine hg_newI2 X w 8 rfl (by decide) (List.mem_of_getElem? (i := 4) rfl) (Nat.le_of_ble_eq_true rfl) (Nat.le_of_ble_eq_true rfl) dX12_init_23 (fun q3 H hq3 w => ?_)
  have hnd0 := hnd
  have w : hg_W D b0 (L ++ [q1, q2, q3]) (al_F f [(a, .inr (10, [.ref q1, .int 0, .ref q2, .null, .null, .null, .null, .int 0, .null, .int 0, .int 0, .int 0, .int 0, .int 0, .int 0, .null, .int 0, .null, .int 0])), (q1, .inl (D.1 11, 1400, .inl (fun _ => 0))), (q2, .inl (D.1 12, 2, .inl (fun _ => 0))), (q3, .inl (D.1 11, 8, .inl (fun _ => 0)))]) s.heap H locs := al_grow w (al_notin ha hq3)
  have hnd : [a, q1, q2, q3].Nodup := al_nd hnd0 ha hq3
  refine al_putF (C := RX12) (T := TX12) (N0 := 19) (ci := 10) (ty0 := tyX12) X w hname (List.mem_append_left _ ha) (al_atK hnd (k := 0) (by rfl) (by rfl)) hin12 tyX12_ok nmX12 rfl 3 (by decide) (List.mem_of_getElem? (i := 8) rfl) rfl rfl rfl rfl (by show _ < 19; decide) dX12_init_25 (fun H locs w => ?_)
  have w : hg_W D b0 (L ++ [q1, q2, q3]) (al_F f [(a, .inr (10, [.ref q1, .int 0, .ref q2, .ref q3, .null, .null, .null, .int 0, .null, .int 0, .int 0, .int 0, .int 0, .int 0, .int 0, .null, .int 0, .null, .int 0])), (q1, .inl (D.1 11, 1400, .inl (fun _ => 0))), (q2, .inl (D.1 12, 2, .inl (fun _ => 0))), (q3, .inl (D.1 11, 8, .inl (fun _ => 0)))]) s.heap H locs := al_chgK hnd (k := 0) w (by rfl) (by rfl)
  refine lv_aload_n hx hb dX12_init_28 rfl (lv_at hl 0 rfl) ?_
  refine lv_bipush (v := 8) hx hb dX12_init_29 (by decide) ?_
  refine hg_newI2 X w 8 rfl (by decide) (List.mem_of_getElem? (i := 4) rfl) (Nat.le_of_ble_eq_true rfl) (Nat.le_of_ble_eq_true rfl) dX12_init_31 (fun q4 H hq4 w => ?_)
  have hnd0 := hnd
  have w : hg_W D b0 (L ++ [q1, q2, q3, q4]) (al_F f [(a, .inr (10, [.ref q1, .int 0, .ref q2, .ref q3, .null, .null, .null, .int 0, .null, .int 0, .int 0, .int 0, .int 0, .int 0, .int 0, .null, .int 0, .null, .int 0])), (q1, .inl (D.1 11, 1400, .inl (fun _ => 0))), (q2, .inl (D.1 12, 2, .inl (fun _ => 0))), (q3, .inl (D.1 11, 8, .inl (fun _ => 0))), (q4, .inl (D.1 11, 8, .inl (fun _ => 0)))]) s.heap H locs := al_grow w (al_notin ha hq4)
  have hnd : [a, q1, q2, q3, q4].Nodup := al_nd hnd0 ha hq4
  refine al_putF (C := RX12) (T := TX12) (N0 := 19) (ci := 10) (ty0 := tyX12) X w hname (List.mem_append_left _ ha) (al_atK hnd (k := 0) (by rfl) (by rfl)) hin12 tyX12_ok nmX12 rfl 4 (by decide) (List.mem_of_getElem? (i := 9) rfl) rfl rfl rfl rfl (by show _ < 19; decide) dX12_init_33 (fun H locs w => ?_)
  have w : hg_W D b0 (L ++ [q1, q2, q3, q4]) (al_F f [(a, .inr (10, [.ref q1, .int 0, .ref q2, .ref q3, .ref q4, .null, .null, .int 0, .null, .int 0, .int 0, .int 0, .int 0, .int 0, .int 0, .null, .int 0, .null, .int 0])), (q1, .inl (D.1 11, 1400, .inl (fun _ => 0))), (q2, .inl (D.1 12, 2, .inl (fun _ => 0))), (q3, .inl (D.1 11, 8, .inl (fun _ => 0))), (q4, .inl (D.1 11, 8, .inl (fun _ => 0)))]) s.heap H locs := al_chgK hnd (k := 0) w (by rfl) (by rfl)
  refine lv_aload_n hx hb dX12_init_36 rfl (lv_at hl 0 rfl) ?_
  refine lv_sipush (v := 320) hx hb dX12_init_37 (by decide) ?_
  refine hg_newI2 X w 320 rfl (by decide) (List.mem_of_getElem? (i := 4) rfl) (Nat.le_of_ble_eq_true rfl) (Nat.le_of_ble_eq_true rfl) dX12_init_40 (fun q5 H hq5 w => ?_)
  have hnd0 := hnd
  have w : hg_W D b0 (L ++ [q1, q2, q3, q4, q5]) (al_F f [(a, .inr (10, [.ref q1, .int 0, .ref q2, .ref q3, .ref q4, .null, .null, .int 0, .null, .int 0, .int 0, .int 0, .int 0, .int 0, .int 0, .null, .int 0, .null, .int 0])), (q1, .inl (D.1 11, 1400, .inl (fun _ => 0))), (q2, .inl (D.1 12, 2, .inl (fun _ => 0))), (q3, .inl (D.1 11, 8, .inl (fun _ => 0))), (q4, .inl (D.1 11, 8, .inl (fun _ => 0))), (q5, .inl (D.1 11, 320, .inl (fun _ => 0)))]) s.heap H locs := al_grow w (al_notin ha hq5)
  have hnd : [a, q1, q2, q3, q4, q5].Nodup := al_nd hnd0 ha hq5
  refine al_putF (C := RX12) (T := TX12) (N0 := 19) (ci := 10) (ty0 := tyX12) X w hname (List.mem_append_left _ ha) (al_atK hnd (k := 0) (by rfl) (by rfl)) hin12 tyX12_ok nmX12 rfl 5 (by decide) (List.mem_of_getElem? (i := 10) rfl) rfl rfl rfl rfl (by show _ < 19; decide) dX12_init_42 (fun H locs w => ?_)
  have w : hg_W D b0 (L ++ [q1, q2, q3, q4, q5]) (al_F f [(a, .inr (10, [.ref q1, .int 0, .ref q2, .ref q3, .ref q4, .ref q5, .null, .int 0, .null, .int 0, .int 0, .int 0, .int 0, .int 0, .int 0, .null, .int 0, .null, .int 0])), (q1, .inl (D.1 11, 1400, .inl (fun _ => 0))), (q2, .inl (D.1 12, 2, .inl (fun _ => 0))), (q3, .inl (D.1 11, 8, .inl (fun _ => 0))), (q4, .inl (D.1 11, 8, .inl (fun _ => 0))), (q5, .inl (D.1 11, 320, .inl (fun _ => 0)))]) s.heap H locs := al_chgK hnd (k := 0) w (by rfl) (by rfl)
  refine lv_aload_n hx hb dX12_init_45 rfl (lv_at hl 0 rfl) ?_
  refine lv_bipush (v := 40) hx hb dX12_init_46 (by decide) ?_
  refine hg_newI2 X w 40 rfl (by decide) (List.mem_of_getElem? (i := 4) rfl) (Nat.le_of_ble_eq_true rfl) (Nat.le_of_ble_eq_true rfl) dX12_init_48 (fun q6 H hq6 w => ?_)
  have hnd0 := hnd
  have w : hg_W D b0 (L ++ [q1, q2, q3, q4, q5, q6]) (al_F f [(a, .inr (10, [.ref q1, .int 0, .ref q2, .ref q3, .ref q4, .ref q5, .null, .int 0, .null, .int 0, .int 0, .int 0, .int 0, .int 0, .int 0, .null, .int 0, .null, .int 0])), (q1, .inl (D.1 11, 1400, .inl (fun _ => 0))), (q2, .inl (D.1 12, 2, .inl (fun _ => 0))), (q3, .inl (D.1 11, 8, .inl (fun _ => 0))), (q4, .inl (D.1 11, 8, .inl (fun _ => 0))), (q5, .inl (D.1 11, 320, .inl (fun _ => 0))), (q6, .inl (D.1 11, 40, .inl (fun _ => 0)))]) s.heap H locs := al_grow w (al_notin ha hq6)
  have hnd : [a, q1, q2, q3, q4, q5, q6].Nodup := al_nd hnd0 ha hq6
  refine al_putF (C := RX12) (T := TX12) (N0 := 19) (ci := 10) (ty0 := tyX12) X w hname (List.mem_append_left _ ha) (al_atK hnd (k := 0) (by rfl) (by rfl)) hin12 tyX12_ok nmX12 rfl 6 (by decide) (List.mem_of_getElem? (i := 11) rfl) rfl rfl rfl rfl (by show _ < 19; decide) dX12_init_50 (fun H locs w => ?_)
  have w : hg_W D b0 (L ++ [q1, q2, q3, q4, q5, q6]) (al_F f [(a, .inr (10, [.ref q1, .int 0, .ref q2, .ref q3, .ref q4, .ref q5, .ref q6, .int 0, .null, .int 0, .int 0, .int 0, .int 0, .int 0, .int 0, .null, .int 0, .null, .int 0])), (q1, .inl (D.1 11, 1400, .inl (fun _ => 0))), (q2, .inl (D.1 12, 2, .inl (fun _ => 0))), (q3, .inl (D.1 11, 8, .inl (fun _ => 0))), (q4, .inl (D.1 11, 8, .inl (fun _ => 0))), (q5, .inl (D.1 11, 320, .inl (fun _ => 0))), (q6, .inl (D.1 11, 40, .inl (fun _ => 0)))]) s.heap H locs := al_chgK hnd (k := 0) w (by rfl) (by rfl)
  refine lv_aload_n hx hb dX12_init_53 rfl (lv_at hl 0 rfl) ?_
  refine lv_bipush (v := 100) hx hb dX12_init_54 (by decide) ?_
  refine hg_newI2 X w 100 rfl (by decide) (List.mem_of_getElem? (i := 4) rfl) (Nat.le_of_ble_eq_true rfl) (Nat.le_of_ble_eq_true rfl) dX12_init_56 (fun q7 H hq7 w => ?_)
  have hnd0 := hnd
  have w : hg_W D b0 (L ++ [q1, q2, q3, q4, q5, q6, q7]) (al_F f [(a, .inr (10, [.ref q1, .int 0, .ref q2, .ref q3, .ref q4, .ref q5, .ref q6, .int 0, .null, .int 0, .int 0, .int 0, .int 0, .int 0, .int 0, .null, .int 0, .null, .int 0])), (q1, .inl (D.1 11, 1400, .inl (fun _ => 0))), (q2, .inl (D.1 12, 2, .inl (fun _ => 0))), (q3, .inl (D.1 11, 8, .inl (fun _ => 0))), (q4, .inl (D.1 11, 8, .inl (fun _ => 0))), (q5, .inl (D.1 11, 320, .inl (fun _ => 0))), (q6, .inl (D.1 11, 40, .inl (fun _ => 0))), (q7, .inl (D.1 11, 100, .inl (fun _ => 0)))]) s.heap H locs := al_grow w (al_notin ha hq7)
  have hnd : [a, q1, q2, q3, q4, q5, q6, q7].Nodup := al_nd hnd0 ha hq7
  refine al_putF (C := RX12) (T := TX12) (N0 := 19) (ci := 10) (ty0 := tyX12) X w hname (List.mem_append_left _ ha) (al_atK hnd (k := 0) (by rfl) (by rfl)) hin12 tyX12_ok nmX12 rfl 8 (by decide) (List.mem_of_getElem? (i := 12) rfl) rfl rfl rfl rfl (by show _ < 19; decide) dX12_init_58 (fun H locs w => ?_)
  have w : hg_W D b0 (L ++ [q1, q2, q3, q4, q5, q6, q7]) (al_F f [(a, .inr (10, [.ref q1, .int 0, .ref q2, .ref q3, .ref q4, .ref q5, .ref q6, .int 0, .ref q7, .int 0, .int 0, .int 0, .int 0, .int 0, .int 0, .null, .int 0, .null, .int 0])), (q1, .inl (D.1 11, 1400, .inl (fun _ => 0))), (q2, .inl (D.1 12, 2, .inl (fun _ => 0))), (q3, .inl (D.1 11, 8, .inl (fun _ => 0))), (q4, .inl (D.1 11, 8, .inl (fun _ => 0))), (q5, .inl (D.1 11, 320, .inl (fun _ => 0))), (q6, .inl (D.1 11, 40, .inl (fun _ => 0))), (q7, .inl (D.1 11, 100, .inl (fun _ => 0)))]) s.heap H locs := al_chgK hnd (k := 0) w (by rfl) (by rfl)
  refine lv_aload_n hx hb dX12_init_61 rfl (lv_at hl 0 rfl) ?_
  refine lv_bipush (v := 64) hx hb dX12_init_62 (by decide) ?_
  refine hg_newI2 X w 64 rfl (by decide) (List.mem_of_getElem? (i := 4) rfl) (Nat.le_of_ble_eq_true rfl) (Nat.le_of_ble_eq_true rfl) dX12_init_64 (fun q8 H hq8 w => ?_)
  have hnd0 := hnd
  have w : hg_W D b0 (L ++ [q1, q2, q3, q4, q5, q6, q7, q8]) (al_F f [(a, .inr (10, [.ref q1, .int 0, .ref q2, .ref q3, .ref q4, .ref q5, .ref q6, .int 0, .ref q7, .int 0, .int 0, .int 0, .int 0, .int 0, .int 0, .null, .int 0, .null, .int 0])), (q1, .inl (D.1 11, 1400, .inl (fun _ => 0))), (q2, .inl (D.1 12, 2, .inl (fun _ => 0))), (q3, .inl (D.1 11, 8, .inl (fun _ => 0))), (q4, .inl (D.1 11, 8, .inl (fun _ => 0))), (q5, .inl (D.1 11, 320, .inl (fun _ => 0))), (q6, .inl (D.1 11, 40, .inl (fun _ => 0))), (q7, .inl (D.1 11, 100, .inl (fun _ => 0))), (q8, .inl (D.1 11, 64, .inl (fun _ => 0)))]) s.heap H locs := al_grow w (al_notin ha hq8)
  have hnd : [a, q1, q2, q3, q4, q5, q6, q7, q8].Nodup := al_nd hnd0 ha hq8
  refine al_putF (C := RX12) (T := TX12) (N0 := 19) (ci := 10) (ty0 := tyX12) X w hname (List.mem_append_left _ ha) (al_atK hnd (k := 0) (by rfl) (by rfl)) hin12 tyX12_ok nmX12 rfl 15 (by decide) (List.mem_of_getElem? (i := 13) rfl) rfl rfl rfl rfl (by show _ < 19; decide) dX12_init_66 (fun H locs w => ?_)
  have w : hg_W D b0 (L ++ [q1, q2, q3, q4, q5, q6, q7, q8]) (al_F f [(a, .inr (10, [.ref q1, .int 0, .ref q2, .ref q3, .ref q4, .ref q5, .ref q6, .int 0, .ref q7, .int 0, .int 0, .int 0, .int 0, .int 0, .int 0, .ref q8, .int 0, .null, .int 0])), (q1, .inl (D.1 11, 1400, .inl (fun _ => 0))), (q2, .inl (D.1 12, 2, .inl (fun _ => 0))), (q3, .inl (D.1 11, 8, .inl (fun _ => 0))), (q4, .inl (D.1 11, 8, .inl (fun _ => 0))), (q5, .inl (D.1 11, 320, .inl (fun _ => 0))), (q6, .inl (D.1 11, 40, .inl (fun _ => 0))), (q7, .inl (D.1 11, 100, .inl (fun _ => 0))), (q8, .inl (D.1 11, 64, .inl (fun _ => 0)))]) s.heap H locs := al_chgK hnd (k := 0) w (by rfl) (by rfl)
  refine lv_aload_n hx hb dX12_init_69 rfl (lv_at hl 0 rfl) ?_
  refine lv_bipush (v := 16) hx hb dX12_init_70 (by decide) ?_
  refine hg_newI2 X w 16 rfl (by decide) (List.mem_of_getElem? (i := 4) rfl) (Nat.le_of_ble_eq_true rfl) (Nat.le_of_ble_eq_true rfl) dX12_init_72 (fun q9 H hq9 w => ?_)
  have hnd0 := hnd
  have w : hg_W D b0 (L ++ [q1, q2, q3, q4, q5, q6, q7, q8, q9]) (al_F f [(a, .inr (10, [.ref q1, .int 0, .ref q2, .ref q3, .ref q4, .ref q5, .ref q6, .int 0, .ref q7, .int 0, .int 0, .int 0, .int 0, .int 0, .int 0, .ref q8, .int 0, .null, .int 0])), (q1, .inl (D.1 11, 1400, .inl (fun _ => 0))), (q2, .inl (D.1 12, 2, .inl (fun _ => 0))), (q3, .inl (D.1 11, 8, .inl (fun _ => 0))), (q4, .inl (D.1 11, 8, .inl (fun _ => 0))), (q5, .inl (D.1 11, 320, .inl (fun _ => 0))), (q6, .inl (D.1 11, 40, .inl (fun _ => 0))), (q7, .inl (D.1 11, 100, .inl (fun _ => 0))), (q8, .inl (D.1 11, 64, .inl (fun _ => 0))), (q9, .inl (D.1 11, 16, .inl (fun _ => 0)))]) s.heap H locs := al_grow w (al_notin ha hq9)
  have hnd : [a, q1, q2, q3, q4, q5, q6, q7, q8, q9].Nodup := al_nd hnd0 ha hq9
  refine al_putF (C := RX12) (T := TX12) (N0 := 19) (ci := 10) (ty0 := tyX12) X w hname (List.mem_append_left _ ha) (al_atK hnd (k := 0) (by rfl) (by rfl)) hin12 tyX12_ok nmX12 rfl 17 (by decide) (List.mem_of_getElem? (i := 14) rfl) rfl rfl rfl rfl (by show _ < 19; decide) dX12_init_74 (fun H locs w => ?_)
  have w : hg_W D b0 (L ++ [q1, q2, q3, q4, q5, q6, q7, q8, q9]) (al_F f [(a, .inr (10, [.ref q1, .int 0, .ref q2, .ref q3, .ref q4, .ref q5, .ref q6, .int 0, .ref q7, .int 0, .int 0, .int 0, .int 0, .int 0, .int 0, .ref q8, .int 0, .ref q9, .int 0])), (q1, .inl (D.1 11, 1400, .inl (fun _ => 0))), (q2, .inl (D.1 12, 2, .inl (fun _ => 0))), (q3, .inl (D.1 11, 8, .inl (fun _ => 0))), (q4, .inl (D.1 11, 8, .inl (fun _ => 0))), (q5, .inl (D.1 11, 320, .inl (fun _ => 0))), (q6, .inl (D.1 11, 40, .inl (fun _ => 0))), (q7, .inl (D.1 11, 100, .inl (fun _ => 0))), (q8, .inl (D.1 11, 64, .inl (fun _ => 0))), (q9, .inl (D.1 11, 16, .inl (fun _ => 0)))]) s.heap H locs := al_chgK hnd (k := 0) w (by rfl) (by rfl)
  refine lv_iconst (v := 0) hx hb dX12_init_77 (by decide) ?_
  refine lv_istore_n (lv' := [(1, .int (0)), (0, .ref a)]) hx hb dX12_init_78 rfl hl (by decide) rfl (fun ls hl => ?_)
  refine lv_iload_n hx hb dX12_init_79 rfl (lv_at hl 0 rfl) ?_
  refine lv_bipush (v := 8) hx hb dX12_init_80 (by decide) ?_
  refine lv_icmp_ge (tgt := 98) hx hb dX12_init_82 (by decide) (fun c_82 => ?_) (fun c_82 => ?_)
  · exact absurd c_82 (by decide)
  · refine lv_aload_n hx hb dX12_init_85 rfl (lv_at hl 1 rfl) ?_
    refine hg_get (C := RX12) (T := TX12) (N := 19) (ci := 10) X w (List.mem_append_left _ ha) (al_atK hnd (k := 0) (by rfl) (by rfl)) hin12 rfl 3 (by decide) (List.mem_of_getElem? (i := 8) rfl) (Or.inl rfl) rfl dX12_init_86 ?_
    refine lv_iload_n hx hb dX12_init_89 rfl (lv_at hl 0 rfl) ?_
    refine lv_iconst (v := (-1)) hx hb dX12_init_90 (by decide) ?_
    refine hg_iast X w (List.mem_append_right _ (List.mem_of_getElem? (i := 2) rfl)) (al_atK hnd (k := 3) (by rfl) (by rfl)) 0 rfl (by decide) (by decide) dX12_init_91 (fun H locs w => ?_)
    have w : hg_W D b0 (L ++ [q1, q2, q3, q4, q5, q6, q7, q8, q9]) (al_F f [(a, .inr (10, [.ref q1, .int 0, .ref q2, .ref q3, .ref q4, .ref q5, .ref q6, .int 0, .ref q7, .int 0, .int 0, .int 0, .int 0, .int 0, .int 0, .ref q8, .int 0, .ref q9, .int 0])), (q1, .inl (D.1 11, 1400, .inl (fun _ => 0))), (q2, .inl (D.1 12, 2, .inl (fun _ => 0))), (q3, .inl (D.1 11, 8, .inl (va_up (fun _ => 0) 0 (-1)))), (q4, .inl (D.1 11, 8, .inl (fun _ => 0))), (q5, .inl (D.1 11, 320, .inl (fun _ => 0))), (q6, .inl (D.1 11, 40, .inl (fun _ => 0))), (q7, .inl (D.1 11, 100, .inl (fun _ => 0))), (q8, .inl (D.1 11, 64, .inl (fun _ => 0))), (q9, .inl (D.1 11, 16, .inl (fun _ => 0)))]) s.heap H locs := al_chgK hnd (k := 3) w (by rfl) (by rfl)
    refine lv_iinc (v := 0 + 1) (lv' := [(1, .int (0 + 1)), (0, .ref a)]) hx hb dX12_init_92 hl (k := 0) rfl rfl (by decide) rfl (fun ls hl => ?_)
    refine lv_goto (tgt := 79) hx hb dX12_init_95 (by decide) ?_
    refine lv_iload_n hx hb dX12_init_79 rfl (lv_at hl 0 rfl) ?_
    refine lv_bipush (v := 8) hx hb dX12_init_80 (by decide) ?_
    refine lv_icmp_ge (tgt := 98) hx hb dX12_init_82 (by decide) (fun c_82 => ?_) (fun c_82 => ?_)
    · exact absurd c_82 (by decide)
    · refine lv_aload_n hx hb dX12_init_85 rfl (lv_at hl 1 rfl) ?_
      refine hg_get (C := RX12) (T := TX12) (N := 19) (ci := 10) X w (List.mem_append_left _ ha) (al_atK hnd (k := 0) (by rfl) (by rfl)) hin12 rfl 3 (by decide) (List.mem_of_getElem? (i := 8) rfl) (Or.inl rfl) rfl dX12_init_86 ?_
      refine lv_iload_n hx hb dX12_init_89 rfl (lv_at hl 0 rfl) ?_
      refine lv_iconst (v := (-1)) hx hb dX12_init_90 (by decide) ?_
      refine hg_iast X w (List.mem_append_right _ (List.mem_of_getElem? (i := 2) rfl)) (al_atK hnd (k := 3) (by rfl) (by rfl)) 1 rfl (by decide) (by decide) dX12_init_91 (fun H locs w => ?_)
      have w : hg_W D b0 (L ++ [q1, q2, q3, q4, q5, q6, q7, q8, q9]) (al_F f [(a, .inr (10, [.ref q1, .int 0, .ref q2, .ref q3, .ref q4, .ref q5, .ref q6, .int 0, .ref q7, .int 0, .int 0, .int 0, .int 0, .int 0, .int 0, .ref q8, .int 0, .ref q9, .int 0])), (q1, .inl (D.1 11, 1400, .inl (fun _ => 0))), (q2, .inl (D.1 12, 2, .inl (fun _ => 0))), (q3, .inl (D.1 11, 8, .inl (va_up (va_up (fun _ => 0) 0 (-1)) 1 (-1)))), (q4, .inl (D.1 11, 8, .inl (fun _ => 0))), (q5, .inl (D.1 11, 320, .inl (fun _ => 0))), (q6, .inl (D.1 11, 40, .inl (fun _ => 0))), (q7, .inl (D.1 11, 100, .inl (fun _ => 0))), (q8, .inl (D.1 11, 64, .inl (fun _ => 0))), (q9, .inl (D.1 11, 16, .inl (fun _ => 0)))]) s.heap H locs := al_chgK hnd (k := 3) w (by rfl) (by rfl)
      refine lv_iinc (v := 0 + 1 + 1) (lv' := [(1, .int (0 + 1 + 1)), (0, .ref a)]) hx hb dX12_init_92 hl (k := 0) rfl rfl (by decide) rfl (fun ls hl => ?_)
      refine lv_goto (tgt := 79) hx hb dX12_init_95 (by decide) ?_
      refine lv_iload_n hx hb dX12_init_79 rfl (lv_at hl 0 rfl) ?_
      refine lv_bipush (v := 8) hx hb dX12_init_80 (by decide) ?_
      refine lv_icmp_ge (tgt := 98) hx hb dX12_init_82 (by decide) (fun c_82 => ?_) (fun c_82 => ?_)
      · exact absurd c_82 (by decide)
      · refine lv_aload_n hx hb dX12_init_85 rfl (lv_at hl 1 rfl) ?_
        refine hg_get (C := RX12) (T := TX12) (N := 19) (ci := 10) X w (List.mem_append_left _ ha) (al_atK hnd (k := 0) (by rfl) (by rfl)) hin12 rfl 3 (by decide) (List.mem_of_getElem? (i := 8) rfl) (Or.inl rfl) rfl dX12_init_86 ?_
        refine lv_iload_n hx hb dX12_init_89 rfl (lv_at hl 0 rfl) ?_
        refine lv_iconst (v := (-1)) hx hb dX12_init_90 (by decide) ?_
        refine hg_iast X w (List.mem_append_right _ (List.mem_of_getElem? (i := 2) rfl)) (al_atK hnd (k := 3) (by rfl) (by rfl)) 2 rfl (by decide) (by decide) dX12_init_91 (fun H locs w => ?_)
        have w : hg_W D b0 (L ++ [q1, q2, q3, q4, q5, q6, q7, q8, q9]) (al_F f [(a, .inr (10, [.ref q1, .int 0, .ref q2, .ref q3, .ref q4, .ref q5, .ref q6, .int 0, .ref q7, .int 0, .int 0, .int 0, .int 0, .int 0, .int 0, .ref q8, .int 0, .ref q9, .int 0])), (q1, .inl (D.1 11, 1400, .inl (fun _ => 0))), (q2, .inl (D.1 12, 2, .inl (fun _ => 0))), (q3, .inl (D.1 11, 8, .inl (va_up (va_up (va_up (fun _ => 0) 0 (-1)) 1 (-1)) 2 (-1)))), (q4, .inl (D.1 11, 8, .inl (fun _ => 0))), (q5, .inl (D.1 11, 320, .inl (fun _ => 0))), (q6, .inl (D.1 11, 40, .inl (fun _ => 0))), (q7, .inl (D.1 11, 100, .inl (fun _ => 0))), (q8, .inl (D.1 11, 64, .inl (fun _ => 0))), (q9, .inl (D.1 11, 16, .inl (fun _ => 0)))]) s.heap H locs := al_chgK hnd (k := 3) w (by rfl) (by rfl)
        refine lv_iinc (v := 0 + 1 + 1 + 1) (lv' := [(1, .int (0 + 1 + 1 + 1)), (0, .ref a)]) hx hb dX12_init_92 hl (k := 0) rfl rfl (by decide) rfl (fun ls hl => ?_)
        refine lv_goto (tgt := 79) hx hb dX12_init_95 (by decide) ?_
        refine lv_iload_n hx hb dX12_init_79 rfl (lv_at hl 0 rfl) ?_
        refine lv_bipush (v := 8) hx hb dX12_init_80 (by decide) ?_
        refine lv_icmp_ge (tgt := 98) hx hb dX12_init_82 (by decide) (fun c_82 => ?_) (fun c_82 => ?_)
        · exact absurd c_82 (by decide)
        · refine lv_aload_n hx hb dX12_init_85 rfl (lv_at hl 1 rfl) ?_
          refine hg_get (C := RX12) (T := TX12) (N := 19) (ci := 10) X w (List.mem_append_left _ ha) (al_atK hnd (k := 0) (by rfl) (by rfl)) hin12 rfl 3 (by decide) (List.mem_of_getElem? (i := 8) rfl) (Or.inl rfl) rfl dX12_init_86 ?_
          refine lv_iload_n hx hb dX12_init_89 rfl (lv_at hl 0 rfl) ?_
          refine lv_iconst (v := (-1)) hx hb dX12_init_90 (by decide) ?_
          refine hg_iast X w (List.mem_append_right _ (List.mem_of_getElem? (i := 2) rfl)) (al_atK hnd (k := 3) (by rfl) (by rfl)) 3 rfl (by decide) (by decide) dX12_init_91 (fun H locs w => ?_)
          have w : hg_W D b0 (L ++ [q1, q2, q3, q4, q5, q6, q7, q8, q9]) (al_F f [(a, .inr (10, [.ref q1, .int 0, .ref q2, .ref q3, .ref q4, .ref q5, .ref q6, .int 0, .ref q7, .int 0, .int 0, .int 0, .int 0, .int 0, .int 0, .ref q8, .int 0, .ref q9, .int 0])), (q1, .inl (D.1 11, 1400, .inl (fun _ => 0))), (q2, .inl (D.1 12, 2, .inl (fun _ => 0))), (q3, .inl (D.1 11, 8, .inl (va_up (va_up (va_up (va_up (fun _ => 0) 0 (-1)) 1 (-1)) 2 (-1)) 3 (-1)))), (q4, .inl (D.1 11, 8, .inl (fun _ => 0))), (q5, .inl (D.1 11, 320, .inl (fun _ => 0))), (q6, .inl (D.1 11, 40, .inl (fun _ => 0))), (q7, .inl (D.1 11, 100, .inl (fun _ => 0))), (q8, .inl (D.1 11, 64, .inl (fun _ => 0))), (q9, .inl (D.1 11, 16, .inl (fun _ => 0)))]) s.heap H locs := al_chgK hnd (k := 3) w (by rfl) (by rfl)
          refine lv_iinc (v := 0 + 1 + 1 + 1 + 1) (lv' := [(1, .int (0 + 1 + 1 + 1 + 1)), (0, .ref a)]) hx hb dX12_init_92 hl (k := 0) rfl rfl (by decide) rfl (fun ls hl => ?_)
          refine lv_goto (tgt := 79) hx hb dX12_init_95 (by decide) ?_
          refine lv_iload_n hx hb dX12_init_79 rfl (lv_at hl 0 rfl) ?_
          refine lv_bipush (v := 8) hx hb dX12_init_80 (by decide) ?_
          refine lv_icmp_ge (tgt := 98) hx hb dX12_init_82 (by decide) (fun c_82 => ?_) (fun c_82 => ?_)
          · exact absurd c_82 (by decide)
          · refine lv_aload_n hx hb dX12_init_85 rfl (lv_at hl 1 rfl) ?_
            refine hg_get (C := RX12) (T := TX12) (N := 19) (ci := 10) X w (List.mem_append_left _ ha) (al_atK hnd (k := 0) (by rfl) (by rfl)) hin12 rfl 3 (by decide) (List.mem_of_getElem? (i := 8) rfl) (Or.inl rfl) rfl dX12_init_86 ?_
            refine lv_iload_n hx hb dX12_init_89 rfl (lv_at hl 0 rfl) ?_
            refine lv_iconst (v := (-1)) hx hb dX12_init_90 (by decide) ?_
            refine hg_iast X w (List.mem_append_right _ (List.mem_of_getElem? (i := 2) rfl)) (al_atK hnd (k := 3) (by rfl) (by rfl)) 4 rfl (by decide) (by decide) dX12_init_91 (fun H locs w => ?_)
            have w : hg_W D b0 (L ++ [q1, q2, q3, q4, q5, q6, q7, q8, q9]) (al_F f [(a, .inr (10, [.ref q1, .int 0, .ref q2, .ref q3, .ref q4, .ref q5, .ref q6, .int 0, .ref q7, .int 0, .int 0, .int 0, .int 0, .int 0, .int 0, .ref q8, .int 0, .ref q9, .int 0])), (q1, .inl (D.1 11, 1400, .inl (fun _ => 0))), (q2, .inl (D.1 12, 2, .inl (fun _ => 0))), (q3, .inl (D.1 11, 8, .inl (va_up (va_up (va_up (va_up (va_up (fun _ => 0) 0 (-1)) 1 (-1)) 2 (-1)) 3 (-1)) 4 (-1)))), (q4, .inl (D.1 11, 8, .inl (fun _ => 0))), (q5, .inl (D.1 11, 320, .inl (fun _ => 0))), (q6, .inl (D.1 11, 40, .inl (fun _ => 0))), (q7, .inl (D.1 11, 100, .inl (fun _ => 0))), (q8, .inl (D.1 11, 64, .inl (fun _ => 0))), (q9, .inl (D.1 11, 16, .inl (fun _ => 0)))]) s.heap H locs := al_chgK hnd (k := 3) w (by rfl) (by rfl)
            refine lv_iinc (v := 0 + 1 + 1 + 1 + 1 + 1) (lv' := [(1, .int (0 + 1 + 1 + 1 + 1 + 1)), (0, .ref a)]) hx hb dX12_init_92 hl (k := 0) rfl rfl (by decide) rfl (fun ls hl => ?_)
            refine lv_goto (tgt := 79) hx hb dX12_init_95 (by decide) ?_
            refine lv_iload_n hx hb dX12_init_79 rfl (lv_at hl 0 rfl) ?_
            refine lv_bipush (v := 8) hx hb dX12_init_80 (by decide) ?_
            refine lv_icmp_ge (tgt := 98) hx hb dX12_init_82 (by decide) (fun c_82 => ?_) (fun c_82 => ?_)
            · exact absurd c_82 (by decide)
            · refine lv_aload_n hx hb dX12_init_85 rfl (lv_at hl 1 rfl) ?_
              refine hg_get (C := RX12) (T := TX12) (N := 19) (ci := 10) X w (List.mem_append_left _ ha) (al_atK hnd (k := 0) (by rfl) (by rfl)) hin12 rfl 3 (by decide) (List.mem_of_getElem? (i := 8) rfl) (Or.inl rfl) rfl dX12_init_86 ?_
              refine lv_iload_n hx hb dX12_init_89 rfl (lv_at hl 0 rfl) ?_
              refine lv_iconst (v := (-1)) hx hb dX12_init_90 (by decide) ?_
              refine hg_iast X w (List.mem_append_right _ (List.mem_of_getElem? (i := 2) rfl)) (al_atK hnd (k := 3) (by rfl) (by rfl)) 5 rfl (by decide) (by decide) dX12_init_91 (fun H locs w => ?_)
              have w : hg_W D b0 (L ++ [q1, q2, q3, q4, q5, q6, q7, q8, q9]) (al_F f [(a, .inr (10, [.ref q1, .int 0, .ref q2, .ref q3, .ref q4, .ref q5, .ref q6, .int 0, .ref q7, .int 0, .int 0, .int 0, .int 0, .int 0, .int 0, .ref q8, .int 0, .ref q9, .int 0])), (q1, .inl (D.1 11, 1400, .inl (fun _ => 0))), (q2, .inl (D.1 12, 2, .inl (fun _ => 0))), (q3, .inl (D.1 11, 8, .inl (va_up (va_up (va_up (va_up (va_up (va_up (fun _ => 0) 0 (-1)) 1 (-1)) 2 (-1)) 3 (-1)) 4 (-1)) 5 (-1)))), (q4, .inl (D.1 11, 8, .inl (fun _ => 0))), (q5, .inl (D.1 11, 320, .inl (fun _ => 0))), (q6, .inl (D.1 11, 40, .inl (fun _ => 0))), (q7, .inl (D.1 11, 100, .inl (fun _ => 0))), (q8, .inl (D.1 11, 64, .inl (fun _ => 0))), (q9, .inl (D.1 11, 16, .inl (fun _ => 0)))]) s.heap H locs := al_chgK hnd (k := 3) w (by rfl) (by rfl)
              refine lv_iinc (v := 0 + 1 + 1 + 1 + 1 + 1 + 1) (lv' := [(1, .int (0 + 1 + 1 + 1 + 1 + 1 + 1)), (0, .ref a)]) hx hb dX12_init_92 hl (k := 0) rfl rfl (by decide) rfl (fun ls hl => ?_)
              refine lv_goto (tgt := 79) hx hb dX12_init_95 (by decide) ?_
              refine lv_iload_n hx hb dX12_init_79 rfl (lv_at hl 0 rfl) ?_
              refine lv_bipush (v := 8) hx hb dX12_init_80 (by decide) ?_
              refine lv_icmp_ge (tgt := 98) hx hb dX12_init_82 (by decide) (fun c_82 => ?_) (fun c_82 => ?_)
              · exact absurd c_82 (by decide)
              · refine lv_aload_n hx hb dX12_init_85 rfl (lv_at hl 1 rfl) ?_
                refine hg_get (C := RX12) (T := TX12) (N := 19) (ci := 10) X w (List.mem_append_left _ ha) (al_atK hnd (k := 0) (by rfl) (by rfl)) hin12 rfl 3 (by decide) (List.mem_of_getElem? (i := 8) rfl) (Or.inl rfl) rfl dX12_init_86 ?_
                refine lv_iload_n hx hb dX12_init_89 rfl (lv_at hl 0 rfl) ?_
                refine lv_iconst (v := (-1)) hx hb dX12_init_90 (by decide) ?_
                refine hg_iast X w (List.mem_append_right _ (List.mem_of_getElem? (i := 2) rfl)) (al_atK hnd (k := 3) (by rfl) (by rfl)) 6 rfl (by decide) (by decide) dX12_init_91 (fun H locs w => ?_)
                have w : hg_W D b0 (L ++ [q1, q2, q3, q4, q5, q6, q7, q8, q9]) (al_F f [(a, .inr (10, [.ref q1, .int 0, .ref q2, .ref q3, .ref q4, .ref q5, .ref q6, .int 0, .ref q7, .int 0, .int 0, .int 0, .int 0, .int 0, .int 0, .ref q8, .int 0, .ref q9, .int 0])), (q1, .inl (D.1 11, 1400, .inl (fun _ => 0))), (q2, .inl (D.1 12, 2, .inl (fun _ => 0))), (q3, .inl (D.1 11, 8, .inl (va_up (va_up (va_up (va_up (va_up (va_up (va_up (fun _ => 0) 0 (-1)) 1 (-1)) 2 (-1)) 3 (-1)) 4 (-1)) 5 (-1)) 6 (-1)))), (q4, .inl (D.1 11, 8, .inl (fun _ => 0))), (q5, .inl (D.1 11, 320, .inl (fun _ => 0))), (q6, .inl (D.1 11, 40, .inl (fun _ => 0))), (q7, .inl (D.1 11, 100, .inl (fun _ => 0))), (q8, .inl (D.1 11, 64, .inl (fun _ => 0))), (q9, .inl (D.1 11, 16, .inl (fun _ => 0)))]) s.heap H locs := al_chgK hnd (k := 3) w (by rfl) (by rfl)
                refine lv_iinc (v := 0 + 1 + 1 + 1 + 1 + 1 + 1 + 1) (lv' := [(1, .int (0 + 1 + 1 + 1 + 1 + 1 + 1 + 1)), (0, .ref a)]) hx hb dX12_init_92 hl (k := 0) rfl rfl (by decide) rfl (fun ls hl => ?_)
                refine lv_goto (tgt := 79) hx hb dX12_init_95 (by decide) ?_
                refine lv_iload_n hx hb dX12_init_79 rfl (lv_at hl 0 rfl) ?_
                refine lv_bipush (v := 8) hx hb dX12_init_80 (by decide) ?_
                refine lv_icmp_ge (tgt := 98) hx hb dX12_init_82 (by decide) (fun c_82 => ?_) (fun c_82 => ?_)
                · exact absurd c_82 (by decide)
                · refine lv_aload_n hx hb dX12_init_85 rfl (lv_at hl 1 rfl) ?_
                  refine hg_get (C := RX12) (T := TX12) (N := 19) (ci := 10) X w (List.mem_append_left _ ha) (al_atK hnd (k := 0) (by rfl) (by rfl)) hin12 rfl 3 (by decide) (List.mem_of_getElem? (i := 8) rfl) (Or.inl rfl) rfl dX12_init_86 ?_
                  refine lv_iload_n hx hb dX12_init_89 rfl (lv_at hl 0 rfl) ?_
                  refine lv_iconst (v := (-1)) hx hb dX12_init_90 (by decide) ?_
                  refine hg_iast X w (List.mem_append_right _ (List.mem_of_getElem? (i := 2) rfl)) (al_atK hnd (k := 3) (by rfl) (by rfl)) 7 rfl (by decide) (by decide) dX12_init_91 (fun H locs w => ?_)
                  have w : hg_W D b0 (L ++ [q1, q2, q3, q4, q5, q6, q7, q8, q9]) (al_F f [(a, .inr (10, [.ref q1, .int 0, .ref q2, .ref q3, .ref q4, .ref q5, .ref q6, .int 0, .ref q7, .int 0, .int 0, .int 0, .int 0, .int 0, .int 0, .ref q8, .int 0, .ref q9, .int 0])), (q1, .inl (D.1 11, 1400, .inl (fun _ => 0))), (q2, .inl (D.1 12, 2, .inl (fun _ => 0))), (q3, .inl (D.1 11, 8, .inl (va_up (va_up (va_up (va_up (va_up (va_up (va_up (va_up (fun _ => 0) 0 (-1)) 1 (-1)) 2 (-1)) 3 (-1)) 4 (-1)) 5 (-1)) 6 (-1)) 7 (-1)))), (q4, .inl (D.1 11, 8, .inl (fun _ => 0))), (q5, .inl (D.1 11, 320, .inl (fun _ => 0))), (q6, .inl (D.1 11, 40, .inl (fun _ => 0))), (q7, .inl (D.1 11, 100, .inl (fun _ => 0))), (q8, .inl (D.1 11, 64, .inl (fun _ => 0))), (q9, .inl (D.1 11, 16, .inl (fun _ => 0)))]) s.heap H locs := al_chgK hnd (k := 3) w (by rfl) (by rfl)
                  refine lv_iinc (v := 0 + 1 + 1 + 1 + 1 + 1 + 1 + 1 + 1) (lv' := [(1, .int (0 + 1 + 1 + 1 + 1 + 1 + 1 + 1 + 1)), (0, .ref a)]) hx hb dX12_init_92 hl (k := 0) rfl rfl (by decide) rfl (fun ls hl => ?_)
                  refine lv_goto (tgt := 79) hx hb dX12_init_95 (by decide) ?_
                  refine lv_iload_n hx hb dX12_init_79 rfl (lv_at hl 0 rfl) ?_
                  refine lv_bipush (v := 8) hx hb dX12_init_80 (by decide) ?_
                  refine lv_icmp_ge (tgt := 98) hx hb dX12_init_82 (by decide) (fun c_82 => ?_) (fun c_82 => ?_)
                  · have hnd1 : (a :: [q1, q2, q3, q4, q5, q6, q7, q8, q9]).Nodup := hnd
                    have hmo : mo_ok (L ++ [q1, q2, q3, q4, q5, q6, q7, q8, q9]) a (fun k => (a :: [q1, q2, q3, q4, q5, q6, q7, q8, q9]).getD (mo_sg k) 0) := by
                      refine ⟨List.mem_append_left _ ha, fun k hk => ⟨al_gm ha (by have := (mo_sg_b k hk).2; simpa using this), fun z => ?_⟩, fun k hk j hj z => ?_⟩
                      · have := al_ndg hnd1 (i := mo_sg k) (j := 0) (by have := (mo_sg_b k hk).2; simpa using this) (by simp) z
                        have := (mo_sg_b k hk).1
                        omega
                      · exact mo_sg_i k hk j hj (al_ndg hnd1 (by have := (mo_sg_b k hk).2; simpa using this) (by have := (mo_sg_b j hj).2; simpa using this) z)
                    have hG : al_F f [(a, .inr (10, [.ref q1, .int 0, .ref q2, .ref q3, .ref q4, .ref q5, .ref q6, .int 0, .ref q7, .int 0, .int 0, .int 0, .int 0, .int 0, .int 0, .ref q8, .int 0, .ref q9, .int 0])), (q1, .inl (D.1 11, 1400, .inl (fun _ => 0))), (q2, .inl (D.1 12, 2, .inl (fun _ => 0))), (q3, .inl (D.1 11, 8, .inl (va_up (va_up (va_up (va_up (va_up (va_up (va_up (va_up (fun _ => 0) 0 (-1)) 1 (-1)) 2 (-1)) 3 (-1)) 4 (-1)) 5 (-1)) 6 (-1)) 7 (-1)))), (q4, .inl (D.1 11, 8, .inl (fun _ => 0))), (q5, .inl (D.1 11, 320, .inl (fun _ => 0))), (q6, .inl (D.1 11, 40, .inl (fun _ => 0))), (q7, .inl (D.1 11, 100, .inl (fun _ => 0))), (q8, .inl (D.1 11, 64, .inl (fun _ => 0))), (q9, .inl (D.1 11, 16, .inl (fun _ => 0)))] = mo_F D f a (fun k => (a :: [q1, q2, q3, q4, q5, q6, q7, q8, q9]).getD (mo_sg k) 0) mo_M0 := by
                      refine al_eq hnd (fun k b x hk => ?_) (fun b hb2 => ?_)
                      · match k, hk with
                        | 0, hk => cases hk; exact mo_at0 D f a _ mo_M0
                        | 1, hk => cases hk; exact (mo_atk hmo D f mo_M0 (k := 0) (by decide))
                        | 2, hk => cases hk; exact (mo_atk hmo D f mo_M0 (k := 2) (by decide))
                        | 3, hk => cases hk; rw [mo_lane]; exact (mo_atk hmo D f mo_M0 (k := 3) (by decide))
                        | 4, hk => cases hk; exact (mo_atk hmo D f mo_M0 (k := 4) (by decide))
                        | 5, hk => cases hk; exact (mo_atk hmo D f mo_M0 (k := 5) (by decide))
                        | 6, hk => cases hk; exact (mo_atk hmo D f mo_M0 (k := 6) (by decide))
                        | 7, hk => cases hk; exact (mo_atk hmo D f mo_M0 (k := 8) (by decide))
                        | 8, hk => cases hk; exact (mo_atk hmo D f mo_M0 (k := 15) (by decide))
                        | 9, hk => cases hk; exact (mo_atk hmo D f mo_M0 (k := 17) (by decide))
                        | k + 10, hk => exact absurd hk (by simp)
                      · exact mo_out (fun z => hb2 (by rw [z]; exact List.mem_cons_self)) (fun k hk z => hb2 (by rw [← z]; exact al_gm0 (N := [q1, q2, q3, q4, q5, q6, q7, q8, q9]) (by have := (mo_sg_b k hk).2; simpa using this)))
                    have hfr : ∀ b ∈ [q1, q2, q3, q4, q5, q6, q7, q8, q9], b ∉ L := by
                      intro b hb2
                      simp only [List.mem_cons, List.not_mem_nil, or_false] at hb2
                      rcases hb2 with rfl | rfl | rfl | rfl | rfl | rfl | rfl | rfl | rfl
                      · exact fun z => hq1 (List.mem_append_left _ z)
                      · exact fun z => hq2 (List.mem_append_left _ z)
                      · exact fun z => hq3 (List.mem_append_left _ z)
                      · exact fun z => hq4 (List.mem_append_left _ z)
                      · exact fun z => hq5 (List.mem_append_left _ z)
                      · exact fun z => hq6 (List.mem_append_left _ z)
                      · exact fun z => hq7 (List.mem_append_left _ z)
                      · exact fun z => hq8 (List.mem_append_left _ z)
                      · exact fun z => hq9 (List.mem_append_left _ z)
                    rw [hG] at w
                    have hmN : ∀ k ∈ mo_ks, (a :: [q1, q2, q3, q4, q5, q6, q7, q8, q9]).getD (mo_sg k) 0 ∈ [q1, q2, q3, q4, q5, q6, q7, q8, q9] := fun k hk => al_gmN (mo_sg_b k hk).1 (by have := (mo_sg_b k hk).2; simpa using this)
                    exact hend H locs (L ++ [q1, q2, q3, q4, q5, q6, q7, q8, q9], mo_F D f a (fun k => (a :: [q1, q2, q3, q4, q5, q6, q7, q8, q9]).getD (mo_sg k) 0) mo_M0) _ ls w ⟨_, [q1, q2, q3, q4, q5, q6, q7, q8, q9], hmN, hfr, hmo, rfl⟩ dX12_init_98
                  · exact absurd c_82 (by decide)

