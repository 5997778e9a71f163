theorem hdL_X11_slide : yX11_slide.cls = RX11 ∧ yX11_slide.cls ≠ "java/lang/invoke/MethodHandle" ∧ yX11_slide.cls ≠ "java/lang/invoke/VarHandle" ∧ (parseMethodDescriptor yX11_slide.desc).map (fun d => d.parameters.length) = some 2 := by decide +kernel
theorem hdL_X12_slide : yX12_slide.cls = RX12 ∧ yX12_slide.cls ≠ "java/lang/invoke/MethodHandle" ∧ yX12_slide.cls ≠ "java/lang/invoke/VarHandle" ∧ (parseMethodDescriptor yX12_slide.desc).map (fun d => d.parameters.length) = some 2 := by decide +kernel
set_option maxRecDepth 100000 in
set_option maxHeartbeats 4000000 in
theorem lc_slide {p : Program} {l : Launch} {e : Env} {s : State} {m : MethodId} {args : Array Value} {below : List Frame} {meth : Method} {c : Code} {H : Heap} {locs : List Loc} {cells slots : Nat} {Q : State → Prop} {D : va_G} {b0 : Nat} {L : List Nat} {F : Nat → va_E} {ls : Array Slot} {b Ls i x mo : Nat} {xs : Nat → Int32} {ma : Nat → Nat} (Y : lw_C p s m args c D b0 b Ls xs i) (hl : lv_has ls 4 [(0, .ref b), (1, .ref x), (2, .ref mo), (3, .int (nI i))]) (h : lc_I D L F x mo ma) (w : hg_W D b0 L F s.heap H locs) (hc : cells + 10 ≤ 600000) (hsl : slots + 64 ≤ 7302250) (kk : ∀ (L' : List Nat) (F' : Nat → va_E) (H : Heap) (locs : List Loc), lc_I D L' F' x mo ma → hg_W D b0 L' F' s.heap H locs → W p l e room_1 s m args below meth c H locs (cells + 10) (slots + 64) Q (F0 m 1324 ls [])) : W p l e room_1 s m args below meth c H locs cells slots Q (F0 m 500 ls []) := by
  obtain ⟨oa, C, M, mk, ad, n, nr, im, col, rfl, hw⟩ := h
  have X := Y.1
  obtain ⟨hx, hb, hml, hown, hts⟩ := id X.1
  obtain ⟨k1, k2, k3, ho, hm, hmo0, k7, k8, k9, k10, a, hI⟩ := id hw
  obtain ⟨hE, hZ, ⟨t, ht1, ht⟩, hR, ⟨ha, ha24⟩, ⟨s0, h12⟩, hV, hth, hG⟩ := id hI
  have hs := hV.1.1
  have htt := hV.1.2.1
  have hv := mk_ok_of hs htt
  have h4 := ag_I4 hI
  have hC1 : C 1 0 = nI a := by rw [hE 1 (by unfold ag_key; omega)]; exact ha
  have hC9 : C 9 0 = nI t := by rw [hE 9 (by unfold ag_key; omega)]; exact ht
  have hsz : cs_szs C := by unfold cs_szs; rw [hE 4 (by unfold ag_key; omega)]; exact hZ.1
  have w : hg_W D b0 L (ob_W D F oa C mk im mk ad n (M 0)) s.heap H locs := by rw [wl_W hw]; exact w
  refine lv_aload_n hx hb dL_law_500 rfl (lv_at hl 1 rfl) ?_
  refine lv_aload_n hx hb dL_law_501 rfl (lv_at hl 0 rfl) ?_
  refine lv_iload_n hx hb dL_law_502 rfl (lv_at hl 3 rfl) ?_
  refine lv_iconst (v := 1) hx hb dL_law_503 (by decide) ?_
  refine lv_iadd hx hb dL_law_504 ?_
  refine lw_sld Y w (j := 1) rfl (by omega) dL_law_505 ?_
  refine lv_aload_n hx hb dL_law_506 rfl (lv_at hl 0 rfl) ?_
  refine lv_iload_n hx hb dL_law_507 rfl (lv_at hl 3 rfl) ?_
  refine lv_iconst (v := 2) hx hb dL_law_508 (by decide) ?_
  refine lv_iadd hx hb dL_law_509 ?_
  refine lw_sld Y w (j := 2) rfl (by omega) dL_law_510 ?_
  refine hg_viF (r := (cs_slide C (M 0) n a (xs (i + 1)) (xs (i + 2))).1) (As := [.int (xs (i + 1)), .int (xs (i + 2))]) (rest := []) X w (c_X11_slide l D b0 L F oa C im mk ad n (M 0) hm hs ho a ha24 hC1 (xs (i + 1)) (xs (i + 2))) (cwV 2 hts gL_law_X11_slide rfl rfl rfl hdL_X11_slide ⟨Nat.le_of_ble_eq_true rfl, Nat.le_of_ble_eq_true rfl⟩) (ho.1 0 (by decide)).1 (ow_at ho (k := 0) (by decide)) rfl rfl rfl hl.1 rfl (Nat.le_of_ble_eq_true rfl) dL_law_511 ⟨by show cells ≤ 600000; omega, by show slots ≤ 7302250; omega⟩ (fun H locs w => ?_)
  have hP : wl_P D L (oa 0) mo ma M ((cs_slide C (M 0) n a (xs (i + 1)) (xs (i + 2))).1) (L, (ob_W D F oa ((cs_slide C (M 0) n a (xs (i + 1)) (xs (i + 2))).2.1) mk im mk ad n ((cs_slide C (M 0) n a (xs (i + 1)) (xs (i + 2))).2.2))) (sp_slide M n a (xs (i + 1)) (xs (i + 2))) := wl_P_ord hw (P := cs_slide C (M 0) n a (xs (i + 1)) (xs (i + 2))) (ag_slide hI (xs (i + 1)) (xs (i + 2)))
  obtain ⟨hr, hmo, hLL, hlc⟩ := hP
  have hmo2 := mo_ok_L hmo0 hLL
  have w : hg_W D b0 (L) (mo_F D ((ob_W D F oa ((cs_slide C (M 0) n a (xs (i + 1)) (xs (i + 2))).2.1) mk im mk ad n ((cs_slide C (M 0) n a (xs (i + 1)) (xs (i + 2))).2.2))) mo ma M) s.heap H locs := by rw [mo_self hmo]; exact w
  refine lv_aload_n hx hb dL_law_514 rfl (lv_at hl 2 rfl) ?_
  refine lv_aload_n hx hb dL_law_515 rfl (lv_at hl 0 rfl) ?_
  refine lv_iload_n hx hb dL_law_516 rfl (lv_at hl 3 rfl) ?_
  refine lv_iconst (v := 1) hx hb dL_law_517 (by decide) ?_
  refine lv_iadd hx hb dL_law_518 ?_
  refine lw_sld Y w (j := 1) rfl (by omega) dL_law_519 ?_
  refine lv_aload_n hx hb dL_law_520 rfl (lv_at hl 0 rfl) ?_
  refine lv_iload_n hx hb dL_law_521 rfl (lv_at hl 3 rfl) ?_
  refine lv_iconst (v := 2) hx hb dL_law_522 (by decide) ?_
  refine lv_iadd hx hb dL_law_523 ?_
  refine lw_sld Y w (j := 2) rfl (by omega) dL_law_524 ?_
  refine hg_viF (r := (sp_slide M n a (xs (i + 1)) (xs (i + 2))).1) (As := [.int (xs (i + 1)), .int (xs (i + 2))]) (rest := [.int ((cs_slide C (M 0) n a (xs (i + 1)) (xs (i + 2))).1)]) X w (c_X12_slide l D b0 (L) ((ob_W D F oa ((cs_slide C (M 0) n a (xs (i + 1)) (xs (i + 2))).2.1) mk im mk ad n ((cs_slide C (M 0) n a (xs (i + 1)) (xs (i + 2))).2.2))) mo ma M hmo2 n nr hv a ha ha24 (xs (i + 1)) (xs (i + 2))) (cwV 2 hts gL_law_X12_slide rfl rfl rfl hdL_X12_slide ⟨Nat.le_of_ble_eq_true rfl, Nat.le_of_ble_eq_true rfl⟩) hmo2.1 (mo_at0 D _ mo ma M) rfl rfl rfl hl.1 rfl (Nat.le_of_ble_eq_true rfl) dL_law_525 ⟨by show cells ≤ 600000; omega, by show slots ≤ 7302250; omega⟩ (fun H locs w => ?_)
  refine lv_icmp_eq (tgt := 1324) hx hb dL_law_528 (by decide) (fun _ => ?_) (fun z => absurd hr z)
  refine W.widen (k := cells + 10) (n := slots + 64) (by omega) (by omega) ?_
  exact kk _ _ H locs hlc w
theorem hdL_X11_unload : yX11_unload.cls = RX11 ∧ yX11_unload.cls ≠ "java/lang/invoke/MethodHandle" ∧ yX11_unload.cls ≠ "java/lang/invoke/VarHandle" ∧ (parseMethodDescriptor yX11_unload.desc).map (fun d => d.parameters.length) = some 2 := by decide +kernel
theorem hdL_X12_unload : yX12_unload.cls = RX12 ∧ yX12_unload.cls ≠ "java/lang/invoke/MethodHandle" ∧ yX12_unload.cls ≠ "java/lang/invoke/VarHandle" ∧ (parseMethodDescriptor yX12_unload.desc).map (fun d => d.parameters.length) = some 2 := by decide +kernel
set_option maxRecDepth 100000 in
set_option maxHeartbeats 4000000 in
theorem lc_unload {p : Program} {l : Launch} {e : Env} {s : State} {m : MethodId} {args : Array Value} {below : List Frame} {meth : Method} {c : Code} {H : Heap} {locs : List Loc} {cells slots : Nat} {Q : State → Prop} {D : va_G} {b0 : Nat} {L : List Nat} {F : Nat → va_E} {ls : Array Slot} {b Ls i x mo : Nat} {xs : Nat → Int32} {ma : Nat → Nat} (Y : lw_C p s m args c D b0 b Ls xs i) (hl : lv_has ls 4 [(0, .ref b), (1, .ref x), (2, .ref mo), (3, .int (nI i))]) (h : lc_I D L F x mo ma) (w : hg_W D b0 L F s.heap H locs) (hc : cells + 10 ≤ 600000) (hsl : slots + 64 ≤ 7302250) (kk : ∀ (L' : List Nat) (F' : Nat → va_E) (H : Heap) (locs : List Loc), lc_I D L' F' x mo ma → hg_W D b0 L' F' s.heap H locs → W p l e room_1 s m args below meth c H locs (cells + 10) (slots + 64) Q (F0 m 1324 ls [])) : W p l e room_1 s m args below meth c H locs cells slots Q (F0 m 533 ls []) := by
  obtain ⟨oa, C, M, mk, ad, n, nr, im, col, rfl, hw⟩ := h
  have X := Y.1
  obtain ⟨hx, hb, hml, hown, hts⟩ := id X.1
  obtain ⟨k1, k2, k3, ho, hm, hmo0, k7, k8, k9, k10, a, hI⟩ := id hw
  obtain ⟨hE, hZ, ⟨t, ht1, ht⟩, hR, ⟨ha, ha24⟩, ⟨s0, h12⟩, hV, hth, hG⟩ := id hI
  have hs := hV.1.1
  have htt := hV.1.2.1
  have hv := mk_ok_of hs htt
  have h4 := ag_I4 hI
  have hC1 : C 1 0 = nI a := by rw [hE 1 (by unfold ag_key; omega)]; exact ha
  have hC9 : C 9 0 = nI t := by rw [hE 9 (by unfold ag_key; omega)]; exact ht
  have hsz : cs_szs C := by unfold cs_szs; rw [hE 4 (by unfold ag_key; omega)]; exact hZ.1
  have w : hg_W D b0 L (ob_W D F oa C mk im mk ad n (M 0)) s.heap H locs := by rw [wl_W hw]; exact w
  refine lv_aload_n hx hb dL_law_533 rfl (lv_at hl 1 rfl) ?_
  refine lv_aload_n hx hb dL_law_534 rfl (lv_at hl 0 rfl) ?_
  refine lv_iload_n hx hb dL_law_535 rfl (lv_at hl 3 rfl) ?_
  refine lv_iconst (v := 1) hx hb dL_law_536 (by decide) ?_
  refine lv_iadd hx hb dL_law_537 ?_
  refine lw_sld Y w (j := 1) rfl (by omega) dL_law_538 ?_
  refine lv_aload_n hx hb dL_law_539 rfl (lv_at hl 0 rfl) ?_
  refine lv_iload_n hx hb dL_law_540 rfl (lv_at hl 3 rfl) ?_
  refine lv_iconst (v := 2) hx hb dL_law_541 (by decide) ?_
  refine lv_iadd hx hb dL_law_542 ?_
  refine lw_sld Y w (j := 2) rfl (by omega) dL_law_543 ?_
  refine hg_viF (r := (cs_unload C (M 0) a (xs (i + 1)) (xs (i + 2))).1) (As := [.int (xs (i + 1)), .int (xs (i + 2))]) (rest := []) X w (c_X11_unload l D b0 L F oa C im mk ad n (M 0) hm hs ho a ha24 hC1 (xs (i + 1)) (xs (i + 2))) (cwV 2 hts gL_law_X11_unload rfl rfl rfl hdL_X11_unload ⟨Nat.le_of_ble_eq_true rfl, Nat.le_of_ble_eq_true rfl⟩) (ho.1 0 (by decide)).1 (ow_at ho (k := 0) (by decide)) rfl rfl rfl hl.1 rfl (Nat.le_of_ble_eq_true rfl) dL_law_544 ⟨by show cells ≤ 600000; omega, by show slots ≤ 7302250; omega⟩ (fun H locs w => ?_)
  have hP : wl_P D L (oa 0) mo ma M ((cs_unload C (M 0) a (xs (i + 1)) (xs (i + 2))).1) (L, (ob_W D F oa ((cs_unload C (M 0) a (xs (i + 1)) (xs (i + 2))).2.1) mk im mk ad n ((cs_unload C (M 0) a (xs (i + 1)) (xs (i + 2))).2.2))) (sp_unload M a (xs (i + 1)) (xs (i + 2))) := wl_P_ord hw (P := cs_unload C (M 0) a (xs (i + 1)) (xs (i + 2))) (ag_unload hI (xs (i + 1)) (xs (i + 2)))
  obtain ⟨hr, hmo, hLL, hlc⟩ := hP
  have hmo2 := mo_ok_L hmo0 hLL
  have w : hg_W D b0 (L) (mo_F D ((ob_W D F oa ((cs_unload C (M 0) a (xs (i + 1)) (xs (i + 2))).2.1) mk im mk ad n ((cs_unload C (M 0) a (xs (i + 1)) (xs (i + 2))).2.2))) mo ma M) s.heap H locs := by rw [mo_self hmo]; exact w
  refine lv_aload_n hx hb dL_law_547 rfl (lv_at hl 2 rfl) ?_
  refine lv_aload_n hx hb dL_law_548 rfl (lv_at hl 0 rfl) ?_
  refine lv_iload_n hx hb dL_law_549 rfl (lv_at hl 3 rfl) ?_
  refine lv_iconst (v := 1) hx hb dL_law_550 (by decide) ?_
  refine lv_iadd hx hb dL_law_551 ?_
  refine lw_sld Y w (j := 1) rfl (by omega) dL_law_552 ?_
  refine lv_aload_n hx hb dL_law_553 rfl (lv_at hl 0 rfl) ?_
  refine lv_iload_n hx hb dL_law_554 rfl (lv_at hl 3 rfl) ?_
  refine lv_iconst (v := 2) hx hb dL_law_555 (by decide) ?_
  refine lv_iadd hx hb dL_law_556 ?_
  refine lw_sld Y w (j := 2) rfl (by omega) dL_law_557 ?_
  refine hg_viF (r := (sp_unload M a (xs (i + 1)) (xs (i + 2))).1) (As := [.int (xs (i + 1)), .int (xs (i + 2))]) (rest := [.int ((cs_unload C (M 0) a (xs (i + 1)) (xs (i + 2))).1)]) X w (c_X12_unload l D b0 (L) ((ob_W D F oa ((cs_unload C (M 0) a (xs (i + 1)) (xs (i + 2))).2.1) mk im mk ad n ((cs_unload C (M 0) a (xs (i + 1)) (xs (i + 2))).2.2))) mo ma M hmo2 n nr hv a ha ha24 (xs (i + 1)) (xs (i + 2))) (cwV 2 hts gL_law_X12_unload rfl rfl rfl hdL_X12_unload ⟨Nat.le_of_ble_eq_true rfl, Nat.le_of_ble_eq_true rfl⟩) hmo2.1 (mo_at0 D _ mo ma M) rfl rfl rfl hl.1 rfl (Nat.le_of_ble_eq_true rfl) dL_law_558 ⟨by show cells ≤ 600000; omega, by show slots ≤ 7302250; omega⟩ (fun H locs w => ?_)
  refine lv_icmp_eq (tgt := 1324) hx hb dL_law_561 (by decide) (fun _ => ?_) (fun z => absurd hr z)
  refine W.widen (k := cells + 10) (n := slots + 64) (by omega) (by omega) ?_
  exact kk _ _ H locs hlc w
theorem hdL_X11_rain : yX11_rain.cls = RX11 ∧ yX11_rain.cls ≠ "java/lang/invoke/MethodHandle" ∧ yX11_rain.cls ≠ "java/lang/invoke/VarHandle" ∧ (parseMethodDescriptor yX11_rain.desc).map (fun d => d.parameters.length) = some 0 := by decide +kernel
theorem hdL_X12_rain : yX12_rain.cls = RX12 ∧ yX12_rain.cls ≠ "java/lang/invoke/MethodHandle" ∧ yX12_rain.cls ≠ "java/lang/invoke/VarHandle" ∧ (parseMethodDescriptor yX12_rain.desc).map (fun d => d.parameters.length) = some 0 := by decide +kernel
set_option maxRecDepth 100000 in
set_option maxHeartbeats 4000000 in
theorem lc_rain {p : Program} {l : Launch} {e : Env} {s : State} {m : MethodId} {args : Array Value} {below : List Frame} {meth : Method} {c : Code} {H : Heap} {locs : List Loc} {cells slots : Nat} {Q : State → Prop} {D : va_G} {b0 : Nat} {L : List Nat} {F : Nat → va_E} {ls : Array Slot} {b Ls i x mo : Nat} {xs : Nat → Int32} {ma : Nat → Nat} (Y : lw_C p s m args c D b0 b Ls xs i) (hl : lv_has ls 4 [(0, .ref b), (1, .ref x), (2, .ref mo), (3, .int (nI i))]) (h : lc_I D L F x mo ma) (w : hg_W D b0 L F s.heap H locs) (hc : cells + 10 ≤ 600000) (hsl : slots + 64 ≤ 7302250) (kk : ∀ (L' : List Nat) (F' : Nat → va_E) (H : Heap) (locs : List Loc), lc_I D L' F' x mo ma → hg_W D b0 L' F' s.heap H locs → W p l e room_1 s m args below meth c H locs (cells + 10) (slots + 64) Q (F0 m 1324 ls [])) : W p l e room_1 s m args below meth c H locs cells slots Q (F0 m 566 ls []) := by
  obtain ⟨oa, C, M, mk, ad, n, nr, im, col, rfl, hw⟩ := h
  have X := Y.1
  obtain ⟨hx, hb, hml, hown, hts⟩ := id X.1
  obtain ⟨k1, k2, k3, ho, hm, hmo0, k7, k8, k9, k10, a, hI⟩ := id hw
  obtain ⟨hE, hZ, ⟨t, ht1, ht⟩, hR, ⟨ha, ha24⟩, ⟨s0, h12⟩, hV, hth, hG⟩ := id hI
  have hs := hV.1.1
  have htt := hV.1.2.1
  have hv := mk_ok_of hs htt
  have h4 := ag_I4 hI
  have hC1 : C 1 0 = nI a := by rw [hE 1 (by unfold ag_key; omega)]; exact ha
  have hC9 : C 9 0 = nI t := by rw [hE 9 (by unfold ag_key; omega)]; exact ht
  have hsz : cs_szs C := by unfold cs_szs; rw [hE 4 (by unfold ag_key; omega)]; exact hZ.1
  have w : hg_W D b0 L (ob_W D F oa C mk im mk ad n (M 0)) s.heap H locs := by rw [wl_W hw]; exact w
  refine lv_aload_n hx hb dL_law_566 rfl (lv_at hl 1 rfl) ?_
  refine hg_viF (r := (cs_rain C (M 0) a).1) (As := []) (rest := []) X w (c_X11_rain l D b0 L F oa C im mk ad n (M 0) hm hs ho a ha24 hC1 ) (cwV 0 hts gL_law_X11_rain rfl rfl rfl hdL_X11_rain ⟨Nat.le_of_ble_eq_true rfl, Nat.le_of_ble_eq_true rfl⟩) (ho.1 0 (by decide)).1 (ow_at ho (k := 0) (by decide)) rfl rfl rfl hl.1 rfl (Nat.le_of_ble_eq_true rfl) dL_law_567 ⟨by show cells ≤ 600000; omega, by show slots ≤ 7302250; omega⟩ (fun H locs w => ?_)
  have hP : wl_P D L (oa 0) mo ma M ((cs_rain C (M 0) a).1) (L, (ob_W D F oa ((cs_rain C (M 0) a).2.1) mk im mk ad n ((cs_rain C (M 0) a).2.2))) (sp_rain M a) := wl_P_ord hw (P := cs_rain C (M 0) a) (ag_rain hI)
  obtain ⟨hr, hmo, hLL, hlc⟩ := hP
  have hmo2 := mo_ok_L hmo0 hLL
  have w : hg_W D b0 (L) (mo_F D ((ob_W D F oa ((cs_rain C (M 0) a).2.1) mk im mk ad n ((cs_rain C (M 0) a).2.2))) mo ma M) s.heap H locs := by rw [mo_self hmo]; exact w
  refine lv_aload_n hx hb dL_law_570 rfl (lv_at hl 2 rfl) ?_
  refine hg_viF (r := (sp_rain M a).1) (As := []) (rest := [.int ((cs_rain C (M 0) a).1)]) X w (c_X12_rain l D b0 (L) ((ob_W D F oa ((cs_rain C (M 0) a).2.1) mk im mk ad n ((cs_rain C (M 0) a).2.2))) mo ma M hmo2 a ha ha24 ) (cwV 0 hts gL_law_X12_rain rfl rfl rfl hdL_X12_rain ⟨Nat.le_of_ble_eq_true rfl, Nat.le_of_ble_eq_true rfl⟩) hmo2.1 (mo_at0 D _ mo ma M) rfl rfl rfl hl.1 rfl (Nat.le_of_ble_eq_true rfl) dL_law_571 ⟨by show cells ≤ 600000; omega, by show slots ≤ 7302250; omega⟩ (fun H locs w => ?_)
  refine lv_icmp_eq (tgt := 1324) hx hb dL_law_574 (by decide) (fun _ => ?_) (fun z => absurd hr z)
  refine W.widen (k := cells + 10) (n := slots + 64) (by omega) (by omega) ?_
  exact kk _ _ H locs hlc w
theorem hdL_X11_cut : yX11_cut.cls = RX11 ∧ yX11_cut.cls ≠ "java/lang/invoke/MethodHandle" ∧ yX11_cut.cls ≠ "java/lang/invoke/VarHandle" ∧ (parseMethodDescriptor yX11_cut.desc).map (fun d => d.parameters.length) = some 1 := by decide +kernel
theorem hdL_X12_cut : yX12_cut.cls = RX12 ∧ yX12_cut.cls ≠ "java/lang/invoke/MethodHandle" ∧ yX12_cut.cls ≠ "java/lang/invoke/VarHandle" ∧ (parseMethodDescriptor yX12_cut.desc).map (fun d => d.parameters.length) = some 1 := by decide +kernel
set_option maxRecDepth 100000 in
set_option maxHeartbeats 4000000 in
theorem lc_cut {p : Program} {l : Launch} {e : Env} {s : State} {m : MethodId} {args : Array Value} {below : List Frame} {meth : Method} {c : Code} {H : Heap} {locs : List Loc} {cells slots : Nat} {Q : State → Prop} {D : va_G} {b0 : Nat} {L : List Nat} {F : Nat → va_E} {ls : Array Slot} {b Ls i x mo : Nat} {xs : Nat → Int32} {ma : Nat → Nat} (Y : lw_C p s m args c D b0 b Ls xs i) (hl : lv_has ls 4 [(0, .ref b), (1, .ref x), (2, .ref mo), (3, .int (nI i))]) (h : lc_I D L F x mo ma) (w : hg_W D b0 L F s.heap H locs) (hc : cells + 10 ≤ 600000) (hsl : slots + 64 ≤ 7302250) (kk : ∀ (L' : List Nat) (F' : Nat → va_E) (H : Heap) (locs : List Loc), lc_I D L' F' x mo ma → hg_W D b0 L' F' s.heap H locs → W p l e room_1 s m args below meth c H locs (cells + 10) (slots + 64) Q (F0 m 1324 ls [])) : W p l e room_1 s m args below meth c H locs cells slots Q (F0 m 579 ls []) := by
  obtain ⟨oa, C, M, mk, ad, n, nr, im, col, rfl, hw⟩ := h
  have X := Y.1
  obtain ⟨hx, hb, hml, hown, hts⟩ := id X.1
  obtain ⟨k1, k2, k3, ho, hm, hmo0, k7, k8, k9, k10, a, hI⟩ := id hw
  obtain ⟨hE, hZ, ⟨t, ht1, ht⟩, hR, ⟨ha, ha24⟩, ⟨s0, h12⟩, hV, hth, hG⟩ := id hI
  have hs := hV.1.1
  have htt := hV.1.2.1
  have hv := mk_ok_of hs htt
  have h4 := ag_I4 hI
  have hC1 : C 1 0 = nI a := by rw [hE 1 (by unfold ag_key; omega)]; exact ha
  have hC9 : C 9 0 = nI t := by rw [hE 9 (by unfold ag_key; omega)]; exact ht
  have hsz : cs_szs C := by unfold cs_szs; rw [hE 4 (by unfold ag_key; omega)]; exact hZ.1
  have w : hg_W D b0 L (ob_W D F oa C mk im mk ad n (M 0)) s.heap H locs := by rw [wl_W hw]; exact w
  refine lv_aload_n hx hb dL_law_579 rfl (lv_at hl 1 rfl) ?_
  refine lv_aload_n hx hb dL_law_580 rfl (lv_at hl 0 rfl) ?_
  refine lv_iload_n hx hb dL_law_581 rfl (lv_at hl 3 rfl) ?_
  refine lv_iconst (v := 1) hx hb dL_law_582 (by decide) ?_
  refine lv_iadd hx hb dL_law_583 ?_
  refine lw_sld Y w (j := 1) rfl (by omega) dL_law_584 ?_
  refine hg_viF (r := (cs_cut C (M 0) a (xs (i + 1))).1) (As := [.int (xs (i + 1))]) (rest := []) X w (c_X11_cut l D b0 L F oa C im mk ad n (M 0) hm hs ho a ha24 hC1 nr htt (xs (i + 1))) (cwV 1 hts gL_law_X11_cut rfl rfl rfl hdL_X11_cut ⟨Nat.le_of_ble_eq_true rfl, Nat.le_of_ble_eq_true rfl⟩) (ho.1 0 (by decide)).1 (ow_at ho (k := 0) (by decide)) rfl rfl rfl hl.1 rfl (Nat.le_of_ble_eq_true rfl) dL_law_585 ⟨by show cells ≤ 600000; omega, by show slots ≤ 7302250; omega⟩ (fun H locs w => ?_)
  have hP : wl_P D L (oa 0) mo ma M ((cs_cut C (M 0) a (xs (i + 1))).1) (L, (ob_W D F oa ((cs_cut C (M 0) a (xs (i + 1))).2.1) mk im mk ad n ((cs_cut C (M 0) a (xs (i + 1))).2.2))) (sp_cut M a (xs (i + 1))) := wl_P_ord hw (P := cs_cut C (M 0) a (xs (i + 1))) (ag_cut hI (xs (i + 1)))
  obtain ⟨hr, hmo, hLL, hlc⟩ := hP
  have hmo2 := mo_ok_L hmo0 hLL
  have w : hg_W D b0 (L) (mo_F D ((ob_W D F oa ((cs_cut C (M 0) a (xs (i + 1))).2.1) mk im mk ad n ((cs_cut C (M 0) a (xs (i + 1))).2.2))) mo ma M) s.heap H locs := by rw [mo_self hmo]; exact w
  refine lv_aload_n hx hb dL_law_588 rfl (lv_at hl 2 rfl) ?_
  refine lv_aload_n hx hb dL_law_589 rfl (lv_at hl 0 rfl) ?_
  refine lv_iload_n hx hb dL_law_590 rfl (lv_at hl 3 rfl) ?_
  refine lv_iconst (v := 1) hx hb dL_law_591 (by decide) ?_
  refine lv_iadd hx hb dL_law_592 ?_
  refine lw_sld Y w (j := 1) rfl (by omega) dL_law_593 ?_
  refine hg_viF (r := (sp_cut M a (xs (i + 1))).1) (As := [.int (xs (i + 1))]) (rest := [.int ((cs_cut C (M 0) a (xs (i + 1))).1)]) X w (c_X12_cut l D b0 (L) ((ob_W D F oa ((cs_cut C (M 0) a (xs (i + 1))).2.1) mk im mk ad n ((cs_cut C (M 0) a (xs (i + 1))).2.2))) mo ma M hmo2 n nr hv a ha ha24 (xs (i + 1))) (cwV 1 hts gL_law_X12_cut rfl rfl rfl hdL_X12_cut ⟨Nat.le_of_ble_eq_true rfl, Nat.le_of_ble_eq_true rfl⟩) hmo2.1 (mo_at0 D _ mo ma M) rfl rfl rfl hl.1 rfl (Nat.le_of_ble_eq_true rfl) dL_law_594 ⟨by show cells ≤ 600000; omega, by show slots ≤ 7302250; omega⟩ (fun H locs w => ?_)
  refine lv_icmp_eq (tgt := 1324) hx hb dL_law_597 (by decide) (fun _ => ?_) (fun z => absurd hr z)
  refine W.widen (k := cells + 10) (n := slots + 64) (by omega) (by omega) ?_
  exact kk _ _ H locs hlc w
theorem hdL_X11_stall : yX11_stall.cls = RX11 ∧ yX11_stall.cls ≠ "java/lang/invoke/MethodHandle" ∧ yX11_stall.cls ≠ "java/lang/invoke/VarHandle" ∧ (parseMethodDescriptor yX11_stall.desc).map (fun d => d.parameters.length) = some 2 := by decide +kernel
theorem hdL_X12_stall : yX12_stall.cls = RX12 ∧ yX12_stall.cls ≠ "java/lang/invoke/MethodHandle" ∧ yX12_stall.cls ≠ "java/lang/invoke/VarHandle" ∧ (parseMethodDescriptor yX12_stall.desc).map (fun d => d.parameters.length) = some 2 := by decide +kernel
set_option maxRecDepth 100000 in
set_option maxHeartbeats 4000000 in
theorem lc_stall {p : Program} {l : Launch} {e : Env} {s : State} {m : MethodId} {args : Array Value} {below : List Frame} {meth : Method} {c : Code} {H : Heap} {locs : List Loc} {cells slots : Nat} {Q : State → Prop} {D : va_G} {b0 : Nat} {L : List Nat} {F : Nat → va_E} {ls : Array Slot} {b Ls i x mo : Nat} {xs : Nat → Int32} {ma : Nat → Nat} (Y : lw_C p s m args c D b0 b Ls xs i) (hl : lv_has ls 4 [(0, .ref b), (1, .ref x), (2, .ref mo), (3, .int (nI i))]) (h : lc_I D L F x mo ma) (w : hg_W D b0 L F s.heap H locs) (hc : cells + 10 ≤ 600000) (hsl : slots + 64 ≤ 7302250) (kk : ∀ (L' : List Nat) (F' : Nat → va_E) (H : Heap) (locs : List Loc), lc_I D L' F' x mo ma → hg_W D b0 L' F' s.heap H locs → W p l e room_1 s m args below meth c H locs (cells + 10) (slots + 64) Q (F0 m 1324 ls [])) : W p l e room_1 s m args below meth c H locs cells slots Q (F0 m 602 ls []) := by
  obtain ⟨oa, C, M, mk, ad, n, nr, im, col, rfl, hw⟩ := h
  have X := Y.1
  obtain ⟨hx, hb, hml, hown, hts⟩ := id X.1
  obtain ⟨k1, k2, k3, ho, hm, hmo0, k7, k8, k9, k10, a, hI⟩ := id hw
  obtain ⟨hE, hZ, ⟨t, ht1, ht⟩, hR, ⟨ha, ha24⟩, ⟨s0, h12⟩, hV, hth, hG⟩ := id hI
  have hs := hV.1.1
  have htt := hV.1.2.1
  have hv := mk_ok_of hs htt
  have h4 := ag_I4 hI
  have hC1 : C 1 0 = nI a := by rw [hE 1 (by unfold ag_key; omega)]; exact ha
  have hC9 : C 9 0 = nI t := by rw [hE 9 (by unfold ag_key; omega)]; exact ht
  have hsz : cs_szs C := by unfold cs_szs; rw [hE 4 (by unfold ag_key; omega)]; exact hZ.1
  have w : hg_W D b0 L (ob_W D F oa C mk im mk ad n (M 0)) s.heap H locs := by rw [wl_W hw]; exact w
  refine lv_aload_n hx hb dL_law_602 rfl (lv_at hl 1 rfl) ?_
  refine lv_aload_n hx hb dL_law_603 rfl (lv_at hl 0 rfl) ?_
  refine lv_iload_n hx hb dL_law_604 rfl (lv_at hl 3 rfl) ?_
  refine lv_iconst (v := 1) hx hb dL_law_605 (by decide) ?_
  refine lv_iadd hx hb dL_law_606 ?_
  refine lw_sld Y w (j := 1) rfl (by omega) dL_law_607 ?_
  refine lv_aload_n hx hb dL_law_608 rfl (lv_at hl 0 rfl) ?_
  refine lv_iload_n hx hb dL_law_609 rfl (lv_at hl 3 rfl) ?_
  refine lv_iconst (v := 2) hx hb dL_law_610 (by decide) ?_
  refine lv_iadd hx hb dL_law_611 ?_
  refine lw_sld Y w (j := 2) rfl (by omega) dL_law_612 ?_
  refine hg_viF (r := (cq_stall (M 0) n (xs (i + 1)) (xs (i + 2)))) (As := [.int (xs (i + 1)), .int (xs (i + 2))]) (rest := []) X w (c_X11_stall l D b0 L F oa C im mk ad n (M 0) hm hs ho nr htt (xs (i + 1)) (xs (i + 2))) (cwV 2 hts gL_law_X11_stall rfl rfl rfl hdL_X11_stall ⟨Nat.le_of_ble_eq_true rfl, Nat.le_of_ble_eq_true rfl⟩) (ho.1 0 (by decide)).1 (ow_at ho (k := 0) (by decide)) rfl rfl rfl hl.1 rfl (Nat.le_of_ble_eq_true rfl) dL_law_613 ⟨by show cells ≤ 600000; omega, by show slots ≤ 7302250; omega⟩ (fun H locs w => ?_)
  have hP : wl_P D L (oa 0) mo ma M ((cq_stall (M 0) n (xs (i + 1)) (xs (i + 2)))) (L, (ob_W D F oa C mk im mk ad n (M 0))) ((q_stall (M 0) n (xs (i + 1)) (xs (i + 2)), M)) := wl_P_q hw hI (ag_stall hV.1 (xs (i + 1)) (xs (i + 2)))
  obtain ⟨hr, hmo, hLL, hlc⟩ := hP
  have hmo2 := mo_ok_L hmo0 hLL
  have w : hg_W D b0 (L) (mo_F D ((ob_W D F oa C mk im mk ad n (M 0))) mo ma M) s.heap H locs := by rw [mo_self hmo]; exact w
  refine lv_aload_n hx hb dL_law_616 rfl (lv_at hl 2 rfl) ?_
  refine lv_aload_n hx hb dL_law_617 rfl (lv_at hl 0 rfl) ?_
  refine lv_iload_n hx hb dL_law_618 rfl (lv_at hl 3 rfl) ?_
  refine lv_iconst (v := 1) hx hb dL_law_619 (by decide) ?_
  refine lv_iadd hx hb dL_law_620 ?_
  refine lw_sld Y w (j := 1) rfl (by omega) dL_law_621 ?_
  refine lv_aload_n hx hb dL_law_622 rfl (lv_at hl 0 rfl) ?_
  refine lv_iload_n hx hb dL_law_623 rfl (lv_at hl 3 rfl) ?_
  refine lv_iconst (v := 2) hx hb dL_law_624 (by decide) ?_
  refine lv_iadd hx hb dL_law_625 ?_
  refine lw_sld Y w (j := 2) rfl (by omega) dL_law_626 ?_
  refine hg_viF (r := (q_stall (M 0) n (xs (i + 1)) (xs (i + 2)))) (As := [.int (xs (i + 1)), .int (xs (i + 2))]) (rest := [.int ((cq_stall (M 0) n (xs (i + 1)) (xs (i + 2))))]) X w (c_X12_stall l D b0 (L) ((ob_W D F oa C mk im mk ad n (M 0))) mo ma M hmo2 n nr hv (xs (i + 1)) (xs (i + 2))) (cwV 2 hts gL_law_X12_stall rfl rfl rfl hdL_X12_stall ⟨Nat.le_of_ble_eq_true rfl, Nat.le_of_ble_eq_true rfl⟩) hmo2.1 (mo_at0 D _ mo ma M) rfl rfl rfl hl.1 rfl (Nat.le_of_ble_eq_true rfl) dL_law_627 ⟨by show cells ≤ 600000; omega, by show slots ≤ 7302250; omega⟩ (fun H locs w => ?_)
  refine lv_icmp_eq (tgt := 1324) hx hb dL_law_630 (by decide) (fun _ => ?_) (fun z => absurd hr z)
  refine W.widen (k := cells + 10) (n := slots + 64) (by omega) (by omega) ?_
  exact kk _ _ H locs hlc w
theorem hdL_X11_rope : yX11_rope.cls = RX11 ∧ yX11_rope.cls ≠ "java/lang/invoke/MethodHandle" ∧ yX11_rope.cls ≠ "java/lang/invoke/VarHandle" ∧ (parseMethodDescriptor yX11_rope.desc).map (fun d => d.parameters.length) = some 3 := by decide +kernel
theorem hdL_X12_rope : yX12_rope.cls = RX12 ∧ yX12_rope.cls ≠ "java/lang/invoke/MethodHandle" ∧ yX12_rope.cls ≠ "java/lang/invoke/VarHandle" ∧ (parseMethodDescriptor yX12_rope.desc).map (fun d => d.parameters.length) = some 3 := by decide +kernel
set_option maxRecDepth 100000 in
set_option maxHeartbeats 4000000 in
theorem lc_rope {p : Program} {l : Launch} {e : Env} {s : State} {m : MethodId} {args : Array Value} {below : List Frame} {meth : Method} {c : Code} {H : Heap} {locs : List Loc} {cells slots : Nat} {Q : State → Prop} {D : va_G} {b0 : Nat} {L : List Nat} {F : Nat → va_E} {ls : Array Slot} {b Ls i x mo : Nat} {xs : Nat → Int32} {ma : Nat → Nat} (Y : lw_C p s m args c D b0 b Ls xs i) (hl : lv_has ls 4 [(0, .ref b), (1, .ref x), (2, .ref mo), (3, .int (nI i))]) (h : lc_I D L F x mo ma) (w : hg_W D b0 L F s.heap H locs) (hc : cells + 10 ≤ 600000) (hsl : slots + 64 ≤ 7302250) (kk : ∀ (L' : List Nat) (F' : Nat → va_E) (H : Heap) (locs : List Loc), lc_I D L' F' x mo ma → hg_W D b0 L' F' s.heap H locs → W p l e room_1 s m args below meth c H locs (cells + 10) (slots + 64) Q (F0 m 1324 ls [])) : W p l e room_1 s m args below meth c H locs cells slots Q (F0 m 635 ls []) := by
  obtain ⟨oa, C, M, mk, ad, n, nr, im, col, rfl, hw⟩ := h
  have X := Y.1
  obtain ⟨hx, hb, hml, hown, hts⟩ := id X.1
  obtain ⟨k1, k2, k3, ho, hm, hmo0, k7, k8, k9, k10, a, hI⟩ := id hw
  obtain ⟨hE, hZ, ⟨t, ht1, ht⟩, hR, ⟨ha, ha24⟩, ⟨s0, h12⟩, hV, hth, hG⟩ := id hI
  have hs := hV.1.1
  have htt := hV.1.2.1
  have hv := mk_ok_of hs htt
  have h4 := ag_I4 hI
  have hC1 : C 1 0 = nI a := by rw [hE 1 (by unfold ag_key; omega)]; exact ha
  have hC9 : C 9 0 = nI t := by rw [hE 9 (by unfold ag_key; omega)]; exact ht
  have hsz : cs_szs C := by unfold cs_szs; rw [hE 4 (by unfold ag_key; omega)]; exact hZ.1
  have w : hg_W D b0 L (ob_W D F oa C mk im mk ad n (M 0)) s.heap H locs := by rw [wl_W hw]; exact w
  refine lv_aload_n hx hb dL_law_635 rfl (lv_at hl 1 rfl) ?_
  refine lv_aload_n hx hb dL_law_636 rfl (lv_at hl 0 rfl) ?_
  refine lv_iload_n hx hb dL_law_637 rfl (lv_at hl 3 rfl) ?_
  refine lv_iconst (v := 1) hx hb dL_law_638 (by decide) ?_
  refine lv_iadd hx hb dL_law_639 ?_
  refine lw_sld Y w (j := 1) rfl (by omega) dL_law_640 ?_
  refine lv_aload_n hx hb dL_law_641 rfl (lv_at hl 0 rfl) ?_
  refine lv_iload_n hx hb dL_law_642 rfl (lv_at hl 3 rfl) ?_
  refine lv_iconst (v := 2) hx hb dL_law_643 (by decide) ?_
  refine lv_iadd hx hb dL_law_644 ?_
  refine lw_sld Y w (j := 2) rfl (by omega) dL_law_645 ?_
  refine lv_aload_n hx hb dL_law_646 rfl (lv_at hl 0 rfl) ?_
  refine lv_iload_n hx hb dL_law_647 rfl (lv_at hl 3 rfl) ?_
  refine lv_iconst (v := 3) hx hb dL_law_648 (by decide) ?_
  refine lv_iadd hx hb dL_law_649 ?_
  refine lw_sld Y w (j := 3) rfl (by omega) dL_law_650 ?_
  refine hg_viF (r := (cq_rope (M 0) n (xs (i + 1)) (xs (i + 2)) (xs (i + 3)))) (As := [.int (xs (i + 1)), .int (xs (i + 2)), .int (xs (i + 3))]) (rest := []) X w (c_X11_rope l D b0 L F oa C im mk ad n (M 0) hm hs ho nr htt (xs (i + 1)) (xs (i + 2)) (xs (i + 3))) (cwV 3 hts gL_law_X11_rope rfl rfl rfl hdL_X11_rope ⟨Nat.le_of_ble_eq_true rfl, Nat.le_of_ble_eq_true rfl⟩) (ho.1 0 (by decide)).1 (ow_at ho (k := 0) (by decide)) rfl rfl rfl hl.1 rfl (Nat.le_of_ble_eq_true rfl) dL_law_651 ⟨by show cells ≤ 600000; omega, by show slots ≤ 7302250; omega⟩ (fun H locs w => ?_)
  have hP : wl_P D L (oa 0) mo ma M ((cq_rope (M 0) n (xs (i + 1)) (xs (i + 2)) (xs (i + 3)))) (L, (ob_W D F oa C mk im mk ad n (M 0))) ((q_rope (M 0) n (xs (i + 1)) (xs (i + 2)) (xs (i + 3)), M)) := wl_P_q hw hI (ag_rope hs.2.1 hV.2.1 (xs (i + 1)) (xs (i + 2)) (xs (i + 3)))
  obtain ⟨hr, hmo, hLL, hlc⟩ := hP
  have hmo2 := mo_ok_L hmo0 hLL
  have w : hg_W D b0 (L) (mo_F D ((ob_W D F oa C mk im mk ad n (M 0))) mo ma M) s.heap H locs := by rw [mo_self hmo]; exact w
  refine lv_aload_n hx hb dL_law_654 rfl (lv_at hl 2 rfl) ?_
  refine lv_aload_n hx hb dL_law_655 rfl (lv_at hl 0 rfl) ?_
  refine lv_iload_n hx hb dL_law_656 rfl (lv_at hl 3 rfl) ?_
  refine lv_iconst (v := 1) hx hb dL_law_657 (by decide) ?_
  refine lv_iadd hx hb dL_law_658 ?_
  refine lw_sld Y w (j := 1) rfl (by omega) dL_law_659 ?_
  refine lv_aload_n hx hb dL_law_660 rfl (lv_at hl 0 rfl) ?_
  refine lv_iload_n hx hb dL_law_661 rfl (lv_at hl 3 rfl) ?_
  refine lv_iconst (v := 2) hx hb dL_law_662 (by decide) ?_
  refine lv_iadd hx hb dL_law_663 ?_
  refine lw_sld Y w (j := 2) rfl (by omega) dL_law_664 ?_
  refine lv_aload_n hx hb dL_law_665 rfl (lv_at hl 0 rfl) ?_
  refine lv_iload_n hx hb dL_law_666 rfl (lv_at hl 3 rfl) ?_
  refine lv_iconst (v := 3) hx hb dL_law_667 (by decide) ?_
  refine lv_iadd hx hb dL_law_668 ?_
  refine lw_sld Y w (j := 3) rfl (by omega) dL_law_669 ?_
  refine hg_viF (r := (q_rope (M 0) n (xs (i + 1)) (xs (i + 2)) (xs (i + 3)))) (As := [.int (xs (i + 1)), .int (xs (i + 2)), .int (xs (i + 3))]) (rest := [.int ((cq_rope (M 0) n (xs (i + 1)) (xs (i + 2)) (xs (i + 3))))]) X w (c_X12_rope l D b0 (L) ((ob_W D F oa C mk im mk ad n (M 0))) mo ma M hmo2 n nr hv (xs (i + 1)) (xs (i + 2)) (xs (i + 3))) (cwV 3 hts gL_law_X12_rope rfl rfl rfl hdL_X12_rope ⟨Nat.le_of_ble_eq_true rfl, Nat.le_of_ble_eq_true rfl⟩) hmo2.1 (mo_at0 D _ mo ma M) rfl rfl rfl hl.1 rfl (Nat.le_of_ble_eq_true rfl) dL_law_670 ⟨by show cells ≤ 600000; omega, by show slots ≤ 7302250; omega⟩ (fun H locs w => ?_)
  refine lv_icmp_eq (tgt := 1324) hx hb dL_law_673 (by decide) (fun _ => ?_) (fun z => absurd hr z)
  refine W.widen (k := cells + 10) (n := slots + 64) (by omega) (by omega) ?_
  exact kk _ _ H locs hlc w
theorem hdL_X11_drops : yX11_drops.cls = RX11 ∧ yX11_drops.cls ≠ "java/lang/invoke/MethodHandle" ∧ yX11_drops.cls ≠ "java/lang/invoke/VarHandle" ∧ (parseMethodDescriptor yX11_drops.desc).map (fun d => d.parameters.length) = some 0 := by decide +kernel
theorem hdL_X12_drops : yX12_drops.cls = RX12 ∧ yX12_drops.cls ≠ "java/lang/invoke/MethodHandle" ∧ yX12_drops.cls ≠ "java/lang/invoke/VarHandle" ∧ (parseMethodDescriptor yX12_drops.desc).map (fun d => d.parameters.length) = some 0 := by decide +kernel
set_option maxRecDepth 100000 in
set_option maxHeartbeats 4000000 in
theorem lc_drops {p : Program} {l : Launch} {e : Env} {s : State} {m : MethodId} {args : Array Value} {below : List Frame} {meth : Method} {c : Code} {H : Heap} {locs : List Loc} {cells slots : Nat} {Q : State → Prop} {D : va_G} {b0 : Nat} {L : List Nat} {F : Nat → va_E} {ls : Array Slot} {b Ls i x mo : Nat} {xs : Nat → Int32} {ma : Nat → Nat} (Y : lw_C p s m args c D b0 b Ls xs i) (hl : lv_has ls 4 [(0, .ref b), (1, .ref x), (2, .ref mo), (3, .int (nI i))]) (h : lc_I D L F x mo ma) (w : hg_W D b0 L F s.heap H locs) (hc : cells + 10 ≤ 600000) (hsl : slots + 64 ≤ 7302250) (kk : ∀ (L' : List Nat) (F' : Nat → va_E) (H : Heap) (locs : List Loc), lc_I D L' F' x mo ma → hg_W D b0 L' F' s.heap H locs → W p l e room_1 s m args below meth c H locs (cells + 10) (slots + 64) Q (F0 m 1324 ls [])) : W p l e room_1 s m args below meth c H locs cells slots Q (F0 m 678 ls []) := by
  obtain ⟨oa, C, M, mk, ad, n, nr, im, col, rfl, hw⟩ := h
  have X := Y.1
  obtain ⟨hx, hb, hml, hown, hts⟩ := id X.1
  obtain ⟨k1, k2, k3, ho, hm, hmo0, k7, k8, k9, k10, a, hI⟩ := id hw
  obtain ⟨hE, hZ, ⟨t, ht1, ht⟩, hR, ⟨ha, ha24⟩, ⟨s0, h12⟩, hV, hth, hG⟩ := id hI
  have hs := hV.1.1
  have htt := hV.1.2.1
  have hv := mk_ok_of hs htt
  have h4 := ag_I4 hI
  have hC1 : C 1 0 = nI a := by rw [hE 1 (by unfold ag_key; omega)]; exact ha
  have hC9 : C 9 0 = nI t := by rw [hE 9 (by unfold ag_key; omega)]; exact ht
  have hsz : cs_szs C := by unfold cs_szs; rw [hE 4 (by unfold ag_key; omega)]; exact hZ.1
  have w : hg_W D b0 L (ob_W D F oa C mk im mk ad n (M 0)) s.heap H locs := by rw [wl_W hw]; exact w
  refine lv_aload_n hx hb dL_law_678 rfl (lv_at hl 1 rfl) ?_
  refine hg_viF (r := (cq_drops (M 0) n)) (As := []) (rest := []) X w (c_X11_drops l D b0 L F oa C im mk ad n (M 0) hm hs ho nr htt ) (cwV 0 hts gL_law_X11_drops rfl rfl rfl hdL_X11_drops ⟨Nat.le_of_ble_eq_true rfl, Nat.le_of_ble_eq_true rfl⟩) (ho.1 0 (by decide)).1 (ow_at ho (k := 0) (by decide)) rfl rfl rfl hl.1 rfl (Nat.le_of_ble_eq_true rfl) dL_law_679 ⟨by show cells ≤ 600000; omega, by show slots ≤ 7302250; omega⟩ (fun H locs w => ?_)
  have hP : wl_P D L (oa 0) mo ma M ((cq_drops (M 0) n)) (L, (ob_W D F oa C mk im mk ad n (M 0))) ((q_drops (M 0) n, M)) := wl_P_q hw hI (ag_drops h4)
  obtain ⟨hr, hmo, hLL, hlc⟩ := hP
  have hmo2 := mo_ok_L hmo0 hLL
  have w : hg_W D b0 (L) (mo_F D ((ob_W D F oa C mk im mk ad n (M 0))) mo ma M) s.heap H locs := by rw [mo_self hmo]; exact w
  refine lv_aload_n hx hb dL_law_682 rfl (lv_at hl 2 rfl) ?_
  refine hg_viF (r := (q_drops (M 0) n)) (As := []) (rest := [.int ((cq_drops (M 0) n))]) X w (c_X12_drops l D b0 (L) ((ob_W D F oa C mk im mk ad n (M 0))) mo ma M hmo2 n nr hv ) (cwV 0 hts gL_law_X12_drops rfl rfl rfl hdL_X12_drops ⟨Nat.le_of_ble_eq_true rfl, Nat.le_of_ble_eq_true rfl⟩) hmo2.1 (mo_at0 D _ mo ma M) rfl rfl rfl hl.1 rfl (Nat.le_of_ble_eq_true rfl) dL_law_683 ⟨by show cells ≤ 600000; omega, by show slots ≤ 7302250; omega⟩ (fun H locs w => ?_)
  refine lv_icmp_eq (tgt := 1324) hx hb dL_law_686 (by decide) (fun _ => ?_) (fun z => absurd hr z)
  refine W.widen (k := cells + 10) (n := slots + 64) (by omega) (by omega) ?_
  exact kk _ _ H locs hlc w
theorem hdL_X11_walkway : yX11_walkway.cls = RX11 ∧ yX11_walkway.cls ≠ "java/lang/invoke/MethodHandle" ∧ yX11_walkway.cls ≠ "java/lang/invoke/VarHandle" ∧ (parseMethodDescriptor yX11_walkway.desc).map (fun d => d.parameters.length) = some 2 := by decide +kernel
theorem hdL_X12_walkway : yX12_walkway.cls = RX12 ∧ yX12_walkway.cls ≠ "java/lang/invoke/MethodHandle" ∧ yX12_walkway.cls ≠ "java/lang/invoke/VarHandle" ∧ (parseMethodDescriptor yX12_walkway.desc).map (fun d => d.parameters.length) = some 2 := by decide +kernel
set_option maxRecDepth 100000 in
set_option maxHeartbeats 4000000 in
theorem lc_walkway {p : Program} {l : Launch} {e : Env} {s : State} {m : MethodId} {args : Array Value} {below : List Frame} {meth : Method} {c : Code} {H : Heap} {locs : List Loc} {cells slots : Nat} {Q : State → Prop} {D : va_G} {b0 : Nat} {L : List Nat} {F : Nat → va_E} {ls : Array Slot} {b Ls i x mo : Nat} {xs : Nat → Int32} {ma : Nat → Nat} (Y : lw_C p s m args c D b0 b Ls xs i) (hl : lv_has ls 4 [(0, .ref b), (1, .ref x), (2, .ref mo), (3, .int (nI i))]) (h : lc_I D L F x mo ma) (w : hg_W D b0 L F s.heap H locs) (hc : cells + 10 ≤ 600000) (hsl : slots + 64 ≤ 7302250) (kk : ∀ (L' : List Nat) (F' : Nat → va_E) (H : Heap) (locs : List Loc), lc_I D L' F' x mo ma → hg_W D b0 L' F' s.heap H locs → W p l e room_1 s m args below meth c H locs (cells + 10) (slots + 64) Q (F0 m 1324 ls [])) : W p l e room_1 s m args below meth c H locs cells slots Q (F0 m 691 ls []) := by
  obtain ⟨oa, C, M, mk, ad, n, nr, im, col, rfl, hw⟩ := h
  have X := Y.1
  obtain ⟨hx, hb, hml, hown, hts⟩ := id X.1
  obtain ⟨k1, k2, k3, ho, hm, hmo0, k7, k8, k9, k10, a, hI⟩ := id hw
  obtain ⟨hE, hZ, ⟨t, ht1, ht⟩, hR, ⟨ha, ha24⟩, ⟨s0, h12⟩, hV, hth, hG⟩ := id hI
  have hs := hV.1.1
  have htt := hV.1.2.1
  have hv := mk_ok_of hs htt
  have h4 := ag_I4 hI
  have hC1 : C 1 0 = nI a := by rw [hE 1 (by unfold ag_key; omega)]; exact ha
  have hC9 : C 9 0 = nI t := by rw [hE 9 (by unfold ag_key; omega)]; exact ht
  have hsz : cs_szs C := by unfold cs_szs; rw [hE 4 (by unfold ag_key; omega)]; exact hZ.1
  have w : hg_W D b0 L (ob_W D F oa C mk im mk ad n (M 0)) s.heap H locs := by rw [wl_W hw]; exact w
  refine lv_aload_n hx hb dL_law_691 rfl (lv_at hl 1 rfl) ?_
  refine lv_aload_n hx hb dL_law_692 rfl (lv_at hl 0 rfl) ?_
  refine lv_iload_n hx hb dL_law_693 rfl (lv_at hl 3 rfl) ?_
  refine lv_iconst (v := 1) hx hb dL_law_694 (by decide) ?_
  refine lv_iadd hx hb dL_law_695 ?_
  refine lw_sld Y w (j := 1) rfl (by omega) dL_law_696 ?_
  refine lv_aload_n hx hb dL_law_697 rfl (lv_at hl 0 rfl) ?_
  refine lv_iload_n hx hb dL_law_698 rfl (lv_at hl 3 rfl) ?_
  refine lv_iconst (v := 2) hx hb dL_law_699 (by decide) ?_
  refine lv_iadd hx hb dL_law_700 ?_
  refine lw_sld Y w (j := 2) rfl (by omega) dL_law_701 ?_
  refine hg_viF (r := (cq_walkway (M 0) n (xs (i + 1)) (xs (i + 2)))) (As := [.int (xs (i + 1)), .int (xs (i + 2))]) (rest := []) X w (c_X11_walkway l D b0 L F oa C im mk ad n (M 0) hm hs ho nr htt (xs (i + 1)) (xs (i + 2))) (cwV 2 hts gL_law_X11_walkway rfl rfl rfl hdL_X11_walkway ⟨Nat.le_of_ble_eq_true rfl, Nat.le_of_ble_eq_true rfl⟩) (ho.1 0 (by decide)).1 (ow_at ho (k := 0) (by decide)) rfl rfl rfl hl.1 rfl (Nat.le_of_ble_eq_true rfl) dL_law_702 ⟨by show cells ≤ 600000; omega, by show slots ≤ 7302250; omega⟩ (fun H locs w => ?_)
  have hP : wl_P D L (oa 0) mo ma M ((cq_walkway (M 0) n (xs (i + 1)) (xs (i + 2)))) (L, (ob_W D F oa C mk im mk ad n (M 0))) ((q_walkway (M 0) n (xs (i + 1)) (xs (i + 2)), M)) := wl_P_q hw hI (ag_walkway hV.1 (xs (i + 1)) (xs (i + 2)))
  obtain ⟨hr, hmo, hLL, hlc⟩ := hP
  have hmo2 := mo_ok_L hmo0 hLL
  have w : hg_W D b0 (L) (mo_F D ((ob_W D F oa C mk im mk ad n (M 0))) mo ma M) s.heap H locs := by rw [mo_self hmo]; exact w
  refine lv_aload_n hx hb dL_law_705 rfl (lv_at hl 2 rfl) ?_
  refine lv_aload_n hx hb dL_law_706 rfl (lv_at hl 0 rfl) ?_
  refine lv_iload_n hx hb dL_law_707 rfl (lv_at hl 3 rfl) ?_
  refine lv_iconst (v := 1) hx hb dL_law_708 (by decide) ?_
  refine lv_iadd hx hb dL_law_709 ?_
  refine lw_sld Y w (j := 1) rfl (by omega) dL_law_710 ?_
  refine lv_aload_n hx hb dL_law_711 rfl (lv_at hl 0 rfl) ?_
  refine lv_iload_n hx hb dL_law_712 rfl (lv_at hl 3 rfl) ?_
  refine lv_iconst (v := 2) hx hb dL_law_713 (by decide) ?_
  refine lv_iadd hx hb dL_law_714 ?_
  refine lw_sld Y w (j := 2) rfl (by omega) dL_law_715 ?_
  refine hg_viF (r := (q_walkway (M 0) n (xs (i + 1)) (xs (i + 2)))) (As := [.int (xs (i + 1)), .int (xs (i + 2))]) (rest := [.int ((cq_walkway (M 0) n (xs (i + 1)) (xs (i + 2))))]) X w (c_X12_walkway l D b0 (L) ((ob_W D F oa C mk im mk ad n (M 0))) mo ma M hmo2 n nr hv (xs (i + 1)) (xs (i + 2))) (cwV 2 hts gL_law_X12_walkway rfl rfl rfl hdL_X12_walkway ⟨Nat.le_of_ble_eq_true rfl, Nat.le_of_ble_eq_true rfl⟩) hmo2.1 (mo_at0 D _ mo ma M) rfl rfl rfl hl.1 rfl (Nat.le_of_ble_eq_true rfl) dL_law_716 ⟨by show cells ≤ 600000; omega, by show slots ≤ 7302250; omega⟩ (fun H locs w => ?_)
  refine lv_icmp_eq (tgt := 1324) hx hb dL_law_719 (by decide) (fun _ => ?_) (fun z => absurd hr z)
  refine W.widen (k := cells + 10) (n := slots + 64) (by omega) (by omega) ?_
  exact kk _ _ H locs hlc w
theorem hdL_X11_walkways : yX11_walkways.cls = RX11 ∧ yX11_walkways.cls ≠ "java/lang/invoke/MethodHandle" ∧ yX11_walkways.cls ≠ "java/lang/invoke/VarHandle" ∧ (parseMethodDescriptor yX11_walkways.desc).map (fun d => d.parameters.length) = some 1 := by decide +kernel
theorem hdL_X12_walkways : yX12_walkways.cls = RX12 ∧ yX12_walkways.cls ≠ "java/lang/invoke/MethodHandle" ∧ yX12_walkways.cls ≠ "java/lang/invoke/VarHandle" ∧ (parseMethodDescriptor yX12_walkways.desc).map (fun d => d.parameters.length) = some 1 := by decide +kernel
set_option maxRecDepth 100000 in
set_option maxHeartbeats 4000000 in
theorem lc_walkways {p : Program} {l : Launch} {e : Env} {s : State} {m : MethodId} {args : Array Value} {below : List Frame} {meth : Method} {c : Code} {H : Heap} {locs : List Loc} {cells slots : Nat} {Q : State → Prop} {D : va_G} {b0 : Nat} {L : List Nat} {F : Nat → va_E} {ls : Array Slot} {b Ls i x mo : Nat} {xs : Nat → Int32} {ma : Nat → Nat} (Y : lw_C p s m args c D b0 b Ls xs i) (hl : lv_has ls 4 [(0, .ref b), (1, .ref x), (2, .ref mo), (3, .int (nI i))]) (h : lc_I D L F x mo ma) (w : hg_W D b0 L F s.heap H locs) (hc : cells + 10 ≤ 600000) (hsl : slots + 64 ≤ 7302250) (kk : ∀ (L' : List Nat) (F' : Nat → va_E) (H : Heap) (locs : List Loc), lc_I D L' F' x mo ma → hg_W D b0 L' F' s.heap H locs → W p l e room_1 s m args below meth c H locs (cells + 10) (slots + 64) Q (F0 m 1324 ls [])) : W p l e room_1 s m args below meth c H locs cells slots Q (F0 m 724 ls []) := by
  obtain ⟨oa, C, M, mk, ad, n, nr, im, col, rfl, hw⟩ := h
  have X := Y.1
  obtain ⟨hx, hb, hml, hown, hts⟩ := id X.1
  obtain ⟨k1, k2, k3, ho, hm, hmo0, k7, k8, k9, k10, a, hI⟩ := id hw
  obtain ⟨hE, hZ, ⟨t, ht1, ht⟩, hR, ⟨ha, ha24⟩, ⟨s0, h12⟩, hV, hth, hG⟩ := id hI
  have hs := hV.1.1
  have htt := hV.1.2.1
  have hv := mk_ok_of hs htt
  have h4 := ag_I4 hI
  have hC1 : C 1 0 = nI a := by rw [hE 1 (by unfold ag_key; omega)]; exact ha
  have hC9 : C 9 0 = nI t := by rw [hE 9 (by unfold ag_key; omega)]; exact ht
  have hsz : cs_szs C := by unfold cs_szs; rw [hE 4 (by unfold ag_key; omega)]; exact hZ.1
  have w : hg_W D b0 L (ob_W D F oa C mk im mk ad n (M 0)) s.heap H locs := by rw [wl_W hw]; exact w
  refine lv_aload_n hx hb dL_law_724 rfl (lv_at hl 1 rfl) ?_
  refine lv_aload_n hx hb dL_law_725 rfl (lv_at hl 0 rfl) ?_
  refine lv_iload_n hx hb dL_law_726 rfl (lv_at hl 3 rfl) ?_
  refine lv_iconst (v := 1) hx hb dL_law_727 (by decide) ?_
  refine lv_iadd hx hb dL_law_728 ?_
  refine lw_sld Y w (j := 1) rfl (by omega) dL_law_729 ?_
  refine hg_viF (r := (cq_walkways (M 0) n (xs (i + 1)))) (As := [.int (xs (i + 1))]) (rest := []) X w (c_X11_walkways l D b0 L F oa C im mk ad n (M 0) hm hs ho nr htt (xs (i + 1))) (cwV 1 hts gL_law_X11_walkways rfl rfl rfl hdL_X11_walkways ⟨Nat.le_of_ble_eq_true rfl, Nat.le_of_ble_eq_true rfl⟩) (ho.1 0 (by decide)).1 (ow_at ho (k := 0) (by decide)) rfl rfl rfl hl.1 rfl (Nat.le_of_ble_eq_true rfl) dL_law_730 ⟨by show cells ≤ 600000; omega, by show slots ≤ 7302250; omega⟩ (fun H locs w => ?_)
  have hP : wl_P D L (oa 0) mo ma M ((cq_walkways (M 0) n (xs (i + 1)))) (L, (ob_W D F oa C mk im mk ad n (M 0))) ((q_walkways (M 0) n (xs (i + 1)), M)) := wl_P_q hw hI (ag_walkways hV.1 (xs (i + 1)) h4)
  obtain ⟨hr, hmo, hLL, hlc⟩ := hP
  have hmo2 := mo_ok_L hmo0 hLL
  have w : hg_W D b0 (L) (mo_F D ((ob_W D F oa C mk im mk ad n (M 0))) mo ma M) s.heap H locs := by rw [mo_self hmo]; exact w
  refine lv_aload_n hx hb dL_law_733 rfl (lv_at hl 2 rfl) ?_
  refine lv_aload_n hx hb dL_law_734 rfl (lv_at hl 0 rfl) ?_
  refine lv_iload_n hx hb dL_law_735 rfl (lv_at hl 3 rfl) ?_
  refine lv_iconst (v := 1) hx hb dL_law_736 (by decide) ?_
  refine lv_iadd hx hb dL_law_737 ?_
  refine lw_sld Y w (j := 1) rfl (by omega) dL_law_738 ?_
  refine hg_viF (r := (q_walkways (M 0) n (xs (i + 1)))) (As := [.int (xs (i + 1))]) (rest := [.int ((cq_walkways (M 0) n (xs (i + 1))))]) X w (c_X12_walkways l D b0 (L) ((ob_W D F oa C mk im mk ad n (M 0))) mo ma M hmo2 n nr hv (xs (i + 1))) (cwV 1 hts gL_law_X12_walkways rfl rfl rfl hdL_X12_walkways ⟨Nat.le_of_ble_eq_true rfl, Nat.le_of_ble_eq_true rfl⟩) hmo2.1 (mo_at0 D _ mo ma M) rfl rfl rfl hl.1 rfl (Nat.le_of_ble_eq_true rfl) dL_law_739 ⟨by show cells ≤ 600000; omega, by show slots ≤ 7302250; omega⟩ (fun H locs w => ?_)
  refine lv_icmp_eq (tgt := 1324) hx hb dL_law_742 (by decide) (fun _ => ?_) (fun z => absurd hr z)
  refine W.widen (k := cells + 10) (n := slots + 64) (by omega) (by omega) ?_
  exact kk _ _ H locs hlc w
theorem hdL_X11_even : yX11_even.cls = RX11 ∧ yX11_even.cls ≠ "java/lang/invoke/MethodHandle" ∧ yX11_even.cls ≠ "java/lang/invoke/VarHandle" ∧ (parseMethodDescriptor yX11_even.desc).map (fun d => d.parameters.length) = some 3 := by decide +kernel
theorem hdL_X12_even : yX12_even.cls = RX12 ∧ yX12_even.cls ≠ "java/lang/invoke/MethodHandle" ∧ yX12_even.cls ≠ "java/lang/invoke/VarHandle" ∧ (parseMethodDescriptor yX12_even.desc).map (fun d => d.parameters.length) = some 3 := by decide +kernel
set_option maxRecDepth 100000 in
set_option maxHeartbeats 4000000 in
theorem lc_even {p : Program} {l : Launch} {e : Env} {s : State} {m : MethodId} {args : Array Value} {below : List Frame} {meth : Method} {c : Code} {H : Heap} {locs : List Loc} {cells slots : Nat} {Q : State → Prop} {D : va_G} {b0 : Nat} {L : List Nat} {F : Nat → va_E} {ls : Array Slot} {b Ls i x mo : Nat} {xs : Nat → Int32} {ma : Nat → Nat} (Y : lw_C p s m args c D b0 b Ls xs i) (hl : lv_has ls 4 [(0, .ref b), (1, .ref x), (2, .ref mo), (3, .int (nI i))]) (h : lc_I D L F x mo ma) (w : hg_W D b0 L F s.heap H locs) (hc : cells + 10 ≤ 600000) (hsl : slots + 64 ≤ 7302250) (kk : ∀ (L' : List Nat) (F' : Nat → va_E) (H : Heap) (locs : List Loc), lc_I D L' F' x mo ma → hg_W D b0 L' F' s.heap H locs → W p l e room_1 s m args below meth c H locs (cells + 10) (slots + 64) Q (F0 m 1324 ls [])) : W p l e room_1 s m args below meth c H locs cells slots Q (F0 m 747 ls []) := by
  obtain ⟨oa, C, M, mk, ad, n, nr, im, col, rfl, hw⟩ := h
  have X := Y.1
  obtain ⟨hx, hb, hml, hown, hts⟩ := id X.1
  obtain ⟨k1, k2, k3, ho, hm, hmo0, k7, k8, k9, k10, a, hI⟩ := id hw
  obtain ⟨hE, hZ, ⟨t, ht1, ht⟩, hR, ⟨ha, ha24⟩, ⟨s0, h12⟩, hV, hth, hG⟩ := id hI
  have hs := hV.1.1
  have htt := hV.1.2.1
  have hv := mk_ok_of hs htt
  have h4 := ag_I4 hI
  have hC1 : C 1 0 = nI a := by rw [hE 1 (by unfold ag_key; omega)]; exact ha
  have hC9 : C 9 0 = nI t := by rw [hE 9 (by unfold ag_key; omega)]; exact ht
  have hsz : cs_szs C := by unfold cs_szs; rw [hE 4 (by unfold ag_key; omega)]; exact hZ.1
  have w : hg_W D b0 L (ob_W D F oa C mk im mk ad n (M 0)) s.heap H locs := by rw [wl_W hw]; exact w
  refine lv_aload_n hx hb dL_law_747 rfl (lv_at hl 1 rfl) ?_
  refine lv_aload_n hx hb dL_law_748 rfl (lv_at hl 0 rfl) ?_
  refine lv_iload_n hx hb dL_law_749 rfl (lv_at hl 3 rfl) ?_
  refine lv_iconst (v := 1) hx hb dL_law_750 (by decide) ?_
  refine lv_iadd hx hb dL_law_751 ?_
  refine lw_sld Y w (j := 1) rfl (by omega) dL_law_752 ?_
  refine lv_aload_n hx hb dL_law_753 rfl (lv_at hl 0 rfl) ?_
  refine lv_iload_n hx hb dL_law_754 rfl (lv_at hl 3 rfl) ?_
  refine lv_iconst (v := 2) hx hb dL_law_755 (by decide) ?_
  refine lv_iadd hx hb dL_law_756 ?_
  refine lw_sld Y w (j := 2) rfl (by omega) dL_law_757 ?_
  refine lv_aload_n hx hb dL_law_758 rfl (lv_at hl 0 rfl) ?_
  refine lv_iload_n hx hb dL_law_759 rfl (lv_at hl 3 rfl) ?_
  refine lv_iconst (v := 3) hx hb dL_law_760 (by decide) ?_
  refine lv_iadd hx hb dL_law_761 ?_
  refine lw_sld Y w (j := 3) rfl (by omega) dL_law_762 ?_
  refine hg_viF (r := (cq_even (M 0) n (xs (i + 1)) (xs (i + 2)) (xs (i + 3)))) (As := [.int (xs (i + 1)), .int (xs (i + 2)), .int (xs (i + 3))]) (rest := []) X w (c_X11_even l D b0 L F oa C im mk ad n (M 0) hm hs ho nr htt (xs (i + 1)) (xs (i + 2)) (xs (i + 3))) (cwV 3 hts gL_law_X11_even rfl rfl rfl hdL_X11_even ⟨Nat.le_of_ble_eq_true rfl, Nat.le_of_ble_eq_true rfl⟩) (ho.1 0 (by decide)).1 (ow_at ho (k := 0) (by decide)) rfl rfl rfl hl.1 rfl (Nat.le_of_ble_eq_true rfl) dL_law_763 ⟨by show cells ≤ 600000; omega, by show slots ≤ 7302250; omega⟩ (fun H locs w => ?_)
  have hP : wl_P D L (oa 0) mo ma M ((cq_even (M 0) n (xs (i + 1)) (xs (i + 2)) (xs (i + 3)))) (L, (ob_W D F oa C mk im mk ad n (M 0))) ((q_even (M 0) n (xs (i + 1)) (xs (i + 2)) (xs (i + 3)), M)) := wl_P_q hw hI (ag_even hV.1 hV.2.2.2 (xs (i + 1)) (xs (i + 2)) (xs (i + 3)))
  obtain ⟨hr, hmo, hLL, hlc⟩ := hP
  have hmo2 := mo_ok_L hmo0 hLL
  have w : hg_W D b0 (L) (mo_F D ((ob_W D F oa C mk im mk ad n (M 0))) mo ma M) s.heap H locs := by rw [mo_self hmo]; exact w
  refine lv_aload_n hx hb dL_law_766 rfl (lv_at hl 2 rfl) ?_
  refine lv_aload_n hx hb dL_law_767 rfl (lv_at hl 0 rfl) ?_
  refine lv_iload_n hx hb dL_law_768 rfl (lv_at hl 3 rfl) ?_
  refine lv_iconst (v := 1) hx hb dL_law_769 (by decide) ?_
  refine lv_iadd hx hb dL_law_770 ?_
  refine lw_sld Y w (j := 1) rfl (by omega) dL_law_771 ?_
  refine lv_aload_n hx hb dL_law_772 rfl (lv_at hl 0 rfl) ?_
  refine lv_iload_n hx hb dL_law_773 rfl (lv_at hl 3 rfl) ?_
  refine lv_iconst (v := 2) hx hb dL_law_774 (by decide) ?_
  refine lv_iadd hx hb dL_law_775 ?_
  refine lw_sld Y w (j := 2) rfl (by omega) dL_law_776 ?_
  refine lv_aload_n hx hb dL_law_777 rfl (lv_at hl 0 rfl) ?_
  refine lv_iload_n hx hb dL_law_778 rfl (lv_at hl 3 rfl) ?_
  refine lv_iconst (v := 3) hx hb dL_law_779 (by decide) ?_
  refine lv_iadd hx hb dL_law_780 ?_
  refine lw_sld Y w (j := 3) rfl (by omega) dL_law_781 ?_
  refine hg_viF (r := (q_even (M 0) n (xs (i + 1)) (xs (i + 2)) (xs (i + 3)))) (As := [.int (xs (i + 1)), .int (xs (i + 2)), .int (xs (i + 3))]) (rest := [.int ((cq_even (M 0) n (xs (i + 1)) (xs (i + 2)) (xs (i + 3))))]) X w (c_X12_even l D b0 (L) ((ob_W D F oa C mk im mk ad n (M 0))) mo ma M hmo2 n nr hv (xs (i + 1)) (xs (i + 2)) (xs (i + 3))) (cwV 3 hts gL_law_X12_even rfl rfl rfl hdL_X12_even ⟨Nat.le_of_ble_eq_true rfl, Nat.le_of_ble_eq_true rfl⟩) hmo2.1 (mo_at0 D _ mo ma M) rfl rfl rfl hl.1 rfl (Nat.le_of_ble_eq_true rfl) dL_law_782 ⟨by show cells ≤ 600000; omega, by show slots ≤ 7302250; omega⟩ (fun H locs w => ?_)
  refine lv_icmp_eq (tgt := 1324) hx hb dL_law_785 (by decide) (fun _ => ?_) (fun z => absurd hr z)
  refine W.widen (k := cells + 10) (n := slots + 64) (by omega) (by omega) ?_
  exact kk _ _ H locs hlc w
