theorem hdL_X11_bestSlide : yX11_bestSlide.cls = RX11 ∧ yX11_bestSlide.cls ≠ "java/lang/invoke/MethodHandle" ∧ yX11_bestSlide.cls ≠ "java/lang/invoke/VarHandle" ∧ (parseMethodDescriptor yX11_bestSlide.desc).map (fun d => d.parameters.length) = some 1 := by decide +kernel
theorem hdL_X12_bestSlide : yX12_bestSlide.cls = RX12 ∧ yX12_bestSlide.cls ≠ "java/lang/invoke/MethodHandle" ∧ yX12_bestSlide.cls ≠ "java/lang/invoke/VarHandle" ∧ (parseMethodDescriptor yX12_bestSlide.desc).map (fun d => d.parameters.length) = some 1 := by decide +kernel
set_option maxRecDepth 100000 in
set_option maxHeartbeats 4000000 in
theorem lc_bestSlide {p : Program} {l : Launch} {e : Env} {s : State} {m : MethodId} {args : Array Value} {below : List Frame} {meth : Method} {c : Code} {H : Heap} {locs : List Loc} {cells slots : Nat} {Q : State → Prop} {D : va_G} {b0 : Nat} {L : List Nat} {F : Nat → va_E} {ls : Array Slot} {b Ls i x mo : Nat} {xs : Nat → Int32} {ma : Nat → Nat} (Y : lw_C p s m args c D b0 b Ls xs i) (hl : lv_has ls 4 [(0, .ref b), (1, .ref x), (2, .ref mo), (3, .int (nI i))]) (h : lc_I D L F x mo ma) (w : hg_W D b0 L F s.heap H locs) (hc : cells + 10 ≤ 600000) (hsl : slots + 64 ≤ 7302250) (kk : ∀ (L' : List Nat) (F' : Nat → va_E) (H : Heap) (locs : List Loc), lc_I D L' F' x mo ma → hg_W D b0 L' F' s.heap H locs → W p l e room_1 s m args below meth c H locs (cells + 10) (slots + 64) Q (F0 m 1324 ls [])) : W p l e room_1 s m args below meth c H locs cells slots Q (F0 m 790 ls []) := by
  obtain ⟨oa, C, M, mk, ad, n, nr, im, col, rfl, hw⟩ := h
  have X := Y.1
  obtain ⟨hx, hb, hml, hown, hts⟩ := id X.1
  obtain ⟨k1, k2, k3, ho, hm, hmo0, k7, k8, k9, k10, a, hI⟩ := id hw
  obtain ⟨hE, hZ, ⟨t, ht1, ht⟩, hR, ⟨ha, ha24⟩, ⟨s0, h12⟩, hV, hth, hG⟩ := id hI
  have hs := hV.1.1
  have htt := hV.1.2.1
  have hv := mk_ok_of hs htt
  have h4 := ag_I4 hI
  have hC1 : C 1 0 = nI a := by rw [hE 1 (by unfold ag_key; omega)]; exact ha
  have hC9 : C 9 0 = nI t := by rw [hE 9 (by unfold ag_key; omega)]; exact ht
  have hsz : cs_szs C := by unfold cs_szs; rw [hE 4 (by unfold ag_key; omega)]; exact hZ.1
  have w : hg_W D b0 L (ob_W D F oa C mk im mk ad n (M 0)) s.heap H locs := by rw [wl_W hw]; exact w
  refine lv_aload_n hx hb dL_law_790 rfl (lv_at hl 1 rfl) ?_
  refine lv_aload_n hx hb dL_law_791 rfl (lv_at hl 0 rfl) ?_
  refine lv_iload_n hx hb dL_law_792 rfl (lv_at hl 3 rfl) ?_
  refine lv_iconst (v := 1) hx hb dL_law_793 (by decide) ?_
  refine lv_iadd hx hb dL_law_794 ?_
  refine lw_sld Y w (j := 1) rfl (by omega) dL_law_795 ?_
  refine hg_viF (r := (cq_best (M 0) n (xs (i + 1)))) (As := [.int (xs (i + 1))]) (rest := []) X w (c_X11_bestSlide l D b0 L F oa C im mk ad n (M 0) hm hs ho nr htt (xs (i + 1))) (cwV 1 hts gL_law_X11_bestSlide rfl rfl rfl hdL_X11_bestSlide ⟨Nat.le_of_ble_eq_true rfl, Nat.le_of_ble_eq_true rfl⟩) (ho.1 0 (by decide)).1 (ow_at ho (k := 0) (by decide)) rfl rfl rfl hl.1 rfl (Nat.le_of_ble_eq_true rfl) dL_law_796 ⟨by show cells ≤ 600000; omega, by show slots ≤ 7302250; omega⟩ (fun H locs w => ?_)
  have hP : wl_P D L (oa 0) mo ma M ((cq_best (M 0) n (xs (i + 1)))) (L, (ob_W D F oa C mk im mk ad n (M 0))) ((q_best (M 0) n (xs (i + 1)), M)) := wl_P_q hw hI (ag_best hV.1 (xs (i + 1)) h4)
  obtain ⟨hr, hmo, hLL, hlc⟩ := hP
  have hmo2 := mo_ok_L hmo0 hLL
  have w : hg_W D b0 (L) (mo_F D ((ob_W D F oa C mk im mk ad n (M 0))) mo ma M) s.heap H locs := by rw [mo_self hmo]; exact w
  refine lv_aload_n hx hb dL_law_799 rfl (lv_at hl 2 rfl) ?_
  refine lv_aload_n hx hb dL_law_800 rfl (lv_at hl 0 rfl) ?_
  refine lv_iload_n hx hb dL_law_801 rfl (lv_at hl 3 rfl) ?_
  refine lv_iconst (v := 1) hx hb dL_law_802 (by decide) ?_
  refine lv_iadd hx hb dL_law_803 ?_
  refine lw_sld Y w (j := 1) rfl (by omega) dL_law_804 ?_
  refine hg_viF (r := (q_best (M 0) n (xs (i + 1)))) (As := [.int (xs (i + 1))]) (rest := [.int ((cq_best (M 0) n (xs (i + 1))))]) X w (c_X12_bestSlide l D b0 (L) ((ob_W D F oa C mk im mk ad n (M 0))) mo ma M hmo2 n nr hv (xs (i + 1))) (cwV 1 hts gL_law_X12_bestSlide rfl rfl rfl hdL_X12_bestSlide ⟨Nat.le_of_ble_eq_true rfl, Nat.le_of_ble_eq_true rfl⟩) hmo2.1 (mo_at0 D _ mo ma M) rfl rfl rfl hl.1 rfl (Nat.le_of_ble_eq_true rfl) dL_law_805 ⟨by show cells ≤ 600000; omega, by show slots ≤ 7302250; omega⟩ (fun H locs w => ?_)
  refine lv_icmp_eq (tgt := 1324) hx hb dL_law_808 (by decide) (fun _ => ?_) (fun z => absurd hr z)
  refine W.widen (k := cells + 10) (n := slots + 64) (by omega) (by omega) ?_
  exact kk _ _ H locs hlc w
theorem hdL_X11_unloaded : yX11_unloaded.cls = RX11 ∧ yX11_unloaded.cls ≠ "java/lang/invoke/MethodHandle" ∧ yX11_unloaded.cls ≠ "java/lang/invoke/VarHandle" ∧ (parseMethodDescriptor yX11_unloaded.desc).map (fun d => d.parameters.length) = some 1 := by decide +kernel
theorem hdL_X12_unloaded : yX12_unloaded.cls = RX12 ∧ yX12_unloaded.cls ≠ "java/lang/invoke/MethodHandle" ∧ yX12_unloaded.cls ≠ "java/lang/invoke/VarHandle" ∧ (parseMethodDescriptor yX12_unloaded.desc).map (fun d => d.parameters.length) = some 1 := by decide +kernel
set_option maxRecDepth 100000 in
set_option maxHeartbeats 4000000 in
theorem lc_unloaded {p : Program} {l : Launch} {e : Env} {s : State} {m : MethodId} {args : Array Value} {below : List Frame} {meth : Method} {c : Code} {H : Heap} {locs : List Loc} {cells slots : Nat} {Q : State → Prop} {D : va_G} {b0 : Nat} {L : List Nat} {F : Nat → va_E} {ls : Array Slot} {b Ls i x mo : Nat} {xs : Nat → Int32} {ma : Nat → Nat} (Y : lw_C p s m args c D b0 b Ls xs i) (hl : lv_has ls 4 [(0, .ref b), (1, .ref x), (2, .ref mo), (3, .int (nI i))]) (h : lc_I D L F x mo ma) (w : hg_W D b0 L F s.heap H locs) (hc : cells + 10 ≤ 600000) (hsl : slots + 64 ≤ 7302250) (kk : ∀ (L' : List Nat) (F' : Nat → va_E) (H : Heap) (locs : List Loc), lc_I D L' F' x mo ma → hg_W D b0 L' F' s.heap H locs → W p l e room_1 s m args below meth c H locs (cells + 10) (slots + 64) Q (F0 m 1324 ls [])) : W p l e room_1 s m args below meth c H locs cells slots Q (F0 m 813 ls []) := by
  obtain ⟨oa, C, M, mk, ad, n, nr, im, col, rfl, hw⟩ := h
  have X := Y.1
  obtain ⟨hx, hb, hml, hown, hts⟩ := id X.1
  obtain ⟨k1, k2, k3, ho, hm, hmo0, k7, k8, k9, k10, a, hI⟩ := id hw
  obtain ⟨hE, hZ, ⟨t, ht1, ht⟩, hR, ⟨ha, ha24⟩, ⟨s0, h12⟩, hV, hth, hG⟩ := id hI
  have hs := hV.1.1
  have htt := hV.1.2.1
  have hv := mk_ok_of hs htt
  have h4 := ag_I4 hI
  have hC1 : C 1 0 = nI a := by rw [hE 1 (by unfold ag_key; omega)]; exact ha
  have hC9 : C 9 0 = nI t := by rw [hE 9 (by unfold ag_key; omega)]; exact ht
  have hsz : cs_szs C := by unfold cs_szs; rw [hE 4 (by unfold ag_key; omega)]; exact hZ.1
  have w : hg_W D b0 L (ob_W D F oa C mk im mk ad n (M 0)) s.heap H locs := by rw [wl_W hw]; exact w
  refine lv_aload_n hx hb dL_law_813 rfl (lv_at hl 1 rfl) ?_
  refine lv_aload_n hx hb dL_law_814 rfl (lv_at hl 0 rfl) ?_
  refine lv_iload_n hx hb dL_law_815 rfl (lv_at hl 3 rfl) ?_
  refine lv_iconst (v := 1) hx hb dL_law_816 (by decide) ?_
  refine lv_iadd hx hb dL_law_817 ?_
  refine lw_sld Y w (j := 1) rfl (by omega) dL_law_818 ?_
  refine hg_viF (r := (cs_unloaded C (M 0) n (xs (i + 1))).1) (As := [.int (xs (i + 1))]) (rest := []) X w (c_X11_unloaded l D b0 L F oa C im mk ad n (M 0) hm hs ho nr htt (xs (i + 1))) (cwV 1 hts gL_law_X11_unloaded rfl rfl rfl hdL_X11_unloaded ⟨Nat.le_of_ble_eq_true rfl, Nat.le_of_ble_eq_true rfl⟩) (ho.1 0 (by decide)).1 (ow_at ho (k := 0) (by decide)) rfl rfl rfl hl.1 rfl (Nat.le_of_ble_eq_true rfl) dL_law_819 ⟨by show cells ≤ 600000; omega, by show slots ≤ 7302250; omega⟩ (fun H locs w => ?_)
  have hP : wl_P D L (oa 0) mo ma M ((cs_unloaded C (M 0) n (xs (i + 1))).1) (L, (ob_W D F oa ((cs_unloaded C (M 0) n (xs (i + 1))).2) mk im mk ad n (M 0))) (sp_unl M n (xs (i + 1))) := wl_P_o3 hw (ag_t_unloaded hI (xs (i + 1)))
  obtain ⟨hr, hmo, hLL, hlc⟩ := hP
  have hmo2 := mo_ok_L hmo0 hLL
  have w : hg_W D b0 (L) (mo_F D ((ob_W D F oa ((cs_unloaded C (M 0) n (xs (i + 1))).2) mk im mk ad n (M 0))) mo ma M) s.heap H locs := by rw [mo_self hmo]; exact w
  refine lv_aload_n hx hb dL_law_822 rfl (lv_at hl 2 rfl) ?_
  refine lv_aload_n hx hb dL_law_823 rfl (lv_at hl 0 rfl) ?_
  refine lv_iload_n hx hb dL_law_824 rfl (lv_at hl 3 rfl) ?_
  refine lv_iconst (v := 1) hx hb dL_law_825 (by decide) ?_
  refine lv_iadd hx hb dL_law_826 ?_
  refine lw_sld Y w (j := 1) rfl (by omega) dL_law_827 ?_
  refine hg_viF (r := (sp_unl M n (xs (i + 1))).1) (As := [.int (xs (i + 1))]) (rest := [.int ((cs_unloaded C (M 0) n (xs (i + 1))).1)]) X w (c_X12_unloaded l D b0 (L) ((ob_W D F oa ((cs_unloaded C (M 0) n (xs (i + 1))).2) mk im mk ad n (M 0))) mo ma M hmo2 n nr hv hs.2.2.2 (xs (i + 1))) (cwV 1 hts gL_law_X12_unloaded rfl rfl rfl hdL_X12_unloaded ⟨Nat.le_of_ble_eq_true rfl, Nat.le_of_ble_eq_true rfl⟩) hmo2.1 (mo_at0 D _ mo ma M) rfl rfl rfl hl.1 rfl (Nat.le_of_ble_eq_true rfl) dL_law_828 ⟨by show cells ≤ 600000; omega, by show slots ≤ 7302250; omega⟩ (fun H locs w => ?_)
  refine lv_icmp_eq (tgt := 1324) hx hb dL_law_831 (by decide) (fun _ => ?_) (fun z => absurd hr z)
  refine W.widen (k := cells + 10) (n := slots + 64) (by omega) (by omega) ?_
  exact kk _ _ H locs hlc w
theorem hdL_X11_whoCut : yX11_whoCut.cls = RX11 ∧ yX11_whoCut.cls ≠ "java/lang/invoke/MethodHandle" ∧ yX11_whoCut.cls ≠ "java/lang/invoke/VarHandle" ∧ (parseMethodDescriptor yX11_whoCut.desc).map (fun d => d.parameters.length) = some 2 := by decide +kernel
theorem hdL_X12_whoCut : yX12_whoCut.cls = RX12 ∧ yX12_whoCut.cls ≠ "java/lang/invoke/MethodHandle" ∧ yX12_whoCut.cls ≠ "java/lang/invoke/VarHandle" ∧ (parseMethodDescriptor yX12_whoCut.desc).map (fun d => d.parameters.length) = some 2 := by decide +kernel
set_option maxRecDepth 100000 in
set_option maxHeartbeats 4000000 in
theorem lc_whoCut {p : Program} {l : Launch} {e : Env} {s : State} {m : MethodId} {args : Array Value} {below : List Frame} {meth : Method} {c : Code} {H : Heap} {locs : List Loc} {cells slots : Nat} {Q : State → Prop} {D : va_G} {b0 : Nat} {L : List Nat} {F : Nat → va_E} {ls : Array Slot} {b Ls i x mo : Nat} {xs : Nat → Int32} {ma : Nat → Nat} (Y : lw_C p s m args c D b0 b Ls xs i) (hl : lv_has ls 4 [(0, .ref b), (1, .ref x), (2, .ref mo), (3, .int (nI i))]) (h : lc_I D L F x mo ma) (w : hg_W D b0 L F s.heap H locs) (hc : cells + 10 ≤ 600000) (hsl : slots + 64 ≤ 7302250) (kk : ∀ (L' : List Nat) (F' : Nat → va_E) (H : Heap) (locs : List Loc), lc_I D L' F' x mo ma → hg_W D b0 L' F' s.heap H locs → W p l e room_1 s m args below meth c H locs (cells + 10) (slots + 64) Q (F0 m 1324 ls [])) : W p l e room_1 s m args below meth c H locs cells slots Q (F0 m 836 ls []) := by
  obtain ⟨oa, C, M, mk, ad, n, nr, im, col, rfl, hw⟩ := h
  have X := Y.1
  obtain ⟨hx, hb, hml, hown, hts⟩ := id X.1
  obtain ⟨k1, k2, k3, ho, hm, hmo0, k7, k8, k9, k10, a, hI⟩ := id hw
  obtain ⟨hE, hZ, ⟨t, ht1, ht⟩, hR, ⟨ha, ha24⟩, ⟨s0, h12⟩, hV, hth, hG⟩ := id hI
  have hs := hV.1.1
  have htt := hV.1.2.1
  have hv := mk_ok_of hs htt
  have h4 := ag_I4 hI
  have hC1 : C 1 0 = nI a := by rw [hE 1 (by unfold ag_key; omega)]; exact ha
  have hC9 : C 9 0 = nI t := by rw [hE 9 (by unfold ag_key; omega)]; exact ht
  have hsz : cs_szs C := by unfold cs_szs; rw [hE 4 (by unfold ag_key; omega)]; exact hZ.1
  have w : hg_W D b0 L (ob_W D F oa C mk im mk ad n (M 0)) s.heap H locs := by rw [wl_W hw]; exact w
  refine lv_aload_n hx hb dL_law_836 rfl (lv_at hl 1 rfl) ?_
  refine lv_aload_n hx hb dL_law_837 rfl (lv_at hl 0 rfl) ?_
  refine lv_iload_n hx hb dL_law_838 rfl (lv_at hl 3 rfl) ?_
  refine lv_iconst (v := 1) hx hb dL_law_839 (by decide) ?_
  refine lv_iadd hx hb dL_law_840 ?_
  refine lw_sld Y w (j := 1) rfl (by omega) dL_law_841 ?_
  refine lv_aload_n hx hb dL_law_842 rfl (lv_at hl 0 rfl) ?_
  refine lv_iload_n hx hb dL_law_843 rfl (lv_at hl 3 rfl) ?_
  refine lv_iconst (v := 2) hx hb dL_law_844 (by decide) ?_
  refine lv_iadd hx hb dL_law_845 ?_
  refine lw_sld Y w (j := 2) rfl (by omega) dL_law_846 ?_
  refine hg_viF (r := (cs_whoCut C (M 0) n (xs (i + 1)) (xs (i + 2))).1) (As := [.int (xs (i + 1)), .int (xs (i + 2))]) (rest := []) X w (c_X11_whoCut l D b0 L F oa C im mk ad n (M 0) hm hs ho nr htt hsz (xs (i + 1)) (xs (i + 2))) (cwV 2 hts gL_law_X11_whoCut rfl rfl rfl hdL_X11_whoCut ⟨Nat.le_of_ble_eq_true rfl, Nat.le_of_ble_eq_true rfl⟩) (ho.1 0 (by decide)).1 (ow_at ho (k := 0) (by decide)) rfl rfl rfl hl.1 rfl (Nat.le_of_ble_eq_true rfl) dL_law_847 ⟨by show cells ≤ 600000; omega, by show slots ≤ 7302250; omega⟩ (fun H locs w => ?_)
  have hP : wl_P D L (oa 0) mo ma M ((cs_whoCut C (M 0) n (xs (i + 1)) (xs (i + 2))).1) (L, (ob_W D F oa ((cs_whoCut C (M 0) n (xs (i + 1)) (xs (i + 2))).2) mk im mk ad n (M 0))) (sp_whoCut M n nr (xs (i + 1)) (xs (i + 2))) := wl_P_o3 hw (ag_t_whoCut hI (xs (i + 1)) (xs (i + 2)))
  obtain ⟨hr, hmo, hLL, hlc⟩ := hP
  have hmo2 := mo_ok_L hmo0 hLL
  have w : hg_W D b0 (L) (mo_F D ((ob_W D F oa ((cs_whoCut C (M 0) n (xs (i + 1)) (xs (i + 2))).2) mk im mk ad n (M 0))) mo ma M) s.heap H locs := by rw [mo_self hmo]; exact w
  refine lv_aload_n hx hb dL_law_850 rfl (lv_at hl 2 rfl) ?_
  refine lv_aload_n hx hb dL_law_851 rfl (lv_at hl 0 rfl) ?_
  refine lv_iload_n hx hb dL_law_852 rfl (lv_at hl 3 rfl) ?_
  refine lv_iconst (v := 1) hx hb dL_law_853 (by decide) ?_
  refine lv_iadd hx hb dL_law_854 ?_
  refine lw_sld Y w (j := 1) rfl (by omega) dL_law_855 ?_
  refine lv_aload_n hx hb dL_law_856 rfl (lv_at hl 0 rfl) ?_
  refine lv_iload_n hx hb dL_law_857 rfl (lv_at hl 3 rfl) ?_
  refine lv_iconst (v := 2) hx hb dL_law_858 (by decide) ?_
  refine lv_iadd hx hb dL_law_859 ?_
  refine lw_sld Y w (j := 2) rfl (by omega) dL_law_860 ?_
  refine hg_viF (r := (sp_whoCut M n nr (xs (i + 1)) (xs (i + 2))).1) (As := [.int (xs (i + 1)), .int (xs (i + 2))]) (rest := [.int ((cs_whoCut C (M 0) n (xs (i + 1)) (xs (i + 2))).1)]) X w (c_X12_whoCut l D b0 (L) ((ob_W D F oa ((cs_whoCut C (M 0) n (xs (i + 1)) (xs (i + 2))).2) mk im mk ad n (M 0))) mo ma M hmo2 n nr hv hZ.1 (xs (i + 1)) (xs (i + 2))) (cwV 2 hts gL_law_X12_whoCut rfl rfl rfl hdL_X12_whoCut ⟨Nat.le_of_ble_eq_true rfl, Nat.le_of_ble_eq_true rfl⟩) hmo2.1 (mo_at0 D _ mo ma M) rfl rfl rfl hl.1 rfl (Nat.le_of_ble_eq_true rfl) dL_law_861 ⟨by show cells ≤ 600000; omega, by show slots ≤ 7302250; omega⟩ (fun H locs w => ?_)
  refine lv_icmp_eq (tgt := 1324) hx hb dL_law_864 (by decide) (fun _ => ?_) (fun z => absurd hr z)
  refine W.widen (k := cells + 10) (n := slots + 64) (by omega) (by omega) ?_
  exact kk _ _ H locs hlc w
theorem hdL_X11_box : yX11_box.cls = RX11 ∧ yX11_box.cls ≠ "java/lang/invoke/MethodHandle" ∧ yX11_box.cls ≠ "java/lang/invoke/VarHandle" ∧ (parseMethodDescriptor yX11_box.desc).map (fun d => d.parameters.length) = some 3 := by decide +kernel
theorem hdL_X12_box : yX12_box.cls = RX12 ∧ yX12_box.cls ≠ "java/lang/invoke/MethodHandle" ∧ yX12_box.cls ≠ "java/lang/invoke/VarHandle" ∧ (parseMethodDescriptor yX12_box.desc).map (fun d => d.parameters.length) = some 3 := by decide +kernel
set_option maxRecDepth 100000 in
set_option maxHeartbeats 4000000 in
theorem lc_box {p : Program} {l : Launch} {e : Env} {s : State} {m : MethodId} {args : Array Value} {below : List Frame} {meth : Method} {c : Code} {H : Heap} {locs : List Loc} {cells slots : Nat} {Q : State → Prop} {D : va_G} {b0 : Nat} {L : List Nat} {F : Nat → va_E} {ls : Array Slot} {b Ls i x mo : Nat} {xs : Nat → Int32} {ma : Nat → Nat} (Y : lw_C p s m args c D b0 b Ls xs i) (hl : lv_has ls 4 [(0, .ref b), (1, .ref x), (2, .ref mo), (3, .int (nI i))]) (h : lc_I D L F x mo ma) (w : hg_W D b0 L F s.heap H locs) (hc : cells + 10 ≤ 600000) (hsl : slots + 64 ≤ 7302250) (kk : ∀ (L' : List Nat) (F' : Nat → va_E) (H : Heap) (locs : List Loc), lc_I D L' F' x mo ma → hg_W D b0 L' F' s.heap H locs → W p l e room_1 s m args below meth c H locs (cells + 10) (slots + 64) Q (F0 m 1324 ls [])) : W p l e room_1 s m args below meth c H locs cells slots Q (F0 m 869 ls []) := by
  obtain ⟨oa, C, M, mk, ad, n, nr, im, col, rfl, hw⟩ := h
  have X := Y.1
  obtain ⟨hx, hb, hml, hown, hts⟩ := id X.1
  obtain ⟨k1, k2, k3, ho, hm, hmo0, k7, k8, k9, k10, a, hI⟩ := id hw
  obtain ⟨hE, hZ, ⟨t, ht1, ht⟩, hR, ⟨ha, ha24⟩, ⟨s0, h12⟩, hV, hth, hG⟩ := id hI
  have hs := hV.1.1
  have htt := hV.1.2.1
  have hv := mk_ok_of hs htt
  have h4 := ag_I4 hI
  have hC1 : C 1 0 = nI a := by rw [hE 1 (by unfold ag_key; omega)]; exact ha
  have hC9 : C 9 0 = nI t := by rw [hE 9 (by unfold ag_key; omega)]; exact ht
  have hsz : cs_szs C := by unfold cs_szs; rw [hE 4 (by unfold ag_key; omega)]; exact hZ.1
  have w : hg_W D b0 L (ob_W D F oa C mk im mk ad n (M 0)) s.heap H locs := by rw [wl_W hw]; exact w
  refine lv_aload_n hx hb dL_law_869 rfl (lv_at hl 1 rfl) ?_
  refine lv_aload_n hx hb dL_law_870 rfl (lv_at hl 0 rfl) ?_
  refine lv_iload_n hx hb dL_law_871 rfl (lv_at hl 3 rfl) ?_
  refine lv_iconst (v := 1) hx hb dL_law_872 (by decide) ?_
  refine lv_iadd hx hb dL_law_873 ?_
  refine lw_sld Y w (j := 1) rfl (by omega) dL_law_874 ?_
  refine lv_aload_n hx hb dL_law_875 rfl (lv_at hl 0 rfl) ?_
  refine lv_iload_n hx hb dL_law_876 rfl (lv_at hl 3 rfl) ?_
  refine lv_iconst (v := 2) hx hb dL_law_877 (by decide) ?_
  refine lv_iadd hx hb dL_law_878 ?_
  refine lw_sld Y w (j := 2) rfl (by omega) dL_law_879 ?_
  refine lv_aload_n hx hb dL_law_880 rfl (lv_at hl 0 rfl) ?_
  refine lv_iload_n hx hb dL_law_881 rfl (lv_at hl 3 rfl) ?_
  refine lv_iconst (v := 3) hx hb dL_law_882 (by decide) ?_
  refine lv_iadd hx hb dL_law_883 ?_
  refine lw_sld Y w (j := 3) rfl (by omega) dL_law_884 ?_
  refine hg_viF (r := (q_box (M 0) n (xs (i + 1)) (xs (i + 2)) (xs (i + 3)))) (As := [.int (xs (i + 1)), .int (xs (i + 2)), .int (xs (i + 3))]) (rest := []) X w (c_X11_box l D b0 L F oa C im mk ad n (M 0) hm hs ho nr htt (xs (i + 1)) (xs (i + 2)) (xs (i + 3))) (cwV 3 hts gL_law_X11_box rfl rfl rfl hdL_X11_box ⟨Nat.le_of_ble_eq_true rfl, Nat.le_of_ble_eq_true rfl⟩) (ho.1 0 (by decide)).1 (ow_at ho (k := 0) (by decide)) rfl rfl rfl hl.1 rfl (Nat.le_of_ble_eq_true rfl) dL_law_885 ⟨by show cells ≤ 600000; omega, by show slots ≤ 7302250; omega⟩ (fun H locs w => ?_)
  have hP : wl_P D L (oa 0) mo ma M ((q_box (M 0) n (xs (i + 1)) (xs (i + 2)) (xs (i + 3)))) (L, (ob_W D F oa C mk im mk ad n (M 0))) ((q_box (M 0) n (xs (i + 1)) (xs (i + 2)) (xs (i + 3)), M)) := wl_P_q hw hI rfl
  obtain ⟨hr, hmo, hLL, hlc⟩ := hP
  have hmo2 := mo_ok_L hmo0 hLL
  have w : hg_W D b0 (L) (mo_F D ((ob_W D F oa C mk im mk ad n (M 0))) mo ma M) s.heap H locs := by rw [mo_self hmo]; exact w
  refine lv_aload_n hx hb dL_law_888 rfl (lv_at hl 2 rfl) ?_
  refine lv_aload_n hx hb dL_law_889 rfl (lv_at hl 0 rfl) ?_
  refine lv_iload_n hx hb dL_law_890 rfl (lv_at hl 3 rfl) ?_
  refine lv_iconst (v := 1) hx hb dL_law_891 (by decide) ?_
  refine lv_iadd hx hb dL_law_892 ?_
  refine lw_sld Y w (j := 1) rfl (by omega) dL_law_893 ?_
  refine lv_aload_n hx hb dL_law_894 rfl (lv_at hl 0 rfl) ?_
  refine lv_iload_n hx hb dL_law_895 rfl (lv_at hl 3 rfl) ?_
  refine lv_iconst (v := 2) hx hb dL_law_896 (by decide) ?_
  refine lv_iadd hx hb dL_law_897 ?_
  refine lw_sld Y w (j := 2) rfl (by omega) dL_law_898 ?_
  refine lv_aload_n hx hb dL_law_899 rfl (lv_at hl 0 rfl) ?_
  refine lv_iload_n hx hb dL_law_900 rfl (lv_at hl 3 rfl) ?_
  refine lv_iconst (v := 3) hx hb dL_law_901 (by decide) ?_
  refine lv_iadd hx hb dL_law_902 ?_
  refine lw_sld Y w (j := 3) rfl (by omega) dL_law_903 ?_
  refine hg_viF (r := (q_box (M 0) n (xs (i + 1)) (xs (i + 2)) (xs (i + 3)))) (As := [.int (xs (i + 1)), .int (xs (i + 2)), .int (xs (i + 3))]) (rest := [.int ((q_box (M 0) n (xs (i + 1)) (xs (i + 2)) (xs (i + 3))))]) X w (c_X12_box l D b0 (L) ((ob_W D F oa C mk im mk ad n (M 0))) mo ma M hmo2 n nr hv (xs (i + 1)) (xs (i + 2)) (xs (i + 3))) (cwV 3 hts gL_law_X12_box rfl rfl rfl hdL_X12_box ⟨Nat.le_of_ble_eq_true rfl, Nat.le_of_ble_eq_true rfl⟩) hmo2.1 (mo_at0 D _ mo ma M) rfl rfl rfl hl.1 rfl (Nat.le_of_ble_eq_true rfl) dL_law_904 ⟨by show cells ≤ 600000; omega, by show slots ≤ 7302250; omega⟩ (fun H locs w => ?_)
  refine lv_icmp_eq (tgt := 1324) hx hb dL_law_907 (by decide) (fun _ => ?_) (fun z => absurd hr z)
  refine W.widen (k := cells + 10) (n := slots + 64) (by omega) (by omega) ?_
  exact kk _ _ H locs hlc w
theorem hdL_X11_reads : yX11_reads.cls = RX11 ∧ yX11_reads.cls ≠ "java/lang/invoke/MethodHandle" ∧ yX11_reads.cls ≠ "java/lang/invoke/VarHandle" ∧ (parseMethodDescriptor yX11_reads.desc).map (fun d => d.parameters.length) = some 5 := by decide +kernel
theorem hdL_X12_reads : yX12_reads.cls = RX12 ∧ yX12_reads.cls ≠ "java/lang/invoke/MethodHandle" ∧ yX12_reads.cls ≠ "java/lang/invoke/VarHandle" ∧ (parseMethodDescriptor yX12_reads.desc).map (fun d => d.parameters.length) = some 5 := by decide +kernel
set_option maxRecDepth 100000 in
set_option maxHeartbeats 4000000 in
theorem lc_reads {p : Program} {l : Launch} {e : Env} {s : State} {m : MethodId} {args : Array Value} {below : List Frame} {meth : Method} {c : Code} {H : Heap} {locs : List Loc} {cells slots : Nat} {Q : State → Prop} {D : va_G} {b0 : Nat} {L : List Nat} {F : Nat → va_E} {ls : Array Slot} {b Ls i x mo : Nat} {xs : Nat → Int32} {ma : Nat → Nat} (Y : lw_C p s m args c D b0 b Ls xs i) (hl : lv_has ls 4 [(0, .ref b), (1, .ref x), (2, .ref mo), (3, .int (nI i))]) (h : lc_I D L F x mo ma) (w : hg_W D b0 L F s.heap H locs) (hc : cells + 10 ≤ 600000) (hsl : slots + 64 ≤ 7302250) (kk : ∀ (L' : List Nat) (F' : Nat → va_E) (H : Heap) (locs : List Loc), lc_I D L' F' x mo ma → hg_W D b0 L' F' s.heap H locs → W p l e room_1 s m args below meth c H locs (cells + 10) (slots + 64) Q (F0 m 1324 ls [])) : W p l e room_1 s m args below meth c H locs cells slots Q (F0 m 912 ls []) := by
  obtain ⟨oa, C, M, mk, ad, n, nr, im, col, rfl, hw⟩ := h
  have X := Y.1
  obtain ⟨hx, hb, hml, hown, hts⟩ := id X.1
  obtain ⟨k1, k2, k3, ho, hm, hmo0, k7, k8, k9, k10, a, hI⟩ := id hw
  obtain ⟨hE, hZ, ⟨t, ht1, ht⟩, hR, ⟨ha, ha24⟩, ⟨s0, h12⟩, hV, hth, hG⟩ := id hI
  have hs := hV.1.1
  have htt := hV.1.2.1
  have hv := mk_ok_of hs htt
  have h4 := ag_I4 hI
  have hC1 : C 1 0 = nI a := by rw [hE 1 (by unfold ag_key; omega)]; exact ha
  have hC9 : C 9 0 = nI t := by rw [hE 9 (by unfold ag_key; omega)]; exact ht
  have hsz : cs_szs C := by unfold cs_szs; rw [hE 4 (by unfold ag_key; omega)]; exact hZ.1
  have w : hg_W D b0 L (ob_W D F oa C mk im mk ad n (M 0)) s.heap H locs := by rw [wl_W hw]; exact w
  refine lv_aload_n hx hb dL_law_912 rfl (lv_at hl 1 rfl) ?_
  refine lv_aload_n hx hb dL_law_913 rfl (lv_at hl 0 rfl) ?_
  refine lv_iload_n hx hb dL_law_914 rfl (lv_at hl 3 rfl) ?_
  refine lv_iconst (v := 1) hx hb dL_law_915 (by decide) ?_
  refine lv_iadd hx hb dL_law_916 ?_
  refine lw_sld Y w (j := 1) rfl (by omega) dL_law_917 ?_
  refine lv_aload_n hx hb dL_law_918 rfl (lv_at hl 0 rfl) ?_
  refine lv_iload_n hx hb dL_law_919 rfl (lv_at hl 3 rfl) ?_
  refine lv_iconst (v := 2) hx hb dL_law_920 (by decide) ?_
  refine lv_iadd hx hb dL_law_921 ?_
  refine lw_sld Y w (j := 2) rfl (by omega) dL_law_922 ?_
  refine lv_aload_n hx hb dL_law_923 rfl (lv_at hl 0 rfl) ?_
  refine lv_iload_n hx hb dL_law_924 rfl (lv_at hl 3 rfl) ?_
  refine lv_iconst (v := 3) hx hb dL_law_925 (by decide) ?_
  refine lv_iadd hx hb dL_law_926 ?_
  refine lw_sld Y w (j := 3) rfl (by omega) dL_law_927 ?_
  refine lv_aload_n hx hb dL_law_928 rfl (lv_at hl 0 rfl) ?_
  refine lv_iload_n hx hb dL_law_929 rfl (lv_at hl 3 rfl) ?_
  refine lv_iconst (v := 4) hx hb dL_law_930 (by decide) ?_
  refine lv_iadd hx hb dL_law_931 ?_
  refine lw_sld Y w (j := 4) rfl (by omega) dL_law_932 ?_
  refine lv_aload_n hx hb dL_law_933 rfl (lv_at hl 0 rfl) ?_
  refine lv_iload_n hx hb dL_law_934 rfl (lv_at hl 3 rfl) ?_
  refine lv_iconst (v := 5) hx hb dL_law_935 (by decide) ?_
  refine lv_iadd hx hb dL_law_936 ?_
  refine lw_sld Y w (j := 5) rfl (by omega) dL_law_937 ?_
  refine hg_viF (r := (cs_reads C (M 0) n (xs (i + 1)) (xs (i + 2)) (xs (i + 3)) (xs (i + 4)) (xs (i + 5))).1) (As := [.int (xs (i + 1)), .int (xs (i + 2)), .int (xs (i + 3)), .int (xs (i + 4)), .int (xs (i + 5))]) (rest := []) X w (c_X11_reads l D b0 L F oa C im mk ad n (M 0) hm hs ho nr htt hsz (xs (i + 1)) (xs (i + 2)) (xs (i + 3)) (xs (i + 4)) (xs (i + 5))) (cwV 5 hts gL_law_X11_reads rfl rfl rfl hdL_X11_reads ⟨Nat.le_of_ble_eq_true rfl, Nat.le_of_ble_eq_true rfl⟩) (ho.1 0 (by decide)).1 (ow_at ho (k := 0) (by decide)) rfl rfl rfl hl.1 rfl (Nat.le_of_ble_eq_true rfl) dL_law_938 ⟨by show cells ≤ 600000; omega, by show slots ≤ 7302250; omega⟩ (fun H locs w => ?_)
  have hP : wl_P D L (oa 0) mo ma M ((cs_reads C (M 0) n (xs (i + 1)) (xs (i + 2)) (xs (i + 3)) (xs (i + 4)) (xs (i + 5))).1) (L, (ob_W D F oa ((cs_reads C (M 0) n (xs (i + 1)) (xs (i + 2)) (xs (i + 3)) (xs (i + 4)) (xs (i + 5))).2) mk im mk ad n (M 0))) (sp_reads M n (xs (i + 1)) (xs (i + 2)) (xs (i + 3)) (xs (i + 4)) (xs (i + 5))) := wl_P_o3 hw (ag_t_reads hI (xs (i + 1)) (xs (i + 2)) (xs (i + 3)) (xs (i + 4)) (xs (i + 5)))
  obtain ⟨hr, hmo, hLL, hlc⟩ := hP
  have hmo2 := mo_ok_L hmo0 hLL
  have w : hg_W D b0 (L) (mo_F D ((ob_W D F oa ((cs_reads C (M 0) n (xs (i + 1)) (xs (i + 2)) (xs (i + 3)) (xs (i + 4)) (xs (i + 5))).2) mk im mk ad n (M 0))) mo ma M) s.heap H locs := by rw [mo_self hmo]; exact w
  refine lv_aload_n hx hb dL_law_941 rfl (lv_at hl 2 rfl) ?_
  refine lv_aload_n hx hb dL_law_942 rfl (lv_at hl 0 rfl) ?_
  refine lv_iload_n hx hb dL_law_943 rfl (lv_at hl 3 rfl) ?_
  refine lv_iconst (v := 1) hx hb dL_law_944 (by decide) ?_
  refine lv_iadd hx hb dL_law_945 ?_
  refine lw_sld Y w (j := 1) rfl (by omega) dL_law_946 ?_
  refine lv_aload_n hx hb dL_law_947 rfl (lv_at hl 0 rfl) ?_
  refine lv_iload_n hx hb dL_law_948 rfl (lv_at hl 3 rfl) ?_
  refine lv_iconst (v := 2) hx hb dL_law_949 (by decide) ?_
  refine lv_iadd hx hb dL_law_950 ?_
  refine lw_sld Y w (j := 2) rfl (by omega) dL_law_951 ?_
  refine lv_aload_n hx hb dL_law_952 rfl (lv_at hl 0 rfl) ?_
  refine lv_iload_n hx hb dL_law_953 rfl (lv_at hl 3 rfl) ?_
  refine lv_iconst (v := 3) hx hb dL_law_954 (by decide) ?_
  refine lv_iadd hx hb dL_law_955 ?_
  refine lw_sld Y w (j := 3) rfl (by omega) dL_law_956 ?_
  refine lv_aload_n hx hb dL_law_957 rfl (lv_at hl 0 rfl) ?_
  refine lv_iload_n hx hb dL_law_958 rfl (lv_at hl 3 rfl) ?_
  refine lv_iconst (v := 4) hx hb dL_law_959 (by decide) ?_
  refine lv_iadd hx hb dL_law_960 ?_
  refine lw_sld Y w (j := 4) rfl (by omega) dL_law_961 ?_
  refine lv_aload_n hx hb dL_law_962 rfl (lv_at hl 0 rfl) ?_
  refine lv_iload_n hx hb dL_law_963 rfl (lv_at hl 3 rfl) ?_
  refine lv_iconst (v := 5) hx hb dL_law_964 (by decide) ?_
  refine lv_iadd hx hb dL_law_965 ?_
  refine lw_sld Y w (j := 5) rfl (by omega) dL_law_966 ?_
  refine hg_viF (r := (sp_reads M n (xs (i + 1)) (xs (i + 2)) (xs (i + 3)) (xs (i + 4)) (xs (i + 5))).1) (As := [.int (xs (i + 1)), .int (xs (i + 2)), .int (xs (i + 3)), .int (xs (i + 4)), .int (xs (i + 5))]) (rest := [.int ((cs_reads C (M 0) n (xs (i + 1)) (xs (i + 2)) (xs (i + 3)) (xs (i + 4)) (xs (i + 5))).1)]) X w (c_X12_reads l D b0 (L) ((ob_W D F oa ((cs_reads C (M 0) n (xs (i + 1)) (xs (i + 2)) (xs (i + 3)) (xs (i + 4)) (xs (i + 5))).2) mk im mk ad n (M 0))) mo ma M hmo2 n nr hv hZ.1 (xs (i + 1)) (xs (i + 2)) (xs (i + 3)) (xs (i + 4)) (xs (i + 5))) (cwV 5 hts gL_law_X12_reads rfl rfl rfl hdL_X12_reads ⟨Nat.le_of_ble_eq_true rfl, Nat.le_of_ble_eq_true rfl⟩) hmo2.1 (mo_at0 D _ mo ma M) rfl rfl rfl hl.1 rfl (Nat.le_of_ble_eq_true rfl) dL_law_967 ⟨by show cells ≤ 600000; omega, by show slots ≤ 7302250; omega⟩ (fun H locs w => ?_)
  refine lv_icmp_eq (tgt := 1324) hx hb dL_law_970 (by decide) (fun _ => ?_) (fun z => absurd hr z)
  refine W.widen (k := cells + 10) (n := slots + 64) (by omega) (by omega) ?_
  exact kk _ _ H locs hlc w
theorem hdL_X11_holds : yX11_holds.cls = RX11 ∧ yX11_holds.cls ≠ "java/lang/invoke/MethodHandle" ∧ yX11_holds.cls ≠ "java/lang/invoke/VarHandle" ∧ (parseMethodDescriptor yX11_holds.desc).map (fun d => d.parameters.length) = some 1 := by decide +kernel
theorem hdL_X12_holds : yX12_holds.cls = RX12 ∧ yX12_holds.cls ≠ "java/lang/invoke/MethodHandle" ∧ yX12_holds.cls ≠ "java/lang/invoke/VarHandle" ∧ (parseMethodDescriptor yX12_holds.desc).map (fun d => d.parameters.length) = some 1 := by decide +kernel
set_option maxRecDepth 100000 in
set_option maxHeartbeats 4000000 in
theorem lc_holds {p : Program} {l : Launch} {e : Env} {s : State} {m : MethodId} {args : Array Value} {below : List Frame} {meth : Method} {c : Code} {H : Heap} {locs : List Loc} {cells slots : Nat} {Q : State → Prop} {D : va_G} {b0 : Nat} {L : List Nat} {F : Nat → va_E} {ls : Array Slot} {b Ls i x mo : Nat} {xs : Nat → Int32} {ma : Nat → Nat} (Y : lw_C p s m args c D b0 b Ls xs i) (hl : lv_has ls 4 [(0, .ref b), (1, .ref x), (2, .ref mo), (3, .int (nI i))]) (h : lc_I D L F x mo ma) (w : hg_W D b0 L F s.heap H locs) (hc : cells + 10 ≤ 600000) (hsl : slots + 64 ≤ 7302250) (kk : ∀ (L' : List Nat) (F' : Nat → va_E) (H : Heap) (locs : List Loc), lc_I D L' F' x mo ma → hg_W D b0 L' F' s.heap H locs → W p l e room_1 s m args below meth c H locs (cells + 10) (slots + 64) Q (F0 m 1324 ls [])) : W p l e room_1 s m args below meth c H locs cells slots Q (F0 m 975 ls []) := by
  obtain ⟨oa, C, M, mk, ad, n, nr, im, col, rfl, hw⟩ := h
  have X := Y.1
  obtain ⟨hx, hb, hml, hown, hts⟩ := id X.1
  obtain ⟨k1, k2, k3, ho, hm, hmo0, k7, k8, k9, k10, a, hI⟩ := id hw
  obtain ⟨hE, hZ, ⟨t, ht1, ht⟩, hR, ⟨ha, ha24⟩, ⟨s0, h12⟩, hV, hth, hG⟩ := id hI
  have hs := hV.1.1
  have htt := hV.1.2.1
  have hv := mk_ok_of hs htt
  have h4 := ag_I4 hI
  have hC1 : C 1 0 = nI a := by rw [hE 1 (by unfold ag_key; omega)]; exact ha
  have hC9 : C 9 0 = nI t := by rw [hE 9 (by unfold ag_key; omega)]; exact ht
  have hsz : cs_szs C := by unfold cs_szs; rw [hE 4 (by unfold ag_key; omega)]; exact hZ.1
  have w : hg_W D b0 L (ob_W D F oa C mk im mk ad n (M 0)) s.heap H locs := by rw [wl_W hw]; exact w
  refine lv_aload_n hx hb dL_law_975 rfl (lv_at hl 1 rfl) ?_
  refine lv_aload_n hx hb dL_law_976 rfl (lv_at hl 0 rfl) ?_
  refine lv_iload_n hx hb dL_law_977 rfl (lv_at hl 3 rfl) ?_
  refine lv_iconst (v := 1) hx hb dL_law_978 (by decide) ?_
  refine lv_iadd hx hb dL_law_979 ?_
  refine lw_sld Y w (j := 1) rfl (by omega) dL_law_980 ?_
  refine hg_viF (r := (cq_holds (M 0) n (xs (i + 1)))) (As := [.int (xs (i + 1))]) (rest := []) X w (c_X11_holds l D b0 L F oa C im mk ad n (M 0) hm hs ho nr htt (xs (i + 1))) (cwV 1 hts gL_law_X11_holds rfl rfl rfl hdL_X11_holds ⟨Nat.le_of_ble_eq_true rfl, Nat.le_of_ble_eq_true rfl⟩) (ho.1 0 (by decide)).1 (ow_at ho (k := 0) (by decide)) rfl rfl rfl hl.1 rfl (Nat.le_of_ble_eq_true rfl) dL_law_981 ⟨by show cells ≤ 600000; omega, by show slots ≤ 7302250; omega⟩ (fun H locs w => ?_)
  have hP : wl_P D L (oa 0) mo ma M ((cq_holds (M 0) n (xs (i + 1)))) (L, (ob_W D F oa C mk im mk ad n (M 0))) ((q_holds (M 0) n (xs (i + 1)), M)) := wl_P_q hw hI (ag_holds hs.2.1 (xs (i + 1)))
  obtain ⟨hr, hmo, hLL, hlc⟩ := hP
  have hmo2 := mo_ok_L hmo0 hLL
  have w : hg_W D b0 (L) (mo_F D ((ob_W D F oa C mk im mk ad n (M 0))) mo ma M) s.heap H locs := by rw [mo_self hmo]; exact w
  refine lv_aload_n hx hb dL_law_984 rfl (lv_at hl 2 rfl) ?_
  refine lv_aload_n hx hb dL_law_985 rfl (lv_at hl 0 rfl) ?_
  refine lv_iload_n hx hb dL_law_986 rfl (lv_at hl 3 rfl) ?_
  refine lv_iconst (v := 1) hx hb dL_law_987 (by decide) ?_
  refine lv_iadd hx hb dL_law_988 ?_
  refine lw_sld Y w (j := 1) rfl (by omega) dL_law_989 ?_
  refine hg_viF (r := (q_holds (M 0) n (xs (i + 1)))) (As := [.int (xs (i + 1))]) (rest := [.int ((cq_holds (M 0) n (xs (i + 1))))]) X w (c_X12_holds l D b0 (L) ((ob_W D F oa C mk im mk ad n (M 0))) mo ma M hmo2 n nr hv (xs (i + 1))) (cwV 1 hts gL_law_X12_holds rfl rfl rfl hdL_X12_holds ⟨Nat.le_of_ble_eq_true rfl, Nat.le_of_ble_eq_true rfl⟩) hmo2.1 (mo_at0 D _ mo ma M) rfl rfl rfl hl.1 rfl (Nat.le_of_ble_eq_true rfl) dL_law_990 ⟨by show cells ≤ 600000; omega, by show slots ≤ 7302250; omega⟩ (fun H locs w => ?_)
  refine lv_icmp_eq (tgt := 1324) hx hb dL_law_993 (by decide) (fun _ => ?_) (fun z => absurd hr z)
  refine W.widen (k := cells + 10) (n := slots + 64) (by omega) (by omega) ?_
  exact kk _ _ H locs hlc w
theorem hdL_X11_falls : yX11_falls.cls = RX11 ∧ yX11_falls.cls ≠ "java/lang/invoke/MethodHandle" ∧ yX11_falls.cls ≠ "java/lang/invoke/VarHandle" ∧ (parseMethodDescriptor yX11_falls.desc).map (fun d => d.parameters.length) = some 1 := by decide +kernel
theorem hdL_X12_falls : yX12_falls.cls = RX12 ∧ yX12_falls.cls ≠ "java/lang/invoke/MethodHandle" ∧ yX12_falls.cls ≠ "java/lang/invoke/VarHandle" ∧ (parseMethodDescriptor yX12_falls.desc).map (fun d => d.parameters.length) = some 1 := by decide +kernel
set_option maxRecDepth 100000 in
set_option maxHeartbeats 4000000 in
theorem lc_falls {p : Program} {l : Launch} {e : Env} {s : State} {m : MethodId} {args : Array Value} {below : List Frame} {meth : Method} {c : Code} {H : Heap} {locs : List Loc} {cells slots : Nat} {Q : State → Prop} {D : va_G} {b0 : Nat} {L : List Nat} {F : Nat → va_E} {ls : Array Slot} {b Ls i x mo : Nat} {xs : Nat → Int32} {ma : Nat → Nat} (Y : lw_C p s m args c D b0 b Ls xs i) (hl : lv_has ls 4 [(0, .ref b), (1, .ref x), (2, .ref mo), (3, .int (nI i))]) (h : lc_I D L F x mo ma) (w : hg_W D b0 L F s.heap H locs) (hc : cells + 10 ≤ 600000) (hsl : slots + 64 ≤ 7302250) (kk : ∀ (L' : List Nat) (F' : Nat → va_E) (H : Heap) (locs : List Loc), lc_I D L' F' x mo ma → hg_W D b0 L' F' s.heap H locs → W p l e room_1 s m args below meth c H locs (cells + 10) (slots + 64) Q (F0 m 1324 ls [])) : W p l e room_1 s m args below meth c H locs cells slots Q (F0 m 998 ls []) := by
  obtain ⟨oa, C, M, mk, ad, n, nr, im, col, rfl, hw⟩ := h
  have X := Y.1
  obtain ⟨hx, hb, hml, hown, hts⟩ := id X.1
  obtain ⟨k1, k2, k3, ho, hm, hmo0, k7, k8, k9, k10, a, hI⟩ := id hw
  obtain ⟨hE, hZ, ⟨t, ht1, ht⟩, hR, ⟨ha, ha24⟩, ⟨s0, h12⟩, hV, hth, hG⟩ := id hI
  have hs := hV.1.1
  have htt := hV.1.2.1
  have hv := mk_ok_of hs htt
  have h4 := ag_I4 hI
  have hC1 : C 1 0 = nI a := by rw [hE 1 (by unfold ag_key; omega)]; exact ha
  have hC9 : C 9 0 = nI t := by rw [hE 9 (by unfold ag_key; omega)]; exact ht
  have hsz : cs_szs C := by unfold cs_szs; rw [hE 4 (by unfold ag_key; omega)]; exact hZ.1
  have w : hg_W D b0 L (ob_W D F oa C mk im mk ad n (M 0)) s.heap H locs := by rw [wl_W hw]; exact w
  refine lv_aload_n hx hb dL_law_998 rfl (lv_at hl 1 rfl) ?_
  refine lv_aload_n hx hb dL_law_999 rfl (lv_at hl 0 rfl) ?_
  refine lv_iload_n hx hb dL_law_1000 rfl (lv_at hl 3 rfl) ?_
  refine lv_iconst (v := 1) hx hb dL_law_1001 (by decide) ?_
  refine lv_iadd hx hb dL_law_1002 ?_
  refine lw_sld Y w (j := 1) rfl (by omega) dL_law_1003 ?_
  refine hg_viF (r := (cq_falls (M 0) n (xs (i + 1)))) (As := [.int (xs (i + 1))]) (rest := []) X w (c_X11_falls l D b0 L F oa C im mk ad n (M 0) hm hs ho nr htt (xs (i + 1))) (cwV 1 hts gL_law_X11_falls rfl rfl rfl hdL_X11_falls ⟨Nat.le_of_ble_eq_true rfl, Nat.le_of_ble_eq_true rfl⟩) (ho.1 0 (by decide)).1 (ow_at ho (k := 0) (by decide)) rfl rfl rfl hl.1 rfl (Nat.le_of_ble_eq_true rfl) dL_law_1004 ⟨by show cells ≤ 600000; omega, by show slots ≤ 7302250; omega⟩ (fun H locs w => ?_)
  have hP : wl_P D L (oa 0) mo ma M ((cq_falls (M 0) n (xs (i + 1)))) (L, (ob_W D F oa C mk im mk ad n (M 0))) ((q_falls (M 0) n (xs (i + 1)), M)) := wl_P_q hw hI (ag_falls hs.2.1 (xs (i + 1)) h4)
  obtain ⟨hr, hmo, hLL, hlc⟩ := hP
  have hmo2 := mo_ok_L hmo0 hLL
  have w : hg_W D b0 (L) (mo_F D ((ob_W D F oa C mk im mk ad n (M 0))) mo ma M) s.heap H locs := by rw [mo_self hmo]; exact w
  refine lv_aload_n hx hb dL_law_1007 rfl (lv_at hl 2 rfl) ?_
  refine lv_aload_n hx hb dL_law_1008 rfl (lv_at hl 0 rfl) ?_
  refine lv_iload_n hx hb dL_law_1009 rfl (lv_at hl 3 rfl) ?_
  refine lv_iconst (v := 1) hx hb dL_law_1010 (by decide) ?_
  refine lv_iadd hx hb dL_law_1011 ?_
  refine lw_sld Y w (j := 1) rfl (by omega) dL_law_1012 ?_
  refine hg_viF (r := (q_falls (M 0) n (xs (i + 1)))) (As := [.int (xs (i + 1))]) (rest := [.int ((cq_falls (M 0) n (xs (i + 1))))]) X w (c_X12_falls l D b0 (L) ((ob_W D F oa C mk im mk ad n (M 0))) mo ma M hmo2 n nr hv (xs (i + 1))) (cwV 1 hts gL_law_X12_falls rfl rfl rfl hdL_X12_falls ⟨Nat.le_of_ble_eq_true rfl, Nat.le_of_ble_eq_true rfl⟩) hmo2.1 (mo_at0 D _ mo ma M) rfl rfl rfl hl.1 rfl (Nat.le_of_ble_eq_true rfl) dL_law_1013 ⟨by show cells ≤ 600000; omega, by show slots ≤ 7302250; omega⟩ (fun H locs w => ?_)
  refine lv_icmp_eq (tgt := 1324) hx hb dL_law_1016 (by decide) (fun _ => ?_) (fun z => absurd hr z)
  refine W.widen (k := cells + 10) (n := slots + 64) (by omega) (by omega) ?_
  exact kk _ _ H locs hlc w
theorem hdL_X11_dearest : yX11_dearest.cls = RX11 ∧ yX11_dearest.cls ≠ "java/lang/invoke/MethodHandle" ∧ yX11_dearest.cls ≠ "java/lang/invoke/VarHandle" ∧ (parseMethodDescriptor yX11_dearest.desc).map (fun d => d.parameters.length) = some 1 := by decide +kernel
theorem hdL_X12_dearest : yX12_dearest.cls = RX12 ∧ yX12_dearest.cls ≠ "java/lang/invoke/MethodHandle" ∧ yX12_dearest.cls ≠ "java/lang/invoke/VarHandle" ∧ (parseMethodDescriptor yX12_dearest.desc).map (fun d => d.parameters.length) = some 1 := by decide +kernel
set_option maxRecDepth 100000 in
set_option maxHeartbeats 4000000 in
theorem lc_dearest {p : Program} {l : Launch} {e : Env} {s : State} {m : MethodId} {args : Array Value} {below : List Frame} {meth : Method} {c : Code} {H : Heap} {locs : List Loc} {cells slots : Nat} {Q : State → Prop} {D : va_G} {b0 : Nat} {L : List Nat} {F : Nat → va_E} {ls : Array Slot} {b Ls i x mo : Nat} {xs : Nat → Int32} {ma : Nat → Nat} (Y : lw_C p s m args c D b0 b Ls xs i) (hl : lv_has ls 4 [(0, .ref b), (1, .ref x), (2, .ref mo), (3, .int (nI i))]) (h : lc_I D L F x mo ma) (w : hg_W D b0 L F s.heap H locs) (hc : cells + 10 ≤ 600000) (hsl : slots + 64 ≤ 7302250) (kk : ∀ (L' : List Nat) (F' : Nat → va_E) (H : Heap) (locs : List Loc), lc_I D L' F' x mo ma → hg_W D b0 L' F' s.heap H locs → W p l e room_1 s m args below meth c H locs (cells + 10) (slots + 64) Q (F0 m 1324 ls [])) : W p l e room_1 s m args below meth c H locs cells slots Q (F0 m 1021 ls []) := by
  obtain ⟨oa, C, M, mk, ad, n, nr, im, col, rfl, hw⟩ := h
  have X := Y.1
  obtain ⟨hx, hb, hml, hown, hts⟩ := id X.1
  obtain ⟨k1, k2, k3, ho, hm, hmo0, k7, k8, k9, k10, a, hI⟩ := id hw
  obtain ⟨hE, hZ, ⟨t, ht1, ht⟩, hR, ⟨ha, ha24⟩, ⟨s0, h12⟩, hV, hth, hG⟩ := id hI
  have hs := hV.1.1
  have htt := hV.1.2.1
  have hv := mk_ok_of hs htt
  have h4 := ag_I4 hI
  have hC1 : C 1 0 = nI a := by rw [hE 1 (by unfold ag_key; omega)]; exact ha
  have hC9 : C 9 0 = nI t := by rw [hE 9 (by unfold ag_key; omega)]; exact ht
  have hsz : cs_szs C := by unfold cs_szs; rw [hE 4 (by unfold ag_key; omega)]; exact hZ.1
  have w : hg_W D b0 L (ob_W D F oa C mk im mk ad n (M 0)) s.heap H locs := by rw [wl_W hw]; exact w
  refine lv_aload_n hx hb dL_law_1021 rfl (lv_at hl 1 rfl) ?_
  refine lv_aload_n hx hb dL_law_1022 rfl (lv_at hl 0 rfl) ?_
  refine lv_iload_n hx hb dL_law_1023 rfl (lv_at hl 3 rfl) ?_
  refine lv_iconst (v := 1) hx hb dL_law_1024 (by decide) ?_
  refine lv_iadd hx hb dL_law_1025 ?_
  refine lw_sld Y w (j := 1) rfl (by omega) dL_law_1026 ?_
  refine hg_viF (r := (cq_dearest (M 0) n (xs (i + 1)))) (As := [.int (xs (i + 1))]) (rest := []) X w (c_X11_dearest l D b0 L F oa C im mk ad n (M 0) hm hs ho nr htt (xs (i + 1))) (cwV 1 hts gL_law_X11_dearest rfl rfl rfl hdL_X11_dearest ⟨Nat.le_of_ble_eq_true rfl, Nat.le_of_ble_eq_true rfl⟩) (ho.1 0 (by decide)).1 (ow_at ho (k := 0) (by decide)) rfl rfl rfl hl.1 rfl (Nat.le_of_ble_eq_true rfl) dL_law_1027 ⟨by show cells ≤ 600000; omega, by show slots ≤ 7302250; omega⟩ (fun H locs w => ?_)
  have hP : wl_P D L (oa 0) mo ma M ((cq_dearest (M 0) n (xs (i + 1)))) (L, (ob_W D F oa C mk im mk ad n (M 0))) ((q_dearest (M 0) n (xs (i + 1)), M)) := wl_P_q hw hI (ag_dearest hs.2.1 hV.2.1 hV.1 (xs (i + 1)))
  obtain ⟨hr, hmo, hLL, hlc⟩ := hP
  have hmo2 := mo_ok_L hmo0 hLL
  have w : hg_W D b0 (L) (mo_F D ((ob_W D F oa C mk im mk ad n (M 0))) mo ma M) s.heap H locs := by rw [mo_self hmo]; exact w
  refine lv_aload_n hx hb dL_law_1030 rfl (lv_at hl 2 rfl) ?_
  refine lv_aload_n hx hb dL_law_1031 rfl (lv_at hl 0 rfl) ?_
  refine lv_iload_n hx hb dL_law_1032 rfl (lv_at hl 3 rfl) ?_
  refine lv_iconst (v := 1) hx hb dL_law_1033 (by decide) ?_
  refine lv_iadd hx hb dL_law_1034 ?_
  refine lw_sld Y w (j := 1) rfl (by omega) dL_law_1035 ?_
  refine hg_viF (r := (q_dearest (M 0) n (xs (i + 1)))) (As := [.int (xs (i + 1))]) (rest := [.int ((cq_dearest (M 0) n (xs (i + 1))))]) X w (c_X12_dearest l D b0 (L) ((ob_W D F oa C mk im mk ad n (M 0))) mo ma M hmo2 n nr hv (xs (i + 1))) (cwV 1 hts gL_law_X12_dearest rfl rfl rfl hdL_X12_dearest ⟨Nat.le_of_ble_eq_true rfl, Nat.le_of_ble_eq_true rfl⟩) hmo2.1 (mo_at0 D _ mo ma M) rfl rfl rfl hl.1 rfl (Nat.le_of_ble_eq_true rfl) dL_law_1036 ⟨by show cells ≤ 600000; omega, by show slots ≤ 7302250; omega⟩ (fun H locs w => ?_)
  refine lv_icmp_eq (tgt := 1324) hx hb dL_law_1039 (by decide) (fun _ => ?_) (fun z => absurd hr z)
  refine W.widen (k := cells + 10) (n := slots + 64) (by omega) (by omega) ?_
  exact kk _ _ H locs hlc w
theorem hdL_X11_rented : yX11_rented.cls = RX11 ∧ yX11_rented.cls ≠ "java/lang/invoke/MethodHandle" ∧ yX11_rented.cls ≠ "java/lang/invoke/VarHandle" ∧ (parseMethodDescriptor yX11_rented.desc).map (fun d => d.parameters.length) = some 3 := by decide +kernel
theorem hdL_X12_rented : yX12_rented.cls = RX12 ∧ yX12_rented.cls ≠ "java/lang/invoke/MethodHandle" ∧ yX12_rented.cls ≠ "java/lang/invoke/VarHandle" ∧ (parseMethodDescriptor yX12_rented.desc).map (fun d => d.parameters.length) = some 3 := by decide +kernel
set_option maxRecDepth 100000 in
set_option maxHeartbeats 4000000 in
theorem lc_rented {p : Program} {l : Launch} {e : Env} {s : State} {m : MethodId} {args : Array Value} {below : List Frame} {meth : Method} {c : Code} {H : Heap} {locs : List Loc} {cells slots : Nat} {Q : State → Prop} {D : va_G} {b0 : Nat} {L : List Nat} {F : Nat → va_E} {ls : Array Slot} {b Ls i x mo : Nat} {xs : Nat → Int32} {ma : Nat → Nat} (Y : lw_C p s m args c D b0 b Ls xs i) (hl : lv_has ls 4 [(0, .ref b), (1, .ref x), (2, .ref mo), (3, .int (nI i))]) (h : lc_I D L F x mo ma) (w : hg_W D b0 L F s.heap H locs) (hc : cells + 10 ≤ 600000) (hsl : slots + 64 ≤ 7302250) (kk : ∀ (L' : List Nat) (F' : Nat → va_E) (H : Heap) (locs : List Loc), lc_I D L' F' x mo ma → hg_W D b0 L' F' s.heap H locs → W p l e room_1 s m args below meth c H locs (cells + 10) (slots + 64) Q (F0 m 1324 ls [])) : W p l e room_1 s m args below meth c H locs cells slots Q (F0 m 1044 ls []) := by
  obtain ⟨oa, C, M, mk, ad, n, nr, im, col, rfl, hw⟩ := h
  have X := Y.1
  obtain ⟨hx, hb, hml, hown, hts⟩ := id X.1
  obtain ⟨k1, k2, k3, ho, hm, hmo0, k7, k8, k9, k10, a, hI⟩ := id hw
  obtain ⟨hE, hZ, ⟨t, ht1, ht⟩, hR, ⟨ha, ha24⟩, ⟨s0, h12⟩, hV, hth, hG⟩ := id hI
  have hs := hV.1.1
  have htt := hV.1.2.1
  have hv := mk_ok_of hs htt
  have h4 := ag_I4 hI
  have hC1 : C 1 0 = nI a := by rw [hE 1 (by unfold ag_key; omega)]; exact ha
  have hC9 : C 9 0 = nI t := by rw [hE 9 (by unfold ag_key; omega)]; exact ht
  have hsz : cs_szs C := by unfold cs_szs; rw [hE 4 (by unfold ag_key; omega)]; exact hZ.1
  have w : hg_W D b0 L (ob_W D F oa C mk im mk ad n (M 0)) s.heap H locs := by rw [wl_W hw]; exact w
  refine lv_aload_n hx hb dL_law_1044 rfl (lv_at hl 1 rfl) ?_
  refine lv_aload_n hx hb dL_law_1045 rfl (lv_at hl 0 rfl) ?_
  refine lv_iload_n hx hb dL_law_1046 rfl (lv_at hl 3 rfl) ?_
  refine lv_iconst (v := 1) hx hb dL_law_1047 (by decide) ?_
  refine lv_iadd hx hb dL_law_1048 ?_
  refine lw_sld Y w (j := 1) rfl (by omega) dL_law_1049 ?_
  refine lv_aload_n hx hb dL_law_1050 rfl (lv_at hl 0 rfl) ?_
  refine lv_iload_n hx hb dL_law_1051 rfl (lv_at hl 3 rfl) ?_
  refine lv_iconst (v := 2) hx hb dL_law_1052 (by decide) ?_
  refine lv_iadd hx hb dL_law_1053 ?_
  refine lw_sld Y w (j := 2) rfl (by omega) dL_law_1054 ?_
  refine lv_aload_n hx hb dL_law_1055 rfl (lv_at hl 0 rfl) ?_
  refine lv_iload_n hx hb dL_law_1056 rfl (lv_at hl 3 rfl) ?_
  refine lv_iconst (v := 3) hx hb dL_law_1057 (by decide) ?_
  refine lv_iadd hx hb dL_law_1058 ?_
  refine lw_sld Y w (j := 3) rfl (by omega) dL_law_1059 ?_
  refine hg_viF (r := (cq_rented (M 0) n (xs (i + 1)) (xs (i + 2)) (xs (i + 3)))) (As := [.int (xs (i + 1)), .int (xs (i + 2)), .int (xs (i + 3))]) (rest := []) X w (c_X11_rented l D b0 L F oa C im mk ad n (M 0) hm hs ho nr htt (xs (i + 1)) (xs (i + 2)) (xs (i + 3))) (cwV 3 hts gL_law_X11_rented rfl rfl rfl hdL_X11_rented ⟨Nat.le_of_ble_eq_true rfl, Nat.le_of_ble_eq_true rfl⟩) (ho.1 0 (by decide)).1 (ow_at ho (k := 0) (by decide)) rfl rfl rfl hl.1 rfl (Nat.le_of_ble_eq_true rfl) dL_law_1060 ⟨by show cells ≤ 600000; omega, by show slots ≤ 7302250; omega⟩ (fun H locs w => ?_)
  have hP : wl_P D L (oa 0) mo ma M ((cq_rented (M 0) n (xs (i + 1)) (xs (i + 2)) (xs (i + 3)))) (L, (ob_W D F oa C mk im mk ad n (M 0))) ((q_rented (M 0) n (xs (i + 1)) (xs (i + 2)) (xs (i + 3)), M)) := wl_P_q hw hI (ag_rented hV.1 hV.2.1 (xs (i + 1)) (xs (i + 2)) (xs (i + 3)))
  obtain ⟨hr, hmo, hLL, hlc⟩ := hP
  have hmo2 := mo_ok_L hmo0 hLL
  have w : hg_W D b0 (L) (mo_F D ((ob_W D F oa C mk im mk ad n (M 0))) mo ma M) s.heap H locs := by rw [mo_self hmo]; exact w
  refine lv_aload_n hx hb dL_law_1063 rfl (lv_at hl 2 rfl) ?_
  refine lv_aload_n hx hb dL_law_1064 rfl (lv_at hl 0 rfl) ?_
  refine lv_iload_n hx hb dL_law_1065 rfl (lv_at hl 3 rfl) ?_
  refine lv_iconst (v := 1) hx hb dL_law_1066 (by decide) ?_
  refine lv_iadd hx hb dL_law_1067 ?_
  refine lw_sld Y w (j := 1) rfl (by omega) dL_law_1068 ?_
  refine lv_aload_n hx hb dL_law_1069 rfl (lv_at hl 0 rfl) ?_
  refine lv_iload_n hx hb dL_law_1070 rfl (lv_at hl 3 rfl) ?_
  refine lv_iconst (v := 2) hx hb dL_law_1071 (by decide) ?_
  refine lv_iadd hx hb dL_law_1072 ?_
  refine lw_sld Y w (j := 2) rfl (by omega) dL_law_1073 ?_
  refine lv_aload_n hx hb dL_law_1074 rfl (lv_at hl 0 rfl) ?_
  refine lv_iload_n hx hb dL_law_1075 rfl (lv_at hl 3 rfl) ?_
  refine lv_iconst (v := 3) hx hb dL_law_1076 (by decide) ?_
  refine lv_iadd hx hb dL_law_1077 ?_
  refine lw_sld Y w (j := 3) rfl (by omega) dL_law_1078 ?_
  refine hg_viF (r := (q_rented (M 0) n (xs (i + 1)) (xs (i + 2)) (xs (i + 3)))) (As := [.int (xs (i + 1)), .int (xs (i + 2)), .int (xs (i + 3))]) (rest := [.int ((cq_rented (M 0) n (xs (i + 1)) (xs (i + 2)) (xs (i + 3))))]) X w (c_X12_rented l D b0 (L) ((ob_W D F oa C mk im mk ad n (M 0))) mo ma M hmo2 n nr hv (xs (i + 1)) (xs (i + 2)) (xs (i + 3))) (cwV 3 hts gL_law_X12_rented rfl rfl rfl hdL_X12_rented ⟨Nat.le_of_ble_eq_true rfl, Nat.le_of_ble_eq_true rfl⟩) hmo2.1 (mo_at0 D _ mo ma M) rfl rfl rfl hl.1 rfl (Nat.le_of_ble_eq_true rfl) dL_law_1079 ⟨by show cells ≤ 600000; omega, by show slots ≤ 7302250; omega⟩ (fun H locs w => ?_)
  refine lv_icmp_eq (tgt := 1324) hx hb dL_law_1082 (by decide) (fun _ => ?_) (fun z => absurd hr z)
  refine W.widen (k := cells + 10) (n := slots + 64) (by omega) (by omega) ?_
  exact kk _ _ H locs hlc w
theorem hdL_X11_wind : yX11_wind.cls = RX11 ∧ yX11_wind.cls ≠ "java/lang/invoke/MethodHandle" ∧ yX11_wind.cls ≠ "java/lang/invoke/VarHandle" ∧ (parseMethodDescriptor yX11_wind.desc).map (fun d => d.parameters.length) = some 3 := by decide +kernel
theorem hdL_X12_wind : yX12_wind.cls = RX12 ∧ yX12_wind.cls ≠ "java/lang/invoke/MethodHandle" ∧ yX12_wind.cls ≠ "java/lang/invoke/VarHandle" ∧ (parseMethodDescriptor yX12_wind.desc).map (fun d => d.parameters.length) = some 3 := by decide +kernel
set_option maxRecDepth 100000 in
set_option maxHeartbeats 4000000 in
theorem lc_wind {p : Program} {l : Launch} {e : Env} {s : State} {m : MethodId} {args : Array Value} {below : List Frame} {meth : Method} {c : Code} {H : Heap} {locs : List Loc} {cells slots : Nat} {Q : State → Prop} {D : va_G} {b0 : Nat} {L : List Nat} {F : Nat → va_E} {ls : Array Slot} {b Ls i x mo : Nat} {xs : Nat → Int32} {ma : Nat → Nat} (Y : lw_C p s m args c D b0 b Ls xs i) (hl : lv_has ls 4 [(0, .ref b), (1, .ref x), (2, .ref mo), (3, .int (nI i))]) (h : lc_I D L F x mo ma) (w : hg_W D b0 L F s.heap H locs) (hc : cells + 10 ≤ 600000) (hsl : slots + 64 ≤ 7302250) (kk : ∀ (L' : List Nat) (F' : Nat → va_E) (H : Heap) (locs : List Loc), lc_I D L' F' x mo ma → hg_W D b0 L' F' s.heap H locs → W p l e room_1 s m args below meth c H locs (cells + 10) (slots + 64) Q (F0 m 1324 ls [])) : W p l e room_1 s m args below meth c H locs cells slots Q (F0 m 1087 ls []) := by
  obtain ⟨oa, C, M, mk, ad, n, nr, im, col, rfl, hw⟩ := h
  have X := Y.1
  obtain ⟨hx, hb, hml, hown, hts⟩ := id X.1
  obtain ⟨k1, k2, k3, ho, hm, hmo0, k7, k8, k9, k10, a, hI⟩ := id hw
  obtain ⟨hE, hZ, ⟨t, ht1, ht⟩, hR, ⟨ha, ha24⟩, ⟨s0, h12⟩, hV, hth, hG⟩ := id hI
  have hs := hV.1.1
  have htt := hV.1.2.1
  have hv := mk_ok_of hs htt
  have h4 := ag_I4 hI
  have hC1 : C 1 0 = nI a := by rw [hE 1 (by unfold ag_key; omega)]; exact ha
  have hC9 : C 9 0 = nI t := by rw [hE 9 (by unfold ag_key; omega)]; exact ht
  have hsz : cs_szs C := by unfold cs_szs; rw [hE 4 (by unfold ag_key; omega)]; exact hZ.1
  have w : hg_W D b0 L (ob_W D F oa C mk im mk ad n (M 0)) s.heap H locs := by rw [wl_W hw]; exact w
  refine lv_aload_n hx hb dL_law_1087 rfl (lv_at hl 1 rfl) ?_
  refine lv_aload_n hx hb dL_law_1088 rfl (lv_at hl 0 rfl) ?_
  refine lv_iload_n hx hb dL_law_1089 rfl (lv_at hl 3 rfl) ?_
  refine lv_iconst (v := 1) hx hb dL_law_1090 (by decide) ?_
  refine lv_iadd hx hb dL_law_1091 ?_
  refine lw_sld Y w (j := 1) rfl (by omega) dL_law_1092 ?_
  refine lv_aload_n hx hb dL_law_1093 rfl (lv_at hl 0 rfl) ?_
  refine lv_iload_n hx hb dL_law_1094 rfl (lv_at hl 3 rfl) ?_
  refine lv_iconst (v := 2) hx hb dL_law_1095 (by decide) ?_
  refine lv_iadd hx hb dL_law_1096 ?_
  refine lw_sld Y w (j := 2) rfl (by omega) dL_law_1097 ?_
  refine lv_aload_n hx hb dL_law_1098 rfl (lv_at hl 0 rfl) ?_
  refine lv_iload_n hx hb dL_law_1099 rfl (lv_at hl 3 rfl) ?_
  refine lv_iconst (v := 3) hx hb dL_law_1100 (by decide) ?_
  refine lv_iadd hx hb dL_law_1101 ?_
  refine lw_sld Y w (j := 3) rfl (by omega) dL_law_1102 ?_
  refine hg_vi (As := [.int (xs (i + 1)), .int (xs (i + 2)), .int (xs (i + 3))]) (rest := []) X w (c_X11_wind l D b0 L F oa C im mk ad n (M 0) hm hs ho nr htt (xs (i + 1)) (xs (i + 2)) (xs (i + 3))) (cwV 3 hts gL_law_X11_wind rfl rfl rfl hdL_X11_wind ⟨Nat.le_of_ble_eq_true rfl, Nat.le_of_ble_eq_true rfl⟩) (ho.1 0 (by decide)).1 (ow_at ho (k := 0) (by decide)) rfl rfl rfl hl.1 rfl (Nat.le_of_ble_eq_true rfl) dL_law_1103 ⟨by show cells + 1 ≤ 600000; omega, by show slots + 3 ≤ 7302250; omega⟩ (fun r u H locs hp w => ?_)
  have hP : wl_P D L (oa 0) mo ma M r u (sp_wind M n nr (xs (i + 1)) (xs (i + 2)) (xs (i + 3))) := wl_P_wind hw hp
  obtain ⟨hr, hmo, hLL, hlc⟩ := hP
  have hmo2 := mo_ok_L hmo0 hLL
  have w : hg_W D b0 (u.1) (mo_F D (u.2) mo ma M) s.heap H locs := by rw [mo_self hmo]; exact w
  refine lv_aload_n hx hb dL_law_1106 rfl (lv_at hl 2 rfl) ?_
  refine lv_aload_n hx hb dL_law_1107 rfl (lv_at hl 0 rfl) ?_
  refine lv_iload_n hx hb dL_law_1108 rfl (lv_at hl 3 rfl) ?_
  refine lv_iconst (v := 1) hx hb dL_law_1109 (by decide) ?_
  refine lv_iadd hx hb dL_law_1110 ?_
  refine lw_sld Y w (j := 1) rfl (by omega) dL_law_1111 ?_
  refine lv_aload_n hx hb dL_law_1112 rfl (lv_at hl 0 rfl) ?_
  refine lv_iload_n hx hb dL_law_1113 rfl (lv_at hl 3 rfl) ?_
  refine lv_iconst (v := 2) hx hb dL_law_1114 (by decide) ?_
  refine lv_iadd hx hb dL_law_1115 ?_
  refine lw_sld Y w (j := 2) rfl (by omega) dL_law_1116 ?_
  refine lv_aload_n hx hb dL_law_1117 rfl (lv_at hl 0 rfl) ?_
  refine lv_iload_n hx hb dL_law_1118 rfl (lv_at hl 3 rfl) ?_
  refine lv_iconst (v := 3) hx hb dL_law_1119 (by decide) ?_
  refine lv_iadd hx hb dL_law_1120 ?_
  refine lw_sld Y w (j := 3) rfl (by omega) dL_law_1121 ?_
  refine hg_viF (r := (sp_wind M n nr (xs (i + 1)) (xs (i + 2)) (xs (i + 3))).1) (As := [.int (xs (i + 1)), .int (xs (i + 2)), .int (xs (i + 3))]) (rest := [.int (r)]) X w (c_X12_wind l D b0 (u.1) (u.2) mo ma M hmo2 n nr hv (xs (i + 1)) (xs (i + 2)) (xs (i + 3))) (cwV 3 hts gL_law_X12_wind rfl rfl rfl hdL_X12_wind ⟨Nat.le_of_ble_eq_true rfl, Nat.le_of_ble_eq_true rfl⟩) hmo2.1 (mo_at0 D _ mo ma M) rfl rfl rfl hl.1 rfl (Nat.le_of_ble_eq_true rfl) dL_law_1122 ⟨by show cells + 1 ≤ 600000; omega, by show slots + 3 ≤ 7302250; omega⟩ (fun H locs w => ?_)
  refine lv_icmp_eq (tgt := 1324) hx hb dL_law_1125 (by decide) (fun _ => ?_) (fun z => absurd hr z)
  refine W.widen (k := cells + 10) (n := slots + 64) (by omega) (by omega) ?_
  exact kk _ _ H locs hlc w
