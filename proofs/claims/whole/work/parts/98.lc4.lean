theorem hdL_X11_image : yX11_image.cls = RX11 ∧ yX11_image.cls ≠ "java/lang/invoke/MethodHandle" ∧ yX11_image.cls ≠ "java/lang/invoke/VarHandle" ∧ (parseMethodDescriptor yX11_image.desc).map (fun d => d.parameters.length) = some 1 := by decide +kernel
theorem hdL_X12_image : yX12_image.cls = RX12 ∧ yX12_image.cls ≠ "java/lang/invoke/MethodHandle" ∧ yX12_image.cls ≠ "java/lang/invoke/VarHandle" ∧ (parseMethodDescriptor yX12_image.desc).map (fun d => d.parameters.length) = some 1 := by decide +kernel
set_option maxRecDepth 100000 in
set_option maxHeartbeats 4000000 in
theorem lc_image {p : Program} {l : Launch} {e : Env} {s : State} {m : MethodId} {args : Array Value} {below : List Frame} {meth : Method} {c : Code} {H : Heap} {locs : List Loc} {cells slots : Nat} {Q : State → Prop} {D : va_G} {b0 : Nat} {L : List Nat} {F : Nat → va_E} {ls : Array Slot} {b Ls i x mo : Nat} {xs : Nat → Int32} {ma : Nat → Nat} (Y : lw_C p s m args c D b0 b Ls xs i) (hl : lv_has ls 4 [(0, .ref b), (1, .ref x), (2, .ref mo), (3, .int (nI i))]) (h : lc_I D L F x mo ma) (w : hg_W D b0 L F s.heap H locs) (hc : cells + 10 ≤ 600000) (hsl : slots + 64 ≤ 7302250) (kk : ∀ (L' : List Nat) (F' : Nat → va_E) (H : Heap) (locs : List Loc), lc_I D L' F' x mo ma → hg_W D b0 L' F' s.heap H locs → W p l e room_1 s m args below meth c H locs (cells + 10) (slots + 64) Q (F0 m 1324 ls [])) : W p l e room_1 s m args below meth c H locs cells slots Q (F0 m 1130 ls []) := by
  obtain ⟨oa, C, M, mk, ad, n, nr, im, col, rfl, hw⟩ := h
  have X := Y.1
  obtain ⟨hx, hb, hml, hown, hts⟩ := id X.1
  obtain ⟨k1, k2, k3, ho, hm, hmo0, k7, k8, k9, k10, a, hI⟩ := id hw
  obtain ⟨hE, hZ, ⟨t, ht1, ht⟩, hR, ⟨ha, ha24⟩, ⟨s0, h12⟩, hV, hth, hG⟩ := id hI
  have hs := hV.1.1
  have htt := hV.1.2.1
  have hv := mk_ok_of hs htt
  have h4 := ag_I4 hI
  have hC1 : C 1 0 = nI a := by rw [hE 1 (by unfold ag_key; omega)]; exact ha
  have hC9 : C 9 0 = nI t := by rw [hE 9 (by unfold ag_key; omega)]; exact ht
  have hsz : cs_szs C := by unfold cs_szs; rw [hE 4 (by unfold ag_key; omega)]; exact hZ.1
  have w : hg_W D b0 L (ob_W D F oa C mk im mk ad n (M 0)) s.heap H locs := by rw [wl_W hw]; exact w
  refine lv_aload_n hx hb dL_law_1130 rfl (lv_at hl 1 rfl) ?_
  refine lv_aload_n hx hb dL_law_1131 rfl (lv_at hl 0 rfl) ?_
  refine lv_iload_n hx hb dL_law_1132 rfl (lv_at hl 3 rfl) ?_
  refine lv_iconst (v := 1) hx hb dL_law_1133 (by decide) ?_
  refine lv_iadd hx hb dL_law_1134 ?_
  refine lw_sld Y w (j := 1) rfl (by omega) dL_law_1135 ?_
  refine hg_vi (As := [.int (xs (i + 1))]) (rest := []) X w (c_X11_image l D b0 L F oa C im mk ad n (M 0) hm hs ho (xs (i + 1))) (cwV 1 hts gL_law_X11_image rfl rfl rfl hdL_X11_image ⟨Nat.le_of_ble_eq_true rfl, Nat.le_of_ble_eq_true rfl⟩) (ho.1 0 (by decide)).1 (ow_at ho (k := 0) (by decide)) rfl rfl rfl hl.1 rfl (Nat.le_of_ble_eq_true rfl) dL_law_1136 ⟨by show cells + 9 ≤ 600000; omega, by show slots + 57 ≤ 7302250; omega⟩ (fun r u H locs hp w => ?_)
  have hP : wl_P D L (oa 0) mo ma M r u (sp_image M (xs (i + 1))) := wl_P_image hw hp
  obtain ⟨hr, hmo, hLL, hlc⟩ := hP
  have hmo2 := mo_ok_L hmo0 hLL
  have w : hg_W D b0 (u.1) (mo_F D (u.2) mo ma M) s.heap H locs := by rw [mo_self hmo]; exact w
  refine lv_aload_n hx hb dL_law_1139 rfl (lv_at hl 2 rfl) ?_
  refine lv_aload_n hx hb dL_law_1140 rfl (lv_at hl 0 rfl) ?_
  refine lv_iload_n hx hb dL_law_1141 rfl (lv_at hl 3 rfl) ?_
  refine lv_iconst (v := 1) hx hb dL_law_1142 (by decide) ?_
  refine lv_iadd hx hb dL_law_1143 ?_
  refine lw_sld Y w (j := 1) rfl (by omega) dL_law_1144 ?_
  refine hg_viF (r := (sp_image M (xs (i + 1))).1) (As := [.int (xs (i + 1))]) (rest := [.int (r)]) X w (c_X12_image l D b0 (u.1) (u.2) mo ma M hmo2 (xs (i + 1))) (cwV 1 hts gL_law_X12_image rfl rfl rfl hdL_X12_image ⟨Nat.le_of_ble_eq_true rfl, Nat.le_of_ble_eq_true rfl⟩) hmo2.1 (mo_at0 D _ mo ma M) rfl rfl rfl hl.1 rfl (Nat.le_of_ble_eq_true rfl) dL_law_1145 ⟨by show cells + 9 ≤ 600000; omega, by show slots + 57 ≤ 7302250; omega⟩ (fun H locs w => ?_)
  refine lv_icmp_eq (tgt := 1324) hx hb dL_law_1148 (by decide) (fun _ => ?_) (fun z => absurd hr z)
  refine W.widen (k := cells + 10) (n := slots + 64) (by omega) (by omega) ?_
  exact kk _ _ H locs hlc w
theorem hdL_X11_restore : yX11_restore.cls = RX11 ∧ yX11_restore.cls ≠ "java/lang/invoke/MethodHandle" ∧ yX11_restore.cls ≠ "java/lang/invoke/VarHandle" ∧ (parseMethodDescriptor yX11_restore.desc).map (fun d => d.parameters.length) = some 1 := by decide +kernel
theorem hdL_X12_restore : yX12_restore.cls = RX12 ∧ yX12_restore.cls ≠ "java/lang/invoke/MethodHandle" ∧ yX12_restore.cls ≠ "java/lang/invoke/VarHandle" ∧ (parseMethodDescriptor yX12_restore.desc).map (fun d => d.parameters.length) = some 1 := by decide +kernel
set_option maxRecDepth 100000 in
set_option maxHeartbeats 4000000 in
theorem lc_restore {p : Program} {l : Launch} {e : Env} {s : State} {m : MethodId} {args : Array Value} {below : List Frame} {meth : Method} {c : Code} {H : Heap} {locs : List Loc} {cells slots : Nat} {Q : State → Prop} {D : va_G} {b0 : Nat} {L : List Nat} {F : Nat → va_E} {ls : Array Slot} {b Ls i x mo : Nat} {xs : Nat → Int32} {ma : Nat → Nat} (Y : lw_C p s m args c D b0 b Ls xs i) (hl : lv_has ls 4 [(0, .ref b), (1, .ref x), (2, .ref mo), (3, .int (nI i))]) (h : lc_I D L F x mo ma) (w : hg_W D b0 L F s.heap H locs) (hc : cells + 10 ≤ 600000) (hsl : slots + 64 ≤ 7302250) (kk : ∀ (L' : List Nat) (F' : Nat → va_E) (H : Heap) (locs : List Loc), lc_I D L' F' x mo ma → hg_W D b0 L' F' s.heap H locs → W p l e room_1 s m args below meth c H locs (cells + 10) (slots + 64) Q (F0 m 1324 ls [])) : W p l e room_1 s m args below meth c H locs cells slots Q (F0 m 1153 ls []) := by
  obtain ⟨oa, C, M, mk, ad, n, nr, im, col, rfl, hw⟩ := h
  have X := Y.1
  obtain ⟨hx, hb, hml, hown, hts⟩ := id X.1
  obtain ⟨k1, k2, k3, ho, hm, hmo0, k7, k8, k9, k10, a, hI⟩ := id hw
  obtain ⟨hE, hZ, ⟨t, ht1, ht⟩, hR, ⟨ha, ha24⟩, ⟨s0, h12⟩, hV, hth, hG⟩ := id hI
  have hs := hV.1.1
  have htt := hV.1.2.1
  have hv := mk_ok_of hs htt
  have h4 := ag_I4 hI
  have hC1 : C 1 0 = nI a := by rw [hE 1 (by unfold ag_key; omega)]; exact ha
  have hC9 : C 9 0 = nI t := by rw [hE 9 (by unfold ag_key; omega)]; exact ht
  have hsz : cs_szs C := by unfold cs_szs; rw [hE 4 (by unfold ag_key; omega)]; exact hZ.1
  have w : hg_W D b0 L (ob_W D F oa C mk im mk ad n (M 0)) s.heap H locs := by rw [wl_W hw]; exact w
  obtain ⟨ai, ni, hai⟩ : ∃ (ai : Nat → Nat → Nat) (ni : Nat → Nat), ∀ j, j < 2 → ∀ bi, im j = some bi → mk_H D F bi (ai j) (ni j) (fun q => M 0 (50 * (j + 1) + q)) ∧ mk_ok L bi (ai j) (ni j) ∧ (∃ nr', ag_V (fun q => M 0 (50 * (j + 1) + q)) (ni j) nr' ∧ 1 ≤ nr') ∧ M 2 j = 1 ∧ M 0 (50 * (j + 1) + 4) = 1 := lc_images k10
  have hgi : ∀ j, j < 2 → ∀ b, im j = some b → (∃ nr', ag_V (fun q => M 0 (50 * (j + 1) + q)) (ni j) nr' ∧ 1 ≤ nr') ∧ M 2 j = 1 ∧ M 0 (50 * (j + 1) + 4) = 1 ∧ (fun (j q : Nat) => M 0 (50 * (j + 1) + q)) j = fun q => M 0 (50 * (j + 1) + q) := fun j hj bi e => ⟨(hai j hj bi e).2.2.1, (hai j hj bi e).2.2.2.1, (hai j hj bi e).2.2.2.2, rfl⟩
  have hB : ∀ j, j < 2 → ∀ bi, im j = some bi → mk_ok L bi (ai j) (ni j) ∧ mk_sr ((fun (j q : Nat) => M 0 (50 * (j + 1) + q)) j) (ni j) ∧ mk_H D (ob_W D F oa C mk im mk ad n (M 0)) bi (ai j) (ni j) ((fun (j q : Nat) => M 0 (50 * (j + 1) + q)) j) := by
    intro j hj bi e
    obtain ⟨z1, z2, ⟨nr', z3, -⟩, -⟩ := hai j hj bi e
    rw [wl_W hw]
    exact ⟨z2, z3.1.1, z1⟩
  refine lv_aload_n hx hb dL_law_1153 rfl (lv_at hl 1 rfl) ?_
  refine lv_aload_n hx hb dL_law_1154 rfl (lv_at hl 0 rfl) ?_
  refine lv_iload_n hx hb dL_law_1155 rfl (lv_at hl 3 rfl) ?_
  refine lv_iconst (v := 1) hx hb dL_law_1156 (by decide) ?_
  refine lv_iadd hx hb dL_law_1157 ?_
  refine lw_sld Y w (j := 1) rfl (by omega) dL_law_1158 ?_
  refine hg_vi (As := [.int (xs (i + 1))]) (rest := []) X w (c_X11_restore l D b0 L F oa C im mk ad n (M 0) hm hs ho ai ni (fun (j q : Nat) => M 0 (50 * (j + 1) + q)) hB (xs (i + 1))) (cwV 1 hts gL_law_X11_restore rfl rfl rfl hdL_X11_restore ⟨Nat.le_of_ble_eq_true rfl, Nat.le_of_ble_eq_true rfl⟩) (ho.1 0 (by decide)).1 (ow_at ho (k := 0) (by decide)) rfl rfl rfl hl.1 rfl (Nat.le_of_ble_eq_true rfl) dL_law_1159 ⟨by show cells + 9 ≤ 600000; omega, by show slots + 57 ≤ 7302250; omega⟩ (fun r u H locs hp w => ?_)
  have hP : wl_P D L (oa 0) mo ma M r u (sp_restore M (xs (i + 1))) := wl_P_restore hw hgi hp
  obtain ⟨hr, hmo, hLL, hlc⟩ := hP
  have hmo2 := mo_ok_L hmo0 hLL
  have w : hg_W D b0 (u.1) (mo_F D (u.2) mo ma M) s.heap H locs := by rw [mo_self hmo]; exact w
  refine lv_aload_n hx hb dL_law_1162 rfl (lv_at hl 2 rfl) ?_
  refine lv_aload_n hx hb dL_law_1163 rfl (lv_at hl 0 rfl) ?_
  refine lv_iload_n hx hb dL_law_1164 rfl (lv_at hl 3 rfl) ?_
  refine lv_iconst (v := 1) hx hb dL_law_1165 (by decide) ?_
  refine lv_iadd hx hb dL_law_1166 ?_
  refine lw_sld Y w (j := 1) rfl (by omega) dL_law_1167 ?_
  refine hg_viF (r := (sp_restore M (xs (i + 1))).1) (As := [.int (xs (i + 1))]) (rest := [.int (r)]) X w (c_X12_restore l D b0 (u.1) (u.2) mo ma M hmo2 (xs (i + 1))) (cwV 1 hts gL_law_X12_restore rfl rfl rfl hdL_X12_restore ⟨Nat.le_of_ble_eq_true rfl, Nat.le_of_ble_eq_true rfl⟩) hmo2.1 (mo_at0 D _ mo ma M) rfl rfl rfl hl.1 rfl (Nat.le_of_ble_eq_true rfl) dL_law_1168 ⟨by show cells + 9 ≤ 600000; omega, by show slots + 57 ≤ 7302250; omega⟩ (fun H locs w => ?_)
  refine lv_icmp_eq (tgt := 1324) hx hb dL_law_1171 (by decide) (fun _ => ?_) (fun z => absurd hr z)
  refine W.widen (k := cells + 10) (n := slots + 64) (by omega) (by omega) ?_
  exact kk _ _ H locs hlc w
theorem hdL_X11_kind : yX11_kind.cls = RX11 ∧ yX11_kind.cls ≠ "java/lang/invoke/MethodHandle" ∧ yX11_kind.cls ≠ "java/lang/invoke/VarHandle" ∧ (parseMethodDescriptor yX11_kind.desc).map (fun d => d.parameters.length) = some 1 := by decide +kernel
theorem hdL_X12_kind : yX12_kind.cls = RX12 ∧ yX12_kind.cls ≠ "java/lang/invoke/MethodHandle" ∧ yX12_kind.cls ≠ "java/lang/invoke/VarHandle" ∧ (parseMethodDescriptor yX12_kind.desc).map (fun d => d.parameters.length) = some 1 := by decide +kernel
set_option maxRecDepth 100000 in
set_option maxHeartbeats 4000000 in
theorem lc_kind {p : Program} {l : Launch} {e : Env} {s : State} {m : MethodId} {args : Array Value} {below : List Frame} {meth : Method} {c : Code} {H : Heap} {locs : List Loc} {cells slots : Nat} {Q : State → Prop} {D : va_G} {b0 : Nat} {L : List Nat} {F : Nat → va_E} {ls : Array Slot} {b Ls i x mo : Nat} {xs : Nat → Int32} {ma : Nat → Nat} (Y : lw_C p s m args c D b0 b Ls xs i) (hl : lv_has ls 4 [(0, .ref b), (1, .ref x), (2, .ref mo), (3, .int (nI i))]) (h : lc_I D L F x mo ma) (w : hg_W D b0 L F s.heap H locs) (hc : cells + 10 ≤ 600000) (hsl : slots + 64 ≤ 7302250) (kk : ∀ (L' : List Nat) (F' : Nat → va_E) (H : Heap) (locs : List Loc), lc_I D L' F' x mo ma → hg_W D b0 L' F' s.heap H locs → W p l e room_1 s m args below meth c H locs (cells + 10) (slots + 64) Q (F0 m 1324 ls [])) : W p l e room_1 s m args below meth c H locs cells slots Q (F0 m 1176 ls []) := by
  obtain ⟨oa, C, M, mk, ad, n, nr, im, col, rfl, hw⟩ := h
  have X := Y.1
  obtain ⟨hx, hb, hml, hown, hts⟩ := id X.1
  obtain ⟨k1, k2, k3, ho, hm, hmo0, k7, k8, k9, k10, a, hI⟩ := id hw
  obtain ⟨hE, hZ, ⟨t, ht1, ht⟩, hR, ⟨ha, ha24⟩, ⟨s0, h12⟩, hV, hth, hG⟩ := id hI
  have hs := hV.1.1
  have htt := hV.1.2.1
  have hv := mk_ok_of hs htt
  have h4 := ag_I4 hI
  have hC1 : C 1 0 = nI a := by rw [hE 1 (by unfold ag_key; omega)]; exact ha
  have hC9 : C 9 0 = nI t := by rw [hE 9 (by unfold ag_key; omega)]; exact ht
  have hsz : cs_szs C := by unfold cs_szs; rw [hE 4 (by unfold ag_key; omega)]; exact hZ.1
  have w : hg_W D b0 L (ob_W D F oa C mk im mk ad n (M 0)) s.heap H locs := by rw [wl_W hw]; exact w
  refine lv_aload_n hx hb dL_law_1176 rfl (lv_at hl 1 rfl) ?_
  refine lv_aload_n hx hb dL_law_1177 rfl (lv_at hl 0 rfl) ?_
  refine lv_iload_n hx hb dL_law_1178 rfl (lv_at hl 3 rfl) ?_
  refine lv_iconst (v := 1) hx hb dL_law_1179 (by decide) ?_
  refine lv_iadd hx hb dL_law_1180 ?_
  refine lw_sld Y w (j := 1) rfl (by omega) dL_law_1181 ?_
  refine hg_viF (r := (q_kind (M 0) (xs (i + 1)))) (As := [.int (xs (i + 1))]) (rest := []) X w (c_X11_kind l D b0 L F oa C im mk ad n (M 0) hm hs ho (xs (i + 1))) (cwV 1 hts gL_law_X11_kind rfl rfl rfl hdL_X11_kind ⟨Nat.le_of_ble_eq_true rfl, Nat.le_of_ble_eq_true rfl⟩) (ho.1 0 (by decide)).1 (ow_at ho (k := 0) (by decide)) rfl rfl rfl hl.1 rfl (Nat.le_of_ble_eq_true rfl) dL_law_1182 ⟨by show cells ≤ 600000; omega, by show slots ≤ 7302250; omega⟩ (fun H locs w => ?_)
  have hP : wl_P D L (oa 0) mo ma M ((q_kind (M 0) (xs (i + 1)))) (L, (ob_W D F oa C mk im mk ad n (M 0))) ((q_kind (M 0) (xs (i + 1)), M)) := wl_P_q hw hI rfl
  obtain ⟨hr, hmo, hLL, hlc⟩ := hP
  have hmo2 := mo_ok_L hmo0 hLL
  have w : hg_W D b0 (L) (mo_F D ((ob_W D F oa C mk im mk ad n (M 0))) mo ma M) s.heap H locs := by rw [mo_self hmo]; exact w
  refine lv_aload_n hx hb dL_law_1185 rfl (lv_at hl 2 rfl) ?_
  refine lv_aload_n hx hb dL_law_1186 rfl (lv_at hl 0 rfl) ?_
  refine lv_iload_n hx hb dL_law_1187 rfl (lv_at hl 3 rfl) ?_
  refine lv_iconst (v := 1) hx hb dL_law_1188 (by decide) ?_
  refine lv_iadd hx hb dL_law_1189 ?_
  refine lw_sld Y w (j := 1) rfl (by omega) dL_law_1190 ?_
  refine hg_viF (r := (q_kind (M 0) (xs (i + 1)))) (As := [.int (xs (i + 1))]) (rest := [.int ((q_kind (M 0) (xs (i + 1))))]) X w (c_X12_kind l D b0 (L) ((ob_W D F oa C mk im mk ad n (M 0))) mo ma M hmo2 n nr hv (xs (i + 1))) (cwV 1 hts gL_law_X12_kind rfl rfl rfl hdL_X12_kind ⟨Nat.le_of_ble_eq_true rfl, Nat.le_of_ble_eq_true rfl⟩) hmo2.1 (mo_at0 D _ mo ma M) rfl rfl rfl hl.1 rfl (Nat.le_of_ble_eq_true rfl) dL_law_1191 ⟨by show cells ≤ 600000; omega, by show slots ≤ 7302250; omega⟩ (fun H locs w => ?_)
  refine lv_icmp_eq (tgt := 1324) hx hb dL_law_1194 (by decide) (fun _ => ?_) (fun z => absurd hr z)
  refine W.widen (k := cells + 10) (n := slots + 64) (by omega) (by omega) ?_
  exact kk _ _ H locs hlc w
theorem hdL_X11_as : yX11_as.cls = RX11 ∧ yX11_as.cls ≠ "java/lang/invoke/MethodHandle" ∧ yX11_as.cls ≠ "java/lang/invoke/VarHandle" ∧ (parseMethodDescriptor yX11_as.desc).map (fun d => d.parameters.length) = some 2 := by decide +kernel
theorem hdL_X12_as : yX12_as.cls = RX12 ∧ yX12_as.cls ≠ "java/lang/invoke/MethodHandle" ∧ yX12_as.cls ≠ "java/lang/invoke/VarHandle" ∧ (parseMethodDescriptor yX12_as.desc).map (fun d => d.parameters.length) = some 2 := by decide +kernel
set_option maxRecDepth 100000 in
set_option maxHeartbeats 4000000 in
theorem lc_as {p : Program} {l : Launch} {e : Env} {s : State} {m : MethodId} {args : Array Value} {below : List Frame} {meth : Method} {c : Code} {H : Heap} {locs : List Loc} {cells slots : Nat} {Q : State → Prop} {D : va_G} {b0 : Nat} {L : List Nat} {F : Nat → va_E} {ls : Array Slot} {b Ls i x mo : Nat} {xs : Nat → Int32} {ma : Nat → Nat} (Y : lw_C p s m args c D b0 b Ls xs i) (hl : lv_has ls 4 [(0, .ref b), (1, .ref x), (2, .ref mo), (3, .int (nI i))]) (h : lc_I D L F x mo ma) (w : hg_W D b0 L F s.heap H locs) (hc : cells + 10 ≤ 600000) (hsl : slots + 64 ≤ 7302250) (kk : ∀ (L' : List Nat) (F' : Nat → va_E) (H : Heap) (locs : List Loc), lc_I D L' F' x mo ma → hg_W D b0 L' F' s.heap H locs → W p l e room_1 s m args below meth c H locs (cells + 10) (slots + 64) Q (F0 m 1324 ls [])) : W p l e room_1 s m args below meth c H locs cells slots Q (F0 m 1199 ls []) := by
  obtain ⟨oa, C, M, mk, ad, n, nr, im, col, rfl, hw⟩ := h
  have X := Y.1
  obtain ⟨hx, hb, hml, hown, hts⟩ := id X.1
  obtain ⟨k1, k2, k3, ho, hm, hmo0, k7, k8, k9, k10, a, hI⟩ := id hw
  obtain ⟨hE, hZ, ⟨t, ht1, ht⟩, hR, ⟨ha, ha24⟩, ⟨s0, h12⟩, hV, hth, hG⟩ := id hI
  have hs := hV.1.1
  have htt := hV.1.2.1
  have hv := mk_ok_of hs htt
  have h4 := ag_I4 hI
  have hC1 : C 1 0 = nI a := by rw [hE 1 (by unfold ag_key; omega)]; exact ha
  have hC9 : C 9 0 = nI t := by rw [hE 9 (by unfold ag_key; omega)]; exact ht
  have hsz : cs_szs C := by unfold cs_szs; rw [hE 4 (by unfold ag_key; omega)]; exact hZ.1
  have w : hg_W D b0 L (ob_W D F oa C mk im mk ad n (M 0)) s.heap H locs := by rw [wl_W hw]; exact w
  refine lv_aload_n hx hb dL_law_1199 rfl (lv_at hl 1 rfl) ?_
  refine lv_aload_n hx hb dL_law_1200 rfl (lv_at hl 0 rfl) ?_
  refine lv_iload_n hx hb dL_law_1201 rfl (lv_at hl 3 rfl) ?_
  refine lv_iconst (v := 1) hx hb dL_law_1202 (by decide) ?_
  refine lv_iadd hx hb dL_law_1203 ?_
  refine lw_sld Y w (j := 1) rfl (by omega) dL_law_1204 ?_
  refine lv_aload_n hx hb dL_law_1205 rfl (lv_at hl 0 rfl) ?_
  refine lv_iload_n hx hb dL_law_1206 rfl (lv_at hl 3 rfl) ?_
  refine lv_iconst (v := 2) hx hb dL_law_1207 (by decide) ?_
  refine lv_iadd hx hb dL_law_1208 ?_
  refine lw_sld Y w (j := 2) rfl (by omega) dL_law_1209 ?_
  refine hg_viF (r := (cs_as C (M 0) (xs (i + 1)) (xs (i + 2))).1) (As := [.int (xs (i + 1)), .int (xs (i + 2))]) (rest := []) X w (c_X11_as l D b0 L F oa C im mk ad n (M 0) hm hs ho (xs (i + 1)) (xs (i + 2))) (cwV 2 hts gL_law_X11_as rfl rfl rfl hdL_X11_as ⟨Nat.le_of_ble_eq_true rfl, Nat.le_of_ble_eq_true rfl⟩) (ho.1 0 (by decide)).1 (ow_at ho (k := 0) (by decide)) rfl rfl rfl hl.1 rfl (Nat.le_of_ble_eq_true rfl) dL_law_1210 ⟨by show cells ≤ 600000; omega, by show slots ≤ 7302250; omega⟩ (fun H locs w => ?_)
  have hP : wl_P D L (oa 0) mo ma M ((cs_as C (M 0) (xs (i + 1)) (xs (i + 2))).1) (L, (ob_W D F oa ((cs_as C (M 0) (xs (i + 1)) (xs (i + 2))).2) mk im mk ad n (M 0))) (sp_as M (xs (i + 1)) (xs (i + 2))) := wl_P_o3 hw (ag_t_as hI (xs (i + 1)) (xs (i + 2)))
  obtain ⟨hr, hmo, hLL, hlc⟩ := hP
  have hmo2 := mo_ok_L hmo0 hLL
  have w : hg_W D b0 (L) (mo_F D ((ob_W D F oa ((cs_as C (M 0) (xs (i + 1)) (xs (i + 2))).2) mk im mk ad n (M 0))) mo ma M) s.heap H locs := by rw [mo_self hmo]; exact w
  refine lv_aload_n hx hb dL_law_1213 rfl (lv_at hl 2 rfl) ?_
  refine lv_aload_n hx hb dL_law_1214 rfl (lv_at hl 0 rfl) ?_
  refine lv_iload_n hx hb dL_law_1215 rfl (lv_at hl 3 rfl) ?_
  refine lv_iconst (v := 1) hx hb dL_law_1216 (by decide) ?_
  refine lv_iadd hx hb dL_law_1217 ?_
  refine lw_sld Y w (j := 1) rfl (by omega) dL_law_1218 ?_
  refine lv_aload_n hx hb dL_law_1219 rfl (lv_at hl 0 rfl) ?_
  refine lv_iload_n hx hb dL_law_1220 rfl (lv_at hl 3 rfl) ?_
  refine lv_iconst (v := 2) hx hb dL_law_1221 (by decide) ?_
  refine lv_iadd hx hb dL_law_1222 ?_
  refine lw_sld Y w (j := 2) rfl (by omega) dL_law_1223 ?_
  refine hg_viF (r := (sp_as M (xs (i + 1)) (xs (i + 2))).1) (As := [.int (xs (i + 1)), .int (xs (i + 2))]) (rest := [.int ((cs_as C (M 0) (xs (i + 1)) (xs (i + 2))).1)]) X w (c_X12_as l D b0 (L) ((ob_W D F oa ((cs_as C (M 0) (xs (i + 1)) (xs (i + 2))).2) mk im mk ad n (M 0))) mo ma M hmo2 n nr hv (xs (i + 1)) (xs (i + 2))) (cwV 2 hts gL_law_X12_as rfl rfl rfl hdL_X12_as ⟨Nat.le_of_ble_eq_true rfl, Nat.le_of_ble_eq_true rfl⟩) hmo2.1 (mo_at0 D _ mo ma M) rfl rfl rfl hl.1 rfl (Nat.le_of_ble_eq_true rfl) dL_law_1224 ⟨by show cells ≤ 600000; omega, by show slots ≤ 7302250; omega⟩ (fun H locs w => ?_)
  refine lv_icmp_eq (tgt := 1324) hx hb dL_law_1227 (by decide) (fun _ => ?_) (fun z => absurd hr z)
  refine W.widen (k := cells + 10) (n := slots + 64) (by omega) (by omega) ?_
  exact kk _ _ H locs hlc w
theorem hdL_X11_ask : yX11_ask.cls = RX11 ∧ yX11_ask.cls ≠ "java/lang/invoke/MethodHandle" ∧ yX11_ask.cls ≠ "java/lang/invoke/VarHandle" ∧ (parseMethodDescriptor yX11_ask.desc).map (fun d => d.parameters.length) = some 2 := by decide +kernel
theorem hdL_X12_ask : yX12_ask.cls = RX12 ∧ yX12_ask.cls ≠ "java/lang/invoke/MethodHandle" ∧ yX12_ask.cls ≠ "java/lang/invoke/VarHandle" ∧ (parseMethodDescriptor yX12_ask.desc).map (fun d => d.parameters.length) = some 2 := by decide +kernel
set_option maxRecDepth 100000 in
set_option maxHeartbeats 4000000 in
theorem lc_ask {p : Program} {l : Launch} {e : Env} {s : State} {m : MethodId} {args : Array Value} {below : List Frame} {meth : Method} {c : Code} {H : Heap} {locs : List Loc} {cells slots : Nat} {Q : State → Prop} {D : va_G} {b0 : Nat} {L : List Nat} {F : Nat → va_E} {ls : Array Slot} {b Ls i x mo : Nat} {xs : Nat → Int32} {ma : Nat → Nat} (Y : lw_C p s m args c D b0 b Ls xs i) (hl : lv_has ls 4 [(0, .ref b), (1, .ref x), (2, .ref mo), (3, .int (nI i))]) (h : lc_I D L F x mo ma) (w : hg_W D b0 L F s.heap H locs) (hc : cells + 10 ≤ 600000) (hsl : slots + 64 ≤ 7302250) (kk : ∀ (L' : List Nat) (F' : Nat → va_E) (H : Heap) (locs : List Loc), lc_I D L' F' x mo ma → hg_W D b0 L' F' s.heap H locs → W p l e room_1 s m args below meth c H locs (cells + 10) (slots + 64) Q (F0 m 1324 ls [])) : W p l e room_1 s m args below meth c H locs cells slots Q (F0 m 1232 ls []) := by
  obtain ⟨oa, C, M, mk, ad, n, nr, im, col, rfl, hw⟩ := h
  have X := Y.1
  obtain ⟨hx, hb, hml, hown, hts⟩ := id X.1
  obtain ⟨k1, k2, k3, ho, hm, hmo0, k7, k8, k9, k10, a, hI⟩ := id hw
  obtain ⟨hE, hZ, ⟨t, ht1, ht⟩, hR, ⟨ha, ha24⟩, ⟨s0, h12⟩, hV, hth, hG⟩ := id hI
  have hs := hV.1.1
  have htt := hV.1.2.1
  have hv := mk_ok_of hs htt
  have h4 := ag_I4 hI
  have hC1 : C 1 0 = nI a := by rw [hE 1 (by unfold ag_key; omega)]; exact ha
  have hC9 : C 9 0 = nI t := by rw [hE 9 (by unfold ag_key; omega)]; exact ht
  have hsz : cs_szs C := by unfold cs_szs; rw [hE 4 (by unfold ag_key; omega)]; exact hZ.1
  have w : hg_W D b0 L (ob_W D F oa C mk im mk ad n (M 0)) s.heap H locs := by rw [wl_W hw]; exact w
  refine lv_aload_n hx hb dL_law_1232 rfl (lv_at hl 1 rfl) ?_
  refine lv_aload_n hx hb dL_law_1233 rfl (lv_at hl 0 rfl) ?_
  refine lv_iload_n hx hb dL_law_1234 rfl (lv_at hl 3 rfl) ?_
  refine lv_iconst (v := 1) hx hb dL_law_1235 (by decide) ?_
  refine lv_iadd hx hb dL_law_1236 ?_
  refine lw_sld Y w (j := 1) rfl (by omega) dL_law_1237 ?_
  refine lv_aload_n hx hb dL_law_1238 rfl (lv_at hl 0 rfl) ?_
  refine lv_iload_n hx hb dL_law_1239 rfl (lv_at hl 3 rfl) ?_
  refine lv_iconst (v := 2) hx hb dL_law_1240 (by decide) ?_
  refine lv_iadd hx hb dL_law_1241 ?_
  refine lw_sld Y w (j := 2) rfl (by omega) dL_law_1242 ?_
  refine hg_viF (r := (cs_ask C (M 0) (xs (i + 1)) (xs (i + 2))).1) (As := [.int (xs (i + 1)), .int (xs (i + 2))]) (rest := []) X w (c_X11_ask l D b0 L F oa C im mk ad n (M 0) hm hs ho (xs (i + 1)) (xs (i + 2))) (cwV 2 hts gL_law_X11_ask rfl rfl rfl hdL_X11_ask ⟨Nat.le_of_ble_eq_true rfl, Nat.le_of_ble_eq_true rfl⟩) (ho.1 0 (by decide)).1 (ow_at ho (k := 0) (by decide)) rfl rfl rfl hl.1 rfl (Nat.le_of_ble_eq_true rfl) dL_law_1243 ⟨by show cells ≤ 600000; omega, by show slots ≤ 7302250; omega⟩ (fun H locs w => ?_)
  have hP : wl_P D L (oa 0) mo ma M ((cs_ask C (M 0) (xs (i + 1)) (xs (i + 2))).1) (L, (ob_W D F oa ((cs_ask C (M 0) (xs (i + 1)) (xs (i + 2))).2) mk im mk ad n (M 0))) (sp_ask M (xs (i + 1)) (xs (i + 2))) := wl_P_o3 hw (ag_t_ask hI (xs (i + 1)) (xs (i + 2)))
  obtain ⟨hr, hmo, hLL, hlc⟩ := hP
  have hmo2 := mo_ok_L hmo0 hLL
  have w : hg_W D b0 (L) (mo_F D ((ob_W D F oa ((cs_ask C (M 0) (xs (i + 1)) (xs (i + 2))).2) mk im mk ad n (M 0))) mo ma M) s.heap H locs := by rw [mo_self hmo]; exact w
  refine lv_aload_n hx hb dL_law_1246 rfl (lv_at hl 2 rfl) ?_
  refine lv_aload_n hx hb dL_law_1247 rfl (lv_at hl 0 rfl) ?_
  refine lv_iload_n hx hb dL_law_1248 rfl (lv_at hl 3 rfl) ?_
  refine lv_iconst (v := 1) hx hb dL_law_1249 (by decide) ?_
  refine lv_iadd hx hb dL_law_1250 ?_
  refine lw_sld Y w (j := 1) rfl (by omega) dL_law_1251 ?_
  refine lv_aload_n hx hb dL_law_1252 rfl (lv_at hl 0 rfl) ?_
  refine lv_iload_n hx hb dL_law_1253 rfl (lv_at hl 3 rfl) ?_
  refine lv_iconst (v := 2) hx hb dL_law_1254 (by decide) ?_
  refine lv_iadd hx hb dL_law_1255 ?_
  refine lw_sld Y w (j := 2) rfl (by omega) dL_law_1256 ?_
  refine hg_viF (r := (sp_ask M (xs (i + 1)) (xs (i + 2))).1) (As := [.int (xs (i + 1)), .int (xs (i + 2))]) (rest := [.int ((cs_ask C (M 0) (xs (i + 1)) (xs (i + 2))).1)]) X w (c_X12_ask l D b0 (L) ((ob_W D F oa ((cs_ask C (M 0) (xs (i + 1)) (xs (i + 2))).2) mk im mk ad n (M 0))) mo ma M hmo2 n nr hv (xs (i + 1)) (xs (i + 2))) (cwV 2 hts gL_law_X12_ask rfl rfl rfl hdL_X12_ask ⟨Nat.le_of_ble_eq_true rfl, Nat.le_of_ble_eq_true rfl⟩) hmo2.1 (mo_at0 D _ mo ma M) rfl rfl rfl hl.1 rfl (Nat.le_of_ble_eq_true rfl) dL_law_1257 ⟨by show cells ≤ 600000; omega, by show slots ≤ 7302250; omega⟩ (fun H locs w => ?_)
  refine lv_icmp_eq (tgt := 1324) hx hb dL_law_1260 (by decide) (fun _ => ?_) (fun z => absurd hr z)
  refine W.widen (k := cells + 10) (n := slots + 64) (by omega) (by omega) ?_
  exact kk _ _ H locs hlc w
theorem hdL_X11_trace : yX11_trace.cls = RX11 ∧ yX11_trace.cls ≠ "java/lang/invoke/MethodHandle" ∧ yX11_trace.cls ≠ "java/lang/invoke/VarHandle" ∧ (parseMethodDescriptor yX11_trace.desc).map (fun d => d.parameters.length) = some 1 := by decide +kernel
theorem hdL_X12_trace : yX12_trace.cls = RX12 ∧ yX12_trace.cls ≠ "java/lang/invoke/MethodHandle" ∧ yX12_trace.cls ≠ "java/lang/invoke/VarHandle" ∧ (parseMethodDescriptor yX12_trace.desc).map (fun d => d.parameters.length) = some 1 := by decide +kernel
set_option maxRecDepth 100000 in
set_option maxHeartbeats 4000000 in
theorem lc_trace {p : Program} {l : Launch} {e : Env} {s : State} {m : MethodId} {args : Array Value} {below : List Frame} {meth : Method} {c : Code} {H : Heap} {locs : List Loc} {cells slots : Nat} {Q : State → Prop} {D : va_G} {b0 : Nat} {L : List Nat} {F : Nat → va_E} {ls : Array Slot} {b Ls i x mo : Nat} {xs : Nat → Int32} {ma : Nat → Nat} (Y : lw_C p s m args c D b0 b Ls xs i) (hl : lv_has ls 4 [(0, .ref b), (1, .ref x), (2, .ref mo), (3, .int (nI i))]) (h : lc_I D L F x mo ma) (w : hg_W D b0 L F s.heap H locs) (hc : cells + 10 ≤ 600000) (hsl : slots + 64 ≤ 7302250) (kk : ∀ (L' : List Nat) (F' : Nat → va_E) (H : Heap) (locs : List Loc), lc_I D L' F' x mo ma → hg_W D b0 L' F' s.heap H locs → W p l e room_1 s m args below meth c H locs (cells + 10) (slots + 64) Q (F0 m 1324 ls [])) : W p l e room_1 s m args below meth c H locs cells slots Q (F0 m 1265 ls []) := by
  obtain ⟨oa, C, M, mk, ad, n, nr, im, col, rfl, hw⟩ := h
  have X := Y.1
  obtain ⟨hx, hb, hml, hown, hts⟩ := id X.1
  obtain ⟨k1, k2, k3, ho, hm, hmo0, k7, k8, k9, k10, a, hI⟩ := id hw
  obtain ⟨hE, hZ, ⟨t, ht1, ht⟩, hR, ⟨ha, ha24⟩, ⟨s0, h12⟩, hV, hth, hG⟩ := id hI
  have hs := hV.1.1
  have htt := hV.1.2.1
  have hv := mk_ok_of hs htt
  have h4 := ag_I4 hI
  have hC1 : C 1 0 = nI a := by rw [hE 1 (by unfold ag_key; omega)]; exact ha
  have hC9 : C 9 0 = nI t := by rw [hE 9 (by unfold ag_key; omega)]; exact ht
  have hsz : cs_szs C := by unfold cs_szs; rw [hE 4 (by unfold ag_key; omega)]; exact hZ.1
  have w : hg_W D b0 L (ob_W D F oa C mk im mk ad n (M 0)) s.heap H locs := by rw [wl_W hw]; exact w
  refine lv_aload_n hx hb dL_law_1265 rfl (lv_at hl 1 rfl) ?_
  refine lv_aload_n hx hb dL_law_1266 rfl (lv_at hl 0 rfl) ?_
  refine lv_iload_n hx hb dL_law_1267 rfl (lv_at hl 3 rfl) ?_
  refine lv_iconst (v := 1) hx hb dL_law_1268 (by decide) ?_
  refine lv_iadd hx hb dL_law_1269 ?_
  refine lw_sld Y w (j := 1) rfl (by omega) dL_law_1270 ?_
  refine hg_viF (r := (cs_trace C (xs (i + 1)))) (As := [.int (xs (i + 1))]) (rest := []) X w (c_X11_trace l D b0 L F oa C im mk ad n (M 0) hm hs ho (xs (i + 1))) (cwV 1 hts gL_law_X11_trace rfl rfl rfl hdL_X11_trace ⟨Nat.le_of_ble_eq_true rfl, Nat.le_of_ble_eq_true rfl⟩) (ho.1 0 (by decide)).1 (ow_at ho (k := 0) (by decide)) rfl rfl rfl hl.1 rfl (Nat.le_of_ble_eq_true rfl) dL_law_1271 ⟨by show cells ≤ 600000; omega, by show slots ≤ 7302250; omega⟩ (fun H locs w => ?_)
  have hP : wl_P D L (oa 0) mo ma M ((cs_trace C (xs (i + 1)))) (L, (ob_W D F oa C mk im mk ad n (M 0))) ((q_trace M (xs (i + 1)), M)) := wl_P_q hw hI (ag_trace hE hR (xs (i + 1)))
  obtain ⟨hr, hmo, hLL, hlc⟩ := hP
  have hmo2 := mo_ok_L hmo0 hLL
  have w : hg_W D b0 (L) (mo_F D ((ob_W D F oa C mk im mk ad n (M 0))) mo ma M) s.heap H locs := by rw [mo_self hmo]; exact w
  refine lv_aload_n hx hb dL_law_1274 rfl (lv_at hl 2 rfl) ?_
  refine lv_aload_n hx hb dL_law_1275 rfl (lv_at hl 0 rfl) ?_
  refine lv_iload_n hx hb dL_law_1276 rfl (lv_at hl 3 rfl) ?_
  refine lv_iconst (v := 1) hx hb dL_law_1277 (by decide) ?_
  refine lv_iadd hx hb dL_law_1278 ?_
  refine lw_sld Y w (j := 1) rfl (by omega) dL_law_1279 ?_
  refine hg_viF (r := (q_trace M (xs (i + 1)))) (As := [.int (xs (i + 1))]) (rest := [.int ((cs_trace C (xs (i + 1))))]) X w (c_X12_trace l D b0 (L) ((ob_W D F oa C mk im mk ad n (M 0))) mo ma M hmo2 hR (xs (i + 1))) (cwV 1 hts gL_law_X12_trace rfl rfl rfl hdL_X12_trace ⟨Nat.le_of_ble_eq_true rfl, Nat.le_of_ble_eq_true rfl⟩) hmo2.1 (mo_at0 D _ mo ma M) rfl rfl rfl hl.1 rfl (Nat.le_of_ble_eq_true rfl) dL_law_1280 ⟨by show cells ≤ 600000; omega, by show slots ≤ 7302250; omega⟩ (fun H locs w => ?_)
  refine lv_icmp_eq (tgt := 1324) hx hb dL_law_1283 (by decide) (fun _ => ?_) (fun z => absurd hr z)
  refine W.widen (k := cells + 10) (n := slots + 64) (by omega) (by omega) ?_
  exact kk _ _ H locs hlc w
theorem hdL_X11_count : yX11_count.cls = RX11 ∧ yX11_count.cls ≠ "java/lang/invoke/MethodHandle" ∧ yX11_count.cls ≠ "java/lang/invoke/VarHandle" ∧ (parseMethodDescriptor yX11_count.desc).map (fun d => d.parameters.length) = some 1 := by decide +kernel
theorem hdL_X12_count : yX12_count.cls = RX12 ∧ yX12_count.cls ≠ "java/lang/invoke/MethodHandle" ∧ yX12_count.cls ≠ "java/lang/invoke/VarHandle" ∧ (parseMethodDescriptor yX12_count.desc).map (fun d => d.parameters.length) = some 1 := by decide +kernel
set_option maxRecDepth 100000 in
set_option maxHeartbeats 4000000 in
theorem lc_count {p : Program} {l : Launch} {e : Env} {s : State} {m : MethodId} {args : Array Value} {below : List Frame} {meth : Method} {c : Code} {H : Heap} {locs : List Loc} {cells slots : Nat} {Q : State → Prop} {D : va_G} {b0 : Nat} {L : List Nat} {F : Nat → va_E} {ls : Array Slot} {b Ls i x mo : Nat} {xs : Nat → Int32} {ma : Nat → Nat} (Y : lw_C p s m args c D b0 b Ls xs i) (hl : lv_has ls 4 [(0, .ref b), (1, .ref x), (2, .ref mo), (3, .int (nI i))]) (h : lc_I D L F x mo ma) (w : hg_W D b0 L F s.heap H locs) (hc : cells + 10 ≤ 600000) (hsl : slots + 64 ≤ 7302250) (kk : ∀ (L' : List Nat) (F' : Nat → va_E) (H : Heap) (locs : List Loc), lc_I D L' F' x mo ma → hg_W D b0 L' F' s.heap H locs → W p l e room_1 s m args below meth c H locs (cells + 10) (slots + 64) Q (F0 m 1324 ls [])) : W p l e room_1 s m args below meth c H locs cells slots Q (F0 m 1288 ls []) := by
  obtain ⟨oa, C, M, mk, ad, n, nr, im, col, rfl, hw⟩ := h
  have X := Y.1
  obtain ⟨hx, hb, hml, hown, hts⟩ := id X.1
  obtain ⟨k1, k2, k3, ho, hm, hmo0, k7, k8, k9, k10, a, hI⟩ := id hw
  obtain ⟨hE, hZ, ⟨t, ht1, ht⟩, hR, ⟨ha, ha24⟩, ⟨s0, h12⟩, hV, hth, hG⟩ := id hI
  have hs := hV.1.1
  have htt := hV.1.2.1
  have hv := mk_ok_of hs htt
  have h4 := ag_I4 hI
  have hC1 : C 1 0 = nI a := by rw [hE 1 (by unfold ag_key; omega)]; exact ha
  have hC9 : C 9 0 = nI t := by rw [hE 9 (by unfold ag_key; omega)]; exact ht
  have hsz : cs_szs C := by unfold cs_szs; rw [hE 4 (by unfold ag_key; omega)]; exact hZ.1
  have w : hg_W D b0 L (ob_W D F oa C mk im mk ad n (M 0)) s.heap H locs := by rw [wl_W hw]; exact w
  refine lv_aload_n hx hb dL_law_1288 rfl (lv_at hl 1 rfl) ?_
  refine lv_aload_n hx hb dL_law_1289 rfl (lv_at hl 0 rfl) ?_
  refine lv_iload_n hx hb dL_law_1290 rfl (lv_at hl 3 rfl) ?_
  refine lv_iconst (v := 1) hx hb dL_law_1291 (by decide) ?_
  refine lv_iadd hx hb dL_law_1292 ?_
  refine lw_sld Y w (j := 1) rfl (by omega) dL_law_1293 ?_
  refine hg_viF (r := (cs_count C (M 0) (xs (i + 1)))) (As := [.int (xs (i + 1))]) (rest := []) X w (c_X11_count l D b0 L F oa C im mk ad n (M 0) hm hs ho (xs (i + 1))) (cwV 1 hts gL_law_X11_count rfl rfl rfl hdL_X11_count ⟨Nat.le_of_ble_eq_true rfl, Nat.le_of_ble_eq_true rfl⟩) (ho.1 0 (by decide)).1 (ow_at ho (k := 0) (by decide)) rfl rfl rfl hl.1 rfl (Nat.le_of_ble_eq_true rfl) dL_law_1294 ⟨by show cells ≤ 600000; omega, by show slots ≤ 7302250; omega⟩ (fun H locs w => ?_)
  have hP : wl_P D L (oa 0) mo ma M ((cs_count C (M 0) (xs (i + 1)))) (L, (ob_W D F oa C mk im mk ad n (M 0))) ((q_count M (xs (i + 1)), M)) := wl_P_q hw hI (ag_count hE hZ (xs (i + 1)))
  obtain ⟨hr, hmo, hLL, hlc⟩ := hP
  have hmo2 := mo_ok_L hmo0 hLL
  have w : hg_W D b0 (L) (mo_F D ((ob_W D F oa C mk im mk ad n (M 0))) mo ma M) s.heap H locs := by rw [mo_self hmo]; exact w
  refine lv_aload_n hx hb dL_law_1297 rfl (lv_at hl 2 rfl) ?_
  refine lv_aload_n hx hb dL_law_1298 rfl (lv_at hl 0 rfl) ?_
  refine lv_iload_n hx hb dL_law_1299 rfl (lv_at hl 3 rfl) ?_
  refine lv_iconst (v := 1) hx hb dL_law_1300 (by decide) ?_
  refine lv_iadd hx hb dL_law_1301 ?_
  refine lw_sld Y w (j := 1) rfl (by omega) dL_law_1302 ?_
  refine hg_viF (r := (q_count M (xs (i + 1)))) (As := [.int (xs (i + 1))]) (rest := [.int ((cs_count C (M 0) (xs (i + 1))))]) X w (c_X12_count l D b0 (L) ((ob_W D F oa C mk im mk ad n (M 0))) mo ma M hmo2 (xs (i + 1))) (cwV 1 hts gL_law_X12_count rfl rfl rfl hdL_X12_count ⟨Nat.le_of_ble_eq_true rfl, Nat.le_of_ble_eq_true rfl⟩) hmo2.1 (mo_at0 D _ mo ma M) rfl rfl rfl hl.1 rfl (Nat.le_of_ble_eq_true rfl) dL_law_1303 ⟨by show cells ≤ 600000; omega, by show slots ≤ 7302250; omega⟩ (fun H locs w => ?_)
  refine lv_icmp_eq (tgt := 1324) hx hb dL_law_1306 (by decide) (fun _ => ?_) (fun z => absurd hr z)
  refine W.widen (k := cells + 10) (n := slots + 64) (by omega) (by omega) ?_
  exact kk _ _ H locs hlc w
theorem hdL_X11_status : yX11_status.cls = RX11 ∧ yX11_status.cls ≠ "java/lang/invoke/MethodHandle" ∧ yX11_status.cls ≠ "java/lang/invoke/VarHandle" ∧ (parseMethodDescriptor yX11_status.desc).map (fun d => d.parameters.length) = some 0 := by decide +kernel
theorem hdL_X12_status : yX12_status.cls = RX12 ∧ yX12_status.cls ≠ "java/lang/invoke/MethodHandle" ∧ yX12_status.cls ≠ "java/lang/invoke/VarHandle" ∧ (parseMethodDescriptor yX12_status.desc).map (fun d => d.parameters.length) = some 0 := by decide +kernel
set_option maxRecDepth 100000 in
set_option maxHeartbeats 4000000 in
theorem lc_status {p : Program} {l : Launch} {e : Env} {s : State} {m : MethodId} {args : Array Value} {below : List Frame} {meth : Method} {c : Code} {H : Heap} {locs : List Loc} {cells slots : Nat} {Q : State → Prop} {D : va_G} {b0 : Nat} {L : List Nat} {F : Nat → va_E} {ls : Array Slot} {b Ls i x mo : Nat} {xs : Nat → Int32} {ma : Nat → Nat} (Y : lw_C p s m args c D b0 b Ls xs i) (hl : lv_has ls 4 [(0, .ref b), (1, .ref x), (2, .ref mo), (3, .int (nI i))]) (h : lc_I D L F x mo ma) (w : hg_W D b0 L F s.heap H locs) (hc : cells + 10 ≤ 600000) (hsl : slots + 64 ≤ 7302250) (kk : ∀ (L' : List Nat) (F' : Nat → va_E) (H : Heap) (locs : List Loc), lc_I D L' F' x mo ma → hg_W D b0 L' F' s.heap H locs → W p l e room_1 s m args below meth c H locs (cells + 10) (slots + 64) Q (F0 m 1324 ls [])) : W p l e room_1 s m args below meth c H locs cells slots Q (F0 m 1311 ls []) := by
  obtain ⟨oa, C, M, mk, ad, n, nr, im, col, rfl, hw⟩ := h
  have X := Y.1
  obtain ⟨hx, hb, hml, hown, hts⟩ := id X.1
  obtain ⟨k1, k2, k3, ho, hm, hmo0, k7, k8, k9, k10, a, hI⟩ := id hw
  obtain ⟨hE, hZ, ⟨t, ht1, ht⟩, hR, ⟨ha, ha24⟩, ⟨s0, h12⟩, hV, hth, hG⟩ := id hI
  have hs := hV.1.1
  have htt := hV.1.2.1
  have hv := mk_ok_of hs htt
  have h4 := ag_I4 hI
  have hC1 : C 1 0 = nI a := by rw [hE 1 (by unfold ag_key; omega)]; exact ha
  have hC9 : C 9 0 = nI t := by rw [hE 9 (by unfold ag_key; omega)]; exact ht
  have hsz : cs_szs C := by unfold cs_szs; rw [hE 4 (by unfold ag_key; omega)]; exact hZ.1
  have w : hg_W D b0 L (ob_W D F oa C mk im mk ad n (M 0)) s.heap H locs := by rw [wl_W hw]; exact w
  refine lv_aload_n hx hb dL_law_1311 rfl (lv_at hl 1 rfl) ?_
  refine hg_viF (r := (C 7 0)) (As := []) (rest := []) X w (c_X11_status l D b0 L F oa C im mk ad n (M 0) hm hs ho ) (cwV 0 hts gL_law_X11_status rfl rfl rfl hdL_X11_status ⟨Nat.le_of_ble_eq_true rfl, Nat.le_of_ble_eq_true rfl⟩) (ho.1 0 (by decide)).1 (ow_at ho (k := 0) (by decide)) rfl rfl rfl hl.1 rfl (Nat.le_of_ble_eq_true rfl) dL_law_1312 ⟨by show cells ≤ 600000; omega, by show slots ≤ 7302250; omega⟩ (fun H locs w => ?_)
  have hP : wl_P D L (oa 0) mo ma M ((C 7 0)) (L, (ob_W D F oa C mk im mk ad n (M 0))) ((M 7 0, M)) := wl_P_q hw hI (by rw [hE 7 (by unfold ag_key; omega)])
  obtain ⟨hr, hmo, hLL, hlc⟩ := hP
  have hmo2 := mo_ok_L hmo0 hLL
  have w : hg_W D b0 (L) (mo_F D ((ob_W D F oa C mk im mk ad n (M 0))) mo ma M) s.heap H locs := by rw [mo_self hmo]; exact w
  refine lv_aload_n hx hb dL_law_1315 rfl (lv_at hl 2 rfl) ?_
  refine hg_viF (r := (M 7 0)) (As := []) (rest := [.int ((C 7 0))]) X w (c_X12_status l D b0 (L) ((ob_W D F oa C mk im mk ad n (M 0))) mo ma M hmo2 ) (cwV 0 hts gL_law_X12_status rfl rfl rfl hdL_X12_status ⟨Nat.le_of_ble_eq_true rfl, Nat.le_of_ble_eq_true rfl⟩) hmo2.1 (mo_at0 D _ mo ma M) rfl rfl rfl hl.1 rfl (Nat.le_of_ble_eq_true rfl) dL_law_1316 ⟨by show cells ≤ 600000; omega, by show slots ≤ 7302250; omega⟩ (fun H locs w => ?_)
  refine lv_icmp_eq (tgt := 1324) hx hb dL_law_1319 (by decide) (fun _ => ?_) (fun z => absurd hr z)
  refine W.widen (k := cells + 10) (n := slots + 64) (by omega) (by omega) ?_
  exact kk _ _ H locs hlc w
