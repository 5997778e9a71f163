/-! THE LAW'S CASES -/
def lw_C (p : Program) (s : State) (m : MethodId) (args : Array Value) (c : Code) (D : va_G) (b0 b Ls : Nat) (xs : Nat → Int32) (i : Nat) : Prop := hg_C p s m args c cL_law 4 wsL_law RL D b0 ∧ va_X b Ls xs s s.heap ∧ b < s.heap.size ∧ b < b0 ∧ Ls ≤ 384 ∧ i + 6 ≤ Ls
theorem lw_sld {p : Program} {l : Launch} {e : Env} {s : State} {m : MethodId} {args : Array Value} {below : List Frame} {meth : Method} {c : Code} {H : Heap} {locs : List Loc} {cells slots : Nat} {Q : State → Prop} {D : va_G} {b0 : Nat} {L : List Nat} {F : Nat → va_E} {ls : Array Slot} {b Ls i x mo : Nat} {xs : Nat → Int32} {ma : Nat → Nat} {R : Room} {pc : Nat} {rest : List Value} (Y : lw_C p s m args c D b0 b Ls xs i) (w : hg_W D b0 L F s.heap H locs) {j : Nat} {v : Int32} (hv : v = nI j) (hj : j < 6) (hdg : decode cL_law pc = .ok (.iaload, 1)) (kk : W p l e R s m args below meth c H locs cells slots Q (F0 m (pc + 1) ls (.int (xs (i + j)) :: rest))) : W p l e R s m args below meth c H locs cells slots Q (F0 m pc ls (.int (nI i + v) :: .ref b :: rest)) := by
  obtain ⟨X, hX, hbl, hbb, hLs, hi⟩ := Y
  obtain ⟨hx, hb, hml, hown, hts⟩ := id X.1
  subst hv
  rw [nI_add]
  refine va_sld hx hb hX hbl (Nat.not_le.mpr hbb) w.2 ?_ hdg ?_
  · rintro (z | z)
    · exact nI_pos (n := i + j) (by omega) z
    · rw [nI_clamp (by omega)] at z; omega
  · rw [nI_clamp (by omega)]
    exact kk
theorem wl_P_o3 {D : va_G} {L : List Nat} {F : Nat → va_E} {oa : Nat → Nat} {mo : Nat} {ma : Nat → Nat} {C M : Nat → Nat → Int32} {mk : Nat} {ad : Nat → Nat} {n nr : Nat} {im : Nat → Option Nat} {col : Nat → Nat} (h : wl_S D L F oa mo ma C M mk ad n nr im col) {r : Int32} {C' : Nat → Nat → Int32} {g' : Nat → Int32} {q : sp_S} (hs : ag_st M n nr (r, C', g') q) : wl_P D L (oa 0) mo ma M r (L, ob_W D F oa C' mk im mk ad n g') q := wl_P_ord h hs
theorem wl_P_q {D : va_G} {L : List Nat} {F : Nat → va_E} {oa : Nat → Nat} {mo : Nat} {ma : Nat → Nat} {C M : Nat → Nat → Int32} {mk : Nat} {ad : Nat → Nat} {n nr a : Nat} {im : Nat → Option Nat} {col : Nat → Nat} (h : wl_S D L F oa mo ma C M mk ad n nr im col) (hI : ag_I C M n nr a) {r r' : Int32} (e : r = r') : wl_P D L (oa 0) mo ma M r (L, ob_W D F oa C mk im mk ad n (M 0)) (r', M) := wl_P_ord h (ag_t_q hI e)
theorem lc_images {D : va_G} {L : List Nat} {F : Nat → va_E} {M : Nat → Nat → Int32} {im : Nat → Option Nat} {col : Nat → Nat} (h : ∀ k, k < 2 → wl_im D L F col M k (im k)) : ∃ (ai : Nat → Nat → Nat) (ni : Nat → Nat), ∀ j, j < 2 → ∀ bi, im j = some bi → mk_H D F bi (ai j) (ni j) (fun q => M 0 (50 * (j + 1) + q)) ∧ mk_ok L bi (ai j) (ni j) ∧ (∃ nr', ag_V (fun q => M 0 (50 * (j + 1) + q)) (ni j) nr' ∧ 1 ≤ nr') ∧ M 2 j = 1 ∧ M 0 (50 * (j + 1) + 4) = 1 := by
  have one : ∀ j, j < 2 → ∃ (a : Nat → Nat) (n : Nat), ∀ bi, im j = some bi → mk_H D F bi a n (fun q => M 0 (50 * (j + 1) + q)) ∧ mk_ok L bi a n ∧ (∃ nr', ag_V (fun q => M 0 (50 * (j + 1) + q)) n nr' ∧ 1 ≤ nr') ∧ M 2 j = 1 ∧ M 0 (50 * (j + 1) + 4) = 1 := by
    intro j hj
    rcases h j hj with ⟨z, -⟩ | ⟨q, ad, n, nr, z1, z2, z3, z4, z5, z6, z7, -⟩
    · exact ⟨fun _ => 0, 0, fun bi e => absurd (z.symm.trans e) (by simp)⟩
    · refine ⟨ad, n, fun bi e => ?_⟩
      have e2 : q = bi := Option.some.inj (z1.symm.trans e)
      subst e2
      exact ⟨z3, z4, ⟨nr, z5, z7⟩, z2, z6⟩
  obtain ⟨a0, n0, h0⟩ := one 0 (by omega)
  obtain ⟨a1, n1, h1⟩ := one 1 (by omega)
  refine ⟨fun j => if j = 0 then a0 else a1, fun j => if j = 0 then n0 else n1, fun j hj bi e => ?_⟩
  rcases (show j = 0 ∨ j = 1 by omega) with rfl | rfl
  · exact h0 bi e
  · exact h1 bi e
theorem hdL_X11_row : yX11_row.cls = RX11 ∧ yX11_row.cls ≠ "java/lang/invoke/MethodHandle" ∧ yX11_row.cls ≠ "java/lang/invoke/VarHandle" ∧ (parseMethodDescriptor yX11_row.desc).map (fun d => d.parameters.length) = some 3 := by decide +kernel
theorem hdL_X12_row : yX12_row.cls = RX12 ∧ yX12_row.cls ≠ "java/lang/invoke/MethodHandle" ∧ yX12_row.cls ≠ "java/lang/invoke/VarHandle" ∧ (parseMethodDescriptor yX12_row.desc).map (fun d => d.parameters.length) = some 3 := by decide +kernel
set_option maxRecDepth 100000 in
set_option maxHeartbeats 4000000 in
theorem lc_row {p : Program} {l : Launch} {e : Env} {s : State} {m : MethodId} {args : Array Value} {below : List Frame} {meth : Method} {c : Code} {H : Heap} {locs : List Loc} {cells slots : Nat} {Q : State → Prop} {D : va_G} {b0 : Nat} {L : List Nat} {F : Nat → va_E} {ls : Array Slot} {b Ls i x mo : Nat} {xs : Nat → Int32} {ma : Nat → Nat} (Y : lw_C p s m args c D b0 b Ls xs i) (hl : lv_has ls 4 [(0, .ref b), (1, .ref x), (2, .ref mo), (3, .int (nI i))]) (h : lc_I D L F x mo ma) (w : hg_W D b0 L F s.heap H locs) (hc : cells + 10 ≤ 600000) (hsl : slots + 64 ≤ 7302250) (kk : ∀ (L' : List Nat) (F' : Nat → va_E) (H : Heap) (locs : List Loc), lc_I D L' F' x mo ma → hg_W D b0 L' F' s.heap H locs → W p l e room_1 s m args below meth c H locs (cells + 10) (slots + 64) Q (F0 m 1324 ls [])) : W p l e room_1 s m args below meth c H locs cells slots Q (F0 m 200 ls []) := by
  obtain ⟨oa, C, M, mk, ad, n, nr, im, col, rfl, hw⟩ := h
  have X := Y.1
  obtain ⟨hx, hb, hml, hown, hts⟩ := id X.1
  obtain ⟨k1, k2, k3, ho, hm, hmo0, k7, k8, k9, k10, a, hI⟩ := id hw
  obtain ⟨hE, hZ, ⟨t, ht1, ht⟩, hR, ⟨ha, ha24⟩, ⟨s0, h12⟩, hV, hth, hG⟩ := id hI
  have hs := hV.1.1
  have htt := hV.1.2.1
  have hv := mk_ok_of hs htt
  have h4 := ag_I4 hI
  have hC1 : C 1 0 = nI a := by rw [hE 1 (by unfold ag_key; omega)]; exact ha
  have hC9 : C 9 0 = nI t := by rw [hE 9 (by unfold ag_key; omega)]; exact ht
  have hsz : cs_szs C := by unfold cs_szs; rw [hE 4 (by unfold ag_key; omega)]; exact hZ.1
  have w : hg_W D b0 L (ob_W D F oa C mk im mk ad n (M 0)) s.heap H locs := by rw [wl_W hw]; exact w
  refine lv_aload_n hx hb dL_law_200 rfl (lv_at hl 1 rfl) ?_
  refine lv_aload_n hx hb dL_law_201 rfl (lv_at hl 0 rfl) ?_
  refine lv_iload_n hx hb dL_law_202 rfl (lv_at hl 3 rfl) ?_
  refine lv_iconst (v := 1) hx hb dL_law_203 (by decide) ?_
  refine lv_iadd hx hb dL_law_204 ?_
  refine lw_sld Y w (j := 1) rfl (by omega) dL_law_205 ?_
  refine lv_aload_n hx hb dL_law_206 rfl (lv_at hl 0 rfl) ?_
  refine lv_iload_n hx hb dL_law_207 rfl (lv_at hl 3 rfl) ?_
  refine lv_iconst (v := 2) hx hb dL_law_208 (by decide) ?_
  refine lv_iadd hx hb dL_law_209 ?_
  refine lw_sld Y w (j := 2) rfl (by omega) dL_law_210 ?_
  refine lv_aload_n hx hb dL_law_211 rfl (lv_at hl 0 rfl) ?_
  refine lv_iload_n hx hb dL_law_212 rfl (lv_at hl 3 rfl) ?_
  refine lv_iconst (v := 3) hx hb dL_law_213 (by decide) ?_
  refine lv_iadd hx hb dL_law_214 ?_
  refine lw_sld Y w (j := 3) rfl (by omega) dL_law_215 ?_
  refine hg_viF (r := (sp_row C (xs (i + 1)) (xs (i + 2)) (xs (i + 3))).1) (As := [.int (xs (i + 1)), .int (xs (i + 2)), .int (xs (i + 3))]) (rest := []) X w (c_X11_row l D b0 L F oa C im mk ad n (M 0) hm hs ho (xs (i + 1)) (xs (i + 2)) (xs (i + 3))) (cwV 3 hts gL_law_X11_row rfl rfl rfl hdL_X11_row ⟨Nat.le_of_ble_eq_true rfl, Nat.le_of_ble_eq_true rfl⟩) (ho.1 0 (by decide)).1 (ow_at ho (k := 0) (by decide)) rfl rfl rfl hl.1 rfl (Nat.le_of_ble_eq_true rfl) dL_law_216 ⟨by show cells ≤ 600000; omega, by show slots ≤ 7302250; omega⟩ (fun H locs w => ?_)
  have hP : wl_P D L (oa 0) mo ma M ((sp_row C (xs (i + 1)) (xs (i + 2)) (xs (i + 3))).1) (L, (ob_W D F oa ((sp_row C (xs (i + 1)) (xs (i + 2)) (xs (i + 3))).2) mk im mk ad n (M 0))) (sp_row M (xs (i + 1)) (xs (i + 2)) (xs (i + 3))) := wl_P_o3 hw (ag_t_row hI (xs (i + 1)) (xs (i + 2)) (xs (i + 3)))
  obtain ⟨hr, hmo, hLL, hlc⟩ := hP
  have hmo2 := mo_ok_L hmo0 hLL
  have w : hg_W D b0 (L) (mo_F D ((ob_W D F oa ((sp_row C (xs (i + 1)) (xs (i + 2)) (xs (i + 3))).2) mk im mk ad n (M 0))) mo ma M) s.heap H locs := by rw [mo_self hmo]; exact w
  refine lv_aload_n hx hb dL_law_219 rfl (lv_at hl 2 rfl) ?_
  refine lv_aload_n hx hb dL_law_220 rfl (lv_at hl 0 rfl) ?_
  refine lv_iload_n hx hb dL_law_221 rfl (lv_at hl 3 rfl) ?_
  refine lv_iconst (v := 1) hx hb dL_law_222 (by decide) ?_
  refine lv_iadd hx hb dL_law_223 ?_
  refine lw_sld Y w (j := 1) rfl (by omega) dL_law_224 ?_
  refine lv_aload_n hx hb dL_law_225 rfl (lv_at hl 0 rfl) ?_
  refine lv_iload_n hx hb dL_law_226 rfl (lv_at hl 3 rfl) ?_
  refine lv_iconst (v := 2) hx hb dL_law_227 (by decide) ?_
  refine lv_iadd hx hb dL_law_228 ?_
  refine lw_sld Y w (j := 2) rfl (by omega) dL_law_229 ?_
  refine lv_aload_n hx hb dL_law_230 rfl (lv_at hl 0 rfl) ?_
  refine lv_iload_n hx hb dL_law_231 rfl (lv_at hl 3 rfl) ?_
  refine lv_iconst (v := 3) hx hb dL_law_232 (by decide) ?_
  refine lv_iadd hx hb dL_law_233 ?_
  refine lw_sld Y w (j := 3) rfl (by omega) dL_law_234 ?_
  refine hg_viF (r := (sp_row M (xs (i + 1)) (xs (i + 2)) (xs (i + 3))).1) (As := [.int (xs (i + 1)), .int (xs (i + 2)), .int (xs (i + 3))]) (rest := [.int ((sp_row C (xs (i + 1)) (xs (i + 2)) (xs (i + 3))).1)]) X w (c_X12_row l D b0 (L) ((ob_W D F oa ((sp_row C (xs (i + 1)) (xs (i + 2)) (xs (i + 3))).2) mk im mk ad n (M 0))) mo ma M hmo2 (xs (i + 1)) (xs (i + 2)) (xs (i + 3))) (cwV 3 hts gL_law_X12_row rfl rfl rfl hdL_X12_row ⟨Nat.le_of_ble_eq_true rfl, Nat.le_of_ble_eq_true rfl⟩) hmo2.1 (mo_at0 D _ mo ma M) rfl rfl rfl hl.1 rfl (Nat.le_of_ble_eq_true rfl) dL_law_235 ⟨by show cells ≤ 600000; omega, by show slots ≤ 7302250; omega⟩ (fun H locs w => ?_)
  refine lv_icmp_eq (tgt := 1324) hx hb dL_law_238 (by decide) (fun _ => ?_) (fun z => absurd hr z)
  refine W.widen (k := cells + 10) (n := slots + 64) (by omega) (by omega) ?_
  exact kk _ _ H locs hlc w
theorem hdL_X11_market : yX11_market.cls = RX11 ∧ yX11_market.cls ≠ "java/lang/invoke/MethodHandle" ∧ yX11_market.cls ≠ "java/lang/invoke/VarHandle" ∧ (parseMethodDescriptor yX11_market.desc).map (fun d => d.parameters.length) = some 0 := by decide +kernel
theorem hdL_X12_market : yX12_market.cls = RX12 ∧ yX12_market.cls ≠ "java/lang/invoke/MethodHandle" ∧ yX12_market.cls ≠ "java/lang/invoke/VarHandle" ∧ (parseMethodDescriptor yX12_market.desc).map (fun d => d.parameters.length) = some 0 := by decide +kernel
set_option maxRecDepth 100000 in
set_option maxHeartbeats 4000000 in
theorem lc_market {p : Program} {l : Launch} {e : Env} {s : State} {m : MethodId} {args : Array Value} {below : List Frame} {meth : Method} {c : Code} {H : Heap} {locs : List Loc} {cells slots : Nat} {Q : State → Prop} {D : va_G} {b0 : Nat} {L : List Nat} {F : Nat → va_E} {ls : Array Slot} {b Ls i x mo : Nat} {xs : Nat → Int32} {ma : Nat → Nat} (Y : lw_C p s m args c D b0 b Ls xs i) (hl : lv_has ls 4 [(0, .ref b), (1, .ref x), (2, .ref mo), (3, .int (nI i))]) (h : lc_I D L F x mo ma) (w : hg_W D b0 L F s.heap H locs) (hc : cells + 10 ≤ 600000) (hsl : slots + 64 ≤ 7302250) (kk : ∀ (L' : List Nat) (F' : Nat → va_E) (H : Heap) (locs : List Loc), lc_I D L' F' x mo ma → hg_W D b0 L' F' s.heap H locs → W p l e room_1 s m args below meth c H locs (cells + 10) (slots + 64) Q (F0 m 1324 ls [])) : W p l e room_1 s m args below meth c H locs cells slots Q (F0 m 395 ls []) := by
  obtain ⟨oa, C, M, mk, ad, n, nr, im, col, rfl, hw⟩ := h
  have X := Y.1
  obtain ⟨hx, hb, hml, hown, hts⟩ := id X.1
  obtain ⟨k1, k2, k3, ho, hm, hmo0, k7, k8, k9, k10, a, hI⟩ := id hw
  obtain ⟨hE, hZ, ⟨t, ht1, ht⟩, hR, ⟨ha, ha24⟩, ⟨s0, h12⟩, hV, hth, hG⟩ := id hI
  have hs := hV.1.1
  have htt := hV.1.2.1
  have hv := mk_ok_of hs htt
  have h4 := ag_I4 hI
  have hC1 : C 1 0 = nI a := by rw [hE 1 (by unfold ag_key; omega)]; exact ha
  have hC9 : C 9 0 = nI t := by rw [hE 9 (by unfold ag_key; omega)]; exact ht
  have hsz : cs_szs C := by unfold cs_szs; rw [hE 4 (by unfold ag_key; omega)]; exact hZ.1
  have w : hg_W D b0 L (ob_W D F oa C mk im mk ad n (M 0)) s.heap H locs := by rw [wl_W hw]; exact w
  refine lv_aload_n hx hb dL_law_395 rfl (lv_at hl 1 rfl) ?_
  refine hg_vi (As := []) (rest := []) X w (c_X11_market l D b0 L F oa C im mk ad n (M 0) hm hs ho ) (cwV 0 hts gL_law_X11_market rfl rfl rfl hdL_X11_market ⟨Nat.le_of_ble_eq_true rfl, Nat.le_of_ble_eq_true rfl⟩) (ho.1 0 (by decide)).1 (ow_at ho (k := 0) (by decide)) rfl rfl rfl hl.1 rfl (Nat.le_of_ble_eq_true rfl) dL_law_396 ⟨by show cells + 10 ≤ 600000; omega, by show slots + 64 ≤ 7302250; omega⟩ (fun r u H locs hp w => ?_)
  have hP : wl_P D L (oa 0) mo ma M r u (sp_market M t s0) := wl_P_market hw ht ht1 hp
  obtain ⟨hr, hmo, hLL, hlc⟩ := hP
  have hmo2 := mo_ok_L hmo0 hLL
  have w : hg_W D b0 (u.1) (mo_F D (u.2) mo ma M) s.heap H locs := by rw [mo_self hmo]; exact w
  refine lv_aload_n hx hb dL_law_399 rfl (lv_at hl 2 rfl) ?_
  refine hg_viF (r := (sp_market M t s0).1) (As := []) (rest := [.int (r)]) X w (c_X12_market l D b0 (u.1) (u.2) mo ma M hmo2 t ht ht1 s0 h12 ) (cwV 0 hts gL_law_X12_market rfl rfl rfl hdL_X12_market ⟨Nat.le_of_ble_eq_true rfl, Nat.le_of_ble_eq_true rfl⟩) hmo2.1 (mo_at0 D _ mo ma M) rfl rfl rfl hl.1 rfl (Nat.le_of_ble_eq_true rfl) dL_law_400 ⟨by show cells + 10 ≤ 600000; omega, by show slots + 64 ≤ 7302250; omega⟩ (fun H locs w => ?_)
  refine lv_icmp_eq (tgt := 1324) hx hb dL_law_403 (by decide) (fun _ => ?_) (fun z => absurd hr z)
  refine W.widen (k := cells + 10) (n := slots + 64) (by omega) (by omega) ?_
  exact kk _ _ H locs hlc w
theorem hdL_X11_fault : yX11_fault.cls = RX11 ∧ yX11_fault.cls ≠ "java/lang/invoke/MethodHandle" ∧ yX11_fault.cls ≠ "java/lang/invoke/VarHandle" ∧ (parseMethodDescriptor yX11_fault.desc).map (fun d => d.parameters.length) = some 0 := by decide +kernel
theorem hdL_X12_fault : yX12_fault.cls = RX12 ∧ yX12_fault.cls ≠ "java/lang/invoke/MethodHandle" ∧ yX12_fault.cls ≠ "java/lang/invoke/VarHandle" ∧ (parseMethodDescriptor yX12_fault.desc).map (fun d => d.parameters.length) = some 0 := by decide +kernel
set_option maxRecDepth 100000 in
set_option maxHeartbeats 4000000 in
theorem lc_fault {p : Program} {l : Launch} {e : Env} {s : State} {m : MethodId} {args : Array Value} {below : List Frame} {meth : Method} {c : Code} {H : Heap} {locs : List Loc} {cells slots : Nat} {Q : State → Prop} {D : va_G} {b0 : Nat} {L : List Nat} {F : Nat → va_E} {ls : Array Slot} {b Ls i x mo : Nat} {xs : Nat → Int32} {ma : Nat → Nat} (Y : lw_C p s m args c D b0 b Ls xs i) (hl : lv_has ls 4 [(0, .ref b), (1, .ref x), (2, .ref mo), (3, .int (nI i))]) (h : lc_I D L F x mo ma) (w : hg_W D b0 L F s.heap H locs) (hc : cells + 10 ≤ 600000) (hsl : slots + 64 ≤ 7302250) (kk : ∀ (L' : List Nat) (F' : Nat → va_E) (H : Heap) (locs : List Loc), lc_I D L' F' x mo ma → hg_W D b0 L' F' s.heap H locs → W p l e room_1 s m args below meth c H locs (cells + 10) (slots + 64) Q (F0 m 1324 ls [])) : W p l e room_1 s m args below meth c H locs cells slots Q (F0 m 408 ls []) := by
  obtain ⟨oa, C, M, mk, ad, n, nr, im, col, rfl, hw⟩ := h
  have X := Y.1
  obtain ⟨hx, hb, hml, hown, hts⟩ := id X.1
  obtain ⟨k1, k2, k3, ho, hm, hmo0, k7, k8, k9, k10, a, hI⟩ := id hw
  obtain ⟨hE, hZ, ⟨t, ht1, ht⟩, hR, ⟨ha, ha24⟩, ⟨s0, h12⟩, hV, hth, hG⟩ := id hI
  have hs := hV.1.1
  have htt := hV.1.2.1
  have hv := mk_ok_of hs htt
  have h4 := ag_I4 hI
  have hC1 : C 1 0 = nI a := by rw [hE 1 (by unfold ag_key; omega)]; exact ha
  have hC9 : C 9 0 = nI t := by rw [hE 9 (by unfold ag_key; omega)]; exact ht
  have hsz : cs_szs C := by unfold cs_szs; rw [hE 4 (by unfold ag_key; omega)]; exact hZ.1
  have w : hg_W D b0 L (ob_W D F oa C mk im mk ad n (M 0)) s.heap H locs := by rw [wl_W hw]; exact w
  refine lv_aload_n hx hb dL_law_408 rfl (lv_at hl 1 rfl) ?_
  refine hg_viF (r := (C 10 0)) (As := []) (rest := []) X w (c_X11_fault l D b0 L F oa C im mk ad n (M 0) hm hs ho ) (cwV 0 hts gL_law_X11_fault rfl rfl rfl hdL_X11_fault ⟨Nat.le_of_ble_eq_true rfl, Nat.le_of_ble_eq_true rfl⟩) (ho.1 0 (by decide)).1 (ow_at ho (k := 0) (by decide)) rfl rfl rfl hl.1 rfl (Nat.le_of_ble_eq_true rfl) dL_law_409 ⟨by show cells ≤ 600000; omega, by show slots ≤ 7302250; omega⟩ (fun H locs w => ?_)
  have hP : wl_P D L (oa 0) mo ma M ((C 10 0)) (L, (ob_W D F oa C mk im mk ad n (M 0))) ((M 10 0, M)) := wl_P_q hw hI (by rw [hE 10 (by unfold ag_key; omega)])
  obtain ⟨hr, hmo, hLL, hlc⟩ := hP
  have hmo2 := mo_ok_L hmo0 hLL
  have w : hg_W D b0 (L) (mo_F D ((ob_W D F oa C mk im mk ad n (M 0))) mo ma M) s.heap H locs := by rw [mo_self hmo]; exact w
  refine lv_aload_n hx hb dL_law_412 rfl (lv_at hl 2 rfl) ?_
  refine hg_viF (r := (M 10 0)) (As := []) (rest := [.int ((C 10 0))]) X w (c_X12_fault l D b0 (L) ((ob_W D F oa C mk im mk ad n (M 0))) mo ma M hmo2 ) (cwV 0 hts gL_law_X12_fault rfl rfl rfl hdL_X12_fault ⟨Nat.le_of_ble_eq_true rfl, Nat.le_of_ble_eq_true rfl⟩) hmo2.1 (mo_at0 D _ mo ma M) rfl rfl rfl hl.1 rfl (Nat.le_of_ble_eq_true rfl) dL_law_413 ⟨by show cells ≤ 600000; omega, by show slots ≤ 7302250; omega⟩ (fun H locs w => ?_)
  refine lv_icmp_eq (tgt := 1324) hx hb dL_law_416 (by decide) (fun _ => ?_) (fun z => absurd hr z)
  refine W.widen (k := cells + 10) (n := slots + 64) (by omega) (by omega) ?_
  exact kk _ _ H locs hlc w
theorem hdL_X11_undo : yX11_undo.cls = RX11 ∧ yX11_undo.cls ≠ "java/lang/invoke/MethodHandle" ∧ yX11_undo.cls ≠ "java/lang/invoke/VarHandle" ∧ (parseMethodDescriptor yX11_undo.desc).map (fun d => d.parameters.length) = some 0 := by decide +kernel
theorem hdL_X12_undo : yX12_undo.cls = RX12 ∧ yX12_undo.cls ≠ "java/lang/invoke/MethodHandle" ∧ yX12_undo.cls ≠ "java/lang/invoke/VarHandle" ∧ (parseMethodDescriptor yX12_undo.desc).map (fun d => d.parameters.length) = some 0 := by decide +kernel
set_option maxRecDepth 100000 in
set_option maxHeartbeats 4000000 in
theorem lc_undo {p : Program} {l : Launch} {e : Env} {s : State} {m : MethodId} {args : Array Value} {below : List Frame} {meth : Method} {c : Code} {H : Heap} {locs : List Loc} {cells slots : Nat} {Q : State → Prop} {D : va_G} {b0 : Nat} {L : List Nat} {F : Nat → va_E} {ls : Array Slot} {b Ls i x mo : Nat} {xs : Nat → Int32} {ma : Nat → Nat} (Y : lw_C p s m args c D b0 b Ls xs i) (hl : lv_has ls 4 [(0, .ref b), (1, .ref x), (2, .ref mo), (3, .int (nI i))]) (h : lc_I D L F x mo ma) (w : hg_W D b0 L F s.heap H locs) (hc : cells + 10 ≤ 600000) (hsl : slots + 64 ≤ 7302250) (kk : ∀ (L' : List Nat) (F' : Nat → va_E) (H : Heap) (locs : List Loc), lc_I D L' F' x mo ma → hg_W D b0 L' F' s.heap H locs → W p l e room_1 s m args below meth c H locs (cells + 10) (slots + 64) Q (F0 m 1324 ls [])) : W p l e room_1 s m args below meth c H locs cells slots Q (F0 m 421 ls []) := by
  obtain ⟨oa, C, M, mk, ad, n, nr, im, col, rfl, hw⟩ := h
  have X := Y.1
  obtain ⟨hx, hb, hml, hown, hts⟩ := id X.1
  obtain ⟨k1, k2, k3, ho, hm, hmo0, k7, k8, k9, k10, a, hI⟩ := id hw
  obtain ⟨hE, hZ, ⟨t, ht1, ht⟩, hR, ⟨ha, ha24⟩, ⟨s0, h12⟩, hV, hth, hG⟩ := id hI
  have hs := hV.1.1
  have htt := hV.1.2.1
  have hv := mk_ok_of hs htt
  have h4 := ag_I4 hI
  have hC1 : C 1 0 = nI a := by rw [hE 1 (by unfold ag_key; omega)]; exact ha
  have hC9 : C 9 0 = nI t := by rw [hE 9 (by unfold ag_key; omega)]; exact ht
  have hsz : cs_szs C := by unfold cs_szs; rw [hE 4 (by unfold ag_key; omega)]; exact hZ.1
  have w : hg_W D b0 L (ob_W D F oa C mk im mk ad n (M 0)) s.heap H locs := by rw [wl_W hw]; exact w
  refine lv_aload_n hx hb dL_law_421 rfl (lv_at hl 1 rfl) ?_
  refine hg_viF (r := (cs_undo C a).1) (As := []) (rest := []) X w (c_X11_undo l D b0 L F oa C im mk ad n (M 0) hm hs ho a ha24 hC1 ) (cwV 0 hts gL_law_X11_undo rfl rfl rfl hdL_X11_undo ⟨Nat.le_of_ble_eq_true rfl, Nat.le_of_ble_eq_true rfl⟩) (ho.1 0 (by decide)).1 (ow_at ho (k := 0) (by decide)) rfl rfl rfl hl.1 rfl (Nat.le_of_ble_eq_true rfl) dL_law_422 ⟨by show cells ≤ 600000; omega, by show slots ≤ 7302250; omega⟩ (fun H locs w => ?_)
  have hP : wl_P D L (oa 0) mo ma M ((cs_undo C a).1) (L, (ob_W D F oa ((cs_undo C a).2) mk im mk ad n (cs_undoG C (M 0) n a))) (sp_undo M a) := wl_P_o3 hw (ag_undo hI)
  obtain ⟨hr, hmo, hLL, hlc⟩ := hP
  have hmo2 := mo_ok_L hmo0 hLL
  have w : hg_W D b0 (L) (mo_F D ((ob_W D F oa ((cs_undo C a).2) mk im mk ad n (cs_undoG C (M 0) n a))) mo ma M) s.heap H locs := by rw [mo_self hmo]; exact w
  refine lv_aload_n hx hb dL_law_425 rfl (lv_at hl 2 rfl) ?_
  refine hg_viF (r := (sp_undo M a).1) (As := []) (rest := [.int ((cs_undo C a).1)]) X w (c_X12_undo l D b0 (L) ((ob_W D F oa ((cs_undo C a).2) mk im mk ad n (cs_undoG C (M 0) n a))) mo ma M hmo2 a ha ha24 ) (cwV 0 hts gL_law_X12_undo rfl rfl rfl hdL_X12_undo ⟨Nat.le_of_ble_eq_true rfl, Nat.le_of_ble_eq_true rfl⟩) hmo2.1 (mo_at0 D _ mo ma M) rfl rfl rfl hl.1 rfl (Nat.le_of_ble_eq_true rfl) dL_law_426 ⟨by show cells ≤ 600000; omega, by show slots ≤ 7302250; omega⟩ (fun H locs w => ?_)
  refine lv_icmp_eq (tgt := 1324) hx hb dL_law_429 (by decide) (fun _ => ?_) (fun z => absurd hr z)
  refine W.widen (k := cells + 10) (n := slots + 64) (by omega) (by omega) ?_
  exact kk _ _ H locs hlc w
theorem hdL_X11_buyers : yX11_buyers.cls = RX11 ∧ yX11_buyers.cls ≠ "java/lang/invoke/MethodHandle" ∧ yX11_buyers.cls ≠ "java/lang/invoke/VarHandle" ∧ (parseMethodDescriptor yX11_buyers.desc).map (fun d => d.parameters.length) = some 2 := by decide +kernel
theorem hdL_X12_buyers : yX12_buyers.cls = RX12 ∧ yX12_buyers.cls ≠ "java/lang/invoke/MethodHandle" ∧ yX12_buyers.cls ≠ "java/lang/invoke/VarHandle" ∧ (parseMethodDescriptor yX12_buyers.desc).map (fun d => d.parameters.length) = some 2 := by decide +kernel
set_option maxRecDepth 100000 in
set_option maxHeartbeats 4000000 in
theorem lc_buyers {p : Program} {l : Launch} {e : Env} {s : State} {m : MethodId} {args : Array Value} {below : List Frame} {meth : Method} {c : Code} {H : Heap} {locs : List Loc} {cells slots : Nat} {Q : State → Prop} {D : va_G} {b0 : Nat} {L : List Nat} {F : Nat → va_E} {ls : Array Slot} {b Ls i x mo : Nat} {xs : Nat → Int32} {ma : Nat → Nat} (Y : lw_C p s m args c D b0 b Ls xs i) (hl : lv_has ls 4 [(0, .ref b), (1, .ref x), (2, .ref mo), (3, .int (nI i))]) (h : lc_I D L F x mo ma) (w : hg_W D b0 L F s.heap H locs) (hc : cells + 10 ≤ 600000) (hsl : slots + 64 ≤ 7302250) (kk : ∀ (L' : List Nat) (F' : Nat → va_E) (H : Heap) (locs : List Loc), lc_I D L' F' x mo ma → hg_W D b0 L' F' s.heap H locs → W p l e room_1 s m args below meth c H locs (cells + 10) (slots + 64) Q (F0 m 1324 ls [])) : W p l e room_1 s m args below meth c H locs cells slots Q (F0 m 434 ls []) := by
  obtain ⟨oa, C, M, mk, ad, n, nr, im, col, rfl, hw⟩ := h
  have X := Y.1
  obtain ⟨hx, hb, hml, hown, hts⟩ := id X.1
  obtain ⟨k1, k2, k3, ho, hm, hmo0, k7, k8, k9, k10, a, hI⟩ := id hw
  obtain ⟨hE, hZ, ⟨t, ht1, ht⟩, hR, ⟨ha, ha24⟩, ⟨s0, h12⟩, hV, hth, hG⟩ := id hI
  have hs := hV.1.1
  have htt := hV.1.2.1
  have hv := mk_ok_of hs htt
  have h4 := ag_I4 hI
  have hC1 : C 1 0 = nI a := by rw [hE 1 (by unfold ag_key; omega)]; exact ha
  have hC9 : C 9 0 = nI t := by rw [hE 9 (by unfold ag_key; omega)]; exact ht
  have hsz : cs_szs C := by unfold cs_szs; rw [hE 4 (by unfold ag_key; omega)]; exact hZ.1
  have w : hg_W D b0 L (ob_W D F oa C mk im mk ad n (M 0)) s.heap H locs := by rw [wl_W hw]; exact w
  refine lv_aload_n hx hb dL_law_434 rfl (lv_at hl 1 rfl) ?_
  refine lv_aload_n hx hb dL_law_435 rfl (lv_at hl 0 rfl) ?_
  refine lv_iload_n hx hb dL_law_436 rfl (lv_at hl 3 rfl) ?_
  refine lv_iconst (v := 1) hx hb dL_law_437 (by decide) ?_
  refine lv_iadd hx hb dL_law_438 ?_
  refine lw_sld Y w (j := 1) rfl (by omega) dL_law_439 ?_
  refine lv_aload_n hx hb dL_law_440 rfl (lv_at hl 0 rfl) ?_
  refine lv_iload_n hx hb dL_law_441 rfl (lv_at hl 3 rfl) ?_
  refine lv_iconst (v := 2) hx hb dL_law_442 (by decide) ?_
  refine lv_iadd hx hb dL_law_443 ?_
  refine lw_sld Y w (j := 2) rfl (by omega) dL_law_444 ?_
  refine hg_viF (r := (cs_buyers C (M 0) a (xs (i + 1)) (xs (i + 2))).1) (As := [.int (xs (i + 1)), .int (xs (i + 2))]) (rest := []) X w (c_X11_buyers l D b0 L F oa C im mk ad n (M 0) hm hs ho a ha24 hC1 (xs (i + 1)) (xs (i + 2))) (cwV 2 hts gL_law_X11_buyers rfl rfl rfl hdL_X11_buyers ⟨Nat.le_of_ble_eq_true rfl, Nat.le_of_ble_eq_true rfl⟩) (ho.1 0 (by decide)).1 (ow_at ho (k := 0) (by decide)) rfl rfl rfl hl.1 rfl (Nat.le_of_ble_eq_true rfl) dL_law_445 ⟨by show cells ≤ 600000; omega, by show slots ≤ 7302250; omega⟩ (fun H locs w => ?_)
  have hP : wl_P D L (oa 0) mo ma M ((cs_buyers C (M 0) a (xs (i + 1)) (xs (i + 2))).1) (L, (ob_W D F oa ((cs_buyers C (M 0) a (xs (i + 1)) (xs (i + 2))).2.1) mk im mk ad n ((cs_buyers C (M 0) a (xs (i + 1)) (xs (i + 2))).2.2))) (sp_buyers M a (xs (i + 1)) (xs (i + 2))) := wl_P_ord hw (P := cs_buyers C (M 0) a (xs (i + 1)) (xs (i + 2))) (ag_buyers hI (xs (i + 1)) (xs (i + 2)))
  obtain ⟨hr, hmo, hLL, hlc⟩ := hP
  have hmo2 := mo_ok_L hmo0 hLL
  have w : hg_W D b0 (L) (mo_F D ((ob_W D F oa ((cs_buyers C (M 0) a (xs (i + 1)) (xs (i + 2))).2.1) mk im mk ad n ((cs_buyers C (M 0) a (xs (i + 1)) (xs (i + 2))).2.2))) mo ma M) s.heap H locs := by rw [mo_self hmo]; exact w
  refine lv_aload_n hx hb dL_law_448 rfl (lv_at hl 2 rfl) ?_
  refine lv_aload_n hx hb dL_law_449 rfl (lv_at hl 0 rfl) ?_
  refine lv_iload_n hx hb dL_law_450 rfl (lv_at hl 3 rfl) ?_
  refine lv_iconst (v := 1) hx hb dL_law_451 (by decide) ?_
  refine lv_iadd hx hb dL_law_452 ?_
  refine lw_sld Y w (j := 1) rfl (by omega) dL_law_453 ?_
  refine lv_aload_n hx hb dL_law_454 rfl (lv_at hl 0 rfl) ?_
  refine lv_iload_n hx hb dL_law_455 rfl (lv_at hl 3 rfl) ?_
  refine lv_iconst (v := 2) hx hb dL_law_456 (by decide) ?_
  refine lv_iadd hx hb dL_law_457 ?_
  refine lw_sld Y w (j := 2) rfl (by omega) dL_law_458 ?_
  refine hg_viF (r := (sp_buyers M a (xs (i + 1)) (xs (i + 2))).1) (As := [.int (xs (i + 1)), .int (xs (i + 2))]) (rest := [.int ((cs_buyers C (M 0) a (xs (i + 1)) (xs (i + 2))).1)]) X w (c_X12_buyers l D b0 (L) ((ob_W D F oa ((cs_buyers C (M 0) a (xs (i + 1)) (xs (i + 2))).2.1) mk im mk ad n ((cs_buyers C (M 0) a (xs (i + 1)) (xs (i + 2))).2.2))) mo ma M hmo2 n nr hv a ha ha24 (xs (i + 1)) (xs (i + 2))) (cwV 2 hts gL_law_X12_buyers rfl rfl rfl hdL_X12_buyers ⟨Nat.le_of_ble_eq_true rfl, Nat.le_of_ble_eq_true rfl⟩) hmo2.1 (mo_at0 D _ mo ma M) rfl rfl rfl hl.1 rfl (Nat.le_of_ble_eq_true rfl) dL_law_459 ⟨by show cells ≤ 600000; omega, by show slots ≤ 7302250; omega⟩ (fun H locs w => ?_)
  refine lv_icmp_eq (tgt := 1324) hx hb dL_law_462 (by decide) (fun _ => ?_) (fun z => absurd hr z)
  refine W.widen (k := cells + 10) (n := slots + 64) (by omega) (by omega) ?_
  exact kk _ _ H locs hlc w
theorem hdL_X11_stall : yX11_stall.cls = RX11 ∧ yX11_stall.cls ≠ "java/lang/invoke/MethodHandle" ∧ yX11_stall.cls ≠ "java/lang/invoke/VarHandle" ∧ (parseMethodDescriptor yX11_stall.desc).map (fun d => d.parameters.length) = some 2 := by decide +kernel
theorem hdL_X12_stall : yX12_stall.cls = RX12 ∧ yX12_stall.cls ≠ "java/lang/invoke/MethodHandle" ∧ yX12_stall.cls ≠ "java/lang/invoke/VarHandle" ∧ (parseMethodDescriptor yX12_stall.desc).map (fun d => d.parameters.length) = some 2 := by decide +kernel
set_option maxRecDepth 100000 in
set_option maxHeartbeats 4000000 in
theorem lc_stall {p : Program} {l : Launch} {e : Env} {s : State} {m : MethodId} {args : Array Value} {below : List Frame} {meth : Method} {c : Code} {H : Heap} {locs : List Loc} {cells slots : Nat} {Q : State → Prop} {D : va_G} {b0 : Nat} {L : List Nat} {F : Nat → va_E} {ls : Array Slot} {b Ls i x mo : Nat} {xs : Nat → Int32} {ma : Nat → Nat} (Y : lw_C p s m args c D b0 b Ls xs i) (hl : lv_has ls 4 [(0, .ref b), (1, .ref x), (2, .ref mo), (3, .int (nI i))]) (h : lc_I D L F x mo ma) (w : hg_W D b0 L F s.heap H locs) (hc : cells + 10 ≤ 600000) (hsl : slots + 64 ≤ 7302250) (kk : ∀ (L' : List Nat) (F' : Nat → va_E) (H : Heap) (locs : List Loc), lc_I D L' F' x mo ma → hg_W D b0 L' F' s.heap H locs → W p l e room_1 s m args below meth c H locs (cells + 10) (slots + 64) Q (F0 m 1324 ls [])) : W p l e room_1 s m args below meth c H locs cells slots Q (F0 m 602 ls []) := by
  obtain ⟨oa, C, M, mk, ad, n, nr, im, col, rfl, hw⟩ := h
  have X := Y.1
  obtain ⟨hx, hb, hml, hown, hts⟩ := id X.1
  obtain ⟨k1, k2, k3, ho, hm, hmo0, k7, k8, k9, k10, a, hI⟩ := id hw
  obtain ⟨hE, hZ, ⟨t, ht1, ht⟩, hR, ⟨ha, ha24⟩, ⟨s0, h12⟩, hV, hth, hG⟩ := id hI
  have hs := hV.1.1
  have htt := hV.1.2.1
  have hv := mk_ok_of hs htt
  have h4 := ag_I4 hI
  have hC1 : C 1 0 = nI a := by rw [hE 1 (by unfold ag_key; omega)]; exact ha
  have hC9 : C 9 0 = nI t := by rw [hE 9 (by unfold ag_key; omega)]; exact ht
  have hsz : cs_szs C := by unfold cs_szs; rw [hE 4 (by unfold ag_key; omega)]; exact hZ.1
  have w : hg_W D b0 L (ob_W D F oa C mk im mk ad n (M 0)) s.heap H locs := by rw [wl_W hw]; exact w
  refine lv_aload_n hx hb dL_law_602 rfl (lv_at hl 1 rfl) ?_
  refine lv_aload_n hx hb dL_law_603 rfl (lv_at hl 0 rfl) ?_
  refine lv_iload_n hx hb dL_law_604 rfl (lv_at hl 3 rfl) ?_
  refine lv_iconst (v := 1) hx hb dL_law_605 (by decide) ?_
  refine lv_iadd hx hb dL_law_606 ?_
  refine lw_sld Y w (j := 1) rfl (by omega) dL_law_607 ?_
  refine lv_aload_n hx hb dL_law_608 rfl (lv_at hl 0 rfl) ?_
  refine lv_iload_n hx hb dL_law_609 rfl (lv_at hl 3 rfl) ?_
  refine lv_iconst (v := 2) hx hb dL_law_610 (by decide) ?_
  refine lv_iadd hx hb dL_law_611 ?_
  refine lw_sld Y w (j := 2) rfl (by omega) dL_law_612 ?_
  refine hg_viF (r := (cq_stall (M 0) n (xs (i + 1)) (xs (i + 2)))) (As := [.int (xs (i + 1)), .int (xs (i + 2))]) (rest := []) X w (c_X11_stall l D b0 L F oa C im mk ad n (M 0) hm hs ho nr htt (xs (i + 1)) (xs (i + 2))) (cwV 2 hts gL_law_X11_stall rfl rfl rfl hdL_X11_stall ⟨Nat.le_of_ble_eq_true rfl, Nat.le_of_ble_eq_true rfl⟩) (ho.1 0 (by decide)).1 (ow_at ho (k := 0) (by decide)) rfl rfl rfl hl.1 rfl (Nat.le_of_ble_eq_true rfl) dL_law_613 ⟨by show cells ≤ 600000; omega, by show slots ≤ 7302250; omega⟩ (fun H locs w => ?_)
  have hP : wl_P D L (oa 0) mo ma M ((cq_stall (M 0) n (xs (i + 1)) (xs (i + 2)))) (L, (ob_W D F oa C mk im mk ad n (M 0))) ((q_stall (M 0) n (xs (i + 1)) (xs (i + 2)), M)) := wl_P_q hw hI (ag_stall hV.1 (xs (i + 1)) (xs (i + 2)))
  obtain ⟨hr, hmo, hLL, hlc⟩ := hP
  have hmo2 := mo_ok_L hmo0 hLL
  have w : hg_W D b0 (L) (mo_F D ((ob_W D F oa C mk im mk ad n (M 0))) mo ma M) s.heap H locs := by rw [mo_self hmo]; exact w
  refine lv_aload_n hx hb dL_law_616 rfl (lv_at hl 2 rfl) ?_
  refine lv_aload_n hx hb dL_law_617 rfl (lv_at hl 0 rfl) ?_
  refine lv_iload_n hx hb dL_law_618 rfl (lv_at hl 3 rfl) ?_
  refine lv_iconst (v := 1) hx hb dL_law_619 (by decide) ?_
  refine lv_iadd hx hb dL_law_620 ?_
  refine lw_sld Y w (j := 1) rfl (by omega) dL_law_621 ?_
  refine lv_aload_n hx hb dL_law_622 rfl (lv_at hl 0 rfl) ?_
  refine lv_iload_n hx hb dL_law_623 rfl (lv_at hl 3 rfl) ?_
  refine lv_iconst (v := 2) hx hb dL_law_624 (by decide) ?_
  refine lv_iadd hx hb dL_law_625 ?_
  refine lw_sld Y w (j := 2) rfl (by omega) dL_law_626 ?_
  refine hg_viF (r := (q_stall (M 0) n (xs (i + 1)) (xs (i + 2)))) (As := [.int (xs (i + 1)), .int (xs (i + 2))]) (rest := [.int ((cq_stall (M 0) n (xs (i + 1)) (xs (i + 2))))]) X w (c_X12_stall l D b0 (L) ((ob_W D F oa C mk im mk ad n (M 0))) mo ma M hmo2 n nr hv (xs (i + 1)) (xs (i + 2))) (cwV 2 hts gL_law_X12_stall rfl rfl rfl hdL_X12_stall ⟨Nat.le_of_ble_eq_true rfl, Nat.le_of_ble_eq_true rfl⟩) hmo2.1 (mo_at0 D _ mo ma M) rfl rfl rfl hl.1 rfl (Nat.le_of_ble_eq_true rfl) dL_law_627 ⟨by show cells ≤ 600000; omega, by show slots ≤ 7302250; omega⟩ (fun H locs w => ?_)
  refine lv_icmp_eq (tgt := 1324) hx hb dL_law_630 (by decide) (fun _ => ?_) (fun z => absurd hr z)
  refine W.widen (k := cells + 10) (n := slots + 64) (by omega) (by omega) ?_
  exact kk _ _ H locs hlc w
theorem hdL_X11_wind : yX11_wind.cls = RX11 ∧ yX11_wind.cls ≠ "java/lang/invoke/MethodHandle" ∧ yX11_wind.cls ≠ "java/lang/invoke/VarHandle" ∧ (parseMethodDescriptor yX11_wind.desc).map (fun d => d.parameters.length) = some 3 := by decide +kernel
theorem hdL_X12_wind : yX12_wind.cls = RX12 ∧ yX12_wind.cls ≠ "java/lang/invoke/MethodHandle" ∧ yX12_wind.cls ≠ "java/lang/invoke/VarHandle" ∧ (parseMethodDescriptor yX12_wind.desc).map (fun d => d.parameters.length) = some 3 := by decide +kernel
set_option maxRecDepth 100000 in
set_option maxHeartbeats 4000000 in
theorem lc_wind {p : Program} {l : Launch} {e : Env} {s : State} {m : MethodId} {args : Array Value} {below : List Frame} {meth : Method} {c : Code} {H : Heap} {locs : List Loc} {cells slots : Nat} {Q : State → Prop} {D : va_G} {b0 : Nat} {L : List Nat} {F : Nat → va_E} {ls : Array Slot} {b Ls i x mo : Nat} {xs : Nat → Int32} {ma : Nat → Nat} (Y : lw_C p s m args c D b0 b Ls xs i) (hl : lv_has ls 4 [(0, .ref b), (1, .ref x), (2, .ref mo), (3, .int (nI i))]) (h : lc_I D L F x mo ma) (w : hg_W D b0 L F s.heap H locs) (hc : cells + 10 ≤ 600000) (hsl : slots + 64 ≤ 7302250) (kk : ∀ (L' : List Nat) (F' : Nat → va_E) (H : Heap) (locs : List Loc), lc_I D L' F' x mo ma → hg_W D b0 L' F' s.heap H locs → W p l e room_1 s m args below meth c H locs (cells + 10) (slots + 64) Q (F0 m 1324 ls [])) : W p l e room_1 s m args below meth c H locs cells slots Q (F0 m 1087 ls []) := by
  obtain ⟨oa, C, M, mk, ad, n, nr, im, col, rfl, hw⟩ := h
  have X := Y.1
  obtain ⟨hx, hb, hml, hown, hts⟩ := id X.1
  obtain ⟨k1, k2, k3, ho, hm, hmo0, k7, k8, k9, k10, a, hI⟩ := id hw
  obtain ⟨hE, hZ, ⟨t, ht1, ht⟩, hR, ⟨ha, ha24⟩, ⟨s0, h12⟩, hV, hth, hG⟩ := id hI
  have hs := hV.1.1
  have htt := hV.1.2.1
  have hv := mk_ok_of hs htt
  have h4 := ag_I4 hI
  have hC1 : C 1 0 = nI a := by rw [hE 1 (by unfold ag_key; omega)]; exact ha
  have hC9 : C 9 0 = nI t := by rw [hE 9 (by unfold ag_key; omega)]; exact ht
  have hsz : cs_szs C := by unfold cs_szs; rw [hE 4 (by unfold ag_key; omega)]; exact hZ.1
  have w : hg_W D b0 L (ob_W D F oa C mk im mk ad n (M 0)) s.heap H locs := by rw [wl_W hw]; exact w
  refine lv_aload_n hx hb dL_law_1087 rfl (lv_at hl 1 rfl) ?_
  refine lv_aload_n hx hb dL_law_1088 rfl (lv_at hl 0 rfl) ?_
  refine lv_iload_n hx hb dL_law_1089 rfl (lv_at hl 3 rfl) ?_
  refine lv_iconst (v := 1) hx hb dL_law_1090 (by decide) ?_
  refine lv_iadd hx hb dL_law_1091 ?_
  refine lw_sld Y w (j := 1) rfl (by omega) dL_law_1092 ?_
  refine lv_aload_n hx hb dL_law_1093 rfl (lv_at hl 0 rfl) ?_
  refine lv_iload_n hx hb dL_law_1094 rfl (lv_at hl 3 rfl) ?_
  refine lv_iconst (v := 2) hx hb dL_law_1095 (by decide) ?_
  refine lv_iadd hx hb dL_law_1096 ?_
  refine lw_sld Y w (j := 2) rfl (by omega) dL_law_1097 ?_
  refine lv_aload_n hx hb dL_law_1098 rfl (lv_at hl 0 rfl) ?_
  refine lv_iload_n hx hb dL_law_1099 rfl (lv_at hl 3 rfl) ?_
  refine lv_iconst (v := 3) hx hb dL_law_1100 (by decide) ?_
  refine lv_iadd hx hb dL_law_1101 ?_
  refine lw_sld Y w (j := 3) rfl (by omega) dL_law_1102 ?_
  refine hg_vi (As := [.int (xs (i + 1)), .int (xs (i + 2)), .int (xs (i + 3))]) (rest := []) X w (c_X11_wind l D b0 L F oa C im mk ad n (M 0) hm hs ho nr htt (xs (i + 1)) (xs (i + 2)) (xs (i + 3))) (cwV 3 hts gL_law_X11_wind rfl rfl rfl hdL_X11_wind ⟨Nat.le_of_ble_eq_true rfl, Nat.le_of_ble_eq_true rfl⟩) (ho.1 0 (by decide)).1 (ow_at ho (k := 0) (by decide)) rfl rfl rfl hl.1 rfl (Nat.le_of_ble_eq_true rfl) dL_law_1103 ⟨by show cells + 1 ≤ 600000; omega, by show slots + 3 ≤ 7302250; omega⟩ (fun r u H locs hp w => ?_)
  have hP : wl_P D L (oa 0) mo ma M r u (sp_wind M n nr (xs (i + 1)) (xs (i + 2)) (xs (i + 3))) := wl_P_wind hw hp
  obtain ⟨hr, hmo, hLL, hlc⟩ := hP
  have hmo2 := mo_ok_L hmo0 hLL
  have w : hg_W D b0 (u.1) (mo_F D (u.2) mo ma M) s.heap H locs := by rw [mo_self hmo]; exact w
  refine lv_aload_n hx hb dL_law_1106 rfl (lv_at hl 2 rfl) ?_
  refine lv_aload_n hx hb dL_law_1107 rfl (lv_at hl 0 rfl) ?_
  refine lv_iload_n hx hb dL_law_1108 rfl (lv_at hl 3 rfl) ?_
  refine lv_iconst (v := 1) hx hb dL_law_1109 (by decide) ?_
  refine lv_iadd hx hb dL_law_1110 ?_
  refine lw_sld Y w (j := 1) rfl (by omega) dL_law_1111 ?_
  refine lv_aload_n hx hb dL_law_1112 rfl (lv_at hl 0 rfl) ?_
  refine lv_iload_n hx hb dL_law_1113 rfl (lv_at hl 3 rfl) ?_
  refine lv_iconst (v := 2) hx hb dL_law_1114 (by decide) ?_
  refine lv_iadd hx hb dL_law_1115 ?_
  refine lw_sld Y w (j := 2) rfl (by omega) dL_law_1116 ?_
  refine lv_aload_n hx hb dL_law_1117 rfl (lv_at hl 0 rfl) ?_
  refine lv_iload_n hx hb dL_law_1118 rfl (lv_at hl 3 rfl) ?_
  refine lv_iconst (v := 3) hx hb dL_law_1119 (by decide) ?_
  refine lv_iadd hx hb dL_law_1120 ?_
  refine lw_sld Y w (j := 3) rfl (by omega) dL_law_1121 ?_
  refine hg_viF (r := (sp_wind M n nr (xs (i + 1)) (xs (i + 2)) (xs (i + 3))).1) (As := [.int (xs (i + 1)), .int (xs (i + 2)), .int (xs (i + 3))]) (rest := [.int (r)]) X w (c_X12_wind l D b0 (u.1) (u.2) mo ma M hmo2 n nr hv (xs (i + 1)) (xs (i + 2)) (xs (i + 3))) (cwV 3 hts gL_law_X12_wind rfl rfl rfl hdL_X12_wind ⟨Nat.le_of_ble_eq_true rfl, Nat.le_of_ble_eq_true rfl⟩) hmo2.1 (mo_at0 D _ mo ma M) rfl rfl rfl hl.1 rfl (Nat.le_of_ble_eq_true rfl) dL_law_1122 ⟨by show cells + 1 ≤ 600000; omega, by show slots + 3 ≤ 7302250; omega⟩ (fun H locs w => ?_)
  refine lv_icmp_eq (tgt := 1324) hx hb dL_law_1125 (by decide) (fun _ => ?_) (fun z => absurd hr z)
  refine W.widen (k := cells + 10) (n := slots + 64) (by omega) (by omega) ?_
  exact kk _ _ H locs hlc w
theorem hdL_X11_image : yX11_image.cls = RX11 ∧ yX11_image.cls ≠ "java/lang/invoke/MethodHandle" ∧ yX11_image.cls ≠ "java/lang/invoke/VarHandle" ∧ (parseMethodDescriptor yX11_image.desc).map (fun d => d.parameters.length) = some 1 := by decide +kernel
theorem hdL_X12_image : yX12_image.cls = RX12 ∧ yX12_image.cls ≠ "java/lang/invoke/MethodHandle" ∧ yX12_image.cls ≠ "java/lang/invoke/VarHandle" ∧ (parseMethodDescriptor yX12_image.desc).map (fun d => d.parameters.length) = some 1 := by decide +kernel
set_option maxRecDepth 100000 in
set_option maxHeartbeats 4000000 in
theorem lc_image {p : Program} {l : Launch} {e : Env} {s : State} {m : MethodId} {args : Array Value} {below : List Frame} {meth : Method} {c : Code} {H : Heap} {locs : List Loc} {cells slots : Nat} {Q : State → Prop} {D : va_G} {b0 : Nat} {L : List Nat} {F : Nat → va_E} {ls : Array Slot} {b Ls i x mo : Nat} {xs : Nat → Int32} {ma : Nat → Nat} (Y : lw_C p s m args c D b0 b Ls xs i) (hl : lv_has ls 4 [(0, .ref b), (1, .ref x), (2, .ref mo), (3, .int (nI i))]) (h : lc_I D L F x mo ma) (w : hg_W D b0 L F s.heap H locs) (hc : cells + 10 ≤ 600000) (hsl : slots + 64 ≤ 7302250) (kk : ∀ (L' : List Nat) (F' : Nat → va_E) (H : Heap) (locs : List Loc), lc_I D L' F' x mo ma → hg_W D b0 L' F' s.heap H locs → W p l e room_1 s m args below meth c H locs (cells + 10) (slots + 64) Q (F0 m 1324 ls [])) : W p l e room_1 s m args below meth c H locs cells slots Q (F0 m 1130 ls []) := by
  obtain ⟨oa, C, M, mk, ad, n, nr, im, col, rfl, hw⟩ := h
  have X := Y.1
  obtain ⟨hx, hb, hml, hown, hts⟩ := id X.1
  obtain ⟨k1, k2, k3, ho, hm, hmo0, k7, k8, k9, k10, a, hI⟩ := id hw
  obtain ⟨hE, hZ, ⟨t, ht1, ht⟩, hR, ⟨ha, ha24⟩, ⟨s0, h12⟩, hV, hth, hG⟩ := id hI
  have hs := hV.1.1
  have htt := hV.1.2.1
  have hv := mk_ok_of hs htt
  have h4 := ag_I4 hI
  have hC1 : C 1 0 = nI a := by rw [hE 1 (by unfold ag_key; omega)]; exact ha
  have hC9 : C 9 0 = nI t := by rw [hE 9 (by unfold ag_key; omega)]; exact ht
  have hsz : cs_szs C := by unfold cs_szs; rw [hE 4 (by unfold ag_key; omega)]; exact hZ.1
  have w : hg_W D b0 L (ob_W D F oa C mk im mk ad n (M 0)) s.heap H locs := by rw [wl_W hw]; exact w
  refine lv_aload_n hx hb dL_law_1130 rfl (lv_at hl 1 rfl) ?_
  refine lv_aload_n hx hb dL_law_1131 rfl (lv_at hl 0 rfl) ?_
  refine lv_iload_n hx hb dL_law_1132 rfl (lv_at hl 3 rfl) ?_
  refine lv_iconst (v := 1) hx hb dL_law_1133 (by decide) ?_
  refine lv_iadd hx hb dL_law_1134 ?_
  refine lw_sld Y w (j := 1) rfl (by omega) dL_law_1135 ?_
  refine hg_vi (As := [.int (xs (i + 1))]) (rest := []) X w (c_X11_image l D b0 L F oa C im mk ad n (M 0) hm hs ho (xs (i + 1))) (cwV 1 hts gL_law_X11_image rfl rfl rfl hdL_X11_image ⟨Nat.le_of_ble_eq_true rfl, Nat.le_of_ble_eq_true rfl⟩) (ho.1 0 (by decide)).1 (ow_at ho (k := 0) (by decide)) rfl rfl rfl hl.1 rfl (Nat.le_of_ble_eq_true rfl) dL_law_1136 ⟨by show cells + 9 ≤ 600000; omega, by show slots + 57 ≤ 7302250; omega⟩ (fun r u H locs hp w => ?_)
  have hP : wl_P D L (oa 0) mo ma M r u (sp_image M (xs (i + 1))) := wl_P_image hw hp
  obtain ⟨hr, hmo, hLL, hlc⟩ := hP
  have hmo2 := mo_ok_L hmo0 hLL
  have w : hg_W D b0 (u.1) (mo_F D (u.2) mo ma M) s.heap H locs := by rw [mo_self hmo]; exact w
  refine lv_aload_n hx hb dL_law_1139 rfl (lv_at hl 2 rfl) ?_
  refine lv_aload_n hx hb dL_law_1140 rfl (lv_at hl 0 rfl) ?_
  refine lv_iload_n hx hb dL_law_1141 rfl (lv_at hl 3 rfl) ?_
  refine lv_iconst (v := 1) hx hb dL_law_1142 (by decide) ?_
  refine lv_iadd hx hb dL_law_1143 ?_
  refine lw_sld Y w (j := 1) rfl (by omega) dL_law_1144 ?_
  refine hg_viF (r := (sp_image M (xs (i + 1))).1) (As := [.int (xs (i + 1))]) (rest := [.int (r)]) X w (c_X12_image l D b0 (u.1) (u.2) mo ma M hmo2 (xs (i + 1))) (cwV 1 hts gL_law_X12_image rfl rfl rfl hdL_X12_image ⟨Nat.le_of_ble_eq_true rfl, Nat.le_of_ble_eq_true rfl⟩) hmo2.1 (mo_at0 D _ mo ma M) rfl rfl rfl hl.1 rfl (Nat.le_of_ble_eq_true rfl) dL_law_1145 ⟨by show cells + 9 ≤ 600000; omega, by show slots + 57 ≤ 7302250; omega⟩ (fun H locs w => ?_)
  refine lv_icmp_eq (tgt := 1324) hx hb dL_law_1148 (by decide) (fun _ => ?_) (fun z => absurd hr z)
  refine W.widen (k := cells + 10) (n := slots + 64) (by omega) (by omega) ?_
  exact kk _ _ H locs hlc w
theorem hdL_X11_restore : yX11_restore.cls = RX11 ∧ yX11_restore.cls ≠ "java/lang/invoke/MethodHandle" ∧ yX11_restore.cls ≠ "java/lang/invoke/VarHandle" ∧ (parseMethodDescriptor yX11_restore.desc).map (fun d => d.parameters.length) = some 1 := by decide +kernel
theorem hdL_X12_restore : yX12_restore.cls = RX12 ∧ yX12_restore.cls ≠ "java/lang/invoke/MethodHandle" ∧ yX12_restore.cls ≠ "java/lang/invoke/VarHandle" ∧ (parseMethodDescriptor yX12_restore.desc).map (fun d => d.parameters.length) = some 1 := by decide +kernel
set_option maxRecDepth 100000 in
set_option maxHeartbeats 4000000 in
theorem lc_restore {p : Program} {l : Launch} {e : Env} {s : State} {m : MethodId} {args : Array Value} {below : List Frame} {meth : Method} {c : Code} {H : Heap} {locs : List Loc} {cells slots : Nat} {Q : State → Prop} {D : va_G} {b0 : Nat} {L : List Nat} {F : Nat → va_E} {ls : Array Slot} {b Ls i x mo : Nat} {xs : Nat → Int32} {ma : Nat → Nat} (Y : lw_C p s m args c D b0 b Ls xs i) (hl : lv_has ls 4 [(0, .ref b), (1, .ref x), (2, .ref mo), (3, .int (nI i))]) (h : lc_I D L F x mo ma) (w : hg_W D b0 L F s.heap H locs) (hc : cells + 10 ≤ 600000) (hsl : slots + 64 ≤ 7302250) (kk : ∀ (L' : List Nat) (F' : Nat → va_E) (H : Heap) (locs : List Loc), lc_I D L' F' x mo ma → hg_W D b0 L' F' s.heap H locs → W p l e room_1 s m args below meth c H locs (cells + 10) (slots + 64) Q (F0 m 1324 ls [])) : W p l e room_1 s m args below meth c H locs cells slots Q (F0 m 1153 ls []) := by
  obtain ⟨oa, C, M, mk, ad, n, nr, im, col, rfl, hw⟩ := h
  have X := Y.1
  obtain ⟨hx, hb, hml, hown, hts⟩ := id X.1
  obtain ⟨k1, k2, k3, ho, hm, hmo0, k7, k8, k9, k10, a, hI⟩ := id hw
  obtain ⟨hE, hZ, ⟨t, ht1, ht⟩, hR, ⟨ha, ha24⟩, ⟨s0, h12⟩, hV, hth, hG⟩ := id hI
  have hs := hV.1.1
  have htt := hV.1.2.1
  have hv := mk_ok_of hs htt
  have h4 := ag_I4 hI
  have hC1 : C 1 0 = nI a := by rw [hE 1 (by unfold ag_key; omega)]; exact ha
  have hC9 : C 9 0 = nI t := by rw [hE 9 (by unfold ag_key; omega)]; exact ht
  have hsz : cs_szs C := by unfold cs_szs; rw [hE 4 (by unfold ag_key; omega)]; exact hZ.1
  have w : hg_W D b0 L (ob_W D F oa C mk im mk ad n (M 0)) s.heap H locs := by rw [wl_W hw]; exact w
  obtain ⟨ai, ni, hai⟩ : ∃ (ai : Nat → Nat → Nat) (ni : Nat → Nat), ∀ j, j < 2 → ∀ bi, im j = some bi → mk_H D F bi (ai j) (ni j) (fun q => M 0 (50 * (j + 1) + q)) ∧ mk_ok L bi (ai j) (ni j) ∧ (∃ nr', ag_V (fun q => M 0 (50 * (j + 1) + q)) (ni j) nr' ∧ 1 ≤ nr') ∧ M 2 j = 1 ∧ M 0 (50 * (j + 1) + 4) = 1 := lc_images k10
  have hgi : ∀ j, j < 2 → ∀ b, im j = some b → (∃ nr', ag_V (fun q => M 0 (50 * (j + 1) + q)) (ni j) nr' ∧ 1 ≤ nr') ∧ M 2 j = 1 ∧ M 0 (50 * (j + 1) + 4) = 1 ∧ (fun (j q : Nat) => M 0 (50 * (j + 1) + q)) j = fun q => M 0 (50 * (j + 1) + q) := fun j hj bi e => ⟨(hai j hj bi e).2.2.1, (hai j hj bi e).2.2.2.1, (hai j hj bi e).2.2.2.2, rfl⟩
  have hB : ∀ j, j < 2 → ∀ bi, im j = some bi → mk_ok L bi (ai j) (ni j) ∧ mk_sr ((fun (j q : Nat) => M 0 (50 * (j + 1) + q)) j) (ni j) ∧ mk_H D (ob_W D F oa C mk im mk ad n (M 0)) bi (ai j) (ni j) ((fun (j q : Nat) => M 0 (50 * (j + 1) + q)) j) := by
    intro j hj bi e
    obtain ⟨z1, z2, ⟨nr', z3, -⟩, -⟩ := hai j hj bi e
    rw [wl_W hw]
    exact ⟨z2, z3.1.1, z1⟩
  refine lv_aload_n hx hb dL_law_1153 rfl (lv_at hl 1 rfl) ?_
  refine lv_aload_n hx hb dL_law_1154 rfl (lv_at hl 0 rfl) ?_
  refine lv_iload_n hx hb dL_law_1155 rfl (lv_at hl 3 rfl) ?_
  refine lv_iconst (v := 1) hx hb dL_law_1156 (by decide) ?_
  refine lv_iadd hx hb dL_law_1157 ?_
  refine lw_sld Y w (j := 1) rfl (by omega) dL_law_1158 ?_
  refine hg_vi (As := [.int (xs (i + 1))]) (rest := []) X w (c_X11_restore l D b0 L F oa C im mk ad n (M 0) hm hs ho ai ni (fun (j q : Nat) => M 0 (50 * (j + 1) + q)) hB (xs (i + 1))) (cwV 1 hts gL_law_X11_restore rfl rfl rfl hdL_X11_restore ⟨Nat.le_of_ble_eq_true rfl, Nat.le_of_ble_eq_true rfl⟩) (ho.1 0 (by decide)).1 (ow_at ho (k := 0) (by decide)) rfl rfl rfl hl.1 rfl (Nat.le_of_ble_eq_true rfl) dL_law_1159 ⟨by show cells + 9 ≤ 600000; omega, by show slots + 57 ≤ 7302250; omega⟩ (fun r u H locs hp w => ?_)
  have hP : wl_P D L (oa 0) mo ma M r u (sp_restore M (xs (i + 1))) := wl_P_restore hw hgi hp
  obtain ⟨hr, hmo, hLL, hlc⟩ := hP
  have hmo2 := mo_ok_L hmo0 hLL
  have w : hg_W D b0 (u.1) (mo_F D (u.2) mo ma M) s.heap H locs := by rw [mo_self hmo]; exact w
  refine lv_aload_n hx hb dL_law_1162 rfl (lv_at hl 2 rfl) ?_
  refine lv_aload_n hx hb dL_law_1163 rfl (lv_at hl 0 rfl) ?_
  refine lv_iload_n hx hb dL_law_1164 rfl (lv_at hl 3 rfl) ?_
  refine lv_iconst (v := 1) hx hb dL_law_1165 (by decide) ?_
  refine lv_iadd hx hb dL_law_1166 ?_
  refine lw_sld Y w (j := 1) rfl (by omega) dL_law_1167 ?_
  refine hg_viF (r := (sp_restore M (xs (i + 1))).1) (As := [.int (xs (i + 1))]) (rest := [.int (r)]) X w (c_X12_restore l D b0 (u.1) (u.2) mo ma M hmo2 (xs (i + 1))) (cwV 1 hts gL_law_X12_restore rfl rfl rfl hdL_X12_restore ⟨Nat.le_of_ble_eq_true rfl, Nat.le_of_ble_eq_true rfl⟩) hmo2.1 (mo_at0 D _ mo ma M) rfl rfl rfl hl.1 rfl (Nat.le_of_ble_eq_true rfl) dL_law_1168 ⟨by show cells + 9 ≤ 600000; omega, by show slots + 57 ≤ 7302250; omega⟩ (fun H locs w => ?_)
  refine lv_icmp_eq (tgt := 1324) hx hb dL_law_1171 (by decide) (fun _ => ?_) (fun z => absurd hr z)
  refine W.widen (k := cells + 10) (n := slots + 64) (by omega) (by omega) ?_
  exact kk _ _ H locs hlc w
