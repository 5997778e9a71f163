/-! THE LAW'S CASES -/
def lw_C (p : Program) (s : State) (m : MethodId) (args : Array Value) (c : Code) (D : va_G) (b0 b Ls : Nat) (xs : Nat → Int32) (i : Nat) : Prop := hg_C p s m args c cL_law 4 wsL_law RL D b0 ∧ va_X b Ls xs s s.heap ∧ b < s.heap.size ∧ b < b0 ∧ Ls ≤ 384 ∧ i + 6 ≤ Ls
theorem lw_sld {p : Program} {l : Launch} {e : Env} {s : State} {m : MethodId} {args : Array Value} {below : List Frame} {meth : Method} {c : Code} {H : Heap} {locs : List Loc} {cells slots : Nat} {Q : State → Prop} {D : va_G} {b0 : Nat} {L : List Nat} {F : Nat → va_E} {ls : Array Slot} {b Ls i : Nat} {xs : Nat → Int32} {R : Room} {pc : Nat} {rest : List Value} (Y : lw_C p s m args c D b0 b Ls xs i) (w : hg_W D b0 L F s.heap H locs) {j : Nat} {v : Int32} (hv : v = nI j) (hj : j < 6) (hdg : decode cL_law pc = .ok (.iaload, 1)) (kk : W p l e R s m args below meth c H locs cells slots Q (F0 m (pc + 1) ls (.int (xs (i + j)) :: rest))) : W p l e R s m args below meth c H locs cells slots Q (F0 m pc ls (.int (nI i + v) :: .ref b :: rest)) := by
  obtain ⟨X, hX, hbl, hbb, hLs, hi⟩ := Y
  obtain ⟨hx, hb, hml, hown, hts⟩ := id X.1
  subst hv
  rw [nI_add]
  refine va_sld hx hb hX hbl (Nat.not_le.mpr hbb) w.2 ?_ hdg ?_
  · rintro (z | z)
    · exact nI_pos (n := i + j) (by omega) z
    · rw [nI_clamp (by omega)] at z; omega
  · rw [nI_clamp (by omega)]
    exact kk
theorem wl_P_o3 {D : va_G} {L : List Nat} {F : Nat → va_E} {oa : Nat → Nat} {mo : Nat} {ma : Nat → Nat} {C M : Nat → Nat → Int32} {mk : Nat} {ad : Nat → Nat} {n nr : Nat} {im : Nat → Option Nat} {col : Nat → Nat} (h : wl_S D L F oa mo ma C M mk ad n nr im col) {r : Int32} {C' : Nat → Nat → Int32} {g' : Nat → Int32} {q : sp_S} (hs : ag_st M n nr (r, C', g') q) : wl_P D L (oa 0) mo ma M r (L, ob_W D F oa C' mk im mk ad n g') q := wl_P_ord h hs
theorem wl_P_q {D : va_G} {L : List Nat} {F : Nat → va_E} {oa : Nat → Nat} {mo : Nat} {ma : Nat → Nat} {C M : Nat → Nat → Int32} {mk : Nat} {ad : Nat → Nat} {n nr a : Nat} {im : Nat → Option Nat} {col : Nat → Nat} (h : wl_S D L F oa mo ma C M mk ad n nr im col) (hI : ag_I C M n nr a) {r r' : Int32} (e : r = r') : wl_P D L (oa 0) mo ma M r (L, ob_W D F oa C mk im mk ad n (M 0)) (r', M) := wl_P_ord h (ag_t_q hI e)
theorem lc_images {D : va_G} {L : List Nat} {F : Nat → va_E} {M : Nat → Nat → Int32} {im : Nat → Option Nat} {col : Nat → Nat} (h : ∀ k, k < 2 → wl_im D L F col M k (im k)) : ∃ (ai : Nat → Nat → Nat) (ni : Nat → Nat), ∀ j, j < 2 → ∀ bi, im j = some bi → mk_H D F bi (ai j) (ni j) (fun q => M 0 (50 * (j + 1) + q)) ∧ mk_ok L bi (ai j) (ni j) ∧ (∃ nr', ag_V (fun q => M 0 (50 * (j + 1) + q)) (ni j) nr' ∧ 1 ≤ nr') ∧ M 2 j = 1 ∧ M 0 (50 * (j + 1) + 4) = 1 := by
  have one : ∀ j, j < 2 → ∃ (a : Nat → Nat) (n : Nat), ∀ bi, im j = some bi → mk_H D F bi a n (fun q => M 0 (50 * (j + 1) + q)) ∧ mk_ok L bi a n ∧ (∃ nr', ag_V (fun q => M 0 (50 * (j + 1) + q)) n nr' ∧ 1 ≤ nr') ∧ M 2 j = 1 ∧ M 0 (50 * (j + 1) + 4) = 1 := by
    intro j hj
    rcases h j hj with ⟨z, -⟩ | ⟨q, ad, n, nr, z1, z2, z3, z4, z5, z6, z7, -⟩
    · exact ⟨fun _ => 0, 0, fun bi e => absurd (z.symm.trans e) (by simp)⟩
    · refine ⟨ad, n, fun bi e => ?_⟩
      have e2 : q = bi := Option.some.inj (z1.symm.trans e)
      subst e2
      exact ⟨z3, z4, ⟨nr, z5, z7⟩, z2, z6⟩
  obtain ⟨a0, n0, h0⟩ := one 0 (by omega)
  obtain ⟨a1, n1, h1⟩ := one 1 (by omega)
  refine ⟨fun j => if j = 0 then a0 else a1, fun j => if j = 0 then n0 else n1, fun j hj bi e => ?_⟩
  rcases (show j = 0 ∨ j = 1 by omega) with rfl | rfl
  · exact h0 bi e
  · exact h1 bi e
theorem hdL_X11_row : yX11_row.cls = RX11 ∧ yX11_row.cls ≠ "java/lang/invoke/MethodHandle" ∧ yX11_row.cls ≠ "java/lang/invoke/VarHandle" ∧ (parseMethodDescriptor yX11_row.desc).map (fun d => d.parameters.length) = some 3 := by decide +kernel
theorem hdL_X12_row : yX12_row.cls = RX12 ∧ yX12_row.cls ≠ "java/lang/invoke/MethodHandle" ∧ yX12_row.cls ≠ "java/lang/invoke/VarHandle" ∧ (parseMethodDescriptor yX12_row.desc).map (fun d => d.parameters.length) = some 3 := by decide +kernel
set_option maxRecDepth 100000 in
set_option maxHeartbeats 4000000 in
theorem lc_row {p : Program} {l : Launch} {e : Env} {s : State} {m : MethodId} {args : Array Value} {below : List Frame} {meth : Method} {c : Code} {H : Heap} {locs : List Loc} {cells slots : Nat} {Q : State → Prop} {D : va_G} {b0 : Nat} {L : List Nat} {F : Nat → va_E} {ls : Array Slot} {b Ls i x mo : Nat} {xs : Nat → Int32} {ma : Nat → Nat} (Y : lw_C p s m args c D b0 b Ls xs i) (hl : lv_has ls 4 [(0, .ref b), (1, .ref x), (2, .ref mo), (3, .int (nI i))]) (h : lc_I D L F x mo ma) (w : hg_W D b0 L F s.heap H locs) (hc : cells + 10 ≤ 600000) (hsl : slots + 64 ≤ 7302250) (kk : ∀ (L' : List Nat) (F' : Nat → va_E) (H : Heap) (locs : List Loc), lc_I D L' F' x mo ma → hg_W D b0 L' F' s.heap H locs → W p l e room_1 s m args below meth c H locs (cells + 10) (slots + 64) Q (F0 m 1324 ls [])) : W p l e room_1 s m args below meth c H locs cells slots Q (F0 m 200 ls []) := by
  obtain ⟨oa, C, M, mk, ad, n, nr, im, col, rfl, hw⟩ := h
  have X := Y.1
  obtain ⟨hx, hb, hml, hown, hts⟩ := id X.1
  obtain ⟨k1, k2, k3, ho, hm, hmo0, k7, k8, k9, k10, a, hI⟩ := id hw
  obtain ⟨hE, hZ, ⟨t, ht1, ht⟩, hR, ⟨ha, ha24⟩, ⟨s0, h12⟩, hV, hth, hG⟩ := id hI
  have hs := hV.1.1
  have htt := hV.1.2.1
  have hv := mk_ok_of hs htt
  have h4 := ag_I4 hI
  have hC1 : C 1 0 = nI a := by rw [hE 1 (by unfold ag_key; omega)]; exact ha
  have hC9 : C 9 0 = nI t := by rw [hE 9 (by unfold ag_key; omega)]; exact ht
  have hsz : cs_szs C := by unfold cs_szs; rw [hE 4 (by unfold ag_key; omega)]; exact hZ.1
  have w : hg_W D b0 L (ob_W D F oa C mk im mk ad n (M 0)) s.heap H locs := by rw [wl_W hw]; exact w
  refine lv_aload_n hx hb dL_law_200 rfl (lv_at hl 1 rfl) ?_
  refine lv_aload_n hx hb dL_law_201 rfl (lv_at hl 0 rfl) ?_
  refine lv_iload_n hx hb dL_law_202 rfl (lv_at hl 3 rfl) ?_
  refine lv_iconst (v := 1) hx hb dL_law_203 (by decide) ?_
  refine lv_iadd hx hb dL_law_204 ?_
  refine lw_sld Y w (j := 1) rfl (by omega) dL_law_205 ?_
  refine lv_aload_n hx hb dL_law_206 rfl (lv_at hl 0 rfl) ?_
  refine lv_iload_n hx hb dL_law_207 rfl (lv_at hl 3 rfl) ?_
  refine lv_iconst (v := 2) hx hb dL_law_208 (by decide) ?_
  refine lv_iadd hx hb dL_law_209 ?_
  refine lw_sld Y w (j := 2) rfl (by omega) dL_law_210 ?_
  refine lv_aload_n hx hb dL_law_211 rfl (lv_at hl 0 rfl) ?_
  refine lv_iload_n hx hb dL_law_212 rfl (lv_at hl 3 rfl) ?_
  refine lv_iconst (v := 3) hx hb dL_law_213 (by decide) ?_
  refine lv_iadd hx hb dL_law_214 ?_
  refine lw_sld Y w (j := 3) rfl (by omega) dL_law_215 ?_
  refine hg_viF (r := (sp_row C (xs (i + 1)) (xs (i + 2)) (xs (i + 3))).1) (As := [.int (xs (i + 1)), .int (xs (i + 2)), .int (xs (i + 3))]) (rest := []) X w (c_X11_row l D b0 L F oa C im mk ad n (M 0) hm hs ho (xs (i + 1)) (xs (i + 2)) (xs (i + 3))) (cwV 3 hts gL_law_X11_row rfl rfl rfl hdL_X11_row ⟨Nat.le_of_ble_eq_true rfl, Nat.le_of_ble_eq_true rfl⟩) (ho.1 0 (by decide)).1 (ow_at ho (k := 0) (by decide)) rfl rfl rfl hl.1 rfl (Nat.le_of_ble_eq_true rfl) dL_law_216 ⟨by show cells ≤ 600000; omega, by show slots ≤ 7302250; omega⟩ (fun H locs w => ?_)
  have hP : wl_P D L (oa 0) mo ma M ((sp_row C (xs (i + 1)) (xs (i + 2)) (xs (i + 3))).1) (L, (ob_W D F oa ((sp_row C (xs (i + 1)) (xs (i + 2)) (xs (i + 3))).2) mk im mk ad n (M 0))) (sp_row M (xs (i + 1)) (xs (i + 2)) (xs (i + 3))) := wl_P_o3 hw (ag_t_row hI (xs (i + 1)) (xs (i + 2)) (xs (i + 3)))
  obtain ⟨hr, hmo, hLL, hlc⟩ := hP
  have hmo2 := mo_ok_L hmo0 hLL
  have w : hg_W D b0 (L) (mo_F D ((ob_W D F oa ((sp_row C (xs (i + 1)) (xs (i + 2)) (xs (i + 3))).2) mk im mk ad n (M 0))) mo ma M) s.heap H locs := by rw [mo_self hmo]; exact w
  refine lv_aload_n hx hb dL_law_219 rfl (lv_at hl 2 rfl) ?_
  refine lv_aload_n hx hb dL_law_220 rfl (lv_at hl 0 rfl) ?_
  refine lv_iload_n hx hb dL_law_221 rfl (lv_at hl 3 rfl) ?_
  refine lv_iconst (v := 1) hx hb dL_law_222 (by decide) ?_
  refine lv_iadd hx hb dL_law_223 ?_
  refine lw_sld Y w (j := 1) rfl (by omega) dL_law_224 ?_
  refine lv_aload_n hx hb dL_law_225 rfl (lv_at hl 0 rfl) ?_
  refine lv_iload_n hx hb dL_law_226 rfl (lv_at hl 3 rfl) ?_
  refine lv_iconst (v := 2) hx hb dL_law_227 (by decide) ?_
  refine lv_iadd hx hb dL_law_228 ?_
  refine lw_sld Y w (j := 2) rfl (by omega) dL_law_229 ?_
  refine lv_aload_n hx hb dL_law_230 rfl (lv_at hl 0 rfl) ?_
  refine lv_iload_n hx hb dL_law_231 rfl (lv_at hl 3 rfl) ?_
  refine lv_iconst (v := 3) hx hb dL_law_232 (by decide) ?_
  refine lv_iadd hx hb dL_law_233 ?_
  refine lw_sld Y w (j := 3) rfl (by omega) dL_law_234 ?_
  refine hg_viF (r := (sp_row M (xs (i + 1)) (xs (i + 2)) (xs (i + 3))).1) (As := [.int (xs (i + 1)), .int (xs (i + 2)), .int (xs (i + 3))]) (rest := [.int ((sp_row C (xs (i + 1)) (xs (i + 2)) (xs (i + 3))).1)]) X w (c_X12_row l D b0 (L) ((ob_W D F oa ((sp_row C (xs (i + 1)) (xs (i + 2)) (xs (i + 3))).2) mk im mk ad n (M 0))) mo ma M hmo2 (xs (i + 1)) (xs (i + 2)) (xs (i + 3))) (cwV 3 hts gL_law_X12_row rfl rfl rfl hdL_X12_row ⟨Nat.le_of_ble_eq_true rfl, Nat.le_of_ble_eq_true rfl⟩) hmo2.1 (mo_at0 D _ mo ma M) rfl rfl rfl hl.1 rfl (Nat.le_of_ble_eq_true rfl) dL_law_235 ⟨by show cells ≤ 600000; omega, by show slots ≤ 7302250; omega⟩ (fun H locs w => ?_)
  refine lv_icmp_eq (tgt := 1324) hx hb dL_law_238 (by decide) (fun _ => ?_) (fun z => absurd hr z)
  refine W.widen (k := cells + 10) (n := slots + 64) (by omega) (by omega) ?_
  exact kk _ _ H locs hlc w
theorem hdL_X11_set : yX11_set.cls = RX11 ∧ yX11_set.cls ≠ "java/lang/invoke/MethodHandle" ∧ yX11_set.cls ≠ "java/lang/invoke/VarHandle" ∧ (parseMethodDescriptor yX11_set.desc).map (fun d => d.parameters.length) = some 3 := by decide +kernel
theorem hdL_X12_set : yX12_set.cls = RX12 ∧ yX12_set.cls ≠ "java/lang/invoke/MethodHandle" ∧ yX12_set.cls ≠ "java/lang/invoke/VarHandle" ∧ (parseMethodDescriptor yX12_set.desc).map (fun d => d.parameters.length) = some 3 := by decide +kernel
set_option maxRecDepth 100000 in
set_option maxHeartbeats 4000000 in
theorem lc_set {p : Program} {l : Launch} {e : Env} {s : State} {m : MethodId} {args : Array Value} {below : List Frame} {meth : Method} {c : Code} {H : Heap} {locs : List Loc} {cells slots : Nat} {Q : State → Prop} {D : va_G} {b0 : Nat} {L : List Nat} {F : Nat → va_E} {ls : Array Slot} {b Ls i x mo : Nat} {xs : Nat → Int32} {ma : Nat → Nat} (Y : lw_C p s m args c D b0 b Ls xs i) (hl : lv_has ls 4 [(0, .ref b), (1, .ref x), (2, .ref mo), (3, .int (nI i))]) (h : lc_I D L F x mo ma) (w : hg_W D b0 L F s.heap H locs) (hc : cells + 10 ≤ 600000) (hsl : slots + 64 ≤ 7302250) (kk : ∀ (L' : List Nat) (F' : Nat → va_E) (H : Heap) (locs : List Loc), lc_I D L' F' x mo ma → hg_W D b0 L' F' s.heap H locs → W p l e room_1 s m args below meth c H locs (cells + 10) (slots + 64) Q (F0 m 1324 ls [])) : W p l e room_1 s m args below meth c H locs cells slots Q (F0 m 243 ls []) := by
  obtain ⟨oa, C, M, mk, ad, n, nr, im, col, rfl, hw⟩ := h
  have X := Y.1
  obtain ⟨hx, hb, hml, hown, hts⟩ := id X.1
  obtain ⟨k1, k2, k3, ho, hm, hmo0, k7, k8, k9, k10, a, hI⟩ := id hw
  obtain ⟨hE, hZ, ⟨t, ht1, ht⟩, hR, ⟨ha, ha24⟩, ⟨s0, h12⟩, hV, hth, hG⟩ := id hI
  have hs := hV.1.1
  have htt := hV.1.2.1
  have hv := mk_ok_of hs htt
  have h4 := ag_I4 hI
  have hC1 : C 1 0 = nI a := by rw [hE 1 (by unfold ag_key; omega)]; exact ha
  have hC9 : C 9 0 = nI t := by rw [hE 9 (by unfold ag_key; omega)]; exact ht
  have hsz : cs_szs C := by unfold cs_szs; rw [hE 4 (by unfold ag_key; omega)]; exact hZ.1
  have w : hg_W D b0 L (ob_W D F oa C mk im mk ad n (M 0)) s.heap H locs := by rw [wl_W hw]; exact w
  refine lv_aload_n hx hb dL_law_243 rfl (lv_at hl 1 rfl) ?_
  refine lv_aload_n hx hb dL_law_244 rfl (lv_at hl 0 rfl) ?_
  refine lv_iload_n hx hb dL_law_245 rfl (lv_at hl 3 rfl) ?_
  refine lv_iconst (v := 1) hx hb dL_law_246 (by decide) ?_
  refine lv_iadd hx hb dL_law_247 ?_
  refine lw_sld Y w (j := 1) rfl (by omega) dL_law_248 ?_
  refine lv_aload_n hx hb dL_law_249 rfl (lv_at hl 0 rfl) ?_
  refine lv_iload_n hx hb dL_law_250 rfl (lv_at hl 3 rfl) ?_
  refine lv_iconst (v := 2) hx hb dL_law_251 (by decide) ?_
  refine lv_iadd hx hb dL_law_252 ?_
  refine lw_sld Y w (j := 2) rfl (by omega) dL_law_253 ?_
  refine lv_aload_n hx hb dL_law_254 rfl (lv_at hl 0 rfl) ?_
  refine lv_iload_n hx hb dL_law_255 rfl (lv_at hl 3 rfl) ?_
  refine lv_iconst (v := 3) hx hb dL_law_256 (by decide) ?_
  refine lv_iadd hx hb dL_law_257 ?_
  refine lw_sld Y w (j := 3) rfl (by omega) dL_law_258 ?_
  refine hg_viF (r := (cs_set C (xs (i + 1)) (xs (i + 2)) (xs (i + 3))).1) (As := [.int (xs (i + 1)), .int (xs (i + 2)), .int (xs (i + 3))]) (rest := []) X w (c_X11_set l D b0 L F oa C im mk ad n (M 0) hm hs ho hsz (xs (i + 1)) (xs (i + 2)) (xs (i + 3))) (cwV 3 hts gL_law_X11_set rfl rfl rfl hdL_X11_set ⟨Nat.le_of_ble_eq_true rfl, Nat.le_of_ble_eq_true rfl⟩) (ho.1 0 (by decide)).1 (ow_at ho (k := 0) (by decide)) rfl rfl rfl hl.1 rfl (Nat.le_of_ble_eq_true rfl) dL_law_259 ⟨by show cells ≤ 600000; omega, by show slots ≤ 7302250; omega⟩ (fun H locs w => ?_)
  have hP : wl_P D L (oa 0) mo ma M ((cs_set C (xs (i + 1)) (xs (i + 2)) (xs (i + 3))).1) (L, (ob_W D F oa ((cs_set C (xs (i + 1)) (xs (i + 2)) (xs (i + 3))).2) mk im mk ad n (M 0))) (sp_set M (xs (i + 1)) (xs (i + 2)) (xs (i + 3))) := wl_P_o3 hw (ag_t_set hI (xs (i + 1)) (xs (i + 2)) (xs (i + 3)))
  obtain ⟨hr, hmo, hLL, hlc⟩ := hP
  have hmo2 := mo_ok_L hmo0 hLL
  have w : hg_W D b0 (L) (mo_F D ((ob_W D F oa ((cs_set C (xs (i + 1)) (xs (i + 2)) (xs (i + 3))).2) mk im mk ad n (M 0))) mo ma M) s.heap H locs := by rw [mo_self hmo]; exact w
  refine lv_aload_n hx hb dL_law_262 rfl (lv_at hl 2 rfl) ?_
  refine lv_aload_n hx hb dL_law_263 rfl (lv_at hl 0 rfl) ?_
  refine lv_iload_n hx hb dL_law_264 rfl (lv_at hl 3 rfl) ?_
  refine lv_iconst (v := 1) hx hb dL_law_265 (by decide) ?_
  refine lv_iadd hx hb dL_law_266 ?_
  refine lw_sld Y w (j := 1) rfl (by omega) dL_law_267 ?_
  refine lv_aload_n hx hb dL_law_268 rfl (lv_at hl 0 rfl) ?_
  refine lv_iload_n hx hb dL_law_269 rfl (lv_at hl 3 rfl) ?_
  refine lv_iconst (v := 2) hx hb dL_law_270 (by decide) ?_
  refine lv_iadd hx hb dL_law_271 ?_
  refine lw_sld Y w (j := 2) rfl (by omega) dL_law_272 ?_
  refine lv_aload_n hx hb dL_law_273 rfl (lv_at hl 0 rfl) ?_
  refine lv_iload_n hx hb dL_law_274 rfl (lv_at hl 3 rfl) ?_
  refine lv_iconst (v := 3) hx hb dL_law_275 (by decide) ?_
  refine lv_iadd hx hb dL_law_276 ?_
  refine lw_sld Y w (j := 3) rfl (by omega) dL_law_277 ?_
  refine hg_viF (r := (sp_set M (xs (i + 1)) (xs (i + 2)) (xs (i + 3))).1) (As := [.int (xs (i + 1)), .int (xs (i + 2)), .int (xs (i + 3))]) (rest := [.int ((cs_set C (xs (i + 1)) (xs (i + 2)) (xs (i + 3))).1)]) X w (c_X12_set l D b0 (L) ((ob_W D F oa ((cs_set C (xs (i + 1)) (xs (i + 2)) (xs (i + 3))).2) mk im mk ad n (M 0))) mo ma M hmo2 hZ.1 (xs (i + 1)) (xs (i + 2)) (xs (i + 3))) (cwV 3 hts gL_law_X12_set rfl rfl rfl hdL_X12_set ⟨Nat.le_of_ble_eq_true rfl, Nat.le_of_ble_eq_true rfl⟩) hmo2.1 (mo_at0 D _ mo ma M) rfl rfl rfl hl.1 rfl (Nat.le_of_ble_eq_true rfl) dL_law_278 ⟨by show cells ≤ 600000; omega, by show slots ≤ 7302250; omega⟩ (fun H locs w => ?_)
  refine lv_icmp_eq (tgt := 1324) hx hb dL_law_281 (by decide) (fun _ => ?_) (fun z => absurd hr z)
  refine W.widen (k := cells + 10) (n := slots + 64) (by omega) (by omega) ?_
  exact kk _ _ H locs hlc w
theorem hdL_X11_copy : yX11_copy.cls = RX11 ∧ yX11_copy.cls ≠ "java/lang/invoke/MethodHandle" ∧ yX11_copy.cls ≠ "java/lang/invoke/VarHandle" ∧ (parseMethodDescriptor yX11_copy.desc).map (fun d => d.parameters.length) = some 5 := by decide +kernel
theorem hdL_X12_copy : yX12_copy.cls = RX12 ∧ yX12_copy.cls ≠ "java/lang/invoke/MethodHandle" ∧ yX12_copy.cls ≠ "java/lang/invoke/VarHandle" ∧ (parseMethodDescriptor yX12_copy.desc).map (fun d => d.parameters.length) = some 5 := by decide +kernel
set_option maxRecDepth 100000 in
set_option maxHeartbeats 4000000 in
theorem lc_copy {p : Program} {l : Launch} {e : Env} {s : State} {m : MethodId} {args : Array Value} {below : List Frame} {meth : Method} {c : Code} {H : Heap} {locs : List Loc} {cells slots : Nat} {Q : State → Prop} {D : va_G} {b0 : Nat} {L : List Nat} {F : Nat → va_E} {ls : Array Slot} {b Ls i x mo : Nat} {xs : Nat → Int32} {ma : Nat → Nat} (Y : lw_C p s m args c D b0 b Ls xs i) (hl : lv_has ls 4 [(0, .ref b), (1, .ref x), (2, .ref mo), (3, .int (nI i))]) (h : lc_I D L F x mo ma) (w : hg_W D b0 L F s.heap H locs) (hc : cells + 10 ≤ 600000) (hsl : slots + 64 ≤ 7302250) (kk : ∀ (L' : List Nat) (F' : Nat → va_E) (H : Heap) (locs : List Loc), lc_I D L' F' x mo ma → hg_W D b0 L' F' s.heap H locs → W p l e room_1 s m args below meth c H locs (cells + 10) (slots + 64) Q (F0 m 1324 ls [])) : W p l e room_1 s m args below meth c H locs cells slots Q (F0 m 286 ls []) := by
  obtain ⟨oa, C, M, mk, ad, n, nr, im, col, rfl, hw⟩ := h
  have X := Y.1
  obtain ⟨hx, hb, hml, hown, hts⟩ := id X.1
  obtain ⟨k1, k2, k3, ho, hm, hmo0, k7, k8, k9, k10, a, hI⟩ := id hw
  obtain ⟨hE, hZ, ⟨t, ht1, ht⟩, hR, ⟨ha, ha24⟩, ⟨s0, h12⟩, hV, hth, hG⟩ := id hI
  have hs := hV.1.1
  have htt := hV.1.2.1
  have hv := mk_ok_of hs htt
  have h4 := ag_I4 hI
  have hC1 : C 1 0 = nI a := by rw [hE 1 (by unfold ag_key; omega)]; exact ha
  have hC9 : C 9 0 = nI t := by rw [hE 9 (by unfold ag_key; omega)]; exact ht
  have hsz : cs_szs C := by unfold cs_szs; rw [hE 4 (by unfold ag_key; omega)]; exact hZ.1
  have w : hg_W D b0 L (ob_W D F oa C mk im mk ad n (M 0)) s.heap H locs := by rw [wl_W hw]; exact w
  refine lv_aload_n hx hb dL_law_286 rfl (lv_at hl 1 rfl) ?_
  refine lv_aload_n hx hb dL_law_287 rfl (lv_at hl 0 rfl) ?_
  refine lv_iload_n hx hb dL_law_288 rfl (lv_at hl 3 rfl) ?_
  refine lv_iconst (v := 1) hx hb dL_law_289 (by decide) ?_
  refine lv_iadd hx hb dL_law_290 ?_
  refine lw_sld Y w (j := 1) rfl (by omega) dL_law_291 ?_
  refine lv_aload_n hx hb dL_law_292 rfl (lv_at hl 0 rfl) ?_
  refine lv_iload_n hx hb dL_law_293 rfl (lv_at hl 3 rfl) ?_
  refine lv_iconst (v := 2) hx hb dL_law_294 (by decide) ?_
  refine lv_iadd hx hb dL_law_295 ?_
  refine lw_sld Y w (j := 2) rfl (by omega) dL_law_296 ?_
  refine lv_aload_n hx hb dL_law_297 rfl (lv_at hl 0 rfl) ?_
  refine lv_iload_n hx hb dL_law_298 rfl (lv_at hl 3 rfl) ?_
  refine lv_iconst (v := 3) hx hb dL_law_299 (by decide) ?_
  refine lv_iadd hx hb dL_law_300 ?_
  refine lw_sld Y w (j := 3) rfl (by omega) dL_law_301 ?_
  refine lv_aload_n hx hb dL_law_302 rfl (lv_at hl 0 rfl) ?_
  refine lv_iload_n hx hb dL_law_303 rfl (lv_at hl 3 rfl) ?_
  refine lv_iconst (v := 4) hx hb dL_law_304 (by decide) ?_
  refine lv_iadd hx hb dL_law_305 ?_
  refine lw_sld Y w (j := 4) rfl (by omega) dL_law_306 ?_
  refine lv_aload_n hx hb dL_law_307 rfl (lv_at hl 0 rfl) ?_
  refine lv_iload_n hx hb dL_law_308 rfl (lv_at hl 3 rfl) ?_
  refine lv_iconst (v := 5) hx hb dL_law_309 (by decide) ?_
  refine lv_iadd hx hb dL_law_310 ?_
  refine lw_sld Y w (j := 5) rfl (by omega) dL_law_311 ?_
  refine hg_viF (r := (cs_copy C (xs (i + 1)) (xs (i + 2)) (xs (i + 3)) (xs (i + 4)) (xs (i + 5))).1) (As := [.int (xs (i + 1)), .int (xs (i + 2)), .int (xs (i + 3)), .int (xs (i + 4)), .int (xs (i + 5))]) (rest := []) X w (c_X11_copy l D b0 L F oa C im mk ad n (M 0) hm hs ho hsz (xs (i + 1)) (xs (i + 2)) (xs (i + 3)) (xs (i + 4)) (xs (i + 5))) (cwV 5 hts gL_law_X11_copy rfl rfl rfl hdL_X11_copy ⟨Nat.le_of_ble_eq_true rfl, Nat.le_of_ble_eq_true rfl⟩) (ho.1 0 (by decide)).1 (ow_at ho (k := 0) (by decide)) rfl rfl rfl hl.1 rfl (Nat.le_of_ble_eq_true rfl) dL_law_312 ⟨by show cells ≤ 600000; omega, by show slots ≤ 7302250; omega⟩ (fun H locs w => ?_)
  have hP : wl_P D L (oa 0) mo ma M ((cs_copy C (xs (i + 1)) (xs (i + 2)) (xs (i + 3)) (xs (i + 4)) (xs (i + 5))).1) (L, (ob_W D F oa ((cs_copy C (xs (i + 1)) (xs (i + 2)) (xs (i + 3)) (xs (i + 4)) (xs (i + 5))).2) mk im mk ad n (M 0))) (sp_copy M (xs (i + 1)) (xs (i + 2)) (xs (i + 3)) (xs (i + 4)) (xs (i + 5))) := wl_P_o3 hw (ag_t_copy hI (xs (i + 1)) (xs (i + 2)) (xs (i + 3)) (xs (i + 4)) (xs (i + 5)))
  obtain ⟨hr, hmo, hLL, hlc⟩ := hP
  have hmo2 := mo_ok_L hmo0 hLL
  have w : hg_W D b0 (L) (mo_F D ((ob_W D F oa ((cs_copy C (xs (i + 1)) (xs (i + 2)) (xs (i + 3)) (xs (i + 4)) (xs (i + 5))).2) mk im mk ad n (M 0))) mo ma M) s.heap H locs := by rw [mo_self hmo]; exact w
  refine lv_aload_n hx hb dL_law_315 rfl (lv_at hl 2 rfl) ?_
  refine lv_aload_n hx hb dL_law_316 rfl (lv_at hl 0 rfl) ?_
  refine lv_iload_n hx hb dL_law_317 rfl (lv_at hl 3 rfl) ?_
  refine lv_iconst (v := 1) hx hb dL_law_318 (by decide) ?_
  refine lv_iadd hx hb dL_law_319 ?_
  refine lw_sld Y w (j := 1) rfl (by omega) dL_law_320 ?_
  refine lv_aload_n hx hb dL_law_321 rfl (lv_at hl 0 rfl) ?_
  refine lv_iload_n hx hb dL_law_322 rfl (lv_at hl 3 rfl) ?_
  refine lv_iconst (v := 2) hx hb dL_law_323 (by decide) ?_
  refine lv_iadd hx hb dL_law_324 ?_
  refine lw_sld Y w (j := 2) rfl (by omega) dL_law_325 ?_
  refine lv_aload_n hx hb dL_law_326 rfl (lv_at hl 0 rfl) ?_
  refine lv_iload_n hx hb dL_law_327 rfl (lv_at hl 3 rfl) ?_
  refine lv_iconst (v := 3) hx hb dL_law_328 (by decide) ?_
  refine lv_iadd hx hb dL_law_329 ?_
  refine lw_sld Y w (j := 3) rfl (by omega) dL_law_330 ?_
  refine lv_aload_n hx hb dL_law_331 rfl (lv_at hl 0 rfl) ?_
  refine lv_iload_n hx hb dL_law_332 rfl (lv_at hl 3 rfl) ?_
  refine lv_iconst (v := 4) hx hb dL_law_333 (by decide) ?_
  refine lv_iadd hx hb dL_law_334 ?_
  refine lw_sld Y w (j := 4) rfl (by omega) dL_law_335 ?_
  refine lv_aload_n hx hb dL_law_336 rfl (lv_at hl 0 rfl) ?_
  refine lv_iload_n hx hb dL_law_337 rfl (lv_at hl 3 rfl) ?_
  refine lv_iconst (v := 5) hx hb dL_law_338 (by decide) ?_
  refine lv_iadd hx hb dL_law_339 ?_
  refine lw_sld Y w (j := 5) rfl (by omega) dL_law_340 ?_
  refine hg_viF (r := (sp_copy M (xs (i + 1)) (xs (i + 2)) (xs (i + 3)) (xs (i + 4)) (xs (i + 5))).1) (As := [.int (xs (i + 1)), .int (xs (i + 2)), .int (xs (i + 3)), .int (xs (i + 4)), .int (xs (i + 5))]) (rest := [.int ((cs_copy C (xs (i + 1)) (xs (i + 2)) (xs (i + 3)) (xs (i + 4)) (xs (i + 5))).1)]) X w (c_X12_copy l D b0 (L) ((ob_W D F oa ((cs_copy C (xs (i + 1)) (xs (i + 2)) (xs (i + 3)) (xs (i + 4)) (xs (i + 5))).2) mk im mk ad n (M 0))) mo ma M hmo2 hZ.1 (xs (i + 1)) (xs (i + 2)) (xs (i + 3)) (xs (i + 4)) (xs (i + 5))) (cwV 5 hts gL_law_X12_copy rfl rfl rfl hdL_X12_copy ⟨Nat.le_of_ble_eq_true rfl, Nat.le_of_ble_eq_true rfl⟩) hmo2.1 (mo_at0 D _ mo ma M) rfl rfl rfl hl.1 rfl (Nat.le_of_ble_eq_true rfl) dL_law_341 ⟨by show cells ≤ 600000; omega, by show slots ≤ 7302250; omega⟩ (fun H locs w => ?_)
  refine lv_icmp_eq (tgt := 1324) hx hb dL_law_344 (by decide) (fun _ => ?_) (fun z => absurd hr z)
  refine W.widen (k := cells + 10) (n := slots + 64) (by omega) (by omega) ?_
  exact kk _ _ H locs hlc w
theorem hdL_X11_drop : yX11_drop.cls = RX11 ∧ yX11_drop.cls ≠ "java/lang/invoke/MethodHandle" ∧ yX11_drop.cls ≠ "java/lang/invoke/VarHandle" ∧ (parseMethodDescriptor yX11_drop.desc).map (fun d => d.parameters.length) = some 1 := by decide +kernel
theorem hdL_X12_drop : yX12_drop.cls = RX12 ∧ yX12_drop.cls ≠ "java/lang/invoke/MethodHandle" ∧ yX12_drop.cls ≠ "java/lang/invoke/VarHandle" ∧ (parseMethodDescriptor yX12_drop.desc).map (fun d => d.parameters.length) = some 1 := by decide +kernel
set_option maxRecDepth 100000 in
set_option maxHeartbeats 4000000 in
theorem lc_drop {p : Program} {l : Launch} {e : Env} {s : State} {m : MethodId} {args : Array Value} {below : List Frame} {meth : Method} {c : Code} {H : Heap} {locs : List Loc} {cells slots : Nat} {Q : State → Prop} {D : va_G} {b0 : Nat} {L : List Nat} {F : Nat → va_E} {ls : Array Slot} {b Ls i x mo : Nat} {xs : Nat → Int32} {ma : Nat → Nat} (Y : lw_C p s m args c D b0 b Ls xs i) (hl : lv_has ls 4 [(0, .ref b), (1, .ref x), (2, .ref mo), (3, .int (nI i))]) (h : lc_I D L F x mo ma) (w : hg_W D b0 L F s.heap H locs) (hc : cells + 10 ≤ 600000) (hsl : slots + 64 ≤ 7302250) (kk : ∀ (L' : List Nat) (F' : Nat → va_E) (H : Heap) (locs : List Loc), lc_I D L' F' x mo ma → hg_W D b0 L' F' s.heap H locs → W p l e room_1 s m args below meth c H locs (cells + 10) (slots + 64) Q (F0 m 1324 ls [])) : W p l e room_1 s m args below meth c H locs cells slots Q (F0 m 349 ls []) := by
  obtain ⟨oa, C, M, mk, ad, n, nr, im, col, rfl, hw⟩ := h
  have X := Y.1
  obtain ⟨hx, hb, hml, hown, hts⟩ := id X.1
  obtain ⟨k1, k2, k3, ho, hm, hmo0, k7, k8, k9, k10, a, hI⟩ := id hw
  obtain ⟨hE, hZ, ⟨t, ht1, ht⟩, hR, ⟨ha, ha24⟩, ⟨s0, h12⟩, hV, hth, hG⟩ := id hI
  have hs := hV.1.1
  have htt := hV.1.2.1
  have hv := mk_ok_of hs htt
  have h4 := ag_I4 hI
  have hC1 : C 1 0 = nI a := by rw [hE 1 (by unfold ag_key; omega)]; exact ha
  have hC9 : C 9 0 = nI t := by rw [hE 9 (by unfold ag_key; omega)]; exact ht
  have hsz : cs_szs C := by unfold cs_szs; rw [hE 4 (by unfold ag_key; omega)]; exact hZ.1
  have w : hg_W D b0 L (ob_W D F oa C mk im mk ad n (M 0)) s.heap H locs := by rw [wl_W hw]; exact w
  refine lv_aload_n hx hb dL_law_349 rfl (lv_at hl 1 rfl) ?_
  refine lv_aload_n hx hb dL_law_350 rfl (lv_at hl 0 rfl) ?_
  refine lv_iload_n hx hb dL_law_351 rfl (lv_at hl 3 rfl) ?_
  refine lv_iconst (v := 1) hx hb dL_law_352 (by decide) ?_
  refine lv_iadd hx hb dL_law_353 ?_
  refine lw_sld Y w (j := 1) rfl (by omega) dL_law_354 ?_
  refine hg_viF (r := (cs_drop C (xs (i + 1))).1) (As := [.int (xs (i + 1))]) (rest := []) X w (c_X11_drop l D b0 L F oa C im mk ad n (M 0) hm hs ho (xs (i + 1))) (cwV 1 hts gL_law_X11_drop rfl rfl rfl hdL_X11_drop ⟨Nat.le_of_ble_eq_true rfl, Nat.le_of_ble_eq_true rfl⟩) (ho.1 0 (by decide)).1 (ow_at ho (k := 0) (by decide)) rfl rfl rfl hl.1 rfl (Nat.le_of_ble_eq_true rfl) dL_law_355 ⟨by show cells ≤ 600000; omega, by show slots ≤ 7302250; omega⟩ (fun H locs w => ?_)
  have hP : wl_P D L (oa 0) mo ma M ((cs_drop C (xs (i + 1))).1) (L, (ob_W D F oa ((cs_drop C (xs (i + 1))).2) mk im mk ad n (M 0))) (sp_drop M (xs (i + 1))) := wl_P_o3 hw (ag_t_drop hI (xs (i + 1)))
  obtain ⟨hr, hmo, hLL, hlc⟩ := hP
  have hmo2 := mo_ok_L hmo0 hLL
  have w : hg_W D b0 (L) (mo_F D ((ob_W D F oa ((cs_drop C (xs (i + 1))).2) mk im mk ad n (M 0))) mo ma M) s.heap H locs := by rw [mo_self hmo]; exact w
  refine lv_aload_n hx hb dL_law_358 rfl (lv_at hl 2 rfl) ?_
  refine lv_aload_n hx hb dL_law_359 rfl (lv_at hl 0 rfl) ?_
  refine lv_iload_n hx hb dL_law_360 rfl (lv_at hl 3 rfl) ?_
  refine lv_iconst (v := 1) hx hb dL_law_361 (by decide) ?_
  refine lv_iadd hx hb dL_law_362 ?_
  refine lw_sld Y w (j := 1) rfl (by omega) dL_law_363 ?_
  refine hg_viF (r := (sp_drop M (xs (i + 1))).1) (As := [.int (xs (i + 1))]) (rest := [.int ((cs_drop C (xs (i + 1))).1)]) X w (c_X12_drop l D b0 (L) ((ob_W D F oa ((cs_drop C (xs (i + 1))).2) mk im mk ad n (M 0))) mo ma M hmo2 (xs (i + 1))) (cwV 1 hts gL_law_X12_drop rfl rfl rfl hdL_X12_drop ⟨Nat.le_of_ble_eq_true rfl, Nat.le_of_ble_eq_true rfl⟩) hmo2.1 (mo_at0 D _ mo ma M) rfl rfl rfl hl.1 rfl (Nat.le_of_ble_eq_true rfl) dL_law_364 ⟨by show cells ≤ 600000; omega, by show slots ≤ 7302250; omega⟩ (fun H locs w => ?_)
  refine lv_icmp_eq (tgt := 1324) hx hb dL_law_367 (by decide) (fun _ => ?_) (fun z => absurd hr z)
  refine W.widen (k := cells + 10) (n := slots + 64) (by omega) (by omega) ?_
  exact kk _ _ H locs hlc w
theorem hdL_X11_feed : yX11_feed.cls = RX11 ∧ yX11_feed.cls ≠ "java/lang/invoke/MethodHandle" ∧ yX11_feed.cls ≠ "java/lang/invoke/VarHandle" ∧ (parseMethodDescriptor yX11_feed.desc).map (fun d => d.parameters.length) = some 1 := by decide +kernel
theorem hdL_X12_feed : yX12_feed.cls = RX12 ∧ yX12_feed.cls ≠ "java/lang/invoke/MethodHandle" ∧ yX12_feed.cls ≠ "java/lang/invoke/VarHandle" ∧ (parseMethodDescriptor yX12_feed.desc).map (fun d => d.parameters.length) = some 1 := by decide +kernel
set_option maxRecDepth 100000 in
set_option maxHeartbeats 4000000 in
theorem lc_feed {p : Program} {l : Launch} {e : Env} {s : State} {m : MethodId} {args : Array Value} {below : List Frame} {meth : Method} {c : Code} {H : Heap} {locs : List Loc} {cells slots : Nat} {Q : State → Prop} {D : va_G} {b0 : Nat} {L : List Nat} {F : Nat → va_E} {ls : Array Slot} {b Ls i x mo : Nat} {xs : Nat → Int32} {ma : Nat → Nat} (Y : lw_C p s m args c D b0 b Ls xs i) (hl : lv_has ls 4 [(0, .ref b), (1, .ref x), (2, .ref mo), (3, .int (nI i))]) (h : lc_I D L F x mo ma) (w : hg_W D b0 L F s.heap H locs) (hc : cells + 10 ≤ 600000) (hsl : slots + 64 ≤ 7302250) (kk : ∀ (L' : List Nat) (F' : Nat → va_E) (H : Heap) (locs : List Loc), lc_I D L' F' x mo ma → hg_W D b0 L' F' s.heap H locs → W p l e room_1 s m args below meth c H locs (cells + 10) (slots + 64) Q (F0 m 1324 ls [])) : W p l e room_1 s m args below meth c H locs cells slots Q (F0 m 372 ls []) := by
  obtain ⟨oa, C, M, mk, ad, n, nr, im, col, rfl, hw⟩ := h
  have X := Y.1
  obtain ⟨hx, hb, hml, hown, hts⟩ := id X.1
  obtain ⟨k1, k2, k3, ho, hm, hmo0, k7, k8, k9, k10, a, hI⟩ := id hw
  obtain ⟨hE, hZ, ⟨t, ht1, ht⟩, hR, ⟨ha, ha24⟩, ⟨s0, h12⟩, hV, hth, hG⟩ := id hI
  have hs := hV.1.1
  have htt := hV.1.2.1
  have hv := mk_ok_of hs htt
  have h4 := ag_I4 hI
  have hC1 : C 1 0 = nI a := by rw [hE 1 (by unfold ag_key; omega)]; exact ha
  have hC9 : C 9 0 = nI t := by rw [hE 9 (by unfold ag_key; omega)]; exact ht
  have hsz : cs_szs C := by unfold cs_szs; rw [hE 4 (by unfold ag_key; omega)]; exact hZ.1
  have w : hg_W D b0 L (ob_W D F oa C mk im mk ad n (M 0)) s.heap H locs := by rw [wl_W hw]; exact w
  refine lv_aload_n hx hb dL_law_372 rfl (lv_at hl 1 rfl) ?_
  refine lv_aload_n hx hb dL_law_373 rfl (lv_at hl 0 rfl) ?_
  refine lv_iload_n hx hb dL_law_374 rfl (lv_at hl 3 rfl) ?_
  refine lv_iconst (v := 1) hx hb dL_law_375 (by decide) ?_
  refine lv_iadd hx hb dL_law_376 ?_
  refine lw_sld Y w (j := 1) rfl (by omega) dL_law_377 ?_
  refine hg_viF (r := (cs_feed C (xs (i + 1))).1) (As := [.int (xs (i + 1))]) (rest := []) X w (c_X11_feed l D b0 L F oa C im mk ad n (M 0) hm hs ho t ht1 hC9 (xs (i + 1))) (cwV 1 hts gL_law_X11_feed rfl rfl rfl hdL_X11_feed ⟨Nat.le_of_ble_eq_true rfl, Nat.le_of_ble_eq_true rfl⟩) (ho.1 0 (by decide)).1 (ow_at ho (k := 0) (by decide)) rfl rfl rfl hl.1 rfl (Nat.le_of_ble_eq_true rfl) dL_law_378 ⟨by show cells ≤ 600000; omega, by show slots ≤ 7302250; omega⟩ (fun H locs w => ?_)
  have hP : wl_P D L (oa 0) mo ma M ((cs_feed C (xs (i + 1))).1) (L, (ob_W D F oa ((cs_feed C (xs (i + 1))).2) mk im mk ad n (M 0))) (sp_feed M (xs (i + 1))) := wl_P_o3 hw (ag_t_feed hI (xs (i + 1)))
  obtain ⟨hr, hmo, hLL, hlc⟩ := hP
  have hmo2 := mo_ok_L hmo0 hLL
  have w : hg_W D b0 (L) (mo_F D ((ob_W D F oa ((cs_feed C (xs (i + 1))).2) mk im mk ad n (M 0))) mo ma M) s.heap H locs := by rw [mo_self hmo]; exact w
  refine lv_aload_n hx hb dL_law_381 rfl (lv_at hl 2 rfl) ?_
  refine lv_aload_n hx hb dL_law_382 rfl (lv_at hl 0 rfl) ?_
  refine lv_iload_n hx hb dL_law_383 rfl (lv_at hl 3 rfl) ?_
  refine lv_iconst (v := 1) hx hb dL_law_384 (by decide) ?_
  refine lv_iadd hx hb dL_law_385 ?_
  refine lw_sld Y w (j := 1) rfl (by omega) dL_law_386 ?_
  refine hg_viF (r := (sp_feed M (xs (i + 1))).1) (As := [.int (xs (i + 1))]) (rest := [.int ((cs_feed C (xs (i + 1))).1)]) X w (c_X12_feed l D b0 (L) ((ob_W D F oa ((cs_feed C (xs (i + 1))).2) mk im mk ad n (M 0))) mo ma M hmo2 t ht ht1 (xs (i + 1))) (cwV 1 hts gL_law_X12_feed rfl rfl rfl hdL_X12_feed ⟨Nat.le_of_ble_eq_true rfl, Nat.le_of_ble_eq_true rfl⟩) hmo2.1 (mo_at0 D _ mo ma M) rfl rfl rfl hl.1 rfl (Nat.le_of_ble_eq_true rfl) dL_law_387 ⟨by show cells ≤ 600000; omega, by show slots ≤ 7302250; omega⟩ (fun H locs w => ?_)
  refine lv_icmp_eq (tgt := 1324) hx hb dL_law_390 (by decide) (fun _ => ?_) (fun z => absurd hr z)
  refine W.widen (k := cells + 10) (n := slots + 64) (by omega) (by omega) ?_
  exact kk _ _ H locs hlc w
theorem hdL_X11_market : yX11_market.cls = RX11 ∧ yX11_market.cls ≠ "java/lang/invoke/MethodHandle" ∧ yX11_market.cls ≠ "java/lang/invoke/VarHandle" ∧ (parseMethodDescriptor yX11_market.desc).map (fun d => d.parameters.length) = some 0 := by decide +kernel
theorem hdL_X12_market : yX12_market.cls = RX12 ∧ yX12_market.cls ≠ "java/lang/invoke/MethodHandle" ∧ yX12_market.cls ≠ "java/lang/invoke/VarHandle" ∧ (parseMethodDescriptor yX12_market.desc).map (fun d => d.parameters.length) = some 0 := by decide +kernel
set_option maxRecDepth 100000 in
set_option maxHeartbeats 4000000 in
theorem lc_market {p : Program} {l : Launch} {e : Env} {s : State} {m : MethodId} {args : Array Value} {below : List Frame} {meth : Method} {c : Code} {H : Heap} {locs : List Loc} {cells slots : Nat} {Q : State → Prop} {D : va_G} {b0 : Nat} {L : List Nat} {F : Nat → va_E} {ls : Array Slot} {b Ls i x mo : Nat} {xs : Nat → Int32} {ma : Nat → Nat} (Y : lw_C p s m args c D b0 b Ls xs i) (hl : lv_has ls 4 [(0, .ref b), (1, .ref x), (2, .ref mo), (3, .int (nI i))]) (h : lc_I D L F x mo ma) (w : hg_W D b0 L F s.heap H locs) (hc : cells + 10 ≤ 600000) (hsl : slots + 64 ≤ 7302250) (kk : ∀ (L' : List Nat) (F' : Nat → va_E) (H : Heap) (locs : List Loc), lc_I D L' F' x mo ma → hg_W D b0 L' F' s.heap H locs → W p l e room_1 s m args below meth c H locs (cells + 10) (slots + 64) Q (F0 m 1324 ls [])) : W p l e room_1 s m args below meth c H locs cells slots Q (F0 m 395 ls []) := by
  obtain ⟨oa, C, M, mk, ad, n, nr, im, col, rfl, hw⟩ := h
  have X := Y.1
  obtain ⟨hx, hb, hml, hown, hts⟩ := id X.1
  obtain ⟨k1, k2, k3, ho, hm, hmo0, k7, k8, k9, k10, a, hI⟩ := id hw
  obtain ⟨hE, hZ, ⟨t, ht1, ht⟩, hR, ⟨ha, ha24⟩, ⟨s0, h12⟩, hV, hth, hG⟩ := id hI
  have hs := hV.1.1
  have htt := hV.1.2.1
  have hv := mk_ok_of hs htt
  have h4 := ag_I4 hI
  have hC1 : C 1 0 = nI a := by rw [hE 1 (by unfold ag_key; omega)]; exact ha
  have hC9 : C 9 0 = nI t := by rw [hE 9 (by unfold ag_key; omega)]; exact ht
  have hsz : cs_szs C := by unfold cs_szs; rw [hE 4 (by unfold ag_key; omega)]; exact hZ.1
  have w : hg_W D b0 L (ob_W D F oa C mk im mk ad n (M 0)) s.heap H locs := by rw [wl_W hw]; exact w
  refine lv_aload_n hx hb dL_law_395 rfl (lv_at hl 1 rfl) ?_
  refine hg_vi (As := []) (rest := []) X w (c_X11_market l D b0 L F oa C im mk ad n (M 0) hm hs ho ) (cwV 0 hts gL_law_X11_market rfl rfl rfl hdL_X11_market ⟨Nat.le_of_ble_eq_true rfl, Nat.le_of_ble_eq_true rfl⟩) (ho.1 0 (by decide)).1 (ow_at ho (k := 0) (by decide)) rfl rfl rfl hl.1 rfl (Nat.le_of_ble_eq_true rfl) dL_law_396 ⟨by show cells + 10 ≤ 600000; omega, by show slots + 64 ≤ 7302250; omega⟩ (fun r u H locs hp w => ?_)
  have hP : wl_P D L (oa 0) mo ma M r u (sp_market M t s0) := wl_P_market hw ht ht1 hp
  obtain ⟨hr, hmo, hLL, hlc⟩ := hP
  have hmo2 := mo_ok_L hmo0 hLL
  have w : hg_W D b0 (u.1) (mo_F D (u.2) mo ma M) s.heap H locs := by rw [mo_self hmo]; exact w
  refine lv_aload_n hx hb dL_law_399 rfl (lv_at hl 2 rfl) ?_
  refine hg_viF (r := (sp_market M t s0).1) (As := []) (rest := [.int (r)]) X w (c_X12_market l D b0 (u.1) (u.2) mo ma M hmo2 t ht ht1 s0 h12 ) (cwV 0 hts gL_law_X12_market rfl rfl rfl hdL_X12_market ⟨Nat.le_of_ble_eq_true rfl, Nat.le_of_ble_eq_true rfl⟩) hmo2.1 (mo_at0 D _ mo ma M) rfl rfl rfl hl.1 rfl (Nat.le_of_ble_eq_true rfl) dL_law_400 ⟨by show cells + 10 ≤ 600000; omega, by show slots + 64 ≤ 7302250; omega⟩ (fun H locs w => ?_)
  refine lv_icmp_eq (tgt := 1324) hx hb dL_law_403 (by decide) (fun _ => ?_) (fun z => absurd hr z)
  refine W.widen (k := cells + 10) (n := slots + 64) (by omega) (by omega) ?_
  exact kk _ _ H locs hlc w
theorem hdL_X11_fault : yX11_fault.cls = RX11 ∧ yX11_fault.cls ≠ "java/lang/invoke/MethodHandle" ∧ yX11_fault.cls ≠ "java/lang/invoke/VarHandle" ∧ (parseMethodDescriptor yX11_fault.desc).map (fun d => d.parameters.length) = some 0 := by decide +kernel
theorem hdL_X12_fault : yX12_fault.cls = RX12 ∧ yX12_fault.cls ≠ "java/lang/invoke/MethodHandle" ∧ yX12_fault.cls ≠ "java/lang/invoke/VarHandle" ∧ (parseMethodDescriptor yX12_fault.desc).map (fun d => d.parameters.length) = some 0 := by decide +kernel
set_option maxRecDepth 100000 in
set_option maxHeartbeats 4000000 in
theorem lc_fault {p : Program} {l : Launch} {e : Env} {s : State} {m : MethodId} {args : Array Value} {below : List Frame} {meth : Method} {c : Code} {H : Heap} {locs : List Loc} {cells slots : Nat} {Q : State → Prop} {D : va_G} {b0 : Nat} {L : List Nat} {F : Nat → va_E} {ls : Array Slot} {b Ls i x mo : Nat} {xs : Nat → Int32} {ma : Nat → Nat} (Y : lw_C p s m args c D b0 b Ls xs i) (hl : lv_has ls 4 [(0, .ref b), (1, .ref x), (2, .ref mo), (3, .int (nI i))]) (h : lc_I D L F x mo ma) (w : hg_W D b0 L F s.heap H locs) (hc : cells + 10 ≤ 600000) (hsl : slots + 64 ≤ 7302250) (kk : ∀ (L' : List Nat) (F' : Nat → va_E) (H : Heap) (locs : List Loc), lc_I D L' F' x mo ma → hg_W D b0 L' F' s.heap H locs → W p l e room_1 s m args below meth c H locs (cells + 10) (slots + 64) Q (F0 m 1324 ls [])) : W p l e room_1 s m args below meth c H locs cells slots Q (F0 m 408 ls []) := by
  obtain ⟨oa, C, M, mk, ad, n, nr, im, col, rfl, hw⟩ := h
  have X := Y.1
  obtain ⟨hx, hb, hml, hown, hts⟩ := id X.1
  obtain ⟨k1, k2, k3, ho, hm, hmo0, k7, k8, k9, k10, a, hI⟩ := id hw
  obtain ⟨hE, hZ, ⟨t, ht1, ht⟩, hR, ⟨ha, ha24⟩, ⟨s0, h12⟩, hV, hth, hG⟩ := id hI
  have hs := hV.1.1
  have htt := hV.1.2.1
  have hv := mk_ok_of hs htt
  have h4 := ag_I4 hI
  have hC1 : C 1 0 = nI a := by rw [hE 1 (by unfold ag_key; omega)]; exact ha
  have hC9 : C 9 0 = nI t := by rw [hE 9 (by unfold ag_key; omega)]; exact ht
  have hsz : cs_szs C := by unfold cs_szs; rw [hE 4 (by unfold ag_key; omega)]; exact hZ.1
  have w : hg_W D b0 L (ob_W D F oa C mk im mk ad n (M 0)) s.heap H locs := by rw [wl_W hw]; exact w
  refine lv_aload_n hx hb dL_law_408 rfl (lv_at hl 1 rfl) ?_
  refine hg_viF (r := (C 10 0)) (As := []) (rest := []) X w (c_X11_fault l D b0 L F oa C im mk ad n (M 0) hm hs ho ) (cwV 0 hts gL_law_X11_fault rfl rfl rfl hdL_X11_fault ⟨Nat.le_of_ble_eq_true rfl, Nat.le_of_ble_eq_true rfl⟩) (ho.1 0 (by decide)).1 (ow_at ho (k := 0) (by decide)) rfl rfl rfl hl.1 rfl (Nat.le_of_ble_eq_true rfl) dL_law_409 ⟨by show cells ≤ 600000; omega, by show slots ≤ 7302250; omega⟩ (fun H locs w => ?_)
  have hP : wl_P D L (oa 0) mo ma M ((C 10 0)) (L, (ob_W D F oa C mk im mk ad n (M 0))) ((M 10 0, M)) := wl_P_q hw hI (by rw [hE 10 (by unfold ag_key; omega)])
  obtain ⟨hr, hmo, hLL, hlc⟩ := hP
  have hmo2 := mo_ok_L hmo0 hLL
  have w : hg_W D b0 (L) (mo_F D ((ob_W D F oa C mk im mk ad n (M 0))) mo ma M) s.heap H locs := by rw [mo_self hmo]; exact w
  refine lv_aload_n hx hb dL_law_412 rfl (lv_at hl 2 rfl) ?_
  refine hg_viF (r := (M 10 0)) (As := []) (rest := [.int ((C 10 0))]) X w (c_X12_fault l D b0 (L) ((ob_W D F oa C mk im mk ad n (M 0))) mo ma M hmo2 ) (cwV 0 hts gL_law_X12_fault rfl rfl rfl hdL_X12_fault ⟨Nat.le_of_ble_eq_true rfl, Nat.le_of_ble_eq_true rfl⟩) hmo2.1 (mo_at0 D _ mo ma M) rfl rfl rfl hl.1 rfl (Nat.le_of_ble_eq_true rfl) dL_law_413 ⟨by show cells ≤ 600000; omega, by show slots ≤ 7302250; omega⟩ (fun H locs w => ?_)
  refine lv_icmp_eq (tgt := 1324) hx hb dL_law_416 (by decide) (fun _ => ?_) (fun z => absurd hr z)
  refine W.widen (k := cells + 10) (n := slots + 64) (by omega) (by omega) ?_
  exact kk _ _ H locs hlc w
theorem hdL_X11_undo : yX11_undo.cls = RX11 ∧ yX11_undo.cls ≠ "java/lang/invoke/MethodHandle" ∧ yX11_undo.cls ≠ "java/lang/invoke/VarHandle" ∧ (parseMethodDescriptor yX11_undo.desc).map (fun d => d.parameters.length) = some 0 := by decide +kernel
theorem hdL_X12_undo : yX12_undo.cls = RX12 ∧ yX12_undo.cls ≠ "java/lang/invoke/MethodHandle" ∧ yX12_undo.cls ≠ "java/lang/invoke/VarHandle" ∧ (parseMethodDescriptor yX12_undo.desc).map (fun d => d.parameters.length) = some 0 := by decide +kernel
set_option maxRecDepth 100000 in
set_option maxHeartbeats 4000000 in
theorem lc_undo {p : Program} {l : Launch} {e : Env} {s : State} {m : MethodId} {args : Array Value} {below : List Frame} {meth : Method} {c : Code} {H : Heap} {locs : List Loc} {cells slots : Nat} {Q : State → Prop} {D : va_G} {b0 : Nat} {L : List Nat} {F : Nat → va_E} {ls : Array Slot} {b Ls i x mo : Nat} {xs : Nat → Int32} {ma : Nat → Nat} (Y : lw_C p s m args c D b0 b Ls xs i) (hl : lv_has ls 4 [(0, .ref b), (1, .ref x), (2, .ref mo), (3, .int (nI i))]) (h : lc_I D L F x mo ma) (w : hg_W D b0 L F s.heap H locs) (hc : cells + 10 ≤ 600000) (hsl : slots + 64 ≤ 7302250) (kk : ∀ (L' : List Nat) (F' : Nat → va_E) (H : Heap) (locs : List Loc), lc_I D L' F' x mo ma → hg_W D b0 L' F' s.heap H locs → W p l e room_1 s m args below meth c H locs (cells + 10) (slots + 64) Q (F0 m 1324 ls [])) : W p l e room_1 s m args below meth c H locs cells slots Q (F0 m 421 ls []) := by
  obtain ⟨oa, C, M, mk, ad, n, nr, im, col, rfl, hw⟩ := h
  have X := Y.1
  obtain ⟨hx, hb, hml, hown, hts⟩ := id X.1
  obtain ⟨k1, k2, k3, ho, hm, hmo0, k7, k8, k9, k10, a, hI⟩ := id hw
  obtain ⟨hE, hZ, ⟨t, ht1, ht⟩, hR, ⟨ha, ha24⟩, ⟨s0, h12⟩, hV, hth, hG⟩ := id hI
  have hs := hV.1.1
  have htt := hV.1.2.1
  have hv := mk_ok_of hs htt
  have h4 := ag_I4 hI
  have hC1 : C 1 0 = nI a := by rw [hE 1 (by unfold ag_key; omega)]; exact ha
  have hC9 : C 9 0 = nI t := by rw [hE 9 (by unfold ag_key; omega)]; exact ht
  have hsz : cs_szs C := by unfold cs_szs; rw [hE 4 (by unfold ag_key; omega)]; exact hZ.1
  have w : hg_W D b0 L (ob_W D F oa C mk im mk ad n (M 0)) s.heap H locs := by rw [wl_W hw]; exact w
  refine lv_aload_n hx hb dL_law_421 rfl (lv_at hl 1 rfl) ?_
  refine hg_viF (r := (cs_undo C a).1) (As := []) (rest := []) X w (c_X11_undo l D b0 L F oa C im mk ad n (M 0) hm hs ho a ha24 hC1 ) (cwV 0 hts gL_law_X11_undo rfl rfl rfl hdL_X11_undo ⟨Nat.le_of_ble_eq_true rfl, Nat.le_of_ble_eq_true rfl⟩) (ho.1 0 (by decide)).1 (ow_at ho (k := 0) (by decide)) rfl rfl rfl hl.1 rfl (Nat.le_of_ble_eq_true rfl) dL_law_422 ⟨by show cells ≤ 600000; omega, by show slots ≤ 7302250; omega⟩ (fun H locs w => ?_)
  have hP : wl_P D L (oa 0) mo ma M ((cs_undo C a).1) (L, (ob_W D F oa ((cs_undo C a).2) mk im mk ad n (cs_undoG C (M 0) n a))) (sp_undo M a) := wl_P_o3 hw (ag_undo hI)
  obtain ⟨hr, hmo, hLL, hlc⟩ := hP
  have hmo2 := mo_ok_L hmo0 hLL
  have w : hg_W D b0 (L) (mo_F D ((ob_W D F oa ((cs_undo C a).2) mk im mk ad n (cs_undoG C (M 0) n a))) mo ma M) s.heap H locs := by rw [mo_self hmo]; exact w
  refine lv_aload_n hx hb dL_law_425 rfl (lv_at hl 2 rfl) ?_
  refine hg_viF (r := (sp_undo M a).1) (As := []) (rest := [.int ((cs_undo C a).1)]) X w (c_X12_undo l D b0 (L) ((ob_W D F oa ((cs_undo C a).2) mk im mk ad n (cs_undoG C (M 0) n a))) mo ma M hmo2 a ha ha24 ) (cwV 0 hts gL_law_X12_undo rfl rfl rfl hdL_X12_undo ⟨Nat.le_of_ble_eq_true rfl, Nat.le_of_ble_eq_true rfl⟩) hmo2.1 (mo_at0 D _ mo ma M) rfl rfl rfl hl.1 rfl (Nat.le_of_ble_eq_true rfl) dL_law_426 ⟨by show cells ≤ 600000; omega, by show slots ≤ 7302250; omega⟩ (fun H locs w => ?_)
  refine lv_icmp_eq (tgt := 1324) hx hb dL_law_429 (by decide) (fun _ => ?_) (fun z => absurd hr z)
  refine W.widen (k := cells + 10) (n := slots + 64) (by omega) (by omega) ?_
  exact kk _ _ H locs hlc w
theorem hdL_X11_buyers : yX11_buyers.cls = RX11 ∧ yX11_buyers.cls ≠ "java/lang/invoke/MethodHandle" ∧ yX11_buyers.cls ≠ "java/lang/invoke/VarHandle" ∧ (parseMethodDescriptor yX11_buyers.desc).map (fun d => d.parameters.length) = some 2 := by decide +kernel
theorem hdL_X12_buyers : yX12_buyers.cls = RX12 ∧ yX12_buyers.cls ≠ "java/lang/invoke/MethodHandle" ∧ yX12_buyers.cls ≠ "java/lang/invoke/VarHandle" ∧ (parseMethodDescriptor yX12_buyers.desc).map (fun d => d.parameters.length) = some 2 := by decide +kernel
set_option maxRecDepth 100000 in
set_option maxHeartbeats 4000000 in
theorem lc_buyers {p : Program} {l : Launch} {e : Env} {s : State} {m : MethodId} {args : Array Value} {below : List Frame} {meth : Method} {c : Code} {H : Heap} {locs : List Loc} {cells slots : Nat} {Q : State → Prop} {D : va_G} {b0 : Nat} {L : List Nat} {F : Nat → va_E} {ls : Array Slot} {b Ls i x mo : Nat} {xs : Nat → Int32} {ma : Nat → Nat} (Y : lw_C p s m args c D b0 b Ls xs i) (hl : lv_has ls 4 [(0, .ref b), (1, .ref x), (2, .ref mo), (3, .int (nI i))]) (h : lc_I D L F x mo ma) (w : hg_W D b0 L F s.heap H locs) (hc : cells + 10 ≤ 600000) (hsl : slots + 64 ≤ 7302250) (kk : ∀ (L' : List Nat) (F' : Nat → va_E) (H : Heap) (locs : List Loc), lc_I D L' F' x mo ma → hg_W D b0 L' F' s.heap H locs → W p l e room_1 s m args below meth c H locs (cells + 10) (slots + 64) Q (F0 m 1324 ls [])) : W p l e room_1 s m args below meth c H locs cells slots Q (F0 m 434 ls []) := by
  obtain ⟨oa, C, M, mk, ad, n, nr, im, col, rfl, hw⟩ := h
  have X := Y.1
  obtain ⟨hx, hb, hml, hown, hts⟩ := id X.1
  obtain ⟨k1, k2, k3, ho, hm, hmo0, k7, k8, k9, k10, a, hI⟩ := id hw
  obtain ⟨hE, hZ, ⟨t, ht1, ht⟩, hR, ⟨ha, ha24⟩, ⟨s0, h12⟩, hV, hth, hG⟩ := id hI
  have hs := hV.1.1
  have htt := hV.1.2.1
  have hv := mk_ok_of hs htt
  have h4 := ag_I4 hI
  have hC1 : C 1 0 = nI a := by rw [hE 1 (by unfold ag_key; omega)]; exact ha
  have hC9 : C 9 0 = nI t := by rw [hE 9 (by unfold ag_key; omega)]; exact ht
  have hsz : cs_szs C := by unfold cs_szs; rw [hE 4 (by unfold ag_key; omega)]; exact hZ.1
  have w : hg_W D b0 L (ob_W D F oa C mk im mk ad n (M 0)) s.heap H locs := by rw [wl_W hw]; exact w
  refine lv_aload_n hx hb dL_law_434 rfl (lv_at hl 1 rfl) ?_
  refine lv_aload_n hx hb dL_law_435 rfl (lv_at hl 0 rfl) ?_
  refine lv_iload_n hx hb dL_law_436 rfl (lv_at hl 3 rfl) ?_
  refine lv_iconst (v := 1) hx hb dL_law_437 (by decide) ?_
  refine lv_iadd hx hb dL_law_438 ?_
  refine lw_sld Y w (j := 1) rfl (by omega) dL_law_439 ?_
  refine lv_aload_n hx hb dL_law_440 rfl (lv_at hl 0 rfl) ?_
  refine lv_iload_n hx hb dL_law_441 rfl (lv_at hl 3 rfl) ?_
  refine lv_iconst (v := 2) hx hb dL_law_442 (by decide) ?_
  refine lv_iadd hx hb dL_law_443 ?_
  refine lw_sld Y w (j := 2) rfl (by omega) dL_law_444 ?_
  refine hg_viF (r := (cs_buyers C (M 0) a (xs (i + 1)) (xs (i + 2))).1) (As := [.int (xs (i + 1)), .int (xs (i + 2))]) (rest := []) X w (c_X11_buyers l D b0 L F oa C im mk ad n (M 0) hm hs ho a ha24 hC1 (xs (i + 1)) (xs (i + 2))) (cwV 2 hts gL_law_X11_buyers rfl rfl rfl hdL_X11_buyers ⟨Nat.le_of_ble_eq_true rfl, Nat.le_of_ble_eq_true rfl⟩) (ho.1 0 (by decide)).1 (ow_at ho (k := 0) (by decide)) rfl rfl rfl hl.1 rfl (Nat.le_of_ble_eq_true rfl) dL_law_445 ⟨by show cells ≤ 600000; omega, by show slots ≤ 7302250; omega⟩ (fun H locs w => ?_)
  have hP : wl_P D L (oa 0) mo ma M ((cs_buyers C (M 0) a (xs (i + 1)) (xs (i + 2))).1) (L, (ob_W D F oa ((cs_buyers C (M 0) a (xs (i + 1)) (xs (i + 2))).2.1) mk im mk ad n ((cs_buyers C (M 0) a (xs (i + 1)) (xs (i + 2))).2.2))) (sp_buyers M a (xs (i + 1)) (xs (i + 2))) := wl_P_ord hw (P := cs_buyers C (M 0) a (xs (i + 1)) (xs (i + 2))) (ag_buyers hI (xs (i + 1)) (xs (i + 2)))
  obtain ⟨hr, hmo, hLL, hlc⟩ := hP
  have hmo2 := mo_ok_L hmo0 hLL
  have w : hg_W D b0 (L) (mo_F D ((ob_W D F oa ((cs_buyers C (M 0) a (xs (i + 1)) (xs (i + 2))).2.1) mk im mk ad n ((cs_buyers C (M 0) a (xs (i + 1)) (xs (i + 2))).2.2))) mo ma M) s.heap H locs := by rw [mo_self hmo]; exact w
  refine lv_aload_n hx hb dL_law_448 rfl (lv_at hl 2 rfl) ?_
  refine lv_aload_n hx hb dL_law_449 rfl (lv_at hl 0 rfl) ?_
  refine lv_iload_n hx hb dL_law_450 rfl (lv_at hl 3 rfl) ?_
  refine lv_iconst (v := 1) hx hb dL_law_451 (by decide) ?_
  refine lv_iadd hx hb dL_law_452 ?_
  refine lw_sld Y w (j := 1) rfl (by omega) dL_law_453 ?_
  refine lv_aload_n hx hb dL_law_454 rfl (lv_at hl 0 rfl) ?_
  refine lv_iload_n hx hb dL_law_455 rfl (lv_at hl 3 rfl) ?_
  refine lv_iconst (v := 2) hx hb dL_law_456 (by decide) ?_
  refine lv_iadd hx hb dL_law_457 ?_
  refine lw_sld Y w (j := 2) rfl (by omega) dL_law_458 ?_
  refine hg_viF (r := (sp_buyers M a (xs (i + 1)) (xs (i + 2))).1) (As := [.int (xs (i + 1)), .int (xs (i + 2))]) (rest := [.int ((cs_buyers C (M 0) a (xs (i + 1)) (xs (i + 2))).1)]) X w (c_X12_buyers l D b0 (L) ((ob_W D F oa ((cs_buyers C (M 0) a (xs (i + 1)) (xs (i + 2))).2.1) mk im mk ad n ((cs_buyers C (M 0) a (xs (i + 1)) (xs (i + 2))).2.2))) mo ma M hmo2 n nr hv a ha ha24 (xs (i + 1)) (xs (i + 2))) (cwV 2 hts gL_law_X12_buyers rfl rfl rfl hdL_X12_buyers ⟨Nat.le_of_ble_eq_true rfl, Nat.le_of_ble_eq_true rfl⟩) hmo2.1 (mo_at0 D _ mo ma M) rfl rfl rfl hl.1 rfl (Nat.le_of_ble_eq_true rfl) dL_law_459 ⟨by show cells ≤ 600000; omega, by show slots ≤ 7302250; omega⟩ (fun H locs w => ?_)
  refine lv_icmp_eq (tgt := 1324) hx hb dL_law_462 (by decide) (fun _ => ?_) (fun z => absurd hr z)
  refine W.widen (k := cells + 10) (n := slots + 64) (by omega) (by omega) ?_
  exact kk _ _ H locs hlc w
theorem hdL_X11_girl : yX11_girl.cls = RX11 ∧ yX11_girl.cls ≠ "java/lang/invoke/MethodHandle" ∧ yX11_girl.cls ≠ "java/lang/invoke/VarHandle" ∧ (parseMethodDescriptor yX11_girl.desc).map (fun d => d.parameters.length) = some 2 := by decide +kernel
theorem hdL_X12_girl : yX12_girl.cls = RX12 ∧ yX12_girl.cls ≠ "java/lang/invoke/MethodHandle" ∧ yX12_girl.cls ≠ "java/lang/invoke/VarHandle" ∧ (parseMethodDescriptor yX12_girl.desc).map (fun d => d.parameters.length) = some 2 := by decide +kernel
set_option maxRecDepth 100000 in
set_option maxHeartbeats 4000000 in
theorem lc_girl {p : Program} {l : Launch} {e : Env} {s : State} {m : MethodId} {args : Array Value} {below : List Frame} {meth : Method} {c : Code} {H : Heap} {locs : List Loc} {cells slots : Nat} {Q : State → Prop} {D : va_G} {b0 : Nat} {L : List Nat} {F : Nat → va_E} {ls : Array Slot} {b Ls i x mo : Nat} {xs : Nat → Int32} {ma : Nat → Nat} (Y : lw_C p s m args c D b0 b Ls xs i) (hl : lv_has ls 4 [(0, .ref b), (1, .ref x), (2, .ref mo), (3, .int (nI i))]) (h : lc_I D L F x mo ma) (w : hg_W D b0 L F s.heap H locs) (hc : cells + 10 ≤ 600000) (hsl : slots + 64 ≤ 7302250) (kk : ∀ (L' : List Nat) (F' : Nat → va_E) (H : Heap) (locs : List Loc), lc_I D L' F' x mo ma → hg_W D b0 L' F' s.heap H locs → W p l e room_1 s m args below meth c H locs (cells + 10) (slots + 64) Q (F0 m 1324 ls [])) : W p l e room_1 s m args below meth c H locs cells slots Q (F0 m 467 ls []) := by
  obtain ⟨oa, C, M, mk, ad, n, nr, im, col, rfl, hw⟩ := h
  have X := Y.1
  obtain ⟨hx, hb, hml, hown, hts⟩ := id X.1
  obtain ⟨k1, k2, k3, ho, hm, hmo0, k7, k8, k9, k10, a, hI⟩ := id hw
  obtain ⟨hE, hZ, ⟨t, ht1, ht⟩, hR, ⟨ha, ha24⟩, ⟨s0, h12⟩, hV, hth, hG⟩ := id hI
  have hs := hV.1.1
  have htt := hV.1.2.1
  have hv := mk_ok_of hs htt
  have h4 := ag_I4 hI
  have hC1 : C 1 0 = nI a := by rw [hE 1 (by unfold ag_key; omega)]; exact ha
  have hC9 : C 9 0 = nI t := by rw [hE 9 (by unfold ag_key; omega)]; exact ht
  have hsz : cs_szs C := by unfold cs_szs; rw [hE 4 (by unfold ag_key; omega)]; exact hZ.1
  have w : hg_W D b0 L (ob_W D F oa C mk im mk ad n (M 0)) s.heap H locs := by rw [wl_W hw]; exact w
  refine lv_aload_n hx hb dL_law_467 rfl (lv_at hl 1 rfl) ?_
  refine lv_aload_n hx hb dL_law_468 rfl (lv_at hl 0 rfl) ?_
  refine lv_iload_n hx hb dL_law_469 rfl (lv_at hl 3 rfl) ?_
  refine lv_iconst (v := 1) hx hb dL_law_470 (by decide) ?_
  refine lv_iadd hx hb dL_law_471 ?_
  refine lw_sld Y w (j := 1) rfl (by omega) dL_law_472 ?_
  refine lv_aload_n hx hb dL_law_473 rfl (lv_at hl 0 rfl) ?_
  refine lv_iload_n hx hb dL_law_474 rfl (lv_at hl 3 rfl) ?_
  refine lv_iconst (v := 2) hx hb dL_law_475 (by decide) ?_
  refine lv_iadd hx hb dL_law_476 ?_
  refine lw_sld Y w (j := 2) rfl (by omega) dL_law_477 ?_
  refine hg_viF (r := (cs_girl C (M 0) a (xs (i + 1)) (xs (i + 2))).1) (As := [.int (xs (i + 1)), .int (xs (i + 2))]) (rest := []) X w (c_X11_girl l D b0 L F oa C im mk ad n (M 0) hm hs ho a ha24 hC1 (xs (i + 1)) (xs (i + 2))) (cwV 2 hts gL_law_X11_girl rfl rfl rfl hdL_X11_girl ⟨Nat.le_of_ble_eq_true rfl, Nat.le_of_ble_eq_true rfl⟩) (ho.1 0 (by decide)).1 (ow_at ho (k := 0) (by decide)) rfl rfl rfl hl.1 rfl (Nat.le_of_ble_eq_true rfl) dL_law_478 ⟨by show cells ≤ 600000; omega, by show slots ≤ 7302250; omega⟩ (fun H locs w => ?_)
  have hP : wl_P D L (oa 0) mo ma M ((cs_girl C (M 0) a (xs (i + 1)) (xs (i + 2))).1) (L, (ob_W D F oa ((cs_girl C (M 0) a (xs (i + 1)) (xs (i + 2))).2.1) mk im mk ad n ((cs_girl C (M 0) a (xs (i + 1)) (xs (i + 2))).2.2))) (sp_girl M a (xs (i + 1)) (xs (i + 2))) := wl_P_ord hw (P := cs_girl C (M 0) a (xs (i + 1)) (xs (i + 2))) (ag_girl hI (xs (i + 1)) (xs (i + 2)))
  obtain ⟨hr, hmo, hLL, hlc⟩ := hP
  have hmo2 := mo_ok_L hmo0 hLL
  have w : hg_W D b0 (L) (mo_F D ((ob_W D F oa ((cs_girl C (M 0) a (xs (i + 1)) (xs (i + 2))).2.1) mk im mk ad n ((cs_girl C (M 0) a (xs (i + 1)) (xs (i + 2))).2.2))) mo ma M) s.heap H locs := by rw [mo_self hmo]; exact w
  refine lv_aload_n hx hb dL_law_481 rfl (lv_at hl 2 rfl) ?_
  refine lv_aload_n hx hb dL_law_482 rfl (lv_at hl 0 rfl) ?_
  refine lv_iload_n hx hb dL_law_483 rfl (lv_at hl 3 rfl) ?_
  refine lv_iconst (v := 1) hx hb dL_law_484 (by decide) ?_
  refine lv_iadd hx hb dL_law_485 ?_
  refine lw_sld Y w (j := 1) rfl (by omega) dL_law_486 ?_
  refine lv_aload_n hx hb dL_law_487 rfl (lv_at hl 0 rfl) ?_
  refine lv_iload_n hx hb dL_law_488 rfl (lv_at hl 3 rfl) ?_
  refine lv_iconst (v := 2) hx hb dL_law_489 (by decide) ?_
  refine lv_iadd hx hb dL_law_490 ?_
  refine lw_sld Y w (j := 2) rfl (by omega) dL_law_491 ?_
  refine hg_viF (r := (sp_girl M a (xs (i + 1)) (xs (i + 2))).1) (As := [.int (xs (i + 1)), .int (xs (i + 2))]) (rest := [.int ((cs_girl C (M 0) a (xs (i + 1)) (xs (i + 2))).1)]) X w (c_X12_girl l D b0 (L) ((ob_W D F oa ((cs_girl C (M 0) a (xs (i + 1)) (xs (i + 2))).2.1) mk im mk ad n ((cs_girl C (M 0) a (xs (i + 1)) (xs (i + 2))).2.2))) mo ma M hmo2 n nr hv a ha ha24 (xs (i + 1)) (xs (i + 2))) (cwV 2 hts gL_law_X12_girl rfl rfl rfl hdL_X12_girl ⟨Nat.le_of_ble_eq_true rfl, Nat.le_of_ble_eq_true rfl⟩) hmo2.1 (mo_at0 D _ mo ma M) rfl rfl rfl hl.1 rfl (Nat.le_of_ble_eq_true rfl) dL_law_492 ⟨by show cells ≤ 600000; omega, by show slots ≤ 7302250; omega⟩ (fun H locs w => ?_)
  refine lv_icmp_eq (tgt := 1324) hx hb dL_law_495 (by decide) (fun _ => ?_) (fun z => absurd hr z)
  refine W.widen (k := cells + 10) (n := slots + 64) (by omega) (by omega) ?_
  exact kk _ _ H locs hlc w
