theorem hdX8_read : yX8_read.cls = RX8 ∧ yX8_read.cls ≠ "java/lang/invoke/MethodHandle" ∧ yX8_read.cls ≠ "java/lang/invoke/VarHandle" ∧ (parseMethodDescriptor yX8_read.desc).map (fun d => d.parameters.length) = some 0 := by decide +kernel
set_option maxRecDepth 100000 in
set_option maxHeartbeats 4000000 in
theorem c_X11_market (l : Launch) (D : va_G) (b0 : Nat) (L : List Nat) (f : Nat → va_E) (oa : Nat → Nat) (C : Nat → Nat → Int32) (im : Nat → Option Nat) (mk : Nat) (ad : Nat → Nat) (n : Nat) (g : Nat → Int32) (hm : mk_ok L mk ad n) (hs : mk_sr g n) (ho : ob_ok L oa mk ad n) : hg_Mi l yX11_market wsX11_market ({ frames := 7, cells := 10, slots := 64, locals := 140 }) D b0 L (ob_W D f oa C mk im mk ad n g) [.ref (oa 0)] (fun r u => ∃ mk2 ad2 N, mk2 ∉ L ∧ (∀ j, j < (cr_all C).2.2.2 + 2 → ad2 j ∉ L) ∧ mk_ok (L ++ N) mk2 ad2 (cr_all C).2.2.2 ∧ (((cr_all C).1 25 0 = 0 ∧ r = (cr_all C).2.1 3 ∧ u = (L ++ N, ob_W D (mk_F D f mk ad n g) oa (mo_w (mo_w (cr_all C).1 9 0 0) 1 0 0) mk2 im mk2 ad2 (cr_all C).2.2.2 (cr_all C).2.1)) ∨ (¬ (cr_all C).1 25 0 = 0 ∧ r = -1000100 - (cr_all C).1 26 0 ∧ u = (L ++ N, ob_W D (mk_F D f mk ad n g) oa (mo_w (mo_w (cr_all C).1 9 0 0) 10 0 ((cr_all C).1 25 0)) mk im mk2 ad2 (cr_all C).2.2.2 (cr_all C).2.1)))) 10 64 := by
  refine hg_in_i (cc := cX11_market) (nL := 2) (by decide) rfl (Nat.le_of_ble_eq_true rfl) (fun p e s m args below meth c R Q X hR hend H locs ls w hl => ?_)
  subst hR
  obtain ⟨hx, hb, hml, hown, hts⟩ := id X.1
  have hin : mk_in wsX11_market := ⟨fun w h => List.mem_cons_of_mem _ (List.mem_append_left _ (List.mem_append_left _ (List.mem_append_left _ (List.mem_append_left _ (List.mem_append_right _ h))))), fun w h => List.mem_cons_of_mem _ (List.mem_append_left _ (List.mem_append_left _ (List.mem_append_left _ (List.mem_append_right _ h)))), fun w h => List.mem_cons_of_mem _ (List.mem_append_left _ (List.mem_append_left _ (List.mem_append_right _ h))), fun w h => List.mem_cons_of_mem _ (List.mem_append_left _ (List.mem_append_right _ h)), fun w h => List.mem_cons_of_mem _ (List.mem_append_right _ h)⟩
  have hin3 : ∀ w ∈ wsX30, w ∈ wsX11_market := fun w h => List.mem_cons_of_mem _ (List.mem_append_left _ (List.mem_append_left _ (List.mem_append_left _ (List.mem_append_left _ (List.mem_append_left _ (List.mem_append_right _ h))))))
  have hin8 : ∀ w ∈ wsX80, w ∈ wsX11_market := fun w h => List.mem_cons_of_mem _ (List.mem_append_left _ (List.mem_append_left _ (List.mem_append_left _ (List.mem_append_left _ (List.mem_append_left _ (List.mem_append_left _ (List.mem_append_right _ h)))))))
  have hin11 : ∀ w ∈ wsX110, w ∈ wsX11_market := fun w h => List.mem_cons_of_mem _ (List.mem_append_left _ (List.mem_append_left _ (List.mem_append_left _ (List.mem_append_left _ (List.mem_append_left _ (List.mem_append_left _ (List.mem_append_left _ (List.mem_append_right _ h))))))))
  have hl : lv_has ls 2 [(0, .ref (oa 0))] := hl
  refine lv_aload_n hx hb dX11_market_0 rfl (lv_at hl 0 rfl) ?_
  refine ob_get X w ho 0 (by decide) (C0 := RX11) (T := TX11) (N := 12) (ci := 9) rfl hin11 rfl 1 (by decide) (List.mem_of_getElem? (i := 1) rfl) rfl rfl dX11_market_1 ?_
  refine hg_vq (As := []) (rest := []) X w (c_X8_read l D b0 L f oa C mk im mk ad n g hm hs ho) (cwV 0 hts gX11_market_X8_read rfl rfl rfl hdX8_read ⟨Nat.le_of_ble_eq_true rfl, Nat.le_of_ble_eq_true rfl⟩) (ho.1 2 (by decide)).1 (ow_at ho (k := 2) (by decide)) rfl rfl rfl hl.1 rfl (Nat.le_of_ble_eq_true rfl) dX11_market_4 ⟨(Nat.le_of_ble_eq_true rfl), (Nat.le_of_ble_eq_true rfl)⟩ (fun v0 u0 H locs hp w => ?_)
  generalize cr_all C = XX at hend hp
  obtain ⟨mk2, ad2, N, rfl, hmL, haL, hm2, rfl⟩ := hp
  have ho0 := ho
  have w : hg_W D b0 (L ++ N) (mk_F D (ob_W D f oa XX.1 mk im mk ad n g) mk2 ad2 XX.2.2.2 XX.2.1) s.heap H locs := w
  have w : hg_W D b0 (L ++ N) (ob_W D (mk_F D f mk ad n g) oa XX.1 mk im mk2 ad2 XX.2.2.2 XX.2.1) s.heap H locs := by
    show hg_W D b0 (L ++ N) (mk_F D (ob_F D (mk_F D f mk ad n g) oa XX.1 mk im) mk2 ad2 XX.2.2.2 XX.2.1) s.heap H locs
    rw [ob_mk_comm ho0]
    exact w
  have hm := hm2
  have ho := ob_ok_new (N := N) ho0 hmL haL
  refine (show W p l e _ s m args below meth c H locs 10 64 Q (F0 m 7 ls [va_rf (if XX.1 25 0 = 0 then some mk2 else none)]) from ?_)
  by_cases h25 : XX.1 25 0 = 0
  · rw [if_pos h25]
    show W p l e _ s m args below meth c H locs 10 64 Q (F0 m 7 ls [.ref mk2])
    refine lv_astore_n (lv' := [(1, .ref mk2), (0, .ref (oa 0))]) hx hb dX11_market_7 rfl hl (by decide) rfl (fun ls hl => ?_)
    refine lv_aload_n hx hb dX11_market_8 rfl (lv_at hl 1 rfl) ?_
    refine ob_get X w ho 0 (by decide) (C0 := RX11) (T := TX11) (N := 12) (ci := 9) rfl hin11 rfl 1 (by decide) (List.mem_of_getElem? (i := 1) rfl) rfl rfl dX11_market_9 ?_
    refine lv_iconst (v := 0) hx hb dX11_market_12 (by decide) ?_
    refine ob_put X w ho 2 (by decide) (C0 := RX8) (T := TX8) (N := 5) (ci := 6) rfl hin8 tyX8_ok nmX8 rfl 1 (by decide) (List.mem_of_getElem? (i := 2) rfl) rfl rfl rfl (by show _ < 5; decide) 9 0 rfl (ob_o0 _ _ (by decide) 0) dX11_market_13 (fun H locs w => ?_)
    refine lv_aload_n hx hb dX11_market_16 rfl (lv_at hl 0 rfl) ?_
    refine lv_ifnonnull (tgt := 42) hx hb dX11_market_17 (by decide) ?_
    refine lv_aload_n hx hb dX11_market_42 rfl (lv_at hl 1 rfl) ?_
    refine lv_aload_n hx hb dX11_market_43 rfl (lv_at hl 0 rfl) ?_
    refine ob_putm X w ho hin11 (List.mem_of_getElem? (i := 7) rfl) dX11_market_44 (fun H locs w => ?_)
    refine lv_aload_n hx hb dX11_market_47 rfl (lv_at hl 1 rfl) ?_
    refine lv_iconst (v := 0) hx hb dX11_market_48 (by decide) ?_
    refine ob_put X w ho 0 (by decide) (C0 := RX11) (T := TX11) (N := 12) (ci := 9) rfl hin11 tyX11_ok nmX11 rfl 8 (by decide) (List.mem_of_getElem? (i := 8) rfl) rfl rfl rfl (by show _ < 12; decide) 1 0 rfl (ob_o0 _ _ (by decide) 0) dX11_market_49 (fun H locs w => ?_)
    refine lv_aload_n hx hb dX11_market_52 rfl (lv_at hl 0 rfl) ?_
    refine mk_getM X w hm hin3 3 (by decide) (List.mem_of_getElem? (i := 9) rfl) rfl dX11_market_53 ?_
    exact hend H locs (XX.2.1 3) (L ++ N, ob_W D (mk_F D f mk ad n g) oa (mo_w (mo_w (XX.1) 9 0 (0)) 1 0 (0)) mk2 im mk2 ad2 XX.2.2.2 XX.2.1) _ ls w ⟨mk2, ad2, N, hmL, haL, hm2, Or.inl ⟨h25, rfl, rfl⟩⟩ rfl dX11_market_56
  · rw [if_neg h25]
    show W p l e _ s m args below meth c H locs 10 64 Q (F0 m 7 ls [.null])
    refine lv_astore_nN (lv' := [(1, .null), (0, .ref (oa 0))]) hx hb dX11_market_7 rfl hl (by decide) rfl (fun ls hl => ?_)
    refine lv_aload_n hx hb dX11_market_8 rfl (lv_at hl 1 rfl) ?_
    refine ob_get X w ho 0 (by decide) (C0 := RX11) (T := TX11) (N := 12) (ci := 9) rfl hin11 rfl 1 (by decide) (List.mem_of_getElem? (i := 1) rfl) rfl rfl dX11_market_9 ?_
    refine lv_iconst (v := 0) hx hb dX11_market_12 (by decide) ?_
    refine ob_put X w ho 2 (by decide) (C0 := RX8) (T := TX8) (N := 5) (ci := 6) rfl hin8 tyX8_ok nmX8 rfl 1 (by decide) (List.mem_of_getElem? (i := 2) rfl) rfl rfl rfl (by show _ < 5; decide) 9 0 rfl (ob_o0 _ _ (by decide) 0) dX11_market_13 (fun H locs w => ?_)
    refine lv_aload_nN hx hb dX11_market_16 rfl (lv_at hl 0 rfl) ?_
    refine lv_ifnonnullN hx hb dX11_market_17 ?_
    refine lv_aload_n hx hb dX11_market_20 rfl (lv_at hl 1 rfl) ?_
    refine lv_aload_n hx hb dX11_market_21 rfl (lv_at hl 1 rfl) ?_
    refine ob_get X w ho 0 (by decide) (C0 := RX11) (T := TX11) (N := 12) (ci := 9) rfl hin11 rfl 1 (by decide) (List.mem_of_getElem? (i := 1) rfl) rfl rfl dX11_market_22 ?_
    refine ob_get X w ho 2 (by decide) (C0 := RX8) (T := TX8) (N := 5) (ci := 6) rfl hin8 rfl 3 (by decide) (List.mem_of_getElem? (i := 3) rfl) rfl rfl dX11_market_25 ?_
    refine ob_put X w ho 0 (by decide) (C0 := RX11) (T := TX11) (N := 12) (ci := 9) rfl hin11 tyX11_ok nmX11 rfl 10 (by decide) (List.mem_of_getElem? (i := 4) rfl) rfl rfl rfl (by show _ < 12; decide) 10 0 rfl (ob_o0 _ _ (by decide) 0) dX11_market_28 (fun H locs w => ?_)
    refine lv_ldc (v := (-1000100)) hx hb hown (hts _ (List.mem_of_getElem? (i := 5) rfl)) dX11_market_31 ?_
    refine lv_aload_n hx hb dX11_market_33 rfl (lv_at hl 1 rfl) ?_
    refine ob_get X w ho 0 (by decide) (C0 := RX11) (T := TX11) (N := 12) (ci := 9) rfl hin11 rfl 1 (by decide) (List.mem_of_getElem? (i := 1) rfl) rfl rfl dX11_market_34 ?_
    refine ob_get X w ho 2 (by decide) (C0 := RX8) (T := TX8) (N := 5) (ci := 6) rfl hin8 rfl 4 (by decide) (List.mem_of_getElem? (i := 6) rfl) rfl rfl dX11_market_37 ?_
    refine lv_isub hx hb dX11_market_40 ?_
    exact hend H locs (((-1000100) - (mo_w (mo_w (XX.1) 9 0 (0)) 10 0 ((mo_w (XX.1) 9 0 (0)) 25 0)) 26 0)) (L ++ N, ob_W D (mk_F D f mk ad n g) oa (mo_w (mo_w (XX.1) 9 0 (0)) 10 0 ((mo_w (XX.1) 9 0 (0)) 25 0)) mk im mk2 ad2 XX.2.2.2 XX.2.1) _ ls w ⟨mk2, ad2, N, hmL, haL, hm2, Or.inr ⟨h25, rfl, rfl⟩⟩ rfl dX11_market_41
theorem hdX11_noImage : yX11_noImage.cls ≠ "java/lang/invoke/MethodHandle" ∧ yX11_noImage.cls ≠ "java/lang/invoke/VarHandle" ∧ (parseMethodDescriptor yX11_noImage.desc).map (fun d => d.parameters.length) = some 1 := by decide +kernel
theorem hdX3_twin : yX3_twin.cls = RX3 ∧ yX3_twin.cls ≠ "java/lang/invoke/MethodHandle" ∧ yX3_twin.cls ≠ "java/lang/invoke/VarHandle" ∧ (parseMethodDescriptor yX3_twin.desc).map (fun d => d.parameters.length) = some 0 := by decide +kernel
set_option maxRecDepth 100000 in
set_option maxHeartbeats 4000000 in
theorem c_X11_image (l : Launch) (D : va_G) (b0 : Nat) (L : List Nat) (f : Nat → va_E) (oa : Nat → Nat) (C : Nat → Nat → Int32) (im : Nat → Option Nat) (mk : Nat) (ad : Nat → Nat) (n : Nat) (g : Nat → Int32) (hm : mk_ok L mk ad n) (hs : mk_sr g n) (ho : ob_ok L oa mk ad n) (k : Int32) : hg_Mi l yX11_image wsX11_image ({ frames := 7, cells := 9, slots := 57, locals := 136 }) D b0 L (ob_W D f oa C mk im mk ad n g) [.ref (oa 0), .int (k)] (fun r u => (hs_in k 0 1 = 0 ∧ r = hs_BAD ∧ u = (L, ob_W D f oa C mk im mk ad n g)) ∨ (¬ hs_in k 0 1 = 0 ∧ g 2 = 0 ∧ r = hs_STATE ∧ u = (L, ob_W D f oa C mk im mk ad n g)) ∨ ∃ j, j < 2 ∧ k = nI j ∧ ¬ g 2 = 0 ∧ r = 1 ∧ ∃ mk2 ad2 N, mk2 ∉ L ∧ (∀ i, i < n + 2 → ad2 i ∉ L) ∧ mk_ok (L ++ N) mk2 ad2 n ∧ u = (L ++ N, ob_W D (mk_F D f mk ad n g) oa C mk (va_up im j (some mk2)) mk2 ad2 n g)) 9 57 := by
  refine hg_in_i (cc := cX11_image) (nL := 2) (by decide) rfl (Nat.le_of_ble_eq_true rfl) (fun p e s m args below meth c R Q X hR hend H locs ls w hl => ?_)
  subst hR
  obtain ⟨hx, hb, hml, hown, hts⟩ := id X.1
  have hin : mk_in wsX11_image := ⟨fun w h => List.mem_cons_of_mem _ (List.mem_append_left _ (List.mem_append_left _ (List.mem_append_left _ (List.mem_append_left _ (List.mem_append_right _ h))))), fun w h => List.mem_cons_of_mem _ (List.mem_append_left _ (List.mem_append_left _ (List.mem_append_left _ (List.mem_append_right _ h)))), fun w h => List.mem_cons_of_mem _ (List.mem_append_left _ (List.mem_append_left _ (List.mem_append_right _ h))), fun w h => List.mem_cons_of_mem _ (List.mem_append_left _ (List.mem_append_right _ h)), fun w h => List.mem_cons_of_mem _ (List.mem_append_right _ h)⟩
  have hin3 : ∀ w ∈ wsX30, w ∈ wsX11_image := fun w h => List.mem_cons_of_mem _ (List.mem_append_left _ (List.mem_append_left _ (List.mem_append_left _ (List.mem_append_left _ (List.mem_append_left _ (List.mem_append_right _ h))))))
  have hin11 : ∀ w ∈ wsX110, w ∈ wsX11_image := fun w h => List.mem_cons_of_mem _ (List.mem_append_left _ (List.mem_append_left _ (List.mem_append_left _ (List.mem_append_left _ (List.mem_append_left _ (List.mem_append_left _ (List.mem_append_right _ h)))))))
  have hl : lv_has ls 2 [(0, .ref (oa 0)), (1, .int (k))] := hl
  refine lv_iload_n hx hb dX11_image_0 rfl (lv_at hl 1 rfl) ?_
  refine hg_siF (r := (if hs_in k 0 1 = 0 then 1 else 0)) (As := [.int (k)]) (rest := []) X w (c_X11_noImage l D b0 L f oa C im mk ad n g hm hs ho k) (va_cwS 1 hts gX11_image_X11_noImage rfl rfl rfl hdX11_noImage ⟨Nat.le_of_ble_eq_true rfl, Nat.le_of_ble_eq_true rfl⟩) rfl hl.1 rfl (Nat.le_of_ble_eq_true rfl) dX11_image_1 ⟨Nat.zero_le _, Nat.zero_le _⟩ (fun H locs w => ?_)
  refine lv_if_eq (tgt := 10) hx hb dX11_image_4 (by decide) (fun c_4 => ?_) (fun c_4 => ?_)
  · have hin01 : ¬ hs_in k 0 1 = 0 := fun z => absurd c_4 (by rw [if_pos z]; decide)
    obtain ⟨j, hjj, rfl⟩ := hs_in_j (n := 1) (b := 1) rfl (by decide) hin01
    have hjj : j < 2 := by omega
    refine lv_aload_n hx hb dX11_image_10 rfl (lv_at hl 0 rfl) ?_
    refine hg_viF (r := (if g 2 = 0 then 1 else 0)) (As := []) (rest := []) X w (c_X11_noMarket l D b0 L f oa C im mk ad n g hm hs ho ) (cwV 0 hts gX11_image_X11_noMarket rfl rfl rfl hdX11_noMarket ⟨Nat.le_of_ble_eq_true rfl, Nat.le_of_ble_eq_true rfl⟩) (ho.1 0 (by decide)).1 (ow_at ho (k := 0) (by decide)) rfl rfl rfl hl.1 rfl (Nat.le_of_ble_eq_true rfl) dX11_image_11 ⟨Nat.zero_le _, Nat.zero_le _⟩ (fun H locs w => ?_)
    refine lv_if_eq (tgt := 20) hx hb dX11_image_14 (by decide) (fun c_14 => ?_) (fun c_14 => ?_)
    · refine lv_aload_n hx hb dX11_image_20 rfl (lv_at hl 0 rfl) ?_
      refine ob_get X w ho 0 (by decide) (C0 := RX11) (T := TX11) (N := 12) (ci := 9) rfl hin11 rfl 3 (by decide) (List.mem_of_getElem? (i := 3) rfl) rfl rfl dX11_image_21 ?_
      refine lv_iload_n hx hb dX11_image_24 rfl (lv_at hl 1 rfl) ?_
      refine lv_aload_n hx hb dX11_image_25 rfl (lv_at hl 0 rfl) ?_
      refine ob_get X w ho 0 (by decide) (C0 := RX11) (T := TX11) (N := 12) (ci := 9) rfl hin11 rfl 9 (by decide) (List.mem_of_getElem? (i := 4) rfl) rfl rfl dX11_image_26 ?_
      refine hg_vq (As := []) (rest := [.int (nI j), .ref (oa 6)]) X w (c_X3_twin l D b0 L (ob_F D f oa C mk im) mk ad n g hm hs) (cwV 0 hts gX11_image_X3_twin rfl rfl rfl hdX3_twin ⟨Nat.le_of_ble_eq_true rfl, Nat.le_of_ble_eq_true rfl⟩) hm.1 (mk_at0 D _ mk ad n g) rfl rfl rfl hl.1 rfl (Nat.le_of_ble_eq_true rfl) dX11_image_29 ⟨(Nat.le_of_ble_eq_true rfl), (Nat.le_of_ble_eq_true rfl)⟩ (fun v0 u0 H locs hp w => ?_)
      obtain ⟨mk2, ad2, N, rfl, hmL, haL, hm2, rfl⟩ := hp
      have ho0 := ho
      have w : hg_W D b0 (L ++ N) (mk_F D (ob_W D f oa C mk im mk ad n g) mk2 ad2 n g) s.heap H locs := w
      have w : hg_W D b0 (L ++ N) (ob_W D (mk_F D f mk ad n g) oa C mk im mk2 ad2 n g) s.heap H locs := by
        show hg_W D b0 (L ++ N) (mk_F D (ob_F D (mk_F D f mk ad n g) oa C mk im) mk2 ad2 n g) s.heap H locs
        rw [ob_mk_comm ho0]
        exact w
      have hm := hm2
      have ho := ob_ok_new (N := N) ho0 hmL haL
      refine (show W p l e _ s m args below meth c H locs 9 57 Q (F0 m 32 ls (.ref mk2 :: [.int (nI j), .ref (oa 6)])) from ?_)
      refine ob_ist X w ho hm j rfl hjj dX11_image_32 (fun H locs w => ?_)
      refine lv_iconst (v := 1) hx hb dX11_image_33 (by decide) ?_
      exact hend H locs (1) (L ++ N, ob_W D (mk_F D f mk ad n g) oa C mk (va_up im j (some mk2)) mk2 ad2 n g) _ ls w (Or.inr (Or.inr ⟨j, hjj, rfl, hs_if0 c_14, rfl, mk2, ad2, N, hmL, haL, hm2, rfl⟩)) rfl dX11_image_34
    · refine lv_ldc (v := (-1000002)) hx hb hown (hts _ (List.mem_of_getElem? (i := 2) rfl)) dX11_image_17 ?_
      refine W.widen (k := 9) (n := 57) (by omega) (by omega) ?_
      exact hend H locs (-1000002) (L, ob_W D f oa C mk im mk ad n g) _ ls w (Or.inr (Or.inl ⟨hin01, hs_if1 c_14, rfl, rfl⟩)) rfl dX11_image_19
  · refine lv_ldc (v := (-1000001)) hx hb hown (hts _ (List.mem_of_getElem? (i := 1) rfl)) dX11_image_7 ?_
    refine W.widen (k := 9) (n := 57) (by omega) (by omega) ?_
    exact hend H locs (-1000001) (L, ob_W D f oa C mk im mk ad n g) _ ls w (Or.inl ⟨hs_if1 c_4, rfl, rfl⟩) rfl dX11_image_9
set_option maxRecDepth 100000 in
set_option maxHeartbeats 4000000 in
theorem c_X11_restore (l : Launch) (D : va_G) (b0 : Nat) (L : List Nat) (f : Nat → va_E) (oa : Nat → Nat) (C : Nat → Nat → Int32) (im : Nat → Option Nat) (mk : Nat) (ad : Nat → Nat) (n : Nat) (g : Nat → Int32) (hm : mk_ok L mk ad n) (hs : mk_sr g n) (ho : ob_ok L oa mk ad n) (ai : Nat → Nat → Nat) (ni : Nat → Nat) (gi : Nat → Nat → Int32) (hB : ∀ j, j < 2 → ∀ bi, im j = some bi → mk_ok L bi (ai j) (ni j) ∧ mk_sr (gi j) (ni j) ∧ mk_H D (ob_W D f oa C mk im mk ad n g) bi (ai j) (ni j) (gi j)) (k : Int32) : hg_Mi l yX11_restore wsX11_restore ({ frames := 7, cells := 9, slots := 57, locals := 136 }) D b0 L (ob_W D f oa C mk im mk ad n g) [.ref (oa 0), .int (k)] (fun r u => (hs_in k 0 1 = 0 ∧ r = hs_BAD ∧ u = (L, ob_W D f oa C mk im mk ad n g)) ∨ (∃ j, j < 2 ∧ k = nI j ∧ im j = none ∧ r = hs_STATE ∧ u = (L, ob_W D f oa C mk im mk ad n g)) ∨ ∃ j, j < 2 ∧ ∃ bi, k = nI j ∧ im j = some bi ∧ r = 1 ∧ ∃ mk2 ad2 N, mk2 ∉ L ∧ (∀ i, i < ni j + 2 → ad2 i ∉ L) ∧ mk_ok (L ++ N) mk2 ad2 (ni j) ∧ u = (L ++ N, ob_W D (mk_F D f mk ad n g) oa (mo_w C 1 0 0) mk2 im mk2 ad2 (ni j) (gi j))) 9 57 := by
  refine hg_in_i (cc := cX11_restore) (nL := 3) (by decide) rfl (Nat.le_of_ble_eq_true rfl) (fun p e s m args below meth c R Q X hR hend H locs ls w hl => ?_)
  subst hR
  obtain ⟨hx, hb, hml, hown, hts⟩ := id X.1
  have hin : mk_in wsX11_restore := ⟨fun w h => List.mem_cons_of_mem _ (List.mem_append_left _ (List.mem_append_left _ (List.mem_append_left _ (List.mem_append_left _ (List.mem_append_right _ h))))), fun w h => List.mem_cons_of_mem _ (List.mem_append_left _ (List.mem_append_left _ (List.mem_append_left _ (List.mem_append_right _ h)))), fun w h => List.mem_cons_of_mem _ (List.mem_append_left _ (List.mem_append_left _ (List.mem_append_right _ h))), fun w h => List.mem_cons_of_mem _ (List.mem_append_left _ (List.mem_append_right _ h)), fun w h => List.mem_cons_of_mem _ (List.mem_append_right _ h)⟩
  have hin3 : ∀ w ∈ wsX30, w ∈ wsX11_restore := fun w h => List.mem_cons_of_mem _ (List.mem_append_left _ (List.mem_append_left _ (List.mem_append_left _ (List.mem_append_left _ (List.mem_append_left _ (List.mem_append_right _ h))))))
  have hin11 : ∀ w ∈ wsX110, w ∈ wsX11_restore := fun w h => List.mem_cons_of_mem _ (List.mem_append_left _ (List.mem_append_left _ (List.mem_append_left _ (List.mem_append_left _ (List.mem_append_left _ (List.mem_append_left _ (List.mem_append_right _ h)))))))
  have hl : lv_has ls 3 [(0, .ref (oa 0)), (1, .int (k))] := hl
  refine lv_iload_n hx hb dX11_restore_0 rfl (lv_at hl 1 rfl) ?_
  refine hg_siF (r := (if hs_in k 0 1 = 0 then 1 else 0)) (As := [.int (k)]) (rest := []) X w (c_X11_noImage l D b0 L f oa C im mk ad n g hm hs ho k) (va_cwS 1 hts gX11_restore_X11_noImage rfl rfl rfl hdX11_noImage ⟨Nat.le_of_ble_eq_true rfl, Nat.le_of_ble_eq_true rfl⟩) rfl hl.1 rfl (Nat.le_of_ble_eq_true rfl) dX11_restore_1 ⟨Nat.zero_le _, Nat.zero_le _⟩ (fun H locs w => ?_)
  refine lv_if_eq (tgt := 10) hx hb dX11_restore_4 (by decide) (fun c_4 => ?_) (fun c_4 => ?_)
  · have hin01 : ¬ hs_in k 0 1 = 0 := fun z => absurd c_4 (by rw [if_pos z]; decide)
    obtain ⟨j, hjj, rfl⟩ := hs_in_j (n := 1) (b := 1) rfl (by decide) hin01
    have hjj : j < 2 := by omega
    refine lv_aload_n hx hb dX11_restore_10 rfl (lv_at hl 0 rfl) ?_
    refine ob_get X w ho 0 (by decide) (C0 := RX11) (T := TX11) (N := 12) (ci := 9) rfl hin11 rfl 3 (by decide) (List.mem_of_getElem? (i := 2) rfl) rfl rfl dX11_restore_11 ?_
    refine lv_iload_n hx hb dX11_restore_14 rfl (lv_at hl 1 rfl) ?_
    refine ob_iald X w ho j rfl hjj dX11_restore_15 (fun him => ?_) (fun bi him => ?_)
    · refine lv_astore_nN (lv' := [(2, .null), (0, .ref (oa 0)), (1, .int (nI j))]) hx hb dX11_restore_16 rfl hl (by decide) rfl (fun ls hl => ?_)
      refine lv_aload_nN hx hb dX11_restore_17 rfl (lv_at hl 0 rfl) ?_
      refine lv_ifnonnullN hx hb dX11_restore_18 ?_
      refine lv_ldc (v := (-1000002)) hx hb hown (hts _ (List.mem_of_getElem? (i := 3) rfl)) dX11_restore_21 ?_
      refine W.widen (k := 9) (n := 57) (by omega) (by omega) ?_
      exact hend H locs (-1000002) (L, ob_W D f oa C mk im mk ad n g) _ ls w (Or.inr (Or.inl ⟨j, hjj, rfl, him, rfl, rfl⟩)) rfl dX11_restore_23
    · refine lv_astore_n (lv' := [(2, .ref bi), (0, .ref (oa 0)), (1, .int (nI j))]) hx hb dX11_restore_16 rfl hl (by decide) rfl (fun ls hl => ?_)
      refine lv_aload_n hx hb dX11_restore_17 rfl (lv_at hl 0 rfl) ?_
      refine lv_ifnonnull (tgt := 24) hx hb dX11_restore_18 (by decide) ?_
      refine lv_aload_n hx hb dX11_restore_24 rfl (lv_at hl 1 rfl) ?_
      refine lv_aload_n hx hb dX11_restore_25 rfl (lv_at hl 0 rfl) ?_
      obtain ⟨hB1, hB2, hB3⟩ := hB j hjj bi him
      have hw0 := mk_at0 D (ob_W D f oa C mk im mk ad n g) bi (ai j) (ni j) (gi j)
      have w : hg_W D b0 L (mk_F D (ob_W D f oa C mk im mk ad n g) bi (ai j) (ni j) (gi j)) s.heap H locs := by
        rw [mk_self hB3]
        exact w
      refine hg_vq (As := []) (rest := [.ref (oa 0)]) X w (c_X3_twin l D b0 L (ob_W D f oa C mk im mk ad n g) bi (ai j) (ni j) (gi j) hB1 hB2) (cwV 0 hts gX11_restore_X3_twin rfl rfl rfl hdX3_twin ⟨Nat.le_of_ble_eq_true rfl, Nat.le_of_ble_eq_true rfl⟩) hB1.1 hw0 rfl rfl rfl hl.1 rfl (Nat.le_of_ble_eq_true rfl) dX11_restore_26 ⟨(Nat.le_of_ble_eq_true rfl), (Nat.le_of_ble_eq_true rfl)⟩ (fun v0 u0 H locs hp w => ?_)
      obtain ⟨mk2, ad2, N, rfl, hmL, haL, hm2, rfl⟩ := hp
      have ho0 := ho
      have w : hg_W D b0 (L ++ N) (mk_F D (mk_F D (ob_W D f oa C mk im mk ad n g) bi (ai j) (ni j) (gi j)) mk2 ad2 (ni j) (gi j)) s.heap H locs := w
      rw [mk_self hB3] at w
      have w : hg_W D b0 (L ++ N) (ob_W D (mk_F D f mk ad n g) oa C mk im mk2 ad2 (ni j) (gi j)) s.heap H locs := by
        show hg_W D b0 (L ++ N) (mk_F D (ob_F D (mk_F D f mk ad n g) oa C mk im) mk2 ad2 (ni j) (gi j)) s.heap H locs
        rw [ob_mk_comm ho0]
        exact w
      have hm := hm2
      have ho := ob_ok_new (N := N) ho0 hmL haL
      refine (show W p l e _ s m args below meth c H locs 9 57 Q (F0 m 29 ls (.ref mk2 :: [.ref (oa 0)])) from ?_)
      refine ob_putm X w ho hin11 (List.mem_of_getElem? (i := 4) rfl) dX11_restore_29 (fun H locs w => ?_)
      refine lv_aload_n hx hb dX11_restore_32 rfl (lv_at hl 1 rfl) ?_
      refine lv_iconst (v := 0) hx hb dX11_restore_33 (by decide) ?_
      refine ob_put X w ho 0 (by decide) (C0 := RX11) (T := TX11) (N := 12) (ci := 9) rfl hin11 tyX11_ok nmX11 rfl 8 (by decide) (List.mem_of_getElem? (i := 5) rfl) rfl rfl rfl (by show _ < 12; decide) 1 0 rfl (ob_o0 _ _ (by decide) 0) dX11_restore_34 (fun H locs w => ?_)
      refine lv_iconst (v := 1) hx hb dX11_restore_37 (by decide) ?_
      exact hend H locs (1) (L ++ N, ob_W D (mk_F D f mk ad n g) oa (mo_w C 1 0 0) mk2 im mk2 ad2 (ni j) (gi j)) _ ls w (Or.inr (Or.inr ⟨j, hjj, bi, rfl, him, rfl, mk2, ad2, N, hmL, haL, hm2, rfl⟩)) rfl dX11_restore_38
  · refine lv_ldc (v := (-1000001)) hx hb hown (hts _ (List.mem_of_getElem? (i := 1) rfl)) dX11_restore_7 ?_
    refine W.widen (k := 9) (n := 57) (by omega) (by omega) ?_
    exact hend H locs (-1000001) (L, ob_W D f oa C mk im mk ad n g) _ ls w (Or.inl ⟨hs_if1 c_4, rfl, rfl⟩) rfl dX11_restore_9
