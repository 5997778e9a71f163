theorem hdX1_afterWind : yX1_afterWind.cls ≠ "java/lang/invoke/MethodHandle" ∧ yX1_afterWind.cls ≠ "java/lang/invoke/VarHandle" ∧ (parseMethodDescriptor yX1_afterWind.desc).map (fun d => d.parameters.length) = some 4 := by decide +kernel
set_option maxRecDepth 100000 in
set_option maxHeartbeats 4000000 in
theorem c_X11_wind (l : Launch) (D : va_G) (b0 : Nat) (L : List Nat) (f : Nat → va_E) (oa : Nat → Nat) (C : Nat → Nat → Int32) (im : Nat → Option Nat) (mk : Nat) (ad : Nat → Nat) (n : Nat) (g : Nat → Int32) (hm : mk_ok L mk ad n) (hs : mk_sr g n) (ho : ob_ok L oa mk ad n) (nr : Nat) (ht : mk_t g nr) (hours seed rope : Int32) : hg_Mi l yX11_wind wsX11_wind ({ frames := 6, cells := 1, slots := 3, locals := 143 }) D b0 L (ob_W D f oa C mk im mk ad n g) [.ref (oa 0), .int (hours), .int (seed), .int (rope)] (fun r u => r = cq_wind g n nr hours seed rope ∧ (u = (L, ob_W D f oa C mk im mk ad n g) ∨ ∃ q x, q ∉ L ∧ u = (L ++ [q], va_up (ob_W D f oa C mk im mk ad n g) q x))) 1 3 := by
  refine hg_in_i (cc := cX11_wind) (nL := 4) (by decide) rfl (Nat.le_of_ble_eq_true rfl) (fun p e s m args below meth c R Q X hR hend H locs ls w hl => ?_)
  subst hR
  obtain ⟨hx, hb, hml, hown, hts⟩ := id X.1
  have hin : mk_in wsX11_wind := ⟨fun w h => List.mem_cons_of_mem _ (List.mem_append_left _ (List.mem_append_left _ (List.mem_append_left _ (List.mem_append_left _ (List.mem_append_right _ h))))), fun w h => List.mem_cons_of_mem _ (List.mem_append_left _ (List.mem_append_left _ (List.mem_append_left _ (List.mem_append_right _ h)))), fun w h => List.mem_cons_of_mem _ (List.mem_append_left _ (List.mem_append_left _ (List.mem_append_right _ h))), fun w h => List.mem_cons_of_mem _ (List.mem_append_left _ (List.mem_append_right _ h)), fun w h => List.mem_cons_of_mem _ (List.mem_append_right _ h)⟩
  have hin3 : ∀ w ∈ wsX30, w ∈ wsX11_wind := fun w h => List.mem_cons_of_mem _ (List.mem_append_left _ (List.mem_append_left _ (List.mem_append_left _ (List.mem_append_left _ (List.mem_append_left _ (List.mem_append_right _ h))))))
  have hin11 : ∀ w ∈ wsX110, w ∈ wsX11_wind := fun w h => List.mem_cons_of_mem _ (List.mem_append_left _ (List.mem_append_left _ (List.mem_append_left _ (List.mem_append_left _ (List.mem_append_left _ (List.mem_append_left _ (List.mem_append_right _ h)))))))
  have hl : lv_has ls 4 [(0, .ref (oa 0)), (1, .int (hours)), (2, .int (seed)), (3, .int (rope))] := hl
  refine lv_aload_n hx hb dX11_wind_0 rfl (lv_at hl 0 rfl) ?_
  refine hg_viF (r := (if g 2 = 0 then 1 else 0)) (As := []) (rest := []) X w (c_X11_noMarket l D b0 L f oa C im mk ad n g hm hs ho ) (cwV 0 hts gX11_wind_X11_noMarket rfl rfl rfl hdX11_noMarket ⟨Nat.le_of_ble_eq_true rfl, Nat.le_of_ble_eq_true rfl⟩) (ho.1 0 (by decide)).1 (ow_at ho (k := 0) (by decide)) rfl rfl rfl hl.1 rfl (Nat.le_of_ble_eq_true rfl) dX11_wind_1 ⟨Nat.zero_le _, Nat.zero_le _⟩ (fun H locs w => ?_)
  refine lv_if_eq (tgt := 10) hx hb dX11_wind_4 (by decide) (fun c_4 => ?_) (fun c_4 => ?_)
  · refine lv_iload_n hx hb dX11_wind_10 rfl (lv_at hl 1 rfl) ?_
    refine lv_if_lt (tgt := 45) hx hb dX11_wind_11 (by decide) (fun c_11 => ?_) (fun c_11 => ?_)
    · refine lv_ldc (v := (-1000001)) hx hb hown (hts _ (List.mem_of_getElem? (i := 3) rfl)) dX11_wind_45 ?_
      refine W.widen (k := 1) (n := 3) (by omega) (by omega) ?_
      exact hend H locs (-1000001) (L, ob_W D f oa C mk im mk ad n g) _ ls w ⟨(cq_wind_B (hs_if0 c_4) (Or.inl c_11)).symm, Or.inl rfl⟩ rfl dX11_wind_47
    · refine lv_iload_n hx hb dX11_wind_14 rfl (lv_at hl 1 rfl) ?_
      refine lv_bipush (v := 40) hx hb dX11_wind_15 (by decide) ?_
      refine lv_icmp_gt (tgt := 45) hx hb dX11_wind_17 (by decide) (fun c_17 => ?_) (fun c_17 => ?_)
      · refine lv_ldc (v := (-1000001)) hx hb hown (hts _ (List.mem_of_getElem? (i := 3) rfl)) dX11_wind_45 ?_
        refine W.widen (k := 1) (n := 3) (by omega) (by omega) ?_
        exact hend H locs (-1000001) (L, ob_W D f oa C mk im mk ad n g) _ ls w ⟨(cq_wind_B (hs_if0 c_4) (Or.inr (Or.inl c_17))).symm, Or.inl rfl⟩ rfl dX11_wind_47
      · refine lv_iload_n hx hb dX11_wind_20 rfl (lv_at hl 2 rfl) ?_
        refine lv_iconst (v := 1) hx hb dX11_wind_21 (by decide) ?_
        refine lv_icmp_lt (tgt := 45) hx hb dX11_wind_22 (by decide) (fun c_22 => ?_) (fun c_22 => ?_)
        · refine lv_ldc (v := (-1000001)) hx hb hown (hts _ (List.mem_of_getElem? (i := 3) rfl)) dX11_wind_45 ?_
          refine W.widen (k := 1) (n := 3) (by omega) (by omega) ?_
          exact hend H locs (-1000001) (L, ob_W D f oa C mk im mk ad n g) _ ls w ⟨(cq_wind_B (hs_if0 c_4) (Or.inr (Or.inr (Or.inl c_22)))).symm, Or.inl rfl⟩ rfl dX11_wind_47
        · refine lv_iload_n hx hb dX11_wind_25 rfl (lv_at hl 2 rfl) ?_
          refine lv_ldcw (v := 999999) hx hb hown (hts _ (List.mem_of_getElem? (i := 2) rfl)) dX11_wind_26 ?_
          refine lv_icmp_gt (tgt := 45) hx hb dX11_wind_29 (by decide) (fun c_29 => ?_) (fun c_29 => ?_)
          · refine lv_ldc (v := (-1000001)) hx hb hown (hts _ (List.mem_of_getElem? (i := 3) rfl)) dX11_wind_45 ?_
            refine W.widen (k := 1) (n := 3) (by omega) (by omega) ?_
            exact hend H locs (-1000001) (L, ob_W D f oa C mk im mk ad n g) _ ls w ⟨(cq_wind_B (hs_if0 c_4) (Or.inr (Or.inr (Or.inr (Or.inl c_29))))).symm, Or.inl rfl⟩ rfl dX11_wind_47
          · refine lv_iload_n hx hb dX11_wind_32 rfl (lv_at hl 3 rfl) ?_
            refine lv_iconst (v := (-1)) hx hb dX11_wind_33 (by decide) ?_
            refine lv_icmp_eq (tgt := 48) hx hb dX11_wind_34 (by decide) (fun c_34 => ?_) (fun c_34 => ?_)
            · refine lv_aload_n hx hb dX11_wind_48 rfl (lv_at hl 0 rfl) ?_
              refine ob_get X w ho 0 (by decide) (C0 := RX11) (T := TX11) (N := 12) (ci := 9) rfl hin11 rfl 9 (by decide) (List.mem_of_getElem? (i := 4) rfl) rfl rfl dX11_wind_49 ?_
              refine lv_iload_n hx hb dX11_wind_52 rfl (lv_at hl 1 rfl) ?_
              refine lv_iload_n hx hb dX11_wind_53 rfl (lv_at hl 2 rfl) ?_
              refine lv_iload_n hx hb dX11_wind_54 rfl (lv_at hl 3 rfl) ?_
              obtain ⟨h, hh0, rfl⟩ := nI_of c_11
              have hh : h ≤ 40 := by
                rcases Nat.lt_or_ge 40 h with z | z
                · exact absurd (nI_lt (a := 40) (b := h) z (by omega)) c_17
                · exact z
              refine hg_si (As := [.ref mk, .int (nI h), .int (seed), .int (rope)]) (rest := []) X w (c_X1_afterWind l D b0 L (ob_F D f oa C mk im) mk ad n g hm hs nr ht h hh seed rope) (va_cwS 4 hts gX11_wind_X1_afterWind rfl rfl rfl hdX1_afterWind ⟨Nat.le_of_ble_eq_true rfl, Nat.le_of_ble_eq_true rfl⟩) rfl hl.1 rfl (Nat.le_of_ble_eq_true rfl) dX11_wind_55 ⟨(Nat.le_of_ble_eq_true rfl), (Nat.le_of_ble_eq_true rfl)⟩ (fun v0 u0 H locs hp w => ?_)
              obtain ⟨hv0, q, hq, rfl⟩ := hp
              refine (show W p l e _ s m args below meth c H locs 1 3 Q (F0 m 58 ls [.int v0]) from ?_)
              have w : hg_W D b0 (L ++ [q]) (va_up (ob_W D f oa C mk im mk ad n g) q (.inl (D.1 11, 3, .inl (mk_ta g)))) s.heap H locs := by
                rw [ob_W, mk_upo (fun e => hq (by rw [e]; exact hm.1)) (fun j hj e => hq (by rw [← e]; exact (hm.2.1 j hj).1))]
                exact w
              exact hend H locs v0 (L ++ [q], va_up (ob_W D f oa C mk im mk ad n g) q (.inl (D.1 11, 3, .inl (mk_ta g)))) _ ls w ⟨by rw [hv0, cq_wind_Y (hs_if0 c_4) hh c_22 c_29 (Or.inl c_34)], Or.inr ⟨q, _, hq, rfl⟩⟩ rfl dX11_wind_58
            · refine lv_aload_n hx hb dX11_wind_37 rfl (lv_at hl 0 rfl) ?_
              refine lv_iload_n hx hb dX11_wind_38 rfl (lv_at hl 3 rfl) ?_
              refine hg_viF (r := (if hs_isRo g rope = 0 then 1 else 0)) (As := [.int (rope)]) (rest := []) X w (c_X11_noRope l D b0 L f oa C im mk ad n g hm hs ho nr ht rope) (cwV 1 hts gX11_wind_X11_noRope rfl rfl rfl hdX11_noRope ⟨Nat.le_of_ble_eq_true rfl, Nat.le_of_ble_eq_true rfl⟩) (ho.1 0 (by decide)).1 (ow_at ho (k := 0) (by decide)) rfl rfl rfl hl.1 rfl (Nat.le_of_ble_eq_true rfl) dX11_wind_39 ⟨Nat.zero_le _, Nat.zero_le _⟩ (fun H locs w => ?_)
              refine lv_if_eq (tgt := 48) hx hb dX11_wind_42 (by decide) (fun c_42 => ?_) (fun c_42 => ?_)
              · refine lv_aload_n hx hb dX11_wind_48 rfl (lv_at hl 0 rfl) ?_
                refine ob_get X w ho 0 (by decide) (C0 := RX11) (T := TX11) (N := 12) (ci := 9) rfl hin11 rfl 9 (by decide) (List.mem_of_getElem? (i := 4) rfl) rfl rfl dX11_wind_49 ?_
                refine lv_iload_n hx hb dX11_wind_52 rfl (lv_at hl 1 rfl) ?_
                refine lv_iload_n hx hb dX11_wind_53 rfl (lv_at hl 2 rfl) ?_
                refine lv_iload_n hx hb dX11_wind_54 rfl (lv_at hl 3 rfl) ?_
                obtain ⟨h, hh0, rfl⟩ := nI_of c_11
                have hh : h ≤ 40 := by
                  rcases Nat.lt_or_ge 40 h with z | z
                  · exact absurd (nI_lt (a := 40) (b := h) z (by omega)) c_17
                  · exact z
                refine hg_si (As := [.ref mk, .int (nI h), .int (seed), .int (rope)]) (rest := []) X w (c_X1_afterWind l D b0 L (ob_F D f oa C mk im) mk ad n g hm hs nr ht h hh seed rope) (va_cwS 4 hts gX11_wind_X1_afterWind rfl rfl rfl hdX1_afterWind ⟨Nat.le_of_ble_eq_true rfl, Nat.le_of_ble_eq_true rfl⟩) rfl hl.1 rfl (Nat.le_of_ble_eq_true rfl) dX11_wind_55 ⟨(Nat.le_of_ble_eq_true rfl), (Nat.le_of_ble_eq_true rfl)⟩ (fun v0 u0 H locs hp w => ?_)
                obtain ⟨hv0, q, hq, rfl⟩ := hp
                refine (show W p l e _ s m args below meth c H locs 1 3 Q (F0 m 58 ls [.int v0]) from ?_)
                have w : hg_W D b0 (L ++ [q]) (va_up (ob_W D f oa C mk im mk ad n g) q (.inl (D.1 11, 3, .inl (mk_ta g)))) s.heap H locs := by
                  rw [ob_W, mk_upo (fun e => hq (by rw [e]; exact hm.1)) (fun j hj e => hq (by rw [← e]; exact (hm.2.1 j hj).1))]
                  exact w
                exact hend H locs v0 (L ++ [q], va_up (ob_W D f oa C mk im mk ad n g) q (.inl (D.1 11, 3, .inl (mk_ta g)))) _ ls w ⟨by rw [hv0, cq_wind_Y (hs_if0 c_4) hh c_22 c_29 (Or.inr (hs_if0 c_42))], Or.inr ⟨q, _, hq, rfl⟩⟩ rfl dX11_wind_58
              · refine lv_ldc (v := (-1000001)) hx hb hown (hts _ (List.mem_of_getElem? (i := 3) rfl)) dX11_wind_45 ?_
                refine W.widen (k := 1) (n := 3) (by omega) (by omega) ?_
                exact hend H locs (-1000001) (L, ob_W D f oa C mk im mk ad n g) _ ls w ⟨(cq_wind_B (hs_if0 c_4) (Or.inr (Or.inr (Or.inr (Or.inr ⟨c_34, hs_if1 c_42⟩))))).symm, Or.inl rfl⟩ rfl dX11_wind_47
  · refine lv_ldc (v := (-1000002)) hx hb hown (hts _ (List.mem_of_getElem? (i := 1) rfl)) dX11_wind_7 ?_
    refine W.widen (k := 1) (n := 3) (by omega) (by omega) ?_
    exact hend H locs (-1000002) (L, ob_W D f oa C mk im mk ad n g) _ ls w ⟨(if_pos (hs_if1 c_4)).symm, Or.inl rfl⟩ rfl dX11_wind_9
