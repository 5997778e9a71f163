theorem hdX3_sag : yX3_sag.cls = RX3 ∧ yX3_sag.cls ≠ "java/lang/invoke/MethodHandle" ∧ yX3_sag.cls ≠ "java/lang/invoke/VarHandle" ∧ (parseMethodDescriptor yX3_sag.desc).map (fun d => d.parameters.length) = some 2 := by decide +kernel
set_option maxRecDepth 100000 in
set_option maxHeartbeats 4000000 in
theorem c_X3_depth (l : Launch) (D : va_G) (b0 : Nat) (L : List Nat) (f : Nat → va_E) (mk : Nat) (ad : Nat → Nat) (n : Nat) (g : Nat → Int32) (hm : mk_ok L mk ad n) (hs : mk_sr g n) (nr : Nat) (ht : mk_t g nr) (rope x : Int32) : hg_Fi l yX3_depth wsX3_depth ({ frames := 3, cells := 0, slots := 0, locals := 68 }) D b0 L (mk_F D f mk ad n g) [.ref mk, .int (rope), .int (x)] (hs_depth g n rope x) (mk_F D f mk ad n g) := by
  refine hg_in_i (cc := cX3_depth) (nL := 3) (by decide) rfl (Nat.le_of_ble_eq_true rfl) (fun p e s m args below meth c R Q X hR hend H locs ls w hl => ?_)
  subst hR
  obtain ⟨hx, hb, hml, hown, hts⟩ := id X.1
  have hin : mk_in wsX3_depth := ⟨fun w h => List.mem_cons_of_mem _ (List.mem_append_left _ (List.mem_append_left _ (List.mem_append_left _ (List.mem_append_left _ (List.mem_append_right _ h))))), fun w h => List.mem_cons_of_mem _ (List.mem_append_left _ (List.mem_append_left _ (List.mem_append_left _ (List.mem_append_right _ h)))), fun w h => List.mem_cons_of_mem _ (List.mem_append_left _ (List.mem_append_left _ (List.mem_append_right _ h))), fun w h => List.mem_cons_of_mem _ (List.mem_append_left _ (List.mem_append_right _ h)), fun w h => List.mem_cons_of_mem _ (List.mem_append_right _ h)⟩
  have hin3 : ∀ w ∈ wsX30, w ∈ wsX3_depth := fun w h => List.mem_cons_of_mem _ (List.mem_append_left _ (List.mem_append_left _ (List.mem_append_left _ (List.mem_append_left _ (List.mem_append_left _ (List.mem_append_right _ h))))))
  have hl : lv_has ls 3 [(0, .ref mk), (1, .int (rope)), (2, .int (x))] := hl
  refine lv_aload_n hx hb dX3_depth_0 rfl (lv_at hl 0 rfl) ?_
  refine lv_iload_n hx hb dX3_depth_1 rfl (lv_at hl 1 rfl) ?_
  refine lv_iload_n hx hb dX3_depth_2 rfl (lv_at hl 2 rfl) ?_
  refine hg_viF (r := (hs_sag g n rope x)) (As := [.int (rope), .int (x)]) (rest := []) X w (c_X3_sag l D b0 L f mk ad n g hm hs nr ht rope x) (cwV 2 hts gX3_depth_X3_sag rfl rfl rfl hdX3_sag ⟨Nat.le_of_ble_eq_true rfl, Nat.le_of_ble_eq_true rfl⟩) hm.1 (mk_at0 D f mk ad n _) rfl rfl rfl hl.1 rfl (Nat.le_of_ble_eq_true rfl) dX3_depth_3 ⟨Nat.zero_le _, Nat.zero_le _⟩ (fun H locs w => ?_)
  refine lv_aload_n hx hb dX3_depth_6 rfl (lv_at hl 0 rfl) ?_
  refine lv_iload_n hx hb dX3_depth_7 rfl (lv_at hl 1 rfl) ?_
  refine lv_iconst (v := 1) hx hb dX3_depth_8 (by decide) ?_
  refine lv_isub hx hb dX3_depth_9 ?_
  refine lv_iload_n hx hb dX3_depth_10 rfl (lv_at hl 2 rfl) ?_
  refine hg_viF (r := (hs_sag g n (rope - 1) x)) (As := [.int ((rope - 1)), .int (x)]) (rest := [.int ((hs_sag g n rope x))]) X w (c_X3_sag l D b0 L f mk ad n g hm hs nr ht (rope - 1) x) (cwV 2 hts gX3_depth_X3_sag rfl rfl rfl hdX3_sag ⟨Nat.le_of_ble_eq_true rfl, Nat.le_of_ble_eq_true rfl⟩) hm.1 (mk_at0 D f mk ad n _) rfl rfl rfl hl.1 rfl (Nat.le_of_ble_eq_true rfl) dX3_depth_11 ⟨Nat.zero_le _, Nat.zero_le _⟩ (fun H locs w => ?_)
  refine lv_aload_n hx hb dX3_depth_14 rfl (lv_at hl 0 rfl) ?_
  refine lv_iload_n hx hb dX3_depth_15 rfl (lv_at hl 1 rfl) ?_
  refine lv_iconst (v := 1) hx hb dX3_depth_16 (by decide) ?_
  refine lv_iadd hx hb dX3_depth_17 ?_
  refine lv_iload_n hx hb dX3_depth_18 rfl (lv_at hl 2 rfl) ?_
  refine hg_viF (r := (hs_sag g n (rope + 1) x)) (As := [.int ((rope + 1)), .int (x)]) (rest := [.int ((hs_sag g n (rope - 1) x)), .int ((hs_sag g n rope x))]) X w (c_X3_sag l D b0 L f mk ad n g hm hs nr ht (rope + 1) x) (cwV 2 hts gX3_depth_X3_sag rfl rfl rfl hdX3_sag ⟨Nat.le_of_ble_eq_true rfl, Nat.le_of_ble_eq_true rfl⟩) hm.1 (mk_at0 D f mk ad n _) rfl rfl rfl hl.1 rfl (Nat.le_of_ble_eq_true rfl) dX3_depth_19 ⟨Nat.zero_le _, Nat.zero_le _⟩ (fun H locs w => ?_)
  refine lv_iadd hx hb dX3_depth_22 ?_
  refine lv_iconst (v := 4) hx hb dX3_depth_23 (by decide) ?_
  refine lv_idiv hx hb dX3_depth_24 (by decide) ?_
  refine lv_isub hx hb dX3_depth_25 ?_
  exact hend H locs (((hs_sag g n rope x) - (((hs_sag g n (rope - 1) x) + (hs_sag g n (rope + 1) x)) / 4))) (L, mk_F D f mk ad n g) _ ls w ⟨rfl, rfl⟩ rfl dX3_depth_26
theorem hdX3_depth : yX3_depth.cls = RX3 ∧ yX3_depth.cls ≠ "java/lang/invoke/MethodHandle" ∧ yX3_depth.cls ≠ "java/lang/invoke/VarHandle" ∧ (parseMethodDescriptor yX3_depth.desc).map (fun d => d.parameters.length) = some 2 := by decide +kernel
set_option maxRecDepth 100000 in
set_option maxHeartbeats 4000000 in
theorem c_X3_price (l : Launch) (D : va_G) (b0 : Nat) (L : List Nat) (f : Nat → va_E) (mk : Nat) (ad : Nat → Nat) (n : Nat) (g : Nat → Int32) (hm : mk_ok L mk ad n) (hs : mk_sr g n) (nr : Nat) (ht : mk_t g nr) (i : Nat) (hi : i < n) : hg_Fi l yX3_price wsX3_price ({ frames := 4, cells := 0, slots := 0, locals := 90 }) D b0 L (mk_F D f mk ad n g) [.ref mk, .ref (ad (2 + i))] (hs_price g n i) (mk_F D f mk ad n g) := by
  refine hg_in_i (cc := cX3_price) (nL := 2) (by decide) rfl (Nat.le_of_ble_eq_true rfl) (fun p e s m args below meth c R Q X hR hend H locs ls w hl => ?_)
  subst hR
  obtain ⟨hx, hb, hml, hown, hts⟩ := id X.1
  have hin : mk_in wsX3_price := ⟨fun w h => List.mem_cons_of_mem _ (List.mem_append_left _ (List.mem_append_left _ (List.mem_append_left _ (List.mem_append_left _ (List.mem_append_left _ (List.mem_append_right _ h)))))), fun w h => List.mem_cons_of_mem _ (List.mem_append_left _ (List.mem_append_left _ (List.mem_append_left _ (List.mem_append_left _ (List.mem_append_right _ h))))), fun w h => List.mem_cons_of_mem _ (List.mem_append_left _ (List.mem_append_left _ (List.mem_append_left _ (List.mem_append_right _ h)))), fun w h => List.mem_cons_of_mem _ (List.mem_append_left _ (List.mem_append_left _ (List.mem_append_right _ h))), fun w h => List.mem_cons_of_mem _ (List.mem_append_left _ (List.mem_append_right _ h))⟩
  have hin3 : ∀ w ∈ wsX30, w ∈ wsX3_price := fun w h => List.mem_cons_of_mem _ (List.mem_append_right _ h)
  have hl : lv_has ls 2 [(0, .ref mk), (1, .ref (ad (2 + i)))] := hl
  refine lv_iconst (v := 0) hx hb dX3_price_0 (by decide) ?_
  refine lv_aload_n hx hb dX3_price_1 rfl (lv_at hl 1 rfl) ?_
  refine mk_get X w hm hs hin hi 3 (by decide) (List.mem_of_getElem? (i := 1) rfl) (Or.inl rfl) rfl dX3_price_2 ?_
  refine lv_aload_n hx hb dX3_price_5 rfl (lv_at hl 0 rfl) ?_
  refine lv_aload_n hx hb dX3_price_6 rfl (lv_at hl 1 rfl) ?_
  refine mk_get X w hm hs hin hi 1 (by decide) (List.mem_of_getElem? (i := 2) rfl) (Or.inl rfl) rfl dX3_price_7 ?_
  refine lv_aload_n hx hb dX3_price_10 rfl (lv_at hl 1 rfl) ?_
  refine mk_get X w hm hs hin hi 2 (by decide) (List.mem_of_getElem? (i := 3) rfl) (Or.inl rfl) rfl dX3_price_11 ?_
  refine hg_viF (r := (hs_depth g n (g (14 + i)) (g (20 + i)))) (As := [.int (g (14 + i)), .int (g (20 + i))]) (rest := [.int (g (26 + i)), .int (0)]) X w (c_X3_depth l D b0 L f mk ad n g hm hs nr ht (g (14 + i)) (g (20 + i))) (cwV 2 hts gX3_price_X3_depth rfl rfl rfl hdX3_depth ⟨Nat.le_of_ble_eq_true rfl, Nat.le_of_ble_eq_true rfl⟩) hm.1 (mk_at0 D f mk ad n _) rfl rfl rfl hl.1 rfl (Nat.le_of_ble_eq_true rfl) dX3_price_14 ⟨Nat.zero_le _, Nat.zero_le _⟩ (fun H locs w => ?_)
  refine lv_iconst (v := 5) hx hb dX3_price_17 (by decide) ?_
  refine lv_idiv hx hb dX3_price_18 (by decide) ?_
  refine lv_isub hx hb dX3_price_19 ?_
  refine va_mmax hx hb (hml.trans hl.1.symm) hown (hts _ (List.mem_of_getElem? (i := 4) rfl)) (hts _ (List.mem_of_getElem? (i := 5) rfl)) (hts _ (List.mem_of_getElem? (i := 6) rfl)) (hts _ (List.mem_of_getElem? (i := 7) rfl)) (Nat.le_of_ble_eq_true rfl) (Nat.le_of_ble_eq_true rfl) (Nat.zero_le _) (Nat.zero_le _) dX3_price_20 ?_
  exact hend H locs ((if 0 < (g (26 + i) - ((hs_depth g n (g (14 + i)) (g (20 + i))) / 5)) then (g (26 + i) - ((hs_depth g n (g (14 + i)) (g (20 + i))) / 5)) else 0)) (L, mk_F D f mk ad n g) _ ls w ⟨(mk_maxz _), rfl⟩ rfl dX3_price_23
set_option maxRecDepth 100000 in
set_option maxHeartbeats 4000000 in
theorem c_X3_dropping (l : Launch) (D : va_G) (b0 : Nat) (L : List Nat) (f : Nat → va_E) (mk : Nat) (ad : Nat → Nat) (n : Nat) (g : Nat → Int32) (hm : mk_ok L mk ad n) (hs : mk_sr g n) (nr : Nat) (ht : mk_t g nr) : hg_Fi l yX3_dropping wsX3_dropping ({ frames := 4, cells := 0, slots := 0, locals := 90 }) D b0 L (mk_F D f mk ad n g) [.ref mk] (hs_drop g n n) (mk_F D f mk ad n g) := by
  refine hg_in_i (cc := cX3_dropping) (nL := 6) (by decide) rfl (Nat.le_of_ble_eq_true rfl) (fun p e s m args below meth c R Q X hR hend H locs ls w hl => ?_)
  subst hR
  obtain ⟨hx, hb, hml, hown, hts⟩ := id X.1
  have hin : mk_in wsX3_dropping := ⟨fun w h => List.mem_cons_of_mem _ (List.mem_append_left _ (List.mem_append_left _ (List.mem_append_left _ (List.mem_append_left _ (List.mem_append_right _ h))))), fun w h => List.mem_cons_of_mem _ (List.mem_append_left _ (List.mem_append_left _ (List.mem_append_left _ (List.mem_append_right _ h)))), fun w h => List.mem_cons_of_mem _ (List.mem_append_left _ (List.mem_append_left _ (List.mem_append_right _ h))), fun w h => List.mem_cons_of_mem _ (List.mem_append_left _ (List.mem_append_right _ h)), fun w h => List.mem_cons_of_mem _ (List.mem_append_right _ h)⟩
  have hin3 : ∀ w ∈ wsX30, w ∈ wsX3_dropping := fun w h => List.mem_cons_of_mem _ (List.mem_append_left _ (List.mem_append_left _ (List.mem_append_left _ (List.mem_append_left _ (List.mem_append_left _ (List.mem_append_right _ h))))))
  have hl : lv_has ls 6 [(0, .ref mk)] := hl
  refine lv_iconst (v := 0) hx hb dX3_dropping_0 (by decide) ?_
  refine lv_istore_n (lv' := [(1, .int (0)), (0, .ref mk)]) hx hb dX3_dropping_1 rfl hl (by decide) rfl (fun ls hl => ?_)
  refine lv_aload_n hx hb dX3_dropping_2 rfl (lv_at hl 1 rfl) ?_
  refine mk_getM X w hm hin3 5 (by decide) (List.mem_of_getElem? (i := 1) rfl) rfl dX3_dropping_3 ?_
  refine lv_astore_n (lv' := [(2, .ref (ad 1)), (1, .int (0)), (0, .ref mk)]) hx hb dX3_dropping_6 rfl hl (by decide) rfl (fun ls hl => ?_)
  refine lv_aload_n hx hb dX3_dropping_7 rfl (lv_at hl 0 rfl) ?_
  refine mk_len X w hm dX3_dropping_8 ?_
  refine lv_istore_n (lv' := [(3, .int (6)), (2, .ref (ad 1)), (1, .int (0)), (0, .ref mk)]) hx hb dX3_dropping_9 rfl hl (by decide) rfl (fun ls hl => ?_)
  refine lv_iconst (v := 0) hx hb dX3_dropping_10 (by decide) ?_
  refine lv_istore (lv' := [(4, .int (0)), (3, .int (6)), (2, .ref (ad 1)), (1, .int (0)), (0, .ref mk)]) hx hb dX3_dropping_11 hl (by decide) rfl (fun ls hl => ?_)
  have loop : ∀ (n0 k : Nat), k ≤ 6 → 6 + 1 ≤ k + n0 → ∀ (H : Heap) (locs : List Loc) (ls : Array Slot), hg_W D b0 L (mk_F D f mk ad n g) s.heap H locs → lv_has ls 6 [(0, .ref mk), (1, .int (hs_drop g n (min k n))), (2, .ref (ad 1)), (3, .int (6)), (4, .int (nI k))] → W p l e ({ frames := 4, cells := 0, slots := 0, locals := 90 }) s m args below meth c H locs 0 0 Q (F0 m 13 ls []) := by
    intro n0
    induction n0 with
    | zero =>
      intro k h1 h2
      exact absurd h2 (by omega)
    | succ n0 ih =>
      intro k hk hn0 H locs ls w hl
      refine lv_iload hx hb dX3_dropping_13 (lv_at hl 4 rfl) ?_
      refine lv_iload_n hx hb dX3_dropping_15 rfl (lv_at hl 3 rfl) ?_
      refine lv_icmp_ge (tgt := 67) hx hb dX3_dropping_16 (by decide) (fun c_16 => ?_) (fun c_16 => ?_)
      · have hk : 6 = k := by
          rcases Nat.lt_or_ge k 6 with q | q
          · exact absurd c_16 (nI_ge (a := k) (b := 6) q (by omega))
          · omega
        subst hk
        refine lv_iload_n hx hb dX3_dropping_67 rfl (lv_at hl 1 rfl) ?_
        exact hend H locs (hs_drop g n (min 6 n)) (L, mk_F D f mk ad n g) _ ls w ⟨(by rw [show min 6 n = n by have := hs.2.1; omega]), rfl⟩ rfl dX3_dropping_68
      · have hkl : k < 6 := by
          rcases Nat.lt_or_ge k 6 with q | q
          · exact q
          · exact absurd (nI_le (a := 6) (b := k) q (by omega)) c_16
        refine lv_aload_n hx hb dX3_dropping_19 rfl (lv_at hl 2 rfl) ?_
        refine lv_iload hx hb dX3_dropping_20 (lv_at hl 4 rfl) ?_
        refine mk_ald X w hm k rfl (by omega) dX3_dropping_22 (fun hjk => ?_) (fun hjk => ?_)
        · refine lv_astore (lv' := [(5, .ref (ad (2 + k))), (0, .ref mk), (1, .int (hs_drop g n (min k n))), (2, .ref (ad 1)), (3, .int (6)), (4, .int (nI k))]) hx hb dX3_dropping_23 hl (by decide) rfl (fun ls hl => ?_)
          refine lv_aload hx hb dX3_dropping_25 (lv_at hl 0 rfl) ?_
          refine lv_ifnull hx hb dX3_dropping_27 ?_
          refine lv_aload_n hx hb dX3_dropping_30 rfl (lv_at hl 1 rfl) ?_
          refine lv_aload hx hb dX3_dropping_31 (lv_at hl 0 rfl) ?_
          refine mk_get X w hm hs hin hjk 1 (by decide) (List.mem_of_getElem? (i := 2) rfl) (Or.inl rfl) rfl dX3_dropping_33 ?_
          refine lv_aload hx hb dX3_dropping_36 (lv_at hl 0 rfl) ?_
          refine mk_get X w hm hs hin hjk 2 (by decide) (List.mem_of_getElem? (i := 3) rfl) (Or.inl rfl) rfl dX3_dropping_38 ?_
          refine hg_viF (r := (hs_depth g n (g (14 + k)) (g (20 + k)))) (As := [.int (g (14 + k)), .int (g (20 + k))]) (rest := []) X w (c_X3_depth l D b0 L f mk ad n g hm hs nr ht (g (14 + k)) (g (20 + k))) (cwV 2 hts gX3_dropping_X3_depth rfl rfl rfl hdX3_depth ⟨Nat.le_of_ble_eq_true rfl, Nat.le_of_ble_eq_true rfl⟩) hm.1 (mk_at0 D f mk ad n _) rfl rfl rfl hl.1 rfl (Nat.le_of_ble_eq_true rfl) dX3_dropping_41 ⟨Nat.zero_le _, Nat.zero_le _⟩ (fun H locs w => ?_)
          refine lv_aload_n hx hb dX3_dropping_44 rfl (lv_at hl 1 rfl) ?_
          refine mk_getM X w hm hin3 0 (by decide) (List.mem_of_getElem? (i := 4) rfl) rfl dX3_dropping_45 ?_
          refine lv_icmp_le (tgt := 61) hx hb dX3_dropping_48 (by decide) (fun c_48 => ?_) (fun c_48 => ?_)
          · refine lv_iinc (v := nI k + 1) (lv' := [(4, .int (nI k + 1)), (5, .ref (ad (2 + k))), (0, .ref mk), (1, .int (hs_drop g n (min k n))), (2, .ref (ad 1)), (3, .int (6))]) hx hb dX3_dropping_61 hl (k := 5) rfl rfl (by decide) rfl (fun ls hl => ?_)
            refine lv_goto (tgt := 13) hx hb dX3_dropping_64 (by decide) ?_
            have he1 : (hs_drop g n (min k n)) = hs_drop g n (min (k + 1) n) := by exact mk_drop_n hjk c_48
            have hl := hs_lv hl (k := 3) rfl he1
            have hl := hs_lv hl (k := 0) rfl (nI_1 k)
            exact ih (k + 1) (by omega) (by omega) H locs ls w (lv_sub hl [2, 3, 4, 5, 0] rfl)
          · refine lv_iload_n hx hb dX3_dropping_51 rfl (lv_at hl 2 rfl) ?_
            refine lv_iconst (v := 1) hx hb dX3_dropping_52 (by decide) ?_
            refine lv_aload hx hb dX3_dropping_53 (lv_at hl 0 rfl) ?_
            refine mk_get X w hm hs hin hjk 0 (by decide) (List.mem_of_getElem? (i := 5) rfl) (Or.inl rfl) rfl dX3_dropping_55 ?_
            refine lv_ishl hx hb dX3_dropping_58 ?_
            refine lv_ior hx hb dX3_dropping_59 ?_
            refine lv_istore_n (lv' := [(1, .int ((hs_drop g n (min k n) ||| (1 <<< (nI k &&& 31))))), (5, .ref (ad (2 + k))), (0, .ref mk), (2, .ref (ad 1)), (3, .int (6)), (4, .int (nI k))]) hx hb dX3_dropping_60 rfl hl (by decide) rfl (fun ls hl => ?_)
            refine lv_iinc (v := nI k + 1) (lv' := [(4, .int (nI k + 1)), (1, .int ((hs_drop g n (min k n) ||| (1 <<< (nI k &&& 31))))), (5, .ref (ad (2 + k))), (0, .ref mk), (2, .ref (ad 1)), (3, .int (6))]) hx hb dX3_dropping_61 hl (k := 5) rfl rfl (by decide) rfl (fun ls hl => ?_)
            refine lv_goto (tgt := 13) hx hb dX3_dropping_64 (by decide) ?_
            have he1 : (hs_drop g n (min k n) ||| (1 <<< (nI k &&& 31))) = hs_drop g n (min (k + 1) n) := by exact mk_drop_y hjk c_48
            have hl := hs_lv hl (k := 1) rfl he1
            have hl := hs_lv hl (k := 0) rfl (nI_1 k)
            exact ih (k + 1) (by omega) (by omega) H locs ls w (lv_sub hl [3, 1, 4, 5, 0] rfl)
        · refine lv_astoreN (lv' := [(5, .null), (0, .ref mk), (1, .int (hs_drop g n (min k n))), (2, .ref (ad 1)), (3, .int (6)), (4, .int (nI k))]) hx hb dX3_dropping_23 hl (by decide) rfl (fun ls hl => ?_)
          refine lv_aloadN hx hb dX3_dropping_25 (lv_at hl 0 rfl) ?_
          refine lv_ifnullN (tgt := 61) hx hb dX3_dropping_27 (by decide) ?_
          refine lv_iinc (v := nI k + 1) (lv' := [(4, .int (nI k + 1)), (5, .null), (0, .ref mk), (1, .int (hs_drop g n (min k n))), (2, .ref (ad 1)), (3, .int (6))]) hx hb dX3_dropping_61 hl (k := 5) rfl rfl (by decide) rfl (fun ls hl => ?_)
          refine lv_goto (tgt := 13) hx hb dX3_dropping_64 (by decide) ?_
          have he1 : (hs_drop g n (min k n)) = hs_drop g n (min (k + 1) n) := by exact mk_drop_0 hjk
          have hl := hs_lv hl (k := 3) rfl he1
          have hl := hs_lv hl (k := 0) rfl (nI_1 k)
          exact ih (k + 1) (by omega) (by omega) H locs ls w (lv_sub hl [2, 3, 4, 5, 0] rfl)
  exact loop 7 0 (by omega) (by omega) H locs ls w (by rw [show min 0 n = 0 by omega]; exact lv_sub hl [4, 3, 2, 1, 0] rfl)
set_option maxRecDepth 100000 in
set_option maxHeartbeats 4000000 in
theorem c_X3_firstDropping (l : Launch) (D : va_G) (b0 : Nat) (L : List Nat) (f : Nat → va_E) (mk : Nat) (ad : Nat → Nat) (n : Nat) (g : Nat → Int32) (hm : mk_ok L mk ad n) (hs : mk_sr g n) (nr : Nat) (ht : mk_t g nr) : hg_Fi l yX3_firstDropping wsX3_firstDropping ({ frames := 4, cells := 0, slots := 0, locals := 90 }) D b0 L (mk_F D f mk ad n g) [.ref mk] (mk_fd g n n) (mk_F D f mk ad n g) := by
  refine hg_in_i (cc := cX3_firstDropping) (nL := 5) (by decide) rfl (Nat.le_of_ble_eq_true rfl) (fun p e s m args below meth c R Q X hR hend H locs ls w hl => ?_)
  subst hR
  obtain ⟨hx, hb, hml, hown, hts⟩ := id X.1
  have hin : mk_in wsX3_firstDropping := ⟨fun w h => List.mem_cons_of_mem _ (List.mem_append_left _ (List.mem_append_left _ (List.mem_append_left _ (List.mem_append_left _ (List.mem_append_right _ h))))), fun w h => List.mem_cons_of_mem _ (List.mem_append_left _ (List.mem_append_left _ (List.mem_append_left _ (List.mem_append_right _ h)))), fun w h => List.mem_cons_of_mem _ (List.mem_append_left _ (List.mem_append_left _ (List.mem_append_right _ h))), fun w h => List.mem_cons_of_mem _ (List.mem_append_left _ (List.mem_append_right _ h)), fun w h => List.mem_cons_of_mem _ (List.mem_append_right _ h)⟩
  have hin3 : ∀ w ∈ wsX30, w ∈ wsX3_firstDropping := fun w h => List.mem_cons_of_mem _ (List.mem_append_left _ (List.mem_append_left _ (List.mem_append_left _ (List.mem_append_left _ (List.mem_append_left _ (List.mem_append_right _ h))))))
  have hl : lv_has ls 5 [(0, .ref mk)] := hl
  refine lv_aload_n hx hb dX3_firstDropping_0 rfl (lv_at hl 0 rfl) ?_
  refine mk_getM X w hm hin3 5 (by decide) (List.mem_of_getElem? (i := 1) rfl) rfl dX3_firstDropping_1 ?_
  refine lv_astore_n (lv' := [(1, .ref (ad 1)), (0, .ref mk)]) hx hb dX3_firstDropping_4 rfl hl (by decide) rfl (fun ls hl => ?_)
  refine lv_aload_n hx hb dX3_firstDropping_5 rfl (lv_at hl 0 rfl) ?_
  refine mk_len X w hm dX3_firstDropping_6 ?_
  refine lv_istore_n (lv' := [(2, .int (6)), (1, .ref (ad 1)), (0, .ref mk)]) hx hb dX3_firstDropping_7 rfl hl (by decide) rfl (fun ls hl => ?_)
  refine lv_iconst (v := 0) hx hb dX3_firstDropping_8 (by decide) ?_
  refine lv_istore_n (lv' := [(3, .int (0)), (2, .int (6)), (1, .ref (ad 1)), (0, .ref mk)]) hx hb dX3_firstDropping_9 rfl hl (by decide) rfl (fun ls hl => ?_)
  have loop : ∀ (n0 k : Nat), k ≤ 6 → 6 + 1 ≤ k + n0 → mk_fd g n (min k n) = hs_NONE → ∀ (H : Heap) (locs : List Loc) (ls : Array Slot), hg_W D b0 L (mk_F D f mk ad n g) s.heap H locs → lv_has ls 5 [(0, .ref mk), (1, .ref (ad 1)), (2, .int (6)), (3, .int (nI k))] → W p l e ({ frames := 4, cells := 0, slots := 0, locals := 90 }) s m args below meth c H locs 0 0 Q (F0 m 10 ls []) := by
    intro n0
    induction n0 with
    | zero =>
      intro k h1 h2
      exact absurd h2 (by omega)
    | succ n0 ih =>
      intro k hk hn0 h0 H locs ls w hl
      refine lv_iload_n hx hb dX3_firstDropping_10 rfl (lv_at hl 3 rfl) ?_
      refine lv_iload_n hx hb dX3_firstDropping_11 rfl (lv_at hl 2 rfl) ?_
      refine lv_icmp_ge (tgt := 58) hx hb dX3_firstDropping_12 (by decide) (fun c_12 => ?_) (fun c_12 => ?_)
      · have hk : 6 = k := by
          rcases Nat.lt_or_ge k 6 with q | q
          · exact absurd c_12 (nI_ge (a := k) (b := 6) q (by omega))
          · omega
        subst hk
        refine lv_ldc (v := (-1000000)) hx hb hown (hts _ (List.mem_of_getElem? (i := 6) rfl)) dX3_firstDropping_58 ?_
        exact hend H locs ((-1000000)) (L, mk_F D f mk ad n g) _ ls w ⟨(by rw [show min 6 n = n by have := hs.2.1; omega] at h0; exact h0.symm), rfl⟩ rfl dX3_firstDropping_60
      · have hkl : k < 6 := by
          rcases Nat.lt_or_ge k 6 with q | q
          · exact q
          · exact absurd (nI_le (a := 6) (b := k) q (by omega)) c_12
        refine lv_aload_n hx hb dX3_firstDropping_15 rfl (lv_at hl 1 rfl) ?_
        refine lv_iload_n hx hb dX3_firstDropping_16 rfl (lv_at hl 3 rfl) ?_
        refine mk_ald X w hm k rfl (by omega) dX3_firstDropping_17 (fun hjk => ?_) (fun hjk => ?_)
        · refine lv_astore (lv' := [(4, .ref (ad (2 + k))), (0, .ref mk), (1, .ref (ad 1)), (2, .int (6)), (3, .int (nI k))]) hx hb dX3_firstDropping_18 hl (by decide) rfl (fun ls hl => ?_)
          refine lv_aload hx hb dX3_firstDropping_20 (lv_at hl 0 rfl) ?_
          refine lv_ifnull hx hb dX3_firstDropping_22 ?_
          refine lv_aload_n hx hb dX3_firstDropping_25 rfl (lv_at hl 1 rfl) ?_
          refine lv_aload hx hb dX3_firstDropping_26 (lv_at hl 0 rfl) ?_
          refine mk_get X w hm hs hin hjk 1 (by decide) (List.mem_of_getElem? (i := 2) rfl) (Or.inl rfl) rfl dX3_firstDropping_28 ?_
          refine lv_aload hx hb dX3_firstDropping_31 (lv_at hl 0 rfl) ?_
          refine mk_get X w hm hs hin hjk 2 (by decide) (List.mem_of_getElem? (i := 3) rfl) (Or.inl rfl) rfl dX3_firstDropping_33 ?_
          refine hg_viF (r := (hs_depth g n (g (14 + k)) (g (20 + k)))) (As := [.int (g (14 + k)), .int (g (20 + k))]) (rest := []) X w (c_X3_depth l D b0 L f mk ad n g hm hs nr ht (g (14 + k)) (g (20 + k))) (cwV 2 hts gX3_firstDropping_X3_depth rfl rfl rfl hdX3_depth ⟨Nat.le_of_ble_eq_true rfl, Nat.le_of_ble_eq_true rfl⟩) hm.1 (mk_at0 D f mk ad n _) rfl rfl rfl hl.1 rfl (Nat.le_of_ble_eq_true rfl) dX3_firstDropping_36 ⟨Nat.zero_le _, Nat.zero_le _⟩ (fun H locs w => ?_)
          refine lv_aload_n hx hb dX3_firstDropping_39 rfl (lv_at hl 1 rfl) ?_
          refine mk_getM X w hm hin3 0 (by decide) (List.mem_of_getElem? (i := 4) rfl) rfl dX3_firstDropping_40 ?_
          refine lv_icmp_le (tgt := 52) hx hb dX3_firstDropping_43 (by decide) (fun c_43 => ?_) (fun c_43 => ?_)
          · refine lv_iinc (v := nI k + 1) (lv' := [(3, .int (nI k + 1)), (4, .ref (ad (2 + k))), (0, .ref mk), (1, .ref (ad 1)), (2, .int (6))]) hx hb dX3_firstDropping_52 hl (k := 4) rfl rfl (by decide) rfl (fun ls hl => ?_)
            refine lv_goto (tgt := 10) hx hb dX3_firstDropping_55 (by decide) ?_
            have hl := hs_lv hl (k := 0) rfl (nI_1 k)
            exact ih (k + 1) (by omega) (by omega) (mk_fd_n hjk h0 c_43) H locs ls w (lv_sub hl [2, 3, 4, 0] rfl)
          · refine lv_aload hx hb dX3_firstDropping_46 (lv_at hl 0 rfl) ?_
            refine mk_get X w hm hs hin hjk 0 (by decide) (List.mem_of_getElem? (i := 5) rfl) (Or.inl rfl) rfl dX3_firstDropping_48 ?_
            exact hend H locs (nI k) (L, mk_F D f mk ad n g) _ ls w ⟨(mk_fd_y hs.2.1 hjk h0 c_43), rfl⟩ rfl dX3_firstDropping_51
        · refine lv_astoreN (lv' := [(4, .null), (0, .ref mk), (1, .ref (ad 1)), (2, .int (6)), (3, .int (nI k))]) hx hb dX3_firstDropping_18 hl (by decide) rfl (fun ls hl => ?_)
          refine lv_aloadN hx hb dX3_firstDropping_20 (lv_at hl 0 rfl) ?_
          refine lv_ifnullN (tgt := 52) hx hb dX3_firstDropping_22 (by decide) ?_
          refine lv_iinc (v := nI k + 1) (lv' := [(3, .int (nI k + 1)), (4, .null), (0, .ref mk), (1, .ref (ad 1)), (2, .int (6))]) hx hb dX3_firstDropping_52 hl (k := 4) rfl rfl (by decide) rfl (fun ls hl => ?_)
          refine lv_goto (tgt := 10) hx hb dX3_firstDropping_55 (by decide) ?_
          have hl := hs_lv hl (k := 0) rfl (nI_1 k)
          exact ih (k + 1) (by omega) (by omega) (mk_fd_0 hjk h0) H locs ls w (lv_sub hl [2, 3, 4, 0] rfl)
  exact loop 7 0 (by omega) (by omega) (by rw [show min 0 n = 0 by omega]; rfl) H locs ls w (lv_sub hl [3, 2, 1, 0] rfl)
set_option maxRecDepth 100000 in
set_option maxHeartbeats 4000000 in
theorem c_X3_joins (l : Launch) (D : va_G) (b0 : Nat) (L : List Nat) (f : Nat → va_E) (mk : Nat) (ad : Nat → Nat) (n : Nat) (g : Nat → Int32) (hm : mk_ok L mk ad n) (hs : mk_sr g n) (i j : Nat) (hi : i < n) (hj : j < n) : hg_Fi l yX3_joins wsX3_joins ({ frames := 1, cells := 0, slots := 0, locals := 13 }) D b0 L (mk_F D f mk ad n g) [.ref mk, .ref (ad (2 + i)), .ref (ad (2 + j))] (mk_joins g i j) (mk_F D f mk ad n g) := by
  refine hg_in_i (cc := cX3_joins) (nL := 3) (by decide) rfl (Nat.le_of_ble_eq_true rfl) (fun p e s m args below meth c R Q X hR hend H locs ls w hl => ?_)
  subst hR
  obtain ⟨hx, hb, hml, hown, hts⟩ := id X.1
  have hin : mk_in wsX3_joins := ⟨fun w h => List.mem_cons_of_mem _ (List.mem_append_left _ (List.mem_append_left _ (List.mem_append_left _ (List.mem_append_left _ (List.mem_append_right _ h))))), fun w h => List.mem_cons_of_mem _ (List.mem_append_left _ (List.mem_append_left _ (List.mem_append_left _ (List.mem_append_right _ h)))), fun w h => List.mem_cons_of_mem _ (List.mem_append_left _ (List.mem_append_left _ (List.mem_append_right _ h))), fun w h => List.mem_cons_of_mem _ (List.mem_append_left _ (List.mem_append_right _ h)), fun w h => List.mem_cons_of_mem _ (List.mem_append_right _ h)⟩
  have hl : lv_has ls 3 [(0, .ref mk), (1, .ref (ad (2 + i))), (2, .ref (ad (2 + j)))] := hl
  refine lv_aload_n hx hb dX3_joins_0 rfl (lv_at hl 1 rfl) ?_
  refine mk_get X w hm hs hin hi 1 (by decide) (List.mem_of_getElem? (i := 1) rfl) (Or.inl rfl) rfl dX3_joins_1 ?_
  refine lv_aload_n hx hb dX3_joins_4 rfl (lv_at hl 2 rfl) ?_
  refine mk_get X w hm hs hin hj 1 (by decide) (List.mem_of_getElem? (i := 1) rfl) (Or.inl rfl) rfl dX3_joins_5 ?_
  refine lv_isub hx hb dX3_joins_8 ?_
  refine va_mabs hx hb (hml.trans hl.1.symm) hown (hts _ (List.mem_of_getElem? (i := 2) rfl)) (hts _ (List.mem_of_getElem? (i := 3) rfl)) (hts _ (List.mem_of_getElem? (i := 4) rfl)) (hts _ (List.mem_of_getElem? (i := 5) rfl)) (Nat.le_of_ble_eq_true rfl) (Nat.le_of_ble_eq_true rfl) (Nat.zero_le _) (Nat.zero_le _) dX3_joins_9 ?_
  refine lv_iconst (v := 1) hx hb dX3_joins_12 (by decide) ?_
  refine lv_icmp_ne (tgt := 31) hx hb dX3_joins_13 (by decide) (fun c_13 => ?_) (fun c_13 => ?_)
  · refine lv_iconst (v := 0) hx hb dX3_joins_31 (by decide) ?_
    exact hend H locs (0) (L, mk_F D f mk ad n g) _ ls w ⟨(by unfold mk_joins mk_abs; rw [if_neg (fun q => c_13 q.1)]), rfl⟩ (by decide) dX3_joins_32
  · refine lv_aload_n hx hb dX3_joins_16 rfl (lv_at hl 1 rfl) ?_
    refine mk_get X w hm hs hin hi 2 (by decide) (List.mem_of_getElem? (i := 6) rfl) (Or.inl rfl) rfl dX3_joins_17 ?_
    refine lv_aload_n hx hb dX3_joins_20 rfl (lv_at hl 2 rfl) ?_
    refine mk_get X w hm hs hin hj 2 (by decide) (List.mem_of_getElem? (i := 6) rfl) (Or.inl rfl) rfl dX3_joins_21 ?_
    refine lv_icmp_ne (tgt := 31) hx hb dX3_joins_24 (by decide) (fun c_24 => ?_) (fun c_24 => ?_)
    · refine lv_iconst (v := 0) hx hb dX3_joins_31 (by decide) ?_
      exact hend H locs (0) (L, mk_F D f mk ad n g) _ ls w ⟨(by unfold mk_joins mk_abs; rw [if_neg (fun q => c_24 q.2)]), rfl⟩ (by decide) dX3_joins_32
    · refine lv_iconst (v := 1) hx hb dX3_joins_27 (by decide) ?_
      refine lv_goto (tgt := 32) hx hb dX3_joins_28 (by decide) ?_
      exact hend H locs (1) (L, mk_F D f mk ad n g) _ ls w ⟨(by unfold mk_joins mk_abs; rw [if_pos ⟨c_13, c_24⟩]), rfl⟩ (by decide) dX3_joins_32
set_option maxRecDepth 100000 in
set_option maxHeartbeats 4000000 in
theorem c_X3_meets (l : Launch) (D : va_G) (b0 : Nat) (L : List Nat) (f : Nat → va_E) (mk : Nat) (ad : Nat → Nat) (n : Nat) (g : Nat → Int32) (hm : mk_ok L mk ad n) (hs : mk_sr g n) (nr : Nat) (ht : mk_t g nr) (i j : Nat) (hi : i < n) (hj : j < n) : hg_Fi l yX3_meets wsX3_meets ({ frames := 4, cells := 0, slots := 0, locals := 90 }) D b0 L (mk_F D f mk ad n g) [.ref mk, .ref (ad (2 + i)), .ref (ad (2 + j))] (mk_meets g n i j) (mk_F D f mk ad n g) := by
  refine hg_in_i (cc := cX3_meets) (nL := 3) (by decide) rfl (Nat.le_of_ble_eq_true rfl) (fun p e s m args below meth c R Q X hR hend H locs ls w hl => ?_)
  subst hR
  obtain ⟨hx, hb, hml, hown, hts⟩ := id X.1
  have hin : mk_in wsX3_meets := ⟨fun w h => List.mem_cons_of_mem _ (List.mem_append_left _ (List.mem_append_left _ (List.mem_append_left _ (List.mem_append_left _ (List.mem_append_left _ (List.mem_append_right _ h)))))), fun w h => List.mem_cons_of_mem _ (List.mem_append_left _ (List.mem_append_left _ (List.mem_append_left _ (List.mem_append_left _ (List.mem_append_right _ h))))), fun w h => List.mem_cons_of_mem _ (List.mem_append_left _ (List.mem_append_left _ (List.mem_append_left _ (List.mem_append_right _ h)))), fun w h => List.mem_cons_of_mem _ (List.mem_append_left _ (List.mem_append_left _ (List.mem_append_right _ h))), fun w h => List.mem_cons_of_mem _ (List.mem_append_left _ (List.mem_append_right _ h))⟩
  have hin3 : ∀ w ∈ wsX30, w ∈ wsX3_meets := fun w h => List.mem_cons_of_mem _ (List.mem_append_right _ h)
  have hl : lv_has ls 3 [(0, .ref mk), (1, .ref (ad (2 + i))), (2, .ref (ad (2 + j)))] := hl
  refine lv_aload_n hx hb dX3_meets_0 rfl (lv_at hl 0 rfl) ?_
  refine lv_aload_n hx hb dX3_meets_1 rfl (lv_at hl 1 rfl) ?_
  refine mk_get X w hm hs hin hi 1 (by decide) (List.mem_of_getElem? (i := 1) rfl) (Or.inl rfl) rfl dX3_meets_2 ?_
  refine lv_aload_n hx hb dX3_meets_5 rfl (lv_at hl 1 rfl) ?_
  refine mk_get X w hm hs hin hi 2 (by decide) (List.mem_of_getElem? (i := 2) rfl) (Or.inl rfl) rfl dX3_meets_6 ?_
  refine hg_viF (r := (hs_depth g n (g (14 + i)) (g (20 + i)))) (As := [.int (g (14 + i)), .int (g (20 + i))]) (rest := []) X w (c_X3_depth l D b0 L f mk ad n g hm hs nr ht (g (14 + i)) (g (20 + i))) (cwV 2 hts gX3_meets_X3_depth rfl rfl rfl hdX3_depth ⟨Nat.le_of_ble_eq_true rfl, Nat.le_of_ble_eq_true rfl⟩) hm.1 (mk_at0 D f mk ad n _) rfl rfl rfl hl.1 rfl (Nat.le_of_ble_eq_true rfl) dX3_meets_9 ⟨Nat.zero_le _, Nat.zero_le _⟩ (fun H locs w => ?_)
  refine lv_aload_n hx hb dX3_meets_12 rfl (lv_at hl 0 rfl) ?_
  refine lv_aload_n hx hb dX3_meets_13 rfl (lv_at hl 2 rfl) ?_
  refine mk_get X w hm hs hin hj 1 (by decide) (List.mem_of_getElem? (i := 1) rfl) (Or.inl rfl) rfl dX3_meets_14 ?_
  refine lv_aload_n hx hb dX3_meets_17 rfl (lv_at hl 2 rfl) ?_
  refine mk_get X w hm hs hin hj 2 (by decide) (List.mem_of_getElem? (i := 2) rfl) (Or.inl rfl) rfl dX3_meets_18 ?_
  refine hg_viF (r := (hs_depth g n (g (14 + j)) (g (20 + j)))) (As := [.int (g (14 + j)), .int (g (20 + j))]) (rest := [.int ((hs_depth g n (g (14 + i)) (g (20 + i))))]) X w (c_X3_depth l D b0 L f mk ad n g hm hs nr ht (g (14 + j)) (g (20 + j))) (cwV 2 hts gX3_meets_X3_depth rfl rfl rfl hdX3_depth ⟨Nat.le_of_ble_eq_true rfl, Nat.le_of_ble_eq_true rfl⟩) hm.1 (mk_at0 D f mk ad n _) rfl rfl rfl hl.1 rfl (Nat.le_of_ble_eq_true rfl) dX3_meets_21 ⟨Nat.zero_le _, Nat.zero_le _⟩ (fun H locs w => ?_)
  refine lv_isub hx hb dX3_meets_24 ?_
  refine va_mabs hx hb (hml.trans hl.1.symm) hown (hts _ (List.mem_of_getElem? (i := 3) rfl)) (hts _ (List.mem_of_getElem? (i := 4) rfl)) (hts _ (List.mem_of_getElem? (i := 5) rfl)) (hts _ (List.mem_of_getElem? (i := 6) rfl)) (Nat.le_of_ble_eq_true rfl) (Nat.le_of_ble_eq_true rfl) (Nat.zero_le _) (Nat.zero_le _) dX3_meets_25 ?_
  refine lv_iconst (v := 1) hx hb dX3_meets_28 (by decide) ?_
  refine lv_icmp_gt (tgt := 36) hx hb dX3_meets_29 (by decide) (fun c_29 => ?_) (fun c_29 => ?_)
  · refine lv_iconst (v := 0) hx hb dX3_meets_36 (by decide) ?_
    exact hend H locs (0) (L, mk_F D f mk ad n g) _ ls w ⟨(if_neg (fun q => absurd q (Int32.not_le.mpr c_29))).symm, rfl⟩ (by decide) dX3_meets_37
  · refine lv_iconst (v := 1) hx hb dX3_meets_32 (by decide) ?_
    refine lv_goto (tgt := 37) hx hb dX3_meets_33 (by decide) ?_
    exact hend H locs (1) (L, mk_F D f mk ad n g) _ ls w ⟨(if_pos (Int32.not_lt.mp c_29)).symm, rfl⟩ (by decide) dX3_meets_37
set_option maxRecDepth 100000 in
set_option maxHeartbeats 4000000 in
theorem c_X3_standing (l : Launch) (D : va_G) (b0 : Nat) (L : List Nat) (f : Nat → va_E) (mk : Nat) (ad : Nat → Nat) (n : Nat) (g : Nat → Int32) (hm : mk_ok L mk ad n) (hs : mk_sr g n)  (rope place : Int32) : hg_Fq l yX3_standing wsX3_standing ({ frames := 0, cells := 0, slots := 0, locals := 0 }) D b0 L (mk_F D f mk ad n g) [.ref mk, .int (rope), .int (place)] ((mk_std g rope place n).map (fun j => ad (2 + j))) (mk_F D f mk ad n g) := by
  refine hg_in_q (cc := cX3_standing) (nL := 7) (by decide) rfl (Nat.le_of_ble_eq_true rfl) (fun p e s m args below meth c R Q X hR hend H locs ls w hl => ?_)
  subst hR
  obtain ⟨hx, hb, hml, hown, hts⟩ := id X.1
  have hin : mk_in wsX3_standing := ⟨fun w h => List.mem_cons_of_mem _ (List.mem_append_left _ (List.mem_append_left _ (List.mem_append_left _ (List.mem_append_left _ (List.mem_append_right _ h))))), fun w h => List.mem_cons_of_mem _ (List.mem_append_left _ (List.mem_append_left _ (List.mem_append_left _ (List.mem_append_right _ h)))), fun w h => List.mem_cons_of_mem _ (List.mem_append_left _ (List.mem_append_left _ (List.mem_append_right _ h))), fun w h => List.mem_cons_of_mem _ (List.mem_append_left _ (List.mem_append_right _ h)), fun w h => List.mem_cons_of_mem _ (List.mem_append_right _ h)⟩
  have hin3 : ∀ w ∈ wsX30, w ∈ wsX3_standing := fun w h => List.mem_cons_of_mem _ (List.mem_append_left _ (List.mem_append_left _ (List.mem_append_left _ (List.mem_append_left _ (List.mem_append_left _ (List.mem_append_right _ h))))))
  have hl : lv_has ls 7 [(0, .ref mk), (1, .int (rope)), (2, .int (place))] := hl
  refine lv_aload_n hx hb dX3_standing_0 rfl (lv_at hl 0 rfl) ?_
  refine mk_getM X w hm hin3 5 (by decide) (List.mem_of_getElem? (i := 1) rfl) rfl dX3_standing_1 ?_
  refine lv_astore_n (lv' := [(3, .ref (ad 1)), (0, .ref mk), (1, .int (rope)), (2, .int (place))]) hx hb dX3_standing_4 rfl hl (by decide) rfl (fun ls hl => ?_)
  refine lv_aload_n hx hb dX3_standing_5 rfl (lv_at hl 0 rfl) ?_
  refine mk_len X w hm dX3_standing_6 ?_
  refine lv_istore (lv' := [(4, .int (6)), (3, .ref (ad 1)), (0, .ref mk), (1, .int (rope)), (2, .int (place))]) hx hb dX3_standing_7 hl (by decide) rfl (fun ls hl => ?_)
  refine lv_iconst (v := 0) hx hb dX3_standing_9 (by decide) ?_
  refine lv_istore (lv' := [(5, .int (0)), (4, .int (6)), (3, .ref (ad 1)), (0, .ref mk), (1, .int (rope)), (2, .int (place))]) hx hb dX3_standing_10 hl (by decide) rfl (fun ls hl => ?_)
  have loop : ∀ (n0 k : Nat), k ≤ 6 → 6 + 1 ≤ k + n0 → mk_std g rope place (min k n) = none → ∀ (H : Heap) (locs : List Loc) (ls : Array Slot), hg_W D b0 L (mk_F D f mk ad n g) s.heap H locs → lv_has ls 7 [(0, .ref mk), (1, .int (rope)), (2, .int (place)), (3, .ref (ad 1)), (4, .int (6)), (5, .int (nI k))] → W p l e ({ frames := 0, cells := 0, slots := 0, locals := 0 }) s m args below meth c H locs 0 0 Q (F0 m 12 ls []) := by
    intro n0
    induction n0 with
    | zero =>
      intro k h1 h2
      exact absurd h2 (by omega)
    | succ n0 ih =>
      intro k hk hn0 h0 H locs ls w hl
      refine lv_iload hx hb dX3_standing_12 (lv_at hl 5 rfl) ?_
      refine lv_iload hx hb dX3_standing_14 (lv_at hl 4 rfl) ?_
      refine lv_icmp_ge (tgt := 57) hx hb dX3_standing_16 (by decide) (fun c_16 => ?_) (fun c_16 => ?_)
      · have hk : 6 = k := by
          rcases Nat.lt_or_ge k 6 with q | q
          · exact absurd c_16 (nI_ge (a := k) (b := 6) q (by omega))
          · omega
        subst hk
        refine lv_null hx hb dX3_standing_57 ?_
        exact hend H locs (none) (L, mk_F D f mk ad n g) _ ls w ⟨(by rw [show n = min 6 n by have := hs.2.1; omega, h0]; rfl), rfl⟩ dX3_standing_58
      · have hkl : k < 6 := by
          rcases Nat.lt_or_ge k 6 with q | q
          · exact q
          · exact absurd (nI_le (a := 6) (b := k) q (by omega)) c_16
        refine lv_aload_n hx hb dX3_standing_19 rfl (lv_at hl 3 rfl) ?_
        refine lv_iload hx hb dX3_standing_20 (lv_at hl 5 rfl) ?_
        refine mk_ald X w hm k rfl (by omega) dX3_standing_22 (fun hjk => ?_) (fun hjk => ?_)
        · refine lv_astore (lv' := [(6, .ref (ad (2 + k))), (0, .ref mk), (1, .int (rope)), (2, .int (place)), (3, .ref (ad 1)), (4, .int (6)), (5, .int (nI k))]) hx hb dX3_standing_23 hl (by decide) rfl (fun ls hl => ?_)
          refine lv_aload hx hb dX3_standing_25 (lv_at hl 0 rfl) ?_
          refine lv_ifnull hx hb dX3_standing_27 ?_
          refine lv_aload hx hb dX3_standing_30 (lv_at hl 0 rfl) ?_
          refine mk_get X w hm hs hin hjk 1 (by decide) (List.mem_of_getElem? (i := 2) rfl) (Or.inl rfl) rfl dX3_standing_32 ?_
          refine lv_iload_n hx hb dX3_standing_35 rfl (lv_at hl 2 rfl) ?_
          refine lv_icmp_ne (tgt := 51) hx hb dX3_standing_36 (by decide) (fun c_36 => ?_) (fun c_36 => ?_)
          · refine lv_iinc (v := nI k + 1) (lv' := [(5, .int (nI k + 1)), (6, .ref (ad (2 + k))), (0, .ref mk), (1, .int (rope)), (2, .int (place)), (3, .ref (ad 1)), (4, .int (6))]) hx hb dX3_standing_51 hl (k := 6) rfl rfl (by decide) rfl (fun ls hl => ?_)
            refine lv_goto (tgt := 12) hx hb dX3_standing_54 (by decide) ?_
            have hl := hs_lv hl (k := 0) rfl (nI_1 k)
            exact ih (k + 1) (by omega) (by omega) (mk_std_n hjk h0 (fun q => c_36 q.1)) H locs ls w (lv_sub hl [2, 3, 4, 5, 6, 0] rfl)
          · refine lv_aload hx hb dX3_standing_39 (lv_at hl 0 rfl) ?_
            refine mk_get X w hm hs hin hjk 2 (by decide) (List.mem_of_getElem? (i := 3) rfl) (Or.inl rfl) rfl dX3_standing_41 ?_
            refine lv_iload_n hx hb dX3_standing_44 rfl (lv_at hl 3 rfl) ?_
            refine lv_icmp_ne (tgt := 51) hx hb dX3_standing_45 (by decide) (fun c_45 => ?_) (fun c_45 => ?_)
            · refine lv_iinc (v := nI k + 1) (lv' := [(5, .int (nI k + 1)), (6, .ref (ad (2 + k))), (0, .ref mk), (1, .int (rope)), (2, .int (place)), (3, .ref (ad 1)), (4, .int (6))]) hx hb dX3_standing_51 hl (k := 6) rfl rfl (by decide) rfl (fun ls hl => ?_)
              refine lv_goto (tgt := 12) hx hb dX3_standing_54 (by decide) ?_
              have hl := hs_lv hl (k := 0) rfl (nI_1 k)
              exact ih (k + 1) (by omega) (by omega) (mk_std_n hjk h0 (fun q => c_45 q.2)) H locs ls w (lv_sub hl [2, 3, 4, 5, 6, 0] rfl)
            · refine lv_aload hx hb dX3_standing_48 (lv_at hl 0 rfl) ?_
              exact hend H locs (some (ad (2 + k))) (L, mk_F D f mk ad n g) _ ls w ⟨(by rw [mk_std_y hjk h0 c_36 c_45]; rfl), rfl⟩ dX3_standing_50
        · refine lv_astoreN (lv' := [(6, .null), (0, .ref mk), (1, .int (rope)), (2, .int (place)), (3, .ref (ad 1)), (4, .int (6)), (5, .int (nI k))]) hx hb dX3_standing_23 hl (by decide) rfl (fun ls hl => ?_)
          refine lv_aloadN hx hb dX3_standing_25 (lv_at hl 0 rfl) ?_
          refine lv_ifnullN (tgt := 51) hx hb dX3_standing_27 (by decide) ?_
          refine lv_iinc (v := nI k + 1) (lv' := [(5, .int (nI k + 1)), (6, .null), (0, .ref mk), (1, .int (rope)), (2, .int (place)), (3, .ref (ad 1)), (4, .int (6))]) hx hb dX3_standing_51 hl (k := 6) rfl rfl (by decide) rfl (fun ls hl => ?_)
          refine lv_goto (tgt := 12) hx hb dX3_standing_54 (by decide) ?_
          have hl := hs_lv hl (k := 0) rfl (nI_1 k)
          exact ih (k + 1) (by omega) (by omega) (mk_std_0 hjk h0) H locs ls w (lv_sub hl [2, 3, 4, 5, 6, 0] rfl)
  exact loop 7 0 (by omega) (by omega) (by rw [show min 0 n = 0 by omega]; rfl) H locs ls w (lv_sub hl [3, 4, 5, 2, 1, 0] rfl)
theorem hdX3_joins : yX3_joins.cls = RX3 ∧ yX3_joins.cls ≠ "java/lang/invoke/MethodHandle" ∧ yX3_joins.cls ≠ "java/lang/invoke/VarHandle" ∧ (parseMethodDescriptor yX3_joins.desc).map (fun d => d.parameters.length) = some 2 := by decide +kernel
theorem hdX3_meets : yX3_meets.cls = RX3 ∧ yX3_meets.cls ≠ "java/lang/invoke/MethodHandle" ∧ yX3_meets.cls ≠ "java/lang/invoke/VarHandle" ∧ (parseMethodDescriptor yX3_meets.desc).map (fun d => d.parameters.length) = some 2 := by decide +kernel
set_option maxRecDepth 100000 in
set_option maxHeartbeats 4000000 in
theorem c_X3_countWalkways (l : Launch) (D : va_G) (b0 : Nat) (L : List Nat) (f : Nat → va_E) (mk : Nat) (ad : Nat → Nat) (n : Nat) (g : Nat → Int32) (hm : mk_ok L mk ad n) (hs : mk_sr g n) (nr : Nat) (ht : mk_t g nr) (only : Int32) : hg_Fi l yX3_countWalkways wsX3_countWalkways ({ frames := 5, cells := 0, slots := 0, locals := 112 }) D b0 L (mk_F D f mk ad n g) [.ref mk, .int (only)] (mk_w g n only n) (mk_F D f mk ad n g) := by
  refine hg_in_i (cc := cX3_countWalkways) (nL := 11) (by decide) rfl (Nat.le_of_ble_eq_true rfl) (fun p e s m args below meth c R Q X hR hend H locs ls w hl => ?_)
  subst hR
  obtain ⟨hx, hb, hml, hown, hts⟩ := id X.1
  have hin : mk_in wsX3_countWalkways := ⟨fun w h => List.mem_cons_of_mem _ (List.mem_append_left _ (List.mem_append_left _ (List.mem_append_left _ (List.mem_append_left _ (List.mem_append_right _ h))))), fun w h => List.mem_cons_of_mem _ (List.mem_append_left _ (List.mem_append_left _ (List.mem_append_left _ (List.mem_append_right _ h)))), fun w h => List.mem_cons_of_mem _ (List.mem_append_left _ (List.mem_append_left _ (List.mem_append_right _ h))), fun w h => List.mem_cons_of_mem _ (List.mem_append_left _ (List.mem_append_right _ h)), fun w h => List.mem_cons_of_mem _ (List.mem_append_right _ h)⟩
  have hin3 : ∀ w ∈ wsX30, w ∈ wsX3_countWalkways := fun w h => List.mem_cons_of_mem _ (List.mem_append_left _ (List.mem_append_left _ (List.mem_append_left _ (List.mem_append_left _ (List.mem_append_left _ (List.mem_append_right _ h))))))
  have hl : lv_has ls 11 [(0, .ref mk), (1, .int (only))] := hl
  refine lv_iconst (v := 0) hx hb dX3_countWalkways_0 (by decide) ?_
  refine lv_istore_n (lv' := [(2, .int (0)), (0, .ref mk), (1, .int (only))]) hx hb dX3_countWalkways_1 rfl hl (by decide) rfl (fun ls hl => ?_)
  refine lv_aload_n hx hb dX3_countWalkways_2 rfl (lv_at hl 1 rfl) ?_
  refine mk_getM X w hm hin3 5 (by decide) (List.mem_of_getElem? (i := 1) rfl) rfl dX3_countWalkways_3 ?_
  refine lv_astore_n (lv' := [(3, .ref (ad 1)), (2, .int (0)), (0, .ref mk), (1, .int (only))]) hx hb dX3_countWalkways_6 rfl hl (by decide) rfl (fun ls hl => ?_)
  refine lv_aload_n hx hb dX3_countWalkways_7 rfl (lv_at hl 0 rfl) ?_
  refine mk_len X w hm dX3_countWalkways_8 ?_
  refine lv_istore (lv' := [(4, .int (6)), (3, .ref (ad 1)), (2, .int (0)), (0, .ref mk), (1, .int (only))]) hx hb dX3_countWalkways_9 hl (by decide) rfl (fun ls hl => ?_)
  refine lv_iconst (v := 0) hx hb dX3_countWalkways_11 (by decide) ?_
  refine lv_istore (lv' := [(5, .int (0)), (4, .int (6)), (3, .ref (ad 1)), (2, .int (0)), (0, .ref mk), (1, .int (only))]) hx hb dX3_countWalkways_12 hl (by decide) rfl (fun ls hl => ?_)
  have loop : ∀ (n0 k : Nat), k ≤ 6 → 6 + 1 ≤ k + n0 → ∀ (H : Heap) (locs : List Loc) (ls : Array Slot), hg_W D b0 L (mk_F D f mk ad n g) s.heap H locs → lv_has ls 11 [(0, .ref mk), (1, .int (only)), (2, .int (mk_w g n only (min k n))), (3, .ref (ad 1)), (4, .int (6)), (5, .int (nI k))] → W p l e ({ frames := 5, cells := 0, slots := 0, locals := 112 }) s m args below meth c H locs 0 0 Q (F0 m 14 ls []) := by
    intro n0
    induction n0 with
    | zero =>
      intro k h1 h2
      exact absurd h2 (by omega)
    | succ n0 ih =>
      intro k hk hn0 H locs ls w hl
      refine lv_iload hx hb dX3_countWalkways_14 (lv_at hl 5 rfl) ?_
      refine lv_iload hx hb dX3_countWalkways_16 (lv_at hl 4 rfl) ?_
      refine lv_icmp_ge (tgt := 119) hx hb dX3_countWalkways_18 (by decide) (fun c_18 => ?_) (fun c_18 => ?_)
      · have hk : 6 = k := by
          rcases Nat.lt_or_ge k 6 with q | q
          · exact absurd c_18 (nI_ge (a := k) (b := 6) q (by omega))
          · omega
        subst hk
        refine lv_iload_n hx hb dX3_countWalkways_119 rfl (lv_at hl 2 rfl) ?_
        exact hend H locs (mk_w g n only (min 6 n)) (L, mk_F D f mk ad n g) _ ls w ⟨(by rw [show min 6 n = n by have := hs.2.1; omega]), rfl⟩ rfl dX3_countWalkways_120
      · have hkl : k < 6 := by
          rcases Nat.lt_or_ge k 6 with q | q
          · exact q
          · exact absurd (nI_le (a := 6) (b := k) q (by omega)) c_18
        refine lv_aload_n hx hb dX3_countWalkways_21 rfl (lv_at hl 3 rfl) ?_
        refine lv_iload hx hb dX3_countWalkways_22 (lv_at hl 5 rfl) ?_
        refine mk_ald X w hm k rfl (by omega) dX3_countWalkways_24 (fun hjk => ?_) (fun hjk => ?_)
        · refine lv_astore (lv' := [(6, .ref (ad (2 + k))), (0, .ref mk), (1, .int (only)), (2, .int (mk_w g n only (min k n))), (3, .ref (ad 1)), (4, .int (6)), (5, .int (nI k))]) hx hb dX3_countWalkways_25 hl (by decide) rfl (fun ls hl => ?_)
          refine lv_aload_n hx hb dX3_countWalkways_27 rfl (lv_at hl 1 rfl) ?_
          refine mk_getM X w hm hin3 5 (by decide) (List.mem_of_getElem? (i := 1) rfl) rfl dX3_countWalkways_28 ?_
          refine lv_astore (lv' := [(7, .ref (ad 1)), (6, .ref (ad (2 + k))), (0, .ref mk), (1, .int (only)), (2, .int (mk_w g n only (min k n))), (3, .ref (ad 1)), (4, .int (6)), (5, .int (nI k))]) hx hb dX3_countWalkways_31 hl (by decide) rfl (fun ls hl => ?_)
          refine lv_aload hx hb dX3_countWalkways_33 (lv_at hl 0 rfl) ?_
          refine mk_len X w hm dX3_countWalkways_35 ?_
          refine lv_istore (lv' := [(8, .int (6)), (7, .ref (ad 1)), (6, .ref (ad (2 + k))), (0, .ref mk), (1, .int (only)), (2, .int (mk_w g n only (min k n))), (3, .ref (ad 1)), (4, .int (6)), (5, .int (nI k))]) hx hb dX3_countWalkways_36 hl (by decide) rfl (fun ls hl => ?_)
          refine lv_iconst (v := 0) hx hb dX3_countWalkways_38 (by decide) ?_
          refine lv_istore (lv' := [(9, .int (0)), (8, .int (6)), (7, .ref (ad 1)), (6, .ref (ad (2 + k))), (0, .ref mk), (1, .int (only)), (2, .int (mk_w g n only (min k n))), (3, .ref (ad 1)), (4, .int (6)), (5, .int (nI k))]) hx hb dX3_countWalkways_39 hl (by decide) rfl (fun ls hl => ?_)
          have loop2 : ∀ (n0 k2 : Nat), k2 ≤ 6 → 6 + 1 ≤ k2 + n0 → ∀ (H : Heap) (locs : List Loc) (ls : Array Slot), hg_W D b0 L (mk_F D f mk ad n g) s.heap H locs → lv_has ls 11 [(0, .ref mk), (1, .int (only)), (2, .int (mk_w1 g n only k (mk_w g n only (min k n)) (min k2 n))), (3, .ref (ad 1)), (4, .int (6)), (5, .int (nI k)), (6, .ref (ad (2 + k))), (7, .ref (ad 1)), (8, .int (6)), (9, .int (nI k2))] → W p l e ({ frames := 5, cells := 0, slots := 0, locals := 112 }) s m args below meth c H locs 0 0 Q (F0 m 41 ls []) := by
            intro n0
            induction n0 with
            | zero =>
              intro k2 h1 h2
              exact absurd h2 (by omega)
            | succ n0 ih2 =>
              intro k2 hk hn0 H locs ls w hl
              refine lv_iload hx hb dX3_countWalkways_41 (lv_at hl 9 rfl) ?_
              refine lv_iload hx hb dX3_countWalkways_43 (lv_at hl 8 rfl) ?_
              refine lv_icmp_ge (tgt := 113) hx hb dX3_countWalkways_45 (by decide) (fun c_45 => ?_) (fun c_45 => ?_)
              · have hk2 : 6 = k2 := by
                  rcases Nat.lt_or_ge k2 6 with q | q
                  · exact absurd c_45 (nI_ge (a := k2) (b := 6) q (by omega))
                  · omega
                subst hk2
                refine lv_iinc (v := nI k + 1) (lv' := [(5, .int (nI k + 1)), (0, .ref mk), (1, .int (only)), (2, .int (mk_w1 g n only k (mk_w g n only (min k n)) (min 6 n))), (3, .ref (ad 1)), (4, .int (6)), (6, .ref (ad (2 + k))), (7, .ref (ad 1)), (8, .int (6)), (9, .int (nI 6))]) hx hb dX3_countWalkways_113 hl (k := 5) rfl rfl (by decide) rfl (fun ls hl => ?_)
                refine lv_goto (tgt := 14) hx hb dX3_countWalkways_116 (by decide) ?_
                have he2 : (mk_w1 g n only k (mk_w g n only (min k n)) (min 6 n)) = mk_w g n only (min (k + 1) n) := by exact mk_w_y hs.2.1 hjk
                have hl := hs_lv hl (k := 3) rfl he2
                have hl := hs_lv hl (k := 0) rfl (nI_1 k)
                exact ih (k + 1) (by omega) (by omega) H locs ls w (lv_sub hl [1, 2, 3, 4, 5, 0] rfl)
              · have hk2l : k2 < 6 := by
                  rcases Nat.lt_or_ge k2 6 with q | q
                  · exact q
                  · exact absurd (nI_le (a := 6) (b := k2) q (by omega)) c_45
                refine lv_aload hx hb dX3_countWalkways_48 (lv_at hl 7 rfl) ?_
                refine lv_iload hx hb dX3_countWalkways_50 (lv_at hl 9 rfl) ?_
                refine mk_ald X w hm k2 rfl (by omega) dX3_countWalkways_52 (fun hjk2 => ?_) (fun hjk2 => ?_)
                · refine lv_astore (lv' := [(10, .ref (ad (2 + k2))), (0, .ref mk), (1, .int (only)), (2, .int (mk_w1 g n only k (mk_w g n only (min k n)) (min k2 n))), (3, .ref (ad 1)), (4, .int (6)), (5, .int (nI k)), (6, .ref (ad (2 + k))), (7, .ref (ad 1)), (8, .int (6)), (9, .int (nI k2))]) hx hb dX3_countWalkways_53 hl (by decide) rfl (fun ls hl => ?_)
                  refine lv_aload hx hb dX3_countWalkways_55 (lv_at hl 7 rfl) ?_
                  refine lv_ifnull hx hb dX3_countWalkways_57 ?_
                  refine lv_aload hx hb dX3_countWalkways_60 (lv_at hl 0 rfl) ?_
                  refine lv_ifnull hx hb dX3_countWalkways_62 ?_
                  refine lv_aload hx hb dX3_countWalkways_65 (lv_at hl 7 rfl) ?_
                  refine mk_get X w hm hs hin hjk 0 (by decide) (List.mem_of_getElem? (i := 2) rfl) (Or.inl rfl) rfl dX3_countWalkways_67 ?_
                  refine lv_aload hx hb dX3_countWalkways_70 (lv_at hl 0 rfl) ?_
                  refine mk_get X w hm hs hin hjk2 0 (by decide) (List.mem_of_getElem? (i := 2) rfl) (Or.inl rfl) rfl dX3_countWalkways_72 ?_
                  refine lv_icmp_ge (tgt := 107) hx hb dX3_countWalkways_75 (by decide) (fun c_75 => ?_) (fun c_75 => ?_)
                  · refine lv_iinc (v := nI k2 + 1) (lv' := [(9, .int (nI k2 + 1)), (10, .ref (ad (2 + k2))), (0, .ref mk), (1, .int (only)), (2, .int (mk_w1 g n only k (mk_w g n only (min k n)) (min k2 n))), (3, .ref (ad 1)), (4, .int (6)), (5, .int (nI k)), (6, .ref (ad (2 + k))), (7, .ref (ad 1)), (8, .int (6))]) hx hb dX3_countWalkways_107 hl (k := 10) rfl rfl (by decide) rfl (fun ls hl => ?_)
                    refine lv_goto (tgt := 41) hx hb dX3_countWalkways_110 (by decide) ?_
                    have he2 : (mk_w1 g n only k (mk_w g n only (min k n)) (min k2 n)) = mk_w1 g n only k (mk_w g n only (min k n)) (min (k2 + 1) n) := by exact mk_w1_n hjk2 (fun q => absurd q.1 (hs_nlt c_75))
                    have hl := hs_lv hl (k := 4) rfl he2
                    have hl := hs_lv hl (k := 0) rfl (nI_1 k2)
                    exact ih2 (k2 + 1) (by omega) (by omega) H locs ls w (lv_sub hl [2, 3, 4, 5, 6, 7, 8, 9, 10, 0] rfl)
                  · refine lv_aload_n hx hb dX3_countWalkways_78 rfl (lv_at hl 1 rfl) ?_
                    refine lv_aload hx hb dX3_countWalkways_79 (lv_at hl 7 rfl) ?_
                    refine lv_aload hx hb dX3_countWalkways_81 (lv_at hl 0 rfl) ?_
                    refine hg_viF (r := (mk_joins g k k2)) (As := [.ref (ad (2 + k)), .ref (ad (2 + k2))]) (rest := []) X w (c_X3_joins l D b0 L f mk ad n g hm hs k k2 hjk hjk2) (cwV 2 hts gX3_countWalkways_X3_joins rfl rfl rfl hdX3_joins ⟨Nat.le_of_ble_eq_true rfl, Nat.le_of_ble_eq_true rfl⟩) hm.1 (mk_at0 D f mk ad n _) rfl rfl rfl hl.1 rfl (Nat.le_of_ble_eq_true rfl) dX3_countWalkways_83 ⟨Nat.zero_le _, Nat.zero_le _⟩ (fun H locs w => ?_)
                    refine lv_if_eq (tgt := 107) hx hb dX3_countWalkways_86 (by decide) (fun c_86 => ?_) (fun c_86 => ?_)
                    · refine lv_iinc (v := nI k2 + 1) (lv' := [(9, .int (nI k2 + 1)), (10, .ref (ad (2 + k2))), (0, .ref mk), (1, .int (only)), (2, .int (mk_w1 g n only k (mk_w g n only (min k n)) (min k2 n))), (3, .ref (ad 1)), (4, .int (6)), (5, .int (nI k)), (6, .ref (ad (2 + k))), (7, .ref (ad 1)), (8, .int (6))]) hx hb dX3_countWalkways_107 hl (k := 10) rfl rfl (by decide) rfl (fun ls hl => ?_)
                      refine lv_goto (tgt := 41) hx hb dX3_countWalkways_110 (by decide) ?_
                      have he2 : (mk_w1 g n only k (mk_w g n only (min k n)) (min k2 n)) = mk_w1 g n only k (mk_w g n only (min k n)) (min (k2 + 1) n) := by exact mk_w1_n hjk2 (fun q => q.2.1 c_86)
                      have hl := hs_lv hl (k := 4) rfl he2
                      have hl := hs_lv hl (k := 0) rfl (nI_1 k2)
                      exact ih2 (k2 + 1) (by omega) (by omega) H locs ls w (lv_sub hl [2, 3, 4, 5, 6, 7, 8, 9, 10, 0] rfl)
                    · refine lv_iload_n hx hb dX3_countWalkways_89 rfl (lv_at hl 2 rfl) ?_
                      refine lv_if_eq (tgt := 104) hx hb dX3_countWalkways_90 (by decide) (fun c_90 => ?_) (fun c_90 => ?_)
                      · refine lv_iinc (v := mk_w1 g n only k (mk_w g n only (min k n)) (min k2 n) + 1) (lv' := [(2, .int (mk_w1 g n only k (mk_w g n only (min k n)) (min k2 n) + 1)), (10, .ref (ad (2 + k2))), (0, .ref mk), (1, .int (only)), (3, .ref (ad 1)), (4, .int (6)), (5, .int (nI k)), (6, .ref (ad (2 + k))), (7, .ref (ad 1)), (8, .int (6)), (9, .int (nI k2))]) hx hb dX3_countWalkways_104 hl (k := 3) rfl rfl (by decide) rfl (fun ls hl => ?_)
                        refine lv_iinc (v := nI k2 + 1) (lv' := [(9, .int (nI k2 + 1)), (2, .int (mk_w1 g n only k (mk_w g n only (min k n)) (min k2 n) + 1)), (10, .ref (ad (2 + k2))), (0, .ref mk), (1, .int (only)), (3, .ref (ad 1)), (4, .int (6)), (5, .int (nI k)), (6, .ref (ad (2 + k))), (7, .ref (ad 1)), (8, .int (6))]) hx hb dX3_countWalkways_107 hl (k := 10) rfl rfl (by decide) rfl (fun ls hl => ?_)
                        refine lv_goto (tgt := 41) hx hb dX3_countWalkways_110 (by decide) ?_
                        have he2 : (mk_w1 g n only k (mk_w g n only (min k n)) (min k2 n) + 1) = mk_w1 g n only k (mk_w g n only (min k n)) (min (k2 + 1) n) := by exact mk_w1_y hjk2 (hs_lt c_75) c_86 (Or.inl c_90)
                        have hl := hs_lv hl (k := 1) rfl he2
                        have hl := hs_lv hl (k := 0) rfl (nI_1 k2)
                        exact ih2 (k2 + 1) (by omega) (by omega) H locs ls w (lv_sub hl [3, 4, 1, 5, 6, 7, 8, 9, 10, 0] rfl)
                      · refine lv_aload_n hx hb dX3_countWalkways_93 rfl (lv_at hl 1 rfl) ?_
                        refine lv_aload hx hb dX3_countWalkways_94 (lv_at hl 7 rfl) ?_
                        refine lv_aload hx hb dX3_countWalkways_96 (lv_at hl 0 rfl) ?_
                        refine hg_viF (r := (mk_meets g n k k2)) (As := [.ref (ad (2 + k)), .ref (ad (2 + k2))]) (rest := []) X w (c_X3_meets l D b0 L f mk ad n g hm hs nr ht k k2 hjk hjk2) (cwV 2 hts gX3_countWalkways_X3_meets rfl rfl rfl hdX3_meets ⟨Nat.le_of_ble_eq_true rfl, Nat.le_of_ble_eq_true rfl⟩) hm.1 (mk_at0 D f mk ad n _) rfl rfl rfl hl.1 rfl (Nat.le_of_ble_eq_true rfl) dX3_countWalkways_98 ⟨Nat.zero_le _, Nat.zero_le _⟩ (fun H locs w => ?_)
                        refine lv_if_eq (tgt := 107) hx hb dX3_countWalkways_101 (by decide) (fun c_101 => ?_) (fun c_101 => ?_)
                        · refine lv_iinc (v := nI k2 + 1) (lv' := [(9, .int (nI k2 + 1)), (10, .ref (ad (2 + k2))), (0, .ref mk), (1, .int (only)), (2, .int (mk_w1 g n only k (mk_w g n only (min k n)) (min k2 n))), (3, .ref (ad 1)), (4, .int (6)), (5, .int (nI k)), (6, .ref (ad (2 + k))), (7, .ref (ad 1)), (8, .int (6))]) hx hb dX3_countWalkways_107 hl (k := 10) rfl rfl (by decide) rfl (fun ls hl => ?_)
                          refine lv_goto (tgt := 41) hx hb dX3_countWalkways_110 (by decide) ?_
                          have he2 : (mk_w1 g n only k (mk_w g n only (min k n)) (min k2 n)) = mk_w1 g n only k (mk_w g n only (min k n)) (min (k2 + 1) n) := by exact mk_w1_n hjk2 (fun q => q.2.2.elim c_90 (fun z => z c_101))
                          have hl := hs_lv hl (k := 4) rfl he2
                          have hl := hs_lv hl (k := 0) rfl (nI_1 k2)
                          exact ih2 (k2 + 1) (by omega) (by omega) H locs ls w (lv_sub hl [2, 3, 4, 5, 6, 7, 8, 9, 10, 0] rfl)
                        · refine lv_iinc (v := mk_w1 g n only k (mk_w g n only (min k n)) (min k2 n) + 1) (lv' := [(2, .int (mk_w1 g n only k (mk_w g n only (min k n)) (min k2 n) + 1)), (10, .ref (ad (2 + k2))), (0, .ref mk), (1, .int (only)), (3, .ref (ad 1)), (4, .int (6)), (5, .int (nI k)), (6, .ref (ad (2 + k))), (7, .ref (ad 1)), (8, .int (6)), (9, .int (nI k2))]) hx hb dX3_countWalkways_104 hl (k := 3) rfl rfl (by decide) rfl (fun ls hl => ?_)
                          refine lv_iinc (v := nI k2 + 1) (lv' := [(9, .int (nI k2 + 1)), (2, .int (mk_w1 g n only k (mk_w g n only (min k n)) (min k2 n) + 1)), (10, .ref (ad (2 + k2))), (0, .ref mk), (1, .int (only)), (3, .ref (ad 1)), (4, .int (6)), (5, .int (nI k)), (6, .ref (ad (2 + k))), (7, .ref (ad 1)), (8, .int (6))]) hx hb dX3_countWalkways_107 hl (k := 10) rfl rfl (by decide) rfl (fun ls hl => ?_)
                          refine lv_goto (tgt := 41) hx hb dX3_countWalkways_110 (by decide) ?_
                          have he2 : (mk_w1 g n only k (mk_w g n only (min k n)) (min k2 n) + 1) = mk_w1 g n only k (mk_w g n only (min k n)) (min (k2 + 1) n) := by exact mk_w1_y hjk2 (hs_lt c_75) c_86 (Or.inr c_101)
                          have hl := hs_lv hl (k := 1) rfl he2
                          have hl := hs_lv hl (k := 0) rfl (nI_1 k2)
                          exact ih2 (k2 + 1) (by omega) (by omega) H locs ls w (lv_sub hl [3, 4, 1, 5, 6, 7, 8, 9, 10, 0] rfl)
                · refine lv_astoreN (lv' := [(10, .null), (0, .ref mk), (1, .int (only)), (2, .int (mk_w1 g n only k (mk_w g n only (min k n)) (min k2 n))), (3, .ref (ad 1)), (4, .int (6)), (5, .int (nI k)), (6, .ref (ad (2 + k))), (7, .ref (ad 1)), (8, .int (6)), (9, .int (nI k2))]) hx hb dX3_countWalkways_53 hl (by decide) rfl (fun ls hl => ?_)
                  refine lv_aload hx hb dX3_countWalkways_55 (lv_at hl 7 rfl) ?_
                  refine lv_ifnull hx hb dX3_countWalkways_57 ?_
                  refine lv_aloadN hx hb dX3_countWalkways_60 (lv_at hl 0 rfl) ?_
                  refine lv_ifnullN (tgt := 107) hx hb dX3_countWalkways_62 (by decide) ?_
                  refine lv_iinc (v := nI k2 + 1) (lv' := [(9, .int (nI k2 + 1)), (10, .null), (0, .ref mk), (1, .int (only)), (2, .int (mk_w1 g n only k (mk_w g n only (min k n)) (min k2 n))), (3, .ref (ad 1)), (4, .int (6)), (5, .int (nI k)), (6, .ref (ad (2 + k))), (7, .ref (ad 1)), (8, .int (6))]) hx hb dX3_countWalkways_107 hl (k := 10) rfl rfl (by decide) rfl (fun ls hl => ?_)
                  refine lv_goto (tgt := 41) hx hb dX3_countWalkways_110 (by decide) ?_
                  have he2 : (mk_w1 g n only k (mk_w g n only (min k n)) (min k2 n)) = mk_w1 g n only k (mk_w g n only (min k n)) (min (k2 + 1) n) := by exact mk_w1_0 hjk2
                  have hl := hs_lv hl (k := 4) rfl he2
                  have hl := hs_lv hl (k := 0) rfl (nI_1 k2)
                  exact ih2 (k2 + 1) (by omega) (by omega) H locs ls w (lv_sub hl [2, 3, 4, 5, 6, 7, 8, 9, 10, 0] rfl)
          exact loop2 7 0 (by omega) (by omega) H locs ls w (by rw [show min 0 n = 0 by omega]; exact lv_sub hl [4, 5, 6, 7, 8, 9, 3, 2, 1, 0] rfl)
        · refine lv_astoreN (lv' := [(6, .null), (0, .ref mk), (1, .int (only)), (2, .int (mk_w g n only (min k n))), (3, .ref (ad 1)), (4, .int (6)), (5, .int (nI k))]) hx hb dX3_countWalkways_25 hl (by decide) rfl (fun ls hl => ?_)
          refine lv_aload_n hx hb dX3_countWalkways_27 rfl (lv_at hl 1 rfl) ?_
          refine mk_getM X w hm hin3 5 (by decide) (List.mem_of_getElem? (i := 1) rfl) rfl dX3_countWalkways_28 ?_
          refine lv_astore (lv' := [(7, .ref (ad 1)), (6, .null), (0, .ref mk), (1, .int (only)), (2, .int (mk_w g n only (min k n))), (3, .ref (ad 1)), (4, .int (6)), (5, .int (nI k))]) hx hb dX3_countWalkways_31 hl (by decide) rfl (fun ls hl => ?_)
          refine lv_aload hx hb dX3_countWalkways_33 (lv_at hl 0 rfl) ?_
          refine mk_len X w hm dX3_countWalkways_35 ?_
          refine lv_istore (lv' := [(8, .int (6)), (7, .ref (ad 1)), (6, .null), (0, .ref mk), (1, .int (only)), (2, .int (mk_w g n only (min k n))), (3, .ref (ad 1)), (4, .int (6)), (5, .int (nI k))]) hx hb dX3_countWalkways_36 hl (by decide) rfl (fun ls hl => ?_)
          refine lv_iconst (v := 0) hx hb dX3_countWalkways_38 (by decide) ?_
          refine lv_istore (lv' := [(9, .int (0)), (8, .int (6)), (7, .ref (ad 1)), (6, .null), (0, .ref mk), (1, .int (only)), (2, .int (mk_w g n only (min k n))), (3, .ref (ad 1)), (4, .int (6)), (5, .int (nI k))]) hx hb dX3_countWalkways_39 hl (by decide) rfl (fun ls hl => ?_)
          have loop2 : ∀ (n0 k2 : Nat), k2 ≤ 6 → 6 + 1 ≤ k2 + n0 → ∀ (H : Heap) (locs : List Loc) (ls : Array Slot), hg_W D b0 L (mk_F D f mk ad n g) s.heap H locs → lv_has ls 11 [(0, .ref mk), (1, .int (only)), (2, .int (mk_w g n only (min k n))), (3, .ref (ad 1)), (4, .int (6)), (5, .int (nI k)), (6, .null), (7, .ref (ad 1)), (8, .int (6)), (9, .int (nI k2))] → W p l e ({ frames := 5, cells := 0, slots := 0, locals := 112 }) s m args below meth c H locs 0 0 Q (F0 m 41 ls []) := by
            intro n0
            induction n0 with
            | zero =>
              intro k2 h1 h2
              exact absurd h2 (by omega)
            | succ n0 ih2 =>
              intro k2 hk hn0 H locs ls w hl
              refine lv_iload hx hb dX3_countWalkways_41 (lv_at hl 9 rfl) ?_
              refine lv_iload hx hb dX3_countWalkways_43 (lv_at hl 8 rfl) ?_
              refine lv_icmp_ge (tgt := 113) hx hb dX3_countWalkways_45 (by decide) (fun c_45 => ?_) (fun c_45 => ?_)
              · have hk2 : 6 = k2 := by
                  rcases Nat.lt_or_ge k2 6 with q | q
                  · exact absurd c_45 (nI_ge (a := k2) (b := 6) q (by omega))
                  · omega
                subst hk2
                refine lv_iinc (v := nI k + 1) (lv' := [(5, .int (nI k + 1)), (0, .ref mk), (1, .int (only)), (2, .int (mk_w g n only (min k n))), (3, .ref (ad 1)), (4, .int (6)), (6, .null), (7, .ref (ad 1)), (8, .int (6)), (9, .int (nI 6))]) hx hb dX3_countWalkways_113 hl (k := 5) rfl rfl (by decide) rfl (fun ls hl => ?_)
                refine lv_goto (tgt := 14) hx hb dX3_countWalkways_116 (by decide) ?_
                have he2 : (mk_w g n only (min k n)) = mk_w g n only (min (k + 1) n) := by exact mk_w_0 hjk
                have hl := hs_lv hl (k := 3) rfl he2
                have hl := hs_lv hl (k := 0) rfl (nI_1 k)
                exact ih (k + 1) (by omega) (by omega) H locs ls w (lv_sub hl [1, 2, 3, 4, 5, 0] rfl)
              · have hk2l : k2 < 6 := by
                  rcases Nat.lt_or_ge k2 6 with q | q
                  · exact q
                  · exact absurd (nI_le (a := 6) (b := k2) q (by omega)) c_45
                refine lv_aload hx hb dX3_countWalkways_48 (lv_at hl 7 rfl) ?_
                refine lv_iload hx hb dX3_countWalkways_50 (lv_at hl 9 rfl) ?_
                refine mk_ald X w hm k2 rfl (by omega) dX3_countWalkways_52 (fun hjk2 => ?_) (fun hjk2 => ?_)
                · refine lv_astore (lv' := [(10, .ref (ad (2 + k2))), (0, .ref mk), (1, .int (only)), (2, .int (mk_w g n only (min k n))), (3, .ref (ad 1)), (4, .int (6)), (5, .int (nI k)), (6, .null), (7, .ref (ad 1)), (8, .int (6)), (9, .int (nI k2))]) hx hb dX3_countWalkways_53 hl (by decide) rfl (fun ls hl => ?_)
                  refine lv_aloadN hx hb dX3_countWalkways_55 (lv_at hl 7 rfl) ?_
                  refine lv_ifnullN (tgt := 107) hx hb dX3_countWalkways_57 (by decide) ?_
                  refine lv_iinc (v := nI k2 + 1) (lv' := [(9, .int (nI k2 + 1)), (10, .ref (ad (2 + k2))), (0, .ref mk), (1, .int (only)), (2, .int (mk_w g n only (min k n))), (3, .ref (ad 1)), (4, .int (6)), (5, .int (nI k)), (6, .null), (7, .ref (ad 1)), (8, .int (6))]) hx hb dX3_countWalkways_107 hl (k := 10) rfl rfl (by decide) rfl (fun ls hl => ?_)
                  refine lv_goto (tgt := 41) hx hb dX3_countWalkways_110 (by decide) ?_
                  have hl := hs_lv hl (k := 0) rfl (nI_1 k2)
                  exact ih2 (k2 + 1) (by omega) (by omega) H locs ls w (lv_sub hl [2, 3, 4, 5, 6, 7, 8, 9, 10, 0] rfl)
                · refine lv_astoreN (lv' := [(10, .null), (0, .ref mk), (1, .int (only)), (2, .int (mk_w g n only (min k n))), (3, .ref (ad 1)), (4, .int (6)), (5, .int (nI k)), (6, .null), (7, .ref (ad 1)), (8, .int (6)), (9, .int (nI k2))]) hx hb dX3_countWalkways_53 hl (by decide) rfl (fun ls hl => ?_)
                  refine lv_aloadN hx hb dX3_countWalkways_55 (lv_at hl 7 rfl) ?_
                  refine lv_ifnullN (tgt := 107) hx hb dX3_countWalkways_57 (by decide) ?_
                  refine lv_iinc (v := nI k2 + 1) (lv' := [(9, .int (nI k2 + 1)), (10, .null), (0, .ref mk), (1, .int (only)), (2, .int (mk_w g n only (min k n))), (3, .ref (ad 1)), (4, .int (6)), (5, .int (nI k)), (6, .null), (7, .ref (ad 1)), (8, .int (6))]) hx hb dX3_countWalkways_107 hl (k := 10) rfl rfl (by decide) rfl (fun ls hl => ?_)
                  refine lv_goto (tgt := 41) hx hb dX3_countWalkways_110 (by decide) ?_
                  have hl := hs_lv hl (k := 0) rfl (nI_1 k2)
                  exact ih2 (k2 + 1) (by omega) (by omega) H locs ls w (lv_sub hl [2, 3, 4, 5, 6, 7, 8, 9, 10, 0] rfl)
          exact loop2 7 0 (by omega) (by omega) H locs ls w (lv_sub hl [4, 5, 6, 7, 8, 9, 3, 2, 1, 0] rfl)
  exact loop 7 0 (by omega) (by omega) H locs ls w (by rw [show min 0 n = 0 by omega]; exact lv_sub hl [4, 5, 3, 2, 1, 0] rfl)
