theorem hdX6_ofKind : yX6_ofKind.cls ≠ "java/lang/invoke/MethodHandle" ∧ yX6_ofKind.cls ≠ "java/lang/invoke/VarHandle" ∧ (parseMethodDescriptor yX6_ofKind.desc).map (fun d => d.parameters.length) = some 1 := by decide +kernel
set_option maxRecDepth 100000 in
set_option maxHeartbeats 4000000 in
theorem c_X6_twin (l : Launch) (D : va_G) (b0 : Nat) (L : List Nat) (f : Nat → va_E) (mk : Nat) (ad : Nat → Nat) (n : Nat) (g : Nat → Int32) (hm : mk_ok L mk ad n) (hs : mk_sr g n) (i : Nat) (hi : i < n) : hg_Mq l yX6_twin wsX6_twin ({ frames := 5, cells := 1, slots := 7, locals := 92 }) D b0 L (mk_F D f mk ad n g) [.ref (ad (2 + i))] (fun v u => ∃ q, v = some q ∧ q ∉ L ∧ u = (L ++ [q], va_up (mk_F D f mk ad n g) q (.inr (mk_kc (g (8 + i)), mk_st g i)))) 1 7 := by
  refine hg_in_q (cc := cX6_twin) (nL := 2) (by decide) rfl (Nat.le_of_ble_eq_true rfl) (fun p e s m args below meth c R Q X hR hend H locs ls w hl => ?_)
  subst hR
  obtain ⟨hx, hb, hml, hown, hts⟩ := id X.1
  have hin : mk_in wsX6_twin := ⟨fun w h => List.mem_cons_of_mem _ (List.mem_append_left _ (List.mem_append_left _ (List.mem_append_left _ (List.mem_append_left _ (List.mem_append_right _ h))))), fun w h => List.mem_cons_of_mem _ (List.mem_append_left _ (List.mem_append_left _ (List.mem_append_left _ (List.mem_append_right _ h)))), fun w h => List.mem_cons_of_mem _ (List.mem_append_left _ (List.mem_append_left _ (List.mem_append_right _ h))), fun w h => List.mem_cons_of_mem _ (List.mem_append_left _ (List.mem_append_right _ h)), fun w h => List.mem_cons_of_mem _ (List.mem_append_right _ h)⟩
  have hl : lv_has ls 2 [(0, .ref (ad (2 + i)))] := hl
  refine lv_aload_n hx hb dX6_twin_0 rfl (lv_at hl 0 rfl) ?_
  refine hg_back (rest := []) (post := fun x u => x = g (8 + i) ∧ u = (L, mk_F D f mk ad n g)) w (by
    rcases hs.2.2.1 i hi with hk | hk | hk | hk | hk
    · exact mk_runU (As := []) (C := RX7) (ci := 5) (fs := mk_st g i) X w (by rw [hk]; exact c_X7_kindTold l D b0 L f mk ad n g hm hs i hi) (va_cwA 0 hts gX6_twin_X7_kindTold_u49X7 rfl rfl rfl X.2.1.2.2.2.2.1 (by decide +kernel) ⟨Nat.le_of_ble_eq_true rfl, Nat.le_of_ble_eq_true rfl⟩) (hm.2.1 (2 + i) (by omega)).1 (by rw [mk_atS hm hi, hk]; rfl) rfl rfl rfl hl.1 rfl (Nat.le_of_ble_eq_true rfl) dX6_twin_1 ⟨Nat.zero_le _, Nat.zero_le _⟩
    · exact mk_runU (As := []) (C := RX2) (ci := 1) (fs := mk_st g i) X w (by rw [hk]; exact c_X2_kindTold l D b0 L f mk ad n g hm hs i hi) (va_cwA 0 hts gX6_twin_X2_kindTold_u49X2 rfl rfl rfl X.2.1.2.2.2.2.1 (by decide +kernel) ⟨Nat.le_of_ble_eq_true rfl, Nat.le_of_ble_eq_true rfl⟩) (hm.2.1 (2 + i) (by omega)).1 (by rw [mk_atS hm hi, hk]; rfl) rfl rfl rfl hl.1 rfl (Nat.le_of_ble_eq_true rfl) dX6_twin_1 ⟨Nat.zero_le _, Nat.zero_le _⟩
    · exact mk_runU (As := []) (C := RX0) (ci := 0) (fs := mk_st g i) X w (by rw [hk]; exact c_X0_kindTold l D b0 L f mk ad n g hm hs i hi) (va_cwA 0 hts gX6_twin_X0_kindTold_u49X0 rfl rfl rfl X.2.1.2.2.2.2.1 (by decide +kernel) ⟨Nat.le_of_ble_eq_true rfl, Nat.le_of_ble_eq_true rfl⟩) (hm.2.1 (2 + i) (by omega)).1 (by rw [mk_atS hm hi, hk]; rfl) rfl rfl rfl hl.1 rfl (Nat.le_of_ble_eq_true rfl) dX6_twin_1 ⟨Nat.zero_le _, Nat.zero_le _⟩
    · exact mk_runU (As := []) (C := RX4) (ci := 3) (fs := mk_st g i) X w (by rw [hk]; exact c_X4_kindTold l D b0 L f mk ad n g hm hs i hi) (va_cwA 0 hts gX6_twin_X4_kindTold_u49X4 rfl rfl rfl X.2.1.2.2.2.2.1 (by decide +kernel) ⟨Nat.le_of_ble_eq_true rfl, Nat.le_of_ble_eq_true rfl⟩) (hm.2.1 (2 + i) (by omega)).1 (by rw [mk_atS hm hi, hk]; rfl) rfl rfl rfl hl.1 rfl (Nat.le_of_ble_eq_true rfl) dX6_twin_1 ⟨Nat.zero_le _, Nat.zero_le _⟩
    · exact mk_runU (As := []) (C := RX10) (ci := 8) (fs := mk_st g i) X w (by rw [hk]; exact c_X10_kindTold l D b0 L f mk ad n g hm hs i hi) (va_cwA 0 hts gX6_twin_X10_kindTold_u49X10 rfl rfl rfl X.2.1.2.2.2.2.1 (by decide +kernel) ⟨Nat.le_of_ble_eq_true rfl, Nat.le_of_ble_eq_true rfl⟩) (hm.2.1 (2 + i) (by omega)).1 (by rw [mk_atS hm hi, hk]; rfl) rfl rfl rfl hl.1 rfl (Nat.le_of_ble_eq_true rfl) dX6_twin_1 ⟨Nat.zero_le _, Nat.zero_le _⟩) (fun r0 u0 H locs hp w => ?_)
  obtain ⟨rfl, rfl⟩ := hp
  have w : hg_W D b0 L (mk_F D f mk ad n g) s.heap H locs := w
  refine hg_sq (As := [.int (g (8 + i))]) (rest := []) X w (c_X6_ofKind l D b0 L (mk_F D f mk ad n g) (g (8 + i)) (hs.2.2.1 i hi)) (va_cwS 1 hts gX6_twin_X6_ofKind rfl rfl rfl hdX6_ofKind ⟨Nat.le_of_ble_eq_true rfl, Nat.le_of_ble_eq_true rfl⟩) rfl hl.1 rfl (Nat.le_of_ble_eq_true rfl) dX6_twin_4 ⟨(Nat.le_of_ble_eq_true rfl), (Nat.le_of_ble_eq_true rfl)⟩ (fun v0 u0 H locs hp w => ?_)
  obtain ⟨q, rfl, hq, rfl⟩ := hp
  have hqi : ad (2 + i) ≠ q := fun z => hq (by rw [← z]; exact (hm.2.1 (2 + i) (by omega)).1)
  refine (show W p l e _ s m args below meth c H locs _ _ Q (F0 m 7 ls [.ref q]) from ?_)
  refine lv_astore_n (lv' := [(1, .ref q), (0, .ref (ad (2 + i)))]) hx hb dX6_twin_7 rfl hl (by decide) rfl (fun ls hl => ?_)
  refine lv_aload_n hx hb dX6_twin_8 rfl (lv_at hl 0 rfl) ?_
  refine lv_aload_n hx hb dX6_twin_9 rfl (lv_at hl 1 rfl) ?_
  refine hg_getS X w hin (List.mem_append_left _ (hm.2.1 (2 + i) (by omega)).1) (al_kc5 _) ((va_up_ne _ _ hqi).trans (mk_atS hm hi)) 0 (by decide) (List.mem_of_getElem? (i := 1) rfl) rfl dX6_twin_10 ?_
  refine hg_putS X w hin (List.mem_append_right _ (List.mem_of_getElem? (i := 0) rfl)) (al_kc5 _) (va_up_self _ _ _) rfl 0 (by decide) (List.mem_of_getElem? (i := 1) rfl) (fun q => absurd q (by decide)) dX6_twin_13 (fun H locs w => ?_)
  rw [bx_uu] at w
  have w : hg_W D b0 (L ++ [q]) (va_up (mk_F D f mk ad n g) q (.inr (mk_kc (g (8 + i)), [.int (nI i), .int 0, .int 0, .int 0, .int 0, .int 0, .int 0]))) s.heap H locs := w
  refine lv_aload_n hx hb dX6_twin_16 rfl (lv_at hl 0 rfl) ?_
  refine lv_aload_n hx hb dX6_twin_17 rfl (lv_at hl 1 rfl) ?_
  refine hg_getS X w hin (List.mem_append_left _ (hm.2.1 (2 + i) (by omega)).1) (al_kc5 _) ((va_up_ne _ _ hqi).trans (mk_atS hm hi)) 1 (by decide) (List.mem_of_getElem? (i := 2) rfl) rfl dX6_twin_18 ?_
  refine hg_putS X w hin (List.mem_append_right _ (List.mem_of_getElem? (i := 0) rfl)) (al_kc5 _) (va_up_self _ _ _) rfl 1 (by decide) (List.mem_of_getElem? (i := 2) rfl) (fun q => absurd q (by decide)) dX6_twin_21 (fun H locs w => ?_)
  rw [bx_uu] at w
  have w : hg_W D b0 (L ++ [q]) (va_up (mk_F D f mk ad n g) q (.inr (mk_kc (g (8 + i)), [.int (nI i), .int (g (14 + i)), .int 0, .int 0, .int 0, .int 0, .int 0]))) s.heap H locs := w
  refine lv_aload_n hx hb dX6_twin_24 rfl (lv_at hl 0 rfl) ?_
  refine lv_aload_n hx hb dX6_twin_25 rfl (lv_at hl 1 rfl) ?_
  refine hg_getS X w hin (List.mem_append_left _ (hm.2.1 (2 + i) (by omega)).1) (al_kc5 _) ((va_up_ne _ _ hqi).trans (mk_atS hm hi)) 2 (by decide) (List.mem_of_getElem? (i := 3) rfl) rfl dX6_twin_26 ?_
  refine hg_putS X w hin (List.mem_append_right _ (List.mem_of_getElem? (i := 0) rfl)) (al_kc5 _) (va_up_self _ _ _) rfl 2 (by decide) (List.mem_of_getElem? (i := 3) rfl) (fun q => absurd q (by decide)) dX6_twin_29 (fun H locs w => ?_)
  rw [bx_uu] at w
  have w : hg_W D b0 (L ++ [q]) (va_up (mk_F D f mk ad n g) q (.inr (mk_kc (g (8 + i)), [.int (nI i), .int (g (14 + i)), .int (g (20 + i)), .int 0, .int 0, .int 0, .int 0]))) s.heap H locs := w
  refine lv_aload_n hx hb dX6_twin_32 rfl (lv_at hl 0 rfl) ?_
  refine lv_aload_n hx hb dX6_twin_33 rfl (lv_at hl 1 rfl) ?_
  refine hg_getS X w hin (List.mem_append_left _ (hm.2.1 (2 + i) (by omega)).1) (al_kc5 _) ((va_up_ne _ _ hqi).trans (mk_atS hm hi)) 3 (by decide) (List.mem_of_getElem? (i := 4) rfl) rfl dX6_twin_34 ?_
  refine hg_putS X w hin (List.mem_append_right _ (List.mem_of_getElem? (i := 0) rfl)) (al_kc5 _) (va_up_self _ _ _) rfl 3 (by decide) (List.mem_of_getElem? (i := 4) rfl) (fun q => absurd q (by decide)) dX6_twin_37 (fun H locs w => ?_)
  rw [bx_uu] at w
  have w : hg_W D b0 (L ++ [q]) (va_up (mk_F D f mk ad n g) q (.inr (mk_kc (g (8 + i)), [.int (nI i), .int (g (14 + i)), .int (g (20 + i)), .int (g (26 + i)), .int 0, .int 0, .int 0]))) s.heap H locs := w
  refine lv_aload_n hx hb dX6_twin_40 rfl (lv_at hl 0 rfl) ?_
  refine lv_aload_n hx hb dX6_twin_41 rfl (lv_at hl 1 rfl) ?_
  refine hg_getS X w hin (List.mem_append_left _ (hm.2.1 (2 + i) (by omega)).1) (al_kc5 _) ((va_up_ne _ _ hqi).trans (mk_atS hm hi)) 4 (by decide) (List.mem_of_getElem? (i := 5) rfl) rfl dX6_twin_42 ?_
  refine hg_putS X w hin (List.mem_append_right _ (List.mem_of_getElem? (i := 0) rfl)) (al_kc5 _) (va_up_self _ _ _) rfl 4 (by decide) (List.mem_of_getElem? (i := 5) rfl) (fun q => absurd q (by decide)) dX6_twin_45 (fun H locs w => ?_)
  rw [bx_uu] at w
  have w : hg_W D b0 (L ++ [q]) (va_up (mk_F D f mk ad n g) q (.inr (mk_kc (g (8 + i)), [.int (nI i), .int (g (14 + i)), .int (g (20 + i)), .int (g (26 + i)), .int (g (32 + i)), .int 0, .int 0]))) s.heap H locs := w
  refine lv_aload_n hx hb dX6_twin_48 rfl (lv_at hl 0 rfl) ?_
  refine lv_aload_n hx hb dX6_twin_49 rfl (lv_at hl 1 rfl) ?_
  refine hg_getS X w hin (List.mem_append_left _ (hm.2.1 (2 + i) (by omega)).1) (al_kc5 _) ((va_up_ne _ _ hqi).trans (mk_atS hm hi)) 5 (by decide) (List.mem_of_getElem? (i := 6) rfl) rfl dX6_twin_50 ?_
  refine hg_putS X w hin (List.mem_append_right _ (List.mem_of_getElem? (i := 0) rfl)) (al_kc5 _) (va_up_self _ _ _) rfl 5 (by decide) (List.mem_of_getElem? (i := 6) rfl) (fun q => absurd q (by decide)) dX6_twin_53 (fun H locs w => ?_)
  rw [bx_uu] at w
  have w : hg_W D b0 (L ++ [q]) (va_up (mk_F D f mk ad n g) q (.inr (mk_kc (g (8 + i)), [.int (nI i), .int (g (14 + i)), .int (g (20 + i)), .int (g (26 + i)), .int (g (32 + i)), .int (g (38 + i)), .int 0]))) s.heap H locs := w
  refine lv_aload_n hx hb dX6_twin_56 rfl (lv_at hl 0 rfl) ?_
  refine lv_aload_n hx hb dX6_twin_57 rfl (lv_at hl 1 rfl) ?_
  refine hg_getS X w hin (List.mem_append_left _ (hm.2.1 (2 + i) (by omega)).1) (al_kc5 _) ((va_up_ne _ _ hqi).trans (mk_atS hm hi)) 6 (by decide) (List.mem_of_getElem? (i := 7) rfl) rfl dX6_twin_58 ?_
  refine hg_putS X w hin (List.mem_append_right _ (List.mem_of_getElem? (i := 0) rfl)) (al_kc5 _) (va_up_self _ _ _) rfl 6 (by decide) (List.mem_of_getElem? (i := 7) rfl) (fun _ => hs.2.2.2 i hi) dX6_twin_61 (fun H locs w => ?_)
  rw [bx_uu] at w
  have w : hg_W D b0 (L ++ [q]) (va_up (mk_F D f mk ad n g) q (.inr (mk_kc (g (8 + i)), [.int (nI i), .int (g (14 + i)), .int (g (20 + i)), .int (g (26 + i)), .int (g (32 + i)), .int (g (38 + i)), .int (g (44 + i))]))) s.heap H locs := w
  refine lv_aload_n hx hb dX6_twin_64 rfl (lv_at hl 0 rfl) ?_
  exact hend H locs (some q) _ _ ls w ⟨q, rfl, hq, rfl⟩ dX6_twin_65
set_option maxRecDepth 100000 in
set_option maxHeartbeats 4000000 in
theorem c_X3_addRope (l : Launch) (D : va_G) (b0 : Nat) (L : List Nat) (f : Nat → va_E) (mk : Nat) (ad : Nat → Nat) (n : Nat) (g : Nat → Int32) (hm : mk_ok L mk ad n) (hs : mk_sr g n) (nr : Nat) (hnr : nr < 3) (h2 : g 2 = nI nr) (strands : Int32) : hg_Fv l yX3_addRope wsX3_addRope ({ frames := 0, cells := 0, slots := 0, locals := 0 }) D b0 L (mk_F D f mk ad n g) [.ref mk, .int (strands)] (mk_F D f mk ad n (va_up (va_up g (5 + nr) strands) 2 (nI (nr + 1)))) := by
  refine hg_in_v (cc := cX3_addRope) (nL := 2) (by decide) rfl (Nat.le_of_ble_eq_true rfl) (fun p e s m args below meth c R Q X _ hR hend H locs ls w hl => ?_)
  subst hR
  obtain ⟨hx, hb, hml, hown, hts⟩ := id X.1
  have hin3 : ∀ w ∈ wsX30, w ∈ wsX3_addRope := fun w h => List.mem_cons_of_mem _ (List.mem_append_right _ h)
  have hl : lv_has ls 2 [(0, .ref mk), (1, .int (strands))] := hl
  refine lv_aload_n hx hb dX3_addRope_0 rfl (lv_at hl 0 rfl) ?_
  refine mk_getM X w hm hin3 2 (by decide) (List.mem_of_getElem? (i := 1) rfl) rfl dX3_addRope_1 ?_
  refine lv_iconst (v := 3) hx hb dX3_addRope_4 (by decide) ?_
  refine lv_icmp_ge (tgt := 28) hx hb dX3_addRope_5 (by decide) (fun c_5 => ?_) (fun c_5 => ?_)
  · rw [h2] at c_5
    exact absurd c_5 (nI_ge (a := nr) (b := 3) hnr (by decide))
  · refine lv_aload_n hx hb dX3_addRope_8 rfl (lv_at hl 0 rfl) ?_
    refine mk_getM X w hm hin3 4 (by decide) (List.mem_of_getElem? (i := 2) rfl) rfl dX3_addRope_9 ?_
    refine lv_aload_n hx hb dX3_addRope_12 rfl (lv_at hl 0 rfl) ?_
    refine mk_getM X w hm hin3 2 (by decide) (List.mem_of_getElem? (i := 1) rfl) rfl dX3_addRope_13 ?_
    refine lv_iload_n hx hb dX3_addRope_16 rfl (lv_at hl 1 rfl) ?_
    refine mk_tast X w hm nr h2 (by omega) dX3_addRope_17 (fun H locs w => ?_)
    refine lv_aload_n hx hb dX3_addRope_18 rfl (lv_at hl 0 rfl) ?_
    refine lv_dup hx hb dX3_addRope_19 rfl ?_
    refine mk_getM X w hm hin3 2 (by decide) (List.mem_of_getElem? (i := 1) rfl) rfl dX3_addRope_20 ?_
    refine lv_iconst (v := 1) hx hb dX3_addRope_23 (by decide) ?_
    refine lv_iadd hx hb dX3_addRope_24 ?_
    refine mk_putN X w hm hin3 2 (by decide) (List.mem_of_getElem? (i := 1) rfl) dX3_addRope_25 (fun H locs w => ?_)
    exact hend H locs (L, mk_F D f mk ad n (va_up (va_up g (5 + nr) strands) 2 ((va_up g (5 + nr) strands) 2 + 1))) _ ls w (congrArg (fun z => (L, mk_F D f mk ad n z)) (by rw [va_up_ne _ _ (show (2 : Nat) ≠ 5 + nr by omega), h2, nI_1])) dX3_addRope_28
set_option maxRecDepth 100000 in
set_option maxHeartbeats 4000000 in
theorem c_X3_addStall (l : Launch) (D : va_G) (b0 : Nat) (L : List Nat) (f : Nat → va_E) (mk : Nat) (ad : Nat → Nat) (n : Nat) (g : Nat → Int32) (hm : mk_ok L mk ad n) (hs : mk_sr g n) (q : Nat) (hq : q ∉ L) (hn : n < 6) (h3 : g 3 = nI n) (sort rope place goods : Int32) : hg_Mv l yX3_addStall wsX3_addStall ({ frames := 0, cells := 0, slots := 0, locals := 0 }) D b0 (L ++ [q]) (va_up (mk_F D f mk ad n g) q (.inr (mk_kc sort, [.int 0, .int 0, .int 0, .int 0, .int 0, .int 0, .int 0]))) [.ref mk, .ref q, .int (rope), .int (place), .int (goods)] (fun u => u = (L ++ [q], mk_F D f mk (va_up ad (2 + n) q) (n + 1) (mk_as g n sort rope place goods))) 0 0 := by
  refine hg_in_v (cc := cX3_addStall) (nL := 5) (by decide) rfl (Nat.le_of_ble_eq_true rfl) (fun p e s m args below meth c R Q X hname hR hend H locs ls w hl => ?_)
  subst hR
  obtain ⟨hx, hb, hml, hown, hts⟩ := id X.1
  have hin : mk_in wsX3_addStall := ⟨fun w h => List.mem_cons_of_mem _ (List.mem_append_left _ (List.mem_append_left _ (List.mem_append_left _ (List.mem_append_left _ (List.mem_append_right _ h))))), fun w h => List.mem_cons_of_mem _ (List.mem_append_left _ (List.mem_append_left _ (List.mem_append_left _ (List.mem_append_right _ h)))), fun w h => List.mem_cons_of_mem _ (List.mem_append_left _ (List.mem_append_left _ (List.mem_append_right _ h))), fun w h => List.mem_cons_of_mem _ (List.mem_append_left _ (List.mem_append_right _ h)), fun w h => List.mem_cons_of_mem _ (List.mem_append_right _ h)⟩
  have hin3 : ∀ w ∈ wsX30, w ∈ wsX3_addStall := fun w h => List.mem_cons_of_mem _ (List.mem_append_left _ (List.mem_append_left _ (List.mem_append_left _ (List.mem_append_left _ (List.mem_append_left _ (List.mem_append_right _ h))))))
  have hl : lv_has ls 5 [(0, .ref mk), (1, .ref q), (2, .int (rope)), (3, .int (place)), (4, .int (goods))] := hl
  have hmq : mk ≠ q := fun z => hq (by rw [← z]; exact hm.1)
  have h1q : ad 1 ≠ q := fun z => hq (by rw [← z]; exact (hm.2.1 1 (by omega)).1)
  have hm1 : mk ≠ ad 1 := fun z => (hm.2.1 1 (by omega)).2 z.symm
  refine lv_aload_n hx hb dX3_addStall_0 rfl (lv_at hl 0 rfl) ?_
  refine hg_get (C := RX3) (T := TX3) (N := 6) (ci := 2) X w (List.mem_append_left _ hm.1) ((va_up_ne _ _ hmq).trans (mk_at0 D f mk ad n g)) hin3 rfl 3 (by decide) (List.mem_of_getElem? (i := 1) rfl) (Or.inl rfl) rfl dX3_addStall_1 ?_
  refine lv_bipush (v := 6) hx hb dX3_addStall_4 (by decide) ?_
  refine lv_icmp_ge (tgt := 53) hx hb dX3_addStall_6 (by decide) (fun c_6 => ?_) (fun c_6 => ?_)
  · rw [h3] at c_6
    exact absurd c_6 (nI_ge (a := n) (b := 6) hn (by decide))
  · refine lv_aload_n hx hb dX3_addStall_9 rfl (lv_at hl 1 rfl) ?_
    refine lv_aload_n hx hb dX3_addStall_10 rfl (lv_at hl 0 rfl) ?_
    refine hg_get (C := RX3) (T := TX3) (N := 6) (ci := 2) X w (List.mem_append_left _ hm.1) ((va_up_ne _ _ hmq).trans (mk_at0 D f mk ad n g)) hin3 rfl 3 (by decide) (List.mem_of_getElem? (i := 1) rfl) (Or.inl rfl) rfl dX3_addStall_11 ?_
    refine hg_putS X w hin (List.mem_append_right _ (List.mem_of_getElem? (i := 0) rfl)) (al_kc5 _) (va_up_self _ _ _) rfl 0 (by decide) (List.mem_of_getElem? (i := 2) rfl) (fun q => absurd q (by decide)) dX3_addStall_14 (fun H locs w => ?_)
    rw [bx_uu] at w
    have w : hg_W D b0 (L ++ [q]) (va_up (mk_F D f mk ad n g) q (.inr (mk_kc sort, [.int (g 3), .int 0, .int 0, .int 0, .int 0, .int 0, .int 0]))) s.heap H locs := w
    refine lv_aload_n hx hb dX3_addStall_17 rfl (lv_at hl 1 rfl) ?_
    refine lv_iload_n hx hb dX3_addStall_18 rfl (lv_at hl 2 rfl) ?_
    refine hg_putS X w hin (List.mem_append_right _ (List.mem_of_getElem? (i := 0) rfl)) (al_kc5 _) (va_up_self _ _ _) rfl 1 (by decide) (List.mem_of_getElem? (i := 3) rfl) (fun q => absurd q (by decide)) dX3_addStall_19 (fun H locs w => ?_)
    rw [bx_uu] at w
    have w : hg_W D b0 (L ++ [q]) (va_up (mk_F D f mk ad n g) q (.inr (mk_kc sort, [.int (g 3), .int (rope), .int 0, .int 0, .int 0, .int 0, .int 0]))) s.heap H locs := w
    refine lv_aload_n hx hb dX3_addStall_22 rfl (lv_at hl 1 rfl) ?_
    refine lv_iload_n hx hb dX3_addStall_23 rfl (lv_at hl 3 rfl) ?_
    refine hg_putS X w hin (List.mem_append_right _ (List.mem_of_getElem? (i := 0) rfl)) (al_kc5 _) (va_up_self _ _ _) rfl 2 (by decide) (List.mem_of_getElem? (i := 4) rfl) (fun q => absurd q (by decide)) dX3_addStall_24 (fun H locs w => ?_)
    rw [bx_uu] at w
    have w : hg_W D b0 (L ++ [q]) (va_up (mk_F D f mk ad n g) q (.inr (mk_kc sort, [.int (g 3), .int (rope), .int (place), .int 0, .int 0, .int 0, .int 0]))) s.heap H locs := w
    refine lv_aload_n hx hb dX3_addStall_27 rfl (lv_at hl 1 rfl) ?_
    refine lv_iload hx hb dX3_addStall_28 (lv_at hl 4 rfl) ?_
    refine hg_putS X w hin (List.mem_append_right _ (List.mem_of_getElem? (i := 0) rfl)) (al_kc5 _) (va_up_self _ _ _) rfl 3 (by decide) (List.mem_of_getElem? (i := 5) rfl) (fun q => absurd q (by decide)) dX3_addStall_30 (fun H locs w => ?_)
    rw [bx_uu] at w
    have w : hg_W D b0 (L ++ [q]) (va_up (mk_F D f mk ad n g) q (.inr (mk_kc sort, [.int (g 3), .int (rope), .int (place), .int (goods), .int 0, .int 0, .int 0]))) s.heap H locs := w
    refine lv_aload_n hx hb dX3_addStall_33 rfl (lv_at hl 0 rfl) ?_
    refine hg_get (C := RX3) (T := TX3) (N := 6) (ci := 2) X w (List.mem_append_left _ hm.1) ((va_up_ne _ _ hmq).trans (mk_at0 D f mk ad n g)) hin3 rfl 5 (by decide) (List.mem_of_getElem? (i := 6) rfl) (Or.inl rfl) rfl dX3_addStall_34 ?_
    refine lv_aload_n hx hb dX3_addStall_37 rfl (lv_at hl 0 rfl) ?_
    refine hg_get (C := RX3) (T := TX3) (N := 6) (ci := 2) X w (List.mem_append_left _ hm.1) ((va_up_ne _ _ hmq).trans (mk_at0 D f mk ad n g)) hin3 rfl 3 (by decide) (List.mem_of_getElem? (i := 1) rfl) (Or.inl rfl) rfl dX3_addStall_38 ?_
    refine lv_aload_n hx hb dX3_addStall_41 rfl (lv_at hl 1 rfl) ?_
    obtain ⟨r0, hr0, hcs⟩ := al_cast X.2.1 (al_kc5 sort)
    refine hg_aast X w 4 rfl (List.mem_append_left _ (hm.2.1 1 (by omega)).1) ((va_up_ne _ _ h1q).trans (mk_atk hm D f g (k := 1) (by omega))) (List.mem_append_right _ (List.mem_of_getElem? (i := 0) rfl)) (va_up_self _ _ _) hr0 (Or.inl hcs) n h3 hn (by decide) dX3_addStall_42 (fun H locs w => ?_)
    refine lv_aload_n hx hb dX3_addStall_43 rfl (lv_at hl 0 rfl) ?_
    refine lv_dup hx hb dX3_addStall_44 rfl ?_
    refine hg_get (C := RX3) (T := TX3) (N := 6) (ci := 2) X w (List.mem_append_left _ hm.1) ((va_up_ne _ _ hm1).trans ((va_up_ne _ _ hmq).trans (mk_at0 D f mk ad n g))) hin3 rfl 3 (by decide) (List.mem_of_getElem? (i := 1) rfl) (Or.inl rfl) rfl dX3_addStall_45 ?_
    refine lv_iconst (v := 1) hx hb dX3_addStall_48 (by decide) ?_
    refine lv_iadd hx hb dX3_addStall_49 ?_
    refine hg_put (C := RX3) (T := TX3) (N := 6) (ty0 := tyX3) (ci := 2) X w (List.mem_append_left _ hm.1) ((va_up_ne _ _ hm1).trans ((va_up_ne _ _ hmq).trans (mk_at0 D f mk ad n g))) hin3 tyX3_ok nmX3 rfl 3 (by decide) (List.mem_of_getElem? (i := 1) rfl) (Or.inl rfl) rfl rfl rfl (by show 3 < 6; decide) dX3_addStall_50 (fun H locs w => ?_)
    exact hend H locs _ _ ls w (congrArg (Prod.mk (L ++ [q])) (mk_addS hm hq hn h3 sort rope place goods)) dX3_addStall_53
