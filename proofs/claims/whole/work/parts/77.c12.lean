set_option maxRecDepth 100000 in
set_option maxHeartbeats 4000000 in
theorem c_X11_found (l : Launch) (D : va_G) (b0 : Nat) (L : List Nat) (f : Nat → va_E) (oa : Nat → Nat) (C : Nat → Nat → Int32) (im : Nat → Option Nat) (mk : Nat) (ad : Nat → Nat) (n : Nat) (g : Nat → Int32) (hm : mk_ok L mk ad n) (hs : mk_sr g n) (ho : ob_ok L oa mk ad n) (k : Int32) : hg_Fi l yX11_found wsX11_found ({ frames := 0, cells := 0, slots := 0, locals := 0 }) D b0 L (ob_W D f oa C mk im mk ad n g) [.ref (oa 0), .int (k)] (-1000010 - k) (ob_W D f oa (mo_w C 7 0 k) mk im mk ad n g) := by
  refine hg_in_i (cc := cX11_found) (nL := 2) (by decide) rfl (Nat.le_of_ble_eq_true rfl) (fun p e s m args below meth c R Q X hR hend H locs ls w hl => ?_)
  subst hR
  obtain ⟨hx, hb, hml, hown, hts⟩ := id X.1
  have hin11 : ∀ w ∈ wsX110, w ∈ wsX11_found := fun w h => List.mem_cons_of_mem _ (List.mem_append_right _ h)
  have hl : lv_has ls 2 [(0, .ref (oa 0)), (1, .int (k))] := hl
  refine lv_aload_n hx hb dX11_found_0 rfl (lv_at hl 0 rfl) ?_
  refine lv_iload_n hx hb dX11_found_1 rfl (lv_at hl 1 rfl) ?_
  refine ob_put X w ho 0 (by decide) (C0 := RX11) (T := TX11) (N := 12) (ci := 9) rfl hin11 tyX11_ok nmX11 rfl 11 (by decide) (List.mem_of_getElem? (i := 1) rfl) rfl rfl rfl (by show _ < 12; decide) 7 0 rfl (ob_o0 _ _ (by decide) 0) dX11_found_2 (fun H locs w => ?_)
  refine lv_ldcw (v := (-1000010)) hx hb hown (hts _ (List.mem_of_getElem? (i := 2) rfl)) dX11_found_5 ?_
  refine lv_iload_n hx hb dX11_found_8 rfl (lv_at hl 1 rfl) ?_
  refine lv_isub hx hb dX11_found_9 ?_
  exact hend H locs (((-1000010) - k)) (L, ob_W D f oa (mo_w C 7 0 (k)) mk im mk ad n g) _ ls w ⟨rfl, rfl⟩ rfl dX11_found_10
set_option maxRecDepth 100000 in
set_option maxHeartbeats 4000000 in
theorem c_X11_unfound (l : Launch) (D : va_G) (b0 : Nat) (L : List Nat) (f : Nat → va_E) (oa : Nat → Nat) (C : Nat → Nat → Int32) (im : Nat → Option Nat) (mk : Nat) (ad : Nat → Nat) (n : Nat) (g : Nat → Int32) (hm : mk_ok L mk ad n) (hs : mk_sr g n) (ho : ob_ok L oa mk ad n) (x : Int32) : hg_Fi l yX11_unfound wsX11_unfound ({ frames := 0, cells := 0, slots := 0, locals := 0 }) D b0 L (ob_W D f oa C mk im mk ad n g) [.ref (oa 0), .int (x)] (x) (ob_W D f oa (mo_w C 7 0 0) mk im mk ad n g) := by
  refine hg_in_i (cc := cX11_unfound) (nL := 2) (by decide) rfl (Nat.le_of_ble_eq_true rfl) (fun p e s m args below meth c R Q X hR hend H locs ls w hl => ?_)
  subst hR
  obtain ⟨hx, hb, hml, hown, hts⟩ := id X.1
  have hin11 : ∀ w ∈ wsX110, w ∈ wsX11_unfound := fun w h => List.mem_cons_of_mem _ (List.mem_append_right _ h)
  have hl : lv_has ls 2 [(0, .ref (oa 0)), (1, .int (x))] := hl
  refine lv_aload_n hx hb dX11_unfound_0 rfl (lv_at hl 0 rfl) ?_
  refine lv_iconst (v := 0) hx hb dX11_unfound_1 (by decide) ?_
  refine ob_put X w ho 0 (by decide) (C0 := RX11) (T := TX11) (N := 12) (ci := 9) rfl hin11 tyX11_ok nmX11 rfl 11 (by decide) (List.mem_of_getElem? (i := 1) rfl) rfl rfl rfl (by show _ < 12; decide) 7 0 rfl (ob_o0 _ _ (by decide) 0) dX11_unfound_2 (fun H locs w => ?_)
  refine lv_iload_n hx hb dX11_unfound_5 rfl (lv_at hl 1 rfl) ?_
  exact hend H locs (x) (L, ob_W D f oa (mo_w C 7 0 (0)) mk im mk ad n g) _ ls w ⟨rfl, rfl⟩ rfl dX11_unfound_6
set_option maxRecDepth 100000 in
set_option maxHeartbeats 4000000 in
theorem c_X11_rowAt (l : Launch) (D : va_G) (b0 : Nat) (L : List Nat) (f : Nat → va_E) (oa : Nat → Nat) (C : Nat → Nat → Int32) (im : Nat → Option Nat) (mk : Nat) (ad : Nat → Nat) (n : Nat) (g : Nat → Int32) (hm : mk_ok L mk ad n) (hs : mk_sr g n) (ho : ob_ok L oa mk ad n) (row : Int32) : hg_Fq l yX11_rowAt wsX11_rowAt ({ frames := 0, cells := 0, slots := 0, locals := 0 }) D b0 L (ob_W D f oa C mk im mk ad n g) [.ref (oa 0), .int (row)] (cs_ra oa row) (ob_W D f oa C mk im mk ad n g) := by
  refine hg_in_q (cc := cX11_rowAt) (nL := 2) (by decide) rfl (Nat.le_of_ble_eq_true rfl) (fun p e s m args below meth c R Q X hR hend H locs ls w hl => ?_)
  subst hR
  obtain ⟨hx, hb, hml, hown, hts⟩ := id X.1
  have hin11 : ∀ w ∈ wsX110, w ∈ wsX11_rowAt := fun w h => List.mem_cons_of_mem _ (List.mem_append_right _ h)
  have hl : lv_has ls 2 [(0, .ref (oa 0)), (1, .int (row))] := hl
  refine lv_iload_n hx hb dX11_rowAt_0 rfl (lv_at hl 1 rfl) ?_
  refine lv_if_lt (tgt := 13) hx hb dX11_rowAt_1 (by decide) (fun c_1 => ?_) (fun c_1 => ?_)
  · refine lv_null hx hb dX11_rowAt_13 ?_
    refine lv_goto (tgt := 23) hx hb dX11_rowAt_14 (by decide) ?_
    exact hend H locs (none) (L, ob_W D f oa C mk im mk ad n g) _ ls w ⟨(by rw [cs_ra, if_pos (cs_row_n (Or.inl c_1))]), rfl⟩ dX11_rowAt_23
  · refine lv_iload_n hx hb dX11_rowAt_4 rfl (lv_at hl 1 rfl) ?_
    refine lv_aload_n hx hb dX11_rowAt_5 rfl (lv_at hl 0 rfl) ?_
    refine ob_get X w ho 0 (by decide) (C0 := RX11) (T := TX11) (N := 12) (ci := 9) rfl hin11 rfl 0 (by decide) (List.mem_of_getElem? (i := 1) rfl) rfl rfl dX11_rowAt_6 ?_
    refine ob_rlen X w ho dX11_rowAt_9 ?_
    refine lv_icmp_lt (tgt := 17) hx hb dX11_rowAt_10 (by decide) (fun c_10 => ?_) (fun c_10 => ?_)
    · obtain ⟨q, hq8, rfl⟩ : ∃ q : Nat, q < 8 ∧ row = nI q := by
        obtain ⟨q, hq, e⟩ := nI_of c_1
        subst e
        exact ⟨q, (nI_ltI (b := 8) hq (by decide)).mp c_10, rfl⟩
      refine lv_aload_n hx hb dX11_rowAt_17 rfl (lv_at hl 0 rfl) ?_
      refine ob_get X w ho 0 (by decide) (C0 := RX11) (T := TX11) (N := 12) (ci := 9) rfl hin11 rfl 0 (by decide) (List.mem_of_getElem? (i := 1) rfl) rfl rfl dX11_rowAt_18 ?_
      refine lv_iload_n hx hb dX11_rowAt_21 rfl (lv_at hl 1 rfl) ?_
      refine ob_rald X w ho q rfl (by omega) dX11_rowAt_22 ?_
      · exact hend H locs (some (oa (11 + q))) (L, ob_W D f oa C mk im mk ad n g) _ ls w ⟨(cs_row_s hq8).symm, rfl⟩ dX11_rowAt_23
    · refine lv_null hx hb dX11_rowAt_13 ?_
      refine lv_goto (tgt := 23) hx hb dX11_rowAt_14 (by decide) ?_
      exact hend H locs (none) (L, ob_W D f oa C mk im mk ad n g) _ ls w ⟨(by rw [cs_ra, if_pos (cs_row_n (Or.inr (Int32.not_lt.mp c_10)))]), rfl⟩ dX11_rowAt_23
set_option maxRecDepth 100000 in
set_option maxHeartbeats 4000000 in
theorem c_X11_stallAt (l : Launch) (D : va_G) (b0 : Nat) (L : List Nat) (f : Nat → va_E) (oa : Nat → Nat) (C : Nat → Nat → Int32) (im : Nat → Option Nat) (mk : Nat) (ad : Nat → Nat) (n : Nat) (g : Nat → Int32) (hm : mk_ok L mk ad n) (hs : mk_sr g n) (ho : ob_ok L oa mk ad n) (x : Int32) : hg_Fq l yX11_stallAt wsX11_stallAt ({ frames := 0, cells := 0, slots := 0, locals := 0 }) D b0 L (ob_W D f oa C mk im mk ad n g) [.ref (oa 0), .int (x)] (cs_sa ad g x) (ob_W D f oa C mk im mk ad n g) := by
  refine hg_in_q (cc := cX11_stallAt) (nL := 2) (by decide) rfl (Nat.le_of_ble_eq_true rfl) (fun p e s m args below meth c R Q X hR hend H locs ls w hl => ?_)
  subst hR
  obtain ⟨hx, hb, hml, hown, hts⟩ := id X.1
  have hin3 : ∀ w ∈ wsX30, w ∈ wsX11_stallAt := fun w h => List.mem_cons_of_mem _ (List.mem_append_right _ h)
  have hin11 : ∀ w ∈ wsX110, w ∈ wsX11_stallAt := fun w h => List.mem_cons_of_mem _ (List.mem_append_left _ (List.mem_append_right _ h))
  have hl : lv_has ls 2 [(0, .ref (oa 0)), (1, .int (x))] := hl
  have hn6 := hs.2.1
  refine lv_iload_n hx hb dX11_stallAt_0 rfl (lv_at hl 1 rfl) ?_
  refine lv_if_lt (tgt := 10) hx hb dX11_stallAt_1 (by decide) (fun c_1 => ?_) (fun c_1 => ?_)
  · refine lv_null hx hb dX11_stallAt_10 ?_
    refine lv_goto (tgt := 23) hx hb dX11_stallAt_11 (by decide) ?_
    exact hend H locs (none) (L, ob_W D f oa C mk im mk ad n g) _ ls w ⟨(by rw [cs_sa, if_pos (cs_st_0 hs (by rintro ⟨j, hj, rfl⟩; exact nI_pos (n := j) (by omega) c_1))]), rfl⟩ dX11_stallAt_23
  · refine lv_iload_n hx hb dX11_stallAt_4 rfl (lv_at hl 1 rfl) ?_
    refine lv_bipush (v := 6) hx hb dX11_stallAt_5 (by decide) ?_
    refine lv_icmp_lt (tgt := 14) hx hb dX11_stallAt_7 (by decide) (fun c_7 => ?_) (fun c_7 => ?_)
    · obtain ⟨q, hq8, rfl⟩ : ∃ q : Nat, q < 6 ∧ x = nI q := by
        obtain ⟨q, hq, e⟩ := nI_of c_1
        subst e
        exact ⟨q, (nI_ltI (b := 6) hq (by decide)).mp c_7, rfl⟩
      refine lv_aload_n hx hb dX11_stallAt_14 rfl (lv_at hl 0 rfl) ?_
      refine ob_get X w ho 0 (by decide) (C0 := RX11) (T := TX11) (N := 12) (ci := 9) rfl hin11 rfl 9 (by decide) (List.mem_of_getElem? (i := 1) rfl) rfl rfl dX11_stallAt_15 ?_
      refine mk_getM X w hm hin3 5 (by decide) (List.mem_of_getElem? (i := 2) rfl) rfl dX11_stallAt_18 ?_
      refine lv_iload_n hx hb dX11_stallAt_21 rfl (lv_at hl 1 rfl) ?_
      refine mk_ald X w hm q rfl (by omega) dX11_stallAt_22 (fun hjq => ?_) (fun hjq => ?_)
      · exact hend H locs (some (ad (2 + q))) (L, ob_W D f oa C mk im mk ad n g) _ ls w ⟨(by rw [cs_sa, if_neg (by rw [cs_st_1 hs hjq]; decide), nI_clamp (by omega)]), rfl⟩ dX11_stallAt_23
      · exact hend H locs (none) (L, ob_W D f oa C mk im mk ad n g) _ ls w ⟨(by rw [cs_sa, if_pos (cs_st_0 hs (by rintro ⟨j, hj, e⟩; have := (nI_eq (a := q) (b := j) (by omega) (by omega)).mp e; omega))]), rfl⟩ dX11_stallAt_23
    · refine lv_null hx hb dX11_stallAt_10 ?_
      refine lv_goto (tgt := 23) hx hb dX11_stallAt_11 (by decide) ?_
      exact hend H locs (none) (L, ob_W D f oa C mk im mk ad n g) _ ls w ⟨(by rw [cs_sa, if_pos (cs_st_0 hs (by rintro ⟨j, hj, rfl⟩; exact c_7 ((nI_ltI (a := j) (b := 6) (by omega) (by decide)).mpr (by omega))))]), rfl⟩ dX11_stallAt_23
theorem hdX11_found : yX11_found.cls = RX11 ∧ yX11_found.cls ≠ "java/lang/invoke/MethodHandle" ∧ yX11_found.cls ≠ "java/lang/invoke/VarHandle" ∧ (parseMethodDescriptor yX11_found.desc).map (fun d => d.parameters.length) = some 1 := by decide +kernel
theorem hdX11_rowAt : yX11_rowAt.cls = RX11 ∧ yX11_rowAt.cls ≠ "java/lang/invoke/MethodHandle" ∧ yX11_rowAt.cls ≠ "java/lang/invoke/VarHandle" ∧ (parseMethodDescriptor yX11_rowAt.desc).map (fun d => d.parameters.length) = some 1 := by decide +kernel
theorem hdX11_unfound : yX11_unfound.cls = RX11 ∧ yX11_unfound.cls ≠ "java/lang/invoke/MethodHandle" ∧ yX11_unfound.cls ≠ "java/lang/invoke/VarHandle" ∧ (parseMethodDescriptor yX11_unfound.desc).map (fun d => d.parameters.length) = some 1 := by decide +kernel
theorem hdX5_begin : yX5_begin.cls = RX5 ∧ yX5_begin.cls ≠ "java/lang/invoke/MethodHandle" ∧ yX5_begin.cls ≠ "java/lang/invoke/VarHandle" ∧ (parseMethodDescriptor yX5_begin.desc).map (fun d => d.parameters.length) = some 2 := by decide +kernel
set_option maxRecDepth 100000 in
set_option maxHeartbeats 4000000 in
theorem c_X11_row (l : Launch) (D : va_G) (b0 : Nat) (L : List Nat) (f : Nat → va_E) (oa : Nat → Nat) (C : Nat → Nat → Int32) (im : Nat → Option Nat) (mk : Nat) (ad : Nat → Nat) (n : Nat) (g : Nat → Int32) (hm : mk_ok L mk ad n) (hs : mk_sr g n) (ho : ob_ok L oa mk ad n) (row lane k : Int32) : hg_Fi l yX11_row wsX11_row ({ frames := 2, cells := 0, slots := 0, locals := 45 }) D b0 L (ob_W D f oa C mk im mk ad n g) [.ref (oa 0), .int (row), .int (lane), .int (k)] ((sp_row C row lane k).1) (ob_W D f oa ((sp_row C row lane k).2) mk im mk ad n g) := by
  refine hg_in_i (cc := cX11_row) (nL := 5) (by decide) rfl (Nat.le_of_ble_eq_true rfl) (fun p e s m args below meth c R Q X hR hend H locs ls w hl => ?_)
  subst hR
  obtain ⟨hx, hb, hml, hown, hts⟩ := id X.1
  have hin5 : ∀ w ∈ wsX50, w ∈ wsX11_row := fun w h => List.mem_cons_of_mem _ (List.mem_append_right _ h)
  have hin11 : ∀ w ∈ wsX110, w ∈ wsX11_row := fun w h => List.mem_cons_of_mem _ (List.mem_append_left _ (List.mem_append_right _ h))
  have hl : lv_has ls 5 [(0, .ref (oa 0)), (1, .int (row)), (2, .int (lane)), (3, .int (k))] := hl
  refine lv_aload_n hx hb dX11_row_0 rfl (lv_at hl 0 rfl) ?_
  refine lv_iload_n hx hb dX11_row_1 rfl (lv_at hl 1 rfl) ?_
  refine hg_vqF (r := cs_ra oa row) (As := [.int (row)]) (rest := []) X w (c_X11_rowAt l D b0 L f oa C im mk ad n g hm hs ho row) (cwV 1 hts gX11_row_X11_rowAt rfl rfl rfl hdX11_rowAt ⟨Nat.le_of_ble_eq_true rfl, Nat.le_of_ble_eq_true rfl⟩) (ho.1 0 (by decide)).1 (ow_at ho (k := 0) (by decide)) rfl rfl rfl hl.1 rfl (Nat.le_of_ble_eq_true rfl) dX11_row_2 ⟨Nat.zero_le _, Nat.zero_le _⟩ (fun H locs w => ?_)
  refine ob_qr (fun hz_row => ?_) (fun r_row hr_row e_row => ?_)
  · refine lv_astoreN (lv' := [(4, .null), (0, .ref (oa 0)), (1, .int (row)), (2, .int (lane)), (3, .int (k))]) hx hb dX11_row_5 hl (by decide) rfl (fun ls hl => ?_)
    refine lv_aloadN hx hb dX11_row_7 (lv_at hl 0 rfl) ?_
    refine lv_ifnullN (tgt := 27) hx hb dX11_row_9 (by decide) ?_
    refine lv_ldc (v := (-1000001)) hx hb hown (hts _ (List.mem_of_getElem? (i := 1) rfl)) dX11_row_27 ?_
    exact hend H locs ((-1000001)) (L, ob_W D f oa C mk im mk ad n g) _ ls w ⟨(by (try simp only [lg_cmp_le, lg_cmp_ge, lg_cmp_lt, lg_cmp_gt, hs_if10, ← Int32.not_lt, ← Int64.not_lt, Classical.not_not] at hz_row); first | (simp [sp_row, sp_found, sp_well, hs_inX, hz_row]; done) | (simp [sp_row, sp_found, sp_well, hs_inX, hz_row]; done) | (exfalso; clear hend ; simp_all; done)), (ob_eq (by (try simp only [lg_cmp_le, lg_cmp_ge, lg_cmp_lt, lg_cmp_gt, hs_if10, ← Int32.not_lt, ← Int64.not_lt, Classical.not_not] at hz_row); first | (simp [sp_row, sp_found, sp_well, hs_inX, hz_row]; done) | (simp [sp_row, sp_found, sp_well, hs_inX, hz_row]; done) | (exfalso; clear hend ; simp_all; done)) rfl)⟩ rfl dX11_row_29
  · subst e_row
    have h1r_row := hs_row_n hr_row
    have hcr_row : (nI r_row).toNatClampNeg = r_row := nI_clamp (by omega)
    refine lv_astore (lv' := [(4, .ref (oa (11 + r_row))), (0, .ref (oa 0)), (1, .int (nI r_row)), (2, .int (lane)), (3, .int (k))]) hx hb dX11_row_5 hl (by decide) rfl (fun ls hl => ?_)
    refine lv_aload hx hb dX11_row_7 (lv_at hl 0 rfl) ?_
    refine lv_ifnull hx hb dX11_row_9 ?_
    refine lv_iload_n hx hb dX11_row_12 rfl (lv_at hl 3 rfl) ?_
    refine lv_if_lt (tgt := 27) hx hb dX11_row_13 (by decide) (fun c_13 => ?_) (fun c_13 => ?_)
    · refine lv_ldc (v := (-1000001)) hx hb hown (hts _ (List.mem_of_getElem? (i := 1) rfl)) dX11_row_27 ?_
      exact hend H locs ((-1000001)) (L, ob_W D f oa C mk im mk ad n g) _ ls w ⟨(by (try simp only [lg_cmp_le, lg_cmp_ge, lg_cmp_lt, lg_cmp_gt, hs_if10, ← Int32.not_lt, ← Int64.not_lt, Classical.not_not] at c_13); first | (simp [sp_row, sp_found, sp_well, hs_inX, c_13, h1r_row, hcr_row]; done) | (simp [sp_row, sp_found, sp_well, hs_inX, c_13, h1r_row, hcr_row]; done) | (exfalso; clear hend ; simp_all; done)), (ob_eq (by (try simp only [lg_cmp_le, lg_cmp_ge, lg_cmp_lt, lg_cmp_gt, hs_if10, ← Int32.not_lt, ← Int64.not_lt, Classical.not_not] at c_13); first | (simp [sp_row, sp_found, sp_well, hs_inX, c_13, h1r_row, hcr_row]; done) | (simp [sp_row, sp_found, sp_well, hs_inX, c_13, h1r_row, hcr_row]; done) | (exfalso; clear hend ; simp_all; done)) rfl)⟩ rfl dX11_row_29
    · refine lv_iload_n hx hb dX11_row_16 rfl (lv_at hl 3 rfl) ?_
      refine lv_iconst (v := 2) hx hb dX11_row_17 (by decide) ?_
      refine lv_icmp_gt (tgt := 27) hx hb dX11_row_18 (by decide) (fun c_18 => ?_) (fun c_18 => ?_)
      · refine lv_ldc (v := (-1000001)) hx hb hown (hts _ (List.mem_of_getElem? (i := 1) rfl)) dX11_row_27 ?_
        exact hend H locs ((-1000001)) (L, ob_W D f oa C mk im mk ad n g) _ ls w ⟨(by (try simp only [lg_cmp_le, lg_cmp_ge, lg_cmp_lt, lg_cmp_gt, hs_if10, ← Int32.not_lt, ← Int64.not_lt, Classical.not_not] at c_13 c_18); first | (simp [sp_row, sp_found, sp_well, hs_inX, c_13, c_18, h1r_row, hcr_row]; done) | (simp [sp_row, sp_found, sp_well, hs_inX, c_13, c_18, h1r_row, hcr_row]; done) | (exfalso; clear hend ; simp_all; done)), (ob_eq (by (try simp only [lg_cmp_le, lg_cmp_ge, lg_cmp_lt, lg_cmp_gt, hs_if10, ← Int32.not_lt, ← Int64.not_lt, Classical.not_not] at c_13 c_18); first | (simp [sp_row, sp_found, sp_well, hs_inX, c_13, c_18, h1r_row, hcr_row]; done) | (simp [sp_row, sp_found, sp_well, hs_inX, c_13, c_18, h1r_row, hcr_row]; done) | (exfalso; clear hend ; simp_all; done)) rfl)⟩ rfl dX11_row_29
      · refine lv_iload_n hx hb dX11_row_21 rfl (lv_at hl 4 rfl) ?_
        refine lv_bipush (v := 40) hx hb dX11_row_22 (by decide) ?_
        refine lv_icmp_le (tgt := 30) hx hb dX11_row_24 (by decide) (fun c_24 => ?_) (fun c_24 => ?_)
        · refine lv_iload_n hx hb dX11_row_30 rfl (lv_at hl 4 rfl) ?_
          refine lv_if_ge (tgt := 40) hx hb dX11_row_31 (by decide) (fun c_31 => ?_) (fun c_31 => ?_)
          · refine lv_aload hx hb dX11_row_40 (lv_at hl 0 rfl) ?_
            refine lv_iload_n hx hb dX11_row_42 rfl (lv_at hl 3 rfl) ?_
            refine lv_iload_n hx hb dX11_row_43 rfl (lv_at hl 4 rfl) ?_
            refine hg_vvF (As := [.int (lane), .int (k)]) (rest := []) X w (c_X5_begin l D b0 L f oa C mk im mk ad n g hm hs ho r_row hr_row lane k) (cwV 2 hts gX11_row_X5_begin rfl rfl rfl hdX5_begin ⟨Nat.le_of_ble_eq_true rfl, Nat.le_of_ble_eq_true rfl⟩) (ho.1 (11 + r_row) (by omega)).1 (by rw [ow_at ho (k := 11 + r_row) (by omega)]; exact ob_eR hr_row) rfl rfl rfl hl.1 rfl (Nat.le_of_ble_eq_true rfl) dX11_row_44 ⟨Nat.zero_le _, Nat.zero_le _⟩ (fun H locs w => ?_)
            refine lv_aload_n hx hb dX11_row_47 rfl (lv_at hl 1 rfl) ?_
            refine lv_iload_n hx hb dX11_row_48 rfl (lv_at hl 4 rfl) ?_
            refine hg_viF (r := k) (As := [.int (k)]) (rest := []) X w (c_X11_unfound l D b0 L f oa (va_up (mo_w (mo_w C 3 r_row lane) 4 r_row k) 5 (hs_zero (C 5) r_row 40)) im mk ad n g hm hs ho k) (cwV 1 hts gX11_row_X11_unfound rfl rfl rfl hdX11_unfound ⟨Nat.le_of_ble_eq_true rfl, Nat.le_of_ble_eq_true rfl⟩) (ho.1 0 (by decide)).1 (ow_at ho (k := 0) (by decide)) rfl rfl rfl hl.1 rfl (Nat.le_of_ble_eq_true rfl) dX11_row_49 ⟨Nat.zero_le _, Nat.zero_le _⟩ (fun H locs w => ?_)
            exact hend H locs (k) (L, ob_W D f oa (mo_w (va_up (mo_w (mo_w C 3 r_row lane) 4 r_row k) 5 (hs_zero (C 5) r_row 40)) 7 0 0) mk im mk ad n g) _ ls w ⟨(by (try simp only [lg_cmp_le, lg_cmp_ge, lg_cmp_lt, lg_cmp_gt, hs_if10, ← Int32.not_lt, ← Int64.not_lt, Classical.not_not] at c_13 c_18 c_24 c_31); first | (simp [sp_row, sp_found, sp_well, hs_inX, c_13, c_18, c_24, c_31, h1r_row, hcr_row]; done) | (simp [sp_row, sp_found, sp_well, hs_inX, c_13, c_18, c_24, c_31, h1r_row, hcr_row]; done) | (exfalso; clear hend ; simp_all; done)), (ob_eq (by (try simp only [lg_cmp_le, lg_cmp_ge, lg_cmp_lt, lg_cmp_gt, hs_if10, ← Int32.not_lt, ← Int64.not_lt, Classical.not_not] at c_13 c_18 c_24 c_31); first | (simp [sp_row, sp_found, sp_well, hs_inX, c_13, c_18, c_24, c_31, h1r_row, hcr_row]; done) | (simp [sp_row, sp_found, sp_well, hs_inX, c_13, c_18, c_24, c_31, h1r_row, hcr_row]; done) | (exfalso; clear hend ; simp_all; done)) rfl)⟩ rfl dX11_row_52
          · refine lv_aload_n hx hb dX11_row_34 rfl (lv_at hl 1 rfl) ?_
            refine lv_iconst (v := 4) hx hb dX11_row_35 (by decide) ?_
            refine hg_viF (r := (-1000010 - 4)) (As := [.int (4)]) (rest := []) X w (c_X11_found l D b0 L f oa C im mk ad n g hm hs ho 4) (cwV 1 hts gX11_row_X11_found rfl rfl rfl hdX11_found ⟨Nat.le_of_ble_eq_true rfl, Nat.le_of_ble_eq_true rfl⟩) (ho.1 0 (by decide)).1 (ow_at ho (k := 0) (by decide)) rfl rfl rfl hl.1 rfl (Nat.le_of_ble_eq_true rfl) dX11_row_36 ⟨Nat.zero_le _, Nat.zero_le _⟩ (fun H locs w => ?_)
            exact hend H locs ((-1000010 - 4)) (L, ob_W D f oa (mo_w C 7 0 4) mk im mk ad n g) _ ls w ⟨(by (try simp only [lg_cmp_le, lg_cmp_ge, lg_cmp_lt, lg_cmp_gt, hs_if10, ← Int32.not_lt, ← Int64.not_lt, Classical.not_not] at c_13 c_18 c_24 c_31); first | (simp [sp_row, sp_found, sp_well, hs_inX, c_13, c_18, c_24, c_31, h1r_row, hcr_row]; done) | (simp [sp_row, sp_found, sp_well, hs_inX, c_13, c_18, c_24, c_31, h1r_row, hcr_row]; done) | (exfalso; clear hend ; simp_all; done)), (ob_eq (by (try simp only [lg_cmp_le, lg_cmp_ge, lg_cmp_lt, lg_cmp_gt, hs_if10, ← Int32.not_lt, ← Int64.not_lt, Classical.not_not] at c_13 c_18 c_24 c_31); first | (simp [sp_row, sp_found, sp_well, hs_inX, c_13, c_18, c_24, c_31, h1r_row, hcr_row]; done) | (simp [sp_row, sp_found, sp_well, hs_inX, c_13, c_18, c_24, c_31, h1r_row, hcr_row]; done) | (exfalso; clear hend ; simp_all; done)) rfl)⟩ rfl dX11_row_39
        · refine lv_ldc (v := (-1000001)) hx hb hown (hts _ (List.mem_of_getElem? (i := 1) rfl)) dX11_row_27 ?_
          exact hend H locs ((-1000001)) (L, ob_W D f oa C mk im mk ad n g) _ ls w ⟨(by (try simp only [lg_cmp_le, lg_cmp_ge, lg_cmp_lt, lg_cmp_gt, hs_if10, ← Int32.not_lt, ← Int64.not_lt, Classical.not_not] at c_13 c_18 c_24); first | (simp [sp_row, sp_found, sp_well, hs_inX, c_13, c_18, c_24, h1r_row, hcr_row]; done) | (simp [sp_row, sp_found, sp_well, hs_inX, c_13, c_18, c_24, h1r_row, hcr_row]; done) | (exfalso; clear hend ; simp_all; done)), (ob_eq (by (try simp only [lg_cmp_le, lg_cmp_ge, lg_cmp_lt, lg_cmp_gt, hs_if10, ← Int32.not_lt, ← Int64.not_lt, Classical.not_not] at c_13 c_18 c_24); first | (simp [sp_row, sp_found, sp_well, hs_inX, c_13, c_18, c_24, h1r_row, hcr_row]; done) | (simp [sp_row, sp_found, sp_well, hs_inX, c_13, c_18, c_24, h1r_row, hcr_row]; done) | (exfalso; clear hend ; simp_all; done)) rfl)⟩ rfl dX11_row_29
theorem hdX5_isMissing : yX5_isMissing.cls = RX5 ∧ yX5_isMissing.cls ≠ "java/lang/invoke/MethodHandle" ∧ yX5_isMissing.cls ≠ "java/lang/invoke/VarHandle" ∧ (parseMethodDescriptor yX5_isMissing.desc).map (fun d => d.parameters.length) = some 0 := by decide +kernel
set_option maxRecDepth 100000 in
set_option maxHeartbeats 4000000 in
theorem c_X11_drop (l : Launch) (D : va_G) (b0 : Nat) (L : List Nat) (f : Nat → va_E) (oa : Nat → Nat) (C : Nat → Nat → Int32) (im : Nat → Option Nat) (mk : Nat) (ad : Nat → Nat) (n : Nat) (g : Nat → Int32) (hm : mk_ok L mk ad n) (hs : mk_sr g n) (ho : ob_ok L oa mk ad n) (row : Int32) : hg_Fi l yX11_drop wsX11_drop ({ frames := 1, cells := 0, slots := 0, locals := 21 }) D b0 L (ob_W D f oa C mk im mk ad n g) [.ref (oa 0), .int (row)] ((cs_drop C row).1) (ob_W D f oa ((cs_drop C row).2) mk im mk ad n g) := by
  refine hg_in_i (cc := cX11_drop) (nL := 3) (by decide) rfl (Nat.le_of_ble_eq_true rfl) (fun p e s m args below meth c R Q X hR hend H locs ls w hl => ?_)
  subst hR
  obtain ⟨hx, hb, hml, hown, hts⟩ := id X.1
  have hin5 : ∀ w ∈ wsX50, w ∈ wsX11_drop := fun w h => List.mem_cons_of_mem _ (List.mem_append_left _ (List.mem_append_right _ h))
  have hin11 : ∀ w ∈ wsX110, w ∈ wsX11_drop := fun w h => List.mem_cons_of_mem _ (List.mem_append_right _ h)
  have hl : lv_has ls 3 [(0, .ref (oa 0)), (1, .int (row))] := hl
  refine lv_aload_n hx hb dX11_drop_0 rfl (lv_at hl 0 rfl) ?_
  refine lv_iload_n hx hb dX11_drop_1 rfl (lv_at hl 1 rfl) ?_
  refine hg_vqF (r := cs_ra oa row) (As := [.int (row)]) (rest := []) X w (c_X11_rowAt l D b0 L f oa C im mk ad n g hm hs ho row) (cwV 1 hts gX11_drop_X11_rowAt rfl rfl rfl hdX11_rowAt ⟨Nat.le_of_ble_eq_true rfl, Nat.le_of_ble_eq_true rfl⟩) (ho.1 0 (by decide)).1 (ow_at ho (k := 0) (by decide)) rfl rfl rfl hl.1 rfl (Nat.le_of_ble_eq_true rfl) dX11_drop_2 ⟨Nat.zero_le _, Nat.zero_le _⟩ (fun H locs w => ?_)
  refine ob_qr (fun hz_row => ?_) (fun r_row hr_row e_row => ?_)
  · refine lv_astore_nN (lv' := [(2, .null), (0, .ref (oa 0)), (1, .int (row))]) hx hb dX11_drop_5 rfl hl (by decide) rfl (fun ls hl => ?_)
    refine lv_aload_nN hx hb dX11_drop_6 rfl (lv_at hl 0 rfl) ?_
    refine lv_ifnonnullN hx hb dX11_drop_7 ?_
    refine lv_ldc (v := (-1000001)) hx hb hown (hts _ (List.mem_of_getElem? (i := 1) rfl)) dX11_drop_10 ?_
    exact hend H locs ((-1000001)) (L, ob_W D f oa C mk im mk ad n g) _ ls w ⟨(by (try simp only [lg_cmp_le, lg_cmp_ge, lg_cmp_lt, lg_cmp_gt, hs_if10, ← Int32.not_lt, ← Int64.not_lt, Classical.not_not] at hz_row); first | (simp [cs_drop, sp_found, sp_well, va_up, hz_row]; done) | (simp [cs_drop, sp_found, sp_well, va_up, hz_row]; done) | (exfalso; clear hend ; simp_all; done)), (ob_eq (by (try simp only [lg_cmp_le, lg_cmp_ge, lg_cmp_lt, lg_cmp_gt, hs_if10, ← Int32.not_lt, ← Int64.not_lt, Classical.not_not] at hz_row); first | (simp [cs_drop, sp_found, sp_well, hz_row]; done) | (simp [cs_drop, sp_found, sp_well, hz_row]; done) | (exfalso; clear hend ; simp_all; done)) rfl)⟩ rfl dX11_drop_12
  · subst e_row
    have h1r_row := hs_row_n hr_row
    have hcr_row : (nI r_row).toNatClampNeg = r_row := nI_clamp (by omega)
    refine lv_astore_n (lv' := [(2, .ref (oa (11 + r_row))), (0, .ref (oa 0)), (1, .int (nI r_row))]) hx hb dX11_drop_5 rfl hl (by decide) rfl (fun ls hl => ?_)
    refine lv_aload_n hx hb dX11_drop_6 rfl (lv_at hl 0 rfl) ?_
    refine lv_ifnonnull (tgt := 13) hx hb dX11_drop_7 (by decide) ?_
    refine lv_aload_n hx hb dX11_drop_13 rfl (lv_at hl 0 rfl) ?_
    refine hg_viF (r := (mk_mis (C 3 r_row))) (As := []) (rest := []) X w (c_X5_isMissing l D b0 L f oa C mk im mk ad n g hm hs ho r_row hr_row) (cwV 0 hts gX11_drop_X5_isMissing rfl rfl rfl hdX5_isMissing ⟨Nat.le_of_ble_eq_true rfl, Nat.le_of_ble_eq_true rfl⟩) (ho.1 (11 + r_row) (by omega)).1 (by rw [ow_at ho (k := 11 + r_row) (by omega)]; exact ob_eR hr_row) rfl rfl rfl hl.1 rfl (Nat.le_of_ble_eq_true rfl) dX11_drop_14 ⟨Nat.zero_le _, Nat.zero_le _⟩ (fun H locs w => ?_)
    refine lv_if_eq (tgt := 26) hx hb dX11_drop_17 (by decide) (fun c_17 => ?_) (fun c_17 => ?_)
    · refine lv_aload_n hx hb dX11_drop_26 rfl (lv_at hl 0 rfl) ?_
      refine lv_iconst (v := (-1)) hx hb dX11_drop_27 (by decide) ?_
      refine ob_put X w ho (11 + r_row) (by omega) (C0 := RX5) (T := TX5) (N := 3) (ci := 4) (ob_eR hr_row) hin5 tyX5_ok nmX5 rfl 0 (by decide) (List.mem_of_getElem? (i := 2) rfl) rfl rfl rfl (by show _ < 3; decide) 3 r_row (ob_eR3 hr_row _) (ob_oR _ _ (Or.inl rfl)) dX11_drop_28 (fun H locs w => ?_)
      refine lv_aload_n hx hb dX11_drop_31 rfl (lv_at hl 1 rfl) ?_
      refine lv_aload_n hx hb dX11_drop_32 rfl (lv_at hl 0 rfl) ?_
      refine ob_get X w ho (11 + r_row) (by omega) (C0 := RX5) (T := TX5) (N := 3) (ci := 4) (ob_eR hr_row) hin5 rfl 1 (by decide) (List.mem_of_getElem? (i := 3) rfl) rfl rfl dX11_drop_33 ?_
      refine hg_viF (r := (mo_w C 3 r_row ((-1))) 4 r_row) (As := [.int ((mo_w C 3 r_row ((-1))) 4 r_row)]) (rest := []) X w (c_X11_unfound l D b0 L f oa (mo_w C 3 r_row ((-1))) im mk ad n g hm hs ho ((mo_w C 3 r_row ((-1))) 4 r_row)) (cwV 1 hts gX11_drop_X11_unfound rfl rfl rfl hdX11_unfound ⟨Nat.le_of_ble_eq_true rfl, Nat.le_of_ble_eq_true rfl⟩) (ho.1 0 (by decide)).1 (ow_at ho (k := 0) (by decide)) rfl rfl rfl hl.1 rfl (Nat.le_of_ble_eq_true rfl) dX11_drop_36 ⟨Nat.zero_le _, Nat.zero_le _⟩ (fun H locs w => ?_)
      exact hend H locs ((mo_w C 3 r_row ((-1))) 4 r_row) (L, ob_W D f oa (mo_w (mo_w C 3 r_row ((-1))) 7 0 0) mk im mk ad n g) _ ls w ⟨(by (try simp only [lg_cmp_le, lg_cmp_ge, lg_cmp_lt, lg_cmp_gt, hs_if10, ← Int32.not_lt, ← Int64.not_lt, Classical.not_not] at c_17); first | (simp [cs_drop, sp_found, sp_well, va_up, c_17, h1r_row, hcr_row]; done) | (simp [cs_drop, sp_found, sp_well, va_up, eq_true c_17, h1r_row, hcr_row]; done) | (exfalso; clear hend ; simp_all; done)), (ob_eq (by (try simp only [lg_cmp_le, lg_cmp_ge, lg_cmp_lt, lg_cmp_gt, hs_if10, ← Int32.not_lt, ← Int64.not_lt, Classical.not_not] at c_17); first | (simp [cs_drop, sp_found, sp_well, c_17, h1r_row, hcr_row]; done) | (simp [cs_drop, sp_found, sp_well, eq_true c_17, h1r_row, hcr_row]; done) | (exfalso; clear hend ; simp_all; done)) rfl)⟩ rfl dX11_drop_39
    · refine lv_aload_n hx hb dX11_drop_20 rfl (lv_at hl 1 rfl) ?_
      refine lv_iconst (v := 1) hx hb dX11_drop_21 (by decide) ?_
      refine hg_viF (r := (-1000010 - 1)) (As := [.int (1)]) (rest := []) X w (c_X11_found l D b0 L f oa C im mk ad n g hm hs ho 1) (cwV 1 hts gX11_drop_X11_found rfl rfl rfl hdX11_found ⟨Nat.le_of_ble_eq_true rfl, Nat.le_of_ble_eq_true rfl⟩) (ho.1 0 (by decide)).1 (ow_at ho (k := 0) (by decide)) rfl rfl rfl hl.1 rfl (Nat.le_of_ble_eq_true rfl) dX11_drop_22 ⟨Nat.zero_le _, Nat.zero_le _⟩ (fun H locs w => ?_)
      exact hend H locs ((-1000010 - 1)) (L, ob_W D f oa (mo_w C 7 0 1) mk im mk ad n g) _ ls w ⟨(by (try simp only [lg_cmp_le, lg_cmp_ge, lg_cmp_lt, lg_cmp_gt, hs_if10, ← Int32.not_lt, ← Int64.not_lt, Classical.not_not] at c_17); first | (simp [cs_drop, sp_found, sp_well, va_up, c_17, h1r_row, hcr_row]; done) | (simp [cs_drop, sp_found, sp_well, va_up, c_17, h1r_row, hcr_row]; done) | (exfalso; clear hend ; simp_all; done)), (ob_eq (by (try simp only [lg_cmp_le, lg_cmp_ge, lg_cmp_lt, lg_cmp_gt, hs_if10, ← Int32.not_lt, ← Int64.not_lt, Classical.not_not] at c_17); first | (simp [cs_drop, sp_found, sp_well, c_17, h1r_row, hcr_row]; done) | (simp [cs_drop, sp_found, sp_well, c_17, h1r_row, hcr_row]; done) | (exfalso; clear hend ; simp_all; done)) rfl)⟩ rfl dX11_drop_25
theorem hdX5_cutToLane : yX5_cutToLane.cls = RX5 ∧ yX5_cutToLane.cls ≠ "java/lang/invoke/MethodHandle" ∧ yX5_cutToLane.cls ≠ "java/lang/invoke/VarHandle" ∧ (parseMethodDescriptor yX5_cutToLane.desc).map (fun d => d.parameters.length) = some 1 := by decide +kernel
set_option maxRecDepth 100000 in
set_option maxHeartbeats 4000000 in
theorem c_X11_set (l : Launch) (D : va_G) (b0 : Nat) (L : List Nat) (f : Nat → va_E) (oa : Nat → Nat) (C : Nat → Nat → Int32) (im : Nat → Option Nat) (mk : Nat) (ad : Nat → Nat) (n : Nat) (g : Nat → Int32) (hm : mk_ok L mk ad n) (hs : mk_sr g n) (ho : ob_ok L oa mk ad n) (hsz : cs_szs C) (row x v : Int32) : hg_Fi l yX11_set wsX11_set ({ frames := 1, cells := 0, slots := 0, locals := 22 }) D b0 L (ob_W D f oa C mk im mk ad n g) [.ref (oa 0), .int (row), .int (x), .int (v)] ((cs_set C row x v).1) (ob_W D f oa ((cs_set C row x v).2) mk im mk ad n g) := by
  refine hg_in_i (cc := cX11_set) (nL := 5) (by decide) rfl (Nat.le_of_ble_eq_true rfl) (fun p e s m args below meth c R Q X hR hend H locs ls w hl => ?_)
  subst hR
  obtain ⟨hx, hb, hml, hown, hts⟩ := id X.1
  have hin5 : ∀ w ∈ wsX50, w ∈ wsX11_set := fun w h => List.mem_cons_of_mem _ (List.mem_append_left _ (List.mem_append_right _ h))
  have hin11 : ∀ w ∈ wsX110, w ∈ wsX11_set := fun w h => List.mem_cons_of_mem _ (List.mem_append_right _ h)
  have hl : lv_has ls 5 [(0, .ref (oa 0)), (1, .int (row)), (2, .int (x)), (3, .int (v))] := hl
  refine lv_aload_n hx hb dX11_set_0 rfl (lv_at hl 0 rfl) ?_
  refine lv_iload_n hx hb dX11_set_1 rfl (lv_at hl 1 rfl) ?_
  refine hg_vqF (r := cs_ra oa row) (As := [.int (row)]) (rest := []) X w (c_X11_rowAt l D b0 L f oa C im mk ad n g hm hs ho row) (cwV 1 hts gX11_set_X11_rowAt rfl rfl rfl hdX11_rowAt ⟨Nat.le_of_ble_eq_true rfl, Nat.le_of_ble_eq_true rfl⟩) (ho.1 0 (by decide)).1 (ow_at ho (k := 0) (by decide)) rfl rfl rfl hl.1 rfl (Nat.le_of_ble_eq_true rfl) dX11_set_2 ⟨Nat.zero_le _, Nat.zero_le _⟩ (fun H locs w => ?_)
  refine ob_qr (fun hz_row => ?_) (fun r_row hr_row e_row => ?_)
  · refine lv_astoreN (lv' := [(4, .null), (0, .ref (oa 0)), (1, .int (row)), (2, .int (x)), (3, .int (v))]) hx hb dX11_set_5 hl (by decide) rfl (fun ls hl => ?_)
    refine lv_aloadN hx hb dX11_set_7 (lv_at hl 0 rfl) ?_
    refine lv_ifnonnullN hx hb dX11_set_9 ?_
    refine lv_ldc (v := (-1000001)) hx hb hown (hts _ (List.mem_of_getElem? (i := 1) rfl)) dX11_set_12 ?_
    exact hend H locs ((-1000001)) (L, ob_W D f oa C mk im mk ad n g) _ ls w ⟨(by (try simp only [lg_cmp_le, lg_cmp_ge, lg_cmp_lt, lg_cmp_gt, hs_if10, ← Int32.not_lt, ← Int64.not_lt, Classical.not_not] at hz_row); first | (simp [cs_set, sp_found, sp_well, mo_w, va_up_self, hz_row]; done) | (simp [cs_set, sp_found, sp_well, mo_w, va_up_self, hz_row]; done) | (exfalso; clear hend ; simp_all; done)), (ob_eq (by (try simp only [lg_cmp_le, lg_cmp_ge, lg_cmp_lt, lg_cmp_gt, hs_if10, ← Int32.not_lt, ← Int64.not_lt, Classical.not_not] at hz_row); first | (simp [cs_set, sp_found, sp_well, hz_row]; done) | (simp [cs_set, sp_found, sp_well, hz_row]; done) | (exfalso; clear hend ; simp_all; done)) rfl)⟩ rfl dX11_set_14
  · subst e_row
    have h1r_row := hs_row_n hr_row
    have hcr_row : (nI r_row).toNatClampNeg = r_row := nI_clamp (by omega)
    refine lv_astore (lv' := [(4, .ref (oa (11 + r_row))), (0, .ref (oa 0)), (1, .int (nI r_row)), (2, .int (x)), (3, .int (v))]) hx hb dX11_set_5 hl (by decide) rfl (fun ls hl => ?_)
    refine lv_aload hx hb dX11_set_7 (lv_at hl 0 rfl) ?_
    refine lv_ifnonnull (tgt := 15) hx hb dX11_set_9 (by decide) ?_
    refine lv_aload hx hb dX11_set_15 (lv_at hl 0 rfl) ?_
    refine hg_viF (r := (mk_mis (C 3 r_row))) (As := []) (rest := []) X w (c_X5_isMissing l D b0 L f oa C mk im mk ad n g hm hs ho r_row hr_row) (cwV 0 hts gX11_set_X5_isMissing rfl rfl rfl hdX5_isMissing ⟨Nat.le_of_ble_eq_true rfl, Nat.le_of_ble_eq_true rfl⟩) (ho.1 (11 + r_row) (by omega)).1 (by rw [ow_at ho (k := 11 + r_row) (by omega)]; exact ob_eR hr_row) rfl rfl rfl hl.1 rfl (Nat.le_of_ble_eq_true rfl) dX11_set_17 ⟨Nat.zero_le _, Nat.zero_le _⟩ (fun H locs w => ?_)
    refine lv_if_eq (tgt := 29) hx hb dX11_set_20 (by decide) (fun c_20 => ?_) (fun c_20 => ?_)
    · refine lv_aload hx hb dX11_set_29 (lv_at hl 0 rfl) ?_
      refine lv_iload_n hx hb dX11_set_31 rfl (lv_at hl 3 rfl) ?_
      refine lv_iconst (v := 1) hx hb dX11_set_32 (by decide) ?_
      refine hg_viF (r := (mk_has (C 4 r_row) x 1)) (As := [.int (x), .int (1)]) (rest := []) X w (c_X5_has l D b0 L f oa C mk im mk ad n g hm hs ho r_row hr_row x 1) (cwV 2 hts gX11_set_X5_has rfl rfl rfl hdX5_has ⟨Nat.le_of_ble_eq_true rfl, Nat.le_of_ble_eq_true rfl⟩) (ho.1 (11 + r_row) (by omega)).1 (by rw [ow_at ho (k := 11 + r_row) (by omega)]; exact ob_eR hr_row) rfl rfl rfl hl.1 rfl (Nat.le_of_ble_eq_true rfl) dX11_set_33 ⟨Nat.zero_le _, Nat.zero_le _⟩ (fun H locs w => ?_)
      refine lv_if_ne (tgt := 45) hx hb dX11_set_36 (by decide) (fun c_36 => ?_) (fun c_36 => ?_)
      · obtain ⟨z_x0, hz40_x0, ez_x0⟩ := hsz r_row hr_row
        obtain ⟨x0, k1_x0, e1_x0, e2_x0, h3_x0⟩ := mk_has_ix hz40_x0 ez_x0 c_36
        have hk1_x0 : k1_x0 = 1 := by
          by_cases q : k1_x0 < 2 ^ 31
          · exact (nI_eq (a := k1_x0) (b := 1) q (by decide)).mp e2_x0.symm
          · omega
        subst e1_x0
        have hcx_x0 : (nI x0).toNatClampNeg = x0 := nI_clamp (by omega)
        refine lv_aload hx hb dX11_set_45 (lv_at hl 0 rfl) ?_
        refine ob_get X w ho (11 + r_row) (by omega) (C0 := RX5) (T := TX5) (N := 3) (ci := 4) (ob_eR hr_row) hin5 rfl 2 (by decide) (List.mem_of_getElem? (i := 2) rfl) rfl rfl dX11_set_47 ?_
        refine lv_iload_n hx hb dX11_set_50 rfl (lv_at hl 3 rfl) ?_
        refine lv_aload hx hb dX11_set_51 (lv_at hl 0 rfl) ?_
        refine lv_iload_n hx hb dX11_set_53 rfl (lv_at hl 4 rfl) ?_
        refine hg_viF (r := (hs_cut (C 3 r_row) v)) (As := [.int (v)]) (rest := [.int (nI x0), .ref (oa (19 + r_row))]) X w (c_X5_cutToLane l D b0 L f oa C mk im mk ad n g hm hs ho r_row hr_row v) (cwV 1 hts gX11_set_X5_cutToLane rfl rfl rfl hdX5_cutToLane ⟨Nat.le_of_ble_eq_true rfl, Nat.le_of_ble_eq_true rfl⟩) (ho.1 (11 + r_row) (by omega)).1 (by rw [ow_at ho (k := 11 + r_row) (by omega)]; exact ob_eR hr_row) rfl rfl rfl hl.1 rfl (Nat.le_of_ble_eq_true rfl) dX11_set_54 ⟨Nat.zero_le _, Nat.zero_le _⟩ (fun H locs w => ?_)
        refine ob_itast X w ho hr_row x0 rfl (by omega) dX11_set_57 (fun H locs w => ?_)
        refine lv_aload_n hx hb dX11_set_58 rfl (lv_at hl 1 rfl) ?_
        refine lv_aload hx hb dX11_set_59 (lv_at hl 0 rfl) ?_
        refine ob_get X w ho (11 + r_row) (by omega) (C0 := RX5) (T := TX5) (N := 3) (ci := 4) (ob_eR hr_row) hin5 rfl 2 (by decide) (List.mem_of_getElem? (i := 2) rfl) rfl rfl dX11_set_61 ?_
        refine lv_iload_n hx hb dX11_set_64 rfl (lv_at hl 3 rfl) ?_
        refine ob_itald X w ho hr_row x0 rfl (by omega) dX11_set_65 ?_
        refine hg_viF (r := (mo_w C 5 (40 * r_row + x0) ((hs_cut (C 3 r_row) v))) 5 (40 * r_row + x0)) (As := [.int ((mo_w C 5 (40 * r_row + x0) ((hs_cut (C 3 r_row) v))) 5 (40 * r_row + x0))]) (rest := []) X w (c_X11_unfound l D b0 L f oa (mo_w C 5 (40 * r_row + x0) ((hs_cut (C 3 r_row) v))) im mk ad n g hm hs ho ((mo_w C 5 (40 * r_row + x0) ((hs_cut (C 3 r_row) v))) 5 (40 * r_row + x0))) (cwV 1 hts gX11_set_X11_unfound rfl rfl rfl hdX11_unfound ⟨Nat.le_of_ble_eq_true rfl, Nat.le_of_ble_eq_true rfl⟩) (ho.1 0 (by decide)).1 (ow_at ho (k := 0) (by decide)) rfl rfl rfl hl.1 rfl (Nat.le_of_ble_eq_true rfl) dX11_set_66 ⟨Nat.zero_le _, Nat.zero_le _⟩ (fun H locs w => ?_)
        exact hend H locs ((mo_w C 5 (40 * r_row + x0) ((hs_cut (C 3 r_row) v))) 5 (40 * r_row + x0)) (L, ob_W D f oa (mo_w (mo_w C 5 (40 * r_row + x0) ((hs_cut (C 3 r_row) v))) 7 0 0) mk im mk ad n g) _ ls w ⟨(by (try simp only [lg_cmp_le, lg_cmp_ge, lg_cmp_lt, lg_cmp_gt, hs_if10, ← Int32.not_lt, ← Int64.not_lt, Classical.not_not] at c_20 c_36); first | (simp [cs_set, sp_found, sp_well, mo_w, va_up_self, c_20, c_36, h1r_row, hcr_row, hcx_x0]; done) | (simp [cs_set, sp_found, sp_well, mo_w, va_up_self, eq_true c_20, c_36, h1r_row, hcr_row, hcx_x0]; done) | (exfalso; clear hend ; simp_all; done)), (ob_eq (by (try simp only [lg_cmp_le, lg_cmp_ge, lg_cmp_lt, lg_cmp_gt, hs_if10, ← Int32.not_lt, ← Int64.not_lt, Classical.not_not] at c_20 c_36); first | (simp [cs_set, sp_found, sp_well, c_20, c_36, h1r_row, hcr_row, hcx_x0]; done) | (simp [cs_set, sp_found, sp_well, eq_true c_20, c_36, h1r_row, hcr_row, hcx_x0]; done) | (exfalso; clear hend ; simp_all; done)) rfl)⟩ rfl dX11_set_69
      · refine lv_aload_n hx hb dX11_set_39 rfl (lv_at hl 1 rfl) ?_
        refine lv_iconst (v := 2) hx hb dX11_set_40 (by decide) ?_
        refine hg_viF (r := (-1000010 - 2)) (As := [.int (2)]) (rest := []) X w (c_X11_found l D b0 L f oa C im mk ad n g hm hs ho 2) (cwV 1 hts gX11_set_X11_found rfl rfl rfl hdX11_found ⟨Nat.le_of_ble_eq_true rfl, Nat.le_of_ble_eq_true rfl⟩) (ho.1 0 (by decide)).1 (ow_at ho (k := 0) (by decide)) rfl rfl rfl hl.1 rfl (Nat.le_of_ble_eq_true rfl) dX11_set_41 ⟨Nat.zero_le _, Nat.zero_le _⟩ (fun H locs w => ?_)
        exact hend H locs ((-1000010 - 2)) (L, ob_W D f oa (mo_w C 7 0 2) mk im mk ad n g) _ ls w ⟨(by (try simp only [lg_cmp_le, lg_cmp_ge, lg_cmp_lt, lg_cmp_gt, hs_if10, ← Int32.not_lt, ← Int64.not_lt, Classical.not_not] at c_20 c_36); first | (simp [cs_set, sp_found, sp_well, mo_w, va_up_self, c_20, c_36, h1r_row, hcr_row]; done) | (simp [cs_set, sp_found, sp_well, mo_w, va_up_self, eq_true c_20, eq_true c_36, h1r_row, hcr_row]; done) | (exfalso; clear hend ; simp_all; done)), (ob_eq (by (try simp only [lg_cmp_le, lg_cmp_ge, lg_cmp_lt, lg_cmp_gt, hs_if10, ← Int32.not_lt, ← Int64.not_lt, Classical.not_not] at c_20 c_36); first | (simp [cs_set, sp_found, sp_well, c_20, c_36, h1r_row, hcr_row]; done) | (simp [cs_set, sp_found, sp_well, eq_true c_20, eq_true c_36, h1r_row, hcr_row]; done) | (exfalso; clear hend ; simp_all; done)) rfl)⟩ rfl dX11_set_44
    · refine lv_aload_n hx hb dX11_set_23 rfl (lv_at hl 1 rfl) ?_
      refine lv_iconst (v := 1) hx hb dX11_set_24 (by decide) ?_
      refine hg_viF (r := (-1000010 - 1)) (As := [.int (1)]) (rest := []) X w (c_X11_found l D b0 L f oa C im mk ad n g hm hs ho 1) (cwV 1 hts gX11_set_X11_found rfl rfl rfl hdX11_found ⟨Nat.le_of_ble_eq_true rfl, Nat.le_of_ble_eq_true rfl⟩) (ho.1 0 (by decide)).1 (ow_at ho (k := 0) (by decide)) rfl rfl rfl hl.1 rfl (Nat.le_of_ble_eq_true rfl) dX11_set_25 ⟨Nat.zero_le _, Nat.zero_le _⟩ (fun H locs w => ?_)
      exact hend H locs ((-1000010 - 1)) (L, ob_W D f oa (mo_w C 7 0 1) mk im mk ad n g) _ ls w ⟨(by (try simp only [lg_cmp_le, lg_cmp_ge, lg_cmp_lt, lg_cmp_gt, hs_if10, ← Int32.not_lt, ← Int64.not_lt, Classical.not_not] at c_20); first | (simp [cs_set, sp_found, sp_well, mo_w, va_up_self, c_20, h1r_row, hcr_row]; done) | (simp [cs_set, sp_found, sp_well, mo_w, va_up_self, c_20, h1r_row, hcr_row]; done) | (exfalso; clear hend ; simp_all; done)), (ob_eq (by (try simp only [lg_cmp_le, lg_cmp_ge, lg_cmp_lt, lg_cmp_gt, hs_if10, ← Int32.not_lt, ← Int64.not_lt, Classical.not_not] at c_20); first | (simp [cs_set, sp_found, sp_well, c_20, h1r_row, hcr_row]; done) | (simp [cs_set, sp_found, sp_well, c_20, h1r_row, hcr_row]; done) | (exfalso; clear hend ; simp_all; done)) rfl)⟩ rfl dX11_set_28
set_option maxRecDepth 100000 in
set_option maxHeartbeats 4000000 in
theorem c_X11_feed (l : Launch) (D : va_G) (b0 : Nat) (L : List Nat) (f : Nat → va_E) (oa : Nat → Nat) (C : Nat → Nat → Int32) (im : Nat → Option Nat) (mk : Nat) (ad : Nat → Nat) (n : Nat) (g : Nat → Int32) (hm : mk_ok L mk ad n) (hs : mk_sr g n) (ho : ob_ok L oa mk ad n) (t9 : Nat) (h9 : t9 ≤ 100) (ht9 : C 9 0 = nI t9) (b : Int32) : hg_Fi l yX11_feed wsX11_feed ({ frames := 0, cells := 0, slots := 0, locals := 0 }) D b0 L (ob_W D f oa C mk im mk ad n g) [.ref (oa 0), .int (b)] ((cs_feed C b).1) (ob_W D f oa ((cs_feed C b).2) mk im mk ad n g) := by
  refine hg_in_i (cc := cX11_feed) (nL := 2) (by decide) rfl (Nat.le_of_ble_eq_true rfl) (fun p e s m args below meth c R Q X hR hend H locs ls w hl => ?_)
  subst hR
  obtain ⟨hx, hb, hml, hown, hts⟩ := id X.1
  have hin8 : ∀ w ∈ wsX80, w ∈ wsX11_feed := fun w h => List.mem_cons_of_mem _ (List.mem_append_right _ h)
  have hin11 : ∀ w ∈ wsX110, w ∈ wsX11_feed := fun w h => List.mem_cons_of_mem _ (List.mem_append_left _ (List.mem_append_right _ h))
  have hl : lv_has ls 2 [(0, .ref (oa 0)), (1, .int (b))] := hl
  refine lv_iload_n hx hb dX11_feed_0 rfl (lv_at hl 1 rfl) ?_
  refine lv_if_lt (tgt := 11) hx hb dX11_feed_1 (by decide) (fun c_1 => ?_) (fun c_1 => ?_)
  · refine lv_ldc (v := (-1000001)) hx hb hown (hts _ (List.mem_of_getElem? (i := 1) rfl)) dX11_feed_11 ?_
    exact hend H locs ((-1000001)) (L, ob_W D f oa C mk im mk ad n g) _ ls w ⟨(by (try simp only [lg_cmp_le, lg_cmp_ge, lg_cmp_lt, lg_cmp_gt, hs_if10, ← Int32.not_lt, ← Int64.not_lt, Classical.not_not] at c_1); first | (simp [cs_feed, hs_inX, mo_w, va_up, c_1]; done) | (simp [cs_feed, hs_inX, mo_w, va_up, c_1]; done) | (exfalso; clear hend ; simp_all; done)), (ob_eq (by (try simp only [lg_cmp_le, lg_cmp_ge, lg_cmp_lt, lg_cmp_gt, hs_if10, ← Int32.not_lt, ← Int64.not_lt, Classical.not_not] at c_1); first | (simp [cs_feed, hs_inX, c_1]; done) | (simp [cs_feed, hs_inX, c_1]; done) | (exfalso; clear hend ; simp_all; done)) rfl)⟩ rfl dX11_feed_13
  · refine lv_iload_n hx hb dX11_feed_4 rfl (lv_at hl 1 rfl) ?_
    refine lv_sipush (v := 255) hx hb dX11_feed_5 (by decide) ?_
    refine lv_icmp_le (tgt := 14) hx hb dX11_feed_8 (by decide) (fun c_8 => ?_) (fun c_8 => ?_)
    · refine lv_aload_n hx hb dX11_feed_14 rfl (lv_at hl 0 rfl) ?_
      refine ob_get X w ho 0 (by decide) (C0 := RX11) (T := TX11) (N := 12) (ci := 9) rfl hin11 rfl 1 (by decide) (List.mem_of_getElem? (i := 2) rfl) rfl rfl dX11_feed_15 ?_
      refine ob_get X w ho 2 (by decide) (C0 := RX8) (T := TX8) (N := 5) (ci := 6) rfl hin8 rfl 1 (by decide) (List.mem_of_getElem? (i := 3) rfl) rfl rfl dX11_feed_18 ?_
      refine lv_bipush (v := 100) hx hb dX11_feed_21 (by decide) ?_
      refine lv_icmp_lt (tgt := 29) hx hb dX11_feed_23 (by decide) (fun c_23 => ?_) (fun c_23 => ?_)
      · have htl : t9 < 100 := (nI_ltI (b := 100) (by omega) (by decide)).mp (by rw [← ht9]; exact c_23)
        have htc : (C 9 0).toNatClampNeg = t9 := by rw [ht9]; exact nI_clamp (by omega)
        refine lv_aload_n hx hb dX11_feed_29 rfl (lv_at hl 0 rfl) ?_
        refine ob_get X w ho 0 (by decide) (C0 := RX11) (T := TX11) (N := 12) (ci := 9) rfl hin11 rfl 1 (by decide) (List.mem_of_getElem? (i := 2) rfl) rfl rfl dX11_feed_30 ?_
        refine ob_get X w ho 2 (by decide) (C0 := RX8) (T := TX8) (N := 5) (ci := 6) rfl hin8 rfl 0 (by decide) (List.mem_of_getElem? (i := 5) rfl) rfl rfl dX11_feed_33 ?_
        refine lv_aload_n hx hb dX11_feed_36 rfl (lv_at hl 0 rfl) ?_
        refine ob_get X w ho 0 (by decide) (C0 := RX11) (T := TX11) (N := 12) (ci := 9) rfl hin11 rfl 1 (by decide) (List.mem_of_getElem? (i := 2) rfl) rfl rfl dX11_feed_37 ?_
        refine ob_get X w ho 2 (by decide) (C0 := RX8) (T := TX8) (N := 5) (ci := 6) rfl hin8 rfl 1 (by decide) (List.mem_of_getElem? (i := 3) rfl) rfl rfl dX11_feed_40 ?_
        refine lv_iload_n hx hb dX11_feed_43 rfl (lv_at hl 1 rfl) ?_
        refine ob_ast X w ho 3 (by decide) (N := 100) rfl t9 ht9 (by omega) (by decide) 8 t9 rfl (ob_o0 _ _ (by decide) _) dX11_feed_44 (fun H locs w => ?_)
        refine lv_aload_n hx hb dX11_feed_45 rfl (lv_at hl 0 rfl) ?_
        refine ob_get X w ho 0 (by decide) (C0 := RX11) (T := TX11) (N := 12) (ci := 9) rfl hin11 rfl 1 (by decide) (List.mem_of_getElem? (i := 2) rfl) rfl rfl dX11_feed_46 ?_
        refine lv_dup hx hb dX11_feed_49 rfl ?_
        refine ob_get X w ho 2 (by decide) (C0 := RX8) (T := TX8) (N := 5) (ci := 6) rfl hin8 rfl 1 (by decide) (List.mem_of_getElem? (i := 3) rfl) rfl rfl dX11_feed_50 ?_
        refine lv_iconst (v := 1) hx hb dX11_feed_53 (by decide) ?_
        refine lv_iadd hx hb dX11_feed_54 ?_
        refine ob_put X w ho 2 (by decide) (C0 := RX8) (T := TX8) (N := 5) (ci := 6) rfl hin8 tyX8_ok nmX8 rfl 1 (by decide) (List.mem_of_getElem? (i := 3) rfl) rfl rfl rfl (by show _ < 5; decide) 9 0 rfl (ob_o0 _ _ (by decide) 0) dX11_feed_55 (fun H locs w => ?_)
        refine lv_aload_n hx hb dX11_feed_58 rfl (lv_at hl 0 rfl) ?_
        refine ob_get X w ho 0 (by decide) (C0 := RX11) (T := TX11) (N := 12) (ci := 9) rfl hin11 rfl 1 (by decide) (List.mem_of_getElem? (i := 2) rfl) rfl rfl dX11_feed_59 ?_
        refine ob_get X w ho 2 (by decide) (C0 := RX8) (T := TX8) (N := 5) (ci := 6) rfl hin8 rfl 1 (by decide) (List.mem_of_getElem? (i := 3) rfl) rfl rfl dX11_feed_62 ?_
        exact hend H locs ((mo_w (mo_w C 8 t9 (b)) 9 0 (((mo_w C 8 t9 (b)) 9 0 + 1))) 9 0) (L, ob_W D f oa (mo_w (mo_w C 8 t9 (b)) 9 0 (((mo_w C 8 t9 (b)) 9 0 + 1))) mk im mk ad n g) _ ls w ⟨(by (try simp only [lg_cmp_le, lg_cmp_ge, lg_cmp_lt, lg_cmp_gt, hs_if10, ← Int32.not_lt, ← Int64.not_lt, Classical.not_not] at c_1 c_8 c_23); first | (simp [cs_feed, hs_inX, mo_w, va_up, c_1, c_8, c_23]; done) | (simp [cs_feed, hs_inX, mo_w, va_up, c_1, c_8, c_23]; done) | (exfalso; clear hend ; simp_all; done)), (ob_eq (by unfold cs_feed; rw [if_neg (by rw [hs_inX, if_neg (fun q => q.elim c_1 (fun q => absurd c_8 (Int32.not_le.mpr q)))]; decide), if_pos c_23, htc]; rfl) rfl)⟩ rfl dX11_feed_65
      · refine lv_ldc (v := (-1000003)) hx hb hown (hts _ (List.mem_of_getElem? (i := 4) rfl)) dX11_feed_26 ?_
        exact hend H locs ((-1000003)) (L, ob_W D f oa C mk im mk ad n g) _ ls w ⟨(by (try simp only [lg_cmp_le, lg_cmp_ge, lg_cmp_lt, lg_cmp_gt, hs_if10, ← Int32.not_lt, ← Int64.not_lt, Classical.not_not] at c_1 c_8 c_23); first | (simp [cs_feed, hs_inX, mo_w, va_up, c_1, c_8, c_23]; done) | (simp [cs_feed, hs_inX, mo_w, va_up, c_1, c_8, c_23]; done) | (exfalso; clear hend ; simp_all; done)), (ob_eq (by (try simp only [lg_cmp_le, lg_cmp_ge, lg_cmp_lt, lg_cmp_gt, hs_if10, ← Int32.not_lt, ← Int64.not_lt, Classical.not_not] at c_1 c_8 c_23); first | (simp [cs_feed, hs_inX, c_1, c_8, c_23]; done) | (simp [cs_feed, hs_inX, c_1, c_8, c_23]; done) | (exfalso; clear hend ; simp_all; done)) rfl)⟩ rfl dX11_feed_28
    · refine lv_ldc (v := (-1000001)) hx hb hown (hts _ (List.mem_of_getElem? (i := 1) rfl)) dX11_feed_11 ?_
      exact hend H locs ((-1000001)) (L, ob_W D f oa C mk im mk ad n g) _ ls w ⟨(by (try simp only [lg_cmp_le, lg_cmp_ge, lg_cmp_lt, lg_cmp_gt, hs_if10, ← Int32.not_lt, ← Int64.not_lt, Classical.not_not] at c_1 c_8); first | (simp [cs_feed, hs_inX, mo_w, va_up, c_1, c_8]; done) | (simp [cs_feed, hs_inX, mo_w, va_up, c_1, c_8]; done) | (exfalso; clear hend ; simp_all; done)), (ob_eq (by (try simp only [lg_cmp_le, lg_cmp_ge, lg_cmp_lt, lg_cmp_gt, hs_if10, ← Int32.not_lt, ← Int64.not_lt, Classical.not_not] at c_1 c_8); first | (simp [cs_feed, hs_inX, c_1, c_8]; done) | (simp [cs_feed, hs_inX, c_1, c_8]; done) | (exfalso; clear hend ; simp_all; done)) rfl)⟩ rfl dX11_feed_13
set_option maxRecDepth 100000 in
set_option maxHeartbeats 4000000 in
theorem c_X11_status (l : Launch) (D : va_G) (b0 : Nat) (L : List Nat) (f : Nat → va_E) (oa : Nat → Nat) (C : Nat → Nat → Int32) (im : Nat → Option Nat) (mk : Nat) (ad : Nat → Nat) (n : Nat) (g : Nat → Int32) (hm : mk_ok L mk ad n) (hs : mk_sr g n) (ho : ob_ok L oa mk ad n)  : hg_Fi l yX11_status wsX11_status ({ frames := 0, cells := 0, slots := 0, locals := 0 }) D b0 L (ob_W D f oa C mk im mk ad n g) [.ref (oa 0)] (C 7 0) (ob_W D f oa C mk im mk ad n g) := by
  refine hg_in_i (cc := cX11_status) (nL := 1) (by decide) rfl (Nat.le_of_ble_eq_true rfl) (fun p e s m args below meth c R Q X hR hend H locs ls w hl => ?_)
  subst hR
  obtain ⟨hx, hb, hml, hown, hts⟩ := id X.1
  have hin11 : ∀ w ∈ wsX110, w ∈ wsX11_status := fun w h => List.mem_cons_of_mem _ (List.mem_append_right _ h)
  have hl : lv_has ls 1 [(0, .ref (oa 0))] := hl
  refine lv_aload_n hx hb dX11_status_0 rfl (lv_at hl 0 rfl) ?_
  refine ob_get X w ho 0 (by decide) (C0 := RX11) (T := TX11) (N := 12) (ci := 9) rfl hin11 rfl 11 (by decide) (List.mem_of_getElem? (i := 1) rfl) rfl rfl dX11_status_1 ?_
  exact hend H locs (C 7 0) (L, ob_W D f oa C mk im mk ad n g) _ ls w ⟨rfl, rfl⟩ rfl dX11_status_4
set_option maxRecDepth 100000 in
set_option maxHeartbeats 4000000 in
theorem c_X11_fault (l : Launch) (D : va_G) (b0 : Nat) (L : List Nat) (f : Nat → va_E) (oa : Nat → Nat) (C : Nat → Nat → Int32) (im : Nat → Option Nat) (mk : Nat) (ad : Nat → Nat) (n : Nat) (g : Nat → Int32) (hm : mk_ok L mk ad n) (hs : mk_sr g n) (ho : ob_ok L oa mk ad n)  : hg_Fi l yX11_fault wsX11_fault ({ frames := 0, cells := 0, slots := 0, locals := 0 }) D b0 L (ob_W D f oa C mk im mk ad n g) [.ref (oa 0)] (C 10 0) (ob_W D f oa C mk im mk ad n g) := by
  refine hg_in_i (cc := cX11_fault) (nL := 1) (by decide) rfl (Nat.le_of_ble_eq_true rfl) (fun p e s m args below meth c R Q X hR hend H locs ls w hl => ?_)
  subst hR
  obtain ⟨hx, hb, hml, hown, hts⟩ := id X.1
  have hin11 : ∀ w ∈ wsX110, w ∈ wsX11_fault := fun w h => List.mem_cons_of_mem _ (List.mem_append_right _ h)
  have hl : lv_has ls 1 [(0, .ref (oa 0))] := hl
  refine lv_aload_n hx hb dX11_fault_0 rfl (lv_at hl 0 rfl) ?_
  refine ob_get X w ho 0 (by decide) (C0 := RX11) (T := TX11) (N := 12) (ci := 9) rfl hin11 rfl 10 (by decide) (List.mem_of_getElem? (i := 1) rfl) rfl rfl dX11_fault_1 ?_
  exact hend H locs (C 10 0) (L, ob_W D f oa C mk im mk ad n g) _ ls w ⟨rfl, rfl⟩ rfl dX11_fault_4
set_option maxRecDepth 100000 in
set_option maxHeartbeats 4000000 in
theorem c_X11_trace (l : Launch) (D : va_G) (b0 : Nat) (L : List Nat) (f : Nat → va_E) (oa : Nat → Nat) (C : Nat → Nat → Int32) (im : Nat → Option Nat) (mk : Nat) (ad : Nat → Nat) (n : Nat) (g : Nat → Int32) (hm : mk_ok L mk ad n) (hs : mk_sr g n) (ho : ob_ok L oa mk ad n) (x : Int32) : hg_Fi l yX11_trace wsX11_trace ({ frames := 0, cells := 0, slots := 0, locals := 0 }) D b0 L (ob_W D f oa C mk im mk ad n g) [.ref (oa 0), .int (x)] (cs_trace C x) (ob_W D f oa C mk im mk ad n g) := by
  refine hg_in_i (cc := cX11_trace) (nL := 2) (by decide) rfl (Nat.le_of_ble_eq_true rfl) (fun p e s m args below meth c R Q X hR hend H locs ls w hl => ?_)
  subst hR
  obtain ⟨hx, hb, hml, hown, hts⟩ := id X.1
  have hin9 : ∀ w ∈ wsX90, w ∈ wsX11_trace := fun w h => List.mem_cons_of_mem _ (List.mem_append_right _ h)
  have hin11 : ∀ w ∈ wsX110, w ∈ wsX11_trace := fun w h => List.mem_cons_of_mem _ (List.mem_append_left _ (List.mem_append_right _ h))
  have hl : lv_has ls 2 [(0, .ref (oa 0)), (1, .int (x))] := hl
  refine lv_iload_n hx hb dX11_trace_0 rfl (lv_at hl 1 rfl) ?_
  refine lv_if_lt (tgt := 21) hx hb dX11_trace_1 (by decide) (fun c_1 => ?_) (fun c_1 => ?_)
  · refine lv_ldcw (v := (-1000000)) hx hb hown (hts _ (List.mem_of_getElem? (i := 3) rfl)) dX11_trace_21 ?_
    refine lv_goto (tgt := 36) hx hb dX11_trace_24 (by decide) ?_
    exact hend H locs ((-1000000)) (L, ob_W D f oa C mk im mk ad n g) _ ls w ⟨(if_pos (Or.inl c_1)).symm, rfl⟩ rfl dX11_trace_36
  · refine lv_iload_n hx hb dX11_trace_4 rfl (lv_at hl 1 rfl) ?_
    refine lv_aload_n hx hb dX11_trace_5 rfl (lv_at hl 0 rfl) ?_
    refine ob_get X w ho 0 (by decide) (C0 := RX11) (T := TX11) (N := 12) (ci := 9) rfl hin11 rfl 2 (by decide) (List.mem_of_getElem? (i := 1) rfl) rfl rfl dX11_trace_6 ?_
    refine ob_get X w ho 4 (by decide) (C0 := RX9) (T := TX9) (N := 2) (ci := 7) rfl hin9 rfl 1 (by decide) (List.mem_of_getElem? (i := 2) rfl) rfl rfl dX11_trace_9 ?_
    refine lv_icmp_ge (tgt := 21) hx hb dX11_trace_12 (by decide) (fun c_12 => ?_) (fun c_12 => ?_)
    · refine lv_ldcw (v := (-1000000)) hx hb hown (hts _ (List.mem_of_getElem? (i := 3) rfl)) dX11_trace_21 ?_
      refine lv_goto (tgt := 36) hx hb dX11_trace_24 (by decide) ?_
      exact hend H locs ((-1000000)) (L, ob_W D f oa C mk im mk ad n g) _ ls w ⟨(if_pos (Or.inr (Or.inl c_12))).symm, rfl⟩ rfl dX11_trace_36
    · refine lv_iload_n hx hb dX11_trace_15 rfl (lv_at hl 1 rfl) ?_
      refine lv_bipush (v := 16) hx hb dX11_trace_16 (by decide) ?_
      refine lv_icmp_lt (tgt := 27) hx hb dX11_trace_18 (by decide) (fun c_18 => ?_) (fun c_18 => ?_)
      · obtain ⟨q, hq16, hqe⟩ : ∃ q : Nat, q < 16 ∧ x = nI q := by
          obtain ⟨q, hq, e⟩ := nI_of c_1
          subst e
          exact ⟨q, (nI_ltI (b := 16) hq (by decide)).mp c_18, rfl⟩
        refine lv_aload_n hx hb dX11_trace_27 rfl (lv_at hl 0 rfl) ?_
        refine ob_get X w ho 0 (by decide) (C0 := RX11) (T := TX11) (N := 12) (ci := 9) rfl hin11 rfl 2 (by decide) (List.mem_of_getElem? (i := 1) rfl) rfl rfl dX11_trace_28 ?_
        refine ob_get X w ho 4 (by decide) (C0 := RX9) (T := TX9) (N := 2) (ci := 7) rfl hin9 rfl 0 (by decide) (List.mem_of_getElem? (i := 4) rfl) rfl rfl dX11_trace_31 ?_
        refine lv_iload_n hx hb dX11_trace_34 rfl (lv_at hl 1 rfl) ?_
        refine ob_ald X w ho 5 (by decide) (N := 16) rfl q hqe (by omega) (by decide) dX11_trace_35 ?_
        exact hend H locs (C 17 q) (L, ob_W D f oa C mk im mk ad n g) _ ls w ⟨(by unfold cs_trace; rw [if_neg (fun q => q.elim c_1 (fun q => q.elim c_12 (fun q => absurd c_18 (Int32.not_lt.mpr q)))), hqe, nI_clamp (by omega)]), rfl⟩ rfl dX11_trace_36
      · refine lv_ldcw (v := (-1000000)) hx hb hown (hts _ (List.mem_of_getElem? (i := 3) rfl)) dX11_trace_21 ?_
        refine lv_goto (tgt := 36) hx hb dX11_trace_24 (by decide) ?_
        exact hend H locs ((-1000000)) (L, ob_W D f oa C mk im mk ad n g) _ ls w ⟨(if_pos (Or.inr (Or.inr (Int32.not_lt.mp c_18)))).symm, rfl⟩ rfl dX11_trace_36
set_option maxRecDepth 100000 in
set_option maxHeartbeats 4000000 in
theorem c_X11_rowsThere (l : Launch) (D : va_G) (b0 : Nat) (L : List Nat) (f : Nat → va_E) (oa : Nat → Nat) (C : Nat → Nat → Int32) (im : Nat → Option Nat) (mk : Nat) (ad : Nat → Nat) (n : Nat) (g : Nat → Int32) (hm : mk_ok L mk ad n) (hs : mk_sr g n) (ho : ob_ok L oa mk ad n)  : hg_Fi l yX11_rowsThere wsX11_rowsThere ({ frames := 1, cells := 0, slots := 0, locals := 20 }) D b0 L (ob_W D f oa C mk im mk ad n g) [.ref (oa 0)] (cs_many C 8) (ob_W D f oa C mk im mk ad n g) := by
  refine hg_in_i (cc := cX11_rowsThere) (nL := 6) (by decide) rfl (Nat.le_of_ble_eq_true rfl) (fun p e s m args below meth c R Q X hR hend H locs ls w hl => ?_)
  subst hR
  obtain ⟨hx, hb, hml, hown, hts⟩ := id X.1
  have hin5 : ∀ w ∈ wsX50, w ∈ wsX11_rowsThere := fun w h => List.mem_cons_of_mem _ (List.mem_append_right _ h)
  have hin11 : ∀ w ∈ wsX110, w ∈ wsX11_rowsThere := fun w h => List.mem_cons_of_mem _ (List.mem_append_left _ (List.mem_append_right _ h))
  have hl : lv_has ls 6 [(0, .ref (oa 0))] := hl
  refine lv_iconst (v := 0) hx hb dX11_rowsThere_0 (by decide) ?_
  refine lv_istore_n (lv' := [(1, .int (0)), (0, .ref (oa 0))]) hx hb dX11_rowsThere_1 rfl hl (by decide) rfl (fun ls hl => ?_)
  refine lv_aload_n hx hb dX11_rowsThere_2 rfl (lv_at hl 1 rfl) ?_
  refine ob_get X w ho 0 (by decide) (C0 := RX11) (T := TX11) (N := 12) (ci := 9) rfl hin11 rfl 0 (by decide) (List.mem_of_getElem? (i := 1) rfl) rfl rfl dX11_rowsThere_3 ?_
  refine lv_astore_n (lv' := [(2, .ref (oa 1)), (1, .int (0)), (0, .ref (oa 0))]) hx hb dX11_rowsThere_6 rfl hl (by decide) rfl (fun ls hl => ?_)
  refine lv_aload_n hx hb dX11_rowsThere_7 rfl (lv_at hl 0 rfl) ?_
  refine ob_rlen X w ho dX11_rowsThere_8 ?_
  refine lv_istore_n (lv' := [(3, .int (8)), (2, .ref (oa 1)), (1, .int (0)), (0, .ref (oa 0))]) hx hb dX11_rowsThere_9 rfl hl (by decide) rfl (fun ls hl => ?_)
  refine lv_iconst (v := 0) hx hb dX11_rowsThere_10 (by decide) ?_
  refine lv_istore (lv' := [(4, .int (0)), (3, .int (8)), (2, .ref (oa 1)), (1, .int (0)), (0, .ref (oa 0))]) hx hb dX11_rowsThere_11 hl (by decide) rfl (fun ls hl => ?_)
  have loop : ∀ (n0 k : Nat), k ≤ 8 → 8 + 1 ≤ k + n0 → ∀ (H : Heap) (locs : List Loc) (ls : Array Slot), hg_W D b0 L (ob_W D f oa C mk im mk ad n g) s.heap H locs → lv_has ls 6 [(0, .ref (oa 0)), (1, .int (cs_many C k)), (2, .ref (oa 1)), (3, .int (8)), (4, .int (nI k))] → W p l e ({ frames := 1, cells := 0, slots := 0, locals := 20 }) s m args below meth c H locs 0 0 Q (F0 m 13 ls []) := by
    intro n0
    induction n0 with
    | zero =>
      intro k h1 h2
      exact absurd h2 (by omega)
    | succ n0 ih =>
      intro k hk hn0 H locs ls w hl
      refine lv_iload hx hb dX11_rowsThere_13 (lv_at hl 4 rfl) ?_
      refine lv_iload_n hx hb dX11_rowsThere_15 rfl (lv_at hl 3 rfl) ?_
      refine lv_icmp_ge (tgt := 47) hx hb dX11_rowsThere_16 (by decide) (fun c_16 => ?_) (fun c_16 => ?_)
      · have hk : 8 = k := by
          rcases Nat.lt_or_ge k 8 with q | q
          · exact absurd c_16 (nI_ge (a := k) (b := 8) q (by omega))
          · omega
        subst hk
        refine lv_iload_n hx hb dX11_rowsThere_47 rfl (lv_at hl 1 rfl) ?_
        exact hend H locs (cs_many C 8) (L, ob_W D f oa C mk im mk ad n g) _ ls w ⟨rfl, rfl⟩ rfl dX11_rowsThere_48
      · have hkl : k < 8 := by
          rcases Nat.lt_or_ge k 8 with q | q
          · exact q
          · exact absurd (nI_le (a := 8) (b := k) q (by omega)) c_16
        refine lv_aload_n hx hb dX11_rowsThere_19 rfl (lv_at hl 2 rfl) ?_
        refine lv_iload hx hb dX11_rowsThere_20 (lv_at hl 4 rfl) ?_
        refine ob_rald X w ho k rfl (by omega) dX11_rowsThere_22 ?_
        · refine lv_astore (lv' := [(5, .ref (oa (11 + k))), (0, .ref (oa 0)), (1, .int (cs_many C k)), (2, .ref (oa 1)), (3, .int (8)), (4, .int (nI k))]) hx hb dX11_rowsThere_23 hl (by decide) rfl (fun ls hl => ?_)
          refine lv_aload hx hb dX11_rowsThere_25 (lv_at hl 0 rfl) ?_
          refine lv_ifnull hx hb dX11_rowsThere_27 ?_
          refine lv_aload hx hb dX11_rowsThere_30 (lv_at hl 0 rfl) ?_
          refine hg_viF (r := (mk_mis (C 3 k))) (As := []) (rest := []) X w (c_X5_isMissing l D b0 L f oa C mk im mk ad n g hm hs ho k (by omega)) (cwV 0 hts gX11_rowsThere_X5_isMissing rfl rfl rfl hdX5_isMissing ⟨Nat.le_of_ble_eq_true rfl, Nat.le_of_ble_eq_true rfl⟩) (ho.1 (11 + k) (by omega)).1 (by rw [ow_at ho (k := 11 + k) (by omega)]; exact ob_eR (by omega)) rfl rfl rfl hl.1 rfl (Nat.le_of_ble_eq_true rfl) dX11_rowsThere_32 ⟨Nat.zero_le _, Nat.zero_le _⟩ (fun H locs w => ?_)
          refine lv_if_ne (tgt := 41) hx hb dX11_rowsThere_35 (by decide) (fun c_35 => ?_) (fun c_35 => ?_)
          · refine lv_iinc (v := nI k + 1) (lv' := [(4, .int (nI k + 1)), (5, .ref (oa (11 + k))), (0, .ref (oa 0)), (1, .int (cs_many C k)), (2, .ref (oa 1)), (3, .int (8))]) hx hb dX11_rowsThere_41 hl (k := 5) rfl rfl (by decide) rfl (fun ls hl => ?_)
            refine lv_goto (tgt := 13) hx hb dX11_rowsThere_44 (by decide) ?_
            have he1 : (cs_many C k) = cs_many C (k + 1) := by (try simp only [lg_cmp_le, lg_cmp_ge, lg_cmp_lt, lg_cmp_gt, ← Int32.not_lt, ← Int64.not_lt, Classical.not_not] at c_16 c_35); first | (simp [cs_many, c_16, c_35]; done) | (simp [cs_many, c_16, c_35]; done) | (exfalso; clear hend ih; simp_all; done)
            have hl := hs_lv hl (k := 3) rfl he1
            have hl := hs_lv hl (k := 0) rfl (nI_1 k)
            exact ih (k + 1) (by omega) (by omega) H locs ls w (lv_sub hl [2, 3, 4, 5, 0] rfl)
          · refine lv_iinc (v := cs_many C k + 1) (lv' := [(1, .int (cs_many C k + 1)), (5, .ref (oa (11 + k))), (0, .ref (oa 0)), (2, .ref (oa 1)), (3, .int (8)), (4, .int (nI k))]) hx hb dX11_rowsThere_38 hl (k := 2) rfl rfl (by decide) rfl (fun ls hl => ?_)
            refine lv_iinc (v := nI k + 1) (lv' := [(4, .int (nI k + 1)), (1, .int (cs_many C k + 1)), (5, .ref (oa (11 + k))), (0, .ref (oa 0)), (2, .ref (oa 1)), (3, .int (8))]) hx hb dX11_rowsThere_41 hl (k := 5) rfl rfl (by decide) rfl (fun ls hl => ?_)
            refine lv_goto (tgt := 13) hx hb dX11_rowsThere_44 (by decide) ?_
            have he1 : (cs_many C k + 1) = cs_many C (k + 1) := by (try simp only [lg_cmp_le, lg_cmp_ge, lg_cmp_lt, lg_cmp_gt, ← Int32.not_lt, ← Int64.not_lt, Classical.not_not] at c_16 c_35); first | (simp [cs_many, c_16, c_35]; done) | (simp [cs_many, c_16, eq_true c_35]; done) | (exfalso; clear hend ih; simp_all; done)
            have hl := hs_lv hl (k := 1) rfl he1
            have hl := hs_lv hl (k := 0) rfl (nI_1 k)
            exact ih (k + 1) (by omega) (by omega) H locs ls w (lv_sub hl [3, 1, 4, 5, 0] rfl)
  exact loop 9 0 (by omega) (by omega) H locs ls w (lv_sub hl [4, 3, 2, 1, 0] rfl)
theorem hdX11_rowsThere : yX11_rowsThere.cls = RX11 ∧ yX11_rowsThere.cls ≠ "java/lang/invoke/MethodHandle" ∧ yX11_rowsThere.cls ≠ "java/lang/invoke/VarHandle" ∧ (parseMethodDescriptor yX11_rowsThere.desc).map (fun d => d.parameters.length) = some 0 := by decide +kernel
set_option maxRecDepth 100000 in
set_option maxHeartbeats 4000000 in
theorem c_X11_count (l : Launch) (D : va_G) (b0 : Nat) (L : List Nat) (f : Nat → va_E) (oa : Nat → Nat) (C : Nat → Nat → Int32) (im : Nat → Option Nat) (mk : Nat) (ad : Nat → Nat) (n : Nat) (g : Nat → Int32) (hm : mk_ok L mk ad n) (hs : mk_sr g n) (ho : ob_ok L oa mk ad n) (what : Int32) : hg_Fi l yX11_count wsX11_count ({ frames := 2, cells := 0, slots := 0, locals := 45 }) D b0 L (ob_W D f oa C mk im mk ad n g) [.ref (oa 0), .int (what)] (cs_count C g what) (ob_W D f oa C mk im mk ad n g) := by
  refine hg_in_i (cc := cX11_count) (nL := 2) (by decide) rfl (Nat.le_of_ble_eq_true rfl) (fun p e s m args below meth c R Q X hR hend H locs ls w hl => ?_)
  subst hR
  obtain ⟨hx, hb, hml, hown, hts⟩ := id X.1
  have hin3 : ∀ w ∈ wsX30, w ∈ wsX11_count := fun w h => List.mem_cons_of_mem _ (List.mem_append_left _ (List.mem_append_left _ (List.mem_append_right _ h)))
  have hin5 : ∀ w ∈ wsX50, w ∈ wsX11_count := fun w h => List.mem_cons_of_mem _ (List.mem_append_right _ h)
  have hin8 : ∀ w ∈ wsX80, w ∈ wsX11_count := fun w h => List.mem_cons_of_mem _ (List.mem_append_left _ (List.mem_append_right _ h))
  have hin11 : ∀ w ∈ wsX110, w ∈ wsX11_count := fun w h => List.mem_cons_of_mem _ (List.mem_append_left _ (List.mem_append_left _ (List.mem_append_left _ (List.mem_append_right _ h))))
  have hl : lv_has ls 2 [(0, .ref (oa 0)), (1, .int (what))] := hl
  refine lv_iload_n hx hb dX11_count_0 rfl (lv_at hl 1 rfl) ?_
  by_cases s_1_0 : what = 0
  · refine lv_tableIn (off := 43) (tgt := 44) hx hb dX11_count_1 (by rw [s_1_0]; decide) (by rw [s_1_0]; decide) (by rw [s_1_0]; decide) (by decide) ?_
    refine lv_aload_n hx hb dX11_count_44 rfl (lv_at hl 0 rfl) ?_
    refine hg_viF (r := (cs_many C 8)) (As := []) (rest := []) X w (c_X11_rowsThere l D b0 L f oa C im mk ad n g hm hs ho ) (cwV 0 hts gX11_count_X11_rowsThere rfl rfl rfl hdX11_rowsThere ⟨Nat.le_of_ble_eq_true rfl, Nat.le_of_ble_eq_true rfl⟩) (ho.1 0 (by decide)).1 (ow_at ho (k := 0) (by decide)) rfl rfl rfl hl.1 rfl (Nat.le_of_ble_eq_true rfl) dX11_count_45 ⟨Nat.zero_le _, Nat.zero_le _⟩ (fun H locs w => ?_)
    exact hend H locs ((cs_many C 8)) (L, ob_W D f oa C mk im mk ad n g) _ ls w ⟨(by (try simp only [lg_cmp_le, lg_cmp_ge, lg_cmp_lt, lg_cmp_gt, hs_if10, ← Int32.not_lt, ← Int64.not_lt, Classical.not_not] at s_1_0); first | (simp [cs_count, s_1_0]; done) | (simp [cs_count, eq_true s_1_0]; done) | (exfalso; clear hend ; simp_all; done)), rfl⟩ rfl dX11_count_48
  by_cases s_1_1 : what = 1
  · refine lv_tableIn (off := 48) (tgt := 49) hx hb dX11_count_1 (by rw [s_1_1]; decide) (by rw [s_1_1]; decide) (by rw [s_1_1]; decide) (by decide) ?_
    refine lv_aload_n hx hb dX11_count_49 rfl (lv_at hl 0 rfl) ?_
    refine ob_get X w ho 0 (by decide) (C0 := RX11) (T := TX11) (N := 12) (ci := 9) rfl hin11 rfl 9 (by decide) (List.mem_of_getElem? (i := 1) rfl) rfl rfl dX11_count_50 ?_
    refine mk_getM X w hm hin3 2 (by decide) (List.mem_of_getElem? (i := 2) rfl) rfl dX11_count_53 ?_
    exact hend H locs (g 2) (L, ob_W D f oa C mk im mk ad n g) _ ls w ⟨(by (try simp only [lg_cmp_le, lg_cmp_ge, lg_cmp_lt, lg_cmp_gt, hs_if10, ← Int32.not_lt, ← Int64.not_lt, Classical.not_not] at s_1_0 s_1_1); first | (simp [cs_count, s_1_0, s_1_1]; done) | (simp [cs_count, s_1_0, eq_true s_1_1]; done) | (exfalso; clear hend ; simp_all; done)), rfl⟩ rfl dX11_count_56
  by_cases s_1_2 : what = 2
  · refine lv_tableIn (off := 56) (tgt := 57) hx hb dX11_count_1 (by rw [s_1_2]; decide) (by rw [s_1_2]; decide) (by rw [s_1_2]; decide) (by decide) ?_
    refine lv_aload_n hx hb dX11_count_57 rfl (lv_at hl 0 rfl) ?_
    refine ob_get X w ho 0 (by decide) (C0 := RX11) (T := TX11) (N := 12) (ci := 9) rfl hin11 rfl 9 (by decide) (List.mem_of_getElem? (i := 1) rfl) rfl rfl dX11_count_58 ?_
    refine mk_getM X w hm hin3 3 (by decide) (List.mem_of_getElem? (i := 3) rfl) rfl dX11_count_61 ?_
    exact hend H locs (g 3) (L, ob_W D f oa C mk im mk ad n g) _ ls w ⟨(by (try simp only [lg_cmp_le, lg_cmp_ge, lg_cmp_lt, lg_cmp_gt, hs_if10, ← Int32.not_lt, ← Int64.not_lt, Classical.not_not] at s_1_0 s_1_1 s_1_2); first | (simp [cs_count, s_1_0, s_1_1, s_1_2]; done) | (simp [cs_count, s_1_0, s_1_1, eq_true s_1_2]; done) | (exfalso; clear hend ; simp_all; done)), rfl⟩ rfl dX11_count_64
  by_cases s_1_3 : what = 3
  · refine lv_tableIn (off := 64) (tgt := 65) hx hb dX11_count_1 (by rw [s_1_3]; decide) (by rw [s_1_3]; decide) (by rw [s_1_3]; decide) (by decide) ?_
    refine lv_aload_n hx hb dX11_count_65 rfl (lv_at hl 0 rfl) ?_
    refine ob_get X w ho 0 (by decide) (C0 := RX11) (T := TX11) (N := 12) (ci := 9) rfl hin11 rfl 9 (by decide) (List.mem_of_getElem? (i := 1) rfl) rfl rfl dX11_count_66 ?_
    refine mk_getM X w hm hin3 0 (by decide) (List.mem_of_getElem? (i := 4) rfl) rfl dX11_count_69 ?_
    exact hend H locs (g 0) (L, ob_W D f oa C mk im mk ad n g) _ ls w ⟨(by (try simp only [lg_cmp_le, lg_cmp_ge, lg_cmp_lt, lg_cmp_gt, hs_if10, ← Int32.not_lt, ← Int64.not_lt, Classical.not_not] at s_1_0 s_1_1 s_1_2 s_1_3); first | (simp [cs_count, s_1_0, s_1_1, s_1_2, s_1_3]; done) | (simp [cs_count, s_1_0, s_1_1, s_1_2, eq_true s_1_3]; done) | (exfalso; clear hend ; simp_all; done)), rfl⟩ rfl dX11_count_72
  by_cases s_1_4 : what = 4
  · refine lv_tableIn (off := 72) (tgt := 73) hx hb dX11_count_1 (by rw [s_1_4]; decide) (by rw [s_1_4]; decide) (by rw [s_1_4]; decide) (by decide) ?_
    refine lv_aload_n hx hb dX11_count_73 rfl (lv_at hl 0 rfl) ?_
    refine ob_get X w ho 0 (by decide) (C0 := RX11) (T := TX11) (N := 12) (ci := 9) rfl hin11 rfl 9 (by decide) (List.mem_of_getElem? (i := 1) rfl) rfl rfl dX11_count_74 ?_
    refine mk_getM X w hm hin3 1 (by decide) (List.mem_of_getElem? (i := 5) rfl) rfl dX11_count_77 ?_
    exact hend H locs (g 1) (L, ob_W D f oa C mk im mk ad n g) _ ls w ⟨(by (try simp only [lg_cmp_le, lg_cmp_ge, lg_cmp_lt, lg_cmp_gt, hs_if10, ← Int32.not_lt, ← Int64.not_lt, Classical.not_not] at s_1_0 s_1_1 s_1_2 s_1_3 s_1_4); first | (simp [cs_count, s_1_0, s_1_1, s_1_2, s_1_3, s_1_4]; done) | (simp [cs_count, s_1_0, s_1_1, s_1_2, s_1_3, eq_true s_1_4]; done) | (exfalso; clear hend ; simp_all; done)), rfl⟩ rfl dX11_count_80
  by_cases s_1_5 : what = 5
  · refine lv_tableIn (off := 80) (tgt := 81) hx hb dX11_count_1 (by rw [s_1_5]; decide) (by rw [s_1_5]; decide) (by rw [s_1_5]; decide) (by decide) ?_
    refine lv_aload_n hx hb dX11_count_81 rfl (lv_at hl 0 rfl) ?_
    refine ob_get X w ho 0 (by decide) (C0 := RX11) (T := TX11) (N := 12) (ci := 9) rfl hin11 rfl 8 (by decide) (List.mem_of_getElem? (i := 6) rfl) rfl rfl dX11_count_82 ?_
    exact hend H locs (C 1 0) (L, ob_W D f oa C mk im mk ad n g) _ ls w ⟨(by (try simp only [lg_cmp_le, lg_cmp_ge, lg_cmp_lt, lg_cmp_gt, hs_if10, ← Int32.not_lt, ← Int64.not_lt, Classical.not_not] at s_1_0 s_1_1 s_1_2 s_1_3 s_1_4 s_1_5); first | (simp [cs_count, s_1_0, s_1_1, s_1_2, s_1_3, s_1_4, s_1_5]; done) | (simp [cs_count, s_1_0, s_1_1, s_1_2, s_1_3, s_1_4, eq_true s_1_5]; done) | (exfalso; clear hend ; simp_all; done)), rfl⟩ rfl dX11_count_85
  by_cases s_1_6 : what = 6
  · refine lv_tableIn (off := 85) (tgt := 86) hx hb dX11_count_1 (by rw [s_1_6]; decide) (by rw [s_1_6]; decide) (by rw [s_1_6]; decide) (by decide) ?_
    refine lv_aload_n hx hb dX11_count_86 rfl (lv_at hl 0 rfl) ?_
    refine ob_get X w ho 0 (by decide) (C0 := RX11) (T := TX11) (N := 12) (ci := 9) rfl hin11 rfl 1 (by decide) (List.mem_of_getElem? (i := 7) rfl) rfl rfl dX11_count_87 ?_
    refine ob_get X w ho 2 (by decide) (C0 := RX8) (T := TX8) (N := 5) (ci := 6) rfl hin8 rfl 1 (by decide) (List.mem_of_getElem? (i := 8) rfl) rfl rfl dX11_count_90 ?_
    exact hend H locs (C 9 0) (L, ob_W D f oa C mk im mk ad n g) _ ls w ⟨(by (try simp only [lg_cmp_le, lg_cmp_ge, lg_cmp_lt, lg_cmp_gt, hs_if10, ← Int32.not_lt, ← Int64.not_lt, Classical.not_not] at s_1_0 s_1_1 s_1_2 s_1_3 s_1_4 s_1_5 s_1_6); first | (simp [cs_count, s_1_0, s_1_1, s_1_2, s_1_3, s_1_4, s_1_5, s_1_6]; done) | (simp [cs_count, s_1_0, s_1_1, s_1_2, s_1_3, s_1_4, s_1_5, eq_true s_1_6]; done) | (exfalso; clear hend ; simp_all; done)), rfl⟩ rfl dX11_count_93
  refine lv_tableOut (tgt := 94) hx hb dX11_count_1 (by have t0 := lv_neT s_1_0 (a := 0) (by decide); have t1 := lv_neT s_1_1 (a := 1) (by decide); have t2 := lv_neT s_1_2 (a := 2) (by decide); have t3 := lv_neT s_1_3 (a := 3) (by decide); have t4 := lv_neT s_1_4 (a := 4) (by decide); have t5 := lv_neT s_1_5 (a := 5) (by decide); have t6 := lv_neT s_1_6 (a := 6) (by decide); omega) (by decide) ?_
  refine lv_ldc (v := (-1000001)) hx hb hown (hts _ (List.mem_of_getElem? (i := 9) rfl)) dX11_count_94 ?_
  exact hend H locs ((-1000001)) (L, ob_W D f oa C mk im mk ad n g) _ ls w ⟨(by (try simp only [lg_cmp_le, lg_cmp_ge, lg_cmp_lt, lg_cmp_gt, hs_if10, ← Int32.not_lt, ← Int64.not_lt, Classical.not_not] at s_1_0 s_1_1 s_1_2 s_1_3 s_1_4 s_1_5 s_1_6); first | (simp [cs_count, s_1_0, s_1_1, s_1_2, s_1_3, s_1_4, s_1_5, s_1_6]; done) | (simp [cs_count, s_1_0, s_1_1, s_1_2, s_1_3, s_1_4, s_1_5, s_1_6]; done) | (exfalso; clear hend ; simp_all; done)), rfl⟩ rfl dX11_count_96
