theorem hdX3_standing : yX3_standing.cls = RX3 ∧ yX3_standing.cls ≠ "java/lang/invoke/MethodHandle" ∧ yX3_standing.cls ≠ "java/lang/invoke/VarHandle" ∧ (parseMethodDescriptor yX3_standing.desc).map (fun d => d.parameters.length) = some 2 := by decide +kernel
set_option maxRecDepth 100000 in
set_option maxHeartbeats 4000000 in
theorem c_X1_canStand (l : Launch) (D : va_G) (b0 : Nat) (L : List Nat) (f : Nat → va_E) (mk : Nat) (ad : Nat → Nat) (n : Nat) (g : Nat → Int32) (hm : mk_ok L mk ad n) (hs : mk_sr g n) (i : Nat) (hi : i < n) (place : Int32) : hg_Fi l yX1_canStand wsX1_canStand ({ frames := 1, cells := 0, slots := 0, locals := 26 }) D b0 L (mk_F D f mk ad n g) [.ref mk, .ref (ad (2 + i)), .int (place)] (mk_can g n i place) (mk_F D f mk ad n g) := by
  refine hg_in_i (cc := cX1_canStand) (nL := 4) (by decide) rfl (Nat.le_of_ble_eq_true rfl) (fun p e s m args below meth c R Q X hR hend H locs ls w hl => ?_)
  subst hR
  obtain ⟨hx, hb, hml, hown, hts⟩ := id X.1
  have hin : mk_in wsX1_canStand := ⟨fun w h => List.mem_cons_of_mem _ (List.mem_append_left _ (List.mem_append_left _ (List.mem_append_left _ (List.mem_append_left _ (List.mem_append_left _ (List.mem_append_right _ h)))))), fun w h => List.mem_cons_of_mem _ (List.mem_append_left _ (List.mem_append_left _ (List.mem_append_left _ (List.mem_append_left _ (List.mem_append_right _ h))))), fun w h => List.mem_cons_of_mem _ (List.mem_append_left _ (List.mem_append_left _ (List.mem_append_left _ (List.mem_append_right _ h)))), fun w h => List.mem_cons_of_mem _ (List.mem_append_left _ (List.mem_append_left _ (List.mem_append_right _ h))), fun w h => List.mem_cons_of_mem _ (List.mem_append_left _ (List.mem_append_right _ h))⟩
  have hin3 : ∀ w ∈ wsX30, w ∈ wsX1_canStand := fun w h => List.mem_cons_of_mem _ (List.mem_append_right _ h)
  have hl : lv_has ls 4 [(0, .ref mk), (1, .ref (ad (2 + i))), (2, .int (place))] := hl
  have hn6 := hs.2.1
  refine lv_aload_n hx hb dX1_canStand_0 rfl (lv_at hl 0 rfl) ?_
  refine lv_aload_n hx hb dX1_canStand_1 rfl (lv_at hl 1 rfl) ?_
  refine mk_get X w hm hs hin hi 1 (by decide) (List.mem_of_getElem? (i := 1) rfl) (Or.inl rfl) rfl dX1_canStand_2 ?_
  refine lv_iload_n hx hb dX1_canStand_5 rfl (lv_at hl 2 rfl) ?_
  refine hg_vqF (r := (mk_std g (g (14 + i)) place n).map (fun j => ad (2 + j))) (As := [.int (g (14 + i)), .int (place)]) (rest := []) X w (c_X3_standing l D b0 L f mk ad n g hm hs (g (14 + i)) place) (cwV 2 hts gX1_canStand_X3_standing rfl rfl rfl hdX3_standing ⟨Nat.le_of_ble_eq_true rfl, Nat.le_of_ble_eq_true rfl⟩) (hm.1) (mk_at0 D f mk ad n _) rfl rfl rfl hl.1 rfl (Nat.le_of_ble_eq_true rfl) dX1_canStand_6 ⟨Nat.zero_le _, Nat.zero_le _⟩ (fun H locs w => ?_)
  refine mk_qk (ad := ad) (fun hq6 => ?_) (fun jq6 hq6 => ?_)
  · refine lv_astore_nN (lv' := [(3, .null), (0, .ref mk), (1, .ref (ad (2 + i))), (2, .int (place))]) hx hb dX1_canStand_9 rfl hl (by decide) rfl (fun ls hl => ?_)
    refine lv_aload_nN hx hb dX1_canStand_10 rfl (lv_at hl 0 rfl) ?_
    refine lv_ifnullN (tgt := 25) hx hb dX1_canStand_11 (by decide) ?_
    refine lv_iconst (v := 1) hx hb dX1_canStand_25 (by decide) ?_
    refine lv_goto (tgt := 30) hx hb dX1_canStand_26 (by decide) ?_
    exact hend H locs (1) (L, mk_F D f mk ad n g) _ ls w ⟨(mk_can_n hq6).symm, rfl⟩ (by decide) dX1_canStand_30
  · have hjq6 : jq6 < n := mk_std_lt hq6
    refine lv_astore_n (lv' := [(3, .ref (ad (2 + jq6))), (0, .ref mk), (1, .ref (ad (2 + i))), (2, .int (place))]) hx hb dX1_canStand_9 rfl hl (by decide) rfl (fun ls hl => ?_)
    refine lv_aload_n hx hb dX1_canStand_10 rfl (lv_at hl 0 rfl) ?_
    refine lv_ifnull hx hb dX1_canStand_11 ?_
    refine lv_aload_n hx hb dX1_canStand_14 rfl (lv_at hl 0 rfl) ?_
    refine mk_get X w hm hs hin hjq6 0 (by decide) (List.mem_of_getElem? (i := 2) rfl) (Or.inl rfl) rfl dX1_canStand_15 ?_
    refine lv_aload_n hx hb dX1_canStand_18 rfl (lv_at hl 2 rfl) ?_
    refine mk_get X w hm hs hin hi 0 (by decide) (List.mem_of_getElem? (i := 2) rfl) (Or.inl rfl) rfl dX1_canStand_19 ?_
    refine lv_icmp_ne (tgt := 29) hx hb dX1_canStand_22 (by decide) (fun c_22 => ?_) (fun c_22 => ?_)
    · refine lv_iconst (v := 0) hx hb dX1_canStand_29 (by decide) ?_
      exact hend H locs (0) (L, mk_F D f mk ad n g) _ ls w ⟨(by rw [mk_can_s hq6, if_neg c_22]), rfl⟩ (by decide) dX1_canStand_30
    · refine lv_iconst (v := 1) hx hb dX1_canStand_25 (by decide) ?_
      refine lv_goto (tgt := 30) hx hb dX1_canStand_26 (by decide) ?_
      exact hend H locs (1) (L, mk_F D f mk ad n g) _ ls w ⟨(by rw [mk_can_s hq6, if_pos c_22]), rfl⟩ (by decide) dX1_canStand_30
set_option maxRecDepth 100000 in
set_option maxHeartbeats 4000000 in
theorem c_X1_goodsInBox (l : Launch) (D : va_G) (b0 : Nat) (L : List Nat) (f : Nat → va_E) (mk : Nat) (ad : Nat → Nat) (n : Nat) (g : Nat → Int32) (hm : mk_ok L mk ad n) (hs : mk_sr g n) (nr : Nat) (ht : mk_t g nr) (i : Nat) (hi : i < n) (depth what : Int32) : hg_Fi l yX1_goodsInBox wsX1_goodsInBox ({ frames := 4, cells := 0, slots := 0, locals := 90 }) D b0 L (mk_F D f mk ad n g) [.ref mk, .ref (ad (2 + i)), .int (depth), .int (what)] (if what = 0 then hs_boxL g n i depth 21 else hs_boxM g n i depth 21) (mk_F D f mk ad n g) := by
  refine hg_in_i (cc := cX1_goodsInBox) (nL := 8) (by decide) rfl (Nat.le_of_ble_eq_true rfl) (fun p e s m args below meth c R Q X hR hend H locs ls w hl => ?_)
  subst hR
  obtain ⟨hx, hb, hml, hown, hts⟩ := id X.1
  have hin : mk_in wsX1_goodsInBox := ⟨fun w h => List.mem_cons_of_mem _ (List.mem_append_left _ (List.mem_append_left _ (List.mem_append_left _ (List.mem_append_left _ (List.mem_append_left _ (List.mem_append_right _ h)))))), fun w h => List.mem_cons_of_mem _ (List.mem_append_left _ (List.mem_append_left _ (List.mem_append_left _ (List.mem_append_left _ (List.mem_append_right _ h))))), fun w h => List.mem_cons_of_mem _ (List.mem_append_left _ (List.mem_append_left _ (List.mem_append_left _ (List.mem_append_right _ h)))), fun w h => List.mem_cons_of_mem _ (List.mem_append_left _ (List.mem_append_left _ (List.mem_append_right _ h))), fun w h => List.mem_cons_of_mem _ (List.mem_append_left _ (List.mem_append_right _ h))⟩
  have hin3 : ∀ w ∈ wsX30, w ∈ wsX1_goodsInBox := fun w h => List.mem_cons_of_mem _ (List.mem_append_right _ h)
  have hl : lv_has ls 8 [(0, .ref mk), (1, .ref (ad (2 + i))), (2, .int (depth)), (3, .int (what))] := hl
  have hn6 := hs.2.1
  refine lv_aload_n hx hb dX1_goodsInBox_0 rfl (lv_at hl 1 rfl) ?_
  refine mk_get X w hm hs hin hi 3 (by decide) (List.mem_of_getElem? (i := 1) rfl) (Or.inl rfl) rfl dX1_goodsInBox_1 ?_
  refine lv_istore (lv' := [(4, .int (g (26 + i))), (0, .ref mk), (1, .ref (ad (2 + i))), (2, .int (depth)), (3, .int (what))]) hx hb dX1_goodsInBox_4 hl (by decide) rfl (fun ls hl => ?_)
  refine lv_ldc (v := (-1000000)) hx hb hown (hts _ (List.mem_of_getElem? (i := 2) rfl)) dX1_goodsInBox_6 ?_
  refine lv_istore (lv' := [(5, .int ((-1000000))), (4, .int (g (26 + i))), (0, .ref mk), (1, .ref (ad (2 + i))), (2, .int (depth)), (3, .int (what))]) hx hb dX1_goodsInBox_8 hl (by decide) rfl (fun ls hl => ?_)
  refine lv_ldc (v := (-1000000)) hx hb hown (hts _ (List.mem_of_getElem? (i := 2) rfl)) dX1_goodsInBox_10 ?_
  refine lv_istore (lv' := [(6, .int ((-1000000))), (5, .int ((-1000000))), (4, .int (g (26 + i))), (0, .ref mk), (1, .ref (ad (2 + i))), (2, .int (depth)), (3, .int (what))]) hx hb dX1_goodsInBox_12 hl (by decide) rfl (fun ls hl => ?_)
  refine lv_iconst (v := 0) hx hb dX1_goodsInBox_14 (by decide) ?_
  refine lv_istore (lv' := [(7, .int (0)), (6, .int ((-1000000))), (5, .int ((-1000000))), (4, .int (g (26 + i))), (0, .ref mk), (1, .ref (ad (2 + i))), (2, .int (depth)), (3, .int (what))]) hx hb dX1_goodsInBox_15 hl (by decide) rfl (fun ls hl => ?_)
  have loop : ∀ (n0 k : Nat), k ≤ 21 → 21 + 1 ≤ k + n0 → ∀ (u0 : Int32), ∀ (H : Heap) (locs : List Loc) (ls : Array Slot), hg_W D b0 L (mk_F D f mk ad n (va_up g (26 + i) u0)) s.heap H locs → lv_has ls 8 [(0, .ref mk), (1, .ref (ad (2 + i))), (2, .int (depth)), (3, .int (what)), (4, .int (g (26 + i))), (5, .int (hs_boxL g n i depth k)), (6, .int (hs_boxM g n i depth k)), (7, .int (nI k))] → W p l e ({ frames := 4, cells := 0, slots := 0, locals := 90 }) s m args below meth c H locs 0 0 Q (F0 m 17 ls []) := by
    intro n0
    induction n0 with
    | zero =>
      intro k h1 h2
      exact absurd h2 (by omega)
    | succ n0 ih =>
      intro k hk hn0 u0 H locs ls w hl
      refine lv_iload hx hb dX1_goodsInBox_17 (lv_at hl 7 rfl) ?_
      refine lv_bipush (v := 20) hx hb dX1_goodsInBox_19 (by decide) ?_
      refine lv_icmp_gt (tgt := 72) hx hb dX1_goodsInBox_21 (by decide) (fun c_21 => ?_) (fun c_21 => ?_)
      · have hk : 21 = k := by
          rcases Nat.lt_or_ge k 21 with q | q
          · exact absurd c_21 (nI_nlt (a := 20) (b := k) (by omega) (by omega))
          · omega
        subst hk
        refine lv_aload_n hx hb dX1_goodsInBox_72 rfl (lv_at hl 1 rfl) ?_
        refine lv_iload hx hb dX1_goodsInBox_73 (lv_at hl 4 rfl) ?_
        refine mk_put X w hm (mk_sr_up (by omega) hs) hin hi 3 (by decide) (List.mem_of_getElem? (i := 1) rfl) (fun q => absurd q (by decide)) dX1_goodsInBox_75 (fun H locs w => ?_)
        have w : hg_W D b0 L (mk_F D f mk ad n (va_up (va_up g (26 + i) u0) (26 + i) (g (26 + i)))) s.heap H locs := w
        rw [hs_uu] at w
        rw [hs_up_id] at w
        refine lv_iload_n hx hb dX1_goodsInBox_78 rfl (lv_at hl 3 rfl) ?_
        refine lv_if_ne (tgt := 87) hx hb dX1_goodsInBox_79 (by decide) (fun c_79 => ?_) (fun c_79 => ?_)
        · refine lv_iload hx hb dX1_goodsInBox_87 (lv_at hl 6 rfl) ?_
          exact hend H locs (hs_boxM g n i depth 21) (L, mk_F D f mk ad n g) _ ls w ⟨(if_neg c_79).symm, rfl⟩ rfl dX1_goodsInBox_89
        · refine lv_iload hx hb dX1_goodsInBox_82 (lv_at hl 5 rfl) ?_
          refine lv_goto (tgt := 89) hx hb dX1_goodsInBox_84 (by decide) ?_
          exact hend H locs (hs_boxL g n i depth 21) (L, mk_F D f mk ad n g) _ ls w ⟨(if_pos c_79).symm, rfl⟩ rfl dX1_goodsInBox_89
      · have hkl : k < 21 := by
          rcases Nat.lt_or_ge k 21 with q | q
          · exact q
          · exact absurd (nI_lt (a := 20) (b := k) (by omega) (by omega)) c_21
        refine lv_aload_n hx hb dX1_goodsInBox_24 rfl (lv_at hl 1 rfl) ?_
        refine lv_iload hx hb dX1_goodsInBox_25 (lv_at hl 7 rfl) ?_
        refine mk_put X w hm (mk_sr_up (by omega) hs) hin hi 3 (by decide) (List.mem_of_getElem? (i := 1) rfl) (fun q => absurd q (by decide)) dX1_goodsInBox_27 (fun H locs w => ?_)
        have w : hg_W D b0 L (mk_F D f mk ad n (va_up (va_up g (26 + i) u0) (26 + i) (nI k))) s.heap H locs := w
        rw [hs_uu] at w
        refine lv_aload_n hx hb dX1_goodsInBox_30 rfl (lv_at hl 0 rfl) ?_
        refine lv_aload_n hx hb dX1_goodsInBox_31 rfl (lv_at hl 1 rfl) ?_
        refine mk_get X w hm (mk_sr_up (by omega) hs) hin hi 1 (by decide) (List.mem_of_getElem? (i := 3) rfl) (Or.inl rfl) rfl dX1_goodsInBox_32 ?_
        refine lv_aload_n hx hb dX1_goodsInBox_35 rfl (lv_at hl 1 rfl) ?_
        refine mk_get X w hm (mk_sr_up (by omega) hs) hin hi 2 (by decide) (List.mem_of_getElem? (i := 4) rfl) (Or.inl rfl) rfl dX1_goodsInBox_36 ?_
        refine hg_viF (r := (hs_depth (va_up g (26 + i) (nI k)) n ((va_up g (26 + i) (nI k)) (14 + i)) ((va_up g (26 + i) (nI k)) (20 + i)))) (As := [.int ((va_up g (26 + i) (nI k)) (14 + i)), .int ((va_up g (26 + i) (nI k)) (20 + i))]) (rest := []) X w (c_X3_depth l D b0 L f mk ad n (va_up g (26 + i) (nI k)) hm (mk_sr_up (by omega) hs) nr (mk_t_up (by omega) ht) ((va_up g (26 + i) (nI k)) (14 + i)) ((va_up g (26 + i) (nI k)) (20 + i))) (cwV 2 hts gX1_goodsInBox_X3_depth rfl rfl rfl hdX3_depth ⟨Nat.le_of_ble_eq_true rfl, Nat.le_of_ble_eq_true rfl⟩) hm.1 (mk_at0 D f mk ad n _) rfl rfl rfl hl.1 rfl (Nat.le_of_ble_eq_true rfl) dX1_goodsInBox_39 ⟨Nat.zero_le _, Nat.zero_le _⟩ (fun H locs w => ?_)
        refine lv_iload_n hx hb dX1_goodsInBox_42 rfl (lv_at hl 2 rfl) ?_
        refine lv_icmp_ne (tgt := 66) hx hb dX1_goodsInBox_43 (by decide) (fun c_43 => ?_) (fun c_43 => ?_)
        · refine lv_iinc (v := nI k + 1) (lv' := [(7, .int (nI k + 1)), (0, .ref mk), (1, .ref (ad (2 + i))), (2, .int (depth)), (3, .int (what)), (4, .int (g (26 + i))), (5, .int (hs_boxL g n i depth k)), (6, .int (hs_boxM g n i depth k))]) hx hb dX1_goodsInBox_66 hl (k := 7) rfl rfl (by decide) rfl (fun ls hl => ?_)
          refine lv_goto (tgt := 17) hx hb dX1_goodsInBox_69 (by decide) ?_
          have he5 : (hs_boxL g n i depth k) = hs_boxL g n i depth (k + 1) := by (try simp only [lg_cmp_le, lg_cmp_ge, lg_cmp_lt, lg_cmp_gt, ← Int32.not_lt, ← Int64.not_lt, Classical.not_not] at c_21 c_43); first | (simp [hs_boxL, hs_deep, c_21, c_43]; done) | (simp [hs_boxL, hs_deep, c_21, c_43]; done) | (exfalso; clear hend ih; simp_all; done)
          have hl := hs_lv hl (k := 6) rfl he5
          have he6 : (hs_boxM g n i depth k) = hs_boxM g n i depth (k + 1) := by (try simp only [lg_cmp_le, lg_cmp_ge, lg_cmp_lt, lg_cmp_gt, ← Int32.not_lt, ← Int64.not_lt, Classical.not_not] at c_21 c_43); first | (simp [hs_boxM, hs_deep, c_21, c_43]; done) | (simp [hs_boxM, hs_deep, c_21, c_43]; done) | (exfalso; clear hend ih; simp_all; done)
          have hl := hs_lv hl (k := 7) rfl he6
          have hl := hs_lv hl (k := 0) rfl (nI_1 k)
          exact ih (k + 1) (by omega) (by omega) _ H locs ls w (lv_sub hl [1, 2, 3, 4, 5, 6, 7, 0] rfl)
        · refine lv_iload hx hb dX1_goodsInBox_46 (lv_at hl 5 rfl) ?_
          refine lv_ldc (v := (-1000000)) hx hb hown (hts _ (List.mem_of_getElem? (i := 2) rfl)) dX1_goodsInBox_48 ?_
          refine lv_icmp_ne (tgt := 58) hx hb dX1_goodsInBox_50 (by decide) (fun c_50 => ?_) (fun c_50 => ?_)
          · refine lv_iload hx hb dX1_goodsInBox_58 (lv_at hl 5 rfl) ?_
            refine lv_istore (lv' := [(5, .int (hs_boxL g n i depth k)), (0, .ref mk), (1, .ref (ad (2 + i))), (2, .int (depth)), (3, .int (what)), (4, .int (g (26 + i))), (6, .int (hs_boxM g n i depth k)), (7, .int (nI k))]) hx hb dX1_goodsInBox_60 hl (by decide) rfl (fun ls hl => ?_)
            refine lv_iload hx hb dX1_goodsInBox_62 (lv_at hl 7 rfl) ?_
            refine lv_istore (lv' := [(6, .int (nI k)), (5, .int (hs_boxL g n i depth k)), (0, .ref mk), (1, .ref (ad (2 + i))), (2, .int (depth)), (3, .int (what)), (4, .int (g (26 + i))), (7, .int (nI k))]) hx hb dX1_goodsInBox_64 hl (by decide) rfl (fun ls hl => ?_)
            refine lv_iinc (v := nI k + 1) (lv' := [(7, .int (nI k + 1)), (6, .int (nI k)), (5, .int (hs_boxL g n i depth k)), (0, .ref mk), (1, .ref (ad (2 + i))), (2, .int (depth)), (3, .int (what)), (4, .int (g (26 + i)))]) hx hb dX1_goodsInBox_66 hl (k := 7) rfl rfl (by decide) rfl (fun ls hl => ?_)
            refine lv_goto (tgt := 17) hx hb dX1_goodsInBox_69 (by decide) ?_
            have he5 : (hs_boxL g n i depth k) = hs_boxL g n i depth (k + 1) := by (try simp only [lg_cmp_le, lg_cmp_ge, lg_cmp_lt, lg_cmp_gt, ← Int32.not_lt, ← Int64.not_lt, Classical.not_not] at c_21 c_43 c_50); first | (simp [hs_boxL, hs_deep, c_21, c_43, c_50]; done) | (simp [hs_boxL, hs_deep, c_21, eq_true c_43, c_50]; done) | (exfalso; clear hend ih; simp_all; done)
            have hl := hs_lv hl (k := 2) rfl he5
            have he6 : (nI k) = hs_boxM g n i depth (k + 1) := by (try simp only [lg_cmp_le, lg_cmp_ge, lg_cmp_lt, lg_cmp_gt, ← Int32.not_lt, ← Int64.not_lt, Classical.not_not] at c_21 c_43 c_50); first | (simp [hs_boxM, hs_deep, c_21, c_43, c_50]; done) | (simp [hs_boxM, hs_deep, c_21, eq_true c_43, c_50]; done) | (exfalso; clear hend ih; simp_all; done)
            have hl := hs_lv hl (k := 1) rfl he6
            have hl := hs_lv hl (k := 0) rfl (nI_1 k)
            exact ih (k + 1) (by omega) (by omega) _ H locs ls w (lv_sub hl [3, 4, 5, 6, 7, 2, 1, 0] rfl)
          · refine lv_iload hx hb dX1_goodsInBox_53 (lv_at hl 7 rfl) ?_
            refine lv_goto (tgt := 60) hx hb dX1_goodsInBox_55 (by decide) ?_
            refine lv_istore (lv' := [(5, .int (nI k)), (0, .ref mk), (1, .ref (ad (2 + i))), (2, .int (depth)), (3, .int (what)), (4, .int (g (26 + i))), (6, .int (hs_boxM g n i depth k)), (7, .int (nI k))]) hx hb dX1_goodsInBox_60 hl (by decide) rfl (fun ls hl => ?_)
            refine lv_iload hx hb dX1_goodsInBox_62 (lv_at hl 7 rfl) ?_
            refine lv_istore (lv' := [(6, .int (nI k)), (5, .int (nI k)), (0, .ref mk), (1, .ref (ad (2 + i))), (2, .int (depth)), (3, .int (what)), (4, .int (g (26 + i))), (7, .int (nI k))]) hx hb dX1_goodsInBox_64 hl (by decide) rfl (fun ls hl => ?_)
            refine lv_iinc (v := nI k + 1) (lv' := [(7, .int (nI k + 1)), (6, .int (nI k)), (5, .int (nI k)), (0, .ref mk), (1, .ref (ad (2 + i))), (2, .int (depth)), (3, .int (what)), (4, .int (g (26 + i)))]) hx hb dX1_goodsInBox_66 hl (k := 7) rfl rfl (by decide) rfl (fun ls hl => ?_)
            refine lv_goto (tgt := 17) hx hb dX1_goodsInBox_69 (by decide) ?_
            have he5 : (nI k) = hs_boxL g n i depth (k + 1) := by (try simp only [lg_cmp_le, lg_cmp_ge, lg_cmp_lt, lg_cmp_gt, ← Int32.not_lt, ← Int64.not_lt, Classical.not_not] at c_21 c_43 c_50); first | (simp [hs_boxL, hs_deep, c_21, c_43, c_50]; done) | (simp [hs_boxL, hs_deep, c_21, eq_true c_43, eq_true c_50]; done) | (exfalso; clear hend ih; simp_all; done)
            have hl := hs_lv hl (k := 2) rfl he5
            have he6 : (nI k) = hs_boxM g n i depth (k + 1) := by (try simp only [lg_cmp_le, lg_cmp_ge, lg_cmp_lt, lg_cmp_gt, ← Int32.not_lt, ← Int64.not_lt, Classical.not_not] at c_21 c_43 c_50); first | (simp [hs_boxM, hs_deep, c_21, c_43, c_50]; done) | (simp [hs_boxM, hs_deep, c_21, eq_true c_43, eq_true c_50]; done) | (exfalso; clear hend ih; simp_all; done)
            have hl := hs_lv hl (k := 1) rfl he6
            have hl := hs_lv hl (k := 0) rfl (nI_1 k)
            exact ih (k + 1) (by omega) (by omega) _ H locs ls w (lv_sub hl [3, 4, 5, 6, 7, 2, 1, 0] rfl)
  exact loop 22 0 (by omega) (by omega) (g (26 + i)) H locs ls (by rw [hs_up_id]; exact w) (lv_sub hl [4, 5, 6, 7, 3, 2, 1, 0] rfl)
theorem hdX3_firstDropping : yX3_firstDropping.cls = RX3 ∧ yX3_firstDropping.cls ≠ "java/lang/invoke/MethodHandle" ∧ yX3_firstDropping.cls ≠ "java/lang/invoke/VarHandle" ∧ (parseMethodDescriptor yX3_firstDropping.desc).map (fun d => d.parameters.length) = some 0 := by decide +kernel
set_option maxRecDepth 100000 in
set_option maxHeartbeats 4000000 in
theorem c_X1_leastTaut (l : Launch) (D : va_G) (b0 : Nat) (L : List Nat) (f : Nat → va_E) (mk : Nat) (ad : Nat → Nat) (n : Nat) (g : Nat → Int32) (hm : mk_ok L mk ad n) (hs : mk_sr g n) (nr : Nat) (ht : mk_t g nr) (r : Nat) (hr : r < nr) : hg_Fi l yX1_leastTaut wsX1_leastTaut ({ frames := 5, cells := 0, slots := 0, locals := 114 }) D b0 L (mk_F D f mk ad n g) [.ref mk, .int (nI r)] (mk_lt g n r 40) (mk_F D f mk ad n g) := by
  refine hg_in_i (cc := cX1_leastTaut) (nL := 5) (by decide) rfl (Nat.le_of_ble_eq_true rfl) (fun p e s m args below meth c R Q X hR hend H locs ls w hl => ?_)
  subst hR
  obtain ⟨hx, hb, hml, hown, hts⟩ := id X.1
  have hin : mk_in wsX1_leastTaut := ⟨fun w h => List.mem_cons_of_mem _ (List.mem_append_left _ (List.mem_append_left _ (List.mem_append_left _ (List.mem_append_left _ (List.mem_append_right _ h))))), fun w h => List.mem_cons_of_mem _ (List.mem_append_left _ (List.mem_append_left _ (List.mem_append_left _ (List.mem_append_right _ h)))), fun w h => List.mem_cons_of_mem _ (List.mem_append_left _ (List.mem_append_left _ (List.mem_append_right _ h))), fun w h => List.mem_cons_of_mem _ (List.mem_append_left _ (List.mem_append_right _ h)), fun w h => List.mem_cons_of_mem _ (List.mem_append_right _ h)⟩
  have hin3 : ∀ w ∈ wsX30, w ∈ wsX1_leastTaut := fun w h => List.mem_cons_of_mem _ (List.mem_append_left _ (List.mem_append_left _ (List.mem_append_left _ (List.mem_append_left _ (List.mem_append_left _ (List.mem_append_right _ h))))))
  have hl : lv_has ls 5 [(0, .ref mk), (1, .int (nI r))] := hl
  have hn6 := hs.2.1
  have hnr := ht.2.1
  refine lv_iload_n hx hb dX1_leastTaut_0 rfl (lv_at hl 1 rfl) ?_
  refine lv_if_lt (tgt := 9) hx hb dX1_leastTaut_1 (by decide) (fun c_1 => ?_) (fun c_1 => ?_)
  · exact absurd c_1 (nI_pos (n := r) (by omega))
  · refine lv_iload_n hx hb dX1_leastTaut_4 rfl (lv_at hl 1 rfl) ?_
    refine lv_iconst (v := 3) hx hb dX1_leastTaut_5 (by decide) ?_
    refine lv_icmp_lt (tgt := 12) hx hb dX1_leastTaut_6 (by decide) (fun c_6 => ?_) (fun c_6 => ?_)
    · refine lv_aload_n hx hb dX1_leastTaut_12 rfl (lv_at hl 0 rfl) ?_
      refine mk_getM X w hm hin3 4 (by decide) (List.mem_of_getElem? (i := 2) rfl) rfl dX1_leastTaut_13 ?_
      refine lv_iload_n hx hb dX1_leastTaut_16 rfl (lv_at hl 1 rfl) ?_
      refine mk_taut X w hm r rfl (by omega) dX1_leastTaut_17 ?_
      refine lv_istore_n (lv' := [(2, .int (g (5 + r))), (0, .ref mk), (1, .int (nI r))]) hx hb dX1_leastTaut_18 rfl hl (by decide) rfl (fun ls hl => ?_)
      refine lv_ldc (v := (-1000000)) hx hb hown (hts _ (List.mem_of_getElem? (i := 1) rfl)) dX1_leastTaut_19 ?_
      refine lv_istore_n (lv' := [(3, .int ((-1000000))), (2, .int (g (5 + r))), (0, .ref mk), (1, .int (nI r))]) hx hb dX1_leastTaut_21 rfl hl (by decide) rfl (fun ls hl => ?_)
      refine lv_iconst (v := 1) hx hb dX1_leastTaut_22 (by decide) ?_
      refine lv_istore (lv' := [(4, .int (1)), (3, .int ((-1000000))), (2, .int (g (5 + r))), (0, .ref mk), (1, .int (nI r))]) hx hb dX1_leastTaut_23 hl (by decide) rfl (fun ls hl => ?_)
      have loop : ∀ (n0 k : Nat), k ≤ 40 → 40 + 1 ≤ k + n0 → ∀ (u0 : Int32), ∀ (H : Heap) (locs : List Loc) (ls : Array Slot), hg_W D b0 L (mk_F D f mk ad n (va_up g (5 + r) u0)) s.heap H locs → lv_has ls 5 [(0, .ref mk), (1, .int (nI r)), (2, .int (g (5 + r))), (3, .int (mk_lt g n r k)), (4, .int (nI (k + 1)))] → W p l e ({ frames := 5, cells := 0, slots := 0, locals := 114 }) s m args below meth c H locs 0 0 Q (F0 m 25 ls []) := by
        intro n0
        induction n0 with
        | zero =>
          intro k h1 h2
          exact absurd h2 (by omega)
        | succ n0 ih =>
          intro k hk hn0 u0 H locs ls w hl
          refine lv_iload hx hb dX1_leastTaut_25 (lv_at hl 4 rfl) ?_
          refine lv_bipush (v := 40) hx hb dX1_leastTaut_27 (by decide) ?_
          refine lv_icmp_gt (tgt := 64) hx hb dX1_leastTaut_29 (by decide) (fun c_29 => ?_) (fun c_29 => ?_)
          · have hk : 40 = k := by
              rcases Nat.lt_or_ge k 40 with q | q
              · exact absurd c_29 (nI_nlt (a := 40) (b := (k + 1)) (by omega) (by omega))
              · omega
            subst hk
            refine lv_aload_n hx hb dX1_leastTaut_64 rfl (lv_at hl 0 rfl) ?_
            refine mk_getM X w hm hin3 4 (by decide) (List.mem_of_getElem? (i := 2) rfl) rfl dX1_leastTaut_65 ?_
            refine lv_iload_n hx hb dX1_leastTaut_68 rfl (lv_at hl 1 rfl) ?_
            refine lv_iload_n hx hb dX1_leastTaut_69 rfl (lv_at hl 2 rfl) ?_
            refine mk_tast X w hm r rfl (by omega) dX1_leastTaut_70 (fun H locs w => ?_)
            rw [hs_uu] at w
            rw [hs_up_id] at w
            refine lv_iload_n hx hb dX1_leastTaut_71 rfl (lv_at hl 3 rfl) ?_
            exact hend H locs (mk_lt g n r 40) (L, mk_F D f mk ad n g) _ ls w ⟨rfl, rfl⟩ rfl dX1_leastTaut_72
          · have hkl : k < 40 := by
              rcases Nat.lt_or_ge k 40 with q | q
              · exact q
              · exact absurd (nI_lt (a := 40) (b := (k + 1)) (by omega) (by omega)) c_29
            refine lv_iload_n hx hb dX1_leastTaut_32 rfl (lv_at hl 3 rfl) ?_
            refine lv_ldc (v := (-1000000)) hx hb hown (hts _ (List.mem_of_getElem? (i := 1) rfl)) dX1_leastTaut_33 ?_
            refine lv_icmp_ne (tgt := 64) hx hb dX1_leastTaut_35 (by decide) (fun c_35 => ?_) (fun c_35 => ?_)
            · refine lv_aload_n hx hb dX1_leastTaut_64 rfl (lv_at hl 0 rfl) ?_
              refine mk_getM X w hm hin3 4 (by decide) (List.mem_of_getElem? (i := 2) rfl) rfl dX1_leastTaut_65 ?_
              refine lv_iload_n hx hb dX1_leastTaut_68 rfl (lv_at hl 1 rfl) ?_
              refine lv_iload_n hx hb dX1_leastTaut_69 rfl (lv_at hl 2 rfl) ?_
              refine mk_tast X w hm r rfl (by omega) dX1_leastTaut_70 (fun H locs w => ?_)
              rw [hs_uu] at w
              rw [hs_up_id] at w
              refine lv_iload_n hx hb dX1_leastTaut_71 rfl (lv_at hl 3 rfl) ?_
              exact hend H locs (mk_lt g n r k) (L, mk_F D f mk ad n g) _ ls w ⟨(by rw [show 40 = k + (40 - k) by omega, mk_lt_up c_35]), rfl⟩ rfl dX1_leastTaut_72
            · refine lv_aload_n hx hb dX1_leastTaut_38 rfl (lv_at hl 0 rfl) ?_
              refine mk_getM X w hm hin3 4 (by decide) (List.mem_of_getElem? (i := 2) rfl) rfl dX1_leastTaut_39 ?_
              refine lv_iload_n hx hb dX1_leastTaut_42 rfl (lv_at hl 1 rfl) ?_
              refine lv_iload hx hb dX1_leastTaut_43 (lv_at hl 4 rfl) ?_
              refine mk_tast X w hm r rfl (by omega) dX1_leastTaut_45 (fun H locs w => ?_)
              rw [hs_uu] at w
              refine lv_aload_n hx hb dX1_leastTaut_46 rfl (lv_at hl 0 rfl) ?_
              refine hg_viF (r := (mk_fd (va_up g (5 + r) (nI (k + 1))) n n)) (As := []) (rest := []) X w (c_X3_firstDropping l D b0 L f mk ad n (va_up g (5 + r) (nI (k + 1))) hm (mk_sr_up (by omega) hs) nr (mk_t_ta hr (nI_le (a := 1) (b := k + 1) (by omega) (by omega)) ht) ) (cwV 0 hts gX1_leastTaut_X3_firstDropping rfl rfl rfl hdX3_firstDropping ⟨Nat.le_of_ble_eq_true rfl, Nat.le_of_ble_eq_true rfl⟩) hm.1 (mk_at0 D f mk ad n _) rfl rfl rfl hl.1 rfl (Nat.le_of_ble_eq_true rfl) dX1_leastTaut_47 ⟨Nat.zero_le _, Nat.zero_le _⟩ (fun H locs w => ?_)
              refine lv_ldc (v := (-1000000)) hx hb hown (hts _ (List.mem_of_getElem? (i := 1) rfl)) dX1_leastTaut_50 ?_
              refine lv_icmp_ne (tgt := 58) hx hb dX1_leastTaut_52 (by decide) (fun c_52 => ?_) (fun c_52 => ?_)
              · refine lv_iinc (v := nI (k + 1) + 1) (lv' := [(4, .int (nI (k + 1) + 1)), (0, .ref mk), (1, .int (nI r)), (2, .int (g (5 + r))), (3, .int (mk_lt g n r k))]) hx hb dX1_leastTaut_58 hl (k := 4) rfl rfl (by decide) rfl (fun ls hl => ?_)
                refine lv_goto (tgt := 25) hx hb dX1_leastTaut_61 (by decide) ?_
                have he3 : (mk_lt g n r k) = mk_lt g n r (k + 1) := by (try simp only [lg_cmp_le, lg_cmp_ge, lg_cmp_lt, lg_cmp_gt, ← Int32.not_lt, ← Int64.not_lt, Classical.not_not] at c_1 c_6 c_29 c_35 c_52); first | (simp [mk_lt, c_1, c_6, c_29, c_35, c_52]; done) | (simp [mk_lt, c_1, c_6, c_29, eq_true c_35, c_52]; done) | (exfalso; clear hend ih; simp_all; done)
                have hl := hs_lv hl (k := 4) rfl he3
                have hl := hs_lv hl (k := 0) rfl (nI_1 (k + 1))
                exact ih (k + 1) (by omega) (by omega) _ H locs ls w (lv_sub hl [1, 2, 3, 4, 0] rfl)
              · refine lv_iload hx hb dX1_leastTaut_55 (lv_at hl 4 rfl) ?_
                refine lv_istore_n (lv' := [(3, .int (nI (k + 1))), (0, .ref mk), (1, .int (nI r)), (2, .int (g (5 + r))), (4, .int (nI (k + 1)))]) hx hb dX1_leastTaut_57 rfl hl (by decide) rfl (fun ls hl => ?_)
                refine lv_iinc (v := nI (k + 1) + 1) (lv' := [(4, .int (nI (k + 1) + 1)), (3, .int (nI (k + 1))), (0, .ref mk), (1, .int (nI r)), (2, .int (g (5 + r)))]) hx hb dX1_leastTaut_58 hl (k := 4) rfl rfl (by decide) rfl (fun ls hl => ?_)
                refine lv_goto (tgt := 25) hx hb dX1_leastTaut_61 (by decide) ?_
                have he3 : (nI (k + 1)) = mk_lt g n r (k + 1) := by (try simp only [lg_cmp_le, lg_cmp_ge, lg_cmp_lt, lg_cmp_gt, ← Int32.not_lt, ← Int64.not_lt, Classical.not_not] at c_1 c_6 c_29 c_35 c_52); first | (simp [mk_lt, c_1, c_6, c_29, c_35, c_52]; done) | (simp [mk_lt, c_1, c_6, c_29, eq_true c_35, eq_true c_52]; done) | (exfalso; clear hend ih; simp_all; done)
                have hl := hs_lv hl (k := 1) rfl he3
                have hl := hs_lv hl (k := 0) rfl (nI_1 (k + 1))
                exact ih (k + 1) (by omega) (by omega) _ H locs ls w (lv_sub hl [2, 3, 4, 1, 0] rfl)
      exact loop 41 0 (by omega) (by omega) (g (5 + r)) H locs ls (by rw [hs_up_id]; exact w) (lv_sub hl [3, 4, 2, 1, 0] rfl)
    · exact absurd ((nI_ltI (a := r) (b := 3) (by omega) (by decide)).mpr (by omega)) c_6
set_option maxRecDepth 100000 in
set_option maxHeartbeats 4000000 in
theorem c_X1_rainsToDrop (l : Launch) (D : va_G) (b0 : Nat) (L : List Nat) (f : Nat → va_E) (mk : Nat) (ad : Nat → Nat) (n : Nat) (g : Nat → Int32) (hm : mk_ok L mk ad n) (hs : mk_sr g n) (nr : Nat) (ht : mk_t g nr) (what : Int32) : hg_Fi l yX1_rainsToDrop wsX1_rainsToDrop ({ frames := 5, cells := 0, slots := 0, locals := 114 }) D b0 L (mk_F D f mk ad n g) [.ref mk, .int (what)] (mk_rd g n what 100) (mk_F D f mk ad n g) := by
  refine hg_in_i (cc := cX1_rainsToDrop) (nL := 6) (by decide) rfl (Nat.le_of_ble_eq_true rfl) (fun p e s m args below meth c R Q X hR hend H locs ls w hl => ?_)
  subst hR
  obtain ⟨hx, hb, hml, hown, hts⟩ := id X.1
  have hin : mk_in wsX1_rainsToDrop := ⟨fun w h => List.mem_cons_of_mem _ (List.mem_append_left _ (List.mem_append_left _ (List.mem_append_left _ (List.mem_append_left _ (List.mem_append_right _ h))))), fun w h => List.mem_cons_of_mem _ (List.mem_append_left _ (List.mem_append_left _ (List.mem_append_left _ (List.mem_append_right _ h)))), fun w h => List.mem_cons_of_mem _ (List.mem_append_left _ (List.mem_append_left _ (List.mem_append_right _ h))), fun w h => List.mem_cons_of_mem _ (List.mem_append_left _ (List.mem_append_right _ h)), fun w h => List.mem_cons_of_mem _ (List.mem_append_right _ h)⟩
  have hin3 : ∀ w ∈ wsX30, w ∈ wsX1_rainsToDrop := fun w h => List.mem_cons_of_mem _ (List.mem_append_left _ (List.mem_append_left _ (List.mem_append_left _ (List.mem_append_left _ (List.mem_append_left _ (List.mem_append_right _ h))))))
  have hl : lv_has ls 6 [(0, .ref mk), (1, .int (what))] := hl
  have hn6 := hs.2.1
  refine lv_aload_n hx hb dX1_rainsToDrop_0 rfl (lv_at hl 0 rfl) ?_
  refine mk_getM X w hm hin3 1 (by decide) (List.mem_of_getElem? (i := 1) rfl) rfl dX1_rainsToDrop_1 ?_
  refine lv_istore_n (lv' := [(2, .int (g 1)), (0, .ref mk), (1, .int (what))]) hx hb dX1_rainsToDrop_4 rfl hl (by decide) rfl (fun ls hl => ?_)
  refine lv_ldc (v := (-1000000)) hx hb hown (hts _ (List.mem_of_getElem? (i := 2) rfl)) dX1_rainsToDrop_5 ?_
  refine lv_istore_n (lv' := [(3, .int ((-1000000))), (2, .int (g 1)), (0, .ref mk), (1, .int (what))]) hx hb dX1_rainsToDrop_7 rfl hl (by decide) rfl (fun ls hl => ?_)
  refine lv_iconst (v := 0) hx hb dX1_rainsToDrop_8 (by decide) ?_
  refine lv_istore (lv' := [(4, .int (0)), (3, .int ((-1000000))), (2, .int (g 1)), (0, .ref mk), (1, .int (what))]) hx hb dX1_rainsToDrop_9 hl (by decide) rfl (fun ls hl => ?_)
  have loop : ∀ (n0 k : Nat), k ≤ 100 → 100 + 1 ≤ k + n0 → ∀ (u0 : Int32), ∀ (H : Heap) (locs : List Loc) (ls : Array Slot), hg_W D b0 L (mk_F D f mk ad n (va_up g 1 u0)) s.heap H locs → lv_has ls 6 [(0, .ref mk), (1, .int (what)), (2, .int (g 1)), (3, .int (mk_rd g n what k)), (4, .int (nI k))] → W p l e ({ frames := 5, cells := 0, slots := 0, locals := 114 }) s m args below meth c H locs 0 0 Q (F0 m 11 ls []) := by
    intro n0
    induction n0 with
    | zero =>
      intro k h1 h2
      exact absurd h2 (by omega)
    | succ n0 ih =>
      intro k hk hn0 u0 H locs ls w hl
      refine lv_iload hx hb dX1_rainsToDrop_11 (lv_at hl 4 rfl) ?_
      refine lv_bipush (v := 99) hx hb dX1_rainsToDrop_13 (by decide) ?_
      refine lv_icmp_gt (tgt := 63) hx hb dX1_rainsToDrop_15 (by decide) (fun c_15 => ?_) (fun c_15 => ?_)
      · have hk : 100 = k := by
          rcases Nat.lt_or_ge k 100 with q | q
          · exact absurd c_15 (nI_nlt (a := 99) (b := k) (by omega) (by omega))
          · omega
        subst hk
        refine lv_aload_n hx hb dX1_rainsToDrop_63 rfl (lv_at hl 0 rfl) ?_
        refine lv_iload_n hx hb dX1_rainsToDrop_64 rfl (lv_at hl 2 rfl) ?_
        refine mk_putM X w hm hin3 (List.mem_of_getElem? (i := 1) rfl) dX1_rainsToDrop_65 (fun H locs w => ?_)
        rw [hs_uu] at w
        rw [hs_up_id] at w
        refine lv_iload_n hx hb dX1_rainsToDrop_68 rfl (lv_at hl 3 rfl) ?_
        exact hend H locs (mk_rd g n what 100) (L, mk_F D f mk ad n g) _ ls w ⟨rfl, rfl⟩ rfl dX1_rainsToDrop_69
      · have hkl : k < 100 := by
          rcases Nat.lt_or_ge k 100 with q | q
          · exact q
          · exact absurd (nI_lt (a := 99) (b := k) (by omega) (by omega)) c_15
        refine lv_iload_n hx hb dX1_rainsToDrop_18 rfl (lv_at hl 3 rfl) ?_
        refine lv_ldc (v := (-1000000)) hx hb hown (hts _ (List.mem_of_getElem? (i := 2) rfl)) dX1_rainsToDrop_19 ?_
        refine lv_icmp_ne (tgt := 63) hx hb dX1_rainsToDrop_21 (by decide) (fun c_21 => ?_) (fun c_21 => ?_)
        · refine lv_aload_n hx hb dX1_rainsToDrop_63 rfl (lv_at hl 0 rfl) ?_
          refine lv_iload_n hx hb dX1_rainsToDrop_64 rfl (lv_at hl 2 rfl) ?_
          refine mk_putM X w hm hin3 (List.mem_of_getElem? (i := 1) rfl) dX1_rainsToDrop_65 (fun H locs w => ?_)
          rw [hs_uu] at w
          rw [hs_up_id] at w
          refine lv_iload_n hx hb dX1_rainsToDrop_68 rfl (lv_at hl 3 rfl) ?_
          exact hend H locs (mk_rd g n what k) (L, mk_F D f mk ad n g) _ ls w ⟨(by rw [show 100 = k + (100 - k) by omega, mk_rd_up c_21]), rfl⟩ rfl dX1_rainsToDrop_69
        · refine lv_aload_n hx hb dX1_rainsToDrop_24 rfl (lv_at hl 0 rfl) ?_
          refine lv_iload_n hx hb dX1_rainsToDrop_25 rfl (lv_at hl 2 rfl) ?_
          refine lv_iload hx hb dX1_rainsToDrop_26 (lv_at hl 4 rfl) ?_
          refine lv_iadd hx hb dX1_rainsToDrop_28 ?_
          refine mk_putM X w hm hin3 (List.mem_of_getElem? (i := 1) rfl) dX1_rainsToDrop_29 (fun H locs w => ?_)
          rw [hs_uu] at w
          refine lv_aload_n hx hb dX1_rainsToDrop_32 rfl (lv_at hl 0 rfl) ?_
          refine hg_viF (r := (mk_fd (va_up g 1 (g 1 + nI k)) n n)) (As := []) (rest := []) X w (c_X3_firstDropping l D b0 L f mk ad n (va_up g 1 (g 1 + nI k)) hm (mk_sr_up (by omega) hs) nr (mk_t_up (by omega) ht) ) (cwV 0 hts gX1_rainsToDrop_X3_firstDropping rfl rfl rfl hdX3_firstDropping ⟨Nat.le_of_ble_eq_true rfl, Nat.le_of_ble_eq_true rfl⟩) hm.1 (mk_at0 D f mk ad n _) rfl rfl rfl hl.1 rfl (Nat.le_of_ble_eq_true rfl) dX1_rainsToDrop_33 ⟨Nat.zero_le _, Nat.zero_le _⟩ (fun H locs w => ?_)
          refine lv_istore (lv' := [(5, .int ((mk_fd (va_up g 1 (g 1 + nI k)) n n))), (0, .ref mk), (1, .int (what)), (2, .int (g 1)), (3, .int (mk_rd g n what k)), (4, .int (nI k))]) hx hb dX1_rainsToDrop_36 hl (by decide) rfl (fun ls hl => ?_)
          refine lv_iload hx hb dX1_rainsToDrop_38 (lv_at hl 0 rfl) ?_
          refine lv_ldc (v := (-1000000)) hx hb hown (hts _ (List.mem_of_getElem? (i := 2) rfl)) dX1_rainsToDrop_40 ?_
          refine lv_icmp_eq (tgt := 57) hx hb dX1_rainsToDrop_42 (by decide) (fun c_42 => ?_) (fun c_42 => ?_)
          · refine lv_iinc (v := nI k + 1) (lv' := [(4, .int (nI k + 1)), (5, .int ((mk_fd (va_up g 1 (g 1 + nI k)) n n))), (0, .ref mk), (1, .int (what)), (2, .int (g 1)), (3, .int (mk_rd g n what k))]) hx hb dX1_rainsToDrop_57 hl (k := 5) rfl rfl (by decide) rfl (fun ls hl => ?_)
            refine lv_goto (tgt := 11) hx hb dX1_rainsToDrop_60 (by decide) ?_
            have he3 : (mk_rd g n what k) = mk_rd g n what (k + 1) := by (try simp only [lg_cmp_le, lg_cmp_ge, lg_cmp_lt, lg_cmp_gt, ← Int32.not_lt, ← Int64.not_lt, Classical.not_not] at c_15 c_21 c_42); first | (simp [mk_rd, c_15, c_21, c_42]; done) | (simp [mk_rd, c_15, eq_true c_21, eq_true c_42]; done) | (exfalso; clear hend ih; simp_all; done)
            have hl := hs_lv hl (k := 5) rfl he3
            have hl := hs_lv hl (k := 0) rfl (nI_1 k)
            exact ih (k + 1) (by omega) (by omega) _ H locs ls w (lv_sub hl [2, 3, 4, 5, 0] rfl)
          · refine lv_iload_n hx hb dX1_rainsToDrop_45 rfl (lv_at hl 2 rfl) ?_
            refine lv_if_ne (tgt := 54) hx hb dX1_rainsToDrop_46 (by decide) (fun c_46 => ?_) (fun c_46 => ?_)
            · refine lv_iload hx hb dX1_rainsToDrop_54 (lv_at hl 0 rfl) ?_
              refine lv_istore_n (lv' := [(3, .int ((mk_fd (va_up g 1 (g 1 + nI k)) n n))), (5, .int ((mk_fd (va_up g 1 (g 1 + nI k)) n n))), (0, .ref mk), (1, .int (what)), (2, .int (g 1)), (4, .int (nI k))]) hx hb dX1_rainsToDrop_56 rfl hl (by decide) rfl (fun ls hl => ?_)
              refine lv_iinc (v := nI k + 1) (lv' := [(4, .int (nI k + 1)), (3, .int ((mk_fd (va_up g 1 (g 1 + nI k)) n n))), (5, .int ((mk_fd (va_up g 1 (g 1 + nI k)) n n))), (0, .ref mk), (1, .int (what)), (2, .int (g 1))]) hx hb dX1_rainsToDrop_57 hl (k := 5) rfl rfl (by decide) rfl (fun ls hl => ?_)
              refine lv_goto (tgt := 11) hx hb dX1_rainsToDrop_60 (by decide) ?_
              have he3 : (mk_fd (va_up g 1 (g 1 + nI k)) n n) = mk_rd g n what (k + 1) := by (try simp only [lg_cmp_le, lg_cmp_ge, lg_cmp_lt, lg_cmp_gt, ← Int32.not_lt, ← Int64.not_lt, Classical.not_not] at c_15 c_21 c_42 c_46); first | (simp [mk_rd, c_15, c_21, c_42, c_46]; done) | (simp [mk_rd, c_15, eq_true c_21, c_42, c_46]; done) | (exfalso; clear hend ih; simp_all; done)
              have hl := hs_lv hl (k := 1) rfl he3
              have hl := hs_lv hl (k := 0) rfl (nI_1 k)
              exact ih (k + 1) (by omega) (by omega) _ H locs ls w (lv_sub hl [3, 4, 5, 1, 0] rfl)
            · refine lv_iload hx hb dX1_rainsToDrop_49 (lv_at hl 5 rfl) ?_
              refine lv_goto (tgt := 56) hx hb dX1_rainsToDrop_51 (by decide) ?_
              refine lv_istore_n (lv' := [(3, .int (nI k)), (5, .int ((mk_fd (va_up g 1 (g 1 + nI k)) n n))), (0, .ref mk), (1, .int (what)), (2, .int (g 1)), (4, .int (nI k))]) hx hb dX1_rainsToDrop_56 rfl hl (by decide) rfl (fun ls hl => ?_)
              refine lv_iinc (v := nI k + 1) (lv' := [(4, .int (nI k + 1)), (3, .int (nI k)), (5, .int ((mk_fd (va_up g 1 (g 1 + nI k)) n n))), (0, .ref mk), (1, .int (what)), (2, .int (g 1))]) hx hb dX1_rainsToDrop_57 hl (k := 5) rfl rfl (by decide) rfl (fun ls hl => ?_)
              refine lv_goto (tgt := 11) hx hb dX1_rainsToDrop_60 (by decide) ?_
              have he3 : (nI k) = mk_rd g n what (k + 1) := by (try simp only [lg_cmp_le, lg_cmp_ge, lg_cmp_lt, lg_cmp_gt, ← Int32.not_lt, ← Int64.not_lt, Classical.not_not] at c_15 c_21 c_42 c_46); first | (simp [mk_rd, c_15, c_21, c_42, c_46]; done) | (simp [mk_rd, c_15, eq_true c_21, c_42, eq_true c_46]; done) | (exfalso; clear hend ih; simp_all; done)
              have hl := hs_lv hl (k := 1) rfl he3
              have hl := hs_lv hl (k := 0) rfl (nI_1 k)
              exact ih (k + 1) (by omega) (by omega) _ H locs ls w (lv_sub hl [3, 4, 5, 1, 0] rfl)
  exact loop 101 0 (by omega) (by omega) (g 1) H locs ls (by rw [hs_up_id]; exact w) (lv_sub hl [3, 4, 2, 1, 0] rfl)
theorem hdX1_canStand : yX1_canStand.cls ≠ "java/lang/invoke/MethodHandle" ∧ yX1_canStand.cls ≠ "java/lang/invoke/VarHandle" ∧ (parseMethodDescriptor yX1_canStand.desc).map (fun d => d.parameters.length) = some 3 := by decide +kernel
theorem hdX3_price : yX3_price.cls = RX3 ∧ yX3_price.cls ≠ "java/lang/invoke/MethodHandle" ∧ yX3_price.cls ≠ "java/lang/invoke/VarHandle" ∧ (parseMethodDescriptor yX3_price.desc).map (fun d => d.parameters.length) = some 1 := by decide +kernel
set_option maxRecDepth 100000 in
set_option maxHeartbeats 4000000 in
theorem c_X1_dearestPlace (l : Launch) (D : va_G) (b0 : Nat) (L : List Nat) (f : Nat → va_E) (mk : Nat) (ad : Nat → Nat) (n : Nat) (g : Nat → Int32) (hm : mk_ok L mk ad n) (hs : mk_sr g n) (nr : Nat) (ht : mk_t g nr) (i : Nat) (hi : i < n) : hg_Fi l yX1_dearestPlace wsX1_dearestPlace ({ frames := 5, cells := 0, slots := 0, locals := 111 }) D b0 L (mk_F D f mk ad n g) [.ref mk, .ref (ad (2 + i))] ((mk_dear g n i 8).1) (mk_F D f mk ad n g) := by
  refine hg_in_i (cc := cX1_dearestPlace) (nL := 7) (by decide) rfl (Nat.le_of_ble_eq_true rfl) (fun p e s m args below meth c R Q X hR hend H locs ls w hl => ?_)
  subst hR
  obtain ⟨hx, hb, hml, hown, hts⟩ := id X.1
  have hin : mk_in wsX1_dearestPlace := ⟨fun w h => List.mem_cons_of_mem _ (List.mem_append_left _ (List.mem_append_left _ (List.mem_append_left _ (List.mem_append_left _ (List.mem_append_left _ (List.mem_append_right _ h)))))), fun w h => List.mem_cons_of_mem _ (List.mem_append_left _ (List.mem_append_left _ (List.mem_append_left _ (List.mem_append_left _ (List.mem_append_right _ h))))), fun w h => List.mem_cons_of_mem _ (List.mem_append_left _ (List.mem_append_left _ (List.mem_append_left _ (List.mem_append_right _ h)))), fun w h => List.mem_cons_of_mem _ (List.mem_append_left _ (List.mem_append_left _ (List.mem_append_right _ h))), fun w h => List.mem_cons_of_mem _ (List.mem_append_left _ (List.mem_append_right _ h))⟩
  have hin3 : ∀ w ∈ wsX30, w ∈ wsX1_dearestPlace := fun w h => List.mem_cons_of_mem _ (List.mem_append_right _ h)
  have hl : lv_has ls 7 [(0, .ref mk), (1, .ref (ad (2 + i)))] := hl
  have hn6 := hs.2.1
  refine lv_aload_n hx hb dX1_dearestPlace_0 rfl (lv_at hl 1 rfl) ?_
  refine mk_get X w hm hs hin hi 2 (by decide) (List.mem_of_getElem? (i := 1) rfl) (Or.inl rfl) rfl dX1_dearestPlace_1 ?_
  refine lv_istore_n (lv' := [(2, .int (g (20 + i))), (0, .ref mk), (1, .ref (ad (2 + i)))]) hx hb dX1_dearestPlace_4 rfl hl (by decide) rfl (fun ls hl => ?_)
  refine lv_iload_n hx hb dX1_dearestPlace_5 rfl (lv_at hl 0 rfl) ?_
  refine lv_istore_n (lv' := [(3, .int (g (20 + i))), (2, .int (g (20 + i))), (0, .ref mk), (1, .ref (ad (2 + i)))]) hx hb dX1_dearestPlace_6 rfl hl (by decide) rfl (fun ls hl => ?_)
  refine lv_ldc (v := (-1000000)) hx hb hown (hts _ (List.mem_of_getElem? (i := 2) rfl)) dX1_dearestPlace_7 ?_
  refine lv_istore (lv' := [(4, .int ((-1000000))), (3, .int (g (20 + i))), (2, .int (g (20 + i))), (0, .ref mk), (1, .ref (ad (2 + i)))]) hx hb dX1_dearestPlace_9 hl (by decide) rfl (fun ls hl => ?_)
  refine lv_iconst (v := 1) hx hb dX1_dearestPlace_11 (by decide) ?_
  refine lv_istore (lv' := [(5, .int (1)), (4, .int ((-1000000))), (3, .int (g (20 + i))), (2, .int (g (20 + i))), (0, .ref mk), (1, .ref (ad (2 + i)))]) hx hb dX1_dearestPlace_12 hl (by decide) rfl (fun ls hl => ?_)
  have loop : ∀ (n0 k : Nat), k ≤ 8 → 8 + 1 ≤ k + n0 → ∀ (H : Heap) (locs : List Loc) (ls : Array Slot), hg_W D b0 L (mk_F D f mk ad n g) s.heap H locs → lv_has ls 7 [(0, .ref mk), (1, .ref (ad (2 + i))), (2, .int (g (20 + i))), (3, .int ((mk_dear g n i k).1)), (4, .int ((mk_dear g n i k).2)), (5, .int (nI (k + 1)))] → W p l e ({ frames := 5, cells := 0, slots := 0, locals := 111 }) s m args below meth c H locs 0 0 Q (F0 m 14 ls []) := by
    intro n0
    induction n0 with
    | zero =>
      intro k h1 h2
      exact absurd h2 (by omega)
    | succ n0 ih =>
      intro k hk hn0 H locs ls w hl
      refine lv_iload hx hb dX1_dearestPlace_14 (lv_at hl 5 rfl) ?_
      refine lv_bipush (v := 8) hx hb dX1_dearestPlace_16 (by decide) ?_
      refine lv_icmp_gt (tgt := 69) hx hb dX1_dearestPlace_18 (by decide) (fun c_18 => ?_) (fun c_18 => ?_)
      · have hk : 8 = k := by
          rcases Nat.lt_or_ge k 8 with q | q
          · exact absurd c_18 (nI_nlt (a := 8) (b := (k + 1)) (by omega) (by omega))
          · omega
        subst hk
        refine lv_iload_n hx hb dX1_dearestPlace_69 rfl (lv_at hl 3 rfl) ?_
        exact hend H locs ((mk_dear g n i 8).1) (L, mk_F D f mk ad n g) _ ls w ⟨rfl, rfl⟩ rfl dX1_dearestPlace_70
      · have hkl : k < 8 := by
          rcases Nat.lt_or_ge k 8 with q | q
          · exact q
          · exact absurd (nI_lt (a := 8) (b := (k + 1)) (by omega) (by omega)) c_18
        refine lv_aload_n hx hb dX1_dearestPlace_21 rfl (lv_at hl 0 rfl) ?_
        refine lv_aload_n hx hb dX1_dearestPlace_22 rfl (lv_at hl 1 rfl) ?_
        refine lv_iload hx hb dX1_dearestPlace_23 (lv_at hl 5 rfl) ?_
        refine hg_siF (r := (mk_can g n i (nI (k + 1)))) (As := [.ref mk, .ref (ad (2 + i)), .int (nI (k + 1))]) (rest := []) X w (c_X1_canStand l D b0 L f mk ad n g hm hs i hi (nI (k + 1))) (va_cwS 3 hts gX1_dearestPlace_X1_canStand rfl rfl rfl hdX1_canStand ⟨Nat.le_of_ble_eq_true rfl, Nat.le_of_ble_eq_true rfl⟩) rfl hl.1 rfl (Nat.le_of_ble_eq_true rfl) dX1_dearestPlace_25 ⟨Nat.zero_le _, Nat.zero_le _⟩ (fun H locs w => ?_)
        refine lv_if_eq (tgt := 63) hx hb dX1_dearestPlace_28 (by decide) (fun c_28 => ?_) (fun c_28 => ?_)
        · refine lv_iinc (v := nI (k + 1) + 1) (lv' := [(5, .int (nI (k + 1) + 1)), (0, .ref mk), (1, .ref (ad (2 + i))), (2, .int (g (20 + i))), (3, .int ((mk_dear g n i k).1)), (4, .int ((mk_dear g n i k).2))]) hx hb dX1_dearestPlace_63 hl (k := 5) rfl rfl (by decide) rfl (fun ls hl => ?_)
          refine lv_goto (tgt := 14) hx hb dX1_dearestPlace_66 (by decide) ?_
          have he3 : ((mk_dear g n i k).1) = (mk_dear g n i (k + 1)).1 := by (try simp only [lg_cmp_le, lg_cmp_ge, lg_cmp_lt, lg_cmp_gt, ← Int32.not_lt, ← Int64.not_lt, Classical.not_not] at c_18 c_28); first | (simp [mk_dear, c_18, c_28]; done) | (simp [mk_dear, c_18, eq_true c_28]; done) | (exfalso; clear hend ih; simp_all; done)
          have hl := hs_lv hl (k := 4) rfl he3
          have he4 : ((mk_dear g n i k).2) = (mk_dear g n i (k + 1)).2 := by (try simp only [lg_cmp_le, lg_cmp_ge, lg_cmp_lt, lg_cmp_gt, ← Int32.not_lt, ← Int64.not_lt, Classical.not_not] at c_18 c_28); first | (simp [mk_dear, c_18, c_28]; done) | (simp [mk_dear, c_18, eq_true c_28]; done) | (exfalso; clear hend ih; simp_all; done)
          have hl := hs_lv hl (k := 5) rfl he4
          have hl := hs_lv hl (k := 0) rfl (nI_1 (k + 1))
          exact ih (k + 1) (by omega) (by omega) H locs ls w (lv_sub hl [1, 2, 3, 4, 5, 0] rfl)
        · refine lv_aload_n hx hb dX1_dearestPlace_31 rfl (lv_at hl 1 rfl) ?_
          refine lv_iload hx hb dX1_dearestPlace_32 (lv_at hl 5 rfl) ?_
          refine mk_put X w hm hs hin hi 2 (by decide) (List.mem_of_getElem? (i := 1) rfl) (fun q => absurd q (by decide)) dX1_dearestPlace_34 (fun H locs w => ?_)
          have w : hg_W D b0 L (mk_F D f mk ad n (va_up g (20 + i) (nI (k + 1)))) s.heap H locs := w
          refine lv_aload_n hx hb dX1_dearestPlace_37 rfl (lv_at hl 0 rfl) ?_
          refine lv_aload_n hx hb dX1_dearestPlace_38 rfl (lv_at hl 1 rfl) ?_
          refine hg_viF (r := (hs_price (va_up g (20 + i) (nI (k + 1))) n i)) (As := [.ref (ad (2 + i))]) (rest := []) X w (c_X3_price l D b0 L f mk ad n (va_up g (20 + i) (nI (k + 1))) hm (mk_sr_up (by omega) hs) nr (mk_t_up (by omega) ht) i hi) (cwV 1 hts gX1_dearestPlace_X3_price rfl rfl rfl hdX3_price ⟨Nat.le_of_ble_eq_true rfl, Nat.le_of_ble_eq_true rfl⟩) hm.1 (mk_at0 D f mk ad n _) rfl rfl rfl hl.1 rfl (Nat.le_of_ble_eq_true rfl) dX1_dearestPlace_39 ⟨Nat.zero_le _, Nat.zero_le _⟩ (fun H locs w => ?_)
          refine lv_istore (lv' := [(6, .int ((hs_price (va_up g (20 + i) (nI (k + 1))) n i))), (0, .ref mk), (1, .ref (ad (2 + i))), (2, .int (g (20 + i))), (3, .int ((mk_dear g n i k).1)), (4, .int ((mk_dear g n i k).2)), (5, .int (nI (k + 1)))]) hx hb dX1_dearestPlace_42 hl (by decide) rfl (fun ls hl => ?_)
          refine lv_aload_n hx hb dX1_dearestPlace_44 rfl (lv_at hl 2 rfl) ?_
          refine lv_iload_n hx hb dX1_dearestPlace_45 rfl (lv_at hl 3 rfl) ?_
          refine mk_put X w hm (mk_sr_up (by omega) hs) hin hi 2 (by decide) (List.mem_of_getElem? (i := 1) rfl) (fun q => absurd q (by decide)) dX1_dearestPlace_46 (fun H locs w => ?_)
          have w : hg_W D b0 L (mk_F D f mk ad n (va_up (va_up g (20 + i) (nI (k + 1))) (20 + i) (g (20 + i)))) s.heap H locs := w
          rw [hs_uu] at w
          rw [hs_up_id] at w
          refine lv_iload hx hb dX1_dearestPlace_49 (lv_at hl 0 rfl) ?_
          refine lv_iload hx hb dX1_dearestPlace_51 (lv_at hl 5 rfl) ?_
          refine lv_icmp_le (tgt := 63) hx hb dX1_dearestPlace_53 (by decide) (fun c_53 => ?_) (fun c_53 => ?_)
          · refine lv_iinc (v := nI (k + 1) + 1) (lv' := [(5, .int (nI (k + 1) + 1)), (6, .int ((hs_price (va_up g (20 + i) (nI (k + 1))) n i))), (0, .ref mk), (1, .ref (ad (2 + i))), (2, .int (g (20 + i))), (3, .int ((mk_dear g n i k).1)), (4, .int ((mk_dear g n i k).2))]) hx hb dX1_dearestPlace_63 hl (k := 6) rfl rfl (by decide) rfl (fun ls hl => ?_)
            refine lv_goto (tgt := 14) hx hb dX1_dearestPlace_66 (by decide) ?_
            have he3 : ((mk_dear g n i k).1) = (mk_dear g n i (k + 1)).1 := by (try simp only [lg_cmp_le, lg_cmp_ge, lg_cmp_lt, lg_cmp_gt, ← Int32.not_lt, ← Int64.not_lt, Classical.not_not] at c_18 c_28 c_53); first | (simp [mk_dear, c_18, c_28, c_53]; done) | (simp [mk_dear, c_18, c_28, c_53]; done) | (exfalso; clear hend ih; simp_all; done)
            have hl := hs_lv hl (k := 5) rfl he3
            have he4 : ((mk_dear g n i k).2) = (mk_dear g n i (k + 1)).2 := by (try simp only [lg_cmp_le, lg_cmp_ge, lg_cmp_lt, lg_cmp_gt, ← Int32.not_lt, ← Int64.not_lt, Classical.not_not] at c_18 c_28 c_53); first | (simp [mk_dear, c_18, c_28, c_53]; done) | (simp [mk_dear, c_18, c_28, c_53]; done) | (exfalso; clear hend ih; simp_all; done)
            have hl := hs_lv hl (k := 6) rfl he4
            have hl := hs_lv hl (k := 0) rfl (nI_1 (k + 1))
            exact ih (k + 1) (by omega) (by omega) H locs ls w (lv_sub hl [2, 3, 4, 5, 6, 0] rfl)
          · refine lv_iload hx hb dX1_dearestPlace_56 (lv_at hl 0 rfl) ?_
            refine lv_istore (lv' := [(4, .int ((hs_price (va_up g (20 + i) (nI (k + 1))) n i))), (6, .int ((hs_price (va_up g (20 + i) (nI (k + 1))) n i))), (0, .ref mk), (1, .ref (ad (2 + i))), (2, .int (g (20 + i))), (3, .int ((mk_dear g n i k).1)), (5, .int (nI (k + 1)))]) hx hb dX1_dearestPlace_58 hl (by decide) rfl (fun ls hl => ?_)
            refine lv_iload hx hb dX1_dearestPlace_60 (lv_at hl 6 rfl) ?_
            refine lv_istore_n (lv' := [(3, .int (nI (k + 1))), (4, .int ((hs_price (va_up g (20 + i) (nI (k + 1))) n i))), (6, .int ((hs_price (va_up g (20 + i) (nI (k + 1))) n i))), (0, .ref mk), (1, .ref (ad (2 + i))), (2, .int (g (20 + i))), (5, .int (nI (k + 1)))]) hx hb dX1_dearestPlace_62 rfl hl (by decide) rfl (fun ls hl => ?_)
            refine lv_iinc (v := nI (k + 1) + 1) (lv' := [(5, .int (nI (k + 1) + 1)), (3, .int (nI (k + 1))), (4, .int ((hs_price (va_up g (20 + i) (nI (k + 1))) n i))), (6, .int ((hs_price (va_up g (20 + i) (nI (k + 1))) n i))), (0, .ref mk), (1, .ref (ad (2 + i))), (2, .int (g (20 + i)))]) hx hb dX1_dearestPlace_63 hl (k := 6) rfl rfl (by decide) rfl (fun ls hl => ?_)
            refine lv_goto (tgt := 14) hx hb dX1_dearestPlace_66 (by decide) ?_
            have he3 : (nI (k + 1)) = (mk_dear g n i (k + 1)).1 := by (try simp only [lg_cmp_le, lg_cmp_ge, lg_cmp_lt, lg_cmp_gt, ← Int32.not_lt, ← Int64.not_lt, Classical.not_not] at c_18 c_28 c_53); first | (simp [mk_dear, c_18, c_28, c_53]; done) | (simp [mk_dear, c_18, c_28, c_53]; done) | (exfalso; clear hend ih; simp_all; done)
            have hl := hs_lv hl (k := 1) rfl he3
            have he4 : (hs_price (va_up g (20 + i) (nI (k + 1))) n i) = (mk_dear g n i (k + 1)).2 := by (try simp only [lg_cmp_le, lg_cmp_ge, lg_cmp_lt, lg_cmp_gt, ← Int32.not_lt, ← Int64.not_lt, Classical.not_not] at c_18 c_28 c_53); first | (simp [mk_dear, c_18, c_28, c_53]; done) | (simp [mk_dear, c_18, c_28, c_53]; done) | (exfalso; clear hend ih; simp_all; done)
            have hl := hs_lv hl (k := 2) rfl he4
            have hl := hs_lv hl (k := 0) rfl (nI_1 (k + 1))
            exact ih (k + 1) (by omega) (by omega) H locs ls w (lv_sub hl [4, 5, 6, 1, 2, 0] rfl)
  exact loop 9 0 (by omega) (by omega) H locs ls w (lv_sub hl [4, 5, 3, 2, 1, 0] rfl)
set_option maxRecDepth 100000 in
set_option maxHeartbeats 4000000 in
theorem c_X1_rentedPlaces (l : Launch) (D : va_G) (b0 : Nat) (L : List Nat) (f : Nat → va_E) (mk : Nat) (ad : Nat → Nat) (n : Nat) (g : Nat → Int32) (hm : mk_ok L mk ad n) (hs : mk_sr g n) (nr : Nat) (ht : mk_t g nr) (i : Nat) (hi : i < n) (a b : Nat) (ha : a < n) (hb0 : b < n) : hg_Fi l yX1_rentedPlaces wsX1_rentedPlaces ({ frames := 5, cells := 0, slots := 0, locals := 112 }) D b0 L (mk_F D f mk ad n g) [.ref mk, .ref (ad (2 + i)), .ref (ad (2 + a)), .ref (ad (2 + b))] (mk_rent g n i a b 8) (mk_F D f mk ad n g) := by
  refine hg_in_i (cc := cX1_rentedPlaces) (nL := 7) (by decide) rfl (Nat.le_of_ble_eq_true rfl) (fun p e s m args below meth c R Q X hR hend H locs ls w hl => ?_)
  subst hR
  obtain ⟨hx, hb, hml, hown, hts⟩ := id X.1
  have hin : mk_in wsX1_rentedPlaces := ⟨fun w h => List.mem_cons_of_mem _ (List.mem_append_left _ (List.mem_append_left _ (List.mem_append_left _ (List.mem_append_left _ (List.mem_append_left _ (List.mem_append_right _ h)))))), fun w h => List.mem_cons_of_mem _ (List.mem_append_left _ (List.mem_append_left _ (List.mem_append_left _ (List.mem_append_left _ (List.mem_append_right _ h))))), fun w h => List.mem_cons_of_mem _ (List.mem_append_left _ (List.mem_append_left _ (List.mem_append_left _ (List.mem_append_right _ h)))), fun w h => List.mem_cons_of_mem _ (List.mem_append_left _ (List.mem_append_left _ (List.mem_append_right _ h))), fun w h => List.mem_cons_of_mem _ (List.mem_append_left _ (List.mem_append_right _ h))⟩
  have hin3 : ∀ w ∈ wsX30, w ∈ wsX1_rentedPlaces := fun w h => List.mem_cons_of_mem _ (List.mem_append_right _ h)
  have hl : lv_has ls 7 [(0, .ref mk), (1, .ref (ad (2 + i))), (2, .ref (ad (2 + a))), (3, .ref (ad (2 + b)))] := hl
  have hn6 := hs.2.1
  refine lv_aload_n hx hb dX1_rentedPlaces_0 rfl (lv_at hl 1 rfl) ?_
  refine mk_get X w hm hs hin hi 2 (by decide) (List.mem_of_getElem? (i := 1) rfl) (Or.inl rfl) rfl dX1_rentedPlaces_1 ?_
  refine lv_istore (lv' := [(4, .int (g (20 + i))), (0, .ref mk), (1, .ref (ad (2 + i))), (2, .ref (ad (2 + a))), (3, .ref (ad (2 + b)))]) hx hb dX1_rentedPlaces_4 hl (by decide) rfl (fun ls hl => ?_)
  refine lv_iconst (v := 0) hx hb dX1_rentedPlaces_6 (by decide) ?_
  refine lv_istore (lv' := [(5, .int (0)), (4, .int (g (20 + i))), (0, .ref mk), (1, .ref (ad (2 + i))), (2, .ref (ad (2 + a))), (3, .ref (ad (2 + b)))]) hx hb dX1_rentedPlaces_7 hl (by decide) rfl (fun ls hl => ?_)
  refine lv_iconst (v := 1) hx hb dX1_rentedPlaces_9 (by decide) ?_
  refine lv_istore (lv' := [(6, .int (1)), (5, .int (0)), (4, .int (g (20 + i))), (0, .ref mk), (1, .ref (ad (2 + i))), (2, .ref (ad (2 + a))), (3, .ref (ad (2 + b)))]) hx hb dX1_rentedPlaces_10 hl (by decide) rfl (fun ls hl => ?_)
  have loop : ∀ (n0 k : Nat), k ≤ 8 → 8 + 1 ≤ k + n0 → ∀ (H : Heap) (locs : List Loc) (ls : Array Slot), hg_W D b0 L (mk_F D f mk ad n g) s.heap H locs → lv_has ls 7 [(0, .ref mk), (1, .ref (ad (2 + i))), (2, .ref (ad (2 + a))), (3, .ref (ad (2 + b))), (4, .int (g (20 + i))), (5, .int (mk_rent g n i a b k)), (6, .int (nI (k + 1)))] → W p l e ({ frames := 5, cells := 0, slots := 0, locals := 112 }) s m args below meth c H locs 0 0 Q (F0 m 12 ls []) := by
    intro n0
    induction n0 with
    | zero =>
      intro k h1 h2
      exact absurd h2 (by omega)
    | succ n0 ih =>
      intro k hk hn0 H locs ls w hl
      refine lv_iload hx hb dX1_rentedPlaces_12 (lv_at hl 6 rfl) ?_
      refine lv_bipush (v := 8) hx hb dX1_rentedPlaces_14 (by decide) ?_
      refine lv_icmp_gt (tgt := 67) hx hb dX1_rentedPlaces_16 (by decide) (fun c_16 => ?_) (fun c_16 => ?_)
      · have hk : 8 = k := by
          rcases Nat.lt_or_ge k 8 with q | q
          · exact absurd c_16 (nI_nlt (a := 8) (b := (k + 1)) (by omega) (by omega))
          · omega
        subst hk
        refine lv_iload hx hb dX1_rentedPlaces_67 (lv_at hl 5 rfl) ?_
        exact hend H locs (mk_rent g n i a b 8) (L, mk_F D f mk ad n g) _ ls w ⟨rfl, rfl⟩ rfl dX1_rentedPlaces_69
      · have hkl : k < 8 := by
          rcases Nat.lt_or_ge k 8 with q | q
          · exact q
          · exact absurd (nI_lt (a := 8) (b := (k + 1)) (by omega) (by omega)) c_16
        refine lv_aload_n hx hb dX1_rentedPlaces_19 rfl (lv_at hl 0 rfl) ?_
        refine lv_aload_n hx hb dX1_rentedPlaces_20 rfl (lv_at hl 1 rfl) ?_
        refine lv_iload hx hb dX1_rentedPlaces_21 (lv_at hl 6 rfl) ?_
        refine hg_siF (r := (mk_can g n i (nI (k + 1)))) (As := [.ref mk, .ref (ad (2 + i)), .int (nI (k + 1))]) (rest := []) X w (c_X1_canStand l D b0 L f mk ad n g hm hs i hi (nI (k + 1))) (va_cwS 3 hts gX1_rentedPlaces_X1_canStand rfl rfl rfl hdX1_canStand ⟨Nat.le_of_ble_eq_true rfl, Nat.le_of_ble_eq_true rfl⟩) rfl hl.1 rfl (Nat.le_of_ble_eq_true rfl) dX1_rentedPlaces_23 ⟨Nat.zero_le _, Nat.zero_le _⟩ (fun H locs w => ?_)
        refine lv_if_eq (tgt := 61) hx hb dX1_rentedPlaces_26 (by decide) (fun c_26 => ?_) (fun c_26 => ?_)
        · refine lv_iinc (v := nI (k + 1) + 1) (lv' := [(6, .int (nI (k + 1) + 1)), (0, .ref mk), (1, .ref (ad (2 + i))), (2, .ref (ad (2 + a))), (3, .ref (ad (2 + b))), (4, .int (g (20 + i))), (5, .int (mk_rent g n i a b k))]) hx hb dX1_rentedPlaces_61 hl (k := 6) rfl rfl (by decide) rfl (fun ls hl => ?_)
          refine lv_goto (tgt := 12) hx hb dX1_rentedPlaces_64 (by decide) ?_
          have he5 : (mk_rent g n i a b k) = mk_rent g n i a b (k + 1) := by (try simp only [lg_cmp_le, lg_cmp_ge, lg_cmp_lt, lg_cmp_gt, ← Int32.not_lt, ← Int64.not_lt, Classical.not_not] at c_16 c_26); first | (simp [mk_rent, c_16, c_26]; done) | (simp [mk_rent, c_16, eq_true c_26]; done) | (exfalso; clear hend ih; simp_all; done)
          have hl := hs_lv hl (k := 6) rfl he5
          have hl := hs_lv hl (k := 0) rfl (nI_1 (k + 1))
          exact ih (k + 1) (by omega) (by omega) H locs ls w (lv_sub hl [1, 2, 3, 4, 5, 6, 0] rfl)
        · refine lv_aload_n hx hb dX1_rentedPlaces_29 rfl (lv_at hl 1 rfl) ?_
          refine lv_iload hx hb dX1_rentedPlaces_30 (lv_at hl 6 rfl) ?_
          refine mk_put X w hm hs hin hi 2 (by decide) (List.mem_of_getElem? (i := 1) rfl) (fun q => absurd q (by decide)) dX1_rentedPlaces_32 (fun H locs w => ?_)
          have w : hg_W D b0 L (mk_F D f mk ad n (va_up g (20 + i) (nI (k + 1)))) s.heap H locs := w
          refine lv_aload_n hx hb dX1_rentedPlaces_35 rfl (lv_at hl 0 rfl) ?_
          refine lv_aload_n hx hb dX1_rentedPlaces_36 rfl (lv_at hl 2 rfl) ?_
          refine lv_aload_n hx hb dX1_rentedPlaces_37 rfl (lv_at hl 3 rfl) ?_
          refine hg_viF (r := (mk_meets (va_up g (20 + i) (nI (k + 1))) n a b)) (As := [.ref (ad (2 + a)), .ref (ad (2 + b))]) (rest := []) X w (c_X3_meets l D b0 L f mk ad n (va_up g (20 + i) (nI (k + 1))) hm (mk_sr_up (by omega) hs) nr (mk_t_up (by omega) ht) a b ha hb0) (cwV 2 hts gX1_rentedPlaces_X3_meets rfl rfl rfl hdX3_meets ⟨Nat.le_of_ble_eq_true rfl, Nat.le_of_ble_eq_true rfl⟩) hm.1 (mk_at0 D f mk ad n _) rfl rfl rfl hl.1 rfl (Nat.le_of_ble_eq_true rfl) dX1_rentedPlaces_38 ⟨Nat.zero_le _, Nat.zero_le _⟩ (fun H locs w => ?_)
          refine lv_if_eq (tgt := 55) hx hb dX1_rentedPlaces_41 (by decide) (fun c_41 => ?_) (fun c_41 => ?_)
          · refine lv_aload_n hx hb dX1_rentedPlaces_55 rfl (lv_at hl 1 rfl) ?_
            refine lv_iload hx hb dX1_rentedPlaces_56 (lv_at hl 4 rfl) ?_
            refine mk_put X w hm (mk_sr_up (by omega) hs) hin hi 2 (by decide) (List.mem_of_getElem? (i := 1) rfl) (fun q => absurd q (by decide)) dX1_rentedPlaces_58 (fun H locs w => ?_)
            have w : hg_W D b0 L (mk_F D f mk ad n (va_up (va_up g (20 + i) (nI (k + 1))) (20 + i) (g (20 + i)))) s.heap H locs := w
            rw [hs_uu] at w
            rw [hs_up_id] at w
            refine lv_iinc (v := nI (k + 1) + 1) (lv' := [(6, .int (nI (k + 1) + 1)), (0, .ref mk), (1, .ref (ad (2 + i))), (2, .ref (ad (2 + a))), (3, .ref (ad (2 + b))), (4, .int (g (20 + i))), (5, .int (mk_rent g n i a b k))]) hx hb dX1_rentedPlaces_61 hl (k := 6) rfl rfl (by decide) rfl (fun ls hl => ?_)
            refine lv_goto (tgt := 12) hx hb dX1_rentedPlaces_64 (by decide) ?_
            have he5 : (mk_rent g n i a b k) = mk_rent g n i a b (k + 1) := by (try simp only [lg_cmp_le, lg_cmp_ge, lg_cmp_lt, lg_cmp_gt, ← Int32.not_lt, ← Int64.not_lt, Classical.not_not] at c_16 c_26 c_41); first | (simp [mk_rent, c_16, c_26, c_41]; done) | (simp [mk_rent, c_16, c_26, eq_true c_41]; done) | (exfalso; clear hend ih; simp_all; done)
            have hl := hs_lv hl (k := 6) rfl he5
            have hl := hs_lv hl (k := 0) rfl (nI_1 (k + 1))
            exact ih (k + 1) (by omega) (by omega) H locs ls w (lv_sub hl [1, 2, 3, 4, 5, 6, 0] rfl)
          · refine lv_iload hx hb dX1_rentedPlaces_44 (lv_at hl 5 rfl) ?_
            refine lv_iconst (v := 1) hx hb dX1_rentedPlaces_46 (by decide) ?_
            refine lv_iload hx hb dX1_rentedPlaces_47 (lv_at hl 6 rfl) ?_
            refine lv_iconst (v := 1) hx hb dX1_rentedPlaces_49 (by decide) ?_
            refine lv_isub hx hb dX1_rentedPlaces_50 ?_
            refine lv_ishl hx hb dX1_rentedPlaces_51 ?_
            refine lv_ior hx hb dX1_rentedPlaces_52 ?_
            refine lv_istore (lv' := [(5, .int ((mk_rent g n i a b k ||| (1 <<< ((nI (k + 1) - 1) &&& 31))))), (0, .ref mk), (1, .ref (ad (2 + i))), (2, .ref (ad (2 + a))), (3, .ref (ad (2 + b))), (4, .int (g (20 + i))), (6, .int (nI (k + 1)))]) hx hb dX1_rentedPlaces_53 hl (by decide) rfl (fun ls hl => ?_)
            refine lv_aload_n hx hb dX1_rentedPlaces_55 rfl (lv_at hl 2 rfl) ?_
            refine lv_iload hx hb dX1_rentedPlaces_56 (lv_at hl 5 rfl) ?_
            refine mk_put X w hm (mk_sr_up (by omega) hs) hin hi 2 (by decide) (List.mem_of_getElem? (i := 1) rfl) (fun q => absurd q (by decide)) dX1_rentedPlaces_58 (fun H locs w => ?_)
            have w : hg_W D b0 L (mk_F D f mk ad n (va_up (va_up g (20 + i) (nI (k + 1))) (20 + i) (g (20 + i)))) s.heap H locs := w
            rw [hs_uu] at w
            rw [hs_up_id] at w
            refine lv_iinc (v := nI (k + 1) + 1) (lv' := [(6, .int (nI (k + 1) + 1)), (5, .int ((mk_rent g n i a b k ||| (1 <<< ((nI (k + 1) - 1) &&& 31))))), (0, .ref mk), (1, .ref (ad (2 + i))), (2, .ref (ad (2 + a))), (3, .ref (ad (2 + b))), (4, .int (g (20 + i)))]) hx hb dX1_rentedPlaces_61 hl (k := 6) rfl rfl (by decide) rfl (fun ls hl => ?_)
            refine lv_goto (tgt := 12) hx hb dX1_rentedPlaces_64 (by decide) ?_
            have he5 : (mk_rent g n i a b k ||| (1 <<< ((nI (k + 1) - 1) &&& 31))) = mk_rent g n i a b (k + 1) := by (try simp only [lg_cmp_le, lg_cmp_ge, lg_cmp_lt, lg_cmp_gt, ← Int32.not_lt, ← Int64.not_lt, Classical.not_not] at c_16 c_26 c_41); first | (simp [mk_rent, c_16, c_26, c_41]; done) | (simp [mk_rent, c_16, c_26, c_41]; done) | (exfalso; clear hend ih; simp_all; done)
            have hl := hs_lv hl (k := 1) rfl he5
            have hl := hs_lv hl (k := 0) rfl (nI_1 (k + 1))
            exact ih (k + 1) (by omega) (by omega) H locs ls w (lv_sub hl [2, 3, 4, 5, 6, 1, 0] rfl)
  exact loop 9 0 (by omega) (by omega) H locs ls w (lv_sub hl [3, 4, 5, 6, 2, 1, 0] rfl)
