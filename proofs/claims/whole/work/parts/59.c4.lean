set_option maxRecDepth 100000 in
set_option maxHeartbeats 4000000 in
theorem c_X6_put (l : Launch) (D : va_G) (b0 : Nat) (L : List Nat) (f : Nat → va_E) (mk : Nat) (ad : Nat → Nat) (n : Nat) (g : Nat → Int32) (hm : mk_ok L mk ad n) (hs : mk_sr g n) (i : Nat) (hi : i < n) (what v : Int32) : hg_Fv l yX6_put wsX6_put ({ frames := 0, cells := 0, slots := 0, locals := 0 }) D b0 L (mk_F D f mk ad n g) [.ref (ad (2 + i)), .int (what), .int (v)] (mk_F D f mk ad n (mk_pt g i what v)) := by
  refine hg_in_v (cc := cX6_put) (nL := 3) (by decide) rfl (Nat.le_of_ble_eq_true rfl) (fun p e s m args below meth c R Q X _ hR hend H locs ls w hl => ?_)
  subst hR
  obtain ⟨hx, hb, hml, hown, hts⟩ := id X.1
  have hin : mk_in wsX6_put := ⟨fun w h => List.mem_cons_of_mem _ (List.mem_append_left _ (List.mem_append_left _ (List.mem_append_left _ (List.mem_append_left _ (List.mem_append_right _ h))))), fun w h => List.mem_cons_of_mem _ (List.mem_append_left _ (List.mem_append_left _ (List.mem_append_left _ (List.mem_append_right _ h)))), fun w h => List.mem_cons_of_mem _ (List.mem_append_left _ (List.mem_append_left _ (List.mem_append_right _ h))), fun w h => List.mem_cons_of_mem _ (List.mem_append_left _ (List.mem_append_right _ h)), fun w h => List.mem_cons_of_mem _ (List.mem_append_right _ h)⟩
  have hl : lv_has ls 3 [(0, .ref (ad (2 + i))), (1, .int (what)), (2, .int (v))] := hl
  refine lv_iload_n hx hb dX6_put_0 rfl (lv_at hl 1 rfl) ?_
  by_cases s_1_0 : what = 0
  · refine lv_tableIn (off := 31) (tgt := 32) hx hb dX6_put_1 (by rw [s_1_0]; decide) (by rw [s_1_0]; decide) (by rw [s_1_0]; decide) (by decide) ?_
    refine lv_aload_n hx hb dX6_put_32 rfl (lv_at hl 0 rfl) ?_
    refine lv_iload_n hx hb dX6_put_33 rfl (lv_at hl 2 rfl) ?_
    refine mk_put X w hm hs hin hi 4 (by decide) (List.mem_of_getElem? (i := 1) rfl) (fun q => absurd q (by decide)) dX6_put_34 (fun H locs w => ?_)
    have w : hg_W D b0 L (mk_F D f mk ad n (va_up g (32 + i) v)) s.heap H locs := w
    refine lv_goto (tgt := 73) hx hb dX6_put_37 (by decide) ?_
    exact hend H locs (L, mk_F D f mk ad n (va_up g (32 + i) v)) _ ls w (congrArg (fun z => (L, mk_F D f mk ad n z)) (by (try simp only [lg_cmp_le, lg_cmp_ge, lg_cmp_lt, lg_cmp_gt, ← Int32.not_lt, ← Int64.not_lt, Classical.not_not] at s_1_0); first | (simp [mk_pt, s_1_0]; done) | (simp [mk_pt, eq_true s_1_0]; done) | (exfalso; clear hend ; simp_all; done))) dX6_put_73
  by_cases s_1_1 : what = 1
  · refine lv_tableIn (off := 39) (tgt := 40) hx hb dX6_put_1 (by rw [s_1_1]; decide) (by rw [s_1_1]; decide) (by rw [s_1_1]; decide) (by decide) ?_
    refine lv_aload_n hx hb dX6_put_40 rfl (lv_at hl 0 rfl) ?_
    refine lv_iload_n hx hb dX6_put_41 rfl (lv_at hl 2 rfl) ?_
    refine mk_put X w hm hs hin hi 5 (by decide) (List.mem_of_getElem? (i := 2) rfl) (fun q => absurd q (by decide)) dX6_put_42 (fun H locs w => ?_)
    have w : hg_W D b0 L (mk_F D f mk ad n (va_up g (38 + i) v)) s.heap H locs := w
    refine lv_goto (tgt := 73) hx hb dX6_put_45 (by decide) ?_
    exact hend H locs (L, mk_F D f mk ad n (va_up g (38 + i) v)) _ ls w (congrArg (fun z => (L, mk_F D f mk ad n z)) (by (try simp only [lg_cmp_le, lg_cmp_ge, lg_cmp_lt, lg_cmp_gt, ← Int32.not_lt, ← Int64.not_lt, Classical.not_not] at s_1_0 s_1_1); first | (simp [mk_pt, s_1_0, s_1_1]; done) | (simp [mk_pt, s_1_0, eq_true s_1_1]; done) | (exfalso; clear hend ; simp_all; done))) dX6_put_73
  by_cases s_1_2 : what = 2
  · refine lv_tableIn (off := 47) (tgt := 48) hx hb dX6_put_1 (by rw [s_1_2]; decide) (by rw [s_1_2]; decide) (by rw [s_1_2]; decide) (by decide) ?_
    refine lv_aload_n hx hb dX6_put_48 rfl (lv_at hl 0 rfl) ?_
    refine lv_iload_n hx hb dX6_put_49 rfl (lv_at hl 2 rfl) ?_
    refine mk_put X w hm hs hin hi 2 (by decide) (List.mem_of_getElem? (i := 3) rfl) (fun q => absurd q (by decide)) dX6_put_50 (fun H locs w => ?_)
    have w : hg_W D b0 L (mk_F D f mk ad n (va_up g (20 + i) v)) s.heap H locs := w
    refine lv_goto (tgt := 73) hx hb dX6_put_53 (by decide) ?_
    exact hend H locs (L, mk_F D f mk ad n (va_up g (20 + i) v)) _ ls w (congrArg (fun z => (L, mk_F D f mk ad n z)) (by (try simp only [lg_cmp_le, lg_cmp_ge, lg_cmp_lt, lg_cmp_gt, ← Int32.not_lt, ← Int64.not_lt, Classical.not_not] at s_1_0 s_1_1 s_1_2); first | (simp [mk_pt, s_1_0, s_1_1, s_1_2]; done) | (simp [mk_pt, s_1_0, s_1_1, eq_true s_1_2]; done) | (exfalso; clear hend ; simp_all; done))) dX6_put_73
  by_cases s_1_3 : what = 3
  · refine lv_tableIn (off := 55) (tgt := 56) hx hb dX6_put_1 (by rw [s_1_3]; decide) (by rw [s_1_3]; decide) (by rw [s_1_3]; decide) (by decide) ?_
    refine lv_aload_n hx hb dX6_put_56 rfl (lv_at hl 0 rfl) ?_
    refine lv_iload_n hx hb dX6_put_57 rfl (lv_at hl 2 rfl) ?_
    refine lv_iconst (v := 1) hx hb dX6_put_58 (by decide) ?_
    refine lv_icmp_ne (tgt := 66) hx hb dX6_put_59 (by decide) (fun c_59 => ?_) (fun c_59 => ?_)
    · refine lv_iconst (v := 0) hx hb dX6_put_66 (by decide) ?_
      refine mk_put X w hm hs hin hi 6 (by decide) (List.mem_of_getElem? (i := 4) rfl) (fun _ => by decide) dX6_put_67 (fun H locs w => ?_)
      have w : hg_W D b0 L (mk_F D f mk ad n (va_up g (44 + i) 0)) s.heap H locs := w
      refine lv_goto (tgt := 73) hx hb dX6_put_70 (by decide) ?_
      exact hend H locs (L, mk_F D f mk ad n (va_up g (44 + i) 0)) _ ls w (congrArg (fun z => (L, mk_F D f mk ad n z)) (by (try simp only [lg_cmp_le, lg_cmp_ge, lg_cmp_lt, lg_cmp_gt, ← Int32.not_lt, ← Int64.not_lt, Classical.not_not] at s_1_0 s_1_1 s_1_2 s_1_3 c_59); first | (simp [mk_pt, s_1_0, s_1_1, s_1_2, s_1_3, c_59]; done) | (simp [mk_pt, s_1_0, s_1_1, s_1_2, eq_true s_1_3, c_59]; done) | (exfalso; clear hend ; simp_all; done))) dX6_put_73
    · refine lv_iconst (v := 1) hx hb dX6_put_62 (by decide) ?_
      refine lv_goto (tgt := 67) hx hb dX6_put_63 (by decide) ?_
      refine mk_put X w hm hs hin hi 6 (by decide) (List.mem_of_getElem? (i := 4) rfl) (fun _ => by decide) dX6_put_67 (fun H locs w => ?_)
      have w : hg_W D b0 L (mk_F D f mk ad n (va_up g (44 + i) 1)) s.heap H locs := w
      refine lv_goto (tgt := 73) hx hb dX6_put_70 (by decide) ?_
      exact hend H locs (L, mk_F D f mk ad n (va_up g (44 + i) 1)) _ ls w (congrArg (fun z => (L, mk_F D f mk ad n z)) (by (try simp only [lg_cmp_le, lg_cmp_ge, lg_cmp_lt, lg_cmp_gt, ← Int32.not_lt, ← Int64.not_lt, Classical.not_not] at s_1_0 s_1_1 s_1_2 s_1_3 c_59); first | (simp [mk_pt, s_1_0, s_1_1, s_1_2, s_1_3, c_59]; done) | (simp [mk_pt, s_1_0, s_1_1, s_1_2, eq_true s_1_3, eq_true c_59]; done) | (exfalso; clear hend ; simp_all; done))) dX6_put_73
  refine lv_tableOut (tgt := 73) hx hb dX6_put_1 (by have t0 := lv_neT s_1_0 (a := 0) (by decide); have t1 := lv_neT s_1_1 (a := 1) (by decide); have t2 := lv_neT s_1_2 (a := 2) (by decide); have t3 := lv_neT s_1_3 (a := 3) (by decide); omega) (by decide) ?_
  exact hend H locs (L, mk_F D f mk ad n g) _ ls w (congrArg (fun z => (L, mk_F D f mk ad n z)) (by (try simp only [lg_cmp_le, lg_cmp_ge, lg_cmp_lt, lg_cmp_gt, ← Int32.not_lt, ← Int64.not_lt, Classical.not_not] at s_1_0 s_1_1 s_1_2 s_1_3); first | (simp [mk_pt, s_1_0, s_1_1, s_1_2, s_1_3]; done) | (simp [mk_pt, s_1_0, s_1_1, s_1_2, s_1_3]; done) | (exfalso; clear hend ; simp_all; done))) dX6_put_73
set_option maxRecDepth 100000 in
set_option maxHeartbeats 4000000 in
theorem c_X3_put (l : Launch) (D : va_G) (b0 : Nat) (L : List Nat) (f : Nat → va_E) (mk : Nat) (ad : Nat → Nat) (n : Nat) (g : Nat → Int32) (hm : mk_ok L mk ad n) (hs : mk_sr g n)  (what one v : Int32) : hg_Fv l yX3_put wsX3_put ({ frames := 1, cells := 0, slots := 0, locals := 22 }) D b0 L (mk_F D f mk ad n g) [.ref mk, .int (what), .int (one), .int (v)] (mk_F D f mk ad n (mk_pm g n what one v)) := by
  refine hg_in_v (cc := cX3_put) (nL := 5) (by decide) rfl (Nat.le_of_ble_eq_true rfl) (fun p e s m args below meth c R Q X _ hR hend H locs ls w hl => ?_)
  subst hR
  obtain ⟨hx, hb, hml, hown, hts⟩ := id X.1
  have hin : mk_in wsX3_put := ⟨fun w h => List.mem_cons_of_mem _ (List.mem_append_left _ (List.mem_append_left _ (List.mem_append_left _ (List.mem_append_left _ (List.mem_append_right _ h))))), fun w h => List.mem_cons_of_mem _ (List.mem_append_left _ (List.mem_append_left _ (List.mem_append_left _ (List.mem_append_right _ h)))), fun w h => List.mem_cons_of_mem _ (List.mem_append_left _ (List.mem_append_left _ (List.mem_append_right _ h))), fun w h => List.mem_cons_of_mem _ (List.mem_append_left _ (List.mem_append_right _ h)), fun w h => List.mem_cons_of_mem _ (List.mem_append_right _ h)⟩
  have hin3 : ∀ w ∈ wsX30, w ∈ wsX3_put := fun w h => List.mem_cons_of_mem _ (List.mem_append_left _ (List.mem_append_left _ (List.mem_append_left _ (List.mem_append_left _ (List.mem_append_left _ (List.mem_append_right _ h))))))
  have hl : lv_has ls 5 [(0, .ref mk), (1, .int (what)), (2, .int (one)), (3, .int (v))] := hl
  refine lv_iload_n hx hb dX3_put_0 rfl (lv_at hl 1 rfl) ?_
  refine lv_iconst (v := 4) hx hb dX3_put_1 (by decide) ?_
  refine lv_icmp_ne (tgt := 13) hx hb dX3_put_2 (by decide) (fun c_2 => ?_) (fun c_2 => ?_)
  · refine lv_iload_n hx hb dX3_put_13 rfl (lv_at hl 1 rfl) ?_
    refine lv_iconst (v := 5) hx hb dX3_put_14 (by decide) ?_
    refine lv_icmp_ne (tgt := 37) hx hb dX3_put_15 (by decide) (fun c_15 => ?_) (fun c_15 => ?_)
    · refine lv_iload_n hx hb dX3_put_37 rfl (lv_at hl 2 rfl) ?_
      refine lv_if_lt (tgt := 67) hx hb dX3_put_38 (by decide) (fun c_38 => ?_) (fun c_38 => ?_)
      · exact hend H locs (L, mk_F D f mk ad n g) _ ls w (congrArg (fun z => (L, mk_F D f mk ad n z)) (by (try simp only [lg_cmp_le, lg_cmp_ge, lg_cmp_lt, lg_cmp_gt, ← Int32.not_lt, ← Int64.not_lt, Classical.not_not] at c_2 c_15 c_38); first | (simp [mk_pm, c_2, c_15, c_38]; done) | (simp [mk_pm, c_2, c_15, c_38]; done) | (exfalso; clear hend ; simp_all; done))) dX3_put_67
      · refine lv_iload_n hx hb dX3_put_41 rfl (lv_at hl 2 rfl) ?_
        refine lv_bipush (v := 6) hx hb dX3_put_42 (by decide) ?_
        refine lv_icmp_ge (tgt := 67) hx hb dX3_put_44 (by decide) (fun c_44 => ?_) (fun c_44 => ?_)
        · exact hend H locs (L, mk_F D f mk ad n g) _ ls w (congrArg (fun z => (L, mk_F D f mk ad n z)) (by (try simp only [lg_cmp_le, lg_cmp_ge, lg_cmp_lt, lg_cmp_gt, ← Int32.not_lt, ← Int64.not_lt, Classical.not_not] at c_2 c_15 c_38 c_44); first | (simp [mk_pm, c_2, c_15, c_38, c_44]; done) | (simp [mk_pm, c_2, c_15, c_38, c_44]; done) | (exfalso; clear hend ; simp_all; done))) dX3_put_67
        · obtain ⟨j, hj6, rfl⟩ : ∃ r : Nat, r < 6 ∧ one = nI r := by
            obtain ⟨q, hq, e⟩ := nI_of c_38
            subst e
            exact ⟨q, (nI_ltI (b := 6) hq (by decide)).mp (hs_lt c_44), rfl⟩
          have hjc : (nI j).toNatClampNeg = j := nI_clamp (by omega)
          refine lv_aload_n hx hb dX3_put_47 rfl (lv_at hl 0 rfl) ?_
          refine mk_getM X w hm hin3 5 (by decide) (List.mem_of_getElem? (i := 3) rfl) rfl dX3_put_48 ?_
          refine lv_iload_n hx hb dX3_put_51 rfl (lv_at hl 2 rfl) ?_
          refine mk_ald X w hm j rfl (by omega) dX3_put_52 (fun hjj => ?_) (fun hjj => ?_)
          · refine lv_astore (lv' := [(4, .ref (ad (2 + j))), (0, .ref mk), (1, .int (what)), (2, .int (nI j)), (3, .int (v))]) hx hb dX3_put_53 hl (by decide) rfl (fun ls hl => ?_)
            refine lv_aload hx hb dX3_put_55 (lv_at hl 0 rfl) ?_
            refine lv_ifnull hx hb dX3_put_57 ?_
            refine lv_aload hx hb dX3_put_60 (lv_at hl 0 rfl) ?_
            refine lv_iload_n hx hb dX3_put_62 rfl (lv_at hl 2 rfl) ?_
            refine lv_iload_n hx hb dX3_put_63 rfl (lv_at hl 4 rfl) ?_
            refine hg_backv (rest := []) (post := fun u => u = (L, mk_F D f mk ad n (mk_pt g j what v))) w (by
              rcases hs.2.2.1 j hjj with hk | hk | hk | hk | hk
              · exact mk_runUv (As := [.int (what), .int (v)]) (C := RX7) (ci := 5) (fs := mk_st g j) X w (c_X6_put l D b0 L f mk ad n g hm hs j hjj what v) (va_cwU 2 hts gX3_put_X6_put_u59X7 rfl rfl rfl rfl (by decide +kernel) ⟨Nat.le_of_ble_eq_true rfl, Nat.le_of_ble_eq_true rfl⟩) (hm.2.1 (2 + j) (by omega)).1 (by rw [mk_atS hm hjj, hk]; rfl) rfl rfl rfl hl.1 rfl (Nat.le_of_ble_eq_true rfl) dX3_put_64 ⟨Nat.zero_le _, Nat.zero_le _⟩
              · exact mk_runUv (As := [.int (what), .int (v)]) (C := RX2) (ci := 1) (fs := mk_st g j) X w (c_X6_put l D b0 L f mk ad n g hm hs j hjj what v) (va_cwU 2 hts gX3_put_X6_put_u59X2 rfl rfl rfl rfl (by decide +kernel) ⟨Nat.le_of_ble_eq_true rfl, Nat.le_of_ble_eq_true rfl⟩) (hm.2.1 (2 + j) (by omega)).1 (by rw [mk_atS hm hjj, hk]; rfl) rfl rfl rfl hl.1 rfl (Nat.le_of_ble_eq_true rfl) dX3_put_64 ⟨Nat.zero_le _, Nat.zero_le _⟩
              · exact mk_runUv (As := [.int (what), .int (v)]) (C := RX0) (ci := 0) (fs := mk_st g j) X w (c_X6_put l D b0 L f mk ad n g hm hs j hjj what v) (va_cwU 2 hts gX3_put_X6_put_u59X0 rfl rfl rfl rfl (by decide +kernel) ⟨Nat.le_of_ble_eq_true rfl, Nat.le_of_ble_eq_true rfl⟩) (hm.2.1 (2 + j) (by omega)).1 (by rw [mk_atS hm hjj, hk]; rfl) rfl rfl rfl hl.1 rfl (Nat.le_of_ble_eq_true rfl) dX3_put_64 ⟨Nat.zero_le _, Nat.zero_le _⟩
              · exact mk_runUv (As := [.int (what), .int (v)]) (C := RX4) (ci := 3) (fs := mk_st g j) X w (c_X6_put l D b0 L f mk ad n g hm hs j hjj what v) (va_cwU 2 hts gX3_put_X6_put_u59X4 rfl rfl rfl rfl (by decide +kernel) ⟨Nat.le_of_ble_eq_true rfl, Nat.le_of_ble_eq_true rfl⟩) (hm.2.1 (2 + j) (by omega)).1 (by rw [mk_atS hm hjj, hk]; rfl) rfl rfl rfl hl.1 rfl (Nat.le_of_ble_eq_true rfl) dX3_put_64 ⟨Nat.zero_le _, Nat.zero_le _⟩
              · exact mk_runUv (As := [.int (what), .int (v)]) (C := RX10) (ci := 8) (fs := mk_st g j) X w (c_X6_put l D b0 L f mk ad n g hm hs j hjj what v) (va_cwU 2 hts gX3_put_X6_put_u59X10 rfl rfl rfl rfl (by decide +kernel) ⟨Nat.le_of_ble_eq_true rfl, Nat.le_of_ble_eq_true rfl⟩) (hm.2.1 (2 + j) (by omega)).1 (by rw [mk_atS hm hjj, hk]; rfl) rfl rfl rfl hl.1 rfl (Nat.le_of_ble_eq_true rfl) dX3_put_64 ⟨Nat.zero_le _, Nat.zero_le _⟩) (fun u0 H locs hp w => ?_)
            subst hp
            have w : hg_W D b0 L (mk_F D f mk ad n (mk_pt g j what v)) s.heap H locs := w
            exact hend H locs (L, mk_F D f mk ad n (mk_pt g j what v)) _ ls w (congrArg (fun z => (L, mk_F D f mk ad n z)) (mk_pm_a c_2 c_15 hj6 hjj).symm) dX3_put_67
          · refine lv_astoreN (lv' := [(4, .null), (0, .ref mk), (1, .int (what)), (2, .int (nI j)), (3, .int (v))]) hx hb dX3_put_53 hl (by decide) rfl (fun ls hl => ?_)
            refine lv_aloadN hx hb dX3_put_55 (lv_at hl 0 rfl) ?_
            refine lv_ifnullN (tgt := 67) hx hb dX3_put_57 (by decide) ?_
            exact hend H locs (L, mk_F D f mk ad n g) _ ls w (congrArg (fun z => (L, mk_F D f mk ad n z)) (mk_pm_n c_2 c_15 hj6 hjj).symm) dX3_put_67
    · refine lv_iload_n hx hb dX3_put_18 rfl (lv_at hl 2 rfl) ?_
      refine lv_if_lt (tgt := 67) hx hb dX3_put_19 (by decide) (fun c_19 => ?_) (fun c_19 => ?_)
      · exact hend H locs (L, mk_F D f mk ad n g) _ ls w (congrArg (fun z => (L, mk_F D f mk ad n z)) (by (try simp only [lg_cmp_le, lg_cmp_ge, lg_cmp_lt, lg_cmp_gt, ← Int32.not_lt, ← Int64.not_lt, Classical.not_not] at c_2 c_15 c_19); first | (simp [mk_pm, c_2, c_15, c_19]; done) | (simp [mk_pm, c_2, eq_true c_15, c_19]; done) | (exfalso; clear hend ; simp_all; done))) dX3_put_67
      · refine lv_iload_n hx hb dX3_put_22 rfl (lv_at hl 2 rfl) ?_
        refine lv_iconst (v := 3) hx hb dX3_put_23 (by decide) ?_
        refine lv_icmp_ge (tgt := 67) hx hb dX3_put_24 (by decide) (fun c_24 => ?_) (fun c_24 => ?_)
        · exact hend H locs (L, mk_F D f mk ad n g) _ ls w (congrArg (fun z => (L, mk_F D f mk ad n z)) (by (try simp only [lg_cmp_le, lg_cmp_ge, lg_cmp_lt, lg_cmp_gt, ← Int32.not_lt, ← Int64.not_lt, Classical.not_not] at c_2 c_15 c_19 c_24); first | (simp [mk_pm, c_2, c_15, c_19, c_24]; done) | (simp [mk_pm, c_2, eq_true c_15, c_19, c_24]; done) | (exfalso; clear hend ; simp_all; done))) dX3_put_67
        · obtain ⟨j, hj3, rfl⟩ : ∃ r : Nat, r < 3 ∧ one = nI r := by
            obtain ⟨q, hq, e⟩ := nI_of c_19
            subst e
            exact ⟨q, (nI_ltI (b := 3) hq (by decide)).mp (hs_lt c_24), rfl⟩
          have hjc : (nI j).toNatClampNeg = j := nI_clamp (by omega)
          refine lv_aload_n hx hb dX3_put_27 rfl (lv_at hl 0 rfl) ?_
          refine mk_getM X w hm hin3 4 (by decide) (List.mem_of_getElem? (i := 2) rfl) rfl dX3_put_28 ?_
          refine lv_iload_n hx hb dX3_put_31 rfl (lv_at hl 2 rfl) ?_
          refine lv_iload_n hx hb dX3_put_32 rfl (lv_at hl 3 rfl) ?_
          refine mk_tast X w hm j rfl (by omega) dX3_put_33 (fun H locs w => ?_)
          refine lv_goto (tgt := 67) hx hb dX3_put_34 (by decide) ?_
          exact hend H locs (L, mk_F D f mk ad n (va_up g (5 + j) v)) _ ls w (congrArg (fun z => (L, mk_F D f mk ad n z)) (mk_pm_5 c_15 hj3).symm) dX3_put_67
  · refine lv_aload_n hx hb dX3_put_5 rfl (lv_at hl 0 rfl) ?_
    refine lv_iload_n hx hb dX3_put_6 rfl (lv_at hl 3 rfl) ?_
    refine mk_putM X w hm hin3 (List.mem_of_getElem? (i := 1) rfl) dX3_put_7 (fun H locs w => ?_)
    refine lv_goto (tgt := 67) hx hb dX3_put_10 (by decide) ?_
    exact hend H locs (L, mk_F D f mk ad n (va_up g 1 v)) _ ls w (congrArg (fun z => (L, mk_F D f mk ad n z)) (by (try simp only [lg_cmp_le, lg_cmp_ge, lg_cmp_lt, lg_cmp_gt, ← Int32.not_lt, ← Int64.not_lt, Classical.not_not] at c_2); first | (simp [mk_pm, c_2]; done) | (simp [mk_pm, eq_true c_2]; done) | (exfalso; clear hend ; simp_all; done))) dX3_put_67
