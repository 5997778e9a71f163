set_option maxRecDepth 100000 in
set_option maxHeartbeats 4000000 in
theorem c_X3_sag (l : Launch) (D : va_G) (b0 : Nat) (L : List Nat) (f : Nat → va_E) (mk : Nat) (ad : Nat → Nat) (n : Nat) (g : Nat → Int32) (hm : mk_ok L mk ad n) (hs : mk_sr g n) (nr : Nat) (ht : mk_t g nr) (rope x : Int32) : hg_Fi l yX3_sag wsX3_sag ({ frames := 2, cells := 0, slots := 0, locals := 40 }) D b0 L (mk_F D f mk ad n g) [.ref mk, .int (rope), .int (x)] (hs_sag g n rope x) (mk_F D f mk ad n g) := by
  refine hg_in_i (cc := cX3_sag) (nL := 9) (by decide) rfl (Nat.le_of_ble_eq_true rfl) (fun p e s m args below meth c R Q X hR hend H locs ls w hl => ?_)
  subst hR
  obtain ⟨hx, hb, hml, hown, hts⟩ := id X.1
  have hin : mk_in wsX3_sag := ⟨fun w h => List.mem_cons_of_mem _ (List.mem_append_left _ (List.mem_append_left _ (List.mem_append_left _ (List.mem_append_left _ (List.mem_append_right _ h))))), fun w h => List.mem_cons_of_mem _ (List.mem_append_left _ (List.mem_append_left _ (List.mem_append_left _ (List.mem_append_right _ h)))), fun w h => List.mem_cons_of_mem _ (List.mem_append_left _ (List.mem_append_left _ (List.mem_append_right _ h))), fun w h => List.mem_cons_of_mem _ (List.mem_append_left _ (List.mem_append_right _ h)), fun w h => List.mem_cons_of_mem _ (List.mem_append_right _ h)⟩
  have hin3 : ∀ w ∈ wsX30, w ∈ wsX3_sag := fun w h => List.mem_cons_of_mem _ (List.mem_append_left _ (List.mem_append_left _ (List.mem_append_left _ (List.mem_append_left _ (List.mem_append_left _ (List.mem_append_right _ h))))))
  have hl : lv_has ls 9 [(0, .ref mk), (1, .int (rope)), (2, .int (x))] := hl
  refine lv_iload_n hx hb dX3_sag_0 rfl (lv_at hl 1 rfl) ?_
  refine lv_if_lt (tgt := 9) hx hb dX3_sag_1 (by decide) (fun c_1 => ?_) (fun c_1 => ?_)
  · refine lv_iconst (v := 0) hx hb dX3_sag_9 (by decide) ?_
    refine lv_goto (tgt := 19) hx hb dX3_sag_10 (by decide) ?_
    refine lv_istore_n (lv' := [(3, .int (0)), (0, .ref mk), (1, .int (rope)), (2, .int (x))]) hx hb dX3_sag_19 rfl hl (by decide) rfl (fun ls hl => ?_)
    refine lv_iload_n hx hb dX3_sag_20 rfl (lv_at hl 0 rfl) ?_
    refine lv_iconst (v := 1) hx hb dX3_sag_21 (by decide) ?_
    refine lv_icmp_ge (tgt := 27) hx hb dX3_sag_22 (by decide) (fun c_22 => ?_) (fun c_22 => ?_)
    · exact absurd c_22 (by decide)
    · refine lv_iconst (v := 0) hx hb dX3_sag_25 (by decide) ?_
      exact hend H locs (0) (L, mk_F D f mk ad n g) _ ls w ⟨(mk_sag0 ht (Or.inl c_1)), rfl⟩ rfl dX3_sag_26
  · refine lv_iload_n hx hb dX3_sag_4 rfl (lv_at hl 1 rfl) ?_
    refine lv_iconst (v := 3) hx hb dX3_sag_5 (by decide) ?_
    refine lv_icmp_lt (tgt := 13) hx hb dX3_sag_6 (by decide) (fun c_6 => ?_) (fun c_6 => ?_)
    · obtain ⟨r, hr3, rfl⟩ : ∃ r : Nat, r < 3 ∧ rope = nI r := by
        obtain ⟨q, hq, e⟩ := nI_of c_1
        subst e
        exact ⟨q, (nI_ltI (b := 3) hq (by decide)).mp c_6, rfl⟩
      refine lv_aload_n hx hb dX3_sag_13 rfl (lv_at hl 0 rfl) ?_
      refine mk_getM X w hm hin3 4 (by decide) (List.mem_of_getElem? (i := 1) rfl) rfl dX3_sag_14 ?_
      refine lv_iload_n hx hb dX3_sag_17 rfl (lv_at hl 1 rfl) ?_
      refine mk_taut X w hm r rfl (by omega) dX3_sag_18 ?_
      refine lv_istore_n (lv' := [(3, .int (g (5 + r))), (0, .ref mk), (1, .int (nI r)), (2, .int (x))]) hx hb dX3_sag_19 rfl hl (by decide) rfl (fun ls hl => ?_)
      refine lv_iload_n hx hb dX3_sag_20 rfl (lv_at hl 0 rfl) ?_
      refine lv_iconst (v := 1) hx hb dX3_sag_21 (by decide) ?_
      refine lv_icmp_ge (tgt := 27) hx hb dX3_sag_22 (by decide) (fun c_22 => ?_) (fun c_22 => ?_)
      · refine lv_iconst (v := 0) hx hb dX3_sag_27 (by decide) ?_
        refine lv_istore (lv' := [(4, .int (0)), (3, .int (g (5 + r))), (0, .ref mk), (1, .int (nI r)), (2, .int (x))]) hx hb dX3_sag_28 hl (by decide) rfl (fun ls hl => ?_)
        refine lv_aload_n hx hb dX3_sag_30 rfl (lv_at hl 2 rfl) ?_
        refine mk_getM X w hm hin3 5 (by decide) (List.mem_of_getElem? (i := 2) rfl) rfl dX3_sag_31 ?_
        refine lv_astore (lv' := [(5, .ref (ad 1)), (4, .int (0)), (3, .int (g (5 + r))), (0, .ref mk), (1, .int (nI r)), (2, .int (x))]) hx hb dX3_sag_34 hl (by decide) rfl (fun ls hl => ?_)
        refine lv_aload hx hb dX3_sag_36 (lv_at hl 0 rfl) ?_
        refine mk_len X w hm dX3_sag_38 ?_
        refine lv_istore (lv' := [(6, .int (6)), (5, .ref (ad 1)), (4, .int (0)), (3, .int (g (5 + r))), (0, .ref mk), (1, .int (nI r)), (2, .int (x))]) hx hb dX3_sag_39 hl (by decide) rfl (fun ls hl => ?_)
        refine lv_iconst (v := 0) hx hb dX3_sag_41 (by decide) ?_
        refine lv_istore (lv' := [(7, .int (0)), (6, .int (6)), (5, .ref (ad 1)), (4, .int (0)), (3, .int (g (5 + r))), (0, .ref mk), (1, .int (nI r)), (2, .int (x))]) hx hb dX3_sag_42 hl (by decide) rfl (fun ls hl => ?_)
        have loop : ∀ (n0 k : Nat), k ≤ 6 → 6 + 1 ≤ k + n0 → ∀ (H : Heap) (locs : List Loc) (ls : Array Slot), hg_W D b0 L (mk_F D f mk ad n g) s.heap H locs → lv_has ls 9 [(0, .ref mk), (1, .int (nI r)), (2, .int (x)), (3, .int (g (5 + r))), (4, .int (hs_pull g (nI r) x (min k n))), (5, .ref (ad 1)), (6, .int (6)), (7, .int (nI k))] → W p l e ({ frames := 2, cells := 0, slots := 0, locals := 40 }) s m args below meth c H locs 0 0 Q (F0 m 44 ls []) := by
          intro n0
          induction n0 with
          | zero =>
            intro k h1 h2
            exact absurd h2 (by omega)
          | succ n0 ih =>
            intro k hk hn0 H locs ls w hl
            refine lv_iload hx hb dX3_sag_44 (lv_at hl 7 rfl) ?_
            refine lv_iload hx hb dX3_sag_46 (lv_at hl 6 rfl) ?_
            refine lv_icmp_ge (tgt := 111) hx hb dX3_sag_48 (by decide) (fun c_48 => ?_) (fun c_48 => ?_)
            · have hk : 6 = k := by
                rcases Nat.lt_or_ge k 6 with q | q
                · exact absurd c_48 (nI_ge (a := k) (b := 6) q (by omega))
                · omega
              subst hk
              refine lv_iload hx hb dX3_sag_111 (lv_at hl 4 rfl) ?_
              refine lv_iload_n hx hb dX3_sag_113 rfl (lv_at hl 3 rfl) ?_
              refine lv_idiv hx hb dX3_sag_114 (fun q => absurd c_22 (by rw [q]; decide)) ?_
              refine lv_aload_n hx hb dX3_sag_115 rfl (lv_at hl 0 rfl) ?_
              refine mk_getM X w hm hin3 1 (by decide) (List.mem_of_getElem? (i := 12) rfl) rfl dX3_sag_116 ?_
              refine lv_iadd hx hb dX3_sag_119 ?_
              exact hend H locs (((hs_pull g (nI r) x (min 6 n) / g (5 + r)) + g 1)) (L, mk_F D f mk ad n g) _ ls w ⟨(mk_sag2 hs ht hr3 c_22), rfl⟩ rfl dX3_sag_120
            · have hkl : k < 6 := by
                rcases Nat.lt_or_ge k 6 with q | q
                · exact q
                · exact absurd (nI_le (a := 6) (b := k) q (by omega)) c_48
              refine lv_aload hx hb dX3_sag_51 (lv_at hl 5 rfl) ?_
              refine lv_iload hx hb dX3_sag_53 (lv_at hl 7 rfl) ?_
              refine mk_ald X w hm k rfl (by omega) dX3_sag_55 (fun hjk => ?_) (fun hjk => ?_)
              · refine lv_astore (lv' := [(8, .ref (ad (2 + k))), (0, .ref mk), (1, .int (nI r)), (2, .int (x)), (3, .int (g (5 + r))), (4, .int (hs_pull g (nI r) x (min k n))), (5, .ref (ad 1)), (6, .int (6)), (7, .int (nI k))]) hx hb dX3_sag_56 hl (by decide) rfl (fun ls hl => ?_)
                refine lv_aload hx hb dX3_sag_58 (lv_at hl 0 rfl) ?_
                refine lv_ifnull hx hb dX3_sag_60 ?_
                refine lv_aload hx hb dX3_sag_63 (lv_at hl 0 rfl) ?_
                refine mk_get X w hm hs hin hjk 1 (by decide) (List.mem_of_getElem? (i := 3) rfl) (Or.inl rfl) rfl dX3_sag_65 ?_
                refine lv_iload_n hx hb dX3_sag_68 rfl (lv_at hl 2 rfl) ?_
                refine lv_icmp_ne (tgt := 105) hx hb dX3_sag_69 (by decide) (fun c_69 => ?_) (fun c_69 => ?_)
                · refine lv_iinc (v := nI k + 1) (lv' := [(7, .int (nI k + 1)), (8, .ref (ad (2 + k))), (0, .ref mk), (1, .int (nI r)), (2, .int (x)), (3, .int (g (5 + r))), (4, .int (hs_pull g (nI r) x (min k n))), (5, .ref (ad 1)), (6, .int (6))]) hx hb dX3_sag_105 hl (k := 8) rfl rfl (by decide) rfl (fun ls hl => ?_)
                  refine lv_goto (tgt := 44) hx hb dX3_sag_108 (by decide) ?_
                  have he4 : (hs_pull g (nI r) x (min k n)) = hs_pull g (nI r) x (min (k + 1) n) := by exact mk_pull_n hjk c_69
                  have hl := hs_lv hl (k := 6) rfl he4
                  have hl := hs_lv hl (k := 0) rfl (nI_1 k)
                  exact ih (k + 1) (by omega) (by omega) H locs ls w (lv_sub hl [2, 3, 4, 5, 6, 7, 8, 0] rfl)
                · refine lv_iload hx hb dX3_sag_72 (lv_at hl 5 rfl) ?_
                  refine lv_aload hx hb dX3_sag_74 (lv_at hl 0 rfl) ?_
                  refine hg_back (rest := [.int (hs_pull g (nI r) x (min k n))]) (post := fun x u => x = hs_weight g k ∧ u = (L, mk_F D f mk ad n g)) w (by
                    rcases hs.2.2.1 k hjk with hk | hk | hk | hk | hk
                    · exact mk_runU (As := []) (C := RX7) (ci := 5) (fs := mk_st g k) X w (c_X6_weight l D b0 L f mk ad n g hm hs k hjk) (va_cwU 0 hts gX3_sag_X6_weight_u62X7 rfl rfl rfl rfl (by decide +kernel) ⟨Nat.le_of_ble_eq_true rfl, Nat.le_of_ble_eq_true rfl⟩) (hm.2.1 (2 + k) (by omega)).1 (by rw [mk_atS hm hjk, hk]; rfl) rfl rfl rfl hl.1 rfl (Nat.le_of_ble_eq_true rfl) dX3_sag_76 ⟨Nat.zero_le _, Nat.zero_le _⟩
                    · exact mk_runU (As := []) (C := RX2) (ci := 1) (fs := mk_st g k) X w (c_X6_weight l D b0 L f mk ad n g hm hs k hjk) (va_cwU 0 hts gX3_sag_X6_weight_u62X2 rfl rfl rfl rfl (by decide +kernel) ⟨Nat.le_of_ble_eq_true rfl, Nat.le_of_ble_eq_true rfl⟩) (hm.2.1 (2 + k) (by omega)).1 (by rw [mk_atS hm hjk, hk]; rfl) rfl rfl rfl hl.1 rfl (Nat.le_of_ble_eq_true rfl) dX3_sag_76 ⟨Nat.zero_le _, Nat.zero_le _⟩
                    · exact mk_runU (As := []) (C := RX0) (ci := 0) (fs := mk_st g k) X w (c_X6_weight l D b0 L f mk ad n g hm hs k hjk) (va_cwU 0 hts gX3_sag_X6_weight_u62X0 rfl rfl rfl rfl (by decide +kernel) ⟨Nat.le_of_ble_eq_true rfl, Nat.le_of_ble_eq_true rfl⟩) (hm.2.1 (2 + k) (by omega)).1 (by rw [mk_atS hm hjk, hk]; rfl) rfl rfl rfl hl.1 rfl (Nat.le_of_ble_eq_true rfl) dX3_sag_76 ⟨Nat.zero_le _, Nat.zero_le _⟩
                    · exact mk_runU (As := []) (C := RX4) (ci := 3) (fs := mk_st g k) X w (c_X6_weight l D b0 L f mk ad n g hm hs k hjk) (va_cwU 0 hts gX3_sag_X6_weight_u62X4 rfl rfl rfl rfl (by decide +kernel) ⟨Nat.le_of_ble_eq_true rfl, Nat.le_of_ble_eq_true rfl⟩) (hm.2.1 (2 + k) (by omega)).1 (by rw [mk_atS hm hjk, hk]; rfl) rfl rfl rfl hl.1 rfl (Nat.le_of_ble_eq_true rfl) dX3_sag_76 ⟨Nat.zero_le _, Nat.zero_le _⟩
                    · exact mk_runU (As := []) (C := RX10) (ci := 8) (fs := mk_st g k) X w (c_X6_weight l D b0 L f mk ad n g hm hs k hjk) (va_cwU 0 hts gX3_sag_X6_weight_u62X10 rfl rfl rfl rfl (by decide +kernel) ⟨Nat.le_of_ble_eq_true rfl, Nat.le_of_ble_eq_true rfl⟩) (hm.2.1 (2 + k) (by omega)).1 (by rw [mk_atS hm hjk, hk]; rfl) rfl rfl rfl hl.1 rfl (Nat.le_of_ble_eq_true rfl) dX3_sag_76 ⟨Nat.zero_le _, Nat.zero_le _⟩) (fun r0 u0 H locs hp w => ?_)
                  obtain ⟨rfl, rfl⟩ := hp
                  have w : hg_W D b0 L (mk_F D f mk ad n g) s.heap H locs := w
                  refine lv_iload_n hx hb dX3_sag_79 rfl (lv_at hl 3 rfl) ?_
                  refine lv_aload hx hb dX3_sag_80 (lv_at hl 0 rfl) ?_
                  refine mk_get X w hm hs hin hjk 2 (by decide) (List.mem_of_getElem? (i := 4) rfl) (Or.inl rfl) rfl dX3_sag_82 ?_
                  refine va_mmin hx hb (hml.trans hl.1.symm) hown (hts _ (List.mem_of_getElem? (i := 5) rfl)) (hts _ (List.mem_of_getElem? (i := 6) rfl)) (hts _ (List.mem_of_getElem? (i := 7) rfl)) (hts _ (List.mem_of_getElem? (i := 8) rfl)) (Nat.le_of_ble_eq_true rfl) (Nat.le_of_ble_eq_true rfl) (Nat.zero_le _) (Nat.zero_le _) dX3_sag_85 ?_
                  refine lv_imul hx hb dX3_sag_88 ?_
                  refine lv_bipush (v := 9) hx hb dX3_sag_89 (by decide) ?_
                  refine lv_iload_n hx hb dX3_sag_91 rfl (lv_at hl 3 rfl) ?_
                  refine lv_aload hx hb dX3_sag_92 (lv_at hl 0 rfl) ?_
                  refine mk_get X w hm hs hin hjk 2 (by decide) (List.mem_of_getElem? (i := 4) rfl) (Or.inl rfl) rfl dX3_sag_94 ?_
                  refine va_mmax hx hb (hml.trans hl.1.symm) hown (hts _ (List.mem_of_getElem? (i := 9) rfl)) (hts _ (List.mem_of_getElem? (i := 10) rfl)) (hts _ (List.mem_of_getElem? (i := 7) rfl)) (hts _ (List.mem_of_getElem? (i := 11) rfl)) (Nat.le_of_ble_eq_true rfl) (Nat.le_of_ble_eq_true rfl) (Nat.zero_le _) (Nat.zero_le _) dX3_sag_97 ?_
                  refine lv_isub hx hb dX3_sag_100 ?_
                  refine lv_imul hx hb dX3_sag_101 ?_
                  refine lv_iadd hx hb dX3_sag_102 ?_
                  refine lv_istore (lv' := [(4, .int ((hs_pull g (nI r) x (min k n) + ((hs_weight g k * (if g (20 + k) < x then g (20 + k) else x)) * (9 - (if x < g (20 + k) then g (20 + k) else x)))))), (8, .ref (ad (2 + k))), (0, .ref mk), (1, .int (nI r)), (2, .int (x)), (3, .int (g (5 + r))), (5, .ref (ad 1)), (6, .int (6)), (7, .int (nI k))]) hx hb dX3_sag_103 hl (by decide) rfl (fun ls hl => ?_)
                  refine lv_iinc (v := nI k + 1) (lv' := [(7, .int (nI k + 1)), (4, .int ((hs_pull g (nI r) x (min k n) + ((hs_weight g k * (if g (20 + k) < x then g (20 + k) else x)) * (9 - (if x < g (20 + k) then g (20 + k) else x)))))), (8, .ref (ad (2 + k))), (0, .ref mk), (1, .int (nI r)), (2, .int (x)), (3, .int (g (5 + r))), (5, .ref (ad 1)), (6, .int (6))]) hx hb dX3_sag_105 hl (k := 8) rfl rfl (by decide) rfl (fun ls hl => ?_)
                  refine lv_goto (tgt := 44) hx hb dX3_sag_108 (by decide) ?_
                  have he4 : (hs_pull g (nI r) x (min k n) + ((hs_weight g k * (if g (20 + k) < x then g (20 + k) else x)) * (9 - (if x < g (20 + k) then g (20 + k) else x)))) = hs_pull g (nI r) x (min (k + 1) n) := by exact mk_pull_y hjk c_69
                  have hl := hs_lv hl (k := 1) rfl he4
                  have hl := hs_lv hl (k := 0) rfl (nI_1 k)
                  exact ih (k + 1) (by omega) (by omega) H locs ls w (lv_sub hl [3, 4, 5, 6, 1, 7, 8, 0] rfl)
              · refine lv_astoreN (lv' := [(8, .null), (0, .ref mk), (1, .int (nI r)), (2, .int (x)), (3, .int (g (5 + r))), (4, .int (hs_pull g (nI r) x (min k n))), (5, .ref (ad 1)), (6, .int (6)), (7, .int (nI k))]) hx hb dX3_sag_56 hl (by decide) rfl (fun ls hl => ?_)
                refine lv_aloadN hx hb dX3_sag_58 (lv_at hl 0 rfl) ?_
                refine lv_ifnullN (tgt := 105) hx hb dX3_sag_60 (by decide) ?_
                refine lv_iinc (v := nI k + 1) (lv' := [(7, .int (nI k + 1)), (8, .null), (0, .ref mk), (1, .int (nI r)), (2, .int (x)), (3, .int (g (5 + r))), (4, .int (hs_pull g (nI r) x (min k n))), (5, .ref (ad 1)), (6, .int (6))]) hx hb dX3_sag_105 hl (k := 8) rfl rfl (by decide) rfl (fun ls hl => ?_)
                refine lv_goto (tgt := 44) hx hb dX3_sag_108 (by decide) ?_
                have he4 : (hs_pull g (nI r) x (min k n)) = hs_pull g (nI r) x (min (k + 1) n) := by exact mk_pull_0 hjk
                have hl := hs_lv hl (k := 6) rfl he4
                have hl := hs_lv hl (k := 0) rfl (nI_1 k)
                exact ih (k + 1) (by omega) (by omega) H locs ls w (lv_sub hl [2, 3, 4, 5, 6, 7, 8, 0] rfl)
        exact loop 7 0 (by omega) (by omega) H locs ls w (by rw [show min 0 n = 0 by omega]; exact lv_sub hl [5, 6, 7, 4, 3, 2, 1, 0] rfl)
      · refine lv_iconst (v := 0) hx hb dX3_sag_25 (by decide) ?_
        exact hend H locs (0) (L, mk_F D f mk ad n g) _ ls w ⟨(mk_sag1 ht hr3 c_22), rfl⟩ rfl dX3_sag_26
    · refine lv_iconst (v := 0) hx hb dX3_sag_9 (by decide) ?_
      refine lv_goto (tgt := 19) hx hb dX3_sag_10 (by decide) ?_
      refine lv_istore_n (lv' := [(3, .int (0)), (0, .ref mk), (1, .int (rope)), (2, .int (x))]) hx hb dX3_sag_19 rfl hl (by decide) rfl (fun ls hl => ?_)
      refine lv_iload_n hx hb dX3_sag_20 rfl (lv_at hl 0 rfl) ?_
      refine lv_iconst (v := 1) hx hb dX3_sag_21 (by decide) ?_
      refine lv_icmp_ge (tgt := 27) hx hb dX3_sag_22 (by decide) (fun c_22 => ?_) (fun c_22 => ?_)
      · exact absurd c_22 (by decide)
      · refine lv_iconst (v := 0) hx hb dX3_sag_25 (by decide) ?_
        exact hend H locs (0) (L, mk_F D f mk ad n g) _ ls w ⟨(mk_sag0 ht (Or.inr (Int32.not_lt.mp c_6))), rfl⟩ rfl dX3_sag_26
