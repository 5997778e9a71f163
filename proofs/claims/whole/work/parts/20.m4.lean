set_option maxRecDepth 100000 in
set_option maxHeartbeats 4000000 in
/-- areSo -/
theorem c_X12_areSo (l : Launch) (D : va_G) (b0 : Nat) (L : List Nat) (f : Nat → va_E) (mo : Nat) (ma : Nat → Nat) (M : Nat → Nat → Int32) (hm : mo_ok L mo ma) (n nr : Nat) (hv : hs_ok (M 0) n nr) (r x : Nat) (hr : r < 8) (hx40 : x + n ≤ 40) : mo_Fi l yX12_areSo wsX12_areSo ({ frames := 5, cells := 0, slots := 0, locals := 116 }) D b0 L f mo ma M [.int (nI r), .int (nI x)] (hs_so (M 0) n (M 5) (40 * r + x) n) (M) := by
  refine hg_in_i (cc := cX12_areSo) (nL := 5) (by decide) rfl (Nat.le_of_ble_eq_true rfl) (fun p e s m args below meth c R Q X hR hend H locs ls w hl => ?_)
  subst hR
  obtain ⟨hx, hb, hml, hown, hts⟩ := id X.1
  have hin : ∀ w ∈ wsX120, w ∈ wsX12_areSo := fun w h => List.mem_cons_of_mem _ (List.mem_append_right _ h)
  have hl : lv_has ls 5 [(0, .ref mo), (1, .int (nI r)), (2, .int (nI x))] := hl
  obtain ⟨hn, hn6, hnr, hnr3, htt⟩ := id hv
  refine lv_iconst (v := 1) hx hb dX12_areSo_0 (by decide) ?_
  refine lv_istore_n (lv' := [(3, .int (1)), (0, .ref mo), (1, .int (nI r)), (2, .int (nI x))]) hx hb dX12_areSo_1 rfl hl (by decide) rfl (fun ls hl => ?_)
  refine lv_iconst (v := 0) hx hb dX12_areSo_2 (by decide) ?_
  refine lv_istore (lv' := [(4, .int (0)), (3, .int (1)), (0, .ref mo), (1, .int (nI r)), (2, .int (nI x))]) hx hb dX12_areSo_3 hl (by decide) rfl (fun ls hl => ?_)
  have loop : ∀ (n0 k : Nat), k ≤ n → n + 1 ≤ k + n0 → ∀ (H : Heap) (locs : List Loc) (ls : Array Slot), hg_W D b0 L (mo_F D f mo ma M) s.heap H locs → lv_has ls 5 [(0, .ref mo), (1, .int (nI r)), (2, .int (nI x)), (3, .int (hs_so (M 0) n (M 5) (40 * r + x) k)), (4, .int (nI k))] → W p l e ({ frames := 5, cells := 0, slots := 0, locals := 116 }) s m args below meth c H locs 0 0 Q (F0 m 5 ls []) := by
    intro n0
    induction n0 with
    | zero =>
      intro k h1 h2
      exact absurd h2 (by omega)
    | succ n0 ih =>
      intro k hk hn0 H locs ls w hl
      refine lv_iload hx hb dX12_areSo_5 (lv_at hl 4 rfl) ?_
      refine lv_aload_n hx hb dX12_areSo_7 rfl (lv_at hl 0 rfl) ?_
      refine mo_get X w hm hin 0 (by decide) (List.mem_of_getElem? (i := 1) rfl) rfl dX12_areSo_8 ?_
      refine lv_iconst (v := 3) hx hb dX12_areSo_11 (by decide) ?_
      refine mo_iald X w hm 0 (by decide) (by decide) 3 rfl (by show _ < 1400; omega) dX12_areSo_12 ?_
      refine lv_icmp_ge (tgt := 55) hx hb dX12_areSo_13 (by decide) (fun c_13 => ?_) (fun c_13 => ?_)
      · rw [hn] at c_13
        have hk : n = k := by
          rcases Nat.lt_or_ge k n with q | q
          · exact absurd c_13 (nI_ge (a := k) (b := n) q (by omega))
          · omega
        subst hk
        refine lv_iload_n hx hb dX12_areSo_55 rfl (lv_at hl 3 rfl) ?_
        exact hend H locs (hs_so (M 0) n (M 5) (40 * r + x) n) (L, mo_F D f mo ma M) _ ls w ⟨rfl, rfl⟩ (by rcases hs_so_b (M 0) n (M 5) (40 * r + x) n with q | q <;> rw [q] <;> decide) dX12_areSo_56
      · rw [hn] at c_13
        have hkl : k < n := by
          rcases Nat.lt_or_ge k n with q | q
          · exact q
          · exact absurd (nI_le (a := n) (b := k) q (by omega)) c_13
        refine lv_iload_n hx hb dX12_areSo_16 rfl (lv_at hl 3 rfl) ?_
        refine lv_if_eq (tgt := 47) hx hb dX12_areSo_17 (by decide) (fun c_17 => ?_) (fun c_17 => ?_)
        · refine lv_iconst (v := 0) hx hb dX12_areSo_47 (by decide) ?_
          refine lv_istore_n (lv' := [(3, .int (0)), (0, .ref mo), (1, .int (nI r)), (2, .int (nI x)), (4, .int (nI k))]) hx hb dX12_areSo_48 rfl hl (by decide) rfl (fun ls hl => ?_)
          refine lv_iinc (v := nI k + 1) (lv' := [(4, .int (nI k + 1)), (3, .int (0)), (0, .ref mo), (1, .int (nI r)), (2, .int (nI x))]) hx hb dX12_areSo_49 hl (k := 4) rfl rfl (by decide) rfl (fun ls hl => ?_)
          refine lv_goto (tgt := 5) hx hb dX12_areSo_52 (by decide) ?_
          have he3 : 0 = hs_so (M 0) n (M 5) (40 * r + x) (k + 1) := by simp [hs_so, c_13, c_17]
          have hl := hs_lv hl (k := 1) rfl he3
          have hl := hs_lv hl (k := 0) rfl (nI_1 k)
          exact ih (k + 1) (by omega) (by omega) H locs ls w (lv_sub hl [2, 3, 4, 1, 0] rfl)
        · refine lv_aload_n hx hb dX12_areSo_20 rfl (lv_at hl 0 rfl) ?_
          refine lv_iload hx hb dX12_areSo_21 (lv_at hl 4 rfl) ?_
          refine hg_viF (r := (hs_deep (M 0) n k)) (As := [.int (nI k)]) (rest := []) X w (c_X12_depthOf l D b0 L f mo ma M hm n nr hv k (by omega)) (cwV 1 hts gX12_areSo_X12_depthOf rfl rfl rfl hdX12_depthOf ⟨Nat.le_of_ble_eq_true rfl, Nat.le_of_ble_eq_true rfl⟩) hm.1 (mo_at0 D f mo ma _) rfl rfl rfl hl.1 rfl (Nat.le_of_ble_eq_true rfl) dX12_areSo_23 ⟨Nat.zero_le _, Nat.zero_le _⟩ (fun H locs w => ?_)
          refine lv_aload_n hx hb dX12_areSo_26 rfl (lv_at hl 0 rfl) ?_
          refine mo_get X w hm hin 5 (by decide) (List.mem_of_getElem? (i := 2) rfl) rfl dX12_areSo_27 ?_
          refine lv_bipush (v := 40) hx hb dX12_areSo_30 (by decide) ?_
          refine lv_iload_n hx hb dX12_areSo_32 rfl (lv_at hl 1 rfl) ?_
          refine lv_imul hx hb dX12_areSo_33 ?_
          refine lv_iload_n hx hb dX12_areSo_34 rfl (lv_at hl 2 rfl) ?_
          refine lv_iadd hx hb dX12_areSo_35 ?_
          refine lv_iload hx hb dX12_areSo_36 (lv_at hl 4 rfl) ?_
          refine lv_iadd hx hb dX12_areSo_38 ?_
          refine mo_iald X w hm 5 (by decide) (by decide) (40 * r + x + k) (hs_addI (hs_addI (hs_mulI rfl rfl) rfl) rfl) (by show _ < 320; omega) dX12_areSo_39 ?_
          refine lv_icmp_ne (tgt := 47) hx hb dX12_areSo_40 (by decide) (fun c_40 => ?_) (fun c_40 => ?_)
          · refine lv_iconst (v := 0) hx hb dX12_areSo_47 (by decide) ?_
            refine lv_istore_n (lv' := [(3, .int (0)), (0, .ref mo), (1, .int (nI r)), (2, .int (nI x)), (4, .int (nI k))]) hx hb dX12_areSo_48 rfl hl (by decide) rfl (fun ls hl => ?_)
            refine lv_iinc (v := nI k + 1) (lv' := [(4, .int (nI k + 1)), (3, .int (0)), (0, .ref mo), (1, .int (nI r)), (2, .int (nI x))]) hx hb dX12_areSo_49 hl (k := 4) rfl rfl (by decide) rfl (fun ls hl => ?_)
            refine lv_goto (tgt := 5) hx hb dX12_areSo_52 (by decide) ?_
            have he3 : 0 = hs_so (M 0) n (M 5) (40 * r + x) (k + 1) := by simp [hs_so, c_13, c_17, c_40]
            have hl := hs_lv hl (k := 1) rfl he3
            have hl := hs_lv hl (k := 0) rfl (nI_1 k)
            exact ih (k + 1) (by omega) (by omega) H locs ls w (lv_sub hl [2, 3, 4, 1, 0] rfl)
          · refine lv_iconst (v := 1) hx hb dX12_areSo_43 (by decide) ?_
            refine lv_goto (tgt := 48) hx hb dX12_areSo_44 (by decide) ?_
            refine lv_istore_n (lv' := [(3, .int (1)), (0, .ref mo), (1, .int (nI r)), (2, .int (nI x)), (4, .int (nI k))]) hx hb dX12_areSo_48 rfl hl (by decide) rfl (fun ls hl => ?_)
            refine lv_iinc (v := nI k + 1) (lv' := [(4, .int (nI k + 1)), (3, .int (1)), (0, .ref mo), (1, .int (nI r)), (2, .int (nI x))]) hx hb dX12_areSo_49 hl (k := 4) rfl rfl (by decide) rfl (fun ls hl => ?_)
            refine lv_goto (tgt := 5) hx hb dX12_areSo_52 (by decide) ?_
            have he3 : 1 = hs_so (M 0) n (M 5) (40 * r + x) (k + 1) := by simp [hs_so, c_13, c_17, c_40]
            have hl := hs_lv hl (k := 1) rfl he3
            have hl := hs_lv hl (k := 0) rfl (nI_1 k)
            exact ih (k + 1) (by omega) (by omega) H locs ls w (lv_sub hl [2, 3, 4, 1, 0] rfl)
  exact loop (n + 1) 0 (by omega) (by omega) H locs ls w (lv_sub hl [2, 3, 4, 1, 0] rfl)
set_option maxRecDepth 100000 in
set_option maxHeartbeats 4000000 in
/-- box -/
theorem c_X12_box (l : Launch) (D : va_G) (b0 : Nat) (L : List Nat) (f : Nat → va_E) (mo : Nat) (ma : Nat → Nat) (M : Nat → Nat → Int32) (hm : mo_ok L mo ma) (n nr : Nat) (hv : hs_ok (M 0) n nr) (x depth what : Int32) : mo_Fi l yX12_box wsX12_box ({ frames := 5, cells := 0, slots := 0, locals := 116 }) D b0 L f mo ma M [.int (x), .int (depth), .int (what)] (q_box (M 0) n x depth what) (M) := by
  refine hg_in_i (cc := cX12_box) (nL := 8) (by decide) rfl (Nat.le_of_ble_eq_true rfl) (fun p e s m args below meth c R Q X hR hend H locs ls w hl => ?_)
  subst hR
  obtain ⟨hx, hb, hml, hown, hts⟩ := id X.1
  have hin : ∀ w ∈ wsX120, w ∈ wsX12_box := fun w h => List.mem_cons_of_mem _ (List.mem_append_right _ h)
  have hl : lv_has ls 8 [(0, .ref mo), (1, .int (x)), (2, .int (depth)), (3, .int (what))] := hl
  obtain ⟨hn, hn6, hnr, hnr3, htt⟩ := id hv
  refine lv_aload_n hx hb dX12_box_0 rfl (lv_at hl 0 rfl) ?_
  refine lv_iload_n hx hb dX12_box_1 rfl (lv_at hl 1 rfl) ?_
  refine hg_viF (r := hs_isSt (M 0) x) (As := [.int (x)]) (rest := []) X w (c_X12_isStall l D b0 L f mo ma M hm x) (cwV 1 hts gX12_box_X12_isStall rfl rfl rfl hdX12_isStall ⟨Nat.le_of_ble_eq_true rfl, Nat.le_of_ble_eq_true rfl⟩) hm.1 (mo_at0 D f mo ma _) rfl rfl rfl hl.1 rfl (Nat.le_of_ble_eq_true rfl) dX12_box_2 ⟨Nat.zero_le _, Nat.zero_le _⟩ (fun H locs w => ?_)
  refine lv_if_eq (tgt := 32) hx hb dX12_box_5 (by decide) (fun c_5 => ?_) (fun c_5 => ?_)
  · refine lv_ldc (v := (-1000001)) hx hb hown (hts _ (List.mem_of_getElem? (i := 3) rfl)) dX12_box_32 ?_
    exact hend H locs ((-1000001)) (L, mo_F D f mo ma M) _ ls w ⟨(by (try simp only [lg_cmp_le, lg_cmp_ge, lg_cmp_lt, lg_cmp_gt, ← Int32.not_lt, ← Int64.not_lt, Classical.not_not] at c_5); first | (simp [q_box, c_5]; done) | (simp [q_box, eq_true c_5]; done) | (exfalso; clear hend; simp_all; done)), rfl⟩ rfl dX12_box_34
  · obtain ⟨j, hj, rfl⟩ := hs_st_1 hv c_5
    have hjc := hs_cl hj (by omega)
    refine lv_iload_n hx hb dX12_box_8 rfl (lv_at hl 2 rfl) ?_
    refine lv_i2l hx hb dX12_box_9 rfl ?_
    refine lv_ldc2 (v := (-9999)) hx hb hown (hts _ (List.mem_of_getElem? (i := 1) rfl)) dX12_box_10 ?_
    refine lv_ldc2 (v := 9999) hx hb hown (hts _ (List.mem_of_getElem? (i := 2) rfl)) dX12_box_13 ?_
    refine hg_siF (r := hs_in depth (-9999) 9999) (As := [.long ((depth).toInt64), .long ((-9999)), .long (9999)]) (rest := []) X w (c_X12_in l D b0 L _ ((depth).toInt64) (-9999) 9999 depth (-9999) 9999 rfl (by decide) (by decide)) (va_cwS 3 hts gX12_box_X12_in rfl rfl rfl hdX12_in ⟨Nat.le_of_ble_eq_true rfl, Nat.le_of_ble_eq_true rfl⟩) rfl hl.1 rfl (Nat.le_of_ble_eq_true rfl) dX12_box_16 ⟨Nat.zero_le _, Nat.zero_le _⟩ (fun H locs w => ?_)
    refine lv_if_eq (tgt := 32) hx hb dX12_box_19 (by decide) (fun c_19 => ?_) (fun c_19 => ?_)
    · refine lv_ldc (v := (-1000001)) hx hb hown (hts _ (List.mem_of_getElem? (i := 3) rfl)) dX12_box_32 ?_
      exact hend H locs ((-1000001)) (L, mo_F D f mo ma M) _ ls w ⟨(by (try simp only [lg_cmp_le, lg_cmp_ge, lg_cmp_lt, lg_cmp_gt, ← Int32.not_lt, ← Int64.not_lt, Classical.not_not] at c_5 c_19); first | (simp [q_box, c_5, c_19, hjc]; done) | (simp [q_box, c_5, eq_true c_19, hjc]; done) | (exfalso; clear hend; simp_all; done)), rfl⟩ rfl dX12_box_34
    · refine lv_iload_n hx hb dX12_box_22 rfl (lv_at hl 3 rfl) ?_
      refine lv_i2l hx hb dX12_box_23 rfl ?_
      refine lv_lconst (v := 0) hx hb dX12_box_24 (by decide) ?_
      refine lv_lconst (v := 1) hx hb dX12_box_25 (by decide) ?_
      refine hg_siF (r := hs_in what 0 1) (As := [.long ((what).toInt64), .long (0), .long (1)]) (rest := []) X w (c_X12_in l D b0 L _ ((what).toInt64) 0 1 what 0 1 rfl (by decide) (by decide)) (va_cwS 3 hts gX12_box_X12_in rfl rfl rfl hdX12_in ⟨Nat.le_of_ble_eq_true rfl, Nat.le_of_ble_eq_true rfl⟩) rfl hl.1 rfl (Nat.le_of_ble_eq_true rfl) dX12_box_26 ⟨Nat.zero_le _, Nat.zero_le _⟩ (fun H locs w => ?_)
      refine lv_if_ne (tgt := 35) hx hb dX12_box_29 (by decide) (fun c_29 => ?_) (fun c_29 => ?_)
      · refine lv_aload_n hx hb dX12_box_35 rfl (lv_at hl 0 rfl) ?_
        refine mo_get X w hm hin 0 (by decide) (List.mem_of_getElem? (i := 4) rfl) rfl dX12_box_36 ?_
        refine lv_bipush (v := 26) hx hb dX12_box_39 (by decide) ?_
        refine lv_iload_n hx hb dX12_box_41 rfl (lv_at hl 1 rfl) ?_
        refine lv_iadd hx hb dX12_box_42 ?_
        refine mo_iald X w hm 0 (by decide) (by decide) (26 + j) (hs_addI rfl rfl) (by show _ < 1400; omega) dX12_box_43 ?_
        refine lv_istore (lv' := [(4, .int (M 0 (26 + j))), (0, .ref mo), (1, .int (nI j)), (2, .int (depth)), (3, .int (what))]) hx hb dX12_box_44 hl (by decide) rfl (fun ls hl => ?_)
        refine lv_ldc (v := (-1000000)) hx hb hown (hts _ (List.mem_of_getElem? (i := 5) rfl)) dX12_box_46 ?_
        refine lv_istore (lv' := [(5, .int ((-1000000))), (4, .int (M 0 (26 + j))), (0, .ref mo), (1, .int (nI j)), (2, .int (depth)), (3, .int (what))]) hx hb dX12_box_48 hl (by decide) rfl (fun ls hl => ?_)
        refine lv_ldc (v := (-1000000)) hx hb hown (hts _ (List.mem_of_getElem? (i := 5) rfl)) dX12_box_50 ?_
        refine lv_istore (lv' := [(6, .int ((-1000000))), (5, .int ((-1000000))), (4, .int (M 0 (26 + j))), (0, .ref mo), (1, .int (nI j)), (2, .int (depth)), (3, .int (what))]) hx hb dX12_box_52 hl (by decide) rfl (fun ls hl => ?_)
        refine lv_iconst (v := 0) hx hb dX12_box_54 (by decide) ?_
        refine lv_istore (lv' := [(7, .int (0)), (6, .int ((-1000000))), (5, .int ((-1000000))), (4, .int (M 0 (26 + j))), (0, .ref mo), (1, .int (nI j)), (2, .int (depth)), (3, .int (what))]) hx hb dX12_box_55 hl (by decide) rfl (fun ls hl => ?_)
        have loop : ∀ (n0 k : Nat), k ≤ 21 → 21 + 1 ≤ k + n0 → ∀ (u0 : Int32), ∀ (H : Heap) (locs : List Loc) (ls : Array Slot), hg_W D b0 L (mo_F D f mo ma (mo_w M 0 (26 + j) (u0))) s.heap H locs → lv_has ls 8 [(0, .ref mo), (1, .int (nI j)), (2, .int (depth)), (3, .int (what)), (4, .int (M 0 (26 + j))), (5, .int (hs_boxL (M 0) n j depth k)), (6, .int (hs_boxM (M 0) n j depth k)), (7, .int (nI k))] → W p l e ({ frames := 5, cells := 0, slots := 0, locals := 116 }) s m args below meth c H locs 0 0 Q (F0 m 57 ls []) := by
          intro n0
          induction n0 with
          | zero =>
            intro k h1 h2
            exact absurd h2 (by omega)
          | succ n0 ih =>
            intro k hk hn0 u0 H locs ls w hl
            refine lv_iload hx hb dX12_box_57 (lv_at hl 7 rfl) ?_
            refine lv_bipush (v := 20) hx hb dX12_box_59 (by decide) ?_
            refine lv_icmp_gt (tgt := 110) hx hb dX12_box_61 (by decide) (fun c_61 => ?_) (fun c_61 => ?_)
            · have hk : 21 = k := by
                rcases Nat.lt_or_ge k 21 with q | q
                · exact absurd c_61 (nI_nlt (a := 20) (b := k) (by omega) (by omega))
                · omega
              subst hk
              refine lv_aload_n hx hb dX12_box_110 rfl (lv_at hl 0 rfl) ?_
              refine mo_get X w hm hin 0 (by decide) (List.mem_of_getElem? (i := 4) rfl) rfl dX12_box_111 ?_
              refine lv_bipush (v := 26) hx hb dX12_box_114 (by decide) ?_
              refine lv_iload_n hx hb dX12_box_116 rfl (lv_at hl 1 rfl) ?_
              refine lv_iadd hx hb dX12_box_117 ?_
              refine lv_iload hx hb dX12_box_118 (lv_at hl 4 rfl) ?_
              refine mo_iast X w hm 0 (by decide) (by decide) (26 + j) (hs_addI rfl rfl) (by show _ < 1400; omega) dX12_box_120 (fun H locs w => ?_)
              rw [mo_w_w] at w
              rw [mo_w_id] at w
              refine lv_iload_n hx hb dX12_box_121 rfl (lv_at hl 3 rfl) ?_
              refine lv_if_ne (tgt := 130) hx hb dX12_box_122 (by decide) (fun c_122 => ?_) (fun c_122 => ?_)
              · refine lv_iload hx hb dX12_box_130 (lv_at hl 6 rfl) ?_
                exact hend H locs (hs_boxM (M 0) n j depth 21) (L, mo_F D f mo ma M) _ ls w ⟨(by (try simp only [lg_cmp_le, lg_cmp_ge, lg_cmp_lt, lg_cmp_gt, ← Int32.not_lt, ← Int64.not_lt, Classical.not_not] at c_5 c_19 c_29 c_61 c_122); first | (simp [q_box, c_5, c_19, c_29, c_61, c_122, hjc]; done) | (simp [q_box, c_5, c_19, c_29, c_61, c_122, hjc]; done) | (exfalso; clear hend; simp_all; done)), rfl⟩ rfl dX12_box_132
              · refine lv_iload hx hb dX12_box_125 (lv_at hl 5 rfl) ?_
                refine lv_goto (tgt := 132) hx hb dX12_box_127 (by decide) ?_
                exact hend H locs (hs_boxL (M 0) n j depth 21) (L, mo_F D f mo ma M) _ ls w ⟨(by (try simp only [lg_cmp_le, lg_cmp_ge, lg_cmp_lt, lg_cmp_gt, ← Int32.not_lt, ← Int64.not_lt, Classical.not_not] at c_5 c_19 c_29 c_61 c_122); first | (simp [q_box, c_5, c_19, c_29, c_61, c_122, hjc]; done) | (simp [q_box, c_5, c_19, c_29, c_61, eq_true c_122, hjc]; done) | (exfalso; clear hend; simp_all; done)), rfl⟩ rfl dX12_box_132
            · have hkl : k < 21 := by
                rcases Nat.lt_or_ge k 21 with q | q
                · exact q
                · exact absurd (nI_lt (a := 20) (b := k) (by omega) (by omega)) c_61
              refine lv_aload_n hx hb dX12_box_64 rfl (lv_at hl 0 rfl) ?_
              refine mo_get X w hm hin 0 (by decide) (List.mem_of_getElem? (i := 4) rfl) rfl dX12_box_65 ?_
              refine lv_bipush (v := 26) hx hb dX12_box_68 (by decide) ?_
              refine lv_iload_n hx hb dX12_box_70 rfl (lv_at hl 1 rfl) ?_
              refine lv_iadd hx hb dX12_box_71 ?_
              refine lv_iload hx hb dX12_box_72 (lv_at hl 7 rfl) ?_
              refine mo_iast X w hm 0 (by decide) (by decide) (26 + j) (hs_addI rfl rfl) (by show _ < 1400; omega) dX12_box_74 (fun H locs w => ?_)
              rw [mo_w_w] at w
              refine lv_aload_n hx hb dX12_box_75 rfl (lv_at hl 0 rfl) ?_
              refine lv_iload_n hx hb dX12_box_76 rfl (lv_at hl 1 rfl) ?_
              refine hg_viF (r := (hs_deep (va_up (M 0) (26 + j) (nI k)) n j)) (As := [.int (nI j)]) (rest := []) X w (c_X12_depthOf l D b0 L f mo ma (mo_w M 0 (26 + j) (nI k)) hm n nr (hs_ok_w (by omega) hv) j (by omega)) (cwV 1 hts gX12_box_X12_depthOf rfl rfl rfl hdX12_depthOf ⟨Nat.le_of_ble_eq_true rfl, Nat.le_of_ble_eq_true rfl⟩) hm.1 (mo_at0 D f mo ma _) rfl rfl rfl hl.1 rfl (Nat.le_of_ble_eq_true rfl) dX12_box_77 ⟨Nat.zero_le _, Nat.zero_le _⟩ (fun H locs w => ?_)
              refine lv_iload_n hx hb dX12_box_80 rfl (lv_at hl 2 rfl) ?_
              refine lv_icmp_ne (tgt := 104) hx hb dX12_box_81 (by decide) (fun c_81 => ?_) (fun c_81 => ?_)
              · refine lv_iinc (v := nI k + 1) (lv' := [(7, .int (nI k + 1)), (0, .ref mo), (1, .int (nI j)), (2, .int (depth)), (3, .int (what)), (4, .int (M 0 (26 + j))), (5, .int (hs_boxL (M 0) n j depth k)), (6, .int (hs_boxM (M 0) n j depth k))]) hx hb dX12_box_104 hl (k := 7) rfl rfl (by decide) rfl (fun ls hl => ?_)
                refine lv_goto (tgt := 57) hx hb dX12_box_107 (by decide) ?_
                have he5 : (hs_boxL (M 0) n j depth k) = hs_boxL (M 0) n j depth (k + 1) := by simp [hs_boxL, c_5, c_19, c_29, c_61, c_81, hjc]
                have hl := hs_lv hl (k := 6) rfl he5
                have he6 : (hs_boxM (M 0) n j depth k) = hs_boxM (M 0) n j depth (k + 1) := by simp [hs_boxM, c_5, c_19, c_29, c_61, c_81, hjc]
                have hl := hs_lv hl (k := 7) rfl he6
                have hl := hs_lv hl (k := 0) rfl (nI_1 k)
                exact ih (k + 1) (by omega) (by omega) _ H locs ls w (lv_sub hl [1, 2, 3, 4, 5, 6, 7, 0] rfl)
              · refine lv_iload hx hb dX12_box_84 (lv_at hl 5 rfl) ?_
                refine lv_ldc (v := (-1000000)) hx hb hown (hts _ (List.mem_of_getElem? (i := 5) rfl)) dX12_box_86 ?_
                refine lv_icmp_ne (tgt := 96) hx hb dX12_box_88 (by decide) (fun c_88 => ?_) (fun c_88 => ?_)
                · refine lv_iload hx hb dX12_box_96 (lv_at hl 5 rfl) ?_
                  refine lv_istore (lv' := [(5, .int (hs_boxL (M 0) n j depth k)), (0, .ref mo), (1, .int (nI j)), (2, .int (depth)), (3, .int (what)), (4, .int (M 0 (26 + j))), (6, .int (hs_boxM (M 0) n j depth k)), (7, .int (nI k))]) hx hb dX12_box_98 hl (by decide) rfl (fun ls hl => ?_)
                  refine lv_iload hx hb dX12_box_100 (lv_at hl 7 rfl) ?_
                  refine lv_istore (lv' := [(6, .int (nI k)), (5, .int (hs_boxL (M 0) n j depth k)), (0, .ref mo), (1, .int (nI j)), (2, .int (depth)), (3, .int (what)), (4, .int (M 0 (26 + j))), (7, .int (nI k))]) hx hb dX12_box_102 hl (by decide) rfl (fun ls hl => ?_)
                  refine lv_iinc (v := nI k + 1) (lv' := [(7, .int (nI k + 1)), (6, .int (nI k)), (5, .int (hs_boxL (M 0) n j depth k)), (0, .ref mo), (1, .int (nI j)), (2, .int (depth)), (3, .int (what)), (4, .int (M 0 (26 + j)))]) hx hb dX12_box_104 hl (k := 7) rfl rfl (by decide) rfl (fun ls hl => ?_)
                  refine lv_goto (tgt := 57) hx hb dX12_box_107 (by decide) ?_
                  have he5 : (hs_boxL (M 0) n j depth k) = hs_boxL (M 0) n j depth (k + 1) := by simp [hs_boxL, c_5, c_19, c_29, c_61, c_81, c_88, hjc]
                  have hl := hs_lv hl (k := 2) rfl he5
                  have he6 : (nI k) = hs_boxM (M 0) n j depth (k + 1) := by simp [hs_boxM, c_5, c_19, c_29, c_61, c_81, c_88, hjc]
                  have hl := hs_lv hl (k := 1) rfl he6
                  have hl := hs_lv hl (k := 0) rfl (nI_1 k)
                  exact ih (k + 1) (by omega) (by omega) _ H locs ls w (lv_sub hl [3, 4, 5, 6, 7, 2, 1, 0] rfl)
                · refine lv_iload hx hb dX12_box_91 (lv_at hl 7 rfl) ?_
                  refine lv_goto (tgt := 98) hx hb dX12_box_93 (by decide) ?_
                  refine lv_istore (lv' := [(5, .int (nI k)), (0, .ref mo), (1, .int (nI j)), (2, .int (depth)), (3, .int (what)), (4, .int (M 0 (26 + j))), (6, .int (hs_boxM (M 0) n j depth k)), (7, .int (nI k))]) hx hb dX12_box_98 hl (by decide) rfl (fun ls hl => ?_)
                  refine lv_iload hx hb dX12_box_100 (lv_at hl 7 rfl) ?_
                  refine lv_istore (lv' := [(6, .int (nI k)), (5, .int (nI k)), (0, .ref mo), (1, .int (nI j)), (2, .int (depth)), (3, .int (what)), (4, .int (M 0 (26 + j))), (7, .int (nI k))]) hx hb dX12_box_102 hl (by decide) rfl (fun ls hl => ?_)
                  refine lv_iinc (v := nI k + 1) (lv' := [(7, .int (nI k + 1)), (6, .int (nI k)), (5, .int (nI k)), (0, .ref mo), (1, .int (nI j)), (2, .int (depth)), (3, .int (what)), (4, .int (M 0 (26 + j)))]) hx hb dX12_box_104 hl (k := 7) rfl rfl (by decide) rfl (fun ls hl => ?_)
                  refine lv_goto (tgt := 57) hx hb dX12_box_107 (by decide) ?_
                  have he5 : (nI k) = hs_boxL (M 0) n j depth (k + 1) := by simp [hs_boxL, c_5, c_19, c_29, c_61, c_81, c_88, hjc]
                  have hl := hs_lv hl (k := 2) rfl he5
                  have he6 : (nI k) = hs_boxM (M 0) n j depth (k + 1) := by simp [hs_boxM, c_5, c_19, c_29, c_61, c_81, c_88, hjc]
                  have hl := hs_lv hl (k := 1) rfl he6
                  have hl := hs_lv hl (k := 0) rfl (nI_1 k)
                  exact ih (k + 1) (by omega) (by omega) _ H locs ls w (lv_sub hl [3, 4, 5, 6, 7, 2, 1, 0] rfl)
        exact loop 22 0 (by omega) (by omega) (M 0 (26 + j)) H locs ls (by rw [mo_w_id]; exact w) (lv_sub hl [4, 5, 6, 7, 3, 2, 1, 0] rfl)
      · refine lv_ldc (v := (-1000001)) hx hb hown (hts _ (List.mem_of_getElem? (i := 3) rfl)) dX12_box_32 ?_
        exact hend H locs ((-1000001)) (L, mo_F D f mo ma M) _ ls w ⟨(by (try simp only [lg_cmp_le, lg_cmp_ge, lg_cmp_lt, lg_cmp_gt, ← Int32.not_lt, ← Int64.not_lt, Classical.not_not] at c_5 c_19 c_29); first | (simp [q_box, c_5, c_19, c_29, hjc]; done) | (simp [q_box, c_5, c_19, eq_true c_29, hjc]; done) | (exfalso; clear hend; simp_all; done)), rfl⟩ rfl dX12_box_34
set_option maxRecDepth 100000 in
set_option maxHeartbeats 4000000 in
/-- holds -/
theorem c_X12_holds (l : Launch) (D : va_G) (b0 : Nat) (L : List Nat) (f : Nat → va_E) (mo : Nat) (ma : Nat → Nat) (M : Nat → Nat → Int32) (hm : mo_ok L mo ma) (n nr : Nat) (hv : hs_ok (M 0) n nr) (rope : Int32) : mo_Fi l yX12_holds wsX12_holds ({ frames := 6, cells := 0, slots := 0, locals := 138 }) D b0 L f mo ma M [.int (rope)] (q_holds (M 0) n rope) (M) := by
  refine hg_in_i (cc := cX12_holds) (nL := 5) (by decide) rfl (Nat.le_of_ble_eq_true rfl) (fun p e s m args below meth c R Q X hR hend H locs ls w hl => ?_)
  subst hR
  obtain ⟨hx, hb, hml, hown, hts⟩ := id X.1
  have hin : ∀ w ∈ wsX120, w ∈ wsX12_holds := fun w h => List.mem_cons_of_mem _ (List.mem_append_right _ h)
  have hl : lv_has ls 5 [(0, .ref mo), (1, .int (rope))] := hl
  obtain ⟨hn, hn6, hnr, hnr3, htt⟩ := id hv
  refine lv_aload_n hx hb dX12_holds_0 rfl (lv_at hl 0 rfl) ?_
  refine lv_iload_n hx hb dX12_holds_1 rfl (lv_at hl 1 rfl) ?_
  refine hg_viF (r := hs_isRo (M 0) rope) (As := [.int (rope)]) (rest := []) X w (c_X12_isRope l D b0 L f mo ma M hm rope) (cwV 1 hts gX12_holds_X12_isRope rfl rfl rfl hdX12_isRope ⟨Nat.le_of_ble_eq_true rfl, Nat.le_of_ble_eq_true rfl⟩) hm.1 (mo_at0 D f mo ma _) rfl rfl rfl hl.1 rfl (Nat.le_of_ble_eq_true rfl) dX12_holds_2 ⟨Nat.zero_le _, Nat.zero_le _⟩ (fun H locs w => ?_)
  refine lv_if_ne (tgt := 11) hx hb dX12_holds_5 (by decide) (fun c_5 => ?_) (fun c_5 => ?_)
  · obtain ⟨r, hr, rfl⟩ := hs_ro_1 hv c_5
    have hrc := hs_cl hr (by omega)
    refine lv_aload_n hx hb dX12_holds_11 rfl (lv_at hl 0 rfl) ?_
    refine mo_get X w hm hin 0 (by decide) (List.mem_of_getElem? (i := 2) rfl) rfl dX12_holds_12 ?_
    refine lv_iconst (v := 5) hx hb dX12_holds_15 (by decide) ?_
    refine lv_iload_n hx hb dX12_holds_16 rfl (lv_at hl 1 rfl) ?_
    refine lv_iadd hx hb dX12_holds_17 ?_
    refine mo_iald X w hm 0 (by decide) (by decide) (5 + r) (hs_addI rfl rfl) (by show _ < 1400; omega) dX12_holds_18 ?_
    refine lv_istore_n (lv' := [(2, .int (M 0 (5 + r))), (0, .ref mo), (1, .int (nI r))]) hx hb dX12_holds_19 rfl hl (by decide) rfl (fun ls hl => ?_)
    refine lv_ldc (v := (-1000000)) hx hb hown (hts _ (List.mem_of_getElem? (i := 3) rfl)) dX12_holds_20 ?_
    refine lv_istore_n (lv' := [(3, .int ((-1000000))), (2, .int (M 0 (5 + r))), (0, .ref mo), (1, .int (nI r))]) hx hb dX12_holds_22 rfl hl (by decide) rfl (fun ls hl => ?_)
    refine lv_bipush (v := 40) hx hb dX12_holds_23 (by decide) ?_
    refine lv_istore (lv' := [(4, .int (40)), (3, .int ((-1000000))), (2, .int (M 0 (5 + r))), (0, .ref mo), (1, .int (nI r))]) hx hb dX12_holds_25 hl (by decide) rfl (fun ls hl => ?_)
    have loop : ∀ (n0 k : Nat), k ≤ 40 → 40 + 1 ≤ k + n0 → ∀ (u0 : Int32), ∀ (H : Heap) (locs : List Loc) (ls : Array Slot), hg_W D b0 L (mo_F D f mo ma (mo_w M 0 (5 + r) (u0))) s.heap H locs → lv_has ls 5 [(0, .ref mo), (1, .int (nI r)), (2, .int (M 0 (5 + r))), (3, .int (hs_hold (M 0) n r k)), (4, .int (nI (40 - k)))] → W p l e ({ frames := 6, cells := 0, slots := 0, locals := 138 }) s m args below meth c H locs 0 0 Q (F0 m 27 ls []) := by
      intro n0
      induction n0 with
      | zero =>
        intro k h1 h2
        exact absurd h2 (by omega)
      | succ n0 ih =>
        intro k hk hn0 u0 H locs ls w hl
        refine lv_iload hx hb dX12_holds_27 (lv_at hl 4 rfl) ?_
        refine lv_if_le (tgt := 62) hx hb dX12_holds_29 (by decide) (fun c_29 => ?_) (fun c_29 => ?_)
        · have hk : 40 = k := by
            rcases Nat.lt_or_ge k 40 with q | q
            · exact absurd c_29 (nI_nle (n := 40 - k) (by omega) (by omega))
            · omega
          subst hk
          refine lv_aload_n hx hb dX12_holds_62 rfl (lv_at hl 0 rfl) ?_
          refine mo_get X w hm hin 0 (by decide) (List.mem_of_getElem? (i := 2) rfl) rfl dX12_holds_63 ?_
          refine lv_iconst (v := 5) hx hb dX12_holds_66 (by decide) ?_
          refine lv_iload_n hx hb dX12_holds_67 rfl (lv_at hl 1 rfl) ?_
          refine lv_iadd hx hb dX12_holds_68 ?_
          refine lv_iload_n hx hb dX12_holds_69 rfl (lv_at hl 2 rfl) ?_
          refine mo_iast X w hm 0 (by decide) (by decide) (5 + r) (hs_addI rfl rfl) (by show _ < 1400; omega) dX12_holds_70 (fun H locs w => ?_)
          rw [mo_w_w] at w
          rw [mo_w_id] at w
          refine lv_iload_n hx hb dX12_holds_71 rfl (lv_at hl 3 rfl) ?_
          exact hend H locs (hs_hold (M 0) n r 40) (L, mo_F D f mo ma M) _ ls w ⟨(by (try simp only [lg_cmp_le, lg_cmp_ge, lg_cmp_lt, lg_cmp_gt, ← Int32.not_lt, ← Int64.not_lt, Classical.not_not] at c_5 c_29); first | (simp [q_holds, c_5, c_29, hrc]; done) | (simp [q_holds, c_5, c_29, hrc]; done) | (exfalso; clear hend; simp_all; done)), rfl⟩ rfl dX12_holds_72
        · have hkl : k < 40 := by
            rcases Nat.lt_or_ge k 40 with q | q
            · exact q
            · exact absurd (by rw [show 40 - k = 0 by omega]; decide) c_29
          have hv0 : ¬ nI (40 - k) = 0 := nI_ne0 (by omega) (by omega)
          refine lv_aload_n hx hb dX12_holds_32 rfl (lv_at hl 0 rfl) ?_
          refine mo_get X w hm hin 0 (by decide) (List.mem_of_getElem? (i := 2) rfl) rfl dX12_holds_33 ?_
          refine lv_iconst (v := 5) hx hb dX12_holds_36 (by decide) ?_
          refine lv_iload_n hx hb dX12_holds_37 rfl (lv_at hl 1 rfl) ?_
          refine lv_iadd hx hb dX12_holds_38 ?_
          refine lv_iload hx hb dX12_holds_39 (lv_at hl 4 rfl) ?_
          refine mo_iast X w hm 0 (by decide) (by decide) (5 + r) (hs_addI rfl rfl) (by show _ < 1400; omega) dX12_holds_41 (fun H locs w => ?_)
          rw [mo_w_w] at w
          refine lv_aload_n hx hb dX12_holds_42 rfl (lv_at hl 0 rfl) ?_
          refine hg_viF (r := (hs_drop (va_up (M 0) (5 + r) (nI (40 - k))) n n)) (As := []) (rest := []) X w (c_X12_dropping l D b0 L f mo ma (mo_w M 0 (5 + r) (nI (40 - k))) hm n nr (hs_ok_wt (by omega) (by assumption) hv) ) (cwV 0 hts gX12_holds_X12_dropping rfl rfl rfl hdX12_dropping ⟨Nat.le_of_ble_eq_true rfl, Nat.le_of_ble_eq_true rfl⟩) hm.1 (mo_at0 D f mo ma _) rfl rfl rfl hl.1 rfl (Nat.le_of_ble_eq_true rfl) dX12_holds_43 ⟨Nat.zero_le _, Nat.zero_le _⟩ (fun H locs w => ?_)
          refine lv_if_ne (tgt := 54) hx hb dX12_holds_46 (by decide) (fun c_46 => ?_) (fun c_46 => ?_)
          · refine lv_iload_n hx hb dX12_holds_54 rfl (lv_at hl 3 rfl) ?_
            refine lv_istore_n (lv' := [(3, .int (hs_hold (M 0) n r k)), (0, .ref mo), (1, .int (nI r)), (2, .int (M 0 (5 + r))), (4, .int (nI (40 - k)))]) hx hb dX12_holds_55 rfl hl (by decide) rfl (fun ls hl => ?_)
            refine lv_iinc (v := nI (40 - k) + (-1)) (lv' := [(4, .int (nI (40 - k) + (-1))), (3, .int (hs_hold (M 0) n r k)), (0, .ref mo), (1, .int (nI r)), (2, .int (M 0 (5 + r)))]) hx hb dX12_holds_56 hl (k := 4) rfl rfl (by decide) rfl (fun ls hl => ?_)
            refine lv_goto (tgt := 27) hx hb dX12_holds_59 (by decide) ?_
            have he3 : (hs_hold (M 0) n r k) = hs_hold (M 0) n r (k + 1) := by simp [hs_hold, c_5, c_29, c_46, hrc]
            have hl := hs_lv hl (k := 1) rfl he3
            have he4 : (nI (40 - k) + (-1)) = nI (40 - (k + 1)) := by rw [hs_dec (by omega)]; rfl
            have hl := hs_lv hl (k := 0) rfl he4
            exact ih (k + 1) (by omega) (by omega) _ H locs ls w (lv_sub hl [2, 3, 4, 1, 0] rfl)
          · refine lv_iload hx hb dX12_holds_49 (lv_at hl 4 rfl) ?_
            refine lv_goto (tgt := 55) hx hb dX12_holds_51 (by decide) ?_
            refine lv_istore_n (lv' := [(3, .int (nI (40 - k))), (0, .ref mo), (1, .int (nI r)), (2, .int (M 0 (5 + r))), (4, .int (nI (40 - k)))]) hx hb dX12_holds_55 rfl hl (by decide) rfl (fun ls hl => ?_)
            refine lv_iinc (v := nI (40 - k) + (-1)) (lv' := [(4, .int (nI (40 - k) + (-1))), (3, .int (nI (40 - k))), (0, .ref mo), (1, .int (nI r)), (2, .int (M 0 (5 + r)))]) hx hb dX12_holds_56 hl (k := 4) rfl rfl (by decide) rfl (fun ls hl => ?_)
            refine lv_goto (tgt := 27) hx hb dX12_holds_59 (by decide) ?_
            have he3 : (nI (40 - k)) = hs_hold (M 0) n r (k + 1) := by simp [hs_hold, c_5, c_29, c_46, hrc]
            have hl := hs_lv hl (k := 1) rfl he3
            have he4 : (nI (40 - k) + (-1)) = nI (40 - (k + 1)) := by rw [hs_dec (by omega)]; rfl
            have hl := hs_lv hl (k := 0) rfl he4
            exact ih (k + 1) (by omega) (by omega) _ H locs ls w (lv_sub hl [2, 3, 4, 1, 0] rfl)
    exact loop 41 0 (by omega) (by omega) (M 0 (5 + r)) H locs ls (by rw [mo_w_id]; exact w) (lv_sub hl [3, 4, 2, 1, 0] rfl)
  · refine lv_ldc (v := (-1000001)) hx hb hown (hts _ (List.mem_of_getElem? (i := 1) rfl)) dX12_holds_8 ?_
    exact hend H locs ((-1000001)) (L, mo_F D f mo ma M) _ ls w ⟨(by (try simp only [lg_cmp_le, lg_cmp_ge, lg_cmp_lt, lg_cmp_gt, ← Int32.not_lt, ← Int64.not_lt, Classical.not_not] at c_5); first | (simp [q_holds, c_5]; done) | (simp [q_holds, eq_true c_5]; done) | (exfalso; clear hend; simp_all; done)), rfl⟩ rfl dX12_holds_10
