set_option maxRecDepth 100000 in
set_option maxHeartbeats 4000000 in
/-- dearest -/
theorem c_X12_dearest (l : Launch) (D : va_G) (b0 : Nat) (L : List Nat) (f : Nat → va_E) (mo : Nat) (ma : Nat → Nat) (M : Nat → Nat → Int32) (hm : mo_ok L mo ma) (n nr : Nat) (hv : hs_ok (M 0) n nr) (x : Int32) : mo_Fi l yX12_dearest wsX12_dearest ({ frames := 6, cells := 0, slots := 0, locals := 138 }) D b0 L f mo ma M [.int (x)] (q_dearest (M 0) n x) (M) := by
  refine hg_in_i (cc := cX12_dearest) (nL := 8) (by decide) rfl (Nat.le_of_ble_eq_true rfl) (fun p e s m args below meth c R Q X hR hend H locs ls w hl => ?_)
  subst hR
  obtain ⟨hx, hb, hml, hown, hts⟩ := id X.1
  have hin : ∀ w ∈ wsX120, w ∈ wsX12_dearest := fun w h => List.mem_cons_of_mem _ (List.mem_append_right _ h)
  have hl : lv_has ls 8 [(0, .ref mo), (1, .int (x))] := hl
  obtain ⟨hn, hn6, hnr, hnr3, htt⟩ := id hv
  refine lv_aload_n hx hb dX12_dearest_0 rfl (lv_at hl 0 rfl) ?_
  refine lv_iload_n hx hb dX12_dearest_1 rfl (lv_at hl 1 rfl) ?_
  refine hg_viF (r := hs_isSt (M 0) x) (As := [.int (x)]) (rest := []) X w (c_X12_isStall l D b0 L f mo ma M hm x) (cwV 1 hts gX12_dearest_X12_isStall rfl rfl rfl hdX12_isStall ⟨Nat.le_of_ble_eq_true rfl, Nat.le_of_ble_eq_true rfl⟩) hm.1 (mo_at0 D f mo ma _) rfl rfl rfl hl.1 rfl (Nat.le_of_ble_eq_true rfl) dX12_dearest_2 ⟨Nat.zero_le _, Nat.zero_le _⟩ (fun H locs w => ?_)
  refine lv_if_ne (tgt := 11) hx hb dX12_dearest_5 (by decide) (fun c_5 => ?_) (fun c_5 => ?_)
  · obtain ⟨j, hj, rfl⟩ := hs_st_1 hv c_5
    have hjc := hs_cl hj (by omega)
    refine lv_aload_n hx hb dX12_dearest_11 rfl (lv_at hl 0 rfl) ?_
    refine mo_get X w hm hin 0 (by decide) (List.mem_of_getElem? (i := 2) rfl) rfl dX12_dearest_12 ?_
    refine lv_bipush (v := 20) hx hb dX12_dearest_15 (by decide) ?_
    refine lv_iload_n hx hb dX12_dearest_17 rfl (lv_at hl 1 rfl) ?_
    refine lv_iadd hx hb dX12_dearest_18 ?_
    refine mo_iald X w hm 0 (by decide) (by decide) (20 + j) (hs_addI rfl rfl) (by show _ < 1400; omega) dX12_dearest_19 ?_
    refine lv_istore_n (lv' := [(2, .int (M 0 (20 + j))), (0, .ref mo), (1, .int (nI j))]) hx hb dX12_dearest_20 rfl hl (by decide) rfl (fun ls hl => ?_)
    refine lv_ldc (v := (-1000000)) hx hb hown (hts _ (List.mem_of_getElem? (i := 3) rfl)) dX12_dearest_21 ?_
    refine lv_istore_n (lv' := [(3, .int ((-1000000))), (2, .int (M 0 (20 + j))), (0, .ref mo), (1, .int (nI j))]) hx hb dX12_dearest_23 rfl hl (by decide) rfl (fun ls hl => ?_)
    refine lv_iconst (v := (-1)) hx hb dX12_dearest_24 (by decide) ?_
    refine lv_istore (lv' := [(4, .int ((-1))), (3, .int ((-1000000))), (2, .int (M 0 (20 + j))), (0, .ref mo), (1, .int (nI j))]) hx hb dX12_dearest_25 hl (by decide) rfl (fun ls hl => ?_)
    refine lv_iconst (v := 1) hx hb dX12_dearest_27 (by decide) ?_
    refine lv_istore (lv' := [(5, .int (1)), (4, .int ((-1))), (3, .int ((-1000000))), (2, .int (M 0 (20 + j))), (0, .ref mo), (1, .int (nI j))]) hx hb dX12_dearest_28 hl (by decide) rfl (fun ls hl => ?_)
    have loop : ∀ (n0 k : Nat), k ≤ 8 → 8 + 1 ≤ k + n0 → ∀ (u0 : Int32), ∀ (H : Heap) (locs : List Loc) (ls : Array Slot), hg_W D b0 L (mo_F D f mo ma (mo_w M 0 (20 + j) (u0))) s.heap H locs → lv_has ls 8 [(0, .ref mo), (1, .int (nI j)), (2, .int (M 0 (20 + j))), (3, .int (hs_dearB (M 0) n j k)), (4, .int (hs_dearM (M 0) n j k)), (5, .int (nI (k + 1)))] → W p l e ({ frames := 6, cells := 0, slots := 0, locals := 138 }) s m args below meth c H locs 0 0 Q (F0 m 30 ls []) := by
      intro n0
      induction n0 with
      | zero =>
        intro k h1 h2
        exact absurd h2 (by omega)
      | succ n0 ih =>
        intro k hk hn0 u0 H locs ls w hl
        refine lv_iload hx hb dX12_dearest_30 (lv_at hl 5 rfl) ?_
        refine lv_bipush (v := 8) hx hb dX12_dearest_32 (by decide) ?_
        refine lv_icmp_gt (tgt := 134) hx hb dX12_dearest_34 (by decide) (fun c_34 => ?_) (fun c_34 => ?_)
        · have hk : 8 = k := by
            rcases Nat.lt_or_ge k 8 with q | q
            · exact absurd c_34 (nI_nlt (a := 8) (b := (k + 1)) (by omega) (by omega))
            · omega
          subst hk
          refine lv_aload_n hx hb dX12_dearest_134 rfl (lv_at hl 0 rfl) ?_
          refine mo_get X w hm hin 0 (by decide) (List.mem_of_getElem? (i := 2) rfl) rfl dX12_dearest_135 ?_
          refine lv_bipush (v := 20) hx hb dX12_dearest_138 (by decide) ?_
          refine lv_iload_n hx hb dX12_dearest_140 rfl (lv_at hl 1 rfl) ?_
          refine lv_iadd hx hb dX12_dearest_141 ?_
          refine lv_iload_n hx hb dX12_dearest_142 rfl (lv_at hl 2 rfl) ?_
          refine mo_iast X w hm 0 (by decide) (by decide) (20 + j) (hs_addI rfl rfl) (by show _ < 1400; omega) dX12_dearest_143 (fun H locs w => ?_)
          rw [mo_w_w] at w
          rw [mo_w_id] at w
          refine lv_iload_n hx hb dX12_dearest_144 rfl (lv_at hl 3 rfl) ?_
          exact hend H locs (hs_dearB (M 0) n j 8) (L, mo_F D f mo ma M) _ ls w ⟨(by (try simp only [lg_cmp_le, lg_cmp_ge, lg_cmp_lt, lg_cmp_gt, ← Int32.not_lt, ← Int64.not_lt, Classical.not_not] at c_5 c_34); first | (simp [q_dearest, c_5, c_34, hjc]; done) | (simp [q_dearest, c_5, c_34, hjc]; done) | (exfalso; clear hend; simp_all; done)), rfl⟩ rfl dX12_dearest_145
        · have hkl : k < 8 := by
            rcases Nat.lt_or_ge k 8 with q | q
            · exact q
            · exact absurd (nI_lt (a := 8) (b := (k + 1)) (by omega) (by omega)) c_34
          refine lv_aload_n hx hb dX12_dearest_37 rfl (lv_at hl 0 rfl) ?_
          refine mo_get X w hm hin 0 (by decide) (List.mem_of_getElem? (i := 2) rfl) rfl dX12_dearest_38 ?_
          refine lv_bipush (v := 20) hx hb dX12_dearest_41 (by decide) ?_
          refine lv_iload_n hx hb dX12_dearest_43 rfl (lv_at hl 1 rfl) ?_
          refine lv_iadd hx hb dX12_dearest_44 ?_
          refine lv_iload_n hx hb dX12_dearest_45 rfl (lv_at hl 2 rfl) ?_
          refine mo_iast X w hm 0 (by decide) (by decide) (20 + j) (hs_addI rfl rfl) (by show _ < 1400; omega) dX12_dearest_46 (fun H locs w => ?_)
          rw [mo_w_w] at w
          rw [mo_w_id] at w
          refine lv_aload_n hx hb dX12_dearest_47 rfl (lv_at hl 0 rfl) ?_
          refine lv_iconst (v := 0) hx hb dX12_dearest_48 (by decide) ?_
          refine lv_aload_n hx hb dX12_dearest_49 rfl (lv_at hl 0 rfl) ?_
          refine mo_get X w hm hin 0 (by decide) (List.mem_of_getElem? (i := 2) rfl) rfl dX12_dearest_50 ?_
          refine lv_bipush (v := 14) hx hb dX12_dearest_53 (by decide) ?_
          refine lv_iload_n hx hb dX12_dearest_55 rfl (lv_at hl 1 rfl) ?_
          refine lv_iadd hx hb dX12_dearest_56 ?_
          refine mo_iald X w hm 0 (by decide) (by decide) (14 + j) (hs_addI rfl rfl) (by show _ < 1400; omega) dX12_dearest_57 ?_
          refine lv_iload hx hb dX12_dearest_58 (lv_at hl 5 rfl) ?_
          refine hg_viF (r := (hs_who (M 0) (M 0 (14 + j)) (nI (k + 1)) n)) (As := [.int (0), .int (M 0 (14 + j)), .int (nI (k + 1))]) (rest := []) X w (c_X12_whoIs0 l D b0 L f mo ma M hm n hn hn6 (M 0 (14 + j)) (nI (k + 1))) (cwV 3 hts gX12_dearest_X12_whoIs rfl rfl rfl hdX12_whoIs ⟨Nat.le_of_ble_eq_true rfl, Nat.le_of_ble_eq_true rfl⟩) hm.1 (mo_at0 D f mo ma _) rfl rfl rfl hl.1 rfl (Nat.le_of_ble_eq_true rfl) dX12_dearest_60 ⟨Nat.zero_le _, Nat.zero_le _⟩ (fun H locs w => ?_)
          refine lv_istore (lv' := [(6, .int ((hs_who (M 0) (M 0 (14 + j)) (nI (k + 1)) n))), (0, .ref mo), (1, .int (nI j)), (2, .int (M 0 (20 + j))), (3, .int (hs_dearB (M 0) n j k)), (4, .int (hs_dearM (M 0) n j k)), (5, .int (nI (k + 1)))]) hx hb dX12_dearest_63 hl (by decide) rfl (fun ls hl => ?_)
          refine lv_aload_n hx hb dX12_dearest_65 rfl (lv_at hl 1 rfl) ?_
          refine mo_get X w hm hin 0 (by decide) (List.mem_of_getElem? (i := 2) rfl) rfl dX12_dearest_66 ?_
          refine lv_bipush (v := 20) hx hb dX12_dearest_69 (by decide) ?_
          refine lv_iload_n hx hb dX12_dearest_71 rfl (lv_at hl 2 rfl) ?_
          refine lv_iadd hx hb dX12_dearest_72 ?_
          refine lv_iload hx hb dX12_dearest_73 (lv_at hl 6 rfl) ?_
          refine mo_iast X w hm 0 (by decide) (by decide) (20 + j) (hs_addI rfl rfl) (by show _ < 1400; omega) dX12_dearest_75 (fun H locs w => ?_)
          refine lv_iload hx hb dX12_dearest_76 (lv_at hl 0 rfl) ?_
          refine lv_if_lt (tgt := 87) hx hb dX12_dearest_78 (by decide) (fun c_78 => ?_) (fun c_78 => ?_)
          · refine lv_aload_n hx hb dX12_dearest_87 rfl (lv_at hl 1 rfl) ?_
            refine lv_iload_n hx hb dX12_dearest_88 rfl (lv_at hl 2 rfl) ?_
            refine hg_viF (r := (hs_price (va_up (M 0) (20 + j) (nI (k + 1))) n j)) (As := [.int (nI j)]) (rest := []) X w (c_X12_priceOf l D b0 L f mo ma (mo_w M 0 (20 + j) (nI (k + 1))) hm n nr (hs_ok_w (by omega) hv) j (by omega)) (cwV 1 hts gX12_dearest_X12_priceOf rfl rfl rfl hdX12_priceOf ⟨Nat.le_of_ble_eq_true rfl, Nat.le_of_ble_eq_true rfl⟩) hm.1 (mo_at0 D f mo ma _) rfl rfl rfl hl.1 rfl (Nat.le_of_ble_eq_true rfl) dX12_dearest_89 ⟨Nat.zero_le _, Nat.zero_le _⟩ (fun H locs w => ?_)
            refine lv_goto (tgt := 96) hx hb dX12_dearest_92 (by decide) ?_
            refine lv_istore (lv' := [(7, .int ((hs_price (va_up (M 0) (20 + j) (nI (k + 1))) n j))), (6, .int ((hs_who (M 0) (M 0 (14 + j)) (nI (k + 1)) n))), (0, .ref mo), (1, .int (nI j)), (2, .int (M 0 (20 + j))), (3, .int (hs_dearB (M 0) n j k)), (4, .int (hs_dearM (M 0) n j k)), (5, .int (nI (k + 1)))]) hx hb dX12_dearest_96 hl (by decide) rfl (fun ls hl => ?_)
            refine lv_iload hx hb dX12_dearest_98 (lv_at hl 0 rfl) ?_
            refine lv_iload hx hb dX12_dearest_100 (lv_at hl 6 rfl) ?_
            refine lv_icmp_le (tgt := 110) hx hb dX12_dearest_102 (by decide) (fun c_102 => ?_) (fun c_102 => ?_)
            · refine lv_iload_n hx hb dX12_dearest_110 rfl (lv_at hl 5 rfl) ?_
              refine lv_istore_n (lv' := [(3, .int (hs_dearB (M 0) n j k)), (7, .int ((hs_price (va_up (M 0) (20 + j) (nI (k + 1))) n j))), (6, .int ((hs_who (M 0) (M 0 (14 + j)) (nI (k + 1)) n))), (0, .ref mo), (1, .int (nI j)), (2, .int (M 0 (20 + j))), (4, .int (hs_dearM (M 0) n j k)), (5, .int (nI (k + 1)))]) hx hb dX12_dearest_111 rfl hl (by decide) rfl (fun ls hl => ?_)
              refine lv_iload hx hb dX12_dearest_112 (lv_at hl 1 rfl) ?_
              refine lv_iload hx hb dX12_dearest_114 (lv_at hl 6 rfl) ?_
              refine lv_icmp_le (tgt := 124) hx hb dX12_dearest_116 (by decide) (fun c_116 => ?_) (fun c_116 => ?_)
              · refine lv_iload hx hb dX12_dearest_124 (lv_at hl 6 rfl) ?_
                refine lv_istore (lv' := [(4, .int (hs_dearM (M 0) n j k)), (3, .int (hs_dearB (M 0) n j k)), (7, .int ((hs_price (va_up (M 0) (20 + j) (nI (k + 1))) n j))), (6, .int ((hs_who (M 0) (M 0 (14 + j)) (nI (k + 1)) n))), (0, .ref mo), (1, .int (nI j)), (2, .int (M 0 (20 + j))), (5, .int (nI (k + 1)))]) hx hb dX12_dearest_126 hl (by decide) rfl (fun ls hl => ?_)
                refine lv_iinc (v := nI (k + 1) + 1) (lv' := [(5, .int (nI (k + 1) + 1)), (4, .int (hs_dearM (M 0) n j k)), (3, .int (hs_dearB (M 0) n j k)), (7, .int ((hs_price (va_up (M 0) (20 + j) (nI (k + 1))) n j))), (6, .int ((hs_who (M 0) (M 0 (14 + j)) (nI (k + 1)) n))), (0, .ref mo), (1, .int (nI j)), (2, .int (M 0 (20 + j)))]) hx hb dX12_dearest_128 hl (k := 7) rfl rfl (by decide) rfl (fun ls hl => ?_)
                refine lv_goto (tgt := 30) hx hb dX12_dearest_131 (by decide) ?_
                have he3 : (hs_dearB (M 0) n j k) = hs_dearB (M 0) n j (k + 1) := by (try simp only [lg_cmp_le, lg_cmp_ge, lg_cmp_lt, lg_cmp_gt, ← Int32.not_lt, ← Int64.not_lt, Classical.not_not] at c_5 c_34 c_78 c_102 c_116); first | (simp [hs_dearB, hs_prAt, c_5, c_34, c_78, c_102, c_116, hjc]; done) | (simp [hs_dearB, hs_prAt, c_5, c_34, c_78, c_102, c_116, hjc]; done) | (exfalso; clear hend ih; simp_all; done)
                have hl := hs_lv hl (k := 2) rfl he3
                have he4 : (hs_dearM (M 0) n j k) = hs_dearM (M 0) n j (k + 1) := by (try simp only [lg_cmp_le, lg_cmp_ge, lg_cmp_lt, lg_cmp_gt, ← Int32.not_lt, ← Int64.not_lt, Classical.not_not] at c_5 c_34 c_78 c_102 c_116); first | (simp [hs_dearM, hs_prAt, c_5, c_34, c_78, c_102, c_116, hjc]; done) | (simp [hs_dearM, hs_prAt, c_5, c_34, c_78, c_102, c_116, hjc]; done) | (exfalso; clear hend ih; simp_all; done)
                have hl := hs_lv hl (k := 1) rfl he4
                have hl := hs_lv hl (k := 0) rfl (nI_1 (k + 1))
                exact ih (k + 1) (by omega) (by omega) _ H locs ls w (lv_sub hl [5, 6, 7, 2, 1, 0] rfl)
              · refine lv_iload hx hb dX12_dearest_119 (lv_at hl 1 rfl) ?_
                refine lv_goto (tgt := 126) hx hb dX12_dearest_121 (by decide) ?_
                refine lv_istore (lv' := [(4, .int ((hs_price (va_up (M 0) (20 + j) (nI (k + 1))) n j))), (3, .int (hs_dearB (M 0) n j k)), (7, .int ((hs_price (va_up (M 0) (20 + j) (nI (k + 1))) n j))), (6, .int ((hs_who (M 0) (M 0 (14 + j)) (nI (k + 1)) n))), (0, .ref mo), (1, .int (nI j)), (2, .int (M 0 (20 + j))), (5, .int (nI (k + 1)))]) hx hb dX12_dearest_126 hl (by decide) rfl (fun ls hl => ?_)
                refine lv_iinc (v := nI (k + 1) + 1) (lv' := [(5, .int (nI (k + 1) + 1)), (4, .int ((hs_price (va_up (M 0) (20 + j) (nI (k + 1))) n j))), (3, .int (hs_dearB (M 0) n j k)), (7, .int ((hs_price (va_up (M 0) (20 + j) (nI (k + 1))) n j))), (6, .int ((hs_who (M 0) (M 0 (14 + j)) (nI (k + 1)) n))), (0, .ref mo), (1, .int (nI j)), (2, .int (M 0 (20 + j)))]) hx hb dX12_dearest_128 hl (k := 7) rfl rfl (by decide) rfl (fun ls hl => ?_)
                refine lv_goto (tgt := 30) hx hb dX12_dearest_131 (by decide) ?_
                have he3 : (hs_dearB (M 0) n j k) = hs_dearB (M 0) n j (k + 1) := by (try simp only [lg_cmp_le, lg_cmp_ge, lg_cmp_lt, lg_cmp_gt, ← Int32.not_lt, ← Int64.not_lt, Classical.not_not] at c_5 c_34 c_78 c_102 c_116); first | (simp [hs_dearB, hs_prAt, c_5, c_34, c_78, c_102, c_116, hjc]; done) | (simp [hs_dearB, hs_prAt, c_5, c_34, c_78, c_102, c_116, hjc]; done) | (exfalso; clear hend ih; simp_all; done)
                have hl := hs_lv hl (k := 2) rfl he3
                have he4 : (hs_price (va_up (M 0) (20 + j) (nI (k + 1))) n j) = hs_dearM (M 0) n j (k + 1) := by (try simp only [lg_cmp_le, lg_cmp_ge, lg_cmp_lt, lg_cmp_gt, ← Int32.not_lt, ← Int64.not_lt, Classical.not_not] at c_5 c_34 c_78 c_102 c_116); first | (simp [hs_dearM, hs_prAt, c_5, c_34, c_78, c_102, c_116, hjc]; done) | (simp [hs_dearM, hs_prAt, c_5, c_34, c_78, c_102, c_116, hjc]; done) | (exfalso; clear hend ih; simp_all; done)
                have hl := hs_lv hl (k := 1) rfl he4
                have hl := hs_lv hl (k := 0) rfl (nI_1 (k + 1))
                exact ih (k + 1) (by omega) (by omega) _ H locs ls w (lv_sub hl [5, 6, 7, 2, 1, 0] rfl)
            · refine lv_iload hx hb dX12_dearest_105 (lv_at hl 7 rfl) ?_
              refine lv_goto (tgt := 111) hx hb dX12_dearest_107 (by decide) ?_
              refine lv_istore_n (lv' := [(3, .int (nI (k + 1))), (7, .int ((hs_price (va_up (M 0) (20 + j) (nI (k + 1))) n j))), (6, .int ((hs_who (M 0) (M 0 (14 + j)) (nI (k + 1)) n))), (0, .ref mo), (1, .int (nI j)), (2, .int (M 0 (20 + j))), (4, .int (hs_dearM (M 0) n j k)), (5, .int (nI (k + 1)))]) hx hb dX12_dearest_111 rfl hl (by decide) rfl (fun ls hl => ?_)
              refine lv_iload hx hb dX12_dearest_112 (lv_at hl 1 rfl) ?_
              refine lv_iload hx hb dX12_dearest_114 (lv_at hl 6 rfl) ?_
              refine lv_icmp_le (tgt := 124) hx hb dX12_dearest_116 (by decide) (fun c_116 => ?_) (fun c_116 => ?_)
              · refine lv_iload hx hb dX12_dearest_124 (lv_at hl 6 rfl) ?_
                refine lv_istore (lv' := [(4, .int (hs_dearM (M 0) n j k)), (3, .int (nI (k + 1))), (7, .int ((hs_price (va_up (M 0) (20 + j) (nI (k + 1))) n j))), (6, .int ((hs_who (M 0) (M 0 (14 + j)) (nI (k + 1)) n))), (0, .ref mo), (1, .int (nI j)), (2, .int (M 0 (20 + j))), (5, .int (nI (k + 1)))]) hx hb dX12_dearest_126 hl (by decide) rfl (fun ls hl => ?_)
                refine lv_iinc (v := nI (k + 1) + 1) (lv' := [(5, .int (nI (k + 1) + 1)), (4, .int (hs_dearM (M 0) n j k)), (3, .int (nI (k + 1))), (7, .int ((hs_price (va_up (M 0) (20 + j) (nI (k + 1))) n j))), (6, .int ((hs_who (M 0) (M 0 (14 + j)) (nI (k + 1)) n))), (0, .ref mo), (1, .int (nI j)), (2, .int (M 0 (20 + j)))]) hx hb dX12_dearest_128 hl (k := 7) rfl rfl (by decide) rfl (fun ls hl => ?_)
                refine lv_goto (tgt := 30) hx hb dX12_dearest_131 (by decide) ?_
                have he3 : (nI (k + 1)) = hs_dearB (M 0) n j (k + 1) := by (try simp only [lg_cmp_le, lg_cmp_ge, lg_cmp_lt, lg_cmp_gt, ← Int32.not_lt, ← Int64.not_lt, Classical.not_not] at c_5 c_34 c_78 c_102 c_116); first | (simp [hs_dearB, hs_prAt, c_5, c_34, c_78, c_102, c_116, hjc]; done) | (simp [hs_dearB, hs_prAt, c_5, c_34, c_78, c_102, c_116, hjc]; done) | (exfalso; clear hend ih; simp_all; done)
                have hl := hs_lv hl (k := 2) rfl he3
                have he4 : (hs_dearM (M 0) n j k) = hs_dearM (M 0) n j (k + 1) := by (try simp only [lg_cmp_le, lg_cmp_ge, lg_cmp_lt, lg_cmp_gt, ← Int32.not_lt, ← Int64.not_lt, Classical.not_not] at c_5 c_34 c_78 c_102 c_116); first | (simp [hs_dearM, hs_prAt, c_5, c_34, c_78, c_102, c_116, hjc]; done) | (simp [hs_dearM, hs_prAt, c_5, c_34, c_78, c_102, c_116, hjc]; done) | (exfalso; clear hend ih; simp_all; done)
                have hl := hs_lv hl (k := 1) rfl he4
                have hl := hs_lv hl (k := 0) rfl (nI_1 (k + 1))
                exact ih (k + 1) (by omega) (by omega) _ H locs ls w (lv_sub hl [5, 6, 7, 2, 1, 0] rfl)
              · refine lv_iload hx hb dX12_dearest_119 (lv_at hl 1 rfl) ?_
                refine lv_goto (tgt := 126) hx hb dX12_dearest_121 (by decide) ?_
                refine lv_istore (lv' := [(4, .int ((hs_price (va_up (M 0) (20 + j) (nI (k + 1))) n j))), (3, .int (nI (k + 1))), (7, .int ((hs_price (va_up (M 0) (20 + j) (nI (k + 1))) n j))), (6, .int ((hs_who (M 0) (M 0 (14 + j)) (nI (k + 1)) n))), (0, .ref mo), (1, .int (nI j)), (2, .int (M 0 (20 + j))), (5, .int (nI (k + 1)))]) hx hb dX12_dearest_126 hl (by decide) rfl (fun ls hl => ?_)
                refine lv_iinc (v := nI (k + 1) + 1) (lv' := [(5, .int (nI (k + 1) + 1)), (4, .int ((hs_price (va_up (M 0) (20 + j) (nI (k + 1))) n j))), (3, .int (nI (k + 1))), (7, .int ((hs_price (va_up (M 0) (20 + j) (nI (k + 1))) n j))), (6, .int ((hs_who (M 0) (M 0 (14 + j)) (nI (k + 1)) n))), (0, .ref mo), (1, .int (nI j)), (2, .int (M 0 (20 + j)))]) hx hb dX12_dearest_128 hl (k := 7) rfl rfl (by decide) rfl (fun ls hl => ?_)
                refine lv_goto (tgt := 30) hx hb dX12_dearest_131 (by decide) ?_
                have he3 : (nI (k + 1)) = hs_dearB (M 0) n j (k + 1) := by (try simp only [lg_cmp_le, lg_cmp_ge, lg_cmp_lt, lg_cmp_gt, ← Int32.not_lt, ← Int64.not_lt, Classical.not_not] at c_5 c_34 c_78 c_102 c_116); first | (simp [hs_dearB, hs_prAt, c_5, c_34, c_78, c_102, c_116, hjc]; done) | (simp [hs_dearB, hs_prAt, c_5, c_34, c_78, c_102, c_116, hjc]; done) | (exfalso; clear hend ih; simp_all; done)
                have hl := hs_lv hl (k := 2) rfl he3
                have he4 : (hs_price (va_up (M 0) (20 + j) (nI (k + 1))) n j) = hs_dearM (M 0) n j (k + 1) := by (try simp only [lg_cmp_le, lg_cmp_ge, lg_cmp_lt, lg_cmp_gt, ← Int32.not_lt, ← Int64.not_lt, Classical.not_not] at c_5 c_34 c_78 c_102 c_116); first | (simp [hs_dearM, hs_prAt, c_5, c_34, c_78, c_102, c_116, hjc]; done) | (simp [hs_dearM, hs_prAt, c_5, c_34, c_78, c_102, c_116, hjc]; done) | (exfalso; clear hend ih; simp_all; done)
                have hl := hs_lv hl (k := 1) rfl he4
                have hl := hs_lv hl (k := 0) rfl (nI_1 (k + 1))
                exact ih (k + 1) (by omega) (by omega) _ H locs ls w (lv_sub hl [5, 6, 7, 2, 1, 0] rfl)
          · refine lv_iload hx hb dX12_dearest_81 (lv_at hl 0 rfl) ?_
            refine lv_iload_n hx hb dX12_dearest_83 rfl (lv_at hl 2 rfl) ?_
            refine lv_icmp_ne (tgt := 95) hx hb dX12_dearest_84 (by decide) (fun c_84 => ?_) (fun c_84 => ?_)
            · refine lv_iconst (v := (-1)) hx hb dX12_dearest_95 (by decide) ?_
              refine lv_istore (lv' := [(7, .int ((-1))), (6, .int ((hs_who (M 0) (M 0 (14 + j)) (nI (k + 1)) n))), (0, .ref mo), (1, .int (nI j)), (2, .int (M 0 (20 + j))), (3, .int (hs_dearB (M 0) n j k)), (4, .int (hs_dearM (M 0) n j k)), (5, .int (nI (k + 1)))]) hx hb dX12_dearest_96 hl (by decide) rfl (fun ls hl => ?_)
              refine lv_iload hx hb dX12_dearest_98 (lv_at hl 0 rfl) ?_
              refine lv_iload hx hb dX12_dearest_100 (lv_at hl 6 rfl) ?_
              refine lv_icmp_le (tgt := 110) hx hb dX12_dearest_102 (by decide) (fun c_102 => ?_) (fun c_102 => ?_)
              · refine lv_iload_n hx hb dX12_dearest_110 rfl (lv_at hl 5 rfl) ?_
                refine lv_istore_n (lv' := [(3, .int (hs_dearB (M 0) n j k)), (7, .int ((-1))), (6, .int ((hs_who (M 0) (M 0 (14 + j)) (nI (k + 1)) n))), (0, .ref mo), (1, .int (nI j)), (2, .int (M 0 (20 + j))), (4, .int (hs_dearM (M 0) n j k)), (5, .int (nI (k + 1)))]) hx hb dX12_dearest_111 rfl hl (by decide) rfl (fun ls hl => ?_)
                refine lv_iload hx hb dX12_dearest_112 (lv_at hl 1 rfl) ?_
                refine lv_iload hx hb dX12_dearest_114 (lv_at hl 6 rfl) ?_
                refine lv_icmp_le (tgt := 124) hx hb dX12_dearest_116 (by decide) (fun c_116 => ?_) (fun c_116 => ?_)
                · refine lv_iload hx hb dX12_dearest_124 (lv_at hl 6 rfl) ?_
                  refine lv_istore (lv' := [(4, .int (hs_dearM (M 0) n j k)), (3, .int (hs_dearB (M 0) n j k)), (7, .int ((-1))), (6, .int ((hs_who (M 0) (M 0 (14 + j)) (nI (k + 1)) n))), (0, .ref mo), (1, .int (nI j)), (2, .int (M 0 (20 + j))), (5, .int (nI (k + 1)))]) hx hb dX12_dearest_126 hl (by decide) rfl (fun ls hl => ?_)
                  refine lv_iinc (v := nI (k + 1) + 1) (lv' := [(5, .int (nI (k + 1) + 1)), (4, .int (hs_dearM (M 0) n j k)), (3, .int (hs_dearB (M 0) n j k)), (7, .int ((-1))), (6, .int ((hs_who (M 0) (M 0 (14 + j)) (nI (k + 1)) n))), (0, .ref mo), (1, .int (nI j)), (2, .int (M 0 (20 + j)))]) hx hb dX12_dearest_128 hl (k := 7) rfl rfl (by decide) rfl (fun ls hl => ?_)
                  refine lv_goto (tgt := 30) hx hb dX12_dearest_131 (by decide) ?_
                  have he3 : (hs_dearB (M 0) n j k) = hs_dearB (M 0) n j (k + 1) := by (try simp only [lg_cmp_le, lg_cmp_ge, lg_cmp_lt, lg_cmp_gt, ← Int32.not_lt, ← Int64.not_lt, Classical.not_not] at c_5 c_34 c_78 c_84 c_102 c_116); first | (simp [hs_dearB, hs_prAt, c_5, c_34, c_78, c_84, c_102, c_116, hjc]; done) | (simp [hs_dearB, hs_prAt, c_5, c_34, c_78, c_84, c_102, c_116, hjc]; done) | (exfalso; clear hend ih; simp_all; done)
                  have hl := hs_lv hl (k := 2) rfl he3
                  have he4 : (hs_dearM (M 0) n j k) = hs_dearM (M 0) n j (k + 1) := by (try simp only [lg_cmp_le, lg_cmp_ge, lg_cmp_lt, lg_cmp_gt, ← Int32.not_lt, ← Int64.not_lt, Classical.not_not] at c_5 c_34 c_78 c_84 c_102 c_116); first | (simp [hs_dearM, hs_prAt, c_5, c_34, c_78, c_84, c_102, c_116, hjc]; done) | (simp [hs_dearM, hs_prAt, c_5, c_34, c_78, c_84, c_102, c_116, hjc]; done) | (exfalso; clear hend ih; simp_all; done)
                  have hl := hs_lv hl (k := 1) rfl he4
                  have hl := hs_lv hl (k := 0) rfl (nI_1 (k + 1))
                  exact ih (k + 1) (by omega) (by omega) _ H locs ls w (lv_sub hl [5, 6, 7, 2, 1, 0] rfl)
                · refine lv_iload hx hb dX12_dearest_119 (lv_at hl 1 rfl) ?_
                  refine lv_goto (tgt := 126) hx hb dX12_dearest_121 (by decide) ?_
                  refine lv_istore (lv' := [(4, .int ((-1))), (3, .int (hs_dearB (M 0) n j k)), (7, .int ((-1))), (6, .int ((hs_who (M 0) (M 0 (14 + j)) (nI (k + 1)) n))), (0, .ref mo), (1, .int (nI j)), (2, .int (M 0 (20 + j))), (5, .int (nI (k + 1)))]) hx hb dX12_dearest_126 hl (by decide) rfl (fun ls hl => ?_)
                  refine lv_iinc (v := nI (k + 1) + 1) (lv' := [(5, .int (nI (k + 1) + 1)), (4, .int ((-1))), (3, .int (hs_dearB (M 0) n j k)), (7, .int ((-1))), (6, .int ((hs_who (M 0) (M 0 (14 + j)) (nI (k + 1)) n))), (0, .ref mo), (1, .int (nI j)), (2, .int (M 0 (20 + j)))]) hx hb dX12_dearest_128 hl (k := 7) rfl rfl (by decide) rfl (fun ls hl => ?_)
                  refine lv_goto (tgt := 30) hx hb dX12_dearest_131 (by decide) ?_
                  have he3 : (hs_dearB (M 0) n j k) = hs_dearB (M 0) n j (k + 1) := by (try simp only [lg_cmp_le, lg_cmp_ge, lg_cmp_lt, lg_cmp_gt, ← Int32.not_lt, ← Int64.not_lt, Classical.not_not] at c_5 c_34 c_78 c_84 c_102 c_116); first | (simp [hs_dearB, hs_prAt, c_5, c_34, c_78, c_84, c_102, c_116, hjc]; done) | (simp [hs_dearB, hs_prAt, c_5, c_34, c_78, c_84, c_102, c_116, hjc]; done) | (exfalso; clear hend ih; simp_all; done)
                  have hl := hs_lv hl (k := 2) rfl he3
                  have he4 : (-1) = hs_dearM (M 0) n j (k + 1) := by (try simp only [lg_cmp_le, lg_cmp_ge, lg_cmp_lt, lg_cmp_gt, ← Int32.not_lt, ← Int64.not_lt, Classical.not_not] at c_5 c_34 c_78 c_84 c_102 c_116); first | (simp [hs_dearM, hs_prAt, c_5, c_34, c_78, c_84, c_102, c_116, hjc]; done) | (simp [hs_dearM, hs_prAt, c_5, c_34, c_78, c_84, c_102, c_116, hjc]; done) | (exfalso; clear hend ih; simp_all; done)
                  have hl := hs_lv hl (k := 1) rfl he4
                  have hl := hs_lv hl (k := 0) rfl (nI_1 (k + 1))
                  exact ih (k + 1) (by omega) (by omega) _ H locs ls w (lv_sub hl [5, 6, 7, 2, 1, 0] rfl)
              · refine lv_iload hx hb dX12_dearest_105 (lv_at hl 7 rfl) ?_
                refine lv_goto (tgt := 111) hx hb dX12_dearest_107 (by decide) ?_
                refine lv_istore_n (lv' := [(3, .int (nI (k + 1))), (7, .int ((-1))), (6, .int ((hs_who (M 0) (M 0 (14 + j)) (nI (k + 1)) n))), (0, .ref mo), (1, .int (nI j)), (2, .int (M 0 (20 + j))), (4, .int (hs_dearM (M 0) n j k)), (5, .int (nI (k + 1)))]) hx hb dX12_dearest_111 rfl hl (by decide) rfl (fun ls hl => ?_)
                refine lv_iload hx hb dX12_dearest_112 (lv_at hl 1 rfl) ?_
                refine lv_iload hx hb dX12_dearest_114 (lv_at hl 6 rfl) ?_
                refine lv_icmp_le (tgt := 124) hx hb dX12_dearest_116 (by decide) (fun c_116 => ?_) (fun c_116 => ?_)
                · refine lv_iload hx hb dX12_dearest_124 (lv_at hl 6 rfl) ?_
                  refine lv_istore (lv' := [(4, .int (hs_dearM (M 0) n j k)), (3, .int (nI (k + 1))), (7, .int ((-1))), (6, .int ((hs_who (M 0) (M 0 (14 + j)) (nI (k + 1)) n))), (0, .ref mo), (1, .int (nI j)), (2, .int (M 0 (20 + j))), (5, .int (nI (k + 1)))]) hx hb dX12_dearest_126 hl (by decide) rfl (fun ls hl => ?_)
                  refine lv_iinc (v := nI (k + 1) + 1) (lv' := [(5, .int (nI (k + 1) + 1)), (4, .int (hs_dearM (M 0) n j k)), (3, .int (nI (k + 1))), (7, .int ((-1))), (6, .int ((hs_who (M 0) (M 0 (14 + j)) (nI (k + 1)) n))), (0, .ref mo), (1, .int (nI j)), (2, .int (M 0 (20 + j)))]) hx hb dX12_dearest_128 hl (k := 7) rfl rfl (by decide) rfl (fun ls hl => ?_)
                  refine lv_goto (tgt := 30) hx hb dX12_dearest_131 (by decide) ?_
                  have he3 : (nI (k + 1)) = hs_dearB (M 0) n j (k + 1) := by (try simp only [lg_cmp_le, lg_cmp_ge, lg_cmp_lt, lg_cmp_gt, ← Int32.not_lt, ← Int64.not_lt, Classical.not_not] at c_5 c_34 c_78 c_84 c_102 c_116); first | (simp [hs_dearB, hs_prAt, c_5, c_34, c_78, c_84, c_102, c_116, hjc]; done) | (simp [hs_dearB, hs_prAt, c_5, c_34, c_78, c_84, c_102, c_116, hjc]; done) | (exfalso; clear hend ih; simp_all; done)
                  have hl := hs_lv hl (k := 2) rfl he3
                  have he4 : (hs_dearM (M 0) n j k) = hs_dearM (M 0) n j (k + 1) := by (try simp only [lg_cmp_le, lg_cmp_ge, lg_cmp_lt, lg_cmp_gt, ← Int32.not_lt, ← Int64.not_lt, Classical.not_not] at c_5 c_34 c_78 c_84 c_102 c_116); first | (simp [hs_dearM, hs_prAt, c_5, c_34, c_78, c_84, c_102, c_116, hjc]; done) | (simp [hs_dearM, hs_prAt, c_5, c_34, c_78, c_84, c_102, c_116, hjc]; done) | (exfalso; clear hend ih; simp_all; done)
                  have hl := hs_lv hl (k := 1) rfl he4
                  have hl := hs_lv hl (k := 0) rfl (nI_1 (k + 1))
                  exact ih (k + 1) (by omega) (by omega) _ H locs ls w (lv_sub hl [5, 6, 7, 2, 1, 0] rfl)
                · refine lv_iload hx hb dX12_dearest_119 (lv_at hl 1 rfl) ?_
                  refine lv_goto (tgt := 126) hx hb dX12_dearest_121 (by decide) ?_
                  refine lv_istore (lv' := [(4, .int ((-1))), (3, .int (nI (k + 1))), (7, .int ((-1))), (6, .int ((hs_who (M 0) (M 0 (14 + j)) (nI (k + 1)) n))), (0, .ref mo), (1, .int (nI j)), (2, .int (M 0 (20 + j))), (5, .int (nI (k + 1)))]) hx hb dX12_dearest_126 hl (by decide) rfl (fun ls hl => ?_)
                  refine lv_iinc (v := nI (k + 1) + 1) (lv' := [(5, .int (nI (k + 1) + 1)), (4, .int ((-1))), (3, .int (nI (k + 1))), (7, .int ((-1))), (6, .int ((hs_who (M 0) (M 0 (14 + j)) (nI (k + 1)) n))), (0, .ref mo), (1, .int (nI j)), (2, .int (M 0 (20 + j)))]) hx hb dX12_dearest_128 hl (k := 7) rfl rfl (by decide) rfl (fun ls hl => ?_)
                  refine lv_goto (tgt := 30) hx hb dX12_dearest_131 (by decide) ?_
                  have he3 : (nI (k + 1)) = hs_dearB (M 0) n j (k + 1) := by (try simp only [lg_cmp_le, lg_cmp_ge, lg_cmp_lt, lg_cmp_gt, ← Int32.not_lt, ← Int64.not_lt, Classical.not_not] at c_5 c_34 c_78 c_84 c_102 c_116); first | (simp [hs_dearB, hs_prAt, c_5, c_34, c_78, c_84, c_102, c_116, hjc]; done) | (simp [hs_dearB, hs_prAt, c_5, c_34, c_78, c_84, c_102, c_116, hjc]; done) | (exfalso; clear hend ih; simp_all; done)
                  have hl := hs_lv hl (k := 2) rfl he3
                  have he4 : (-1) = hs_dearM (M 0) n j (k + 1) := by (try simp only [lg_cmp_le, lg_cmp_ge, lg_cmp_lt, lg_cmp_gt, ← Int32.not_lt, ← Int64.not_lt, Classical.not_not] at c_5 c_34 c_78 c_84 c_102 c_116); first | (simp [hs_dearM, hs_prAt, c_5, c_34, c_78, c_84, c_102, c_116, hjc]; done) | (simp [hs_dearM, hs_prAt, c_5, c_34, c_78, c_84, c_102, c_116, hjc]; done) | (exfalso; clear hend ih; simp_all; done)
                  have hl := hs_lv hl (k := 1) rfl he4
                  have hl := hs_lv hl (k := 0) rfl (nI_1 (k + 1))
                  exact ih (k + 1) (by omega) (by omega) _ H locs ls w (lv_sub hl [5, 6, 7, 2, 1, 0] rfl)
            · refine lv_aload_n hx hb dX12_dearest_87 rfl (lv_at hl 1 rfl) ?_
              refine lv_iload_n hx hb dX12_dearest_88 rfl (lv_at hl 2 rfl) ?_
              refine hg_viF (r := (hs_price (va_up (M 0) (20 + j) (nI (k + 1))) n j)) (As := [.int (nI j)]) (rest := []) X w (c_X12_priceOf l D b0 L f mo ma (mo_w M 0 (20 + j) (nI (k + 1))) hm n nr (hs_ok_w (by omega) hv) j (by omega)) (cwV 1 hts gX12_dearest_X12_priceOf rfl rfl rfl hdX12_priceOf ⟨Nat.le_of_ble_eq_true rfl, Nat.le_of_ble_eq_true rfl⟩) hm.1 (mo_at0 D f mo ma _) rfl rfl rfl hl.1 rfl (Nat.le_of_ble_eq_true rfl) dX12_dearest_89 ⟨Nat.zero_le _, Nat.zero_le _⟩ (fun H locs w => ?_)
              refine lv_goto (tgt := 96) hx hb dX12_dearest_92 (by decide) ?_
              refine lv_istore (lv' := [(7, .int ((hs_price (va_up (M 0) (20 + j) (nI (k + 1))) n j))), (6, .int ((hs_who (M 0) (M 0 (14 + j)) (nI (k + 1)) n))), (0, .ref mo), (1, .int (nI j)), (2, .int (M 0 (20 + j))), (3, .int (hs_dearB (M 0) n j k)), (4, .int (hs_dearM (M 0) n j k)), (5, .int (nI (k + 1)))]) hx hb dX12_dearest_96 hl (by decide) rfl (fun ls hl => ?_)
              refine lv_iload hx hb dX12_dearest_98 (lv_at hl 0 rfl) ?_
              refine lv_iload hx hb dX12_dearest_100 (lv_at hl 6 rfl) ?_
              refine lv_icmp_le (tgt := 110) hx hb dX12_dearest_102 (by decide) (fun c_102 => ?_) (fun c_102 => ?_)
              · refine lv_iload_n hx hb dX12_dearest_110 rfl (lv_at hl 5 rfl) ?_
                refine lv_istore_n (lv' := [(3, .int (hs_dearB (M 0) n j k)), (7, .int ((hs_price (va_up (M 0) (20 + j) (nI (k + 1))) n j))), (6, .int ((hs_who (M 0) (M 0 (14 + j)) (nI (k + 1)) n))), (0, .ref mo), (1, .int (nI j)), (2, .int (M 0 (20 + j))), (4, .int (hs_dearM (M 0) n j k)), (5, .int (nI (k + 1)))]) hx hb dX12_dearest_111 rfl hl (by decide) rfl (fun ls hl => ?_)
                refine lv_iload hx hb dX12_dearest_112 (lv_at hl 1 rfl) ?_
                refine lv_iload hx hb dX12_dearest_114 (lv_at hl 6 rfl) ?_
                refine lv_icmp_le (tgt := 124) hx hb dX12_dearest_116 (by decide) (fun c_116 => ?_) (fun c_116 => ?_)
                · refine lv_iload hx hb dX12_dearest_124 (lv_at hl 6 rfl) ?_
                  refine lv_istore (lv' := [(4, .int (hs_dearM (M 0) n j k)), (3, .int (hs_dearB (M 0) n j k)), (7, .int ((hs_price (va_up (M 0) (20 + j) (nI (k + 1))) n j))), (6, .int ((hs_who (M 0) (M 0 (14 + j)) (nI (k + 1)) n))), (0, .ref mo), (1, .int (nI j)), (2, .int (M 0 (20 + j))), (5, .int (nI (k + 1)))]) hx hb dX12_dearest_126 hl (by decide) rfl (fun ls hl => ?_)
                  refine lv_iinc (v := nI (k + 1) + 1) (lv' := [(5, .int (nI (k + 1) + 1)), (4, .int (hs_dearM (M 0) n j k)), (3, .int (hs_dearB (M 0) n j k)), (7, .int ((hs_price (va_up (M 0) (20 + j) (nI (k + 1))) n j))), (6, .int ((hs_who (M 0) (M 0 (14 + j)) (nI (k + 1)) n))), (0, .ref mo), (1, .int (nI j)), (2, .int (M 0 (20 + j)))]) hx hb dX12_dearest_128 hl (k := 7) rfl rfl (by decide) rfl (fun ls hl => ?_)
                  refine lv_goto (tgt := 30) hx hb dX12_dearest_131 (by decide) ?_
                  have he3 : (hs_dearB (M 0) n j k) = hs_dearB (M 0) n j (k + 1) := by (try simp only [lg_cmp_le, lg_cmp_ge, lg_cmp_lt, lg_cmp_gt, ← Int32.not_lt, ← Int64.not_lt, Classical.not_not] at c_5 c_34 c_78 c_84 c_102 c_116); first | (simp [hs_dearB, hs_prAt, c_5, c_34, c_78, c_84, c_102, c_116, hjc]; done) | (simp [hs_dearB, hs_prAt, c_5, c_34, c_78, eq_true c_84, c_102, c_116, hjc]; done) | (exfalso; clear hend ih; simp_all; done)
                  have hl := hs_lv hl (k := 2) rfl he3
                  have he4 : (hs_dearM (M 0) n j k) = hs_dearM (M 0) n j (k + 1) := by (try simp only [lg_cmp_le, lg_cmp_ge, lg_cmp_lt, lg_cmp_gt, ← Int32.not_lt, ← Int64.not_lt, Classical.not_not] at c_5 c_34 c_78 c_84 c_102 c_116); first | (simp [hs_dearM, hs_prAt, c_5, c_34, c_78, c_84, c_102, c_116, hjc]; done) | (simp [hs_dearM, hs_prAt, c_5, c_34, c_78, eq_true c_84, c_102, c_116, hjc]; done) | (exfalso; clear hend ih; simp_all; done)
                  have hl := hs_lv hl (k := 1) rfl he4
                  have hl := hs_lv hl (k := 0) rfl (nI_1 (k + 1))
                  exact ih (k + 1) (by omega) (by omega) _ H locs ls w (lv_sub hl [5, 6, 7, 2, 1, 0] rfl)
                · refine lv_iload hx hb dX12_dearest_119 (lv_at hl 1 rfl) ?_
                  refine lv_goto (tgt := 126) hx hb dX12_dearest_121 (by decide) ?_
                  refine lv_istore (lv' := [(4, .int ((hs_price (va_up (M 0) (20 + j) (nI (k + 1))) n j))), (3, .int (hs_dearB (M 0) n j k)), (7, .int ((hs_price (va_up (M 0) (20 + j) (nI (k + 1))) n j))), (6, .int ((hs_who (M 0) (M 0 (14 + j)) (nI (k + 1)) n))), (0, .ref mo), (1, .int (nI j)), (2, .int (M 0 (20 + j))), (5, .int (nI (k + 1)))]) hx hb dX12_dearest_126 hl (by decide) rfl (fun ls hl => ?_)
                  refine lv_iinc (v := nI (k + 1) + 1) (lv' := [(5, .int (nI (k + 1) + 1)), (4, .int ((hs_price (va_up (M 0) (20 + j) (nI (k + 1))) n j))), (3, .int (hs_dearB (M 0) n j k)), (7, .int ((hs_price (va_up (M 0) (20 + j) (nI (k + 1))) n j))), (6, .int ((hs_who (M 0) (M 0 (14 + j)) (nI (k + 1)) n))), (0, .ref mo), (1, .int (nI j)), (2, .int (M 0 (20 + j)))]) hx hb dX12_dearest_128 hl (k := 7) rfl rfl (by decide) rfl (fun ls hl => ?_)
                  refine lv_goto (tgt := 30) hx hb dX12_dearest_131 (by decide) ?_
                  have he3 : (hs_dearB (M 0) n j k) = hs_dearB (M 0) n j (k + 1) := by (try simp only [lg_cmp_le, lg_cmp_ge, lg_cmp_lt, lg_cmp_gt, ← Int32.not_lt, ← Int64.not_lt, Classical.not_not] at c_5 c_34 c_78 c_84 c_102 c_116); first | (simp [hs_dearB, hs_prAt, c_5, c_34, c_78, c_84, c_102, c_116, hjc]; done) | (simp [hs_dearB, hs_prAt, c_5, c_34, c_78, eq_true c_84, c_102, c_116, hjc]; done) | (exfalso; clear hend ih; simp_all; done)
                  have hl := hs_lv hl (k := 2) rfl he3
                  have he4 : (hs_price (va_up (M 0) (20 + j) (nI (k + 1))) n j) = hs_dearM (M 0) n j (k + 1) := by (try simp only [lg_cmp_le, lg_cmp_ge, lg_cmp_lt, lg_cmp_gt, ← Int32.not_lt, ← Int64.not_lt, Classical.not_not] at c_5 c_34 c_78 c_84 c_102 c_116); first | (simp [hs_dearM, hs_prAt, c_5, c_34, c_78, c_84, c_102, c_116, hjc]; done) | (simp [hs_dearM, hs_prAt, c_5, c_34, c_78, eq_true c_84, c_102, c_116, hjc]; done) | (exfalso; clear hend ih; simp_all; done)
                  have hl := hs_lv hl (k := 1) rfl he4
                  have hl := hs_lv hl (k := 0) rfl (nI_1 (k + 1))
                  exact ih (k + 1) (by omega) (by omega) _ H locs ls w (lv_sub hl [5, 6, 7, 2, 1, 0] rfl)
              · refine lv_iload hx hb dX12_dearest_105 (lv_at hl 7 rfl) ?_
                refine lv_goto (tgt := 111) hx hb dX12_dearest_107 (by decide) ?_
                refine lv_istore_n (lv' := [(3, .int (nI (k + 1))), (7, .int ((hs_price (va_up (M 0) (20 + j) (nI (k + 1))) n j))), (6, .int ((hs_who (M 0) (M 0 (14 + j)) (nI (k + 1)) n))), (0, .ref mo), (1, .int (nI j)), (2, .int (M 0 (20 + j))), (4, .int (hs_dearM (M 0) n j k)), (5, .int (nI (k + 1)))]) hx hb dX12_dearest_111 rfl hl (by decide) rfl (fun ls hl => ?_)
                refine lv_iload hx hb dX12_dearest_112 (lv_at hl 1 rfl) ?_
                refine lv_iload hx hb dX12_dearest_114 (lv_at hl 6 rfl) ?_
                refine lv_icmp_le (tgt := 124) hx hb dX12_dearest_116 (by decide) (fun c_116 => ?_) (fun c_116 => ?_)
                · refine lv_iload hx hb dX12_dearest_124 (lv_at hl 6 rfl) ?_
                  refine lv_istore (lv' := [(4, .int (hs_dearM (M 0) n j k)), (3, .int (nI (k + 1))), (7, .int ((hs_price (va_up (M 0) (20 + j) (nI (k + 1))) n j))), (6, .int ((hs_who (M 0) (M 0 (14 + j)) (nI (k + 1)) n))), (0, .ref mo), (1, .int (nI j)), (2, .int (M 0 (20 + j))), (5, .int (nI (k + 1)))]) hx hb dX12_dearest_126 hl (by decide) rfl (fun ls hl => ?_)
                  refine lv_iinc (v := nI (k + 1) + 1) (lv' := [(5, .int (nI (k + 1) + 1)), (4, .int (hs_dearM (M 0) n j k)), (3, .int (nI (k + 1))), (7, .int ((hs_price (va_up (M 0) (20 + j) (nI (k + 1))) n j))), (6, .int ((hs_who (M 0) (M 0 (14 + j)) (nI (k + 1)) n))), (0, .ref mo), (1, .int (nI j)), (2, .int (M 0 (20 + j)))]) hx hb dX12_dearest_128 hl (k := 7) rfl rfl (by decide) rfl (fun ls hl => ?_)
                  refine lv_goto (tgt := 30) hx hb dX12_dearest_131 (by decide) ?_
                  have he3 : (nI (k + 1)) = hs_dearB (M 0) n j (k + 1) := by (try simp only [lg_cmp_le, lg_cmp_ge, lg_cmp_lt, lg_cmp_gt, ← Int32.not_lt, ← Int64.not_lt, Classical.not_not] at c_5 c_34 c_78 c_84 c_102 c_116); first | (simp [hs_dearB, hs_prAt, c_5, c_34, c_78, c_84, c_102, c_116, hjc]; done) | (simp [hs_dearB, hs_prAt, c_5, c_34, c_78, eq_true c_84, c_102, c_116, hjc]; done) | (exfalso; clear hend ih; simp_all; done)
                  have hl := hs_lv hl (k := 2) rfl he3
                  have he4 : (hs_dearM (M 0) n j k) = hs_dearM (M 0) n j (k + 1) := by (try simp only [lg_cmp_le, lg_cmp_ge, lg_cmp_lt, lg_cmp_gt, ← Int32.not_lt, ← Int64.not_lt, Classical.not_not] at c_5 c_34 c_78 c_84 c_102 c_116); first | (simp [hs_dearM, hs_prAt, c_5, c_34, c_78, c_84, c_102, c_116, hjc]; done) | (simp [hs_dearM, hs_prAt, c_5, c_34, c_78, eq_true c_84, c_102, c_116, hjc]; done) | (exfalso; clear hend ih; simp_all; done)
                  have hl := hs_lv hl (k := 1) rfl he4
                  have hl := hs_lv hl (k := 0) rfl (nI_1 (k + 1))
                  exact ih (k + 1) (by omega) (by omega) _ H locs ls w (lv_sub hl [5, 6, 7, 2, 1, 0] rfl)
                · refine lv_iload hx hb dX12_dearest_119 (lv_at hl 1 rfl) ?_
                  refine lv_goto (tgt := 126) hx hb dX12_dearest_121 (by decide) ?_
                  refine lv_istore (lv' := [(4, .int ((hs_price (va_up (M 0) (20 + j) (nI (k + 1))) n j))), (3, .int (nI (k + 1))), (7, .int ((hs_price (va_up (M 0) (20 + j) (nI (k + 1))) n j))), (6, .int ((hs_who (M 0) (M 0 (14 + j)) (nI (k + 1)) n))), (0, .ref mo), (1, .int (nI j)), (2, .int (M 0 (20 + j))), (5, .int (nI (k + 1)))]) hx hb dX12_dearest_126 hl (by decide) rfl (fun ls hl => ?_)
                  refine lv_iinc (v := nI (k + 1) + 1) (lv' := [(5, .int (nI (k + 1) + 1)), (4, .int ((hs_price (va_up (M 0) (20 + j) (nI (k + 1))) n j))), (3, .int (nI (k + 1))), (7, .int ((hs_price (va_up (M 0) (20 + j) (nI (k + 1))) n j))), (6, .int ((hs_who (M 0) (M 0 (14 + j)) (nI (k + 1)) n))), (0, .ref mo), (1, .int (nI j)), (2, .int (M 0 (20 + j)))]) hx hb dX12_dearest_128 hl (k := 7) rfl rfl (by decide) rfl (fun ls hl => ?_)
                  refine lv_goto (tgt := 30) hx hb dX12_dearest_131 (by decide) ?_
                  have he3 : (nI (k + 1)) = hs_dearB (M 0) n j (k + 1) := by (try simp only [lg_cmp_le, lg_cmp_ge, lg_cmp_lt, lg_cmp_gt, ← Int32.not_lt, ← Int64.not_lt, Classical.not_not] at c_5 c_34 c_78 c_84 c_102 c_116); first | (simp [hs_dearB, hs_prAt, c_5, c_34, c_78, c_84, c_102, c_116, hjc]; done) | (simp [hs_dearB, hs_prAt, c_5, c_34, c_78, eq_true c_84, c_102, c_116, hjc]; done) | (exfalso; clear hend ih; simp_all; done)
                  have hl := hs_lv hl (k := 2) rfl he3
                  have he4 : (hs_price (va_up (M 0) (20 + j) (nI (k + 1))) n j) = hs_dearM (M 0) n j (k + 1) := by (try simp only [lg_cmp_le, lg_cmp_ge, lg_cmp_lt, lg_cmp_gt, ← Int32.not_lt, ← Int64.not_lt, Classical.not_not] at c_5 c_34 c_78 c_84 c_102 c_116); first | (simp [hs_dearM, hs_prAt, c_5, c_34, c_78, c_84, c_102, c_116, hjc]; done) | (simp [hs_dearM, hs_prAt, c_5, c_34, c_78, eq_true c_84, c_102, c_116, hjc]; done) | (exfalso; clear hend ih; simp_all; done)
                  have hl := hs_lv hl (k := 1) rfl he4
                  have hl := hs_lv hl (k := 0) rfl (nI_1 (k + 1))
                  exact ih (k + 1) (by omega) (by omega) _ H locs ls w (lv_sub hl [5, 6, 7, 2, 1, 0] rfl)
    exact loop 9 0 (by omega) (by omega) (M 0 (20 + j)) H locs ls (by rw [mo_w_id]; exact w) (lv_sub hl [4, 5, 3, 2, 1, 0] rfl)
  · refine lv_ldc (v := (-1000001)) hx hb hown (hts _ (List.mem_of_getElem? (i := 1) rfl)) dX12_dearest_8 ?_
    exact hend H locs ((-1000001)) (L, mo_F D f mo ma M) _ ls w ⟨(by (try simp only [lg_cmp_le, lg_cmp_ge, lg_cmp_lt, lg_cmp_gt, ← Int32.not_lt, ← Int64.not_lt, Classical.not_not] at c_5); first | (simp [q_dearest, c_5]; done) | (simp [q_dearest, eq_true c_5]; done) | (exfalso; clear hend; simp_all; done)), rfl⟩ rfl dX12_dearest_10
set_option maxRecDepth 100000 in
set_option maxHeartbeats 4000000 in
/-- rented -/
theorem c_X12_rented (l : Launch) (D : va_G) (b0 : Nat) (L : List Nat) (f : Nat → va_E) (mo : Nat) (ma : Nat → Nat) (M : Nat → Nat → Int32) (hm : mo_ok L mo ma) (n nr : Nat) (hv : hs_ok (M 0) n nr) (x a b : Int32) : mo_Fi l yX12_rented wsX12_rented ({ frames := 6, cells := 0, slots := 0, locals := 140 }) D b0 L f mo ma M [.int (x), .int (a), .int (b)] (q_rented (M 0) n x a b) (M) := by
  refine hg_in_i (cc := cX12_rented) (nL := 8) (by decide) rfl (Nat.le_of_ble_eq_true rfl) (fun p e s m args below meth c R Q X hR hend H locs ls w hl => ?_)
  subst hR
  obtain ⟨hx, hb, hml, hown, hts⟩ := id X.1
  have hin : ∀ w ∈ wsX120, w ∈ wsX12_rented := fun w h => List.mem_cons_of_mem _ (List.mem_append_right _ h)
  have hl : lv_has ls 8 [(0, .ref mo), (1, .int (x)), (2, .int (a)), (3, .int (b))] := hl
  obtain ⟨hn, hn6, hnr, hnr3, htt⟩ := id hv
  refine lv_aload_n hx hb dX12_rented_0 rfl (lv_at hl 0 rfl) ?_
  refine lv_iload_n hx hb dX12_rented_1 rfl (lv_at hl 1 rfl) ?_
  refine hg_viF (r := hs_isSt (M 0) x) (As := [.int (x)]) (rest := []) X w (c_X12_isStall l D b0 L f mo ma M hm x) (cwV 1 hts gX12_rented_X12_isStall rfl rfl rfl hdX12_isStall ⟨Nat.le_of_ble_eq_true rfl, Nat.le_of_ble_eq_true rfl⟩) hm.1 (mo_at0 D f mo ma _) rfl rfl rfl hl.1 rfl (Nat.le_of_ble_eq_true rfl) dX12_rented_2 ⟨Nat.zero_le _, Nat.zero_le _⟩ (fun H locs w => ?_)
  refine lv_if_eq (tgt := 29) hx hb dX12_rented_5 (by decide) (fun c_5 => ?_) (fun c_5 => ?_)
  · refine lv_ldc (v := (-1000001)) hx hb hown (hts _ (List.mem_of_getElem? (i := 1) rfl)) dX12_rented_29 ?_
    exact hend H locs ((-1000001)) (L, mo_F D f mo ma M) _ ls w ⟨(by (try simp only [lg_cmp_le, lg_cmp_ge, lg_cmp_lt, lg_cmp_gt, ← Int32.not_lt, ← Int64.not_lt, Classical.not_not] at c_5); first | (simp [q_rented, c_5]; done) | (simp [q_rented, eq_true c_5]; done) | (exfalso; clear hend; simp_all; done)), rfl⟩ rfl dX12_rented_31
  · obtain ⟨j, hj, rfl⟩ := hs_st_1 hv c_5
    have hjc := hs_cl hj (by omega)
    refine lv_aload_n hx hb dX12_rented_8 rfl (lv_at hl 0 rfl) ?_
    refine lv_iload_n hx hb dX12_rented_9 rfl (lv_at hl 2 rfl) ?_
    refine hg_viF (r := hs_isSt (M 0) a) (As := [.int (a)]) (rest := []) X w (c_X12_isStall l D b0 L f mo ma M hm a) (cwV 1 hts gX12_rented_X12_isStall rfl rfl rfl hdX12_isStall ⟨Nat.le_of_ble_eq_true rfl, Nat.le_of_ble_eq_true rfl⟩) hm.1 (mo_at0 D f mo ma _) rfl rfl rfl hl.1 rfl (Nat.le_of_ble_eq_true rfl) dX12_rented_10 ⟨Nat.zero_le _, Nat.zero_le _⟩ (fun H locs w => ?_)
    refine lv_if_eq (tgt := 29) hx hb dX12_rented_13 (by decide) (fun c_13 => ?_) (fun c_13 => ?_)
    · refine lv_ldc (v := (-1000001)) hx hb hown (hts _ (List.mem_of_getElem? (i := 1) rfl)) dX12_rented_29 ?_
      exact hend H locs ((-1000001)) (L, mo_F D f mo ma M) _ ls w ⟨(by (try simp only [lg_cmp_le, lg_cmp_ge, lg_cmp_lt, lg_cmp_gt, ← Int32.not_lt, ← Int64.not_lt, Classical.not_not] at c_5 c_13); first | (simp [q_rented, c_5, c_13, hjc]; done) | (simp [q_rented, c_5, eq_true c_13, hjc]; done) | (exfalso; clear hend; simp_all; done)), rfl⟩ rfl dX12_rented_31
    · obtain ⟨ja, hja, rfl⟩ := hs_st_1 hv c_13
      have hjac := hs_cl hja (by omega)
      refine lv_aload_n hx hb dX12_rented_16 rfl (lv_at hl 0 rfl) ?_
      refine lv_iload_n hx hb dX12_rented_17 rfl (lv_at hl 3 rfl) ?_
      refine hg_viF (r := hs_isSt (M 0) b) (As := [.int (b)]) (rest := []) X w (c_X12_isStall l D b0 L f mo ma M hm b) (cwV 1 hts gX12_rented_X12_isStall rfl rfl rfl hdX12_isStall ⟨Nat.le_of_ble_eq_true rfl, Nat.le_of_ble_eq_true rfl⟩) hm.1 (mo_at0 D f mo ma _) rfl rfl rfl hl.1 rfl (Nat.le_of_ble_eq_true rfl) dX12_rented_18 ⟨Nat.zero_le _, Nat.zero_le _⟩ (fun H locs w => ?_)
      refine lv_if_eq (tgt := 29) hx hb dX12_rented_21 (by decide) (fun c_21 => ?_) (fun c_21 => ?_)
      · refine lv_ldc (v := (-1000001)) hx hb hown (hts _ (List.mem_of_getElem? (i := 1) rfl)) dX12_rented_29 ?_
        exact hend H locs ((-1000001)) (L, mo_F D f mo ma M) _ ls w ⟨(by (try simp only [lg_cmp_le, lg_cmp_ge, lg_cmp_lt, lg_cmp_gt, ← Int32.not_lt, ← Int64.not_lt, Classical.not_not] at c_5 c_13 c_21); first | (simp [q_rented, c_5, c_13, c_21, hjc, hjac]; done) | (simp [q_rented, c_5, c_13, eq_true c_21, hjc, hjac]; done) | (exfalso; clear hend; simp_all; done)), rfl⟩ rfl dX12_rented_31
      · obtain ⟨jb, hjb, rfl⟩ := hs_st_1 hv c_21
        have hjbc := hs_cl hjb (by omega)
        refine lv_iload_n hx hb dX12_rented_24 rfl (lv_at hl 2 rfl) ?_
        refine lv_iload_n hx hb dX12_rented_25 rfl (lv_at hl 3 rfl) ?_
        refine lv_icmp_ne (tgt := 32) hx hb dX12_rented_26 (by decide) (fun c_26 => ?_) (fun c_26 => ?_)
        · refine lv_aload_n hx hb dX12_rented_32 rfl (lv_at hl 0 rfl) ?_
          refine mo_get X w hm hin 0 (by decide) (List.mem_of_getElem? (i := 2) rfl) rfl dX12_rented_33 ?_
          refine lv_bipush (v := 8) hx hb dX12_rented_36 (by decide) ?_
          refine lv_iload_n hx hb dX12_rented_38 rfl (lv_at hl 1 rfl) ?_
          refine lv_iadd hx hb dX12_rented_39 ?_
          refine mo_iald X w hm 0 (by decide) (by decide) (8 + j) (hs_addI rfl rfl) (by show _ < 1400; omega) dX12_rented_40 ?_
          refine lv_iconst (v := 4) hx hb dX12_rented_41 (by decide) ?_
          refine lv_icmp_lt (tgt := 64) hx hb dX12_rented_42 (by decide) (fun c_42 => ?_) (fun c_42 => ?_)
          · refine lv_ldc (v := (-1000002)) hx hb hown (hts _ (List.mem_of_getElem? (i := 3) rfl)) dX12_rented_64 ?_
            exact hend H locs ((-1000002)) (L, mo_F D f mo ma M) _ ls w ⟨(by (try simp only [lg_cmp_le, lg_cmp_ge, lg_cmp_lt, lg_cmp_gt, ← Int32.not_lt, ← Int64.not_lt, Classical.not_not] at c_5 c_13 c_21 c_26 c_42); first | (simp [q_rented, c_5, c_13, c_21, c_26, c_42, hjc, hjac, hjbc]; done) | (simp [q_rented, c_5, c_13, c_21, c_26, c_42, hjc, hjac, hjbc]; done) | (exfalso; clear hend; simp_all; done)), rfl⟩ rfl dX12_rented_66
          · refine lv_aload_n hx hb dX12_rented_45 rfl (lv_at hl 0 rfl) ?_
            refine lv_iload_n hx hb dX12_rented_46 rfl (lv_at hl 2 rfl) ?_
            refine lv_iload_n hx hb dX12_rented_47 rfl (lv_at hl 3 rfl) ?_
            refine hg_viF (r := (hs_walk (M 0) n ja jb)) (As := [.int (nI ja), .int (nI jb)]) (rest := []) X w (c_X12_walk l D b0 L f mo ma M hm n nr hv ja jb (by omega) (by omega)) (cwV 2 hts gX12_rented_X12_walk rfl rfl rfl hdX12_walk ⟨Nat.le_of_ble_eq_true rfl, Nat.le_of_ble_eq_true rfl⟩) hm.1 (mo_at0 D f mo ma _) rfl rfl rfl hl.1 rfl (Nat.le_of_ble_eq_true rfl) dX12_rented_48 ⟨Nat.zero_le _, Nat.zero_le _⟩ (fun H locs w => ?_)
            refine lv_if_eq (tgt := 64) hx hb dX12_rented_51 (by decide) (fun c_51 => ?_) (fun c_51 => ?_)
            · refine lv_ldc (v := (-1000002)) hx hb hown (hts _ (List.mem_of_getElem? (i := 3) rfl)) dX12_rented_64 ?_
              exact hend H locs ((-1000002)) (L, mo_F D f mo ma M) _ ls w ⟨(by (try simp only [lg_cmp_le, lg_cmp_ge, lg_cmp_lt, lg_cmp_gt, ← Int32.not_lt, ← Int64.not_lt, Classical.not_not] at c_5 c_13 c_21 c_26 c_42 c_51); first | (simp [q_rented, c_5, c_13, c_21, c_26, c_42, c_51, hjc, hjac, hjbc]; done) | (simp [q_rented, c_5, c_13, c_21, c_26, c_42, eq_true c_51, hjc, hjac, hjbc]; done) | (exfalso; clear hend; simp_all; done)), rfl⟩ rfl dX12_rented_66
            · refine lv_iload_n hx hb dX12_rented_54 rfl (lv_at hl 1 rfl) ?_
              refine lv_iload_n hx hb dX12_rented_55 rfl (lv_at hl 2 rfl) ?_
              refine lv_icmp_eq (tgt := 64) hx hb dX12_rented_56 (by decide) (fun c_56 => ?_) (fun c_56 => ?_)
              · refine lv_ldc (v := (-1000002)) hx hb hown (hts _ (List.mem_of_getElem? (i := 3) rfl)) dX12_rented_64 ?_
                exact hend H locs ((-1000002)) (L, mo_F D f mo ma M) _ ls w ⟨(by (try simp only [lg_cmp_le, lg_cmp_ge, lg_cmp_lt, lg_cmp_gt, ← Int32.not_lt, ← Int64.not_lt, Classical.not_not] at c_5 c_13 c_21 c_26 c_42 c_51 c_56); first | (simp [q_rented, c_5, c_13, c_21, c_26, c_42, c_51, c_56, hjc, hjac, hjbc]; done) | (simp [q_rented, c_5, c_13, c_21, c_26, c_42, c_51, eq_true c_56, hjc, hjac, hjbc]; done) | (exfalso; clear hend; simp_all; done)), rfl⟩ rfl dX12_rented_66
              · refine lv_iload_n hx hb dX12_rented_59 rfl (lv_at hl 1 rfl) ?_
                refine lv_iload_n hx hb dX12_rented_60 rfl (lv_at hl 3 rfl) ?_
                refine lv_icmp_ne (tgt := 67) hx hb dX12_rented_61 (by decide) (fun c_61 => ?_) (fun c_61 => ?_)
                · refine lv_aload_n hx hb dX12_rented_67 rfl (lv_at hl 0 rfl) ?_
                  refine mo_get X w hm hin 0 (by decide) (List.mem_of_getElem? (i := 2) rfl) rfl dX12_rented_68 ?_
                  refine lv_bipush (v := 20) hx hb dX12_rented_71 (by decide) ?_
                  refine lv_iload_n hx hb dX12_rented_73 rfl (lv_at hl 1 rfl) ?_
                  refine lv_iadd hx hb dX12_rented_74 ?_
                  refine mo_iald X w hm 0 (by decide) (by decide) (20 + j) (hs_addI rfl rfl) (by show _ < 1400; omega) dX12_rented_75 ?_
                  refine lv_istore (lv' := [(4, .int (M 0 (20 + j))), (0, .ref mo), (1, .int (nI j)), (2, .int (nI ja)), (3, .int (nI jb))]) hx hb dX12_rented_76 hl (by decide) rfl (fun ls hl => ?_)
                  refine lv_iconst (v := 0) hx hb dX12_rented_78 (by decide) ?_
                  refine lv_istore (lv' := [(5, .int (0)), (4, .int (M 0 (20 + j))), (0, .ref mo), (1, .int (nI j)), (2, .int (nI ja)), (3, .int (nI jb))]) hx hb dX12_rented_79 hl (by decide) rfl (fun ls hl => ?_)
                  refine lv_iconst (v := 1) hx hb dX12_rented_81 (by decide) ?_
                  refine lv_istore (lv' := [(6, .int (1)), (5, .int (0)), (4, .int (M 0 (20 + j))), (0, .ref mo), (1, .int (nI j)), (2, .int (nI ja)), (3, .int (nI jb))]) hx hb dX12_rented_82 hl (by decide) rfl (fun ls hl => ?_)
                  have loop : ∀ (n0 k : Nat), k ≤ 8 → 8 + 1 ≤ k + n0 → ∀ (u0 : Int32), ∀ (H : Heap) (locs : List Loc) (ls : Array Slot), hg_W D b0 L (mo_F D f mo ma (mo_w M 0 (20 + j) (u0))) s.heap H locs → lv_has ls 8 [(0, .ref mo), (1, .int (nI j)), (2, .int (nI ja)), (3, .int (nI jb)), (4, .int (M 0 (20 + j))), (5, .int (hs_rent (M 0) n j ja jb k)), (6, .int (nI (k + 1)))] → W p l e ({ frames := 6, cells := 0, slots := 0, locals := 140 }) s m args below meth c H locs 0 0 Q (F0 m 84 ls []) := by
                    intro n0
                    induction n0 with
                    | zero =>
                      intro k h1 h2
                      exact absurd h2 (by omega)
                    | succ n0 ih =>
                      intro k hk hn0 u0 H locs ls w hl
                      refine lv_iload hx hb dX12_rented_84 (lv_at hl 6 rfl) ?_
                      refine lv_bipush (v := 8) hx hb dX12_rented_86 (by decide) ?_
                      refine lv_icmp_gt (tgt := 173) hx hb dX12_rented_88 (by decide) (fun c_88 => ?_) (fun c_88 => ?_)
                      · have hk : 8 = k := by
                          rcases Nat.lt_or_ge k 8 with q | q
                          · exact absurd c_88 (nI_nlt (a := 8) (b := (k + 1)) (by omega) (by omega))
                          · omega
                        subst hk
                        refine lv_aload_n hx hb dX12_rented_173 rfl (lv_at hl 0 rfl) ?_
                        refine mo_get X w hm hin 0 (by decide) (List.mem_of_getElem? (i := 2) rfl) rfl dX12_rented_174 ?_
                        refine lv_bipush (v := 20) hx hb dX12_rented_177 (by decide) ?_
                        refine lv_iload_n hx hb dX12_rented_179 rfl (lv_at hl 1 rfl) ?_
                        refine lv_iadd hx hb dX12_rented_180 ?_
                        refine lv_iload hx hb dX12_rented_181 (lv_at hl 4 rfl) ?_
                        refine mo_iast X w hm 0 (by decide) (by decide) (20 + j) (hs_addI rfl rfl) (by show _ < 1400; omega) dX12_rented_183 (fun H locs w => ?_)
                        rw [mo_w_w] at w
                        rw [mo_w_id] at w
                        refine lv_iload hx hb dX12_rented_184 (lv_at hl 5 rfl) ?_
                        exact hend H locs (hs_rent (M 0) n j ja jb 8) (L, mo_F D f mo ma M) _ ls w ⟨(by (try simp only [lg_cmp_le, lg_cmp_ge, lg_cmp_lt, lg_cmp_gt, ← Int32.not_lt, ← Int64.not_lt, Classical.not_not] at c_5 c_13 c_21 c_26 c_42 c_51 c_56 c_61 c_88); first | (simp [q_rented, c_5, c_13, c_21, c_26, c_42, c_51, c_56, c_61, c_88, hjc, hjac, hjbc]; done) | (simp [q_rented, c_5, c_13, c_21, c_26, c_42, c_51, c_56, c_61, c_88, hjc, hjac, hjbc]; done) | (exfalso; clear hend; simp_all; done)), rfl⟩ rfl dX12_rented_186
                      · have hkl : k < 8 := by
                          rcases Nat.lt_or_ge k 8 with q | q
                          · exact q
                          · exact absurd (nI_lt (a := 8) (b := (k + 1)) (by omega) (by omega)) c_88
                        refine lv_aload_n hx hb dX12_rented_91 rfl (lv_at hl 0 rfl) ?_
                        refine mo_get X w hm hin 0 (by decide) (List.mem_of_getElem? (i := 2) rfl) rfl dX12_rented_92 ?_
                        refine lv_bipush (v := 20) hx hb dX12_rented_95 (by decide) ?_
                        refine lv_iload_n hx hb dX12_rented_97 rfl (lv_at hl 1 rfl) ?_
                        refine lv_iadd hx hb dX12_rented_98 ?_
                        refine lv_iload hx hb dX12_rented_99 (lv_at hl 4 rfl) ?_
                        refine mo_iast X w hm 0 (by decide) (by decide) (20 + j) (hs_addI rfl rfl) (by show _ < 1400; omega) dX12_rented_101 (fun H locs w => ?_)
                        rw [mo_w_w] at w
                        rw [mo_w_id] at w
                        refine lv_aload_n hx hb dX12_rented_102 rfl (lv_at hl 0 rfl) ?_
                        refine lv_iconst (v := 0) hx hb dX12_rented_103 (by decide) ?_
                        refine lv_aload_n hx hb dX12_rented_104 rfl (lv_at hl 0 rfl) ?_
                        refine mo_get X w hm hin 0 (by decide) (List.mem_of_getElem? (i := 2) rfl) rfl dX12_rented_105 ?_
                        refine lv_bipush (v := 14) hx hb dX12_rented_108 (by decide) ?_
                        refine lv_iload_n hx hb dX12_rented_110 rfl (lv_at hl 1 rfl) ?_
                        refine lv_iadd hx hb dX12_rented_111 ?_
                        refine mo_iald X w hm 0 (by decide) (by decide) (14 + j) (hs_addI rfl rfl) (by show _ < 1400; omega) dX12_rented_112 ?_
                        refine lv_iload hx hb dX12_rented_113 (lv_at hl 6 rfl) ?_
                        refine hg_viF (r := (hs_who (M 0) (M 0 (14 + j)) (nI (k + 1)) n)) (As := [.int (0), .int (M 0 (14 + j)), .int (nI (k + 1))]) (rest := []) X w (c_X12_whoIs0 l D b0 L f mo ma M hm n hn hn6 (M 0 (14 + j)) (nI (k + 1))) (cwV 3 hts gX12_rented_X12_whoIs rfl rfl rfl hdX12_whoIs ⟨Nat.le_of_ble_eq_true rfl, Nat.le_of_ble_eq_true rfl⟩) hm.1 (mo_at0 D f mo ma _) rfl rfl rfl hl.1 rfl (Nat.le_of_ble_eq_true rfl) dX12_rented_115 ⟨Nat.zero_le _, Nat.zero_le _⟩ (fun H locs w => ?_)
                        refine lv_istore (lv' := [(7, .int ((hs_who (M 0) (M 0 (14 + j)) (nI (k + 1)) n))), (0, .ref mo), (1, .int (nI j)), (2, .int (nI ja)), (3, .int (nI jb)), (4, .int (M 0 (20 + j))), (5, .int (hs_rent (M 0) n j ja jb k)), (6, .int (nI (k + 1)))]) hx hb dX12_rented_118 hl (by decide) rfl (fun ls hl => ?_)
                        refine lv_iload hx hb dX12_rented_120 (lv_at hl 0 rfl) ?_
                        refine lv_if_lt (tgt := 131) hx hb dX12_rented_122 (by decide) (fun c_122 => ?_) (fun c_122 => ?_)
                        · refine lv_aload_n hx hb dX12_rented_131 rfl (lv_at hl 1 rfl) ?_
                          refine mo_get X w hm hin 0 (by decide) (List.mem_of_getElem? (i := 2) rfl) rfl dX12_rented_132 ?_
                          refine lv_bipush (v := 20) hx hb dX12_rented_135 (by decide) ?_
                          refine lv_iload_n hx hb dX12_rented_137 rfl (lv_at hl 2 rfl) ?_
                          refine lv_iadd hx hb dX12_rented_138 ?_
                          refine lv_iload hx hb dX12_rented_139 (lv_at hl 7 rfl) ?_
                          refine mo_iast X w hm 0 (by decide) (by decide) (20 + j) (hs_addI rfl rfl) (by show _ < 1400; omega) dX12_rented_141 (fun H locs w => ?_)
                          refine lv_iload hx hb dX12_rented_142 (lv_at hl 6 rfl) ?_
                          refine lv_aload_n hx hb dX12_rented_144 rfl (lv_at hl 1 rfl) ?_
                          refine lv_iload_n hx hb dX12_rented_145 rfl (lv_at hl 3 rfl) ?_
                          refine lv_iload_n hx hb dX12_rented_146 rfl (lv_at hl 4 rfl) ?_
                          refine hg_viF (r := (hs_walk (va_up (M 0) (20 + j) (nI (k + 1))) n ja jb)) (As := [.int (nI ja), .int (nI jb)]) (rest := [.int (hs_rent (M 0) n j ja jb k)]) X w (c_X12_walk l D b0 L f mo ma (mo_w M 0 (20 + j) (nI (k + 1))) hm n nr (hs_ok_w (by omega) hv) ja jb (by omega) (by omega)) (cwV 2 hts gX12_rented_X12_walk rfl rfl rfl hdX12_walk ⟨Nat.le_of_ble_eq_true rfl, Nat.le_of_ble_eq_true rfl⟩) hm.1 (mo_at0 D f mo ma _) rfl rfl rfl hl.1 rfl (Nat.le_of_ble_eq_true rfl) dX12_rented_147 ⟨Nat.zero_le _, Nat.zero_le _⟩ (fun H locs w => ?_)
                          refine lv_iconst (v := 2) hx hb dX12_rented_150 (by decide) ?_
                          refine lv_icmp_ne (tgt := 163) hx hb dX12_rented_151 (by decide) (fun c_151 => ?_) (fun c_151 => ?_)
                          · refine lv_iconst (v := 0) hx hb dX12_rented_163 (by decide) ?_
                            refine lv_ior hx hb dX12_rented_164 ?_
                            refine lv_istore (lv' := [(5, .int ((hs_rent (M 0) n j ja jb k ||| 0))), (7, .int ((hs_who (M 0) (M 0 (14 + j)) (nI (k + 1)) n))), (0, .ref mo), (1, .int (nI j)), (2, .int (nI ja)), (3, .int (nI jb)), (4, .int (M 0 (20 + j))), (6, .int (nI (k + 1)))]) hx hb dX12_rented_165 hl (by decide) rfl (fun ls hl => ?_)
                            refine lv_iinc (v := nI (k + 1) + 1) (lv' := [(6, .int (nI (k + 1) + 1)), (5, .int ((hs_rent (M 0) n j ja jb k ||| 0))), (7, .int ((hs_who (M 0) (M 0 (14 + j)) (nI (k + 1)) n))), (0, .ref mo), (1, .int (nI j)), (2, .int (nI ja)), (3, .int (nI jb)), (4, .int (M 0 (20 + j)))]) hx hb dX12_rented_167 hl (k := 7) rfl rfl (by decide) rfl (fun ls hl => ?_)
                            refine lv_goto (tgt := 84) hx hb dX12_rented_170 (by decide) ?_
                            have he5 : (hs_rent (M 0) n j ja jb k ||| 0) = hs_rent (M 0) n j ja jb (k + 1) := by (try simp only [lg_cmp_le, lg_cmp_ge, lg_cmp_lt, lg_cmp_gt, ← Int32.not_lt, ← Int64.not_lt, Classical.not_not] at c_5 c_13 c_21 c_26 c_42 c_51 c_56 c_61 c_88 c_122 c_151); first | (simp [hs_rent, c_5, c_13, c_21, c_26, c_42, c_51, c_56, c_61, c_88, c_122, c_151, hjc, hjac, hjbc]; done) | (simp [hs_rent, c_5, c_13, c_21, c_26, c_42, c_51, c_56, c_61, c_88, c_122, c_151, hjc, hjac, hjbc]; done) | (exfalso; clear hend ih; simp_all; done)
                            have hl := hs_lv hl (k := 1) rfl he5
                            have hl := hs_lv hl (k := 0) rfl (nI_1 (k + 1))
                            exact ih (k + 1) (by omega) (by omega) _ H locs ls w (lv_sub hl [3, 4, 5, 6, 7, 1, 0] rfl)
                          · refine lv_iconst (v := 1) hx hb dX12_rented_154 (by decide) ?_
                            refine lv_iload hx hb dX12_rented_155 (lv_at hl 7 rfl) ?_
                            refine lv_iconst (v := 1) hx hb dX12_rented_157 (by decide) ?_
                            refine lv_isub hx hb dX12_rented_158 ?_
                            refine lv_ishl hx hb dX12_rented_159 ?_
                            refine lv_goto (tgt := 164) hx hb dX12_rented_160 (by decide) ?_
                            refine lv_ior hx hb dX12_rented_164 ?_
                            refine lv_istore (lv' := [(5, .int ((hs_rent (M 0) n j ja jb k ||| (1 <<< ((nI (k + 1) - 1) &&& 31))))), (7, .int ((hs_who (M 0) (M 0 (14 + j)) (nI (k + 1)) n))), (0, .ref mo), (1, .int (nI j)), (2, .int (nI ja)), (3, .int (nI jb)), (4, .int (M 0 (20 + j))), (6, .int (nI (k + 1)))]) hx hb dX12_rented_165 hl (by decide) rfl (fun ls hl => ?_)
                            refine lv_iinc (v := nI (k + 1) + 1) (lv' := [(6, .int (nI (k + 1) + 1)), (5, .int ((hs_rent (M 0) n j ja jb k ||| (1 <<< ((nI (k + 1) - 1) &&& 31))))), (7, .int ((hs_who (M 0) (M 0 (14 + j)) (nI (k + 1)) n))), (0, .ref mo), (1, .int (nI j)), (2, .int (nI ja)), (3, .int (nI jb)), (4, .int (M 0 (20 + j)))]) hx hb dX12_rented_167 hl (k := 7) rfl rfl (by decide) rfl (fun ls hl => ?_)
                            refine lv_goto (tgt := 84) hx hb dX12_rented_170 (by decide) ?_
                            have he5 : (hs_rent (M 0) n j ja jb k ||| (1 <<< ((nI (k + 1) - 1) &&& 31))) = hs_rent (M 0) n j ja jb (k + 1) := by (try simp only [lg_cmp_le, lg_cmp_ge, lg_cmp_lt, lg_cmp_gt, ← Int32.not_lt, ← Int64.not_lt, Classical.not_not] at c_5 c_13 c_21 c_26 c_42 c_51 c_56 c_61 c_88 c_122 c_151); first | (simp [hs_rent, c_5, c_13, c_21, c_26, c_42, c_51, c_56, c_61, c_88, c_122, c_151, hjc, hjac, hjbc]; done) | (simp [hs_rent, c_5, c_13, c_21, c_26, c_42, c_51, c_56, c_61, c_88, c_122, eq_true c_151, hjc, hjac, hjbc]; done) | (exfalso; clear hend ih; simp_all; done)
                            have hl := hs_lv hl (k := 1) rfl he5
                            have hl := hs_lv hl (k := 0) rfl (nI_1 (k + 1))
                            exact ih (k + 1) (by omega) (by omega) _ H locs ls w (lv_sub hl [3, 4, 5, 6, 7, 1, 0] rfl)
                        · refine lv_iload hx hb dX12_rented_125 (lv_at hl 0 rfl) ?_
                          refine lv_iload_n hx hb dX12_rented_127 rfl (lv_at hl 2 rfl) ?_
                          refine lv_icmp_ne (tgt := 167) hx hb dX12_rented_128 (by decide) (fun c_128 => ?_) (fun c_128 => ?_)
                          · refine lv_iinc (v := nI (k + 1) + 1) (lv' := [(6, .int (nI (k + 1) + 1)), (7, .int ((hs_who (M 0) (M 0 (14 + j)) (nI (k + 1)) n))), (0, .ref mo), (1, .int (nI j)), (2, .int (nI ja)), (3, .int (nI jb)), (4, .int (M 0 (20 + j))), (5, .int (hs_rent (M 0) n j ja jb k))]) hx hb dX12_rented_167 hl (k := 7) rfl rfl (by decide) rfl (fun ls hl => ?_)
                            refine lv_goto (tgt := 84) hx hb dX12_rented_170 (by decide) ?_
                            have he5 : (hs_rent (M 0) n j ja jb k) = hs_rent (M 0) n j ja jb (k + 1) := by (try simp only [lg_cmp_le, lg_cmp_ge, lg_cmp_lt, lg_cmp_gt, ← Int32.not_lt, ← Int64.not_lt, Classical.not_not] at c_5 c_13 c_21 c_26 c_42 c_51 c_56 c_61 c_88 c_122 c_128); first | (simp [hs_rent, c_5, c_13, c_21, c_26, c_42, c_51, c_56, c_61, c_88, c_122, c_128, hjc, hjac, hjbc]; done) | (simp [hs_rent, c_5, c_13, c_21, c_26, c_42, c_51, c_56, c_61, c_88, c_122, c_128, hjc, hjac, hjbc]; done) | (exfalso; clear hend ih; simp_all; done)
                            have hl := hs_lv hl (k := 7) rfl he5
                            have hl := hs_lv hl (k := 0) rfl (nI_1 (k + 1))
                            exact ih (k + 1) (by omega) (by omega) _ H locs ls (by rw [← mo_w_id M 0 (20 + j)] at w; exact w) (lv_sub hl [2, 3, 4, 5, 6, 7, 0] rfl)
                          · refine lv_aload_n hx hb dX12_rented_131 rfl (lv_at hl 1 rfl) ?_
                            refine mo_get X w hm hin 0 (by decide) (List.mem_of_getElem? (i := 2) rfl) rfl dX12_rented_132 ?_
                            refine lv_bipush (v := 20) hx hb dX12_rented_135 (by decide) ?_
                            refine lv_iload_n hx hb dX12_rented_137 rfl (lv_at hl 2 rfl) ?_
                            refine lv_iadd hx hb dX12_rented_138 ?_
                            refine lv_iload hx hb dX12_rented_139 (lv_at hl 7 rfl) ?_
                            refine mo_iast X w hm 0 (by decide) (by decide) (20 + j) (hs_addI rfl rfl) (by show _ < 1400; omega) dX12_rented_141 (fun H locs w => ?_)
                            refine lv_iload hx hb dX12_rented_142 (lv_at hl 6 rfl) ?_
                            refine lv_aload_n hx hb dX12_rented_144 rfl (lv_at hl 1 rfl) ?_
                            refine lv_iload_n hx hb dX12_rented_145 rfl (lv_at hl 3 rfl) ?_
                            refine lv_iload_n hx hb dX12_rented_146 rfl (lv_at hl 4 rfl) ?_
                            refine hg_viF (r := (hs_walk (va_up (M 0) (20 + j) (nI (k + 1))) n ja jb)) (As := [.int (nI ja), .int (nI jb)]) (rest := [.int (hs_rent (M 0) n j ja jb k)]) X w (c_X12_walk l D b0 L f mo ma (mo_w M 0 (20 + j) (nI (k + 1))) hm n nr (hs_ok_w (by omega) hv) ja jb (by omega) (by omega)) (cwV 2 hts gX12_rented_X12_walk rfl rfl rfl hdX12_walk ⟨Nat.le_of_ble_eq_true rfl, Nat.le_of_ble_eq_true rfl⟩) hm.1 (mo_at0 D f mo ma _) rfl rfl rfl hl.1 rfl (Nat.le_of_ble_eq_true rfl) dX12_rented_147 ⟨Nat.zero_le _, Nat.zero_le _⟩ (fun H locs w => ?_)
                            refine lv_iconst (v := 2) hx hb dX12_rented_150 (by decide) ?_
                            refine lv_icmp_ne (tgt := 163) hx hb dX12_rented_151 (by decide) (fun c_151 => ?_) (fun c_151 => ?_)
                            · refine lv_iconst (v := 0) hx hb dX12_rented_163 (by decide) ?_
                              refine lv_ior hx hb dX12_rented_164 ?_
                              refine lv_istore (lv' := [(5, .int ((hs_rent (M 0) n j ja jb k ||| 0))), (7, .int ((hs_who (M 0) (M 0 (14 + j)) (nI (k + 1)) n))), (0, .ref mo), (1, .int (nI j)), (2, .int (nI ja)), (3, .int (nI jb)), (4, .int (M 0 (20 + j))), (6, .int (nI (k + 1)))]) hx hb dX12_rented_165 hl (by decide) rfl (fun ls hl => ?_)
                              refine lv_iinc (v := nI (k + 1) + 1) (lv' := [(6, .int (nI (k + 1) + 1)), (5, .int ((hs_rent (M 0) n j ja jb k ||| 0))), (7, .int ((hs_who (M 0) (M 0 (14 + j)) (nI (k + 1)) n))), (0, .ref mo), (1, .int (nI j)), (2, .int (nI ja)), (3, .int (nI jb)), (4, .int (M 0 (20 + j)))]) hx hb dX12_rented_167 hl (k := 7) rfl rfl (by decide) rfl (fun ls hl => ?_)
                              refine lv_goto (tgt := 84) hx hb dX12_rented_170 (by decide) ?_
                              have he5 : (hs_rent (M 0) n j ja jb k ||| 0) = hs_rent (M 0) n j ja jb (k + 1) := by (try simp only [lg_cmp_le, lg_cmp_ge, lg_cmp_lt, lg_cmp_gt, ← Int32.not_lt, ← Int64.not_lt, Classical.not_not] at c_5 c_13 c_21 c_26 c_42 c_51 c_56 c_61 c_88 c_122 c_128 c_151); first | (simp [hs_rent, c_5, c_13, c_21, c_26, c_42, c_51, c_56, c_61, c_88, c_122, c_128, c_151, hjc, hjac, hjbc]; done) | (simp [hs_rent, c_5, c_13, c_21, c_26, c_42, c_51, c_56, c_61, c_88, c_122, eq_true c_128, c_151, hjc, hjac, hjbc]; done) | (exfalso; clear hend ih; simp_all; done)
                              have hl := hs_lv hl (k := 1) rfl he5
                              have hl := hs_lv hl (k := 0) rfl (nI_1 (k + 1))
                              exact ih (k + 1) (by omega) (by omega) _ H locs ls w (lv_sub hl [3, 4, 5, 6, 7, 1, 0] rfl)
                            · refine lv_iconst (v := 1) hx hb dX12_rented_154 (by decide) ?_
                              refine lv_iload hx hb dX12_rented_155 (lv_at hl 7 rfl) ?_
                              refine lv_iconst (v := 1) hx hb dX12_rented_157 (by decide) ?_
                              refine lv_isub hx hb dX12_rented_158 ?_
                              refine lv_ishl hx hb dX12_rented_159 ?_
                              refine lv_goto (tgt := 164) hx hb dX12_rented_160 (by decide) ?_
                              refine lv_ior hx hb dX12_rented_164 ?_
                              refine lv_istore (lv' := [(5, .int ((hs_rent (M 0) n j ja jb k ||| (1 <<< ((nI (k + 1) - 1) &&& 31))))), (7, .int ((hs_who (M 0) (M 0 (14 + j)) (nI (k + 1)) n))), (0, .ref mo), (1, .int (nI j)), (2, .int (nI ja)), (3, .int (nI jb)), (4, .int (M 0 (20 + j))), (6, .int (nI (k + 1)))]) hx hb dX12_rented_165 hl (by decide) rfl (fun ls hl => ?_)
                              refine lv_iinc (v := nI (k + 1) + 1) (lv' := [(6, .int (nI (k + 1) + 1)), (5, .int ((hs_rent (M 0) n j ja jb k ||| (1 <<< ((nI (k + 1) - 1) &&& 31))))), (7, .int ((hs_who (M 0) (M 0 (14 + j)) (nI (k + 1)) n))), (0, .ref mo), (1, .int (nI j)), (2, .int (nI ja)), (3, .int (nI jb)), (4, .int (M 0 (20 + j)))]) hx hb dX12_rented_167 hl (k := 7) rfl rfl (by decide) rfl (fun ls hl => ?_)
                              refine lv_goto (tgt := 84) hx hb dX12_rented_170 (by decide) ?_
                              have he5 : (hs_rent (M 0) n j ja jb k ||| (1 <<< ((nI (k + 1) - 1) &&& 31))) = hs_rent (M 0) n j ja jb (k + 1) := by (try simp only [lg_cmp_le, lg_cmp_ge, lg_cmp_lt, lg_cmp_gt, ← Int32.not_lt, ← Int64.not_lt, Classical.not_not] at c_5 c_13 c_21 c_26 c_42 c_51 c_56 c_61 c_88 c_122 c_128 c_151); first | (simp [hs_rent, c_5, c_13, c_21, c_26, c_42, c_51, c_56, c_61, c_88, c_122, c_128, c_151, hjc, hjac, hjbc]; done) | (simp [hs_rent, c_5, c_13, c_21, c_26, c_42, c_51, c_56, c_61, c_88, c_122, eq_true c_128, eq_true c_151, hjc, hjac, hjbc]; done) | (exfalso; clear hend ih; simp_all; done)
                              have hl := hs_lv hl (k := 1) rfl he5
                              have hl := hs_lv hl (k := 0) rfl (nI_1 (k + 1))
                              exact ih (k + 1) (by omega) (by omega) _ H locs ls w (lv_sub hl [3, 4, 5, 6, 7, 1, 0] rfl)
                  exact loop 9 0 (by omega) (by omega) (M 0 (20 + j)) H locs ls (by rw [mo_w_id]; exact w) (lv_sub hl [3, 4, 5, 6, 2, 1, 0] rfl)
                · refine lv_ldc (v := (-1000002)) hx hb hown (hts _ (List.mem_of_getElem? (i := 3) rfl)) dX12_rented_64 ?_
                  exact hend H locs ((-1000002)) (L, mo_F D f mo ma M) _ ls w ⟨(by (try simp only [lg_cmp_le, lg_cmp_ge, lg_cmp_lt, lg_cmp_gt, ← Int32.not_lt, ← Int64.not_lt, Classical.not_not] at c_5 c_13 c_21 c_26 c_42 c_51 c_56 c_61); first | (simp [q_rented, c_5, c_13, c_21, c_26, c_42, c_51, c_56, c_61, hjc, hjac, hjbc]; done) | (simp [q_rented, c_5, c_13, c_21, c_26, c_42, c_51, c_56, eq_true c_61, hjc, hjac, hjbc]; done) | (exfalso; clear hend; simp_all; done)), rfl⟩ rfl dX12_rented_66
        · refine lv_ldc (v := (-1000001)) hx hb hown (hts _ (List.mem_of_getElem? (i := 1) rfl)) dX12_rented_29 ?_
          exact hend H locs ((-1000001)) (L, mo_F D f mo ma M) _ ls w ⟨(by (try simp only [lg_cmp_le, lg_cmp_ge, lg_cmp_lt, lg_cmp_gt, ← Int32.not_lt, ← Int64.not_lt, Classical.not_not] at c_5 c_13 c_21 c_26); first | (simp [q_rented, c_5, c_13, c_21, c_26, hjc, hjac, hjbc]; done) | (simp [q_rented, c_5, c_13, c_21, eq_true c_26, hjc, hjac, hjbc]; done) | (exfalso; clear hend; simp_all; done)), rfl⟩ rfl dX12_rented_31
set_option maxRecDepth 100000 in
set_option maxHeartbeats 4000000 in
/-- bestSlide -/
theorem c_X12_bestSlide (l : Launch) (D : va_G) (b0 : Nat) (L : List Nat) (f : Nat → va_E) (mo : Nat) (ma : Nat → Nat) (M : Nat → Nat → Int32) (hm : mo_ok L mo ma) (n nr : Nat) (hv : hs_ok (M 0) n nr) (what : Int32) : mo_Fi l yX12_bestSlide wsX12_bestSlide ({ frames := 7, cells := 0, slots := 0, locals := 164 }) D b0 L f mo ma M [.int (what)] (q_best (M 0) n what) (M) := by
  refine hg_in_i (cc := cX12_bestSlide) (nL := 8) (by decide) rfl (Nat.le_of_ble_eq_true rfl) (fun p e s m args below meth c R Q X hR hend H locs ls w hl => ?_)
  subst hR
  obtain ⟨hx, hb, hml, hown, hts⟩ := id X.1
  have hin : ∀ w ∈ wsX120, w ∈ wsX12_bestSlide := fun w h => List.mem_cons_of_mem _ (List.mem_append_right _ h)
  have hl : lv_has ls 8 [(0, .ref mo), (1, .int (what))] := hl
  obtain ⟨hn, hn6, hnr, hnr3, htt⟩ := id hv
  refine lv_aload_n hx hb dX12_bestSlide_0 rfl (lv_at hl 0 rfl) ?_
  refine mo_get X w hm hin 0 (by decide) (List.mem_of_getElem? (i := 1) rfl) rfl dX12_bestSlide_1 ?_
  refine lv_iconst (v := 4) hx hb dX12_bestSlide_4 (by decide) ?_
  refine mo_iald X w hm 0 (by decide) (by decide) 4 rfl (by show _ < 1400; omega) dX12_bestSlide_5 ?_
  refine lv_if_ne (tgt := 12) hx hb dX12_bestSlide_6 (by decide) (fun c_6 => ?_) (fun c_6 => ?_)
  · refine lv_iload_n hx hb dX12_bestSlide_12 rfl (lv_at hl 1 rfl) ?_
    refine lv_i2l hx hb dX12_bestSlide_13 rfl ?_
    refine lv_lconst (v := 0) hx hb dX12_bestSlide_14 (by decide) ?_
    refine lv_lconst (v := 1) hx hb dX12_bestSlide_15 (by decide) ?_
    refine hg_siF (r := hs_in what 0 1) (As := [.long ((what).toInt64), .long (0), .long (1)]) (rest := []) X w (c_X12_in l D b0 L _ ((what).toInt64) 0 1 what 0 1 rfl (by decide) (by decide)) (va_cwS 3 hts gX12_bestSlide_X12_in rfl rfl rfl hdX12_in ⟨Nat.le_of_ble_eq_true rfl, Nat.le_of_ble_eq_true rfl⟩) rfl hl.1 rfl (Nat.le_of_ble_eq_true rfl) dX12_bestSlide_16 ⟨Nat.zero_le _, Nat.zero_le _⟩ (fun H locs w => ?_)
    refine lv_if_ne (tgt := 25) hx hb dX12_bestSlide_19 (by decide) (fun c_19 => ?_) (fun c_19 => ?_)
    · refine lv_ldc (v := (-1000000)) hx hb hown (hts _ (List.mem_of_getElem? (i := 4) rfl)) dX12_bestSlide_25 ?_
      refine lv_istore_n (lv' := [(2, .int ((-1000000))), (0, .ref mo), (1, .int (what))]) hx hb dX12_bestSlide_27 rfl hl (by decide) rfl (fun ls hl => ?_)
      refine lv_iconst (v := (-1)) hx hb dX12_bestSlide_28 (by decide) ?_
      refine lv_istore_n (lv' := [(3, .int ((-1))), (2, .int ((-1000000))), (0, .ref mo), (1, .int (what))]) hx hb dX12_bestSlide_29 rfl hl (by decide) rfl (fun ls hl => ?_)
      refine lv_iconst (v := 0) hx hb dX12_bestSlide_30 (by decide) ?_
      refine lv_istore (lv' := [(4, .int (0)), (3, .int ((-1))), (2, .int ((-1000000))), (0, .ref mo), (1, .int (what))]) hx hb dX12_bestSlide_31 hl (by decide) rfl (fun ls hl => ?_)
      have loop : ∀ (n0 k : Nat), k ≤ n → n + 1 ≤ k + n0 → ∀ (H : Heap) (locs : List Loc) (ls : Array Slot), hg_W D b0 L (mo_F D f mo ma M) s.heap H locs → lv_has ls 8 [(0, .ref mo), (1, .int (what)), (2, .int ((hs_sl (M 0) n k).1)), (3, .int ((hs_sl (M 0) n k).2)), (4, .int (nI k))] → W p l e ({ frames := 7, cells := 0, slots := 0, locals := 164 }) s m args below meth c H locs 0 0 Q (F0 m 33 ls []) := by
        intro n0
        induction n0 with
        | zero =>
          intro k h1 h2
          exact absurd h2 (by omega)
        | succ n0 ih =>
          intro k hk hn0 H locs ls w hl
          refine lv_iload hx hb dX12_bestSlide_33 (lv_at hl 4 rfl) ?_
          refine lv_aload_n hx hb dX12_bestSlide_35 rfl (lv_at hl 0 rfl) ?_
          refine mo_get X w hm hin 0 (by decide) (List.mem_of_getElem? (i := 1) rfl) rfl dX12_bestSlide_36 ?_
          refine lv_iconst (v := 3) hx hb dX12_bestSlide_39 (by decide) ?_
          refine mo_iald X w hm 0 (by decide) (by decide) 3 rfl (by show _ < 1400; omega) dX12_bestSlide_40 ?_
          refine lv_icmp_ge (tgt := 161) hx hb dX12_bestSlide_41 (by decide) (fun c_41 => ?_) (fun c_41 => ?_)
          · rw [hn] at c_41
            have hk : n = k := by
              rcases Nat.lt_or_ge k n with q | q
              · exact absurd c_41 (nI_ge (a := k) (b := n) q (by omega))
              · omega
            subst hk
            refine lv_iload_n hx hb dX12_bestSlide_161 rfl (lv_at hl 1 rfl) ?_
            refine lv_if_eq (tgt := 171) hx hb dX12_bestSlide_162 (by decide) (fun c_162 => ?_) (fun c_162 => ?_)
            · refine lv_iload_n hx hb dX12_bestSlide_171 rfl (lv_at hl 2 rfl) ?_
              refine lv_goto (tgt := 176) hx hb dX12_bestSlide_172 (by decide) ?_
              exact hend H locs ((hs_sl (M 0) n n).1) (L, mo_F D f mo ma M) _ ls w ⟨(by (try simp only [lg_cmp_le, lg_cmp_ge, lg_cmp_lt, lg_cmp_gt, ← Int32.not_lt, ← Int64.not_lt, Classical.not_not] at c_6 c_19 c_41 c_162); first | (simp [q_best, c_6, c_19, c_41, c_162]; done) | (simp [q_best, c_6, c_19, c_41, eq_true c_162]; done) | (exfalso; clear hend; simp_all; done)), rfl⟩ rfl dX12_bestSlide_176
            · refine lv_iload_n hx hb dX12_bestSlide_165 rfl (lv_at hl 2 rfl) ?_
              refine lv_ldc (v := (-1000000)) hx hb hown (hts _ (List.mem_of_getElem? (i := 4) rfl)) dX12_bestSlide_166 ?_
              refine lv_icmp_ne (tgt := 175) hx hb dX12_bestSlide_168 (by decide) (fun c_168 => ?_) (fun c_168 => ?_)
              · refine lv_iload_n hx hb dX12_bestSlide_175 rfl (lv_at hl 3 rfl) ?_
                exact hend H locs ((hs_sl (M 0) n n).2) (L, mo_F D f mo ma M) _ ls w ⟨(by (try simp only [lg_cmp_le, lg_cmp_ge, lg_cmp_lt, lg_cmp_gt, ← Int32.not_lt, ← Int64.not_lt, Classical.not_not] at c_6 c_19 c_41 c_162 c_168); first | (simp [q_best, c_6, c_19, c_41, c_162, c_168]; done) | (simp [q_best, c_6, c_19, c_41, c_162, c_168]; done) | (exfalso; clear hend; simp_all; done)), rfl⟩ rfl dX12_bestSlide_176
              · refine lv_iload_n hx hb dX12_bestSlide_171 rfl (lv_at hl 2 rfl) ?_
                refine lv_goto (tgt := 176) hx hb dX12_bestSlide_172 (by decide) ?_
                exact hend H locs ((hs_sl (M 0) n n).1) (L, mo_F D f mo ma M) _ ls w ⟨(by (try simp only [lg_cmp_le, lg_cmp_ge, lg_cmp_lt, lg_cmp_gt, ← Int32.not_lt, ← Int64.not_lt, Classical.not_not] at c_6 c_19 c_41 c_162 c_168); first | (simp [q_best, c_6, c_19, c_41, c_162, c_168]; done) | (simp [q_best, c_6, c_19, c_41, c_162, eq_true c_168]; done) | (exfalso; clear hend; simp_all; done)), rfl⟩ rfl dX12_bestSlide_176
          · rw [hn] at c_41
            have hkl : k < n := by
              rcases Nat.lt_or_ge k n with q | q
              · exact q
              · exact absurd (nI_le (a := n) (b := k) q (by omega)) c_41
            refine lv_aload_n hx hb dX12_bestSlide_44 rfl (lv_at hl 0 rfl) ?_
            refine mo_get X w hm hin 0 (by decide) (List.mem_of_getElem? (i := 1) rfl) rfl dX12_bestSlide_45 ?_
            refine lv_bipush (v := 20) hx hb dX12_bestSlide_48 (by decide) ?_
            refine lv_iload hx hb dX12_bestSlide_50 (lv_at hl 4 rfl) ?_
            refine lv_iadd hx hb dX12_bestSlide_52 ?_
            refine mo_iald X w hm 0 (by decide) (by decide) (20 + k) (hs_addI rfl rfl) (by show _ < 1400; omega) dX12_bestSlide_53 ?_
            refine lv_istore (lv' := [(5, .int (M 0 (20 + k))), (0, .ref mo), (1, .int (what)), (2, .int ((hs_sl (M 0) n k).1)), (3, .int ((hs_sl (M 0) n k).2)), (4, .int (nI k))]) hx hb dX12_bestSlide_54 hl (by decide) rfl (fun ls hl => ?_)
            refine lv_iconst (v := 1) hx hb dX12_bestSlide_56 (by decide) ?_
            refine lv_istore (lv' := [(6, .int (1)), (5, .int (M 0 (20 + k))), (0, .ref mo), (1, .int (what)), (2, .int ((hs_sl (M 0) n k).1)), (3, .int ((hs_sl (M 0) n k).2)), (4, .int (nI k))]) hx hb dX12_bestSlide_57 hl (by decide) rfl (fun ls hl => ?_)
            have loop2 : ∀ (n0 k2 : Nat), k2 ≤ 8 → 8 + 1 ≤ k2 + n0 → ∀ (H : Heap) (locs : List Loc) (ls : Array Slot), hg_W D b0 L (mo_F D f mo ma M) s.heap H locs → lv_has ls 8 [(0, .ref mo), (1, .int (what)), (2, .int ((hs_sl1 (M 0) n k (hs_sl (M 0) n k).1 (hs_sl (M 0) n k).2 k2).1)), (3, .int ((hs_sl1 (M 0) n k (hs_sl (M 0) n k).1 (hs_sl (M 0) n k).2 k2).2)), (4, .int (nI k)), (5, .int (M 0 (20 + k))), (6, .int (nI (k2 + 1)))] → W p l e ({ frames := 7, cells := 0, slots := 0, locals := 164 }) s m args below meth c H locs 0 0 Q (F0 m 59 ls []) := by
              intro n0
              induction n0 with
              | zero =>
                intro k2 h1 h2
                exact absurd h2 (by omega)
              | succ n0 ih2 =>
                intro k2 hk hn0 H locs ls w hl
                refine lv_iload hx hb dX12_bestSlide_59 (lv_at hl 6 rfl) ?_
                refine lv_bipush (v := 8) hx hb dX12_bestSlide_61 (by decide) ?_
                refine lv_icmp_gt (tgt := 155) hx hb dX12_bestSlide_63 (by decide) (fun c_63 => ?_) (fun c_63 => ?_)
                · have hk2 : 8 = k2 := by
                    rcases Nat.lt_or_ge k2 8 with q | q
                    · exact absurd c_63 (nI_nlt (a := 8) (b := (k2 + 1)) (by omega) (by omega))
                    · omega
                  subst hk2
                  refine lv_iinc (v := nI k + 1) (lv' := [(4, .int (nI k + 1)), (0, .ref mo), (1, .int (what)), (2, .int ((hs_sl1 (M 0) n k (hs_sl (M 0) n k).1 (hs_sl (M 0) n k).2 8).1)), (3, .int ((hs_sl1 (M 0) n k (hs_sl (M 0) n k).1 (hs_sl (M 0) n k).2 8).2)), (5, .int (M 0 (20 + k))), (6, .int (nI (8 + 1)))]) hx hb dX12_bestSlide_155 hl (k := 4) rfl rfl (by decide) rfl (fun ls hl => ?_)
                  refine lv_goto (tgt := 33) hx hb dX12_bestSlide_158 (by decide) ?_
                  have he2 : ((hs_sl1 (M 0) n k (hs_sl (M 0) n k).1 (hs_sl (M 0) n k).2 8).1) = (hs_sl (M 0) n (k + 1)).1 := by rfl
                  have hl := hs_lv hl (k := 3) rfl he2
                  have he3 : ((hs_sl1 (M 0) n k (hs_sl (M 0) n k).1 (hs_sl (M 0) n k).2 8).2) = (hs_sl (M 0) n (k + 1)).2 := by rfl
                  have hl := hs_lv hl (k := 4) rfl he3
                  have hl := hs_lv hl (k := 0) rfl (nI_1 k)
                  exact ih (k + 1) (by omega) (by omega) H locs ls w (lv_sub hl [1, 2, 3, 4, 0] rfl)
                · have hk2l : k2 < 8 := by
                    rcases Nat.lt_or_ge k2 8 with q | q
                    · exact q
                    · exact absurd (nI_lt (a := 8) (b := (k2 + 1)) (by omega) (by omega)) c_63
                  refine lv_aload_n hx hb dX12_bestSlide_66 rfl (lv_at hl 0 rfl) ?_
                  refine lv_iconst (v := 0) hx hb dX12_bestSlide_67 (by decide) ?_
                  refine lv_aload_n hx hb dX12_bestSlide_68 rfl (lv_at hl 0 rfl) ?_
                  refine mo_get X w hm hin 0 (by decide) (List.mem_of_getElem? (i := 1) rfl) rfl dX12_bestSlide_69 ?_
                  refine lv_bipush (v := 14) hx hb dX12_bestSlide_72 (by decide) ?_
                  refine lv_iload hx hb dX12_bestSlide_74 (lv_at hl 4 rfl) ?_
                  refine lv_iadd hx hb dX12_bestSlide_76 ?_
                  refine mo_iald X w hm 0 (by decide) (by decide) (14 + k) (hs_addI rfl rfl) (by show _ < 1400; omega) dX12_bestSlide_77 ?_
                  refine lv_iload hx hb dX12_bestSlide_78 (lv_at hl 6 rfl) ?_
                  refine hg_viF (r := (hs_who (M 0) (M 0 (14 + k)) (nI (k2 + 1)) n)) (As := [.int (0), .int (M 0 (14 + k)), .int (nI (k2 + 1))]) (rest := []) X w (c_X12_whoIs0 l D b0 L f mo ma M hm n hn hn6 (M 0 (14 + k)) (nI (k2 + 1))) (cwV 3 hts gX12_bestSlide_X12_whoIs rfl rfl rfl hdX12_whoIs ⟨Nat.le_of_ble_eq_true rfl, Nat.le_of_ble_eq_true rfl⟩) hm.1 (mo_at0 D f mo ma _) rfl rfl rfl hl.1 rfl (Nat.le_of_ble_eq_true rfl) dX12_bestSlide_80 ⟨Nat.zero_le _, Nat.zero_le _⟩ (fun H locs w => ?_)
                  refine lv_if_ge (tgt := 149) hx hb dX12_bestSlide_83 (by decide) (fun c_83 => ?_) (fun c_83 => ?_)
                  · refine lv_iinc (v := nI (k2 + 1) + 1) (lv' := [(6, .int (nI (k2 + 1) + 1)), (0, .ref mo), (1, .int (what)), (2, .int ((hs_sl1 (M 0) n k (hs_sl (M 0) n k).1 (hs_sl (M 0) n k).2 k2).1)), (3, .int ((hs_sl1 (M 0) n k (hs_sl (M 0) n k).1 (hs_sl (M 0) n k).2 k2).2)), (4, .int (nI k)), (5, .int (M 0 (20 + k)))]) hx hb dX12_bestSlide_149 hl (k := 6) rfl rfl (by decide) rfl (fun ls hl => ?_)
                    refine lv_goto (tgt := 59) hx hb dX12_bestSlide_152 (by decide) ?_
                    have he2 : ((hs_sl1 (M 0) n k (hs_sl (M 0) n k).1 (hs_sl (M 0) n k).2 k2).1) = (hs_sl1 (M 0) n k (hs_sl (M 0) n k).1 (hs_sl (M 0) n k).2 (k2 + 1)).1 := by (try simp only [lg_cmp_le, lg_cmp_ge, lg_cmp_lt, lg_cmp_gt, ← Int32.not_lt, ← Int64.not_lt, Classical.not_not] at c_6 c_19 c_41 c_63 c_83); first | (simp [hs_sl1, hs_free, hs_meet, c_6, c_19, c_41, c_63, c_83]; done) | (simp [hs_sl1, hs_free, hs_meet, c_6, c_19, c_41, c_63, c_83]; done) | (exfalso; clear hend ih ih2; simp_all; done)
                    have hl := hs_lv hl (k := 3) rfl he2
                    have he3 : ((hs_sl1 (M 0) n k (hs_sl (M 0) n k).1 (hs_sl (M 0) n k).2 k2).2) = (hs_sl1 (M 0) n k (hs_sl (M 0) n k).1 (hs_sl (M 0) n k).2 (k2 + 1)).2 := by (try simp only [lg_cmp_le, lg_cmp_ge, lg_cmp_lt, lg_cmp_gt, ← Int32.not_lt, ← Int64.not_lt, Classical.not_not] at c_6 c_19 c_41 c_63 c_83); first | (simp [hs_sl1, hs_free, hs_meet, c_6, c_19, c_41, c_63, c_83]; done) | (simp [hs_sl1, hs_free, hs_meet, c_6, c_19, c_41, c_63, c_83]; done) | (exfalso; clear hend ih ih2; simp_all; done)
                    have hl := hs_lv hl (k := 4) rfl he3
                    have hl := hs_lv hl (k := 0) rfl (nI_1 (k2 + 1))
                    exact ih2 (k2 + 1) (by omega) (by omega) H locs ls w (lv_sub hl [1, 2, 3, 4, 5, 6, 0] rfl)
                  · refine lv_aload_n hx hb dX12_bestSlide_86 rfl (lv_at hl 0 rfl) ?_
                    refine mo_get X w hm hin 0 (by decide) (List.mem_of_getElem? (i := 1) rfl) rfl dX12_bestSlide_87 ?_
                    refine lv_bipush (v := 20) hx hb dX12_bestSlide_90 (by decide) ?_
                    refine lv_iload hx hb dX12_bestSlide_92 (lv_at hl 4 rfl) ?_
                    refine lv_iadd hx hb dX12_bestSlide_94 ?_
                    refine lv_iload hx hb dX12_bestSlide_95 (lv_at hl 6 rfl) ?_
                    refine mo_iast X w hm 0 (by decide) (by decide) (20 + k) (hs_addI rfl rfl) (by show _ < 1400; omega) dX12_bestSlide_97 (fun H locs w => ?_)
                    refine lv_aload_n hx hb dX12_bestSlide_98 rfl (lv_at hl 0 rfl) ?_
                    refine lv_iconst (v := 2) hx hb dX12_bestSlide_99 (by decide) ?_
                    refine hg_viF (r := (hs_wks (va_up (M 0) (20 + k) (nI (k2 + 1))) n 2 n)) (As := [.int (2)]) (rest := []) X w (c_X12_walks l D b0 L f mo ma (mo_w M 0 (20 + k) (nI (k2 + 1))) hm n nr (hs_ok_w (by omega) hv) 2) (cwV 1 hts gX12_bestSlide_X12_walks rfl rfl rfl hdX12_walks ⟨Nat.le_of_ble_eq_true rfl, Nat.le_of_ble_eq_true rfl⟩) hm.1 (mo_at0 D f mo ma _) rfl rfl rfl hl.1 rfl (Nat.le_of_ble_eq_true rfl) dX12_bestSlide_100 ⟨Nat.zero_le _, Nat.zero_le _⟩ (fun H locs w => ?_)
                    refine lv_istore (lv' := [(7, .int ((hs_wks (va_up (M 0) (20 + k) (nI (k2 + 1))) n 2 n))), (0, .ref mo), (1, .int (what)), (2, .int ((hs_sl1 (M 0) n k (hs_sl (M 0) n k).1 (hs_sl (M 0) n k).2 k2).1)), (3, .int ((hs_sl1 (M 0) n k (hs_sl (M 0) n k).1 (hs_sl (M 0) n k).2 k2).2)), (4, .int (nI k)), (5, .int (M 0 (20 + k))), (6, .int (nI (k2 + 1)))]) hx hb dX12_bestSlide_103 hl (by decide) rfl (fun ls hl => ?_)
                    refine lv_iload hx hb dX12_bestSlide_105 (lv_at hl 0 rfl) ?_
                    refine lv_iload_n hx hb dX12_bestSlide_107 rfl (lv_at hl 4 rfl) ?_
                    refine lv_icmp_le (tgt := 122) hx hb dX12_bestSlide_108 (by decide) (fun c_108 => ?_) (fun c_108 => ?_)
                    · refine lv_iload_n hx hb dX12_bestSlide_122 rfl (lv_at hl 3 rfl) ?_
                      refine lv_istore_n (lv' := [(2, .int ((hs_sl1 (M 0) n k (hs_sl (M 0) n k).1 (hs_sl (M 0) n k).2 k2).1)), (7, .int ((hs_wks (va_up (M 0) (20 + k) (nI (k2 + 1))) n 2 n))), (0, .ref mo), (1, .int (what)), (3, .int ((hs_sl1 (M 0) n k (hs_sl (M 0) n k).1 (hs_sl (M 0) n k).2 k2).2)), (4, .int (nI k)), (5, .int (M 0 (20 + k))), (6, .int (nI (k2 + 1)))]) hx hb dX12_bestSlide_123 rfl hl (by decide) rfl (fun ls hl => ?_)
                      refine lv_iload hx hb dX12_bestSlide_124 (lv_at hl 1 rfl) ?_
                      refine lv_iload_n hx hb dX12_bestSlide_126 rfl (lv_at hl 4 rfl) ?_
                      refine lv_icmp_le (tgt := 135) hx hb dX12_bestSlide_127 (by decide) (fun c_127 => ?_) (fun c_127 => ?_)
                      · refine lv_iload_n hx hb dX12_bestSlide_135 rfl (lv_at hl 4 rfl) ?_
                        refine lv_istore_n (lv' := [(3, .int ((hs_sl1 (M 0) n k (hs_sl (M 0) n k).1 (hs_sl (M 0) n k).2 k2).2)), (2, .int ((hs_sl1 (M 0) n k (hs_sl (M 0) n k).1 (hs_sl (M 0) n k).2 k2).1)), (7, .int ((hs_wks (va_up (M 0) (20 + k) (nI (k2 + 1))) n 2 n))), (0, .ref mo), (1, .int (what)), (4, .int (nI k)), (5, .int (M 0 (20 + k))), (6, .int (nI (k2 + 1)))]) hx hb dX12_bestSlide_136 rfl hl (by decide) rfl (fun ls hl => ?_)
                        refine lv_aload_n hx hb dX12_bestSlide_137 rfl (lv_at hl 3 rfl) ?_
                        refine mo_get X w hm hin 0 (by decide) (List.mem_of_getElem? (i := 1) rfl) rfl dX12_bestSlide_138 ?_
                        refine lv_bipush (v := 20) hx hb dX12_bestSlide_141 (by decide) ?_
                        refine lv_iload hx hb dX12_bestSlide_143 (lv_at hl 5 rfl) ?_
                        refine lv_iadd hx hb dX12_bestSlide_145 ?_
                        refine lv_iload hx hb dX12_bestSlide_146 (lv_at hl 6 rfl) ?_
                        refine mo_iast X w hm 0 (by decide) (by decide) (20 + k) (hs_addI rfl rfl) (by show _ < 1400; omega) dX12_bestSlide_148 (fun H locs w => ?_)
                        rw [mo_w_w] at w
                        rw [mo_w_id] at w
                        refine lv_iinc (v := nI (k2 + 1) + 1) (lv' := [(6, .int (nI (k2 + 1) + 1)), (3, .int ((hs_sl1 (M 0) n k (hs_sl (M 0) n k).1 (hs_sl (M 0) n k).2 k2).2)), (2, .int ((hs_sl1 (M 0) n k (hs_sl (M 0) n k).1 (hs_sl (M 0) n k).2 k2).1)), (7, .int ((hs_wks (va_up (M 0) (20 + k) (nI (k2 + 1))) n 2 n))), (0, .ref mo), (1, .int (what)), (4, .int (nI k)), (5, .int (M 0 (20 + k)))]) hx hb dX12_bestSlide_149 hl (k := 7) rfl rfl (by decide) rfl (fun ls hl => ?_)
                        refine lv_goto (tgt := 59) hx hb dX12_bestSlide_152 (by decide) ?_
                        have he2 : ((hs_sl1 (M 0) n k (hs_sl (M 0) n k).1 (hs_sl (M 0) n k).2 k2).1) = (hs_sl1 (M 0) n k (hs_sl (M 0) n k).1 (hs_sl (M 0) n k).2 (k2 + 1)).1 := by (try simp only [lg_cmp_le, lg_cmp_ge, lg_cmp_lt, lg_cmp_gt, ← Int32.not_lt, ← Int64.not_lt, Classical.not_not] at c_6 c_19 c_41 c_63 c_83 c_108 c_127); first | (simp [hs_sl1, hs_free, hs_meet, c_6, c_19, c_41, c_63, c_83, c_108, c_127]; done) | (simp [hs_sl1, hs_free, hs_meet, c_6, c_19, c_41, c_63, c_83, c_108, c_127]; done) | (exfalso; clear hend ih ih2; simp_all; done)
                        have hl := hs_lv hl (k := 2) rfl he2
                        have he3 : ((hs_sl1 (M 0) n k (hs_sl (M 0) n k).1 (hs_sl (M 0) n k).2 k2).2) = (hs_sl1 (M 0) n k (hs_sl (M 0) n k).1 (hs_sl (M 0) n k).2 (k2 + 1)).2 := by (try simp only [lg_cmp_le, lg_cmp_ge, lg_cmp_lt, lg_cmp_gt, ← Int32.not_lt, ← Int64.not_lt, Classical.not_not] at c_6 c_19 c_41 c_63 c_83 c_108 c_127); first | (simp [hs_sl1, hs_free, hs_meet, c_6, c_19, c_41, c_63, c_83, c_108, c_127]; done) | (simp [hs_sl1, hs_free, hs_meet, c_6, c_19, c_41, c_63, c_83, c_108, c_127]; done) | (exfalso; clear hend ih ih2; simp_all; done)
                        have hl := hs_lv hl (k := 1) rfl he3
                        have hl := hs_lv hl (k := 0) rfl (nI_1 (k2 + 1))
                        exact ih2 (k2 + 1) (by omega) (by omega) H locs ls w (lv_sub hl [4, 5, 2, 1, 6, 7, 0] rfl)
                      · refine lv_iload hx hb dX12_bestSlide_130 (lv_at hl 1 rfl) ?_
                        refine lv_goto (tgt := 136) hx hb dX12_bestSlide_132 (by decide) ?_
                        refine lv_istore_n (lv' := [(3, .int ((hs_wks (va_up (M 0) (20 + k) (nI (k2 + 1))) n 2 n))), (2, .int ((hs_sl1 (M 0) n k (hs_sl (M 0) n k).1 (hs_sl (M 0) n k).2 k2).1)), (7, .int ((hs_wks (va_up (M 0) (20 + k) (nI (k2 + 1))) n 2 n))), (0, .ref mo), (1, .int (what)), (4, .int (nI k)), (5, .int (M 0 (20 + k))), (6, .int (nI (k2 + 1)))]) hx hb dX12_bestSlide_136 rfl hl (by decide) rfl (fun ls hl => ?_)
                        refine lv_aload_n hx hb dX12_bestSlide_137 rfl (lv_at hl 3 rfl) ?_
                        refine mo_get X w hm hin 0 (by decide) (List.mem_of_getElem? (i := 1) rfl) rfl dX12_bestSlide_138 ?_
                        refine lv_bipush (v := 20) hx hb dX12_bestSlide_141 (by decide) ?_
                        refine lv_iload hx hb dX12_bestSlide_143 (lv_at hl 5 rfl) ?_
                        refine lv_iadd hx hb dX12_bestSlide_145 ?_
                        refine lv_iload hx hb dX12_bestSlide_146 (lv_at hl 6 rfl) ?_
                        refine mo_iast X w hm 0 (by decide) (by decide) (20 + k) (hs_addI rfl rfl) (by show _ < 1400; omega) dX12_bestSlide_148 (fun H locs w => ?_)
                        rw [mo_w_w] at w
                        rw [mo_w_id] at w
                        refine lv_iinc (v := nI (k2 + 1) + 1) (lv' := [(6, .int (nI (k2 + 1) + 1)), (3, .int ((hs_wks (va_up (M 0) (20 + k) (nI (k2 + 1))) n 2 n))), (2, .int ((hs_sl1 (M 0) n k (hs_sl (M 0) n k).1 (hs_sl (M 0) n k).2 k2).1)), (7, .int ((hs_wks (va_up (M 0) (20 + k) (nI (k2 + 1))) n 2 n))), (0, .ref mo), (1, .int (what)), (4, .int (nI k)), (5, .int (M 0 (20 + k)))]) hx hb dX12_bestSlide_149 hl (k := 7) rfl rfl (by decide) rfl (fun ls hl => ?_)
                        refine lv_goto (tgt := 59) hx hb dX12_bestSlide_152 (by decide) ?_
                        have he2 : ((hs_sl1 (M 0) n k (hs_sl (M 0) n k).1 (hs_sl (M 0) n k).2 k2).1) = (hs_sl1 (M 0) n k (hs_sl (M 0) n k).1 (hs_sl (M 0) n k).2 (k2 + 1)).1 := by (try simp only [lg_cmp_le, lg_cmp_ge, lg_cmp_lt, lg_cmp_gt, ← Int32.not_lt, ← Int64.not_lt, Classical.not_not] at c_6 c_19 c_41 c_63 c_83 c_108 c_127); first | (simp [hs_sl1, hs_free, hs_meet, c_6, c_19, c_41, c_63, c_83, c_108, c_127]; done) | (simp [hs_sl1, hs_free, hs_meet, c_6, c_19, c_41, c_63, c_83, c_108, c_127]; done) | (exfalso; clear hend ih ih2; simp_all; done)
                        have hl := hs_lv hl (k := 2) rfl he2
                        have he3 : (hs_wks (va_up (M 0) (20 + k) (nI (k2 + 1))) n 2 n) = (hs_sl1 (M 0) n k (hs_sl (M 0) n k).1 (hs_sl (M 0) n k).2 (k2 + 1)).2 := by (try simp only [lg_cmp_le, lg_cmp_ge, lg_cmp_lt, lg_cmp_gt, ← Int32.not_lt, ← Int64.not_lt, Classical.not_not] at c_6 c_19 c_41 c_63 c_83 c_108 c_127); first | (simp [hs_sl1, hs_free, hs_meet, c_6, c_19, c_41, c_63, c_83, c_108, c_127]; done) | (simp [hs_sl1, hs_free, hs_meet, c_6, c_19, c_41, c_63, c_83, c_108, c_127]; done) | (exfalso; clear hend ih ih2; simp_all; done)
                        have hl := hs_lv hl (k := 1) rfl he3
                        have hl := hs_lv hl (k := 0) rfl (nI_1 (k2 + 1))
                        exact ih2 (k2 + 1) (by omega) (by omega) H locs ls w (lv_sub hl [4, 5, 2, 1, 6, 7, 0] rfl)
                    · refine lv_bipush (v := 9) hx hb dX12_bestSlide_111 (by decide) ?_
                      refine lv_iload hx hb dX12_bestSlide_113 (lv_at hl 5 rfl) ?_
                      refine lv_imul hx hb dX12_bestSlide_115 ?_
                      refine lv_iload hx hb dX12_bestSlide_116 (lv_at hl 7 rfl) ?_
                      refine lv_iadd hx hb dX12_bestSlide_118 ?_
                      refine lv_goto (tgt := 123) hx hb dX12_bestSlide_119 (by decide) ?_
                      refine lv_istore_n (lv' := [(2, .int (((9 * nI k) + nI (k2 + 1)))), (7, .int ((hs_wks (va_up (M 0) (20 + k) (nI (k2 + 1))) n 2 n))), (0, .ref mo), (1, .int (what)), (3, .int ((hs_sl1 (M 0) n k (hs_sl (M 0) n k).1 (hs_sl (M 0) n k).2 k2).2)), (4, .int (nI k)), (5, .int (M 0 (20 + k))), (6, .int (nI (k2 + 1)))]) hx hb dX12_bestSlide_123 rfl hl (by decide) rfl (fun ls hl => ?_)
                      refine lv_iload hx hb dX12_bestSlide_124 (lv_at hl 1 rfl) ?_
                      refine lv_iload_n hx hb dX12_bestSlide_126 rfl (lv_at hl 4 rfl) ?_
                      refine lv_icmp_le (tgt := 135) hx hb dX12_bestSlide_127 (by decide) (fun c_127 => ?_) (fun c_127 => ?_)
                      · refine lv_iload_n hx hb dX12_bestSlide_135 rfl (lv_at hl 4 rfl) ?_
                        refine lv_istore_n (lv' := [(3, .int ((hs_sl1 (M 0) n k (hs_sl (M 0) n k).1 (hs_sl (M 0) n k).2 k2).2)), (2, .int (((9 * nI k) + nI (k2 + 1)))), (7, .int ((hs_wks (va_up (M 0) (20 + k) (nI (k2 + 1))) n 2 n))), (0, .ref mo), (1, .int (what)), (4, .int (nI k)), (5, .int (M 0 (20 + k))), (6, .int (nI (k2 + 1)))]) hx hb dX12_bestSlide_136 rfl hl (by decide) rfl (fun ls hl => ?_)
                        refine lv_aload_n hx hb dX12_bestSlide_137 rfl (lv_at hl 3 rfl) ?_
                        refine mo_get X w hm hin 0 (by decide) (List.mem_of_getElem? (i := 1) rfl) rfl dX12_bestSlide_138 ?_
                        refine lv_bipush (v := 20) hx hb dX12_bestSlide_141 (by decide) ?_
                        refine lv_iload hx hb dX12_bestSlide_143 (lv_at hl 5 rfl) ?_
                        refine lv_iadd hx hb dX12_bestSlide_145 ?_
                        refine lv_iload hx hb dX12_bestSlide_146 (lv_at hl 6 rfl) ?_
                        refine mo_iast X w hm 0 (by decide) (by decide) (20 + k) (hs_addI rfl rfl) (by show _ < 1400; omega) dX12_bestSlide_148 (fun H locs w => ?_)
                        rw [mo_w_w] at w
                        rw [mo_w_id] at w
                        refine lv_iinc (v := nI (k2 + 1) + 1) (lv' := [(6, .int (nI (k2 + 1) + 1)), (3, .int ((hs_sl1 (M 0) n k (hs_sl (M 0) n k).1 (hs_sl (M 0) n k).2 k2).2)), (2, .int (((9 * nI k) + nI (k2 + 1)))), (7, .int ((hs_wks (va_up (M 0) (20 + k) (nI (k2 + 1))) n 2 n))), (0, .ref mo), (1, .int (what)), (4, .int (nI k)), (5, .int (M 0 (20 + k)))]) hx hb dX12_bestSlide_149 hl (k := 7) rfl rfl (by decide) rfl (fun ls hl => ?_)
                        refine lv_goto (tgt := 59) hx hb dX12_bestSlide_152 (by decide) ?_
                        have he2 : ((9 * nI k) + nI (k2 + 1)) = (hs_sl1 (M 0) n k (hs_sl (M 0) n k).1 (hs_sl (M 0) n k).2 (k2 + 1)).1 := by (try simp only [lg_cmp_le, lg_cmp_ge, lg_cmp_lt, lg_cmp_gt, ← Int32.not_lt, ← Int64.not_lt, Classical.not_not] at c_6 c_19 c_41 c_63 c_83 c_108 c_127); first | (simp [hs_sl1, hs_free, hs_meet, c_6, c_19, c_41, c_63, c_83, c_108, c_127]; done) | (simp [hs_sl1, hs_free, hs_meet, c_6, c_19, c_41, c_63, c_83, c_108, c_127]; done) | (exfalso; clear hend ih ih2; simp_all; done)
                        have hl := hs_lv hl (k := 2) rfl he2
                        have he3 : ((hs_sl1 (M 0) n k (hs_sl (M 0) n k).1 (hs_sl (M 0) n k).2 k2).2) = (hs_sl1 (M 0) n k (hs_sl (M 0) n k).1 (hs_sl (M 0) n k).2 (k2 + 1)).2 := by (try simp only [lg_cmp_le, lg_cmp_ge, lg_cmp_lt, lg_cmp_gt, ← Int32.not_lt, ← Int64.not_lt, Classical.not_not] at c_6 c_19 c_41 c_63 c_83 c_108 c_127); first | (simp [hs_sl1, hs_free, hs_meet, c_6, c_19, c_41, c_63, c_83, c_108, c_127]; done) | (simp [hs_sl1, hs_free, hs_meet, c_6, c_19, c_41, c_63, c_83, c_108, c_127]; done) | (exfalso; clear hend ih ih2; simp_all; done)
                        have hl := hs_lv hl (k := 1) rfl he3
                        have hl := hs_lv hl (k := 0) rfl (nI_1 (k2 + 1))
                        exact ih2 (k2 + 1) (by omega) (by omega) H locs ls w (lv_sub hl [4, 5, 2, 1, 6, 7, 0] rfl)
                      · refine lv_iload hx hb dX12_bestSlide_130 (lv_at hl 1 rfl) ?_
                        refine lv_goto (tgt := 136) hx hb dX12_bestSlide_132 (by decide) ?_
                        refine lv_istore_n (lv' := [(3, .int ((hs_wks (va_up (M 0) (20 + k) (nI (k2 + 1))) n 2 n))), (2, .int (((9 * nI k) + nI (k2 + 1)))), (7, .int ((hs_wks (va_up (M 0) (20 + k) (nI (k2 + 1))) n 2 n))), (0, .ref mo), (1, .int (what)), (4, .int (nI k)), (5, .int (M 0 (20 + k))), (6, .int (nI (k2 + 1)))]) hx hb dX12_bestSlide_136 rfl hl (by decide) rfl (fun ls hl => ?_)
                        refine lv_aload_n hx hb dX12_bestSlide_137 rfl (lv_at hl 3 rfl) ?_
                        refine mo_get X w hm hin 0 (by decide) (List.mem_of_getElem? (i := 1) rfl) rfl dX12_bestSlide_138 ?_
                        refine lv_bipush (v := 20) hx hb dX12_bestSlide_141 (by decide) ?_
                        refine lv_iload hx hb dX12_bestSlide_143 (lv_at hl 5 rfl) ?_
                        refine lv_iadd hx hb dX12_bestSlide_145 ?_
                        refine lv_iload hx hb dX12_bestSlide_146 (lv_at hl 6 rfl) ?_
                        refine mo_iast X w hm 0 (by decide) (by decide) (20 + k) (hs_addI rfl rfl) (by show _ < 1400; omega) dX12_bestSlide_148 (fun H locs w => ?_)
                        rw [mo_w_w] at w
                        rw [mo_w_id] at w
                        refine lv_iinc (v := nI (k2 + 1) + 1) (lv' := [(6, .int (nI (k2 + 1) + 1)), (3, .int ((hs_wks (va_up (M 0) (20 + k) (nI (k2 + 1))) n 2 n))), (2, .int (((9 * nI k) + nI (k2 + 1)))), (7, .int ((hs_wks (va_up (M 0) (20 + k) (nI (k2 + 1))) n 2 n))), (0, .ref mo), (1, .int (what)), (4, .int (nI k)), (5, .int (M 0 (20 + k)))]) hx hb dX12_bestSlide_149 hl (k := 7) rfl rfl (by decide) rfl (fun ls hl => ?_)
                        refine lv_goto (tgt := 59) hx hb dX12_bestSlide_152 (by decide) ?_
                        have he2 : ((9 * nI k) + nI (k2 + 1)) = (hs_sl1 (M 0) n k (hs_sl (M 0) n k).1 (hs_sl (M 0) n k).2 (k2 + 1)).1 := by (try simp only [lg_cmp_le, lg_cmp_ge, lg_cmp_lt, lg_cmp_gt, ← Int32.not_lt, ← Int64.not_lt, Classical.not_not] at c_6 c_19 c_41 c_63 c_83 c_108 c_127); first | (simp [hs_sl1, hs_free, hs_meet, c_6, c_19, c_41, c_63, c_83, c_108, c_127]; done) | (simp [hs_sl1, hs_free, hs_meet, c_6, c_19, c_41, c_63, c_83, c_108, c_127]; done) | (exfalso; clear hend ih ih2; simp_all; done)
                        have hl := hs_lv hl (k := 2) rfl he2
                        have he3 : (hs_wks (va_up (M 0) (20 + k) (nI (k2 + 1))) n 2 n) = (hs_sl1 (M 0) n k (hs_sl (M 0) n k).1 (hs_sl (M 0) n k).2 (k2 + 1)).2 := by (try simp only [lg_cmp_le, lg_cmp_ge, lg_cmp_lt, lg_cmp_gt, ← Int32.not_lt, ← Int64.not_lt, Classical.not_not] at c_6 c_19 c_41 c_63 c_83 c_108 c_127); first | (simp [hs_sl1, hs_free, hs_meet, c_6, c_19, c_41, c_63, c_83, c_108, c_127]; done) | (simp [hs_sl1, hs_free, hs_meet, c_6, c_19, c_41, c_63, c_83, c_108, c_127]; done) | (exfalso; clear hend ih ih2; simp_all; done)
                        have hl := hs_lv hl (k := 1) rfl he3
                        have hl := hs_lv hl (k := 0) rfl (nI_1 (k2 + 1))
                        exact ih2 (k2 + 1) (by omega) (by omega) H locs ls w (lv_sub hl [4, 5, 2, 1, 6, 7, 0] rfl)
            exact loop2 9 0 (by omega) (by omega) H locs ls w (lv_sub hl [2, 3, 4, 5, 6, 1, 0] rfl)
      exact loop (n + 1) 0 (by omega) (by omega) H locs ls w (lv_sub hl [3, 4, 2, 1, 0] rfl)
    · refine lv_ldc (v := (-1000001)) hx hb hown (hts _ (List.mem_of_getElem? (i := 3) rfl)) dX12_bestSlide_22 ?_
      exact hend H locs ((-1000001)) (L, mo_F D f mo ma M) _ ls w ⟨(by (try simp only [lg_cmp_le, lg_cmp_ge, lg_cmp_lt, lg_cmp_gt, ← Int32.not_lt, ← Int64.not_lt, Classical.not_not] at c_6 c_19); first | (simp [q_best, c_6, c_19]; done) | (simp [q_best, c_6, eq_true c_19]; done) | (exfalso; clear hend; simp_all; done)), rfl⟩ rfl dX12_bestSlide_24
  · refine lv_ldc (v := (-1000002)) hx hb hown (hts _ (List.mem_of_getElem? (i := 2) rfl)) dX12_bestSlide_9 ?_
    exact hend H locs ((-1000002)) (L, mo_F D f mo ma M) _ ls w ⟨(by (try simp only [lg_cmp_le, lg_cmp_ge, lg_cmp_lt, lg_cmp_gt, ← Int32.not_lt, ← Int64.not_lt, Classical.not_not] at c_6); first | (simp [q_best, c_6]; done) | (simp [q_best, eq_true c_6]; done) | (exfalso; clear hend; simp_all; done)), rfl⟩ rfl dX12_bestSlide_11
