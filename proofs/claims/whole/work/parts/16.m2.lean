set_option maxRecDepth 100000 in
set_option maxHeartbeats 4000000 in
/-- weightOf -/
theorem c_X12_weightOf (l : Launch) (D : va_G) (b0 : Nat) (L : List Nat) (f : Nat → va_E) (mo : Nat) (ma : Nat → Nat) (M : Nat → Nat → Int32) (hm : mo_ok L mo ma) (j : Nat) (hj : j < 6) : mo_Fi l yX12_weightOf wsX12_weightOf ({ frames := 0, cells := 0, slots := 0, locals := 0 }) D b0 L f mo ma M [.int (nI j)] (hs_weight (M 0) j) (M) := by
  refine hg_in_i (cc := cX12_weightOf) (nL := 5) (by decide) rfl (Nat.le_of_ble_eq_true rfl) (fun p e s m args below meth c R Q X hR hend H locs ls w hl => ?_)
  subst hR
  obtain ⟨hx, hb, hml, hown, hts⟩ := id X.1
  have hin : ∀ w ∈ wsX120, w ∈ wsX12_weightOf := fun w h => List.mem_cons_of_mem _ (List.mem_append_right _ h)
  have hl : lv_has ls 5 [(0, .ref mo), (1, .int (nI j))] := hl
  refine lv_aload_n hx hb dX12_weightOf_0 rfl (lv_at hl 0 rfl) ?_
  refine mo_get X w hm hin 0 (by decide) (List.mem_of_getElem? (i := 1) rfl) rfl dX12_weightOf_1 ?_
  refine lv_bipush (v := 8) hx hb dX12_weightOf_4 (by decide) ?_
  refine lv_iload_n hx hb dX12_weightOf_6 rfl (lv_at hl 1 rfl) ?_
  refine lv_iadd hx hb dX12_weightOf_7 ?_
  refine mo_iald X w hm 0 (by decide) (by decide) (8 + j) (hs_addI rfl rfl) (by show _ < 1400; omega) dX12_weightOf_8 ?_
  refine lv_istore_n (lv' := [(2, .int (M 0 (8 + j))), (0, .ref mo), (1, .int (nI j))]) hx hb dX12_weightOf_9 rfl hl (by decide) rfl (fun ls hl => ?_)
  refine lv_aload_n hx hb dX12_weightOf_10 rfl (lv_at hl 1 rfl) ?_
  refine mo_get X w hm hin 0 (by decide) (List.mem_of_getElem? (i := 1) rfl) rfl dX12_weightOf_11 ?_
  refine lv_bipush (v := 44) hx hb dX12_weightOf_14 (by decide) ?_
  refine lv_iload_n hx hb dX12_weightOf_16 rfl (lv_at hl 2 rfl) ?_
  refine lv_iadd hx hb dX12_weightOf_17 ?_
  refine mo_iald X w hm 0 (by decide) (by decide) (44 + j) (hs_addI rfl rfl) (by show _ < 1400; omega) dX12_weightOf_18 ?_
  refine lv_iconst (v := 1) hx hb dX12_weightOf_19 (by decide) ?_
  refine lv_icmp_ne (tgt := 27) hx hb dX12_weightOf_20 (by decide) (fun c_20 => ?_) (fun c_20 => ?_)
  · refine lv_aload_n hx hb dX12_weightOf_27 rfl (lv_at hl 1 rfl) ?_
    refine mo_get X w hm hin 0 (by decide) (List.mem_of_getElem? (i := 1) rfl) rfl dX12_weightOf_28 ?_
    refine lv_bipush (v := 26) hx hb dX12_weightOf_31 (by decide) ?_
    refine lv_iload_n hx hb dX12_weightOf_33 rfl (lv_at hl 2 rfl) ?_
    refine lv_iadd hx hb dX12_weightOf_34 ?_
    refine mo_iald X w hm 0 (by decide) (by decide) (26 + j) (hs_addI rfl rfl) (by show _ < 1400; omega) dX12_weightOf_35 ?_
    refine lv_istore_n (lv' := [(3, .int (M 0 (26 + j))), (2, .int (M 0 (8 + j))), (0, .ref mo), (1, .int (nI j))]) hx hb dX12_weightOf_36 rfl hl (by decide) rfl (fun ls hl => ?_)
    refine lv_iload_n hx hb dX12_weightOf_37 rfl (lv_at hl 1 rfl) ?_
    refine lv_iconst (v := 2) hx hb dX12_weightOf_38 (by decide) ?_
    refine lv_icmp_ne (tgt := 48) hx hb dX12_weightOf_39 (by decide) (fun c_39 => ?_) (fun c_39 => ?_)
    · refine lv_iload_n hx hb dX12_weightOf_48 rfl (lv_at hl 1 rfl) ?_
      refine lv_iconst (v := 3) hx hb dX12_weightOf_49 (by decide) ?_
      refine lv_icmp_ne (tgt := 59) hx hb dX12_weightOf_50 (by decide) (fun c_50 => ?_) (fun c_50 => ?_)
      · refine lv_iload_n hx hb dX12_weightOf_59 rfl (lv_at hl 1 rfl) ?_
        refine lv_iconst (v := 5) hx hb dX12_weightOf_60 (by decide) ?_
        refine lv_icmp_ne (tgt := 69) hx hb dX12_weightOf_61 (by decide) (fun c_61 => ?_) (fun c_61 => ?_)
        · refine lv_iload_n hx hb dX12_weightOf_69 rfl (lv_at hl 0 rfl) ?_
          refine lv_istore (lv' := [(4, .int (M 0 (26 + j))), (3, .int (M 0 (26 + j))), (2, .int (M 0 (8 + j))), (0, .ref mo), (1, .int (nI j))]) hx hb dX12_weightOf_70 hl (by decide) rfl (fun ls hl => ?_)
          refine lv_iload hx hb dX12_weightOf_72 (lv_at hl 0 rfl) ?_
          refine lv_aload_n hx hb dX12_weightOf_74 rfl (lv_at hl 3 rfl) ?_
          refine mo_get X w hm hin 0 (by decide) (List.mem_of_getElem? (i := 1) rfl) rfl dX12_weightOf_75 ?_
          refine lv_bipush (v := 38) hx hb dX12_weightOf_78 (by decide) ?_
          refine lv_iload_n hx hb dX12_weightOf_80 rfl (lv_at hl 4 rfl) ?_
          refine lv_iadd hx hb dX12_weightOf_81 ?_
          refine mo_iald X w hm 0 (by decide) (by decide) (38 + j) (hs_addI rfl rfl) (by show _ < 1400; omega) dX12_weightOf_82 ?_
          refine lv_iadd hx hb dX12_weightOf_83 ?_
          refine lv_iload_n hx hb dX12_weightOf_84 rfl (lv_at hl 2 rfl) ?_
          refine lv_iconst (v := 4) hx hb dX12_weightOf_85 (by decide) ?_
          refine lv_icmp_eq (tgt := 94) hx hb dX12_weightOf_86 (by decide) (fun c_86 => ?_) (fun c_86 => ?_)
          · refine lv_iconst (v := 0) hx hb dX12_weightOf_94 (by decide) ?_
            refine lv_goto (tgt := 107) hx hb dX12_weightOf_95 (by decide) ?_
            refine lv_iadd hx hb dX12_weightOf_107 ?_
            exact hend H locs (((M 0 (26 + j) + M 0 (38 + j)) + 0)) (L, mo_F D f mo ma M) _ ls w ⟨(by (try simp only [lg_cmp_le, lg_cmp_ge, lg_cmp_lt, lg_cmp_gt, ← Int32.not_lt, ← Int64.not_lt, Classical.not_not] at c_20 c_39 c_50 c_61 c_86); first | (simp [hs_weight, hs_goods, hs_wares, hs_buy, c_20, c_39, c_50, c_61, c_86]; done) | (simp [hs_weight, hs_goods, hs_wares, hs_buy, c_20, c_39, c_50, c_61, eq_true c_86]; done) | (exfalso; clear hend; simp_all; done)), rfl⟩ rfl dX12_weightOf_108
          · refine lv_iload_n hx hb dX12_weightOf_89 rfl (lv_at hl 2 rfl) ?_
            refine lv_iconst (v := 5) hx hb dX12_weightOf_90 (by decide) ?_
            refine lv_icmp_ne (tgt := 98) hx hb dX12_weightOf_91 (by decide) (fun c_91 => ?_) (fun c_91 => ?_)
            · refine lv_aload_n hx hb dX12_weightOf_98 rfl (lv_at hl 3 rfl) ?_
              refine mo_get X w hm hin 0 (by decide) (List.mem_of_getElem? (i := 1) rfl) rfl dX12_weightOf_99 ?_
              refine lv_bipush (v := 32) hx hb dX12_weightOf_102 (by decide) ?_
              refine lv_iload_n hx hb dX12_weightOf_104 rfl (lv_at hl 4 rfl) ?_
              refine lv_iadd hx hb dX12_weightOf_105 ?_
              refine mo_iald X w hm 0 (by decide) (by decide) (32 + j) (hs_addI rfl rfl) (by show _ < 1400; omega) dX12_weightOf_106 ?_
              refine lv_iadd hx hb dX12_weightOf_107 ?_
              exact hend H locs (((M 0 (26 + j) + M 0 (38 + j)) + M 0 (32 + j))) (L, mo_F D f mo ma M) _ ls w ⟨(by (try simp only [lg_cmp_le, lg_cmp_ge, lg_cmp_lt, lg_cmp_gt, ← Int32.not_lt, ← Int64.not_lt, Classical.not_not] at c_20 c_39 c_50 c_61 c_86 c_91); first | (simp [hs_weight, hs_goods, hs_wares, hs_buy, c_20, c_39, c_50, c_61, c_86, c_91]; done) | (simp [hs_weight, hs_goods, hs_wares, hs_buy, c_20, c_39, c_50, c_61, c_86, c_91]; done) | (exfalso; clear hend; simp_all; done)), rfl⟩ rfl dX12_weightOf_108
            · refine lv_iconst (v := 0) hx hb dX12_weightOf_94 (by decide) ?_
              refine lv_goto (tgt := 107) hx hb dX12_weightOf_95 (by decide) ?_
              refine lv_iadd hx hb dX12_weightOf_107 ?_
              exact hend H locs (((M 0 (26 + j) + M 0 (38 + j)) + 0)) (L, mo_F D f mo ma M) _ ls w ⟨(by (try simp only [lg_cmp_le, lg_cmp_ge, lg_cmp_lt, lg_cmp_gt, ← Int32.not_lt, ← Int64.not_lt, Classical.not_not] at c_20 c_39 c_50 c_61 c_86 c_91); first | (simp [hs_weight, hs_goods, hs_wares, hs_buy, c_20, c_39, c_50, c_61, c_86, c_91]; done) | (simp [hs_weight, hs_goods, hs_wares, hs_buy, c_20, c_39, c_50, c_61, c_86, eq_true c_91]; done) | (exfalso; clear hend; simp_all; done)), rfl⟩ rfl dX12_weightOf_108
        · refine lv_iload_n hx hb dX12_weightOf_64 rfl (lv_at hl 0 rfl) ?_
          refine lv_ineg hx hb dX12_weightOf_65 ?_
          refine lv_goto (tgt := 70) hx hb dX12_weightOf_66 (by decide) ?_
          refine lv_istore (lv' := [(4, .int ((-M 0 (26 + j)))), (3, .int (M 0 (26 + j))), (2, .int (M 0 (8 + j))), (0, .ref mo), (1, .int (nI j))]) hx hb dX12_weightOf_70 hl (by decide) rfl (fun ls hl => ?_)
          refine lv_iload hx hb dX12_weightOf_72 (lv_at hl 0 rfl) ?_
          refine lv_aload_n hx hb dX12_weightOf_74 rfl (lv_at hl 3 rfl) ?_
          refine mo_get X w hm hin 0 (by decide) (List.mem_of_getElem? (i := 1) rfl) rfl dX12_weightOf_75 ?_
          refine lv_bipush (v := 38) hx hb dX12_weightOf_78 (by decide) ?_
          refine lv_iload_n hx hb dX12_weightOf_80 rfl (lv_at hl 4 rfl) ?_
          refine lv_iadd hx hb dX12_weightOf_81 ?_
          refine mo_iald X w hm 0 (by decide) (by decide) (38 + j) (hs_addI rfl rfl) (by show _ < 1400; omega) dX12_weightOf_82 ?_
          refine lv_iadd hx hb dX12_weightOf_83 ?_
          refine lv_iload_n hx hb dX12_weightOf_84 rfl (lv_at hl 2 rfl) ?_
          refine lv_iconst (v := 4) hx hb dX12_weightOf_85 (by decide) ?_
          refine lv_icmp_eq (tgt := 94) hx hb dX12_weightOf_86 (by decide) (fun c_86 => ?_) (fun c_86 => ?_)
          · refine lv_iconst (v := 0) hx hb dX12_weightOf_94 (by decide) ?_
            refine lv_goto (tgt := 107) hx hb dX12_weightOf_95 (by decide) ?_
            refine lv_iadd hx hb dX12_weightOf_107 ?_
            exact hend H locs ((((-M 0 (26 + j)) + M 0 (38 + j)) + 0)) (L, mo_F D f mo ma M) _ ls w ⟨(by (try simp only [lg_cmp_le, lg_cmp_ge, lg_cmp_lt, lg_cmp_gt, ← Int32.not_lt, ← Int64.not_lt, Classical.not_not] at c_20 c_39 c_50 c_61 c_86); first | (simp [hs_weight, hs_goods, hs_wares, hs_buy, c_20, c_39, c_50, c_61, c_86]; done) | (simp [hs_weight, hs_goods, hs_wares, hs_buy, c_20, c_39, c_50, eq_true c_61, eq_true c_86]; done) | (exfalso; clear hend; simp_all; done)), rfl⟩ rfl dX12_weightOf_108
          · refine lv_iload_n hx hb dX12_weightOf_89 rfl (lv_at hl 2 rfl) ?_
            refine lv_iconst (v := 5) hx hb dX12_weightOf_90 (by decide) ?_
            refine lv_icmp_ne (tgt := 98) hx hb dX12_weightOf_91 (by decide) (fun c_91 => ?_) (fun c_91 => ?_)
            · refine lv_aload_n hx hb dX12_weightOf_98 rfl (lv_at hl 3 rfl) ?_
              refine mo_get X w hm hin 0 (by decide) (List.mem_of_getElem? (i := 1) rfl) rfl dX12_weightOf_99 ?_
              refine lv_bipush (v := 32) hx hb dX12_weightOf_102 (by decide) ?_
              refine lv_iload_n hx hb dX12_weightOf_104 rfl (lv_at hl 4 rfl) ?_
              refine lv_iadd hx hb dX12_weightOf_105 ?_
              refine mo_iald X w hm 0 (by decide) (by decide) (32 + j) (hs_addI rfl rfl) (by show _ < 1400; omega) dX12_weightOf_106 ?_
              refine lv_iadd hx hb dX12_weightOf_107 ?_
              exact hend H locs ((((-M 0 (26 + j)) + M 0 (38 + j)) + M 0 (32 + j))) (L, mo_F D f mo ma M) _ ls w ⟨(by (try simp only [lg_cmp_le, lg_cmp_ge, lg_cmp_lt, lg_cmp_gt, ← Int32.not_lt, ← Int64.not_lt, Classical.not_not] at c_20 c_39 c_50 c_61 c_86 c_91); first | (simp [hs_weight, hs_goods, hs_wares, hs_buy, c_20, c_39, c_50, c_61, c_86, c_91]; done) | (simp [hs_weight, hs_goods, hs_wares, hs_buy, c_20, c_39, c_50, eq_true c_61, c_86, c_91]; done) | (exfalso; clear hend; simp_all; done)), rfl⟩ rfl dX12_weightOf_108
            · refine lv_iconst (v := 0) hx hb dX12_weightOf_94 (by decide) ?_
              refine lv_goto (tgt := 107) hx hb dX12_weightOf_95 (by decide) ?_
              refine lv_iadd hx hb dX12_weightOf_107 ?_
              exact hend H locs ((((-M 0 (26 + j)) + M 0 (38 + j)) + 0)) (L, mo_F D f mo ma M) _ ls w ⟨(by (try simp only [lg_cmp_le, lg_cmp_ge, lg_cmp_lt, lg_cmp_gt, ← Int32.not_lt, ← Int64.not_lt, Classical.not_not] at c_20 c_39 c_50 c_61 c_86 c_91); first | (simp [hs_weight, hs_goods, hs_wares, hs_buy, c_20, c_39, c_50, c_61, c_86, c_91]; done) | (simp [hs_weight, hs_goods, hs_wares, hs_buy, c_20, c_39, c_50, eq_true c_61, c_86, eq_true c_91]; done) | (exfalso; clear hend; simp_all; done)), rfl⟩ rfl dX12_weightOf_108
      · refine lv_iconst (v := 2) hx hb dX12_weightOf_53 (by decide) ?_
        refine lv_iload_n hx hb dX12_weightOf_54 rfl (lv_at hl 0 rfl) ?_
        refine lv_imul hx hb dX12_weightOf_55 ?_
        refine lv_goto (tgt := 70) hx hb dX12_weightOf_56 (by decide) ?_
        refine lv_istore (lv' := [(4, .int ((2 * M 0 (26 + j)))), (3, .int (M 0 (26 + j))), (2, .int (M 0 (8 + j))), (0, .ref mo), (1, .int (nI j))]) hx hb dX12_weightOf_70 hl (by decide) rfl (fun ls hl => ?_)
        refine lv_iload hx hb dX12_weightOf_72 (lv_at hl 0 rfl) ?_
        refine lv_aload_n hx hb dX12_weightOf_74 rfl (lv_at hl 3 rfl) ?_
        refine mo_get X w hm hin 0 (by decide) (List.mem_of_getElem? (i := 1) rfl) rfl dX12_weightOf_75 ?_
        refine lv_bipush (v := 38) hx hb dX12_weightOf_78 (by decide) ?_
        refine lv_iload_n hx hb dX12_weightOf_80 rfl (lv_at hl 4 rfl) ?_
        refine lv_iadd hx hb dX12_weightOf_81 ?_
        refine mo_iald X w hm 0 (by decide) (by decide) (38 + j) (hs_addI rfl rfl) (by show _ < 1400; omega) dX12_weightOf_82 ?_
        refine lv_iadd hx hb dX12_weightOf_83 ?_
        refine lv_iload_n hx hb dX12_weightOf_84 rfl (lv_at hl 2 rfl) ?_
        refine lv_iconst (v := 4) hx hb dX12_weightOf_85 (by decide) ?_
        refine lv_icmp_eq (tgt := 94) hx hb dX12_weightOf_86 (by decide) (fun c_86 => ?_) (fun c_86 => ?_)
        · refine lv_iconst (v := 0) hx hb dX12_weightOf_94 (by decide) ?_
          refine lv_goto (tgt := 107) hx hb dX12_weightOf_95 (by decide) ?_
          refine lv_iadd hx hb dX12_weightOf_107 ?_
          exact hend H locs ((((2 * M 0 (26 + j)) + M 0 (38 + j)) + 0)) (L, mo_F D f mo ma M) _ ls w ⟨(by (try simp only [lg_cmp_le, lg_cmp_ge, lg_cmp_lt, lg_cmp_gt, ← Int32.not_lt, ← Int64.not_lt, Classical.not_not] at c_20 c_39 c_50 c_86); first | (simp [hs_weight, hs_goods, hs_wares, hs_buy, c_20, c_39, c_50, c_86]; done) | (simp [hs_weight, hs_goods, hs_wares, hs_buy, c_20, c_39, eq_true c_50, eq_true c_86]; done) | (exfalso; clear hend; simp_all; done)), rfl⟩ rfl dX12_weightOf_108
        · refine lv_iload_n hx hb dX12_weightOf_89 rfl (lv_at hl 2 rfl) ?_
          refine lv_iconst (v := 5) hx hb dX12_weightOf_90 (by decide) ?_
          refine lv_icmp_ne (tgt := 98) hx hb dX12_weightOf_91 (by decide) (fun c_91 => ?_) (fun c_91 => ?_)
          · refine lv_aload_n hx hb dX12_weightOf_98 rfl (lv_at hl 3 rfl) ?_
            refine mo_get X w hm hin 0 (by decide) (List.mem_of_getElem? (i := 1) rfl) rfl dX12_weightOf_99 ?_
            refine lv_bipush (v := 32) hx hb dX12_weightOf_102 (by decide) ?_
            refine lv_iload_n hx hb dX12_weightOf_104 rfl (lv_at hl 4 rfl) ?_
            refine lv_iadd hx hb dX12_weightOf_105 ?_
            refine mo_iald X w hm 0 (by decide) (by decide) (32 + j) (hs_addI rfl rfl) (by show _ < 1400; omega) dX12_weightOf_106 ?_
            refine lv_iadd hx hb dX12_weightOf_107 ?_
            exact hend H locs ((((2 * M 0 (26 + j)) + M 0 (38 + j)) + M 0 (32 + j))) (L, mo_F D f mo ma M) _ ls w ⟨(by (try simp only [lg_cmp_le, lg_cmp_ge, lg_cmp_lt, lg_cmp_gt, ← Int32.not_lt, ← Int64.not_lt, Classical.not_not] at c_20 c_39 c_50 c_86 c_91); first | (simp [hs_weight, hs_goods, hs_wares, hs_buy, c_20, c_39, c_50, c_86, c_91]; done) | (simp [hs_weight, hs_goods, hs_wares, hs_buy, c_20, c_39, eq_true c_50, c_86, c_91]; done) | (exfalso; clear hend; simp_all; done)), rfl⟩ rfl dX12_weightOf_108
          · refine lv_iconst (v := 0) hx hb dX12_weightOf_94 (by decide) ?_
            refine lv_goto (tgt := 107) hx hb dX12_weightOf_95 (by decide) ?_
            refine lv_iadd hx hb dX12_weightOf_107 ?_
            exact hend H locs ((((2 * M 0 (26 + j)) + M 0 (38 + j)) + 0)) (L, mo_F D f mo ma M) _ ls w ⟨(by (try simp only [lg_cmp_le, lg_cmp_ge, lg_cmp_lt, lg_cmp_gt, ← Int32.not_lt, ← Int64.not_lt, Classical.not_not] at c_20 c_39 c_50 c_86 c_91); first | (simp [hs_weight, hs_goods, hs_wares, hs_buy, c_20, c_39, c_50, c_86, c_91]; done) | (simp [hs_weight, hs_goods, hs_wares, hs_buy, c_20, c_39, eq_true c_50, c_86, eq_true c_91]; done) | (exfalso; clear hend; simp_all; done)), rfl⟩ rfl dX12_weightOf_108
    · refine lv_iload_n hx hb dX12_weightOf_42 rfl (lv_at hl 0 rfl) ?_
      refine lv_iconst (v := 2) hx hb dX12_weightOf_43 (by decide) ?_
      refine lv_idiv hx hb dX12_weightOf_44 (by decide) ?_
      refine lv_goto (tgt := 70) hx hb dX12_weightOf_45 (by decide) ?_
      refine lv_istore (lv' := [(4, .int ((M 0 (26 + j) / 2))), (3, .int (M 0 (26 + j))), (2, .int (M 0 (8 + j))), (0, .ref mo), (1, .int (nI j))]) hx hb dX12_weightOf_70 hl (by decide) rfl (fun ls hl => ?_)
      refine lv_iload hx hb dX12_weightOf_72 (lv_at hl 0 rfl) ?_
      refine lv_aload_n hx hb dX12_weightOf_74 rfl (lv_at hl 3 rfl) ?_
      refine mo_get X w hm hin 0 (by decide) (List.mem_of_getElem? (i := 1) rfl) rfl dX12_weightOf_75 ?_
      refine lv_bipush (v := 38) hx hb dX12_weightOf_78 (by decide) ?_
      refine lv_iload_n hx hb dX12_weightOf_80 rfl (lv_at hl 4 rfl) ?_
      refine lv_iadd hx hb dX12_weightOf_81 ?_
      refine mo_iald X w hm 0 (by decide) (by decide) (38 + j) (hs_addI rfl rfl) (by show _ < 1400; omega) dX12_weightOf_82 ?_
      refine lv_iadd hx hb dX12_weightOf_83 ?_
      refine lv_iload_n hx hb dX12_weightOf_84 rfl (lv_at hl 2 rfl) ?_
      refine lv_iconst (v := 4) hx hb dX12_weightOf_85 (by decide) ?_
      refine lv_icmp_eq (tgt := 94) hx hb dX12_weightOf_86 (by decide) (fun c_86 => ?_) (fun c_86 => ?_)
      · refine lv_iconst (v := 0) hx hb dX12_weightOf_94 (by decide) ?_
        refine lv_goto (tgt := 107) hx hb dX12_weightOf_95 (by decide) ?_
        refine lv_iadd hx hb dX12_weightOf_107 ?_
        exact hend H locs ((((M 0 (26 + j) / 2) + M 0 (38 + j)) + 0)) (L, mo_F D f mo ma M) _ ls w ⟨(by (try simp only [lg_cmp_le, lg_cmp_ge, lg_cmp_lt, lg_cmp_gt, ← Int32.not_lt, ← Int64.not_lt, Classical.not_not] at c_20 c_39 c_86); first | (simp [hs_weight, hs_goods, hs_wares, hs_buy, c_20, c_39, c_86]; done) | (simp [hs_weight, hs_goods, hs_wares, hs_buy, c_20, eq_true c_39, eq_true c_86]; done) | (exfalso; clear hend; simp_all; done)), rfl⟩ rfl dX12_weightOf_108
      · refine lv_iload_n hx hb dX12_weightOf_89 rfl (lv_at hl 2 rfl) ?_
        refine lv_iconst (v := 5) hx hb dX12_weightOf_90 (by decide) ?_
        refine lv_icmp_ne (tgt := 98) hx hb dX12_weightOf_91 (by decide) (fun c_91 => ?_) (fun c_91 => ?_)
        · refine lv_aload_n hx hb dX12_weightOf_98 rfl (lv_at hl 3 rfl) ?_
          refine mo_get X w hm hin 0 (by decide) (List.mem_of_getElem? (i := 1) rfl) rfl dX12_weightOf_99 ?_
          refine lv_bipush (v := 32) hx hb dX12_weightOf_102 (by decide) ?_
          refine lv_iload_n hx hb dX12_weightOf_104 rfl (lv_at hl 4 rfl) ?_
          refine lv_iadd hx hb dX12_weightOf_105 ?_
          refine mo_iald X w hm 0 (by decide) (by decide) (32 + j) (hs_addI rfl rfl) (by show _ < 1400; omega) dX12_weightOf_106 ?_
          refine lv_iadd hx hb dX12_weightOf_107 ?_
          exact hend H locs ((((M 0 (26 + j) / 2) + M 0 (38 + j)) + M 0 (32 + j))) (L, mo_F D f mo ma M) _ ls w ⟨(by (try simp only [lg_cmp_le, lg_cmp_ge, lg_cmp_lt, lg_cmp_gt, ← Int32.not_lt, ← Int64.not_lt, Classical.not_not] at c_20 c_39 c_86 c_91); first | (simp [hs_weight, hs_goods, hs_wares, hs_buy, c_20, c_39, c_86, c_91]; done) | (simp [hs_weight, hs_goods, hs_wares, hs_buy, c_20, eq_true c_39, c_86, c_91]; done) | (exfalso; clear hend; simp_all; done)), rfl⟩ rfl dX12_weightOf_108
        · refine lv_iconst (v := 0) hx hb dX12_weightOf_94 (by decide) ?_
          refine lv_goto (tgt := 107) hx hb dX12_weightOf_95 (by decide) ?_
          refine lv_iadd hx hb dX12_weightOf_107 ?_
          exact hend H locs ((((M 0 (26 + j) / 2) + M 0 (38 + j)) + 0)) (L, mo_F D f mo ma M) _ ls w ⟨(by (try simp only [lg_cmp_le, lg_cmp_ge, lg_cmp_lt, lg_cmp_gt, ← Int32.not_lt, ← Int64.not_lt, Classical.not_not] at c_20 c_39 c_86 c_91); first | (simp [hs_weight, hs_goods, hs_wares, hs_buy, c_20, c_39, c_86, c_91]; done) | (simp [hs_weight, hs_goods, hs_wares, hs_buy, c_20, eq_true c_39, c_86, eq_true c_91]; done) | (exfalso; clear hend; simp_all; done)), rfl⟩ rfl dX12_weightOf_108
  · refine lv_iconst (v := 0) hx hb dX12_weightOf_23 (by decide) ?_
    refine lv_goto (tgt := 36) hx hb dX12_weightOf_24 (by decide) ?_
    refine lv_istore_n (lv' := [(3, .int (0)), (2, .int (M 0 (8 + j))), (0, .ref mo), (1, .int (nI j))]) hx hb dX12_weightOf_36 rfl hl (by decide) rfl (fun ls hl => ?_)
    refine lv_iload_n hx hb dX12_weightOf_37 rfl (lv_at hl 1 rfl) ?_
    refine lv_iconst (v := 2) hx hb dX12_weightOf_38 (by decide) ?_
    refine lv_icmp_ne (tgt := 48) hx hb dX12_weightOf_39 (by decide) (fun c_39 => ?_) (fun c_39 => ?_)
    · refine lv_iload_n hx hb dX12_weightOf_48 rfl (lv_at hl 1 rfl) ?_
      refine lv_iconst (v := 3) hx hb dX12_weightOf_49 (by decide) ?_
      refine lv_icmp_ne (tgt := 59) hx hb dX12_weightOf_50 (by decide) (fun c_50 => ?_) (fun c_50 => ?_)
      · refine lv_iload_n hx hb dX12_weightOf_59 rfl (lv_at hl 1 rfl) ?_
        refine lv_iconst (v := 5) hx hb dX12_weightOf_60 (by decide) ?_
        refine lv_icmp_ne (tgt := 69) hx hb dX12_weightOf_61 (by decide) (fun c_61 => ?_) (fun c_61 => ?_)
        · refine lv_iload_n hx hb dX12_weightOf_69 rfl (lv_at hl 0 rfl) ?_
          refine lv_istore (lv' := [(4, .int (0)), (3, .int (0)), (2, .int (M 0 (8 + j))), (0, .ref mo), (1, .int (nI j))]) hx hb dX12_weightOf_70 hl (by decide) rfl (fun ls hl => ?_)
          refine lv_iload hx hb dX12_weightOf_72 (lv_at hl 0 rfl) ?_
          refine lv_aload_n hx hb dX12_weightOf_74 rfl (lv_at hl 3 rfl) ?_
          refine mo_get X w hm hin 0 (by decide) (List.mem_of_getElem? (i := 1) rfl) rfl dX12_weightOf_75 ?_
          refine lv_bipush (v := 38) hx hb dX12_weightOf_78 (by decide) ?_
          refine lv_iload_n hx hb dX12_weightOf_80 rfl (lv_at hl 4 rfl) ?_
          refine lv_iadd hx hb dX12_weightOf_81 ?_
          refine mo_iald X w hm 0 (by decide) (by decide) (38 + j) (hs_addI rfl rfl) (by show _ < 1400; omega) dX12_weightOf_82 ?_
          refine lv_iadd hx hb dX12_weightOf_83 ?_
          refine lv_iload_n hx hb dX12_weightOf_84 rfl (lv_at hl 2 rfl) ?_
          refine lv_iconst (v := 4) hx hb dX12_weightOf_85 (by decide) ?_
          refine lv_icmp_eq (tgt := 94) hx hb dX12_weightOf_86 (by decide) (fun c_86 => ?_) (fun c_86 => ?_)
          · refine lv_iconst (v := 0) hx hb dX12_weightOf_94 (by decide) ?_
            refine lv_goto (tgt := 107) hx hb dX12_weightOf_95 (by decide) ?_
            refine lv_iadd hx hb dX12_weightOf_107 ?_
            exact hend H locs (((0 + M 0 (38 + j)) + 0)) (L, mo_F D f mo ma M) _ ls w ⟨(by (try simp only [lg_cmp_le, lg_cmp_ge, lg_cmp_lt, lg_cmp_gt, ← Int32.not_lt, ← Int64.not_lt, Classical.not_not] at c_20 c_39 c_50 c_61 c_86); first | (simp [hs_weight, hs_goods, hs_wares, hs_buy, c_20, c_39, c_50, c_61, c_86]; done) | (simp [hs_weight, hs_goods, hs_wares, hs_buy, eq_true c_20, c_39, c_50, c_61, eq_true c_86]; done) | (exfalso; clear hend; simp_all; done)), rfl⟩ rfl dX12_weightOf_108
          · refine lv_iload_n hx hb dX12_weightOf_89 rfl (lv_at hl 2 rfl) ?_
            refine lv_iconst (v := 5) hx hb dX12_weightOf_90 (by decide) ?_
            refine lv_icmp_ne (tgt := 98) hx hb dX12_weightOf_91 (by decide) (fun c_91 => ?_) (fun c_91 => ?_)
            · refine lv_aload_n hx hb dX12_weightOf_98 rfl (lv_at hl 3 rfl) ?_
              refine mo_get X w hm hin 0 (by decide) (List.mem_of_getElem? (i := 1) rfl) rfl dX12_weightOf_99 ?_
              refine lv_bipush (v := 32) hx hb dX12_weightOf_102 (by decide) ?_
              refine lv_iload_n hx hb dX12_weightOf_104 rfl (lv_at hl 4 rfl) ?_
              refine lv_iadd hx hb dX12_weightOf_105 ?_
              refine mo_iald X w hm 0 (by decide) (by decide) (32 + j) (hs_addI rfl rfl) (by show _ < 1400; omega) dX12_weightOf_106 ?_
              refine lv_iadd hx hb dX12_weightOf_107 ?_
              exact hend H locs (((0 + M 0 (38 + j)) + M 0 (32 + j))) (L, mo_F D f mo ma M) _ ls w ⟨(by (try simp only [lg_cmp_le, lg_cmp_ge, lg_cmp_lt, lg_cmp_gt, ← Int32.not_lt, ← Int64.not_lt, Classical.not_not] at c_20 c_39 c_50 c_61 c_86 c_91); first | (simp [hs_weight, hs_goods, hs_wares, hs_buy, c_20, c_39, c_50, c_61, c_86, c_91]; done) | (simp [hs_weight, hs_goods, hs_wares, hs_buy, eq_true c_20, c_39, c_50, c_61, c_86, c_91]; done) | (exfalso; clear hend; simp_all; done)), rfl⟩ rfl dX12_weightOf_108
            · refine lv_iconst (v := 0) hx hb dX12_weightOf_94 (by decide) ?_
              refine lv_goto (tgt := 107) hx hb dX12_weightOf_95 (by decide) ?_
              refine lv_iadd hx hb dX12_weightOf_107 ?_
              exact hend H locs (((0 + M 0 (38 + j)) + 0)) (L, mo_F D f mo ma M) _ ls w ⟨(by (try simp only [lg_cmp_le, lg_cmp_ge, lg_cmp_lt, lg_cmp_gt, ← Int32.not_lt, ← Int64.not_lt, Classical.not_not] at c_20 c_39 c_50 c_61 c_86 c_91); first | (simp [hs_weight, hs_goods, hs_wares, hs_buy, c_20, c_39, c_50, c_61, c_86, c_91]; done) | (simp [hs_weight, hs_goods, hs_wares, hs_buy, eq_true c_20, c_39, c_50, c_61, c_86, eq_true c_91]; done) | (exfalso; clear hend; simp_all; done)), rfl⟩ rfl dX12_weightOf_108
        · refine lv_iload_n hx hb dX12_weightOf_64 rfl (lv_at hl 0 rfl) ?_
          refine lv_ineg hx hb dX12_weightOf_65 ?_
          refine lv_goto (tgt := 70) hx hb dX12_weightOf_66 (by decide) ?_
          refine lv_istore (lv' := [(4, .int ((-0))), (3, .int (0)), (2, .int (M 0 (8 + j))), (0, .ref mo), (1, .int (nI j))]) hx hb dX12_weightOf_70 hl (by decide) rfl (fun ls hl => ?_)
          refine lv_iload hx hb dX12_weightOf_72 (lv_at hl 0 rfl) ?_
          refine lv_aload_n hx hb dX12_weightOf_74 rfl (lv_at hl 3 rfl) ?_
          refine mo_get X w hm hin 0 (by decide) (List.mem_of_getElem? (i := 1) rfl) rfl dX12_weightOf_75 ?_
          refine lv_bipush (v := 38) hx hb dX12_weightOf_78 (by decide) ?_
          refine lv_iload_n hx hb dX12_weightOf_80 rfl (lv_at hl 4 rfl) ?_
          refine lv_iadd hx hb dX12_weightOf_81 ?_
          refine mo_iald X w hm 0 (by decide) (by decide) (38 + j) (hs_addI rfl rfl) (by show _ < 1400; omega) dX12_weightOf_82 ?_
          refine lv_iadd hx hb dX12_weightOf_83 ?_
          refine lv_iload_n hx hb dX12_weightOf_84 rfl (lv_at hl 2 rfl) ?_
          refine lv_iconst (v := 4) hx hb dX12_weightOf_85 (by decide) ?_
          refine lv_icmp_eq (tgt := 94) hx hb dX12_weightOf_86 (by decide) (fun c_86 => ?_) (fun c_86 => ?_)
          · refine lv_iconst (v := 0) hx hb dX12_weightOf_94 (by decide) ?_
            refine lv_goto (tgt := 107) hx hb dX12_weightOf_95 (by decide) ?_
            refine lv_iadd hx hb dX12_weightOf_107 ?_
            exact hend H locs ((((-0) + M 0 (38 + j)) + 0)) (L, mo_F D f mo ma M) _ ls w ⟨(by (try simp only [lg_cmp_le, lg_cmp_ge, lg_cmp_lt, lg_cmp_gt, ← Int32.not_lt, ← Int64.not_lt, Classical.not_not] at c_20 c_39 c_50 c_61 c_86); first | (simp [hs_weight, hs_goods, hs_wares, hs_buy, c_20, c_39, c_50, c_61, c_86]; done) | (simp [hs_weight, hs_goods, hs_wares, hs_buy, eq_true c_20, c_39, c_50, eq_true c_61, eq_true c_86]; done) | (exfalso; clear hend; simp_all; done)), rfl⟩ rfl dX12_weightOf_108
          · refine lv_iload_n hx hb dX12_weightOf_89 rfl (lv_at hl 2 rfl) ?_
            refine lv_iconst (v := 5) hx hb dX12_weightOf_90 (by decide) ?_
            refine lv_icmp_ne (tgt := 98) hx hb dX12_weightOf_91 (by decide) (fun c_91 => ?_) (fun c_91 => ?_)
            · refine lv_aload_n hx hb dX12_weightOf_98 rfl (lv_at hl 3 rfl) ?_
              refine mo_get X w hm hin 0 (by decide) (List.mem_of_getElem? (i := 1) rfl) rfl dX12_weightOf_99 ?_
              refine lv_bipush (v := 32) hx hb dX12_weightOf_102 (by decide) ?_
              refine lv_iload_n hx hb dX12_weightOf_104 rfl (lv_at hl 4 rfl) ?_
              refine lv_iadd hx hb dX12_weightOf_105 ?_
              refine mo_iald X w hm 0 (by decide) (by decide) (32 + j) (hs_addI rfl rfl) (by show _ < 1400; omega) dX12_weightOf_106 ?_
              refine lv_iadd hx hb dX12_weightOf_107 ?_
              exact hend H locs ((((-0) + M 0 (38 + j)) + M 0 (32 + j))) (L, mo_F D f mo ma M) _ ls w ⟨(by (try simp only [lg_cmp_le, lg_cmp_ge, lg_cmp_lt, lg_cmp_gt, ← Int32.not_lt, ← Int64.not_lt, Classical.not_not] at c_20 c_39 c_50 c_61 c_86 c_91); first | (simp [hs_weight, hs_goods, hs_wares, hs_buy, c_20, c_39, c_50, c_61, c_86, c_91]; done) | (simp [hs_weight, hs_goods, hs_wares, hs_buy, eq_true c_20, c_39, c_50, eq_true c_61, c_86, c_91]; done) | (exfalso; clear hend; simp_all; done)), rfl⟩ rfl dX12_weightOf_108
            · refine lv_iconst (v := 0) hx hb dX12_weightOf_94 (by decide) ?_
              refine lv_goto (tgt := 107) hx hb dX12_weightOf_95 (by decide) ?_
              refine lv_iadd hx hb dX12_weightOf_107 ?_
              exact hend H locs ((((-0) + M 0 (38 + j)) + 0)) (L, mo_F D f mo ma M) _ ls w ⟨(by (try simp only [lg_cmp_le, lg_cmp_ge, lg_cmp_lt, lg_cmp_gt, ← Int32.not_lt, ← Int64.not_lt, Classical.not_not] at c_20 c_39 c_50 c_61 c_86 c_91); first | (simp [hs_weight, hs_goods, hs_wares, hs_buy, c_20, c_39, c_50, c_61, c_86, c_91]; done) | (simp [hs_weight, hs_goods, hs_wares, hs_buy, eq_true c_20, c_39, c_50, eq_true c_61, c_86, eq_true c_91]; done) | (exfalso; clear hend; simp_all; done)), rfl⟩ rfl dX12_weightOf_108
      · refine lv_iconst (v := 2) hx hb dX12_weightOf_53 (by decide) ?_
        refine lv_iload_n hx hb dX12_weightOf_54 rfl (lv_at hl 0 rfl) ?_
        refine lv_imul hx hb dX12_weightOf_55 ?_
        refine lv_goto (tgt := 70) hx hb dX12_weightOf_56 (by decide) ?_
        refine lv_istore (lv' := [(4, .int ((2 * 0))), (3, .int (0)), (2, .int (M 0 (8 + j))), (0, .ref mo), (1, .int (nI j))]) hx hb dX12_weightOf_70 hl (by decide) rfl (fun ls hl => ?_)
        refine lv_iload hx hb dX12_weightOf_72 (lv_at hl 0 rfl) ?_
        refine lv_aload_n hx hb dX12_weightOf_74 rfl (lv_at hl 3 rfl) ?_
        refine mo_get X w hm hin 0 (by decide) (List.mem_of_getElem? (i := 1) rfl) rfl dX12_weightOf_75 ?_
        refine lv_bipush (v := 38) hx hb dX12_weightOf_78 (by decide) ?_
        refine lv_iload_n hx hb dX12_weightOf_80 rfl (lv_at hl 4 rfl) ?_
        refine lv_iadd hx hb dX12_weightOf_81 ?_
        refine mo_iald X w hm 0 (by decide) (by decide) (38 + j) (hs_addI rfl rfl) (by show _ < 1400; omega) dX12_weightOf_82 ?_
        refine lv_iadd hx hb dX12_weightOf_83 ?_
        refine lv_iload_n hx hb dX12_weightOf_84 rfl (lv_at hl 2 rfl) ?_
        refine lv_iconst (v := 4) hx hb dX12_weightOf_85 (by decide) ?_
        refine lv_icmp_eq (tgt := 94) hx hb dX12_weightOf_86 (by decide) (fun c_86 => ?_) (fun c_86 => ?_)
        · refine lv_iconst (v := 0) hx hb dX12_weightOf_94 (by decide) ?_
          refine lv_goto (tgt := 107) hx hb dX12_weightOf_95 (by decide) ?_
          refine lv_iadd hx hb dX12_weightOf_107 ?_
          exact hend H locs ((((2 * 0) + M 0 (38 + j)) + 0)) (L, mo_F D f mo ma M) _ ls w ⟨(by (try simp only [lg_cmp_le, lg_cmp_ge, lg_cmp_lt, lg_cmp_gt, ← Int32.not_lt, ← Int64.not_lt, Classical.not_not] at c_20 c_39 c_50 c_86); first | (simp [hs_weight, hs_goods, hs_wares, hs_buy, c_20, c_39, c_50, c_86]; done) | (simp [hs_weight, hs_goods, hs_wares, hs_buy, eq_true c_20, c_39, eq_true c_50, eq_true c_86]; done) | (exfalso; clear hend; simp_all; done)), rfl⟩ rfl dX12_weightOf_108
        · refine lv_iload_n hx hb dX12_weightOf_89 rfl (lv_at hl 2 rfl) ?_
          refine lv_iconst (v := 5) hx hb dX12_weightOf_90 (by decide) ?_
          refine lv_icmp_ne (tgt := 98) hx hb dX12_weightOf_91 (by decide) (fun c_91 => ?_) (fun c_91 => ?_)
          · refine lv_aload_n hx hb dX12_weightOf_98 rfl (lv_at hl 3 rfl) ?_
            refine mo_get X w hm hin 0 (by decide) (List.mem_of_getElem? (i := 1) rfl) rfl dX12_weightOf_99 ?_
            refine lv_bipush (v := 32) hx hb dX12_weightOf_102 (by decide) ?_
            refine lv_iload_n hx hb dX12_weightOf_104 rfl (lv_at hl 4 rfl) ?_
            refine lv_iadd hx hb dX12_weightOf_105 ?_
            refine mo_iald X w hm 0 (by decide) (by decide) (32 + j) (hs_addI rfl rfl) (by show _ < 1400; omega) dX12_weightOf_106 ?_
            refine lv_iadd hx hb dX12_weightOf_107 ?_
            exact hend H locs ((((2 * 0) + M 0 (38 + j)) + M 0 (32 + j))) (L, mo_F D f mo ma M) _ ls w ⟨(by (try simp only [lg_cmp_le, lg_cmp_ge, lg_cmp_lt, lg_cmp_gt, ← Int32.not_lt, ← Int64.not_lt, Classical.not_not] at c_20 c_39 c_50 c_86 c_91); first | (simp [hs_weight, hs_goods, hs_wares, hs_buy, c_20, c_39, c_50, c_86, c_91]; done) | (simp [hs_weight, hs_goods, hs_wares, hs_buy, eq_true c_20, c_39, eq_true c_50, c_86, c_91]; done) | (exfalso; clear hend; simp_all; done)), rfl⟩ rfl dX12_weightOf_108
          · refine lv_iconst (v := 0) hx hb dX12_weightOf_94 (by decide) ?_
            refine lv_goto (tgt := 107) hx hb dX12_weightOf_95 (by decide) ?_
            refine lv_iadd hx hb dX12_weightOf_107 ?_
            exact hend H locs ((((2 * 0) + M 0 (38 + j)) + 0)) (L, mo_F D f mo ma M) _ ls w ⟨(by (try simp only [lg_cmp_le, lg_cmp_ge, lg_cmp_lt, lg_cmp_gt, ← Int32.not_lt, ← Int64.not_lt, Classical.not_not] at c_20 c_39 c_50 c_86 c_91); first | (simp [hs_weight, hs_goods, hs_wares, hs_buy, c_20, c_39, c_50, c_86, c_91]; done) | (simp [hs_weight, hs_goods, hs_wares, hs_buy, eq_true c_20, c_39, eq_true c_50, c_86, eq_true c_91]; done) | (exfalso; clear hend; simp_all; done)), rfl⟩ rfl dX12_weightOf_108
    · refine lv_iload_n hx hb dX12_weightOf_42 rfl (lv_at hl 0 rfl) ?_
      refine lv_iconst (v := 2) hx hb dX12_weightOf_43 (by decide) ?_
      refine lv_idiv hx hb dX12_weightOf_44 (by decide) ?_
      refine lv_goto (tgt := 70) hx hb dX12_weightOf_45 (by decide) ?_
      refine lv_istore (lv' := [(4, .int ((0 / 2))), (3, .int (0)), (2, .int (M 0 (8 + j))), (0, .ref mo), (1, .int (nI j))]) hx hb dX12_weightOf_70 hl (by decide) rfl (fun ls hl => ?_)
      refine lv_iload hx hb dX12_weightOf_72 (lv_at hl 0 rfl) ?_
      refine lv_aload_n hx hb dX12_weightOf_74 rfl (lv_at hl 3 rfl) ?_
      refine mo_get X w hm hin 0 (by decide) (List.mem_of_getElem? (i := 1) rfl) rfl dX12_weightOf_75 ?_
      refine lv_bipush (v := 38) hx hb dX12_weightOf_78 (by decide) ?_
      refine lv_iload_n hx hb dX12_weightOf_80 rfl (lv_at hl 4 rfl) ?_
      refine lv_iadd hx hb dX12_weightOf_81 ?_
      refine mo_iald X w hm 0 (by decide) (by decide) (38 + j) (hs_addI rfl rfl) (by show _ < 1400; omega) dX12_weightOf_82 ?_
      refine lv_iadd hx hb dX12_weightOf_83 ?_
      refine lv_iload_n hx hb dX12_weightOf_84 rfl (lv_at hl 2 rfl) ?_
      refine lv_iconst (v := 4) hx hb dX12_weightOf_85 (by decide) ?_
      refine lv_icmp_eq (tgt := 94) hx hb dX12_weightOf_86 (by decide) (fun c_86 => ?_) (fun c_86 => ?_)
      · refine lv_iconst (v := 0) hx hb dX12_weightOf_94 (by decide) ?_
        refine lv_goto (tgt := 107) hx hb dX12_weightOf_95 (by decide) ?_
        refine lv_iadd hx hb dX12_weightOf_107 ?_
        exact hend H locs ((((0 / 2) + M 0 (38 + j)) + 0)) (L, mo_F D f mo ma M) _ ls w ⟨(by (try simp only [lg_cmp_le, lg_cmp_ge, lg_cmp_lt, lg_cmp_gt, ← Int32.not_lt, ← Int64.not_lt, Classical.not_not] at c_20 c_39 c_86); first | (simp [hs_weight, hs_goods, hs_wares, hs_buy, c_20, c_39, c_86]; done) | (simp [hs_weight, hs_goods, hs_wares, hs_buy, eq_true c_20, eq_true c_39, eq_true c_86]; done) | (exfalso; clear hend; simp_all; done)), rfl⟩ rfl dX12_weightOf_108
      · refine lv_iload_n hx hb dX12_weightOf_89 rfl (lv_at hl 2 rfl) ?_
        refine lv_iconst (v := 5) hx hb dX12_weightOf_90 (by decide) ?_
        refine lv_icmp_ne (tgt := 98) hx hb dX12_weightOf_91 (by decide) (fun c_91 => ?_) (fun c_91 => ?_)
        · refine lv_aload_n hx hb dX12_weightOf_98 rfl (lv_at hl 3 rfl) ?_
          refine mo_get X w hm hin 0 (by decide) (List.mem_of_getElem? (i := 1) rfl) rfl dX12_weightOf_99 ?_
          refine lv_bipush (v := 32) hx hb dX12_weightOf_102 (by decide) ?_
          refine lv_iload_n hx hb dX12_weightOf_104 rfl (lv_at hl 4 rfl) ?_
          refine lv_iadd hx hb dX12_weightOf_105 ?_
          refine mo_iald X w hm 0 (by decide) (by decide) (32 + j) (hs_addI rfl rfl) (by show _ < 1400; omega) dX12_weightOf_106 ?_
          refine lv_iadd hx hb dX12_weightOf_107 ?_
          exact hend H locs ((((0 / 2) + M 0 (38 + j)) + M 0 (32 + j))) (L, mo_F D f mo ma M) _ ls w ⟨(by (try simp only [lg_cmp_le, lg_cmp_ge, lg_cmp_lt, lg_cmp_gt, ← Int32.not_lt, ← Int64.not_lt, Classical.not_not] at c_20 c_39 c_86 c_91); first | (simp [hs_weight, hs_goods, hs_wares, hs_buy, c_20, c_39, c_86, c_91]; done) | (simp [hs_weight, hs_goods, hs_wares, hs_buy, eq_true c_20, eq_true c_39, c_86, c_91]; done) | (exfalso; clear hend; simp_all; done)), rfl⟩ rfl dX12_weightOf_108
        · refine lv_iconst (v := 0) hx hb dX12_weightOf_94 (by decide) ?_
          refine lv_goto (tgt := 107) hx hb dX12_weightOf_95 (by decide) ?_
          refine lv_iadd hx hb dX12_weightOf_107 ?_
          exact hend H locs ((((0 / 2) + M 0 (38 + j)) + 0)) (L, mo_F D f mo ma M) _ ls w ⟨(by (try simp only [lg_cmp_le, lg_cmp_ge, lg_cmp_lt, lg_cmp_gt, ← Int32.not_lt, ← Int64.not_lt, Classical.not_not] at c_20 c_39 c_86 c_91); first | (simp [hs_weight, hs_goods, hs_wares, hs_buy, c_20, c_39, c_86, c_91]; done) | (simp [hs_weight, hs_goods, hs_wares, hs_buy, eq_true c_20, eq_true c_39, c_86, eq_true c_91]; done) | (exfalso; clear hend; simp_all; done)), rfl⟩ rfl dX12_weightOf_108
set_option maxRecDepth 100000 in
set_option maxHeartbeats 4000000 in
/-- whoIs -/
theorem c_X12_whoIs (l : Launch) (D : va_G) (b0 : Nat) (L : List Nat) (f : Nat → va_E) (mo : Nat) (ma : Nat → Nat) (M : Nat → Nat → Int32) (hm : mo_ok L mo ma) (r0 n : Nat) (hr0 : r0 ≤ 150) (hn : M 0 (r0 + 3) = nI n) (hn6 : n ≤ 6) (rope place : Int32) : mo_Fi l yX12_whoIs wsX12_whoIs ({ frames := 0, cells := 0, slots := 0, locals := 0 }) D b0 L f mo ma M [.int (nI r0), .int (rope), .int (place)] (hs_who (fun z => M 0 (r0 + z)) rope place n) (M) := by
  refine hg_in_i (cc := cX12_whoIs) (nL := 6) (by decide) rfl (Nat.le_of_ble_eq_true rfl) (fun p e s m args below meth c R Q X hR hend H locs ls w hl => ?_)
  subst hR
  obtain ⟨hx, hb, hml, hown, hts⟩ := id X.1
  have hin : ∀ w ∈ wsX120, w ∈ wsX12_whoIs := fun w h => List.mem_cons_of_mem _ (List.mem_append_right _ h)
  have hl : lv_has ls 6 [(0, .ref mo), (1, .int (nI r0)), (2, .int (rope)), (3, .int (place))] := hl
  refine lv_iconst (v := (-1)) hx hb dX12_whoIs_0 (by decide) ?_
  refine lv_istore (lv' := [(4, .int ((-1))), (0, .ref mo), (1, .int (nI r0)), (2, .int (rope)), (3, .int (place))]) hx hb dX12_whoIs_1 hl (by decide) rfl (fun ls hl => ?_)
  refine lv_iconst (v := 0) hx hb dX12_whoIs_3 (by decide) ?_
  refine lv_istore (lv' := [(5, .int (0)), (4, .int ((-1))), (0, .ref mo), (1, .int (nI r0)), (2, .int (rope)), (3, .int (place))]) hx hb dX12_whoIs_4 hl (by decide) rfl (fun ls hl => ?_)
  have loop : ∀ (n0 k : Nat), k ≤ n → n + 1 ≤ k + n0 → ∀ (H : Heap) (locs : List Loc) (ls : Array Slot), hg_W D b0 L (mo_F D f mo ma M) s.heap H locs → lv_has ls 6 [(0, .ref mo), (1, .int (nI r0)), (2, .int (rope)), (3, .int (place)), (4, .int (hs_who (fun z => M 0 (r0 + z)) rope place k)), (5, .int (nI k))] → W p l e ({ frames := 0, cells := 0, slots := 0, locals := 0 }) s m args below meth c H locs 0 0 Q (F0 m 6 ls []) := by
    intro n0
    induction n0 with
    | zero =>
      intro k h1 h2
      exact absurd h2 (by omega)
    | succ n0 ih =>
      intro k hk hn0 H locs ls w hl
      refine lv_iload hx hb dX12_whoIs_6 (lv_at hl 5 rfl) ?_
      refine lv_aload_n hx hb dX12_whoIs_8 rfl (lv_at hl 0 rfl) ?_
      refine mo_get X w hm hin 0 (by decide) (List.mem_of_getElem? (i := 1) rfl) rfl dX12_whoIs_9 ?_
      refine lv_iload_n hx hb dX12_whoIs_12 rfl (lv_at hl 1 rfl) ?_
      refine lv_iconst (v := 3) hx hb dX12_whoIs_13 (by decide) ?_
      refine lv_iadd hx hb dX12_whoIs_14 ?_
      refine mo_iald X w hm 0 (by decide) (by decide) (r0 + 3) (hs_addI rfl rfl) (by show _ < 1400; omega) dX12_whoIs_15 ?_
      refine lv_icmp_ge (tgt := 66) hx hb dX12_whoIs_16 (by decide) (fun c_16 => ?_) (fun c_16 => ?_)
      · rw [hn] at c_16
        have hk : n = k := by
          rcases Nat.lt_or_ge k n with q | q
          · exact absurd c_16 (nI_ge (a := k) (b := n) q (by omega))
          · omega
        subst hk
        refine lv_iload hx hb dX12_whoIs_66 (lv_at hl 4 rfl) ?_
        exact hend H locs (hs_who (fun z => M 0 (r0 + z)) rope place n) (L, mo_F D f mo ma M) _ ls w ⟨rfl, rfl⟩ rfl dX12_whoIs_68
      · rw [hn] at c_16
        have hkl : k < n := by
          rcases Nat.lt_or_ge k n with q | q
          · exact q
          · exact absurd (nI_le (a := n) (b := k) q (by omega)) c_16
        refine lv_aload_n hx hb dX12_whoIs_19 rfl (lv_at hl 0 rfl) ?_
        refine mo_get X w hm hin 0 (by decide) (List.mem_of_getElem? (i := 1) rfl) rfl dX12_whoIs_20 ?_
        refine lv_iload_n hx hb dX12_whoIs_23 rfl (lv_at hl 1 rfl) ?_
        refine lv_bipush (v := 14) hx hb dX12_whoIs_24 (by decide) ?_
        refine lv_iadd hx hb dX12_whoIs_26 ?_
        refine lv_iload hx hb dX12_whoIs_27 (lv_at hl 5 rfl) ?_
        refine lv_iadd hx hb dX12_whoIs_29 ?_
        refine mo_iald X w hm 0 (by decide) (by decide) (r0 + 14 + k) (hs_addI (hs_addI rfl rfl) rfl) (by show _ < 1400; omega) dX12_whoIs_30 ?_
        refine lv_iload_n hx hb dX12_whoIs_31 rfl (lv_at hl 2 rfl) ?_
        refine lv_icmp_ne (tgt := 56) hx hb dX12_whoIs_32 (by decide) (fun c_32 => ?_) (fun c_32 => ?_)
        · refine lv_iload hx hb dX12_whoIs_56 (lv_at hl 4 rfl) ?_
          refine lv_istore (lv' := [(4, .int (hs_who (fun z => M 0 (r0 + z)) rope place k)), (0, .ref mo), (1, .int (nI r0)), (2, .int (rope)), (3, .int (place)), (5, .int (nI k))]) hx hb dX12_whoIs_58 hl (by decide) rfl (fun ls hl => ?_)
          refine lv_iinc (v := nI k + 1) (lv' := [(5, .int (nI k + 1)), (4, .int (hs_who (fun z => M 0 (r0 + z)) rope place k)), (0, .ref mo), (1, .int (nI r0)), (2, .int (rope)), (3, .int (place))]) hx hb dX12_whoIs_60 hl (k := 5) rfl rfl (by decide) rfl (fun ls hl => ?_)
          refine lv_goto (tgt := 6) hx hb dX12_whoIs_63 (by decide) ?_
          have he4 : (hs_who (fun z => M 0 (r0 + z)) rope place k) = hs_who (fun z => M 0 (r0 + z)) rope place (k + 1) := by simp [hs_who, ← Nat.add_assoc, c_16, c_32]
          have hl := hs_lv hl (k := 1) rfl he4
          have hl := hs_lv hl (k := 0) rfl (nI_1 k)
          exact ih (k + 1) (by omega) (by omega) H locs ls w (lv_sub hl [2, 3, 4, 5, 1, 0] rfl)
        · refine lv_aload_n hx hb dX12_whoIs_35 rfl (lv_at hl 0 rfl) ?_
          refine mo_get X w hm hin 0 (by decide) (List.mem_of_getElem? (i := 1) rfl) rfl dX12_whoIs_36 ?_
          refine lv_iload_n hx hb dX12_whoIs_39 rfl (lv_at hl 1 rfl) ?_
          refine lv_bipush (v := 20) hx hb dX12_whoIs_40 (by decide) ?_
          refine lv_iadd hx hb dX12_whoIs_42 ?_
          refine lv_iload hx hb dX12_whoIs_43 (lv_at hl 5 rfl) ?_
          refine lv_iadd hx hb dX12_whoIs_45 ?_
          refine mo_iald X w hm 0 (by decide) (by decide) (r0 + 20 + k) (hs_addI (hs_addI rfl rfl) rfl) (by show _ < 1400; omega) dX12_whoIs_46 ?_
          refine lv_iload_n hx hb dX12_whoIs_47 rfl (lv_at hl 3 rfl) ?_
          refine lv_icmp_ne (tgt := 56) hx hb dX12_whoIs_48 (by decide) (fun c_48 => ?_) (fun c_48 => ?_)
          · refine lv_iload hx hb dX12_whoIs_56 (lv_at hl 4 rfl) ?_
            refine lv_istore (lv' := [(4, .int (hs_who (fun z => M 0 (r0 + z)) rope place k)), (0, .ref mo), (1, .int (nI r0)), (2, .int (rope)), (3, .int (place)), (5, .int (nI k))]) hx hb dX12_whoIs_58 hl (by decide) rfl (fun ls hl => ?_)
            refine lv_iinc (v := nI k + 1) (lv' := [(5, .int (nI k + 1)), (4, .int (hs_who (fun z => M 0 (r0 + z)) rope place k)), (0, .ref mo), (1, .int (nI r0)), (2, .int (rope)), (3, .int (place))]) hx hb dX12_whoIs_60 hl (k := 5) rfl rfl (by decide) rfl (fun ls hl => ?_)
            refine lv_goto (tgt := 6) hx hb dX12_whoIs_63 (by decide) ?_
            have he4 : (hs_who (fun z => M 0 (r0 + z)) rope place k) = hs_who (fun z => M 0 (r0 + z)) rope place (k + 1) := by simp [hs_who, ← Nat.add_assoc, c_16, c_32, c_48]
            have hl := hs_lv hl (k := 1) rfl he4
            have hl := hs_lv hl (k := 0) rfl (nI_1 k)
            exact ih (k + 1) (by omega) (by omega) H locs ls w (lv_sub hl [2, 3, 4, 5, 1, 0] rfl)
          · refine lv_iload hx hb dX12_whoIs_51 (lv_at hl 5 rfl) ?_
            refine lv_goto (tgt := 58) hx hb dX12_whoIs_53 (by decide) ?_
            refine lv_istore (lv' := [(4, .int (nI k)), (0, .ref mo), (1, .int (nI r0)), (2, .int (rope)), (3, .int (place)), (5, .int (nI k))]) hx hb dX12_whoIs_58 hl (by decide) rfl (fun ls hl => ?_)
            refine lv_iinc (v := nI k + 1) (lv' := [(5, .int (nI k + 1)), (4, .int (nI k)), (0, .ref mo), (1, .int (nI r0)), (2, .int (rope)), (3, .int (place))]) hx hb dX12_whoIs_60 hl (k := 5) rfl rfl (by decide) rfl (fun ls hl => ?_)
            refine lv_goto (tgt := 6) hx hb dX12_whoIs_63 (by decide) ?_
            have he4 : (nI k) = hs_who (fun z => M 0 (r0 + z)) rope place (k + 1) := by simp [hs_who, ← Nat.add_assoc, c_16, c_32, c_48]
            have hl := hs_lv hl (k := 1) rfl he4
            have hl := hs_lv hl (k := 0) rfl (nI_1 k)
            exact ih (k + 1) (by omega) (by omega) H locs ls w (lv_sub hl [2, 3, 4, 5, 1, 0] rfl)
  exact loop (n + 1) 0 (by omega) (by omega) H locs ls w (lv_sub hl [2, 3, 4, 5, 1, 0] rfl)
set_option maxRecDepth 100000 in
set_option maxHeartbeats 4000000 in
/-- isStall -/
theorem c_X12_isStall (l : Launch) (D : va_G) (b0 : Nat) (L : List Nat) (f : Nat → va_E) (mo : Nat) (ma : Nat → Nat) (M : Nat → Nat → Int32) (hm : mo_ok L mo ma) (x : Int32) : mo_Fi l yX12_isStall wsX12_isStall ({ frames := 1, cells := 0, slots := 0, locals := 25 }) D b0 L f mo ma M [.int (x)] (hs_isSt (M 0) x) (M) := by
  refine hg_in_i (cc := cX12_isStall) (nL := 2) (by decide) rfl (Nat.le_of_ble_eq_true rfl) (fun p e s m args below meth c R Q X hR hend H locs ls w hl => ?_)
  subst hR
  obtain ⟨hx, hb, hml, hown, hts⟩ := id X.1
  have hin : ∀ w ∈ wsX120, w ∈ wsX12_isStall := fun w h => List.mem_cons_of_mem _ (List.mem_append_right _ h)
  have hl : lv_has ls 2 [(0, .ref mo), (1, .int (x))] := hl
  refine lv_iload_n hx hb dX12_isStall_0 rfl (lv_at hl 1 rfl) ?_
  refine lv_i2l hx hb dX12_isStall_1 rfl ?_
  refine lv_lconst (v := 0) hx hb dX12_isStall_2 (by decide) ?_
  refine lv_aload_n hx hb dX12_isStall_3 rfl (lv_at hl 0 rfl) ?_
  refine mo_get X w hm hin 0 (by decide) (List.mem_of_getElem? (i := 1) rfl) rfl dX12_isStall_4 ?_
  refine lv_iconst (v := 3) hx hb dX12_isStall_7 (by decide) ?_
  refine mo_iald X w hm 0 (by decide) (by decide) 3 rfl (by show _ < 1400; omega) dX12_isStall_8 ?_
  refine lv_iconst (v := 1) hx hb dX12_isStall_9 (by decide) ?_
  refine lv_isub hx hb dX12_isStall_10 ?_
  refine lv_i2l hx hb dX12_isStall_11 rfl ?_
  refine hg_siF (r := hs_in x 0 (M 0 3 - 1)) (As := [.long ((x).toInt64), .long (0), .long (((M 0 3 - 1)).toInt64)]) (rest := []) X w (c_X12_in l D b0 L _ ((x).toInt64) 0 (((M 0 3 - 1)).toInt64) x 0 (M 0 3 - 1) rfl (by decide) rfl) (va_cwS 3 hts gX12_isStall_X12_in rfl rfl rfl hdX12_in ⟨Nat.le_of_ble_eq_true rfl, Nat.le_of_ble_eq_true rfl⟩) rfl hl.1 rfl (Nat.le_of_ble_eq_true rfl) dX12_isStall_12 ⟨Nat.zero_le _, Nat.zero_le _⟩ (fun H locs w => ?_)
  exact hend H locs (hs_in x 0 (M 0 3 - 1)) (L, mo_F D f mo ma M) _ ls w ⟨rfl, rfl⟩ (by unfold hs_in; split <;> decide) dX12_isStall_15
set_option maxRecDepth 100000 in
set_option maxHeartbeats 4000000 in
/-- isRope -/
theorem c_X12_isRope (l : Launch) (D : va_G) (b0 : Nat) (L : List Nat) (f : Nat → va_E) (mo : Nat) (ma : Nat → Nat) (M : Nat → Nat → Int32) (hm : mo_ok L mo ma) (x : Int32) : mo_Fi l yX12_isRope wsX12_isRope ({ frames := 1, cells := 0, slots := 0, locals := 25 }) D b0 L f mo ma M [.int (x)] (hs_isRo (M 0) x) (M) := by
  refine hg_in_i (cc := cX12_isRope) (nL := 2) (by decide) rfl (Nat.le_of_ble_eq_true rfl) (fun p e s m args below meth c R Q X hR hend H locs ls w hl => ?_)
  subst hR
  obtain ⟨hx, hb, hml, hown, hts⟩ := id X.1
  have hin : ∀ w ∈ wsX120, w ∈ wsX12_isRope := fun w h => List.mem_cons_of_mem _ (List.mem_append_right _ h)
  have hl : lv_has ls 2 [(0, .ref mo), (1, .int (x))] := hl
  refine lv_iload_n hx hb dX12_isRope_0 rfl (lv_at hl 1 rfl) ?_
  refine lv_i2l hx hb dX12_isRope_1 rfl ?_
  refine lv_lconst (v := 0) hx hb dX12_isRope_2 (by decide) ?_
  refine lv_aload_n hx hb dX12_isRope_3 rfl (lv_at hl 0 rfl) ?_
  refine mo_get X w hm hin 0 (by decide) (List.mem_of_getElem? (i := 1) rfl) rfl dX12_isRope_4 ?_
  refine lv_iconst (v := 2) hx hb dX12_isRope_7 (by decide) ?_
  refine mo_iald X w hm 0 (by decide) (by decide) 2 rfl (by show _ < 1400; omega) dX12_isRope_8 ?_
  refine lv_iconst (v := 1) hx hb dX12_isRope_9 (by decide) ?_
  refine lv_isub hx hb dX12_isRope_10 ?_
  refine lv_i2l hx hb dX12_isRope_11 rfl ?_
  refine hg_siF (r := hs_in x 0 (M 0 2 - 1)) (As := [.long ((x).toInt64), .long (0), .long (((M 0 2 - 1)).toInt64)]) (rest := []) X w (c_X12_in l D b0 L _ ((x).toInt64) 0 (((M 0 2 - 1)).toInt64) x 0 (M 0 2 - 1) rfl (by decide) rfl) (va_cwS 3 hts gX12_isRope_X12_in rfl rfl rfl hdX12_in ⟨Nat.le_of_ble_eq_true rfl, Nat.le_of_ble_eq_true rfl⟩) rfl hl.1 rfl (Nat.le_of_ble_eq_true rfl) dX12_isRope_12 ⟨Nat.zero_le _, Nat.zero_le _⟩ (fun H locs w => ?_)
  exact hend H locs (hs_in x 0 (M 0 2 - 1)) (L, mo_F D f mo ma M) _ ls w ⟨rfl, rfl⟩ (by unfold hs_in; split <;> decide) dX12_isRope_15
theorem hdX12_isRope : yX12_isRope.cls = RX12 ∧ yX12_isRope.cls ≠ "java/lang/invoke/MethodHandle" ∧ yX12_isRope.cls ≠ "java/lang/invoke/VarHandle" ∧ (parseMethodDescriptor yX12_isRope.desc).map (fun d => d.parameters.length) = some 1 := by decide +kernel
theorem hdX12_lesser : yX12_lesser.cls ≠ "java/lang/invoke/MethodHandle" ∧ yX12_lesser.cls ≠ "java/lang/invoke/VarHandle" ∧ (parseMethodDescriptor yX12_lesser.desc).map (fun d => d.parameters.length) = some 2 := by decide +kernel
theorem hdX12_weightOf : yX12_weightOf.cls = RX12 ∧ yX12_weightOf.cls ≠ "java/lang/invoke/MethodHandle" ∧ yX12_weightOf.cls ≠ "java/lang/invoke/VarHandle" ∧ (parseMethodDescriptor yX12_weightOf.desc).map (fun d => d.parameters.length) = some 1 := by decide +kernel
set_option maxRecDepth 100000 in
set_option maxHeartbeats 4000000 in
/-- sagOf -/
theorem c_X12_sagOf (l : Launch) (D : va_G) (b0 : Nat) (L : List Nat) (f : Nat → va_E) (mo : Nat) (ma : Nat → Nat) (M : Nat → Nat → Int32) (hm : mo_ok L mo ma) (n nr : Nat) (hv : hs_ok (M 0) n nr) (rope x : Int32) : mo_Fi l yX12_sagOf wsX12_sagOf ({ frames := 2, cells := 0, slots := 0, locals := 46 }) D b0 L f mo ma M [.int (rope), .int (x)] (hs_sag (M 0) n rope x) (M) := by
  refine hg_in_i (cc := cX12_sagOf) (nL := 8) (by decide) rfl (Nat.le_of_ble_eq_true rfl) (fun p e s m args below meth c R Q X hR hend H locs ls w hl => ?_)
  subst hR
  obtain ⟨hx, hb, hml, hown, hts⟩ := id X.1
  have hin : ∀ w ∈ wsX120, w ∈ wsX12_sagOf := fun w h => List.mem_cons_of_mem _ (List.mem_append_right _ h)
  have hl : lv_has ls 8 [(0, .ref mo), (1, .int (rope)), (2, .int (x))] := hl
  obtain ⟨hn, hn6, hnr, hnr3, htt⟩ := id hv
  refine lv_aload_n hx hb dX12_sagOf_0 rfl (lv_at hl 0 rfl) ?_
  refine lv_iload_n hx hb dX12_sagOf_1 rfl (lv_at hl 1 rfl) ?_
  refine hg_viF (r := hs_isRo (M 0) rope) (As := [.int (rope)]) (rest := []) X w (c_X12_isRope l D b0 L f mo ma M hm rope) (cwV 1 hts gX12_sagOf_X12_isRope rfl rfl rfl hdX12_isRope ⟨Nat.le_of_ble_eq_true rfl, Nat.le_of_ble_eq_true rfl⟩) hm.1 (mo_at0 D f mo ma _) rfl rfl rfl hl.1 rfl (Nat.le_of_ble_eq_true rfl) dX12_sagOf_2 ⟨Nat.zero_le _, Nat.zero_le _⟩ (fun H locs w => ?_)
  refine lv_if_ne (tgt := 10) hx hb dX12_sagOf_5 (by decide) (fun c_5 => ?_) (fun c_5 => ?_)
  · obtain ⟨r, hr, rfl⟩ := hs_ro_1 hv c_5
    have hrc := hs_cl hr (by omega)
    refine lv_iconst (v := 0) hx hb dX12_sagOf_10 (by decide) ?_
    refine lv_istore_n (lv' := [(3, .int (0)), (0, .ref mo), (1, .int (nI r)), (2, .int (x))]) hx hb dX12_sagOf_11 rfl hl (by decide) rfl (fun ls hl => ?_)
    refine lv_iconst (v := 0) hx hb dX12_sagOf_12 (by decide) ?_
    refine lv_istore (lv' := [(4, .int (0)), (3, .int (0)), (0, .ref mo), (1, .int (nI r)), (2, .int (x))]) hx hb dX12_sagOf_13 hl (by decide) rfl (fun ls hl => ?_)
    have loop : ∀ (n0 k : Nat), k ≤ n → n + 1 ≤ k + n0 → ∀ (H : Heap) (locs : List Loc) (ls : Array Slot), hg_W D b0 L (mo_F D f mo ma M) s.heap H locs → lv_has ls 8 [(0, .ref mo), (1, .int (nI r)), (2, .int (x)), (3, .int (hs_pull (M 0) (nI r) x k)), (4, .int (nI k))] → W p l e ({ frames := 2, cells := 0, slots := 0, locals := 46 }) s m args below meth c H locs 0 0 Q (F0 m 15 ls []) := by
      intro n0
      induction n0 with
      | zero =>
        intro k h1 h2
        exact absurd h2 (by omega)
      | succ n0 ih =>
        intro k hk hn0 H locs ls w hl
        refine lv_iload hx hb dX12_sagOf_15 (lv_at hl 4 rfl) ?_
        refine lv_aload_n hx hb dX12_sagOf_17 rfl (lv_at hl 0 rfl) ?_
        refine mo_get X w hm hin 0 (by decide) (List.mem_of_getElem? (i := 1) rfl) rfl dX12_sagOf_18 ?_
        refine lv_iconst (v := 3) hx hb dX12_sagOf_21 (by decide) ?_
        refine mo_iald X w hm 0 (by decide) (by decide) 3 rfl (by show _ < 1400; omega) dX12_sagOf_22 ?_
        refine lv_icmp_ge (tgt := 97) hx hb dX12_sagOf_23 (by decide) (fun c_23 => ?_) (fun c_23 => ?_)
        · rw [hn] at c_23
          have hk : n = k := by
            rcases Nat.lt_or_ge k n with q | q
            · exact absurd c_23 (nI_ge (a := k) (b := n) q (by omega))
            · omega
          subst hk
          refine lv_iload_n hx hb dX12_sagOf_97 rfl (lv_at hl 3 rfl) ?_
          refine lv_aload_n hx hb dX12_sagOf_98 rfl (lv_at hl 0 rfl) ?_
          refine mo_get X w hm hin 0 (by decide) (List.mem_of_getElem? (i := 1) rfl) rfl dX12_sagOf_99 ?_
          refine lv_iconst (v := 5) hx hb dX12_sagOf_102 (by decide) ?_
          refine lv_iload_n hx hb dX12_sagOf_103 rfl (lv_at hl 1 rfl) ?_
          refine lv_iadd hx hb dX12_sagOf_104 ?_
          refine mo_iald X w hm 0 (by decide) (by decide) (5 + r) (hs_addI rfl rfl) (by show _ < 1400; omega) dX12_sagOf_105 ?_
          refine lv_idiv hx hb dX12_sagOf_106 (htt r hr) ?_
          refine lv_aload_n hx hb dX12_sagOf_107 rfl (lv_at hl 0 rfl) ?_
          refine mo_get X w hm hin 0 (by decide) (List.mem_of_getElem? (i := 1) rfl) rfl dX12_sagOf_108 ?_
          refine lv_iconst (v := 1) hx hb dX12_sagOf_111 (by decide) ?_
          refine mo_iald X w hm 0 (by decide) (by decide) 1 rfl (by show _ < 1400; omega) dX12_sagOf_112 ?_
          refine lv_iadd hx hb dX12_sagOf_113 ?_
          exact hend H locs (((hs_pull (M 0) (nI r) x n / M 0 (5 + r)) + M 0 1)) (L, mo_F D f mo ma M) _ ls w ⟨(by simp [hs_sag, c_5, hrc]), rfl⟩ rfl dX12_sagOf_114
        · rw [hn] at c_23
          have hkl : k < n := by
            rcases Nat.lt_or_ge k n with q | q
            · exact q
            · exact absurd (nI_le (a := n) (b := k) q (by omega)) c_23
          refine lv_aload_n hx hb dX12_sagOf_26 rfl (lv_at hl 0 rfl) ?_
          refine mo_get X w hm hin 0 (by decide) (List.mem_of_getElem? (i := 1) rfl) rfl dX12_sagOf_27 ?_
          refine lv_bipush (v := 20) hx hb dX12_sagOf_30 (by decide) ?_
          refine lv_iload hx hb dX12_sagOf_32 (lv_at hl 4 rfl) ?_
          refine lv_iadd hx hb dX12_sagOf_34 ?_
          refine mo_iald X w hm 0 (by decide) (by decide) (20 + k) (hs_addI rfl rfl) (by show _ < 1400; omega) dX12_sagOf_35 ?_
          refine lv_istore (lv' := [(5, .int (M 0 (20 + k))), (0, .ref mo), (1, .int (nI r)), (2, .int (x)), (3, .int (hs_pull (M 0) (nI r) x k)), (4, .int (nI k))]) hx hb dX12_sagOf_36 hl (by decide) rfl (fun ls hl => ?_)
          refine lv_iload_n hx hb dX12_sagOf_38 rfl (lv_at hl 3 rfl) ?_
          refine lv_iload hx hb dX12_sagOf_39 (lv_at hl 0 rfl) ?_
          refine hg_siF (r := hs_less x (M 0 (20 + k))) (As := [.int (x), .int (M 0 (20 + k))]) (rest := []) X w (c_X12_lesser l D b0 L _ x (M 0 (20 + k))) (va_cwS 2 hts gX12_sagOf_X12_lesser rfl rfl rfl hdX12_lesser ⟨Nat.le_of_ble_eq_true rfl, Nat.le_of_ble_eq_true rfl⟩) rfl hl.1 rfl (Nat.le_of_ble_eq_true rfl) dX12_sagOf_41 ⟨Nat.zero_le _, Nat.zero_le _⟩ (fun H locs w => ?_)
          refine lv_istore (lv' := [(6, .int (hs_less x (M 0 (20 + k)))), (5, .int (M 0 (20 + k))), (0, .ref mo), (1, .int (nI r)), (2, .int (x)), (3, .int (hs_pull (M 0) (nI r) x k)), (4, .int (nI k))]) hx hb dX12_sagOf_44 hl (by decide) rfl (fun ls hl => ?_)
          refine lv_iload_n hx hb dX12_sagOf_46 rfl (lv_at hl 4 rfl) ?_
          refine lv_iload hx hb dX12_sagOf_47 (lv_at hl 1 rfl) ?_
          refine lv_iadd hx hb dX12_sagOf_49 ?_
          refine lv_iload hx hb dX12_sagOf_50 (lv_at hl 0 rfl) ?_
          refine lv_isub hx hb dX12_sagOf_52 ?_
          refine lv_istore (lv' := [(7, .int (((x + M 0 (20 + k)) - hs_less x (M 0 (20 + k))))), (6, .int (hs_less x (M 0 (20 + k)))), (5, .int (M 0 (20 + k))), (0, .ref mo), (1, .int (nI r)), (2, .int (x)), (3, .int (hs_pull (M 0) (nI r) x k)), (4, .int (nI k))]) hx hb dX12_sagOf_53 hl (by decide) rfl (fun ls hl => ?_)
          refine lv_iload_n hx hb dX12_sagOf_55 rfl (lv_at hl 6 rfl) ?_
          refine lv_aload_n hx hb dX12_sagOf_56 rfl (lv_at hl 3 rfl) ?_
          refine mo_get X w hm hin 0 (by decide) (List.mem_of_getElem? (i := 1) rfl) rfl dX12_sagOf_57 ?_
          refine lv_bipush (v := 14) hx hb dX12_sagOf_60 (by decide) ?_
          refine lv_iload hx hb dX12_sagOf_62 (lv_at hl 7 rfl) ?_
          refine lv_iadd hx hb dX12_sagOf_64 ?_
          refine mo_iald X w hm 0 (by decide) (by decide) (14 + k) (hs_addI rfl rfl) (by show _ < 1400; omega) dX12_sagOf_65 ?_
          refine lv_iload_n hx hb dX12_sagOf_66 rfl (lv_at hl 4 rfl) ?_
          refine lv_icmp_ne (tgt := 88) hx hb dX12_sagOf_67 (by decide) (fun c_67 => ?_) (fun c_67 => ?_)
          · refine lv_iconst (v := 0) hx hb dX12_sagOf_88 (by decide) ?_
            refine lv_iadd hx hb dX12_sagOf_89 ?_
            refine lv_istore_n (lv' := [(3, .int ((hs_pull (M 0) (nI r) x k + 0))), (7, .int (((x + M 0 (20 + k)) - hs_less x (M 0 (20 + k))))), (6, .int (hs_less x (M 0 (20 + k)))), (5, .int (M 0 (20 + k))), (0, .ref mo), (1, .int (nI r)), (2, .int (x)), (4, .int (nI k))]) hx hb dX12_sagOf_90 rfl hl (by decide) rfl (fun ls hl => ?_)
            refine lv_iinc (v := nI k + 1) (lv' := [(4, .int (nI k + 1)), (3, .int ((hs_pull (M 0) (nI r) x k + 0))), (7, .int (((x + M 0 (20 + k)) - hs_less x (M 0 (20 + k))))), (6, .int (hs_less x (M 0 (20 + k)))), (5, .int (M 0 (20 + k))), (0, .ref mo), (1, .int (nI r)), (2, .int (x))]) hx hb dX12_sagOf_91 hl (k := 7) rfl rfl (by decide) rfl (fun ls hl => ?_)
            refine lv_goto (tgt := 15) hx hb dX12_sagOf_94 (by decide) ?_
            have he3 : (hs_pull (M 0) (nI r) x k + 0) = hs_pull (M 0) (nI r) x (k + 1) := by simp [hs_pull, hs_far, c_23, c_67]
            have hl := hs_lv hl (k := 1) rfl he3
            have hl := hs_lv hl (k := 0) rfl (nI_1 k)
            exact ih (k + 1) (by omega) (by omega) H locs ls w (lv_sub hl [5, 6, 7, 1, 0] rfl)
          · refine lv_aload_n hx hb dX12_sagOf_70 rfl (lv_at hl 3 rfl) ?_
            refine lv_iload hx hb dX12_sagOf_71 (lv_at hl 7 rfl) ?_
            refine hg_viF (r := hs_weight (M 0) k) (As := [.int (nI k)]) (rest := [.int (hs_pull (M 0) (nI r) x k)]) X w (c_X12_weightOf l D b0 L f mo ma M hm k (by omega)) (cwV 1 hts gX12_sagOf_X12_weightOf rfl rfl rfl hdX12_weightOf ⟨Nat.le_of_ble_eq_true rfl, Nat.le_of_ble_eq_true rfl⟩) hm.1 (mo_at0 D f mo ma _) rfl rfl rfl hl.1 rfl (Nat.le_of_ble_eq_true rfl) dX12_sagOf_73 ⟨Nat.zero_le _, Nat.zero_le _⟩ (fun H locs w => ?_)
            refine lv_iload hx hb dX12_sagOf_76 (lv_at hl 1 rfl) ?_
            refine lv_imul hx hb dX12_sagOf_78 ?_
            refine lv_bipush (v := 9) hx hb dX12_sagOf_79 (by decide) ?_
            refine lv_iload hx hb dX12_sagOf_81 (lv_at hl 0 rfl) ?_
            refine lv_isub hx hb dX12_sagOf_83 ?_
            refine lv_imul hx hb dX12_sagOf_84 ?_
            refine lv_goto (tgt := 89) hx hb dX12_sagOf_85 (by decide) ?_
            refine lv_iadd hx hb dX12_sagOf_89 ?_
            refine lv_istore_n (lv' := [(3, .int ((hs_pull (M 0) (nI r) x k + ((hs_weight (M 0) k * hs_less x (M 0 (20 + k))) * (9 - ((x + M 0 (20 + k)) - hs_less x (M 0 (20 + k)))))))), (7, .int (((x + M 0 (20 + k)) - hs_less x (M 0 (20 + k))))), (6, .int (hs_less x (M 0 (20 + k)))), (5, .int (M 0 (20 + k))), (0, .ref mo), (1, .int (nI r)), (2, .int (x)), (4, .int (nI k))]) hx hb dX12_sagOf_90 rfl hl (by decide) rfl (fun ls hl => ?_)
            refine lv_iinc (v := nI k + 1) (lv' := [(4, .int (nI k + 1)), (3, .int ((hs_pull (M 0) (nI r) x k + ((hs_weight (M 0) k * hs_less x (M 0 (20 + k))) * (9 - ((x + M 0 (20 + k)) - hs_less x (M 0 (20 + k)))))))), (7, .int (((x + M 0 (20 + k)) - hs_less x (M 0 (20 + k))))), (6, .int (hs_less x (M 0 (20 + k)))), (5, .int (M 0 (20 + k))), (0, .ref mo), (1, .int (nI r)), (2, .int (x))]) hx hb dX12_sagOf_91 hl (k := 7) rfl rfl (by decide) rfl (fun ls hl => ?_)
            refine lv_goto (tgt := 15) hx hb dX12_sagOf_94 (by decide) ?_
            have he3 : (hs_pull (M 0) (nI r) x k + ((hs_weight (M 0) k * hs_less x (M 0 (20 + k))) * (9 - ((x + M 0 (20 + k)) - hs_less x (M 0 (20 + k)))))) = hs_pull (M 0) (nI r) x (k + 1) := by simp [hs_pull, hs_far, c_23, c_67]
            have hl := hs_lv hl (k := 1) rfl he3
            have hl := hs_lv hl (k := 0) rfl (nI_1 k)
            exact ih (k + 1) (by omega) (by omega) H locs ls w (lv_sub hl [5, 6, 7, 1, 0] rfl)
    exact loop (n + 1) 0 (by omega) (by omega) H locs ls w (lv_sub hl [2, 3, 4, 1, 0] rfl)
  · refine lv_iconst (v := 0) hx hb dX12_sagOf_8 (by decide) ?_
    exact hend H locs (0) (L, mo_F D f mo ma M) _ ls w ⟨(by simp [hs_sag, c_5]), rfl⟩ rfl dX12_sagOf_9
theorem hdX12_sagOf : yX12_sagOf.cls = RX12 ∧ yX12_sagOf.cls ≠ "java/lang/invoke/MethodHandle" ∧ yX12_sagOf.cls ≠ "java/lang/invoke/VarHandle" ∧ (parseMethodDescriptor yX12_sagOf.desc).map (fun d => d.parameters.length) = some 2 := by decide +kernel
set_option maxRecDepth 100000 in
set_option maxHeartbeats 4000000 in
/-- depthAt -/
theorem c_X12_depthAt (l : Launch) (D : va_G) (b0 : Nat) (L : List Nat) (f : Nat → va_E) (mo : Nat) (ma : Nat → Nat) (M : Nat → Nat → Int32) (hm : mo_ok L mo ma) (n nr : Nat) (hv : hs_ok (M 0) n nr) (rope x : Int32) : mo_Fi l yX12_depthAt wsX12_depthAt ({ frames := 3, cells := 0, slots := 0, locals := 73 }) D b0 L f mo ma M [.int (rope), .int (x)] (hs_depth (M 0) n rope x) (M) := by
  refine hg_in_i (cc := cX12_depthAt) (nL := 3) (by decide) rfl (Nat.le_of_ble_eq_true rfl) (fun p e s m args below meth c R Q X hR hend H locs ls w hl => ?_)
  subst hR
  obtain ⟨hx, hb, hml, hown, hts⟩ := id X.1
  have hin : ∀ w ∈ wsX120, w ∈ wsX12_depthAt := fun w h => List.mem_cons_of_mem _ (List.mem_append_right _ h)
  have hl : lv_has ls 3 [(0, .ref mo), (1, .int (rope)), (2, .int (x))] := hl
  refine lv_aload_n hx hb dX12_depthAt_0 rfl (lv_at hl 0 rfl) ?_
  refine lv_iload_n hx hb dX12_depthAt_1 rfl (lv_at hl 1 rfl) ?_
  refine lv_iload_n hx hb dX12_depthAt_2 rfl (lv_at hl 2 rfl) ?_
  refine hg_viF (r := (hs_sag (M 0) n rope x)) (As := [.int (rope), .int (x)]) (rest := []) X w (c_X12_sagOf l D b0 L f mo ma M hm n nr hv rope x) (cwV 2 hts gX12_depthAt_X12_sagOf rfl rfl rfl hdX12_sagOf ⟨Nat.le_of_ble_eq_true rfl, Nat.le_of_ble_eq_true rfl⟩) hm.1 (mo_at0 D f mo ma _) rfl rfl rfl hl.1 rfl (Nat.le_of_ble_eq_true rfl) dX12_depthAt_3 ⟨Nat.zero_le _, Nat.zero_le _⟩ (fun H locs w => ?_)
  refine lv_aload_n hx hb dX12_depthAt_6 rfl (lv_at hl 0 rfl) ?_
  refine lv_iload_n hx hb dX12_depthAt_7 rfl (lv_at hl 1 rfl) ?_
  refine lv_iconst (v := 1) hx hb dX12_depthAt_8 (by decide) ?_
  refine lv_isub hx hb dX12_depthAt_9 ?_
  refine lv_iload_n hx hb dX12_depthAt_10 rfl (lv_at hl 2 rfl) ?_
  refine hg_viF (r := (hs_sag (M 0) n (rope - 1) x)) (As := [.int ((rope - 1)), .int (x)]) (rest := [.int ((hs_sag (M 0) n rope x))]) X w (c_X12_sagOf l D b0 L f mo ma M hm n nr hv (rope - 1) x) (cwV 2 hts gX12_depthAt_X12_sagOf rfl rfl rfl hdX12_sagOf ⟨Nat.le_of_ble_eq_true rfl, Nat.le_of_ble_eq_true rfl⟩) hm.1 (mo_at0 D f mo ma _) rfl rfl rfl hl.1 rfl (Nat.le_of_ble_eq_true rfl) dX12_depthAt_11 ⟨Nat.zero_le _, Nat.zero_le _⟩ (fun H locs w => ?_)
  refine lv_aload_n hx hb dX12_depthAt_14 rfl (lv_at hl 0 rfl) ?_
  refine lv_iload_n hx hb dX12_depthAt_15 rfl (lv_at hl 1 rfl) ?_
  refine lv_iconst (v := 1) hx hb dX12_depthAt_16 (by decide) ?_
  refine lv_iadd hx hb dX12_depthAt_17 ?_
  refine lv_iload_n hx hb dX12_depthAt_18 rfl (lv_at hl 2 rfl) ?_
  refine hg_viF (r := (hs_sag (M 0) n (rope + 1) x)) (As := [.int ((rope + 1)), .int (x)]) (rest := [.int ((hs_sag (M 0) n (rope - 1) x)), .int ((hs_sag (M 0) n rope x))]) X w (c_X12_sagOf l D b0 L f mo ma M hm n nr hv (rope + 1) x) (cwV 2 hts gX12_depthAt_X12_sagOf rfl rfl rfl hdX12_sagOf ⟨Nat.le_of_ble_eq_true rfl, Nat.le_of_ble_eq_true rfl⟩) hm.1 (mo_at0 D f mo ma _) rfl rfl rfl hl.1 rfl (Nat.le_of_ble_eq_true rfl) dX12_depthAt_19 ⟨Nat.zero_le _, Nat.zero_le _⟩ (fun H locs w => ?_)
  refine lv_iadd hx hb dX12_depthAt_22 ?_
  refine lv_iconst (v := 4) hx hb dX12_depthAt_23 (by decide) ?_
  refine lv_idiv hx hb dX12_depthAt_24 (by decide) ?_
  refine lv_isub hx hb dX12_depthAt_25 ?_
  exact hend H locs (((hs_sag (M 0) n rope x) - (((hs_sag (M 0) n (rope - 1) x) + (hs_sag (M 0) n (rope + 1) x)) / 4))) (L, mo_F D f mo ma M) _ ls w ⟨rfl, rfl⟩ rfl dX12_depthAt_26
theorem hdX12_depthAt : yX12_depthAt.cls = RX12 ∧ yX12_depthAt.cls ≠ "java/lang/invoke/MethodHandle" ∧ yX12_depthAt.cls ≠ "java/lang/invoke/VarHandle" ∧ (parseMethodDescriptor yX12_depthAt.desc).map (fun d => d.parameters.length) = some 2 := by decide +kernel
set_option maxRecDepth 100000 in
set_option maxHeartbeats 4000000 in
/-- depthOf -/
theorem c_X12_depthOf (l : Launch) (D : va_G) (b0 : Nat) (L : List Nat) (f : Nat → va_E) (mo : Nat) (ma : Nat → Nat) (M : Nat → Nat → Int32) (hm : mo_ok L mo ma) (n nr : Nat) (hv : hs_ok (M 0) n nr) (j : Nat) (hj : j < 6) : mo_Fi l yX12_depthOf wsX12_depthOf ({ frames := 4, cells := 0, slots := 0, locals := 95 }) D b0 L f mo ma M [.int (nI j)] (hs_deep (M 0) n j) (M) := by
  refine hg_in_i (cc := cX12_depthOf) (nL := 2) (by decide) rfl (Nat.le_of_ble_eq_true rfl) (fun p e s m args below meth c R Q X hR hend H locs ls w hl => ?_)
  subst hR
  obtain ⟨hx, hb, hml, hown, hts⟩ := id X.1
  have hin : ∀ w ∈ wsX120, w ∈ wsX12_depthOf := fun w h => List.mem_cons_of_mem _ (List.mem_append_right _ h)
  have hl : lv_has ls 2 [(0, .ref mo), (1, .int (nI j))] := hl
  refine lv_aload_n hx hb dX12_depthOf_0 rfl (lv_at hl 0 rfl) ?_
  refine lv_aload_n hx hb dX12_depthOf_1 rfl (lv_at hl 0 rfl) ?_
  refine mo_get X w hm hin 0 (by decide) (List.mem_of_getElem? (i := 1) rfl) rfl dX12_depthOf_2 ?_
  refine lv_bipush (v := 14) hx hb dX12_depthOf_5 (by decide) ?_
  refine lv_iload_n hx hb dX12_depthOf_7 rfl (lv_at hl 1 rfl) ?_
  refine lv_iadd hx hb dX12_depthOf_8 ?_
  refine mo_iald X w hm 0 (by decide) (by decide) (14 + j) (hs_addI rfl rfl) (by show _ < 1400; omega) dX12_depthOf_9 ?_
  refine lv_aload_n hx hb dX12_depthOf_10 rfl (lv_at hl 0 rfl) ?_
  refine mo_get X w hm hin 0 (by decide) (List.mem_of_getElem? (i := 1) rfl) rfl dX12_depthOf_11 ?_
  refine lv_bipush (v := 20) hx hb dX12_depthOf_14 (by decide) ?_
  refine lv_iload_n hx hb dX12_depthOf_16 rfl (lv_at hl 1 rfl) ?_
  refine lv_iadd hx hb dX12_depthOf_17 ?_
  refine mo_iald X w hm 0 (by decide) (by decide) (20 + j) (hs_addI rfl rfl) (by show _ < 1400; omega) dX12_depthOf_18 ?_
  refine hg_viF (r := (hs_depth (M 0) n (M 0 (14 + j)) (M 0 (20 + j)))) (As := [.int (M 0 (14 + j)), .int (M 0 (20 + j))]) (rest := []) X w (c_X12_depthAt l D b0 L f mo ma M hm n nr hv (M 0 (14 + j)) (M 0 (20 + j))) (cwV 2 hts gX12_depthOf_X12_depthAt rfl rfl rfl hdX12_depthAt ⟨Nat.le_of_ble_eq_true rfl, Nat.le_of_ble_eq_true rfl⟩) hm.1 (mo_at0 D f mo ma _) rfl rfl rfl hl.1 rfl (Nat.le_of_ble_eq_true rfl) dX12_depthOf_19 ⟨Nat.zero_le _, Nat.zero_le _⟩ (fun H locs w => ?_)
  exact hend H locs ((hs_depth (M 0) n (M 0 (14 + j)) (M 0 (20 + j)))) (L, mo_F D f mo ma M) _ ls w ⟨rfl, rfl⟩ rfl dX12_depthOf_22
theorem hdX12_depthOf : yX12_depthOf.cls = RX12 ∧ yX12_depthOf.cls ≠ "java/lang/invoke/MethodHandle" ∧ yX12_depthOf.cls ≠ "java/lang/invoke/VarHandle" ∧ (parseMethodDescriptor yX12_depthOf.desc).map (fun d => d.parameters.length) = some 1 := by decide +kernel
set_option maxRecDepth 100000 in
set_option maxHeartbeats 4000000 in
/-- priceOf -/
theorem c_X12_priceOf (l : Launch) (D : va_G) (b0 : Nat) (L : List Nat) (f : Nat → va_E) (mo : Nat) (ma : Nat → Nat) (M : Nat → Nat → Int32) (hm : mo_ok L mo ma) (n nr : Nat) (hv : hs_ok (M 0) n nr) (j : Nat) (hj : j < 6) : mo_Fi l yX12_priceOf wsX12_priceOf ({ frames := 5, cells := 0, slots := 0, locals := 116 }) D b0 L f mo ma M [.int (nI j)] (hs_price (M 0) n j) (M) := by
  refine hg_in_i (cc := cX12_priceOf) (nL := 3) (by decide) rfl (Nat.le_of_ble_eq_true rfl) (fun p e s m args below meth c R Q X hR hend H locs ls w hl => ?_)
  subst hR
  obtain ⟨hx, hb, hml, hown, hts⟩ := id X.1
  have hin : ∀ w ∈ wsX120, w ∈ wsX12_priceOf := fun w h => List.mem_cons_of_mem _ (List.mem_append_right _ h)
  have hl : lv_has ls 3 [(0, .ref mo), (1, .int (nI j))] := hl
  refine lv_aload_n hx hb dX12_priceOf_0 rfl (lv_at hl 0 rfl) ?_
  refine mo_get X w hm hin 0 (by decide) (List.mem_of_getElem? (i := 1) rfl) rfl dX12_priceOf_1 ?_
  refine lv_bipush (v := 26) hx hb dX12_priceOf_4 (by decide) ?_
  refine lv_iload_n hx hb dX12_priceOf_6 rfl (lv_at hl 1 rfl) ?_
  refine lv_iadd hx hb dX12_priceOf_7 ?_
  refine mo_iald X w hm 0 (by decide) (by decide) (26 + j) (hs_addI rfl rfl) (by show _ < 1400; omega) dX12_priceOf_8 ?_
  refine lv_aload_n hx hb dX12_priceOf_9 rfl (lv_at hl 0 rfl) ?_
  refine lv_iload_n hx hb dX12_priceOf_10 rfl (lv_at hl 1 rfl) ?_
  refine hg_viF (r := (hs_deep (M 0) n j)) (As := [.int (nI j)]) (rest := [.int (M 0 (26 + j))]) X w (c_X12_depthOf l D b0 L f mo ma M hm n nr hv j (by omega)) (cwV 1 hts gX12_priceOf_X12_depthOf rfl rfl rfl hdX12_depthOf ⟨Nat.le_of_ble_eq_true rfl, Nat.le_of_ble_eq_true rfl⟩) hm.1 (mo_at0 D f mo ma _) rfl rfl rfl hl.1 rfl (Nat.le_of_ble_eq_true rfl) dX12_priceOf_11 ⟨Nat.zero_le _, Nat.zero_le _⟩ (fun H locs w => ?_)
  refine lv_iconst (v := 5) hx hb dX12_priceOf_14 (by decide) ?_
  refine lv_idiv hx hb dX12_priceOf_15 (by decide) ?_
  refine lv_isub hx hb dX12_priceOf_16 ?_
  refine lv_istore_n (lv' := [(2, .int ((M 0 (26 + j) - ((hs_deep (M 0) n j) / 5)))), (0, .ref mo), (1, .int (nI j))]) hx hb dX12_priceOf_17 rfl hl (by decide) rfl (fun ls hl => ?_)
  refine lv_iload_n hx hb dX12_priceOf_18 rfl (lv_at hl 0 rfl) ?_
  refine lv_if_ge (tgt := 26) hx hb dX12_priceOf_19 (by decide) (fun c_19 => ?_) (fun c_19 => ?_)
  · refine lv_iload_n hx hb dX12_priceOf_26 rfl (lv_at hl 0 rfl) ?_
    exact hend H locs ((M 0 (26 + j) - ((hs_deep (M 0) n j) / 5))) (L, mo_F D f mo ma M) _ ls w ⟨(by (try simp only [lg_cmp_le, lg_cmp_ge, lg_cmp_lt, lg_cmp_gt, ← Int32.not_lt, ← Int64.not_lt, Classical.not_not] at c_19); first | (simp [hs_price, c_19]; done) | (simp [hs_price, c_19]; done) | (exfalso; clear hend; simp_all; done)), rfl⟩ rfl dX12_priceOf_27
  · refine lv_iconst (v := 0) hx hb dX12_priceOf_22 (by decide) ?_
    refine lv_goto (tgt := 27) hx hb dX12_priceOf_23 (by decide) ?_
    exact hend H locs (0) (L, mo_F D f mo ma M) _ ls w ⟨(by (try simp only [lg_cmp_le, lg_cmp_ge, lg_cmp_lt, lg_cmp_gt, ← Int32.not_lt, ← Int64.not_lt, Classical.not_not] at c_19); first | (simp [hs_price, c_19]; done) | (simp [hs_price, c_19]; done) | (exfalso; clear hend; simp_all; done)), rfl⟩ rfl dX12_priceOf_27
set_option maxRecDepth 100000 in
set_option maxHeartbeats 4000000 in
/-- dropping -/
theorem c_X12_dropping (l : Launch) (D : va_G) (b0 : Nat) (L : List Nat) (f : Nat → va_E) (mo : Nat) (ma : Nat → Nat) (M : Nat → Nat → Int32) (hm : mo_ok L mo ma) (n nr : Nat) (hv : hs_ok (M 0) n nr) : mo_Fi l yX12_dropping wsX12_dropping ({ frames := 5, cells := 0, slots := 0, locals := 116 }) D b0 L f mo ma M [] (hs_drop (M 0) n n) (M) := by
  refine hg_in_i (cc := cX12_dropping) (nL := 3) (by decide) rfl (Nat.le_of_ble_eq_true rfl) (fun p e s m args below meth c R Q X hR hend H locs ls w hl => ?_)
  subst hR
  obtain ⟨hx, hb, hml, hown, hts⟩ := id X.1
  have hin : ∀ w ∈ wsX120, w ∈ wsX12_dropping := fun w h => List.mem_cons_of_mem _ (List.mem_append_right _ h)
  have hl : lv_has ls 3 [(0, .ref mo)] := hl
  obtain ⟨hn, hn6, hnr, hnr3, htt⟩ := id hv
  refine lv_iconst (v := 0) hx hb dX12_dropping_0 (by decide) ?_
  refine lv_istore_n (lv' := [(1, .int (0)), (0, .ref mo)]) hx hb dX12_dropping_1 rfl hl (by decide) rfl (fun ls hl => ?_)
  refine lv_iconst (v := 0) hx hb dX12_dropping_2 (by decide) ?_
  refine lv_istore_n (lv' := [(2, .int (0)), (1, .int (0)), (0, .ref mo)]) hx hb dX12_dropping_3 rfl hl (by decide) rfl (fun ls hl => ?_)
  have loop : ∀ (n0 k : Nat), k ≤ n → n + 1 ≤ k + n0 → ∀ (H : Heap) (locs : List Loc) (ls : Array Slot), hg_W D b0 L (mo_F D f mo ma M) s.heap H locs → lv_has ls 3 [(0, .ref mo), (1, .int (hs_drop (M 0) n k)), (2, .int (nI k))] → W p l e ({ frames := 5, cells := 0, slots := 0, locals := 116 }) s m args below meth c H locs 0 0 Q (F0 m 4 ls []) := by
    intro n0
    induction n0 with
    | zero =>
      intro k h1 h2
      exact absurd h2 (by omega)
    | succ n0 ih =>
      intro k hk hn0 H locs ls w hl
      refine lv_iload_n hx hb dX12_dropping_4 rfl (lv_at hl 2 rfl) ?_
      refine lv_aload_n hx hb dX12_dropping_5 rfl (lv_at hl 0 rfl) ?_
      refine mo_get X w hm hin 0 (by decide) (List.mem_of_getElem? (i := 1) rfl) rfl dX12_dropping_6 ?_
      refine lv_iconst (v := 3) hx hb dX12_dropping_9 (by decide) ?_
      refine mo_iald X w hm 0 (by decide) (by decide) 3 rfl (by show _ < 1400; omega) dX12_dropping_10 ?_
      refine lv_icmp_ge (tgt := 44) hx hb dX12_dropping_11 (by decide) (fun c_11 => ?_) (fun c_11 => ?_)
      · rw [hn] at c_11
        have hk : n = k := by
          rcases Nat.lt_or_ge k n with q | q
          · exact absurd c_11 (nI_ge (a := k) (b := n) q (by omega))
          · omega
        subst hk
        refine lv_iload_n hx hb dX12_dropping_44 rfl (lv_at hl 1 rfl) ?_
        exact hend H locs (hs_drop (M 0) n n) (L, mo_F D f mo ma M) _ ls w ⟨rfl, rfl⟩ rfl dX12_dropping_45
      · rw [hn] at c_11
        have hkl : k < n := by
          rcases Nat.lt_or_ge k n with q | q
          · exact q
          · exact absurd (nI_le (a := n) (b := k) q (by omega)) c_11
        refine lv_iload_n hx hb dX12_dropping_14 rfl (lv_at hl 1 rfl) ?_
        refine lv_aload_n hx hb dX12_dropping_15 rfl (lv_at hl 0 rfl) ?_
        refine lv_iload_n hx hb dX12_dropping_16 rfl (lv_at hl 2 rfl) ?_
        refine hg_viF (r := (hs_deep (M 0) n k)) (As := [.int (nI k)]) (rest := [.int (hs_drop (M 0) n k)]) X w (c_X12_depthOf l D b0 L f mo ma M hm n nr hv k (by omega)) (cwV 1 hts gX12_dropping_X12_depthOf rfl rfl rfl hdX12_depthOf ⟨Nat.le_of_ble_eq_true rfl, Nat.le_of_ble_eq_true rfl⟩) hm.1 (mo_at0 D f mo ma _) rfl rfl rfl hl.1 rfl (Nat.le_of_ble_eq_true rfl) dX12_dropping_17 ⟨Nat.zero_le _, Nat.zero_le _⟩ (fun H locs w => ?_)
        refine lv_aload_n hx hb dX12_dropping_20 rfl (lv_at hl 0 rfl) ?_
        refine mo_get X w hm hin 0 (by decide) (List.mem_of_getElem? (i := 1) rfl) rfl dX12_dropping_21 ?_
        refine lv_iconst (v := 0) hx hb dX12_dropping_24 (by decide) ?_
        refine mo_iald X w hm 0 (by decide) (by decide) 0 rfl (by show _ < 1400; omega) dX12_dropping_25 ?_
        refine lv_icmp_le (tgt := 35) hx hb dX12_dropping_26 (by decide) (fun c_26 => ?_) (fun c_26 => ?_)
        · refine lv_iconst (v := 0) hx hb dX12_dropping_35 (by decide) ?_
          refine lv_ior hx hb dX12_dropping_36 ?_
          refine lv_istore_n (lv' := [(1, .int ((hs_drop (M 0) n k ||| 0))), (0, .ref mo), (2, .int (nI k))]) hx hb dX12_dropping_37 rfl hl (by decide) rfl (fun ls hl => ?_)
          refine lv_iinc (v := nI k + 1) (lv' := [(2, .int (nI k + 1)), (1, .int ((hs_drop (M 0) n k ||| 0))), (0, .ref mo)]) hx hb dX12_dropping_38 hl (k := 2) rfl rfl (by decide) rfl (fun ls hl => ?_)
          refine lv_goto (tgt := 4) hx hb dX12_dropping_41 (by decide) ?_
          have he1 : (hs_drop (M 0) n k ||| 0) = hs_drop (M 0) n (k + 1) := by (try simp only [← Int32.not_lt, Classical.not_not] at c_26); simp [hs_drop, c_26]
          have hl := hs_lv hl (k := 1) rfl he1
          have hl := hs_lv hl (k := 0) rfl (nI_1 k)
          exact ih (k + 1) (by omega) (by omega) H locs ls w (lv_sub hl [2, 1, 0] rfl)
        · refine lv_iconst (v := 1) hx hb dX12_dropping_29 (by decide) ?_
          refine lv_iload_n hx hb dX12_dropping_30 rfl (lv_at hl 2 rfl) ?_
          refine lv_ishl hx hb dX12_dropping_31 ?_
          refine lv_goto (tgt := 36) hx hb dX12_dropping_32 (by decide) ?_
          refine lv_ior hx hb dX12_dropping_36 ?_
          refine lv_istore_n (lv' := [(1, .int ((hs_drop (M 0) n k ||| (1 <<< (nI k &&& 31))))), (0, .ref mo), (2, .int (nI k))]) hx hb dX12_dropping_37 rfl hl (by decide) rfl (fun ls hl => ?_)
          refine lv_iinc (v := nI k + 1) (lv' := [(2, .int (nI k + 1)), (1, .int ((hs_drop (M 0) n k ||| (1 <<< (nI k &&& 31))))), (0, .ref mo)]) hx hb dX12_dropping_38 hl (k := 2) rfl rfl (by decide) rfl (fun ls hl => ?_)
          refine lv_goto (tgt := 4) hx hb dX12_dropping_41 (by decide) ?_
          have he1 : (hs_drop (M 0) n k ||| (1 <<< (nI k &&& 31))) = hs_drop (M 0) n (k + 1) := by (try simp only [← Int32.not_lt, Classical.not_not] at c_26); simp [hs_drop, c_26]
          have hl := hs_lv hl (k := 1) rfl he1
          have hl := hs_lv hl (k := 0) rfl (nI_1 k)
          exact ih (k + 1) (by omega) (by omega) H locs ls w (lv_sub hl [2, 1, 0] rfl)
  exact loop (n + 1) 0 (by omega) (by omega) H locs ls w (lv_sub hl [2, 1, 0] rfl)
set_option maxRecDepth 100000 in
set_option maxHeartbeats 4000000 in
/-- walk -/
theorem c_X12_walk (l : Launch) (D : va_G) (b0 : Nat) (L : List Nat) (f : Nat → va_E) (mo : Nat) (ma : Nat → Nat) (M : Nat → Nat → Int32) (hm : mo_ok L mo ma) (n nr : Nat) (hv : hs_ok (M 0) n nr) (a b : Nat) (ha : a < 6) (hb6 : b < 6) : mo_Fi l yX12_walk wsX12_walk ({ frames := 5, cells := 0, slots := 0, locals := 116 }) D b0 L f mo ma M [.int (nI a), .int (nI b)] (hs_walk (M 0) n a b) (M) := by
  refine hg_in_i (cc := cX12_walk) (nL := 5) (by decide) rfl (Nat.le_of_ble_eq_true rfl) (fun p e s m args below meth c R Q X hR hend H locs ls w hl => ?_)
  subst hR
  obtain ⟨hx, hb, hml, hown, hts⟩ := id X.1
  have hin : ∀ w ∈ wsX120, w ∈ wsX12_walk := fun w h => List.mem_cons_of_mem _ (List.mem_append_right _ h)
  have hl : lv_has ls 5 [(0, .ref mo), (1, .int (nI a)), (2, .int (nI b))] := hl
  refine lv_aload_n hx hb dX12_walk_0 rfl (lv_at hl 0 rfl) ?_
  refine mo_get X w hm hin 0 (by decide) (List.mem_of_getElem? (i := 1) rfl) rfl dX12_walk_1 ?_
  refine lv_bipush (v := 14) hx hb dX12_walk_4 (by decide) ?_
  refine lv_iload_n hx hb dX12_walk_6 rfl (lv_at hl 1 rfl) ?_
  refine lv_iadd hx hb dX12_walk_7 ?_
  refine mo_iald X w hm 0 (by decide) (by decide) (14 + a) (hs_addI rfl rfl) (by show _ < 1400; omega) dX12_walk_8 ?_
  refine lv_aload_n hx hb dX12_walk_9 rfl (lv_at hl 0 rfl) ?_
  refine mo_get X w hm hin 0 (by decide) (List.mem_of_getElem? (i := 1) rfl) rfl dX12_walk_10 ?_
  refine lv_bipush (v := 14) hx hb dX12_walk_13 (by decide) ?_
  refine lv_iload_n hx hb dX12_walk_15 rfl (lv_at hl 2 rfl) ?_
  refine lv_iadd hx hb dX12_walk_16 ?_
  refine mo_iald X w hm 0 (by decide) (by decide) (14 + b) (hs_addI rfl rfl) (by show _ < 1400; omega) dX12_walk_17 ?_
  refine lv_isub hx hb dX12_walk_18 ?_
  refine lv_istore_n (lv' := [(3, .int ((M 0 (14 + a) - M 0 (14 + b)))), (0, .ref mo), (1, .int (nI a)), (2, .int (nI b))]) hx hb dX12_walk_19 rfl hl (by decide) rfl (fun ls hl => ?_)
  refine lv_iload_n hx hb dX12_walk_20 rfl (lv_at hl 0 rfl) ?_
  refine lv_iload_n hx hb dX12_walk_21 rfl (lv_at hl 0 rfl) ?_
  refine lv_imul hx hb dX12_walk_22 ?_
  refine lv_iconst (v := 1) hx hb dX12_walk_23 (by decide) ?_
  refine lv_icmp_ne (tgt := 48) hx hb dX12_walk_24 (by decide) (fun c_24 => ?_) (fun c_24 => ?_)
  · refine lv_iconst (v := 0) hx hb dX12_walk_48 (by decide) ?_
    exact hend H locs (0) (L, mo_F D f mo ma M) _ ls w ⟨(by (try simp only [← Int32.not_lt] at c_24); simp [hs_walk, c_24]), rfl⟩ rfl dX12_walk_49
  · refine lv_aload_n hx hb dX12_walk_27 rfl (lv_at hl 1 rfl) ?_
    refine mo_get X w hm hin 0 (by decide) (List.mem_of_getElem? (i := 1) rfl) rfl dX12_walk_28 ?_
    refine lv_bipush (v := 20) hx hb dX12_walk_31 (by decide) ?_
    refine lv_iload_n hx hb dX12_walk_33 rfl (lv_at hl 2 rfl) ?_
    refine lv_iadd hx hb dX12_walk_34 ?_
    refine mo_iald X w hm 0 (by decide) (by decide) (20 + a) (hs_addI rfl rfl) (by show _ < 1400; omega) dX12_walk_35 ?_
    refine lv_aload_n hx hb dX12_walk_36 rfl (lv_at hl 1 rfl) ?_
    refine mo_get X w hm hin 0 (by decide) (List.mem_of_getElem? (i := 1) rfl) rfl dX12_walk_37 ?_
    refine lv_bipush (v := 20) hx hb dX12_walk_40 (by decide) ?_
    refine lv_iload_n hx hb dX12_walk_42 rfl (lv_at hl 3 rfl) ?_
    refine lv_iadd hx hb dX12_walk_43 ?_
    refine mo_iald X w hm 0 (by decide) (by decide) (20 + b) (hs_addI rfl rfl) (by show _ < 1400; omega) dX12_walk_44 ?_
    refine lv_icmp_eq (tgt := 50) hx hb dX12_walk_45 (by decide) (fun c_45 => ?_) (fun c_45 => ?_)
    · refine lv_aload_n hx hb dX12_walk_50 rfl (lv_at hl 1 rfl) ?_
      refine lv_iload_n hx hb dX12_walk_51 rfl (lv_at hl 2 rfl) ?_
      refine hg_viF (r := (hs_deep (M 0) n a)) (As := [.int (nI a)]) (rest := []) X w (c_X12_depthOf l D b0 L f mo ma M hm n nr hv a (by omega)) (cwV 1 hts gX12_walk_X12_depthOf rfl rfl rfl hdX12_depthOf ⟨Nat.le_of_ble_eq_true rfl, Nat.le_of_ble_eq_true rfl⟩) hm.1 (mo_at0 D f mo ma _) rfl rfl rfl hl.1 rfl (Nat.le_of_ble_eq_true rfl) dX12_walk_52 ⟨Nat.zero_le _, Nat.zero_le _⟩ (fun H locs w => ?_)
      refine lv_aload_n hx hb dX12_walk_55 rfl (lv_at hl 1 rfl) ?_
      refine lv_iload_n hx hb dX12_walk_56 rfl (lv_at hl 3 rfl) ?_
      refine hg_viF (r := (hs_deep (M 0) n b)) (As := [.int (nI b)]) (rest := [.int ((hs_deep (M 0) n a))]) X w (c_X12_depthOf l D b0 L f mo ma M hm n nr hv b (by omega)) (cwV 1 hts gX12_walk_X12_depthOf rfl rfl rfl hdX12_depthOf ⟨Nat.le_of_ble_eq_true rfl, Nat.le_of_ble_eq_true rfl⟩) hm.1 (mo_at0 D f mo ma _) rfl rfl rfl hl.1 rfl (Nat.le_of_ble_eq_true rfl) dX12_walk_57 ⟨Nat.zero_le _, Nat.zero_le _⟩ (fun H locs w => ?_)
      refine lv_isub hx hb dX12_walk_60 ?_
      refine lv_istore (lv' := [(4, .int (((hs_deep (M 0) n a) - (hs_deep (M 0) n b)))), (3, .int ((M 0 (14 + a) - M 0 (14 + b)))), (0, .ref mo), (1, .int (nI a)), (2, .int (nI b))]) hx hb dX12_walk_61 hl (by decide) rfl (fun ls hl => ?_)
      refine lv_iload hx hb dX12_walk_63 (lv_at hl 0 rfl) ?_
      refine lv_iconst (v := (-1)) hx hb dX12_walk_65 (by decide) ?_
      refine lv_icmp_lt (tgt := 79) hx hb dX12_walk_66 (by decide) (fun c_66 => ?_) (fun c_66 => ?_)
      · refine lv_iconst (v := 1) hx hb dX12_walk_79 (by decide) ?_
        exact hend H locs (1) (L, mo_F D f mo ma M) _ ls w ⟨(by unfold hs_walk; rw [if_pos ⟨by simpa using c_24, c_45⟩]; rw [if_neg (fun q => absurd c_66 (Int32.not_lt.mpr q.1))]), rfl⟩ rfl dX12_walk_80
      · refine lv_iload hx hb dX12_walk_69 (lv_at hl 0 rfl) ?_
        refine lv_iconst (v := 1) hx hb dX12_walk_71 (by decide) ?_
        refine lv_icmp_gt (tgt := 79) hx hb dX12_walk_72 (by decide) (fun c_72 => ?_) (fun c_72 => ?_)
        · refine lv_iconst (v := 1) hx hb dX12_walk_79 (by decide) ?_
          exact hend H locs (1) (L, mo_F D f mo ma M) _ ls w ⟨(by unfold hs_walk; rw [if_pos ⟨by simpa using c_24, c_45⟩]; rw [if_neg (fun q => absurd c_72 (Int32.not_lt.mpr q.2))]), rfl⟩ rfl dX12_walk_80
        · refine lv_iconst (v := 2) hx hb dX12_walk_75 (by decide) ?_
          refine lv_goto (tgt := 80) hx hb dX12_walk_76 (by decide) ?_
          exact hend H locs (2) (L, mo_F D f mo ma M) _ ls w ⟨(by unfold hs_walk; rw [if_pos ⟨by simpa using c_24, c_45⟩]; rw [if_pos ⟨Int32.not_lt.mp c_66, Int32.not_lt.mp c_72⟩]), rfl⟩ rfl dX12_walk_80
    · refine lv_iconst (v := 0) hx hb dX12_walk_48 (by decide) ?_
      exact hend H locs (0) (L, mo_F D f mo ma M) _ ls w ⟨(by (try simp only [← Int32.not_lt] at c_24 c_45); simp [hs_walk, c_24, c_45]), rfl⟩ rfl dX12_walk_49
theorem hdX12_walk : yX12_walk.cls = RX12 ∧ yX12_walk.cls ≠ "java/lang/invoke/MethodHandle" ∧ yX12_walk.cls ≠ "java/lang/invoke/VarHandle" ∧ (parseMethodDescriptor yX12_walk.desc).map (fun d => d.parameters.length) = some 2 := by decide +kernel
set_option maxRecDepth 100000 in
set_option maxHeartbeats 4000000 in
/-- walks -/
theorem c_X12_walks (l : Launch) (D : va_G) (b0 : Nat) (L : List Nat) (f : Nat → va_E) (mo : Nat) (ma : Nat → Nat) (M : Nat → Nat → Int32) (hm : mo_ok L mo ma) (n nr : Nat) (hv : hs_ok (M 0) n nr) (least : Int32) : mo_Fi l yX12_walks wsX12_walks ({ frames := 6, cells := 0, slots := 0, locals := 140 }) D b0 L f mo ma M [.int (least)] (hs_wks (M 0) n least n) (M) := by
  refine hg_in_i (cc := cX12_walks) (nL := 5) (by decide) rfl (Nat.le_of_ble_eq_true rfl) (fun p e s m args below meth c R Q X hR hend H locs ls w hl => ?_)
  subst hR
  obtain ⟨hx, hb, hml, hown, hts⟩ := id X.1
  have hin : ∀ w ∈ wsX120, w ∈ wsX12_walks := fun w h => List.mem_cons_of_mem _ (List.mem_append_right _ h)
  have hl : lv_has ls 5 [(0, .ref mo), (1, .int (least))] := hl
  obtain ⟨hn, hn6, hnr, hnr3, htt⟩ := id hv
  refine lv_iconst (v := 0) hx hb dX12_walks_0 (by decide) ?_
  refine lv_istore_n (lv' := [(2, .int (0)), (0, .ref mo), (1, .int (least))]) hx hb dX12_walks_1 rfl hl (by decide) rfl (fun ls hl => ?_)
  refine lv_iconst (v := 0) hx hb dX12_walks_2 (by decide) ?_
  refine lv_istore_n (lv' := [(3, .int (0)), (2, .int (0)), (0, .ref mo), (1, .int (least))]) hx hb dX12_walks_3 rfl hl (by decide) rfl (fun ls hl => ?_)
  have loop : ∀ (n0 k : Nat), k ≤ n → n + 1 ≤ k + n0 → ∀ (H : Heap) (locs : List Loc) (ls : Array Slot), hg_W D b0 L (mo_F D f mo ma M) s.heap H locs → lv_has ls 5 [(0, .ref mo), (1, .int (least)), (2, .int (hs_wks (M 0) n least k)), (3, .int (nI k))] → W p l e ({ frames := 6, cells := 0, slots := 0, locals := 140 }) s m args below meth c H locs 0 0 Q (F0 m 4 ls []) := by
    intro n0
    induction n0 with
    | zero =>
      intro k h1 h2
      exact absurd h2 (by omega)
    | succ n0 ih =>
      intro k hk hn0 H locs ls w hl
      refine lv_iload_n hx hb dX12_walks_4 rfl (lv_at hl 3 rfl) ?_
      refine lv_aload_n hx hb dX12_walks_5 rfl (lv_at hl 0 rfl) ?_
      refine mo_get X w hm hin 0 (by decide) (List.mem_of_getElem? (i := 1) rfl) rfl dX12_walks_6 ?_
      refine lv_iconst (v := 3) hx hb dX12_walks_9 (by decide) ?_
      refine mo_iald X w hm 0 (by decide) (by decide) 3 rfl (by show _ < 1400; omega) dX12_walks_10 ?_
      refine lv_icmp_ge (tgt := 54) hx hb dX12_walks_11 (by decide) (fun c_11 => ?_) (fun c_11 => ?_)
      · rw [hn] at c_11
        have hk : n = k := by
          rcases Nat.lt_or_ge k n with q | q
          · exact absurd c_11 (nI_ge (a := k) (b := n) q (by omega))
          · omega
        subst hk
        refine lv_iload_n hx hb dX12_walks_54 rfl (lv_at hl 2 rfl) ?_
        exact hend H locs (hs_wks (M 0) n least n) (L, mo_F D f mo ma M) _ ls w ⟨rfl, rfl⟩ rfl dX12_walks_55
      · rw [hn] at c_11
        have hkl : k < n := by
          rcases Nat.lt_or_ge k n with q | q
          · exact q
          · exact absurd (nI_le (a := n) (b := k) q (by omega)) c_11
        refine lv_iconst (v := 0) hx hb dX12_walks_14 (by decide) ?_
        refine lv_istore (lv' := [(4, .int (0)), (0, .ref mo), (1, .int (least)), (2, .int (hs_wks (M 0) n least k)), (3, .int (nI k))]) hx hb dX12_walks_15 hl (by decide) rfl (fun ls hl => ?_)
        have loop2 : ∀ (n0 k2 : Nat), k2 ≤ k → k + 1 ≤ k2 + n0 → ∀ (H : Heap) (locs : List Loc) (ls : Array Slot), hg_W D b0 L (mo_F D f mo ma M) s.heap H locs → lv_has ls 5 [(0, .ref mo), (1, .int (least)), (2, .int (hs_wks1 (M 0) n least k (hs_wks (M 0) n least k) k2)), (3, .int (nI k)), (4, .int (nI k2))] → W p l e ({ frames := 6, cells := 0, slots := 0, locals := 140 }) s m args below meth c H locs 0 0 Q (F0 m 17 ls []) := by
          intro n0
          induction n0 with
          | zero =>
            intro k2 h1 h2
            exact absurd h2 (by omega)
          | succ n0 ih2 =>
            intro k2 hk hn0 H locs ls w hl
            refine lv_iload hx hb dX12_walks_17 (lv_at hl 4 rfl) ?_
            refine lv_iload_n hx hb dX12_walks_19 rfl (lv_at hl 3 rfl) ?_
            refine lv_icmp_ge (tgt := 48) hx hb dX12_walks_20 (by decide) (fun c_20 => ?_) (fun c_20 => ?_)
            · have hk2 : k = k2 := by
                rcases Nat.lt_or_ge k2 k with q | q
                · exact absurd c_20 (nI_ge (a := k2) (b := k) q (by omega))
                · omega
              subst hk2
              refine lv_iinc (v := nI k + 1) (lv' := [(3, .int (nI k + 1)), (0, .ref mo), (1, .int (least)), (2, .int (hs_wks1 (M 0) n least k (hs_wks (M 0) n least k) k)), (4, .int (nI k))]) hx hb dX12_walks_48 hl (k := 3) rfl rfl (by decide) rfl (fun ls hl => ?_)
              refine lv_goto (tgt := 4) hx hb dX12_walks_51 (by decide) ?_
              have he2 : (hs_wks1 (M 0) n least k (hs_wks (M 0) n least k) k) = hs_wks (M 0) n least (k + 1) := by rfl
              have hl := hs_lv hl (k := 3) rfl he2
              have hl := hs_lv hl (k := 0) rfl (nI_1 k)
              exact ih (k + 1) (by omega) (by omega) H locs ls w (lv_sub hl [1, 2, 3, 0] rfl)
            · have hk2l : k2 < k := by
                rcases Nat.lt_or_ge k2 k with q | q
                · exact q
                · exact absurd (nI_le (a := k) (b := k2) q (by omega)) c_20
              refine lv_iload_n hx hb dX12_walks_23 rfl (lv_at hl 2 rfl) ?_
              refine lv_aload_n hx hb dX12_walks_24 rfl (lv_at hl 0 rfl) ?_
              refine lv_iload_n hx hb dX12_walks_25 rfl (lv_at hl 3 rfl) ?_
              refine lv_iload hx hb dX12_walks_26 (lv_at hl 4 rfl) ?_
              refine hg_viF (r := (hs_walk (M 0) n k k2)) (As := [.int (nI k), .int (nI k2)]) (rest := [.int (hs_wks1 (M 0) n least k (hs_wks (M 0) n least k) k2)]) X w (c_X12_walk l D b0 L f mo ma M hm n nr hv k k2 (by omega) (by omega)) (cwV 2 hts gX12_walks_X12_walk rfl rfl rfl hdX12_walk ⟨Nat.le_of_ble_eq_true rfl, Nat.le_of_ble_eq_true rfl⟩) hm.1 (mo_at0 D f mo ma _) rfl rfl rfl hl.1 rfl (Nat.le_of_ble_eq_true rfl) dX12_walks_28 ⟨Nat.zero_le _, Nat.zero_le _⟩ (fun H locs w => ?_)
              refine lv_iload_n hx hb dX12_walks_31 rfl (lv_at hl 1 rfl) ?_
              refine lv_icmp_lt (tgt := 39) hx hb dX12_walks_32 (by decide) (fun c_32 => ?_) (fun c_32 => ?_)
              · refine lv_iconst (v := 0) hx hb dX12_walks_39 (by decide) ?_
                refine lv_iadd hx hb dX12_walks_40 ?_
                refine lv_istore_n (lv' := [(2, .int ((hs_wks1 (M 0) n least k (hs_wks (M 0) n least k) k2 + 0))), (0, .ref mo), (1, .int (least)), (3, .int (nI k)), (4, .int (nI k2))]) hx hb dX12_walks_41 rfl hl (by decide) rfl (fun ls hl => ?_)
                refine lv_iinc (v := nI k2 + 1) (lv' := [(4, .int (nI k2 + 1)), (2, .int ((hs_wks1 (M 0) n least k (hs_wks (M 0) n least k) k2 + 0))), (0, .ref mo), (1, .int (least)), (3, .int (nI k))]) hx hb dX12_walks_42 hl (k := 4) rfl rfl (by decide) rfl (fun ls hl => ?_)
                refine lv_goto (tgt := 17) hx hb dX12_walks_45 (by decide) ?_
                have he2 : (hs_wks1 (M 0) n least k (hs_wks (M 0) n least k) k2 + 0) = hs_wks1 (M 0) n least k (hs_wks (M 0) n least k) (k2 + 1) := by simp [hs_wks1, c_20, c_32]
                have hl := hs_lv hl (k := 1) rfl he2
                have hl := hs_lv hl (k := 0) rfl (nI_1 k2)
                exact ih2 (k2 + 1) (by omega) (by omega) H locs ls w (lv_sub hl [2, 3, 1, 4, 0] rfl)
              · refine lv_iconst (v := 1) hx hb dX12_walks_35 (by decide) ?_
                refine lv_goto (tgt := 40) hx hb dX12_walks_36 (by decide) ?_
                refine lv_iadd hx hb dX12_walks_40 ?_
                refine lv_istore_n (lv' := [(2, .int ((hs_wks1 (M 0) n least k (hs_wks (M 0) n least k) k2 + 1))), (0, .ref mo), (1, .int (least)), (3, .int (nI k)), (4, .int (nI k2))]) hx hb dX12_walks_41 rfl hl (by decide) rfl (fun ls hl => ?_)
                refine lv_iinc (v := nI k2 + 1) (lv' := [(4, .int (nI k2 + 1)), (2, .int ((hs_wks1 (M 0) n least k (hs_wks (M 0) n least k) k2 + 1))), (0, .ref mo), (1, .int (least)), (3, .int (nI k))]) hx hb dX12_walks_42 hl (k := 4) rfl rfl (by decide) rfl (fun ls hl => ?_)
                refine lv_goto (tgt := 17) hx hb dX12_walks_45 (by decide) ?_
                have he2 : (hs_wks1 (M 0) n least k (hs_wks (M 0) n least k) k2 + 1) = hs_wks1 (M 0) n least k (hs_wks (M 0) n least k) (k2 + 1) := by simp [hs_wks1, c_20, c_32]
                have hl := hs_lv hl (k := 1) rfl he2
                have hl := hs_lv hl (k := 0) rfl (nI_1 k2)
                exact ih2 (k2 + 1) (by omega) (by omega) H locs ls w (lv_sub hl [2, 3, 1, 4, 0] rfl)
        exact loop2 (k + 1) 0 (by omega) (by omega) H locs ls w (lv_sub hl [1, 2, 3, 4, 0] rfl)
  exact loop (n + 1) 0 (by omega) (by omega) H locs ls w (lv_sub hl [2, 3, 1, 0] rfl)
