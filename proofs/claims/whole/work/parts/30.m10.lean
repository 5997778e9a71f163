set_option maxRecDepth 100000 in
set_option maxHeartbeats 4000000 in
/-- minds -/
theorem c_X12_minds (l : Launch) (D : va_G) (b0 : Nat) (L : List Nat) (f : Nat → va_E) (mo : Nat) (ma : Nat → Nat) (M : Nat → Nat → Int32) (hm : mo_ok L mo ma) (a : Nat) (ha : M 1 0 = nI a) (ha24 : a ≤ 24) : mo_Fv l yX12_minds wsX12_minds ({ frames := 0, cells := 0, slots := 0, locals := 0 }) D b0 L f mo ma M [] (sp_minds M a) := by
  refine hg_in_v (cc := cX12_minds) (nL := 2) (by decide) rfl (Nat.le_of_ble_eq_true rfl) (fun p e s m args below meth c R Q X _ hR hend H locs ls w hl => ?_)
  subst hR
  obtain ⟨hx, hb, hml, hown, hts⟩ := id X.1
  have hin : ∀ w ∈ wsX120, w ∈ wsX12_minds := fun w h => List.mem_cons_of_mem _ (List.mem_append_right _ h)
  have hl : lv_has ls 2 [(0, .ref mo)] := hl
  refine lv_aload_n hx hb dX12_minds_0 rfl (lv_at hl 0 rfl) ?_
  refine mo_get X w hm hin 1 (by decide) (List.mem_of_getElem? (i := 1) rfl) rfl dX12_minds_1 ?_
  refine lv_bipush (v := 24) hx hb dX12_minds_4 (by decide) ?_
  refine lv_icmp_ne (tgt := 57) hx hb dX12_minds_6 (by decide) (fun c_6 => ?_) (fun c_6 => ?_)
  · refine lv_iconst (v := 0) hx hb dX12_minds_57 (by decide) ?_
    refine lv_istore_n (lv' := [(1, .int (0)), (0, .ref mo)]) hx hb dX12_minds_58 rfl hl (by decide) rfl (fun ls hl => ?_)
    have hne : a ≠ 24 := fun q => c_6 (by rw [ha, q]; rfl)
    have hA1 : M 1 0 = nI a := ha
    have cp2 : ∀ (n0 k : Nat), k ≤ 50 → 50 + 1 ≤ k + n0 → ∀ (H : Heap) (locs : List Loc) (ls : Array Slot), hg_W D b0 L (mo_F D f mo ma (va_up M 0 (hs_blk (M 0) (200 + 50 * a) (0) k))) s.heap H locs → lv_has ls 2 [(0, .ref mo), (1, .int (nI k))] → W p l e ({ frames := 0, cells := 0, slots := 0, locals := 0 }) s m args below meth c H locs 0 0 Q (F0 m 59 ls []) := by
      intro n0
      induction n0 with
      | zero =>
        intro k h1 h2
        exact absurd h2 (by omega)
      | succ n0 ihcp2 =>
        intro k hk hn0 H locs ls w hl
        refine lv_iload_n hx hb dX12_minds_59 rfl (lv_at hl 1 rfl) ?_
        refine lv_bipush (v := 50) hx hb dX12_minds_60 (by decide) ?_
        refine lv_icmp_ge (tgt := 95) hx hb dX12_minds_62 (by decide) (fun c_62 => ?_) (fun c_62 => ?_)
        · have hk : 50 = k := by
            rcases Nat.lt_or_ge k 50 with q | q
            · exact absurd c_62 (nI_ge (a := k) (b := 50) q (by omega))
            · omega
          subst hk
          refine lv_aload_n hx hb dX12_minds_95 rfl (lv_at hl 0 rfl) ?_
          refine lv_dup hx hb dX12_minds_96 rfl ?_
          refine mo_get X w hm hin 1 (by decide) (List.mem_of_getElem? (i := 1) rfl) rfl dX12_minds_97 ?_
          refine lv_iconst (v := 1) hx hb dX12_minds_100 (by decide) ?_
          refine lv_iadd hx hb dX12_minds_101 ?_
          refine mo_put X w hm hin 1 (by decide) (List.mem_of_getElem? (i := 1) rfl) dX12_minds_102 (fun H locs w => ?_)
          exact hend H locs (L, mo_F D f mo ma (mo_w (va_up M 0 (hs_blk (M 0) (200 + 50 * a) (0) 50)) 1 0 (((va_up M 0 (hs_blk (M 0) (200 + 50 * a) (0) 50)) 1 0 + 1)))) _ ls w (congrArg (fun z => (L, mo_F D f mo ma z)) (by simp only [sp_minds, hs_push, hs_pa, if_neg hne]; rw [show va_up M 0 (hs_blk (M 0) (200 + 50 * a) (0) 50) 1 0 + 1 = nI (a + 1) from (by show M 1 0 + 1 = _; rw [ha, nI_1])])) dX12_minds_105
        · have hkl : k < 50 := by
            rcases Nat.lt_or_ge k 50 with q | q
            · exact q
            · exact absurd (nI_le (a := 50) (b := k) q (by omega)) c_62
          refine lv_aload_n hx hb dX12_minds_65 rfl (lv_at hl 0 rfl) ?_
          refine mo_get X w hm hin 0 (by decide) (List.mem_of_getElem? (i := 2) rfl) rfl dX12_minds_66 ?_
          refine lv_sipush (v := 200) hx hb dX12_minds_69 (by decide) ?_
          refine lv_bipush (v := 50) hx hb dX12_minds_72 (by decide) ?_
          refine lv_aload_n hx hb dX12_minds_74 rfl (lv_at hl 0 rfl) ?_
          refine mo_get X w hm hin 1 (by decide) (List.mem_of_getElem? (i := 1) rfl) rfl dX12_minds_75 ?_
          refine lv_imul hx hb dX12_minds_78 ?_
          refine lv_iadd hx hb dX12_minds_79 ?_
          refine lv_iload_n hx hb dX12_minds_80 rfl (lv_at hl 1 rfl) ?_
          refine lv_iadd hx hb dX12_minds_81 ?_
          refine lv_aload_n hx hb dX12_minds_82 rfl (lv_at hl 0 rfl) ?_
          refine mo_get X w hm hin 0 (by decide) (List.mem_of_getElem? (i := 2) rfl) rfl dX12_minds_83 ?_
          refine lv_iload_n hx hb dX12_minds_86 rfl (lv_at hl 1 rfl) ?_
          refine mo_iald X w hm 0 (by decide) (by decide) (0 + k) (by rw [Nat.zero_add]) (by show _ < 1400; omega) dX12_minds_87 ?_
          refine mo_iast X w hm 0 (by decide) (by decide) (200 + 50 * a + k) (hs_addI (hs_addI rfl (hs_mulI rfl hA1)) rfl) (by show _ < 1400; omega) dX12_minds_88 (fun H locs w => ?_)
          refine lv_iinc (v := nI k + 1) (lv' := [(1, .int (nI k + 1)), (0, .ref mo)]) hx hb dX12_minds_89 hl (k := 1) rfl rfl (by decide) rfl (fun ls hl => ?_)
          refine lv_goto (tgt := 59) hx hb dX12_minds_92 (by decide) ?_
          have hl := hs_lv hl (k := 0) rfl (nI_1 k)
          exact ihcp2 (k + 1) (by omega) (by omega) H locs ls (by rw [hs_up_up, show va_up (hs_blk (M 0) (200 + 50 * a) (0) k) ((200 + 50 * a) + k) (va_up M 0 (hs_blk (M 0) (200 + 50 * a) (0) k) 0 ((0) + k)) = hs_blk (M 0) (200 + 50 * a) (0) (k + 1) from hs_blk_s _ (by omega)] at w; exact w) (lv_sub hl [1, 0] rfl)
    exact cp2 (50 + 1) 0 (by omega) (by omega) H locs ls (by rw [hs_blk_0, hs_up_id]; exact w) (lv_sub hl [1, 0] rfl)
  · refine lv_iconst (v := 0) hx hb dX12_minds_9 (by decide) ?_
    refine lv_istore_n (lv' := [(1, .int (0)), (0, .ref mo)]) hx hb dX12_minds_10 rfl hl (by decide) rfl (fun ls hl => ?_)
    have cp1 : ∀ (n0 k : Nat), k ≤ 1150 → 1150 + 1 ≤ k + n0 → ∀ (H : Heap) (locs : List Loc) (ls : Array Slot), hg_W D b0 L (mo_F D f mo ma (va_up M 0 (hs_blk (M 0) (200) (250) k))) s.heap H locs → lv_has ls 2 [(0, .ref mo), (1, .int (nI k))] → W p l e ({ frames := 0, cells := 0, slots := 0, locals := 0 }) s m args below meth c H locs 0 0 Q (F0 m 11 ls []) := by
      intro n0
      induction n0 with
      | zero =>
        intro k h1 h2
        exact absurd h2 (by omega)
      | succ n0 ihcp1 =>
        intro k hk hn0 H locs ls w hl
        refine lv_iload_n hx hb dX12_minds_11 rfl (lv_at hl 1 rfl) ?_
        refine lv_sipush (v := 1150) hx hb dX12_minds_12 (by decide) ?_
        refine lv_icmp_ge (tgt := 47) hx hb dX12_minds_15 (by decide) (fun c_15 => ?_) (fun c_15 => ?_)
        · have hk : 1150 = k := by
            rcases Nat.lt_or_ge k 1150 with q | q
            · exact absurd c_15 (nI_ge (a := k) (b := 1150) q (by omega))
            · omega
          subst hk
          refine lv_aload_n hx hb dX12_minds_47 rfl (lv_at hl 0 rfl) ?_
          refine lv_dup hx hb dX12_minds_48 rfl ?_
          refine mo_get X w hm hin 1 (by decide) (List.mem_of_getElem? (i := 1) rfl) rfl dX12_minds_49 ?_
          refine lv_iconst (v := 1) hx hb dX12_minds_52 (by decide) ?_
          refine lv_isub hx hb dX12_minds_53 ?_
          refine mo_put X w hm hin 1 (by decide) (List.mem_of_getElem? (i := 1) rfl) dX12_minds_54 (fun H locs w => ?_)
          refine lv_iconst (v := 0) hx hb dX12_minds_57 (by decide) ?_
          refine lv_istore_n (lv' := [(1, .int (0)), (0, .ref mo)]) hx hb dX12_minds_58 rfl hl (by decide) rfl (fun ls hl => ?_)
          have w : hg_W D b0 L (mo_F D f mo ma (mo_w (va_up M 0 (hs_blk (M 0) 200 250 1150)) 1 0 (nI 23))) s.heap H locs := by rw [show (va_up M 0 (hs_blk (M 0) (200) (250) 1150)) 1 0 - 1 = nI 23 from (by show M 1 0 - 1 = _; rw [c_6]; decide)] at w; exact w
          have hA1 : (mo_w (va_up M 0 (hs_blk (M 0) 200 250 1150)) 1 0 (nI 23)) 1 0 = nI 23 := rfl
          have cp2 : ∀ (n0 k : Nat), k ≤ 50 → 50 + 1 ≤ k + n0 → ∀ (H : Heap) (locs : List Loc) (ls : Array Slot), hg_W D b0 L (mo_F D f mo ma (va_up (mo_w (va_up M 0 (hs_blk (M 0) 200 250 1150)) 1 0 (nI 23)) 0 (hs_blk ((mo_w (va_up M 0 (hs_blk (M 0) 200 250 1150)) 1 0 (nI 23)) 0) (200 + 50 * 23) (0) k))) s.heap H locs → lv_has ls 2 [(0, .ref mo), (1, .int (nI k))] → W p l e ({ frames := 0, cells := 0, slots := 0, locals := 0 }) s m args below meth c H locs 0 0 Q (F0 m 59 ls []) := by
            intro n0
            induction n0 with
            | zero =>
              intro k h1 h2
              exact absurd h2 (by omega)
            | succ n0 ihcp2 =>
              intro k hk hn0 H locs ls w hl
              refine lv_iload_n hx hb dX12_minds_59 rfl (lv_at hl 1 rfl) ?_
              refine lv_bipush (v := 50) hx hb dX12_minds_60 (by decide) ?_
              refine lv_icmp_ge (tgt := 95) hx hb dX12_minds_62 (by decide) (fun c_62 => ?_) (fun c_62 => ?_)
              · have hk : 50 = k := by
                  rcases Nat.lt_or_ge k 50 with q | q
                  · exact absurd c_62 (nI_ge (a := k) (b := 50) q (by omega))
                  · omega
                subst hk
                refine lv_aload_n hx hb dX12_minds_95 rfl (lv_at hl 0 rfl) ?_
                refine lv_dup hx hb dX12_minds_96 rfl ?_
                refine mo_get X w hm hin 1 (by decide) (List.mem_of_getElem? (i := 1) rfl) rfl dX12_minds_97 ?_
                refine lv_iconst (v := 1) hx hb dX12_minds_100 (by decide) ?_
                refine lv_iadd hx hb dX12_minds_101 ?_
                refine mo_put X w hm hin 1 (by decide) (List.mem_of_getElem? (i := 1) rfl) dX12_minds_102 (fun H locs w => ?_)
                exact hend H locs (L, mo_F D f mo ma (mo_w (va_up (mo_w (va_up M 0 (hs_blk (M 0) 200 250 1150)) 1 0 (nI 23)) 0 (hs_blk ((mo_w (va_up M 0 (hs_blk (M 0) 200 250 1150)) 1 0 (nI 23)) 0) (200 + 50 * 23) (0) 50)) 1 0 (((va_up (mo_w (va_up M 0 (hs_blk (M 0) 200 250 1150)) 1 0 (nI 23)) 0 (hs_blk ((mo_w (va_up M 0 (hs_blk (M 0) 200 250 1150)) 1 0 (nI 23)) 0) (200 + 50 * 23) (0) 50)) 1 0 + 1)))) _ ls w (congrArg (fun z => (L, mo_F D f mo ma z)) (by have ha2 : a = 24 := (nI_eq (by omega) (by decide)).mp (ha.symm.trans c_6); subst ha2; exact mo_01 _ _ _ _ _)) dX12_minds_105
              · have hkl : k < 50 := by
                  rcases Nat.lt_or_ge k 50 with q | q
                  · exact q
                  · exact absurd (nI_le (a := 50) (b := k) q (by omega)) c_62
                refine lv_aload_n hx hb dX12_minds_65 rfl (lv_at hl 0 rfl) ?_
                refine mo_get X w hm hin 0 (by decide) (List.mem_of_getElem? (i := 2) rfl) rfl dX12_minds_66 ?_
                refine lv_sipush (v := 200) hx hb dX12_minds_69 (by decide) ?_
                refine lv_bipush (v := 50) hx hb dX12_minds_72 (by decide) ?_
                refine lv_aload_n hx hb dX12_minds_74 rfl (lv_at hl 0 rfl) ?_
                refine mo_get X w hm hin 1 (by decide) (List.mem_of_getElem? (i := 1) rfl) rfl dX12_minds_75 ?_
                refine lv_imul hx hb dX12_minds_78 ?_
                refine lv_iadd hx hb dX12_minds_79 ?_
                refine lv_iload_n hx hb dX12_minds_80 rfl (lv_at hl 1 rfl) ?_
                refine lv_iadd hx hb dX12_minds_81 ?_
                refine lv_aload_n hx hb dX12_minds_82 rfl (lv_at hl 0 rfl) ?_
                refine mo_get X w hm hin 0 (by decide) (List.mem_of_getElem? (i := 2) rfl) rfl dX12_minds_83 ?_
                refine lv_iload_n hx hb dX12_minds_86 rfl (lv_at hl 1 rfl) ?_
                refine mo_iald X w hm 0 (by decide) (by decide) (0 + k) (by rw [Nat.zero_add]) (by show _ < 1400; omega) dX12_minds_87 ?_
                refine mo_iast X w hm 0 (by decide) (by decide) (200 + 50 * 23 + k) (hs_addI (hs_addI rfl (hs_mulI rfl hA1)) rfl) (by show _ < 1400; omega) dX12_minds_88 (fun H locs w => ?_)
                refine lv_iinc (v := nI k + 1) (lv' := [(1, .int (nI k + 1)), (0, .ref mo)]) hx hb dX12_minds_89 hl (k := 1) rfl rfl (by decide) rfl (fun ls hl => ?_)
                refine lv_goto (tgt := 59) hx hb dX12_minds_92 (by decide) ?_
                have hl := hs_lv hl (k := 0) rfl (nI_1 k)
                exact ihcp2 (k + 1) (by omega) (by omega) H locs ls (by rw [hs_up_up, show va_up (hs_blk ((mo_w (va_up M 0 (hs_blk (M 0) 200 250 1150)) 1 0 (nI 23)) 0) (200 + 50 * 23) (0) k) ((200 + 50 * 23) + k) (va_up (mo_w (va_up M 0 (hs_blk (M 0) 200 250 1150)) 1 0 (nI 23)) 0 (hs_blk ((mo_w (va_up M 0 (hs_blk (M 0) 200 250 1150)) 1 0 (nI 23)) 0) (200 + 50 * 23) (0) k) 0 ((0) + k)) = hs_blk ((mo_w (va_up M 0 (hs_blk (M 0) 200 250 1150)) 1 0 (nI 23)) 0) (200 + 50 * 23) (0) (k + 1) from hs_blk_s _ (by omega)] at w; exact w) (lv_sub hl [1, 0] rfl)
          exact cp2 (50 + 1) 0 (by omega) (by omega) H locs ls (by rw [hs_blk_0, hs_up_id]; exact w) (lv_sub hl [1, 0] rfl)
        · have hkl : k < 1150 := by
            rcases Nat.lt_or_ge k 1150 with q | q
            · exact q
            · exact absurd (nI_le (a := 1150) (b := k) q (by omega)) c_15
          refine lv_aload_n hx hb dX12_minds_18 rfl (lv_at hl 0 rfl) ?_
          refine mo_get X w hm hin 0 (by decide) (List.mem_of_getElem? (i := 2) rfl) rfl dX12_minds_19 ?_
          refine lv_sipush (v := 200) hx hb dX12_minds_22 (by decide) ?_
          refine lv_iload_n hx hb dX12_minds_25 rfl (lv_at hl 1 rfl) ?_
          refine lv_iadd hx hb dX12_minds_26 ?_
          refine lv_aload_n hx hb dX12_minds_27 rfl (lv_at hl 0 rfl) ?_
          refine mo_get X w hm hin 0 (by decide) (List.mem_of_getElem? (i := 2) rfl) rfl dX12_minds_28 ?_
          refine lv_sipush (v := 200) hx hb dX12_minds_31 (by decide) ?_
          refine lv_iload_n hx hb dX12_minds_34 rfl (lv_at hl 1 rfl) ?_
          refine lv_iadd hx hb dX12_minds_35 ?_
          refine lv_bipush (v := 50) hx hb dX12_minds_36 (by decide) ?_
          refine lv_iadd hx hb dX12_minds_38 ?_
          refine mo_iald X w hm 0 (by decide) (by decide) (250 + k) (by rw [show ((200 : Int32) + nI k + 50) = nI (200 + k + 50) from hs_addI (hs_addI rfl rfl) rfl]; congr 1; omega) (by show _ < 1400; omega) dX12_minds_39 ?_
          refine mo_iast X w hm 0 (by decide) (by decide) (200 + k) (hs_addI rfl rfl) (by show _ < 1400; omega) dX12_minds_40 (fun H locs w => ?_)
          refine lv_iinc (v := nI k + 1) (lv' := [(1, .int (nI k + 1)), (0, .ref mo)]) hx hb dX12_minds_41 hl (k := 1) rfl rfl (by decide) rfl (fun ls hl => ?_)
          refine lv_goto (tgt := 11) hx hb dX12_minds_44 (by decide) ?_
          have hl := hs_lv hl (k := 0) rfl (nI_1 k)
          exact ihcp1 (k + 1) (by omega) (by omega) H locs ls (by rw [hs_up_up, show va_up (hs_blk (M 0) (200) (250) k) ((200) + k) (va_up M 0 (hs_blk (M 0) (200) (250) k) 0 ((250) + k)) = hs_blk (M 0) (200) (250) (k + 1) from hs_blk_s _ (by omega)] at w; exact w) (lv_sub hl [1, 0] rfl)
    exact cp1 (1150 + 1) 0 (by omega) (by omega) H locs ls (by rw [hs_blk_0, hs_up_id]; exact w) (lv_sub hl [1, 0] rfl)
set_option maxRecDepth 100000 in
set_option maxHeartbeats 4000000 in
/-- undo -/
theorem c_X12_undo (l : Launch) (D : va_G) (b0 : Nat) (L : List Nat) (f : Nat → va_E) (mo : Nat) (ma : Nat → Nat) (M : Nat → Nat → Int32) (hm : mo_ok L mo ma) (a : Nat) (ha : M 1 0 = nI a) (ha24 : a ≤ 24) : mo_Fi l yX12_undo wsX12_undo ({ frames := 0, cells := 0, slots := 0, locals := 0 }) D b0 L f mo ma M [] ((sp_undo M a).1) ((sp_undo M a).2) := by
  refine hg_in_i (cc := cX12_undo) (nL := 2) (by decide) rfl (Nat.le_of_ble_eq_true rfl) (fun p e s m args below meth c R Q X hR hend H locs ls w hl => ?_)
  subst hR
  obtain ⟨hx, hb, hml, hown, hts⟩ := id X.1
  have hin : ∀ w ∈ wsX120, w ∈ wsX12_undo := fun w h => List.mem_cons_of_mem _ (List.mem_append_right _ h)
  have hl : lv_has ls 2 [(0, .ref mo)] := hl
  refine lv_aload_n hx hb dX12_undo_0 rfl (lv_at hl 0 rfl) ?_
  refine mo_get X w hm hin 1 (by decide) (List.mem_of_getElem? (i := 1) rfl) rfl dX12_undo_1 ?_
  refine lv_if_ne (tgt := 10) hx hb dX12_undo_4 (by decide) (fun c_4 => ?_) (fun c_4 => ?_)
  · refine lv_aload_n hx hb dX12_undo_10 rfl (lv_at hl 0 rfl) ?_
    refine lv_dup hx hb dX12_undo_11 rfl ?_
    refine mo_get X w hm hin 1 (by decide) (List.mem_of_getElem? (i := 1) rfl) rfl dX12_undo_12 ?_
    refine lv_iconst (v := 1) hx hb dX12_undo_15 (by decide) ?_
    refine lv_isub hx hb dX12_undo_16 ?_
    refine mo_put X w hm hin 1 (by decide) (List.mem_of_getElem? (i := 1) rfl) dX12_undo_17 (fun H locs w => ?_)
    refine lv_iconst (v := 0) hx hb dX12_undo_20 (by decide) ?_
    refine lv_istore_n (lv' := [(1, .int (0)), (0, .ref mo)]) hx hb dX12_undo_21 rfl hl (by decide) rfl (fun ls hl => ?_)
    have ha0 : 0 < a := by
      rcases Nat.eq_zero_or_pos a with q | q
      · exact absurd (by rw [ha, q]; decide) c_4
      · exact q
    have hpa : M 1 0 - 1 = nI (a - 1) := by rw [ha, show a = a - 1 + 1 by omega, nI_pred]; rfl
    rw [hpa] at w
    have hA1 : (mo_w M 1 0 (nI (a - 1))) 1 0 = nI (a - 1) := rfl
    have cp1 : ∀ (n0 k : Nat), k ≤ 50 → 50 + 1 ≤ k + n0 → ∀ (H : Heap) (locs : List Loc) (ls : Array Slot), hg_W D b0 L (mo_F D f mo ma (va_up (mo_w M 1 0 (nI (a - 1))) 0 (hs_blk ((mo_w M 1 0 (nI (a - 1))) 0) (0) (200 + 50 * (a - 1)) k))) s.heap H locs → lv_has ls 2 [(0, .ref mo), (1, .int (nI k))] → W p l e ({ frames := 0, cells := 0, slots := 0, locals := 0 }) s m args below meth c H locs 0 0 Q (F0 m 22 ls []) := by
      intro n0
      induction n0 with
      | zero =>
        intro k h1 h2
        exact absurd h2 (by omega)
      | succ n0 ihcp1 =>
        intro k hk hn0 H locs ls w hl
        refine lv_iload_n hx hb dX12_undo_22 rfl (lv_at hl 1 rfl) ?_
        refine lv_bipush (v := 50) hx hb dX12_undo_23 (by decide) ?_
        refine lv_icmp_ge (tgt := 58) hx hb dX12_undo_25 (by decide) (fun c_25 => ?_) (fun c_25 => ?_)
        · have hk : 50 = k := by
            rcases Nat.lt_or_ge k 50 with q | q
            · exact absurd c_25 (nI_ge (a := k) (b := 50) q (by omega))
            · omega
          subst hk
          refine lv_aload_n hx hb dX12_undo_58 rfl (lv_at hl 0 rfl) ?_
          refine mo_get X w hm hin 1 (by decide) (List.mem_of_getElem? (i := 1) rfl) rfl dX12_undo_59 ?_
          exact hend H locs ((va_up (mo_w M 1 0 (nI (a - 1))) 0 (hs_blk ((mo_w M 1 0 (nI (a - 1))) 0) (0) (200 + 50 * (a - 1)) 50)) 1 0) (L, mo_F D f mo ma (va_up (mo_w M 1 0 (nI (a - 1))) 0 (hs_blk ((mo_w M 1 0 (nI (a - 1))) 0) (0) (200 + 50 * (a - 1)) 50))) _ ls w ⟨(by simp only [sp_undo]; rw [if_neg (by omega)]; rfl), (congrArg (fun z => (L, mo_F D f mo ma z)) (by simp only [sp_undo]; rw [if_neg (by omega)]; exact mo_10 _ _ _))⟩ rfl dX12_undo_62
        · have hkl : k < 50 := by
            rcases Nat.lt_or_ge k 50 with q | q
            · exact q
            · exact absurd (nI_le (a := 50) (b := k) q (by omega)) c_25
          refine lv_aload_n hx hb dX12_undo_28 rfl (lv_at hl 0 rfl) ?_
          refine mo_get X w hm hin 0 (by decide) (List.mem_of_getElem? (i := 3) rfl) rfl dX12_undo_29 ?_
          refine lv_iload_n hx hb dX12_undo_32 rfl (lv_at hl 1 rfl) ?_
          refine lv_aload_n hx hb dX12_undo_33 rfl (lv_at hl 0 rfl) ?_
          refine mo_get X w hm hin 0 (by decide) (List.mem_of_getElem? (i := 3) rfl) rfl dX12_undo_34 ?_
          refine lv_sipush (v := 200) hx hb dX12_undo_37 (by decide) ?_
          refine lv_bipush (v := 50) hx hb dX12_undo_40 (by decide) ?_
          refine lv_aload_n hx hb dX12_undo_42 rfl (lv_at hl 0 rfl) ?_
          refine mo_get X w hm hin 1 (by decide) (List.mem_of_getElem? (i := 1) rfl) rfl dX12_undo_43 ?_
          refine lv_imul hx hb dX12_undo_46 ?_
          refine lv_iadd hx hb dX12_undo_47 ?_
          refine lv_iload_n hx hb dX12_undo_48 rfl (lv_at hl 1 rfl) ?_
          refine lv_iadd hx hb dX12_undo_49 ?_
          refine mo_iald X w hm 0 (by decide) (by decide) (200 + 50 * (a - 1) + k) (hs_addI (hs_addI rfl (hs_mulI rfl hA1)) rfl) (by show _ < 1400; omega) dX12_undo_50 ?_
          refine mo_iast X w hm 0 (by decide) (by decide) (0 + k) (by rw [Nat.zero_add]) (by show _ < 1400; omega) dX12_undo_51 (fun H locs w => ?_)
          refine lv_iinc (v := nI k + 1) (lv' := [(1, .int (nI k + 1)), (0, .ref mo)]) hx hb dX12_undo_52 hl (k := 1) rfl rfl (by decide) rfl (fun ls hl => ?_)
          refine lv_goto (tgt := 22) hx hb dX12_undo_55 (by decide) ?_
          have hl := hs_lv hl (k := 0) rfl (nI_1 k)
          exact ihcp1 (k + 1) (by omega) (by omega) H locs ls (by rw [hs_up_up, show va_up (hs_blk ((mo_w M 1 0 (nI (a - 1))) 0) (0) (200 + 50 * (a - 1)) k) ((0) + k) (va_up (mo_w M 1 0 (nI (a - 1))) 0 (hs_blk ((mo_w M 1 0 (nI (a - 1))) 0) (0) (200 + 50 * (a - 1)) k) 0 ((200 + 50 * (a - 1)) + k)) = hs_blk ((mo_w M 1 0 (nI (a - 1))) 0) (0) (200 + 50 * (a - 1)) (k + 1) from hs_blk_s _ (by omega)] at w; exact w) (lv_sub hl [1, 0] rfl)
    exact cp1 (50 + 1) 0 (by omega) (by omega) H locs ls (by rw [hs_blk_0, hs_up_id]; exact w) (lv_sub hl [1, 0] rfl)
  · refine lv_ldc (v := (-1000002)) hx hb hown (hts _ (List.mem_of_getElem? (i := 2) rfl)) dX12_undo_7 ?_
    exact hend H locs ((-1000002)) (L, mo_F D f mo ma M) _ ls w ⟨(by have ha0 : a = 0 := (nI_eq (by omega) (by decide)).mp (ha.symm.trans c_4); simp [sp_undo, ha0]), (congrArg (fun z => (L, mo_F D f mo ma z)) (by have ha0 : a = 0 := (nI_eq (by omega) (by decide)).mp (ha.symm.trans c_4); simp [sp_undo, ha0]))⟩ rfl dX12_undo_9
theorem hdX12_minds : yX12_minds.cls = RX12 ∧ yX12_minds.cls ≠ "java/lang/invoke/MethodHandle" ∧ yX12_minds.cls ≠ "java/lang/invoke/VarHandle" ∧ (parseMethodDescriptor yX12_minds.desc).map (fun d => d.parameters.length) = some 0 := by decide +kernel
set_option maxRecDepth 100000 in
set_option maxHeartbeats 4000000 in
/-- buyers -/
theorem c_X12_buyers (l : Launch) (D : va_G) (b0 : Nat) (L : List Nat) (f : Nat → va_E) (mo : Nat) (ma : Nat → Nat) (M : Nat → Nat → Int32) (hm : mo_ok L mo ma) (n nr : Nat) (hv : hs_ok (M 0) n nr) (a : Nat) (ha : M 1 0 = nI a) (ha24 : a ≤ 24) (x b : Int32) : mo_Fi l yX12_buyers wsX12_buyers ({ frames := 2, cells := 0, slots := 0, locals := 46 }) D b0 L f mo ma M [.int (x), .int (b)] ((sp_buyers M a x b).1) ((sp_buyers M a x b).2) := by
  refine hg_in_i (cc := cX12_buyers) (nL := 4) (by decide) rfl (Nat.le_of_ble_eq_true rfl) (fun p e s m args below meth c R Q X hR hend H locs ls w hl => ?_)
  subst hR
  obtain ⟨hx, hb, hml, hown, hts⟩ := id X.1
  have hin : ∀ w ∈ wsX120, w ∈ wsX12_buyers := fun w h => List.mem_cons_of_mem _ (List.mem_append_right _ h)
  have hl : lv_has ls 4 [(0, .ref mo), (1, .int (x)), (2, .int (b))] := hl
  obtain ⟨hn, hn6, hnr, hnr3, htt⟩ := id hv
  refine lv_aload_n hx hb dX12_buyers_0 rfl (lv_at hl 0 rfl) ?_
  refine lv_iload_n hx hb dX12_buyers_1 rfl (lv_at hl 1 rfl) ?_
  refine hg_viF (r := hs_isSt (M 0) x) (As := [.int (x)]) (rest := []) X w (c_X12_isStall l D b0 L f mo ma M hm x) (cwV 1 hts gX12_buyers_X12_isStall rfl rfl rfl hdX12_isStall ⟨Nat.le_of_ble_eq_true rfl, Nat.le_of_ble_eq_true rfl⟩) hm.1 (mo_at0 D f mo ma _) rfl rfl rfl hl.1 rfl (Nat.le_of_ble_eq_true rfl) dX12_buyers_2 ⟨Nat.zero_le _, Nat.zero_le _⟩ (fun H locs w => ?_)
  refine lv_if_eq (tgt := 20) hx hb dX12_buyers_5 (by decide) (fun c_5 => ?_) (fun c_5 => ?_)
  · refine lv_ldc (v := (-1000001)) hx hb hown (hts _ (List.mem_of_getElem? (i := 2) rfl)) dX12_buyers_20 ?_
    exact hend H locs ((-1000001)) (L, mo_F D f mo ma M) _ ls w ⟨(by (try simp only [lg_cmp_le, lg_cmp_ge, lg_cmp_lt, lg_cmp_gt, ← Int32.not_lt, ← Int64.not_lt, Classical.not_not] at c_5); first | (simp [sp_buyers, c_5]; done) | (simp [sp_buyers, eq_true c_5]; done) | (exfalso; clear hend; simp_all; done)), (congrArg (fun z => (L, mo_F D f mo ma z)) (by (try simp only [lg_cmp_le, lg_cmp_ge, lg_cmp_lt, lg_cmp_gt, ← Int32.not_lt, ← Int64.not_lt, Classical.not_not] at c_5); first | (simp [sp_buyers, c_5]; done) | (simp [sp_buyers, eq_true c_5]; done) | (exfalso; clear hend; simp_all; done)))⟩ rfl dX12_buyers_22
  · obtain ⟨j, hj, rfl⟩ := hs_st_1 hv c_5
    have hjc := hs_cl hj (by omega)
    refine lv_iload_n hx hb dX12_buyers_8 rfl (lv_at hl 2 rfl) ?_
    refine lv_i2l hx hb dX12_buyers_9 rfl ?_
    refine lv_lconst (v := 0) hx hb dX12_buyers_10 (by decide) ?_
    refine lv_ldc2 (v := 20) hx hb hown (hts _ (List.mem_of_getElem? (i := 1) rfl)) dX12_buyers_11 ?_
    refine hg_siF (r := hs_in b 0 20) (As := [.long ((b).toInt64), .long (0), .long (20)]) (rest := []) X w (c_X12_in l D b0 L _ ((b).toInt64) 0 20 b 0 20 rfl (by decide) (by decide)) (va_cwS 3 hts gX12_buyers_X12_in rfl rfl rfl hdX12_in ⟨Nat.le_of_ble_eq_true rfl, Nat.le_of_ble_eq_true rfl⟩) rfl hl.1 rfl (Nat.le_of_ble_eq_true rfl) dX12_buyers_14 ⟨Nat.zero_le _, Nat.zero_le _⟩ (fun H locs w => ?_)
    refine lv_if_ne (tgt := 23) hx hb dX12_buyers_17 (by decide) (fun c_17 => ?_) (fun c_17 => ?_)
    · refine lv_aload_n hx hb dX12_buyers_23 rfl (lv_at hl 0 rfl) ?_
      refine hg_vvF (As := []) (rest := []) X w (c_X12_minds l D b0 L f mo ma M hm a ha ha24) (cwV 0 hts gX12_buyers_X12_minds rfl rfl rfl hdX12_minds ⟨Nat.le_of_ble_eq_true rfl, Nat.le_of_ble_eq_true rfl⟩) hm.1 (mo_at0 D f mo ma _) rfl rfl rfl hl.1 rfl (Nat.le_of_ble_eq_true rfl) dX12_buyers_24 ⟨Nat.zero_le _, Nat.zero_le _⟩ (fun H locs w => ?_)
      refine lv_aload_n hx hb dX12_buyers_27 rfl (lv_at hl 0 rfl) ?_
      refine mo_get X w hm hin 0 (by decide) (List.mem_of_getElem? (i := 3) rfl) rfl dX12_buyers_28 ?_
      refine lv_bipush (v := 32) hx hb dX12_buyers_31 (by decide) ?_
      refine lv_iload_n hx hb dX12_buyers_33 rfl (lv_at hl 1 rfl) ?_
      refine lv_iadd hx hb dX12_buyers_34 ?_
      refine mo_iald X w hm 0 (by decide) (by decide) (32 + j) (hs_addI rfl rfl) (by show _ < 1400; omega) dX12_buyers_35 ?_
      refine lv_istore_n (lv' := [(3, .int ((sp_minds M a) 0 (32 + j))), (0, .ref mo), (1, .int (nI j)), (2, .int (b))]) hx hb dX12_buyers_36 rfl hl (by decide) rfl (fun ls hl => ?_)
      refine lv_aload_n hx hb dX12_buyers_37 rfl (lv_at hl 1 rfl) ?_
      refine mo_get X w hm hin 0 (by decide) (List.mem_of_getElem? (i := 3) rfl) rfl dX12_buyers_38 ?_
      refine lv_bipush (v := 32) hx hb dX12_buyers_41 (by decide) ?_
      refine lv_iload_n hx hb dX12_buyers_43 rfl (lv_at hl 2 rfl) ?_
      refine lv_iadd hx hb dX12_buyers_44 ?_
      refine lv_iload_n hx hb dX12_buyers_45 rfl (lv_at hl 3 rfl) ?_
      refine mo_iast X w hm 0 (by decide) (by decide) (32 + j) (hs_addI rfl rfl) (by show _ < 1400; omega) dX12_buyers_46 (fun H locs w => ?_)
      refine lv_iload_n hx hb dX12_buyers_47 rfl (lv_at hl 0 rfl) ?_
      exact hend H locs ((sp_minds M a) 0 (32 + j)) (L, mo_F D f mo ma (mo_w (sp_minds M a) 0 (32 + j) (b))) _ ls w ⟨(by rw [sp_minds_0 M a (by omega)]; simp [sp_buyers, c_5, c_17, hjc]), (congrArg (fun z => (L, mo_F D f mo ma z)) (by (try simp only [lg_cmp_le, lg_cmp_ge, lg_cmp_lt, lg_cmp_gt, ← Int32.not_lt, ← Int64.not_lt, Classical.not_not] at c_5 c_17); first | (simp [sp_buyers, c_5, c_17, hjc]; done) | (simp [sp_buyers, c_5, c_17, hjc]; done) | (exfalso; clear hend; simp_all; done)))⟩ rfl dX12_buyers_48
    · refine lv_ldc (v := (-1000001)) hx hb hown (hts _ (List.mem_of_getElem? (i := 2) rfl)) dX12_buyers_20 ?_
      exact hend H locs ((-1000001)) (L, mo_F D f mo ma M) _ ls w ⟨(by (try simp only [lg_cmp_le, lg_cmp_ge, lg_cmp_lt, lg_cmp_gt, ← Int32.not_lt, ← Int64.not_lt, Classical.not_not] at c_5 c_17); first | (simp [sp_buyers, c_5, c_17, hjc]; done) | (simp [sp_buyers, c_5, eq_true c_17, hjc]; done) | (exfalso; clear hend; simp_all; done)), (congrArg (fun z => (L, mo_F D f mo ma z)) (by (try simp only [lg_cmp_le, lg_cmp_ge, lg_cmp_lt, lg_cmp_gt, ← Int32.not_lt, ← Int64.not_lt, Classical.not_not] at c_5 c_17); first | (simp [sp_buyers, c_5, c_17, hjc]; done) | (simp [sp_buyers, c_5, eq_true c_17, hjc]; done) | (exfalso; clear hend; simp_all; done)))⟩ rfl dX12_buyers_22
set_option maxRecDepth 100000 in
set_option maxHeartbeats 4000000 in
/-- girl -/
theorem c_X12_girl (l : Launch) (D : va_G) (b0 : Nat) (L : List Nat) (f : Nat → va_E) (mo : Nat) (ma : Nat → Nat) (M : Nat → Nat → Int32) (hm : mo_ok L mo ma) (n nr : Nat) (hv : hs_ok (M 0) n nr) (a : Nat) (ha : M 1 0 = nI a) (ha24 : a ≤ 24) (x b : Int32) : mo_Fi l yX12_girl wsX12_girl ({ frames := 2, cells := 0, slots := 0, locals := 46 }) D b0 L f mo ma M [.int (x), .int (b)] ((sp_girl M a x b).1) ((sp_girl M a x b).2) := by
  refine hg_in_i (cc := cX12_girl) (nL := 3) (by decide) rfl (Nat.le_of_ble_eq_true rfl) (fun p e s m args below meth c R Q X hR hend H locs ls w hl => ?_)
  subst hR
  obtain ⟨hx, hb, hml, hown, hts⟩ := id X.1
  have hin : ∀ w ∈ wsX120, w ∈ wsX12_girl := fun w h => List.mem_cons_of_mem _ (List.mem_append_right _ h)
  have hl : lv_has ls 3 [(0, .ref mo), (1, .int (x)), (2, .int (b))] := hl
  obtain ⟨hn, hn6, hnr, hnr3, htt⟩ := id hv
  refine lv_aload_n hx hb dX12_girl_0 rfl (lv_at hl 0 rfl) ?_
  refine lv_iload_n hx hb dX12_girl_1 rfl (lv_at hl 1 rfl) ?_
  refine hg_viF (r := hs_isSt (M 0) x) (As := [.int (x)]) (rest := []) X w (c_X12_isStall l D b0 L f mo ma M hm x) (cwV 1 hts gX12_girl_X12_isStall rfl rfl rfl hdX12_isStall ⟨Nat.le_of_ble_eq_true rfl, Nat.le_of_ble_eq_true rfl⟩) hm.1 (mo_at0 D f mo ma _) rfl rfl rfl hl.1 rfl (Nat.le_of_ble_eq_true rfl) dX12_girl_2 ⟨Nat.zero_le _, Nat.zero_le _⟩ (fun H locs w => ?_)
  refine lv_if_eq (tgt := 18) hx hb dX12_girl_5 (by decide) (fun c_5 => ?_) (fun c_5 => ?_)
  · refine lv_ldc (v := (-1000001)) hx hb hown (hts _ (List.mem_of_getElem? (i := 1) rfl)) dX12_girl_18 ?_
    exact hend H locs ((-1000001)) (L, mo_F D f mo ma M) _ ls w ⟨(by (try simp only [lg_cmp_le, lg_cmp_ge, lg_cmp_lt, lg_cmp_gt, ← Int32.not_lt, ← Int64.not_lt, Classical.not_not] at c_5); first | (simp [sp_girl, c_5]; done) | (simp [sp_girl, eq_true c_5]; done) | (exfalso; clear hend; simp_all; done)), (congrArg (fun z => (L, mo_F D f mo ma z)) (by (try simp only [lg_cmp_le, lg_cmp_ge, lg_cmp_lt, lg_cmp_gt, ← Int32.not_lt, ← Int64.not_lt, Classical.not_not] at c_5); first | (simp [sp_girl, c_5]; done) | (simp [sp_girl, eq_true c_5]; done) | (exfalso; clear hend; simp_all; done)))⟩ rfl dX12_girl_20
  · obtain ⟨j, hj, rfl⟩ := hs_st_1 hv c_5
    have hjc := hs_cl hj (by omega)
    refine lv_iload_n hx hb dX12_girl_8 rfl (lv_at hl 2 rfl) ?_
    refine lv_iconst (v := 1) hx hb dX12_girl_9 (by decide) ?_
    refine lv_icmp_eq (tgt := 21) hx hb dX12_girl_10 (by decide) (fun c_10 => ?_) (fun c_10 => ?_)
    · refine lv_iload_n hx hb dX12_girl_21 rfl (lv_at hl 2 rfl) ?_
      refine lv_if_ge (tgt := 40) hx hb dX12_girl_22 (by decide) (fun c_22 => ?_) (fun c_22 => ?_)
      · refine lv_iload_n hx hb dX12_girl_40 rfl (lv_at hl 2 rfl) ?_
        refine lv_if_le (tgt := 61) hx hb dX12_girl_41 (by decide) (fun c_41 => ?_) (fun c_41 => ?_)
        · refine lv_aload_n hx hb dX12_girl_61 rfl (lv_at hl 0 rfl) ?_
          refine hg_vvF (As := []) (rest := []) X w (c_X12_minds l D b0 L f mo ma M hm a ha ha24) (cwV 0 hts gX12_girl_X12_minds rfl rfl rfl hdX12_minds ⟨Nat.le_of_ble_eq_true rfl, Nat.le_of_ble_eq_true rfl⟩) hm.1 (mo_at0 D f mo ma _) rfl rfl rfl hl.1 rfl (Nat.le_of_ble_eq_true rfl) dX12_girl_62 ⟨Nat.zero_le _, Nat.zero_le _⟩ (fun H locs w => ?_)
          refine lv_aload_n hx hb dX12_girl_65 rfl (lv_at hl 0 rfl) ?_
          refine mo_get X w hm hin 0 (by decide) (List.mem_of_getElem? (i := 2) rfl) rfl dX12_girl_66 ?_
          refine lv_bipush (v := 38) hx hb dX12_girl_69 (by decide) ?_
          refine lv_iload_n hx hb dX12_girl_71 rfl (lv_at hl 1 rfl) ?_
          refine lv_iadd hx hb dX12_girl_72 ?_
          refine lv_dup2_11 hx hb dX12_girl_73 rfl rfl ?_
          refine mo_iald X w hm 0 (by decide) (by decide) (38 + j) (hs_addI rfl rfl) (by show _ < 1400; omega) dX12_girl_74 ?_
          refine lv_iload_n hx hb dX12_girl_75 rfl (lv_at hl 2 rfl) ?_
          refine lv_iadd hx hb dX12_girl_76 ?_
          refine mo_iast X w hm 0 (by decide) (by decide) (38 + j) (hs_addI rfl rfl) (by show _ < 1400; omega) dX12_girl_77 (fun H locs w => ?_)
          refine lv_aload_n hx hb dX12_girl_78 rfl (lv_at hl 0 rfl) ?_
          refine mo_get X w hm hin 0 (by decide) (List.mem_of_getElem? (i := 2) rfl) rfl dX12_girl_79 ?_
          refine lv_bipush (v := 38) hx hb dX12_girl_82 (by decide) ?_
          refine lv_iload_n hx hb dX12_girl_84 rfl (lv_at hl 1 rfl) ?_
          refine lv_iadd hx hb dX12_girl_85 ?_
          refine mo_iald X w hm 0 (by decide) (by decide) (38 + j) (hs_addI rfl rfl) (by show _ < 1400; omega) dX12_girl_86 ?_
          exact hend H locs ((mo_w (sp_minds M a) 0 (38 + j) (((sp_minds M a) 0 (38 + j) + b))) 0 (38 + j)) (L, mo_F D f mo ma (mo_w (sp_minds M a) 0 (38 + j) (((sp_minds M a) 0 (38 + j) + b)))) _ ls w ⟨(by simp only [mo_w, va_up_self]; rw [sp_minds_0 M a (by omega)]; (try simp only [lg_cmp_le, lg_cmp_ge, lg_cmp_lt, lg_cmp_gt, ← Int32.not_lt, ← Int64.not_lt, Classical.not_not] at c_5 c_10 c_22 c_41); first | (simp [sp_girl, c_5, c_10, c_22, c_41, hjc]; done) | (simp [sp_girl, c_5, eq_true c_10, c_22, c_41, hjc]; done) | (exfalso; clear hend ; simp_all; done)), (congrArg (fun z => (L, mo_F D f mo ma z)) (by rw [sp_minds_0 M a (by omega)]; (try simp only [lg_cmp_le, lg_cmp_ge, lg_cmp_lt, lg_cmp_gt, ← Int32.not_lt, ← Int64.not_lt, Classical.not_not] at c_5 c_10 c_22 c_41); first | (simp [sp_girl, c_5, c_10, c_22, c_41, hjc]; done) | (simp [sp_girl, c_5, eq_true c_10, c_22, c_41, hjc]; done) | (exfalso; clear hend ; simp_all; done)))⟩ rfl dX12_girl_87
        · refine lv_aload_n hx hb dX12_girl_44 rfl (lv_at hl 0 rfl) ?_
          refine mo_get X w hm hin 0 (by decide) (List.mem_of_getElem? (i := 2) rfl) rfl dX12_girl_45 ?_
          refine lv_bipush (v := 38) hx hb dX12_girl_48 (by decide) ?_
          refine lv_iload_n hx hb dX12_girl_50 rfl (lv_at hl 1 rfl) ?_
          refine lv_iadd hx hb dX12_girl_51 ?_
          refine mo_iald X w hm 0 (by decide) (by decide) (38 + j) (hs_addI rfl rfl) (by show _ < 1400; omega) dX12_girl_52 ?_
          refine lv_bipush (v := 9) hx hb dX12_girl_53 (by decide) ?_
          refine lv_icmp_ne (tgt := 61) hx hb dX12_girl_55 (by decide) (fun c_55 => ?_) (fun c_55 => ?_)
          · refine lv_aload_n hx hb dX12_girl_61 rfl (lv_at hl 0 rfl) ?_
            refine hg_vvF (As := []) (rest := []) X w (c_X12_minds l D b0 L f mo ma M hm a ha ha24) (cwV 0 hts gX12_girl_X12_minds rfl rfl rfl hdX12_minds ⟨Nat.le_of_ble_eq_true rfl, Nat.le_of_ble_eq_true rfl⟩) hm.1 (mo_at0 D f mo ma _) rfl rfl rfl hl.1 rfl (Nat.le_of_ble_eq_true rfl) dX12_girl_62 ⟨Nat.zero_le _, Nat.zero_le _⟩ (fun H locs w => ?_)
            refine lv_aload_n hx hb dX12_girl_65 rfl (lv_at hl 0 rfl) ?_
            refine mo_get X w hm hin 0 (by decide) (List.mem_of_getElem? (i := 2) rfl) rfl dX12_girl_66 ?_
            refine lv_bipush (v := 38) hx hb dX12_girl_69 (by decide) ?_
            refine lv_iload_n hx hb dX12_girl_71 rfl (lv_at hl 1 rfl) ?_
            refine lv_iadd hx hb dX12_girl_72 ?_
            refine lv_dup2_11 hx hb dX12_girl_73 rfl rfl ?_
            refine mo_iald X w hm 0 (by decide) (by decide) (38 + j) (hs_addI rfl rfl) (by show _ < 1400; omega) dX12_girl_74 ?_
            refine lv_iload_n hx hb dX12_girl_75 rfl (lv_at hl 2 rfl) ?_
            refine lv_iadd hx hb dX12_girl_76 ?_
            refine mo_iast X w hm 0 (by decide) (by decide) (38 + j) (hs_addI rfl rfl) (by show _ < 1400; omega) dX12_girl_77 (fun H locs w => ?_)
            refine lv_aload_n hx hb dX12_girl_78 rfl (lv_at hl 0 rfl) ?_
            refine mo_get X w hm hin 0 (by decide) (List.mem_of_getElem? (i := 2) rfl) rfl dX12_girl_79 ?_
            refine lv_bipush (v := 38) hx hb dX12_girl_82 (by decide) ?_
            refine lv_iload_n hx hb dX12_girl_84 rfl (lv_at hl 1 rfl) ?_
            refine lv_iadd hx hb dX12_girl_85 ?_
            refine mo_iald X w hm 0 (by decide) (by decide) (38 + j) (hs_addI rfl rfl) (by show _ < 1400; omega) dX12_girl_86 ?_
            exact hend H locs ((mo_w (sp_minds M a) 0 (38 + j) (((sp_minds M a) 0 (38 + j) + b))) 0 (38 + j)) (L, mo_F D f mo ma (mo_w (sp_minds M a) 0 (38 + j) (((sp_minds M a) 0 (38 + j) + b)))) _ ls w ⟨(by simp only [mo_w, va_up_self]; rw [sp_minds_0 M a (by omega)]; (try simp only [lg_cmp_le, lg_cmp_ge, lg_cmp_lt, lg_cmp_gt, ← Int32.not_lt, ← Int64.not_lt, Classical.not_not] at c_5 c_10 c_22 c_41 c_55); first | (simp [sp_girl, c_5, c_10, c_22, c_41, c_55, hjc]; done) | (simp [sp_girl, c_5, eq_true c_10, c_22, c_41, c_55, hjc]; done) | (exfalso; clear hend ; simp_all; done)), (congrArg (fun z => (L, mo_F D f mo ma z)) (by rw [sp_minds_0 M a (by omega)]; (try simp only [lg_cmp_le, lg_cmp_ge, lg_cmp_lt, lg_cmp_gt, ← Int32.not_lt, ← Int64.not_lt, Classical.not_not] at c_5 c_10 c_22 c_41 c_55); first | (simp [sp_girl, c_5, c_10, c_22, c_41, c_55, hjc]; done) | (simp [sp_girl, c_5, eq_true c_10, c_22, c_41, c_55, hjc]; done) | (exfalso; clear hend ; simp_all; done)))⟩ rfl dX12_girl_87
          · refine lv_ldc (v := (-1000003)) hx hb hown (hts _ (List.mem_of_getElem? (i := 4) rfl)) dX12_girl_58 ?_
            exact hend H locs ((-1000003)) (L, mo_F D f mo ma M) _ ls w ⟨(by (try simp only [lg_cmp_le, lg_cmp_ge, lg_cmp_lt, lg_cmp_gt, ← Int32.not_lt, ← Int64.not_lt, Classical.not_not] at c_5 c_10 c_22 c_41 c_55); first | (simp [sp_girl, c_5, c_10, c_22, c_41, c_55, hjc]; done) | (simp [sp_girl, c_5, eq_true c_10, c_22, c_41, eq_true c_55, hjc]; done) | (exfalso; clear hend; simp_all; done)), (congrArg (fun z => (L, mo_F D f mo ma z)) (by (try simp only [lg_cmp_le, lg_cmp_ge, lg_cmp_lt, lg_cmp_gt, ← Int32.not_lt, ← Int64.not_lt, Classical.not_not] at c_5 c_10 c_22 c_41 c_55); first | (simp [sp_girl, c_5, c_10, c_22, c_41, c_55, hjc]; done) | (simp [sp_girl, c_5, eq_true c_10, c_22, c_41, eq_true c_55, hjc]; done) | (exfalso; clear hend; simp_all; done)))⟩ rfl dX12_girl_60
      · refine lv_aload_n hx hb dX12_girl_25 rfl (lv_at hl 0 rfl) ?_
        refine mo_get X w hm hin 0 (by decide) (List.mem_of_getElem? (i := 2) rfl) rfl dX12_girl_26 ?_
        refine lv_bipush (v := 38) hx hb dX12_girl_29 (by decide) ?_
        refine lv_iload_n hx hb dX12_girl_31 rfl (lv_at hl 1 rfl) ?_
        refine lv_iadd hx hb dX12_girl_32 ?_
        refine mo_iald X w hm 0 (by decide) (by decide) (38 + j) (hs_addI rfl rfl) (by show _ < 1400; omega) dX12_girl_33 ?_
        refine lv_if_ne (tgt := 40) hx hb dX12_girl_34 (by decide) (fun c_34 => ?_) (fun c_34 => ?_)
        · refine lv_iload_n hx hb dX12_girl_40 rfl (lv_at hl 2 rfl) ?_
          refine lv_if_le (tgt := 61) hx hb dX12_girl_41 (by decide) (fun c_41 => ?_) (fun c_41 => ?_)
          · refine lv_aload_n hx hb dX12_girl_61 rfl (lv_at hl 0 rfl) ?_
            refine hg_vvF (As := []) (rest := []) X w (c_X12_minds l D b0 L f mo ma M hm a ha ha24) (cwV 0 hts gX12_girl_X12_minds rfl rfl rfl hdX12_minds ⟨Nat.le_of_ble_eq_true rfl, Nat.le_of_ble_eq_true rfl⟩) hm.1 (mo_at0 D f mo ma _) rfl rfl rfl hl.1 rfl (Nat.le_of_ble_eq_true rfl) dX12_girl_62 ⟨Nat.zero_le _, Nat.zero_le _⟩ (fun H locs w => ?_)
            refine lv_aload_n hx hb dX12_girl_65 rfl (lv_at hl 0 rfl) ?_
            refine mo_get X w hm hin 0 (by decide) (List.mem_of_getElem? (i := 2) rfl) rfl dX12_girl_66 ?_
            refine lv_bipush (v := 38) hx hb dX12_girl_69 (by decide) ?_
            refine lv_iload_n hx hb dX12_girl_71 rfl (lv_at hl 1 rfl) ?_
            refine lv_iadd hx hb dX12_girl_72 ?_
            refine lv_dup2_11 hx hb dX12_girl_73 rfl rfl ?_
            refine mo_iald X w hm 0 (by decide) (by decide) (38 + j) (hs_addI rfl rfl) (by show _ < 1400; omega) dX12_girl_74 ?_
            refine lv_iload_n hx hb dX12_girl_75 rfl (lv_at hl 2 rfl) ?_
            refine lv_iadd hx hb dX12_girl_76 ?_
            refine mo_iast X w hm 0 (by decide) (by decide) (38 + j) (hs_addI rfl rfl) (by show _ < 1400; omega) dX12_girl_77 (fun H locs w => ?_)
            refine lv_aload_n hx hb dX12_girl_78 rfl (lv_at hl 0 rfl) ?_
            refine mo_get X w hm hin 0 (by decide) (List.mem_of_getElem? (i := 2) rfl) rfl dX12_girl_79 ?_
            refine lv_bipush (v := 38) hx hb dX12_girl_82 (by decide) ?_
            refine lv_iload_n hx hb dX12_girl_84 rfl (lv_at hl 1 rfl) ?_
            refine lv_iadd hx hb dX12_girl_85 ?_
            refine mo_iald X w hm 0 (by decide) (by decide) (38 + j) (hs_addI rfl rfl) (by show _ < 1400; omega) dX12_girl_86 ?_
            exact hend H locs ((mo_w (sp_minds M a) 0 (38 + j) (((sp_minds M a) 0 (38 + j) + b))) 0 (38 + j)) (L, mo_F D f mo ma (mo_w (sp_minds M a) 0 (38 + j) (((sp_minds M a) 0 (38 + j) + b)))) _ ls w ⟨(by simp only [mo_w, va_up_self]; rw [sp_minds_0 M a (by omega)]; (try simp only [lg_cmp_le, lg_cmp_ge, lg_cmp_lt, lg_cmp_gt, ← Int32.not_lt, ← Int64.not_lt, Classical.not_not] at c_5 c_10 c_22 c_34 c_41); first | (simp [sp_girl, c_5, c_10, c_22, c_34, c_41, hjc]; done) | (simp [sp_girl, c_5, eq_true c_10, c_22, c_34, c_41, hjc]; done) | (exfalso; clear hend ; simp_all; done)), (congrArg (fun z => (L, mo_F D f mo ma z)) (by rw [sp_minds_0 M a (by omega)]; (try simp only [lg_cmp_le, lg_cmp_ge, lg_cmp_lt, lg_cmp_gt, ← Int32.not_lt, ← Int64.not_lt, Classical.not_not] at c_5 c_10 c_22 c_34 c_41); first | (simp [sp_girl, c_5, c_10, c_22, c_34, c_41, hjc]; done) | (simp [sp_girl, c_5, eq_true c_10, c_22, c_34, c_41, hjc]; done) | (exfalso; clear hend ; simp_all; done)))⟩ rfl dX12_girl_87
          · refine lv_aload_n hx hb dX12_girl_44 rfl (lv_at hl 0 rfl) ?_
            refine mo_get X w hm hin 0 (by decide) (List.mem_of_getElem? (i := 2) rfl) rfl dX12_girl_45 ?_
            refine lv_bipush (v := 38) hx hb dX12_girl_48 (by decide) ?_
            refine lv_iload_n hx hb dX12_girl_50 rfl (lv_at hl 1 rfl) ?_
            refine lv_iadd hx hb dX12_girl_51 ?_
            refine mo_iald X w hm 0 (by decide) (by decide) (38 + j) (hs_addI rfl rfl) (by show _ < 1400; omega) dX12_girl_52 ?_
            refine lv_bipush (v := 9) hx hb dX12_girl_53 (by decide) ?_
            refine lv_icmp_ne (tgt := 61) hx hb dX12_girl_55 (by decide) (fun c_55 => ?_) (fun c_55 => ?_)
            · refine lv_aload_n hx hb dX12_girl_61 rfl (lv_at hl 0 rfl) ?_
              refine hg_vvF (As := []) (rest := []) X w (c_X12_minds l D b0 L f mo ma M hm a ha ha24) (cwV 0 hts gX12_girl_X12_minds rfl rfl rfl hdX12_minds ⟨Nat.le_of_ble_eq_true rfl, Nat.le_of_ble_eq_true rfl⟩) hm.1 (mo_at0 D f mo ma _) rfl rfl rfl hl.1 rfl (Nat.le_of_ble_eq_true rfl) dX12_girl_62 ⟨Nat.zero_le _, Nat.zero_le _⟩ (fun H locs w => ?_)
              refine lv_aload_n hx hb dX12_girl_65 rfl (lv_at hl 0 rfl) ?_
              refine mo_get X w hm hin 0 (by decide) (List.mem_of_getElem? (i := 2) rfl) rfl dX12_girl_66 ?_
              refine lv_bipush (v := 38) hx hb dX12_girl_69 (by decide) ?_
              refine lv_iload_n hx hb dX12_girl_71 rfl (lv_at hl 1 rfl) ?_
              refine lv_iadd hx hb dX12_girl_72 ?_
              refine lv_dup2_11 hx hb dX12_girl_73 rfl rfl ?_
              refine mo_iald X w hm 0 (by decide) (by decide) (38 + j) (hs_addI rfl rfl) (by show _ < 1400; omega) dX12_girl_74 ?_
              refine lv_iload_n hx hb dX12_girl_75 rfl (lv_at hl 2 rfl) ?_
              refine lv_iadd hx hb dX12_girl_76 ?_
              refine mo_iast X w hm 0 (by decide) (by decide) (38 + j) (hs_addI rfl rfl) (by show _ < 1400; omega) dX12_girl_77 (fun H locs w => ?_)
              refine lv_aload_n hx hb dX12_girl_78 rfl (lv_at hl 0 rfl) ?_
              refine mo_get X w hm hin 0 (by decide) (List.mem_of_getElem? (i := 2) rfl) rfl dX12_girl_79 ?_
              refine lv_bipush (v := 38) hx hb dX12_girl_82 (by decide) ?_
              refine lv_iload_n hx hb dX12_girl_84 rfl (lv_at hl 1 rfl) ?_
              refine lv_iadd hx hb dX12_girl_85 ?_
              refine mo_iald X w hm 0 (by decide) (by decide) (38 + j) (hs_addI rfl rfl) (by show _ < 1400; omega) dX12_girl_86 ?_
              exact hend H locs ((mo_w (sp_minds M a) 0 (38 + j) (((sp_minds M a) 0 (38 + j) + b))) 0 (38 + j)) (L, mo_F D f mo ma (mo_w (sp_minds M a) 0 (38 + j) (((sp_minds M a) 0 (38 + j) + b)))) _ ls w ⟨(by simp only [mo_w, va_up_self]; rw [sp_minds_0 M a (by omega)]; (try simp only [lg_cmp_le, lg_cmp_ge, lg_cmp_lt, lg_cmp_gt, ← Int32.not_lt, ← Int64.not_lt, Classical.not_not] at c_5 c_10 c_22 c_34 c_41 c_55); first | (simp [sp_girl, c_5, c_10, c_22, c_34, c_41, c_55, hjc]; done) | (simp [sp_girl, c_5, eq_true c_10, c_22, c_34, c_41, c_55, hjc]; done) | (exfalso; clear hend ; simp_all; done)), (congrArg (fun z => (L, mo_F D f mo ma z)) (by rw [sp_minds_0 M a (by omega)]; (try simp only [lg_cmp_le, lg_cmp_ge, lg_cmp_lt, lg_cmp_gt, ← Int32.not_lt, ← Int64.not_lt, Classical.not_not] at c_5 c_10 c_22 c_34 c_41 c_55); first | (simp [sp_girl, c_5, c_10, c_22, c_34, c_41, c_55, hjc]; done) | (simp [sp_girl, c_5, eq_true c_10, c_22, c_34, c_41, c_55, hjc]; done) | (exfalso; clear hend ; simp_all; done)))⟩ rfl dX12_girl_87
            · refine lv_ldc (v := (-1000003)) hx hb hown (hts _ (List.mem_of_getElem? (i := 4) rfl)) dX12_girl_58 ?_
              exact hend H locs ((-1000003)) (L, mo_F D f mo ma M) _ ls w ⟨(by (try simp only [lg_cmp_le, lg_cmp_ge, lg_cmp_lt, lg_cmp_gt, ← Int32.not_lt, ← Int64.not_lt, Classical.not_not] at c_5 c_10 c_22 c_34 c_41 c_55); first | (simp [sp_girl, c_5, c_10, c_22, c_34, c_41, c_55, hjc]; done) | (simp [sp_girl, c_5, eq_true c_10, c_22, c_34, c_41, eq_true c_55, hjc]; done) | (exfalso; clear hend; simp_all; done)), (congrArg (fun z => (L, mo_F D f mo ma z)) (by (try simp only [lg_cmp_le, lg_cmp_ge, lg_cmp_lt, lg_cmp_gt, ← Int32.not_lt, ← Int64.not_lt, Classical.not_not] at c_5 c_10 c_22 c_34 c_41 c_55); first | (simp [sp_girl, c_5, c_10, c_22, c_34, c_41, c_55, hjc]; done) | (simp [sp_girl, c_5, eq_true c_10, c_22, c_34, c_41, eq_true c_55, hjc]; done) | (exfalso; clear hend; simp_all; done)))⟩ rfl dX12_girl_60
        · refine lv_ldc (v := (-1000002)) hx hb hown (hts _ (List.mem_of_getElem? (i := 3) rfl)) dX12_girl_37 ?_
          exact hend H locs ((-1000002)) (L, mo_F D f mo ma M) _ ls w ⟨(by (try simp only [lg_cmp_le, lg_cmp_ge, lg_cmp_lt, lg_cmp_gt, ← Int32.not_lt, ← Int64.not_lt, Classical.not_not] at c_5 c_10 c_22 c_34); first | (simp [sp_girl, c_5, c_10, c_22, c_34, hjc]; done) | (simp [sp_girl, c_5, eq_true c_10, c_22, eq_true c_34, hjc]; done) | (exfalso; clear hend; simp_all; done)), (congrArg (fun z => (L, mo_F D f mo ma z)) (by (try simp only [lg_cmp_le, lg_cmp_ge, lg_cmp_lt, lg_cmp_gt, ← Int32.not_lt, ← Int64.not_lt, Classical.not_not] at c_5 c_10 c_22 c_34); first | (simp [sp_girl, c_5, c_10, c_22, c_34, hjc]; done) | (simp [sp_girl, c_5, eq_true c_10, c_22, eq_true c_34, hjc]; done) | (exfalso; clear hend; simp_all; done)))⟩ rfl dX12_girl_39
    · refine lv_iload_n hx hb dX12_girl_13 rfl (lv_at hl 2 rfl) ?_
      refine lv_iconst (v := (-1)) hx hb dX12_girl_14 (by decide) ?_
      refine lv_icmp_eq (tgt := 21) hx hb dX12_girl_15 (by decide) (fun c_15 => ?_) (fun c_15 => ?_)
      · refine lv_iload_n hx hb dX12_girl_21 rfl (lv_at hl 2 rfl) ?_
        refine lv_if_ge (tgt := 40) hx hb dX12_girl_22 (by decide) (fun c_22 => ?_) (fun c_22 => ?_)
        · refine lv_iload_n hx hb dX12_girl_40 rfl (lv_at hl 2 rfl) ?_
          refine lv_if_le (tgt := 61) hx hb dX12_girl_41 (by decide) (fun c_41 => ?_) (fun c_41 => ?_)
          · refine lv_aload_n hx hb dX12_girl_61 rfl (lv_at hl 0 rfl) ?_
            refine hg_vvF (As := []) (rest := []) X w (c_X12_minds l D b0 L f mo ma M hm a ha ha24) (cwV 0 hts gX12_girl_X12_minds rfl rfl rfl hdX12_minds ⟨Nat.le_of_ble_eq_true rfl, Nat.le_of_ble_eq_true rfl⟩) hm.1 (mo_at0 D f mo ma _) rfl rfl rfl hl.1 rfl (Nat.le_of_ble_eq_true rfl) dX12_girl_62 ⟨Nat.zero_le _, Nat.zero_le _⟩ (fun H locs w => ?_)
            refine lv_aload_n hx hb dX12_girl_65 rfl (lv_at hl 0 rfl) ?_
            refine mo_get X w hm hin 0 (by decide) (List.mem_of_getElem? (i := 2) rfl) rfl dX12_girl_66 ?_
            refine lv_bipush (v := 38) hx hb dX12_girl_69 (by decide) ?_
            refine lv_iload_n hx hb dX12_girl_71 rfl (lv_at hl 1 rfl) ?_
            refine lv_iadd hx hb dX12_girl_72 ?_
            refine lv_dup2_11 hx hb dX12_girl_73 rfl rfl ?_
            refine mo_iald X w hm 0 (by decide) (by decide) (38 + j) (hs_addI rfl rfl) (by show _ < 1400; omega) dX12_girl_74 ?_
            refine lv_iload_n hx hb dX12_girl_75 rfl (lv_at hl 2 rfl) ?_
            refine lv_iadd hx hb dX12_girl_76 ?_
            refine mo_iast X w hm 0 (by decide) (by decide) (38 + j) (hs_addI rfl rfl) (by show _ < 1400; omega) dX12_girl_77 (fun H locs w => ?_)
            refine lv_aload_n hx hb dX12_girl_78 rfl (lv_at hl 0 rfl) ?_
            refine mo_get X w hm hin 0 (by decide) (List.mem_of_getElem? (i := 2) rfl) rfl dX12_girl_79 ?_
            refine lv_bipush (v := 38) hx hb dX12_girl_82 (by decide) ?_
            refine lv_iload_n hx hb dX12_girl_84 rfl (lv_at hl 1 rfl) ?_
            refine lv_iadd hx hb dX12_girl_85 ?_
            refine mo_iald X w hm 0 (by decide) (by decide) (38 + j) (hs_addI rfl rfl) (by show _ < 1400; omega) dX12_girl_86 ?_
            exact hend H locs ((mo_w (sp_minds M a) 0 (38 + j) (((sp_minds M a) 0 (38 + j) + b))) 0 (38 + j)) (L, mo_F D f mo ma (mo_w (sp_minds M a) 0 (38 + j) (((sp_minds M a) 0 (38 + j) + b)))) _ ls w ⟨(by simp only [mo_w, va_up_self]; rw [sp_minds_0 M a (by omega)]; (try simp only [lg_cmp_le, lg_cmp_ge, lg_cmp_lt, lg_cmp_gt, ← Int32.not_lt, ← Int64.not_lt, Classical.not_not] at c_5 c_10 c_15 c_22 c_41); first | (simp [sp_girl, c_5, c_10, c_15, c_22, c_41, hjc]; done) | (simp [sp_girl, c_5, c_10, eq_true c_15, c_22, c_41, hjc]; done) | (exfalso; clear hend ; simp_all; done)), (congrArg (fun z => (L, mo_F D f mo ma z)) (by rw [sp_minds_0 M a (by omega)]; (try simp only [lg_cmp_le, lg_cmp_ge, lg_cmp_lt, lg_cmp_gt, ← Int32.not_lt, ← Int64.not_lt, Classical.not_not] at c_5 c_10 c_15 c_22 c_41); first | (simp [sp_girl, c_5, c_10, c_15, c_22, c_41, hjc]; done) | (simp [sp_girl, c_5, c_10, eq_true c_15, c_22, c_41, hjc]; done) | (exfalso; clear hend ; simp_all; done)))⟩ rfl dX12_girl_87
          · refine lv_aload_n hx hb dX12_girl_44 rfl (lv_at hl 0 rfl) ?_
            refine mo_get X w hm hin 0 (by decide) (List.mem_of_getElem? (i := 2) rfl) rfl dX12_girl_45 ?_
            refine lv_bipush (v := 38) hx hb dX12_girl_48 (by decide) ?_
            refine lv_iload_n hx hb dX12_girl_50 rfl (lv_at hl 1 rfl) ?_
            refine lv_iadd hx hb dX12_girl_51 ?_
            refine mo_iald X w hm 0 (by decide) (by decide) (38 + j) (hs_addI rfl rfl) (by show _ < 1400; omega) dX12_girl_52 ?_
            refine lv_bipush (v := 9) hx hb dX12_girl_53 (by decide) ?_
            refine lv_icmp_ne (tgt := 61) hx hb dX12_girl_55 (by decide) (fun c_55 => ?_) (fun c_55 => ?_)
            · refine lv_aload_n hx hb dX12_girl_61 rfl (lv_at hl 0 rfl) ?_
              refine hg_vvF (As := []) (rest := []) X w (c_X12_minds l D b0 L f mo ma M hm a ha ha24) (cwV 0 hts gX12_girl_X12_minds rfl rfl rfl hdX12_minds ⟨Nat.le_of_ble_eq_true rfl, Nat.le_of_ble_eq_true rfl⟩) hm.1 (mo_at0 D f mo ma _) rfl rfl rfl hl.1 rfl (Nat.le_of_ble_eq_true rfl) dX12_girl_62 ⟨Nat.zero_le _, Nat.zero_le _⟩ (fun H locs w => ?_)
              refine lv_aload_n hx hb dX12_girl_65 rfl (lv_at hl 0 rfl) ?_
              refine mo_get X w hm hin 0 (by decide) (List.mem_of_getElem? (i := 2) rfl) rfl dX12_girl_66 ?_
              refine lv_bipush (v := 38) hx hb dX12_girl_69 (by decide) ?_
              refine lv_iload_n hx hb dX12_girl_71 rfl (lv_at hl 1 rfl) ?_
              refine lv_iadd hx hb dX12_girl_72 ?_
              refine lv_dup2_11 hx hb dX12_girl_73 rfl rfl ?_
              refine mo_iald X w hm 0 (by decide) (by decide) (38 + j) (hs_addI rfl rfl) (by show _ < 1400; omega) dX12_girl_74 ?_
              refine lv_iload_n hx hb dX12_girl_75 rfl (lv_at hl 2 rfl) ?_
              refine lv_iadd hx hb dX12_girl_76 ?_
              refine mo_iast X w hm 0 (by decide) (by decide) (38 + j) (hs_addI rfl rfl) (by show _ < 1400; omega) dX12_girl_77 (fun H locs w => ?_)
              refine lv_aload_n hx hb dX12_girl_78 rfl (lv_at hl 0 rfl) ?_
              refine mo_get X w hm hin 0 (by decide) (List.mem_of_getElem? (i := 2) rfl) rfl dX12_girl_79 ?_
              refine lv_bipush (v := 38) hx hb dX12_girl_82 (by decide) ?_
              refine lv_iload_n hx hb dX12_girl_84 rfl (lv_at hl 1 rfl) ?_
              refine lv_iadd hx hb dX12_girl_85 ?_
              refine mo_iald X w hm 0 (by decide) (by decide) (38 + j) (hs_addI rfl rfl) (by show _ < 1400; omega) dX12_girl_86 ?_
              exact hend H locs ((mo_w (sp_minds M a) 0 (38 + j) (((sp_minds M a) 0 (38 + j) + b))) 0 (38 + j)) (L, mo_F D f mo ma (mo_w (sp_minds M a) 0 (38 + j) (((sp_minds M a) 0 (38 + j) + b)))) _ ls w ⟨(by simp only [mo_w, va_up_self]; rw [sp_minds_0 M a (by omega)]; (try simp only [lg_cmp_le, lg_cmp_ge, lg_cmp_lt, lg_cmp_gt, ← Int32.not_lt, ← Int64.not_lt, Classical.not_not] at c_5 c_10 c_15 c_22 c_41 c_55); first | (simp [sp_girl, c_5, c_10, c_15, c_22, c_41, c_55, hjc]; done) | (simp [sp_girl, c_5, c_10, eq_true c_15, c_22, c_41, c_55, hjc]; done) | (exfalso; clear hend ; simp_all; done)), (congrArg (fun z => (L, mo_F D f mo ma z)) (by rw [sp_minds_0 M a (by omega)]; (try simp only [lg_cmp_le, lg_cmp_ge, lg_cmp_lt, lg_cmp_gt, ← Int32.not_lt, ← Int64.not_lt, Classical.not_not] at c_5 c_10 c_15 c_22 c_41 c_55); first | (simp [sp_girl, c_5, c_10, c_15, c_22, c_41, c_55, hjc]; done) | (simp [sp_girl, c_5, c_10, eq_true c_15, c_22, c_41, c_55, hjc]; done) | (exfalso; clear hend ; simp_all; done)))⟩ rfl dX12_girl_87
            · refine lv_ldc (v := (-1000003)) hx hb hown (hts _ (List.mem_of_getElem? (i := 4) rfl)) dX12_girl_58 ?_
              exact hend H locs ((-1000003)) (L, mo_F D f mo ma M) _ ls w ⟨(by (try simp only [lg_cmp_le, lg_cmp_ge, lg_cmp_lt, lg_cmp_gt, ← Int32.not_lt, ← Int64.not_lt, Classical.not_not] at c_5 c_10 c_15 c_22 c_41 c_55); first | (simp [sp_girl, c_5, c_10, c_15, c_22, c_41, c_55, hjc]; done) | (simp [sp_girl, c_5, c_10, eq_true c_15, c_22, c_41, eq_true c_55, hjc]; done) | (exfalso; clear hend; simp_all; done)), (congrArg (fun z => (L, mo_F D f mo ma z)) (by (try simp only [lg_cmp_le, lg_cmp_ge, lg_cmp_lt, lg_cmp_gt, ← Int32.not_lt, ← Int64.not_lt, Classical.not_not] at c_5 c_10 c_15 c_22 c_41 c_55); first | (simp [sp_girl, c_5, c_10, c_15, c_22, c_41, c_55, hjc]; done) | (simp [sp_girl, c_5, c_10, eq_true c_15, c_22, c_41, eq_true c_55, hjc]; done) | (exfalso; clear hend; simp_all; done)))⟩ rfl dX12_girl_60
        · refine lv_aload_n hx hb dX12_girl_25 rfl (lv_at hl 0 rfl) ?_
          refine mo_get X w hm hin 0 (by decide) (List.mem_of_getElem? (i := 2) rfl) rfl dX12_girl_26 ?_
          refine lv_bipush (v := 38) hx hb dX12_girl_29 (by decide) ?_
          refine lv_iload_n hx hb dX12_girl_31 rfl (lv_at hl 1 rfl) ?_
          refine lv_iadd hx hb dX12_girl_32 ?_
          refine mo_iald X w hm 0 (by decide) (by decide) (38 + j) (hs_addI rfl rfl) (by show _ < 1400; omega) dX12_girl_33 ?_
          refine lv_if_ne (tgt := 40) hx hb dX12_girl_34 (by decide) (fun c_34 => ?_) (fun c_34 => ?_)
          · refine lv_iload_n hx hb dX12_girl_40 rfl (lv_at hl 2 rfl) ?_
            refine lv_if_le (tgt := 61) hx hb dX12_girl_41 (by decide) (fun c_41 => ?_) (fun c_41 => ?_)
            · refine lv_aload_n hx hb dX12_girl_61 rfl (lv_at hl 0 rfl) ?_
              refine hg_vvF (As := []) (rest := []) X w (c_X12_minds l D b0 L f mo ma M hm a ha ha24) (cwV 0 hts gX12_girl_X12_minds rfl rfl rfl hdX12_minds ⟨Nat.le_of_ble_eq_true rfl, Nat.le_of_ble_eq_true rfl⟩) hm.1 (mo_at0 D f mo ma _) rfl rfl rfl hl.1 rfl (Nat.le_of_ble_eq_true rfl) dX12_girl_62 ⟨Nat.zero_le _, Nat.zero_le _⟩ (fun H locs w => ?_)
              refine lv_aload_n hx hb dX12_girl_65 rfl (lv_at hl 0 rfl) ?_
              refine mo_get X w hm hin 0 (by decide) (List.mem_of_getElem? (i := 2) rfl) rfl dX12_girl_66 ?_
              refine lv_bipush (v := 38) hx hb dX12_girl_69 (by decide) ?_
              refine lv_iload_n hx hb dX12_girl_71 rfl (lv_at hl 1 rfl) ?_
              refine lv_iadd hx hb dX12_girl_72 ?_
              refine lv_dup2_11 hx hb dX12_girl_73 rfl rfl ?_
              refine mo_iald X w hm 0 (by decide) (by decide) (38 + j) (hs_addI rfl rfl) (by show _ < 1400; omega) dX12_girl_74 ?_
              refine lv_iload_n hx hb dX12_girl_75 rfl (lv_at hl 2 rfl) ?_
              refine lv_iadd hx hb dX12_girl_76 ?_
              refine mo_iast X w hm 0 (by decide) (by decide) (38 + j) (hs_addI rfl rfl) (by show _ < 1400; omega) dX12_girl_77 (fun H locs w => ?_)
              refine lv_aload_n hx hb dX12_girl_78 rfl (lv_at hl 0 rfl) ?_
              refine mo_get X w hm hin 0 (by decide) (List.mem_of_getElem? (i := 2) rfl) rfl dX12_girl_79 ?_
              refine lv_bipush (v := 38) hx hb dX12_girl_82 (by decide) ?_
              refine lv_iload_n hx hb dX12_girl_84 rfl (lv_at hl 1 rfl) ?_
              refine lv_iadd hx hb dX12_girl_85 ?_
              refine mo_iald X w hm 0 (by decide) (by decide) (38 + j) (hs_addI rfl rfl) (by show _ < 1400; omega) dX12_girl_86 ?_
              exact hend H locs ((mo_w (sp_minds M a) 0 (38 + j) (((sp_minds M a) 0 (38 + j) + b))) 0 (38 + j)) (L, mo_F D f mo ma (mo_w (sp_minds M a) 0 (38 + j) (((sp_minds M a) 0 (38 + j) + b)))) _ ls w ⟨(by simp only [mo_w, va_up_self]; rw [sp_minds_0 M a (by omega)]; (try simp only [lg_cmp_le, lg_cmp_ge, lg_cmp_lt, lg_cmp_gt, ← Int32.not_lt, ← Int64.not_lt, Classical.not_not] at c_5 c_10 c_15 c_22 c_34 c_41); first | (simp [sp_girl, c_5, c_10, c_15, c_22, c_34, c_41, hjc]; done) | (simp [sp_girl, c_5, c_10, eq_true c_15, c_22, c_34, c_41, hjc]; done) | (exfalso; clear hend ; simp_all; done)), (congrArg (fun z => (L, mo_F D f mo ma z)) (by rw [sp_minds_0 M a (by omega)]; (try simp only [lg_cmp_le, lg_cmp_ge, lg_cmp_lt, lg_cmp_gt, ← Int32.not_lt, ← Int64.not_lt, Classical.not_not] at c_5 c_10 c_15 c_22 c_34 c_41); first | (simp [sp_girl, c_5, c_10, c_15, c_22, c_34, c_41, hjc]; done) | (simp [sp_girl, c_5, c_10, eq_true c_15, c_22, c_34, c_41, hjc]; done) | (exfalso; clear hend ; simp_all; done)))⟩ rfl dX12_girl_87
            · refine lv_aload_n hx hb dX12_girl_44 rfl (lv_at hl 0 rfl) ?_
              refine mo_get X w hm hin 0 (by decide) (List.mem_of_getElem? (i := 2) rfl) rfl dX12_girl_45 ?_
              refine lv_bipush (v := 38) hx hb dX12_girl_48 (by decide) ?_
              refine lv_iload_n hx hb dX12_girl_50 rfl (lv_at hl 1 rfl) ?_
              refine lv_iadd hx hb dX12_girl_51 ?_
              refine mo_iald X w hm 0 (by decide) (by decide) (38 + j) (hs_addI rfl rfl) (by show _ < 1400; omega) dX12_girl_52 ?_
              refine lv_bipush (v := 9) hx hb dX12_girl_53 (by decide) ?_
              refine lv_icmp_ne (tgt := 61) hx hb dX12_girl_55 (by decide) (fun c_55 => ?_) (fun c_55 => ?_)
              · refine lv_aload_n hx hb dX12_girl_61 rfl (lv_at hl 0 rfl) ?_
                refine hg_vvF (As := []) (rest := []) X w (c_X12_minds l D b0 L f mo ma M hm a ha ha24) (cwV 0 hts gX12_girl_X12_minds rfl rfl rfl hdX12_minds ⟨Nat.le_of_ble_eq_true rfl, Nat.le_of_ble_eq_true rfl⟩) hm.1 (mo_at0 D f mo ma _) rfl rfl rfl hl.1 rfl (Nat.le_of_ble_eq_true rfl) dX12_girl_62 ⟨Nat.zero_le _, Nat.zero_le _⟩ (fun H locs w => ?_)
                refine lv_aload_n hx hb dX12_girl_65 rfl (lv_at hl 0 rfl) ?_
                refine mo_get X w hm hin 0 (by decide) (List.mem_of_getElem? (i := 2) rfl) rfl dX12_girl_66 ?_
                refine lv_bipush (v := 38) hx hb dX12_girl_69 (by decide) ?_
                refine lv_iload_n hx hb dX12_girl_71 rfl (lv_at hl 1 rfl) ?_
                refine lv_iadd hx hb dX12_girl_72 ?_
                refine lv_dup2_11 hx hb dX12_girl_73 rfl rfl ?_
                refine mo_iald X w hm 0 (by decide) (by decide) (38 + j) (hs_addI rfl rfl) (by show _ < 1400; omega) dX12_girl_74 ?_
                refine lv_iload_n hx hb dX12_girl_75 rfl (lv_at hl 2 rfl) ?_
                refine lv_iadd hx hb dX12_girl_76 ?_
                refine mo_iast X w hm 0 (by decide) (by decide) (38 + j) (hs_addI rfl rfl) (by show _ < 1400; omega) dX12_girl_77 (fun H locs w => ?_)
                refine lv_aload_n hx hb dX12_girl_78 rfl (lv_at hl 0 rfl) ?_
                refine mo_get X w hm hin 0 (by decide) (List.mem_of_getElem? (i := 2) rfl) rfl dX12_girl_79 ?_
                refine lv_bipush (v := 38) hx hb dX12_girl_82 (by decide) ?_
                refine lv_iload_n hx hb dX12_girl_84 rfl (lv_at hl 1 rfl) ?_
                refine lv_iadd hx hb dX12_girl_85 ?_
                refine mo_iald X w hm 0 (by decide) (by decide) (38 + j) (hs_addI rfl rfl) (by show _ < 1400; omega) dX12_girl_86 ?_
                exact hend H locs ((mo_w (sp_minds M a) 0 (38 + j) (((sp_minds M a) 0 (38 + j) + b))) 0 (38 + j)) (L, mo_F D f mo ma (mo_w (sp_minds M a) 0 (38 + j) (((sp_minds M a) 0 (38 + j) + b)))) _ ls w ⟨(by simp only [mo_w, va_up_self]; rw [sp_minds_0 M a (by omega)]; (try simp only [lg_cmp_le, lg_cmp_ge, lg_cmp_lt, lg_cmp_gt, ← Int32.not_lt, ← Int64.not_lt, Classical.not_not] at c_5 c_10 c_15 c_22 c_34 c_41 c_55); first | (simp [sp_girl, c_5, c_10, c_15, c_22, c_34, c_41, c_55, hjc]; done) | (simp [sp_girl, c_5, c_10, eq_true c_15, c_22, c_34, c_41, c_55, hjc]; done) | (exfalso; clear hend ; simp_all; done)), (congrArg (fun z => (L, mo_F D f mo ma z)) (by rw [sp_minds_0 M a (by omega)]; (try simp only [lg_cmp_le, lg_cmp_ge, lg_cmp_lt, lg_cmp_gt, ← Int32.not_lt, ← Int64.not_lt, Classical.not_not] at c_5 c_10 c_15 c_22 c_34 c_41 c_55); first | (simp [sp_girl, c_5, c_10, c_15, c_22, c_34, c_41, c_55, hjc]; done) | (simp [sp_girl, c_5, c_10, eq_true c_15, c_22, c_34, c_41, c_55, hjc]; done) | (exfalso; clear hend ; simp_all; done)))⟩ rfl dX12_girl_87
              · refine lv_ldc (v := (-1000003)) hx hb hown (hts _ (List.mem_of_getElem? (i := 4) rfl)) dX12_girl_58 ?_
                exact hend H locs ((-1000003)) (L, mo_F D f mo ma M) _ ls w ⟨(by (try simp only [lg_cmp_le, lg_cmp_ge, lg_cmp_lt, lg_cmp_gt, ← Int32.not_lt, ← Int64.not_lt, Classical.not_not] at c_5 c_10 c_15 c_22 c_34 c_41 c_55); first | (simp [sp_girl, c_5, c_10, c_15, c_22, c_34, c_41, c_55, hjc]; done) | (simp [sp_girl, c_5, c_10, eq_true c_15, c_22, c_34, c_41, eq_true c_55, hjc]; done) | (exfalso; clear hend; simp_all; done)), (congrArg (fun z => (L, mo_F D f mo ma z)) (by (try simp only [lg_cmp_le, lg_cmp_ge, lg_cmp_lt, lg_cmp_gt, ← Int32.not_lt, ← Int64.not_lt, Classical.not_not] at c_5 c_10 c_15 c_22 c_34 c_41 c_55); first | (simp [sp_girl, c_5, c_10, c_15, c_22, c_34, c_41, c_55, hjc]; done) | (simp [sp_girl, c_5, c_10, eq_true c_15, c_22, c_34, c_41, eq_true c_55, hjc]; done) | (exfalso; clear hend; simp_all; done)))⟩ rfl dX12_girl_60
          · refine lv_ldc (v := (-1000002)) hx hb hown (hts _ (List.mem_of_getElem? (i := 3) rfl)) dX12_girl_37 ?_
            exact hend H locs ((-1000002)) (L, mo_F D f mo ma M) _ ls w ⟨(by (try simp only [lg_cmp_le, lg_cmp_ge, lg_cmp_lt, lg_cmp_gt, ← Int32.not_lt, ← Int64.not_lt, Classical.not_not] at c_5 c_10 c_15 c_22 c_34); first | (simp [sp_girl, c_5, c_10, c_15, c_22, c_34, hjc]; done) | (simp [sp_girl, c_5, c_10, eq_true c_15, c_22, eq_true c_34, hjc]; done) | (exfalso; clear hend; simp_all; done)), (congrArg (fun z => (L, mo_F D f mo ma z)) (by (try simp only [lg_cmp_le, lg_cmp_ge, lg_cmp_lt, lg_cmp_gt, ← Int32.not_lt, ← Int64.not_lt, Classical.not_not] at c_5 c_10 c_15 c_22 c_34); first | (simp [sp_girl, c_5, c_10, c_15, c_22, c_34, hjc]; done) | (simp [sp_girl, c_5, c_10, eq_true c_15, c_22, eq_true c_34, hjc]; done) | (exfalso; clear hend; simp_all; done)))⟩ rfl dX12_girl_39
      · refine lv_ldc (v := (-1000001)) hx hb hown (hts _ (List.mem_of_getElem? (i := 1) rfl)) dX12_girl_18 ?_
        exact hend H locs ((-1000001)) (L, mo_F D f mo ma M) _ ls w ⟨(by (try simp only [lg_cmp_le, lg_cmp_ge, lg_cmp_lt, lg_cmp_gt, ← Int32.not_lt, ← Int64.not_lt, Classical.not_not] at c_5 c_10 c_15); first | (simp [sp_girl, c_5, c_10, c_15, hjc]; done) | (simp [sp_girl, c_5, c_10, c_15, hjc]; done) | (exfalso; clear hend; simp_all; done)), (congrArg (fun z => (L, mo_F D f mo ma z)) (by (try simp only [lg_cmp_le, lg_cmp_ge, lg_cmp_lt, lg_cmp_gt, ← Int32.not_lt, ← Int64.not_lt, Classical.not_not] at c_5 c_10 c_15); first | (simp [sp_girl, c_5, c_10, c_15, hjc]; done) | (simp [sp_girl, c_5, c_10, c_15, hjc]; done) | (exfalso; clear hend; simp_all; done)))⟩ rfl dX12_girl_20
set_option maxRecDepth 100000 in
set_option maxHeartbeats 4000000 in
/-- slide -/
theorem c_X12_slide (l : Launch) (D : va_G) (b0 : Nat) (L : List Nat) (f : Nat → va_E) (mo : Nat) (ma : Nat → Nat) (M : Nat → Nat → Int32) (hm : mo_ok L mo ma) (n nr : Nat) (hv : hs_ok (M 0) n nr) (a : Nat) (ha : M 1 0 = nI a) (ha24 : a ≤ 24) (x place : Int32) : mo_Fi l yX12_slide wsX12_slide ({ frames := 2, cells := 0, slots := 0, locals := 46 }) D b0 L f mo ma M [.int (x), .int (place)] ((sp_slide M n a x place).1) ((sp_slide M n a x place).2) := by
  refine hg_in_i (cc := cX12_slide) (nL := 4) (by decide) rfl (Nat.le_of_ble_eq_true rfl) (fun p e s m args below meth c R Q X hR hend H locs ls w hl => ?_)
  subst hR
  obtain ⟨hx, hb, hml, hown, hts⟩ := id X.1
  have hin : ∀ w ∈ wsX120, w ∈ wsX12_slide := fun w h => List.mem_cons_of_mem _ (List.mem_append_right _ h)
  have hl : lv_has ls 4 [(0, .ref mo), (1, .int (x)), (2, .int (place))] := hl
  obtain ⟨hn, hn6, hnr, hnr3, htt⟩ := id hv
  refine lv_aload_n hx hb dX12_slide_0 rfl (lv_at hl 0 rfl) ?_
  refine lv_iload_n hx hb dX12_slide_1 rfl (lv_at hl 1 rfl) ?_
  refine hg_viF (r := hs_isSt (M 0) x) (As := [.int (x)]) (rest := []) X w (c_X12_isStall l D b0 L f mo ma M hm x) (cwV 1 hts gX12_slide_X12_isStall rfl rfl rfl hdX12_isStall ⟨Nat.le_of_ble_eq_true rfl, Nat.le_of_ble_eq_true rfl⟩) hm.1 (mo_at0 D f mo ma _) rfl rfl rfl hl.1 rfl (Nat.le_of_ble_eq_true rfl) dX12_slide_2 ⟨Nat.zero_le _, Nat.zero_le _⟩ (fun H locs w => ?_)
  refine lv_if_eq (tgt := 20) hx hb dX12_slide_5 (by decide) (fun c_5 => ?_) (fun c_5 => ?_)
  · refine lv_ldc (v := (-1000001)) hx hb hown (hts _ (List.mem_of_getElem? (i := 2) rfl)) dX12_slide_20 ?_
    exact hend H locs ((-1000001)) (L, mo_F D f mo ma M) _ ls w ⟨(by (try simp only [lg_cmp_le, lg_cmp_ge, lg_cmp_lt, lg_cmp_gt, ← Int32.not_lt, ← Int64.not_lt, Classical.not_not] at c_5); first | (simp [sp_slide, c_5]; done) | (simp [sp_slide, eq_true c_5]; done) | (exfalso; clear hend; simp_all; done)), (congrArg (fun z => (L, mo_F D f mo ma z)) (by (try simp only [lg_cmp_le, lg_cmp_ge, lg_cmp_lt, lg_cmp_gt, ← Int32.not_lt, ← Int64.not_lt, Classical.not_not] at c_5); first | (simp [sp_slide, c_5]; done) | (simp [sp_slide, eq_true c_5]; done) | (exfalso; clear hend; simp_all; done)))⟩ rfl dX12_slide_22
  · obtain ⟨j, hj, rfl⟩ := hs_st_1 hv c_5
    have hjc := hs_cl hj (by omega)
    refine lv_iload_n hx hb dX12_slide_8 rfl (lv_at hl 2 rfl) ?_
    refine lv_i2l hx hb dX12_slide_9 rfl ?_
    refine lv_lconst (v := 1) hx hb dX12_slide_10 (by decide) ?_
    refine lv_ldc2 (v := 8) hx hb hown (hts _ (List.mem_of_getElem? (i := 1) rfl)) dX12_slide_11 ?_
    refine hg_siF (r := hs_in place 1 8) (As := [.long ((place).toInt64), .long (1), .long (8)]) (rest := []) X w (c_X12_in l D b0 L _ ((place).toInt64) 1 8 place 1 8 rfl (by decide) (by decide)) (va_cwS 3 hts gX12_slide_X12_in rfl rfl rfl hdX12_in ⟨Nat.le_of_ble_eq_true rfl, Nat.le_of_ble_eq_true rfl⟩) rfl hl.1 rfl (Nat.le_of_ble_eq_true rfl) dX12_slide_14 ⟨Nat.zero_le _, Nat.zero_le _⟩ (fun H locs w => ?_)
    refine lv_if_ne (tgt := 23) hx hb dX12_slide_17 (by decide) (fun c_17 => ?_) (fun c_17 => ?_)
    · refine lv_aload_n hx hb dX12_slide_23 rfl (lv_at hl 0 rfl) ?_
      refine lv_iconst (v := 0) hx hb dX12_slide_24 (by decide) ?_
      refine lv_aload_n hx hb dX12_slide_25 rfl (lv_at hl 0 rfl) ?_
      refine mo_get X w hm hin 0 (by decide) (List.mem_of_getElem? (i := 3) rfl) rfl dX12_slide_26 ?_
      refine lv_bipush (v := 14) hx hb dX12_slide_29 (by decide) ?_
      refine lv_iload_n hx hb dX12_slide_31 rfl (lv_at hl 1 rfl) ?_
      refine lv_iadd hx hb dX12_slide_32 ?_
      refine mo_iald X w hm 0 (by decide) (by decide) (14 + j) (hs_addI rfl rfl) (by show _ < 1400; omega) dX12_slide_33 ?_
      refine lv_iload_n hx hb dX12_slide_34 rfl (lv_at hl 2 rfl) ?_
      refine hg_viF (r := (hs_who (M 0) (M 0 (14 + j)) place n)) (As := [.int (0), .int (M 0 (14 + j)), .int (place)]) (rest := []) X w (c_X12_whoIs0 l D b0 L f mo ma M hm n hn hn6 (M 0 (14 + j)) place) (cwV 3 hts gX12_slide_X12_whoIs rfl rfl rfl hdX12_whoIs ⟨Nat.le_of_ble_eq_true rfl, Nat.le_of_ble_eq_true rfl⟩) hm.1 (mo_at0 D f mo ma _) rfl rfl rfl hl.1 rfl (Nat.le_of_ble_eq_true rfl) dX12_slide_35 ⟨Nat.zero_le _, Nat.zero_le _⟩ (fun H locs w => ?_)
      refine lv_if_lt (tgt := 44) hx hb dX12_slide_38 (by decide) (fun c_38 => ?_) (fun c_38 => ?_)
      · refine lv_aload_n hx hb dX12_slide_44 rfl (lv_at hl 0 rfl) ?_
        refine hg_vvF (As := []) (rest := []) X w (c_X12_minds l D b0 L f mo ma M hm a ha ha24) (cwV 0 hts gX12_slide_X12_minds rfl rfl rfl hdX12_minds ⟨Nat.le_of_ble_eq_true rfl, Nat.le_of_ble_eq_true rfl⟩) hm.1 (mo_at0 D f mo ma _) rfl rfl rfl hl.1 rfl (Nat.le_of_ble_eq_true rfl) dX12_slide_45 ⟨Nat.zero_le _, Nat.zero_le _⟩ (fun H locs w => ?_)
        refine lv_aload_n hx hb dX12_slide_48 rfl (lv_at hl 0 rfl) ?_
        refine mo_get X w hm hin 0 (by decide) (List.mem_of_getElem? (i := 3) rfl) rfl dX12_slide_49 ?_
        refine lv_bipush (v := 20) hx hb dX12_slide_52 (by decide) ?_
        refine lv_iload_n hx hb dX12_slide_54 rfl (lv_at hl 1 rfl) ?_
        refine lv_iadd hx hb dX12_slide_55 ?_
        refine mo_iald X w hm 0 (by decide) (by decide) (20 + j) (hs_addI rfl rfl) (by show _ < 1400; omega) dX12_slide_56 ?_
        refine lv_istore_n (lv' := [(3, .int ((sp_minds M a) 0 (20 + j))), (0, .ref mo), (1, .int (nI j)), (2, .int (place))]) hx hb dX12_slide_57 rfl hl (by decide) rfl (fun ls hl => ?_)
        refine lv_aload_n hx hb dX12_slide_58 rfl (lv_at hl 1 rfl) ?_
        refine mo_get X w hm hin 0 (by decide) (List.mem_of_getElem? (i := 3) rfl) rfl dX12_slide_59 ?_
        refine lv_bipush (v := 20) hx hb dX12_slide_62 (by decide) ?_
        refine lv_iload_n hx hb dX12_slide_64 rfl (lv_at hl 2 rfl) ?_
        refine lv_iadd hx hb dX12_slide_65 ?_
        refine lv_iload_n hx hb dX12_slide_66 rfl (lv_at hl 3 rfl) ?_
        refine mo_iast X w hm 0 (by decide) (by decide) (20 + j) (hs_addI rfl rfl) (by show _ < 1400; omega) dX12_slide_67 (fun H locs w => ?_)
        refine lv_iload_n hx hb dX12_slide_68 rfl (lv_at hl 0 rfl) ?_
        exact hend H locs ((sp_minds M a) 0 (20 + j)) (L, mo_F D f mo ma (mo_w (sp_minds M a) 0 (20 + j) (place))) _ ls w ⟨(by rw [sp_minds_0 M a (by omega)]; (try simp only [lg_cmp_le, lg_cmp_ge, lg_cmp_lt, lg_cmp_gt, ← Int32.not_lt, ← Int64.not_lt, Classical.not_not] at c_5 c_17 c_38); first | (simp [sp_slide, c_5, c_17, c_38, hjc]; done) | (simp [sp_slide, c_5, c_17, c_38, hjc]; done) | (exfalso; clear hend ; simp_all; done)), (congrArg (fun z => (L, mo_F D f mo ma z)) (by (try simp only [lg_cmp_le, lg_cmp_ge, lg_cmp_lt, lg_cmp_gt, ← Int32.not_lt, ← Int64.not_lt, Classical.not_not] at c_5 c_17 c_38); first | (simp [sp_slide, c_5, c_17, c_38, hjc]; done) | (simp [sp_slide, c_5, c_17, c_38, hjc]; done) | (exfalso; clear hend; simp_all; done)))⟩ rfl dX12_slide_69
      · refine lv_ldc (v := (-1000002)) hx hb hown (hts _ (List.mem_of_getElem? (i := 4) rfl)) dX12_slide_41 ?_
        exact hend H locs ((-1000002)) (L, mo_F D f mo ma M) _ ls w ⟨(by (try simp only [lg_cmp_le, lg_cmp_ge, lg_cmp_lt, lg_cmp_gt, ← Int32.not_lt, ← Int64.not_lt, Classical.not_not] at c_5 c_17 c_38); first | (simp [sp_slide, c_5, c_17, c_38, hjc]; done) | (simp [sp_slide, c_5, c_17, c_38, hjc]; done) | (exfalso; clear hend; simp_all; done)), (congrArg (fun z => (L, mo_F D f mo ma z)) (by (try simp only [lg_cmp_le, lg_cmp_ge, lg_cmp_lt, lg_cmp_gt, ← Int32.not_lt, ← Int64.not_lt, Classical.not_not] at c_5 c_17 c_38); first | (simp [sp_slide, c_5, c_17, c_38, hjc]; done) | (simp [sp_slide, c_5, c_17, c_38, hjc]; done) | (exfalso; clear hend; simp_all; done)))⟩ rfl dX12_slide_43
    · refine lv_ldc (v := (-1000001)) hx hb hown (hts _ (List.mem_of_getElem? (i := 2) rfl)) dX12_slide_20 ?_
      exact hend H locs ((-1000001)) (L, mo_F D f mo ma M) _ ls w ⟨(by (try simp only [lg_cmp_le, lg_cmp_ge, lg_cmp_lt, lg_cmp_gt, ← Int32.not_lt, ← Int64.not_lt, Classical.not_not] at c_5 c_17); first | (simp [sp_slide, c_5, c_17, hjc]; done) | (simp [sp_slide, c_5, eq_true c_17, hjc]; done) | (exfalso; clear hend; simp_all; done)), (congrArg (fun z => (L, mo_F D f mo ma z)) (by (try simp only [lg_cmp_le, lg_cmp_ge, lg_cmp_lt, lg_cmp_gt, ← Int32.not_lt, ← Int64.not_lt, Classical.not_not] at c_5 c_17); first | (simp [sp_slide, c_5, c_17, hjc]; done) | (simp [sp_slide, c_5, eq_true c_17, hjc]; done) | (exfalso; clear hend; simp_all; done)))⟩ rfl dX12_slide_22
set_option maxRecDepth 100000 in
set_option maxHeartbeats 4000000 in
/-- unload -/
theorem c_X12_unload (l : Launch) (D : va_G) (b0 : Nat) (L : List Nat) (f : Nat → va_E) (mo : Nat) (ma : Nat → Nat) (M : Nat → Nat → Int32) (hm : mo_ok L mo ma) (n nr : Nat) (hv : hs_ok (M 0) n nr) (a : Nat) (ha : M 1 0 = nI a) (ha24 : a ≤ 24) (x off : Int32) : mo_Fi l yX12_unload wsX12_unload ({ frames := 2, cells := 0, slots := 0, locals := 46 }) D b0 L f mo ma M [.int (x), .int (off)] ((sp_unload M a x off).1) ((sp_unload M a x off).2) := by
  refine hg_in_i (cc := cX12_unload) (nL := 3) (by decide) rfl (Nat.le_of_ble_eq_true rfl) (fun p e s m args below meth c R Q X hR hend H locs ls w hl => ?_)
  subst hR
  obtain ⟨hx, hb, hml, hown, hts⟩ := id X.1
  have hin : ∀ w ∈ wsX120, w ∈ wsX12_unload := fun w h => List.mem_cons_of_mem _ (List.mem_append_right _ h)
  have hl : lv_has ls 3 [(0, .ref mo), (1, .int (x)), (2, .int (off))] := hl
  obtain ⟨hn, hn6, hnr, hnr3, htt⟩ := id hv
  refine lv_aload_n hx hb dX12_unload_0 rfl (lv_at hl 0 rfl) ?_
  refine lv_iload_n hx hb dX12_unload_1 rfl (lv_at hl 1 rfl) ?_
  refine hg_viF (r := hs_isSt (M 0) x) (As := [.int (x)]) (rest := []) X w (c_X12_isStall l D b0 L f mo ma M hm x) (cwV 1 hts gX12_unload_X12_isStall rfl rfl rfl hdX12_isStall ⟨Nat.le_of_ble_eq_true rfl, Nat.le_of_ble_eq_true rfl⟩) hm.1 (mo_at0 D f mo ma _) rfl rfl rfl hl.1 rfl (Nat.le_of_ble_eq_true rfl) dX12_unload_2 ⟨Nat.zero_le _, Nat.zero_le _⟩ (fun H locs w => ?_)
  refine lv_if_eq (tgt := 18) hx hb dX12_unload_5 (by decide) (fun c_5 => ?_) (fun c_5 => ?_)
  · refine lv_ldc (v := (-1000001)) hx hb hown (hts _ (List.mem_of_getElem? (i := 1) rfl)) dX12_unload_18 ?_
    exact hend H locs ((-1000001)) (L, mo_F D f mo ma M) _ ls w ⟨(by (try simp only [lg_cmp_le, lg_cmp_ge, lg_cmp_lt, lg_cmp_gt, ← Int32.not_lt, ← Int64.not_lt, Classical.not_not] at c_5); first | (simp [sp_unload, c_5]; done) | (simp [sp_unload, eq_true c_5]; done) | (exfalso; clear hend; simp_all; done)), (congrArg (fun z => (L, mo_F D f mo ma z)) (by (try simp only [lg_cmp_le, lg_cmp_ge, lg_cmp_lt, lg_cmp_gt, ← Int32.not_lt, ← Int64.not_lt, Classical.not_not] at c_5); first | (simp [sp_unload, c_5]; done) | (simp [sp_unload, eq_true c_5]; done) | (exfalso; clear hend; simp_all; done)))⟩ rfl dX12_unload_20
  · obtain ⟨j, hj, rfl⟩ := hs_st_1 hv c_5
    have hjc := hs_cl hj (by omega)
    refine lv_iload_n hx hb dX12_unload_8 rfl (lv_at hl 2 rfl) ?_
    refine lv_i2l hx hb dX12_unload_9 rfl ?_
    refine lv_lconst (v := 0) hx hb dX12_unload_10 (by decide) ?_
    refine lv_lconst (v := 1) hx hb dX12_unload_11 (by decide) ?_
    refine hg_siF (r := hs_in off 0 1) (As := [.long ((off).toInt64), .long (0), .long (1)]) (rest := []) X w (c_X12_in l D b0 L _ ((off).toInt64) 0 1 off 0 1 rfl (by decide) (by decide)) (va_cwS 3 hts gX12_unload_X12_in rfl rfl rfl hdX12_in ⟨Nat.le_of_ble_eq_true rfl, Nat.le_of_ble_eq_true rfl⟩) rfl hl.1 rfl (Nat.le_of_ble_eq_true rfl) dX12_unload_12 ⟨Nat.zero_le _, Nat.zero_le _⟩ (fun H locs w => ?_)
    refine lv_if_ne (tgt := 21) hx hb dX12_unload_15 (by decide) (fun c_15 => ?_) (fun c_15 => ?_)
    · refine lv_aload_n hx hb dX12_unload_21 rfl (lv_at hl 0 rfl) ?_
      refine mo_get X w hm hin 0 (by decide) (List.mem_of_getElem? (i := 2) rfl) rfl dX12_unload_22 ?_
      refine lv_bipush (v := 44) hx hb dX12_unload_25 (by decide) ?_
      refine lv_iload_n hx hb dX12_unload_27 rfl (lv_at hl 1 rfl) ?_
      refine lv_iadd hx hb dX12_unload_28 ?_
      refine mo_iald X w hm 0 (by decide) (by decide) (44 + j) (hs_addI rfl rfl) (by show _ < 1400; omega) dX12_unload_29 ?_
      refine lv_iload_n hx hb dX12_unload_30 rfl (lv_at hl 2 rfl) ?_
      refine lv_icmp_ne (tgt := 37) hx hb dX12_unload_31 (by decide) (fun c_31 => ?_) (fun c_31 => ?_)
      · refine lv_aload_n hx hb dX12_unload_37 rfl (lv_at hl 0 rfl) ?_
        refine hg_vvF (As := []) (rest := []) X w (c_X12_minds l D b0 L f mo ma M hm a ha ha24) (cwV 0 hts gX12_unload_X12_minds rfl rfl rfl hdX12_minds ⟨Nat.le_of_ble_eq_true rfl, Nat.le_of_ble_eq_true rfl⟩) hm.1 (mo_at0 D f mo ma _) rfl rfl rfl hl.1 rfl (Nat.le_of_ble_eq_true rfl) dX12_unload_38 ⟨Nat.zero_le _, Nat.zero_le _⟩ (fun H locs w => ?_)
        refine lv_aload_n hx hb dX12_unload_41 rfl (lv_at hl 0 rfl) ?_
        refine mo_get X w hm hin 0 (by decide) (List.mem_of_getElem? (i := 2) rfl) rfl dX12_unload_42 ?_
        refine lv_bipush (v := 44) hx hb dX12_unload_45 (by decide) ?_
        refine lv_iload_n hx hb dX12_unload_47 rfl (lv_at hl 1 rfl) ?_
        refine lv_iadd hx hb dX12_unload_48 ?_
        refine lv_iload_n hx hb dX12_unload_49 rfl (lv_at hl 2 rfl) ?_
        refine mo_iast X w hm 0 (by decide) (by decide) (44 + j) (hs_addI rfl rfl) (by show _ < 1400; omega) dX12_unload_50 (fun H locs w => ?_)
        refine lv_aload_n hx hb dX12_unload_51 rfl (lv_at hl 0 rfl) ?_
        refine lv_iload_n hx hb dX12_unload_52 rfl (lv_at hl 1 rfl) ?_
        refine hg_viF (r := (hs_weight ((mo_w (sp_minds M a) 0 (44 + j) (off)) 0) j)) (As := [.int (nI j)]) (rest := []) X w (c_X12_weightOf l D b0 L f mo ma (mo_w (sp_minds M a) 0 (44 + j) (off)) hm j (by omega)) (cwV 1 hts gX12_unload_X12_weightOf rfl rfl rfl hdX12_weightOf ⟨Nat.le_of_ble_eq_true rfl, Nat.le_of_ble_eq_true rfl⟩) hm.1 (mo_at0 D f mo ma _) rfl rfl rfl hl.1 rfl (Nat.le_of_ble_eq_true rfl) dX12_unload_53 ⟨Nat.zero_le _, Nat.zero_le _⟩ (fun H locs w => ?_)
        exact hend H locs ((hs_weight ((mo_w (sp_minds M a) 0 (44 + j) (off)) 0) j)) (L, mo_F D f mo ma (mo_w (sp_minds M a) 0 (44 + j) (off))) _ ls w ⟨(by have e1 := hs_weight_c (g := mo_w (sp_minds M a) 0 (44 + j) off 0) (h := va_up (M 0) (44 + j) off) j (by omega) (fun t ht => (by rw [mo_w_0]; simp only [va_up]; split; rfl; exact sp_minds_0 M a (by omega))); rw [e1]; (try simp only [lg_cmp_le, lg_cmp_ge, lg_cmp_lt, lg_cmp_gt, ← Int32.not_lt, ← Int64.not_lt, Classical.not_not] at c_5 c_15 c_31); first | (simp [sp_unload, c_5, c_15, c_31, hjc]; done) | (simp [sp_unload, c_5, c_15, c_31, hjc]; done) | (exfalso; clear hend ; simp_all; done)), (congrArg (fun z => (L, mo_F D f mo ma z)) (by (try simp only [lg_cmp_le, lg_cmp_ge, lg_cmp_lt, lg_cmp_gt, ← Int32.not_lt, ← Int64.not_lt, Classical.not_not] at c_5 c_15 c_31); first | (simp [sp_unload, c_5, c_15, c_31, hjc]; done) | (simp [sp_unload, c_5, c_15, c_31, hjc]; done) | (exfalso; clear hend; simp_all; done)))⟩ rfl dX12_unload_56
      · refine lv_ldc (v := (-1000002)) hx hb hown (hts _ (List.mem_of_getElem? (i := 3) rfl)) dX12_unload_34 ?_
        exact hend H locs ((-1000002)) (L, mo_F D f mo ma M) _ ls w ⟨(by (try simp only [lg_cmp_le, lg_cmp_ge, lg_cmp_lt, lg_cmp_gt, ← Int32.not_lt, ← Int64.not_lt, Classical.not_not] at c_5 c_15 c_31); first | (simp [sp_unload, c_5, c_15, c_31, hjc]; done) | (simp [sp_unload, c_5, c_15, eq_true c_31, hjc]; done) | (exfalso; clear hend; simp_all; done)), (congrArg (fun z => (L, mo_F D f mo ma z)) (by (try simp only [lg_cmp_le, lg_cmp_ge, lg_cmp_lt, lg_cmp_gt, ← Int32.not_lt, ← Int64.not_lt, Classical.not_not] at c_5 c_15 c_31); first | (simp [sp_unload, c_5, c_15, c_31, hjc]; done) | (simp [sp_unload, c_5, c_15, eq_true c_31, hjc]; done) | (exfalso; clear hend; simp_all; done)))⟩ rfl dX12_unload_36
    · refine lv_ldc (v := (-1000001)) hx hb hown (hts _ (List.mem_of_getElem? (i := 1) rfl)) dX12_unload_18 ?_
      exact hend H locs ((-1000001)) (L, mo_F D f mo ma M) _ ls w ⟨(by (try simp only [lg_cmp_le, lg_cmp_ge, lg_cmp_lt, lg_cmp_gt, ← Int32.not_lt, ← Int64.not_lt, Classical.not_not] at c_5 c_15); first | (simp [sp_unload, c_5, c_15, hjc]; done) | (simp [sp_unload, c_5, eq_true c_15, hjc]; done) | (exfalso; clear hend; simp_all; done)), (congrArg (fun z => (L, mo_F D f mo ma z)) (by (try simp only [lg_cmp_le, lg_cmp_ge, lg_cmp_lt, lg_cmp_gt, ← Int32.not_lt, ← Int64.not_lt, Classical.not_not] at c_5 c_15); first | (simp [sp_unload, c_5, c_15, hjc]; done) | (simp [sp_unload, c_5, eq_true c_15, hjc]; done) | (exfalso; clear hend; simp_all; done)))⟩ rfl dX12_unload_20
set_option maxRecDepth 100000 in
set_option maxHeartbeats 4000000 in
/-- rain -/
theorem c_X12_rain (l : Launch) (D : va_G) (b0 : Nat) (L : List Nat) (f : Nat → va_E) (mo : Nat) (ma : Nat → Nat) (M : Nat → Nat → Int32) (hm : mo_ok L mo ma) (a : Nat) (ha : M 1 0 = nI a) (ha24 : a ≤ 24) : mo_Fi l yX12_rain wsX12_rain ({ frames := 1, cells := 0, slots := 0, locals := 21 }) D b0 L f mo ma M [] ((sp_rain M a).1) ((sp_rain M a).2) := by
  refine hg_in_i (cc := cX12_rain) (nL := 1) (by decide) rfl (Nat.le_of_ble_eq_true rfl) (fun p e s m args below meth c R Q X hR hend H locs ls w hl => ?_)
  subst hR
  obtain ⟨hx, hb, hml, hown, hts⟩ := id X.1
  have hin : ∀ w ∈ wsX120, w ∈ wsX12_rain := fun w h => List.mem_cons_of_mem _ (List.mem_append_right _ h)
  have hl : lv_has ls 1 [(0, .ref mo)] := hl
  refine lv_aload_n hx hb dX12_rain_0 rfl (lv_at hl 0 rfl) ?_
  refine mo_get X w hm hin 0 (by decide) (List.mem_of_getElem? (i := 1) rfl) rfl dX12_rain_1 ?_
  refine lv_iconst (v := 4) hx hb dX12_rain_4 (by decide) ?_
  refine mo_iald X w hm 0 (by decide) (by decide) 4 rfl (by show _ < 1400; omega) dX12_rain_5 ?_
  refine lv_if_ne (tgt := 12) hx hb dX12_rain_6 (by decide) (fun c_6 => ?_) (fun c_6 => ?_)
  · refine lv_aload_n hx hb dX12_rain_12 rfl (lv_at hl 0 rfl) ?_
    refine mo_get X w hm hin 0 (by decide) (List.mem_of_getElem? (i := 1) rfl) rfl dX12_rain_13 ?_
    refine lv_iconst (v := 1) hx hb dX12_rain_16 (by decide) ?_
    refine mo_iald X w hm 0 (by decide) (by decide) 1 rfl (by show _ < 1400; omega) dX12_rain_17 ?_
    refine lv_bipush (v := 99) hx hb dX12_rain_18 (by decide) ?_
    refine lv_icmp_ne (tgt := 26) hx hb dX12_rain_20 (by decide) (fun c_20 => ?_) (fun c_20 => ?_)
    · refine lv_aload_n hx hb dX12_rain_26 rfl (lv_at hl 0 rfl) ?_
      refine hg_vvF (As := []) (rest := []) X w (c_X12_minds l D b0 L f mo ma M hm a ha ha24) (cwV 0 hts gX12_rain_X12_minds rfl rfl rfl hdX12_minds ⟨Nat.le_of_ble_eq_true rfl, Nat.le_of_ble_eq_true rfl⟩) hm.1 (mo_at0 D f mo ma _) rfl rfl rfl hl.1 rfl (Nat.le_of_ble_eq_true rfl) dX12_rain_27 ⟨Nat.zero_le _, Nat.zero_le _⟩ (fun H locs w => ?_)
      refine lv_aload_n hx hb dX12_rain_30 rfl (lv_at hl 0 rfl) ?_
      refine mo_get X w hm hin 0 (by decide) (List.mem_of_getElem? (i := 1) rfl) rfl dX12_rain_31 ?_
      refine lv_iconst (v := 1) hx hb dX12_rain_34 (by decide) ?_
      refine lv_dup2_11 hx hb dX12_rain_35 rfl rfl ?_
      refine mo_iald X w hm 0 (by decide) (by decide) 1 rfl (by show _ < 1400; omega) dX12_rain_36 ?_
      refine lv_iconst (v := 1) hx hb dX12_rain_37 (by decide) ?_
      refine lv_iadd hx hb dX12_rain_38 ?_
      refine mo_iast X w hm 0 (by decide) (by decide) 1 rfl (by show _ < 1400; omega) dX12_rain_39 (fun H locs w => ?_)
      refine lv_aload_n hx hb dX12_rain_40 rfl (lv_at hl 0 rfl) ?_
      refine mo_get X w hm hin 0 (by decide) (List.mem_of_getElem? (i := 1) rfl) rfl dX12_rain_41 ?_
      refine lv_iconst (v := 1) hx hb dX12_rain_44 (by decide) ?_
      refine mo_iald X w hm 0 (by decide) (by decide) 1 rfl (by show _ < 1400; omega) dX12_rain_45 ?_
      exact hend H locs ((mo_w (sp_minds M a) 0 1 (((sp_minds M a) 0 1 + 1))) 0 1) (L, mo_F D f mo ma (mo_w (sp_minds M a) 0 1 (((sp_minds M a) 0 1 + 1)))) _ ls w ⟨(by simp only [mo_w, va_up_self]; rw [sp_minds_0 M a (by omega)]; (try simp only [lg_cmp_le, lg_cmp_ge, lg_cmp_lt, lg_cmp_gt, ← Int32.not_lt, ← Int64.not_lt, Classical.not_not] at c_6 c_20); first | (simp [sp_rain, c_6, c_20]; done) | (simp [sp_rain, c_6, c_20]; done) | (exfalso; clear hend ; simp_all; done)), (congrArg (fun z => (L, mo_F D f mo ma z)) (by rw [sp_minds_0 M a (by omega)]; (try simp only [lg_cmp_le, lg_cmp_ge, lg_cmp_lt, lg_cmp_gt, ← Int32.not_lt, ← Int64.not_lt, Classical.not_not] at c_6 c_20); first | (simp [sp_rain, c_6, c_20]; done) | (simp [sp_rain, c_6, c_20]; done) | (exfalso; clear hend ; simp_all; done)))⟩ rfl dX12_rain_46
    · refine lv_ldc (v := (-1000003)) hx hb hown (hts _ (List.mem_of_getElem? (i := 3) rfl)) dX12_rain_23 ?_
      exact hend H locs ((-1000003)) (L, mo_F D f mo ma M) _ ls w ⟨(by (try simp only [lg_cmp_le, lg_cmp_ge, lg_cmp_lt, lg_cmp_gt, ← Int32.not_lt, ← Int64.not_lt, Classical.not_not] at c_6 c_20); first | (simp [sp_rain, c_6, c_20]; done) | (simp [sp_rain, c_6, eq_true c_20]; done) | (exfalso; clear hend; simp_all; done)), (congrArg (fun z => (L, mo_F D f mo ma z)) (by (try simp only [lg_cmp_le, lg_cmp_ge, lg_cmp_lt, lg_cmp_gt, ← Int32.not_lt, ← Int64.not_lt, Classical.not_not] at c_6 c_20); first | (simp [sp_rain, c_6, c_20]; done) | (simp [sp_rain, c_6, eq_true c_20]; done) | (exfalso; clear hend; simp_all; done)))⟩ rfl dX12_rain_25
  · refine lv_ldc (v := (-1000002)) hx hb hown (hts _ (List.mem_of_getElem? (i := 2) rfl)) dX12_rain_9 ?_
    exact hend H locs ((-1000002)) (L, mo_F D f mo ma M) _ ls w ⟨(by (try simp only [lg_cmp_le, lg_cmp_ge, lg_cmp_lt, lg_cmp_gt, ← Int32.not_lt, ← Int64.not_lt, Classical.not_not] at c_6); first | (simp [sp_rain, c_6]; done) | (simp [sp_rain, eq_true c_6]; done) | (exfalso; clear hend; simp_all; done)), (congrArg (fun z => (L, mo_F D f mo ma z)) (by (try simp only [lg_cmp_le, lg_cmp_ge, lg_cmp_lt, lg_cmp_gt, ← Int32.not_lt, ← Int64.not_lt, Classical.not_not] at c_6); first | (simp [sp_rain, c_6]; done) | (simp [sp_rain, eq_true c_6]; done) | (exfalso; clear hend; simp_all; done)))⟩ rfl dX12_rain_11
set_option maxRecDepth 100000 in
set_option maxHeartbeats 4000000 in
/-- cut -/
theorem c_X12_cut (l : Launch) (D : va_G) (b0 : Nat) (L : List Nat) (f : Nat → va_E) (mo : Nat) (ma : Nat → Nat) (M : Nat → Nat → Int32) (hm : mo_ok L mo ma) (n nr : Nat) (hv : hs_ok (M 0) n nr) (a : Nat) (ha : M 1 0 = nI a) (ha24 : a ≤ 24) (rope : Int32) : mo_Fi l yX12_cut wsX12_cut ({ frames := 2, cells := 0, slots := 0, locals := 46 }) D b0 L f mo ma M [.int (rope)] ((sp_cut M a rope).1) ((sp_cut M a rope).2) := by
  refine hg_in_i (cc := cX12_cut) (nL := 2) (by decide) rfl (Nat.le_of_ble_eq_true rfl) (fun p e s m args below meth c R Q X hR hend H locs ls w hl => ?_)
  subst hR
  obtain ⟨hx, hb, hml, hown, hts⟩ := id X.1
  have hin : ∀ w ∈ wsX120, w ∈ wsX12_cut := fun w h => List.mem_cons_of_mem _ (List.mem_append_right _ h)
  have hl : lv_has ls 2 [(0, .ref mo), (1, .int (rope))] := hl
  obtain ⟨hn, hn6, hnr, hnr3, htt⟩ := id hv
  refine lv_aload_n hx hb dX12_cut_0 rfl (lv_at hl 0 rfl) ?_
  refine lv_iload_n hx hb dX12_cut_1 rfl (lv_at hl 1 rfl) ?_
  refine hg_viF (r := hs_isRo (M 0) rope) (As := [.int (rope)]) (rest := []) X w (c_X12_isRope l D b0 L f mo ma M hm rope) (cwV 1 hts gX12_cut_X12_isRope rfl rfl rfl hdX12_isRope ⟨Nat.le_of_ble_eq_true rfl, Nat.le_of_ble_eq_true rfl⟩) hm.1 (mo_at0 D f mo ma _) rfl rfl rfl hl.1 rfl (Nat.le_of_ble_eq_true rfl) dX12_cut_2 ⟨Nat.zero_le _, Nat.zero_le _⟩ (fun H locs w => ?_)
  refine lv_if_ne (tgt := 11) hx hb dX12_cut_5 (by decide) (fun c_5 => ?_) (fun c_5 => ?_)
  · obtain ⟨r, hr, rfl⟩ := hs_ro_1 hv c_5
    have hrc := hs_cl hr (by omega)
    refine lv_aload_n hx hb dX12_cut_11 rfl (lv_at hl 0 rfl) ?_
    refine mo_get X w hm hin 0 (by decide) (List.mem_of_getElem? (i := 2) rfl) rfl dX12_cut_12 ?_
    refine lv_iconst (v := 5) hx hb dX12_cut_15 (by decide) ?_
    refine lv_iload_n hx hb dX12_cut_16 rfl (lv_at hl 1 rfl) ?_
    refine lv_iadd hx hb dX12_cut_17 ?_
    refine mo_iald X w hm 0 (by decide) (by decide) (5 + r) (hs_addI rfl rfl) (by show _ < 1400; omega) dX12_cut_18 ?_
    refine lv_iconst (v := 1) hx hb dX12_cut_19 (by decide) ?_
    refine lv_icmp_ne (tgt := 26) hx hb dX12_cut_20 (by decide) (fun c_20 => ?_) (fun c_20 => ?_)
    · refine lv_aload_n hx hb dX12_cut_26 rfl (lv_at hl 0 rfl) ?_
      refine hg_vvF (As := []) (rest := []) X w (c_X12_minds l D b0 L f mo ma M hm a ha ha24) (cwV 0 hts gX12_cut_X12_minds rfl rfl rfl hdX12_minds ⟨Nat.le_of_ble_eq_true rfl, Nat.le_of_ble_eq_true rfl⟩) hm.1 (mo_at0 D f mo ma _) rfl rfl rfl hl.1 rfl (Nat.le_of_ble_eq_true rfl) dX12_cut_27 ⟨Nat.zero_le _, Nat.zero_le _⟩ (fun H locs w => ?_)
      refine lv_aload_n hx hb dX12_cut_30 rfl (lv_at hl 0 rfl) ?_
      refine mo_get X w hm hin 0 (by decide) (List.mem_of_getElem? (i := 2) rfl) rfl dX12_cut_31 ?_
      refine lv_iconst (v := 5) hx hb dX12_cut_34 (by decide) ?_
      refine lv_iload_n hx hb dX12_cut_35 rfl (lv_at hl 1 rfl) ?_
      refine lv_iadd hx hb dX12_cut_36 ?_
      refine lv_dup2_11 hx hb dX12_cut_37 rfl rfl ?_
      refine mo_iald X w hm 0 (by decide) (by decide) (5 + r) (hs_addI rfl rfl) (by show _ < 1400; omega) dX12_cut_38 ?_
      refine lv_iconst (v := 1) hx hb dX12_cut_39 (by decide) ?_
      refine lv_isub hx hb dX12_cut_40 ?_
      refine mo_iast X w hm 0 (by decide) (by decide) (5 + r) (hs_addI rfl rfl) (by show _ < 1400; omega) dX12_cut_41 (fun H locs w => ?_)
      refine lv_aload_n hx hb dX12_cut_42 rfl (lv_at hl 0 rfl) ?_
      refine mo_get X w hm hin 0 (by decide) (List.mem_of_getElem? (i := 2) rfl) rfl dX12_cut_43 ?_
      refine lv_iconst (v := 5) hx hb dX12_cut_46 (by decide) ?_
      refine lv_iload_n hx hb dX12_cut_47 rfl (lv_at hl 1 rfl) ?_
      refine lv_iadd hx hb dX12_cut_48 ?_
      refine mo_iald X w hm 0 (by decide) (by decide) (5 + r) (hs_addI rfl rfl) (by show _ < 1400; omega) dX12_cut_49 ?_
      exact hend H locs ((mo_w (sp_minds M a) 0 (5 + r) (((sp_minds M a) 0 (5 + r) - 1))) 0 (5 + r)) (L, mo_F D f mo ma (mo_w (sp_minds M a) 0 (5 + r) (((sp_minds M a) 0 (5 + r) - 1)))) _ ls w ⟨(by simp only [mo_w, va_up_self]; rw [sp_minds_0 M a (by omega)]; (try simp only [lg_cmp_le, lg_cmp_ge, lg_cmp_lt, lg_cmp_gt, ← Int32.not_lt, ← Int64.not_lt, Classical.not_not] at c_5 c_20); first | (simp [sp_cut, c_5, c_20, hrc]; done) | (simp [sp_cut, c_5, c_20, hrc]; done) | (exfalso; clear hend ; simp_all; done)), (congrArg (fun z => (L, mo_F D f mo ma z)) (by rw [sp_minds_0 M a (by omega)]; (try simp only [lg_cmp_le, lg_cmp_ge, lg_cmp_lt, lg_cmp_gt, ← Int32.not_lt, ← Int64.not_lt, Classical.not_not] at c_5 c_20); first | (simp [sp_cut, c_5, c_20, hrc]; done) | (simp [sp_cut, c_5, c_20, hrc]; done) | (exfalso; clear hend ; simp_all; done)))⟩ rfl dX12_cut_50
    · refine lv_ldc (v := (-1000002)) hx hb hown (hts _ (List.mem_of_getElem? (i := 3) rfl)) dX12_cut_23 ?_
      exact hend H locs ((-1000002)) (L, mo_F D f mo ma M) _ ls w ⟨(by (try simp only [lg_cmp_le, lg_cmp_ge, lg_cmp_lt, lg_cmp_gt, ← Int32.not_lt, ← Int64.not_lt, Classical.not_not] at c_5 c_20); first | (simp [sp_cut, c_5, c_20, hrc]; done) | (simp [sp_cut, c_5, eq_true c_20, hrc]; done) | (exfalso; clear hend; simp_all; done)), (congrArg (fun z => (L, mo_F D f mo ma z)) (by (try simp only [lg_cmp_le, lg_cmp_ge, lg_cmp_lt, lg_cmp_gt, ← Int32.not_lt, ← Int64.not_lt, Classical.not_not] at c_5 c_20); first | (simp [sp_cut, c_5, c_20, hrc]; done) | (simp [sp_cut, c_5, eq_true c_20, hrc]; done) | (exfalso; clear hend; simp_all; done)))⟩ rfl dX12_cut_25
  · refine lv_ldc (v := (-1000001)) hx hb hown (hts _ (List.mem_of_getElem? (i := 1) rfl)) dX12_cut_8 ?_
    exact hend H locs ((-1000001)) (L, mo_F D f mo ma M) _ ls w ⟨(by (try simp only [lg_cmp_le, lg_cmp_ge, lg_cmp_lt, lg_cmp_gt, ← Int32.not_lt, ← Int64.not_lt, Classical.not_not] at c_5); first | (simp [sp_cut, c_5]; done) | (simp [sp_cut, eq_true c_5]; done) | (exfalso; clear hend; simp_all; done)), (congrArg (fun z => (L, mo_F D f mo ma z)) (by (try simp only [lg_cmp_le, lg_cmp_ge, lg_cmp_lt, lg_cmp_gt, ← Int32.not_lt, ← Int64.not_lt, Classical.not_not] at c_5); first | (simp [sp_cut, c_5]; done) | (simp [sp_cut, eq_true c_5]; done) | (exfalso; clear hend; simp_all; done)))⟩ rfl dX12_cut_10
set_option maxRecDepth 100000 in
set_option maxHeartbeats 4000000 in
/-- image -/
theorem c_X12_image (l : Launch) (D : va_G) (b0 : Nat) (L : List Nat) (f : Nat → va_E) (mo : Nat) (ma : Nat → Nat) (M : Nat → Nat → Int32) (hm : mo_ok L mo ma) (k0 : Int32) : mo_Fi l yX12_image wsX12_image ({ frames := 1, cells := 0, slots := 0, locals := 25 }) D b0 L f mo ma M [.int (k0)] ((sp_image M k0).1) ((sp_image M k0).2) := by
  refine hg_in_i (cc := cX12_image) (nL := 3) (by decide) rfl (Nat.le_of_ble_eq_true rfl) (fun p e s m args below meth c R Q X hR hend H locs ls w hl => ?_)
  subst hR
  obtain ⟨hx, hb, hml, hown, hts⟩ := id X.1
  have hin : ∀ w ∈ wsX120, w ∈ wsX12_image := fun w h => List.mem_cons_of_mem _ (List.mem_append_right _ h)
  have hl : lv_has ls 3 [(0, .ref mo), (1, .int (k0))] := hl
  refine lv_iload_n hx hb dX12_image_0 rfl (lv_at hl 1 rfl) ?_
  refine lv_i2l hx hb dX12_image_1 rfl ?_
  refine lv_lconst (v := 0) hx hb dX12_image_2 (by decide) ?_
  refine lv_lconst (v := 1) hx hb dX12_image_3 (by decide) ?_
  refine hg_siF (r := hs_in k0 0 1) (As := [.long ((k0).toInt64), .long (0), .long (1)]) (rest := []) X w (c_X12_in l D b0 L _ ((k0).toInt64) 0 1 k0 0 1 rfl (by decide) (by decide)) (va_cwS 3 hts gX12_image_X12_in rfl rfl rfl hdX12_in ⟨Nat.le_of_ble_eq_true rfl, Nat.le_of_ble_eq_true rfl⟩) rfl hl.1 rfl (Nat.le_of_ble_eq_true rfl) dX12_image_4 ⟨Nat.zero_le _, Nat.zero_le _⟩ (fun H locs w => ?_)
  refine lv_if_ne (tgt := 13) hx hb dX12_image_7 (by decide) (fun c_7 => ?_) (fun c_7 => ?_)
  · obtain ⟨b, hb1, rfl⟩ := hs_in_j (n := 1) rfl (by decide) c_7
    have hbc : (nI b).toNatClampNeg = b := nI_clamp (by omega)
    refine lv_aload_n hx hb dX12_image_13 rfl (lv_at hl 0 rfl) ?_
    refine mo_get X w hm hin 0 (by decide) (List.mem_of_getElem? (i := 2) rfl) rfl dX12_image_14 ?_
    refine lv_iconst (v := 4) hx hb dX12_image_17 (by decide) ?_
    refine mo_iald X w hm 0 (by decide) (by decide) 4 rfl (by show _ < 1400; omega) dX12_image_18 ?_
    refine lv_if_ne (tgt := 25) hx hb dX12_image_19 (by decide) (fun c_19 => ?_) (fun c_19 => ?_)
    · refine lv_iconst (v := 0) hx hb dX12_image_25 (by decide) ?_
      refine lv_istore_n (lv' := [(2, .int (0)), (0, .ref mo), (1, .int (nI b))]) hx hb dX12_image_26 rfl hl (by decide) rfl (fun ls hl => ?_)
      have cp1 : ∀ (n0 k : Nat), k ≤ 50 → 50 + 1 ≤ k + n0 → ∀ (H : Heap) (locs : List Loc) (ls : Array Slot), hg_W D b0 L (mo_F D f mo ma (va_up M 0 (hs_blk (M 0) (50 * (b + 1)) (0) k))) s.heap H locs → lv_has ls 3 [(0, .ref mo), (1, .int (nI b)), (2, .int (nI k))] → W p l e ({ frames := 1, cells := 0, slots := 0, locals := 25 }) s m args below meth c H locs 0 0 Q (F0 m 27 ls []) := by
        intro n0
        induction n0 with
        | zero =>
          intro k h1 h2
          exact absurd h2 (by omega)
        | succ n0 ihcp1 =>
          intro k hk hn0 H locs ls w hl
          refine lv_iload_n hx hb dX12_image_27 rfl (lv_at hl 2 rfl) ?_
          refine lv_bipush (v := 50) hx hb dX12_image_28 (by decide) ?_
          refine lv_icmp_ge (tgt := 58) hx hb dX12_image_30 (by decide) (fun c_30 => ?_) (fun c_30 => ?_)
          · have hk : 50 = k := by
              rcases Nat.lt_or_ge k 50 with q | q
              · exact absurd c_30 (nI_ge (a := k) (b := 50) q (by omega))
              · omega
            subst hk
            refine lv_aload_n hx hb dX12_image_58 rfl (lv_at hl 0 rfl) ?_
            refine mo_get X w hm hin 2 (by decide) (List.mem_of_getElem? (i := 4) rfl) rfl dX12_image_59 ?_
            refine lv_iload_n hx hb dX12_image_62 rfl (lv_at hl 1 rfl) ?_
            refine lv_iconst (v := 1) hx hb dX12_image_63 (by decide) ?_
            refine mo_zast X w hm b rfl (by omega) dX12_image_64 (fun H locs w => ?_)
            refine lv_iconst (v := 1) hx hb dX12_image_65 (by decide) ?_
            exact hend H locs (1) (L, mo_F D f mo ma (mo_w (va_up M 0 (hs_blk (M 0) (50 * (b + 1)) (0) 50)) 2 b (1))) _ ls w ⟨(by (try simp only [lg_cmp_le, lg_cmp_ge, lg_cmp_lt, lg_cmp_gt, ← Int32.not_lt, ← Int64.not_lt, Classical.not_not] at c_7 c_19 c_30); first | (simp [sp_image, c_7, c_19, c_30, hbc]; done) | (simp [sp_image, c_7, c_19, c_30, hbc]; done) | (exfalso; clear hend; simp_all; done)), (congrArg (fun z => (L, mo_F D f mo ma z)) (by (try simp only [lg_cmp_le, lg_cmp_ge, lg_cmp_lt, lg_cmp_gt, ← Int32.not_lt, ← Int64.not_lt, Classical.not_not] at c_7 c_19 c_30); first | (simp [sp_image, c_7, c_19, c_30, hbc]; done) | (simp [sp_image, c_7, c_19, c_30, hbc]; done) | (exfalso; clear hend; simp_all; done)))⟩ rfl dX12_image_66
          · have hkl : k < 50 := by
              rcases Nat.lt_or_ge k 50 with q | q
              · exact q
              · exact absurd (nI_le (a := 50) (b := k) q (by omega)) c_30
            refine lv_aload_n hx hb dX12_image_33 rfl (lv_at hl 0 rfl) ?_
            refine mo_get X w hm hin 0 (by decide) (List.mem_of_getElem? (i := 2) rfl) rfl dX12_image_34 ?_
            refine lv_bipush (v := 50) hx hb dX12_image_37 (by decide) ?_
            refine lv_iload_n hx hb dX12_image_39 rfl (lv_at hl 1 rfl) ?_
            refine lv_iconst (v := 1) hx hb dX12_image_40 (by decide) ?_
            refine lv_iadd hx hb dX12_image_41 ?_
            refine lv_imul hx hb dX12_image_42 ?_
            refine lv_iload_n hx hb dX12_image_43 rfl (lv_at hl 2 rfl) ?_
            refine lv_iadd hx hb dX12_image_44 ?_
            refine lv_aload_n hx hb dX12_image_45 rfl (lv_at hl 0 rfl) ?_
            refine mo_get X w hm hin 0 (by decide) (List.mem_of_getElem? (i := 2) rfl) rfl dX12_image_46 ?_
            refine lv_iload_n hx hb dX12_image_49 rfl (lv_at hl 2 rfl) ?_
            refine mo_iald X w hm 0 (by decide) (by decide) (0 + k) (by rw [Nat.zero_add]) (by show _ < 1400; omega) dX12_image_50 ?_
            refine mo_iast X w hm 0 (by decide) (by decide) (50 * (b + 1) + k) (hs_addI (hs_mulI rfl (hs_addI rfl rfl)) rfl) (by show _ < 1400; omega) dX12_image_51 (fun H locs w => ?_)
            refine lv_iinc (v := nI k + 1) (lv' := [(2, .int (nI k + 1)), (0, .ref mo), (1, .int (nI b))]) hx hb dX12_image_52 hl (k := 2) rfl rfl (by decide) rfl (fun ls hl => ?_)
            refine lv_goto (tgt := 27) hx hb dX12_image_55 (by decide) ?_
            have hl := hs_lv hl (k := 0) rfl (nI_1 k)
            exact ihcp1 (k + 1) (by omega) (by omega) H locs ls (by rw [hs_up_up, show va_up (hs_blk (M 0) (50 * (b + 1)) (0) k) ((50 * (b + 1)) + k) (va_up M 0 (hs_blk (M 0) (50 * (b + 1)) (0) k) 0 ((0) + k)) = hs_blk (M 0) (50 * (b + 1)) (0) (k + 1) from hs_blk_s _ (by omega)] at w; exact w) (lv_sub hl [1, 2, 0] rfl)
      exact cp1 (50 + 1) 0 (by omega) (by omega) H locs ls (by rw [hs_blk_0, hs_up_id]; exact w) (lv_sub hl [1, 2, 0] rfl)
    · refine lv_ldc (v := (-1000002)) hx hb hown (hts _ (List.mem_of_getElem? (i := 3) rfl)) dX12_image_22 ?_
      exact hend H locs ((-1000002)) (L, mo_F D f mo ma M) _ ls w ⟨(by (try simp only [lg_cmp_le, lg_cmp_ge, lg_cmp_lt, lg_cmp_gt, ← Int32.not_lt, ← Int64.not_lt, Classical.not_not] at c_7 c_19); first | (simp [sp_image, c_7, c_19, hbc]; done) | (simp [sp_image, c_7, eq_true c_19, hbc]; done) | (exfalso; clear hend; simp_all; done)), (congrArg (fun z => (L, mo_F D f mo ma z)) (by (try simp only [lg_cmp_le, lg_cmp_ge, lg_cmp_lt, lg_cmp_gt, ← Int32.not_lt, ← Int64.not_lt, Classical.not_not] at c_7 c_19); first | (simp [sp_image, c_7, c_19, hbc]; done) | (simp [sp_image, c_7, eq_true c_19, hbc]; done) | (exfalso; clear hend; simp_all; done)))⟩ rfl dX12_image_24
  · refine lv_ldc (v := (-1000001)) hx hb hown (hts _ (List.mem_of_getElem? (i := 1) rfl)) dX12_image_10 ?_
    exact hend H locs ((-1000001)) (L, mo_F D f mo ma M) _ ls w ⟨(by (try simp only [lg_cmp_le, lg_cmp_ge, lg_cmp_lt, lg_cmp_gt, ← Int32.not_lt, ← Int64.not_lt, Classical.not_not] at c_7); first | (simp [sp_image, c_7]; done) | (simp [sp_image, eq_true c_7]; done) | (exfalso; clear hend; simp_all; done)), (congrArg (fun z => (L, mo_F D f mo ma z)) (by (try simp only [lg_cmp_le, lg_cmp_ge, lg_cmp_lt, lg_cmp_gt, ← Int32.not_lt, ← Int64.not_lt, Classical.not_not] at c_7); first | (simp [sp_image, c_7]; done) | (simp [sp_image, eq_true c_7]; done) | (exfalso; clear hend; simp_all; done)))⟩ rfl dX12_image_12
set_option maxRecDepth 100000 in
set_option maxHeartbeats 4000000 in
/-- restore -/
theorem c_X12_restore (l : Launch) (D : va_G) (b0 : Nat) (L : List Nat) (f : Nat → va_E) (mo : Nat) (ma : Nat → Nat) (M : Nat → Nat → Int32) (hm : mo_ok L mo ma) (k0 : Int32) : mo_Fi l yX12_restore wsX12_restore ({ frames := 1, cells := 0, slots := 0, locals := 25 }) D b0 L f mo ma M [.int (k0)] ((sp_restore M k0).1) ((sp_restore M k0).2) := by
  refine hg_in_i (cc := cX12_restore) (nL := 3) (by decide) rfl (Nat.le_of_ble_eq_true rfl) (fun p e s m args below meth c R Q X hR hend H locs ls w hl => ?_)
  subst hR
  obtain ⟨hx, hb, hml, hown, hts⟩ := id X.1
  have hin : ∀ w ∈ wsX120, w ∈ wsX12_restore := fun w h => List.mem_cons_of_mem _ (List.mem_append_right _ h)
  have hl : lv_has ls 3 [(0, .ref mo), (1, .int (k0))] := hl
  refine lv_iload_n hx hb dX12_restore_0 rfl (lv_at hl 1 rfl) ?_
  refine lv_i2l hx hb dX12_restore_1 rfl ?_
  refine lv_lconst (v := 0) hx hb dX12_restore_2 (by decide) ?_
  refine lv_lconst (v := 1) hx hb dX12_restore_3 (by decide) ?_
  refine hg_siF (r := hs_in k0 0 1) (As := [.long ((k0).toInt64), .long (0), .long (1)]) (rest := []) X w (c_X12_in l D b0 L _ ((k0).toInt64) 0 1 k0 0 1 rfl (by decide) (by decide)) (va_cwS 3 hts gX12_restore_X12_in rfl rfl rfl hdX12_in ⟨Nat.le_of_ble_eq_true rfl, Nat.le_of_ble_eq_true rfl⟩) rfl hl.1 rfl (Nat.le_of_ble_eq_true rfl) dX12_restore_4 ⟨Nat.zero_le _, Nat.zero_le _⟩ (fun H locs w => ?_)
  refine lv_if_ne (tgt := 13) hx hb dX12_restore_7 (by decide) (fun c_7 => ?_) (fun c_7 => ?_)
  · obtain ⟨b, hb1, rfl⟩ := hs_in_j (n := 1) rfl (by decide) c_7
    have hbc : (nI b).toNatClampNeg = b := nI_clamp (by omega)
    refine lv_aload_n hx hb dX12_restore_13 rfl (lv_at hl 0 rfl) ?_
    refine mo_get X w hm hin 2 (by decide) (List.mem_of_getElem? (i := 2) rfl) rfl dX12_restore_14 ?_
    refine lv_iload_n hx hb dX12_restore_17 rfl (lv_at hl 1 rfl) ?_
    refine mo_zald X w hm b rfl (by omega) dX12_restore_18 ?_
    refine lv_if_ne (tgt := 25) hx hb dX12_restore_19 (by decide) (fun c_19 => ?_) (fun c_19 => ?_)
    · refine lv_iconst (v := 0) hx hb dX12_restore_25 (by decide) ?_
      refine lv_istore_n (lv' := [(2, .int (0)), (0, .ref mo), (1, .int (nI b))]) hx hb dX12_restore_26 rfl hl (by decide) rfl (fun ls hl => ?_)
      have cp1 : ∀ (n0 k : Nat), k ≤ 50 → 50 + 1 ≤ k + n0 → ∀ (H : Heap) (locs : List Loc) (ls : Array Slot), hg_W D b0 L (mo_F D f mo ma (va_up M 0 (hs_blk (M 0) (0) (50 * (b + 1)) k))) s.heap H locs → lv_has ls 3 [(0, .ref mo), (1, .int (nI b)), (2, .int (nI k))] → W p l e ({ frames := 1, cells := 0, slots := 0, locals := 25 }) s m args below meth c H locs 0 0 Q (F0 m 27 ls []) := by
        intro n0
        induction n0 with
        | zero =>
          intro k h1 h2
          exact absurd h2 (by omega)
        | succ n0 ihcp1 =>
          intro k hk hn0 H locs ls w hl
          refine lv_iload_n hx hb dX12_restore_27 rfl (lv_at hl 2 rfl) ?_
          refine lv_bipush (v := 50) hx hb dX12_restore_28 (by decide) ?_
          refine lv_icmp_ge (tgt := 58) hx hb dX12_restore_30 (by decide) (fun c_30 => ?_) (fun c_30 => ?_)
          · have hk : 50 = k := by
              rcases Nat.lt_or_ge k 50 with q | q
              · exact absurd c_30 (nI_ge (a := k) (b := 50) q (by omega))
              · omega
            subst hk
            refine lv_aload_n hx hb dX12_restore_58 rfl (lv_at hl 0 rfl) ?_
            refine lv_iconst (v := 0) hx hb dX12_restore_59 (by decide) ?_
            refine mo_put X w hm hin 1 (by decide) (List.mem_of_getElem? (i := 5) rfl) dX12_restore_60 (fun H locs w => ?_)
            refine lv_iconst (v := 1) hx hb dX12_restore_63 (by decide) ?_
            exact hend H locs (1) (L, mo_F D f mo ma (mo_w (va_up M 0 (hs_blk (M 0) (0) (50 * (b + 1)) 50)) 1 0 (0))) _ ls w ⟨(by (try simp only [lg_cmp_le, lg_cmp_ge, lg_cmp_lt, lg_cmp_gt, ← Int32.not_lt, ← Int64.not_lt, Classical.not_not] at c_7 c_19 c_30); first | (simp [sp_restore, c_7, c_19, c_30, hbc]; done) | (simp [sp_restore, c_7, c_19, c_30, hbc]; done) | (exfalso; clear hend; simp_all; done)), (congrArg (fun z => (L, mo_F D f mo ma z)) (by (try simp only [lg_cmp_le, lg_cmp_ge, lg_cmp_lt, lg_cmp_gt, ← Int32.not_lt, ← Int64.not_lt, Classical.not_not] at c_7 c_19 c_30); first | (simp [sp_restore, c_7, c_19, c_30, hbc]; done) | (simp [sp_restore, c_7, c_19, c_30, hbc]; done) | (exfalso; clear hend; simp_all; done)))⟩ rfl dX12_restore_64
          · have hkl : k < 50 := by
              rcases Nat.lt_or_ge k 50 with q | q
              · exact q
              · exact absurd (nI_le (a := 50) (b := k) q (by omega)) c_30
            refine lv_aload_n hx hb dX12_restore_33 rfl (lv_at hl 0 rfl) ?_
            refine mo_get X w hm hin 0 (by decide) (List.mem_of_getElem? (i := 4) rfl) rfl dX12_restore_34 ?_
            refine lv_iload_n hx hb dX12_restore_37 rfl (lv_at hl 2 rfl) ?_
            refine lv_aload_n hx hb dX12_restore_38 rfl (lv_at hl 0 rfl) ?_
            refine mo_get X w hm hin 0 (by decide) (List.mem_of_getElem? (i := 4) rfl) rfl dX12_restore_39 ?_
            refine lv_bipush (v := 50) hx hb dX12_restore_42 (by decide) ?_
            refine lv_iload_n hx hb dX12_restore_44 rfl (lv_at hl 1 rfl) ?_
            refine lv_iconst (v := 1) hx hb dX12_restore_45 (by decide) ?_
            refine lv_iadd hx hb dX12_restore_46 ?_
            refine lv_imul hx hb dX12_restore_47 ?_
            refine lv_iload_n hx hb dX12_restore_48 rfl (lv_at hl 2 rfl) ?_
            refine lv_iadd hx hb dX12_restore_49 ?_
            refine mo_iald X w hm 0 (by decide) (by decide) (50 * (b + 1) + k) (hs_addI (hs_mulI rfl (hs_addI rfl rfl)) rfl) (by show _ < 1400; omega) dX12_restore_50 ?_
            refine mo_iast X w hm 0 (by decide) (by decide) (0 + k) (by rw [Nat.zero_add]) (by show _ < 1400; omega) dX12_restore_51 (fun H locs w => ?_)
            refine lv_iinc (v := nI k + 1) (lv' := [(2, .int (nI k + 1)), (0, .ref mo), (1, .int (nI b))]) hx hb dX12_restore_52 hl (k := 2) rfl rfl (by decide) rfl (fun ls hl => ?_)
            refine lv_goto (tgt := 27) hx hb dX12_restore_55 (by decide) ?_
            have hl := hs_lv hl (k := 0) rfl (nI_1 k)
            exact ihcp1 (k + 1) (by omega) (by omega) H locs ls (by rw [hs_up_up, show va_up (hs_blk (M 0) (0) (50 * (b + 1)) k) ((0) + k) (va_up M 0 (hs_blk (M 0) (0) (50 * (b + 1)) k) 0 ((50 * (b + 1)) + k)) = hs_blk (M 0) (0) (50 * (b + 1)) (k + 1) from hs_blk_s _ (by omega)] at w; exact w) (lv_sub hl [1, 2, 0] rfl)
      exact cp1 (50 + 1) 0 (by omega) (by omega) H locs ls (by rw [hs_blk_0, hs_up_id]; exact w) (lv_sub hl [1, 2, 0] rfl)
    · refine lv_ldc (v := (-1000002)) hx hb hown (hts _ (List.mem_of_getElem? (i := 3) rfl)) dX12_restore_22 ?_
      exact hend H locs ((-1000002)) (L, mo_F D f mo ma M) _ ls w ⟨(by (try simp only [lg_cmp_le, lg_cmp_ge, lg_cmp_lt, lg_cmp_gt, ← Int32.not_lt, ← Int64.not_lt, Classical.not_not] at c_7 c_19); first | (simp [sp_restore, c_7, c_19, hbc]; done) | (simp [sp_restore, c_7, eq_true c_19, hbc]; done) | (exfalso; clear hend; simp_all; done)), (congrArg (fun z => (L, mo_F D f mo ma z)) (by (try simp only [lg_cmp_le, lg_cmp_ge, lg_cmp_lt, lg_cmp_gt, ← Int32.not_lt, ← Int64.not_lt, Classical.not_not] at c_7 c_19); first | (simp [sp_restore, c_7, c_19, hbc]; done) | (simp [sp_restore, c_7, eq_true c_19, hbc]; done) | (exfalso; clear hend; simp_all; done)))⟩ rfl dX12_restore_24
  · refine lv_ldc (v := (-1000001)) hx hb hown (hts _ (List.mem_of_getElem? (i := 1) rfl)) dX12_restore_10 ?_
    exact hend H locs ((-1000001)) (L, mo_F D f mo ma M) _ ls w ⟨(by (try simp only [lg_cmp_le, lg_cmp_ge, lg_cmp_lt, lg_cmp_gt, ← Int32.not_lt, ← Int64.not_lt, Classical.not_not] at c_7); first | (simp [sp_restore, c_7]; done) | (simp [sp_restore, eq_true c_7]; done) | (exfalso; clear hend; simp_all; done)), (congrArg (fun z => (L, mo_F D f mo ma z)) (by (try simp only [lg_cmp_le, lg_cmp_ge, lg_cmp_lt, lg_cmp_gt, ← Int32.not_lt, ← Int64.not_lt, Classical.not_not] at c_7); first | (simp [sp_restore, c_7]; done) | (simp [sp_restore, eq_true c_7]; done) | (exfalso; clear hend; simp_all; done)))⟩ rfl dX12_restore_12
