theorem hdX12_has : yX12_has.cls ≠ "java/lang/invoke/MethodHandle" ∧ yX12_has.cls ≠ "java/lang/invoke/VarHandle" ∧ (parseMethodDescriptor yX12_has.desc).map (fun d => d.parameters.length) = some 2 := by decide +kernel
set_option maxRecDepth 100000 in
set_option maxHeartbeats 4000000 in
/-- falls -/
theorem c_X12_falls (l : Launch) (D : va_G) (b0 : Nat) (L : List Nat) (f : Nat → va_E) (mo : Nat) (ma : Nat → Nat) (M : Nat → Nat → Int32) (hm : mo_ok L mo ma) (n nr : Nat) (hv : hs_ok (M 0) n nr) (what : Int32) : mo_Fi l yX12_falls wsX12_falls ({ frames := 6, cells := 0, slots := 0, locals := 138 }) D b0 L f mo ma M [.int (what)] (q_falls (M 0) n what) (M) := by
  refine hg_in_i (cc := cX12_falls) (nL := 7) (by decide) rfl (Nat.le_of_ble_eq_true rfl) (fun p e s m args below meth c R Q X hR hend H locs ls w hl => ?_)
  subst hR
  obtain ⟨hx, hb, hml, hown, hts⟩ := id X.1
  have hin : ∀ w ∈ wsX120, w ∈ wsX12_falls := fun w h => List.mem_cons_of_mem _ (List.mem_append_right _ h)
  have hl : lv_has ls 7 [(0, .ref mo), (1, .int (what))] := hl
  obtain ⟨hn, hn6, hnr, hnr3, htt⟩ := id hv
  refine lv_aload_n hx hb dX12_falls_0 rfl (lv_at hl 0 rfl) ?_
  refine mo_get X w hm hin 0 (by decide) (List.mem_of_getElem? (i := 1) rfl) rfl dX12_falls_1 ?_
  refine lv_iconst (v := 4) hx hb dX12_falls_4 (by decide) ?_
  refine mo_iald X w hm 0 (by decide) (by decide) 4 rfl (by show _ < 1400; omega) dX12_falls_5 ?_
  refine lv_if_ne (tgt := 12) hx hb dX12_falls_6 (by decide) (fun c_6 => ?_) (fun c_6 => ?_)
  · refine lv_iload_n hx hb dX12_falls_12 rfl (lv_at hl 1 rfl) ?_
    refine lv_i2l hx hb dX12_falls_13 rfl ?_
    refine lv_lconst (v := 0) hx hb dX12_falls_14 (by decide) ?_
    refine lv_lconst (v := 1) hx hb dX12_falls_15 (by decide) ?_
    refine hg_siF (r := hs_in what 0 1) (As := [.long ((what).toInt64), .long (0), .long (1)]) (rest := []) X w (c_X12_in l D b0 L _ ((what).toInt64) 0 1 what 0 1 rfl (by decide) (by decide)) (va_cwS 3 hts gX12_falls_X12_in rfl rfl rfl hdX12_in ⟨Nat.le_of_ble_eq_true rfl, Nat.le_of_ble_eq_true rfl⟩) rfl hl.1 rfl (Nat.le_of_ble_eq_true rfl) dX12_falls_16 ⟨Nat.zero_le _, Nat.zero_le _⟩ (fun H locs w => ?_)
    refine lv_if_ne (tgt := 25) hx hb dX12_falls_19 (by decide) (fun c_19 => ?_) (fun c_19 => ?_)
    · refine lv_aload_n hx hb dX12_falls_25 rfl (lv_at hl 0 rfl) ?_
      refine mo_get X w hm hin 0 (by decide) (List.mem_of_getElem? (i := 1) rfl) rfl dX12_falls_26 ?_
      refine lv_iconst (v := 1) hx hb dX12_falls_29 (by decide) ?_
      refine mo_iald X w hm 0 (by decide) (by decide) 1 rfl (by show _ < 1400; omega) dX12_falls_30 ?_
      refine lv_istore_n (lv' := [(2, .int (M 0 1)), (0, .ref mo), (1, .int (what))]) hx hb dX12_falls_31 rfl hl (by decide) rfl (fun ls hl => ?_)
      refine lv_ldc (v := (-1000000)) hx hb hown (hts _ (List.mem_of_getElem? (i := 4) rfl)) dX12_falls_32 ?_
      refine lv_istore_n (lv' := [(3, .int ((-1000000))), (2, .int (M 0 1)), (0, .ref mo), (1, .int (what))]) hx hb dX12_falls_34 rfl hl (by decide) rfl (fun ls hl => ?_)
      refine lv_bipush (v := 99) hx hb dX12_falls_35 (by decide) ?_
      refine lv_istore (lv' := [(4, .int (99)), (3, .int ((-1000000))), (2, .int (M 0 1)), (0, .ref mo), (1, .int (what))]) hx hb dX12_falls_37 hl (by decide) rfl (fun ls hl => ?_)
      have loop : ∀ (q : Nat), q ≤ 100 → ∀ (best : Int32), hs_fall (M 0) n what best q = hs_fall (M 0) n what hs_NONE 100 → ∀ (u0 : Int32), ∀ (H : Heap) (locs : List Loc) (ls : Array Slot), hg_W D b0 L (mo_F D f mo ma (mo_w M 0 1 (u0))) s.heap H locs → lv_has ls 7 [(0, .ref mo), (1, .int (what)), (2, .int (M 0 1)), (3, .int (best)), (4, .int (nI q - 1))] → W p l e ({ frames := 6, cells := 0, slots := 0, locals := 138 }) s m args below meth c H locs 0 0 Q (F0 m 39 ls []) := by
        intro q
        induction q with
        | zero =>
          intro hq best hT u0 H locs ls w hl
          refine lv_iload hx hb dX12_falls_39 (lv_at hl 4 rfl) ?_
          refine lv_if_lt (tgt := 111) hx hb dX12_falls_41 (by decide) (fun c_41 => ?_) (fun c_41 => ?_)
          · have hT1 : best = hs_fall (M 0) n what hs_NONE 100 := hT
            subst hT1
            refine lv_aload_n hx hb dX12_falls_111 rfl (lv_at hl 0 rfl) ?_
            refine mo_get X w hm hin 0 (by decide) (List.mem_of_getElem? (i := 1) rfl) rfl dX12_falls_112 ?_
            refine lv_iconst (v := 1) hx hb dX12_falls_115 (by decide) ?_
            refine lv_iload_n hx hb dX12_falls_116 rfl (lv_at hl 2 rfl) ?_
            refine mo_iast X w hm 0 (by decide) (by decide) 1 rfl (by show _ < 1400; omega) dX12_falls_117 (fun H locs w => ?_)
            rw [mo_w_w] at w
            rw [mo_w_id] at w
            refine lv_iload_n hx hb dX12_falls_118 rfl (lv_at hl 3 rfl) ?_
            exact hend H locs (hs_fall (M 0) n what hs_NONE 100) (L, mo_F D f mo ma M) _ ls w ⟨(by (try simp only [lg_cmp_le, lg_cmp_ge, lg_cmp_lt, lg_cmp_gt, ← Int32.not_lt, ← Int64.not_lt, Classical.not_not] at c_6 c_19 c_41); first | (simp [q_falls, c_6, c_19, c_41]; done) | (simp [q_falls, c_6, c_19, c_41]; done) | (exfalso; clear hend; simp_all; done)), rfl⟩ rfl dX12_falls_119
          · exact absurd (by decide) c_41
        | succ q ih =>
          intro hq best hT u0 H locs ls w hl
          have hl := hs_lv hl (k := 4) rfl (nI_pred q)
          have hl : lv_has ls 7 [(0, .ref mo), (1, .int (what)), (2, .int (M 0 1)), (3, .int (best)), (4, .int (nI q))] := hl
          refine lv_iload hx hb dX12_falls_39 (lv_at hl 4 rfl) ?_
          refine lv_if_lt (tgt := 111) hx hb dX12_falls_41 (by decide) (fun c_41 => ?_) (fun c_41 => ?_)
          · exact absurd c_41 (nI_pos (n := q) (by omega))
          · refine lv_aload_n hx hb dX12_falls_44 rfl (lv_at hl 0 rfl) ?_
            refine mo_get X w hm hin 0 (by decide) (List.mem_of_getElem? (i := 1) rfl) rfl dX12_falls_45 ?_
            refine lv_iconst (v := 1) hx hb dX12_falls_48 (by decide) ?_
            refine lv_iload_n hx hb dX12_falls_49 rfl (lv_at hl 2 rfl) ?_
            refine lv_iload hx hb dX12_falls_50 (lv_at hl 4 rfl) ?_
            refine lv_iadd hx hb dX12_falls_52 ?_
            refine mo_iast X w hm 0 (by decide) (by decide) 1 rfl (by show _ < 1400; omega) dX12_falls_53 (fun H locs w => ?_)
            rw [mo_w_w] at w
            refine lv_aload_n hx hb dX12_falls_54 rfl (lv_at hl 0 rfl) ?_
            refine hg_viF (r := (hs_drop (va_up (M 0) 1 ((M 0 1 + nI q))) n n)) (As := []) (rest := []) X w (c_X12_dropping l D b0 L f mo ma (mo_w M 0 1 ((M 0 1 + nI q))) hm n nr (hs_ok_w (by omega) hv) ) (cwV 0 hts gX12_falls_X12_dropping rfl rfl rfl hdX12_dropping ⟨Nat.le_of_ble_eq_true rfl, Nat.le_of_ble_eq_true rfl⟩) hm.1 (mo_at0 D f mo ma _) rfl rfl rfl hl.1 rfl (Nat.le_of_ble_eq_true rfl) dX12_falls_55 ⟨Nat.zero_le _, Nat.zero_le _⟩ (fun H locs w => ?_)
            refine lv_istore (lv' := [(5, .int ((hs_drop (va_up (M 0) 1 ((M 0 1 + nI q))) n n))), (0, .ref mo), (1, .int (what)), (2, .int (M 0 1)), (3, .int (best)), (4, .int (nI q))]) hx hb dX12_falls_58 hl (by decide) rfl (fun ls hl => ?_)
            refine lv_iconst (v := 0) hx hb dX12_falls_60 (by decide) ?_
            refine lv_istore (lv' := [(6, .int (0)), (5, .int ((hs_drop (va_up (M 0) 1 ((M 0 1 + nI q))) n n))), (0, .ref mo), (1, .int (what)), (2, .int (M 0 1)), (3, .int (best)), (4, .int (nI q))]) hx hb dX12_falls_61 hl (by decide) rfl (fun ls hl => ?_)
            obtain ⟨hd1, hd2⟩ := hs_drop_n (va_up (M 0) 1 (M 0 1 + nI q)) n n hn6
            obtain ⟨d, hde⟩ : ∃ d, d = hs_dropN (va_up (M 0) 1 (M 0 1 + nI q)) n n := ⟨_, rfl⟩
            rw [← hde] at hd1 hd2
            have hd64 : d < 64 := Nat.lt_of_lt_of_le hd2 (Nat.le_trans (Nat.pow_le_pow_right (by decide) hn6) (by decide))
            have hde := hd1
            have hl := hs_lv hl (k := 1) rfl hd1
            have loop2 : ∀ (n0 k : Nat), k ≤ (hs_low (nI d)) → (hs_low (nI d)) + 1 ≤ k + n0 → ∀ (H : Heap) (locs : List Loc) (ls : Array Slot), hg_W D b0 L (mo_F D f mo ma (mo_w M 0 1 ((M 0 1 + nI q)))) s.heap H locs → lv_has ls 7 [(0, .ref mo), (1, .int (what)), (2, .int (M 0 1)), (3, .int (best)), (4, .int (nI q)), (5, .int (nI d)), (6, .int (nI k))] → W p l e ({ frames := 6, cells := 0, slots := 0, locals := 138 }) s m args below meth c H locs 0 0 Q (F0 m 63 ls []) := by
              intro n0
              induction n0 with
              | zero =>
                intro k h1 h2
                exact absurd h2 (by omega)
              | succ n0 ih2 =>
                intro k hk hn0 H locs ls w hl
                refine lv_iload hx hb dX12_falls_63 (lv_at hl 5 rfl) ?_
                refine lv_if_le (tgt := 84) hx hb dX12_falls_65 (by decide) (fun c_65 => ?_) (fun c_65 => ?_)
                · have hd0 : d = 0 := by
                    rcases Nat.eq_zero_or_pos d with q0 | q0
                    · exact q0
                    · exact absurd c_65 (nI_nle q0 (by omega))
                  refine lv_iload hx hb dX12_falls_84 (lv_at hl 5 rfl) ?_
                  refine lv_if_ne (tgt := 93) hx hb dX12_falls_86 (by decide) (fun c_86 => ?_) (fun c_86 => ?_)
                  · exact absurd (by rw [hd0]; decide) c_86
                  · refine lv_iload_n hx hb dX12_falls_89 rfl (lv_at hl 3 rfl) ?_
                    refine lv_goto (tgt := 104) hx hb dX12_falls_90 (by decide) ?_
                    refine lv_istore_n (lv' := [(3, .int (best)), (0, .ref mo), (1, .int (what)), (2, .int (M 0 1)), (4, .int (nI q)), (5, .int (nI d)), (6, .int (nI k))]) hx hb dX12_falls_104 rfl hl (by decide) rfl (fun ls hl => ?_)
                    refine lv_iinc (v := nI q + (-1)) (lv' := [(4, .int (nI q + (-1))), (3, .int (best)), (0, .ref mo), (1, .int (what)), (2, .int (M 0 1)), (5, .int (nI d)), (6, .int (nI k))]) hx hb dX12_falls_105 hl (k := 4) rfl rfl (by decide) rfl (fun ls hl => ?_)
                    refine lv_goto (tgt := 39) hx hb dX12_falls_108 (by decide) ?_
                    have hl := hs_lv hl (k := 0) rfl (hs_m1 (nI q))
                    exact ih (by omega) best (by rw [hs_fall, hde] at hT; rw [if_pos c_86] at hT; exact hT) _ H locs ls w (lv_sub hl [2, 3, 4, 1, 0] rfl)
                · have hdp : 0 < d := by
                    rcases Nat.eq_zero_or_pos d with q0 | q0
                    · exact absurd (by rw [q0]; decide) c_65
                    · exact q0
                  obtain ⟨hlo1, hlo2, hlo3⟩ := hs_low_ok d hd64 hdp
                  refine lv_iload hx hb dX12_falls_68 (lv_at hl 5 rfl) ?_
                  refine lv_iload hx hb dX12_falls_70 (lv_at hl 6 rfl) ?_
                  refine hg_siF (r := hs_has (nI d) (nI k)) (As := [.int (nI d), .int (nI k)]) (rest := []) X w (c_X12_has l D b0 L _ (nI d) (nI k)) (va_cwS 2 hts gX12_falls_X12_has rfl rfl rfl hdX12_has ⟨Nat.le_of_ble_eq_true rfl, Nat.le_of_ble_eq_true rfl⟩) rfl hl.1 rfl (Nat.le_of_ble_eq_true rfl) dX12_falls_72 ⟨Nat.zero_le _, Nat.zero_le _⟩ (fun H locs w => ?_)
                  refine lv_if_ne (tgt := 84) hx hb dX12_falls_75 (by decide) (fun c_75 => ?_) (fun c_75 => ?_)
                  · have hk2 : hs_low (nI d) = k := by
                      rcases Nat.lt_or_ge k (hs_low (nI d)) with z | z
                      · exact absurd (hlo3 k (by omega) z) c_75
                      · omega
                    subst hk2
                    refine lv_iload hx hb dX12_falls_84 (lv_at hl 5 rfl) ?_
                    refine lv_if_ne (tgt := 93) hx hb dX12_falls_86 (by decide) (fun c_86 => ?_) (fun c_86 => ?_)
                    · refine lv_iload_n hx hb dX12_falls_93 rfl (lv_at hl 1 rfl) ?_
                      refine lv_if_ne (tgt := 102) hx hb dX12_falls_94 (by decide) (fun c_94 => ?_) (fun c_94 => ?_)
                      · refine lv_iload hx hb dX12_falls_102 (lv_at hl 6 rfl) ?_
                        refine lv_istore_n (lv' := [(3, .int (nI (hs_low (nI d)))), (0, .ref mo), (1, .int (what)), (2, .int (M 0 1)), (4, .int (nI q)), (5, .int (nI d)), (6, .int (nI (hs_low (nI d))))]) hx hb dX12_falls_104 rfl hl (by decide) rfl (fun ls hl => ?_)
                        refine lv_iinc (v := nI q + (-1)) (lv' := [(4, .int (nI q + (-1))), (3, .int (nI (hs_low (nI d)))), (0, .ref mo), (1, .int (what)), (2, .int (M 0 1)), (5, .int (nI d)), (6, .int (nI (hs_low (nI d))))]) hx hb dX12_falls_105 hl (k := 4) rfl rfl (by decide) rfl (fun ls hl => ?_)
                        refine lv_goto (tgt := 39) hx hb dX12_falls_108 (by decide) ?_
                        have hl := hs_lv hl (k := 0) rfl (hs_m1 (nI q))
                        exact ih (by omega) (nI (hs_low (nI d))) (by rw [hs_fall, hde] at hT; rw [if_neg c_86, if_neg c_94] at hT; exact hT) _ H locs ls w (lv_sub hl [2, 3, 4, 1, 0] rfl)
                      · refine lv_iload hx hb dX12_falls_97 (lv_at hl 4 rfl) ?_
                        refine lv_goto (tgt := 104) hx hb dX12_falls_99 (by decide) ?_
                        refine lv_istore_n (lv' := [(3, .int (nI q)), (0, .ref mo), (1, .int (what)), (2, .int (M 0 1)), (4, .int (nI q)), (5, .int (nI d)), (6, .int (nI (hs_low (nI d))))]) hx hb dX12_falls_104 rfl hl (by decide) rfl (fun ls hl => ?_)
                        refine lv_iinc (v := nI q + (-1)) (lv' := [(4, .int (nI q + (-1))), (3, .int (nI q)), (0, .ref mo), (1, .int (what)), (2, .int (M 0 1)), (5, .int (nI d)), (6, .int (nI (hs_low (nI d))))]) hx hb dX12_falls_105 hl (k := 4) rfl rfl (by decide) rfl (fun ls hl => ?_)
                        refine lv_goto (tgt := 39) hx hb dX12_falls_108 (by decide) ?_
                        have hl := hs_lv hl (k := 0) rfl (hs_m1 (nI q))
                        exact ih (by omega) (nI q) (by rw [hs_fall, hde] at hT; rw [if_neg c_86, if_pos c_94] at hT; exact hT) _ H locs ls w (lv_sub hl [2, 3, 4, 1, 0] rfl)
                    · refine lv_iload_n hx hb dX12_falls_89 rfl (lv_at hl 3 rfl) ?_
                      refine lv_goto (tgt := 104) hx hb dX12_falls_90 (by decide) ?_
                      refine lv_istore_n (lv' := [(3, .int (best)), (0, .ref mo), (1, .int (what)), (2, .int (M 0 1)), (4, .int (nI q)), (5, .int (nI d)), (6, .int (nI (hs_low (nI d))))]) hx hb dX12_falls_104 rfl hl (by decide) rfl (fun ls hl => ?_)
                      refine lv_iinc (v := nI q + (-1)) (lv' := [(4, .int (nI q + (-1))), (3, .int (best)), (0, .ref mo), (1, .int (what)), (2, .int (M 0 1)), (5, .int (nI d)), (6, .int (nI (hs_low (nI d))))]) hx hb dX12_falls_105 hl (k := 4) rfl rfl (by decide) rfl (fun ls hl => ?_)
                      refine lv_goto (tgt := 39) hx hb dX12_falls_108 (by decide) ?_
                      have hl := hs_lv hl (k := 0) rfl (hs_m1 (nI q))
                      exact ih (by omega) best (by rw [hs_fall, hde] at hT; rw [if_pos c_86] at hT; exact hT) _ H locs ls w (lv_sub hl [2, 3, 4, 1, 0] rfl)
                  · have hk2 : k < hs_low (nI d) := by
                      rcases Nat.lt_or_ge k (hs_low (nI d)) with z | z
                      · exact z
                      · exact absurd c_75 (by rw [show k = hs_low (nI d) by omega]; exact hlo2)
                    refine lv_iinc (v := nI k + 1) (lv' := [(6, .int (nI k + 1)), (0, .ref mo), (1, .int (what)), (2, .int (M 0 1)), (3, .int (best)), (4, .int (nI q)), (5, .int (nI d))]) hx hb dX12_falls_78 hl (k := 6) rfl rfl (by decide) rfl (fun ls hl => ?_)
                    refine lv_goto (tgt := 63) hx hb dX12_falls_81 (by decide) ?_
                    have hl := hs_lv hl (k := 0) rfl (nI_1 k)
                    exact ih2 (k + 1) (by omega) (by omega) H locs ls w (lv_sub hl [1, 2, 3, 4, 5, 6, 0] rfl)
            exact loop2 (hs_low (nI d) + 1) 0 (by omega) (by omega) H locs ls w (lv_sub hl [2, 3, 4, 5, 6, 1, 0] rfl)
      have hl := hs_lv hl (k := 0) rfl (nI_pred 99).symm
      exact loop 100 (by omega) hs_NONE rfl (M 0 1) H locs ls (by rw [mo_w_id]; exact w) (lv_sub hl [3, 4, 2, 1, 0] rfl)
    · refine lv_ldc (v := (-1000001)) hx hb hown (hts _ (List.mem_of_getElem? (i := 3) rfl)) dX12_falls_22 ?_
      exact hend H locs ((-1000001)) (L, mo_F D f mo ma M) _ ls w ⟨(by (try simp only [lg_cmp_le, lg_cmp_ge, lg_cmp_lt, lg_cmp_gt, ← Int32.not_lt, ← Int64.not_lt, Classical.not_not] at c_6 c_19); first | (simp [q_falls, c_6, c_19]; done) | (simp [q_falls, c_6, eq_true c_19]; done) | (exfalso; clear hend; simp_all; done)), rfl⟩ rfl dX12_falls_24
  · refine lv_ldc (v := (-1000002)) hx hb hown (hts _ (List.mem_of_getElem? (i := 2) rfl)) dX12_falls_9 ?_
    exact hend H locs ((-1000002)) (L, mo_F D f mo ma M) _ ls w ⟨(by (try simp only [lg_cmp_le, lg_cmp_ge, lg_cmp_lt, lg_cmp_gt, ← Int32.not_lt, ← Int64.not_lt, Classical.not_not] at c_6); first | (simp [q_falls, c_6]; done) | (simp [q_falls, eq_true c_6]; done) | (exfalso; clear hend; simp_all; done)), rfl⟩ rfl dX12_falls_11
