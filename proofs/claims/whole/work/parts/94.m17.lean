theorem hdX12_layWays : yX12_layWays.cls = RX12 ∧ yX12_layWays.cls ≠ "java/lang/invoke/MethodHandle" ∧ yX12_layWays.cls ≠ "java/lang/invoke/VarHandle" ∧ (parseMethodDescriptor yX12_layWays.desc).map (fun d => d.parameters.length) = some 0 := by decide +kernel
set_option maxRecDepth 100000 in
set_option maxHeartbeats 4000000 in
theorem c_X12_unloaded (l : Launch) (D : va_G) (b0 : Nat) (L : List Nat) (f : Nat → va_E) (mo : Nat) (ma : Nat → Nat) (M : Nat → Nat → Int32) (hm : mo_ok L mo ma) (n nr : Nat) (hv : hs_ok (M 0) n nr) (ho : ∀ i, i < n → M 0 (44 + i) = 0 ∨ M 0 (44 + i) = 1) (k : Int32) : mo_Fi l yX12_unloaded wsX12_unloaded ({ frames := 7, cells := 0, slots := 0, locals := 163 }) D b0 L f mo ma M [.int (k)] ((sp_unl M n k).1) ((sp_unl M n k).2) := by
  refine hg_in_i (cc := cX12_unloaded) (nL := 6) (by decide) rfl (Nat.le_of_ble_eq_true rfl) (fun p e s m args below meth c R Q X hR hend H locs ls w hl => ?_)
  subst hR
  obtain ⟨hx, hb, hml, hown, hts⟩ := id X.1
  have hin : ∀ w ∈ wsX120, w ∈ wsX12_unloaded := fun w h => List.mem_cons_of_mem _ (List.mem_append_right _ h)
  have hl : lv_has ls 6 [(0, .ref mo), (1, .int (k))] := hl
  obtain ⟨hn, hn6, hnr, hnr3, htt⟩ := id hv
  refine lv_aload_n hx hb dX12_unloaded_0 rfl (lv_at hl 0 rfl) ?_
  refine mo_get X w hm hin 0 (by decide) (List.mem_of_getElem? (i := 1) rfl) rfl dX12_unloaded_1 ?_
  refine lv_iconst (v := 4) hx hb dX12_unloaded_4 (by decide) ?_
  refine mo_iald X w hm 0 (by decide) (by decide) 4 rfl (by show _ < 1400; omega) dX12_unloaded_5 ?_
  refine lv_if_ne (tgt := 12) hx hb dX12_unloaded_6 (by decide) (fun c_6 => ?_) (fun c_6 => ?_)
  · refine lv_iload_n hx hb dX12_unloaded_12 rfl (lv_at hl 1 rfl) ?_
    refine lv_i2l hx hb dX12_unloaded_13 rfl ?_
    refine lv_ldc2 (v := (-1)) hx hb hown (hts _ (List.mem_of_getElem? (i := 3) rfl)) dX12_unloaded_14 ?_
    refine lv_ldc2 (v := 5) hx hb hown (hts _ (List.mem_of_getElem? (i := 4) rfl)) dX12_unloaded_17 ?_
    refine hg_siF (r := hs_in k (-1) 5) (As := [.long ((k).toInt64), .long ((-1)), .long (5)]) (rest := []) X w (c_X12_in l D b0 L _ ((k).toInt64) (-1) 5 k (-1) 5 rfl (by decide) (by decide)) (va_cwS 3 hts gX12_unloaded_X12_in rfl rfl rfl hdX12_in ⟨Nat.le_of_ble_eq_true rfl, Nat.le_of_ble_eq_true rfl⟩) rfl hl.1 rfl (Nat.le_of_ble_eq_true rfl) dX12_unloaded_20 ⟨Nat.zero_le _, Nat.zero_le _⟩ (fun H locs w => ?_)
    refine lv_if_ne (tgt := 29) hx hb dX12_unloaded_23 (by decide) (fun c_23 => ?_) (fun c_23 => ?_)
    · refine lv_aload_n hx hb dX12_unloaded_29 rfl (lv_at hl 0 rfl) ?_
      refine hg_vvF (As := []) (rest := []) X w (c_X12_layWays l D b0 L f mo ma M hm n nr hv ho) (cwV 0 hts gX12_unloaded_X12_layWays rfl rfl rfl hdX12_layWays ⟨Nat.le_of_ble_eq_true rfl, Nat.le_of_ble_eq_true rfl⟩) hm.1 (mo_at0 D f mo ma _) rfl rfl rfl hl.1 rfl (Nat.le_of_ble_eq_true rfl) dX12_unloaded_30 ⟨Nat.zero_le _, Nat.zero_le _⟩ (fun H locs w => ?_)
      have hh64 : (lw_hN (M 0) n) < 64 := Nat.lt_of_lt_of_le (lw_had_n ho n (Nat.le_refl n) hn6).2 (Nat.le_trans (Nat.pow_le_pow_right (by decide) hn6) (by decide))
      refine lv_iload_n hx hb dX12_unloaded_33 rfl (lv_at hl 1 rfl) ?_
      refine lv_if_ge (tgt := 47) hx hb dX12_unloaded_34 (by decide) (fun c_34 => ?_) (fun c_34 => ?_)
      · have c_34 := Int32.not_lt.mpr c_34
        refine lv_aload_n hx hb dX12_unloaded_47 rfl (lv_at hl 0 rfl) ?_
        refine mo_get X w hm hin 15 (by decide) (List.mem_of_getElem? (i := 6) rfl) rfl dX12_unloaded_48 ?_
        refine lv_aload_n hx hb dX12_unloaded_51 rfl (lv_at hl 0 rfl) ?_
        refine mo_get (v := .int (nI (lw_hN (M 0) n))) X w hm hin 16 (by decide) (List.mem_of_getElem? (i := 7) rfl) rfl dX12_unloaded_52 ?_
        refine mo_ialdv X w hm 15 (by decide) (by decide) (lw_hN (M 0) n) rfl (by show _ < 64; exact hh64) ((lw_fill (M 0) n (lw_hN (M 0) n) (M 15) (2 ^ n)) (lw_hN (M 0) n)) rfl dX12_unloaded_55 ?_
        refine lv_if_ne (tgt := 62) hx hb dX12_unloaded_56 (by decide) (fun c_56 => ?_) (fun c_56 => ?_)
        · refine lv_aload_n hx hb dX12_unloaded_62 rfl (lv_at hl 0 rfl) ?_
          refine mo_get (v := .int (nI (lw_hN (M 0) n))) X w hm hin 16 (by decide) (List.mem_of_getElem? (i := 7) rfl) rfl dX12_unloaded_63 ?_
          refine lv_istore_n (lv' := [(2, .int (nI (lw_hN (M 0) n))), (0, .ref mo), (1, .int (k))]) hx hb dX12_unloaded_66 rfl hl (by decide) rfl (fun ls hl => ?_)
          refine lv_iconst (v := 0) hx hb dX12_unloaded_67 (by decide) ?_
          refine lv_istore_n (lv' := [(3, .int (0)), (2, .int (nI (lw_hN (M 0) n))), (0, .ref mo), (1, .int (k))]) hx hb dX12_unloaded_68 rfl hl (by decide) rfl (fun ls hl => ?_)
          obtain ⟨kk, hkk, rfl⟩ := lw_inm c_23 c_34
          have loop : ∀ (n0 j : Nat), j ≤ kk → kk + 1 ≤ j + n0 → ∀ (set : Nat), set < 64 → lw_go (lw_fill (M 0) n (lw_hN (M 0) n) (M 15) (2 ^ n)) n (kk - j) set = lw_go (lw_fill (M 0) n (lw_hN (M 0) n) (M 15) (2 ^ n)) n kk (lw_hN (M 0) n) → ∀ (H : Heap) (locs : List Loc) (ls : Array Slot), hg_W D b0 L (mo_F D f mo ma (sp_lay M n)) s.heap H locs → lv_has ls 6 [(0, .ref mo), (1, .int (nI kk)), (2, .int (nI set)), (3, .int (nI j))] → W p l e ({ frames := 7, cells := 0, slots := 0, locals := 163 }) s m args below meth c H locs 0 0 Q (F0 m 69 ls []) := by
            intro n0
            induction n0 with
            | zero =>
              intro j h1 h2
              exact absurd h2 (by omega)
            | succ n0 ih =>
              intro j hj hn0 set hs64 hG H locs ls w hl
              refine lv_iload_n hx hb dX12_unloaded_69 rfl (lv_at hl 3 rfl) ?_
              refine lv_iload_n hx hb dX12_unloaded_70 rfl (lv_at hl 1 rfl) ?_
              refine lv_icmp_gt (tgt := 159) hx hb dX12_unloaded_71 (by decide) (fun c_71 => ?_) (fun c_71 => ?_)
              · exact absurd c_71 (nI_nlt (a := kk) (b := j) hj (by omega))
              · refine lv_iconst (v := (-1)) hx hb dX12_unloaded_74 (by decide) ?_
                refine lv_istore (lv' := [(4, .int ((-1))), (0, .ref mo), (1, .int (nI kk)), (2, .int (nI set)), (3, .int (nI j))]) hx hb dX12_unloaded_75 hl (by decide) rfl (fun ls hl => ?_)
                refine lv_aload_n hx hb dX12_unloaded_77 rfl (lv_at hl 1 rfl) ?_
                refine mo_get X w hm hin 0 (by decide) (List.mem_of_getElem? (i := 1) rfl) rfl dX12_unloaded_78 ?_
                refine lv_iconst (v := 3) hx hb dX12_unloaded_81 (by decide) ?_
                refine mo_ialdv X w hm 0 (by decide) (by decide) 3 rfl (by show _ < 1400; decide) (nI n) hv.1 dX12_unloaded_82 ?_
                refine lv_iconst (v := 1) hx hb dX12_unloaded_83 (by decide) ?_
                refine lv_isub hx hb dX12_unloaded_84 ?_
                refine lv_istore (lv' := [(5, .int ((nI n - 1))), (4, .int ((-1))), (0, .ref mo), (1, .int (nI kk)), (2, .int (nI set)), (3, .int (nI j))]) hx hb dX12_unloaded_85 hl (by decide) rfl (fun ls hl => ?_)
                have loopI : ∀ (q : Nat), q ≤ n → ∀ (best : Int32), lw_nx (lw_fill (M 0) n (lw_hN (M 0) n) (M 15) (2 ^ n)) set best q = lw_nx (lw_fill (M 0) n (lw_hN (M 0) n) (M 15) (2 ^ n)) set (-1) n → ∀ (H : Heap) (locs : List Loc) (ls : Array Slot), hg_W D b0 L (mo_F D f mo ma (sp_lay M n)) s.heap H locs → lv_has ls 6 [(0, .ref mo), (1, .int (nI kk)), (2, .int (nI set)), (3, .int (nI j)), (4, .int (best)), (5, .int (nI q - 1))] → W p l e ({ frames := 7, cells := 0, slots := 0, locals := 163 }) s m args below meth c H locs 0 0 Q (F0 m 87 ls []) := by
                  intro q
                  induction q with
                  | zero =>
                    intro hq best hT H locs ls w hl
                    have hT : best = lw_nx (lw_fill (M 0) n (lw_hN (M 0) n) (M 15) (2 ^ n)) set (-1) n := hT
                    refine lv_iload hx hb dX12_unloaded_87 (lv_at hl 5 rfl) ?_
                    refine lv_if_lt (tgt := 130) hx hb dX12_unloaded_89 (by decide) (fun c_89 => ?_) (fun c_89 => ?_)
                    · refine lv_iload hx hb dX12_unloaded_130 (lv_at hl 4 rfl) ?_
                      refine lv_if_ge (tgt := 138) hx hb dX12_unloaded_132 (by decide) (fun c_132 => ?_) (fun c_132 => ?_)
                      · rw [hT] at c_132
                        have c_132 := Int32.not_lt.mpr c_132
                        obtain ⟨b, hbn, eb⟩ := lw_nx_p c_132
                        refine lv_iload_n hx hb dX12_unloaded_138 rfl (lv_at hl 3 rfl) ?_
                        refine lv_iload_n hx hb dX12_unloaded_139 rfl (lv_at hl 1 rfl) ?_
                        refine lv_icmp_ne (tgt := 146) hx hb dX12_unloaded_140 (by decide) (fun c_140 => ?_) (fun c_140 => ?_)
                        · have hjk : j < kk := by
                            rcases Nat.lt_or_ge j kk with z | z
                            · exact z
                            · exact absurd (by rw [show j = kk by omega]) c_140
                          refine lv_iload_n hx hb dX12_unloaded_146 rfl (lv_at hl 2 rfl) ?_
                          refine lv_iconst (v := 1) hx hb dX12_unloaded_147 (by decide) ?_
                          refine lv_iload hx hb dX12_unloaded_148 (lv_at hl 4 rfl) ?_
                          refine lv_ishl hx hb dX12_unloaded_150 ?_
                          refine lv_ior hx hb dX12_unloaded_151 ?_
                          refine lv_istore_n (lv' := [(2, .int ((nI set ||| (1 <<< (best &&& 31))))), (0, .ref mo), (1, .int (nI kk)), (3, .int (nI j)), (4, .int (best)), (5, .int (nI 0 - 1))]) hx hb dX12_unloaded_152 rfl hl (by decide) rfl (fun ls hl => ?_)
                          refine lv_iinc (v := nI j + 1) (lv' := [(3, .int (nI j + 1)), (2, .int ((nI set ||| (1 <<< (best &&& 31))))), (0, .ref mo), (1, .int (nI kk)), (4, .int (best)), (5, .int (nI 0 - 1))]) hx hb dX12_unloaded_153 hl (k := 3) rfl rfl (by decide) rfl (fun ls hl => ?_)
                          refine lv_goto (tgt := 69) hx hb dX12_unloaded_156 (by decide) ?_
                          have hl := hs_lv hl (k := 0) rfl (nI_1 j)
                          have eS : (nI set ||| (1 <<< (best &&& 31))) = nI (set ||| 2 ^ b) := by rw [hT, eb]; exact (lw_or set hs64 b (by omega)).1
                          have hl := hs_lv hl (k := 1) rfl eS
                          exact ih (j + 1) (by omega) (by omega) (set ||| 2 ^ b) (lw_or set hs64 b (by omega)).2.1 (by rw [← hG, show kk - j = (kk - (j + 1)) + 1 by omega, lw_go_s (by omega) c_132 eb]) H locs ls w (lv_sub hl [2, 3, 1, 0] rfl)
                        · have hjk : j = kk := (nI_eq (by omega) (by omega)).mp c_140
                          refine lv_iload hx hb dX12_unloaded_143 (lv_at hl 4 rfl) ?_
                          exact hend H locs (best) (L, mo_F D f mo ma (sp_lay M n)) _ ls w ⟨(by unfold sp_unl; rw [if_neg c_6, if_neg c_23]; rw [if_neg c_34, if_neg c_56, nI_clamp (show kk < 2 ^ 31 by omega), ← hG]; rw [show kk - j = 0 by omega, hT]; exact lw_go_0 c_132), (by unfold sp_unl; rw [if_neg c_6, if_neg c_23])⟩ rfl dX12_unloaded_145
                      · refine lv_ldc (v := (-1000000)) hx hb hown (hts _ (List.mem_of_getElem? (i := 8) rfl)) dX12_unloaded_135 ?_
                        exact hend H locs ((-1000000)) (L, mo_F D f mo ma (sp_lay M n)) _ ls w ⟨(by unfold sp_unl; rw [if_neg c_6, if_neg c_23]; rw [if_neg c_34, if_neg c_56, nI_clamp (show kk < 2 ^ 31 by omega), ← hG]; exact lw_go_n (by rw [← hT]; exact Int32.not_le.mp c_132)), (by unfold sp_unl; rw [if_neg c_6, if_neg c_23])⟩ rfl dX12_unloaded_137
                    · exact absurd (by decide) c_89
                  | succ q ihI =>
                    intro hq best hT H locs ls w hl
                    have hl := hs_lv hl (k := 5) rfl (nI_pred q)
                    have hl : lv_has ls 6 [(0, .ref mo), (1, .int (nI kk)), (2, .int (nI set)), (3, .int (nI j)), (4, .int (best)), (5, .int (nI q))] := hl
                    have hhas := lw_hasN set hs64 q (by omega)
                    refine lv_iload hx hb dX12_unloaded_87 (lv_at hl 5 rfl) ?_
                    refine lv_if_lt (tgt := 130) hx hb dX12_unloaded_89 (by decide) (fun c_89 => ?_) (fun c_89 => ?_)
                    · exact absurd c_89 (nI_pos (n := q) (by omega))
                    · refine lv_iload_n hx hb dX12_unloaded_92 rfl (lv_at hl 2 rfl) ?_
                      refine lv_iload hx hb dX12_unloaded_93 (lv_at hl 5 rfl) ?_
                      refine hg_siF (r := hs_has (nI set) (nI q)) (As := [.int (nI set), .int (nI q)]) (rest := []) X w (c_X12_has l D b0 L _ (nI set) (nI q)) (va_cwS 2 hts gX12_unloaded_X12_has rfl rfl rfl hdX12_has ⟨Nat.le_of_ble_eq_true rfl, Nat.le_of_ble_eq_true rfl⟩) rfl hl.1 rfl (Nat.le_of_ble_eq_true rfl) dX12_unloaded_95 ⟨Nat.zero_le _, Nat.zero_le _⟩ (fun H locs w => ?_)
                      refine lv_if_ne (tgt := 120) hx hb dX12_unloaded_98 (by decide) (fun c_98 => ?_) (fun c_98 => ?_)
                      · refine lv_iload hx hb dX12_unloaded_120 (lv_at hl 4 rfl) ?_
                        refine lv_istore (lv' := [(4, .int (best)), (0, .ref mo), (1, .int (nI kk)), (2, .int (nI set)), (3, .int (nI j)), (5, .int (nI q))]) hx hb dX12_unloaded_122 hl (by decide) rfl (fun ls hl => ?_)
                        refine lv_iinc (v := nI q + (-1)) (lv' := [(5, .int (nI q + (-1))), (4, .int (best)), (0, .ref mo), (1, .int (nI kk)), (2, .int (nI set)), (3, .int (nI j))]) hx hb dX12_unloaded_124 hl (k := 5) rfl rfl (by decide) rfl (fun ls hl => ?_)
                        refine lv_goto (tgt := 87) hx hb dX12_unloaded_127 (by decide) ?_
                        have hl := hs_lv hl (k := 0) rfl (hs_m1 (nI q))
                        exact ihI (by omega) best (by rw [lw_nx, if_neg (fun z => c_98 (by rw [hhas, z.1]; rfl))] at hT; exact hT) H locs ls w (lv_sub hl [2, 3, 4, 5, 1, 0] rfl)
                      · refine lv_aload_n hx hb dX12_unloaded_101 rfl (lv_at hl 0 rfl) ?_
                        refine mo_get X w hm hin 15 (by decide) (List.mem_of_getElem? (i := 6) rfl) rfl dX12_unloaded_102 ?_
                        refine lv_iload_n hx hb dX12_unloaded_105 rfl (lv_at hl 2 rfl) ?_
                        refine lv_iconst (v := 1) hx hb dX12_unloaded_106 (by decide) ?_
                        refine lv_iload hx hb dX12_unloaded_107 (lv_at hl 5 rfl) ?_
                        refine lv_ishl hx hb dX12_unloaded_109 ?_
                        refine lv_ior hx hb dX12_unloaded_110 ?_
                        refine mo_ialdv X w hm 15 (by decide) (by decide) (set ||| 2 ^ q) (lw_or set hs64 q (by omega)).1 (by show _ < 64; exact (lw_or set hs64 q (by omega)).2.1) ((lw_fill (M 0) n (lw_hN (M 0) n) (M 15) (2 ^ n)) (set ||| 2 ^ q)) rfl dX12_unloaded_111 ?_
                        refine lv_if_le (tgt := 120) hx hb dX12_unloaded_112 (by decide) (fun c_112 => ?_) (fun c_112 => ?_)
                        · refine lv_iload hx hb dX12_unloaded_120 (lv_at hl 4 rfl) ?_
                          refine lv_istore (lv' := [(4, .int (best)), (0, .ref mo), (1, .int (nI kk)), (2, .int (nI set)), (3, .int (nI j)), (5, .int (nI q))]) hx hb dX12_unloaded_122 hl (by decide) rfl (fun ls hl => ?_)
                          refine lv_iinc (v := nI q + (-1)) (lv' := [(5, .int (nI q + (-1))), (4, .int (best)), (0, .ref mo), (1, .int (nI kk)), (2, .int (nI set)), (3, .int (nI j))]) hx hb dX12_unloaded_124 hl (k := 5) rfl rfl (by decide) rfl (fun ls hl => ?_)
                          refine lv_goto (tgt := 87) hx hb dX12_unloaded_127 (by decide) ?_
                          have hl := hs_lv hl (k := 0) rfl (hs_m1 (nI q))
                          exact ihI (by omega) best (by rw [lw_nx, if_neg (fun z => absurd z.2 (Int32.not_lt.mpr c_112))] at hT; exact hT) H locs ls w (lv_sub hl [2, 3, 4, 5, 1, 0] rfl)
                        · refine lv_iload hx hb dX12_unloaded_115 (lv_at hl 5 rfl) ?_
                          refine lv_goto (tgt := 122) hx hb dX12_unloaded_117 (by decide) ?_
                          refine lv_istore (lv' := [(4, .int (nI q)), (0, .ref mo), (1, .int (nI kk)), (2, .int (nI set)), (3, .int (nI j)), (5, .int (nI q))]) hx hb dX12_unloaded_122 hl (by decide) rfl (fun ls hl => ?_)
                          refine lv_iinc (v := nI q + (-1)) (lv' := [(5, .int (nI q + (-1))), (4, .int (nI q)), (0, .ref mo), (1, .int (nI kk)), (2, .int (nI set)), (3, .int (nI j))]) hx hb dX12_unloaded_124 hl (k := 5) rfl rfl (by decide) rfl (fun ls hl => ?_)
                          refine lv_goto (tgt := 87) hx hb dX12_unloaded_127 (by decide) ?_
                          have hb0 : set.testBit q = false := by
                            cases hb : set.testBit q with
                            | false => rfl
                            | true => rw [hb, if_pos rfl] at hhas; rw [hhas] at c_98; exact absurd c_98 (by decide)
                          have hl := hs_lv hl (k := 0) rfl (hs_m1 (nI q))
                          exact ihI (by omega) (nI q) (by rw [lw_nx, if_pos ⟨hb0, Int32.not_le.mp c_112⟩] at hT; exact hT) H locs ls w (lv_sub hl [2, 3, 4, 5, 1, 0] rfl)
                exact loopI n (Nat.le_refl n) (-1) rfl H locs ls w (lv_sub hl [2, 3, 4, 5, 1, 0] rfl)
          exact loop (kk + 1) 0 (by omega) (by omega) (lw_hN (M 0) n) hh64 rfl H locs ls w (lv_sub hl [2, 3, 1, 0] rfl)
        · refine lv_ldc (v := (-1000000)) hx hb hown (hts _ (List.mem_of_getElem? (i := 8) rfl)) dX12_unloaded_59 ?_
          exact hend H locs ((-1000000)) (L, mo_F D f mo ma (sp_lay M n)) _ ls w ⟨(by unfold sp_unl; rw [if_neg c_6, if_neg c_23]; rw [if_neg c_34, if_pos c_56]), (by unfold sp_unl; rw [if_neg c_6, if_neg c_23])⟩ rfl dX12_unloaded_61
      · have c_34 := Int32.not_le.mp c_34
        refine lv_aload_n hx hb dX12_unloaded_37 rfl (lv_at hl 0 rfl) ?_
        refine mo_get X w hm hin 15 (by decide) (List.mem_of_getElem? (i := 6) rfl) rfl dX12_unloaded_38 ?_
        refine lv_aload_n hx hb dX12_unloaded_41 rfl (lv_at hl 0 rfl) ?_
        refine mo_get (v := .int (nI (lw_hN (M 0) n))) X w hm hin 16 (by decide) (List.mem_of_getElem? (i := 7) rfl) rfl dX12_unloaded_42 ?_
        refine mo_ialdv X w hm 15 (by decide) (by decide) (lw_hN (M 0) n) rfl (by show _ < 64; exact hh64) ((lw_fill (M 0) n (lw_hN (M 0) n) (M 15) (2 ^ n)) (lw_hN (M 0) n)) rfl dX12_unloaded_45 ?_
        exact hend H locs ((lw_fill (M 0) n (lw_hN (M 0) n) (M 15) (2 ^ n)) (lw_hN (M 0) n)) (L, mo_F D f mo ma (sp_lay M n)) _ ls w ⟨(by unfold sp_unl; rw [if_neg c_6, if_neg c_23]; rw [if_pos c_34]), (by unfold sp_unl; rw [if_neg c_6, if_neg c_23])⟩ rfl dX12_unloaded_46
    · refine lv_ldc (v := (-1000001)) hx hb hown (hts _ (List.mem_of_getElem? (i := 5) rfl)) dX12_unloaded_26 ?_
      exact hend H locs ((-1000001)) (L, mo_F D f mo ma M) _ ls w ⟨by rw [(show sp_unl M n k = (hs_BAD, M) from by unfold sp_unl; rw [if_neg c_6, if_pos c_23])], by rw [(show sp_unl M n k = (hs_BAD, M) from by unfold sp_unl; rw [if_neg c_6, if_pos c_23])]⟩ rfl dX12_unloaded_28
  · refine lv_ldc (v := (-1000002)) hx hb hown (hts _ (List.mem_of_getElem? (i := 2) rfl)) dX12_unloaded_9 ?_
    exact hend H locs ((-1000002)) (L, mo_F D f mo ma M) _ ls w ⟨by rw [(show sp_unl M n k = (hs_STATE, M) from if_pos c_6)], by rw [(show sp_unl M n k = (hs_STATE, M) from if_pos c_6)]⟩ rfl dX12_unloaded_11
