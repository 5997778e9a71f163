set_option maxRecDepth 100000 in
set_option maxHeartbeats 4000000 in
/-- wind -/
theorem c_X12_wind (l : Launch) (D : va_G) (b0 : Nat) (L : List Nat) (f : Nat → va_E) (mo : Nat) (ma : Nat → Nat) (M : Nat → Nat → Int32) (hm : mo_ok L mo ma) (n nr : Nat) (hv : hs_ok (M 0) n nr) (hours seed rope : Int32) : mo_Fi l yX12_wind wsX12_wind ({ frames := 6, cells := 0, slots := 0, locals := 138 }) D b0 L f mo ma M [.int (hours), .int (seed), .int (rope)] ((sp_wind M n nr hours seed rope).1) ((sp_wind M n nr hours seed rope).2) := by
  refine hg_in_i (cc := cX12_wind) (nL := 9) (by decide) rfl (Nat.le_of_ble_eq_true rfl) (fun p e s m args below meth c R Q X hR hend H locs ls w hl => ?_)
  subst hR
  obtain ⟨hx, hb, hml, hown, hts⟩ := id X.1
  have hin : ∀ w ∈ wsX120, w ∈ wsX12_wind := fun w h => List.mem_cons_of_mem _ (List.mem_append_right _ h)
  have hl : lv_has ls 9 [(0, .ref mo), (1, .int (hours)), (2, .int (seed)), (3, .int (rope))] := hl
  obtain ⟨hn, hn6, hnr, hnr3, htt⟩ := id hv
  refine lv_aload_n hx hb dX12_wind_0 rfl (lv_at hl 0 rfl) ?_
  refine mo_get X w hm hin 0 (by decide) (List.mem_of_getElem? (i := 1) rfl) rfl dX12_wind_1 ?_
  refine lv_iconst (v := 4) hx hb dX12_wind_4 (by decide) ?_
  refine mo_iald X w hm 0 (by decide) (by decide) 4 rfl (by show _ < 1400; omega) dX12_wind_5 ?_
  refine lv_if_ne (tgt := 12) hx hb dX12_wind_6 (by decide) (fun c_6 => ?_) (fun c_6 => ?_)
  · refine lv_iload_n hx hb dX12_wind_12 rfl (lv_at hl 1 rfl) ?_
    refine lv_i2l hx hb dX12_wind_13 rfl ?_
    refine lv_lconst (v := 0) hx hb dX12_wind_14 (by decide) ?_
    refine lv_ldc2 (v := 40) hx hb hown (hts _ (List.mem_of_getElem? (i := 3) rfl)) dX12_wind_15 ?_
    refine hg_siF (r := hs_in hours 0 40) (As := [.long ((hours).toInt64), .long (0), .long (40)]) (rest := []) X w (c_X12_in l D b0 L _ ((hours).toInt64) 0 40 hours 0 40 rfl (by decide) (by decide)) (va_cwS 3 hts gX12_wind_X12_in rfl rfl rfl hdX12_in ⟨Nat.le_of_ble_eq_true rfl, Nat.le_of_ble_eq_true rfl⟩) rfl hl.1 rfl (Nat.le_of_ble_eq_true rfl) dX12_wind_18 ⟨Nat.zero_le _, Nat.zero_le _⟩ (fun H locs w => ?_)
    refine lv_if_eq (tgt := 49) hx hb dX12_wind_21 (by decide) (fun c_21 => ?_) (fun c_21 => ?_)
    · refine lv_ldc (v := (-1000001)) hx hb hown (hts _ (List.mem_of_getElem? (i := 5) rfl)) dX12_wind_49 ?_
      exact hend H locs ((-1000001)) (L, mo_F D f mo ma M) _ ls w ⟨(by (try simp only [lg_cmp_le, lg_cmp_ge, lg_cmp_lt, lg_cmp_gt, ← Int32.not_lt, ← Int64.not_lt, Classical.not_not] at c_6 c_21); first | (simp [sp_wind, q_wind, c_6, c_21]; done) | (simp [sp_wind, q_wind, c_6, eq_true c_21]; done) | (exfalso; clear hend; simp_all; done)), (congrArg (fun z => (L, mo_F D f mo ma z)) (by (try simp only [lg_cmp_le, lg_cmp_ge, lg_cmp_lt, lg_cmp_gt, ← Int32.not_lt, ← Int64.not_lt, Classical.not_not] at c_6 c_21); first | (simp [sp_wind, q_wind, c_6, c_21]; done) | (simp [sp_wind, q_wind, c_6, eq_true c_21]; done) | (exfalso; clear hend; simp_all; done)))⟩ rfl dX12_wind_51
    · obtain ⟨h, hh, rfl⟩ := hs_in_j (n := 40) rfl (by decide) c_21
      have hhc : (nI h).toNatClampNeg = h := nI_clamp (by omega)
      refine lv_iload_n hx hb dX12_wind_24 rfl (lv_at hl 2 rfl) ?_
      refine lv_i2l hx hb dX12_wind_25 rfl ?_
      refine lv_lconst (v := 1) hx hb dX12_wind_26 (by decide) ?_
      refine lv_ldc2 (v := 999999) hx hb hown (hts _ (List.mem_of_getElem? (i := 4) rfl)) dX12_wind_27 ?_
      refine hg_siF (r := hs_in seed 1 999999) (As := [.long ((seed).toInt64), .long (1), .long (999999)]) (rest := []) X w (c_X12_in l D b0 L _ ((seed).toInt64) 1 999999 seed 1 999999 rfl (by decide) (by decide)) (va_cwS 3 hts gX12_wind_X12_in rfl rfl rfl hdX12_in ⟨Nat.le_of_ble_eq_true rfl, Nat.le_of_ble_eq_true rfl⟩) rfl hl.1 rfl (Nat.le_of_ble_eq_true rfl) dX12_wind_30 ⟨Nat.zero_le _, Nat.zero_le _⟩ (fun H locs w => ?_)
      refine lv_if_eq (tgt := 49) hx hb dX12_wind_33 (by decide) (fun c_33 => ?_) (fun c_33 => ?_)
      · refine lv_ldc (v := (-1000001)) hx hb hown (hts _ (List.mem_of_getElem? (i := 5) rfl)) dX12_wind_49 ?_
        exact hend H locs ((-1000001)) (L, mo_F D f mo ma M) _ ls w ⟨(by (try simp only [lg_cmp_le, lg_cmp_ge, lg_cmp_lt, lg_cmp_gt, ← Int32.not_lt, ← Int64.not_lt, Classical.not_not] at c_6 c_21 c_33); first | (simp [sp_wind, q_wind, c_6, c_21, c_33, hhc]; done) | (simp [sp_wind, q_wind, c_6, c_21, eq_true c_33, hhc]; done) | (exfalso; clear hend; simp_all; done)), (congrArg (fun z => (L, mo_F D f mo ma z)) (by (try simp only [lg_cmp_le, lg_cmp_ge, lg_cmp_lt, lg_cmp_gt, ← Int32.not_lt, ← Int64.not_lt, Classical.not_not] at c_6 c_21 c_33); first | (simp [sp_wind, q_wind, c_6, c_21, c_33, hhc]; done) | (simp [sp_wind, q_wind, c_6, c_21, eq_true c_33, hhc]; done) | (exfalso; clear hend; simp_all; done)))⟩ rfl dX12_wind_51
      · refine lv_iload_n hx hb dX12_wind_36 rfl (lv_at hl 3 rfl) ?_
        refine lv_iconst (v := (-1)) hx hb dX12_wind_37 (by decide) ?_
        refine lv_icmp_eq (tgt := 52) hx hb dX12_wind_38 (by decide) (fun c_38 => ?_) (fun c_38 => ?_)
        · refine lv_iconst (v := 0) hx hb dX12_wind_52 (by decide) ?_
          refine lv_istore (lv' := [(4, .int (0)), (0, .ref mo), (1, .int (nI h)), (2, .int (seed)), (3, .int (rope))]) hx hb dX12_wind_53 hl (by decide) rfl (fun ls hl => ?_)
          have loop1 : ∀ (n0 k : Nat), k ≤ 3 → 3 + 1 ≤ k + n0 → ∀ (H : Heap) (locs : List Loc) (ls : Array Slot), hg_W D b0 L (mo_F D f mo ma (va_up M 6 (hs_hld (M 6) (M 0) k))) s.heap H locs → lv_has ls 9 [(0, .ref mo), (1, .int (nI h)), (2, .int (seed)), (3, .int (rope)), (4, .int (nI k))] → W p l e ({ frames := 6, cells := 0, slots := 0, locals := 138 }) s m args below meth c H locs 0 0 Q (F0 m 55 ls []) := by
            intro n0
            induction n0 with
            | zero =>
              intro k h1 h2
              exact absurd h2 (by omega)
            | succ n0 ih1 =>
              intro k hk hn0 H locs ls w hl
              refine lv_iload hx hb dX12_wind_55 (lv_at hl 4 rfl) ?_
              refine lv_iconst (v := 3) hx hb dX12_wind_57 (by decide) ?_
              refine lv_icmp_ge (tgt := 83) hx hb dX12_wind_58 (by decide) (fun c_58 => ?_) (fun c_58 => ?_)
              · have hk : 3 = k := by
                  rcases Nat.lt_or_ge k 3 with q | q
                  · exact absurd c_58 (nI_ge (a := k) (b := 3) q (by omega))
                  · omega
                subst hk
                refine lv_iload_n hx hb dX12_wind_83 rfl (lv_at hl 2 rfl) ?_
                refine lv_i2l hx hb dX12_wind_84 rfl ?_
                refine lv_lstore (lv' := [(4, .long ((seed).toInt64)), (0, .ref mo), (1, .int (nI h)), (2, .int (seed)), (3, .int (rope))]) hx hb dX12_wind_85 hl (by decide) rfl (fun ls hl => ?_)
                refine lv_iconst (v := 0) hx hb dX12_wind_87 (by decide) ?_
                refine lv_istore (lv' := [(6, .int (0)), (4, .long ((seed).toInt64)), (0, .ref mo), (1, .int (nI h)), (2, .int (seed)), (3, .int (rope))]) hx hb dX12_wind_88 hl (by decide) rfl (fun ls hl => ?_)
                refine lv_iconst (v := 0) hx hb dX12_wind_90 (by decide) ?_
                refine lv_istore (lv' := [(7, .int (0)), (6, .int (0)), (4, .long ((seed).toInt64)), (0, .ref mo), (1, .int (nI h)), (2, .int (seed)), (3, .int (rope))]) hx hb dX12_wind_91 hl (by decide) rfl (fun ls hl => ?_)
                have loop : ∀ (n0 k : Nat), k ≤ h → h + 1 ≤ k + n0 → ∀ (G : Nat → Int32) (x : Int64) (hrs : Int32), hs_wh (M 0) n nr (seed).toInt64 k = (G, x, hrs) → ∀ (H : Heap) (locs : List Loc) (ls : Array Slot), hg_W D b0 L (mo_F D f mo ma (va_up (mo_held M) 0 G)) s.heap H locs → lv_has ls 9 [(0, .ref mo), (1, .int (nI h)), (2, .int (seed)), (3, .int (rope)), (4, .long (x)), (6, .int (hrs)), (7, .int (nI k))] → W p l e ({ frames := 6, cells := 0, slots := 0, locals := 138 }) s m args below meth c H locs 0 0 Q (F0 m 93 ls []) := by
                  intro n0
                  induction n0 with
                  | zero =>
                    intro k h1 h2
                    exact absurd h2 (by omega)
                  | succ n0 ih =>
                    intro k hk hn0 G x hrs hW H locs ls w hl
                    have hG : hs_ok G n nr := by have z := hs_wh_ok (x := (seed).toInt64) hv k; rw [hW] at z; exact z
                    refine lv_iload hx hb dX12_wind_93 (lv_at hl 6 rfl) ?_
                    refine lv_iload_n hx hb dX12_wind_95 rfl (lv_at hl 1 rfl) ?_
                    refine lv_icmp_ge (tgt := 195) hx hb dX12_wind_96 (by decide) (fun c_96 => ?_) (fun c_96 => ?_)
                    · have hk : h = k := by
                        rcases Nat.lt_or_ge k h with q | q
                        · exact absurd c_96 (nI_ge (a := k) (b := h) q (by omega))
                        · omega
                      subst hk
                      refine lv_iload_n hx hb dX12_wind_195 rfl (lv_at hl 3 rfl) ?_
                      refine lv_if_ge (tgt := 204) hx hb dX12_wind_196 (by decide) (fun c_196 => ?_) (fun c_196 => ?_)
                      · exact absurd c_196 (by rw [c_38]; decide)
                      · refine lv_iload hx hb dX12_wind_199 (lv_at hl 5 rfl) ?_
                        refine lv_goto (tgt := 212) hx hb dX12_wind_201 (by decide) ?_
                        refine lv_istore (lv' := [(7, .int (hrs)), (0, .ref mo), (1, .int (nI h)), (2, .int (seed)), (3, .int (rope)), (4, .long (x)), (6, .int (hrs))]) hx hb dX12_wind_212 hl (by decide) rfl (fun ls hl => ?_)
                        refine lv_iconst (v := 0) hx hb dX12_wind_214 (by decide) ?_
                        refine lv_istore (lv' := [(8, .int (0)), (7, .int (hrs)), (0, .ref mo), (1, .int (nI h)), (2, .int (seed)), (3, .int (rope)), (4, .long (x)), (6, .int (hrs))]) hx hb dX12_wind_215 hl (by decide) rfl (fun ls hl => ?_)
                        have loop3 : ∀ (n0 k : Nat), k ≤ 3 → 3 + 1 ≤ k + n0 → ∀ (H : Heap) (locs : List Loc) (ls : Array Slot), hg_W D b0 L (mo_F D f mo ma (va_up (mo_held M) 0 (hs_rst (M 0) G k))) s.heap H locs → lv_has ls 9 [(0, .ref mo), (7, .int (hrs)), (8, .int (nI k))] → W p l e ({ frames := 6, cells := 0, slots := 0, locals := 138 }) s m args below meth c H locs 0 0 Q (F0 m 217 ls []) := by
                          intro n0
                          induction n0 with
                          | zero =>
                            intro k h1 h2
                            exact absurd h2 (by omega)
                          | succ n0 ih3 =>
                            intro k hk hn0 H locs ls w hl
                            refine lv_iload hx hb dX12_wind_217 (lv_at hl 2 rfl) ?_
                            refine lv_iconst (v := 3) hx hb dX12_wind_219 (by decide) ?_
                            refine lv_icmp_ge (tgt := 245) hx hb dX12_wind_220 (by decide) (fun c_220 => ?_) (fun c_220 => ?_)
                            · have hk : 3 = k := by
                                rcases Nat.lt_or_ge k 3 with q | q
                                · exact absurd c_220 (nI_ge (a := k) (b := 3) q (by omega))
                                · omega
                              subst hk
                              refine lv_iload hx hb dX12_wind_245 (lv_at hl 1 rfl) ?_
                              have hWe : hs_rst (M 0) G 3 = M 0 := hs_rst_3 (fun j hj => by have z := hs_wh_ne (g := M 0) (n := n) (x := (seed).toInt64) hnr3 j hj h; rw [hW] at z; exact z)
                              rw [hWe, mo_held_up] at w
                              exact hend H locs (hrs) (L, mo_F D f mo ma (mo_held M)) _ ls w ⟨(by have e1 : ¬ (M 0 4 = 0 ∨ hs_in (nI h) 0 40 = 0 ∨ hs_in seed 1 999999 = 0 ∨ (¬ rope = -1 ∧ hs_isRo (M 0) rope = 0)) := (by simp [c_6, c_21, c_33, c_38, hhc]); rw [sp_wind, if_neg e1]; simp [q_wind, c_6, c_21, c_33, c_38, hhc, c_196, hW, va_up_self]), (congrArg (fun z => (L, mo_F D f mo ma z)) (by have e1 : ¬ (M 0 4 = 0 ∨ hs_in (nI h) 0 40 = 0 ∨ hs_in seed 1 999999 = 0 ∨ (¬ rope = -1 ∧ hs_isRo (M 0) rope = 0)) := (by simp [c_6, c_21, c_33, c_38, hhc]); rw [sp_wind, if_neg e1]))⟩ rfl dX12_wind_247
                            · have hkl : k < 3 := by
                                rcases Nat.lt_or_ge k 3 with q | q
                                · exact q
                                · exact absurd (nI_le (a := 3) (b := k) q (by omega)) c_220
                              refine lv_aload_n hx hb dX12_wind_223 rfl (lv_at hl 0 rfl) ?_
                              refine mo_get X w hm hin 0 (by decide) (List.mem_of_getElem? (i := 1) rfl) rfl dX12_wind_224 ?_
                              refine lv_iconst (v := 5) hx hb dX12_wind_227 (by decide) ?_
                              refine lv_iload hx hb dX12_wind_228 (lv_at hl 2 rfl) ?_
                              refine lv_iadd hx hb dX12_wind_230 ?_
                              refine lv_aload_n hx hb dX12_wind_231 rfl (lv_at hl 0 rfl) ?_
                              refine mo_get X w hm hin 6 (by decide) (List.mem_of_getElem? (i := 6) rfl) rfl dX12_wind_232 ?_
                              refine lv_iload hx hb dX12_wind_235 (lv_at hl 2 rfl) ?_
                              refine mo_iald X w hm 6 (by decide) (by decide) k rfl (by show _ < 40; omega) dX12_wind_237 ?_
                              refine mo_iast X w hm 0 (by decide) (by decide) (5 + k) (hs_addI rfl rfl) (by show _ < 1400; omega) dX12_wind_238 (fun H locs w => ?_)
                              refine lv_iinc (v := nI k + 1) (lv' := [(8, .int (nI k + 1)), (0, .ref mo), (7, .int (hrs))]) hx hb dX12_wind_239 hl (k := 2) rfl rfl (by decide) rfl (fun ls hl => ?_)
                              refine lv_goto (tgt := 217) hx hb dX12_wind_242 (by decide) ?_
                              have hl := hs_lv hl (k := 0) rfl (nI_1 k)
                              exact ih3 (k + 1) (by omega) (by omega) H locs ls (by rw [hs_up_up, show va_up (hs_rst (M 0) G k) (5 + k) (va_up (mo_held M) 0 (hs_rst (M 0) G k) 6 k) = hs_rst (M 0) G (k + 1) from (by rw [show va_up (mo_held M) 0 (hs_rst (M 0) G k) 6 k = M 0 (5 + k) from (by show hs_hld (M 6) (M 0) 3 k = _; simp only [hs_hld]; rw [if_pos hkl])]; exact hs_rst_s _ _ _)] at w; exact w) (lv_sub hl [1, 2, 0] rfl)
                        exact loop3 4 0 (by omega) (by omega) H locs ls (by rw [hs_rst_0]; exact w) (lv_sub hl [2, 1, 0] rfl)
                    · have hkl : k < h := by
                        rcases Nat.lt_or_ge k h with q | q
                        · exact q
                        · exact absurd (nI_le (a := h) (b := k) q (by omega)) c_96
                      refine lv_iconst (v := 0) hx hb dX12_wind_99 (by decide) ?_
                      refine lv_istore (lv' := [(8, .int (0)), (0, .ref mo), (1, .int (nI h)), (2, .int (seed)), (3, .int (rope)), (4, .long (x)), (6, .int (hrs)), (7, .int (nI k))]) hx hb dX12_wind_100 hl (by decide) rfl (fun ls hl => ?_)
                      have loop2 : ∀ (n0 k2 : Nat), k2 ≤ nr → nr + 1 ≤ k2 + n0 → ∀ (G2 : Nat → Int32) (x2 : Int64), hs_wr G x k2 = (G2, x2) → ∀ (H : Heap) (locs : List Loc) (ls : Array Slot), hg_W D b0 L (mo_F D f mo ma (va_up (mo_held M) 0 G2)) s.heap H locs → lv_has ls 9 [(0, .ref mo), (1, .int (nI h)), (2, .int (seed)), (3, .int (rope)), (4, .long (x2)), (6, .int (hrs)), (7, .int (nI k)), (8, .int (nI k2))] → W p l e ({ frames := 6, cells := 0, slots := 0, locals := 138 }) s m args below meth c H locs 0 0 Q (F0 m 102 ls []) := by
                        intro n0
                        induction n0 with
                        | zero =>
                          intro k2 h1 h2
                          exact absurd h2 (by omega)
                        | succ n0 ih2 =>
                          intro k2 hk2 hn2 G2 x2 hW2 H locs ls w hl
                          have hG2 : hs_ok G2 n nr := by have z := hs_wr_ok (x := x) hG k2 hk2; rw [hW2] at z; exact z
                          have hr2 : (va_up (mo_held M) 0 G2) 0 2 = nI nr := hG2.2.2.1
                          refine lv_iload hx hb dX12_wind_102 (lv_at hl 7 rfl) ?_
                          refine lv_aload_n hx hb dX12_wind_104 rfl (lv_at hl 0 rfl) ?_
                          refine mo_get X w hm hin 0 (by decide) (List.mem_of_getElem? (i := 1) rfl) rfl dX12_wind_105 ?_
                          refine lv_iconst (v := 2) hx hb dX12_wind_108 (by decide) ?_
                          refine mo_iald X w hm 0 (by decide) (by decide) 2 rfl (by show _ < 1400; omega) dX12_wind_109 ?_
                          refine lv_icmp_ge (tgt := 172) hx hb dX12_wind_110 (by decide) (fun c_110 => ?_) (fun c_110 => ?_)
                          · rw [hr2] at c_110
                            have hk2 : nr = k2 := by
                              rcases Nat.lt_or_ge k2 nr with q | q
                              · exact absurd c_110 (nI_ge (a := k2) (b := nr) q (by omega))
                              · omega
                            subst hk2
                            refine lv_iload hx hb dX12_wind_172 (lv_at hl 5 rfl) ?_
                            refine lv_aload_n hx hb dX12_wind_174 rfl (lv_at hl 0 rfl) ?_
                            refine hg_viF (r := (hs_drop G2 n n)) (As := []) (rest := [.int (hrs)]) X w (c_X12_dropping l D b0 L f mo ma (va_up (mo_held M) 0 G2) hm n nr hG2) (cwV 0 hts gX12_wind_X12_dropping rfl rfl rfl hdX12_dropping ⟨Nat.le_of_ble_eq_true rfl, Nat.le_of_ble_eq_true rfl⟩) hm.1 (mo_at0 D f mo ma _) rfl rfl rfl hl.1 rfl (Nat.le_of_ble_eq_true rfl) dX12_wind_175 ⟨Nat.zero_le _, Nat.zero_le _⟩ (fun H locs w => ?_)
                            refine lv_if_ne (tgt := 185) hx hb dX12_wind_178 (by decide) (fun c_178 => ?_) (fun c_178 => ?_)
                            · refine lv_iconst (v := 0) hx hb dX12_wind_185 (by decide) ?_
                              refine lv_iadd hx hb dX12_wind_186 ?_
                              refine lv_istore (lv' := [(6, .int ((hrs + 0))), (0, .ref mo), (1, .int (nI h)), (2, .int (seed)), (3, .int (rope)), (4, .long (x2)), (7, .int (nI k)), (8, .int (nI nr))]) hx hb dX12_wind_187 hl (by decide) rfl (fun ls hl => ?_)
                              refine lv_iinc (v := nI k + 1) (lv' := [(7, .int (nI k + 1)), (6, .int ((hrs + 0))), (0, .ref mo), (1, .int (nI h)), (2, .int (seed)), (3, .int (rope)), (4, .long (x2)), (8, .int (nI nr))]) hx hb dX12_wind_189 hl (k := 6) rfl rfl (by decide) rfl (fun ls hl => ?_)
                              refine lv_goto (tgt := 93) hx hb dX12_wind_192 (by decide) ?_
                              have hl := hs_lv hl (k := 0) rfl (nI_1 k)
                              exact ih (k + 1) (by omega) (by omega) G2 x2 (hrs + 0) (by simp only [hs_wh, hW, hW2]; rw [if_neg c_178]) H locs ls w (lv_sub hl [2, 3, 4, 5, 6, 1, 0] rfl)
                            · refine lv_iconst (v := 1) hx hb dX12_wind_181 (by decide) ?_
                              refine lv_goto (tgt := 186) hx hb dX12_wind_182 (by decide) ?_
                              refine lv_iadd hx hb dX12_wind_186 ?_
                              refine lv_istore (lv' := [(6, .int ((hrs + 1))), (0, .ref mo), (1, .int (nI h)), (2, .int (seed)), (3, .int (rope)), (4, .long (x2)), (7, .int (nI k)), (8, .int (nI nr))]) hx hb dX12_wind_187 hl (by decide) rfl (fun ls hl => ?_)
                              refine lv_iinc (v := nI k + 1) (lv' := [(7, .int (nI k + 1)), (6, .int ((hrs + 1))), (0, .ref mo), (1, .int (nI h)), (2, .int (seed)), (3, .int (rope)), (4, .long (x2)), (8, .int (nI nr))]) hx hb dX12_wind_189 hl (k := 6) rfl rfl (by decide) rfl (fun ls hl => ?_)
                              refine lv_goto (tgt := 93) hx hb dX12_wind_192 (by decide) ?_
                              have hl := hs_lv hl (k := 0) rfl (nI_1 k)
                              exact ih (k + 1) (by omega) (by omega) G2 x2 (hrs + 1) (by simp only [hs_wh, hW, hW2]; rw [if_pos c_178]) H locs ls w (lv_sub hl [2, 3, 4, 5, 6, 1, 0] rfl)
                          · rw [hr2] at c_110
                            have hk2l : k2 < nr := by
                              rcases Nat.lt_or_ge k2 nr with q | q
                              · exact q
                              · exact absurd (nI_le (a := nr) (b := k2) q (by omega)) c_110
                            refine lv_lload hx hb dX12_wind_113 (lv_at hl 4 rfl) ?_
                            refine lv_ldc2 (v := 16807) hx hb hown (hts _ (List.mem_of_getElem? (i := 7) rfl)) dX12_wind_115 ?_
                            refine lv_lmul hx hb dX12_wind_118 ?_
                            refine lv_ldc2 (v := 2147483647) hx hb hown (hts _ (List.mem_of_getElem? (i := 8) rfl)) dX12_wind_119 ?_
                            refine lv_lrem hx hb dX12_wind_122 (by decide) ?_
                            refine lv_lstore (lv' := [(4, .long (((x2 * 16807) - (x2 * 16807) / 2147483647 * 2147483647))), (0, .ref mo), (1, .int (nI h)), (2, .int (seed)), (3, .int (rope)), (6, .int (hrs)), (7, .int (nI k)), (8, .int (nI k2))]) hx hb dX12_wind_123 hl (by decide) rfl (fun ls hl => ?_)
                            refine lv_aload_n hx hb dX12_wind_125 rfl (lv_at hl 1 rfl) ?_
                            refine mo_get X w hm hin 0 (by decide) (List.mem_of_getElem? (i := 1) rfl) rfl dX12_wind_126 ?_
                            refine lv_iconst (v := 5) hx hb dX12_wind_129 (by decide) ?_
                            refine lv_iload hx hb dX12_wind_130 (lv_at hl 7 rfl) ?_
                            refine lv_iadd hx hb dX12_wind_132 ?_
                            refine lv_dup2_11 hx hb dX12_wind_133 rfl rfl ?_
                            refine mo_iald X w hm 0 (by decide) (by decide) (5 + k2) (hs_addI rfl rfl) (by show _ < 1400; omega) dX12_wind_134 ?_
                            refine lv_lload hx hb dX12_wind_135 (lv_at hl 0 rfl) ?_
                            refine lv_ldc2 (v := 20) hx hb hown (hts _ (List.mem_of_getElem? (i := 9) rfl)) dX12_wind_137 ?_
                            refine lv_lrem hx hb dX12_wind_140 (by decide) ?_
                            refine lv_lconst (v := 0) hx hb dX12_wind_141 (by decide) ?_
                            refine W.lcmp hx hb dX12_wind_142 ?_
                            refine lv_if_ne (tgt := 163) hx hb dX12_wind_143 (by decide) (fun c_143 => ?_) (fun c_143 => ?_)
                            · refine lv_iconst (v := 0) hx hb dX12_wind_163 (by decide) ?_
                              refine lv_isub hx hb dX12_wind_164 ?_
                              refine mo_iast X w hm 0 (by decide) (by decide) (5 + k2) (hs_addI rfl rfl) (by show _ < 1400; omega) dX12_wind_165 (fun H locs w => ?_)
                              rw [hs_up_up] at w
                              refine lv_iinc (v := nI k2 + 1) (lv' := [(8, .int (nI k2 + 1)), (4, .long (((x2 * 16807) - (x2 * 16807) / 2147483647 * 2147483647))), (0, .ref mo), (1, .int (nI h)), (2, .int (seed)), (3, .int (rope)), (6, .int (hrs)), (7, .int (nI k))]) hx hb dX12_wind_166 hl (k := 7) rfl rfl (by decide) rfl (fun ls hl => ?_)
                              refine lv_goto (tgt := 102) hx hb dX12_wind_169 (by decide) ?_
                              have hV : hs_wt G2 x2 k2 = (((va_up (mo_held M) 0 G2) 0 (5 + k2) - 0)) := by
                                show G2 (5 + k2) - (if hs_wx x2 - hs_wx x2 / 20 * 20 = 0 ∧ 1 < G2 (5 + k2) then 1 else 0) = _
                                rw [if_neg (fun q => c_143 ((lg_cmp_eq _ _).mpr q.1))]; rfl
                              have hl := hs_lv hl (k := 0) rfl (nI_1 k2)
                              exact ih2 (k2 + 1) (by omega) (by omega) (va_up G2 (5 + k2) (((va_up (mo_held M) 0 G2) 0 (5 + k2) - 0))) (hs_wx x2) (by simp only [hs_wr, hW2, hV]) H locs ls w (lv_sub hl [2, 3, 4, 5, 1, 6, 7, 0] rfl)
                            · refine lv_aload_n hx hb dX12_wind_146 rfl (lv_at hl 1 rfl) ?_
                              refine mo_get X w hm hin 0 (by decide) (List.mem_of_getElem? (i := 1) rfl) rfl dX12_wind_147 ?_
                              refine lv_iconst (v := 5) hx hb dX12_wind_150 (by decide) ?_
                              refine lv_iload hx hb dX12_wind_151 (lv_at hl 7 rfl) ?_
                              refine lv_iadd hx hb dX12_wind_153 ?_
                              refine mo_iald X w hm 0 (by decide) (by decide) (5 + k2) (hs_addI rfl rfl) (by show _ < 1400; omega) dX12_wind_154 ?_
                              refine lv_iconst (v := 1) hx hb dX12_wind_155 (by decide) ?_
                              refine lv_icmp_le (tgt := 163) hx hb dX12_wind_156 (by decide) (fun c_156 => ?_) (fun c_156 => ?_)
                              · refine lv_iconst (v := 0) hx hb dX12_wind_163 (by decide) ?_
                                refine lv_isub hx hb dX12_wind_164 ?_
                                refine mo_iast X w hm 0 (by decide) (by decide) (5 + k2) (hs_addI rfl rfl) (by show _ < 1400; omega) dX12_wind_165 (fun H locs w => ?_)
                                rw [hs_up_up] at w
                                refine lv_iinc (v := nI k2 + 1) (lv' := [(8, .int (nI k2 + 1)), (4, .long (((x2 * 16807) - (x2 * 16807) / 2147483647 * 2147483647))), (0, .ref mo), (1, .int (nI h)), (2, .int (seed)), (3, .int (rope)), (6, .int (hrs)), (7, .int (nI k))]) hx hb dX12_wind_166 hl (k := 7) rfl rfl (by decide) rfl (fun ls hl => ?_)
                                refine lv_goto (tgt := 102) hx hb dX12_wind_169 (by decide) ?_
                                have hV : hs_wt G2 x2 k2 = (((va_up (mo_held M) 0 G2) 0 (5 + k2) - 0)) := by
                                  show G2 (5 + k2) - (if hs_wx x2 - hs_wx x2 / 20 * 20 = 0 ∧ 1 < G2 (5 + k2) then 1 else 0) = _
                                  rw [if_neg (fun q => absurd q.2 (hs_nlt c_156))]; rfl
                                have hl := hs_lv hl (k := 0) rfl (nI_1 k2)
                                exact ih2 (k2 + 1) (by omega) (by omega) (va_up G2 (5 + k2) (((va_up (mo_held M) 0 G2) 0 (5 + k2) - 0))) (hs_wx x2) (by simp only [hs_wr, hW2, hV]) H locs ls w (lv_sub hl [2, 3, 4, 5, 1, 6, 7, 0] rfl)
                              · refine lv_iconst (v := 1) hx hb dX12_wind_159 (by decide) ?_
                                refine lv_goto (tgt := 164) hx hb dX12_wind_160 (by decide) ?_
                                refine lv_isub hx hb dX12_wind_164 ?_
                                refine mo_iast X w hm 0 (by decide) (by decide) (5 + k2) (hs_addI rfl rfl) (by show _ < 1400; omega) dX12_wind_165 (fun H locs w => ?_)
                                rw [hs_up_up] at w
                                refine lv_iinc (v := nI k2 + 1) (lv' := [(8, .int (nI k2 + 1)), (4, .long (((x2 * 16807) - (x2 * 16807) / 2147483647 * 2147483647))), (0, .ref mo), (1, .int (nI h)), (2, .int (seed)), (3, .int (rope)), (6, .int (hrs)), (7, .int (nI k))]) hx hb dX12_wind_166 hl (k := 7) rfl rfl (by decide) rfl (fun ls hl => ?_)
                                refine lv_goto (tgt := 102) hx hb dX12_wind_169 (by decide) ?_
                                have hV : hs_wt G2 x2 k2 = (((va_up (mo_held M) 0 G2) 0 (5 + k2) - 1)) := by
                                  show G2 (5 + k2) - (if hs_wx x2 - hs_wx x2 / 20 * 20 = 0 ∧ 1 < G2 (5 + k2) then 1 else 0) = _
                                  rw [if_pos ⟨(lg_cmp_eq _ _).mp c_143, hs_lt c_156⟩]; rfl
                                have hl := hs_lv hl (k := 0) rfl (nI_1 k2)
                                exact ih2 (k2 + 1) (by omega) (by omega) (va_up G2 (5 + k2) (((va_up (mo_held M) 0 G2) 0 (5 + k2) - 1))) (hs_wx x2) (by simp only [hs_wr, hW2, hV]) H locs ls w (lv_sub hl [2, 3, 4, 5, 1, 6, 7, 0] rfl)
                      exact loop2 (nr + 1) 0 (by omega) (by omega) G x rfl H locs ls w (lv_sub hl [1, 2, 3, 4, 5, 6, 7, 0] rfl)
                exact loop (h + 1) 0 (by omega) (by omega) (M 0) (seed).toInt64 0 rfl H locs ls (by rw [mo_held_up]; exact w) (lv_sub hl [3, 4, 5, 6, 2, 1, 0] rfl)
              · have hkl : k < 3 := by
                  rcases Nat.lt_or_ge k 3 with q | q
                  · exact q
                  · exact absurd (nI_le (a := 3) (b := k) q (by omega)) c_58
                refine lv_aload_n hx hb dX12_wind_61 rfl (lv_at hl 0 rfl) ?_
                refine mo_get X w hm hin 6 (by decide) (List.mem_of_getElem? (i := 6) rfl) rfl dX12_wind_62 ?_
                refine lv_iload hx hb dX12_wind_65 (lv_at hl 4 rfl) ?_
                refine lv_aload_n hx hb dX12_wind_67 rfl (lv_at hl 0 rfl) ?_
                refine mo_get X w hm hin 0 (by decide) (List.mem_of_getElem? (i := 1) rfl) rfl dX12_wind_68 ?_
                refine lv_iconst (v := 5) hx hb dX12_wind_71 (by decide) ?_
                refine lv_iload hx hb dX12_wind_72 (lv_at hl 4 rfl) ?_
                refine lv_iadd hx hb dX12_wind_74 ?_
                refine mo_iald X w hm 0 (by decide) (by decide) (5 + k) (hs_addI rfl rfl) (by show _ < 1400; omega) dX12_wind_75 ?_
                refine mo_iast X w hm 6 (by decide) (by decide) k rfl (by show _ < 40; omega) dX12_wind_76 (fun H locs w => ?_)
                refine lv_iinc (v := nI k + 1) (lv' := [(4, .int (nI k + 1)), (0, .ref mo), (1, .int (nI h)), (2, .int (seed)), (3, .int (rope))]) hx hb dX12_wind_77 hl (k := 4) rfl rfl (by decide) rfl (fun ls hl => ?_)
                refine lv_goto (tgt := 55) hx hb dX12_wind_80 (by decide) ?_
                have hl := hs_lv hl (k := 0) rfl (nI_1 k)
                exact ih1 (k + 1) (by omega) (by omega) H locs ls (by rw [hs_up_up, show va_up (hs_hld (M 6) (M 0) k) k (va_up M 6 (hs_hld (M 6) (M 0) k) 0 (5 + k)) = hs_hld (M 6) (M 0) (k + 1) from hs_hld_s _ _ _] at w; exact w) (lv_sub hl [1, 2, 3, 4, 0] rfl)
          exact loop1 4 0 (by omega) (by omega) H locs ls (by rw [hs_hld_0, hs_up_id]; exact w) (lv_sub hl [1, 2, 3, 4, 0] rfl)
        · refine lv_aload_n hx hb dX12_wind_41 rfl (lv_at hl 0 rfl) ?_
          refine lv_iload_n hx hb dX12_wind_42 rfl (lv_at hl 3 rfl) ?_
          refine hg_viF (r := hs_isRo (M 0) rope) (As := [.int (rope)]) (rest := []) X w (c_X12_isRope l D b0 L f mo ma M hm rope) (cwV 1 hts gX12_wind_X12_isRope rfl rfl rfl hdX12_isRope ⟨Nat.le_of_ble_eq_true rfl, Nat.le_of_ble_eq_true rfl⟩) hm.1 (mo_at0 D f mo ma _) rfl rfl rfl hl.1 rfl (Nat.le_of_ble_eq_true rfl) dX12_wind_43 ⟨Nat.zero_le _, Nat.zero_le _⟩ (fun H locs w => ?_)
          refine lv_if_ne (tgt := 52) hx hb dX12_wind_46 (by decide) (fun c_46 => ?_) (fun c_46 => ?_)
          · obtain ⟨r, hr, rfl⟩ := hs_ro_1 hv c_46
            have hrc := hs_cl hr (by omega)
            refine lv_iconst (v := 0) hx hb dX12_wind_52 (by decide) ?_
            refine lv_istore (lv' := [(4, .int (0)), (0, .ref mo), (1, .int (nI h)), (2, .int (seed)), (3, .int (nI r))]) hx hb dX12_wind_53 hl (by decide) rfl (fun ls hl => ?_)
            have loop1 : ∀ (n0 k : Nat), k ≤ 3 → 3 + 1 ≤ k + n0 → ∀ (H : Heap) (locs : List Loc) (ls : Array Slot), hg_W D b0 L (mo_F D f mo ma (va_up M 6 (hs_hld (M 6) (M 0) k))) s.heap H locs → lv_has ls 9 [(0, .ref mo), (1, .int (nI h)), (2, .int (seed)), (3, .int (nI r)), (4, .int (nI k))] → W p l e ({ frames := 6, cells := 0, slots := 0, locals := 138 }) s m args below meth c H locs 0 0 Q (F0 m 55 ls []) := by
              intro n0
              induction n0 with
              | zero =>
                intro k h1 h2
                exact absurd h2 (by omega)
              | succ n0 ih1 =>
                intro k hk hn0 H locs ls w hl
                refine lv_iload hx hb dX12_wind_55 (lv_at hl 4 rfl) ?_
                refine lv_iconst (v := 3) hx hb dX12_wind_57 (by decide) ?_
                refine lv_icmp_ge (tgt := 83) hx hb dX12_wind_58 (by decide) (fun c_58 => ?_) (fun c_58 => ?_)
                · have hk : 3 = k := by
                    rcases Nat.lt_or_ge k 3 with q | q
                    · exact absurd c_58 (nI_ge (a := k) (b := 3) q (by omega))
                    · omega
                  subst hk
                  refine lv_iload_n hx hb dX12_wind_83 rfl (lv_at hl 2 rfl) ?_
                  refine lv_i2l hx hb dX12_wind_84 rfl ?_
                  refine lv_lstore (lv' := [(4, .long ((seed).toInt64)), (0, .ref mo), (1, .int (nI h)), (2, .int (seed)), (3, .int (nI r))]) hx hb dX12_wind_85 hl (by decide) rfl (fun ls hl => ?_)
                  refine lv_iconst (v := 0) hx hb dX12_wind_87 (by decide) ?_
                  refine lv_istore (lv' := [(6, .int (0)), (4, .long ((seed).toInt64)), (0, .ref mo), (1, .int (nI h)), (2, .int (seed)), (3, .int (nI r))]) hx hb dX12_wind_88 hl (by decide) rfl (fun ls hl => ?_)
                  refine lv_iconst (v := 0) hx hb dX12_wind_90 (by decide) ?_
                  refine lv_istore (lv' := [(7, .int (0)), (6, .int (0)), (4, .long ((seed).toInt64)), (0, .ref mo), (1, .int (nI h)), (2, .int (seed)), (3, .int (nI r))]) hx hb dX12_wind_91 hl (by decide) rfl (fun ls hl => ?_)
                  have loop : ∀ (n0 k : Nat), k ≤ h → h + 1 ≤ k + n0 → ∀ (G : Nat → Int32) (x : Int64) (hrs : Int32), hs_wh (M 0) n nr (seed).toInt64 k = (G, x, hrs) → ∀ (H : Heap) (locs : List Loc) (ls : Array Slot), hg_W D b0 L (mo_F D f mo ma (va_up (mo_held M) 0 G)) s.heap H locs → lv_has ls 9 [(0, .ref mo), (1, .int (nI h)), (2, .int (seed)), (3, .int (nI r)), (4, .long (x)), (6, .int (hrs)), (7, .int (nI k))] → W p l e ({ frames := 6, cells := 0, slots := 0, locals := 138 }) s m args below meth c H locs 0 0 Q (F0 m 93 ls []) := by
                    intro n0
                    induction n0 with
                    | zero =>
                      intro k h1 h2
                      exact absurd h2 (by omega)
                    | succ n0 ih =>
                      intro k hk hn0 G x hrs hW H locs ls w hl
                      have hG : hs_ok G n nr := by have z := hs_wh_ok (x := (seed).toInt64) hv k; rw [hW] at z; exact z
                      refine lv_iload hx hb dX12_wind_93 (lv_at hl 6 rfl) ?_
                      refine lv_iload_n hx hb dX12_wind_95 rfl (lv_at hl 1 rfl) ?_
                      refine lv_icmp_ge (tgt := 195) hx hb dX12_wind_96 (by decide) (fun c_96 => ?_) (fun c_96 => ?_)
                      · have hk : h = k := by
                          rcases Nat.lt_or_ge k h with q | q
                          · exact absurd c_96 (nI_ge (a := k) (b := h) q (by omega))
                          · omega
                        subst hk
                        refine lv_iload_n hx hb dX12_wind_195 rfl (lv_at hl 3 rfl) ?_
                        refine lv_if_ge (tgt := 204) hx hb dX12_wind_196 (by decide) (fun c_196 => ?_) (fun c_196 => ?_)
                        · refine lv_aload_n hx hb dX12_wind_204 rfl (lv_at hl 0 rfl) ?_
                          refine mo_get X w hm hin 0 (by decide) (List.mem_of_getElem? (i := 1) rfl) rfl dX12_wind_205 ?_
                          refine lv_iconst (v := 5) hx hb dX12_wind_208 (by decide) ?_
                          refine lv_iload_n hx hb dX12_wind_209 rfl (lv_at hl 3 rfl) ?_
                          refine lv_iadd hx hb dX12_wind_210 ?_
                          refine mo_iald X w hm 0 (by decide) (by decide) (5 + r) (hs_addI rfl rfl) (by show _ < 1400; omega) dX12_wind_211 ?_
                          refine lv_istore (lv' := [(7, .int ((va_up (mo_held M) 0 G) 0 (5 + r))), (0, .ref mo), (1, .int (nI h)), (2, .int (seed)), (3, .int (nI r)), (4, .long (x)), (6, .int (hrs))]) hx hb dX12_wind_212 hl (by decide) rfl (fun ls hl => ?_)
                          refine lv_iconst (v := 0) hx hb dX12_wind_214 (by decide) ?_
                          refine lv_istore (lv' := [(8, .int (0)), (7, .int ((va_up (mo_held M) 0 G) 0 (5 + r))), (0, .ref mo), (1, .int (nI h)), (2, .int (seed)), (3, .int (nI r)), (4, .long (x)), (6, .int (hrs))]) hx hb dX12_wind_215 hl (by decide) rfl (fun ls hl => ?_)
                          have loop3 : ∀ (n0 k : Nat), k ≤ 3 → 3 + 1 ≤ k + n0 → ∀ (H : Heap) (locs : List Loc) (ls : Array Slot), hg_W D b0 L (mo_F D f mo ma (va_up (mo_held M) 0 (hs_rst (M 0) G k))) s.heap H locs → lv_has ls 9 [(0, .ref mo), (7, .int ((va_up (mo_held M) 0 G) 0 (5 + r))), (8, .int (nI k))] → W p l e ({ frames := 6, cells := 0, slots := 0, locals := 138 }) s m args below meth c H locs 0 0 Q (F0 m 217 ls []) := by
                            intro n0
                            induction n0 with
                            | zero =>
                              intro k h1 h2
                              exact absurd h2 (by omega)
                            | succ n0 ih3 =>
                              intro k hk hn0 H locs ls w hl
                              refine lv_iload hx hb dX12_wind_217 (lv_at hl 2 rfl) ?_
                              refine lv_iconst (v := 3) hx hb dX12_wind_219 (by decide) ?_
                              refine lv_icmp_ge (tgt := 245) hx hb dX12_wind_220 (by decide) (fun c_220 => ?_) (fun c_220 => ?_)
                              · have hk : 3 = k := by
                                  rcases Nat.lt_or_ge k 3 with q | q
                                  · exact absurd c_220 (nI_ge (a := k) (b := 3) q (by omega))
                                  · omega
                                subst hk
                                refine lv_iload hx hb dX12_wind_245 (lv_at hl 1 rfl) ?_
                                have hWe : hs_rst (M 0) G 3 = M 0 := hs_rst_3 (fun j hj => by have z := hs_wh_ne (g := M 0) (n := n) (x := (seed).toInt64) hnr3 j hj h; rw [hW] at z; exact z)
                                rw [hWe, mo_held_up] at w
                                exact hend H locs ((va_up (mo_held M) 0 G) 0 (5 + r)) (L, mo_F D f mo ma (mo_held M)) _ ls w ⟨(by have e1 : ¬ (M 0 4 = 0 ∨ hs_in (nI h) 0 40 = 0 ∨ hs_in seed 1 999999 = 0 ∨ (¬ (nI r) = -1 ∧ hs_isRo (M 0) (nI r) = 0)) := (by simp [c_6, c_21, c_33, c_38, c_46, hhc, hrc]); rw [sp_wind, if_neg e1]; simp [q_wind, c_6, c_21, c_33, c_38, c_46, hhc, hrc, c_196, hW, va_up_self]), (congrArg (fun z => (L, mo_F D f mo ma z)) (by have e1 : ¬ (M 0 4 = 0 ∨ hs_in (nI h) 0 40 = 0 ∨ hs_in seed 1 999999 = 0 ∨ (¬ (nI r) = -1 ∧ hs_isRo (M 0) (nI r) = 0)) := (by simp [c_6, c_21, c_33, c_38, c_46, hhc, hrc]); rw [sp_wind, if_neg e1]))⟩ rfl dX12_wind_247
                              · have hkl : k < 3 := by
                                  rcases Nat.lt_or_ge k 3 with q | q
                                  · exact q
                                  · exact absurd (nI_le (a := 3) (b := k) q (by omega)) c_220
                                refine lv_aload_n hx hb dX12_wind_223 rfl (lv_at hl 0 rfl) ?_
                                refine mo_get X w hm hin 0 (by decide) (List.mem_of_getElem? (i := 1) rfl) rfl dX12_wind_224 ?_
                                refine lv_iconst (v := 5) hx hb dX12_wind_227 (by decide) ?_
                                refine lv_iload hx hb dX12_wind_228 (lv_at hl 2 rfl) ?_
                                refine lv_iadd hx hb dX12_wind_230 ?_
                                refine lv_aload_n hx hb dX12_wind_231 rfl (lv_at hl 0 rfl) ?_
                                refine mo_get X w hm hin 6 (by decide) (List.mem_of_getElem? (i := 6) rfl) rfl dX12_wind_232 ?_
                                refine lv_iload hx hb dX12_wind_235 (lv_at hl 2 rfl) ?_
                                refine mo_iald X w hm 6 (by decide) (by decide) k rfl (by show _ < 40; omega) dX12_wind_237 ?_
                                refine mo_iast X w hm 0 (by decide) (by decide) (5 + k) (hs_addI rfl rfl) (by show _ < 1400; omega) dX12_wind_238 (fun H locs w => ?_)
                                refine lv_iinc (v := nI k + 1) (lv' := [(8, .int (nI k + 1)), (0, .ref mo), (7, .int ((va_up (mo_held M) 0 G) 0 (5 + r)))]) hx hb dX12_wind_239 hl (k := 2) rfl rfl (by decide) rfl (fun ls hl => ?_)
                                refine lv_goto (tgt := 217) hx hb dX12_wind_242 (by decide) ?_
                                have hl := hs_lv hl (k := 0) rfl (nI_1 k)
                                exact ih3 (k + 1) (by omega) (by omega) H locs ls (by rw [hs_up_up, show va_up (hs_rst (M 0) G k) (5 + k) (va_up (mo_held M) 0 (hs_rst (M 0) G k) 6 k) = hs_rst (M 0) G (k + 1) from (by rw [show va_up (mo_held M) 0 (hs_rst (M 0) G k) 6 k = M 0 (5 + k) from (by show hs_hld (M 6) (M 0) 3 k = _; simp only [hs_hld]; rw [if_pos hkl])]; exact hs_rst_s _ _ _)] at w; exact w) (lv_sub hl [1, 2, 0] rfl)
                          exact loop3 4 0 (by omega) (by omega) H locs ls (by rw [hs_rst_0]; exact w) (lv_sub hl [2, 1, 0] rfl)
                        · refine lv_iload hx hb dX12_wind_199 (lv_at hl 5 rfl) ?_
                          refine lv_goto (tgt := 212) hx hb dX12_wind_201 (by decide) ?_
                          refine lv_istore (lv' := [(7, .int (hrs)), (0, .ref mo), (1, .int (nI h)), (2, .int (seed)), (3, .int (nI r)), (4, .long (x)), (6, .int (hrs))]) hx hb dX12_wind_212 hl (by decide) rfl (fun ls hl => ?_)
                          refine lv_iconst (v := 0) hx hb dX12_wind_214 (by decide) ?_
                          refine lv_istore (lv' := [(8, .int (0)), (7, .int (hrs)), (0, .ref mo), (1, .int (nI h)), (2, .int (seed)), (3, .int (nI r)), (4, .long (x)), (6, .int (hrs))]) hx hb dX12_wind_215 hl (by decide) rfl (fun ls hl => ?_)
                          have loop3 : ∀ (n0 k : Nat), k ≤ 3 → 3 + 1 ≤ k + n0 → ∀ (H : Heap) (locs : List Loc) (ls : Array Slot), hg_W D b0 L (mo_F D f mo ma (va_up (mo_held M) 0 (hs_rst (M 0) G k))) s.heap H locs → lv_has ls 9 [(0, .ref mo), (7, .int (hrs)), (8, .int (nI k))] → W p l e ({ frames := 6, cells := 0, slots := 0, locals := 138 }) s m args below meth c H locs 0 0 Q (F0 m 217 ls []) := by
                            intro n0
                            induction n0 with
                            | zero =>
                              intro k h1 h2
                              exact absurd h2 (by omega)
                            | succ n0 ih3 =>
                              intro k hk hn0 H locs ls w hl
                              refine lv_iload hx hb dX12_wind_217 (lv_at hl 2 rfl) ?_
                              refine lv_iconst (v := 3) hx hb dX12_wind_219 (by decide) ?_
                              refine lv_icmp_ge (tgt := 245) hx hb dX12_wind_220 (by decide) (fun c_220 => ?_) (fun c_220 => ?_)
                              · have hk : 3 = k := by
                                  rcases Nat.lt_or_ge k 3 with q | q
                                  · exact absurd c_220 (nI_ge (a := k) (b := 3) q (by omega))
                                  · omega
                                subst hk
                                refine lv_iload hx hb dX12_wind_245 (lv_at hl 1 rfl) ?_
                                have hWe : hs_rst (M 0) G 3 = M 0 := hs_rst_3 (fun j hj => by have z := hs_wh_ne (g := M 0) (n := n) (x := (seed).toInt64) hnr3 j hj h; rw [hW] at z; exact z)
                                rw [hWe, mo_held_up] at w
                                exact hend H locs (hrs) (L, mo_F D f mo ma (mo_held M)) _ ls w ⟨(by have e1 : ¬ (M 0 4 = 0 ∨ hs_in (nI h) 0 40 = 0 ∨ hs_in seed 1 999999 = 0 ∨ (¬ (nI r) = -1 ∧ hs_isRo (M 0) (nI r) = 0)) := (by simp [c_6, c_21, c_33, c_38, c_46, hhc, hrc]); rw [sp_wind, if_neg e1]; simp [q_wind, c_6, c_21, c_33, c_38, c_46, hhc, hrc, c_196, hW, va_up_self]), (congrArg (fun z => (L, mo_F D f mo ma z)) (by have e1 : ¬ (M 0 4 = 0 ∨ hs_in (nI h) 0 40 = 0 ∨ hs_in seed 1 999999 = 0 ∨ (¬ (nI r) = -1 ∧ hs_isRo (M 0) (nI r) = 0)) := (by simp [c_6, c_21, c_33, c_38, c_46, hhc, hrc]); rw [sp_wind, if_neg e1]))⟩ rfl dX12_wind_247
                              · have hkl : k < 3 := by
                                  rcases Nat.lt_or_ge k 3 with q | q
                                  · exact q
                                  · exact absurd (nI_le (a := 3) (b := k) q (by omega)) c_220
                                refine lv_aload_n hx hb dX12_wind_223 rfl (lv_at hl 0 rfl) ?_
                                refine mo_get X w hm hin 0 (by decide) (List.mem_of_getElem? (i := 1) rfl) rfl dX12_wind_224 ?_
                                refine lv_iconst (v := 5) hx hb dX12_wind_227 (by decide) ?_
                                refine lv_iload hx hb dX12_wind_228 (lv_at hl 2 rfl) ?_
                                refine lv_iadd hx hb dX12_wind_230 ?_
                                refine lv_aload_n hx hb dX12_wind_231 rfl (lv_at hl 0 rfl) ?_
                                refine mo_get X w hm hin 6 (by decide) (List.mem_of_getElem? (i := 6) rfl) rfl dX12_wind_232 ?_
                                refine lv_iload hx hb dX12_wind_235 (lv_at hl 2 rfl) ?_
                                refine mo_iald X w hm 6 (by decide) (by decide) k rfl (by show _ < 40; omega) dX12_wind_237 ?_
                                refine mo_iast X w hm 0 (by decide) (by decide) (5 + k) (hs_addI rfl rfl) (by show _ < 1400; omega) dX12_wind_238 (fun H locs w => ?_)
                                refine lv_iinc (v := nI k + 1) (lv' := [(8, .int (nI k + 1)), (0, .ref mo), (7, .int (hrs))]) hx hb dX12_wind_239 hl (k := 2) rfl rfl (by decide) rfl (fun ls hl => ?_)
                                refine lv_goto (tgt := 217) hx hb dX12_wind_242 (by decide) ?_
                                have hl := hs_lv hl (k := 0) rfl (nI_1 k)
                                exact ih3 (k + 1) (by omega) (by omega) H locs ls (by rw [hs_up_up, show va_up (hs_rst (M 0) G k) (5 + k) (va_up (mo_held M) 0 (hs_rst (M 0) G k) 6 k) = hs_rst (M 0) G (k + 1) from (by rw [show va_up (mo_held M) 0 (hs_rst (M 0) G k) 6 k = M 0 (5 + k) from (by show hs_hld (M 6) (M 0) 3 k = _; simp only [hs_hld]; rw [if_pos hkl])]; exact hs_rst_s _ _ _)] at w; exact w) (lv_sub hl [1, 2, 0] rfl)
                          exact loop3 4 0 (by omega) (by omega) H locs ls (by rw [hs_rst_0]; exact w) (lv_sub hl [2, 1, 0] rfl)
                      · have hkl : k < h := by
                          rcases Nat.lt_or_ge k h with q | q
                          · exact q
                          · exact absurd (nI_le (a := h) (b := k) q (by omega)) c_96
                        refine lv_iconst (v := 0) hx hb dX12_wind_99 (by decide) ?_
                        refine lv_istore (lv' := [(8, .int (0)), (0, .ref mo), (1, .int (nI h)), (2, .int (seed)), (3, .int (nI r)), (4, .long (x)), (6, .int (hrs)), (7, .int (nI k))]) hx hb dX12_wind_100 hl (by decide) rfl (fun ls hl => ?_)
                        have loop2 : ∀ (n0 k2 : Nat), k2 ≤ nr → nr + 1 ≤ k2 + n0 → ∀ (G2 : Nat → Int32) (x2 : Int64), hs_wr G x k2 = (G2, x2) → ∀ (H : Heap) (locs : List Loc) (ls : Array Slot), hg_W D b0 L (mo_F D f mo ma (va_up (mo_held M) 0 G2)) s.heap H locs → lv_has ls 9 [(0, .ref mo), (1, .int (nI h)), (2, .int (seed)), (3, .int (nI r)), (4, .long (x2)), (6, .int (hrs)), (7, .int (nI k)), (8, .int (nI k2))] → W p l e ({ frames := 6, cells := 0, slots := 0, locals := 138 }) s m args below meth c H locs 0 0 Q (F0 m 102 ls []) := by
                          intro n0
                          induction n0 with
                          | zero =>
                            intro k2 h1 h2
                            exact absurd h2 (by omega)
                          | succ n0 ih2 =>
                            intro k2 hk2 hn2 G2 x2 hW2 H locs ls w hl
                            have hG2 : hs_ok G2 n nr := by have z := hs_wr_ok (x := x) hG k2 hk2; rw [hW2] at z; exact z
                            have hr2 : (va_up (mo_held M) 0 G2) 0 2 = nI nr := hG2.2.2.1
                            refine lv_iload hx hb dX12_wind_102 (lv_at hl 7 rfl) ?_
                            refine lv_aload_n hx hb dX12_wind_104 rfl (lv_at hl 0 rfl) ?_
                            refine mo_get X w hm hin 0 (by decide) (List.mem_of_getElem? (i := 1) rfl) rfl dX12_wind_105 ?_
                            refine lv_iconst (v := 2) hx hb dX12_wind_108 (by decide) ?_
                            refine mo_iald X w hm 0 (by decide) (by decide) 2 rfl (by show _ < 1400; omega) dX12_wind_109 ?_
                            refine lv_icmp_ge (tgt := 172) hx hb dX12_wind_110 (by decide) (fun c_110 => ?_) (fun c_110 => ?_)
                            · rw [hr2] at c_110
                              have hk2 : nr = k2 := by
                                rcases Nat.lt_or_ge k2 nr with q | q
                                · exact absurd c_110 (nI_ge (a := k2) (b := nr) q (by omega))
                                · omega
                              subst hk2
                              refine lv_iload hx hb dX12_wind_172 (lv_at hl 5 rfl) ?_
                              refine lv_aload_n hx hb dX12_wind_174 rfl (lv_at hl 0 rfl) ?_
                              refine hg_viF (r := (hs_drop G2 n n)) (As := []) (rest := [.int (hrs)]) X w (c_X12_dropping l D b0 L f mo ma (va_up (mo_held M) 0 G2) hm n nr hG2) (cwV 0 hts gX12_wind_X12_dropping rfl rfl rfl hdX12_dropping ⟨Nat.le_of_ble_eq_true rfl, Nat.le_of_ble_eq_true rfl⟩) hm.1 (mo_at0 D f mo ma _) rfl rfl rfl hl.1 rfl (Nat.le_of_ble_eq_true rfl) dX12_wind_175 ⟨Nat.zero_le _, Nat.zero_le _⟩ (fun H locs w => ?_)
                              refine lv_if_ne (tgt := 185) hx hb dX12_wind_178 (by decide) (fun c_178 => ?_) (fun c_178 => ?_)
                              · refine lv_iconst (v := 0) hx hb dX12_wind_185 (by decide) ?_
                                refine lv_iadd hx hb dX12_wind_186 ?_
                                refine lv_istore (lv' := [(6, .int ((hrs + 0))), (0, .ref mo), (1, .int (nI h)), (2, .int (seed)), (3, .int (nI r)), (4, .long (x2)), (7, .int (nI k)), (8, .int (nI nr))]) hx hb dX12_wind_187 hl (by decide) rfl (fun ls hl => ?_)
                                refine lv_iinc (v := nI k + 1) (lv' := [(7, .int (nI k + 1)), (6, .int ((hrs + 0))), (0, .ref mo), (1, .int (nI h)), (2, .int (seed)), (3, .int (nI r)), (4, .long (x2)), (8, .int (nI nr))]) hx hb dX12_wind_189 hl (k := 6) rfl rfl (by decide) rfl (fun ls hl => ?_)
                                refine lv_goto (tgt := 93) hx hb dX12_wind_192 (by decide) ?_
                                have hl := hs_lv hl (k := 0) rfl (nI_1 k)
                                exact ih (k + 1) (by omega) (by omega) G2 x2 (hrs + 0) (by simp only [hs_wh, hW, hW2]; rw [if_neg c_178]) H locs ls w (lv_sub hl [2, 3, 4, 5, 6, 1, 0] rfl)
                              · refine lv_iconst (v := 1) hx hb dX12_wind_181 (by decide) ?_
                                refine lv_goto (tgt := 186) hx hb dX12_wind_182 (by decide) ?_
                                refine lv_iadd hx hb dX12_wind_186 ?_
                                refine lv_istore (lv' := [(6, .int ((hrs + 1))), (0, .ref mo), (1, .int (nI h)), (2, .int (seed)), (3, .int (nI r)), (4, .long (x2)), (7, .int (nI k)), (8, .int (nI nr))]) hx hb dX12_wind_187 hl (by decide) rfl (fun ls hl => ?_)
                                refine lv_iinc (v := nI k + 1) (lv' := [(7, .int (nI k + 1)), (6, .int ((hrs + 1))), (0, .ref mo), (1, .int (nI h)), (2, .int (seed)), (3, .int (nI r)), (4, .long (x2)), (8, .int (nI nr))]) hx hb dX12_wind_189 hl (k := 6) rfl rfl (by decide) rfl (fun ls hl => ?_)
                                refine lv_goto (tgt := 93) hx hb dX12_wind_192 (by decide) ?_
                                have hl := hs_lv hl (k := 0) rfl (nI_1 k)
                                exact ih (k + 1) (by omega) (by omega) G2 x2 (hrs + 1) (by simp only [hs_wh, hW, hW2]; rw [if_pos c_178]) H locs ls w (lv_sub hl [2, 3, 4, 5, 6, 1, 0] rfl)
                            · rw [hr2] at c_110
                              have hk2l : k2 < nr := by
                                rcases Nat.lt_or_ge k2 nr with q | q
                                · exact q
                                · exact absurd (nI_le (a := nr) (b := k2) q (by omega)) c_110
                              refine lv_lload hx hb dX12_wind_113 (lv_at hl 4 rfl) ?_
                              refine lv_ldc2 (v := 16807) hx hb hown (hts _ (List.mem_of_getElem? (i := 7) rfl)) dX12_wind_115 ?_
                              refine lv_lmul hx hb dX12_wind_118 ?_
                              refine lv_ldc2 (v := 2147483647) hx hb hown (hts _ (List.mem_of_getElem? (i := 8) rfl)) dX12_wind_119 ?_
                              refine lv_lrem hx hb dX12_wind_122 (by decide) ?_
                              refine lv_lstore (lv' := [(4, .long (((x2 * 16807) - (x2 * 16807) / 2147483647 * 2147483647))), (0, .ref mo), (1, .int (nI h)), (2, .int (seed)), (3, .int (nI r)), (6, .int (hrs)), (7, .int (nI k)), (8, .int (nI k2))]) hx hb dX12_wind_123 hl (by decide) rfl (fun ls hl => ?_)
                              refine lv_aload_n hx hb dX12_wind_125 rfl (lv_at hl 1 rfl) ?_
                              refine mo_get X w hm hin 0 (by decide) (List.mem_of_getElem? (i := 1) rfl) rfl dX12_wind_126 ?_
                              refine lv_iconst (v := 5) hx hb dX12_wind_129 (by decide) ?_
                              refine lv_iload hx hb dX12_wind_130 (lv_at hl 7 rfl) ?_
                              refine lv_iadd hx hb dX12_wind_132 ?_
                              refine lv_dup2_11 hx hb dX12_wind_133 rfl rfl ?_
                              refine mo_iald X w hm 0 (by decide) (by decide) (5 + k2) (hs_addI rfl rfl) (by show _ < 1400; omega) dX12_wind_134 ?_
                              refine lv_lload hx hb dX12_wind_135 (lv_at hl 0 rfl) ?_
                              refine lv_ldc2 (v := 20) hx hb hown (hts _ (List.mem_of_getElem? (i := 9) rfl)) dX12_wind_137 ?_
                              refine lv_lrem hx hb dX12_wind_140 (by decide) ?_
                              refine lv_lconst (v := 0) hx hb dX12_wind_141 (by decide) ?_
                              refine W.lcmp hx hb dX12_wind_142 ?_
                              refine lv_if_ne (tgt := 163) hx hb dX12_wind_143 (by decide) (fun c_143 => ?_) (fun c_143 => ?_)
                              · refine lv_iconst (v := 0) hx hb dX12_wind_163 (by decide) ?_
                                refine lv_isub hx hb dX12_wind_164 ?_
                                refine mo_iast X w hm 0 (by decide) (by decide) (5 + k2) (hs_addI rfl rfl) (by show _ < 1400; omega) dX12_wind_165 (fun H locs w => ?_)
                                rw [hs_up_up] at w
                                refine lv_iinc (v := nI k2 + 1) (lv' := [(8, .int (nI k2 + 1)), (4, .long (((x2 * 16807) - (x2 * 16807) / 2147483647 * 2147483647))), (0, .ref mo), (1, .int (nI h)), (2, .int (seed)), (3, .int (nI r)), (6, .int (hrs)), (7, .int (nI k))]) hx hb dX12_wind_166 hl (k := 7) rfl rfl (by decide) rfl (fun ls hl => ?_)
                                refine lv_goto (tgt := 102) hx hb dX12_wind_169 (by decide) ?_
                                have hV : hs_wt G2 x2 k2 = (((va_up (mo_held M) 0 G2) 0 (5 + k2) - 0)) := by
                                  show G2 (5 + k2) - (if hs_wx x2 - hs_wx x2 / 20 * 20 = 0 ∧ 1 < G2 (5 + k2) then 1 else 0) = _
                                  rw [if_neg (fun q => c_143 ((lg_cmp_eq _ _).mpr q.1))]; rfl
                                have hl := hs_lv hl (k := 0) rfl (nI_1 k2)
                                exact ih2 (k2 + 1) (by omega) (by omega) (va_up G2 (5 + k2) (((va_up (mo_held M) 0 G2) 0 (5 + k2) - 0))) (hs_wx x2) (by simp only [hs_wr, hW2, hV]) H locs ls w (lv_sub hl [2, 3, 4, 5, 1, 6, 7, 0] rfl)
                              · refine lv_aload_n hx hb dX12_wind_146 rfl (lv_at hl 1 rfl) ?_
                                refine mo_get X w hm hin 0 (by decide) (List.mem_of_getElem? (i := 1) rfl) rfl dX12_wind_147 ?_
                                refine lv_iconst (v := 5) hx hb dX12_wind_150 (by decide) ?_
                                refine lv_iload hx hb dX12_wind_151 (lv_at hl 7 rfl) ?_
                                refine lv_iadd hx hb dX12_wind_153 ?_
                                refine mo_iald X w hm 0 (by decide) (by decide) (5 + k2) (hs_addI rfl rfl) (by show _ < 1400; omega) dX12_wind_154 ?_
                                refine lv_iconst (v := 1) hx hb dX12_wind_155 (by decide) ?_
                                refine lv_icmp_le (tgt := 163) hx hb dX12_wind_156 (by decide) (fun c_156 => ?_) (fun c_156 => ?_)
                                · refine lv_iconst (v := 0) hx hb dX12_wind_163 (by decide) ?_
                                  refine lv_isub hx hb dX12_wind_164 ?_
                                  refine mo_iast X w hm 0 (by decide) (by decide) (5 + k2) (hs_addI rfl rfl) (by show _ < 1400; omega) dX12_wind_165 (fun H locs w => ?_)
                                  rw [hs_up_up] at w
                                  refine lv_iinc (v := nI k2 + 1) (lv' := [(8, .int (nI k2 + 1)), (4, .long (((x2 * 16807) - (x2 * 16807) / 2147483647 * 2147483647))), (0, .ref mo), (1, .int (nI h)), (2, .int (seed)), (3, .int (nI r)), (6, .int (hrs)), (7, .int (nI k))]) hx hb dX12_wind_166 hl (k := 7) rfl rfl (by decide) rfl (fun ls hl => ?_)
                                  refine lv_goto (tgt := 102) hx hb dX12_wind_169 (by decide) ?_
                                  have hV : hs_wt G2 x2 k2 = (((va_up (mo_held M) 0 G2) 0 (5 + k2) - 0)) := by
                                    show G2 (5 + k2) - (if hs_wx x2 - hs_wx x2 / 20 * 20 = 0 ∧ 1 < G2 (5 + k2) then 1 else 0) = _
                                    rw [if_neg (fun q => absurd q.2 (hs_nlt c_156))]; rfl
                                  have hl := hs_lv hl (k := 0) rfl (nI_1 k2)
                                  exact ih2 (k2 + 1) (by omega) (by omega) (va_up G2 (5 + k2) (((va_up (mo_held M) 0 G2) 0 (5 + k2) - 0))) (hs_wx x2) (by simp only [hs_wr, hW2, hV]) H locs ls w (lv_sub hl [2, 3, 4, 5, 1, 6, 7, 0] rfl)
                                · refine lv_iconst (v := 1) hx hb dX12_wind_159 (by decide) ?_
                                  refine lv_goto (tgt := 164) hx hb dX12_wind_160 (by decide) ?_
                                  refine lv_isub hx hb dX12_wind_164 ?_
                                  refine mo_iast X w hm 0 (by decide) (by decide) (5 + k2) (hs_addI rfl rfl) (by show _ < 1400; omega) dX12_wind_165 (fun H locs w => ?_)
                                  rw [hs_up_up] at w
                                  refine lv_iinc (v := nI k2 + 1) (lv' := [(8, .int (nI k2 + 1)), (4, .long (((x2 * 16807) - (x2 * 16807) / 2147483647 * 2147483647))), (0, .ref mo), (1, .int (nI h)), (2, .int (seed)), (3, .int (nI r)), (6, .int (hrs)), (7, .int (nI k))]) hx hb dX12_wind_166 hl (k := 7) rfl rfl (by decide) rfl (fun ls hl => ?_)
                                  refine lv_goto (tgt := 102) hx hb dX12_wind_169 (by decide) ?_
                                  have hV : hs_wt G2 x2 k2 = (((va_up (mo_held M) 0 G2) 0 (5 + k2) - 1)) := by
                                    show G2 (5 + k2) - (if hs_wx x2 - hs_wx x2 / 20 * 20 = 0 ∧ 1 < G2 (5 + k2) then 1 else 0) = _
                                    rw [if_pos ⟨(lg_cmp_eq _ _).mp c_143, hs_lt c_156⟩]; rfl
                                  have hl := hs_lv hl (k := 0) rfl (nI_1 k2)
                                  exact ih2 (k2 + 1) (by omega) (by omega) (va_up G2 (5 + k2) (((va_up (mo_held M) 0 G2) 0 (5 + k2) - 1))) (hs_wx x2) (by simp only [hs_wr, hW2, hV]) H locs ls w (lv_sub hl [2, 3, 4, 5, 1, 6, 7, 0] rfl)
                        exact loop2 (nr + 1) 0 (by omega) (by omega) G x rfl H locs ls w (lv_sub hl [1, 2, 3, 4, 5, 6, 7, 0] rfl)
                  exact loop (h + 1) 0 (by omega) (by omega) (M 0) (seed).toInt64 0 rfl H locs ls (by rw [mo_held_up]; exact w) (lv_sub hl [3, 4, 5, 6, 2, 1, 0] rfl)
                · have hkl : k < 3 := by
                    rcases Nat.lt_or_ge k 3 with q | q
                    · exact q
                    · exact absurd (nI_le (a := 3) (b := k) q (by omega)) c_58
                  refine lv_aload_n hx hb dX12_wind_61 rfl (lv_at hl 0 rfl) ?_
                  refine mo_get X w hm hin 6 (by decide) (List.mem_of_getElem? (i := 6) rfl) rfl dX12_wind_62 ?_
                  refine lv_iload hx hb dX12_wind_65 (lv_at hl 4 rfl) ?_
                  refine lv_aload_n hx hb dX12_wind_67 rfl (lv_at hl 0 rfl) ?_
                  refine mo_get X w hm hin 0 (by decide) (List.mem_of_getElem? (i := 1) rfl) rfl dX12_wind_68 ?_
                  refine lv_iconst (v := 5) hx hb dX12_wind_71 (by decide) ?_
                  refine lv_iload hx hb dX12_wind_72 (lv_at hl 4 rfl) ?_
                  refine lv_iadd hx hb dX12_wind_74 ?_
                  refine mo_iald X w hm 0 (by decide) (by decide) (5 + k) (hs_addI rfl rfl) (by show _ < 1400; omega) dX12_wind_75 ?_
                  refine mo_iast X w hm 6 (by decide) (by decide) k rfl (by show _ < 40; omega) dX12_wind_76 (fun H locs w => ?_)
                  refine lv_iinc (v := nI k + 1) (lv' := [(4, .int (nI k + 1)), (0, .ref mo), (1, .int (nI h)), (2, .int (seed)), (3, .int (nI r))]) hx hb dX12_wind_77 hl (k := 4) rfl rfl (by decide) rfl (fun ls hl => ?_)
                  refine lv_goto (tgt := 55) hx hb dX12_wind_80 (by decide) ?_
                  have hl := hs_lv hl (k := 0) rfl (nI_1 k)
                  exact ih1 (k + 1) (by omega) (by omega) H locs ls (by rw [hs_up_up, show va_up (hs_hld (M 6) (M 0) k) k (va_up M 6 (hs_hld (M 6) (M 0) k) 0 (5 + k)) = hs_hld (M 6) (M 0) (k + 1) from hs_hld_s _ _ _] at w; exact w) (lv_sub hl [1, 2, 3, 4, 0] rfl)
            exact loop1 4 0 (by omega) (by omega) H locs ls (by rw [hs_hld_0, hs_up_id]; exact w) (lv_sub hl [1, 2, 3, 4, 0] rfl)
          · refine lv_ldc (v := (-1000001)) hx hb hown (hts _ (List.mem_of_getElem? (i := 5) rfl)) dX12_wind_49 ?_
            exact hend H locs ((-1000001)) (L, mo_F D f mo ma M) _ ls w ⟨(by (try simp only [lg_cmp_le, lg_cmp_ge, lg_cmp_lt, lg_cmp_gt, ← Int32.not_lt, ← Int64.not_lt, Classical.not_not] at c_6 c_21 c_33 c_38 c_46); first | (simp [sp_wind, q_wind, c_6, c_21, c_33, c_38, c_46, hhc]; done) | (simp [sp_wind, q_wind, c_6, c_21, c_33, c_38, eq_true c_46, hhc]; done) | (exfalso; clear hend; simp_all; done)), (congrArg (fun z => (L, mo_F D f mo ma z)) (by (try simp only [lg_cmp_le, lg_cmp_ge, lg_cmp_lt, lg_cmp_gt, ← Int32.not_lt, ← Int64.not_lt, Classical.not_not] at c_6 c_21 c_33 c_38 c_46); first | (simp [sp_wind, q_wind, c_6, c_21, c_33, c_38, c_46, hhc]; done) | (simp [sp_wind, q_wind, c_6, c_21, c_33, c_38, eq_true c_46, hhc]; done) | (exfalso; clear hend; simp_all; done)))⟩ rfl dX12_wind_51
  · refine lv_ldc (v := (-1000002)) hx hb hown (hts _ (List.mem_of_getElem? (i := 2) rfl)) dX12_wind_9 ?_
    exact hend H locs ((-1000002)) (L, mo_F D f mo ma M) _ ls w ⟨(by (try simp only [lg_cmp_le, lg_cmp_ge, lg_cmp_lt, lg_cmp_gt, ← Int32.not_lt, ← Int64.not_lt, Classical.not_not] at c_6); first | (simp [sp_wind, q_wind, c_6]; done) | (simp [sp_wind, q_wind, eq_true c_6]; done) | (exfalso; clear hend; simp_all; done)), (congrArg (fun z => (L, mo_F D f mo ma z)) (by (try simp only [lg_cmp_le, lg_cmp_ge, lg_cmp_lt, lg_cmp_gt, ← Int32.not_lt, ← Int64.not_lt, Classical.not_not] at c_6); first | (simp [sp_wind, q_wind, c_6]; done) | (simp [sp_wind, q_wind, eq_true c_6]; done) | (exfalso; clear hend; simp_all; done)))⟩ rfl dX12_wind_11
