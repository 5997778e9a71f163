set_option maxRecDepth 100000 in
set_option maxHeartbeats 4000000 in
/-- even -/
theorem c_X12_even (l : Launch) (D : va_G) (b0 : Nat) (L : List Nat) (f : Nat → va_E) (mo : Nat) (ma : Nat → Nat) (M : Nat → Nat → Int32) (hm : mo_ok L mo ma) (n nr : Nat) (hv : hs_ok (M 0) n nr) (a b what : Int32) : mo_Fi l yX12_even wsX12_even ({ frames := 6, cells := 0, slots := 0, locals := 140 }) D b0 L f mo ma M [.int (a), .int (b), .int (what)] (q_even (M 0) n a b what) (M) := by
  refine hg_in_i (cc := cX12_even) (nL := 9) (by decide) rfl (Nat.le_of_ble_eq_true rfl) (fun p e s m args below meth c R Q X hR hend H locs ls w hl => ?_)
  subst hR
  obtain ⟨hx, hb, hml, hown, hts⟩ := id X.1
  have hin : ∀ w ∈ wsX120, w ∈ wsX12_even := fun w h => List.mem_cons_of_mem _ (List.mem_append_right _ h)
  have hl : lv_has ls 9 [(0, .ref mo), (1, .int (a)), (2, .int (b)), (3, .int (what))] := hl
  obtain ⟨hn, hn6, hnr, hnr3, htt⟩ := id hv
  refine lv_aload_n hx hb dX12_even_0 rfl (lv_at hl 0 rfl) ?_
  refine lv_iload_n hx hb dX12_even_1 rfl (lv_at hl 1 rfl) ?_
  refine hg_viF (r := hs_isSt (M 0) a) (As := [.int (a)]) (rest := []) X w (c_X12_isStall l D b0 L f mo ma M hm a) (cwV 1 hts gX12_even_X12_isStall rfl rfl rfl hdX12_isStall ⟨Nat.le_of_ble_eq_true rfl, Nat.le_of_ble_eq_true rfl⟩) hm.1 (mo_at0 D f mo ma _) rfl rfl rfl hl.1 rfl (Nat.le_of_ble_eq_true rfl) dX12_even_2 ⟨Nat.zero_le _, Nat.zero_le _⟩ (fun H locs w => ?_)
  refine lv_if_eq (tgt := 31) hx hb dX12_even_5 (by decide) (fun c_5 => ?_) (fun c_5 => ?_)
  · refine lv_ldc (v := (-1000001)) hx hb hown (hts _ (List.mem_of_getElem? (i := 1) rfl)) dX12_even_31 ?_
    exact hend H locs ((-1000001)) (L, mo_F D f mo ma M) _ ls w ⟨(by (try simp only [lg_cmp_le, lg_cmp_ge, lg_cmp_lt, lg_cmp_gt, ← Int32.not_lt, ← Int64.not_lt, Classical.not_not] at c_5); first | (simp [q_even, c_5]; done) | (simp [q_even, eq_true c_5]; done) | (exfalso; clear hend; simp_all; done)), rfl⟩ rfl dX12_even_33
  · obtain ⟨ja, hja, rfl⟩ := hs_st_1 hv c_5
    have hjac := hs_cl hja (by omega)
    refine lv_aload_n hx hb dX12_even_8 rfl (lv_at hl 0 rfl) ?_
    refine lv_iload_n hx hb dX12_even_9 rfl (lv_at hl 2 rfl) ?_
    refine hg_viF (r := hs_isSt (M 0) b) (As := [.int (b)]) (rest := []) X w (c_X12_isStall l D b0 L f mo ma M hm b) (cwV 1 hts gX12_even_X12_isStall rfl rfl rfl hdX12_isStall ⟨Nat.le_of_ble_eq_true rfl, Nat.le_of_ble_eq_true rfl⟩) hm.1 (mo_at0 D f mo ma _) rfl rfl rfl hl.1 rfl (Nat.le_of_ble_eq_true rfl) dX12_even_10 ⟨Nat.zero_le _, Nat.zero_le _⟩ (fun H locs w => ?_)
    refine lv_if_eq (tgt := 31) hx hb dX12_even_13 (by decide) (fun c_13 => ?_) (fun c_13 => ?_)
    · refine lv_ldc (v := (-1000001)) hx hb hown (hts _ (List.mem_of_getElem? (i := 1) rfl)) dX12_even_31 ?_
      exact hend H locs ((-1000001)) (L, mo_F D f mo ma M) _ ls w ⟨(by (try simp only [lg_cmp_le, lg_cmp_ge, lg_cmp_lt, lg_cmp_gt, ← Int32.not_lt, ← Int64.not_lt, Classical.not_not] at c_5 c_13); first | (simp [q_even, c_5, c_13, hjac]; done) | (simp [q_even, c_5, eq_true c_13, hjac]; done) | (exfalso; clear hend; simp_all; done)), rfl⟩ rfl dX12_even_33
    · obtain ⟨jb, hjb, rfl⟩ := hs_st_1 hv c_13
      have hjbc := hs_cl hjb (by omega)
      refine lv_iload_n hx hb dX12_even_16 rfl (lv_at hl 1 rfl) ?_
      refine lv_iload_n hx hb dX12_even_17 rfl (lv_at hl 2 rfl) ?_
      refine lv_icmp_eq (tgt := 31) hx hb dX12_even_18 (by decide) (fun c_18 => ?_) (fun c_18 => ?_)
      · refine lv_ldc (v := (-1000001)) hx hb hown (hts _ (List.mem_of_getElem? (i := 1) rfl)) dX12_even_31 ?_
        exact hend H locs ((-1000001)) (L, mo_F D f mo ma M) _ ls w ⟨(by (try simp only [lg_cmp_le, lg_cmp_ge, lg_cmp_lt, lg_cmp_gt, ← Int32.not_lt, ← Int64.not_lt, Classical.not_not] at c_5 c_13 c_18); first | (simp [q_even, c_5, c_13, c_18, hjac, hjbc]; done) | (simp [q_even, c_5, c_13, eq_true c_18, hjac, hjbc]; done) | (exfalso; clear hend; simp_all; done)), rfl⟩ rfl dX12_even_33
      · have hab : ja ≠ jb := fun q => c_18 (by rw [q])
        refine lv_iload_n hx hb dX12_even_21 rfl (lv_at hl 3 rfl) ?_
        refine lv_i2l hx hb dX12_even_22 rfl ?_
        refine lv_lconst (v := 0) hx hb dX12_even_23 (by decide) ?_
        refine lv_lconst (v := 1) hx hb dX12_even_24 (by decide) ?_
        refine hg_siF (r := hs_in what 0 1) (As := [.long ((what).toInt64), .long (0), .long (1)]) (rest := []) X w (c_X12_in l D b0 L _ ((what).toInt64) 0 1 what 0 1 rfl (by decide) (by decide)) (va_cwS 3 hts gX12_even_X12_in rfl rfl rfl hdX12_in ⟨Nat.le_of_ble_eq_true rfl, Nat.le_of_ble_eq_true rfl⟩) rfl hl.1 rfl (Nat.le_of_ble_eq_true rfl) dX12_even_25 ⟨Nat.zero_le _, Nat.zero_le _⟩ (fun H locs w => ?_)
        refine lv_if_ne (tgt := 34) hx hb dX12_even_28 (by decide) (fun c_28 => ?_) (fun c_28 => ?_)
        · refine lv_aload_n hx hb dX12_even_34 rfl (lv_at hl 0 rfl) ?_
          refine lv_iload_n hx hb dX12_even_35 rfl (lv_at hl 1 rfl) ?_
          refine lv_iload_n hx hb dX12_even_36 rfl (lv_at hl 2 rfl) ?_
          refine hg_viF (r := (hs_walk (M 0) n ja jb)) (As := [.int (nI ja), .int (nI jb)]) (rest := []) X w (c_X12_walk l D b0 L f mo ma M hm n nr hv ja jb (by omega) (by omega)) (cwV 2 hts gX12_even_X12_walk rfl rfl rfl hdX12_walk ⟨Nat.le_of_ble_eq_true rfl, Nat.le_of_ble_eq_true rfl⟩) hm.1 (mo_at0 D f mo ma _) rfl rfl rfl hl.1 rfl (Nat.le_of_ble_eq_true rfl) dX12_even_37 ⟨Nat.zero_le _, Nat.zero_le _⟩ (fun H locs w => ?_)
          refine lv_if_ne (tgt := 46) hx hb dX12_even_40 (by decide) (fun c_40 => ?_) (fun c_40 => ?_)
          · refine lv_aload_n hx hb dX12_even_46 rfl (lv_at hl 0 rfl) ?_
            refine mo_get X w hm hin 0 (by decide) (List.mem_of_getElem? (i := 3) rfl) rfl dX12_even_47 ?_
            refine lv_bipush (v := 38) hx hb dX12_even_50 (by decide) ?_
            refine lv_iload_n hx hb dX12_even_52 rfl (lv_at hl 1 rfl) ?_
            refine lv_iadd hx hb dX12_even_53 ?_
            refine mo_iald X w hm 0 (by decide) (by decide) (38 + ja) (hs_addI rfl rfl) (by show _ < 1400; omega) dX12_even_54 ?_
            refine lv_istore (lv' := [(4, .int (M 0 (38 + ja))), (0, .ref mo), (1, .int (nI ja)), (2, .int (nI jb)), (3, .int (what))]) hx hb dX12_even_55 hl (by decide) rfl (fun ls hl => ?_)
            refine lv_aload_n hx hb dX12_even_57 rfl (lv_at hl 1 rfl) ?_
            refine mo_get X w hm hin 0 (by decide) (List.mem_of_getElem? (i := 3) rfl) rfl dX12_even_58 ?_
            refine lv_bipush (v := 38) hx hb dX12_even_61 (by decide) ?_
            refine lv_iload_n hx hb dX12_even_63 rfl (lv_at hl 3 rfl) ?_
            refine lv_iadd hx hb dX12_even_64 ?_
            refine mo_iald X w hm 0 (by decide) (by decide) (38 + jb) (hs_addI rfl rfl) (by show _ < 1400; omega) dX12_even_65 ?_
            refine lv_istore (lv' := [(5, .int (M 0 (38 + jb))), (4, .int (M 0 (38 + ja))), (0, .ref mo), (1, .int (nI ja)), (2, .int (nI jb)), (3, .int (what))]) hx hb dX12_even_66 hl (by decide) rfl (fun ls hl => ?_)
            refine lv_ldc (v := (-1000000)) hx hb hown (hts _ (List.mem_of_getElem? (i := 4) rfl)) dX12_even_68 ?_
            refine lv_istore (lv' := [(6, .int ((-1000000))), (5, .int (M 0 (38 + jb))), (4, .int (M 0 (38 + ja))), (0, .ref mo), (1, .int (nI ja)), (2, .int (nI jb)), (3, .int (what))]) hx hb dX12_even_70 hl (by decide) rfl (fun ls hl => ?_)
            refine lv_bipush (v := 18) hx hb dX12_even_72 (by decide) ?_
            refine lv_istore (lv' := [(7, .int (18)), (6, .int ((-1000000))), (5, .int (M 0 (38 + jb))), (4, .int (M 0 (38 + ja))), (0, .ref mo), (1, .int (nI ja)), (2, .int (nI jb)), (3, .int (what))]) hx hb dX12_even_74 hl (by decide) rfl (fun ls hl => ?_)
            have loop : ∀ (q : Nat), q ≤ 19 → ∀ (best : Int32), hs_ev (M 0) n ja jb best q = hs_ev (M 0) n ja jb hs_NONE 19 → ∀ (u0 u1 : Int32), ∀ (H : Heap) (locs : List Loc) (ls : Array Slot), hg_W D b0 L (mo_F D f mo ma (mo_w (mo_w M 0 (38 + ja) (u0)) 0 (38 + jb) (u1))) s.heap H locs → lv_has ls 9 [(0, .ref mo), (1, .int (nI ja)), (2, .int (nI jb)), (3, .int (what)), (4, .int (M 0 (38 + ja))), (5, .int (M 0 (38 + jb))), (6, .int (best)), (7, .int (nI q - 1))] → W p l e ({ frames := 6, cells := 0, slots := 0, locals := 140 }) s m args below meth c H locs 0 0 Q (F0 m 76 ls []) := by
              intro q
              induction q with
              | zero =>
                intro hq best hT u0 u1 H locs ls w hl
                refine lv_iload hx hb dX12_even_76 (lv_at hl 7 rfl) ?_
                refine lv_if_lt (tgt := 173) hx hb dX12_even_78 (by decide) (fun c_78 => ?_) (fun c_78 => ?_)
                · have hT1 : best = hs_ev (M 0) n ja jb hs_NONE 19 := hT
                  subst hT1
                  refine lv_aload_n hx hb dX12_even_173 rfl (lv_at hl 0 rfl) ?_
                  refine mo_get X w hm hin 0 (by decide) (List.mem_of_getElem? (i := 3) rfl) rfl dX12_even_174 ?_
                  refine lv_bipush (v := 38) hx hb dX12_even_177 (by decide) ?_
                  refine lv_iload_n hx hb dX12_even_179 rfl (lv_at hl 1 rfl) ?_
                  refine lv_iadd hx hb dX12_even_180 ?_
                  refine lv_iload hx hb dX12_even_181 (lv_at hl 4 rfl) ?_
                  refine mo_iast X w hm 0 (by decide) (by decide) (38 + ja) (hs_addI rfl rfl) (by show _ < 1400; omega) dX12_even_183 (fun H locs w => ?_)
                  rw [mo_w_sw _ (by omega)] at w
                  rw [mo_w_id] at w
                  refine lv_aload_n hx hb dX12_even_184 rfl (lv_at hl 0 rfl) ?_
                  refine mo_get X w hm hin 0 (by decide) (List.mem_of_getElem? (i := 3) rfl) rfl dX12_even_185 ?_
                  refine lv_bipush (v := 38) hx hb dX12_even_188 (by decide) ?_
                  refine lv_iload_n hx hb dX12_even_190 rfl (lv_at hl 2 rfl) ?_
                  refine lv_iadd hx hb dX12_even_191 ?_
                  refine lv_iload hx hb dX12_even_192 (lv_at hl 5 rfl) ?_
                  refine mo_iast X w hm 0 (by decide) (by decide) (38 + jb) (hs_addI rfl rfl) (by show _ < 1400; omega) dX12_even_194 (fun H locs w => ?_)
                  rw [mo_w_w] at w
                  rw [mo_w_id] at w
                  refine lv_iload hx hb dX12_even_195 (lv_at hl 6 rfl) ?_
                  refine lv_ldc (v := (-1000000)) hx hb hown (hts _ (List.mem_of_getElem? (i := 4) rfl)) dX12_even_197 ?_
                  refine lv_icmp_ne (tgt := 207) hx hb dX12_even_199 (by decide) (fun c_199 => ?_) (fun c_199 => ?_)
                  · refine lv_iload_n hx hb dX12_even_207 rfl (lv_at hl 3 rfl) ?_
                    refine lv_if_ne (tgt := 219) hx hb dX12_even_208 (by decide) (fun c_208 => ?_) (fun c_208 => ?_)
                    · refine lv_iload hx hb dX12_even_219 (lv_at hl 6 rfl) ?_
                      refine lv_bipush (v := 19) hx hb dX12_even_221 (by decide) ?_
                      refine lv_irem hx hb dX12_even_223 (by decide) ?_
                      exact hend H locs ((hs_ev (M 0) n ja jb hs_NONE 19 - hs_ev (M 0) n ja jb hs_NONE 19 / 19 * 19)) (L, mo_F D f mo ma M) _ ls w ⟨(by (try simp only [lg_cmp_le, lg_cmp_ge, lg_cmp_lt, lg_cmp_gt, ← Int32.not_lt, ← Int64.not_lt, Classical.not_not] at c_5 c_13 c_18 c_28 c_40 c_78 c_199 c_208); first | (simp [q_even, c_5, c_13, c_18, c_28, c_40, c_78, c_199, c_208, hjac, hjbc]; done) | (simp [q_even, c_5, c_13, c_18, c_28, c_40, c_78, c_199, c_208, hjac, hjbc]; done) | (exfalso; clear hend; simp_all; done)), rfl⟩ rfl dX12_even_224
                    · refine lv_iload hx hb dX12_even_211 (lv_at hl 6 rfl) ?_
                      refine lv_bipush (v := 19) hx hb dX12_even_213 (by decide) ?_
                      refine lv_idiv hx hb dX12_even_215 (by decide) ?_
                      refine lv_goto (tgt := 224) hx hb dX12_even_216 (by decide) ?_
                      exact hend H locs ((hs_ev (M 0) n ja jb hs_NONE 19 / 19)) (L, mo_F D f mo ma M) _ ls w ⟨(by (try simp only [lg_cmp_le, lg_cmp_ge, lg_cmp_lt, lg_cmp_gt, ← Int32.not_lt, ← Int64.not_lt, Classical.not_not] at c_5 c_13 c_18 c_28 c_40 c_78 c_199 c_208); first | (simp [q_even, c_5, c_13, c_18, c_28, c_40, c_78, c_199, c_208, hjac, hjbc]; done) | (simp [q_even, c_5, c_13, c_18, c_28, c_40, c_78, c_199, eq_true c_208, hjac, hjbc]; done) | (exfalso; clear hend; simp_all; done)), rfl⟩ rfl dX12_even_224
                  · refine lv_ldc (v := (-1000000)) hx hb hown (hts _ (List.mem_of_getElem? (i := 4) rfl)) dX12_even_202 ?_
                    refine lv_goto (tgt := 224) hx hb dX12_even_204 (by decide) ?_
                    exact hend H locs ((-1000000)) (L, mo_F D f mo ma M) _ ls w ⟨(by (try simp only [lg_cmp_le, lg_cmp_ge, lg_cmp_lt, lg_cmp_gt, ← Int32.not_lt, ← Int64.not_lt, Classical.not_not] at c_5 c_13 c_18 c_28 c_40 c_78 c_199); first | (simp [q_even, c_5, c_13, c_18, c_28, c_40, c_78, c_199, hjac, hjbc]; done) | (simp [q_even, c_5, c_13, c_18, c_28, c_40, c_78, eq_true c_199, hjac, hjbc]; done) | (exfalso; clear hend; simp_all; done)), rfl⟩ rfl dX12_even_224
                · exact absurd (by decide) c_78
              | succ q ih =>
                intro hq best hT u0 u1 H locs ls w hl
                have hl := hs_lv hl (k := 7) rfl (nI_pred q)
                have hl : lv_has ls 9 [(0, .ref mo), (1, .int (nI ja)), (2, .int (nI jb)), (3, .int (what)), (4, .int (M 0 (38 + ja))), (5, .int (M 0 (38 + jb))), (6, .int (best)), (7, .int (nI q))] := hl
                refine lv_iload hx hb dX12_even_76 (lv_at hl 7 rfl) ?_
                refine lv_if_lt (tgt := 173) hx hb dX12_even_78 (by decide) (fun c_78 => ?_) (fun c_78 => ?_)
                · exact absurd c_78 (nI_pos (n := q) (by omega))
                · refine lv_iload hx hb dX12_even_81 (lv_at hl 7 rfl) ?_
                  refine lv_bipush (v := 9) hx hb dX12_even_83 (by decide) ?_
                  refine hg_siF (r := hs_less (nI q) 9) (As := [.int (nI q), .int (9)]) (rest := []) X w (c_X12_lesser l D b0 L _ (nI q) 9) (va_cwS 2 hts gX12_even_X12_lesser rfl rfl rfl hdX12_lesser ⟨Nat.le_of_ble_eq_true rfl, Nat.le_of_ble_eq_true rfl⟩) rfl hl.1 rfl (Nat.le_of_ble_eq_true rfl) dX12_even_85 ⟨Nat.zero_le _, Nat.zero_le _⟩ (fun H locs w => ?_)
                  refine lv_istore (lv' := [(8, .int (hs_less (nI q) 9)), (0, .ref mo), (1, .int (nI ja)), (2, .int (nI jb)), (3, .int (what)), (4, .int (M 0 (38 + ja))), (5, .int (M 0 (38 + jb))), (6, .int (best)), (7, .int (nI q))]) hx hb dX12_even_88 hl (by decide) rfl (fun ls hl => ?_)
                  obtain ⟨m9, hm9, hmq, hme⟩ := hs_less9 (q := q) (by omega)
                  have loop2 : ∀ (q2 : Nat), q2 ≤ 10 → ∀ (best2 : Int32), hs_ev1 (M 0) n ja jb q best2 q2 = hs_ev1 (M 0) n ja jb q best ((hs_less (nI q) 9).toNatClampNeg + 1) → ∀ (u0 u1 : Int32), ∀ (H : Heap) (locs : List Loc) (ls : Array Slot), hg_W D b0 L (mo_F D f mo ma (mo_w (mo_w M 0 (38 + ja) (u0)) 0 (38 + jb) (u1))) s.heap H locs → lv_has ls 9 [(0, .ref mo), (1, .int (nI ja)), (2, .int (nI jb)), (3, .int (what)), (4, .int (M 0 (38 + ja))), (5, .int (M 0 (38 + jb))), (6, .int (best2)), (7, .int (nI q)), (8, .int (nI q2 - 1))] → W p l e ({ frames := 6, cells := 0, slots := 0, locals := 140 }) s m args below meth c H locs 0 0 Q (F0 m 90 ls []) := by
                    intro q2
                    induction q2 with
                    | zero =>
                      intro hq2 best2 hT2 u0 u1 H locs ls w hl
                      refine lv_iload hx hb dX12_even_90 (lv_at hl 8 rfl) ?_
                      refine lv_if_lt (tgt := 167) hx hb dX12_even_92 (by decide) (fun c_92 => ?_) (fun c_92 => ?_)
                      · refine lv_iinc (v := nI q + (-1)) (lv' := [(7, .int (nI q + (-1))), (0, .ref mo), (1, .int (nI ja)), (2, .int (nI jb)), (3, .int (what)), (4, .int (M 0 (38 + ja))), (5, .int (M 0 (38 + jb))), (6, .int (best2)), (8, .int (nI 0 - 1))]) hx hb dX12_even_167 hl (k := 7) rfl rfl (by decide) rfl (fun ls hl => ?_)
                        refine lv_goto (tgt := 76) hx hb dX12_even_170 (by decide) ?_
                        have hB : best2 = hs_ev1 (M 0) n ja jb q best ((hs_less (nI q) 9).toNatClampNeg + 1) := by first | exact hT2 | (rw [hs_ev1, if_pos c_102] at hT2; exact hT2)
                        have hl := hs_lv hl (k := 0) rfl (hs_m1 (nI q))
                        exact ih (by omega) best2 (by rw [hB]; exact hT) _ _ H locs ls w (lv_sub hl [1, 2, 3, 4, 5, 6, 7, 0] rfl)
                      · exact absurd (by decide) c_92
                    | succ q2 ih2 =>
                      intro hq2 best2 hT2 u0 u1 H locs ls w hl
                      have hl := hs_lv hl (k := 8) rfl (nI_pred q2)
                      have hl : lv_has ls 9 [(0, .ref mo), (1, .int (nI ja)), (2, .int (nI jb)), (3, .int (what)), (4, .int (M 0 (38 + ja))), (5, .int (M 0 (38 + jb))), (6, .int (best2)), (7, .int (nI q)), (8, .int (nI q2))] := hl
                      refine lv_iload hx hb dX12_even_90 (lv_at hl 8 rfl) ?_
                      refine lv_if_lt (tgt := 167) hx hb dX12_even_92 (by decide) (fun c_92 => ?_) (fun c_92 => ?_)
                      · exact absurd c_92 (nI_pos (n := q2) (by omega))
                      · refine lv_iload hx hb dX12_even_95 (lv_at hl 7 rfl) ?_
                        refine lv_iload hx hb dX12_even_97 (lv_at hl 8 rfl) ?_
                        refine lv_isub hx hb dX12_even_99 ?_
                        refine lv_bipush (v := 10) hx hb dX12_even_100 (by decide) ?_
                        refine lv_icmp_ge (tgt := 167) hx hb dX12_even_102 (by decide) (fun c_102 => ?_) (fun c_102 => ?_)
                        · refine lv_iinc (v := nI q + (-1)) (lv' := [(7, .int (nI q + (-1))), (0, .ref mo), (1, .int (nI ja)), (2, .int (nI jb)), (3, .int (what)), (4, .int (M 0 (38 + ja))), (5, .int (M 0 (38 + jb))), (6, .int (best2)), (8, .int (nI q2))]) hx hb dX12_even_167 hl (k := 7) rfl rfl (by decide) rfl (fun ls hl => ?_)
                          refine lv_goto (tgt := 76) hx hb dX12_even_170 (by decide) ?_
                          have hB : best2 = hs_ev1 (M 0) n ja jb q best ((hs_less (nI q) 9).toNatClampNeg + 1) := by first | exact hT2 | (rw [hs_ev1, if_pos c_102] at hT2; exact hT2)
                          have hl := hs_lv hl (k := 0) rfl (hs_m1 (nI q))
                          exact ih (by omega) best2 (by rw [hB]; exact hT) _ _ H locs ls w (lv_sub hl [1, 2, 3, 4, 5, 6, 7, 0] rfl)
                        · refine lv_aload_n hx hb dX12_even_105 rfl (lv_at hl 0 rfl) ?_
                          refine mo_get X w hm hin 0 (by decide) (List.mem_of_getElem? (i := 3) rfl) rfl dX12_even_106 ?_
                          refine lv_bipush (v := 38) hx hb dX12_even_109 (by decide) ?_
                          refine lv_iload_n hx hb dX12_even_111 rfl (lv_at hl 1 rfl) ?_
                          refine lv_iadd hx hb dX12_even_112 ?_
                          refine lv_iload hx hb dX12_even_113 (lv_at hl 4 rfl) ?_
                          refine lv_iload hx hb dX12_even_115 (lv_at hl 8 rfl) ?_
                          refine lv_iadd hx hb dX12_even_117 ?_
                          refine mo_iast X w hm 0 (by decide) (by decide) (38 + ja) (hs_addI rfl rfl) (by show _ < 1400; omega) dX12_even_118 (fun H locs w => ?_)
                          rw [mo_w_sw _ (by omega)] at w
                          refine lv_aload_n hx hb dX12_even_119 rfl (lv_at hl 0 rfl) ?_
                          refine mo_get X w hm hin 0 (by decide) (List.mem_of_getElem? (i := 3) rfl) rfl dX12_even_120 ?_
                          refine lv_bipush (v := 38) hx hb dX12_even_123 (by decide) ?_
                          refine lv_iload_n hx hb dX12_even_125 rfl (lv_at hl 2 rfl) ?_
                          refine lv_iadd hx hb dX12_even_126 ?_
                          refine lv_iload hx hb dX12_even_127 (lv_at hl 5 rfl) ?_
                          refine lv_iload hx hb dX12_even_129 (lv_at hl 7 rfl) ?_
                          refine lv_iadd hx hb dX12_even_131 ?_
                          refine lv_iload hx hb dX12_even_132 (lv_at hl 8 rfl) ?_
                          refine lv_isub hx hb dX12_even_134 ?_
                          refine mo_iast X w hm 0 (by decide) (by decide) (38 + jb) (hs_addI rfl rfl) (by show _ < 1400; omega) dX12_even_135 (fun H locs w => ?_)
                          rw [mo_w_w] at w
                          refine lv_aload_n hx hb dX12_even_136 rfl (lv_at hl 0 rfl) ?_
                          refine lv_iload_n hx hb dX12_even_137 rfl (lv_at hl 1 rfl) ?_
                          refine lv_iload_n hx hb dX12_even_138 rfl (lv_at hl 2 rfl) ?_
                          refine hg_viF (r := (hs_walk (va_up (va_up (M 0) (38 + ja) ((M 0 (38 + ja) + nI q2))) (38 + jb) (((M 0 (38 + jb) + nI q) - nI q2))) n ja jb)) (As := [.int (nI ja), .int (nI jb)]) (rest := []) X w (c_X12_walk l D b0 L f mo ma (mo_w (mo_w M 0 (38 + ja) ((M 0 (38 + ja) + nI q2))) 0 (38 + jb) (((M 0 (38 + jb) + nI q) - nI q2))) hm n nr (hs_ok_w (by omega) (hs_ok_w (by omega) hv)) ja jb (by omega) (by omega)) (cwV 2 hts gX12_even_X12_walk rfl rfl rfl hdX12_walk ⟨Nat.le_of_ble_eq_true rfl, Nat.le_of_ble_eq_true rfl⟩) hm.1 (mo_at0 D f mo ma _) rfl rfl rfl hl.1 rfl (Nat.le_of_ble_eq_true rfl) dX12_even_139 ⟨Nat.zero_le _, Nat.zero_le _⟩ (fun H locs w => ?_)
                          refine lv_iconst (v := 2) hx hb dX12_even_142 (by decide) ?_
                          refine lv_icmp_ne (tgt := 157) hx hb dX12_even_143 (by decide) (fun c_143 => ?_) (fun c_143 => ?_)
                          · refine lv_iload hx hb dX12_even_157 (lv_at hl 6 rfl) ?_
                            refine lv_istore (lv' := [(6, .int (best2)), (0, .ref mo), (1, .int (nI ja)), (2, .int (nI jb)), (3, .int (what)), (4, .int (M 0 (38 + ja))), (5, .int (M 0 (38 + jb))), (7, .int (nI q)), (8, .int (nI q2))]) hx hb dX12_even_159 hl (by decide) rfl (fun ls hl => ?_)
                            refine lv_iinc (v := nI q2 + (-1)) (lv' := [(8, .int (nI q2 + (-1))), (6, .int (best2)), (0, .ref mo), (1, .int (nI ja)), (2, .int (nI jb)), (3, .int (what)), (4, .int (M 0 (38 + ja))), (5, .int (M 0 (38 + jb))), (7, .int (nI q))]) hx hb dX12_even_161 hl (k := 8) rfl rfl (by decide) rfl (fun ls hl => ?_)
                            refine lv_goto (tgt := 90) hx hb dX12_even_164 (by decide) ?_
                            have hl := hs_lv hl (k := 0) rfl (hs_m1 (nI q2))
                            exact ih2 (by omega) best2 (by rw [hs_ev1, if_neg c_102, hs_evg] at hT2; rw [if_neg c_143] at hT2; exact hT2) _ _ H locs ls w (lv_sub hl [2, 3, 4, 5, 6, 7, 1, 8, 0] rfl)
                          · refine lv_bipush (v := 19) hx hb dX12_even_146 (by decide) ?_
                            refine lv_iload hx hb dX12_even_148 (lv_at hl 7 rfl) ?_
                            refine lv_imul hx hb dX12_even_150 ?_
                            refine lv_iload hx hb dX12_even_151 (lv_at hl 8 rfl) ?_
                            refine lv_iadd hx hb dX12_even_153 ?_
                            refine lv_goto (tgt := 159) hx hb dX12_even_154 (by decide) ?_
                            refine lv_istore (lv' := [(6, .int (((19 * nI q) + nI q2))), (0, .ref mo), (1, .int (nI ja)), (2, .int (nI jb)), (3, .int (what)), (4, .int (M 0 (38 + ja))), (5, .int (M 0 (38 + jb))), (7, .int (nI q)), (8, .int (nI q2))]) hx hb dX12_even_159 hl (by decide) rfl (fun ls hl => ?_)
                            refine lv_iinc (v := nI q2 + (-1)) (lv' := [(8, .int (nI q2 + (-1))), (6, .int (((19 * nI q) + nI q2))), (0, .ref mo), (1, .int (nI ja)), (2, .int (nI jb)), (3, .int (what)), (4, .int (M 0 (38 + ja))), (5, .int (M 0 (38 + jb))), (7, .int (nI q))]) hx hb dX12_even_161 hl (k := 8) rfl rfl (by decide) rfl (fun ls hl => ?_)
                            refine lv_goto (tgt := 90) hx hb dX12_even_164 (by decide) ?_
                            have hl := hs_lv hl (k := 0) rfl (hs_m1 (nI q2))
                            exact ih2 (by omega) ((19 * nI q) + nI q2) (by rw [hs_ev1, if_neg c_102, hs_evg] at hT2; rw [if_pos c_143] at hT2; exact hT2) _ _ H locs ls w (lv_sub hl [2, 3, 4, 5, 6, 7, 1, 8, 0] rfl)
                  have hl := hs_lv hl (k := 0) rfl (hme.trans (nI_pred m9).symm)
                  exact loop2 (m9 + 1) (by omega) best (by rw [hme, nI_clamp (by omega)]) _ _ H locs ls w (lv_sub hl [1, 2, 3, 4, 5, 6, 7, 8, 0] rfl)
            have hl := hs_lv hl (k := 0) rfl (nI_pred 18).symm
            exact loop 19 (by omega) hs_NONE rfl (M 0 (38 + ja)) (M 0 (38 + jb)) H locs ls (by rw [mo_w_id, mo_w_id]; exact w) (lv_sub hl [4, 5, 6, 7, 3, 2, 1, 0] rfl)
          · refine lv_ldc (v := (-1000002)) hx hb hown (hts _ (List.mem_of_getElem? (i := 2) rfl)) dX12_even_43 ?_
            exact hend H locs ((-1000002)) (L, mo_F D f mo ma M) _ ls w ⟨(by (try simp only [lg_cmp_le, lg_cmp_ge, lg_cmp_lt, lg_cmp_gt, ← Int32.not_lt, ← Int64.not_lt, Classical.not_not] at c_5 c_13 c_18 c_28 c_40); first | (simp [q_even, c_5, c_13, c_18, c_28, c_40, hjac, hjbc]; done) | (simp [q_even, c_5, c_13, c_18, c_28, eq_true c_40, hjac, hjbc]; done) | (exfalso; clear hend; simp_all; done)), rfl⟩ rfl dX12_even_45
        · refine lv_ldc (v := (-1000001)) hx hb hown (hts _ (List.mem_of_getElem? (i := 1) rfl)) dX12_even_31 ?_
          exact hend H locs ((-1000001)) (L, mo_F D f mo ma M) _ ls w ⟨(by (try simp only [lg_cmp_le, lg_cmp_ge, lg_cmp_lt, lg_cmp_gt, ← Int32.not_lt, ← Int64.not_lt, Classical.not_not] at c_5 c_13 c_18 c_28); first | (simp [q_even, c_5, c_13, c_18, c_28, hjac, hjbc]; done) | (simp [q_even, c_5, c_13, c_18, eq_true c_28, hjac, hjbc]; done) | (exfalso; clear hend; simp_all; done)), rfl⟩ rfl dX12_even_33
