set_option maxRecDepth 100000 in
set_option maxHeartbeats 4000000 in
/-- copy -/
theorem c_X12_copy (l : Launch) (D : va_G) (b0 : Nat) (L : List Nat) (f : Nat → va_E) (mo : Nat) (ma : Nat → Nat) (M : Nat → Nat → Int32) (hm : mo_ok L mo ma) (hz : ∀ r, r < 8 → ∃ z : Nat, z ≤ 40 ∧ M 4 r = nI z) (a x b y n : Int32) : mo_Fi l yX12_copy wsX12_copy ({ frames := 2, cells := 0, slots := 0, locals := 45 }) D b0 L f mo ma M [.int (a), .int (x), .int (b), .int (y), .int (n)] ((sp_copy M a x b y n).1) ((sp_copy M a x b y n).2) := by
  refine hg_in_i (cc := cX12_copy) (nL := 7) (by decide) rfl (Nat.le_of_ble_eq_true rfl) (fun p e s m args below meth c R Q X hR hend H locs ls w hl => ?_)
  subst hR
  obtain ⟨hx, hb, hml, hown, hts⟩ := id X.1
  have hin : ∀ w ∈ wsX120, w ∈ wsX12_copy := fun w h => List.mem_cons_of_mem _ (List.mem_append_right _ h)
  have hl : lv_has ls 7 [(0, .ref mo), (1, .int (a)), (2, .int (x)), (3, .int (b)), (4, .int (y)), (5, .int (n))] := hl
  refine lv_iload_n hx hb dX12_copy_0 rfl (lv_at hl 1 rfl) ?_
  refine hg_siF (r := hs_row a) (As := [.int (a)]) (rest := []) X w (c_X12_isRow l D b0 L _ a) (va_cwS 1 hts gX12_copy_X12_isRow rfl rfl rfl hdX12_isRow ⟨Nat.le_of_ble_eq_true rfl, Nat.le_of_ble_eq_true rfl⟩) rfl hl.1 rfl (Nat.le_of_ble_eq_true rfl) dX12_copy_1 ⟨Nat.zero_le _, Nat.zero_le _⟩ (fun H locs w => ?_)
  refine lv_if_eq (tgt := 14) hx hb dX12_copy_4 (by decide) (fun c_4 => ?_) (fun c_4 => ?_)
  · refine lv_ldc (v := (-1000001)) hx hb hown (hts _ (List.mem_of_getElem? (i := 1) rfl)) dX12_copy_14 ?_
    exact hend H locs ((-1000001)) (L, mo_F D f mo ma M) _ ls w ⟨(by (try simp only [lg_cmp_le, lg_cmp_ge, lg_cmp_lt, lg_cmp_gt, ← Int32.not_lt, ← Int64.not_lt, Classical.not_not] at c_4); first | (simp [sp_copy, sp_found, sp_well, c_4]; done) | (simp [sp_copy, sp_found, sp_well, eq_true c_4]; done) | (exfalso; clear hend; simp_all; done)), (congrArg (fun z => (L, mo_F D f mo ma z)) (by (try simp only [lg_cmp_le, lg_cmp_ge, lg_cmp_lt, lg_cmp_gt, ← Int32.not_lt, ← Int64.not_lt, Classical.not_not] at c_4); first | (simp [sp_copy, sp_found, sp_well, c_4]; done) | (simp [sp_copy, sp_found, sp_well, eq_true c_4]; done) | (exfalso; clear hend; simp_all; done)))⟩ rfl dX12_copy_16
  · obtain ⟨ra, hra, rfl⟩ := hs_row_1 c_4
    have hrac := hs_cl hra (by decide)
    refine lv_iload_n hx hb dX12_copy_7 rfl (lv_at hl 3 rfl) ?_
    refine hg_siF (r := hs_row b) (As := [.int (b)]) (rest := []) X w (c_X12_isRow l D b0 L _ b) (va_cwS 1 hts gX12_copy_X12_isRow rfl rfl rfl hdX12_isRow ⟨Nat.le_of_ble_eq_true rfl, Nat.le_of_ble_eq_true rfl⟩) rfl hl.1 rfl (Nat.le_of_ble_eq_true rfl) dX12_copy_8 ⟨Nat.zero_le _, Nat.zero_le _⟩ (fun H locs w => ?_)
    refine lv_if_ne (tgt := 17) hx hb dX12_copy_11 (by decide) (fun c_11 => ?_) (fun c_11 => ?_)
    · obtain ⟨rb, hrb, rfl⟩ := hs_row_1 c_11
      have hrbc := hs_cl hrb (by decide)
      refine lv_aload_n hx hb dX12_copy_17 rfl (lv_at hl 0 rfl) ?_
      refine mo_get X w hm hin 3 (by decide) (List.mem_of_getElem? (i := 2) rfl) rfl dX12_copy_18 ?_
      refine lv_iload_n hx hb dX12_copy_21 rfl (lv_at hl 1 rfl) ?_
      refine mo_iald X w hm 3 (by decide) (by decide) ra rfl (by show _ < 8; omega) dX12_copy_22 ?_
      refine lv_if_lt (tgt := 35) hx hb dX12_copy_23 (by decide) (fun c_23 => ?_) (fun c_23 => ?_)
      · refine lv_aload_n hx hb dX12_copy_35 rfl (lv_at hl 0 rfl) ?_
        refine lv_iconst (v := 1) hx hb dX12_copy_36 (by decide) ?_
        refine hg_viF (r := (-1000010 - 1)) (As := [.int (1)]) (rest := []) X w (c_X12_found l D b0 L f mo ma M hm 1) (cwV 1 hts gX12_copy_X12_found rfl rfl rfl hdX12_found ⟨Nat.le_of_ble_eq_true rfl, Nat.le_of_ble_eq_true rfl⟩) hm.1 (mo_at0 D f mo ma _) rfl rfl rfl hl.1 rfl (Nat.le_of_ble_eq_true rfl) dX12_copy_37 ⟨Nat.zero_le _, Nat.zero_le _⟩ (fun H locs w => ?_)
        exact hend H locs ((-1000010 - 1)) (L, mo_F D f mo ma (mo_w M 7 0 1)) _ ls w ⟨(by (try simp only [lg_cmp_le, lg_cmp_ge, lg_cmp_lt, lg_cmp_gt, ← Int32.not_lt, ← Int64.not_lt, Classical.not_not] at c_4 c_11 c_23); first | (simp [sp_copy, sp_found, sp_well, c_4, c_11, c_23, hrac, hrbc]; done) | (simp [sp_copy, sp_found, sp_well, c_4, c_11, c_23, hrac, hrbc]; done) | (exfalso; clear hend; simp_all; done)), (congrArg (fun z => (L, mo_F D f mo ma z)) (by (try simp only [lg_cmp_le, lg_cmp_ge, lg_cmp_lt, lg_cmp_gt, ← Int32.not_lt, ← Int64.not_lt, Classical.not_not] at c_4 c_11 c_23); first | (simp [sp_copy, sp_found, sp_well, c_4, c_11, c_23, hrac, hrbc]; done) | (simp [sp_copy, sp_found, sp_well, c_4, c_11, c_23, hrac, hrbc]; done) | (exfalso; clear hend; simp_all; done)))⟩ rfl dX12_copy_40
      · refine lv_aload_n hx hb dX12_copy_26 rfl (lv_at hl 0 rfl) ?_
        refine mo_get X w hm hin 3 (by decide) (List.mem_of_getElem? (i := 2) rfl) rfl dX12_copy_27 ?_
        refine lv_iload_n hx hb dX12_copy_30 rfl (lv_at hl 3 rfl) ?_
        refine mo_iald X w hm 3 (by decide) (by decide) rb rfl (by show _ < 8; omega) dX12_copy_31 ?_
        refine lv_if_ge (tgt := 41) hx hb dX12_copy_32 (by decide) (fun c_32 => ?_) (fun c_32 => ?_)
        · refine lv_aload_n hx hb dX12_copy_41 rfl (lv_at hl 0 rfl) ?_
          refine mo_get X w hm hin 3 (by decide) (List.mem_of_getElem? (i := 2) rfl) rfl dX12_copy_42 ?_
          refine lv_iload_n hx hb dX12_copy_45 rfl (lv_at hl 1 rfl) ?_
          refine mo_iald X w hm 3 (by decide) (by decide) ra rfl (by show _ < 8; omega) dX12_copy_46 ?_
          refine lv_aload_n hx hb dX12_copy_47 rfl (lv_at hl 0 rfl) ?_
          refine mo_get X w hm hin 3 (by decide) (List.mem_of_getElem? (i := 2) rfl) rfl dX12_copy_48 ?_
          refine lv_iload_n hx hb dX12_copy_51 rfl (lv_at hl 3 rfl) ?_
          refine mo_iald X w hm 3 (by decide) (by decide) rb rfl (by show _ < 8; omega) dX12_copy_52 ?_
          refine lv_icmp_eq (tgt := 62) hx hb dX12_copy_53 (by decide) (fun c_53 => ?_) (fun c_53 => ?_)
          · refine lv_aload_n hx hb dX12_copy_62 rfl (lv_at hl 0 rfl) ?_
            refine lv_iload_n hx hb dX12_copy_63 rfl (lv_at hl 1 rfl) ?_
            refine lv_iload_n hx hb dX12_copy_64 rfl (lv_at hl 2 rfl) ?_
            refine lv_iload hx hb dX12_copy_65 (lv_at hl 5 rfl) ?_
            refine hg_viF (r := (hs_bars M ra x n)) (As := [.int (nI ra), .int (x), .int (n)]) (rest := []) X w (c_X12_bars l D b0 L f mo ma M hm ra hra x n) (cwV 3 hts gX12_copy_X12_bars rfl rfl rfl hdX12_bars ⟨Nat.le_of_ble_eq_true rfl, Nat.le_of_ble_eq_true rfl⟩) hm.1 (mo_at0 D f mo ma _) rfl rfl rfl hl.1 rfl (Nat.le_of_ble_eq_true rfl) dX12_copy_67 ⟨Nat.zero_le _, Nat.zero_le _⟩ (fun H locs w => ?_)
            refine lv_if_gt (tgt := 85) hx hb dX12_copy_70 (by decide) (fun c_70 => ?_) (fun c_70 => ?_)
            · refine lv_aload_n hx hb dX12_copy_85 rfl (lv_at hl 0 rfl) ?_
              refine lv_iconst (v := 2) hx hb dX12_copy_86 (by decide) ?_
              refine hg_viF (r := (-1000010 - 2)) (As := [.int (2)]) (rest := []) X w (c_X12_found l D b0 L f mo ma M hm 2) (cwV 1 hts gX12_copy_X12_found rfl rfl rfl hdX12_found ⟨Nat.le_of_ble_eq_true rfl, Nat.le_of_ble_eq_true rfl⟩) hm.1 (mo_at0 D f mo ma _) rfl rfl rfl hl.1 rfl (Nat.le_of_ble_eq_true rfl) dX12_copy_87 ⟨Nat.zero_le _, Nat.zero_le _⟩ (fun H locs w => ?_)
              exact hend H locs ((-1000010 - 2)) (L, mo_F D f mo ma (mo_w M 7 0 2)) _ ls w ⟨(by (try simp only [lg_cmp_le, lg_cmp_ge, lg_cmp_lt, lg_cmp_gt, ← Int32.not_lt, ← Int64.not_lt, Classical.not_not] at c_4 c_11 c_23 c_32 c_53 c_70); first | (simp [sp_copy, sp_found, sp_well, c_4, c_11, c_23, c_32, c_53, c_70, hrac, hrbc]; done) | (simp [sp_copy, sp_found, sp_well, c_4, c_11, c_23, c_32, eq_true c_53, c_70, hrac, hrbc]; done) | (exfalso; clear hend; simp_all; done)), (congrArg (fun z => (L, mo_F D f mo ma z)) (by (try simp only [lg_cmp_le, lg_cmp_ge, lg_cmp_lt, lg_cmp_gt, ← Int32.not_lt, ← Int64.not_lt, Classical.not_not] at c_4 c_11 c_23 c_32 c_53 c_70); first | (simp [sp_copy, sp_found, sp_well, c_4, c_11, c_23, c_32, c_53, c_70, hrac, hrbc]; done) | (simp [sp_copy, sp_found, sp_well, c_4, c_11, c_23, c_32, eq_true c_53, c_70, hrac, hrbc]; done) | (exfalso; clear hend; simp_all; done)))⟩ rfl dX12_copy_90
            · refine lv_aload_n hx hb dX12_copy_73 rfl (lv_at hl 0 rfl) ?_
              refine lv_iload_n hx hb dX12_copy_74 rfl (lv_at hl 3 rfl) ?_
              refine lv_iload hx hb dX12_copy_75 (lv_at hl 4 rfl) ?_
              refine lv_iload hx hb dX12_copy_77 (lv_at hl 5 rfl) ?_
              refine hg_viF (r := (hs_bars M rb y n)) (As := [.int (nI rb), .int (y), .int (n)]) (rest := []) X w (c_X12_bars l D b0 L f mo ma M hm rb hrb y n) (cwV 3 hts gX12_copy_X12_bars rfl rfl rfl hdX12_bars ⟨Nat.le_of_ble_eq_true rfl, Nat.le_of_ble_eq_true rfl⟩) hm.1 (mo_at0 D f mo ma _) rfl rfl rfl hl.1 rfl (Nat.le_of_ble_eq_true rfl) dX12_copy_79 ⟨Nat.zero_le _, Nat.zero_le _⟩ (fun H locs w => ?_)
              refine lv_if_le (tgt := 91) hx hb dX12_copy_82 (by decide) (fun c_82 => ?_) (fun c_82 => ?_)
              · obtain ⟨jx, z, hjx, rfl, rfl⟩ := hs_bars_in (hz ra hra) c_70
                obtain ⟨jy, z2, hjy, rfl, hz2⟩ := hs_bars_in (hz rb hrb) (Int32.not_lt.mpr c_82)
                have hzz : z2 = z := (nI_eq (by omega) (by omega)).mp hz2.symm
                subst hzz
                have hjxc : (nI jx).toNatClampNeg = jx := nI_clamp (by omega)
                have hjyc : (nI jy).toNatClampNeg = jy := nI_clamp (by omega)
                have hzc : (nI z2).toNatClampNeg = z2 := nI_clamp (by omega)
                refine lv_iconst (v := 0) hx hb dX12_copy_91 (by decide) ?_
                refine lv_istore (lv' := [(6, .int (0)), (0, .ref mo), (1, .int (nI ra)), (2, .int (nI jx)), (3, .int (nI rb)), (4, .int (nI jy)), (5, .int (nI z2))]) hx hb dX12_copy_92 hl (by decide) rfl (fun ls hl => ?_)
                have cp1 : ∀ (n0 k : Nat), k ≤ z2 → z2 + 1 ≤ k + n0 → ∀ (H : Heap) (locs : List Loc) (ls : Array Slot), hg_W D b0 L (mo_F D f mo ma (va_up M 6 (hs_get (M 6) (M 5) (40 * ra + jx) k))) s.heap H locs → lv_has ls 7 [(0, .ref mo), (1, .int (nI ra)), (2, .int (nI jx)), (3, .int (nI rb)), (4, .int (nI jy)), (5, .int (nI z2)), (6, .int (nI k))] → W p l e ({ frames := 2, cells := 0, slots := 0, locals := 45 }) s m args below meth c H locs 0 0 Q (F0 m 94 ls []) := by
                  intro n0
                  induction n0 with
                  | zero =>
                    intro k h1 h2
                    exact absurd h2 (by omega)
                  | succ n0 iha =>
                    intro k hk hn0 H locs ls w hl
                    refine lv_iload hx hb dX12_copy_94 (lv_at hl 6 rfl) ?_
                    refine lv_iload hx hb dX12_copy_96 (lv_at hl 5 rfl) ?_
                    refine lv_icmp_ge (tgt := 128) hx hb dX12_copy_98 (by decide) (fun c_98 => ?_) (fun c_98 => ?_)
                    · have hk : z2 = k := by
                        rcases Nat.lt_or_ge k z2 with q | q
                        · exact absurd c_98 (nI_ge (a := k) (b := z2) q (by omega))
                        · omega
                      subst hk
                      refine lv_iconst (v := 0) hx hb dX12_copy_128 (by decide) ?_
                      refine lv_istore (lv' := [(6, .int (0)), (0, .ref mo), (1, .int (nI ra)), (2, .int (nI jx)), (3, .int (nI rb)), (4, .int (nI jy)), (5, .int (nI z2))]) hx hb dX12_copy_129 hl (by decide) rfl (fun ls hl => ?_)
                      have cp2 : ∀ (n0 k : Nat), k ≤ z2 → z2 + 1 ≤ k + n0 → ∀ (H : Heap) (locs : List Loc) (ls : Array Slot), hg_W D b0 L (mo_F D f mo ma (va_up (va_up M 6 (hs_get (M 6) (M 5) (40 * ra + jx) z2)) 5 (hs_lay (M 5) (hs_get (M 6) (M 5) (40 * ra + jx) z2) (40 * rb + jy) k))) s.heap H locs → lv_has ls 7 [(0, .ref mo), (1, .int (nI ra)), (2, .int (nI jx)), (3, .int (nI rb)), (4, .int (nI jy)), (5, .int (nI z2)), (6, .int (nI k))] → W p l e ({ frames := 2, cells := 0, slots := 0, locals := 45 }) s m args below meth c H locs 0 0 Q (F0 m 131 ls []) := by
                        intro n0
                        induction n0 with
                        | zero =>
                          intro k h1 h2
                          exact absurd h2 (by omega)
                        | succ n0 ihb =>
                          intro k hk hn0 H locs ls w hl
                          refine lv_iload hx hb dX12_copy_131 (lv_at hl 6 rfl) ?_
                          refine lv_iload hx hb dX12_copy_133 (lv_at hl 5 rfl) ?_
                          refine lv_icmp_ge (tgt := 166) hx hb dX12_copy_135 (by decide) (fun c_135 => ?_) (fun c_135 => ?_)
                          · have hk : z2 = k := by
                              rcases Nat.lt_or_ge k z2 with q | q
                              · exact absurd c_135 (nI_ge (a := k) (b := z2) q (by omega))
                              · omega
                            subst hk
                            refine lv_aload_n hx hb dX12_copy_166 rfl (lv_at hl 0 rfl) ?_
                            refine lv_iload hx hb dX12_copy_167 (lv_at hl 5 rfl) ?_
                            refine hg_viF (r := nI z2) (As := [.int (nI z2)]) (rest := []) X w (c_X12_well l D b0 L f mo ma (va_up (va_up M 6 (hs_get (M 6) (M 5) (40 * ra + jx) z2)) 5 (hs_lay (M 5) (hs_get (M 6) (M 5) (40 * ra + jx) z2) (40 * rb + jy) z2)) hm (nI z2)) (cwV 1 hts gX12_copy_X12_well rfl rfl rfl hdX12_well ⟨Nat.le_of_ble_eq_true rfl, Nat.le_of_ble_eq_true rfl⟩) hm.1 (mo_at0 D f mo ma _) rfl rfl rfl hl.1 rfl (Nat.le_of_ble_eq_true rfl) dX12_copy_169 ⟨Nat.zero_le _, Nat.zero_le _⟩ (fun H locs w => ?_)
                            exact hend H locs (nI z2) (L, mo_F D f mo ma (mo_w (va_up (va_up M 6 (hs_get (M 6) (M 5) (40 * ra + jx) z2)) 5 (hs_lay (M 5) (hs_get (M 6) (M 5) (40 * ra + jx) z2) (40 * rb + jy) z2)) 7 0 0)) _ ls w ⟨(by (try simp only [lg_cmp_le, lg_cmp_ge, lg_cmp_lt, lg_cmp_gt, ← Int32.not_lt, ← Int64.not_lt, Classical.not_not] at c_4 c_11 c_23 c_32 c_53 c_70 c_82 c_98 c_135); first | (simp [sp_copy, sp_found, sp_well, c_4, c_11, c_23, c_32, c_53, c_70, c_82, c_98, c_135, hrac, hrbc, hjxc, hzc, hjyc]; done) | (simp [sp_copy, sp_found, sp_well, c_4, c_11, c_23, c_32, eq_true c_53, c_70, c_82, c_98, c_135, hrac, hrbc, hjxc, hzc, hjyc]; done) | (exfalso; clear hend; simp_all; done)), (congrArg (fun z => (L, mo_F D f mo ma z)) (by (try simp only [lg_cmp_le, lg_cmp_ge, lg_cmp_lt, lg_cmp_gt, ← Int32.not_lt, ← Int64.not_lt, Classical.not_not] at c_4 c_11 c_23 c_32 c_53 c_70 c_82 c_98 c_135); first | (simp [sp_copy, sp_found, sp_well, c_4, c_11, c_23, c_32, c_53, c_70, c_82, c_98, c_135, hrac, hrbc, hjxc, hzc, hjyc]; done) | (simp [sp_copy, sp_found, sp_well, c_4, c_11, c_23, c_32, eq_true c_53, c_70, c_82, c_98, c_135, hrac, hrbc, hjxc, hzc, hjyc]; done) | (exfalso; clear hend; simp_all; done)))⟩ rfl dX12_copy_172
                          · have hkl : k < z2 := by
                              rcases Nat.lt_or_ge k z2 with q | q
                              · exact q
                              · exact absurd (nI_le (a := z2) (b := k) q (by omega)) c_135
                            refine lv_aload_n hx hb dX12_copy_138 rfl (lv_at hl 0 rfl) ?_
                            refine mo_get X w hm hin 5 (by decide) (List.mem_of_getElem? (i := 4) rfl) rfl dX12_copy_139 ?_
                            refine lv_bipush (v := 40) hx hb dX12_copy_142 (by decide) ?_
                            refine lv_iload_n hx hb dX12_copy_144 rfl (lv_at hl 3 rfl) ?_
                            refine lv_imul hx hb dX12_copy_145 ?_
                            refine lv_iload hx hb dX12_copy_146 (lv_at hl 4 rfl) ?_
                            refine lv_iadd hx hb dX12_copy_148 ?_
                            refine lv_iload hx hb dX12_copy_149 (lv_at hl 6 rfl) ?_
                            refine lv_iadd hx hb dX12_copy_151 ?_
                            refine lv_aload_n hx hb dX12_copy_152 rfl (lv_at hl 0 rfl) ?_
                            refine mo_get X w hm hin 6 (by decide) (List.mem_of_getElem? (i := 3) rfl) rfl dX12_copy_153 ?_
                            refine lv_iload hx hb dX12_copy_156 (lv_at hl 6 rfl) ?_
                            refine mo_iald X w hm 6 (by decide) (by decide) k rfl (by show _ < 40; omega) dX12_copy_158 ?_
                            refine mo_iast X w hm 5 (by decide) (by decide) (40 * rb + jy + k) (hs_addI (hs_addI (hs_mulI rfl rfl) rfl) rfl) (by show _ < 320; omega) dX12_copy_159 (fun H locs w => ?_)
                            refine lv_iinc (v := nI k + 1) (lv' := [(6, .int (nI k + 1)), (0, .ref mo), (1, .int (nI ra)), (2, .int (nI jx)), (3, .int (nI rb)), (4, .int (nI jy)), (5, .int (nI z2))]) hx hb dX12_copy_160 hl (k := 6) rfl rfl (by decide) rfl (fun ls hl => ?_)
                            refine lv_goto (tgt := 131) hx hb dX12_copy_163 (by decide) ?_
                            have hl := hs_lv hl (k := 0) rfl (nI_1 k)
                            exact ihb (k + 1) (by omega) (by omega) H locs ls (by rw [hs_up_up, show va_up (hs_lay (M 5) (hs_get (M 6) (M 5) (40 * ra + jx) z2) (40 * rb + jy) k) (40 * rb + jy + k) ((va_up (va_up M 6 (hs_get (M 6) (M 5) (40 * ra + jx) z2)) 5 (hs_lay (M 5) (hs_get (M 6) (M 5) (40 * ra + jx) z2) (40 * rb + jy) k)) 6 k) = hs_lay (M 5) (hs_get (M 6) (M 5) (40 * ra + jx) z2) (40 * rb + jy) (k + 1) from hs_lay_s _ _ _ _] at w; exact w) (lv_sub hl [1, 2, 3, 4, 5, 6, 0] rfl)
                      exact cp2 (z2 + 1) 0 (by omega) (by omega) H locs ls (by rw [hs_lay_0, show va_up (va_up M 6 (hs_get (M 6) (M 5) (40 * ra + jx) z2)) 5 (M 5) = (va_up M 6 (hs_get (M 6) (M 5) (40 * ra + jx) z2)) from hs_up_id (va_up M 6 (hs_get (M 6) (M 5) (40 * ra + jx) z2)) 5]; exact w) (lv_sub hl [1, 2, 3, 4, 5, 6, 0] rfl)
                    · have hkl : k < z2 := by
                        rcases Nat.lt_or_ge k z2 with q | q
                        · exact q
                        · exact absurd (nI_le (a := z2) (b := k) q (by omega)) c_98
                      refine lv_aload_n hx hb dX12_copy_101 rfl (lv_at hl 0 rfl) ?_
                      refine mo_get X w hm hin 6 (by decide) (List.mem_of_getElem? (i := 3) rfl) rfl dX12_copy_102 ?_
                      refine lv_iload hx hb dX12_copy_105 (lv_at hl 6 rfl) ?_
                      refine lv_aload_n hx hb dX12_copy_107 rfl (lv_at hl 0 rfl) ?_
                      refine mo_get X w hm hin 5 (by decide) (List.mem_of_getElem? (i := 4) rfl) rfl dX12_copy_108 ?_
                      refine lv_bipush (v := 40) hx hb dX12_copy_111 (by decide) ?_
                      refine lv_iload_n hx hb dX12_copy_113 rfl (lv_at hl 1 rfl) ?_
                      refine lv_imul hx hb dX12_copy_114 ?_
                      refine lv_iload_n hx hb dX12_copy_115 rfl (lv_at hl 2 rfl) ?_
                      refine lv_iadd hx hb dX12_copy_116 ?_
                      refine lv_iload hx hb dX12_copy_117 (lv_at hl 6 rfl) ?_
                      refine lv_iadd hx hb dX12_copy_119 ?_
                      refine mo_iald X w hm 5 (by decide) (by decide) (40 * ra + jx + k) (hs_addI (hs_addI (hs_mulI rfl rfl) rfl) rfl) (by show _ < 320; omega) dX12_copy_120 ?_
                      refine mo_iast X w hm 6 (by decide) (by decide) k rfl (by show _ < 40; omega) dX12_copy_121 (fun H locs w => ?_)
                      refine lv_iinc (v := nI k + 1) (lv' := [(6, .int (nI k + 1)), (0, .ref mo), (1, .int (nI ra)), (2, .int (nI jx)), (3, .int (nI rb)), (4, .int (nI jy)), (5, .int (nI z2))]) hx hb dX12_copy_122 hl (k := 6) rfl rfl (by decide) rfl (fun ls hl => ?_)
                      refine lv_goto (tgt := 94) hx hb dX12_copy_125 (by decide) ?_
                      have hl := hs_lv hl (k := 0) rfl (nI_1 k)
                      exact iha (k + 1) (by omega) (by omega) H locs ls (by rw [hs_up_up, show va_up (hs_get (M 6) (M 5) (40 * ra + jx) k) k ((va_up M 6 (hs_get (M 6) (M 5) (40 * ra + jx) k)) 5 (40 * ra + jx + k)) = hs_get (M 6) (M 5) (40 * ra + jx) (k + 1) from hs_get_s _ _ _ _] at w; exact w) (lv_sub hl [1, 2, 3, 4, 5, 6, 0] rfl)
                exact cp1 (z2 + 1) 0 (by omega) (by omega) H locs ls (by rw [hs_get_0, hs_up_id]; exact w) (lv_sub hl [1, 2, 3, 4, 5, 6, 0] rfl)
              · refine lv_aload_n hx hb dX12_copy_85 rfl (lv_at hl 0 rfl) ?_
                refine lv_iconst (v := 2) hx hb dX12_copy_86 (by decide) ?_
                refine hg_viF (r := (-1000010 - 2)) (As := [.int (2)]) (rest := []) X w (c_X12_found l D b0 L f mo ma M hm 2) (cwV 1 hts gX12_copy_X12_found rfl rfl rfl hdX12_found ⟨Nat.le_of_ble_eq_true rfl, Nat.le_of_ble_eq_true rfl⟩) hm.1 (mo_at0 D f mo ma _) rfl rfl rfl hl.1 rfl (Nat.le_of_ble_eq_true rfl) dX12_copy_87 ⟨Nat.zero_le _, Nat.zero_le _⟩ (fun H locs w => ?_)
                exact hend H locs ((-1000010 - 2)) (L, mo_F D f mo ma (mo_w M 7 0 2)) _ ls w ⟨(by (try simp only [lg_cmp_le, lg_cmp_ge, lg_cmp_lt, lg_cmp_gt, ← Int32.not_lt, ← Int64.not_lt, Classical.not_not] at c_4 c_11 c_23 c_32 c_53 c_70 c_82); first | (simp [sp_copy, sp_found, sp_well, c_4, c_11, c_23, c_32, c_53, c_70, c_82, hrac, hrbc]; done) | (simp [sp_copy, sp_found, sp_well, c_4, c_11, c_23, c_32, eq_true c_53, c_70, c_82, hrac, hrbc]; done) | (exfalso; clear hend; simp_all; done)), (congrArg (fun z => (L, mo_F D f mo ma z)) (by (try simp only [lg_cmp_le, lg_cmp_ge, lg_cmp_lt, lg_cmp_gt, ← Int32.not_lt, ← Int64.not_lt, Classical.not_not] at c_4 c_11 c_23 c_32 c_53 c_70 c_82); first | (simp [sp_copy, sp_found, sp_well, c_4, c_11, c_23, c_32, c_53, c_70, c_82, hrac, hrbc]; done) | (simp [sp_copy, sp_found, sp_well, c_4, c_11, c_23, c_32, eq_true c_53, c_70, c_82, hrac, hrbc]; done) | (exfalso; clear hend; simp_all; done)))⟩ rfl dX12_copy_90
          · refine lv_aload_n hx hb dX12_copy_56 rfl (lv_at hl 0 rfl) ?_
            refine lv_iconst (v := 5) hx hb dX12_copy_57 (by decide) ?_
            refine hg_viF (r := (-1000010 - 5)) (As := [.int (5)]) (rest := []) X w (c_X12_found l D b0 L f mo ma M hm 5) (cwV 1 hts gX12_copy_X12_found rfl rfl rfl hdX12_found ⟨Nat.le_of_ble_eq_true rfl, Nat.le_of_ble_eq_true rfl⟩) hm.1 (mo_at0 D f mo ma _) rfl rfl rfl hl.1 rfl (Nat.le_of_ble_eq_true rfl) dX12_copy_58 ⟨Nat.zero_le _, Nat.zero_le _⟩ (fun H locs w => ?_)
            exact hend H locs ((-1000010 - 5)) (L, mo_F D f mo ma (mo_w M 7 0 5)) _ ls w ⟨(by (try simp only [lg_cmp_le, lg_cmp_ge, lg_cmp_lt, lg_cmp_gt, ← Int32.not_lt, ← Int64.not_lt, Classical.not_not] at c_4 c_11 c_23 c_32 c_53); first | (simp [sp_copy, sp_found, sp_well, c_4, c_11, c_23, c_32, c_53, hrac, hrbc]; done) | (simp [sp_copy, sp_found, sp_well, c_4, c_11, c_23, c_32, c_53, hrac, hrbc]; done) | (exfalso; clear hend; simp_all; done)), (congrArg (fun z => (L, mo_F D f mo ma z)) (by (try simp only [lg_cmp_le, lg_cmp_ge, lg_cmp_lt, lg_cmp_gt, ← Int32.not_lt, ← Int64.not_lt, Classical.not_not] at c_4 c_11 c_23 c_32 c_53); first | (simp [sp_copy, sp_found, sp_well, c_4, c_11, c_23, c_32, c_53, hrac, hrbc]; done) | (simp [sp_copy, sp_found, sp_well, c_4, c_11, c_23, c_32, c_53, hrac, hrbc]; done) | (exfalso; clear hend; simp_all; done)))⟩ rfl dX12_copy_61
        · refine lv_aload_n hx hb dX12_copy_35 rfl (lv_at hl 0 rfl) ?_
          refine lv_iconst (v := 1) hx hb dX12_copy_36 (by decide) ?_
          refine hg_viF (r := (-1000010 - 1)) (As := [.int (1)]) (rest := []) X w (c_X12_found l D b0 L f mo ma M hm 1) (cwV 1 hts gX12_copy_X12_found rfl rfl rfl hdX12_found ⟨Nat.le_of_ble_eq_true rfl, Nat.le_of_ble_eq_true rfl⟩) hm.1 (mo_at0 D f mo ma _) rfl rfl rfl hl.1 rfl (Nat.le_of_ble_eq_true rfl) dX12_copy_37 ⟨Nat.zero_le _, Nat.zero_le _⟩ (fun H locs w => ?_)
          exact hend H locs ((-1000010 - 1)) (L, mo_F D f mo ma (mo_w M 7 0 1)) _ ls w ⟨(by (try simp only [lg_cmp_le, lg_cmp_ge, lg_cmp_lt, lg_cmp_gt, ← Int32.not_lt, ← Int64.not_lt, Classical.not_not] at c_4 c_11 c_23 c_32); first | (simp [sp_copy, sp_found, sp_well, c_4, c_11, c_23, c_32, hrac, hrbc]; done) | (simp [sp_copy, sp_found, sp_well, c_4, c_11, c_23, c_32, hrac, hrbc]; done) | (exfalso; clear hend; simp_all; done)), (congrArg (fun z => (L, mo_F D f mo ma z)) (by (try simp only [lg_cmp_le, lg_cmp_ge, lg_cmp_lt, lg_cmp_gt, ← Int32.not_lt, ← Int64.not_lt, Classical.not_not] at c_4 c_11 c_23 c_32); first | (simp [sp_copy, sp_found, sp_well, c_4, c_11, c_23, c_32, hrac, hrbc]; done) | (simp [sp_copy, sp_found, sp_well, c_4, c_11, c_23, c_32, hrac, hrbc]; done) | (exfalso; clear hend; simp_all; done)))⟩ rfl dX12_copy_40
    · refine lv_ldc (v := (-1000001)) hx hb hown (hts _ (List.mem_of_getElem? (i := 1) rfl)) dX12_copy_14 ?_
      exact hend H locs ((-1000001)) (L, mo_F D f mo ma M) _ ls w ⟨(by (try simp only [lg_cmp_le, lg_cmp_ge, lg_cmp_lt, lg_cmp_gt, ← Int32.not_lt, ← Int64.not_lt, Classical.not_not] at c_4 c_11); first | (simp [sp_copy, sp_found, sp_well, c_4, c_11, hrac]; done) | (simp [sp_copy, sp_found, sp_well, c_4, eq_true c_11, hrac]; done) | (exfalso; clear hend; simp_all; done)), (congrArg (fun z => (L, mo_F D f mo ma z)) (by (try simp only [lg_cmp_le, lg_cmp_ge, lg_cmp_lt, lg_cmp_gt, ← Int32.not_lt, ← Int64.not_lt, Classical.not_not] at c_4 c_11); first | (simp [sp_copy, sp_found, sp_well, c_4, c_11, hrac]; done) | (simp [sp_copy, sp_found, sp_well, c_4, eq_true c_11, hrac]; done) | (exfalso; clear hend; simp_all; done)))⟩ rfl dX12_copy_16
theorem hdX12_byteAt : yX12_byteAt.cls = RX12 ∧ yX12_byteAt.cls ≠ "java/lang/invoke/MethodHandle" ∧ yX12_byteAt.cls ≠ "java/lang/invoke/VarHandle" ∧ (parseMethodDescriptor yX12_byteAt.desc).map (fun d => d.parameters.length) = some 1 := by decide +kernel
set_option maxRecDepth 100000 in
set_option maxHeartbeats 4000000 in
/-- isFigure -/
theorem c_X12_isFigure (l : Launch) (D : va_G) (b0 : Nat) (L : List Nat) (f : Nat → va_E) (mo : Nat) (ma : Nat → Nat) (M : Nat → Nat → Int32) (hm : mo_ok L mo ma) (t : Nat) (ht : M 9 0 = nI t) (ht1 : t ≤ 100) (k : Nat) (hk : k < 2 ^ 31) : mo_Fi l yX12_isFigure wsX12_isFigure ({ frames := 1, cells := 0, slots := 0, locals := 25 }) D b0 L f mo ma M [.int (nI k)] (hs_fig M k) (M) := by
  refine hg_in_i (cc := cX12_isFigure) (nL := 2) (by decide) rfl (Nat.le_of_ble_eq_true rfl) (fun p e s m args below meth c R Q X hR hend H locs ls w hl => ?_)
  subst hR
  obtain ⟨hx, hb, hml, hown, hts⟩ := id X.1
  have hin : ∀ w ∈ wsX120, w ∈ wsX12_isFigure := fun w h => List.mem_cons_of_mem _ (List.mem_append_right _ h)
  have hl : lv_has ls 2 [(0, .ref mo), (1, .int (nI k))] := hl
  refine lv_aload_n hx hb dX12_isFigure_0 rfl (lv_at hl 0 rfl) ?_
  refine lv_iload_n hx hb dX12_isFigure_1 rfl (lv_at hl 1 rfl) ?_
  refine hg_viF (r := (hs_byte M k)) (As := [.int (nI k)]) (rest := []) X w (c_X12_byteAt l D b0 L f mo ma M hm t ht ht1 k (by omega)) (cwV 1 hts gX12_isFigure_X12_byteAt rfl rfl rfl hdX12_byteAt ⟨Nat.le_of_ble_eq_true rfl, Nat.le_of_ble_eq_true rfl⟩) hm.1 (mo_at0 D f mo ma _) rfl rfl rfl hl.1 rfl (Nat.le_of_ble_eq_true rfl) dX12_isFigure_2 ⟨Nat.zero_le _, Nat.zero_le _⟩ (fun H locs w => ?_)
  refine lv_i2l hx hb dX12_isFigure_5 rfl ?_
  refine lv_ldc2 (v := 48) hx hb hown (hts _ (List.mem_of_getElem? (i := 1) rfl)) dX12_isFigure_6 ?_
  refine lv_ldc2 (v := 57) hx hb hown (hts _ (List.mem_of_getElem? (i := 2) rfl)) dX12_isFigure_9 ?_
  refine hg_siF (r := hs_in (hs_byte M k) 48 57) (As := [.long (((hs_byte M k)).toInt64), .long (48), .long (57)]) (rest := []) X w (c_X12_in l D b0 L _ (((hs_byte M k)).toInt64) 48 57 (hs_byte M k) 48 57 rfl (by decide) (by decide)) (va_cwS 3 hts gX12_isFigure_X12_in rfl rfl rfl hdX12_in ⟨Nat.le_of_ble_eq_true rfl, Nat.le_of_ble_eq_true rfl⟩) rfl hl.1 rfl (Nat.le_of_ble_eq_true rfl) dX12_isFigure_12 ⟨Nat.zero_le _, Nat.zero_le _⟩ (fun H locs w => ?_)
  exact hend H locs (hs_in (hs_byte M k) 48 57) (L, mo_F D f mo ma M) _ ls w ⟨rfl, rfl⟩ (by unfold hs_in; split <;> decide) dX12_isFigure_15
