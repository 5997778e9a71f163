theorem hdX12_areSo : yX12_areSo.cls = RX12 ∧ yX12_areSo.cls ≠ "java/lang/invoke/MethodHandle" ∧ yX12_areSo.cls ≠ "java/lang/invoke/VarHandle" ∧ (parseMethodDescriptor yX12_areSo.desc).map (fun d => d.parameters.length) = some 2 := by decide +kernel
set_option maxRecDepth 100000 in
set_option maxHeartbeats 4000000 in
/-- whoCut -/
theorem c_X12_whoCut (l : Launch) (D : va_G) (b0 : Nat) (L : List Nat) (f : Nat → va_E) (mo : Nat) (ma : Nat → Nat) (M : Nat → Nat → Int32) (hm : mo_ok L mo ma) (n nr : Nat) (hv : hs_ok (M 0) n nr) (hz : ∀ r, r < 8 → ∃ z : Nat, z ≤ 40 ∧ M 4 r = nI z) (row x : Int32) : mo_Fi l yX12_whoCut wsX12_whoCut ({ frames := 6, cells := 0, slots := 0, locals := 140 }) D b0 L f mo ma M [.int (row), .int (x)] ((sp_whoCut M n nr row x).1) ((sp_whoCut M n nr row x).2) := by
  refine hg_in_i (cc := cX12_whoCut) (nL := 6) (by decide) rfl (Nat.le_of_ble_eq_true rfl) (fun p e s m args below meth c R Q X hR hend H locs ls w hl => ?_)
  subst hR
  obtain ⟨hx, hb, hml, hown, hts⟩ := id X.1
  have hin : ∀ w ∈ wsX120, w ∈ wsX12_whoCut := fun w h => List.mem_cons_of_mem _ (List.mem_append_right _ h)
  have hl : lv_has ls 6 [(0, .ref mo), (1, .int (row)), (2, .int (x))] := hl
  obtain ⟨hn, hn6, hnr, hnr3, htt⟩ := id hv
  refine lv_aload_n hx hb dX12_whoCut_0 rfl (lv_at hl 0 rfl) ?_
  refine mo_get X w hm hin 0 (by decide) (List.mem_of_getElem? (i := 1) rfl) rfl dX12_whoCut_1 ?_
  refine lv_iconst (v := 4) hx hb dX12_whoCut_4 (by decide) ?_
  refine mo_iald X w hm 0 (by decide) (by decide) 4 rfl (by show _ < 1400; omega) dX12_whoCut_5 ?_
  refine lv_if_ne (tgt := 12) hx hb dX12_whoCut_6 (by decide) (fun c_6 => ?_) (fun c_6 => ?_)
  · refine lv_iload_n hx hb dX12_whoCut_12 rfl (lv_at hl 1 rfl) ?_
    refine hg_siF (r := hs_row row) (As := [.int (row)]) (rest := []) X w (c_X12_isRow l D b0 L _ row) (va_cwS 1 hts gX12_whoCut_X12_isRow rfl rfl rfl hdX12_isRow ⟨Nat.le_of_ble_eq_true rfl, Nat.le_of_ble_eq_true rfl⟩) rfl hl.1 rfl (Nat.le_of_ble_eq_true rfl) dX12_whoCut_13 ⟨Nat.zero_le _, Nat.zero_le _⟩ (fun H locs w => ?_)
    refine lv_if_ne (tgt := 22) hx hb dX12_whoCut_16 (by decide) (fun c_16 => ?_) (fun c_16 => ?_)
    · obtain ⟨r, hr, rfl⟩ := hs_row_1 c_16
      have hrc := hs_cl hr (by decide)
      refine lv_aload_n hx hb dX12_whoCut_22 rfl (lv_at hl 0 rfl) ?_
      refine lv_iload_n hx hb dX12_whoCut_23 rfl (lv_at hl 1 rfl) ?_
      refine lv_iload_n hx hb dX12_whoCut_24 rfl (lv_at hl 2 rfl) ?_
      refine lv_aload_n hx hb dX12_whoCut_25 rfl (lv_at hl 0 rfl) ?_
      refine mo_get X w hm hin 0 (by decide) (List.mem_of_getElem? (i := 1) rfl) rfl dX12_whoCut_26 ?_
      refine lv_iconst (v := 3) hx hb dX12_whoCut_29 (by decide) ?_
      refine mo_iald X w hm 0 (by decide) (by decide) 3 rfl (by show _ < 1400; omega) dX12_whoCut_30 ?_
      refine hg_viF (r := (hs_bars M r x (M 0 3))) (As := [.int (nI r), .int (x), .int (M 0 3)]) (rest := []) X w (c_X12_bars l D b0 L f mo ma M hm r hr x (M 0 3)) (cwV 3 hts gX12_whoCut_X12_bars rfl rfl rfl hdX12_bars ⟨Nat.le_of_ble_eq_true rfl, Nat.le_of_ble_eq_true rfl⟩) hm.1 (mo_at0 D f mo ma _) rfl rfl rfl hl.1 rfl (Nat.le_of_ble_eq_true rfl) dX12_whoCut_31 ⟨Nat.zero_le _, Nat.zero_le _⟩ (fun H locs w => ?_)
      refine lv_istore_n (lv' := [(3, .int ((hs_bars M r x (M 0 3)))), (0, .ref mo), (1, .int (nI r)), (2, .int (x))]) hx hb dX12_whoCut_34 rfl hl (by decide) rfl (fun ls hl => ?_)
      refine lv_iload_n hx hb dX12_whoCut_35 rfl (lv_at hl 0 rfl) ?_
      refine lv_if_le (tgt := 45) hx hb dX12_whoCut_36 (by decide) (fun c_36 => ?_) (fun c_36 => ?_)
      · obtain ⟨x0, hx40, rfl⟩ := hs_bars_n (hz r hr) hn6 (by rw [hn] at c_36; exact Int32.not_lt.mpr c_36)
        have hxc : (nI x0).toNatClampNeg = x0 := nI_clamp (by omega)
        refine lv_iconst (v := 0) hx hb dX12_whoCut_45 (by decide) ?_
        refine lv_istore (lv' := [(4, .int (0)), (3, .int ((hs_bars M r (nI x0) (M 0 3)))), (0, .ref mo), (1, .int (nI r)), (2, .int (nI x0))]) hx hb dX12_whoCut_46 hl (by decide) rfl (fun ls hl => ?_)
        refine lv_iconst (v := 0) hx hb dX12_whoCut_48 (by decide) ?_
        refine lv_istore (lv' := [(5, .int (0)), (4, .int (0)), (3, .int ((hs_bars M r (nI x0) (M 0 3)))), (0, .ref mo), (1, .int (nI r)), (2, .int (nI x0))]) hx hb dX12_whoCut_49 hl (by decide) rfl (fun ls hl => ?_)
        have loop : ∀ (n0 k : Nat), k ≤ nr → nr + 1 ≤ k + n0 → ∀ (H : Heap) (locs : List Loc) (ls : Array Slot), hg_W D b0 L (mo_F D f mo ma M) s.heap H locs → lv_has ls 6 [(0, .ref mo), (1, .int (nI r)), (2, .int (nI x0)), (4, .int (hs_cuts (M 0) n (M 5) (40 * r + x0) k)), (5, .int (nI k))] → W p l e ({ frames := 6, cells := 0, slots := 0, locals := 140 }) s m args below meth c H locs 0 0 Q (F0 m 51 ls []) := by
          intro n0
          induction n0 with
          | zero =>
            intro k h1 h2
            exact absurd h2 (by omega)
          | succ n0 ih =>
            intro k hk hn0 H locs ls w hl
            refine lv_iload hx hb dX12_whoCut_51 (lv_at hl 4 rfl) ?_
            refine lv_aload_n hx hb dX12_whoCut_53 rfl (lv_at hl 0 rfl) ?_
            refine mo_get X w hm hin 0 (by decide) (List.mem_of_getElem? (i := 1) rfl) rfl dX12_whoCut_54 ?_
            refine lv_iconst (v := 2) hx hb dX12_whoCut_57 (by decide) ?_
            refine mo_iald X w hm 0 (by decide) (by decide) 2 rfl (by show _ < 1400; omega) dX12_whoCut_58 ?_
            refine lv_icmp_ge (tgt := 129) hx hb dX12_whoCut_59 (by decide) (fun c_59 => ?_) (fun c_59 => ?_)
            · rw [hnr] at c_59
              have hk : nr = k := by
                rcases Nat.lt_or_ge k nr with q | q
                · exact absurd c_59 (nI_ge (a := k) (b := nr) q (by omega))
                · omega
              subst hk
              refine lv_aload_n hx hb dX12_whoCut_129 rfl (lv_at hl 0 rfl) ?_
              refine lv_iload hx hb dX12_whoCut_130 (lv_at hl 3 rfl) ?_
              refine hg_viF (r := hs_cuts (M 0) n (M 5) (40 * r + x0) nr) (As := [.int (hs_cuts (M 0) n (M 5) (40 * r + x0) nr)]) (rest := []) X w (c_X12_well l D b0 L f mo ma M hm (hs_cuts (M 0) n (M 5) (40 * r + x0) nr)) (cwV 1 hts gX12_whoCut_X12_well rfl rfl rfl hdX12_well ⟨Nat.le_of_ble_eq_true rfl, Nat.le_of_ble_eq_true rfl⟩) hm.1 (mo_at0 D f mo ma _) rfl rfl rfl hl.1 rfl (Nat.le_of_ble_eq_true rfl) dX12_whoCut_132 ⟨Nat.zero_le _, Nat.zero_le _⟩ (fun H locs w => ?_)
              exact hend H locs (hs_cuts (M 0) n (M 5) (40 * r + x0) nr) (L, mo_F D f mo ma (mo_w M 7 0 0)) _ ls w ⟨(by (try simp only [lg_cmp_le, lg_cmp_ge, lg_cmp_lt, lg_cmp_gt, ← Int32.not_lt, ← Int64.not_lt, Classical.not_not] at c_6 c_16 c_36 c_59); first | (simp [sp_whoCut, sp_found, sp_well, c_6, c_16, c_36, c_59, hrc, hxc]; done) | (simp [sp_whoCut, sp_found, sp_well, c_6, c_16, c_36, c_59, hrc, hxc]; done) | (exfalso; clear hend; simp_all; done)), (congrArg (fun z => (L, mo_F D f mo ma z)) (by (try simp only [lg_cmp_le, lg_cmp_ge, lg_cmp_lt, lg_cmp_gt, ← Int32.not_lt, ← Int64.not_lt, Classical.not_not] at c_6 c_16 c_36 c_59); first | (simp [sp_whoCut, sp_found, sp_well, c_6, c_16, c_36, c_59, hrc, hxc]; done) | (simp [sp_whoCut, sp_found, sp_well, c_6, c_16, c_36, c_59, hrc, hxc]; done) | (exfalso; clear hend; simp_all; done)))⟩ rfl dX12_whoCut_135
            · rw [hnr] at c_59
              have hkl : k < nr := by
                rcases Nat.lt_or_ge k nr with q | q
                · exact q
                · exact absurd (nI_le (a := nr) (b := k) q (by omega)) c_59
              refine lv_aload_n hx hb dX12_whoCut_62 rfl (lv_at hl 0 rfl) ?_
              refine mo_get X w hm hin 0 (by decide) (List.mem_of_getElem? (i := 1) rfl) rfl dX12_whoCut_63 ?_
              refine lv_iconst (v := 5) hx hb dX12_whoCut_66 (by decide) ?_
              refine lv_iload hx hb dX12_whoCut_67 (lv_at hl 4 rfl) ?_
              refine lv_iadd hx hb dX12_whoCut_69 ?_
              refine mo_iald X w hm 0 (by decide) (by decide) (5 + k) (hs_addI rfl rfl) (by show _ < 1400; omega) dX12_whoCut_70 ?_
              refine lv_iconst (v := 1) hx hb dX12_whoCut_71 (by decide) ?_
              refine lv_icmp_le (tgt := 123) hx hb dX12_whoCut_72 (by decide) (fun c_72 => ?_) (fun c_72 => ?_)
              · refine lv_iinc (v := nI k + 1) (lv' := [(5, .int (nI k + 1)), (0, .ref mo), (1, .int (nI r)), (2, .int (nI x0)), (4, .int (hs_cuts (M 0) n (M 5) (40 * r + x0) k))]) hx hb dX12_whoCut_123 hl (k := 4) rfl rfl (by decide) rfl (fun ls hl => ?_)
                refine lv_goto (tgt := 51) hx hb dX12_whoCut_126 (by decide) ?_
                have he4 : (hs_cuts (M 0) n (M 5) (40 * r + x0) k) = hs_cuts (M 0) n (M 5) (40 * r + x0) (k + 1) := by (try simp only [lg_cmp_le, lg_cmp_ge, lg_cmp_lt, lg_cmp_gt, ← Int32.not_lt, ← Int64.not_lt, Classical.not_not] at c_6 c_16 c_36 c_59 c_72); first | (simp [hs_cuts, c_6, c_16, c_36, c_59, c_72, hrc, hxc]; done) | (simp [hs_cuts, c_6, c_16, c_36, c_59, c_72, hrc, hxc]; done) | (exfalso; clear hend ih; simp_all; done)
                have hl := hs_lv hl (k := 4) rfl he4
                have hl := hs_lv hl (k := 0) rfl (nI_1 k)
                exact ih (k + 1) (by omega) (by omega) H locs ls w (lv_sub hl [1, 2, 3, 4, 0] rfl)
              · have hv1 := hs_t1 (hs_lt c_72)
                refine lv_aload_n hx hb dX12_whoCut_75 rfl (lv_at hl 0 rfl) ?_
                refine mo_get X w hm hin 0 (by decide) (List.mem_of_getElem? (i := 1) rfl) rfl dX12_whoCut_76 ?_
                refine lv_iconst (v := 5) hx hb dX12_whoCut_79 (by decide) ?_
                refine lv_iload hx hb dX12_whoCut_80 (lv_at hl 4 rfl) ?_
                refine lv_iadd hx hb dX12_whoCut_82 ?_
                refine lv_dup2_11 hx hb dX12_whoCut_83 rfl rfl ?_
                refine mo_iald X w hm 0 (by decide) (by decide) (5 + k) (hs_addI rfl rfl) (by show _ < 1400; omega) dX12_whoCut_84 ?_
                refine lv_iconst (v := 1) hx hb dX12_whoCut_85 (by decide) ?_
                refine lv_isub hx hb dX12_whoCut_86 ?_
                refine mo_iast X w hm 0 (by decide) (by decide) (5 + k) (hs_addI rfl rfl) (by show _ < 1400; omega) dX12_whoCut_87 (fun H locs w => ?_)
                refine lv_iload hx hb dX12_whoCut_88 (lv_at hl 3 rfl) ?_
                refine lv_aload_n hx hb dX12_whoCut_90 rfl (lv_at hl 0 rfl) ?_
                refine lv_iload_n hx hb dX12_whoCut_91 rfl (lv_at hl 1 rfl) ?_
                refine lv_iload_n hx hb dX12_whoCut_92 rfl (lv_at hl 2 rfl) ?_
                refine hg_viF (r := (hs_so (va_up (M 0) (5 + k) ((M 0 (5 + k) - 1))) n (M 5) (40 * r + x0) n)) (As := [.int (nI r), .int (nI x0)]) (rest := [.int (hs_cuts (M 0) n (M 5) (40 * r + x0) k)]) X w (c_X12_areSo l D b0 L f mo ma (mo_w M 0 (5 + k) ((M 0 (5 + k) - 1))) hm n nr (hs_ok_wt (by omega) hv1 hv) r x0 hr hx40) (cwV 2 hts gX12_whoCut_X12_areSo rfl rfl rfl hdX12_areSo ⟨Nat.le_of_ble_eq_true rfl, Nat.le_of_ble_eq_true rfl⟩) hm.1 (mo_at0 D f mo ma _) rfl rfl rfl hl.1 rfl (Nat.le_of_ble_eq_true rfl) dX12_whoCut_93 ⟨Nat.zero_le _, Nat.zero_le _⟩ (fun H locs w => ?_)
                refine lv_if_eq (tgt := 106) hx hb dX12_whoCut_96 (by decide) (fun c_96 => ?_) (fun c_96 => ?_)
                · refine lv_iconst (v := 0) hx hb dX12_whoCut_106 (by decide) ?_
                  refine lv_ior hx hb dX12_whoCut_107 ?_
                  refine lv_istore (lv' := [(4, .int ((hs_cuts (M 0) n (M 5) (40 * r + x0) k ||| 0))), (0, .ref mo), (1, .int (nI r)), (2, .int (nI x0)), (5, .int (nI k))]) hx hb dX12_whoCut_108 hl (by decide) rfl (fun ls hl => ?_)
                  refine lv_aload_n hx hb dX12_whoCut_110 rfl (lv_at hl 1 rfl) ?_
                  refine mo_get X w hm hin 0 (by decide) (List.mem_of_getElem? (i := 1) rfl) rfl dX12_whoCut_111 ?_
                  refine lv_iconst (v := 5) hx hb dX12_whoCut_114 (by decide) ?_
                  refine lv_iload hx hb dX12_whoCut_115 (lv_at hl 4 rfl) ?_
                  refine lv_iadd hx hb dX12_whoCut_117 ?_
                  refine lv_dup2_11 hx hb dX12_whoCut_118 rfl rfl ?_
                  refine mo_iald X w hm 0 (by decide) (by decide) (5 + k) (hs_addI rfl rfl) (by show _ < 1400; omega) dX12_whoCut_119 ?_
                  refine lv_iconst (v := 1) hx hb dX12_whoCut_120 (by decide) ?_
                  refine lv_iadd hx hb dX12_whoCut_121 ?_
                  refine mo_iast X w hm 0 (by decide) (by decide) (5 + k) (hs_addI rfl rfl) (by show _ < 1400; omega) dX12_whoCut_122 (fun H locs w => ?_)
                  rw [mo_w_w] at w
                  rw [hs_incdec] at w
                  refine lv_iinc (v := nI k + 1) (lv' := [(5, .int (nI k + 1)), (4, .int ((hs_cuts (M 0) n (M 5) (40 * r + x0) k ||| 0))), (0, .ref mo), (1, .int (nI r)), (2, .int (nI x0))]) hx hb dX12_whoCut_123 hl (k := 4) rfl rfl (by decide) rfl (fun ls hl => ?_)
                  refine lv_goto (tgt := 51) hx hb dX12_whoCut_126 (by decide) ?_
                  have he4 : (hs_cuts (M 0) n (M 5) (40 * r + x0) k ||| 0) = hs_cuts (M 0) n (M 5) (40 * r + x0) (k + 1) := by (try simp only [lg_cmp_le, lg_cmp_ge, lg_cmp_lt, lg_cmp_gt, ← Int32.not_lt, ← Int64.not_lt, Classical.not_not] at c_6 c_16 c_36 c_59 c_72 c_96); first | (simp [hs_cuts, c_6, c_16, c_36, c_59, c_72, c_96, hrc, hxc]; done) | (simp [hs_cuts, c_6, c_16, c_36, c_59, c_72, eq_true c_96, hrc, hxc]; done) | (exfalso; clear hend ih; simp_all; done)
                  have hl := hs_lv hl (k := 1) rfl he4
                  have hl := hs_lv hl (k := 0) rfl (nI_1 k)
                  exact ih (k + 1) (by omega) (by omega) H locs ls w (lv_sub hl [2, 3, 4, 1, 0] rfl)
                · refine lv_iconst (v := 1) hx hb dX12_whoCut_99 (by decide) ?_
                  refine lv_iload hx hb dX12_whoCut_100 (lv_at hl 4 rfl) ?_
                  refine lv_ishl hx hb dX12_whoCut_102 ?_
                  refine lv_goto (tgt := 107) hx hb dX12_whoCut_103 (by decide) ?_
                  refine lv_ior hx hb dX12_whoCut_107 ?_
                  refine lv_istore (lv' := [(4, .int ((hs_cuts (M 0) n (M 5) (40 * r + x0) k ||| (1 <<< (nI k &&& 31))))), (0, .ref mo), (1, .int (nI r)), (2, .int (nI x0)), (5, .int (nI k))]) hx hb dX12_whoCut_108 hl (by decide) rfl (fun ls hl => ?_)
                  refine lv_aload_n hx hb dX12_whoCut_110 rfl (lv_at hl 1 rfl) ?_
                  refine mo_get X w hm hin 0 (by decide) (List.mem_of_getElem? (i := 1) rfl) rfl dX12_whoCut_111 ?_
                  refine lv_iconst (v := 5) hx hb dX12_whoCut_114 (by decide) ?_
                  refine lv_iload hx hb dX12_whoCut_115 (lv_at hl 4 rfl) ?_
                  refine lv_iadd hx hb dX12_whoCut_117 ?_
                  refine lv_dup2_11 hx hb dX12_whoCut_118 rfl rfl ?_
                  refine mo_iald X w hm 0 (by decide) (by decide) (5 + k) (hs_addI rfl rfl) (by show _ < 1400; omega) dX12_whoCut_119 ?_
                  refine lv_iconst (v := 1) hx hb dX12_whoCut_120 (by decide) ?_
                  refine lv_iadd hx hb dX12_whoCut_121 ?_
                  refine mo_iast X w hm 0 (by decide) (by decide) (5 + k) (hs_addI rfl rfl) (by show _ < 1400; omega) dX12_whoCut_122 (fun H locs w => ?_)
                  rw [mo_w_w] at w
                  rw [hs_incdec] at w
                  refine lv_iinc (v := nI k + 1) (lv' := [(5, .int (nI k + 1)), (4, .int ((hs_cuts (M 0) n (M 5) (40 * r + x0) k ||| (1 <<< (nI k &&& 31))))), (0, .ref mo), (1, .int (nI r)), (2, .int (nI x0))]) hx hb dX12_whoCut_123 hl (k := 4) rfl rfl (by decide) rfl (fun ls hl => ?_)
                  refine lv_goto (tgt := 51) hx hb dX12_whoCut_126 (by decide) ?_
                  have he4 : (hs_cuts (M 0) n (M 5) (40 * r + x0) k ||| (1 <<< (nI k &&& 31))) = hs_cuts (M 0) n (M 5) (40 * r + x0) (k + 1) := by (try simp only [lg_cmp_le, lg_cmp_ge, lg_cmp_lt, lg_cmp_gt, ← Int32.not_lt, ← Int64.not_lt, Classical.not_not] at c_6 c_16 c_36 c_59 c_72 c_96); first | (simp [hs_cuts, c_6, c_16, c_36, c_59, c_72, c_96, hrc, hxc]; done) | (simp [hs_cuts, c_6, c_16, c_36, c_59, c_72, c_96, hrc, hxc]; done) | (exfalso; clear hend ih; simp_all; done)
                  have hl := hs_lv hl (k := 1) rfl he4
                  have hl := hs_lv hl (k := 0) rfl (nI_1 k)
                  exact ih (k + 1) (by omega) (by omega) H locs ls w (lv_sub hl [2, 3, 4, 1, 0] rfl)
        exact loop (nr + 1) 0 (by omega) (by omega) H locs ls w (lv_sub hl [3, 4, 5, 1, 0] rfl)
      · refine lv_aload_n hx hb dX12_whoCut_39 rfl (lv_at hl 1 rfl) ?_
        refine lv_iload_n hx hb dX12_whoCut_40 rfl (lv_at hl 0 rfl) ?_
        refine hg_viF (r := (-1000010 - (hs_bars M r x (M 0 3)))) (As := [.int ((hs_bars M r x (M 0 3)))]) (rest := []) X w (c_X12_found l D b0 L f mo ma M hm (hs_bars M r x (M 0 3))) (cwV 1 hts gX12_whoCut_X12_found rfl rfl rfl hdX12_found ⟨Nat.le_of_ble_eq_true rfl, Nat.le_of_ble_eq_true rfl⟩) hm.1 (mo_at0 D f mo ma _) rfl rfl rfl hl.1 rfl (Nat.le_of_ble_eq_true rfl) dX12_whoCut_41 ⟨Nat.zero_le _, Nat.zero_le _⟩ (fun H locs w => ?_)
        exact hend H locs ((-1000010 - (hs_bars M r x (M 0 3)))) (L, mo_F D f mo ma (mo_w M 7 0 (hs_bars M r x (M 0 3)))) _ ls w ⟨(by (try simp only [lg_cmp_le, lg_cmp_ge, lg_cmp_lt, lg_cmp_gt, ← Int32.not_lt, ← Int64.not_lt, Classical.not_not] at c_6 c_16 c_36); first | (simp [sp_whoCut, sp_found, sp_well, c_6, c_16, c_36, hrc]; done) | (simp [sp_whoCut, sp_found, sp_well, c_6, c_16, c_36, hrc]; done) | (exfalso; clear hend; simp_all; done)), (congrArg (fun z => (L, mo_F D f mo ma z)) (by (try simp only [lg_cmp_le, lg_cmp_ge, lg_cmp_lt, lg_cmp_gt, ← Int32.not_lt, ← Int64.not_lt, Classical.not_not] at c_6 c_16 c_36); first | (simp [sp_whoCut, sp_found, sp_well, c_6, c_16, c_36, hrc]; done) | (simp [sp_whoCut, sp_found, sp_well, c_6, c_16, c_36, hrc]; done) | (exfalso; clear hend; simp_all; done)))⟩ rfl dX12_whoCut_44
    · refine lv_ldc (v := (-1000001)) hx hb hown (hts _ (List.mem_of_getElem? (i := 3) rfl)) dX12_whoCut_19 ?_
      exact hend H locs ((-1000001)) (L, mo_F D f mo ma M) _ ls w ⟨(by (try simp only [lg_cmp_le, lg_cmp_ge, lg_cmp_lt, lg_cmp_gt, ← Int32.not_lt, ← Int64.not_lt, Classical.not_not] at c_6 c_16); first | (simp [sp_whoCut, sp_found, sp_well, c_6, c_16]; done) | (simp [sp_whoCut, sp_found, sp_well, c_6, eq_true c_16]; done) | (exfalso; clear hend; simp_all; done)), (congrArg (fun z => (L, mo_F D f mo ma z)) (by (try simp only [lg_cmp_le, lg_cmp_ge, lg_cmp_lt, lg_cmp_gt, ← Int32.not_lt, ← Int64.not_lt, Classical.not_not] at c_6 c_16); first | (simp [sp_whoCut, sp_found, sp_well, c_6, c_16]; done) | (simp [sp_whoCut, sp_found, sp_well, c_6, eq_true c_16]; done) | (exfalso; clear hend; simp_all; done)))⟩ rfl dX12_whoCut_21
  · refine lv_ldc (v := (-1000002)) hx hb hown (hts _ (List.mem_of_getElem? (i := 2) rfl)) dX12_whoCut_9 ?_
    exact hend H locs ((-1000002)) (L, mo_F D f mo ma M) _ ls w ⟨(by (try simp only [lg_cmp_le, lg_cmp_ge, lg_cmp_lt, lg_cmp_gt, ← Int32.not_lt, ← Int64.not_lt, Classical.not_not] at c_6); first | (simp [sp_whoCut, sp_found, sp_well, c_6]; done) | (simp [sp_whoCut, sp_found, sp_well, eq_true c_6]; done) | (exfalso; clear hend; simp_all; done)), (congrArg (fun z => (L, mo_F D f mo ma z)) (by (try simp only [lg_cmp_le, lg_cmp_ge, lg_cmp_lt, lg_cmp_gt, ← Int32.not_lt, ← Int64.not_lt, Classical.not_not] at c_6); first | (simp [sp_whoCut, sp_found, sp_well, c_6]; done) | (simp [sp_whoCut, sp_found, sp_well, eq_true c_6]; done) | (exfalso; clear hend; simp_all; done)))⟩ rfl dX12_whoCut_11
set_option maxRecDepth 100000 in
set_option maxHeartbeats 4000000 in
/-- reads -/
theorem c_X12_reads (l : Launch) (D : va_G) (b0 : Nat) (L : List Nat) (f : Nat → va_E) (mo : Nat) (ma : Nat → Nat) (M : Nat → Nat → Int32) (hm : mo_ok L mo ma) (n nr : Nat) (hv : hs_ok (M 0) n nr) (hz : ∀ r, r < 8 → ∃ z : Nat, z ≤ 40 ∧ M 4 r = nI z) (a b row x what : Int32) : mo_Fi l yX12_reads wsX12_reads ({ frames := 6, cells := 0, slots := 0, locals := 140 }) D b0 L f mo ma M [.int (a), .int (b), .int (row), .int (x), .int (what)] ((sp_reads M n a b row x what).1) ((sp_reads M n a b row x what).2) := by
  refine hg_in_i (cc := cX12_reads) (nL := 13) (by decide) rfl (Nat.le_of_ble_eq_true rfl) (fun p e s m args below meth c R Q X hR hend H locs ls w hl => ?_)
  subst hR
  obtain ⟨hx, hb, hml, hown, hts⟩ := id X.1
  have hin : ∀ w ∈ wsX120, w ∈ wsX12_reads := fun w h => List.mem_cons_of_mem _ (List.mem_append_right _ h)
  have hl : lv_has ls 13 [(0, .ref mo), (1, .int (a)), (2, .int (b)), (3, .int (row)), (4, .int (x)), (5, .int (what))] := hl
  obtain ⟨hn, hn6, hnr, hnr3, htt⟩ := id hv
  refine lv_aload_n hx hb dX12_reads_0 rfl (lv_at hl 0 rfl) ?_
  refine lv_iload_n hx hb dX12_reads_1 rfl (lv_at hl 1 rfl) ?_
  refine hg_viF (r := hs_isSt (M 0) a) (As := [.int (a)]) (rest := []) X w (c_X12_isStall l D b0 L f mo ma M hm a) (cwV 1 hts gX12_reads_X12_isStall rfl rfl rfl hdX12_isStall ⟨Nat.le_of_ble_eq_true rfl, Nat.le_of_ble_eq_true rfl⟩) hm.1 (mo_at0 D f mo ma _) rfl rfl rfl hl.1 rfl (Nat.le_of_ble_eq_true rfl) dX12_reads_2 ⟨Nat.zero_le _, Nat.zero_le _⟩ (fun H locs w => ?_)
  refine lv_if_eq (tgt := 39) hx hb dX12_reads_5 (by decide) (fun c_5 => ?_) (fun c_5 => ?_)
  · refine lv_ldc (v := (-1000001)) hx hb hown (hts _ (List.mem_of_getElem? (i := 1) rfl)) dX12_reads_39 ?_
    exact hend H locs ((-1000001)) (L, mo_F D f mo ma M) _ ls w ⟨(by (try simp only [lg_cmp_le, lg_cmp_ge, lg_cmp_lt, lg_cmp_gt, ← Int32.not_lt, ← Int64.not_lt, Classical.not_not] at c_5); first | (simp [sp_reads, sp_found, sp_well, c_5]; done) | (simp [sp_reads, sp_found, sp_well, eq_true c_5]; done) | (exfalso; clear hend; simp_all; done)), (congrArg (fun z => (L, mo_F D f mo ma z)) (by (try simp only [lg_cmp_le, lg_cmp_ge, lg_cmp_lt, lg_cmp_gt, ← Int32.not_lt, ← Int64.not_lt, Classical.not_not] at c_5); first | (simp [sp_reads, sp_found, sp_well, c_5]; done) | (simp [sp_reads, sp_found, sp_well, eq_true c_5]; done) | (exfalso; clear hend; simp_all; done)))⟩ rfl dX12_reads_41
  · obtain ⟨ja, hja, rfl⟩ := hs_st_1 hv c_5
    have hjac := hs_cl hja (by omega)
    refine lv_aload_n hx hb dX12_reads_8 rfl (lv_at hl 0 rfl) ?_
    refine lv_iload_n hx hb dX12_reads_9 rfl (lv_at hl 2 rfl) ?_
    refine hg_viF (r := hs_isSt (M 0) b) (As := [.int (b)]) (rest := []) X w (c_X12_isStall l D b0 L f mo ma M hm b) (cwV 1 hts gX12_reads_X12_isStall rfl rfl rfl hdX12_isStall ⟨Nat.le_of_ble_eq_true rfl, Nat.le_of_ble_eq_true rfl⟩) hm.1 (mo_at0 D f mo ma _) rfl rfl rfl hl.1 rfl (Nat.le_of_ble_eq_true rfl) dX12_reads_10 ⟨Nat.zero_le _, Nat.zero_le _⟩ (fun H locs w => ?_)
    refine lv_if_eq (tgt := 39) hx hb dX12_reads_13 (by decide) (fun c_13 => ?_) (fun c_13 => ?_)
    · refine lv_ldc (v := (-1000001)) hx hb hown (hts _ (List.mem_of_getElem? (i := 1) rfl)) dX12_reads_39 ?_
      exact hend H locs ((-1000001)) (L, mo_F D f mo ma M) _ ls w ⟨(by (try simp only [lg_cmp_le, lg_cmp_ge, lg_cmp_lt, lg_cmp_gt, ← Int32.not_lt, ← Int64.not_lt, Classical.not_not] at c_5 c_13); first | (simp [sp_reads, sp_found, sp_well, c_5, c_13, hjac]; done) | (simp [sp_reads, sp_found, sp_well, c_5, eq_true c_13, hjac]; done) | (exfalso; clear hend; simp_all; done)), (congrArg (fun z => (L, mo_F D f mo ma z)) (by (try simp only [lg_cmp_le, lg_cmp_ge, lg_cmp_lt, lg_cmp_gt, ← Int32.not_lt, ← Int64.not_lt, Classical.not_not] at c_5 c_13); first | (simp [sp_reads, sp_found, sp_well, c_5, c_13, hjac]; done) | (simp [sp_reads, sp_found, sp_well, c_5, eq_true c_13, hjac]; done) | (exfalso; clear hend; simp_all; done)))⟩ rfl dX12_reads_41
    · obtain ⟨jb, hjb, rfl⟩ := hs_st_1 hv c_13
      have hjbc := hs_cl hjb (by omega)
      refine lv_iload_n hx hb dX12_reads_16 rfl (lv_at hl 1 rfl) ?_
      refine lv_iload_n hx hb dX12_reads_17 rfl (lv_at hl 2 rfl) ?_
      refine lv_icmp_eq (tgt := 39) hx hb dX12_reads_18 (by decide) (fun c_18 => ?_) (fun c_18 => ?_)
      · refine lv_ldc (v := (-1000001)) hx hb hown (hts _ (List.mem_of_getElem? (i := 1) rfl)) dX12_reads_39 ?_
        exact hend H locs ((-1000001)) (L, mo_F D f mo ma M) _ ls w ⟨(by (try simp only [lg_cmp_le, lg_cmp_ge, lg_cmp_lt, lg_cmp_gt, ← Int32.not_lt, ← Int64.not_lt, Classical.not_not] at c_5 c_13 c_18); first | (simp [sp_reads, sp_found, sp_well, c_5, c_13, c_18, hjac, hjbc]; done) | (simp [sp_reads, sp_found, sp_well, c_5, c_13, eq_true c_18, hjac, hjbc]; done) | (exfalso; clear hend; simp_all; done)), (congrArg (fun z => (L, mo_F D f mo ma z)) (by (try simp only [lg_cmp_le, lg_cmp_ge, lg_cmp_lt, lg_cmp_gt, ← Int32.not_lt, ← Int64.not_lt, Classical.not_not] at c_5 c_13 c_18); first | (simp [sp_reads, sp_found, sp_well, c_5, c_13, c_18, hjac, hjbc]; done) | (simp [sp_reads, sp_found, sp_well, c_5, c_13, eq_true c_18, hjac, hjbc]; done) | (exfalso; clear hend; simp_all; done)))⟩ rfl dX12_reads_41
      · have hab : ja ≠ jb := fun q => c_18 (by rw [q])
        refine lv_iload_n hx hb dX12_reads_21 rfl (lv_at hl 3 rfl) ?_
        refine hg_siF (r := hs_row row) (As := [.int (row)]) (rest := []) X w (c_X12_isRow l D b0 L _ row) (va_cwS 1 hts gX12_reads_X12_isRow rfl rfl rfl hdX12_isRow ⟨Nat.le_of_ble_eq_true rfl, Nat.le_of_ble_eq_true rfl⟩) rfl hl.1 rfl (Nat.le_of_ble_eq_true rfl) dX12_reads_22 ⟨Nat.zero_le _, Nat.zero_le _⟩ (fun H locs w => ?_)
        refine lv_if_eq (tgt := 39) hx hb dX12_reads_25 (by decide) (fun c_25 => ?_) (fun c_25 => ?_)
        · refine lv_ldc (v := (-1000001)) hx hb hown (hts _ (List.mem_of_getElem? (i := 1) rfl)) dX12_reads_39 ?_
          exact hend H locs ((-1000001)) (L, mo_F D f mo ma M) _ ls w ⟨(by (try simp only [lg_cmp_le, lg_cmp_ge, lg_cmp_lt, lg_cmp_gt, ← Int32.not_lt, ← Int64.not_lt, Classical.not_not] at c_5 c_13 c_18 c_25); first | (simp [sp_reads, sp_found, sp_well, c_5, c_13, c_18, c_25, hjac, hjbc]; done) | (simp [sp_reads, sp_found, sp_well, c_5, c_13, c_18, eq_true c_25, hjac, hjbc]; done) | (exfalso; clear hend; simp_all; done)), (congrArg (fun z => (L, mo_F D f mo ma z)) (by (try simp only [lg_cmp_le, lg_cmp_ge, lg_cmp_lt, lg_cmp_gt, ← Int32.not_lt, ← Int64.not_lt, Classical.not_not] at c_5 c_13 c_18 c_25); first | (simp [sp_reads, sp_found, sp_well, c_5, c_13, c_18, c_25, hjac, hjbc]; done) | (simp [sp_reads, sp_found, sp_well, c_5, c_13, c_18, eq_true c_25, hjac, hjbc]; done) | (exfalso; clear hend; simp_all; done)))⟩ rfl dX12_reads_41
        · obtain ⟨r, hr, rfl⟩ := hs_row_1 c_25
          have hrc := hs_cl hr (by decide)
          refine lv_iload hx hb dX12_reads_28 (lv_at hl 5 rfl) ?_
          refine lv_i2l hx hb dX12_reads_30 rfl ?_
          refine lv_lconst (v := 0) hx hb dX12_reads_31 (by decide) ?_
          refine lv_lconst (v := 1) hx hb dX12_reads_32 (by decide) ?_
          refine hg_siF (r := hs_in what 0 1) (As := [.long ((what).toInt64), .long (0), .long (1)]) (rest := []) X w (c_X12_in l D b0 L _ ((what).toInt64) 0 1 what 0 1 rfl (by decide) (by decide)) (va_cwS 3 hts gX12_reads_X12_in rfl rfl rfl hdX12_in ⟨Nat.le_of_ble_eq_true rfl, Nat.le_of_ble_eq_true rfl⟩) rfl hl.1 rfl (Nat.le_of_ble_eq_true rfl) dX12_reads_33 ⟨Nat.zero_le _, Nat.zero_le _⟩ (fun H locs w => ?_)
          refine lv_if_ne (tgt := 42) hx hb dX12_reads_36 (by decide) (fun c_36 => ?_) (fun c_36 => ?_)
          · refine lv_aload_n hx hb dX12_reads_42 rfl (lv_at hl 0 rfl) ?_
            refine lv_iload_n hx hb dX12_reads_43 rfl (lv_at hl 3 rfl) ?_
            refine lv_iload hx hb dX12_reads_44 (lv_at hl 4 rfl) ?_
            refine lv_aload_n hx hb dX12_reads_46 rfl (lv_at hl 0 rfl) ?_
            refine mo_get X w hm hin 0 (by decide) (List.mem_of_getElem? (i := 2) rfl) rfl dX12_reads_47 ?_
            refine lv_iconst (v := 3) hx hb dX12_reads_50 (by decide) ?_
            refine mo_iald X w hm 0 (by decide) (by decide) 3 rfl (by show _ < 1400; omega) dX12_reads_51 ?_
            refine hg_viF (r := (hs_bars M r x (M 0 3))) (As := [.int (nI r), .int (x), .int (M 0 3)]) (rest := []) X w (c_X12_bars l D b0 L f mo ma M hm r hr x (M 0 3)) (cwV 3 hts gX12_reads_X12_bars rfl rfl rfl hdX12_bars ⟨Nat.le_of_ble_eq_true rfl, Nat.le_of_ble_eq_true rfl⟩) hm.1 (mo_at0 D f mo ma _) rfl rfl rfl hl.1 rfl (Nat.le_of_ble_eq_true rfl) dX12_reads_52 ⟨Nat.zero_le _, Nat.zero_le _⟩ (fun H locs w => ?_)
            refine lv_istore (lv' := [(6, .int ((hs_bars M r x (M 0 3)))), (0, .ref mo), (1, .int (nI ja)), (2, .int (nI jb)), (3, .int (nI r)), (4, .int (x)), (5, .int (what))]) hx hb dX12_reads_55 hl (by decide) rfl (fun ls hl => ?_)
            refine lv_iload hx hb dX12_reads_57 (lv_at hl 0 rfl) ?_
            refine lv_if_le (tgt := 69) hx hb dX12_reads_59 (by decide) (fun c_59 => ?_) (fun c_59 => ?_)
            · obtain ⟨x0, hx40, rfl⟩ := hs_bars_n (hz r hr) hn6 (by rw [hn] at c_59; exact Int32.not_lt.mpr c_59)
              have hxc : (nI x0).toNatClampNeg = x0 := nI_clamp (by omega)
              refine lv_aload_n hx hb dX12_reads_69 rfl (lv_at hl 1 rfl) ?_
              refine mo_get X w hm hin 0 (by decide) (List.mem_of_getElem? (i := 2) rfl) rfl dX12_reads_70 ?_
              refine lv_bipush (v := 26) hx hb dX12_reads_73 (by decide) ?_
              refine lv_iload_n hx hb dX12_reads_75 rfl (lv_at hl 2 rfl) ?_
              refine lv_iadd hx hb dX12_reads_76 ?_
              refine mo_iald X w hm 0 (by decide) (by decide) (26 + ja) (hs_addI rfl rfl) (by show _ < 1400; omega) dX12_reads_77 ?_
              refine lv_istore (lv' := [(7, .int (M 0 (26 + ja))), (6, .int ((hs_bars M r (nI x0) (M 0 3)))), (0, .ref mo), (1, .int (nI ja)), (2, .int (nI jb)), (3, .int (nI r)), (4, .int (nI x0)), (5, .int (what))]) hx hb dX12_reads_78 hl (by decide) rfl (fun ls hl => ?_)
              refine lv_aload_n hx hb dX12_reads_80 rfl (lv_at hl 2 rfl) ?_
              refine mo_get X w hm hin 0 (by decide) (List.mem_of_getElem? (i := 2) rfl) rfl dX12_reads_81 ?_
              refine lv_bipush (v := 26) hx hb dX12_reads_84 (by decide) ?_
              refine lv_iload_n hx hb dX12_reads_86 rfl (lv_at hl 4 rfl) ?_
              refine lv_iadd hx hb dX12_reads_87 ?_
              refine mo_iald X w hm 0 (by decide) (by decide) (26 + jb) (hs_addI rfl rfl) (by show _ < 1400; omega) dX12_reads_88 ?_
              refine lv_istore (lv' := [(8, .int (M 0 (26 + jb))), (7, .int (M 0 (26 + ja))), (6, .int ((hs_bars M r (nI x0) (M 0 3)))), (0, .ref mo), (1, .int (nI ja)), (2, .int (nI jb)), (3, .int (nI r)), (4, .int (nI x0)), (5, .int (what))]) hx hb dX12_reads_89 hl (by decide) rfl (fun ls hl => ?_)
              refine lv_iconst (v := 0) hx hb dX12_reads_91 (by decide) ?_
              refine lv_istore (lv' := [(9, .int (0)), (8, .int (M 0 (26 + jb))), (7, .int (M 0 (26 + ja))), (6, .int ((hs_bars M r (nI x0) (M 0 3)))), (0, .ref mo), (1, .int (nI ja)), (2, .int (nI jb)), (3, .int (nI r)), (4, .int (nI x0)), (5, .int (what))]) hx hb dX12_reads_92 hl (by decide) rfl (fun ls hl => ?_)
              refine lv_ldc (v := (-1000000)) hx hb hown (hts _ (List.mem_of_getElem? (i := 3) rfl)) dX12_reads_94 ?_
              refine lv_istore (lv' := [(10, .int ((-1000000))), (9, .int (0)), (8, .int (M 0 (26 + jb))), (7, .int (M 0 (26 + ja))), (6, .int ((hs_bars M r (nI x0) (M 0 3)))), (0, .ref mo), (1, .int (nI ja)), (2, .int (nI jb)), (3, .int (nI r)), (4, .int (nI x0)), (5, .int (what))]) hx hb dX12_reads_96 hl (by decide) rfl (fun ls hl => ?_)
              refine lv_iconst (v := 0) hx hb dX12_reads_98 (by decide) ?_
              refine lv_istore (lv' := [(11, .int (0)), (10, .int ((-1000000))), (9, .int (0)), (8, .int (M 0 (26 + jb))), (7, .int (M 0 (26 + ja))), (6, .int ((hs_bars M r (nI x0) (M 0 3)))), (0, .ref mo), (1, .int (nI ja)), (2, .int (nI jb)), (3, .int (nI r)), (4, .int (nI x0)), (5, .int (what))]) hx hb dX12_reads_99 hl (by decide) rfl (fun ls hl => ?_)
              have loop : ∀ (n0 k : Nat), k ≤ 441 → 441 + 1 ≤ k + n0 → ∀ (u0 u1 : Int32), ∀ (H : Heap) (locs : List Loc) (ls : Array Slot), hg_W D b0 L (mo_F D f mo ma (mo_w (mo_w M 0 (26 + ja) (u0)) 0 (26 + jb) (u1))) s.heap H locs → lv_has ls 13 [(0, .ref mo), (1, .int (nI ja)), (2, .int (nI jb)), (3, .int (nI r)), (4, .int (nI x0)), (5, .int (what)), (7, .int (M 0 (26 + ja))), (8, .int (M 0 (26 + jb))), (9, .int (hs_rdN (M 0) n (M 5) (40 * r + x0) ja jb k)), (10, .int (hs_rdF (M 0) n (M 5) (40 * r + x0) ja jb k)), (11, .int (nI k))] → W p l e ({ frames := 6, cells := 0, slots := 0, locals := 140 }) s m args below meth c H locs 0 0 Q (F0 m 101 ls []) := by
                intro n0
                induction n0 with
                | zero =>
                  intro k h1 h2
                  exact absurd h2 (by omega)
                | succ n0 ih =>
                  intro k hk hn0 u0 u1 H locs ls w hl
                  refine lv_iload hx hb dX12_reads_101 (lv_at hl 10 rfl) ?_
                  refine lv_sipush (v := 441) hx hb dX12_reads_103 (by decide) ?_
                  refine lv_icmp_ge (tgt := 186) hx hb dX12_reads_106 (by decide) (fun c_106 => ?_) (fun c_106 => ?_)
                  · have hk : 441 = k := by
                      rcases Nat.lt_or_ge k 441 with q | q
                      · exact absurd c_106 (nI_ge (a := k) (b := 441) q (by omega))
                      · omega
                    subst hk
                    refine lv_aload_n hx hb dX12_reads_186 rfl (lv_at hl 0 rfl) ?_
                    refine mo_get X w hm hin 0 (by decide) (List.mem_of_getElem? (i := 2) rfl) rfl dX12_reads_187 ?_
                    refine lv_bipush (v := 26) hx hb dX12_reads_190 (by decide) ?_
                    refine lv_iload_n hx hb dX12_reads_192 rfl (lv_at hl 1 rfl) ?_
                    refine lv_iadd hx hb dX12_reads_193 ?_
                    refine lv_iload hx hb dX12_reads_194 (lv_at hl 6 rfl) ?_
                    refine mo_iast X w hm 0 (by decide) (by decide) (26 + ja) (hs_addI rfl rfl) (by show _ < 1400; omega) dX12_reads_196 (fun H locs w => ?_)
                    rw [mo_w_sw _ (by omega)] at w
                    rw [mo_w_id] at w
                    refine lv_aload_n hx hb dX12_reads_197 rfl (lv_at hl 0 rfl) ?_
                    refine mo_get X w hm hin 0 (by decide) (List.mem_of_getElem? (i := 2) rfl) rfl dX12_reads_198 ?_
                    refine lv_bipush (v := 26) hx hb dX12_reads_201 (by decide) ?_
                    refine lv_iload_n hx hb dX12_reads_203 rfl (lv_at hl 2 rfl) ?_
                    refine lv_iadd hx hb dX12_reads_204 ?_
                    refine lv_iload hx hb dX12_reads_205 (lv_at hl 7 rfl) ?_
                    refine mo_iast X w hm 0 (by decide) (by decide) (26 + jb) (hs_addI rfl rfl) (by show _ < 1400; omega) dX12_reads_207 (fun H locs w => ?_)
                    rw [mo_w_w] at w
                    rw [mo_w_id] at w
                    refine lv_aload_n hx hb dX12_reads_208 rfl (lv_at hl 0 rfl) ?_
                    refine lv_iload hx hb dX12_reads_209 (lv_at hl 5 rfl) ?_
                    refine lv_if_ne (tgt := 219) hx hb dX12_reads_211 (by decide) (fun c_211 => ?_) (fun c_211 => ?_)
                    · refine lv_iload hx hb dX12_reads_219 (lv_at hl 9 rfl) ?_
                      refine hg_viF (r := hs_rdF (M 0) n (M 5) (40 * r + x0) ja jb 441) (As := [.int (hs_rdF (M 0) n (M 5) (40 * r + x0) ja jb 441)]) (rest := []) X w (c_X12_well l D b0 L f mo ma M hm (hs_rdF (M 0) n (M 5) (40 * r + x0) ja jb 441)) (cwV 1 hts gX12_reads_X12_well rfl rfl rfl hdX12_well ⟨Nat.le_of_ble_eq_true rfl, Nat.le_of_ble_eq_true rfl⟩) hm.1 (mo_at0 D f mo ma _) rfl rfl rfl hl.1 rfl (Nat.le_of_ble_eq_true rfl) dX12_reads_221 ⟨Nat.zero_le _, Nat.zero_le _⟩ (fun H locs w => ?_)
                      exact hend H locs (hs_rdF (M 0) n (M 5) (40 * r + x0) ja jb 441) (L, mo_F D f mo ma (mo_w M 7 0 0)) _ ls w ⟨(by (try simp only [lg_cmp_le, lg_cmp_ge, lg_cmp_lt, lg_cmp_gt, ← Int32.not_lt, ← Int64.not_lt, Classical.not_not] at c_5 c_13 c_18 c_25 c_36 c_59 c_106 c_211); first | (simp [sp_reads, sp_found, sp_well, c_5, c_13, c_18, c_25, c_36, c_59, c_106, c_211, hjac, hjbc, hrc, hxc]; done) | (simp [sp_reads, sp_found, sp_well, c_5, c_13, c_18, c_25, c_36, c_59, c_106, c_211, hjac, hjbc, hrc, hxc]; done) | (exfalso; clear hend; simp_all; done)), (congrArg (fun z => (L, mo_F D f mo ma z)) (by (try simp only [lg_cmp_le, lg_cmp_ge, lg_cmp_lt, lg_cmp_gt, ← Int32.not_lt, ← Int64.not_lt, Classical.not_not] at c_5 c_13 c_18 c_25 c_36 c_59 c_106 c_211); first | (simp [sp_reads, sp_found, sp_well, c_5, c_13, c_18, c_25, c_36, c_59, c_106, c_211, hjac, hjbc, hrc, hxc]; done) | (simp [sp_reads, sp_found, sp_well, c_5, c_13, c_18, c_25, c_36, c_59, c_106, c_211, hjac, hjbc, hrc, hxc]; done) | (exfalso; clear hend; simp_all; done)))⟩ rfl dX12_reads_224
                    · refine lv_iload hx hb dX12_reads_214 (lv_at hl 8 rfl) ?_
                      refine lv_goto (tgt := 221) hx hb dX12_reads_216 (by decide) ?_
                      refine hg_viF (r := hs_rdN (M 0) n (M 5) (40 * r + x0) ja jb 441) (As := [.int (hs_rdN (M 0) n (M 5) (40 * r + x0) ja jb 441)]) (rest := []) X w (c_X12_well l D b0 L f mo ma M hm (hs_rdN (M 0) n (M 5) (40 * r + x0) ja jb 441)) (cwV 1 hts gX12_reads_X12_well rfl rfl rfl hdX12_well ⟨Nat.le_of_ble_eq_true rfl, Nat.le_of_ble_eq_true rfl⟩) hm.1 (mo_at0 D f mo ma _) rfl rfl rfl hl.1 rfl (Nat.le_of_ble_eq_true rfl) dX12_reads_221 ⟨Nat.zero_le _, Nat.zero_le _⟩ (fun H locs w => ?_)
                      exact hend H locs (hs_rdN (M 0) n (M 5) (40 * r + x0) ja jb 441) (L, mo_F D f mo ma (mo_w M 7 0 0)) _ ls w ⟨(by (try simp only [lg_cmp_le, lg_cmp_ge, lg_cmp_lt, lg_cmp_gt, ← Int32.not_lt, ← Int64.not_lt, Classical.not_not] at c_5 c_13 c_18 c_25 c_36 c_59 c_106 c_211); first | (simp [sp_reads, sp_found, sp_well, c_5, c_13, c_18, c_25, c_36, c_59, c_106, c_211, hjac, hjbc, hrc, hxc]; done) | (simp [sp_reads, sp_found, sp_well, c_5, c_13, c_18, c_25, c_36, c_59, c_106, eq_true c_211, hjac, hjbc, hrc, hxc]; done) | (exfalso; clear hend; simp_all; done)), (congrArg (fun z => (L, mo_F D f mo ma z)) (by (try simp only [lg_cmp_le, lg_cmp_ge, lg_cmp_lt, lg_cmp_gt, ← Int32.not_lt, ← Int64.not_lt, Classical.not_not] at c_5 c_13 c_18 c_25 c_36 c_59 c_106 c_211); first | (simp [sp_reads, sp_found, sp_well, c_5, c_13, c_18, c_25, c_36, c_59, c_106, c_211, hjac, hjbc, hrc, hxc]; done) | (simp [sp_reads, sp_found, sp_well, c_5, c_13, c_18, c_25, c_36, c_59, c_106, eq_true c_211, hjac, hjbc, hrc, hxc]; done) | (exfalso; clear hend; simp_all; done)))⟩ rfl dX12_reads_224
                  · have hkl : k < 441 := by
                      rcases Nat.lt_or_ge k 441 with q | q
                      · exact q
                      · exact absurd (nI_le (a := 441) (b := k) q (by omega)) c_106
                    refine lv_aload_n hx hb dX12_reads_109 rfl (lv_at hl 0 rfl) ?_
                    refine mo_get X w hm hin 0 (by decide) (List.mem_of_getElem? (i := 2) rfl) rfl dX12_reads_110 ?_
                    refine lv_bipush (v := 26) hx hb dX12_reads_113 (by decide) ?_
                    refine lv_iload_n hx hb dX12_reads_115 rfl (lv_at hl 1 rfl) ?_
                    refine lv_iadd hx hb dX12_reads_116 ?_
                    refine lv_iload hx hb dX12_reads_117 (lv_at hl 10 rfl) ?_
                    refine lv_bipush (v := 21) hx hb dX12_reads_119 (by decide) ?_
                    refine lv_idiv hx hb dX12_reads_121 (by decide) ?_
                    refine mo_iast X w hm 0 (by decide) (by decide) (26 + ja) (hs_addI rfl rfl) (by show _ < 1400; omega) dX12_reads_122 (fun H locs w => ?_)
                    rw [mo_w_sw _ (by omega)] at w
                    refine lv_aload_n hx hb dX12_reads_123 rfl (lv_at hl 0 rfl) ?_
                    refine mo_get X w hm hin 0 (by decide) (List.mem_of_getElem? (i := 2) rfl) rfl dX12_reads_124 ?_
                    refine lv_bipush (v := 26) hx hb dX12_reads_127 (by decide) ?_
                    refine lv_iload_n hx hb dX12_reads_129 rfl (lv_at hl 2 rfl) ?_
                    refine lv_iadd hx hb dX12_reads_130 ?_
                    refine lv_iload hx hb dX12_reads_131 (lv_at hl 10 rfl) ?_
                    refine lv_bipush (v := 21) hx hb dX12_reads_133 (by decide) ?_
                    refine lv_irem hx hb dX12_reads_135 (by decide) ?_
                    refine mo_iast X w hm 0 (by decide) (by decide) (26 + jb) (hs_addI rfl rfl) (by show _ < 1400; omega) dX12_reads_136 (fun H locs w => ?_)
                    rw [mo_w_w] at w
                    refine lv_aload_n hx hb dX12_reads_137 rfl (lv_at hl 0 rfl) ?_
                    refine lv_iload_n hx hb dX12_reads_138 rfl (lv_at hl 3 rfl) ?_
                    refine lv_iload hx hb dX12_reads_139 (lv_at hl 4 rfl) ?_
                    refine hg_viF (r := (hs_so (va_up (va_up (M 0) (26 + ja) ((nI k / 21))) (26 + jb) ((nI k - nI k / 21 * 21))) n (M 5) (40 * r + x0) n)) (As := [.int (nI r), .int (nI x0)]) (rest := []) X w (c_X12_areSo l D b0 L f mo ma (mo_w (mo_w M 0 (26 + ja) ((nI k / 21))) 0 (26 + jb) ((nI k - nI k / 21 * 21))) hm n nr (hs_ok_w (by omega) (hs_ok_w (by omega) hv)) r x0 hr hx40) (cwV 2 hts gX12_reads_X12_areSo rfl rfl rfl hdX12_areSo ⟨Nat.le_of_ble_eq_true rfl, Nat.le_of_ble_eq_true rfl⟩) hm.1 (mo_at0 D f mo ma _) rfl rfl rfl hl.1 rfl (Nat.le_of_ble_eq_true rfl) dX12_reads_141 ⟨Nat.zero_le _, Nat.zero_le _⟩ (fun H locs w => ?_)
                    refine lv_istore (lv' := [(12, .int ((hs_so (va_up (va_up (M 0) (26 + ja) ((nI k / 21))) (26 + jb) ((nI k - nI k / 21 * 21))) n (M 5) (40 * r + x0) n))), (0, .ref mo), (1, .int (nI ja)), (2, .int (nI jb)), (3, .int (nI r)), (4, .int (nI x0)), (5, .int (what)), (7, .int (M 0 (26 + ja))), (8, .int (M 0 (26 + jb))), (9, .int (hs_rdN (M 0) n (M 5) (40 * r + x0) ja jb k)), (10, .int (hs_rdF (M 0) n (M 5) (40 * r + x0) ja jb k)), (11, .int (nI k))]) hx hb dX12_reads_144 hl (by decide) rfl (fun ls hl => ?_)
                    refine lv_iload hx hb dX12_reads_146 (lv_at hl 0 rfl) ?_
                    refine lv_if_eq (tgt := 161) hx hb dX12_reads_148 (by decide) (fun c_148 => ?_) (fun c_148 => ?_)
                    · refine lv_iload hx hb dX12_reads_161 (lv_at hl 10 rfl) ?_
                      refine lv_istore (lv' := [(10, .int (hs_rdF (M 0) n (M 5) (40 * r + x0) ja jb k)), (12, .int ((hs_so (va_up (va_up (M 0) (26 + ja) ((nI k / 21))) (26 + jb) ((nI k - nI k / 21 * 21))) n (M 5) (40 * r + x0) n))), (0, .ref mo), (1, .int (nI ja)), (2, .int (nI jb)), (3, .int (nI r)), (4, .int (nI x0)), (5, .int (what)), (7, .int (M 0 (26 + ja))), (8, .int (M 0 (26 + jb))), (9, .int (hs_rdN (M 0) n (M 5) (40 * r + x0) ja jb k)), (11, .int (nI k))]) hx hb dX12_reads_163 hl (by decide) rfl (fun ls hl => ?_)
                      refine lv_iload hx hb dX12_reads_165 (lv_at hl 10 rfl) ?_
                      refine lv_iload hx hb dX12_reads_167 (lv_at hl 1 rfl) ?_
                      refine lv_if_eq (tgt := 176) hx hb dX12_reads_169 (by decide) (fun c_169 => ?_) (fun c_169 => ?_)
                      · refine lv_iconst (v := 0) hx hb dX12_reads_176 (by decide) ?_
                        refine lv_iadd hx hb dX12_reads_177 ?_
                        refine lv_istore (lv' := [(9, .int ((hs_rdN (M 0) n (M 5) (40 * r + x0) ja jb k + 0))), (10, .int (hs_rdF (M 0) n (M 5) (40 * r + x0) ja jb k)), (12, .int ((hs_so (va_up (va_up (M 0) (26 + ja) ((nI k / 21))) (26 + jb) ((nI k - nI k / 21 * 21))) n (M 5) (40 * r + x0) n))), (0, .ref mo), (1, .int (nI ja)), (2, .int (nI jb)), (3, .int (nI r)), (4, .int (nI x0)), (5, .int (what)), (7, .int (M 0 (26 + ja))), (8, .int (M 0 (26 + jb))), (11, .int (nI k))]) hx hb dX12_reads_178 hl (by decide) rfl (fun ls hl => ?_)
                        refine lv_iinc (v := nI k + 1) (lv' := [(11, .int (nI k + 1)), (9, .int ((hs_rdN (M 0) n (M 5) (40 * r + x0) ja jb k + 0))), (10, .int (hs_rdF (M 0) n (M 5) (40 * r + x0) ja jb k)), (12, .int ((hs_so (va_up (va_up (M 0) (26 + ja) ((nI k / 21))) (26 + jb) ((nI k - nI k / 21 * 21))) n (M 5) (40 * r + x0) n))), (0, .ref mo), (1, .int (nI ja)), (2, .int (nI jb)), (3, .int (nI r)), (4, .int (nI x0)), (5, .int (what)), (7, .int (M 0 (26 + ja))), (8, .int (M 0 (26 + jb)))]) hx hb dX12_reads_180 hl (k := 11) rfl rfl (by decide) rfl (fun ls hl => ?_)
                        refine lv_goto (tgt := 101) hx hb dX12_reads_183 (by decide) ?_
                        have he9 : (hs_rdN (M 0) n (M 5) (40 * r + x0) ja jb k + 0) = hs_rdN (M 0) n (M 5) (40 * r + x0) ja jb (k + 1) := by (try simp only [lg_cmp_le, lg_cmp_ge, lg_cmp_lt, lg_cmp_gt, ← Int32.not_lt, ← Int64.not_lt, Classical.not_not] at c_5 c_13 c_18 c_25 c_36 c_59 c_106 c_148 c_169); first | (simp [hs_rdN, hs_rdg, c_5, c_13, c_18, c_25, c_36, c_59, c_106, c_148, c_169, hjac, hjbc, hrc, hxc]; done) | (simp [hs_rdN, hs_rdg, c_5, c_13, c_18, c_25, c_36, c_59, c_106, eq_true c_148, eq_true c_169, hjac, hjbc, hrc, hxc]; done) | (exfalso; clear hend ih; simp_all; done)
                        have hl := hs_lv hl (k := 1) rfl he9
                        have he10 : (hs_rdF (M 0) n (M 5) (40 * r + x0) ja jb k) = hs_rdF (M 0) n (M 5) (40 * r + x0) ja jb (k + 1) := by (try simp only [lg_cmp_le, lg_cmp_ge, lg_cmp_lt, lg_cmp_gt, ← Int32.not_lt, ← Int64.not_lt, Classical.not_not] at c_5 c_13 c_18 c_25 c_36 c_59 c_106 c_148 c_169); first | (simp [hs_rdF, hs_rdg, c_5, c_13, c_18, c_25, c_36, c_59, c_106, c_148, c_169, hjac, hjbc, hrc, hxc]; done) | (simp [hs_rdF, hs_rdg, c_5, c_13, c_18, c_25, c_36, c_59, c_106, eq_true c_148, eq_true c_169, hjac, hjbc, hrc, hxc]; done) | (exfalso; clear hend ih; simp_all; done)
                        have hl := hs_lv hl (k := 2) rfl he10
                        have hl := hs_lv hl (k := 0) rfl (nI_1 k)
                        exact ih (k + 1) (by omega) (by omega) _ _ H locs ls w (lv_sub hl [4, 5, 6, 7, 8, 9, 10, 11, 1, 2, 0] rfl)
                      · refine lv_iconst (v := 1) hx hb dX12_reads_172 (by decide) ?_
                        refine lv_goto (tgt := 177) hx hb dX12_reads_173 (by decide) ?_
                        refine lv_iadd hx hb dX12_reads_177 ?_
                        refine lv_istore (lv' := [(9, .int ((hs_rdN (M 0) n (M 5) (40 * r + x0) ja jb k + 1))), (10, .int (hs_rdF (M 0) n (M 5) (40 * r + x0) ja jb k)), (12, .int ((hs_so (va_up (va_up (M 0) (26 + ja) ((nI k / 21))) (26 + jb) ((nI k - nI k / 21 * 21))) n (M 5) (40 * r + x0) n))), (0, .ref mo), (1, .int (nI ja)), (2, .int (nI jb)), (3, .int (nI r)), (4, .int (nI x0)), (5, .int (what)), (7, .int (M 0 (26 + ja))), (8, .int (M 0 (26 + jb))), (11, .int (nI k))]) hx hb dX12_reads_178 hl (by decide) rfl (fun ls hl => ?_)
                        refine lv_iinc (v := nI k + 1) (lv' := [(11, .int (nI k + 1)), (9, .int ((hs_rdN (M 0) n (M 5) (40 * r + x0) ja jb k + 1))), (10, .int (hs_rdF (M 0) n (M 5) (40 * r + x0) ja jb k)), (12, .int ((hs_so (va_up (va_up (M 0) (26 + ja) ((nI k / 21))) (26 + jb) ((nI k - nI k / 21 * 21))) n (M 5) (40 * r + x0) n))), (0, .ref mo), (1, .int (nI ja)), (2, .int (nI jb)), (3, .int (nI r)), (4, .int (nI x0)), (5, .int (what)), (7, .int (M 0 (26 + ja))), (8, .int (M 0 (26 + jb)))]) hx hb dX12_reads_180 hl (k := 11) rfl rfl (by decide) rfl (fun ls hl => ?_)
                        refine lv_goto (tgt := 101) hx hb dX12_reads_183 (by decide) ?_
                        have he9 : (hs_rdN (M 0) n (M 5) (40 * r + x0) ja jb k + 1) = hs_rdN (M 0) n (M 5) (40 * r + x0) ja jb (k + 1) := by (try simp only [lg_cmp_le, lg_cmp_ge, lg_cmp_lt, lg_cmp_gt, ← Int32.not_lt, ← Int64.not_lt, Classical.not_not] at c_5 c_13 c_18 c_25 c_36 c_59 c_106 c_148 c_169); first | (simp [hs_rdN, hs_rdg, c_5, c_13, c_18, c_25, c_36, c_59, c_106, c_148, c_169, hjac, hjbc, hrc, hxc]; done) | (simp [hs_rdN, hs_rdg, c_5, c_13, c_18, c_25, c_36, c_59, c_106, eq_true c_148, c_169, hjac, hjbc, hrc, hxc]; done) | (exfalso; clear hend ih; simp_all; done)
                        have hl := hs_lv hl (k := 1) rfl he9
                        have he10 : (hs_rdF (M 0) n (M 5) (40 * r + x0) ja jb k) = hs_rdF (M 0) n (M 5) (40 * r + x0) ja jb (k + 1) := by (try simp only [lg_cmp_le, lg_cmp_ge, lg_cmp_lt, lg_cmp_gt, ← Int32.not_lt, ← Int64.not_lt, Classical.not_not] at c_5 c_13 c_18 c_25 c_36 c_59 c_106 c_148 c_169); first | (simp [hs_rdF, hs_rdg, c_5, c_13, c_18, c_25, c_36, c_59, c_106, c_148, c_169, hjac, hjbc, hrc, hxc]; done) | (simp [hs_rdF, hs_rdg, c_5, c_13, c_18, c_25, c_36, c_59, c_106, eq_true c_148, c_169, hjac, hjbc, hrc, hxc]; done) | (exfalso; clear hend ih; simp_all; done)
                        have hl := hs_lv hl (k := 2) rfl he10
                        have hl := hs_lv hl (k := 0) rfl (nI_1 k)
                        exact ih (k + 1) (by omega) (by omega) _ _ H locs ls w (lv_sub hl [4, 5, 6, 7, 8, 9, 10, 11, 1, 2, 0] rfl)
                    · refine lv_iload hx hb dX12_reads_151 (lv_at hl 9 rfl) ?_
                      refine lv_if_ne (tgt := 161) hx hb dX12_reads_153 (by decide) (fun c_153 => ?_) (fun c_153 => ?_)
                      · refine lv_iload hx hb dX12_reads_161 (lv_at hl 10 rfl) ?_
                        refine lv_istore (lv' := [(10, .int (hs_rdF (M 0) n (M 5) (40 * r + x0) ja jb k)), (12, .int ((hs_so (va_up (va_up (M 0) (26 + ja) ((nI k / 21))) (26 + jb) ((nI k - nI k / 21 * 21))) n (M 5) (40 * r + x0) n))), (0, .ref mo), (1, .int (nI ja)), (2, .int (nI jb)), (3, .int (nI r)), (4, .int (nI x0)), (5, .int (what)), (7, .int (M 0 (26 + ja))), (8, .int (M 0 (26 + jb))), (9, .int (hs_rdN (M 0) n (M 5) (40 * r + x0) ja jb k)), (11, .int (nI k))]) hx hb dX12_reads_163 hl (by decide) rfl (fun ls hl => ?_)
                        refine lv_iload hx hb dX12_reads_165 (lv_at hl 10 rfl) ?_
                        refine lv_iload hx hb dX12_reads_167 (lv_at hl 1 rfl) ?_
                        refine lv_if_eq (tgt := 176) hx hb dX12_reads_169 (by decide) (fun c_169 => ?_) (fun c_169 => ?_)
                        · refine lv_iconst (v := 0) hx hb dX12_reads_176 (by decide) ?_
                          refine lv_iadd hx hb dX12_reads_177 ?_
                          refine lv_istore (lv' := [(9, .int ((hs_rdN (M 0) n (M 5) (40 * r + x0) ja jb k + 0))), (10, .int (hs_rdF (M 0) n (M 5) (40 * r + x0) ja jb k)), (12, .int ((hs_so (va_up (va_up (M 0) (26 + ja) ((nI k / 21))) (26 + jb) ((nI k - nI k / 21 * 21))) n (M 5) (40 * r + x0) n))), (0, .ref mo), (1, .int (nI ja)), (2, .int (nI jb)), (3, .int (nI r)), (4, .int (nI x0)), (5, .int (what)), (7, .int (M 0 (26 + ja))), (8, .int (M 0 (26 + jb))), (11, .int (nI k))]) hx hb dX12_reads_178 hl (by decide) rfl (fun ls hl => ?_)
                          refine lv_iinc (v := nI k + 1) (lv' := [(11, .int (nI k + 1)), (9, .int ((hs_rdN (M 0) n (M 5) (40 * r + x0) ja jb k + 0))), (10, .int (hs_rdF (M 0) n (M 5) (40 * r + x0) ja jb k)), (12, .int ((hs_so (va_up (va_up (M 0) (26 + ja) ((nI k / 21))) (26 + jb) ((nI k - nI k / 21 * 21))) n (M 5) (40 * r + x0) n))), (0, .ref mo), (1, .int (nI ja)), (2, .int (nI jb)), (3, .int (nI r)), (4, .int (nI x0)), (5, .int (what)), (7, .int (M 0 (26 + ja))), (8, .int (M 0 (26 + jb)))]) hx hb dX12_reads_180 hl (k := 11) rfl rfl (by decide) rfl (fun ls hl => ?_)
                          refine lv_goto (tgt := 101) hx hb dX12_reads_183 (by decide) ?_
                          have he9 : (hs_rdN (M 0) n (M 5) (40 * r + x0) ja jb k + 0) = hs_rdN (M 0) n (M 5) (40 * r + x0) ja jb (k + 1) := by (try simp only [lg_cmp_le, lg_cmp_ge, lg_cmp_lt, lg_cmp_gt, ← Int32.not_lt, ← Int64.not_lt, Classical.not_not] at c_5 c_13 c_18 c_25 c_36 c_59 c_106 c_148 c_153 c_169); first | (simp [hs_rdN, hs_rdg, c_5, c_13, c_18, c_25, c_36, c_59, c_106, c_148, c_153, c_169, hjac, hjbc, hrc, hxc]; done) | (simp [hs_rdN, hs_rdg, c_5, c_13, c_18, c_25, c_36, c_59, c_106, c_148, c_153, eq_true c_169, hjac, hjbc, hrc, hxc]; done) | (exfalso; clear hend ih; simp_all; done)
                          have hl := hs_lv hl (k := 1) rfl he9
                          have he10 : (hs_rdF (M 0) n (M 5) (40 * r + x0) ja jb k) = hs_rdF (M 0) n (M 5) (40 * r + x0) ja jb (k + 1) := by (try simp only [lg_cmp_le, lg_cmp_ge, lg_cmp_lt, lg_cmp_gt, ← Int32.not_lt, ← Int64.not_lt, Classical.not_not] at c_5 c_13 c_18 c_25 c_36 c_59 c_106 c_148 c_153 c_169); first | (simp [hs_rdF, hs_rdg, c_5, c_13, c_18, c_25, c_36, c_59, c_106, c_148, c_153, c_169, hjac, hjbc, hrc, hxc]; done) | (simp [hs_rdF, hs_rdg, c_5, c_13, c_18, c_25, c_36, c_59, c_106, c_148, c_153, eq_true c_169, hjac, hjbc, hrc, hxc]; done) | (exfalso; clear hend ih; simp_all; done)
                          have hl := hs_lv hl (k := 2) rfl he10
                          have hl := hs_lv hl (k := 0) rfl (nI_1 k)
                          exact ih (k + 1) (by omega) (by omega) _ _ H locs ls w (lv_sub hl [4, 5, 6, 7, 8, 9, 10, 11, 1, 2, 0] rfl)
                        · refine lv_iconst (v := 1) hx hb dX12_reads_172 (by decide) ?_
                          refine lv_goto (tgt := 177) hx hb dX12_reads_173 (by decide) ?_
                          refine lv_iadd hx hb dX12_reads_177 ?_
                          refine lv_istore (lv' := [(9, .int ((hs_rdN (M 0) n (M 5) (40 * r + x0) ja jb k + 1))), (10, .int (hs_rdF (M 0) n (M 5) (40 * r + x0) ja jb k)), (12, .int ((hs_so (va_up (va_up (M 0) (26 + ja) ((nI k / 21))) (26 + jb) ((nI k - nI k / 21 * 21))) n (M 5) (40 * r + x0) n))), (0, .ref mo), (1, .int (nI ja)), (2, .int (nI jb)), (3, .int (nI r)), (4, .int (nI x0)), (5, .int (what)), (7, .int (M 0 (26 + ja))), (8, .int (M 0 (26 + jb))), (11, .int (nI k))]) hx hb dX12_reads_178 hl (by decide) rfl (fun ls hl => ?_)
                          refine lv_iinc (v := nI k + 1) (lv' := [(11, .int (nI k + 1)), (9, .int ((hs_rdN (M 0) n (M 5) (40 * r + x0) ja jb k + 1))), (10, .int (hs_rdF (M 0) n (M 5) (40 * r + x0) ja jb k)), (12, .int ((hs_so (va_up (va_up (M 0) (26 + ja) ((nI k / 21))) (26 + jb) ((nI k - nI k / 21 * 21))) n (M 5) (40 * r + x0) n))), (0, .ref mo), (1, .int (nI ja)), (2, .int (nI jb)), (3, .int (nI r)), (4, .int (nI x0)), (5, .int (what)), (7, .int (M 0 (26 + ja))), (8, .int (M 0 (26 + jb)))]) hx hb dX12_reads_180 hl (k := 11) rfl rfl (by decide) rfl (fun ls hl => ?_)
                          refine lv_goto (tgt := 101) hx hb dX12_reads_183 (by decide) ?_
                          have he9 : (hs_rdN (M 0) n (M 5) (40 * r + x0) ja jb k + 1) = hs_rdN (M 0) n (M 5) (40 * r + x0) ja jb (k + 1) := by (try simp only [lg_cmp_le, lg_cmp_ge, lg_cmp_lt, lg_cmp_gt, ← Int32.not_lt, ← Int64.not_lt, Classical.not_not] at c_5 c_13 c_18 c_25 c_36 c_59 c_106 c_148 c_153 c_169); first | (simp [hs_rdN, hs_rdg, c_5, c_13, c_18, c_25, c_36, c_59, c_106, c_148, c_153, c_169, hjac, hjbc, hrc, hxc]; done) | (simp [hs_rdN, hs_rdg, c_5, c_13, c_18, c_25, c_36, c_59, c_106, c_148, c_153, c_169, hjac, hjbc, hrc, hxc]; done) | (exfalso; clear hend ih; simp_all; done)
                          have hl := hs_lv hl (k := 1) rfl he9
                          have he10 : (hs_rdF (M 0) n (M 5) (40 * r + x0) ja jb k) = hs_rdF (M 0) n (M 5) (40 * r + x0) ja jb (k + 1) := by (try simp only [lg_cmp_le, lg_cmp_ge, lg_cmp_lt, lg_cmp_gt, ← Int32.not_lt, ← Int64.not_lt, Classical.not_not] at c_5 c_13 c_18 c_25 c_36 c_59 c_106 c_148 c_153 c_169); first | (simp [hs_rdF, hs_rdg, c_5, c_13, c_18, c_25, c_36, c_59, c_106, c_148, c_153, c_169, hjac, hjbc, hrc, hxc]; done) | (simp [hs_rdF, hs_rdg, c_5, c_13, c_18, c_25, c_36, c_59, c_106, c_148, c_153, c_169, hjac, hjbc, hrc, hxc]; done) | (exfalso; clear hend ih; simp_all; done)
                          have hl := hs_lv hl (k := 2) rfl he10
                          have hl := hs_lv hl (k := 0) rfl (nI_1 k)
                          exact ih (k + 1) (by omega) (by omega) _ _ H locs ls w (lv_sub hl [4, 5, 6, 7, 8, 9, 10, 11, 1, 2, 0] rfl)
                      · refine lv_iload hx hb dX12_reads_156 (lv_at hl 11 rfl) ?_
                        refine lv_goto (tgt := 163) hx hb dX12_reads_158 (by decide) ?_
                        refine lv_istore (lv' := [(10, .int (nI k)), (12, .int ((hs_so (va_up (va_up (M 0) (26 + ja) ((nI k / 21))) (26 + jb) ((nI k - nI k / 21 * 21))) n (M 5) (40 * r + x0) n))), (0, .ref mo), (1, .int (nI ja)), (2, .int (nI jb)), (3, .int (nI r)), (4, .int (nI x0)), (5, .int (what)), (7, .int (M 0 (26 + ja))), (8, .int (M 0 (26 + jb))), (9, .int (hs_rdN (M 0) n (M 5) (40 * r + x0) ja jb k)), (11, .int (nI k))]) hx hb dX12_reads_163 hl (by decide) rfl (fun ls hl => ?_)
                        refine lv_iload hx hb dX12_reads_165 (lv_at hl 10 rfl) ?_
                        refine lv_iload hx hb dX12_reads_167 (lv_at hl 1 rfl) ?_
                        refine lv_if_eq (tgt := 176) hx hb dX12_reads_169 (by decide) (fun c_169 => ?_) (fun c_169 => ?_)
                        · refine lv_iconst (v := 0) hx hb dX12_reads_176 (by decide) ?_
                          refine lv_iadd hx hb dX12_reads_177 ?_
                          refine lv_istore (lv' := [(9, .int ((hs_rdN (M 0) n (M 5) (40 * r + x0) ja jb k + 0))), (10, .int (nI k)), (12, .int ((hs_so (va_up (va_up (M 0) (26 + ja) ((nI k / 21))) (26 + jb) ((nI k - nI k / 21 * 21))) n (M 5) (40 * r + x0) n))), (0, .ref mo), (1, .int (nI ja)), (2, .int (nI jb)), (3, .int (nI r)), (4, .int (nI x0)), (5, .int (what)), (7, .int (M 0 (26 + ja))), (8, .int (M 0 (26 + jb))), (11, .int (nI k))]) hx hb dX12_reads_178 hl (by decide) rfl (fun ls hl => ?_)
                          refine lv_iinc (v := nI k + 1) (lv' := [(11, .int (nI k + 1)), (9, .int ((hs_rdN (M 0) n (M 5) (40 * r + x0) ja jb k + 0))), (10, .int (nI k)), (12, .int ((hs_so (va_up (va_up (M 0) (26 + ja) ((nI k / 21))) (26 + jb) ((nI k - nI k / 21 * 21))) n (M 5) (40 * r + x0) n))), (0, .ref mo), (1, .int (nI ja)), (2, .int (nI jb)), (3, .int (nI r)), (4, .int (nI x0)), (5, .int (what)), (7, .int (M 0 (26 + ja))), (8, .int (M 0 (26 + jb)))]) hx hb dX12_reads_180 hl (k := 11) rfl rfl (by decide) rfl (fun ls hl => ?_)
                          refine lv_goto (tgt := 101) hx hb dX12_reads_183 (by decide) ?_
                          have he9 : (hs_rdN (M 0) n (M 5) (40 * r + x0) ja jb k + 0) = hs_rdN (M 0) n (M 5) (40 * r + x0) ja jb (k + 1) := by (try simp only [lg_cmp_le, lg_cmp_ge, lg_cmp_lt, lg_cmp_gt, ← Int32.not_lt, ← Int64.not_lt, Classical.not_not] at c_5 c_13 c_18 c_25 c_36 c_59 c_106 c_148 c_153 c_169); first | (simp [hs_rdN, hs_rdg, c_5, c_13, c_18, c_25, c_36, c_59, c_106, c_148, c_153, c_169, hjac, hjbc, hrc, hxc]; done) | (simp [hs_rdN, hs_rdg, c_5, c_13, c_18, c_25, c_36, c_59, c_106, c_148, eq_true c_153, eq_true c_169, hjac, hjbc, hrc, hxc]; done) | (exfalso; clear hend ih; simp_all; done)
                          have hl := hs_lv hl (k := 1) rfl he9
                          have he10 : (nI k) = hs_rdF (M 0) n (M 5) (40 * r + x0) ja jb (k + 1) := by (try simp only [lg_cmp_le, lg_cmp_ge, lg_cmp_lt, lg_cmp_gt, ← Int32.not_lt, ← Int64.not_lt, Classical.not_not] at c_5 c_13 c_18 c_25 c_36 c_59 c_106 c_148 c_153 c_169); first | (simp [hs_rdF, hs_rdg, c_5, c_13, c_18, c_25, c_36, c_59, c_106, c_148, c_153, c_169, hjac, hjbc, hrc, hxc]; done) | (simp [hs_rdF, hs_rdg, c_5, c_13, c_18, c_25, c_36, c_59, c_106, c_148, eq_true c_153, eq_true c_169, hjac, hjbc, hrc, hxc]; done) | (exfalso; clear hend ih; simp_all; done)
                          have hl := hs_lv hl (k := 2) rfl he10
                          have hl := hs_lv hl (k := 0) rfl (nI_1 k)
                          exact ih (k + 1) (by omega) (by omega) _ _ H locs ls w (lv_sub hl [4, 5, 6, 7, 8, 9, 10, 11, 1, 2, 0] rfl)
                        · refine lv_iconst (v := 1) hx hb dX12_reads_172 (by decide) ?_
                          refine lv_goto (tgt := 177) hx hb dX12_reads_173 (by decide) ?_
                          refine lv_iadd hx hb dX12_reads_177 ?_
                          refine lv_istore (lv' := [(9, .int ((hs_rdN (M 0) n (M 5) (40 * r + x0) ja jb k + 1))), (10, .int (nI k)), (12, .int ((hs_so (va_up (va_up (M 0) (26 + ja) ((nI k / 21))) (26 + jb) ((nI k - nI k / 21 * 21))) n (M 5) (40 * r + x0) n))), (0, .ref mo), (1, .int (nI ja)), (2, .int (nI jb)), (3, .int (nI r)), (4, .int (nI x0)), (5, .int (what)), (7, .int (M 0 (26 + ja))), (8, .int (M 0 (26 + jb))), (11, .int (nI k))]) hx hb dX12_reads_178 hl (by decide) rfl (fun ls hl => ?_)
                          refine lv_iinc (v := nI k + 1) (lv' := [(11, .int (nI k + 1)), (9, .int ((hs_rdN (M 0) n (M 5) (40 * r + x0) ja jb k + 1))), (10, .int (nI k)), (12, .int ((hs_so (va_up (va_up (M 0) (26 + ja) ((nI k / 21))) (26 + jb) ((nI k - nI k / 21 * 21))) n (M 5) (40 * r + x0) n))), (0, .ref mo), (1, .int (nI ja)), (2, .int (nI jb)), (3, .int (nI r)), (4, .int (nI x0)), (5, .int (what)), (7, .int (M 0 (26 + ja))), (8, .int (M 0 (26 + jb)))]) hx hb dX12_reads_180 hl (k := 11) rfl rfl (by decide) rfl (fun ls hl => ?_)
                          refine lv_goto (tgt := 101) hx hb dX12_reads_183 (by decide) ?_
                          have he9 : (hs_rdN (M 0) n (M 5) (40 * r + x0) ja jb k + 1) = hs_rdN (M 0) n (M 5) (40 * r + x0) ja jb (k + 1) := by (try simp only [lg_cmp_le, lg_cmp_ge, lg_cmp_lt, lg_cmp_gt, ← Int32.not_lt, ← Int64.not_lt, Classical.not_not] at c_5 c_13 c_18 c_25 c_36 c_59 c_106 c_148 c_153 c_169); first | (simp [hs_rdN, hs_rdg, c_5, c_13, c_18, c_25, c_36, c_59, c_106, c_148, c_153, c_169, hjac, hjbc, hrc, hxc]; done) | (simp [hs_rdN, hs_rdg, c_5, c_13, c_18, c_25, c_36, c_59, c_106, c_148, eq_true c_153, c_169, hjac, hjbc, hrc, hxc]; done) | (exfalso; clear hend ih; simp_all; done)
                          have hl := hs_lv hl (k := 1) rfl he9
                          have he10 : (nI k) = hs_rdF (M 0) n (M 5) (40 * r + x0) ja jb (k + 1) := by (try simp only [lg_cmp_le, lg_cmp_ge, lg_cmp_lt, lg_cmp_gt, ← Int32.not_lt, ← Int64.not_lt, Classical.not_not] at c_5 c_13 c_18 c_25 c_36 c_59 c_106 c_148 c_153 c_169); first | (simp [hs_rdF, hs_rdg, c_5, c_13, c_18, c_25, c_36, c_59, c_106, c_148, c_153, c_169, hjac, hjbc, hrc, hxc]; done) | (simp [hs_rdF, hs_rdg, c_5, c_13, c_18, c_25, c_36, c_59, c_106, c_148, eq_true c_153, c_169, hjac, hjbc, hrc, hxc]; done) | (exfalso; clear hend ih; simp_all; done)
                          have hl := hs_lv hl (k := 2) rfl he10
                          have hl := hs_lv hl (k := 0) rfl (nI_1 k)
                          exact ih (k + 1) (by omega) (by omega) _ _ H locs ls w (lv_sub hl [4, 5, 6, 7, 8, 9, 10, 11, 1, 2, 0] rfl)
              exact loop 442 0 (by omega) (by omega) (M 0 (26 + ja)) (M 0 (26 + jb)) H locs ls (by rw [mo_w_id, mo_w_id]; exact w) (lv_sub hl [6, 7, 8, 9, 10, 11, 4, 3, 2, 1, 0] rfl)
            · refine lv_aload_n hx hb dX12_reads_62 rfl (lv_at hl 1 rfl) ?_
              refine lv_iload hx hb dX12_reads_63 (lv_at hl 0 rfl) ?_
              refine hg_viF (r := (-1000010 - (hs_bars M r x (M 0 3)))) (As := [.int ((hs_bars M r x (M 0 3)))]) (rest := []) X w (c_X12_found l D b0 L f mo ma M hm (hs_bars M r x (M 0 3))) (cwV 1 hts gX12_reads_X12_found rfl rfl rfl hdX12_found ⟨Nat.le_of_ble_eq_true rfl, Nat.le_of_ble_eq_true rfl⟩) hm.1 (mo_at0 D f mo ma _) rfl rfl rfl hl.1 rfl (Nat.le_of_ble_eq_true rfl) dX12_reads_65 ⟨Nat.zero_le _, Nat.zero_le _⟩ (fun H locs w => ?_)
              exact hend H locs ((-1000010 - (hs_bars M r x (M 0 3)))) (L, mo_F D f mo ma (mo_w M 7 0 (hs_bars M r x (M 0 3)))) _ ls w ⟨(by (try simp only [lg_cmp_le, lg_cmp_ge, lg_cmp_lt, lg_cmp_gt, ← Int32.not_lt, ← Int64.not_lt, Classical.not_not] at c_5 c_13 c_18 c_25 c_36 c_59); first | (simp [sp_reads, sp_found, sp_well, c_5, c_13, c_18, c_25, c_36, c_59, hjac, hjbc, hrc]; done) | (simp [sp_reads, sp_found, sp_well, c_5, c_13, c_18, c_25, c_36, c_59, hjac, hjbc, hrc]; done) | (exfalso; clear hend; simp_all; done)), (congrArg (fun z => (L, mo_F D f mo ma z)) (by (try simp only [lg_cmp_le, lg_cmp_ge, lg_cmp_lt, lg_cmp_gt, ← Int32.not_lt, ← Int64.not_lt, Classical.not_not] at c_5 c_13 c_18 c_25 c_36 c_59); first | (simp [sp_reads, sp_found, sp_well, c_5, c_13, c_18, c_25, c_36, c_59, hjac, hjbc, hrc]; done) | (simp [sp_reads, sp_found, sp_well, c_5, c_13, c_18, c_25, c_36, c_59, hjac, hjbc, hrc]; done) | (exfalso; clear hend; simp_all; done)))⟩ rfl dX12_reads_68
          · refine lv_ldc (v := (-1000001)) hx hb hown (hts _ (List.mem_of_getElem? (i := 1) rfl)) dX12_reads_39 ?_
            exact hend H locs ((-1000001)) (L, mo_F D f mo ma M) _ ls w ⟨(by (try simp only [lg_cmp_le, lg_cmp_ge, lg_cmp_lt, lg_cmp_gt, ← Int32.not_lt, ← Int64.not_lt, Classical.not_not] at c_5 c_13 c_18 c_25 c_36); first | (simp [sp_reads, sp_found, sp_well, c_5, c_13, c_18, c_25, c_36, hjac, hjbc, hrc]; done) | (simp [sp_reads, sp_found, sp_well, c_5, c_13, c_18, c_25, eq_true c_36, hjac, hjbc, hrc]; done) | (exfalso; clear hend; simp_all; done)), (congrArg (fun z => (L, mo_F D f mo ma z)) (by (try simp only [lg_cmp_le, lg_cmp_ge, lg_cmp_lt, lg_cmp_gt, ← Int32.not_lt, ← Int64.not_lt, Classical.not_not] at c_5 c_13 c_18 c_25 c_36); first | (simp [sp_reads, sp_found, sp_well, c_5, c_13, c_18, c_25, c_36, hjac, hjbc, hrc]; done) | (simp [sp_reads, sp_found, sp_well, c_5, c_13, c_18, c_25, eq_true c_36, hjac, hjbc, hrc]; done) | (exfalso; clear hend; simp_all; done)))⟩ rfl dX12_reads_41
