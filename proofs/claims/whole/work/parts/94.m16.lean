set_option maxRecDepth 100000 in
set_option maxHeartbeats 4000000 in
theorem c_X12_layWays (l : Launch) (D : va_G) (b0 : Nat) (L : List Nat) (f : Nat → va_E) (mo : Nat) (ma : Nat → Nat) (M : Nat → Nat → Int32) (hm : mo_ok L mo ma) (n nr : Nat) (hv : hs_ok (M 0) n nr) (ho : ∀ i, i < n → M 0 (44 + i) = 0 ∨ M 0 (44 + i) = 1) : mo_Fv l yX12_layWays wsX12_layWays ({ frames := 6, cells := 0, slots := 0, locals := 138 }) D b0 L f mo ma M [] (sp_lay M n) := by
  refine hg_in_v (cc := cX12_layWays) (nL := 6) (by decide) rfl (Nat.le_of_ble_eq_true rfl) (fun p e s m args below meth c R Q X _ hR hend H locs ls w hl => ?_)
  subst hR
  obtain ⟨hx, hb, hml, hown, hts⟩ := id X.1
  have hin : ∀ w ∈ wsX120, w ∈ wsX12_layWays := fun w h => List.mem_cons_of_mem _ (List.mem_append_right _ h)
  have hl : lv_has ls 6 [(0, .ref mo)] := hl
  obtain ⟨hn, hn6, hnr, hnr3, htt⟩ := id hv
  refine lv_iconst (v := 0) hx hb dX12_layWays_0 (by decide) ?_
  refine lv_istore_n (lv' := [(1, .int (0)), (0, .ref mo)]) hx hb dX12_layWays_1 rfl hl (by decide) rfl (fun ls hl => ?_)
  refine lv_iconst (v := 0) hx hb dX12_layWays_2 (by decide) ?_
  refine lv_istore_n (lv' := [(2, .int (0)), (1, .int (0)), (0, .ref mo)]) hx hb dX12_layWays_3 rfl hl (by decide) rfl (fun ls hl => ?_)
  have loopA : ∀ (n0 k : Nat), k ≤ n → n + 1 ≤ k + n0 → ∀ (H : Heap) (locs : List Loc) (ls : Array Slot), hg_W D b0 L (mo_F D f mo ma M) s.heap H locs → lv_has ls 6 [(0, .ref mo), (1, .int (lw_had (M 0) k)), (2, .int (nI k))] → W p l e ({ frames := 6, cells := 0, slots := 0, locals := 138 }) s m args below meth c H locs 0 0 Q (F0 m 4 ls []) := by
    intro n0
    induction n0 with
    | zero =>
      intro k h1 h2
      exact absurd h2 (by omega)
    | succ n0 ih =>
      intro k hk hn0 H locs ls w hl
      refine lv_iload_n hx hb dX12_layWays_4 rfl (lv_at hl 2 rfl) ?_
      refine lv_aload_n hx hb dX12_layWays_5 rfl (lv_at hl 0 rfl) ?_
      refine mo_get X w hm hin 0 (by decide) (List.mem_of_getElem? (i := 1) rfl) rfl dX12_layWays_6 ?_
      refine lv_iconst (v := 3) hx hb dX12_layWays_9 (by decide) ?_
      refine mo_iald X w hm 0 (by decide) (by decide) 3 rfl (by show _ < 1400; omega) dX12_layWays_10 ?_
      refine lv_icmp_ge (tgt := 34) hx hb dX12_layWays_11 (by decide) (fun c_11 => ?_) (fun c_11 => ?_)
      · rw [hv.1] at c_11
        have hk : n = k := by
          rcases Nat.lt_or_ge k n with q | q
          · exact absurd c_11 (nI_ge (a := k) (b := n) q (by omega))
          · omega
        subst hk
        refine lv_iconst (v := 1) hx hb dX12_layWays_34 (by decide) ?_
        refine lv_aload_n hx hb dX12_layWays_35 rfl (lv_at hl 0 rfl) ?_
        refine mo_get X w hm hin 0 (by decide) (List.mem_of_getElem? (i := 1) rfl) rfl dX12_layWays_36 ?_
        refine lv_iconst (v := 3) hx hb dX12_layWays_39 (by decide) ?_
        refine mo_ialdv X w hm 0 (by decide) (by decide) 3 rfl (by show _ < 1400; decide) (nI n) hv.1 dX12_layWays_40 ?_
        refine lv_ishl hx hb dX12_layWays_41 ?_
        refine lv_iconst (v := 1) hx hb dX12_layWays_42 (by decide) ?_
        refine lv_isub hx hb dX12_layWays_43 ?_
        refine lv_istore_n (lv' := [(2, .int (((1 <<< (nI n &&& 31)) - 1))), (0, .ref mo), (1, .int (lw_had (M 0) n))]) hx hb dX12_layWays_44 rfl hl (by decide) rfl (fun ls hl => ?_)
        refine lv_iload_n hx hb dX12_layWays_45 rfl (lv_at hl 0 rfl) ?_
        refine lv_istore_n (lv' := [(3, .int (((1 <<< (nI n &&& 31)) - 1))), (2, .int (((1 <<< (nI n &&& 31)) - 1))), (0, .ref mo), (1, .int (lw_had (M 0) n))]) hx hb dX12_layWays_46 rfl hl (by decide) rfl (fun ls hl => ?_)
        obtain ⟨hd, hhd⟩ : ∃ hd, hd = (lw_hN (M 0) n) := ⟨_, rfl⟩
        obtain ⟨hh1, hh2⟩ := lw_had_n ho n (Nat.le_refl n) hn6
        rw [← hhd] at hh1 hh2
        have hl := hs_lv hl (k := 3) rfl hh1
        have hp64 : 2 ^ n ≤ 64 := Nat.le_trans (Nat.pow_le_pow_right (by decide) hn6) (by decide)
        have hp1 : 1 ≤ 2 ^ n := Nat.one_le_two_pow
        have loopB : ∀ (q : Nat), q ≤ 2 ^ n → ∀ (G o : Nat → Int32), lw_ag (M 0) G n → lw_fill (M 0) n hd o q = lw_fill (M 0) n hd (M 15) (2 ^ n) → ∀ (H : Heap) (locs : List Loc) (ls : Array Slot), hg_W D b0 L (mo_F D f mo ma (lw_M M G o)) s.heap H locs → lv_has ls 6 [(0, .ref mo), (1, .int (nI hd)), (2, .int (nI (2 ^ n - 1))), (3, .int (nI q - 1))] → W p l e ({ frames := 6, cells := 0, slots := 0, locals := 138 }) s m args below meth c H locs 0 0 Q (F0 m 47 ls []) := by
          intro q
          induction q with
          | zero =>
            intro hq G o hag hT H locs ls w hl
            have hT : o = lw_fill (M 0) n hd (M 15) (2 ^ n) := hT
            refine lv_iload_n hx hb dX12_layWays_47 rfl (lv_at hl 3 rfl) ?_
            refine lv_if_lt (tgt := 205) hx hb dX12_layWays_48 (by decide) (fun c_48 => ?_) (fun c_48 => ?_)
            · refine lv_iconst (v := 0) hx hb dX12_layWays_205 (by decide) ?_
              refine lv_istore_n (lv' := [(3, .int (0)), (0, .ref mo), (1, .int (nI hd)), (2, .int (nI (2 ^ n - 1)))]) hx hb dX12_layWays_206 rfl hl (by decide) rfl (fun ls hl => ?_)
              have loopE : ∀ (n0 k : Nat), k ≤ n → n + 1 ≤ k + n0 → ∀ (H : Heap) (locs : List Loc) (ls : Array Slot), hg_W D b0 L (mo_F D f mo ma (lw_M M (lw_off G (nI hd) k) o)) s.heap H locs → lv_has ls 6 [(0, .ref mo), (1, .int (nI hd)), (3, .int (nI k))] → W p l e ({ frames := 6, cells := 0, slots := 0, locals := 138 }) s m args below meth c H locs 0 0 Q (F0 m 207 ls []) := by
                intro n0
                induction n0 with
                | zero =>
                  intro k h1 h2
                  exact absurd h2 (by omega)
                | succ n0 ihE =>
                  intro k hk hn0 H locs ls w hl
                  have hkE := lw_ok_c (lw_ag_off (k := k) hag hk (nI hd)) hv
                  refine lv_iload_n hx hb dX12_layWays_207 rfl (lv_at hl 2 rfl) ?_
                  refine lv_aload_n hx hb dX12_layWays_208 rfl (lv_at hl 0 rfl) ?_
                  refine mo_get X w hm hin 0 (by decide) (List.mem_of_getElem? (i := 1) rfl) rfl dX12_layWays_209 ?_
                  refine lv_iconst (v := 3) hx hb dX12_layWays_212 (by decide) ?_
                  refine mo_ialdv X w hm 0 (by decide) (by decide) 3 rfl (by show _ < 1400; omega) ((lw_off G (nI hd) k) 3) rfl dX12_layWays_213 ?_
                  refine lv_icmp_ge (tgt := 237) hx hb dX12_layWays_214 (by decide) (fun c_214 => ?_) (fun c_214 => ?_)
                  · rw [hkE.1] at c_214
                    have hk : n = k := by
                      rcases Nat.lt_or_ge k n with q | q
                      · exact absurd c_214 (nI_ge (a := k) (b := n) q (by omega))
                      · omega
                    subst hk
                    refine lv_aload_n hx hb dX12_layWays_237 rfl (lv_at hl 0 rfl) ?_
                    refine lv_iload_n hx hb dX12_layWays_238 rfl (lv_at hl 1 rfl) ?_
                    refine mo_put X w hm hin 16 (by decide) (List.mem_of_getElem? (i := 3) rfl) dX12_layWays_239 (fun H locs w => ?_)
                    rw [show lw_off G (nI hd) n = M 0 from by rw [hhd]; exact lw_back hn6 hag ho, hT] at w
                    exact hend H locs (L, mo_F D f mo ma (sp_lay M n)) _ ls (by
                      have e : sp_lay M n = mo_w (lw_M M (M 0) (lw_fill (M 0) n hd (M 15) (2 ^ n))) 16 0 (nI hd) := by
                        unfold sp_lay lw_M
                        rw [hs_up_id, ← hhd]
                      rw [e]
                      exact w) rfl dX12_layWays_242
                  · rw [hkE.1] at c_214
                    have hkl : k < n := by
                      rcases Nat.lt_or_ge k n with q | q
                      · exact q
                      · exact absurd (nI_le (a := n) (b := k) q (by omega)) c_214
                    refine lv_aload_n hx hb dX12_layWays_217 rfl (lv_at hl 0 rfl) ?_
                    refine mo_get X w hm hin 0 (by decide) (List.mem_of_getElem? (i := 1) rfl) rfl dX12_layWays_218 ?_
                    refine lv_bipush (v := 44) hx hb dX12_layWays_221 (by decide) ?_
                    refine lv_iload_n hx hb dX12_layWays_223 rfl (lv_at hl 2 rfl) ?_
                    refine lv_iadd hx hb dX12_layWays_224 ?_
                    refine lv_iload_n hx hb dX12_layWays_225 rfl (lv_at hl 1 rfl) ?_
                    refine lv_iload_n hx hb dX12_layWays_226 rfl (lv_at hl 2 rfl) ?_
                    refine lv_ishr hx hb dX12_layWays_227 ?_
                    refine lv_iconst (v := 1) hx hb dX12_layWays_228 (by decide) ?_
                    refine lv_iand hx hb dX12_layWays_229 ?_
                    refine mo_iast X w hm 0 (by decide) (by decide) (44 + k) (hs_addI rfl rfl) (by show _ < 1400; omega) dX12_layWays_230 (fun H locs w => ?_)
                    rw [lw_w0] at w
                    refine lv_iinc (v := nI k + 1) (lv' := [(3, .int (nI k + 1)), (0, .ref mo), (1, .int (nI hd))]) hx hb dX12_layWays_231 hl (k := 2) rfl rfl (by decide) rfl (fun ls hl => ?_)
                    refine lv_goto (tgt := 207) hx hb dX12_layWays_234 (by decide) ?_
                    rw [lw_off_s] at w
                    have hl := hs_lv hl (k := 0) rfl (nI_1 k)
                    exact ihE (k + 1) (by omega) (by omega) H locs ls w (lv_sub hl [1, 2, 0] rfl)
              exact loopE (n + 1) 0 (by omega) (by omega) H locs ls (by rw [lw_off_0]; exact w) (lv_sub hl [1, 2, 0] rfl)
            · exact absurd (by decide) c_48
          | succ q ihB =>
            intro hq G o hag hT H locs ls w hl
            have hq64 : q < 64 := by omega
            have hl := hs_lv hl (k := 3) rfl (nI_pred q)
            have hl : lv_has ls 6 [(0, .ref mo), (1, .int (nI hd)), (2, .int (nI (2 ^ n - 1))), (3, .int (nI q))] := hl
            refine lv_iload_n hx hb dX12_layWays_47 rfl (lv_at hl 3 rfl) ?_
            refine lv_if_lt (tgt := 205) hx hb dX12_layWays_48 (by decide) (fun c_48 => ?_) (fun c_48 => ?_)
            · exact absurd c_48 (nI_pos (n := q) (by omega))
            · refine lv_aload_n hx hb dX12_layWays_51 rfl (lv_at hl 0 rfl) ?_
              refine mo_get X w hm hin 15 (by decide) (List.mem_of_getElem? (i := 2) rfl) rfl dX12_layWays_52 ?_
              refine lv_iload_n hx hb dX12_layWays_55 rfl (lv_at hl 3 rfl) ?_
              refine lv_iconst (v := 0) hx hb dX12_layWays_56 (by decide) ?_
              refine mo_iast X w hm 15 (by decide) (by decide) q rfl (by show _ < 64; omega) dX12_layWays_57 (fun H locs w => ?_)
              rw [lw_w15] at w
              refine lv_iload_n hx hb dX12_layWays_58 rfl (lv_at hl 3 rfl) ?_
              refine lv_iload_n hx hb dX12_layWays_59 rfl (lv_at hl 1 rfl) ?_
              refine lv_iand hx hb dX12_layWays_60 ?_
              refine lv_iload_n hx hb dX12_layWays_61 rfl (lv_at hl 1 rfl) ?_
              refine lv_icmp_ne (tgt := 199) hx hb dX12_layWays_62 (by decide) (fun c_62 => ?_) (fun c_62 => ?_)
              · refine lv_iinc (v := nI q + (-1)) (lv' := [(3, .int (nI q + (-1))), (0, .ref mo), (1, .int (nI hd)), (2, .int (nI (2 ^ n - 1)))]) hx hb dX12_layWays_199 hl (k := 3) rfl rfl (by decide) rfl (fun ls hl => ?_)
                refine lv_goto (tgt := 47) hx hb dX12_layWays_202 (by decide) ?_
                have eO : (va_up o q 0) = va_up o q (lw_val (M 0) n hd o q) := by
                  unfold lw_val
                  rw [if_neg c_62]
                  (try rw [bx_uu])
                  (try rw [bx_uu])
                  (try rw [va_up_self])
                rw [eO] at w
                have hl := hs_lv hl (k := 0) rfl (hs_m1 (nI q))
                exact ihB (by omega) G _ hag (by rw [lw_fill] at hT; exact hT) H locs ls w (lv_sub hl [1, 2, 3, 0] rfl)
              · refine lv_iconst (v := 0) hx hb dX12_layWays_65 (by decide) ?_
                refine lv_istore (lv' := [(4, .int (0)), (0, .ref mo), (1, .int (nI hd)), (2, .int (nI (2 ^ n - 1))), (3, .int (nI q))]) hx hb dX12_layWays_66 hl (by decide) rfl (fun ls hl => ?_)
                have loopC : ∀ (n0 k : Nat), k ≤ n → n + 1 ≤ k + n0 → ∀ (H : Heap) (locs : List Loc) (ls : Array Slot), hg_W D b0 L (mo_F D f mo ma (lw_M M (lw_off G (nI q) k) (va_up o q 0))) s.heap H locs → lv_has ls 6 [(0, .ref mo), (1, .int (nI hd)), (2, .int (nI (2 ^ n - 1))), (3, .int (nI q)), (4, .int (nI k))] → W p l e ({ frames := 6, cells := 0, slots := 0, locals := 138 }) s m args below meth c H locs 0 0 Q (F0 m 68 ls []) := by
                  intro n0
                  induction n0 with
                  | zero =>
                    intro k h1 h2
                    exact absurd h2 (by omega)
                  | succ n0 ihC =>
                    intro k hk hn0 H locs ls w hl
                    have hkC : hs_ok (lw_M M (lw_off G (nI q) k) (va_up o q 0) 0) n nr := lw_ok_c (lw_ag_off (k := k) hag hk (nI q)) hv
                    refine lv_iload hx hb dX12_layWays_68 (lv_at hl 4 rfl) ?_
                    refine lv_aload_n hx hb dX12_layWays_70 rfl (lv_at hl 0 rfl) ?_
                    refine mo_get X w hm hin 0 (by decide) (List.mem_of_getElem? (i := 1) rfl) rfl dX12_layWays_71 ?_
                    refine lv_iconst (v := 3) hx hb dX12_layWays_74 (by decide) ?_
                    refine mo_ialdv X w hm 0 (by decide) (by decide) 3 rfl (by show _ < 1400; omega) ((lw_off G (nI q) k) 3) rfl dX12_layWays_75 ?_
                    refine lv_icmp_ge (tgt := 101) hx hb dX12_layWays_76 (by decide) (fun c_76 => ?_) (fun c_76 => ?_)
                    · rw [(show lw_off G (nI q) k 3 = nI n from hkC.1)] at c_76
                      have hk : n = k := by
                        rcases Nat.lt_or_ge k n with q | q
                        · exact absurd c_76 (nI_ge (a := k) (b := n) q (by omega))
                        · omega
                      subst hk
                      refine lv_aload_n hx hb dX12_layWays_101 rfl (lv_at hl 0 rfl) ?_
                      refine hg_viF (r := (hs_drop (lw_off G (nI q) n) n n)) (As := []) (rest := []) X w (c_X12_dropping l D b0 L f mo ma (lw_M M (lw_off G (nI q) n) (va_up o q 0)) hm n nr hkC) (cwV 0 hts gX12_layWays_X12_dropping rfl rfl rfl hdX12_dropping ⟨Nat.le_of_ble_eq_true rfl, Nat.le_of_ble_eq_true rfl⟩) hm.1 (mo_at0 D f mo ma _) rfl rfl rfl hl.1 rfl (Nat.le_of_ble_eq_true rfl) dX12_layWays_102 ⟨Nat.zero_le _, Nat.zero_le _⟩ (fun H locs w => ?_)
                      refine lv_if_ne (tgt := 112) hx hb dX12_layWays_105 (by decide) (fun c_105 => ?_) (fun c_105 => ?_)
                      · refine lv_iconst (v := 0) hx hb dX12_layWays_112 (by decide) ?_
                        refine lv_istore (lv' := [(4, .int (0)), (0, .ref mo), (1, .int (nI hd)), (2, .int (nI (2 ^ n - 1))), (3, .int (nI q))]) hx hb dX12_layWays_113 hl (by decide) rfl (fun ls hl => ?_)
                        refine lv_iconst (v := 0) hx hb dX12_layWays_115 (by decide) ?_
                        refine lv_istore (lv' := [(5, .int (0)), (4, .int (0)), (0, .ref mo), (1, .int (nI hd)), (2, .int (nI (2 ^ n - 1))), (3, .int (nI q))]) hx hb dX12_layWays_116 hl (by decide) rfl (fun ls hl => ?_)
                        refine lv_iload hx hb dX12_layWays_118 (lv_at hl 0 rfl) ?_
                        refine lv_aload_n hx hb dX12_layWays_120 rfl (lv_at hl 2 rfl) ?_
                        refine mo_get X w hm hin 0 (by decide) (List.mem_of_getElem? (i := 1) rfl) rfl dX12_layWays_121 ?_
                        refine lv_iconst (v := 3) hx hb dX12_layWays_124 (by decide) ?_
                        refine mo_ialdv X w hm 0 (by decide) (by decide) 3 rfl (by show _ < 1400; omega) ((lw_off G (nI q) n) 3) rfl dX12_layWays_125 ?_
                        refine lv_icmp_ge (tgt := 173) hx hb dX12_layWays_126 (by decide) (fun c_126 => ?_) (fun c_126 => ?_)
                        · refine lv_aload_n hx hb dX12_layWays_173 rfl (lv_at hl 2 rfl) ?_
                          refine mo_get X w hm hin 15 (by decide) (List.mem_of_getElem? (i := 2) rfl) rfl dX12_layWays_174 ?_
                          refine lv_iload_n hx hb dX12_layWays_177 rfl (lv_at hl 5 rfl) ?_
                          refine lv_iload hx hb dX12_layWays_178 (lv_at hl 1 rfl) ?_
                          refine lv_if_eq (tgt := 192) hx hb dX12_layWays_180 (by decide) (fun c_180 => ?_) (fun c_180 => ?_)
                          · refine lv_aload_n hx hb dX12_layWays_192 rfl (lv_at hl 2 rfl) ?_
                            refine mo_get X w hm hin 15 (by decide) (List.mem_of_getElem? (i := 2) rfl) rfl dX12_layWays_193 ?_
                            refine lv_iload_n hx hb dX12_layWays_196 rfl (lv_at hl 5 rfl) ?_
                            refine mo_ialdv X w hm 15 (by decide) (by decide) q rfl (by show _ < 64; omega) ((va_up o q 0) q) rfl dX12_layWays_197 ?_
                            refine mo_iast X w hm 15 (by decide) (by decide) q rfl (by show _ < 64; omega) dX12_layWays_198 (fun H locs w => ?_)
                            rw [lw_w15] at w
                            refine lv_iinc (v := nI q + (-1)) (lv' := [(3, .int (nI q + (-1))), (5, .int (0)), (4, .int (0)), (0, .ref mo), (1, .int (nI hd)), (2, .int (nI (2 ^ n - 1)))]) hx hb dX12_layWays_199 hl (k := 5) rfl rfl (by decide) rfl (fun ls hl => ?_)
                            refine lv_goto (tgt := 47) hx hb dX12_layWays_202 (by decide) ?_
                            have eO : (va_up (va_up o q 0) q ((va_up o q 0) q)) = va_up o q (lw_val (M 0) n hd o q) := by
                              unfold lw_val
                              rw [if_pos c_62, if_neg (by rw [← lw_off_c hag]; exact c_105)]
                              (try rw [bx_uu])
                              (try rw [bx_uu])
                              (try rw [va_up_self])
                            rw [eO] at w
                            have hl := hs_lv hl (k := 0) rfl (hs_m1 (nI q))
                            exact ihB (by omega) (lw_off G (nI q) n) _ (lw_ag_off hag (Nat.le_refl n) _) (by rw [lw_fill] at hT; exact hT) H locs ls w (lv_sub hl [3, 4, 5, 0] rfl)
                          · exact absurd c_180 (by decide)
                        · refine lv_iload hx hb dX12_layWays_129 (lv_at hl 1 rfl) ?_
                          refine lv_if_eq (tgt := 173) hx hb dX12_layWays_131 (by decide) (fun c_131 => ?_) (fun c_131 => ?_)
                          · refine lv_aload_n hx hb dX12_layWays_173 rfl (lv_at hl 2 rfl) ?_
                            refine mo_get X w hm hin 15 (by decide) (List.mem_of_getElem? (i := 2) rfl) rfl dX12_layWays_174 ?_
                            refine lv_iload_n hx hb dX12_layWays_177 rfl (lv_at hl 5 rfl) ?_
                            refine lv_iload hx hb dX12_layWays_178 (lv_at hl 1 rfl) ?_
                            refine lv_if_eq (tgt := 192) hx hb dX12_layWays_180 (by decide) (fun c_180 => ?_) (fun c_180 => ?_)
                            · refine lv_aload_n hx hb dX12_layWays_192 rfl (lv_at hl 2 rfl) ?_
                              refine mo_get X w hm hin 15 (by decide) (List.mem_of_getElem? (i := 2) rfl) rfl dX12_layWays_193 ?_
                              refine lv_iload_n hx hb dX12_layWays_196 rfl (lv_at hl 5 rfl) ?_
                              refine mo_ialdv X w hm 15 (by decide) (by decide) q rfl (by show _ < 64; omega) ((va_up o q 0) q) rfl dX12_layWays_197 ?_
                              refine mo_iast X w hm 15 (by decide) (by decide) q rfl (by show _ < 64; omega) dX12_layWays_198 (fun H locs w => ?_)
                              rw [lw_w15] at w
                              refine lv_iinc (v := nI q + (-1)) (lv' := [(3, .int (nI q + (-1))), (5, .int (0)), (4, .int (0)), (0, .ref mo), (1, .int (nI hd)), (2, .int (nI (2 ^ n - 1)))]) hx hb dX12_layWays_199 hl (k := 5) rfl rfl (by decide) rfl (fun ls hl => ?_)
                              refine lv_goto (tgt := 47) hx hb dX12_layWays_202 (by decide) ?_
                              have eO : (va_up (va_up o q 0) q ((va_up o q 0) q)) = va_up o q (lw_val (M 0) n hd o q) := by
                                unfold lw_val
                                rw [if_pos c_62, if_neg (by rw [← lw_off_c hag]; exact c_105)]
                                (try rw [bx_uu])
                                (try rw [bx_uu])
                                (try rw [va_up_self])
                              rw [eO] at w
                              have hl := hs_lv hl (k := 0) rfl (hs_m1 (nI q))
                              exact ihB (by omega) (lw_off G (nI q) n) _ (lw_ag_off hag (Nat.le_refl n) _) (by rw [lw_fill] at hT; exact hT) H locs ls w (lv_sub hl [3, 4, 5, 0] rfl)
                            · exact absurd c_180 (by decide)
                          · exact absurd c_131 (by decide)
                      · refine lv_iconst (v := 1) hx hb dX12_layWays_108 (by decide) ?_
                        refine lv_goto (tgt := 113) hx hb dX12_layWays_109 (by decide) ?_
                        refine lv_istore (lv' := [(4, .int (1)), (0, .ref mo), (1, .int (nI hd)), (2, .int (nI (2 ^ n - 1))), (3, .int (nI q))]) hx hb dX12_layWays_113 hl (by decide) rfl (fun ls hl => ?_)
                        refine lv_iconst (v := 0) hx hb dX12_layWays_115 (by decide) ?_
                        refine lv_istore (lv' := [(5, .int (0)), (4, .int (1)), (0, .ref mo), (1, .int (nI hd)), (2, .int (nI (2 ^ n - 1))), (3, .int (nI q))]) hx hb dX12_layWays_116 hl (by decide) rfl (fun ls hl => ?_)
                        have loopD : ∀ (n0 k : Nat), k ≤ n → n + 1 ≤ k + n0 → ∀ (H : Heap) (locs : List Loc) (ls : Array Slot), hg_W D b0 L (mo_F D f mo ma (lw_M M (lw_off G (nI q) n) (va_up o q (lw_sum o q k)))) s.heap H locs → lv_has ls 6 [(0, .ref mo), (1, .int (nI hd)), (2, .int (nI (2 ^ n - 1))), (3, .int (nI q)), (4, .int (1)), (5, .int (nI k))] → W p l e ({ frames := 6, cells := 0, slots := 0, locals := 138 }) s m args below meth c H locs 0 0 Q (F0 m 118 ls []) := by
                          intro n0
                          induction n0 with
                          | zero =>
                            intro k h1 h2
                            exact absurd h2 (by omega)
                          | succ n0 ihD =>
                            intro k hk hn0 H locs ls w hl
                            refine lv_iload hx hb dX12_layWays_118 (lv_at hl 5 rfl) ?_
                            refine lv_aload_n hx hb dX12_layWays_120 rfl (lv_at hl 0 rfl) ?_
                            refine mo_get X w hm hin 0 (by decide) (List.mem_of_getElem? (i := 1) rfl) rfl dX12_layWays_121 ?_
                            refine lv_iconst (v := 3) hx hb dX12_layWays_124 (by decide) ?_
                            refine mo_ialdv X w hm 0 (by decide) (by decide) 3 rfl (by show _ < 1400; omega) ((lw_off G (nI q) n) 3) rfl dX12_layWays_125 ?_
                            refine lv_icmp_ge (tgt := 173) hx hb dX12_layWays_126 (by decide) (fun c_126 => ?_) (fun c_126 => ?_)
                            · rw [(show lw_off G (nI q) n 3 = nI n from hkC.1)] at c_126
                              have hk : n = k := by
                                rcases Nat.lt_or_ge k n with q | q
                                · exact absurd c_126 (nI_ge (a := k) (b := n) q (by omega))
                                · omega
                              subst hk
                              refine lv_aload_n hx hb dX12_layWays_173 rfl (lv_at hl 0 rfl) ?_
                              refine mo_get X w hm hin 15 (by decide) (List.mem_of_getElem? (i := 2) rfl) rfl dX12_layWays_174 ?_
                              refine lv_iload_n hx hb dX12_layWays_177 rfl (lv_at hl 3 rfl) ?_
                              refine lv_iload hx hb dX12_layWays_178 (lv_at hl 4 rfl) ?_
                              refine lv_if_eq (tgt := 192) hx hb dX12_layWays_180 (by decide) (fun c_180 => ?_) (fun c_180 => ?_)
                              · exact absurd c_180 (by decide)
                              · refine lv_iload_n hx hb dX12_layWays_183 rfl (lv_at hl 3 rfl) ?_
                                refine lv_iload_n hx hb dX12_layWays_184 rfl (lv_at hl 2 rfl) ?_
                                refine lv_icmp_ne (tgt := 192) hx hb dX12_layWays_185 (by decide) (fun c_185 => ?_) (fun c_185 => ?_)
                                · refine lv_aload_n hx hb dX12_layWays_192 rfl (lv_at hl 0 rfl) ?_
                                  refine mo_get X w hm hin 15 (by decide) (List.mem_of_getElem? (i := 2) rfl) rfl dX12_layWays_193 ?_
                                  refine lv_iload_n hx hb dX12_layWays_196 rfl (lv_at hl 3 rfl) ?_
                                  refine mo_ialdv X w hm 15 (by decide) (by decide) q rfl (by show _ < 64; omega) ((va_up o q (lw_sum o q n)) q) rfl dX12_layWays_197 ?_
                                  refine mo_iast X w hm 15 (by decide) (by decide) q rfl (by show _ < 64; omega) dX12_layWays_198 (fun H locs w => ?_)
                                  rw [lw_w15] at w
                                  refine lv_iinc (v := nI q + (-1)) (lv' := [(3, .int (nI q + (-1))), (0, .ref mo), (1, .int (nI hd)), (2, .int (nI (2 ^ n - 1))), (4, .int (1)), (5, .int (nI n))]) hx hb dX12_layWays_199 hl (k := 3) rfl rfl (by decide) rfl (fun ls hl => ?_)
                                  refine lv_goto (tgt := 47) hx hb dX12_layWays_202 (by decide) ?_
                                  have eO : (va_up (va_up o q (lw_sum o q n)) q ((va_up o q (lw_sum o q n)) q)) = va_up o q (lw_val (M 0) n hd o q) := by
                                    unfold lw_val
                                    rw [if_pos c_62, if_pos (by rw [← lw_off_c hag]; exact c_105), if_neg (fun z => c_185 (by rw [z]))]
                                    (try rw [bx_uu])
                                    (try rw [bx_uu])
                                    (try rw [va_up_self])
                                  rw [eO] at w
                                  have hl := hs_lv hl (k := 0) rfl (hs_m1 (nI q))
                                  exact ihB (by omega) (lw_off G (nI q) n) _ (lw_ag_off hag (Nat.le_refl n) _) (by rw [lw_fill] at hT; exact hT) H locs ls w (lv_sub hl [1, 2, 3, 0] rfl)
                                · refine lv_iconst (v := 1) hx hb dX12_layWays_188 (by decide) ?_
                                  refine lv_goto (tgt := 198) hx hb dX12_layWays_189 (by decide) ?_
                                  refine mo_iast X w hm 15 (by decide) (by decide) q rfl (by show _ < 64; omega) dX12_layWays_198 (fun H locs w => ?_)
                                  rw [lw_w15] at w
                                  refine lv_iinc (v := nI q + (-1)) (lv' := [(3, .int (nI q + (-1))), (0, .ref mo), (1, .int (nI hd)), (2, .int (nI (2 ^ n - 1))), (4, .int (1)), (5, .int (nI n))]) hx hb dX12_layWays_199 hl (k := 3) rfl rfl (by decide) rfl (fun ls hl => ?_)
                                  refine lv_goto (tgt := 47) hx hb dX12_layWays_202 (by decide) ?_
                                  have eO : (va_up (va_up o q (lw_sum o q n)) q 1) = va_up o q (lw_val (M 0) n hd o q) := by
                                    unfold lw_val
                                    rw [if_pos c_62, if_pos (by rw [← lw_off_c hag]; exact c_105), if_pos ((nI_eq (by omega) (by omega)).mp c_185)]
                                    (try rw [bx_uu])
                                    (try rw [bx_uu])
                                    (try rw [va_up_self])
                                  rw [eO] at w
                                  have hl := hs_lv hl (k := 0) rfl (hs_m1 (nI q))
                                  exact ihB (by omega) (lw_off G (nI q) n) _ (lw_ag_off hag (Nat.le_refl n) _) (by rw [lw_fill] at hT; exact hT) H locs ls w (lv_sub hl [1, 2, 3, 0] rfl)
                            · rw [(show lw_off G (nI q) n 3 = nI n from hkC.1)] at c_126
                              have hkl : k < n := by
                                rcases Nat.lt_or_ge k n with q | q
                                · exact q
                                · exact absurd (nI_le (a := n) (b := k) q (by omega)) c_126
                              refine lv_iload hx hb dX12_layWays_129 (lv_at hl 4 rfl) ?_
                              refine lv_if_eq (tgt := 173) hx hb dX12_layWays_131 (by decide) (fun c_131 => ?_) (fun c_131 => ?_)
                              · exact absurd c_131 (by decide)
                              · refine lv_aload_n hx hb dX12_layWays_134 rfl (lv_at hl 0 rfl) ?_
                                refine mo_get X w hm hin 15 (by decide) (List.mem_of_getElem? (i := 2) rfl) rfl dX12_layWays_135 ?_
                                refine lv_iload_n hx hb dX12_layWays_138 rfl (lv_at hl 3 rfl) ?_
                                refine lv_dup2_11 hx hb dX12_layWays_139 rfl rfl ?_
                                refine mo_ialdv X w hm 15 (by decide) (by decide) q rfl (by show _ < 64; omega) ((va_up o q (lw_sum o q k)) q) rfl dX12_layWays_140 ?_
                                refine lv_iload_n hx hb dX12_layWays_141 rfl (lv_at hl 3 rfl) ?_
                                refine lv_iload hx hb dX12_layWays_142 (lv_at hl 5 rfl) ?_
                                refine hg_siF (r := hs_has (nI q) (nI k)) (As := [.int (nI q), .int (nI k)]) (rest := [.int ((va_up o q (lw_sum o q k)) q), .int (nI q), .ref (ma 15)]) X w (c_X12_has l D b0 L _ (nI q) (nI k)) (va_cwS 2 hts gX12_layWays_X12_has rfl rfl rfl hdX12_has ⟨Nat.le_of_ble_eq_true rfl, Nat.le_of_ble_eq_true rfl⟩) rfl hl.1 rfl (Nat.le_of_ble_eq_true rfl) dX12_layWays_144 ⟨Nat.zero_le _, Nat.zero_le _⟩ (fun H locs w => ?_)
                                refine lv_if_eq (tgt := 154) hx hb dX12_layWays_147 (by decide) (fun c_147 => ?_) (fun c_147 => ?_)
                                · refine lv_aload_n hx hb dX12_layWays_154 rfl (lv_at hl 0 rfl) ?_
                                  refine mo_get X w hm hin 15 (by decide) (List.mem_of_getElem? (i := 2) rfl) rfl dX12_layWays_155 ?_
                                  refine lv_iload_n hx hb dX12_layWays_158 rfl (lv_at hl 3 rfl) ?_
                                  refine lv_iconst (v := 1) hx hb dX12_layWays_159 (by decide) ?_
                                  refine lv_iload hx hb dX12_layWays_160 (lv_at hl 5 rfl) ?_
                                  refine lv_ishl hx hb dX12_layWays_162 ?_
                                  refine lv_ior hx hb dX12_layWays_163 ?_
                                  refine mo_ialdv X w hm 15 (by decide) (by decide) ((q ||| 2 ^ k)) (lw_or q hq64 k (by omega)).1 (by show _ < 64; exact (lw_or q hq64 k (by omega)).2.1) ((va_up o q (lw_sum o q k)) ((q ||| 2 ^ k))) rfl dX12_layWays_164 ?_
                                  refine lv_iadd hx hb dX12_layWays_165 ?_
                                  refine mo_iast X w hm 15 (by decide) (by decide) q rfl (by show _ < 64; omega) dX12_layWays_166 (fun H locs w => ?_)
                                  rw [lw_w15] at w
                                  refine lv_iinc (v := nI k + 1) (lv' := [(5, .int (nI k + 1)), (0, .ref mo), (1, .int (nI hd)), (2, .int (nI (2 ^ n - 1))), (3, .int (nI q)), (4, .int (1))]) hx hb dX12_layWays_167 hl (k := 5) rfl rfl (by decide) rfl (fun ls hl => ?_)
                                  refine lv_goto (tgt := 118) hx hb dX12_layWays_170 (by decide) ?_
                                  have hbk : q.testBit k = false := by
                                    have := lw_hasN q hq64 k (by omega)
                                    rw [c_147] at this
                                    cases hb : q.testBit k with
                                    | false => rfl
                                    | true => rw [hb, if_pos rfl] at this; exact absurd this (by decide)
                                  have hne : q ||| 2 ^ k ≠ q := by have := (lw_or q hq64 k (by omega)).2.2.2 hbk; omega
                                  have eS : va_up (va_up o q (lw_sum o q k)) q ((va_up o q (lw_sum o q k)) q + (va_up o q (lw_sum o q k)) (q ||| 2 ^ k)) = va_up o q (lw_sum o q (k + 1)) := by
                                    rw [va_up_self, va_up_ne _ _ hne, bx_uu, lw_sum, if_neg (by rw [hbk]; decide)]
                                  rw [eS] at w
                                  have hl := hs_lv hl (k := 0) rfl (nI_1 k)
                                  exact ihD (k + 1) (by omega) (by omega) H locs ls w (lv_sub hl [1, 2, 3, 4, 5, 0] rfl)
                                · refine lv_iconst (v := 0) hx hb dX12_layWays_150 (by decide) ?_
                                  refine lv_goto (tgt := 165) hx hb dX12_layWays_151 (by decide) ?_
                                  refine lv_iadd hx hb dX12_layWays_165 ?_
                                  refine mo_iast X w hm 15 (by decide) (by decide) q rfl (by show _ < 64; omega) dX12_layWays_166 (fun H locs w => ?_)
                                  rw [lw_w15] at w
                                  refine lv_iinc (v := nI k + 1) (lv' := [(5, .int (nI k + 1)), (0, .ref mo), (1, .int (nI hd)), (2, .int (nI (2 ^ n - 1))), (3, .int (nI q)), (4, .int (1))]) hx hb dX12_layWays_167 hl (k := 5) rfl rfl (by decide) rfl (fun ls hl => ?_)
                                  refine lv_goto (tgt := 118) hx hb dX12_layWays_170 (by decide) ?_
                                  have hbk : q.testBit k = true := by
                                    have := lw_hasN q hq64 k (by omega)
                                    cases hb : q.testBit k with
                                    | true => rfl
                                    | false => rw [hb, if_neg (by decide)] at this; exact absurd this c_147
                                  have eS : va_up (va_up o q (lw_sum o q k)) q ((va_up o q (lw_sum o q k)) q + 0) = va_up o q (lw_sum o q (k + 1)) := by
                                    rw [va_up_self, bx_uu, lw_sum, if_pos hbk]
                                  rw [eS] at w
                                  have hl := hs_lv hl (k := 0) rfl (nI_1 k)
                                  exact ihD (k + 1) (by omega) (by omega) H locs ls w (lv_sub hl [1, 2, 3, 4, 5, 0] rfl)
                        exact loopD (n + 1) 0 (by omega) (by omega) H locs ls w (lv_sub hl [2, 3, 4, 5, 1, 0] rfl)
                    · rw [(show lw_off G (nI q) k 3 = nI n from hkC.1)] at c_76
                      have hkl : k < n := by
                        rcases Nat.lt_or_ge k n with q | q
                        · exact q
                        · exact absurd (nI_le (a := n) (b := k) q (by omega)) c_76
                      refine lv_aload_n hx hb dX12_layWays_79 rfl (lv_at hl 0 rfl) ?_
                      refine mo_get X w hm hin 0 (by decide) (List.mem_of_getElem? (i := 1) rfl) rfl dX12_layWays_80 ?_
                      refine lv_bipush (v := 44) hx hb dX12_layWays_83 (by decide) ?_
                      refine lv_iload hx hb dX12_layWays_85 (lv_at hl 4 rfl) ?_
                      refine lv_iadd hx hb dX12_layWays_87 ?_
                      refine lv_iload_n hx hb dX12_layWays_88 rfl (lv_at hl 3 rfl) ?_
                      refine lv_iload hx hb dX12_layWays_89 (lv_at hl 4 rfl) ?_
                      refine lv_ishr hx hb dX12_layWays_91 ?_
                      refine lv_iconst (v := 1) hx hb dX12_layWays_92 (by decide) ?_
                      refine lv_iand hx hb dX12_layWays_93 ?_
                      refine mo_iast X w hm 0 (by decide) (by decide) (44 + k) (hs_addI rfl rfl) (by show _ < 1400; omega) dX12_layWays_94 (fun H locs w => ?_)
                      rw [lw_w0] at w
                      refine lv_iinc (v := nI k + 1) (lv' := [(4, .int (nI k + 1)), (0, .ref mo), (1, .int (nI hd)), (2, .int (nI (2 ^ n - 1))), (3, .int (nI q))]) hx hb dX12_layWays_95 hl (k := 4) rfl rfl (by decide) rfl (fun ls hl => ?_)
                      refine lv_goto (tgt := 68) hx hb dX12_layWays_98 (by decide) ?_
                      rw [lw_off_s] at w
                      have hl := hs_lv hl (k := 0) rfl (nI_1 k)
                      exact ihC (k + 1) (by omega) (by omega) H locs ls w (lv_sub hl [1, 2, 3, 4, 0] rfl)
                exact loopC (n + 1) 0 (by omega) (by omega) H locs ls (by rw [lw_off_0]; exact w) (lv_sub hl [1, 2, 3, 4, 0] rfl)
        have hall := lw_all n (by omega)
        have hl := hs_lv hl (k := 1) rfl hall
        have hl := hs_lv hl (k := 0) rfl (hall.trans (show nI (2 ^ n - 1) = nI (2 ^ n) - 1 from by rw [show 2 ^ n = (2 ^ n - 1) + 1 by omega, nI_pred, Nat.add_sub_cancel]))
        exact loopB (2 ^ n) (Nat.le_refl _) (M 0) (M 15) (lw_ag_r _ _) rfl H locs ls (by rw [lw_M_r]; exact w) (lv_sub hl [2, 3, 1, 0] rfl)
      · rw [hv.1] at c_11
        have hkl : k < n := by
          rcases Nat.lt_or_ge k n with q | q
          · exact q
          · exact absurd (nI_le (a := n) (b := k) q (by omega)) c_11
        refine lv_iload_n hx hb dX12_layWays_14 rfl (lv_at hl 1 rfl) ?_
        refine lv_aload_n hx hb dX12_layWays_15 rfl (lv_at hl 0 rfl) ?_
        refine mo_get X w hm hin 0 (by decide) (List.mem_of_getElem? (i := 1) rfl) rfl dX12_layWays_16 ?_
        refine lv_bipush (v := 44) hx hb dX12_layWays_19 (by decide) ?_
        refine lv_iload_n hx hb dX12_layWays_21 rfl (lv_at hl 2 rfl) ?_
        refine lv_iadd hx hb dX12_layWays_22 ?_
        refine mo_iald X w hm 0 (by decide) (by decide) (44 + k) (hs_addI rfl rfl) (by show _ < 1400; omega) dX12_layWays_23 ?_
        refine lv_iload_n hx hb dX12_layWays_24 rfl (lv_at hl 2 rfl) ?_
        refine lv_ishl hx hb dX12_layWays_25 ?_
        refine lv_ior hx hb dX12_layWays_26 ?_
        refine lv_istore_n (lv' := [(1, .int ((lw_had (M 0) k ||| (M 0 (44 + k) <<< (nI k &&& 31))))), (0, .ref mo), (2, .int (nI k))]) hx hb dX12_layWays_27 rfl hl (by decide) rfl (fun ls hl => ?_)
        refine lv_iinc (v := nI k + 1) (lv' := [(2, .int (nI k + 1)), (1, .int ((lw_had (M 0) k ||| (M 0 (44 + k) <<< (nI k &&& 31))))), (0, .ref mo)]) hx hb dX12_layWays_28 hl (k := 2) rfl rfl (by decide) rfl (fun ls hl => ?_)
        refine lv_goto (tgt := 4) hx hb dX12_layWays_31 (by decide) ?_
        have hl := hs_lv hl (k := 0) rfl (nI_1 k)
        exact ih (k + 1) (by omega) (by omega) H locs ls w (lv_sub hl [2, 1, 0] rfl)
  exact loopA (n + 1) 0 (by omega) (by omega) H locs ls w (lv_sub hl [2, 1, 0] rfl)
