theorem hdX8_readLaw : yX8_readLaw.cls = RX8 ∧ yX8_readLaw.cls ≠ "java/lang/invoke/MethodHandle" ∧ yX8_readLaw.cls ≠ "java/lang/invoke/VarHandle" ∧ (parseMethodDescriptor yX8_readLaw.desc).map (fun d => d.parameters.length) = some 0 := by decide +kernel
theorem hdX8_readRope : yX8_readRope.cls = RX8 ∧ yX8_readRope.cls ≠ "java/lang/invoke/MethodHandle" ∧ yX8_readRope.cls ≠ "java/lang/invoke/VarHandle" ∧ (parseMethodDescriptor yX8_readRope.desc).map (fun d => d.parameters.length) = some 1 := by decide +kernel
theorem hdX8_readStall : yX8_readStall.cls = RX8 ∧ yX8_readStall.cls ≠ "java/lang/invoke/MethodHandle" ∧ yX8_readStall.cls ≠ "java/lang/invoke/VarHandle" ∧ (parseMethodDescriptor yX8_readStall.desc).map (fun d => d.parameters.length) = some 1 := by decide +kernel
set_option maxRecDepth 100000 in
set_option maxHeartbeats 4000000 in
theorem c_X8_read (l : Launch) (D : va_G) (b0 : Nat) (L : List Nat) (f : Nat → va_E) (oa : Nat → Nat) (C : Nat → Nat → Int32) (mr : Nat) (im : Nat → Option Nat) (mk : Nat) (ad : Nat → Nat) (n : Nat) (g : Nat → Int32) (hm : mk_ok L mk ad n) (hs : mk_sr g n) (ho : ob_ok L oa mk ad n) : hg_Mq l yX8_read wsX8_read ({ frames := 6, cells := 10, slots := 64, locals := 118 }) D b0 L (ob_W D f oa C mr im mk ad n g) [.ref (oa 2)] (fun v u => ∃ mk2 ad2 N, v = (if (cr_all C).1 25 0 = 0 then some mk2 else none) ∧ mk2 ∉ L ∧ (∀ j, j < (cr_all C).2.2.2 + 2 → ad2 j ∉ L) ∧ mk_ok (L ++ N) mk2 ad2 (cr_all C).2.2.2 ∧ u = (L ++ N, mk_F D (ob_W D f oa (cr_all C).1 mr im mk ad n g) mk2 ad2 (cr_all C).2.2.2 (cr_all C).2.1)) 10 64 := by
  refine hg_in_q (cc := cX8_read) (nL := 3) (by decide) rfl (Nat.le_of_ble_eq_true rfl) (fun p e s m args below meth c R Q X hR hend H locs ls w hl => ?_)
  subst hR
  obtain ⟨hx, hb, hml, hown, hts⟩ := id X.1
  have hin : mk_in wsX8_read := ⟨fun w h => List.mem_cons_of_mem _ (List.mem_append_left _ (List.mem_append_left _ (List.mem_append_left _ (List.mem_append_left _ (List.mem_append_right _ h))))), fun w h => List.mem_cons_of_mem _ (List.mem_append_left _ (List.mem_append_left _ (List.mem_append_left _ (List.mem_append_right _ h)))), fun w h => List.mem_cons_of_mem _ (List.mem_append_left _ (List.mem_append_left _ (List.mem_append_right _ h))), fun w h => List.mem_cons_of_mem _ (List.mem_append_left _ (List.mem_append_right _ h)), fun w h => List.mem_cons_of_mem _ (List.mem_append_right _ h)⟩
  have hin3 : ∀ w ∈ wsX30, w ∈ wsX8_read := fun w h => List.mem_cons_of_mem _ (List.mem_append_left _ (List.mem_append_left _ (List.mem_append_left _ (List.mem_append_left _ (List.mem_append_left _ (List.mem_append_right _ h))))))
  have hin8 : ∀ w ∈ wsX80, w ∈ wsX8_read := fun w h => List.mem_cons_of_mem _ (List.mem_append_left _ (List.mem_append_left _ (List.mem_append_left _ (List.mem_append_left _ (List.mem_append_left _ (List.mem_append_left _ (List.mem_append_right _ h)))))))
  have hl : lv_has ls 3 [(0, .ref (oa 2))] := hl
  refine lv_aload_n hx hb dX8_read_0 rfl (lv_at hl 0 rfl) ?_
  refine lv_iconst (v := 0) hx hb dX8_read_1 (by decide) ?_
  refine ob_put X w ho 2 (by decide) (C0 := RX8) (T := TX8) (N := 5) (ci := 6) rfl hin8 tyX8_ok nmX8 rfl 2 (by decide) (List.mem_of_getElem? (i := 1) rfl) rfl rfl rfl (by show _ < 5; decide) 24 0 rfl (ob_o0 _ _ (by decide) 0) dX8_read_2 (fun H locs w => ?_)
  refine lv_aload_n hx hb dX8_read_5 rfl (lv_at hl 0 rfl) ?_
  refine lv_iconst (v := 0) hx hb dX8_read_6 (by decide) ?_
  refine ob_put X w ho 2 (by decide) (C0 := RX8) (T := TX8) (N := 5) (ci := 6) rfl hin8 tyX8_ok nmX8 rfl 3 (by decide) (List.mem_of_getElem? (i := 2) rfl) rfl rfl rfl (by show _ < 5; decide) 25 0 rfl (ob_o0 _ _ (by decide) 0) dX8_read_7 (fun H locs w => ?_)
  refine lv_aload_n hx hb dX8_read_10 rfl (lv_at hl 0 rfl) ?_
  have w : hg_W D b0 L (ob_W D f oa (cr_S0 C) mr im mk ad n g) s.heap H locs := w
  refine hg_vq (As := []) (rest := []) X w (c_X8_readLaw l D b0 L f oa (cr_S0 C) mr im mk ad n g hm hs ho) (cwV 0 hts gX8_read_X8_readLaw rfl rfl rfl hdX8_readLaw ⟨Nat.le_of_ble_eq_true rfl, Nat.le_of_ble_eq_true rfl⟩) (ho.1 2 (by decide)).1 (ow_at ho (k := 2) (by decide)) rfl rfl rfl hl.1 rfl (Nat.le_of_ble_eq_true rfl) dX8_read_11 ⟨(Nat.le_of_ble_eq_true rfl), (Nat.le_of_ble_eq_true rfl)⟩ (fun v0 u0 H locs hp w => ?_)
  obtain ⟨mk2, ad2, N, rfl, hmL, haL, hm2, rfl⟩ := hp
  have hm0 := hm
  have hs0 := hs
  have ho0 := ho
  have w : hg_W D b0 (L ++ N) (ob_W D (mk_F D f mk ad n g) oa (cr_rs (cr_0 C) 0).1 mr im mk2 ad2 0 (cr_rs (cr_0 C) 0).2.1) s.heap H locs := by
    rw [cr_rs_0, cr_0_1, cr_0_2]
    show hg_W D b0 (L ++ N) (mk_F D (ob_F D (mk_F D f mk ad n g) oa (cr_law (cr_S0 C)) mr im) mk2 ad2 0 (mk_g0 (cr_l2 (cr_S0 C)).1 (cr_l4 (cr_S0 C)).1)) s.heap H locs
    rw [ob_mk_comm ho0]
    exact w
  refine (show W p l e _ s m args below meth c H locs _ _ Q (F0 m 14 ls [.ref mk2]) from ?_)
  refine lv_astore_n (lv' := [(1, .ref mk2), (0, .ref (oa 2))]) hx hb dX8_read_14 rfl hl (by decide) rfl (fun ls hl => ?_)
  refine lv_iconst (v := 0) hx hb dX8_read_15 (by decide) ?_
  refine lv_istore_n (lv' := [(2, .int (0)), (1, .ref mk2), (0, .ref (oa 2))]) hx hb dX8_read_16 rfl hl (by decide) rfl (fun ls hl => ?_)
  have n4 : (cr_rs (cr_0 C) 4).2.2.2 = 0 := (cr_rs_n (cr_0 C) 4).trans (cr_0_4 C)
  have fin : ∀ (N : List Nat) (ad2 : Nat → Nat), mk_ok (L ++ N) mk2 ad2 (cr_all C).2.2.2 → (∀ j, j < (cr_all C).2.2.2 + 2 → ad2 j ∉ L) → ∀ (H : Heap) (locs : List Loc) (ls : Array Slot), hg_W D b0 (L ++ N) (ob_W D (mk_F D f mk ad n g) oa (cr_all C).1 mr im mk2 ad2 (cr_all C).2.2.2 (cr_all C).2.1) s.heap H locs → lv_has ls 3 [(0, .ref (oa 2)), (1, .ref mk2)] → W p l e ({ frames := 6, cells := 10, slots := 64, locals := 118 }) s m args below meth c H locs 10 64 Q (F0 m 90 ls []) := by
    have hend2 := hend
    revert hend2
    generalize cr_all C = XX
    intro hend2
    intro N ad2 hm haL H locs ls w hl
    have ho := ob_ok_new (N := N) ho0 hmL haL
    refine lv_aload_n hx hb dX8_read_90 rfl (lv_at hl 0 rfl) ?_
    refine ob_get X w ho 2 (by decide) (C0 := RX8) (T := TX8) (N := 5) (ci := 6) rfl hin8 rfl 3 (by decide) (List.mem_of_getElem? (i := 2) rfl) rfl rfl dX8_read_91 ?_
    refine lv_if_ne (tgt := 101) hx hb dX8_read_94 (by decide) (fun c_94 => ?_) (fun c_94 => ?_)
    · refine lv_null hx hb dX8_read_101 ?_
      have w : hg_W D b0 (L ++ N) (mk_F D (ob_F D (mk_F D f mk ad n g) oa XX.1 mr im) mk2 ad2 XX.2.2.2 XX.2.1) s.heap H locs := w
      rw [ob_mk_comm ho0] at w
      exact hend2 H locs (none) (L ++ N, mk_F D (ob_W D f oa XX.1 mr im mk ad n g) mk2 ad2 XX.2.2.2 XX.2.1) _ ls w ⟨mk2, ad2, N, (if_neg c_94).symm, hmL, haL, hm, rfl⟩ dX8_read_102
    · refine lv_aload_n hx hb dX8_read_97 rfl (lv_at hl 1 rfl) ?_
      refine lv_goto (tgt := 102) hx hb dX8_read_98 (by decide) ?_
      have w : hg_W D b0 (L ++ N) (mk_F D (ob_F D (mk_F D f mk ad n g) oa XX.1 mr im) mk2 ad2 XX.2.2.2 XX.2.1) s.heap H locs := w
      rw [ob_mk_comm ho0] at w
      exact hend2 H locs (some mk2) (L ++ N, mk_F D (ob_W D f oa XX.1 mr im mk ad n g) mk2 ad2 XX.2.2.2 XX.2.1) _ ls w ⟨mk2, ad2, N, (if_pos c_94).symm, hmL, haL, hm, rfl⟩ dX8_read_102
  have loop2 : ∀ (H : Heap) (locs : List Loc) (ls : Array Slot), hg_W D b0 (L ++ N) (ob_W D (mk_F D f mk ad n g) oa (cr_ss (cr_1 C) 0).1 mr im mk2 ad2 (cr_rs (cr_0 C) 4).2.2.2 (cr_ss (cr_1 C) 0).2.1) s.heap H locs → lv_has ls 3 [(0, .ref (oa 2)), (1, .ref mk2)] → W p l e ({ frames := 6, cells := 10, slots := 64, locals := 118 }) s m args below meth c H locs 3 15 Q (F0 m 53 ls []) := by
    have lp : ∀ (n0 k : Nat), k ≤ 7 → 7 + 1 ≤ k + n0 → ∀ (N : List Nat) (ad2 : Nat → Nat), mk_ok (L ++ N) mk2 ad2 (cr_ss (cr_1 C) k).2.2.2 → (∀ j, j < (cr_ss (cr_1 C) k).2.2.2 + 2 → ad2 j ∉ L) → ∀ (H : Heap) (locs : List Loc) (ls : Array Slot), hg_W D b0 (L ++ N) (ob_W D (mk_F D f mk ad n g) oa (cr_ss (cr_1 C) k).1 mr im mk2 ad2 (cr_ss (cr_1 C) k).2.2.2 (cr_ss (cr_1 C) k).2.1) s.heap H locs → lv_has ls 3 [(0, .ref (oa 2)), (1, .ref mk2), (2, .int (nI k))] → W p l e ({ frames := 6, cells := 10, slots := 64, locals := 118 }) s m args below meth c H locs (3 + k) (15 + 7 * k) Q (F0 m 55 ls []) := by
      intro n0
      induction n0 with
      | zero =>
        intro k h1 h2
        exact absurd h2 (by omega)
      | succ n0 ih =>
        intro k hk hn0 N ad2 hm haL H locs ls w hl
        have hJ := cr_I_ss (cr_I_1 C) k
        unfold cr_I at hJ
        have hs := hJ.1
        have ho := ob_ok_new (N := N) ho0 hmL haL
        refine lv_iload_n hx hb dX8_read_55 rfl (lv_at hl 2 rfl) ?_
        refine lv_bipush (v := 6) hx hb dX8_read_56 (by decide) ?_
        refine lv_icmp_gt (tgt := 90) hx hb dX8_read_58 (by decide) (fun c_58 => ?_) (fun c_58 => ?_)
        · have hk : 7 = k := by
            rcases Nat.lt_or_ge k 7 with q | q
            · exact absurd c_58 (nI_nlt (a := 6) (b := k) (by omega) (by omega))
            · omega
          subst hk
          have eE : cr_all C = cr_ss (cr_1 C) 7 := by
            unfold cr_all
            rfl
          refine W.widen (k := 10) (n := 64) (by omega) (by omega) ?_
          exact fin N ad2 (by rw [eE]; exact hm) (by rw [eE]; exact haL) H locs ls (by rw [eE]; exact w) (lv_sub hl [0, 1] rfl)
        · have hkl : k < 7 := by
            rcases Nat.lt_or_ge k 7 with q | q
            · exact q
            · exact absurd (nI_lt (a := 6) (b := k) (by omega) (by omega)) c_58
          refine lv_aload_n hx hb dX8_read_61 rfl (lv_at hl 0 rfl) ?_
          refine ob_get X w ho 2 (by decide) (C0 := RX8) (T := TX8) (N := 5) (ci := 6) rfl hin8 rfl 3 (by decide) (List.mem_of_getElem? (i := 2) rfl) rfl rfl dX8_read_62 ?_
          refine lv_if_ne (tgt := 90) hx hb dX8_read_65 (by decide) (fun c_65 => ?_) (fun c_65 => ?_)
          · have eE : cr_all C = (cr_ss (cr_1 C) k) := by
              unfold cr_all
              have := cr_ss_up (X := cr_1 C) (k := k) (fun z => c_65 z.1) (7 - k)
              rwa [show k + (7 - k) = 7 by omega] at this
            refine W.widen (k := 10) (n := 64) (by omega) (by omega) ?_
            exact fin N ad2 (by rw [eE]; exact hm) (by rw [eE]; exact haL) H locs ls (by rw [eE]; exact w) (lv_sub hl [0, 1] rfl)
          · refine lv_aload_n hx hb dX8_read_68 rfl (lv_at hl 0 rfl) ?_
            refine ob_get X w ho 2 (by decide) (C0 := RX8) (T := TX8) (N := 5) (ci := 6) rfl hin8 rfl 2 (by decide) (List.mem_of_getElem? (i := 1) rfl) rfl rfl dX8_read_69 ?_
            refine lv_aload_n hx hb dX8_read_72 rfl (lv_at hl 0 rfl) ?_
            refine ob_get X w ho 2 (by decide) (C0 := RX8) (T := TX8) (N := 5) (ci := 6) rfl hin8 rfl 1 (by decide) (List.mem_of_getElem? (i := 3) rfl) rfl rfl dX8_read_73 ?_
            refine lv_icmp_ge (tgt := 90) hx hb dX8_read_76 (by decide) (fun c_76 => ?_) (fun c_76 => ?_)
            · have eE : cr_all C = (cr_ss (cr_1 C) k) := by
                unfold cr_all
                have := cr_ss_up (X := cr_1 C) (k := k) (fun z => absurd z.2 (Int32.not_lt.mpr c_76)) (7 - k)
                rwa [show k + (7 - k) = 7 by omega] at this
              refine W.widen (k := 10) (n := 64) (by omega) (by omega) ?_
              exact fin N ad2 (by rw [eE]; exact hm) (by rw [eE]; exact haL) H locs ls (by rw [eE]; exact w) (lv_sub hl [0, 1] rfl)
            · refine lv_aload_n hx hb dX8_read_79 rfl (lv_at hl 0 rfl) ?_
              refine lv_aload_n hx hb dX8_read_80 rfl (lv_at hl 1 rfl) ?_
              refine hg_vv (As := [.ref mk2]) (rest := []) X w (c_X8_readStall l D b0 (L ++ N) (mk_F D f mk ad n g) oa (cr_ss (cr_1 C) k).1 mr im mk2 ad2 (cr_ss (cr_1 C) k).2.2.2 (cr_ss (cr_1 C) k).2.1 hm hs ho) (cwV 1 hts gX8_read_X8_readStall rfl rfl rfl hdX8_readStall ⟨Nat.le_of_ble_eq_true rfl, Nat.le_of_ble_eq_true rfl⟩) (ho.1 2 (by decide)).1 (ow_at ho (k := 2) (by decide)) rfl rfl rfl hl.1 rfl (Nat.le_of_ble_eq_true rfl) dX8_read_81 ⟨by show 3 + k + 1 ≤ 10; omega, by show 15 + 7 * k + 7 ≤ 64; omega⟩ (fun u H locs hp w => ?_)
              have eK := ag_ss_y (X := cr_1 C) (k := k) ⟨c_65, Int32.not_le.mp c_76⟩
              refine (show W p l e _ s m args below meth c H locs (3 + (k + 1)) (15 + 7 * (k + 1)) Q (F0 m 84 ls []) from ?_)
              refine lv_iinc (v := nI k + 1) (lv' := [(2, .int (nI k + 1)), (0, .ref (oa 2)), (1, .ref mk2)]) hx hb dX8_read_84 hl (k := 2) rfl rfl (by decide) rfl (fun ls hl => ?_)
              refine lv_goto (tgt := 55) hx hb dX8_read_87 (by decide) ?_
              have hl := hs_lv hl (k := 0) rfl (nI_1 k)
              rcases hp with ⟨h25, q, hq, rfl⟩ | ⟨h25, rfl⟩
              · have e1 : cr_sg (cr_ss (cr_1 C) k).1 (cr_ss (cr_1 C) k).2.1 (cr_ss (cr_1 C) k).2.2.2 = mk_as (cr_ss (cr_1 C) k).2.1 (cr_ss (cr_1 C) k).2.2.2 (cr_k (cr_ss (cr_1 C) k).1) (cr_c (cr_ss (cr_1 C) k).1 (cr_ss (cr_1 C) k).2.1).1 (cr_e (cr_ss (cr_1 C) k).1 (cr_ss (cr_1 C) k).2.1).1 (cr_h (cr_ss (cr_1 C) k).1 (cr_ss (cr_1 C) k).2.1 (cr_ss (cr_1 C) k).2.2.2).1 := by
                  unfold cr_sg
                  rw [if_pos h25]
                have e2 : cr_sn (cr_ss (cr_1 C) k).1 (cr_ss (cr_1 C) k).2.1 (cr_ss (cr_1 C) k).2.2.2 = (cr_ss (cr_1 C) k).2.2.2 + 1 := by
                  unfold cr_sn
                  rw [if_pos h25]
                exact ih (k + 1) (by omega) (by omega) (N ++ [q]) (va_up ad2 (2 + (cr_ss (cr_1 C) k).2.2.2) q) (by rw [eK, cr_st_4, e2, ← List.append_assoc]; exact mk_ok_grow hm hq) (by
                  rw [eK, cr_st_4, e2]
                  intro j hj
                  by_cases e : j = 2 + (cr_ss (cr_1 C) k).2.2.2
                  · subst e
                    rw [va_up_self]
                    exact fun z => hq (List.mem_append_left _ z)
                  · rw [va_up_ne _ _ e]
                    exact haL j (by omega)) H locs ls (by rw [eK, cr_st_1, cr_st_2, cr_st_4, e1, e2, ← List.append_assoc]; exact w) (lv_sub hl [1, 2, 0] rfl)
              · have e1 : cr_sg (cr_ss (cr_1 C) k).1 (cr_ss (cr_1 C) k).2.1 (cr_ss (cr_1 C) k).2.2.2 = (cr_ss (cr_1 C) k).2.1 := by
                  unfold cr_sg
                  rw [if_neg h25]
                have e2 : cr_sn (cr_ss (cr_1 C) k).1 (cr_ss (cr_1 C) k).2.1 (cr_ss (cr_1 C) k).2.2.2 = (cr_ss (cr_1 C) k).2.2.2 := by
                  unfold cr_sn
                  rw [if_neg h25]
                exact ih (k + 1) (by omega) (by omega) N ad2 (by rw [eK, cr_st_4, e2]; exact hm) (by rw [eK, cr_st_4, e2]; exact haL) H locs ls (by rw [eK, cr_st_1, cr_st_2, cr_st_4, e1, e2]; exact w) (lv_sub hl [1, 2, 0] rfl)
    intro H locs ls w hl
    refine lv_iconst (v := 0) hx hb dX8_read_53 (by decide) ?_
    refine lv_istore_n (lv' := [(2, .int (0)), (0, .ref (oa 2)), (1, .ref mk2)]) hx hb dX8_read_54 rfl hl (by decide) rfl (fun ls hl => ?_)
    exact lp 8 0 (by omega) (by omega) N ad2 (by rw [cr_ss_0, cr_1_e, n4]; exact hm2) (by rw [cr_ss_0, cr_1_e, n4]; exact haL) H locs ls (by rw [cr_ss_0, cr_1_e] at w ⊢; exact w) (lv_sub hl [1, 2, 0] rfl)
  have loop1 : ∀ (n0 k : Nat), k ≤ 4 → 4 + 1 ≤ k + n0 → ∀ (H : Heap) (locs : List Loc) (ls : Array Slot), hg_W D b0 (L ++ N) (ob_W D (mk_F D f mk ad n g) oa (cr_rs (cr_0 C) k).1 mr im mk2 ad2 0 (cr_rs (cr_0 C) k).2.1) s.heap H locs → lv_has ls 3 [(0, .ref (oa 2)), (1, .ref mk2), (2, .int (nI k))] → W p l e ({ frames := 6, cells := 10, slots := 64, locals := 118 }) s m args below meth c H locs 3 15 Q (F0 m 17 ls []) := by
    intro n0
    induction n0 with
    | zero =>
      intro k h1 h2
      exact absurd h2 (by omega)
    | succ n0 ih =>
      intro k hk hn0 H locs ls w hl
      have hJ := cr_I_rs (cr_I_0 C) k
      unfold cr_I at hJ
      have hnn : (cr_rs (cr_0 C) k).2.2.2 = 0 := (cr_rs_n (cr_0 C) k).trans (cr_0_4 C)
      rw [hnn] at hJ
      have hm := hm2
      have hs := hJ.1
      have ho := ob_ok_new (N := N) ho0 hmL haL
      refine lv_iload_n hx hb dX8_read_17 rfl (lv_at hl 2 rfl) ?_
      refine lv_iconst (v := 3) hx hb dX8_read_18 (by decide) ?_
      refine lv_icmp_gt (tgt := 53) hx hb dX8_read_19 (by decide) (fun c_19 => ?_) (fun c_19 => ?_)
      · have hk : 4 = k := by
          rcases Nat.lt_or_ge k 4 with q | q
          · exact absurd c_19 (nI_nlt (a := 3) (b := k) (by omega) (by omega))
          · omega
        subst hk
        exact loop2 H locs ls (by rw [cr_ss_0, cr_1_e, hnn]; exact w) (lv_sub hl [0, 1] rfl)
      · have hkl : k < 4 := by
          rcases Nat.lt_or_ge k 4 with q | q
          · exact q
          · exact absurd (nI_lt (a := 3) (b := k) (by omega) (by omega)) c_19
        refine lv_aload_n hx hb dX8_read_22 rfl (lv_at hl 0 rfl) ?_
        refine ob_get X w ho 2 (by decide) (C0 := RX8) (T := TX8) (N := 5) (ci := 6) rfl hin8 rfl 3 (by decide) (List.mem_of_getElem? (i := 2) rfl) rfl rfl dX8_read_23 ?_
        refine lv_if_ne (tgt := 53) hx hb dX8_read_26 (by decide) (fun c_26 => ?_) (fun c_26 => ?_)
        · have eE : cr_rs (cr_0 C) 4 = (cr_rs (cr_0 C) k) := by have := cr_rs_up (X := cr_0 C) (k := k) (fun z => c_26 z.1) (fun _ => c_26) (4 - k); rwa [show k + (4 - k) = 4 by omega] at this
          exact loop2 H locs ls (by rw [cr_ss_0, cr_1_e, eE, hnn]; exact w) (lv_sub hl [0, 1] rfl)
        · refine lv_iload_n hx hb dX8_read_29 rfl (lv_at hl 2 rfl) ?_
          refine lv_if_eq (tgt := 42) hx hb dX8_read_30 (by decide) (fun c_30 => ?_) (fun c_30 => ?_)
          · refine lv_aload_n hx hb dX8_read_42 rfl (lv_at hl 0 rfl) ?_
            refine lv_aload_n hx hb dX8_read_43 rfl (lv_at hl 1 rfl) ?_
            refine hg_vvF (As := [.ref mk2]) (rest := []) X w (c_X8_readRope l D b0 (L ++ N) (mk_F D f mk ad n g) oa (cr_rs (cr_0 C) k).1 mr im mk2 ad2 0 (cr_rs (cr_0 C) k).2.1 hm hs ho (cr_rs (cr_0 C) k).2.2.1 hJ.2.1 hJ.2.2) (cwV 1 hts gX8_read_X8_readRope rfl rfl rfl hdX8_readRope ⟨Nat.le_of_ble_eq_true rfl, Nat.le_of_ble_eq_true rfl⟩) (ho.1 2 (by decide)).1 (ow_at ho (k := 2) (by decide)) rfl rfl rfl hl.1 rfl (Nat.le_of_ble_eq_true rfl) dX8_read_44 ⟨Nat.le_of_ble_eq_true rfl, Nat.le_of_ble_eq_true rfl⟩ (fun H locs w => ?_)
            refine lv_iinc (v := nI k + 1) (lv' := [(2, .int (nI k + 1)), (0, .ref (oa 2)), (1, .ref mk2)]) hx hb dX8_read_47 hl (k := 2) rfl rfl (by decide) rfl (fun ls hl => ?_)
            refine lv_goto (tgt := 17) hx hb dX8_read_50 (by decide) ?_
            have eK := ag_rs_y (X := cr_0 C) (k := k) ⟨c_26, Or.inl (cr_eq0 (by omega) c_30)⟩
            have hl := hs_lv hl (k := 0) rfl (nI_1 k)
            exact ih (k + 1) (by omega) (by omega) H locs ls (by rw [eK, cr_rp_1, cr_rp_2]; exact w) (lv_sub hl [1, 2, 0] rfl)
          · refine lv_aload_n hx hb dX8_read_33 rfl (lv_at hl 0 rfl) ?_
            refine hg_viF (r := (mk_by ((cr_rs (cr_0 C) k).1) (((cr_rs (cr_0 C) k).1) 24 0))) (As := []) (rest := []) X w (c_X8_next l D b0 (L ++ N) (mk_F D f mk ad n g) oa ((cr_rs (cr_0 C) k).1) mr im mk2 ad2 0 ((cr_rs (cr_0 C) k).2.1) hm hs ho) (cwV 0 hts gX8_read_X8_next rfl rfl rfl hdX8_next ⟨Nat.le_of_ble_eq_true rfl, Nat.le_of_ble_eq_true rfl⟩) (ho.1 2 (by decide)).1 (ow_at ho (k := 2) (by decide)) rfl rfl rfl hl.1 rfl (Nat.le_of_ble_eq_true rfl) dX8_read_34 ⟨Nat.le_of_ble_eq_true rfl, Nat.le_of_ble_eq_true rfl⟩ (fun H locs w => ?_)
            refine lv_bipush (v := 108) hx hb dX8_read_37 (by decide) ?_
            refine lv_icmp_ne (tgt := 53) hx hb dX8_read_39 (by decide) (fun c_39 => ?_) (fun c_39 => ?_)
            · have eE : cr_rs (cr_0 C) 4 = (cr_rs (cr_0 C) k) := by have := cr_rs_up (X := cr_0 C) (k := k) (by rintro ⟨-, z | z⟩; exact c_30 (by rw [z]; rfl); exact c_39 z) (fun z => absurd (by rw [z]; rfl) c_30) (4 - k); rwa [show k + (4 - k) = 4 by omega] at this
              exact loop2 H locs ls (by rw [cr_ss_0, cr_1_e, eE, hnn]; exact w) (lv_sub hl [0, 1] rfl)
            · refine lv_aload_n hx hb dX8_read_42 rfl (lv_at hl 0 rfl) ?_
              refine lv_aload_n hx hb dX8_read_43 rfl (lv_at hl 1 rfl) ?_
              refine hg_vvF (As := [.ref mk2]) (rest := []) X w (c_X8_readRope l D b0 (L ++ N) (mk_F D f mk ad n g) oa (cr_rs (cr_0 C) k).1 mr im mk2 ad2 0 (cr_rs (cr_0 C) k).2.1 hm hs ho (cr_rs (cr_0 C) k).2.2.1 hJ.2.1 hJ.2.2) (cwV 1 hts gX8_read_X8_readRope rfl rfl rfl hdX8_readRope ⟨Nat.le_of_ble_eq_true rfl, Nat.le_of_ble_eq_true rfl⟩) (ho.1 2 (by decide)).1 (ow_at ho (k := 2) (by decide)) rfl rfl rfl hl.1 rfl (Nat.le_of_ble_eq_true rfl) dX8_read_44 ⟨Nat.le_of_ble_eq_true rfl, Nat.le_of_ble_eq_true rfl⟩ (fun H locs w => ?_)
              refine lv_iinc (v := nI k + 1) (lv' := [(2, .int (nI k + 1)), (0, .ref (oa 2)), (1, .ref mk2)]) hx hb dX8_read_47 hl (k := 2) rfl rfl (by decide) rfl (fun ls hl => ?_)
              refine lv_goto (tgt := 17) hx hb dX8_read_50 (by decide) ?_
              have eK := ag_rs_y (X := cr_0 C) (k := k) ⟨c_26, Or.inr c_39⟩
              have hl := hs_lv hl (k := 0) rfl (nI_1 k)
              exact ih (k + 1) (by omega) (by omega) H locs ls (by rw [eK, cr_rp_1, cr_rp_2]; exact w) (lv_sub hl [1, 2, 0] rfl)
  exact loop1 5 0 (by omega) (by omega) H locs ls w (lv_sub hl [2, 1, 0] rfl)
