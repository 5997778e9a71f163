theorem hdX8_readLaw : yX8_readLaw.cls = RX8 ∧ yX8_readLaw.cls ≠ "java/lang/invoke/MethodHandle" ∧ yX8_readLaw.cls ≠ "java/lang/invoke/VarHandle" ∧ (parseMethodDescriptor yX8_readLaw.desc).map (fun d => d.parameters.length) = some 0 := by decide +kernel
theorem hdX8_readRope : yX8_readRope.cls = RX8 ∧ yX8_readRope.cls ≠ "java/lang/invoke/MethodHandle" ∧ yX8_readRope.cls ≠ "java/lang/invoke/VarHandle" ∧ (parseMethodDescriptor yX8_readRope.desc).map (fun d => d.parameters.length) = some 1 := by decide +kernel
theorem hdX8_readStall : yX8_readStall.cls = RX8 ∧ yX8_readStall.cls ≠ "java/lang/invoke/MethodHandle" ∧ yX8_readStall.cls ≠ "java/lang/invoke/VarHandle" ∧ (parseMethodDescriptor yX8_readStall.desc).map (fun d => d.parameters.length) = some 1 := by decide +kernel
set_option maxRecDepth 100000 in
set_option maxHeartbeats 4000000 in
theorem c_X8_read (l : Launch) (D : va_G) (b0 : Nat) (L : List Nat) (f : Nat → va_E) (oa : Nat → Nat) (C : Nat → Nat → Int32) (mr : Nat) (im : Nat → Option Nat) (mk : Nat) (ad : Nat → Nat) (n : Nat) (g : Nat → Int32) (hm : mk_ok L mk ad n) (hs : mk_sr g n) (ho : ob_ok L oa mk ad n) : hg_Mq l yX8_read wsX8_read ({ frames := 6, cells := 10, slots := 64, locals := 118 }) D b0 L (ob_W D f oa C mr im mk ad n g) [.ref (oa 2)] (fun v u => ∃ mk2 ad2 N, v = (if (cr_all C).1 25 0 = 0 then some mk2 else none) ∧ mk2 ∉ L ∧ (∀ j, j < (cr_all C).2.2.2 + 2 → ad2 j ∉ L) ∧ mk_ok (L ++ N) mk2 ad2 (cr_all C).2.2.2 ∧ u = (L ++ N, mk_F D (ob_W D f oa (cr_all C).1 mr im mk ad n g) mk2 ad2 (cr_all C).2.2.2 (cr_all C).2.1)) 10 64 := by
  refine hg_in_q (cc := cX8_read) (nL := 3) (by decide) rfl (Nat.le_of_ble_eq_true rfl) (fun p e s m args below meth c R Q X hR hend H locs ls w hl => ?_)
  subst hR
  obtain ⟨hx, hb, hml, hown, hts⟩ := id X.1
  have hin : mk_in wsX8_read := ⟨fun w h => List.mem_cons_of_mem _ (List.mem_append_left _ (List.mem_append_left _ (List.mem_append_left _ (List.mem_append_left _ (List.mem_append_right _ h))))), fun w h => List.mem_cons_of_mem _ (List.mem_append_left _ (List.mem_append_left _ (List.mem_append_left _ (List.mem_append_right _ h)))), fun w h => List.mem_cons_of_mem _ (List.mem_append_left _ (List.mem_append_left _ (List.mem_append_right _ h))), fun w h => List.mem_cons_of_mem _ (List.mem_append_left _ (List.mem_append_right _ h)), fun w h => List.mem_cons_of_mem _ (List.mem_append_right _ h)⟩
  have hin3 : ∀ w ∈ wsX30, w ∈ wsX8_read := fun w h => List.mem_cons_of_mem _ (List.mem_append_left _ (List.mem_append_left _ (List.mem_append_left _ (List.mem_append_left _ (List.mem_append_left _ (List.mem_append_right _ h))))))
  have hin8 : ∀ w ∈ wsX80, w ∈ wsX8_read := fun w h => List.mem_cons_of_mem _ (List.mem_append_left _ (List.mem_append_left _ (List.mem_append_left _ (List.mem_append_left _ (List.mem_append_left _ (List.mem_append_left _ (List.mem_append_right _ h)))))))
  have hl : lv_has ls 3 [(0, .ref (oa 2))] := hl
  refine lv_aload_n hx hb dX8_read_0 rfl (lv_at hl 0 rfl) ?_
  refine lv_iconst (v := 0) hx hb dX8_read_1 (by decide) ?_
  refine ob_put X w ho 2 (by decide) (C0 := RX8) (T := TX8) (N := 5) (ci := 6) rfl hin8 tyX8_ok nmX8 rfl 2 (by decide) (List.mem_of_getElem? (i := 1) rfl) rfl rfl rfl (by show _ < 5; decide) 24 0 rfl (ob_o0 _ _ (by decide) 0) dX8_read_2 (fun H locs w => ?_)
  refine lv_aload_n hx hb dX8_read_5 rfl (lv_at hl 0 rfl) ?_
  refine lv_iconst (v := 0) hx hb dX8_read_6 (by decide) ?_
  refine ob_put X w ho 2 (by decide) (C0 := RX8) (T := TX8) (N := 5) (ci := 6) rfl hin8 tyX8_ok nmX8 rfl 3 (by decide) (List.mem_of_getElem? (i := 2) rfl) rfl rfl rfl (by show _ < 5; decide) 25 0 rfl (ob_o0 _ _ (by decide) 0) dX8_read_7 (fun H locs w => ?_)
  refine lv_aload_n hx hb dX8_read_10 rfl (lv_at hl 0 rfl) ?_
  have w : hg_W D b0 L (ob_W D f oa (cr_S0 C) mr im mk ad n g) s.heap H locs := w
  refine hg_vq (As := []) (rest := []) X w (c_X8_readLaw l D b0 L f oa (cr_S0 C) mr im mk ad n g hm hs ho) (cwV 0 hts gX8_read_X8_readLaw rfl rfl rfl hdX8_readLaw ⟨Nat.le_of_ble_eq_true rfl, Nat.le_of_ble_eq_true rfl⟩) (ho.1 2 (by decide)).1 (ow_at ho (k := 2) (by decide)) rfl rfl rfl hl.1 rfl (Nat.le_of_ble_eq_true rfl) dX8_read_11 ⟨(Nat.le_of_ble_eq_true rfl), (Nat.le_of_ble_eq_true rfl)⟩ (fun v0 u0 H locs hp w => ?_)
  obtain ⟨mk2, ad2, N, rfl, hmL, haL, hm2, rfl⟩ := hp
  have hm0 := hm
  have hs0 := hs
  have ho0 := ho
  have w : hg_W D b0 (L ++ N) (ob_W D (mk_F D f mk ad n g) oa (cr_rs (cr_0 C) 0).1 mr im mk2 ad2 0 (cr_rs (cr_0 C) 0).2.1) s.heap H locs := by
    rw [cr_rs_0, cr_0_1, cr_0_2]
    show hg_W D b0 (L ++ N) (mk_F D (ob_F D (mk_F D f mk ad n g) oa (cr_law (cr_S0 C)) mr im) mk2 ad2 0 (mk_g0 (cr_l2 (cr_S0 C)).1 (cr_l4 (cr_S0 C)).1)) s.heap H locs
    rw [ob_mk_comm ho0]
    exact w
  refine (show W p l e _ s m args below meth c H locs _ _ Q (F0 m 14 ls [.ref mk2]) from ?_)
  refine lv_astore_n (lv' := [(1, .ref mk2), (0, .ref (oa 2))]) hx hb dX8_read_14 rfl hl (by decide) rfl (fun ls hl => ?_)
  refine lv_iconst (v := 0) hx hb dX8_read_15 (by decide) ?_
  refine lv_istore_n (lv' := [(2, .int (0)), (1, .ref mk2), (0, .ref (oa 2))]) hx hb dX8_read_16 rfl hl (by decide) rfl (fun ls hl => ?_)
  have n4 : (cr_rs (cr_0 C) 4).2.2.2 = 0 := (cr_rs_n (cr_0 C) 4).trans (cr_0_4 C)
  have fin : ∀ (N : List Nat) (ad2 : Nat → Nat), mk_ok (L ++ N) mk2 ad2 (cr_all C).2.2.2 → (∀ j, j < (cr_all C).2.2.2 + 2 → ad2 j ∉ L) → ∀ (H : Heap) (locs : List Loc) (ls : Array Slot), hg_W D b0 (L ++ N) (ob_W D (mk_F D f mk ad n g) oa (cr_all C).1 mr im mk2 ad2 (cr_all C).2.2.2 (cr_all C).2.1) s.heap H locs → lv_has ls 3 [(0, .ref (oa 2)), (1, .ref mk2)] → W p l e ({ frames := 6, cells := 10, slots := 64, locals := 118 }) s m args below meth c H locs 10 64 Q (F0 m 90 ls []) := by
    have hend2 := hend
    revert hend2
    generalize cr_all C = XX
    intro hend2
    intro N ad2 hm haL H locs ls w hl
    have ho := ob_ok_new (N := N) ho0 hmL haL
    refine lv_aload_n hx hb dX8_read_90 rfl (lv_at hl 0 rfl) ?_
    refine ob_get X w ho 2 (by decide) (C0 := RX8) (T := TX8) (N := 5) (ci := 6) rfl hin8 rfl 3 (by decide) (List.mem_of_getElem? (i := 2) rfl) rfl rfl dX8_read_91 ?_
    refine lv_if_ne (tgt := 101) hx hb dX8_read_94 (by decide) (fun c_94 => ?_) (fun c_94 => ?_)
    · refine lv_null hx hb dX8_read_101 ?_
      have w : hg_W D b0 (L ++ N) (mk_F D (ob_F D (mk_F D f mk ad n g) oa XX.1 mr im) mk2 ad2 XX.2.2.2 XX.2.1) s.heap H locs := w
      rw [ob_mk_comm ho0] at w
      exact hend2 H locs (none) (L ++ N, mk_F D (ob_W D f oa XX.1 mr im mk ad n g) mk2 ad2 XX.2.2.2 XX.2.1) _ ls w ⟨mk2, ad2, N, (if_neg c_94).symm, hmL, haL, hm, rfl⟩ dX8_read_102
    · refine lv_aload_n hx hb dX8_read_97 rfl (lv_at hl 1 rfl) ?_
      refine lv_goto (tgt := 102) hx hb dX8_read_98 (by decide) ?_
      have w : hg_W D b0 (L ++ N) (mk_F D (ob_F D (mk_F D f mk ad n g) oa XX.1 mr im) mk2 ad2 XX.2.2.2 XX.2.1) s.heap H locs := w
      rw [ob_mk_comm ho0] at w
      exact hend2 H locs (some mk2) (L ++ N, mk_F D (ob_W D f oa XX.1 mr im mk ad n g) mk2 ad2 XX.2.2.2 XX.2.1) _ ls w ⟨mk2, ad2, N, (if_pos c_94).symm, hmL, haL, hm, rfl⟩ dX8_read_102
  have loop2 : ∀ (H : Heap) (locs : List Loc) (ls : Array Slot), hg_W D b0 (L ++ N) (ob_W D (mk_F D f mk ad n g) oa (cr_ss (cr_1 C) 0).1 mr im mk2 ad2 (cr_rs (cr_0 C) 4).2.2.2 (cr_ss (cr_1 C) 0).2.1) s.heap H locs → lv_has ls 3 [(0, .ref (oa 2)), (1, .ref mk2)] → W p l e ({ frames := 6, cells := 10, slots := 64, locals := 118 }) s m args below meth c H locs 3 15 Q (F0 m 53 ls []) := by
    have lp : ∀ (n0 k : Nat), k ≤ 7 → 7 + 1 ≤ k + n0 → ∀ (N : List Nat) (ad2 : Nat → Nat), mk_ok (L ++ N) mk2 ad2 (cr_ss (cr_1 C) k).2.2.2 → (∀ j, j < (cr_ss (cr_1 C) k).2.2.2 + 2 → ad2 j ∉ L) → ∀ (H : Heap) (locs : List Loc) (ls : Array Slot), hg_W D b0 (L ++ N) (ob_W D (mk_F D f mk ad n g) oa (cr_ss (cr_1 C) k).1 mr im mk2 ad2 (cr_ss (cr_1 C) k).2.2.2 (cr_ss (cr_1 C) k).2.1) s.heap H locs → lv_has ls 3 [(0, .ref (oa 2)), (1, .ref mk2), (2, .int (nI k))] → W p l e ({ frames := 6, cells := 10, slots := 64, locals := 118 }) s m args below meth c H locs (3 + k) (15 + 7 * k) Q (F0 m 55 ls []) := by
      intro n0
      induction n0 with
      | zero =>
        intro k h1 h2
        exact absurd h2 (by omega)
      | succ n0 ih =>
        intro k hk hn0 N ad2 hm haL H locs ls w hl
        have hJ := cr_I_ss (cr_I_1 C) k
        unfold cr_I at hJ
        have hs := hJ.1
        have ho := ob_ok_new (N := N) ho0 hmL haL
        refine lv_iload_n hx hb dX8_read_55 rfl (lv_at hl 2 rfl) ?_
        refine lv_bipush (v := 6) hx hb dX8_read_56 (by decide) ?_
        refine lv_icmp_gt (tgt := 90) hx hb dX8_read_58 (by decide) (fun c_58 => ?_) (fun c_58 => ?_)
        · have hk : 7 = k := by
            rcases Nat.lt_or_ge k 7 with q | q
            · exact absurd c_58 (nI_nlt (a := 6) (b := k) (by omega) (by omega))
            · omega
          subst hk
          have eE : cr_all C = cr_ss (cr_1 C) 7 := by
            unfold cr_all
            rfl
          refine W.widen (k := 10) (n := 64) (by omega) (by omega) ?_
          exact fin N ad2 (by rw [eE]; exact hm) (by rw [eE]; exact haL) H locs ls (by rw [eE]; exact w) (lv_sub hl [0, 1] rfl)
        · have hkl : k < 7 := by
            rcases Nat.lt_or_ge k 7 with q | q
            · exact q
            · exact absurd (nI_lt (a := 6) (b := k) (by omega) (by omega)) c_58
          refine lv_aload_n hx hb dX8_read_61 rfl (lv_at hl 0 rfl) ?_
          refine ob_get X w ho 2 (by decide) (C0 := RX8) (T := TX8) (N := 5) (ci := 6) rfl hin8 rfl 3 (by decide) (List.mem_of_getElem? (i := 2) rfl) rfl rfl dX8_read_62 ?_
          refine lv_if_ne (tgt := 90) hx hb dX8_read_65 (by decide) (fun c_65 => ?_) (fun c_65 => ?_)
          · have eE : cr_all C = (cr_ss (cr_1 C) k) := by
              unfold cr_all
              have := cr_ss_up (X := cr_1 C) (k := k) (fun z => c_65 z.1) (7 - k)
              rwa [show k + (7 - k) = 7 by omega] at this
            refine W.widen (k := 10) (n := 64) (by omega) (by omega) ?_
            exact fin N ad2 (by rw [eE]; exact hm) (by rw [eE]; exact haL) H locs ls (by rw [eE]; exact w) (lv_sub hl [0, 1] rfl)
          · refine lv_aload_n hx hb dX8_read_68 rfl (lv_at hl 0 rfl) ?_
            refine ob_get X w ho 2 (by decide) (C0 := RX8) (T := TX8) (N := 5) (ci := 6) rfl hin8 rfl 2 (by decide) (List.mem_of_getElem? (i := 1) rfl) rfl rfl dX8_read_69 ?_
            refine lv_aload_n hx hb dX8_read_72 rfl (lv_at hl 0 rfl) ?_
            refine ob_get X w ho 2 (by decide) (C0 := RX8) (T := TX8) (N := 5) (ci := 6) rfl hin8 rfl 1 (by decide) (List.mem_of_getElem? (i := 3) rfl) rfl rfl dX8_read_73 ?_
            refine lv_icmp_ge (tgt := 90) hx hb dX8_read_76 (by decide) (fun c_76 => ?_) (fun c_76 => ?_)
            · have eE : cr_all C = (cr_ss (cr_1 C) k) := by
                unfold cr_all
                have := cr_ss_up (X := cr_1 C) (k := k) (fun z => absurd z.2 (Int32.not_lt.mpr c_76)) (7 - k)
                rwa [show k + (7 - k) = 7 by omega] at this
              refine W.widen (k := 10) (n := 64) (by omega) (by omega) ?_
              exact fin N ad2 (by rw [eE]; exact hm) (by rw [eE]; exact haL) H locs ls (by rw [eE]; exact w) (lv_sub hl [0, 1] rfl)
            · refine lv_aload_n hx hb dX8_read_79 rfl (lv_at hl 0 rfl) ?_
              refine lv_aload_n hx hb dX8_read_80 rfl (lv_at hl 1 rfl) ?_
              refine hg_vv (As := [.ref mk2]) (rest := []) X w (c_X8_readStall l D b0 (L ++ N) (mk_F D f mk ad n g) oa (cr_ss (cr_1 C) k).1 mr im mk2 ad2 (cr_ss (cr_1 C) k).2.2.2 (cr_ss (cr_1 C) k).2.1 hm hs ho) (cwV 1 hts gX8_read_X8_readStall rfl rfl rfl hdX8_readStall ⟨Nat.le_of_ble_eq_true rfl, Nat.le_of_ble_eq_true rfl⟩) (ho.1 2 (by decide)).1 (ow_at ho (k := 2) (by decide)) rfl rfl rfl hl.1 rfl (Nat.le_of_ble_eq_true rfl) dX8_read_81 ⟨by show 3 + k + 1 ≤ 10; omega, by show 15 + 7 * k + 7 ≤ 64; omega⟩ (fun u H locs hp w => ?_)
              have eK := ag_ss_y (X := cr_1 C) (k := k) ⟨c_65, Int32.not_le.mp c_76⟩
              refine (show W p l e _ s m args below meth c H locs (3 + (k + 1)) (15 + 7 * (k + 1)) Q (F0 m 84 ls []) from ?_)
              refine lv_iinc (v := nI k + 1) (lv' := [(2, .int (nI k + 1)), (0, .ref (oa 2)), (1, .ref mk2)]) hx hb dX8_read_84 hl (k := 2) rfl rfl (by decide) rfl (fun ls hl => ?_)
              refine lv_goto (tgt := 55) hx hb dX8_read_87 (by decide) ?_
              have hl := hs_lv hl (k := 0) rfl (nI_1 k)
              rcases hp with ⟨h25, q, hq, rfl⟩ | ⟨h25, rfl⟩
              · have e1 : cr_sg (cr_ss (cr_1 C) k).1 (cr_ss (cr_1 C) k).2.1 (cr_ss (cr_1 C) k).2.2.2 = mk_as (cr_ss (cr_1 C) k).2.1 (cr_ss (cr_1 C) k).2.2.2 (cr_k (cr_ss (cr_1 C) k).1) (cr_c (cr_ss (cr_1 C) k).1 (cr_ss (cr_1 C) k).2.1).1 (cr_e (cr_ss (cr_1 C) k).1 (cr_ss (cr_1 C) k).2.1).1 (cr_h (cr_ss (cr_1 C) k).1 (cr_ss (cr_1 C) k).2.1 (cr_ss (cr_1 C) k).2.2.2).1 := by
                  unfold cr_sg
                  rw [if_pos h25]
                have e2 : cr_sn (cr_ss (cr_1 C) k).1 (cr_ss (cr_1 C) k).2.1 (cr_ss (cr_1 C) k).2.2.2 = (cr_ss (cr_1 C) k).2.2.2 + 1 := by
                  unfold cr_sn
                  rw [if_pos h25]
                exact ih (k + 1) (by omega) (by omega) (N ++ [q]) (va_up ad2 (2 + (cr_ss (cr_1 C) k).2.2.2) q) (by rw [eK, cr_st_4, e2, ← List.append_assoc]; exact mk_ok_grow hm hq) (by
                  rw [eK, cr_st_4, e2]
                  intro j hj
                  by_cases e : j = 2 + (cr_ss (cr_1 C) k).2.2.2
                  · subst e
                    rw [va_up_self]
                    exact fun z => hq (List.mem_append_left _ z)
                  · rw [va_up_ne _ _ e]
                    exact haL j (by omega)) H locs ls (by rw [eK, cr_st_1, cr_st_2, cr_st_4, e1, e2, ← List.append_assoc]; exact w) (lv_sub hl [1, 2, 0] rfl)
              · have e1 : cr_sg (cr_ss (cr_1 C) k).1 (cr_ss (cr_1 C) k).2.1 (cr_ss (cr_1 C) k).2.2.2 = (cr_ss (cr_1 C) k).2.1 := by
                  unfold cr_sg
                  rw [if_neg h25]
                have e2 : cr_sn (cr_ss (cr_1 C) k).1 (cr_ss (cr_1 C) k).2.1 (cr_ss (cr_1 C) k).2.2.2 = (cr_ss (cr_1 C) k).2.2.2 := by
                  unfold cr_sn
                  rw [if_neg h25]
                exact ih (k + 1) (by omega) (by omega) N ad2 (by rw [eK, cr_st_4, e2]; exact hm) (by rw [eK, cr_st_4, e2]; exact haL) H locs ls (by rw [eK, cr_st_1, cr_st_2, cr_st_4, e1, e2]; exact w) (lv_sub hl [1, 2, 0] rfl)
    intro H locs ls w hl
    refine lv_iconst (v := 0) hx hb dX8_read_53 (by decide) ?_
    refine lv_istore_n (lv' := [(2, .int (0)), (0, .ref (oa 2)), (1, .ref mk2)]) hx hb dX8_read_54 rfl hl (by decide) rfl (fun ls hl => ?_)
    exact lp 8 0 (by omega) (by omega) N ad2 (by rw [cr_ss_0, cr_1_e, n4]; exact hm2) (by rw [cr_ss_0, cr_1_e, n4]; exact haL) H locs ls (by rw [cr_ss_0, cr_1_e] at w ⊢; exact w) (lv_sub hl [1, 2, 0] rfl)
  have loop1 : ∀ (n0 k : Nat), k ≤ 4 → 4 + 1 ≤ k + n0 → ∀ (H : Heap) (locs : List Loc) (ls : Array Slot), hg_W D b0 (L ++ N) (ob_W D (mk_F D f mk ad n g) oa (cr_rs (cr_0 C) k).1 mr im mk2 ad2 0 (cr_rs (cr_0 C) k).2.1) s.heap H locs → lv_has ls 3 [(0, .ref (oa 2)), (1, .ref mk2), (2, .int (nI k))] → W p l e ({ frames := 6, cells := 10, slots := 64, locals := 118 }) s m args below meth c H locs 3 15 Q (F0 m 17 ls []) := by
    intro n0
    induction n0 with
    | zero =>
      intro k h1 h2
      exact absurd h2 (by omega)
    | succ n0 ih =>
      intro k hk hn0 H locs ls w hl
      have hJ := cr_I_rs (cr_I_0 C) k
      unfold cr_I at hJ
      have hnn : (cr_rs (cr_0 C) k).2.2.2 = 0 := (cr_rs_n (cr_0 C) k).trans (cr_0_4 C)
      rw [hnn] at hJ
      have hm := hm2
      have hs := hJ.1
      have ho := ob_ok_new (N := N) ho0 hmL haL
      refine lv_iload_n hx hb dX8_read_17 rfl (lv_at hl 2 rfl) ?_
      refine lv_iconst (v := 3) hx hb dX8_read_18 (by decide) ?_
      refine lv_icmp_gt (tgt := 53) hx hb dX8_read_19 (by decide) (fun c_19 => ?_) (fun c_19 => ?_)
      · have hk : 4 = k := by
          rcases Nat.lt_or_ge k 4 with q | q
          · exact absurd c_19 (nI_nlt (a := 3) (b := k) (by omega) (by omega))
          · omega
        subst hk
        exact loop2 H locs ls (by rw [cr_ss_0, cr_1_e, hnn]; exact w) (lv_sub hl [0, 1] rfl)
      · have hkl : k < 4 := by
          rcases Nat.lt_or_ge k 4 with q | q
          · exact q
          · exact absurd (nI_lt (a := 3) (b := k) (by omega) (by omega)) c_19
        refine lv_aload_n hx hb dX8_read_22 rfl (lv_at hl 0 rfl) ?_
        refine ob_get X w ho 2 (by decide) (C0 := RX8) (T := TX8) (N := 5) (ci := 6) rfl hin8 rfl 3 (by decide) (List.mem_of_getElem? (i := 2) rfl) rfl rfl dX8_read_23 ?_
        refine lv_if_ne (tgt := 53) hx hb dX8_read_26 (by decide) (fun c_26 => ?_) (fun c_26 => ?_)
        · have eE : cr_rs (cr_0 C) 4 = (cr_rs (cr_0 C) k) := by have := cr_rs_up (X := cr_0 C) (k := k) (fun z => c_26 z.1) (fun _ => c_26) (4 - k); rwa [show k + (4 - k) = 4 by omega] at this
          exact loop2 H locs ls (by rw [cr_ss_0, cr_1_e, eE, hnn]; exact w) (lv_sub hl [0, 1] rfl)
        · refine lv_iload_n hx hb dX8_read_29 rfl (lv_at hl 2 rfl) ?_
          refine lv_if_eq (tgt := 42) hx hb dX8_read_30 (by decide) (fun c_30 => ?_) (fun c_30 => ?_)
          · refine lv_aload_n hx hb dX8_read_42 rfl (lv_at hl 0 rfl) ?_
            refine lv_aload_n hx hb dX8_read_43 rfl (lv_at hl 1 rfl) ?_
            refine hg_vvF (As := [.ref mk2]) (rest := []) X w (c_X8_readRope l D b0 (L ++ N) (mk_F D f mk ad n g) oa (cr_rs (cr_0 C) k).1 mr im mk2 ad2 0 (cr_rs (cr_0 C) k).2.1 hm hs ho (cr_rs (cr_0 C) k).2.2.1 hJ.2.1 hJ.2.2) (cwV 1 hts gX8_read_X8_readRope rfl rfl rfl hdX8_readRope ⟨Nat.le_of_ble_eq_true rfl, Nat.le_of_ble_eq_true rfl⟩) (ho.1 2 (by decide)).1 (ow_at ho (k := 2) (by decide)) rfl rfl rfl hl.1 rfl (Nat.le_of_ble_eq_true rfl) dX8_read_44 ⟨Nat.le_of_ble_eq_true rfl, Nat.le_of_ble_eq_true rfl⟩ (fun H locs w => ?_)
            refine lv_iinc (v := nI k + 1) (lv' := [(2, .int (nI k + 1)), (0, .ref (oa 2)), (1, .ref mk2)]) hx hb dX8_read_47 hl (k := 2) rfl rfl (by decide) rfl (fun ls hl => ?_)
            refine lv_goto (tgt := 17) hx hb dX8_read_50 (by decide) ?_
            have eK := ag_rs_y (X := cr_0 C) (k := k) ⟨c_26, Or.inl (cr_eq0 (by omega) c_30)⟩
            have hl := hs_lv hl (k := 0) rfl (nI_1 k)
            exact ih (k + 1) (by omega) (by omega) H locs ls (by rw [eK, cr_rp_1, cr_rp_2]; exact w) (lv_sub hl [1, 2, 0] rfl)
          · refine lv_aload_n hx hb dX8_read_33 rfl (lv_at hl 0 rfl) ?_
            refine hg_viF (r := (mk_by ((cr_rs (cr_0 C) k).1) (((cr_rs (cr_0 C) k).1) 24 0))) (As := []) (rest := []) X w (c_X8_next l D b0 (L ++ N) (mk_F D f mk ad n g) oa ((cr_rs (cr_0 C) k).1) mr im mk2 ad2 0 ((cr_rs (cr_0 C) k).2.1) hm hs ho) (cwV 0 hts gX8_read_X8_next rfl rfl rfl hdX8_next ⟨Nat.le_of_ble_eq_true rfl, Nat.le_of_ble_eq_true rfl⟩) (ho.1 2 (by decide)).1 (ow_at ho (k := 2) (by decide)) rfl rfl rfl hl.1 rfl (Nat.le_of_ble_eq_true rfl) dX8_read_34 ⟨Nat.le_of_ble_eq_true rfl, Nat.le_of_ble_eq_true rfl⟩ (fun H locs w => ?_)
            refine lv_bipush (v := 108) hx hb dX8_read_37 (by decide) ?_
            refine lv_icmp_ne (tgt := 53) hx hb dX8_read_39 (by decide) (fun c_39 => ?_) (fun c_39 => ?_)
            · have eE : cr_rs (cr_0 C) 4 = (cr_rs (cr_0 C) k) := by have := cr_rs_up (X := cr_0 C) (k := k) (by rintro ⟨-, z | z⟩; exact c_30 (by rw [z]; rfl); exact c_39 z) (fun z => absurd (by rw [z]; rfl) c_30) (4 - k); rwa [show k + (4 - k) = 4 by omega] at this
              exact loop2 H locs ls (by rw [cr_ss_0, cr_1_e, eE, hnn]; exact w) (lv_sub hl [0, 1] rfl)
            · refine lv_aload_n hx hb dX8_read_42 rfl (lv_at hl 0 rfl) ?_
              refine lv_aload_n hx hb dX8_read_43 rfl (lv_at hl 1 rfl) ?_
              refine hg_vvF (As := [.ref mk2]) (rest := []) X w (c_X8_readRope l D b0 (L ++ N) (mk_F D f mk ad n g) oa (cr_rs (cr_0 C) k).1 mr im mk2 ad2 0 (cr_rs (cr_0 C) k).2.1 hm hs ho (cr_rs (cr_0 C) k).2.2.1 hJ.2.1 hJ.2.2) (cwV 1 hts gX8_read_X8_readRope rfl rfl rfl hdX8_readRope ⟨Nat.le_of_ble_eq_true rfl, Nat.le_of_ble_eq_true rfl⟩) (ho.1 2 (by decide)).1 (ow_at ho (k := 2) (by decide)) rfl rfl rfl hl.1 rfl (Nat.le_of_ble_eq_true rfl) dX8_read_44 ⟨Nat.le_of_ble_eq_true rfl, Nat.le_of_ble_eq_true rfl⟩ (fun H locs w => ?_)
              refine lv_iinc (v := nI k + 1) (lv' := [(2, .int (nI k + 1)), (0, .ref (oa 2)), (1, .ref mk2)]) hx hb dX8_read_47 hl (k := 2) rfl rfl (by decide) rfl (fun ls hl => ?_)
              refine lv_goto (tgt := 17) hx hb dX8_read_50 (by decide) ?_
              have eK := ag_rs_y (X := cr_0 C) (k := k) ⟨c_26, Or.inr c_39⟩
              have hl := hs_lv hl (k := 0) rfl (nI_1 k)
              exact ih (k + 1) (by omega) (by omega) H locs ls (by rw [eK, cr_rp_1, cr_rp_2]; exact w) (lv_sub hl [1, 2, 0] rfl)
  exact loop1 5 0 (by omega) (by omega) H locs ls w (lv_sub hl [2, 1, 0] rfl)
theorem hdX8_read : yX8_read.cls = RX8 ∧ yX8_read.cls ≠ "java/lang/invoke/MethodHandle" ∧ yX8_read.cls ≠ "java/lang/invoke/VarHandle" ∧ (parseMethodDescriptor yX8_read.desc).map (fun d => d.parameters.length) = some 0 := by decide +kernel
set_option maxRecDepth 100000 in
set_option maxHeartbeats 4000000 in
theorem c_X11_market (l : Launch) (D : va_G) (b0 : Nat) (L : List Nat) (f : Nat → va_E) (oa : Nat → Nat) (C : Nat → Nat → Int32) (im : Nat → Option Nat) (mk : Nat) (ad : Nat → Nat) (n : Nat) (g : Nat → Int32) (hm : mk_ok L mk ad n) (hs : mk_sr g n) (ho : ob_ok L oa mk ad n) : hg_Mi l yX11_market wsX11_market ({ frames := 7, cells := 10, slots := 64, locals := 140 }) D b0 L (ob_W D f oa C mk im mk ad n g) [.ref (oa 0)] (fun r u => ∃ mk2 ad2 N, mk2 ∉ L ∧ (∀ j, j < (cr_all C).2.2.2 + 2 → ad2 j ∉ L) ∧ mk_ok (L ++ N) mk2 ad2 (cr_all C).2.2.2 ∧ (((cr_all C).1 25 0 = 0 ∧ r = (cr_all C).2.1 3 ∧ u = (L ++ N, ob_W D (mk_F D f mk ad n g) oa (mo_w (mo_w (cr_all C).1 9 0 0) 1 0 0) mk2 im mk2 ad2 (cr_all C).2.2.2 (cr_all C).2.1)) ∨ (¬ (cr_all C).1 25 0 = 0 ∧ r = -1000100 - (cr_all C).1 26 0 ∧ u = (L ++ N, ob_W D (mk_F D f mk ad n g) oa (mo_w (mo_w (cr_all C).1 9 0 0) 10 0 ((cr_all C).1 25 0)) mk im mk2 ad2 (cr_all C).2.2.2 (cr_all C).2.1)))) 10 64 := by
  refine hg_in_i (cc := cX11_market) (nL := 2) (by decide) rfl (Nat.le_of_ble_eq_true rfl) (fun p e s m args below meth c R Q X hR hend H locs ls w hl => ?_)
  subst hR
  obtain ⟨hx, hb, hml, hown, hts⟩ := id X.1
  have hin : mk_in wsX11_market := ⟨fun w h => List.mem_cons_of_mem _ (List.mem_append_left _ (List.mem_append_left _ (List.mem_append_left _ (List.mem_append_left _ (List.mem_append_right _ h))))), fun w h => List.mem_cons_of_mem _ (List.mem_append_left _ (List.mem_append_left _ (List.mem_append_left _ (List.mem_append_right _ h)))), fun w h => List.mem_cons_of_mem _ (List.mem_append_left _ (List.mem_append_left _ (List.mem_append_right _ h))), fun w h => List.mem_cons_of_mem _ (List.mem_append_left _ (List.mem_append_right _ h)), fun w h => List.mem_cons_of_mem _ (List.mem_append_right _ h)⟩
  have hin3 : ∀ w ∈ wsX30, w ∈ wsX11_market := fun w h => List.mem_cons_of_mem _ (List.mem_append_left _ (List.mem_append_left _ (List.mem_append_left _ (List.mem_append_left _ (List.mem_append_left _ (List.mem_append_right _ h))))))
  have hin8 : ∀ w ∈ wsX80, w ∈ wsX11_market := fun w h => List.mem_cons_of_mem _ (List.mem_append_left _ (List.mem_append_left _ (List.mem_append_left _ (List.mem_append_left _ (List.mem_append_left _ (List.mem_append_left _ (List.mem_append_right _ h)))))))
  have hin11 : ∀ w ∈ wsX110, w ∈ wsX11_market := fun w h => List.mem_cons_of_mem _ (List.mem_append_left _ (List.mem_append_left _ (List.mem_append_left _ (List.mem_append_left _ (List.mem_append_left _ (List.mem_append_left _ (List.mem_append_left _ (List.mem_append_right _ h))))))))
  have hl : lv_has ls 2 [(0, .ref (oa 0))] := hl
  refine lv_aload_n hx hb dX11_market_0 rfl (lv_at hl 0 rfl) ?_
  refine ob_get X w ho 0 (by decide) (C0 := RX11) (T := TX11) (N := 12) (ci := 9) rfl hin11 rfl 1 (by decide) (List.mem_of_getElem? (i := 1) rfl) rfl rfl dX11_market_1 ?_
  refine hg_vq (As := []) (rest := []) X w (c_X8_read l D b0 L f oa C mk im mk ad n g hm hs ho) (cwV 0 hts gX11_market_X8_read rfl rfl rfl hdX8_read ⟨Nat.le_of_ble_eq_true rfl, Nat.le_of_ble_eq_true rfl⟩) (ho.1 2 (by decide)).1 (ow_at ho (k := 2) (by decide)) rfl rfl rfl hl.1 rfl (Nat.le_of_ble_eq_true rfl) dX11_market_4 ⟨(Nat.le_of_ble_eq_true rfl), (Nat.le_of_ble_eq_true rfl)⟩ (fun v0 u0 H locs hp w => ?_)
  generalize cr_all C = XX at hend hp
  obtain ⟨mk2, ad2, N, rfl, hmL, haL, hm2, rfl⟩ := hp
  have ho0 := ho
  have w : hg_W D b0 (L ++ N) (mk_F D (ob_W D f oa XX.1 mk im mk ad n g) mk2 ad2 XX.2.2.2 XX.2.1) s.heap H locs := w
  have w : hg_W D b0 (L ++ N) (ob_W D (mk_F D f mk ad n g) oa XX.1 mk im mk2 ad2 XX.2.2.2 XX.2.1) s.heap H locs := by
    show hg_W D b0 (L ++ N) (mk_F D (ob_F D (mk_F D f mk ad n g) oa XX.1 mk im) mk2 ad2 XX.2.2.2 XX.2.1) s.heap H locs
    rw [ob_mk_comm ho0]
    exact w
  have hm := hm2
  have ho := ob_ok_new (N := N) ho0 hmL haL
  refine (show W p l e _ s m args below meth c H locs 10 64 Q (F0 m 7 ls [va_rf (if XX.1 25 0 = 0 then some mk2 else none)]) from ?_)
  by_cases h25 : XX.1 25 0 = 0
  · rw [if_pos h25]
    show W p l e _ s m args below meth c H locs 10 64 Q (F0 m 7 ls [.ref mk2])
    refine lv_astore_n (lv' := [(1, .ref mk2), (0, .ref (oa 0))]) hx hb dX11_market_7 rfl hl (by decide) rfl (fun ls hl => ?_)
    refine lv_aload_n hx hb dX11_market_8 rfl (lv_at hl 1 rfl) ?_
    refine ob_get X w ho 0 (by decide) (C0 := RX11) (T := TX11) (N := 12) (ci := 9) rfl hin11 rfl 1 (by decide) (List.mem_of_getElem? (i := 1) rfl) rfl rfl dX11_market_9 ?_
    refine lv_iconst (v := 0) hx hb dX11_market_12 (by decide) ?_
    refine ob_put X w ho 2 (by decide) (C0 := RX8) (T := TX8) (N := 5) (ci := 6) rfl hin8 tyX8_ok nmX8 rfl 1 (by decide) (List.mem_of_getElem? (i := 2) rfl) rfl rfl rfl (by show _ < 5; decide) 9 0 rfl (ob_o0 _ _ (by decide) 0) dX11_market_13 (fun H locs w => ?_)
    refine lv_aload_n hx hb dX11_market_16 rfl (lv_at hl 0 rfl) ?_
    refine lv_ifnonnull (tgt := 42) hx hb dX11_market_17 (by decide) ?_
    refine lv_aload_n hx hb dX11_market_42 rfl (lv_at hl 1 rfl) ?_
    refine lv_aload_n hx hb dX11_market_43 rfl (lv_at hl 0 rfl) ?_
    refine ob_putm X w ho hin11 (List.mem_of_getElem? (i := 7) rfl) dX11_market_44 (fun H locs w => ?_)
    refine lv_aload_n hx hb dX11_market_47 rfl (lv_at hl 1 rfl) ?_
    refine lv_iconst (v := 0) hx hb dX11_market_48 (by decide) ?_
    refine ob_put X w ho 0 (by decide) (C0 := RX11) (T := TX11) (N := 12) (ci := 9) rfl hin11 tyX11_ok nmX11 rfl 8 (by decide) (List.mem_of_getElem? (i := 8) rfl) rfl rfl rfl (by show _ < 12; decide) 1 0 rfl (ob_o0 _ _ (by decide) 0) dX11_market_49 (fun H locs w => ?_)
    refine lv_aload_n hx hb dX11_market_52 rfl (lv_at hl 0 rfl) ?_
    refine mk_getM X w hm hin3 3 (by decide) (List.mem_of_getElem? (i := 9) rfl) rfl dX11_market_53 ?_
    exact hend H locs (XX.2.1 3) (L ++ N, ob_W D (mk_F D f mk ad n g) oa (mo_w (mo_w (XX.1) 9 0 (0)) 1 0 (0)) mk2 im mk2 ad2 XX.2.2.2 XX.2.1) _ ls w ⟨mk2, ad2, N, hmL, haL, hm2, Or.inl ⟨h25, rfl, rfl⟩⟩ rfl dX11_market_56
  · rw [if_neg h25]
    show W p l e _ s m args below meth c H locs 10 64 Q (F0 m 7 ls [.null])
    refine lv_astore_nN (lv' := [(1, .null), (0, .ref (oa 0))]) hx hb dX11_market_7 rfl hl (by decide) rfl (fun ls hl => ?_)
    refine lv_aload_n hx hb dX11_market_8 rfl (lv_at hl 1 rfl) ?_
    refine ob_get X w ho 0 (by decide) (C0 := RX11) (T := TX11) (N := 12) (ci := 9) rfl hin11 rfl 1 (by decide) (List.mem_of_getElem? (i := 1) rfl) rfl rfl dX11_market_9 ?_
    refine lv_iconst (v := 0) hx hb dX11_market_12 (by decide) ?_
    refine ob_put X w ho 2 (by decide) (C0 := RX8) (T := TX8) (N := 5) (ci := 6) rfl hin8 tyX8_ok nmX8 rfl 1 (by decide) (List.mem_of_getElem? (i := 2) rfl) rfl rfl rfl (by show _ < 5; decide) 9 0 rfl (ob_o0 _ _ (by decide) 0) dX11_market_13 (fun H locs w => ?_)
    refine lv_aload_nN hx hb dX11_market_16 rfl (lv_at hl 0 rfl) ?_
    refine lv_ifnonnullN hx hb dX11_market_17 ?_
    refine lv_aload_n hx hb dX11_market_20 rfl (lv_at hl 1 rfl) ?_
    refine lv_aload_n hx hb dX11_market_21 rfl (lv_at hl 1 rfl) ?_
    refine ob_get X w ho 0 (by decide) (C0 := RX11) (T := TX11) (N := 12) (ci := 9) rfl hin11 rfl 1 (by decide) (List.mem_of_getElem? (i := 1) rfl) rfl rfl dX11_market_22 ?_
    refine ob_get X w ho 2 (by decide) (C0 := RX8) (T := TX8) (N := 5) (ci := 6) rfl hin8 rfl 3 (by decide) (List.mem_of_getElem? (i := 3) rfl) rfl rfl dX11_market_25 ?_
    refine ob_put X w ho 0 (by decide) (C0 := RX11) (T := TX11) (N := 12) (ci := 9) rfl hin11 tyX11_ok nmX11 rfl 10 (by decide) (List.mem_of_getElem? (i := 4) rfl) rfl rfl rfl (by show _ < 12; decide) 10 0 rfl (ob_o0 _ _ (by decide) 0) dX11_market_28 (fun H locs w => ?_)
    refine lv_ldc (v := (-1000100)) hx hb hown (hts _ (List.mem_of_getElem? (i := 5) rfl)) dX11_market_31 ?_
    refine lv_aload_n hx hb dX11_market_33 rfl (lv_at hl 1 rfl) ?_
    refine ob_get X w ho 0 (by decide) (C0 := RX11) (T := TX11) (N := 12) (ci := 9) rfl hin11 rfl 1 (by decide) (List.mem_of_getElem? (i := 1) rfl) rfl rfl dX11_market_34 ?_
    refine ob_get X w ho 2 (by decide) (C0 := RX8) (T := TX8) (N := 5) (ci := 6) rfl hin8 rfl 4 (by decide) (List.mem_of_getElem? (i := 6) rfl) rfl rfl dX11_market_37 ?_
    refine lv_isub hx hb dX11_market_40 ?_
    exact hend H locs (((-1000100) - (mo_w (mo_w (XX.1) 9 0 (0)) 10 0 ((mo_w (XX.1) 9 0 (0)) 25 0)) 26 0)) (L ++ N, ob_W D (mk_F D f mk ad n g) oa (mo_w (mo_w (XX.1) 9 0 (0)) 10 0 ((mo_w (XX.1) 9 0 (0)) 25 0)) mk im mk2 ad2 XX.2.2.2 XX.2.1) _ ls w ⟨mk2, ad2, N, hmL, haL, hm2, Or.inr ⟨h25, rfl, rfl⟩⟩ rfl dX11_market_41
theorem hdX11_noImage : yX11_noImage.cls ≠ "java/lang/invoke/MethodHandle" ∧ yX11_noImage.cls ≠ "java/lang/invoke/VarHandle" ∧ (parseMethodDescriptor yX11_noImage.desc).map (fun d => d.parameters.length) = some 1 := by decide +kernel
theorem hdX3_twin : yX3_twin.cls = RX3 ∧ yX3_twin.cls ≠ "java/lang/invoke/MethodHandle" ∧ yX3_twin.cls ≠ "java/lang/invoke/VarHandle" ∧ (parseMethodDescriptor yX3_twin.desc).map (fun d => d.parameters.length) = some 0 := by decide +kernel
set_option maxRecDepth 100000 in
set_option maxHeartbeats 4000000 in
theorem c_X11_image (l : Launch) (D : va_G) (b0 : Nat) (L : List Nat) (f : Nat → va_E) (oa : Nat → Nat) (C : Nat → Nat → Int32) (im : Nat → Option Nat) (mk : Nat) (ad : Nat → Nat) (n : Nat) (g : Nat → Int32) (hm : mk_ok L mk ad n) (hs : mk_sr g n) (ho : ob_ok L oa mk ad n) (k : Int32) : hg_Mi l yX11_image wsX11_image ({ frames := 7, cells := 9, slots := 57, locals := 136 }) D b0 L (ob_W D f oa C mk im mk ad n g) [.ref (oa 0), .int (k)] (fun r u => (hs_in k 0 1 = 0 ∧ r = hs_BAD ∧ u = (L, ob_W D f oa C mk im mk ad n g)) ∨ (¬ hs_in k 0 1 = 0 ∧ g 2 = 0 ∧ r = hs_STATE ∧ u = (L, ob_W D f oa C mk im mk ad n g)) ∨ ∃ j, j < 2 ∧ k = nI j ∧ ¬ g 2 = 0 ∧ r = 1 ∧ ∃ mk2 ad2 N, mk2 ∉ L ∧ (∀ i, i < n + 2 → ad2 i ∉ L) ∧ mk_ok (L ++ N) mk2 ad2 n ∧ u = (L ++ N, ob_W D (mk_F D f mk ad n g) oa C mk (va_up im j (some mk2)) mk2 ad2 n g)) 9 57 := by
  refine hg_in_i (cc := cX11_image) (nL := 2) (by decide) rfl (Nat.le_of_ble_eq_true rfl) (fun p e s m args below meth c R Q X hR hend H locs ls w hl => ?_)
  subst hR
  obtain ⟨hx, hb, hml, hown, hts⟩ := id X.1
  have hin : mk_in wsX11_image := ⟨fun w h => List.mem_cons_of_mem _ (List.mem_append_left _ (List.mem_append_left _ (List.mem_append_left _ (List.mem_append_left _ (List.mem_append_right _ h))))), fun w h => List.mem_cons_of_mem _ (List.mem_append_left _ (List.mem_append_left _ (List.mem_append_left _ (List.mem_append_right _ h)))), fun w h => List.mem_cons_of_mem _ (List.mem_append_left _ (List.mem_append_left _ (List.mem_append_right _ h))), fun w h => List.mem_cons_of_mem _ (List.mem_append_left _ (List.mem_append_right _ h)), fun w h => List.mem_cons_of_mem _ (List.mem_append_right _ h)⟩
  have hin3 : ∀ w ∈ wsX30, w ∈ wsX11_image := fun w h => List.mem_cons_of_mem _ (List.mem_append_left _ (List.mem_append_left _ (List.mem_append_left _ (List.mem_append_left _ (List.mem_append_left _ (List.mem_append_right _ h))))))
  have hin11 : ∀ w ∈ wsX110, w ∈ wsX11_image := fun w h => List.mem_cons_of_mem _ (List.mem_append_left _ (List.mem_append_left _ (List.mem_append_left _ (List.mem_append_left _ (List.mem_append_left _ (List.mem_append_left _ (List.mem_append_right _ h)))))))
  have hl : lv_has ls 2 [(0, .ref (oa 0)), (1, .int (k))] := hl
  refine lv_iload_n hx hb dX11_image_0 rfl (lv_at hl 1 rfl) ?_
  refine hg_siF (r := (if hs_in k 0 1 = 0 then 1 else 0)) (As := [.int (k)]) (rest := []) X w (c_X11_noImage l D b0 L f oa C im mk ad n g hm hs ho k) (va_cwS 1 hts gX11_image_X11_noImage rfl rfl rfl hdX11_noImage ⟨Nat.le_of_ble_eq_true rfl, Nat.le_of_ble_eq_true rfl⟩) rfl hl.1 rfl (Nat.le_of_ble_eq_true rfl) dX11_image_1 ⟨Nat.zero_le _, Nat.zero_le _⟩ (fun H locs w => ?_)
  refine lv_if_eq (tgt := 10) hx hb dX11_image_4 (by decide) (fun c_4 => ?_) (fun c_4 => ?_)
  · have hin01 : ¬ hs_in k 0 1 = 0 := fun z => absurd c_4 (by rw [if_pos z]; decide)
    obtain ⟨j, hjj, rfl⟩ := hs_in_j (n := 1) (b := 1) rfl (by decide) hin01
    have hjj : j < 2 := by omega
    refine lv_aload_n hx hb dX11_image_10 rfl (lv_at hl 0 rfl) ?_
    refine hg_viF (r := (if g 2 = 0 then 1 else 0)) (As := []) (rest := []) X w (c_X11_noMarket l D b0 L f oa C im mk ad n g hm hs ho ) (cwV 0 hts gX11_image_X11_noMarket rfl rfl rfl hdX11_noMarket ⟨Nat.le_of_ble_eq_true rfl, Nat.le_of_ble_eq_true rfl⟩) (ho.1 0 (by decide)).1 (ow_at ho (k := 0) (by decide)) rfl rfl rfl hl.1 rfl (Nat.le_of_ble_eq_true rfl) dX11_image_11 ⟨Nat.zero_le _, Nat.zero_le _⟩ (fun H locs w => ?_)
    refine lv_if_eq (tgt := 20) hx hb dX11_image_14 (by decide) (fun c_14 => ?_) (fun c_14 => ?_)
    · refine lv_aload_n hx hb dX11_image_20 rfl (lv_at hl 0 rfl) ?_
      refine ob_get X w ho 0 (by decide) (C0 := RX11) (T := TX11) (N := 12) (ci := 9) rfl hin11 rfl 3 (by decide) (List.mem_of_getElem? (i := 3) rfl) rfl rfl dX11_image_21 ?_
      refine lv_iload_n hx hb dX11_image_24 rfl (lv_at hl 1 rfl) ?_
      refine lv_aload_n hx hb dX11_image_25 rfl (lv_at hl 0 rfl) ?_
      refine ob_get X w ho 0 (by decide) (C0 := RX11) (T := TX11) (N := 12) (ci := 9) rfl hin11 rfl 9 (by decide) (List.mem_of_getElem? (i := 4) rfl) rfl rfl dX11_image_26 ?_
      refine hg_vq (As := []) (rest := [.int (nI j), .ref (oa 6)]) X w (c_X3_twin l D b0 L (ob_F D f oa C mk im) mk ad n g hm hs) (cwV 0 hts gX11_image_X3_twin rfl rfl rfl hdX3_twin ⟨Nat.le_of_ble_eq_true rfl, Nat.le_of_ble_eq_true rfl⟩) hm.1 (mk_at0 D _ mk ad n g) rfl rfl rfl hl.1 rfl (Nat.le_of_ble_eq_true rfl) dX11_image_29 ⟨(Nat.le_of_ble_eq_true rfl), (Nat.le_of_ble_eq_true rfl)⟩ (fun v0 u0 H locs hp w => ?_)
      obtain ⟨mk2, ad2, N, rfl, hmL, haL, hm2, rfl⟩ := hp
      have ho0 := ho
      have w : hg_W D b0 (L ++ N) (mk_F D (ob_W D f oa C mk im mk ad n g) mk2 ad2 n g) s.heap H locs := w
      have w : hg_W D b0 (L ++ N) (ob_W D (mk_F D f mk ad n g) oa C mk im mk2 ad2 n g) s.heap H locs := by
        show hg_W D b0 (L ++ N) (mk_F D (ob_F D (mk_F D f mk ad n g) oa C mk im) mk2 ad2 n g) s.heap H locs
        rw [ob_mk_comm ho0]
        exact w
      have hm := hm2
      have ho := ob_ok_new (N := N) ho0 hmL haL
      refine (show W p l e _ s m args below meth c H locs 9 57 Q (F0 m 32 ls (.ref mk2 :: [.int (nI j), .ref (oa 6)])) from ?_)
      refine ob_ist X w ho hm j rfl hjj dX11_image_32 (fun H locs w => ?_)
      refine lv_iconst (v := 1) hx hb dX11_image_33 (by decide) ?_
      exact hend H locs (1) (L ++ N, ob_W D (mk_F D f mk ad n g) oa C mk (va_up im j (some mk2)) mk2 ad2 n g) _ ls w (Or.inr (Or.inr ⟨j, hjj, rfl, hs_if0 c_14, rfl, mk2, ad2, N, hmL, haL, hm2, rfl⟩)) rfl dX11_image_34
    · refine lv_ldc (v := (-1000002)) hx hb hown (hts _ (List.mem_of_getElem? (i := 2) rfl)) dX11_image_17 ?_
      refine W.widen (k := 9) (n := 57) (by omega) (by omega) ?_
      exact hend H locs (-1000002) (L, ob_W D f oa C mk im mk ad n g) _ ls w (Or.inr (Or.inl ⟨hin01, hs_if1 c_14, rfl, rfl⟩)) rfl dX11_image_19
  · refine lv_ldc (v := (-1000001)) hx hb hown (hts _ (List.mem_of_getElem? (i := 1) rfl)) dX11_image_7 ?_
    refine W.widen (k := 9) (n := 57) (by omega) (by omega) ?_
    exact hend H locs (-1000001) (L, ob_W D f oa C mk im mk ad n g) _ ls w (Or.inl ⟨hs_if1 c_4, rfl, rfl⟩) rfl dX11_image_9
set_option maxRecDepth 100000 in
set_option maxHeartbeats 4000000 in
theorem c_X11_restore (l : Launch) (D : va_G) (b0 : Nat) (L : List Nat) (f : Nat → va_E) (oa : Nat → Nat) (C : Nat → Nat → Int32) (im : Nat → Option Nat) (mk : Nat) (ad : Nat → Nat) (n : Nat) (g : Nat → Int32) (hm : mk_ok L mk ad n) (hs : mk_sr g n) (ho : ob_ok L oa mk ad n) (ai : Nat → Nat → Nat) (ni : Nat → Nat) (gi : Nat → Nat → Int32) (hB : ∀ j, j < 2 → ∀ bi, im j = some bi → mk_ok L bi (ai j) (ni j) ∧ mk_sr (gi j) (ni j) ∧ mk_H D (ob_W D f oa C mk im mk ad n g) bi (ai j) (ni j) (gi j)) (k : Int32) : hg_Mi l yX11_restore wsX11_restore ({ frames := 7, cells := 9, slots := 57, locals := 136 }) D b0 L (ob_W D f oa C mk im mk ad n g) [.ref (oa 0), .int (k)] (fun r u => (hs_in k 0 1 = 0 ∧ r = hs_BAD ∧ u = (L, ob_W D f oa C mk im mk ad n g)) ∨ (∃ j, j < 2 ∧ k = nI j ∧ im j = none ∧ r = hs_STATE ∧ u = (L, ob_W D f oa C mk im mk ad n g)) ∨ ∃ j, j < 2 ∧ ∃ bi, k = nI j ∧ im j = some bi ∧ r = 1 ∧ ∃ mk2 ad2 N, mk2 ∉ L ∧ (∀ i, i < ni j + 2 → ad2 i ∉ L) ∧ mk_ok (L ++ N) mk2 ad2 (ni j) ∧ u = (L ++ N, ob_W D (mk_F D f mk ad n g) oa (mo_w C 1 0 0) mk2 im mk2 ad2 (ni j) (gi j))) 9 57 := by
  refine hg_in_i (cc := cX11_restore) (nL := 3) (by decide) rfl (Nat.le_of_ble_eq_true rfl) (fun p e s m args below meth c R Q X hR hend H locs ls w hl => ?_)
  subst hR
  obtain ⟨hx, hb, hml, hown, hts⟩ := id X.1
  have hin : mk_in wsX11_restore := ⟨fun w h => List.mem_cons_of_mem _ (List.mem_append_left _ (List.mem_append_left _ (List.mem_append_left _ (List.mem_append_left _ (List.mem_append_right _ h))))), fun w h => List.mem_cons_of_mem _ (List.mem_append_left _ (List.mem_append_left _ (List.mem_append_left _ (List.mem_append_right _ h)))), fun w h => List.mem_cons_of_mem _ (List.mem_append_left _ (List.mem_append_left _ (List.mem_append_right _ h))), fun w h => List.mem_cons_of_mem _ (List.mem_append_left _ (List.mem_append_right _ h)), fun w h => List.mem_cons_of_mem _ (List.mem_append_right _ h)⟩
  have hin3 : ∀ w ∈ wsX30, w ∈ wsX11_restore := fun w h => List.mem_cons_of_mem _ (List.mem_append_left _ (List.mem_append_left _ (List.mem_append_left _ (List.mem_append_left _ (List.mem_append_left _ (List.mem_append_right _ h))))))
  have hin11 : ∀ w ∈ wsX110, w ∈ wsX11_restore := fun w h => List.mem_cons_of_mem _ (List.mem_append_left _ (List.mem_append_left _ (List.mem_append_left _ (List.mem_append_left _ (List.mem_append_left _ (List.mem_append_left _ (List.mem_append_right _ h)))))))
  have hl : lv_has ls 3 [(0, .ref (oa 0)), (1, .int (k))] := hl
  refine lv_iload_n hx hb dX11_restore_0 rfl (lv_at hl 1 rfl) ?_
  refine hg_siF (r := (if hs_in k 0 1 = 0 then 1 else 0)) (As := [.int (k)]) (rest := []) X w (c_X11_noImage l D b0 L f oa C im mk ad n g hm hs ho k) (va_cwS 1 hts gX11_restore_X11_noImage rfl rfl rfl hdX11_noImage ⟨Nat.le_of_ble_eq_true rfl, Nat.le_of_ble_eq_true rfl⟩) rfl hl.1 rfl (Nat.le_of_ble_eq_true rfl) dX11_restore_1 ⟨Nat.zero_le _, Nat.zero_le _⟩ (fun H locs w => ?_)
  refine lv_if_eq (tgt := 10) hx hb dX11_restore_4 (by decide) (fun c_4 => ?_) (fun c_4 => ?_)
  · have hin01 : ¬ hs_in k 0 1 = 0 := fun z => absurd c_4 (by rw [if_pos z]; decide)
    obtain ⟨j, hjj, rfl⟩ := hs_in_j (n := 1) (b := 1) rfl (by decide) hin01
    have hjj : j < 2 := by omega
    refine lv_aload_n hx hb dX11_restore_10 rfl (lv_at hl 0 rfl) ?_
    refine ob_get X w ho 0 (by decide) (C0 := RX11) (T := TX11) (N := 12) (ci := 9) rfl hin11 rfl 3 (by decide) (List.mem_of_getElem? (i := 2) rfl) rfl rfl dX11_restore_11 ?_
    refine lv_iload_n hx hb dX11_restore_14 rfl (lv_at hl 1 rfl) ?_
    refine ob_iald X w ho j rfl hjj dX11_restore_15 (fun him => ?_) (fun bi him => ?_)
    · refine lv_astore_nN (lv' := [(2, .null), (0, .ref (oa 0)), (1, .int (nI j))]) hx hb dX11_restore_16 rfl hl (by decide) rfl (fun ls hl => ?_)
      refine lv_aload_nN hx hb dX11_restore_17 rfl (lv_at hl 0 rfl) ?_
      refine lv_ifnonnullN hx hb dX11_restore_18 ?_
      refine lv_ldc (v := (-1000002)) hx hb hown (hts _ (List.mem_of_getElem? (i := 3) rfl)) dX11_restore_21 ?_
      refine W.widen (k := 9) (n := 57) (by omega) (by omega) ?_
      exact hend H locs (-1000002) (L, ob_W D f oa C mk im mk ad n g) _ ls w (Or.inr (Or.inl ⟨j, hjj, rfl, him, rfl, rfl⟩)) rfl dX11_restore_23
    · refine lv_astore_n (lv' := [(2, .ref bi), (0, .ref (oa 0)), (1, .int (nI j))]) hx hb dX11_restore_16 rfl hl (by decide) rfl (fun ls hl => ?_)
      refine lv_aload_n hx hb dX11_restore_17 rfl (lv_at hl 0 rfl) ?_
      refine lv_ifnonnull (tgt := 24) hx hb dX11_restore_18 (by decide) ?_
      refine lv_aload_n hx hb dX11_restore_24 rfl (lv_at hl 1 rfl) ?_
      refine lv_aload_n hx hb dX11_restore_25 rfl (lv_at hl 0 rfl) ?_
      obtain ⟨hB1, hB2, hB3⟩ := hB j hjj bi him
      have hw0 := mk_at0 D (ob_W D f oa C mk im mk ad n g) bi (ai j) (ni j) (gi j)
      have w : hg_W D b0 L (mk_F D (ob_W D f oa C mk im mk ad n g) bi (ai j) (ni j) (gi j)) s.heap H locs := by
        rw [mk_self hB3]
        exact w
      refine hg_vq (As := []) (rest := [.ref (oa 0)]) X w (c_X3_twin l D b0 L (ob_W D f oa C mk im mk ad n g) bi (ai j) (ni j) (gi j) hB1 hB2) (cwV 0 hts gX11_restore_X3_twin rfl rfl rfl hdX3_twin ⟨Nat.le_of_ble_eq_true rfl, Nat.le_of_ble_eq_true rfl⟩) hB1.1 hw0 rfl rfl rfl hl.1 rfl (Nat.le_of_ble_eq_true rfl) dX11_restore_26 ⟨(Nat.le_of_ble_eq_true rfl), (Nat.le_of_ble_eq_true rfl)⟩ (fun v0 u0 H locs hp w => ?_)
      obtain ⟨mk2, ad2, N, rfl, hmL, haL, hm2, rfl⟩ := hp
      have ho0 := ho
      have w : hg_W D b0 (L ++ N) (mk_F D (mk_F D (ob_W D f oa C mk im mk ad n g) bi (ai j) (ni j) (gi j)) mk2 ad2 (ni j) (gi j)) s.heap H locs := w
      rw [mk_self hB3] at w
      have w : hg_W D b0 (L ++ N) (ob_W D (mk_F D f mk ad n g) oa C mk im mk2 ad2 (ni j) (gi j)) s.heap H locs := by
        show hg_W D b0 (L ++ N) (mk_F D (ob_F D (mk_F D f mk ad n g) oa C mk im) mk2 ad2 (ni j) (gi j)) s.heap H locs
        rw [ob_mk_comm ho0]
        exact w
      have hm := hm2
      have ho := ob_ok_new (N := N) ho0 hmL haL
      refine (show W p l e _ s m args below meth c H locs 9 57 Q (F0 m 29 ls (.ref mk2 :: [.ref (oa 0)])) from ?_)
      refine ob_putm X w ho hin11 (List.mem_of_getElem? (i := 4) rfl) dX11_restore_29 (fun H locs w => ?_)
      refine lv_aload_n hx hb dX11_restore_32 rfl (lv_at hl 1 rfl) ?_
      refine lv_iconst (v := 0) hx hb dX11_restore_33 (by decide) ?_
      refine ob_put X w ho 0 (by decide) (C0 := RX11) (T := TX11) (N := 12) (ci := 9) rfl hin11 tyX11_ok nmX11 rfl 8 (by decide) (List.mem_of_getElem? (i := 5) rfl) rfl rfl rfl (by show _ < 12; decide) 1 0 rfl (ob_o0 _ _ (by decide) 0) dX11_restore_34 (fun H locs w => ?_)
      refine lv_iconst (v := 1) hx hb dX11_restore_37 (by decide) ?_
      exact hend H locs (1) (L ++ N, ob_W D (mk_F D f mk ad n g) oa (mo_w C 1 0 0) mk2 im mk2 ad2 (ni j) (gi j)) _ ls w (Or.inr (Or.inr ⟨j, hjj, bi, rfl, him, rfl, mk2, ad2, N, hmL, haL, hm2, rfl⟩)) rfl dX11_restore_38
  · refine lv_ldc (v := (-1000001)) hx hb hown (hts _ (List.mem_of_getElem? (i := 1) rfl)) dX11_restore_7 ?_
    refine W.widen (k := 9) (n := 57) (by omega) (by omega) ?_
    exact hend H locs (-1000001) (L, ob_W D f oa C mk im mk ad n g) _ ls w (Or.inl ⟨hs_if1 c_4, rfl, rfl⟩) rfl dX11_restore_9
/-! EVERY CALL, both ways, in one form -/
def ag_kp (M M' : Nat → Nat → Int32) : Prop := (∀ k, k ≠ 17 → k ≠ 18 → M' k = M k) ∧ (hs_tr M → hs_tr M')
theorem ag_kp_r (M : Nat → Nat → Int32) : ag_kp M M := ⟨fun _ _ _ => rfl, fun h => h⟩
theorem ag_kp_l {M M' : Nat → Nat → Int32} {b : Int32} (h : ag_kp M M') : ag_kp M (sp_leave M' b) := ⟨fun k a c => (sp_leave_ne M' b a c).trans (h.1 k a c), fun z => hs_tr_l (h.2 z)⟩
theorem ag_kp_0 (M : Nat → Nat → Int32) : ag_kp M (mo_w M 18 0 0) := ⟨fun k _ c => by rw [mo_w, va_up_ne _ _ c], fun _ => hs_tr_0 M⟩
theorem ag_kp_tm {M M' : Nat → Nat → Int32} (h : ag_kp M M') (s : Nat) : ag_kp M (sp_tmark M' s).2 := by
  unfold sp_tmark
  exact ag_kp_l (ag_kp_l h)
theorem ag_kp_mt {M M' : Nat → Nat → Int32} (h : ag_kp M M') (s : Nat) : ag_kp M (sp_markT M' s).2 := by
  unfold sp_markT
  split
  · exact ag_kp_tm (ag_kp_l h) s
  split
  · exact ag_kp_tm (ag_kp_l h) s
  · exact ag_kp_tm h s
theorem ag_kp_ts {M M' : Nat → Nat → Int32} (h : ag_kp M M') (s : Nat) : ag_kp M (sp_tsize M' s).2 := by
  unfold sp_tsize
  exact ag_kp_mt (ag_kp_l (ag_kp_l h)) s
theorem ag_kp_ns {M M' : Nat → Nat → Int32} (h : ag_kp M M') (s : Nat) : ag_kp M (sp_nsize M' s).2 := by
  unfold sp_nsize
  exact ag_kp_l (ag_kp_l h)
theorem ag_kp_sz {M M' : Nat → Nat → Int32} (h : ag_kp M M') (s : Nat) : ag_kp M (sp_size M' s).2 := by
  unfold sp_size
  split
  · exact ag_kp_ts (ag_kp_l h) s
  split
  · exact ag_kp_ns h s
  split
  · exact ag_kp_ns (ag_kp_l h) s
  · exact ag_kp_ts h s
theorem ag_kp_mk {M M' : Nat → Nat → Int32} (h : ag_kp M M') (s : Nat) : ag_kp M (sp_mark M' s).2 := by
  unfold sp_mark
  split
  · exact ag_kp_mt h s
  · exact ag_kp_sz (ag_kp_l (ag_kp_l h)) s
theorem ag_kp_ask (M : Nat → Nat → Int32) (one what : Int32) : ag_kp M (sp_ask M one what).2 := by
  unfold sp_ask
  split
  · exact ag_kp_r M
  split
  · exact ag_kp_sz (ag_kp_0 M) _
  · exact ag_kp_mk (ag_kp_0 M) _
theorem ag_kp_mc {M M' : Nat → Nat → Int32} (h : ag_kp M M') (k : Int32) : ag_kp M (ms_mc M' k) := by
  unfold ms_mc
  refine ag_kp_l (ag_kp_l ?_)
  split
  · exact ag_kp_l h
  split
  · exact ag_kp_l h
  · exact h
theorem ag_kp_nc {M M' : Nat → Nat → Int32} (h : ag_kp M M') (k : Int32) : ag_kp M (ms_nc M' k) := by
  unfold ms_nc
  refine ag_kp_l (ag_kp_l ?_)
  split
  · exact ag_kp_l h
  · exact h
theorem ag_kp_cask (C : Nat → Nat → Int32) (g : Nat → Int32) (one what : Int32) : ag_kp C (cs_ask C g one what).2 := by
  unfold cs_ask
  split
  · exact ag_kp_r C
  split
  · show ag_kp C (ms_sc (mo_w C 18 0 0) _)
    unfold ms_sc
    split
    · exact ag_kp_mc (ag_kp_l (ag_kp_l (ag_kp_l (ag_kp_0 C)))) _
    split
    · exact ag_kp_nc (ag_kp_0 C) _
    · exact ag_kp_mc (ag_kp_l (ag_kp_l (ag_kp_0 C))) _
  · show ag_kp C (ms_kc (mo_w C 18 0 0) _)
    unfold ms_kc
    split
    · exact ag_kp_nc (ag_kp_l (ag_kp_l (ag_kp_0 C))) _
    · exact ag_kp_mc (ag_kp_0 C) _
section AGS
variable {C M : Nat → Nat → Int32} {n nr a : Nat}
theorem ag_s2 (hI : ag_I C M n nr a) {p q : sp_S} (h2 : ag_2 p q) (e0 : q.2 0 = M 0) (e1 : q.2 1 = M 1) (e2 : q.2 2 = M 2) (e12 : q.2 12 = M 12) (c1 : p.2 21 = C 21) (c2 : p.2 22 = C 22) (c3 : p.2 23 = C 23) (hZ : ag_Z q.2) (hT : ∃ t : Nat, t ≤ 100 ∧ q.2 9 0 = nI t) (hR : hs_tr q.2) : ag_st M n nr (p.1, p.2, M 0) q :=
  ⟨h2.1, ⟨a, ag_I_of hI h2.2 e0 (by rw [e1]) (by rw [e12]) c1 c2 c3 hZ hT hR⟩, fun j _ => by rw [e0], fun j _ _ => by rw [e0], e2⟩
theorem ag_Z_c {M M' : Nat → Nat → Int32} (e3 : M' 3 = M 3) (e4 : M' 4 = M 4) (h : ag_Z M) : ag_Z M' := by
  unfold ag_Z
  rw [e3, e4]
  exact h
theorem ag_s3 (hI : ag_I C M n nr a) {p q : sp_S} (h2 : ag_2 p q) (hM : ∀ k, k ≠ 5 → k ≠ 6 → k ≠ 7 → k ≠ 15 → k ≠ 16 → q.2 k = M k) (hC : ∀ k, 20 < k → p.2 k = C k) : ag_st M n nr (p.1, p.2, M 0) q := by
  obtain ⟨-, hZ, hT, hR, -⟩ := id hI
  refine ag_s2 hI h2 (hM 0 (by decide) (by decide) (by decide) (by decide) (by decide)) (hM 1 (by decide) (by decide) (by decide) (by decide) (by decide)) (hM 2 (by decide) (by decide) (by decide) (by decide) (by decide)) (hM 12 (by decide) (by decide) (by decide) (by decide) (by decide)) (hC 21 (by decide)) (hC 22 (by decide)) (hC 23 (by decide)) (ag_Z_c (hM 3 (by decide) (by decide) (by decide) (by decide) (by decide)) (hM 4 (by decide) (by decide) (by decide) (by decide) (by decide)) hZ) ?_ ?_
  · rw [hM 9 (by decide) (by decide) (by decide) (by decide) (by decide)]; exact hT
  · unfold hs_tr
    rw [hM 18 (by decide) (by decide) (by decide) (by decide) (by decide)]; exact hR
theorem ag_t_set (hI : ag_I C M n nr a) (row x v : Int32) : ag_st M n nr ((cs_set C row x v).1, (cs_set C row x v).2, M 0) (sp_set M row x v) := by
  refine ag_s3 hI (ag_set hI.1 hI.2.1 row x v) (fun k h5 h6 h7 h15 h16 => ?_) (fun k hk => ?_)
  · unfold sp_set sp_found sp_well
    repeat' split
    all_goals simp [mo_w, va_up, h5, h7]
  · unfold cs_set sp_found sp_well
    have h5 : k ≠ 5 := by omega
    have h7 : k ≠ 7 := by omega
    repeat' split
    all_goals simp [mo_w, va_up, h5, h7]
theorem ag_t_copy (hI : ag_I C M n nr a) (a0 x b y k0 : Int32) : ag_st M n nr ((cs_copy C a0 x b y k0).1, (cs_copy C a0 x b y k0).2, M 0) (sp_copy M a0 x b y k0) := by
  refine ag_s3 hI (ag_copy hI.1 hI.2.1 a0 x b y k0) (fun k h5 h6 h7 h15 h16 => ?_) (fun k hk => ?_)
  · unfold sp_copy sp_found sp_well
    repeat' split
    all_goals simp [mo_w, va_up, h5, h6, h7]
  · unfold cs_copy sp_found sp_well
    have h5 : k ≠ 5 := by omega
    have h7 : k ≠ 7 := by omega
    repeat' split
    all_goals simp [mo_w, va_up, h5, h7]
theorem ag_t_whoCut (hI : ag_I C M n nr a) (row x : Int32) : ag_st M n nr ((cs_whoCut C (M 0) n row x).1, (cs_whoCut C (M 0) n row x).2, M 0) (sp_whoCut M n nr row x) := by
  refine ag_s3 hI (ag_whoCut hI.1 hI.2.1 hI.2.2.2.2.2.2.1.1.2.1 (ag_I4 hI) row x) (fun k h5 h6 h7 h15 h16 => ?_) (fun k hk => ?_)
  · unfold sp_whoCut sp_found sp_well
    repeat' split
    all_goals simp [mo_w, va_up, h7]
  · unfold cs_whoCut sp_found sp_well
    have h7 : k ≠ 7 := by omega
    repeat' split
    all_goals simp [mo_w, va_up, h7]
theorem ag_t_reads (hI : ag_I C M n nr a) (a0 b row x what : Int32) : ag_st M n nr ((cs_reads C (M 0) n a0 b row x what).1, (cs_reads C (M 0) n a0 b row x what).2, M 0) (sp_reads M n a0 b row x what) := by
  refine ag_s3 hI (ag_reads hI.1 hI.2.1 a0 b row x what) (fun k h5 h6 h7 h15 h16 => ?_) (fun k hk => ?_)
  · unfold sp_reads sp_found sp_well
    by_cases c1 : hs_isSt (M 0) a0 = 0 ∨ hs_isSt (M 0) b = 0 ∨ a0 = b ∨ hs_row row = 0 ∨ hs_in what 0 1 = 0
    · rw [if_pos c1]
    rw [if_neg c1]
    by_cases c2 : 0 < hs_bars M row.toNatClampNeg x (M 0 3)
    · rw [if_pos c2]; exact va_up_ne _ _ h7
    · rw [if_neg c2]; exact va_up_ne _ _ h7
  · unfold cs_reads sp_found sp_well
    have h7 : k ≠ 7 := by omega
    by_cases c1 : hs_isSt (M 0) a0 = 0 ∨ hs_isSt (M 0) b = 0 ∨ a0 = b ∨ hs_row row = 0 ∨ hs_in what 0 1 = 0
    · rw [if_pos c1]
    rw [if_neg c1]
    by_cases c2 : ¬ mk_mis (C 3 row.toNatClampNeg) = 0
    · rw [if_pos c2]; exact va_up_ne _ _ h7
    rw [if_neg c2]
    by_cases c3 : mk_has (C 4 row.toNatClampNeg) x (M 0 3) = 0
    · rw [if_pos c3]; exact va_up_ne _ _ h7
    · rw [if_neg c3]; exact va_up_ne _ _ h7
theorem ag_t_as (hI : ag_I C M n nr a) (one kind : Int32) : ag_st M n nr ((cs_as C (M 0) one kind).1, (cs_as C (M 0) one kind).2, M 0) (sp_as M one kind) := by
  refine ag_s3 hI (ag_as hI.1 one kind) (fun k h5 h6 h7 h15 h16 => ?_) (fun k hk => ?_)
  · unfold sp_as sp_found sp_well
    repeat' split
    all_goals simp [mo_w, va_up, h7]
  · unfold cs_as sp_found sp_well
    have h7 : k ≠ 7 := by omega
    repeat' split
    all_goals simp [mo_w, va_up, h7]
theorem ag_t_unloaded (hI : ag_I C M n nr a) (k0 : Int32) : ag_st M n nr ((cs_unloaded C (M 0) n k0).1, (cs_unloaded C (M 0) n k0).2, M 0) (sp_unl M n k0) := by
  refine ag_s3 hI (ag_unloaded hI.1 hI.2.2.2.2.2.2.1.1.1 (ag_I4 hI) k0) (fun k h5 h6 h7 h15 h16 => ?_) (fun k hk => ?_)
  · unfold sp_unl
    by_cases c1 : M 0 4 = 0
    · rw [if_pos c1]
    rw [if_neg c1]
    by_cases c2 : hs_in k0 (-1) 5 = 0
    · rw [if_pos c2]
    rw [if_neg c2]
    show sp_lay M n k = M k
    unfold sp_lay
    rw [mo_w, va_up_ne _ _ h16, va_up_ne _ _ h15]
  · unfold cs_unloaded
    by_cases c1 : M 0 2 = 0
    · rw [if_pos c1]
    rw [if_neg c1]
    by_cases c2 : k0 < -1 ∨ ¬ k0 < 6
    · rw [if_pos c2]
    rw [if_neg c2]
    exact va_up_ne _ _ (by omega)
theorem ag_t_ask (hI : ag_I C M n nr a) (one what : Int32) : ag_st M n nr ((cs_ask C (M 0) one what).1, (cs_ask C (M 0) one what).2, M 0) (sp_ask M one what) := by
  obtain ⟨hE, hZ, hT, hR, -, -, hV, -⟩ := id hI
  obtain ⟨k1, k2⟩ := ag_kp_ask M one what
  obtain ⟨k3, -⟩ := ag_kp_cask C (M 0) one what
  exact ag_s2 hI (ag_ask hE hV.1.1 hV.1.2.1 one what) (k1 0 (by decide) (by decide)) (k1 1 (by decide) (by decide)) (k1 2 (by decide) (by decide)) (k1 12 (by decide) (by decide)) (k3 21 (by decide) (by decide)) (k3 22 (by decide) (by decide)) (k3 23 (by decide) (by decide)) (ag_Z_c (k1 3 (by decide) (by decide)) (k1 4 (by decide) (by decide)) hZ) (by rw [k1 9 (by decide) (by decide)]; exact hT) (k2 hR)
theorem ag_t_feed (hI : ag_I C M n nr a) (b : Int32) : ag_st M n nr ((cs_feed C b).1, (cs_feed C b).2, M 0) (sp_feed M b) := by
  obtain ⟨hE, hZ, ⟨t, ht1, ht⟩, hR, -, -, hV, -⟩ := id hI
  have k1 : ∀ k, k ≠ 8 → k ≠ 9 → (sp_feed M b).2 k = M k := by
    intro k h8 h9
    unfold sp_feed
    repeat' split
    all_goals simp [mo_w, va_up, h8, h9]
  have k3 : ∀ k, k ≠ 8 → k ≠ 9 → (cs_feed C b).2 k = C k := by
    intro k h8 h9
    unfold cs_feed
    repeat' split
    all_goals simp [mo_w, va_up, h8, h9]
  have hT : ∃ t : Nat, t ≤ 100 ∧ (sp_feed M b).2 9 0 = nI t := by
    unfold sp_feed
    by_cases c1 : hs_in b 0 255 = 0
    · rw [if_pos c1]; exact ⟨t, ht1, ht⟩
    rw [if_neg c1]
    by_cases c2 : M 9 0 = 100
    · rw [if_pos c2]; exact ⟨t, ht1, ht⟩
    rw [if_neg c2]
    have h100 : t ≠ 100 := fun z => c2 (by rw [ht, z]; rfl)
    refine ⟨t + 1, by omega, ?_⟩
    show mo_w (mo_w M 8 (M 9 0).toNatClampNeg b) 9 0 (M 9 0 + 1) 9 0 = _
    rw [mo_w, va_up_self, va_up_self, ht, nI_1]
  refine ag_s2 hI (ag_feed hE ht ht1 b) (k1 0 (by decide) (by decide)) (k1 1 (by decide) (by decide)) (k1 2 (by decide) (by decide)) (k1 12 (by decide) (by decide)) (k3 21 (by decide) (by decide)) (k3 22 (by decide) (by decide)) (k3 23 (by decide) (by decide)) (ag_Z_c (k1 3 (by decide) (by decide)) (k1 4 (by decide) (by decide)) hZ) hT ?_
  unfold hs_tr
  rw [k1 18 (by decide) (by decide)]; exact hR
theorem ag_t_drop (hI : ag_I C M n nr a) (row : Int32) : ag_st M n nr ((cs_drop C row).1, (cs_drop C row).2, M 0) (sp_drop M row) := by
  obtain ⟨hE, hZ, hT, hR, -, -, hV, -⟩ := id hI
  have k1 : ∀ k, k ≠ 3 → k ≠ 7 → (sp_drop M row).2 k = M k := by
    intro k h8 h9
    unfold sp_drop sp_found sp_well
    repeat' split
    all_goals simp [mo_w, va_up, h8, h9]
  have k3 : ∀ k, k ≠ 3 → k ≠ 7 → (cs_drop C row).2 k = C k := by
    intro k h8 h9
    unfold cs_drop sp_found sp_well
    repeat' split
    all_goals simp [mo_w, va_up, h8, h9]
  have hZ' : ag_Z (sp_drop M row).2 := by
    refine ⟨fun r hr => by rw [k1 4 (by decide) (by decide)]; exact hZ.1 r hr, fun r hr => ?_⟩
    unfold sp_drop
    by_cases c1 : hs_row row = 0
    · rw [if_pos c1]; exact hZ.2 r hr
    rw [if_neg c1]
    by_cases c2 : M 3 row.toNatClampNeg < 0
    · rw [if_pos c2]; exact hZ.2 r hr
    rw [if_neg c2]
    show va_up (M 3) row.toNatClampNeg (-1) r = -1 ∨ 0 ≤ va_up (M 3) row.toNatClampNeg (-1) r
    by_cases e : r = row.toNatClampNeg
    · rw [e, va_up_self]; exact Or.inl rfl
    · rw [va_up_ne _ _ e]; exact hZ.2 r hr
  refine ag_s2 hI (ag_drop hE hZ row) (k1 0 (by decide) (by decide)) (k1 1 (by decide) (by decide)) (k1 2 (by decide) (by decide)) (k1 12 (by decide) (by decide)) (k3 21 (by decide) (by decide)) (k3 22 (by decide) (by decide)) (k3 23 (by decide) (by decide)) hZ' (by rw [k1 9 (by decide) (by decide)]; exact hT) ?_
  unfold hs_tr
  rw [k1 18 (by decide) (by decide)]; exact hR
theorem ag_k_row (M : Nat → Nat → Int32) (row lane k0 : Int32) : ∀ k, k ≠ 3 → k ≠ 4 → k ≠ 5 → k ≠ 7 → (sp_row M row lane k0).2 k = M k := by
  intro k h3 h4 h5 h7
  unfold sp_row sp_found sp_well
  repeat' split
  all_goals simp [mo_w, va_up, h3, h4, h5, h7]
theorem ag_t_row (hI : ag_I C M n nr a) (row lane k0 : Int32) : ag_st M n nr ((sp_row C row lane k0).1, (sp_row C row lane k0).2, M 0) (sp_row M row lane k0) := by
  obtain ⟨hE, hZ, hT, hR, -, -, hV, -⟩ := id hI
  have k1 := ag_k_row M row lane k0
  have k3 := ag_k_row C row lane k0
  have hZ' : ag_Z (sp_row M row lane k0).2 := by
    unfold sp_row
    by_cases c1 : hs_row row = 0 ∨ hs_in lane 0 2 = 0 ∨ ¬ k0 ≤ 40
    · rw [if_pos c1]; exact hZ
    rw [if_neg c1]
    by_cases c2 : k0 < 0
    · rw [if_pos c2]; exact hZ
    rw [if_neg c2]
    obtain ⟨z, hz, ez⟩ := nI_of c2
    have hz40 : z ≤ 40 := by
      have h1 : k0 ≤ 40 := Classical.byContradiction (fun q => c1 (Or.inr (Or.inr q)))
      rw [ez, Int32.le_iff_toInt_le, nI_toInt (by omega)] at h1
      have : (40 : Int32).toInt = 40 := rfl
      omega
    have hl := hs_in_1 (fun q => c1 (Or.inr (Or.inl q)))
    have e3 : (sp_well (va_up (mo_w (mo_w M 3 row.toNatClampNeg lane) 4 row.toNatClampNeg k0) 5 (hs_zero (M 5) row.toNatClampNeg 40)) k0).2 3 = va_up (M 3) row.toNatClampNeg lane := rfl
    have e4 : (sp_well (va_up (mo_w (mo_w M 3 row.toNatClampNeg lane) 4 row.toNatClampNeg k0) 5 (hs_zero (M 5) row.toNatClampNeg 40)) k0).2 4 = va_up (M 4) row.toNatClampNeg k0 := rfl
    refine ⟨fun r hr => ?_, fun r hr => ?_⟩
    · rw [e4]
      by_cases e : r = row.toNatClampNeg
      · rw [e, va_up_self]; exact ⟨z, hz40, ez⟩
      · rw [va_up_ne _ _ e]; exact hZ.1 r hr
    · rw [e3]
      by_cases e : r = row.toNatClampNeg
      · rw [e, va_up_self]; exact Or.inr hl.1
      · rw [va_up_ne _ _ e]; exact hZ.2 r hr
  refine ag_s2 hI (ag_row hE row lane k0) (k1 0 (by decide) (by decide) (by decide) (by decide)) (k1 1 (by decide) (by decide) (by decide) (by decide)) (k1 2 (by decide) (by decide) (by decide) (by decide)) (k1 12 (by decide) (by decide) (by decide) (by decide)) (k3 21 (by decide) (by decide) (by decide) (by decide)) (k3 22 (by decide) (by decide) (by decide) (by decide)) (k3 23 (by decide) (by decide) (by decide) (by decide)) hZ' (by rw [k1 9 (by decide) (by decide) (by decide) (by decide)]; exact hT) ?_
  unfold hs_tr
  rw [k1 18 (by decide) (by decide) (by decide) (by decide)]; exact hR
theorem ag_t_q (hI : ag_I C M n nr a) {x y : Int32} (e : x = y) : ag_st M n nr (x, C, M 0) (y, M) := by
  subst e
  exact ag_st0 hI _
/-- wind: what is held may change, nothing else -/
theorem ag_t_wind (hI : ag_I C M n nr a) (hours seed rope : Int32) : ag_st M n nr (cq_wind (M 0) n nr hours seed rope, C, M 0) (sp_wind M n nr hours seed rope) := by
  obtain ⟨h1, h2⟩ := ag_wind (n := n) hI.2.2.2.2.2.2.1.1.2.1 (ag_I4 hI) hours seed rope
  have e : sp_wind M n nr hours seed rope = ((sp_wind M n nr hours seed rope).1, (sp_wind M n nr hours seed rope).2) := rfl
  rw [e, ← h1]
  rcases h2 with z | z
  · rw [z]; exact ag_st0 hI _
  · rw [z]
    obtain ⟨hE, hZ, hT, hR, -⟩ := id hI
    refine ag_mk (a := a) rfl (ag_I_of hI ?_ rfl rfl rfl rfl rfl rfl hZ hT hR) (fun _ _ => rfl) (fun _ _ _ => rfl) rfl
    exact ag_E_R hE (by unfold ag_key; omega) _
end AGS
